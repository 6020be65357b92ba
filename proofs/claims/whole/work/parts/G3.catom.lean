/-! the class: Parser: a dot, a plain byte, an escape -/
/-- the node of an atom stands -/
def At_ok (At : P_A) (τ : Nat → Int → Int) (m sm : Int) (β : Int → Int64) (τ2 : Nat → Int → Int) (sm2 : Int) (β2 : Int → Int64) : Prop := match At with
  | .inl k => τ2 = T_nn τ m (k + 2) 1 ∧ sm2 = sm ∧ ∀ d j, 0 ≤ d → d < sm → 0 ≤ j → j ≤ 255 → (T_has β2 d j ↔ T_has β d j)
  | .inr B => τ2 = T_nb τ m sm ∧ sm2 = sm + 1 ∧ (∀ d j, 0 ≤ d → d < sm → 0 ≤ j → j ≤ 255 → (T_has β2 d j ↔ T_has β d j)) ∧ ∀ j, 0 ≤ j → j ≤ 255 → (T_has β2 sm j ↔ B j)
theorem At_ok.set {B : Int → Prop} {τ : Nat → Int → Int} {m sm : Int} {β : Int → Int64} {τ2 : Nat → Int → Int} {sm2 : Int} {β2 : Int → Int64} (h1 : τ2 = T_nb τ m sm) (h2 : sm2 = sm + 1) (h3 : ∀ d j, 0 ≤ d → d < sm → 0 ≤ j → j ≤ 255 → (T_has β2 d j ↔ T_has β d j)) (h4 : ∀ j, 0 ≤ j → j ≤ 255 → (T_has β2 sm j ↔ B j)) : At_ok (.inr B) τ m sm β τ2 sm2 β2 := ⟨h1, h2, h3, h4⟩
theorem At_ok.op {k : Int} {τ : Nat → Int → Int} {m sm : Int} {β : Int → Int64} {τ2 : Nat → Int → Int} {sm2 : Int} {β2 : Int → Int64} (h1 : τ2 = T_nn τ m (k + 2) 1) (h2 : sm2 = sm) (h3 : ∀ d j, 0 ≤ d → d < sm → 0 ≤ j → j ≤ 255 → (T_has β2 d j ↔ T_has β d j)) : At_ok (.inl k) τ m sm β τ2 sm2 β2 := ⟨h1, h2, h3⟩
theorem D_fd_congr {A B : Int → Prop} (h : ∀ l, 0 ≤ l → l ≤ 255 → (A l ↔ B l)) (x : Int) : D_fd A 123 x ↔ D_fd B 123 x := by
  constructor
  · rintro ⟨l, h1, h2, h3, h4, h5⟩
    exact ⟨l, h1, h2, h3, h4.imp (h l (by omega) (by omega)).mp (h (l - 32) (by omega) (by omega)).mp, h5⟩
  · rintro ⟨l, h1, h2, h3, h4, h5⟩
    exact ⟨l, h1, h2, h3, h4.imp (h l (by omega) (by omega)).mpr (h (l - 32) (by omega) (by omega)).mpr, h5⟩
theorem C_dot (d : Nat) {s : C_S} {p : List Nat} {o tr src N : Nat} {S : Int → Int} {nn fo pl a : Int} {A : Nat → Nat} {m sm : Int} {τ : Nat → Int → Int} {β : Int → Int64} (hp : D_P0 s p o tr src N S nn fo 0 pl a) (hd : D_Tr s (p ++ [tr]) tr A m sm τ β) (hz : T_zb τ) (a0 : 0 ≤ a) (an : a < nn) (hm : m < 168) (hs8 : sm < 80) (hS : S a = 46) : C_ok (d + 5) 43 [.ref o] s (fun x s2 n => n = 0 ∧ D_Pf p s s2 ∧ ∃ (f2 pl2 a2 m2 sm2 i : Int) (τ2 : Nat → Int → Int) (β2 : Int → Int64), x = some (.int (Zi i)) ∧ -1 ≤ i ∧ i < 168 ∧ D_P0 s2 p o tr src N S nn fo f2 pl2 a2 ∧ D_Tr s2 (p ++ [tr]) tr A m2 sm2 τ2 β2 ∧ T_zb τ2 ∧ a ≤ a2 ∧ a2 ≤ nn + 5 ∧ P_say (P_atom S (fo ≠ 0) a) f2 pl2 (fun At b => a2 = b ∧ b ≤ nn ∧ a < b ∧ i = m ∧ m2 = m + 1 ∧ At_ok At τ m sm β τ2 sm2 β2)) := by
  refine C_enter (M := E_m43) rfl (Nat.le_of_ble_eq_true rfl) (fun h0 h hs => ?_)
  show B_R (d + 4) _ (0, [(0, .ref o)], []) _ _ _
  have hpz := hp.z hs
  have za := hpz.2.2.1
  have zn := hpz.2.2.2.1
  have zfo := hpz.2.2.2.2
  have nn0 := hp.2.2.2.2.1
  have nn1 := hp.2.2.2.2.2
  have hne := hp.ne hd
  have hm0 := hd.1.2.2.2.2.1
  have hm1 := hd.1.2.2.2.2.2.1
  have hsm0 := hd.1.2.2.2.2.2.2.1
  have hsm1 := hd.1.2.2.2.2.2.2.2
  have hra := hp.r a a0
  have hrb := hp.r (a + 1) (by omega)
  refine Z_go (f2 := (1, [(0, .ref o)], [.ref o])) (fun _ => rfl) ?_
  refine Z_go (f2 := (2, [(0, .ref o)], [.ref o, .ref o])) (fun _ => rfl) ?_
  refine C_gi rfl hs hp.1.1 (by decide) (Nat.le_of_ble_eq_true rfl) rfl ?_
  rw [show C_F (s) o 5 = a from (by first | exact hp.1.2.2.2.2.2.2.2.2.2.1 | exact (if_neg (fun e => absurd e.1 (by assumption))).trans hp.1.2.2.2.2.2.2.2.2.2.1 | exact (if_neg (fun e => absurd e.2 (by decide))).trans hp.1.2.2.2.2.2.2.2.2.2.1 | exact (if_neg (fun e => absurd e.2 (by decide))).trans ((if_neg (fun e => absurd e.2 (by decide))).trans hp.1.2.2.2.2.2.2.2.2.2.1) | exact (if_neg (fun e => absurd e.2 (by decide))).trans ((if_neg (fun e => absurd e.2 (by decide))).trans ((if_neg (fun e => absurd e.2 (by decide))).trans hp.1.2.2.2.2.2.2.2.2.2.1)))]
  show B_R _ _ (5, [(0, .ref o)], [.int (Zi a), .ref o]) _ _ _
  refine Z_go (f2 := (6, [(0, .ref o)], [.int (Zi 1), .int (Zi a), .ref o])) (fun _ => rfl) ?_
  refine Z_iadd rfl ?_
  refine C_pi rfl hs hp.1.1 (by decide) (Nat.le_of_ble_eq_true rfl) (.inl rfl) rfl rfl rfl (by first | exact hs.zF _ _ | exact Zor_r _ _ | exact hs.zA _ _ | assumption | exact zA _ _ | exact zS _ | exact Zr_not (hs.zA _ _) | exact hs.1.1 _ _ | exact ⟨by omega, by omega⟩) (fun h hs => ?_)
  refine Z_go (f2 := (11, [(0, .ref o)], [.ref o])) (fun _ => rfl) ?_
  refine C_gr rfl hs hp.1.1 (by decide) (Nat.le_of_ble_eq_true rfl) rfl hp.1.2.2.1 ?_
  have wf135 := hs.1
  refine C_callV (As := []) (rest := []) rfl (by decide) rfl (by decide) rfl rfl (by decide +kernel) (Nat.le_of_ble_eq_true rfl) hs hd.1.1 (C_newSet _ (hd.oF hne)) (fun x h v135 n135 hs q => ?_)
  obtain ⟨rfl, fr135, en135, sm135, β135, c135, rfl, ca135, cb135, hd135, hb135, hc135⟩ := q
  have zc135 : Zr c135 := ⟨by omega, by omega⟩
  have hp135 := (hp.aa (a + 1)).sub wf135 fr135
  have pf135 := ((D_Pf.refl p s).sF hp.1.2.1).on fr135 en135
  have hne := hp135.ne hd135
  show B_R _ _ (17, [(0, .ref o)], [.int (Zi c135)]) _ _ _
  refine Z_go (f2 := (18, [(1, .int (Zi c135)), (0, .ref o)], [])) (fun _ => rfl) ?_
  refine Z_go (f2 := (19, [(1, .int (Zi c135)), (0, .ref o)], [.ref o])) (fun _ => rfl) ?_
  refine C_gr rfl hs hp135.1.1 (by decide) (Nat.le_of_ble_eq_true rfl) rfl hp135.1.2.2.1 ?_
  refine Z_go (f2 := (23, [(1, .int (Zi c135)), (0, .ref o)], [.int (Zi c135), .ref tr])) (fun _ => rfl) ?_
  refine Z_go (f2 := (25, [(1, .int (Zi c135)), (0, .ref o)], [.int (Zi 10), .int (Zi c135), .ref tr])) (fun _ => rfl) ?_
  have wf136 := hs.1
  refine C_callV (As := [.int (Zi c135), .int (Zi 10)]) (rest := []) rfl (by decide) rfl (by decide) rfl rfl (by decide +kernel) (Nat.le_of_ble_eq_true rfl) hs hd135.1.1 (C_incl _ hd135 (c := c135) (k := 10) (by first | exact hs.zF _ _ | exact Zor_r _ _ | exact hs.zA _ _ | assumption | exact zA _ _ | exact zS _ | exact Zr_not (hs.zA _ _) | exact hs.1.1 _ _ | exact ⟨by omega, by omega⟩) (by omega) (by omega)) (fun x h v136 n136 hs q => ?_)
  obtain ⟨rfl, rfl, fr136, en136, β136, hd136, hb136⟩ := q
  have hp136 := hp135.sub wf136 fr136
  have pf136 := pf135.on fr136 en136
  have hne := hp136.ne hd136
  show B_R _ _ (28, [(1, .int (Zi c135)), (0, .ref o)], []) _ _ _
  refine Z_go (f2 := (29, [(1, .int (Zi c135)), (0, .ref o)], [.ref o])) (fun _ => rfl) ?_
  refine C_gr rfl hs hp136.1.1 (by decide) (Nat.le_of_ble_eq_true rfl) rfl hp136.1.2.2.1 ?_
  refine Z_go (f2 := (33, [(1, .int (Zi c135)), (0, .ref o)], [.int (Zi c135), .ref tr])) (fun _ => rfl) ?_
  have wf137 := hs.1
  refine C_callV (As := [.int (Zi c135)]) (rest := []) rfl (by decide) rfl (by decide) rfl rfl (by decide +kernel) (Nat.le_of_ble_eq_true rfl) hs hd136.1.1 (C_inv _ hd136 (c := c135) (by omega) (by omega)) (fun x h v137 n137 hs q => ?_)
  obtain ⟨rfl, rfl, fr137, en137, β137, hd137, hb137⟩ := q
  have hp137 := hp136.sub wf137 fr137
  have pf137 := pf136.on fr137 en137
  have hne := hp137.ne hd137
  show B_R _ _ (36, [(1, .int (Zi c135)), (0, .ref o)], []) _ _ _
  refine Z_go (f2 := (37, [(1, .int (Zi c135)), (0, .ref o)], [.ref o])) (fun _ => rfl) ?_
  refine C_gr rfl hs hp137.1.1 (by decide) (Nat.le_of_ble_eq_true rfl) rfl hp137.1.2.2.1 ?_
  refine Z_go (f2 := (41, [(1, .int (Zi c135)), (0, .ref o)], [.int (Zi c135), .ref tr])) (fun _ => rfl) ?_
  have wf138 := hs.1
  refine C_callV (As := [.int (Zi c135)]) (rest := []) rfl (by decide) rfl (by decide) rfl rfl (by decide +kernel) (Nat.le_of_ble_eq_true rfl) hs hd137.1.1 (C_newByt _ hd137 hz (a := c135) (by first | exact hs.zF _ _ | exact Zor_r _ _ | exact hs.zA _ _ | assumption | exact zA _ _ | exact zS _ | exact Zr_not (hs.zA _ _) | exact hs.1.1 _ _ | exact ⟨by omega, by omega⟩)) (fun x h v138 n138 hs q => ?_)
  obtain ⟨rfl, fr138, en138, m138, τ138, i138, rfl, ia138, ib138, hd138, hz138, hn138⟩ := q
  have zi138 : Zr i138 := ⟨by omega, by omega⟩
  have hp138 := hp137.sub wf138 fr138
  have pf138 := pf137.on fr138 en138
  have hne := hp138.ne hd138
  show B_R _ _ (44, [(1, .int (Zi c135)), (0, .ref o)], [.int (Zi i138)]) _ _ _
  refine Z_iret rfl rfl (by first | rfl | decide | exact narrow_b01 (by omega)) ⟨_, hs, ?_⟩
  try dsimp only
  obtain ⟨ec, es⟩ := hc135 hs8
  obtain ⟨e1, e2, e3⟩ := hn138 hm
  refine ⟨rfl, pf138, _, _, _, _, _, i138, _, _, rfl, by omega, by omega, hp138, hd138, hz138, by omega, by omega, ?_⟩
  refine P_say.ok (v := .inr (fun x => x ≠ 10)) (b := a + 1) ?_ ⟨by omega, by omega, by omega, e1, e2, At_ok.set (by rw [e3, ec]) es (fun d j d0 d1 j0 j1 => by
      have e : ¬ d = c135 := by omega
      rw [hb137 _ _ (by omega) j0 j1, hb136, hb135]
      simp [e]) ?_⟩
  · unfold P_atom
    rw [if_neg (by omega), if_neg (by omega), if_neg (by omega), if_neg (by omega), if_pos hS]
  · intro j j0 j1
    have ej : ¬ T_has β135 sm j := fun h => by rw [hb135] at h; exact h.2 ec.symm
    rw [hb137 _ _ (by omega) j0 j1, hb136]
    rw [ec]
    simp [ej]
    exact ⟨fun h e => by have := h e; omega, fun h e => absurd e h⟩
theorem C_plain (d : Nat) {s : C_S} {p : List Nat} {o tr src N : Nat} {S : Int → Int} {nn fo pl a : Int} {A : Nat → Nat} {m sm : Int} {τ : Nat → Int → Int} {β : Int → Int64} (hp : D_P0 s p o tr src N S nn fo 0 pl a) (hd : D_Tr s (p ++ [tr]) tr A m sm τ β) (hz : T_zb τ) (a0 : 0 ≤ a) (an : a < nn) (hm : m < 168) (hs8 : sm < 80) (n1 : S a ≠ 94) (n2 : S a ≠ 36) (n3 : S a ≠ 91) (n4 : S a ≠ 92) (n5 : S a ≠ 46) (n6 : S a ≠ 40) : C_ok (d + 5) 44 [.ref o, .int (Zi ((S a)))] s (fun x s2 n => n = 0 ∧ D_Pf p s s2 ∧ ∃ (f2 pl2 a2 m2 sm2 i : Int) (τ2 : Nat → Int → Int) (β2 : Int → Int64), x = some (.int (Zi i)) ∧ -1 ≤ i ∧ i < 168 ∧ D_P0 s2 p o tr src N S nn fo f2 pl2 a2 ∧ D_Tr s2 (p ++ [tr]) tr A m2 sm2 τ2 β2 ∧ T_zb τ2 ∧ a ≤ a2 ∧ a2 ≤ nn + 5 ∧ P_say (P_atom S (fo ≠ 0) a) f2 pl2 (fun At b => a2 = b ∧ b ≤ nn ∧ a < b ∧ i = m ∧ m2 = m + 1 ∧ At_ok At τ m sm β τ2 sm2 β2)) := by
  refine C_enter (M := E_m44) rfl (Nat.le_of_ble_eq_true rfl) (fun h0 h hs => ?_)
  show B_R (d + 4) _ (0, [(0, .ref o), (1, .int (Zi ((S a))))], []) _ _ _
  have hpz := hp.z hs
  have za := hpz.2.2.1
  have zn := hpz.2.2.2.1
  have zfo := hpz.2.2.2.2
  have nn0 := hp.2.2.2.2.1
  have nn1 := hp.2.2.2.2.2
  have hne := hp.ne hd
  have hm0 := hd.1.2.2.2.2.1
  have hm1 := hd.1.2.2.2.2.2.1
  have hsm0 := hd.1.2.2.2.2.2.2.1
  have hsm1 := hd.1.2.2.2.2.2.2.2
  have hra := hp.r a a0
  have hrb := hp.r (a + 1) (by omega)
  refine Z_go (f2 := (1, [(0, .ref o), (1, .int (Zi ((S a))))], [.int (Zi ((S a)))])) (fun _ => rfl) ?_
  refine Z_go (f2 := (3, [(0, .ref o), (1, .int (Zi ((S a))))], [.int (Zi 124), .int (Zi ((S a)))])) (fun _ => rfl) ?_
  refine Z_ceq rfl rfl (by first | exact hs.zF _ _ | exact Zor_r _ _ | exact hs.zA _ _ | assumption | exact zA _ _ | exact zS _ | exact Zr_not (hs.zA _ _) | exact hs.1.1 _ _ | exact ⟨by omega, by omega⟩) (by first | exact hs.zF _ _ | exact Zor_r _ _ | exact hs.zA _ _ | assumption | exact zA _ _ | exact zS _ | exact Zr_not (hs.zA _ _) | exact hs.1.1 _ _ | exact ⟨by omega, by omega⟩) (fun c1 => ?_) (fun c1 => ?_)
  · refine Z_go (f2 := (49, [(0, .ref o), (1, .int (Zi ((S a))))], [.int (Zi 1)])) (fun _ => rfl) ?_
    refine Z_go (f2 := (53, [(0, .ref o), (1, .int (Zi ((S a))))], [.int (Zi 1)])) (fun _ => rfl) ?_
    refine Z_go (f2 := (54, [(2, .int (Zi 1)), (0, .ref o), (1, .int (Zi ((S a))))], [])) (fun _ => rfl) ?_
    refine Z_go (f2 := (55, [(2, .int (Zi 1)), (0, .ref o), (1, .int (Zi ((S a))))], [.int (Zi 1)])) (fun _ => rfl) ?_
    refine Z_ine rfl rfl (by first | exact hs.zF _ _ | exact Zor_r _ _ | exact hs.zA _ _ | assumption | exact zA _ _ | exact zS _ | exact Zr_not (hs.zA _ _) | exact hs.1.1 _ _ | exact ⟨by omega, by omega⟩) (fun c2 => ?_) (fun c2 => ?_)
    · refine Z_go (f2 := (71, [(2, .int (Zi 1)), (0, .ref o), (1, .int (Zi ((S a))))], [.ref o])) (fun _ => rfl) ?_
      refine Z_go (f2 := (72, [(2, .int (Zi 1)), (0, .ref o), (1, .int (Zi ((S a))))], [.int (Zi 1), .ref o])) (fun _ => rfl) ?_
      refine Z_go (f2 := (73, [(2, .int (Zi 1)), (0, .ref o), (1, .int (Zi ((S a))))], [.ref o, .int (Zi 1), .ref o])) (fun _ => rfl) ?_
      refine C_gi rfl hs hp.1.1 (by decide) (Nat.le_of_ble_eq_true rfl) rfl ?_
      rw [show C_F (s) o 5 = a from (by first | exact hp.1.2.2.2.2.2.2.2.2.2.1 | exact (if_neg (fun e => absurd e.1 (by assumption))).trans hp.1.2.2.2.2.2.2.2.2.2.1 | exact (if_neg (fun e => absurd e.2 (by decide))).trans hp.1.2.2.2.2.2.2.2.2.2.1 | exact (if_neg (fun e => absurd e.2 (by decide))).trans ((if_neg (fun e => absurd e.2 (by decide))).trans hp.1.2.2.2.2.2.2.2.2.2.1) | exact (if_neg (fun e => absurd e.2 (by decide))).trans ((if_neg (fun e => absurd e.2 (by decide))).trans ((if_neg (fun e => absurd e.2 (by decide))).trans hp.1.2.2.2.2.2.2.2.2.2.1)))]
      show B_R _ _ (76, [(2, .int (Zi 1)), (0, .ref o), (1, .int (Zi ((S a))))], [.int (Zi a), .int (Zi 1), .ref o]) _ _ _
      refine C_callV (As := [.int (Zi 1), .int (Zi a)]) (rest := []) rfl (by decide) rfl (by decide) rfl rfl (by decide +kernel) (Nat.le_of_ble_eq_true rfl) hs hp.1.1 (C_fail0 _ hp (kd := 1) (wh := a) (by first | exact hs.zF _ _ | exact Zor_r _ _ | exact hs.zA _ _ | assumption | exact zA _ _ | exact zS _ | exact Zr_not (hs.zA _ _) | exact hs.1.1 _ _ | exact ⟨by omega, by omega⟩) (by first | exact hs.zF _ _ | exact Zor_r _ _ | exact hs.zA _ _ | assumption | exact zA _ _ | exact zS _ | exact Zr_not (hs.zA _ _) | exact hs.1.1 _ _ | exact ⟨by omega, by omega⟩)) (fun x h uf nf hs q => ?_)
      obtain ⟨rfl, rfl, rfl⟩ := q
      show B_R _ _ (79, [(2, .int (Zi 1)), (0, .ref o), (1, .int (Zi ((S a))))], []) _ _ _
      refine Z_go (f2 := (80, [(2, .int (Zi 1)), (0, .ref o), (1, .int (Zi ((S a))))], [.int (Zi (-1))])) (fun _ => rfl) ?_
      refine Z_iret rfl rfl (by first | rfl | decide | exact narrow_b01 (by omega)) ⟨_, hs, ?_⟩
      try dsimp only
      first
      | (exfalso; omega)
      | (refine ⟨rfl, (((D_Pf.refl p s).sF hp.1.2.1).sF hp.1.2.1), _, _, _, m, sm, -1, _, _, rfl, by omega, by omega, ((hp.ff 1 (by decide)).pp a (by decide)), ((hd.oF hne).oF hne), hz, by omega, by omega, ?_⟩
         refine P_say.no ?_ (by omega)
         unfold P_atom
         rw [if_neg n1, if_neg n2, if_neg n3, if_neg n4, if_neg n5, if_neg (by omega)])
    · exfalso; omega
  · refine Z_go (f2 := (7, [(0, .ref o), (1, .int (Zi ((S a))))], [.int (Zi ((S a)))])) (fun _ => rfl) ?_
    refine Z_go (f2 := (9, [(0, .ref o), (1, .int (Zi ((S a))))], [.int (Zi 42), .int (Zi ((S a)))])) (fun _ => rfl) ?_
    refine Z_ceq rfl rfl (by first | exact hs.zF _ _ | exact Zor_r _ _ | exact hs.zA _ _ | assumption | exact zA _ _ | exact zS _ | exact Zr_not (hs.zA _ _) | exact hs.1.1 _ _ | exact ⟨by omega, by omega⟩) (by first | exact hs.zF _ _ | exact Zor_r _ _ | exact hs.zA _ _ | assumption | exact zA _ _ | exact zS _ | exact Zr_not (hs.zA _ _) | exact hs.1.1 _ _ | exact ⟨by omega, by omega⟩) (fun c3 => ?_) (fun c3 => ?_)
    · refine Z_go (f2 := (49, [(0, .ref o), (1, .int (Zi ((S a))))], [.int (Zi 1)])) (fun _ => rfl) ?_
      refine Z_go (f2 := (53, [(0, .ref o), (1, .int (Zi ((S a))))], [.int (Zi 1)])) (fun _ => rfl) ?_
      refine Z_go (f2 := (54, [(2, .int (Zi 1)), (0, .ref o), (1, .int (Zi ((S a))))], [])) (fun _ => rfl) ?_
      refine Z_go (f2 := (55, [(2, .int (Zi 1)), (0, .ref o), (1, .int (Zi ((S a))))], [.int (Zi 1)])) (fun _ => rfl) ?_
      refine Z_ine rfl rfl (by first | exact hs.zF _ _ | exact Zor_r _ _ | exact hs.zA _ _ | assumption | exact zA _ _ | exact zS _ | exact Zr_not (hs.zA _ _) | exact hs.1.1 _ _ | exact ⟨by omega, by omega⟩) (fun c4 => ?_) (fun c4 => ?_)
      · refine Z_go (f2 := (71, [(2, .int (Zi 1)), (0, .ref o), (1, .int (Zi ((S a))))], [.ref o])) (fun _ => rfl) ?_
        refine Z_go (f2 := (72, [(2, .int (Zi 1)), (0, .ref o), (1, .int (Zi ((S a))))], [.int (Zi 1), .ref o])) (fun _ => rfl) ?_
        refine Z_go (f2 := (73, [(2, .int (Zi 1)), (0, .ref o), (1, .int (Zi ((S a))))], [.ref o, .int (Zi 1), .ref o])) (fun _ => rfl) ?_
        refine C_gi rfl hs hp.1.1 (by decide) (Nat.le_of_ble_eq_true rfl) rfl ?_
        rw [show C_F (s) o 5 = a from (by first | exact hp.1.2.2.2.2.2.2.2.2.2.1 | exact (if_neg (fun e => absurd e.1 (by assumption))).trans hp.1.2.2.2.2.2.2.2.2.2.1 | exact (if_neg (fun e => absurd e.2 (by decide))).trans hp.1.2.2.2.2.2.2.2.2.2.1 | exact (if_neg (fun e => absurd e.2 (by decide))).trans ((if_neg (fun e => absurd e.2 (by decide))).trans hp.1.2.2.2.2.2.2.2.2.2.1) | exact (if_neg (fun e => absurd e.2 (by decide))).trans ((if_neg (fun e => absurd e.2 (by decide))).trans ((if_neg (fun e => absurd e.2 (by decide))).trans hp.1.2.2.2.2.2.2.2.2.2.1)))]
        show B_R _ _ (76, [(2, .int (Zi 1)), (0, .ref o), (1, .int (Zi ((S a))))], [.int (Zi a), .int (Zi 1), .ref o]) _ _ _
        refine C_callV (As := [.int (Zi 1), .int (Zi a)]) (rest := []) rfl (by decide) rfl (by decide) rfl rfl (by decide +kernel) (Nat.le_of_ble_eq_true rfl) hs hp.1.1 (C_fail0 _ hp (kd := 1) (wh := a) (by first | exact hs.zF _ _ | exact Zor_r _ _ | exact hs.zA _ _ | assumption | exact zA _ _ | exact zS _ | exact Zr_not (hs.zA _ _) | exact hs.1.1 _ _ | exact ⟨by omega, by omega⟩) (by first | exact hs.zF _ _ | exact Zor_r _ _ | exact hs.zA _ _ | assumption | exact zA _ _ | exact zS _ | exact Zr_not (hs.zA _ _) | exact hs.1.1 _ _ | exact ⟨by omega, by omega⟩)) (fun x h uf nf hs q => ?_)
        obtain ⟨rfl, rfl, rfl⟩ := q
        show B_R _ _ (79, [(2, .int (Zi 1)), (0, .ref o), (1, .int (Zi ((S a))))], []) _ _ _
        refine Z_go (f2 := (80, [(2, .int (Zi 1)), (0, .ref o), (1, .int (Zi ((S a))))], [.int (Zi (-1))])) (fun _ => rfl) ?_
        refine Z_iret rfl rfl (by first | rfl | decide | exact narrow_b01 (by omega)) ⟨_, hs, ?_⟩
        try dsimp only
        first
        | (exfalso; omega)
        | (refine ⟨rfl, (((D_Pf.refl p s).sF hp.1.2.1).sF hp.1.2.1), _, _, _, m, sm, -1, _, _, rfl, by omega, by omega, ((hp.ff 1 (by decide)).pp a (by decide)), ((hd.oF hne).oF hne), hz, by omega, by omega, ?_⟩
           refine P_say.no ?_ (by omega)
           unfold P_atom
           rw [if_neg n1, if_neg n2, if_neg n3, if_neg n4, if_neg n5, if_neg (by omega)])
      · exfalso; omega
    · refine Z_go (f2 := (13, [(0, .ref o), (1, .int (Zi ((S a))))], [.int (Zi ((S a)))])) (fun _ => rfl) ?_
      refine Z_go (f2 := (15, [(0, .ref o), (1, .int (Zi ((S a))))], [.int (Zi 43), .int (Zi ((S a)))])) (fun _ => rfl) ?_
      refine Z_ceq rfl rfl (by first | exact hs.zF _ _ | exact Zor_r _ _ | exact hs.zA _ _ | assumption | exact zA _ _ | exact zS _ | exact Zr_not (hs.zA _ _) | exact hs.1.1 _ _ | exact ⟨by omega, by omega⟩) (by first | exact hs.zF _ _ | exact Zor_r _ _ | exact hs.zA _ _ | assumption | exact zA _ _ | exact zS _ | exact Zr_not (hs.zA _ _) | exact hs.1.1 _ _ | exact ⟨by omega, by omega⟩) (fun c5 => ?_) (fun c5 => ?_)
      · refine Z_go (f2 := (49, [(0, .ref o), (1, .int (Zi ((S a))))], [.int (Zi 1)])) (fun _ => rfl) ?_
        refine Z_go (f2 := (53, [(0, .ref o), (1, .int (Zi ((S a))))], [.int (Zi 1)])) (fun _ => rfl) ?_
        refine Z_go (f2 := (54, [(2, .int (Zi 1)), (0, .ref o), (1, .int (Zi ((S a))))], [])) (fun _ => rfl) ?_
        refine Z_go (f2 := (55, [(2, .int (Zi 1)), (0, .ref o), (1, .int (Zi ((S a))))], [.int (Zi 1)])) (fun _ => rfl) ?_
        refine Z_ine rfl rfl (by first | exact hs.zF _ _ | exact Zor_r _ _ | exact hs.zA _ _ | assumption | exact zA _ _ | exact zS _ | exact Zr_not (hs.zA _ _) | exact hs.1.1 _ _ | exact ⟨by omega, by omega⟩) (fun c6 => ?_) (fun c6 => ?_)
        · refine Z_go (f2 := (71, [(2, .int (Zi 1)), (0, .ref o), (1, .int (Zi ((S a))))], [.ref o])) (fun _ => rfl) ?_
          refine Z_go (f2 := (72, [(2, .int (Zi 1)), (0, .ref o), (1, .int (Zi ((S a))))], [.int (Zi 1), .ref o])) (fun _ => rfl) ?_
          refine Z_go (f2 := (73, [(2, .int (Zi 1)), (0, .ref o), (1, .int (Zi ((S a))))], [.ref o, .int (Zi 1), .ref o])) (fun _ => rfl) ?_
          refine C_gi rfl hs hp.1.1 (by decide) (Nat.le_of_ble_eq_true rfl) rfl ?_
          rw [show C_F (s) o 5 = a from (by first | exact hp.1.2.2.2.2.2.2.2.2.2.1 | exact (if_neg (fun e => absurd e.1 (by assumption))).trans hp.1.2.2.2.2.2.2.2.2.2.1 | exact (if_neg (fun e => absurd e.2 (by decide))).trans hp.1.2.2.2.2.2.2.2.2.2.1 | exact (if_neg (fun e => absurd e.2 (by decide))).trans ((if_neg (fun e => absurd e.2 (by decide))).trans hp.1.2.2.2.2.2.2.2.2.2.1) | exact (if_neg (fun e => absurd e.2 (by decide))).trans ((if_neg (fun e => absurd e.2 (by decide))).trans ((if_neg (fun e => absurd e.2 (by decide))).trans hp.1.2.2.2.2.2.2.2.2.2.1)))]
          show B_R _ _ (76, [(2, .int (Zi 1)), (0, .ref o), (1, .int (Zi ((S a))))], [.int (Zi a), .int (Zi 1), .ref o]) _ _ _
          refine C_callV (As := [.int (Zi 1), .int (Zi a)]) (rest := []) rfl (by decide) rfl (by decide) rfl rfl (by decide +kernel) (Nat.le_of_ble_eq_true rfl) hs hp.1.1 (C_fail0 _ hp (kd := 1) (wh := a) (by first | exact hs.zF _ _ | exact Zor_r _ _ | exact hs.zA _ _ | assumption | exact zA _ _ | exact zS _ | exact Zr_not (hs.zA _ _) | exact hs.1.1 _ _ | exact ⟨by omega, by omega⟩) (by first | exact hs.zF _ _ | exact Zor_r _ _ | exact hs.zA _ _ | assumption | exact zA _ _ | exact zS _ | exact Zr_not (hs.zA _ _) | exact hs.1.1 _ _ | exact ⟨by omega, by omega⟩)) (fun x h uf nf hs q => ?_)
          obtain ⟨rfl, rfl, rfl⟩ := q
          show B_R _ _ (79, [(2, .int (Zi 1)), (0, .ref o), (1, .int (Zi ((S a))))], []) _ _ _
          refine Z_go (f2 := (80, [(2, .int (Zi 1)), (0, .ref o), (1, .int (Zi ((S a))))], [.int (Zi (-1))])) (fun _ => rfl) ?_
          refine Z_iret rfl rfl (by first | rfl | decide | exact narrow_b01 (by omega)) ⟨_, hs, ?_⟩
          try dsimp only
          first
          | (exfalso; omega)
          | (refine ⟨rfl, (((D_Pf.refl p s).sF hp.1.2.1).sF hp.1.2.1), _, _, _, m, sm, -1, _, _, rfl, by omega, by omega, ((hp.ff 1 (by decide)).pp a (by decide)), ((hd.oF hne).oF hne), hz, by omega, by omega, ?_⟩
             refine P_say.no ?_ (by omega)
             unfold P_atom
             rw [if_neg n1, if_neg n2, if_neg n3, if_neg n4, if_neg n5, if_neg (by omega)])
        · exfalso; omega
      · refine Z_go (f2 := (19, [(0, .ref o), (1, .int (Zi ((S a))))], [.int (Zi ((S a)))])) (fun _ => rfl) ?_
        refine Z_go (f2 := (21, [(0, .ref o), (1, .int (Zi ((S a))))], [.int (Zi 63), .int (Zi ((S a)))])) (fun _ => rfl) ?_
        refine Z_ceq rfl rfl (by first | exact hs.zF _ _ | exact Zor_r _ _ | exact hs.zA _ _ | assumption | exact zA _ _ | exact zS _ | exact Zr_not (hs.zA _ _) | exact hs.1.1 _ _ | exact ⟨by omega, by omega⟩) (by first | exact hs.zF _ _ | exact Zor_r _ _ | exact hs.zA _ _ | assumption | exact zA _ _ | exact zS _ | exact Zr_not (hs.zA _ _) | exact hs.1.1 _ _ | exact ⟨by omega, by omega⟩) (fun c7 => ?_) (fun c7 => ?_)
        · refine Z_go (f2 := (49, [(0, .ref o), (1, .int (Zi ((S a))))], [.int (Zi 1)])) (fun _ => rfl) ?_
          refine Z_go (f2 := (53, [(0, .ref o), (1, .int (Zi ((S a))))], [.int (Zi 1)])) (fun _ => rfl) ?_
          refine Z_go (f2 := (54, [(2, .int (Zi 1)), (0, .ref o), (1, .int (Zi ((S a))))], [])) (fun _ => rfl) ?_
          refine Z_go (f2 := (55, [(2, .int (Zi 1)), (0, .ref o), (1, .int (Zi ((S a))))], [.int (Zi 1)])) (fun _ => rfl) ?_
          refine Z_ine rfl rfl (by first | exact hs.zF _ _ | exact Zor_r _ _ | exact hs.zA _ _ | assumption | exact zA _ _ | exact zS _ | exact Zr_not (hs.zA _ _) | exact hs.1.1 _ _ | exact ⟨by omega, by omega⟩) (fun c8 => ?_) (fun c8 => ?_)
          · refine Z_go (f2 := (71, [(2, .int (Zi 1)), (0, .ref o), (1, .int (Zi ((S a))))], [.ref o])) (fun _ => rfl) ?_
            refine Z_go (f2 := (72, [(2, .int (Zi 1)), (0, .ref o), (1, .int (Zi ((S a))))], [.int (Zi 1), .ref o])) (fun _ => rfl) ?_
            refine Z_go (f2 := (73, [(2, .int (Zi 1)), (0, .ref o), (1, .int (Zi ((S a))))], [.ref o, .int (Zi 1), .ref o])) (fun _ => rfl) ?_
            refine C_gi rfl hs hp.1.1 (by decide) (Nat.le_of_ble_eq_true rfl) rfl ?_
            rw [show C_F (s) o 5 = a from (by first | exact hp.1.2.2.2.2.2.2.2.2.2.1 | exact (if_neg (fun e => absurd e.1 (by assumption))).trans hp.1.2.2.2.2.2.2.2.2.2.1 | exact (if_neg (fun e => absurd e.2 (by decide))).trans hp.1.2.2.2.2.2.2.2.2.2.1 | exact (if_neg (fun e => absurd e.2 (by decide))).trans ((if_neg (fun e => absurd e.2 (by decide))).trans hp.1.2.2.2.2.2.2.2.2.2.1) | exact (if_neg (fun e => absurd e.2 (by decide))).trans ((if_neg (fun e => absurd e.2 (by decide))).trans ((if_neg (fun e => absurd e.2 (by decide))).trans hp.1.2.2.2.2.2.2.2.2.2.1)))]
            show B_R _ _ (76, [(2, .int (Zi 1)), (0, .ref o), (1, .int (Zi ((S a))))], [.int (Zi a), .int (Zi 1), .ref o]) _ _ _
            refine C_callV (As := [.int (Zi 1), .int (Zi a)]) (rest := []) rfl (by decide) rfl (by decide) rfl rfl (by decide +kernel) (Nat.le_of_ble_eq_true rfl) hs hp.1.1 (C_fail0 _ hp (kd := 1) (wh := a) (by first | exact hs.zF _ _ | exact Zor_r _ _ | exact hs.zA _ _ | assumption | exact zA _ _ | exact zS _ | exact Zr_not (hs.zA _ _) | exact hs.1.1 _ _ | exact ⟨by omega, by omega⟩) (by first | exact hs.zF _ _ | exact Zor_r _ _ | exact hs.zA _ _ | assumption | exact zA _ _ | exact zS _ | exact Zr_not (hs.zA _ _) | exact hs.1.1 _ _ | exact ⟨by omega, by omega⟩)) (fun x h uf nf hs q => ?_)
            obtain ⟨rfl, rfl, rfl⟩ := q
            show B_R _ _ (79, [(2, .int (Zi 1)), (0, .ref o), (1, .int (Zi ((S a))))], []) _ _ _
            refine Z_go (f2 := (80, [(2, .int (Zi 1)), (0, .ref o), (1, .int (Zi ((S a))))], [.int (Zi (-1))])) (fun _ => rfl) ?_
            refine Z_iret rfl rfl (by first | rfl | decide | exact narrow_b01 (by omega)) ⟨_, hs, ?_⟩
            try dsimp only
            first
            | (exfalso; omega)
            | (refine ⟨rfl, (((D_Pf.refl p s).sF hp.1.2.1).sF hp.1.2.1), _, _, _, m, sm, -1, _, _, rfl, by omega, by omega, ((hp.ff 1 (by decide)).pp a (by decide)), ((hd.oF hne).oF hne), hz, by omega, by omega, ?_⟩
               refine P_say.no ?_ (by omega)
               unfold P_atom
               rw [if_neg n1, if_neg n2, if_neg n3, if_neg n4, if_neg n5, if_neg (by omega)])
          · exfalso; omega
        · refine Z_go (f2 := (25, [(0, .ref o), (1, .int (Zi ((S a))))], [.int (Zi ((S a)))])) (fun _ => rfl) ?_
          refine Z_go (f2 := (27, [(0, .ref o), (1, .int (Zi ((S a))))], [.int (Zi 123), .int (Zi ((S a)))])) (fun _ => rfl) ?_
          refine Z_ceq rfl rfl (by first | exact hs.zF _ _ | exact Zor_r _ _ | exact hs.zA _ _ | assumption | exact zA _ _ | exact zS _ | exact Zr_not (hs.zA _ _) | exact hs.1.1 _ _ | exact ⟨by omega, by omega⟩) (by first | exact hs.zF _ _ | exact Zor_r _ _ | exact hs.zA _ _ | assumption | exact zA _ _ | exact zS _ | exact Zr_not (hs.zA _ _) | exact hs.1.1 _ _ | exact ⟨by omega, by omega⟩) (fun c9 => ?_) (fun c9 => ?_)
          · refine Z_go (f2 := (49, [(0, .ref o), (1, .int (Zi ((S a))))], [.int (Zi 1)])) (fun _ => rfl) ?_
            refine Z_go (f2 := (53, [(0, .ref o), (1, .int (Zi ((S a))))], [.int (Zi 1)])) (fun _ => rfl) ?_
            refine Z_go (f2 := (54, [(2, .int (Zi 1)), (0, .ref o), (1, .int (Zi ((S a))))], [])) (fun _ => rfl) ?_
            refine Z_go (f2 := (55, [(2, .int (Zi 1)), (0, .ref o), (1, .int (Zi ((S a))))], [.int (Zi 1)])) (fun _ => rfl) ?_
            refine Z_ine rfl rfl (by first | exact hs.zF _ _ | exact Zor_r _ _ | exact hs.zA _ _ | assumption | exact zA _ _ | exact zS _ | exact Zr_not (hs.zA _ _) | exact hs.1.1 _ _ | exact ⟨by omega, by omega⟩) (fun c10 => ?_) (fun c10 => ?_)
            · refine Z_go (f2 := (71, [(2, .int (Zi 1)), (0, .ref o), (1, .int (Zi ((S a))))], [.ref o])) (fun _ => rfl) ?_
              refine Z_go (f2 := (72, [(2, .int (Zi 1)), (0, .ref o), (1, .int (Zi ((S a))))], [.int (Zi 1), .ref o])) (fun _ => rfl) ?_
              refine Z_go (f2 := (73, [(2, .int (Zi 1)), (0, .ref o), (1, .int (Zi ((S a))))], [.ref o, .int (Zi 1), .ref o])) (fun _ => rfl) ?_
              refine C_gi rfl hs hp.1.1 (by decide) (Nat.le_of_ble_eq_true rfl) rfl ?_
              rw [show C_F (s) o 5 = a from (by first | exact hp.1.2.2.2.2.2.2.2.2.2.1 | exact (if_neg (fun e => absurd e.1 (by assumption))).trans hp.1.2.2.2.2.2.2.2.2.2.1 | exact (if_neg (fun e => absurd e.2 (by decide))).trans hp.1.2.2.2.2.2.2.2.2.2.1 | exact (if_neg (fun e => absurd e.2 (by decide))).trans ((if_neg (fun e => absurd e.2 (by decide))).trans hp.1.2.2.2.2.2.2.2.2.2.1) | exact (if_neg (fun e => absurd e.2 (by decide))).trans ((if_neg (fun e => absurd e.2 (by decide))).trans ((if_neg (fun e => absurd e.2 (by decide))).trans hp.1.2.2.2.2.2.2.2.2.2.1)))]
              show B_R _ _ (76, [(2, .int (Zi 1)), (0, .ref o), (1, .int (Zi ((S a))))], [.int (Zi a), .int (Zi 1), .ref o]) _ _ _
              refine C_callV (As := [.int (Zi 1), .int (Zi a)]) (rest := []) rfl (by decide) rfl (by decide) rfl rfl (by decide +kernel) (Nat.le_of_ble_eq_true rfl) hs hp.1.1 (C_fail0 _ hp (kd := 1) (wh := a) (by first | exact hs.zF _ _ | exact Zor_r _ _ | exact hs.zA _ _ | assumption | exact zA _ _ | exact zS _ | exact Zr_not (hs.zA _ _) | exact hs.1.1 _ _ | exact ⟨by omega, by omega⟩) (by first | exact hs.zF _ _ | exact Zor_r _ _ | exact hs.zA _ _ | assumption | exact zA _ _ | exact zS _ | exact Zr_not (hs.zA _ _) | exact hs.1.1 _ _ | exact ⟨by omega, by omega⟩)) (fun x h uf nf hs q => ?_)
              obtain ⟨rfl, rfl, rfl⟩ := q
              show B_R _ _ (79, [(2, .int (Zi 1)), (0, .ref o), (1, .int (Zi ((S a))))], []) _ _ _
              refine Z_go (f2 := (80, [(2, .int (Zi 1)), (0, .ref o), (1, .int (Zi ((S a))))], [.int (Zi (-1))])) (fun _ => rfl) ?_
              refine Z_iret rfl rfl (by first | rfl | decide | exact narrow_b01 (by omega)) ⟨_, hs, ?_⟩
              try dsimp only
              first
              | (exfalso; omega)
              | (refine ⟨rfl, (((D_Pf.refl p s).sF hp.1.2.1).sF hp.1.2.1), _, _, _, m, sm, -1, _, _, rfl, by omega, by omega, ((hp.ff 1 (by decide)).pp a (by decide)), ((hd.oF hne).oF hne), hz, by omega, by omega, ?_⟩
                 refine P_say.no ?_ (by omega)
                 unfold P_atom
                 rw [if_neg n1, if_neg n2, if_neg n3, if_neg n4, if_neg n5, if_neg (by omega)])
            · exfalso; omega
          · refine Z_go (f2 := (31, [(0, .ref o), (1, .int (Zi ((S a))))], [.int (Zi ((S a)))])) (fun _ => rfl) ?_
            refine Z_go (f2 := (33, [(0, .ref o), (1, .int (Zi ((S a))))], [.int (Zi 125), .int (Zi ((S a)))])) (fun _ => rfl) ?_
            refine Z_ceq rfl rfl (by first | exact hs.zF _ _ | exact Zor_r _ _ | exact hs.zA _ _ | assumption | exact zA _ _ | exact zS _ | exact Zr_not (hs.zA _ _) | exact hs.1.1 _ _ | exact ⟨by omega, by omega⟩) (by first | exact hs.zF _ _ | exact Zor_r _ _ | exact hs.zA _ _ | assumption | exact zA _ _ | exact zS _ | exact Zr_not (hs.zA _ _) | exact hs.1.1 _ _ | exact ⟨by omega, by omega⟩) (fun c11 => ?_) (fun c11 => ?_)
            · refine Z_go (f2 := (49, [(0, .ref o), (1, .int (Zi ((S a))))], [.int (Zi 1)])) (fun _ => rfl) ?_
              refine Z_go (f2 := (53, [(0, .ref o), (1, .int (Zi ((S a))))], [.int (Zi 1)])) (fun _ => rfl) ?_
              refine Z_go (f2 := (54, [(2, .int (Zi 1)), (0, .ref o), (1, .int (Zi ((S a))))], [])) (fun _ => rfl) ?_
              refine Z_go (f2 := (55, [(2, .int (Zi 1)), (0, .ref o), (1, .int (Zi ((S a))))], [.int (Zi 1)])) (fun _ => rfl) ?_
              refine Z_ine rfl rfl (by first | exact hs.zF _ _ | exact Zor_r _ _ | exact hs.zA _ _ | assumption | exact zA _ _ | exact zS _ | exact Zr_not (hs.zA _ _) | exact hs.1.1 _ _ | exact ⟨by omega, by omega⟩) (fun c12 => ?_) (fun c12 => ?_)
              · refine Z_go (f2 := (71, [(2, .int (Zi 1)), (0, .ref o), (1, .int (Zi ((S a))))], [.ref o])) (fun _ => rfl) ?_
                refine Z_go (f2 := (72, [(2, .int (Zi 1)), (0, .ref o), (1, .int (Zi ((S a))))], [.int (Zi 1), .ref o])) (fun _ => rfl) ?_
                refine Z_go (f2 := (73, [(2, .int (Zi 1)), (0, .ref o), (1, .int (Zi ((S a))))], [.ref o, .int (Zi 1), .ref o])) (fun _ => rfl) ?_
                refine C_gi rfl hs hp.1.1 (by decide) (Nat.le_of_ble_eq_true rfl) rfl ?_
                rw [show C_F (s) o 5 = a from (by first | exact hp.1.2.2.2.2.2.2.2.2.2.1 | exact (if_neg (fun e => absurd e.1 (by assumption))).trans hp.1.2.2.2.2.2.2.2.2.2.1 | exact (if_neg (fun e => absurd e.2 (by decide))).trans hp.1.2.2.2.2.2.2.2.2.2.1 | exact (if_neg (fun e => absurd e.2 (by decide))).trans ((if_neg (fun e => absurd e.2 (by decide))).trans hp.1.2.2.2.2.2.2.2.2.2.1) | exact (if_neg (fun e => absurd e.2 (by decide))).trans ((if_neg (fun e => absurd e.2 (by decide))).trans ((if_neg (fun e => absurd e.2 (by decide))).trans hp.1.2.2.2.2.2.2.2.2.2.1)))]
                show B_R _ _ (76, [(2, .int (Zi 1)), (0, .ref o), (1, .int (Zi ((S a))))], [.int (Zi a), .int (Zi 1), .ref o]) _ _ _
                refine C_callV (As := [.int (Zi 1), .int (Zi a)]) (rest := []) rfl (by decide) rfl (by decide) rfl rfl (by decide +kernel) (Nat.le_of_ble_eq_true rfl) hs hp.1.1 (C_fail0 _ hp (kd := 1) (wh := a) (by first | exact hs.zF _ _ | exact Zor_r _ _ | exact hs.zA _ _ | assumption | exact zA _ _ | exact zS _ | exact Zr_not (hs.zA _ _) | exact hs.1.1 _ _ | exact ⟨by omega, by omega⟩) (by first | exact hs.zF _ _ | exact Zor_r _ _ | exact hs.zA _ _ | assumption | exact zA _ _ | exact zS _ | exact Zr_not (hs.zA _ _) | exact hs.1.1 _ _ | exact ⟨by omega, by omega⟩)) (fun x h uf nf hs q => ?_)
                obtain ⟨rfl, rfl, rfl⟩ := q
                show B_R _ _ (79, [(2, .int (Zi 1)), (0, .ref o), (1, .int (Zi ((S a))))], []) _ _ _
                refine Z_go (f2 := (80, [(2, .int (Zi 1)), (0, .ref o), (1, .int (Zi ((S a))))], [.int (Zi (-1))])) (fun _ => rfl) ?_
                refine Z_iret rfl rfl (by first | rfl | decide | exact narrow_b01 (by omega)) ⟨_, hs, ?_⟩
                try dsimp only
                first
                | (exfalso; omega)
                | (refine ⟨rfl, (((D_Pf.refl p s).sF hp.1.2.1).sF hp.1.2.1), _, _, _, m, sm, -1, _, _, rfl, by omega, by omega, ((hp.ff 1 (by decide)).pp a (by decide)), ((hd.oF hne).oF hne), hz, by omega, by omega, ?_⟩
                   refine P_say.no ?_ (by omega)
                   unfold P_atom
                   rw [if_neg n1, if_neg n2, if_neg n3, if_neg n4, if_neg n5, if_neg (by omega)])
              · exfalso; omega
            · refine Z_go (f2 := (37, [(0, .ref o), (1, .int (Zi ((S a))))], [.int (Zi ((S a)))])) (fun _ => rfl) ?_
              refine Z_go (f2 := (39, [(0, .ref o), (1, .int (Zi ((S a))))], [.int (Zi 41), .int (Zi ((S a)))])) (fun _ => rfl) ?_
              refine Z_ceq rfl rfl (by first | exact hs.zF _ _ | exact Zor_r _ _ | exact hs.zA _ _ | assumption | exact zA _ _ | exact zS _ | exact Zr_not (hs.zA _ _) | exact hs.1.1 _ _ | exact ⟨by omega, by omega⟩) (by first | exact hs.zF _ _ | exact Zor_r _ _ | exact hs.zA _ _ | assumption | exact zA _ _ | exact zS _ | exact Zr_not (hs.zA _ _) | exact hs.1.1 _ _ | exact ⟨by omega, by omega⟩) (fun c13 => ?_) (fun c13 => ?_)
              · refine Z_go (f2 := (49, [(0, .ref o), (1, .int (Zi ((S a))))], [.int (Zi 1)])) (fun _ => rfl) ?_
                refine Z_go (f2 := (53, [(0, .ref o), (1, .int (Zi ((S a))))], [.int (Zi 1)])) (fun _ => rfl) ?_
                refine Z_go (f2 := (54, [(2, .int (Zi 1)), (0, .ref o), (1, .int (Zi ((S a))))], [])) (fun _ => rfl) ?_
                refine Z_go (f2 := (55, [(2, .int (Zi 1)), (0, .ref o), (1, .int (Zi ((S a))))], [.int (Zi 1)])) (fun _ => rfl) ?_
                refine Z_ine rfl rfl (by first | exact hs.zF _ _ | exact Zor_r _ _ | exact hs.zA _ _ | assumption | exact zA _ _ | exact zS _ | exact Zr_not (hs.zA _ _) | exact hs.1.1 _ _ | exact ⟨by omega, by omega⟩) (fun c14 => ?_) (fun c14 => ?_)
                · refine Z_go (f2 := (71, [(2, .int (Zi 1)), (0, .ref o), (1, .int (Zi ((S a))))], [.ref o])) (fun _ => rfl) ?_
                  refine Z_go (f2 := (72, [(2, .int (Zi 1)), (0, .ref o), (1, .int (Zi ((S a))))], [.int (Zi 1), .ref o])) (fun _ => rfl) ?_
                  refine Z_go (f2 := (73, [(2, .int (Zi 1)), (0, .ref o), (1, .int (Zi ((S a))))], [.ref o, .int (Zi 1), .ref o])) (fun _ => rfl) ?_
                  refine C_gi rfl hs hp.1.1 (by decide) (Nat.le_of_ble_eq_true rfl) rfl ?_
                  rw [show C_F (s) o 5 = a from (by first | exact hp.1.2.2.2.2.2.2.2.2.2.1 | exact (if_neg (fun e => absurd e.1 (by assumption))).trans hp.1.2.2.2.2.2.2.2.2.2.1 | exact (if_neg (fun e => absurd e.2 (by decide))).trans hp.1.2.2.2.2.2.2.2.2.2.1 | exact (if_neg (fun e => absurd e.2 (by decide))).trans ((if_neg (fun e => absurd e.2 (by decide))).trans hp.1.2.2.2.2.2.2.2.2.2.1) | exact (if_neg (fun e => absurd e.2 (by decide))).trans ((if_neg (fun e => absurd e.2 (by decide))).trans ((if_neg (fun e => absurd e.2 (by decide))).trans hp.1.2.2.2.2.2.2.2.2.2.1)))]
                  show B_R _ _ (76, [(2, .int (Zi 1)), (0, .ref o), (1, .int (Zi ((S a))))], [.int (Zi a), .int (Zi 1), .ref o]) _ _ _
                  refine C_callV (As := [.int (Zi 1), .int (Zi a)]) (rest := []) rfl (by decide) rfl (by decide) rfl rfl (by decide +kernel) (Nat.le_of_ble_eq_true rfl) hs hp.1.1 (C_fail0 _ hp (kd := 1) (wh := a) (by first | exact hs.zF _ _ | exact Zor_r _ _ | exact hs.zA _ _ | assumption | exact zA _ _ | exact zS _ | exact Zr_not (hs.zA _ _) | exact hs.1.1 _ _ | exact ⟨by omega, by omega⟩) (by first | exact hs.zF _ _ | exact Zor_r _ _ | exact hs.zA _ _ | assumption | exact zA _ _ | exact zS _ | exact Zr_not (hs.zA _ _) | exact hs.1.1 _ _ | exact ⟨by omega, by omega⟩)) (fun x h uf nf hs q => ?_)
                  obtain ⟨rfl, rfl, rfl⟩ := q
                  show B_R _ _ (79, [(2, .int (Zi 1)), (0, .ref o), (1, .int (Zi ((S a))))], []) _ _ _
                  refine Z_go (f2 := (80, [(2, .int (Zi 1)), (0, .ref o), (1, .int (Zi ((S a))))], [.int (Zi (-1))])) (fun _ => rfl) ?_
                  refine Z_iret rfl rfl (by first | rfl | decide | exact narrow_b01 (by omega)) ⟨_, hs, ?_⟩
                  try dsimp only
                  first
                  | (exfalso; omega)
                  | (refine ⟨rfl, (((D_Pf.refl p s).sF hp.1.2.1).sF hp.1.2.1), _, _, _, m, sm, -1, _, _, rfl, by omega, by omega, ((hp.ff 1 (by decide)).pp a (by decide)), ((hd.oF hne).oF hne), hz, by omega, by omega, ?_⟩
                     refine P_say.no ?_ (by omega)
                     unfold P_atom
                     rw [if_neg n1, if_neg n2, if_neg n3, if_neg n4, if_neg n5, if_neg (by omega)])
                · exfalso; omega
              · refine Z_go (f2 := (43, [(0, .ref o), (1, .int (Zi ((S a))))], [.int (Zi ((S a)))])) (fun _ => rfl) ?_
                refine Z_go (f2 := (45, [(0, .ref o), (1, .int (Zi ((S a))))], [.int (Zi 93), .int (Zi ((S a)))])) (fun _ => rfl) ?_
                refine Z_cne rfl rfl (by first | exact hs.zF _ _ | exact Zor_r _ _ | exact hs.zA _ _ | assumption | exact zA _ _ | exact zS _ | exact Zr_not (hs.zA _ _) | exact hs.1.1 _ _ | exact ⟨by omega, by omega⟩) (by first | exact hs.zF _ _ | exact Zor_r _ _ | exact hs.zA _ _ | assumption | exact zA _ _ | exact zS _ | exact Zr_not (hs.zA _ _) | exact hs.1.1 _ _ | exact ⟨by omega, by omega⟩) (fun c15 => ?_) (fun c15 => ?_)
                · refine Z_go (f2 := (53, [(0, .ref o), (1, .int (Zi ((S a))))], [.int (Zi 0)])) (fun _ => rfl) ?_
                  refine Z_go (f2 := (54, [(2, .int (Zi 0)), (0, .ref o), (1, .int (Zi ((S a))))], [])) (fun _ => rfl) ?_
                  refine Z_go (f2 := (55, [(2, .int (Zi 0)), (0, .ref o), (1, .int (Zi ((S a))))], [.int (Zi 0)])) (fun _ => rfl) ?_
                  refine Z_ine rfl rfl (by first | exact hs.zF _ _ | exact Zor_r _ _ | exact hs.zA _ _ | assumption | exact zA _ _ | exact zS _ | exact Zr_not (hs.zA _ _) | exact hs.1.1 _ _ | exact ⟨by omega, by omega⟩) (fun c16 => ?_) (fun c16 => ?_)
                  · exfalso; omega
                  · refine Z_go (f2 := (59, [(2, .int (Zi 0)), (0, .ref o), (1, .int (Zi ((S a))))], [.int (Zi ((S a)))])) (fun _ => rfl) ?_
                    refine Z_go (f2 := (61, [(2, .int (Zi 0)), (0, .ref o), (1, .int (Zi ((S a))))], [.int (Zi 32), .int (Zi ((S a)))])) (fun _ => rfl) ?_
                    refine Z_clt rfl rfl (by first | exact hs.zF _ _ | exact Zor_r _ _ | exact hs.zA _ _ | assumption | exact zA _ _ | exact zS _ | exact Zr_not (hs.zA _ _) | exact hs.1.1 _ _ | exact ⟨by omega, by omega⟩) (by first | exact hs.zF _ _ | exact Zor_r _ _ | exact hs.zA _ _ | assumption | exact zA _ _ | exact zS _ | exact Zr_not (hs.zA _ _) | exact hs.1.1 _ _ | exact ⟨by omega, by omega⟩) (fun c17 => ?_) (fun c17 => ?_)
                    · refine Z_go (f2 := (71, [(2, .int (Zi 0)), (0, .ref o), (1, .int (Zi ((S a))))], [.ref o])) (fun _ => rfl) ?_
                      refine Z_go (f2 := (72, [(2, .int (Zi 0)), (0, .ref o), (1, .int (Zi ((S a))))], [.int (Zi 1), .ref o])) (fun _ => rfl) ?_
                      refine Z_go (f2 := (73, [(2, .int (Zi 0)), (0, .ref o), (1, .int (Zi ((S a))))], [.ref o, .int (Zi 1), .ref o])) (fun _ => rfl) ?_
                      refine C_gi rfl hs hp.1.1 (by decide) (Nat.le_of_ble_eq_true rfl) rfl ?_
                      rw [show C_F (s) o 5 = a from (by first | exact hp.1.2.2.2.2.2.2.2.2.2.1 | exact (if_neg (fun e => absurd e.1 (by assumption))).trans hp.1.2.2.2.2.2.2.2.2.2.1 | exact (if_neg (fun e => absurd e.2 (by decide))).trans hp.1.2.2.2.2.2.2.2.2.2.1 | exact (if_neg (fun e => absurd e.2 (by decide))).trans ((if_neg (fun e => absurd e.2 (by decide))).trans hp.1.2.2.2.2.2.2.2.2.2.1) | exact (if_neg (fun e => absurd e.2 (by decide))).trans ((if_neg (fun e => absurd e.2 (by decide))).trans ((if_neg (fun e => absurd e.2 (by decide))).trans hp.1.2.2.2.2.2.2.2.2.2.1)))]
                      show B_R _ _ (76, [(2, .int (Zi 0)), (0, .ref o), (1, .int (Zi ((S a))))], [.int (Zi a), .int (Zi 1), .ref o]) _ _ _
                      refine C_callV (As := [.int (Zi 1), .int (Zi a)]) (rest := []) rfl (by decide) rfl (by decide) rfl rfl (by decide +kernel) (Nat.le_of_ble_eq_true rfl) hs hp.1.1 (C_fail0 _ hp (kd := 1) (wh := a) (by first | exact hs.zF _ _ | exact Zor_r _ _ | exact hs.zA _ _ | assumption | exact zA _ _ | exact zS _ | exact Zr_not (hs.zA _ _) | exact hs.1.1 _ _ | exact ⟨by omega, by omega⟩) (by first | exact hs.zF _ _ | exact Zor_r _ _ | exact hs.zA _ _ | assumption | exact zA _ _ | exact zS _ | exact Zr_not (hs.zA _ _) | exact hs.1.1 _ _ | exact ⟨by omega, by omega⟩)) (fun x h uf nf hs q => ?_)
                      obtain ⟨rfl, rfl, rfl⟩ := q
                      show B_R _ _ (79, [(2, .int (Zi 0)), (0, .ref o), (1, .int (Zi ((S a))))], []) _ _ _
                      refine Z_go (f2 := (80, [(2, .int (Zi 0)), (0, .ref o), (1, .int (Zi ((S a))))], [.int (Zi (-1))])) (fun _ => rfl) ?_
                      refine Z_iret rfl rfl (by first | rfl | decide | exact narrow_b01 (by omega)) ⟨_, hs, ?_⟩
                      try dsimp only
                      first
                      | (exfalso; omega)
                      | (refine ⟨rfl, (((D_Pf.refl p s).sF hp.1.2.1).sF hp.1.2.1), _, _, _, m, sm, -1, _, _, rfl, by omega, by omega, ((hp.ff 1 (by decide)).pp a (by decide)), ((hd.oF hne).oF hne), hz, by omega, by omega, ?_⟩
                         refine P_say.no ?_ (by omega)
                         unfold P_atom
                         rw [if_neg n1, if_neg n2, if_neg n3, if_neg n4, if_neg n5, if_neg (by omega)])
                    · refine Z_go (f2 := (65, [(2, .int (Zi 0)), (0, .ref o), (1, .int (Zi ((S a))))], [.int (Zi ((S a)))])) (fun _ => rfl) ?_
                      refine Z_go (f2 := (67, [(2, .int (Zi 0)), (0, .ref o), (1, .int (Zi ((S a))))], [.int (Zi 126), .int (Zi ((S a)))])) (fun _ => rfl) ?_
                      refine Z_cle rfl rfl (by first | exact hs.zF _ _ | exact Zor_r _ _ | exact hs.zA _ _ | assumption | exact zA _ _ | exact zS _ | exact Zr_not (hs.zA _ _) | exact hs.1.1 _ _ | exact ⟨by omega, by omega⟩) (by first | exact hs.zF _ _ | exact Zor_r _ _ | exact hs.zA _ _ | assumption | exact zA _ _ | exact zS _ | exact Zr_not (hs.zA _ _) | exact hs.1.1 _ _ | exact ⟨by omega, by omega⟩) (fun c18 => ?_) (fun c18 => ?_)
                      · refine Z_go (f2 := (82, [(2, .int (Zi 0)), (0, .ref o), (1, .int (Zi ((S a))))], [.ref o])) (fun _ => rfl) ?_
                        refine Z_go (f2 := (83, [(2, .int (Zi 0)), (0, .ref o), (1, .int (Zi ((S a))))], [.ref o, .ref o])) (fun _ => rfl) ?_
                        refine C_gi rfl hs hp.1.1 (by decide) (Nat.le_of_ble_eq_true rfl) rfl ?_
                        rw [show C_F (s) o 5 = a from (by first | exact hp.1.2.2.2.2.2.2.2.2.2.1 | exact (if_neg (fun e => absurd e.1 (by assumption))).trans hp.1.2.2.2.2.2.2.2.2.2.1 | exact (if_neg (fun e => absurd e.2 (by decide))).trans hp.1.2.2.2.2.2.2.2.2.2.1 | exact (if_neg (fun e => absurd e.2 (by decide))).trans ((if_neg (fun e => absurd e.2 (by decide))).trans hp.1.2.2.2.2.2.2.2.2.2.1) | exact (if_neg (fun e => absurd e.2 (by decide))).trans ((if_neg (fun e => absurd e.2 (by decide))).trans ((if_neg (fun e => absurd e.2 (by decide))).trans hp.1.2.2.2.2.2.2.2.2.2.1)))]
                        show B_R _ _ (86, [(2, .int (Zi 0)), (0, .ref o), (1, .int (Zi ((S a))))], [.int (Zi a), .ref o]) _ _ _
                        refine Z_go (f2 := (87, [(2, .int (Zi 0)), (0, .ref o), (1, .int (Zi ((S a))))], [.int (Zi 1), .int (Zi a), .ref o])) (fun _ => rfl) ?_
                        refine Z_iadd rfl ?_
                        refine C_pi rfl hs hp.1.1 (by decide) (Nat.le_of_ble_eq_true rfl) (.inl rfl) rfl rfl rfl (by first | exact hs.zF _ _ | exact Zor_r _ _ | exact hs.zA _ _ | assumption | exact zA _ _ | exact zS _ | exact Zr_not (hs.zA _ _) | exact hs.1.1 _ _ | exact ⟨by omega, by omega⟩) (fun h hs => ?_)
                        refine Z_go (f2 := (92, [(2, .int (Zi 0)), (0, .ref o), (1, .int (Zi ((S a))))], [.ref o])) (fun _ => rfl) ?_
                        refine C_gr rfl hs hp.1.1 (by decide) (Nat.le_of_ble_eq_true rfl) rfl hp.1.2.2.1 ?_
                        have wf139 := hs.1
                        refine C_callV (As := []) (rest := []) rfl (by decide) rfl (by decide) rfl rfl (by decide +kernel) (Nat.le_of_ble_eq_true rfl) hs hd.1.1 (C_newSet _ (hd.oF hne)) (fun x h v139 n139 hs q => ?_)
                        obtain ⟨rfl, fr139, en139, sm139, β139, c139, rfl, ca139, cb139, hd139, hb139, hc139⟩ := q
                        have zc139 : Zr c139 := ⟨by omega, by omega⟩
                        have hp139 := (hp.aa (a + 1)).sub wf139 fr139
                        have pf139 := ((D_Pf.refl p s).sF hp.1.2.1).on fr139 en139
                        have hne := hp139.ne hd139
                        show B_R _ _ (98, [(2, .int (Zi 0)), (0, .ref o), (1, .int (Zi ((S a))))], [.int (Zi c139)]) _ _ _
                        refine Z_go (f2 := (99, [(3, .int (Zi c139)), (2, .int (Zi 0)), (0, .ref o), (1, .int (Zi ((S a))))], [])) (fun _ => rfl) ?_
                        refine Z_go (f2 := (100, [(3, .int (Zi c139)), (2, .int (Zi 0)), (0, .ref o), (1, .int (Zi ((S a))))], [.ref o])) (fun _ => rfl) ?_
                        refine C_gr rfl hs hp139.1.1 (by decide) (Nat.le_of_ble_eq_true rfl) rfl hp139.1.2.2.1 ?_
                        refine Z_go (f2 := (104, [(3, .int (Zi c139)), (2, .int (Zi 0)), (0, .ref o), (1, .int (Zi ((S a))))], [.int (Zi c139), .ref tr])) (fun _ => rfl) ?_
                        refine Z_go (f2 := (105, [(3, .int (Zi c139)), (2, .int (Zi 0)), (0, .ref o), (1, .int (Zi ((S a))))], [.int (Zi ((S a))), .int (Zi c139), .ref tr])) (fun _ => rfl) ?_
                        have wf140 := hs.1
                        refine C_callV (As := [.int (Zi c139), .int (Zi ((S a)))]) (rest := []) rfl (by decide) rfl (by decide) rfl rfl (by decide +kernel) (Nat.le_of_ble_eq_true rfl) hs hd139.1.1 (C_incl _ hd139 (c := c139) (k := (S a)) (by first | exact hs.zF _ _ | exact Zor_r _ _ | exact hs.zA _ _ | assumption | exact zA _ _ | exact zS _ | exact Zr_not (hs.zA _ _) | exact hs.1.1 _ _ | exact ⟨by omega, by omega⟩) (by omega) (by omega)) (fun x h v140 n140 hs q => ?_)
                        obtain ⟨rfl, rfl, fr140, en140, β140, hd140, hb140⟩ := q
                        have hp140 := hp139.sub wf140 fr140
                        have pf140 := pf139.on fr140 en140
                        have hne := hp140.ne hd140
                        show B_R _ _ (108, [(3, .int (Zi c139)), (2, .int (Zi 0)), (0, .ref o), (1, .int (Zi ((S a))))], []) _ _ _
                        refine Z_go (f2 := (109, [(3, .int (Zi c139)), (2, .int (Zi 0)), (0, .ref o), (1, .int (Zi ((S a))))], [.ref o])) (fun _ => rfl) ?_
                        refine C_gi rfl hs hp140.1.1 (by decide) (Nat.le_of_ble_eq_true rfl) rfl ?_
                        rw [show C_F (v140) o 6 = fo from (by first | exact hp140.1.2.2.2.2.2.2.2.2.2.2.1 | exact (if_neg (fun e => absurd e.1 (by assumption))).trans hp140.1.2.2.2.2.2.2.2.2.2.2.1 | exact (if_neg (fun e => absurd e.2 (by decide))).trans hp140.1.2.2.2.2.2.2.2.2.2.2.1 | exact (if_neg (fun e => absurd e.2 (by decide))).trans ((if_neg (fun e => absurd e.2 (by decide))).trans hp140.1.2.2.2.2.2.2.2.2.2.2.1) | exact (if_neg (fun e => absurd e.2 (by decide))).trans ((if_neg (fun e => absurd e.2 (by decide))).trans ((if_neg (fun e => absurd e.2 (by decide))).trans hp140.1.2.2.2.2.2.2.2.2.2.2.1)))]
                        show B_R _ _ (112, [(3, .int (Zi c139)), (2, .int (Zi 0)), (0, .ref o), (1, .int (Zi ((S a))))], [.int (Zi fo)]) _ _ _
                        refine Z_ieq rfl rfl (by first | exact hs.zF _ _ | exact Zor_r _ _ | exact hs.zA _ _ | assumption | exact zA _ _ | exact zS _ | exact Zr_not (hs.zA _ _) | exact hs.1.1 _ _ | exact ⟨by omega, by omega⟩) (fun c19 => ?_) (fun c19 => ?_)
                        · refine Z_go (f2 := (124, [(3, .int (Zi c139)), (2, .int (Zi 0)), (0, .ref o), (1, .int (Zi ((S a))))], [.ref o])) (fun _ => rfl) ?_
                          refine C_gr rfl hs hp140.1.1 (by decide) (Nat.le_of_ble_eq_true rfl) rfl hp140.1.2.2.1 ?_
                          refine Z_go (f2 := (128, [(3, .int (Zi c139)), (2, .int (Zi 0)), (0, .ref o), (1, .int (Zi ((S a))))], [.int (Zi c139), .ref tr])) (fun _ => rfl) ?_
                          have wf141 := hs.1
                          refine C_callV (As := [.int (Zi c139)]) (rest := []) rfl (by decide) rfl (by decide) rfl rfl (by decide +kernel) (Nat.le_of_ble_eq_true rfl) hs hd140.1.1 (C_newByt _ hd140 hz (a := c139) (by first | exact hs.zF _ _ | exact Zor_r _ _ | exact hs.zA _ _ | assumption | exact zA _ _ | exact zS _ | exact Zr_not (hs.zA _ _) | exact hs.1.1 _ _ | exact ⟨by omega, by omega⟩)) (fun x h v141 n141 hs q => ?_)
                          obtain ⟨rfl, fr141, en141, m141, τ141, i141, rfl, ia141, ib141, hd141, hz141, hn141⟩ := q
                          have zi141 : Zr i141 := ⟨by omega, by omega⟩
                          have hp141 := hp140.sub wf141 fr141
                          have pf141 := pf140.on fr141 en141
                          have hne := hp141.ne hd141
                          show B_R _ _ (131, [(3, .int (Zi c139)), (2, .int (Zi 0)), (0, .ref o), (1, .int (Zi ((S a))))], [.int (Zi i141)]) _ _ _
                          refine Z_iret rfl rfl (by first | rfl | decide | exact narrow_b01 (by omega)) ⟨_, hs, ?_⟩
                          try dsimp only
                          first
                          | (exfalso; omega)
                          | (obtain ⟨ec, es⟩ := hc139 hs8
                             obtain ⟨e1, e2, e3⟩ := hn141 hm
                             refine ⟨rfl, pf141, _, _, _, _, _, i141, _, _, rfl, by omega, by omega, hp141, hd141, hz141, by omega, by omega, ?_⟩
                             refine P_say.ok (v := .inr (P_fold (fo ≠ 0) (fun x => x = S a))) (b := a + 1) ?_ ⟨by omega, by omega, by omega, e1, e2, At_ok.set (by rw [e3, ec]) es (fun d j d0 d1 j0 j1 => by
                                 have e : ¬ d = c139 := by omega
                                 rw [hb140, hb139]
                                 simp [e]) ?_⟩
                             · unfold P_atom
                               rw [if_neg n1, if_neg n2, if_neg n3, if_neg n4, if_neg n5, if_pos (by omega)]
                             · intro j j0 j1
                               have ej : ¬ T_has β139 sm j := fun h => by rw [hb139] at h; exact h.2 ec.symm
                               rw [hb140]
                               unfold P_fold
                               constructor
                               · rintro (h | h)
                                 · exact absurd h ej
                                 · exact .inl h.2.1
                               · rintro (h | h)
                                 · exact .inr ⟨ec.symm, h, by omega, by omega, by omega⟩
                                 · exact absurd h.1 (by omega))
                        · refine Z_go (f2 := (116, [(3, .int (Zi c139)), (2, .int (Zi 0)), (0, .ref o), (1, .int (Zi ((S a))))], [.ref o])) (fun _ => rfl) ?_
                          refine C_gr rfl hs hp140.1.1 (by decide) (Nat.le_of_ble_eq_true rfl) rfl hp140.1.2.2.1 ?_
                          refine Z_go (f2 := (120, [(3, .int (Zi c139)), (2, .int (Zi 0)), (0, .ref o), (1, .int (Zi ((S a))))], [.int (Zi c139), .ref tr])) (fun _ => rfl) ?_
                          have wf142 := hs.1
                          refine C_callV (As := [.int (Zi c139)]) (rest := []) rfl (by decide) rfl (by decide) rfl rfl (by decide +kernel) (Nat.le_of_ble_eq_true rfl) hs hd140.1.1 (C_foldL _ hd140 (c := c139) (by omega) (by omega)) (fun x h v142 n142 hs q => ?_)
                          obtain ⟨rfl, rfl, fr142, en142, β142, hd142, hb142⟩ := q
                          have hp142 := hp140.sub wf142 fr142
                          have pf142 := pf140.on fr142 en142
                          have hne := hp142.ne hd142
                          show B_R _ _ (123, [(3, .int (Zi c139)), (2, .int (Zi 0)), (0, .ref o), (1, .int (Zi ((S a))))], []) _ _ _
                          refine Z_go (f2 := (124, [(3, .int (Zi c139)), (2, .int (Zi 0)), (0, .ref o), (1, .int (Zi ((S a))))], [.ref o])) (fun _ => rfl) ?_
                          refine C_gr rfl hs hp142.1.1 (by decide) (Nat.le_of_ble_eq_true rfl) rfl hp142.1.2.2.1 ?_
                          refine Z_go (f2 := (128, [(3, .int (Zi c139)), (2, .int (Zi 0)), (0, .ref o), (1, .int (Zi ((S a))))], [.int (Zi c139), .ref tr])) (fun _ => rfl) ?_
                          have wf143 := hs.1
                          refine C_callV (As := [.int (Zi c139)]) (rest := []) rfl (by decide) rfl (by decide) rfl rfl (by decide +kernel) (Nat.le_of_ble_eq_true rfl) hs hd142.1.1 (C_newByt _ hd142 hz (a := c139) (by first | exact hs.zF _ _ | exact Zor_r _ _ | exact hs.zA _ _ | assumption | exact zA _ _ | exact zS _ | exact Zr_not (hs.zA _ _) | exact hs.1.1 _ _ | exact ⟨by omega, by omega⟩)) (fun x h v143 n143 hs q => ?_)
                          obtain ⟨rfl, fr143, en143, m143, τ143, i143, rfl, ia143, ib143, hd143, hz143, hn143⟩ := q
                          have zi143 : Zr i143 := ⟨by omega, by omega⟩
                          have hp143 := hp142.sub wf143 fr143
                          have pf143 := pf142.on fr143 en143
                          have hne := hp143.ne hd143
                          show B_R _ _ (131, [(3, .int (Zi c139)), (2, .int (Zi 0)), (0, .ref o), (1, .int (Zi ((S a))))], [.int (Zi i143)]) _ _ _
                          refine Z_iret rfl rfl (by first | rfl | decide | exact narrow_b01 (by omega)) ⟨_, hs, ?_⟩
                          try dsimp only
                          first
                          | (exfalso; omega)
                          | (obtain ⟨ec, es⟩ := hc139 hs8
                             obtain ⟨e1, e2, e3⟩ := hn143 hm
                             refine ⟨rfl, pf143, _, _, _, _, _, i143, _, _, rfl, by omega, by omega, hp143, hd143, hz143, by omega, by omega, ?_⟩
                             refine P_say.ok (v := .inr (P_fold (fo ≠ 0) (fun x => x = S a))) (b := a + 1) ?_ ⟨by omega, by omega, by omega, e1, e2, At_ok.set (by rw [e3, ec]) es (fun d j d0 d1 j0 j1 => by
                                 have e : ¬ d = c139 := by omega
                                 rw [hb142 _ _ (by omega) j0 j1, hb140, hb139]
                                 simp [e]) ?_⟩
                             · unfold P_atom
                               rw [if_neg n1, if_neg n2, if_neg n3, if_neg n4, if_neg n5, if_pos (by omega)]
                             · intro j j0 j1
                               have ej : ¬ T_has β139 sm j := fun h => by rw [hb139] at h; exact h.2 ec.symm
                               rw [hb142 _ _ (by omega) j0 j1, hb140]
                               have hA : ∀ l, 0 ≤ l → l ≤ 255 → (T_has β140 c139 l ↔ l = S a) := fun l l0 l1 => by
                                 have el : ¬ T_has β139 c139 l := fun h => by rw [hb139] at h; exact h.2 rfl
                                 rw [hb140]
                                 constructor
                                 · rintro (h | h)
                                   · exact absurd h el
                                   · exact h.2.1
                                 · intro h
                                   exact .inr ⟨rfl, h, by omega, by omega, by omega⟩
                               rw [D_fd_congr hA]
                               unfold P_fold
                               constructor
                               · rintro ((h | h) | h)
                                 · exact absurd h ej
                                 · exact .inl h.2.1
                                 · exact .inr ⟨by omega, h.2⟩
                               · rintro (h | h)
                                 · exact .inl (.inr ⟨ec.symm, h, by omega, by omega, by omega⟩)
                                 · exact .inr ⟨ec.symm, h.2⟩)
                      · refine Z_go (f2 := (71, [(2, .int (Zi 0)), (0, .ref o), (1, .int (Zi ((S a))))], [.ref o])) (fun _ => rfl) ?_
                        refine Z_go (f2 := (72, [(2, .int (Zi 0)), (0, .ref o), (1, .int (Zi ((S a))))], [.int (Zi 1), .ref o])) (fun _ => rfl) ?_
                        refine Z_go (f2 := (73, [(2, .int (Zi 0)), (0, .ref o), (1, .int (Zi ((S a))))], [.ref o, .int (Zi 1), .ref o])) (fun _ => rfl) ?_
                        refine C_gi rfl hs hp.1.1 (by decide) (Nat.le_of_ble_eq_true rfl) rfl ?_
                        rw [show C_F (s) o 5 = a from (by first | exact hp.1.2.2.2.2.2.2.2.2.2.1 | exact (if_neg (fun e => absurd e.1 (by assumption))).trans hp.1.2.2.2.2.2.2.2.2.2.1 | exact (if_neg (fun e => absurd e.2 (by decide))).trans hp.1.2.2.2.2.2.2.2.2.2.1 | exact (if_neg (fun e => absurd e.2 (by decide))).trans ((if_neg (fun e => absurd e.2 (by decide))).trans hp.1.2.2.2.2.2.2.2.2.2.1) | exact (if_neg (fun e => absurd e.2 (by decide))).trans ((if_neg (fun e => absurd e.2 (by decide))).trans ((if_neg (fun e => absurd e.2 (by decide))).trans hp.1.2.2.2.2.2.2.2.2.2.1)))]
                        show B_R _ _ (76, [(2, .int (Zi 0)), (0, .ref o), (1, .int (Zi ((S a))))], [.int (Zi a), .int (Zi 1), .ref o]) _ _ _
                        refine C_callV (As := [.int (Zi 1), .int (Zi a)]) (rest := []) rfl (by decide) rfl (by decide) rfl rfl (by decide +kernel) (Nat.le_of_ble_eq_true rfl) hs hp.1.1 (C_fail0 _ hp (kd := 1) (wh := a) (by first | exact hs.zF _ _ | exact Zor_r _ _ | exact hs.zA _ _ | assumption | exact zA _ _ | exact zS _ | exact Zr_not (hs.zA _ _) | exact hs.1.1 _ _ | exact ⟨by omega, by omega⟩) (by first | exact hs.zF _ _ | exact Zor_r _ _ | exact hs.zA _ _ | assumption | exact zA _ _ | exact zS _ | exact Zr_not (hs.zA _ _) | exact hs.1.1 _ _ | exact ⟨by omega, by omega⟩)) (fun x h uf nf hs q => ?_)
                        obtain ⟨rfl, rfl, rfl⟩ := q
                        show B_R _ _ (79, [(2, .int (Zi 0)), (0, .ref o), (1, .int (Zi ((S a))))], []) _ _ _
                        refine Z_go (f2 := (80, [(2, .int (Zi 0)), (0, .ref o), (1, .int (Zi ((S a))))], [.int (Zi (-1))])) (fun _ => rfl) ?_
                        refine Z_iret rfl rfl (by first | rfl | decide | exact narrow_b01 (by omega)) ⟨_, hs, ?_⟩
                        try dsimp only
                        first
                        | (exfalso; omega)
                        | (refine ⟨rfl, (((D_Pf.refl p s).sF hp.1.2.1).sF hp.1.2.1), _, _, _, m, sm, -1, _, _, rfl, by omega, by omega, ((hp.ff 1 (by decide)).pp a (by decide)), ((hd.oF hne).oF hne), hz, by omega, by omega, ?_⟩
                           refine P_say.no ?_ (by omega)
                           unfold P_atom
                           rw [if_neg n1, if_neg n2, if_neg n3, if_neg n4, if_neg n5, if_neg (by omega)])
                · refine Z_go (f2 := (49, [(0, .ref o), (1, .int (Zi ((S a))))], [.int (Zi 1)])) (fun _ => rfl) ?_
                  refine Z_go (f2 := (53, [(0, .ref o), (1, .int (Zi ((S a))))], [.int (Zi 1)])) (fun _ => rfl) ?_
                  refine Z_go (f2 := (54, [(2, .int (Zi 1)), (0, .ref o), (1, .int (Zi ((S a))))], [])) (fun _ => rfl) ?_
                  refine Z_go (f2 := (55, [(2, .int (Zi 1)), (0, .ref o), (1, .int (Zi ((S a))))], [.int (Zi 1)])) (fun _ => rfl) ?_
                  refine Z_ine rfl rfl (by first | exact hs.zF _ _ | exact Zor_r _ _ | exact hs.zA _ _ | assumption | exact zA _ _ | exact zS _ | exact Zr_not (hs.zA _ _) | exact hs.1.1 _ _ | exact ⟨by omega, by omega⟩) (fun c20 => ?_) (fun c20 => ?_)
                  · refine Z_go (f2 := (71, [(2, .int (Zi 1)), (0, .ref o), (1, .int (Zi ((S a))))], [.ref o])) (fun _ => rfl) ?_
                    refine Z_go (f2 := (72, [(2, .int (Zi 1)), (0, .ref o), (1, .int (Zi ((S a))))], [.int (Zi 1), .ref o])) (fun _ => rfl) ?_
                    refine Z_go (f2 := (73, [(2, .int (Zi 1)), (0, .ref o), (1, .int (Zi ((S a))))], [.ref o, .int (Zi 1), .ref o])) (fun _ => rfl) ?_
                    refine C_gi rfl hs hp.1.1 (by decide) (Nat.le_of_ble_eq_true rfl) rfl ?_
                    rw [show C_F (s) o 5 = a from (by first | exact hp.1.2.2.2.2.2.2.2.2.2.1 | exact (if_neg (fun e => absurd e.1 (by assumption))).trans hp.1.2.2.2.2.2.2.2.2.2.1 | exact (if_neg (fun e => absurd e.2 (by decide))).trans hp.1.2.2.2.2.2.2.2.2.2.1 | exact (if_neg (fun e => absurd e.2 (by decide))).trans ((if_neg (fun e => absurd e.2 (by decide))).trans hp.1.2.2.2.2.2.2.2.2.2.1) | exact (if_neg (fun e => absurd e.2 (by decide))).trans ((if_neg (fun e => absurd e.2 (by decide))).trans ((if_neg (fun e => absurd e.2 (by decide))).trans hp.1.2.2.2.2.2.2.2.2.2.1)))]
                    show B_R _ _ (76, [(2, .int (Zi 1)), (0, .ref o), (1, .int (Zi ((S a))))], [.int (Zi a), .int (Zi 1), .ref o]) _ _ _
                    refine C_callV (As := [.int (Zi 1), .int (Zi a)]) (rest := []) rfl (by decide) rfl (by decide) rfl rfl (by decide +kernel) (Nat.le_of_ble_eq_true rfl) hs hp.1.1 (C_fail0 _ hp (kd := 1) (wh := a) (by first | exact hs.zF _ _ | exact Zor_r _ _ | exact hs.zA _ _ | assumption | exact zA _ _ | exact zS _ | exact Zr_not (hs.zA _ _) | exact hs.1.1 _ _ | exact ⟨by omega, by omega⟩) (by first | exact hs.zF _ _ | exact Zor_r _ _ | exact hs.zA _ _ | assumption | exact zA _ _ | exact zS _ | exact Zr_not (hs.zA _ _) | exact hs.1.1 _ _ | exact ⟨by omega, by omega⟩)) (fun x h uf nf hs q => ?_)
                    obtain ⟨rfl, rfl, rfl⟩ := q
                    show B_R _ _ (79, [(2, .int (Zi 1)), (0, .ref o), (1, .int (Zi ((S a))))], []) _ _ _
                    refine Z_go (f2 := (80, [(2, .int (Zi 1)), (0, .ref o), (1, .int (Zi ((S a))))], [.int (Zi (-1))])) (fun _ => rfl) ?_
                    refine Z_iret rfl rfl (by first | rfl | decide | exact narrow_b01 (by omega)) ⟨_, hs, ?_⟩
                    try dsimp only
                    first
                    | (exfalso; omega)
                    | (refine ⟨rfl, (((D_Pf.refl p s).sF hp.1.2.1).sF hp.1.2.1), _, _, _, m, sm, -1, _, _, rfl, by omega, by omega, ((hp.ff 1 (by decide)).pp a (by decide)), ((hd.oF hne).oF hne), hz, by omega, by omega, ?_⟩
                       refine P_say.no ?_ (by omega)
                       unfold P_atom
                       rw [if_neg n1, if_neg n2, if_neg n3, if_neg n4, if_neg n5, if_neg (by omega)])
                  · exfalso; omega
theorem C_esc (d : Nat) {s : C_S} {p : List Nat} {o tr src N : Nat} {S : Int → Int} {nn fo pl a : Int} {A : Nat → Nat} {m sm : Int} {τ : Nat → Int → Int} {β : Int → Int64} (hp : D_P0 s p o tr src N S nn fo 0 pl a) (hd : D_Tr s (p ++ [tr]) tr A m sm τ β) (hz : T_zb τ) (a0 : 0 ≤ a) (an : a < nn) (hm : m < 168) (hs8 : sm < 80) (hS : S a = 92) : C_ok (d + 5) 45 [.ref o] s (fun x s2 n => n = 0 ∧ D_Pf p s s2 ∧ ∃ (f2 pl2 a2 m2 sm2 i : Int) (τ2 : Nat → Int → Int) (β2 : Int → Int64), x = some (.int (Zi i)) ∧ -1 ≤ i ∧ i < 168 ∧ D_P0 s2 p o tr src N S nn fo f2 pl2 a2 ∧ D_Tr s2 (p ++ [tr]) tr A m2 sm2 τ2 β2 ∧ T_zb τ2 ∧ a ≤ a2 ∧ a2 ≤ nn + 5 ∧ P_say (P_atom S (fo ≠ 0) a) f2 pl2 (fun At b => a2 = b ∧ b ≤ nn ∧ a < b ∧ i = m ∧ m2 = m + 1 ∧ At_ok At τ m sm β τ2 sm2 β2)) := by
  refine C_enter (M := E_m45) rfl (Nat.le_of_ble_eq_true rfl) (fun h0 h hs => ?_)
  show B_R (d + 4) _ (0, [(0, .ref o)], []) _ _ _
  have hpz := hp.z hs
  have za := hpz.2.2.1
  have zn := hpz.2.2.2.1
  have zfo := hpz.2.2.2.2
  have nn0 := hp.2.2.2.2.1
  have nn1 := hp.2.2.2.2.2
  have hne := hp.ne hd
  have hm0 := hd.1.2.2.2.2.1
  have hm1 := hd.1.2.2.2.2.2.1
  have hsm0 := hd.1.2.2.2.2.2.2.1
  have hsm1 := hd.1.2.2.2.2.2.2.2
  have hra := hp.r a a0
  have hrb := hp.r (a + 1) (by omega)
  have eP : P_atom S (fo ≠ 0) a = P_esc S (a + 1) := by
    unfold P_atom
    rw [if_neg (by omega), if_neg (by omega), if_neg (by omega), if_pos hS]
  rw [eP]
  refine Z_go (f2 := (1, [(0, .ref o)], [.ref o])) (fun _ => rfl) ?_
  refine Z_go (f2 := (2, [(0, .ref o)], [.ref o, .ref o])) (fun _ => rfl) ?_
  refine C_gi rfl hs hp.1.1 (by decide) (Nat.le_of_ble_eq_true rfl) rfl ?_
  rw [show C_F (s) o 5 = a from (by first | exact hp.1.2.2.2.2.2.2.2.2.2.1 | exact (if_neg (fun e => absurd e.1 (by assumption))).trans hp.1.2.2.2.2.2.2.2.2.2.1 | exact (if_neg (fun e => absurd e.2 (by decide))).trans hp.1.2.2.2.2.2.2.2.2.2.1 | exact (if_neg (fun e => absurd e.2 (by decide))).trans ((if_neg (fun e => absurd e.2 (by decide))).trans hp.1.2.2.2.2.2.2.2.2.2.1) | exact (if_neg (fun e => absurd e.2 (by decide))).trans ((if_neg (fun e => absurd e.2 (by decide))).trans ((if_neg (fun e => absurd e.2 (by decide))).trans hp.1.2.2.2.2.2.2.2.2.2.1)))]
  show B_R _ _ (5, [(0, .ref o)], [.int (Zi a), .ref o]) _ _ _
  refine Z_go (f2 := (6, [(0, .ref o)], [.int (Zi 1), .int (Zi a), .ref o])) (fun _ => rfl) ?_
  refine Z_iadd rfl ?_
  refine C_pi rfl hs hp.1.1 (by decide) (Nat.le_of_ble_eq_true rfl) (.inl rfl) rfl rfl rfl (by first | exact hs.zF _ _ | exact Zor_r _ _ | exact hs.zA _ _ | assumption | exact zA _ _ | exact zS _ | exact Zr_not (hs.zA _ _) | exact hs.1.1 _ _ | exact ⟨by omega, by omega⟩) (fun h hs => ?_)
  refine Z_go (f2 := (11, [(0, .ref o)], [.ref o])) (fun _ => rfl) ?_
  refine C_callVR (As := []) (rest := []) rfl (by decide) rfl (by decide) rfl rfl (by decide +kernel) (Nat.le_of_ble_eq_true rfl) hs hp.1.1 (C_peek _ (hp.aa (a + 1)) (by omega)) (fun x q => ?_)
  obtain rfl := q
  have zpk144 := hp.r (a + 1) (by omega)
  show B_R _ _ (14, [(0, .ref o)], [.int (Zi (S (a + 1)))]) _ _ _
  refine Z_go (f2 := (15, [(1, .int (Zi (S (a + 1)))), (0, .ref o)], [])) (fun _ => rfl) ?_
  refine Z_go (f2 := (16, [(1, .int (Zi (S (a + 1)))), (0, .ref o)], [.int (Zi (S (a + 1)))])) (fun _ => rfl) ?_
  refine Z_go (f2 := (18, [(1, .int (Zi (S (a + 1)))), (0, .ref o)], [.int (Zi 98), .int (Zi (S (a + 1)))])) (fun _ => rfl) ?_
  refine Z_cne rfl rfl (by first | exact hs.zF _ _ | exact Zor_r _ _ | exact hs.zA _ _ | assumption | exact zA _ _ | exact zS _ | exact Zr_not (hs.zA _ _) | exact hs.1.1 _ _ | exact ⟨by omega, by omega⟩) (by first | exact hs.zF _ _ | exact Zor_r _ _ | exact hs.zA _ _ | assumption | exact zA _ _ | exact zS _ | exact Zr_not (hs.zA _ _) | exact hs.1.1 _ _ | exact ⟨by omega, by omega⟩) (fun c1 => ?_) (fun c1 => ?_)
  · refine Z_go (f2 := (43, [(1, .int (Zi (S (a + 1)))), (0, .ref o)], [.ref o])) (fun _ => rfl) ?_
    refine C_gr rfl hs hp.1.1 (by decide) (Nat.le_of_ble_eq_true rfl) rfl hp.1.2.2.1 ?_
    have wf145 := hs.1
    refine C_callV (As := []) (rest := []) rfl (by decide) rfl (by decide) rfl rfl (by decide +kernel) (Nat.le_of_ble_eq_true rfl) hs hd.1.1 (C_newSet _ (hd.oF hne)) (fun x h v145 n145 hs q => ?_)
    obtain ⟨rfl, fr145, en145, sm145, β145, c145, rfl, ca145, cb145, hd145, hb145, hc145⟩ := q
    have zc145 : Zr c145 := ⟨by omega, by omega⟩
    have hp145 := (hp.aa (a + 1)).sub wf145 fr145
    have pf145 := ((D_Pf.refl p s).sF hp.1.2.1).on fr145 en145
    have hne := hp145.ne hd145
    show B_R _ _ (49, [(1, .int (Zi (S (a + 1)))), (0, .ref o)], [.int (Zi c145)]) _ _ _
    refine Z_go (f2 := (50, [(2, .int (Zi c145)), (1, .int (Zi (S (a + 1)))), (0, .ref o)], [])) (fun _ => rfl) ?_
    refine Z_go (f2 := (51, [(2, .int (Zi c145)), (1, .int (Zi (S (a + 1)))), (0, .ref o)], [.int (Zi (S (a + 1)))])) (fun _ => rfl) ?_
    refine Z_callQ (vs := [.int (Zi (S (a + 1)))]) (rest := []) rfl (by decide) rfl rfl rfl (Nat.le_of_ble_eq_true rfl) (C_isNam _ (c := S (a + 1)) (by first | exact hs.zF _ _ | exact Zor_r _ _ | exact hs.zA _ _ | assumption | exact zA _ _ | exact zS _ | exact Zr_not (hs.zA _ _) | exact hs.1.1 _ _ | exact ⟨by omega, by omega⟩)) (fun x q => ?_)
    obtain ⟨nm146, rfl, hnm146⟩ := q
    have znm146 : Zr nm146 := ⟨by omega, by omega⟩
    show B_R _ _ (54, [(2, .int (Zi c145)), (1, .int (Zi (S (a + 1)))), (0, .ref o)], [.int (Zi nm146)]) _ _ _
    refine Z_ieq rfl rfl (by first | exact hs.zF _ _ | exact Zor_r _ _ | exact hs.zA _ _ | assumption | exact zA _ _ | exact zS _ | exact Zr_not (hs.zA _ _) | exact hs.1.1 _ _ | exact ⟨by omega, by omega⟩) (fun c2 => ?_) (fun c2 => ?_)
    · refine Z_go (f2 := (70, [(2, .int (Zi c145)), (1, .int (Zi (S (a + 1)))), (0, .ref o)], [.int (Zi (S (a + 1)))])) (fun _ => rfl) ?_
      refine Z_callQ (vs := [.int (Zi (S (a + 1)))]) (rest := []) rfl (by decide) rfl rfl rfl (Nat.le_of_ble_eq_true rfl) (C_escd _ (c := S (a + 1)) (by first | exact hs.zF _ _ | exact Zor_r _ _ | exact hs.zA _ _ | assumption | exact zA _ _ | exact zS _ | exact Zr_not (hs.zA _ _) | exact hs.1.1 _ _ | exact ⟨by omega, by omega⟩)) (fun x q => ?_)
      obtain ⟨es147, ees147⟩ : ∃ z : Int, z = D_escd (S (a + 1)) := ⟨_, rfl⟩
      rw [← ees147] at q
      obtain rfl := q
      have hes147 : es147 = 10 ∧ S (a + 1) = 110 ∨ es147 = 9 ∧ S (a + 1) = 116 ∨ es147 = (S (a + 1)) ∧ D_sgn (S (a + 1)) ∧ ¬ (S (a + 1) = 110 ∨ S (a + 1) = 116) ∨ es147 = -1 ∧ ¬ D_sgn (S (a + 1)) ∧ ¬ (S (a + 1) = 110 ∨ S (a + 1) = 116) := by
        rw [ees147]
        unfold D_escd
        by_cases c1 : S (a + 1) = 110
        · rw [if_pos c1]; exact .inl ⟨rfl, c1⟩
        · rw [if_neg c1]
          by_cases c2 : S (a + 1) = 116
          · rw [if_pos c2]; exact .inr (.inl ⟨rfl, c2⟩)
          · rw [if_neg c2]
            by_cases c3 : D_sgn (S (a + 1))
            · rw [if_pos c3]; exact .inr (.inr (.inl ⟨rfl, c3, by omega⟩))
            · rw [if_neg c3]; exact .inr (.inr (.inr ⟨rfl, c3, by omega⟩))
      have zes147 : Zr es147 := ⟨by omega, by omega⟩
      show B_R _ _ (73, [(2, .int (Zi c145)), (1, .int (Zi (S (a + 1)))), (0, .ref o)], [.int (Zi es147)]) _ _ _
      refine Z_go (f2 := (74, [(2, .int (Zi c145)), (1, .int (Zi (S (a + 1)))), (0, .ref o)], [.int (Zi (-1)), .int (Zi es147)])) (fun _ => rfl) ?_
      refine Z_ceq rfl rfl (by first | exact hs.zF _ _ | exact Zor_r _ _ | exact hs.zA _ _ | assumption | exact zA _ _ | exact zS _ | exact Zr_not (hs.zA _ _) | exact hs.1.1 _ _ | exact ⟨by omega, by omega⟩) (by first | exact hs.zF _ _ | exact Zor_r _ _ | exact hs.zA _ _ | assumption | exact zA _ _ | exact zS _ | exact Zr_not (hs.zA _ _) | exact hs.1.1 _ _ | exact ⟨by omega, by omega⟩) (fun c3 => ?_) (fun c3 => ?_)
      · refine Z_go (f2 := (93, [(2, .int (Zi c145)), (1, .int (Zi (S (a + 1)))), (0, .ref o)], [.ref o])) (fun _ => rfl) ?_
        refine Z_go (f2 := (94, [(2, .int (Zi c145)), (1, .int (Zi (S (a + 1)))), (0, .ref o)], [.int (Zi 1), .ref o])) (fun _ => rfl) ?_
        refine Z_go (f2 := (95, [(2, .int (Zi c145)), (1, .int (Zi (S (a + 1)))), (0, .ref o)], [.ref o, .int (Zi 1), .ref o])) (fun _ => rfl) ?_
        refine C_gi rfl hs hp145.1.1 (by decide) (Nat.le_of_ble_eq_true rfl) rfl ?_
        rw [show C_F (v145) o 5 = a + 1 from (by first | exact hp145.1.2.2.2.2.2.2.2.2.2.1 | exact (if_neg (fun e => absurd e.1 (by assumption))).trans hp145.1.2.2.2.2.2.2.2.2.2.1 | exact (if_neg (fun e => absurd e.2 (by decide))).trans hp145.1.2.2.2.2.2.2.2.2.2.1 | exact (if_neg (fun e => absurd e.2 (by decide))).trans ((if_neg (fun e => absurd e.2 (by decide))).trans hp145.1.2.2.2.2.2.2.2.2.2.1) | exact (if_neg (fun e => absurd e.2 (by decide))).trans ((if_neg (fun e => absurd e.2 (by decide))).trans ((if_neg (fun e => absurd e.2 (by decide))).trans hp145.1.2.2.2.2.2.2.2.2.2.1)))]
        show B_R _ _ (98, [(2, .int (Zi c145)), (1, .int (Zi (S (a + 1)))), (0, .ref o)], [.int (Zi (a + 1)), .int (Zi 1), .ref o]) _ _ _
        refine C_callV (As := [.int (Zi 1), .int (Zi (a + 1))]) (rest := []) rfl (by decide) rfl (by decide) rfl rfl (by decide +kernel) (Nat.le_of_ble_eq_true rfl) hs hp145.1.1 (C_fail0 _ hp145 (kd := 1) (wh := a + 1) (by first | exact hs.zF _ _ | exact Zor_r _ _ | exact hs.zA _ _ | assumption | exact zA _ _ | exact zS _ | exact Zr_not (hs.zA _ _) | exact hs.1.1 _ _ | exact ⟨by omega, by omega⟩) (by first | exact hs.zF _ _ | exact Zor_r _ _ | exact hs.zA _ _ | assumption | exact zA _ _ | exact zS _ | exact Zr_not (hs.zA _ _) | exact hs.1.1 _ _ | exact ⟨by omega, by omega⟩)) (fun x h uf nf hs q => ?_)
        obtain ⟨rfl, rfl, rfl⟩ := q
        show B_R _ _ (101, [(2, .int (Zi c145)), (1, .int (Zi (S (a + 1)))), (0, .ref o)], []) _ _ _
        refine Z_go (f2 := (102, [(2, .int (Zi c145)), (1, .int (Zi (S (a + 1)))), (0, .ref o)], [.int (Zi (-1))])) (fun _ => rfl) ?_
        refine Z_iret rfl rfl (by first | rfl | decide | exact narrow_b01 (by omega)) ⟨_, hs, ?_⟩
        try dsimp only
        first
        | (exfalso; omega)
        | (refine ⟨rfl, ((pf145.sF hp145.1.2.1).sF hp145.1.2.1), _, _, _, _, _, -1, _, _, rfl, by omega, by omega, ((hp145.ff 1 (by decide)).pp (a + 1) (by decide)), ((hd145.oF hne).oF hne), hz, by omega, by omega, ?_⟩
           refine P_say.no ?_ (by omega)
           unfold P_esc
           rw [if_neg (by omega), if_neg (by omega), if_neg (by omega), if_neg (by omega), if_neg (by omega)])
      · refine Z_go (f2 := (78, [(2, .int (Zi c145)), (1, .int (Zi (S (a + 1)))), (0, .ref o)], [.ref o])) (fun _ => rfl) ?_
        refine C_gr rfl hs hp145.1.1 (by decide) (Nat.le_of_ble_eq_true rfl) rfl hp145.1.2.2.1 ?_
        refine Z_go (f2 := (82, [(2, .int (Zi c145)), (1, .int (Zi (S (a + 1)))), (0, .ref o)], [.int (Zi c145), .ref tr])) (fun _ => rfl) ?_
        refine Z_go (f2 := (83, [(2, .int (Zi c145)), (1, .int (Zi (S (a + 1)))), (0, .ref o)], [.int (Zi (S (a + 1))), .int (Zi c145), .ref tr])) (fun _ => rfl) ?_
        refine Z_callQ (vs := [.int (Zi (S (a + 1)))]) (rest := [.int (Zi c145), .ref tr]) rfl (by decide) rfl rfl rfl (Nat.le_of_ble_eq_true rfl) (C_escd _ (c := S (a + 1)) (by first | exact hs.zF _ _ | exact Zor_r _ _ | exact hs.zA _ _ | assumption | exact zA _ _ | exact zS _ | exact Zr_not (hs.zA _ _) | exact hs.1.1 _ _ | exact ⟨by omega, by omega⟩)) (fun x q => ?_)
        obtain ⟨es148, ees148⟩ : ∃ z : Int, z = D_escd (S (a + 1)) := ⟨_, rfl⟩
        rw [← ees148] at q
        obtain rfl := q
        have hes148 : es148 = 10 ∧ S (a + 1) = 110 ∨ es148 = 9 ∧ S (a + 1) = 116 ∨ es148 = (S (a + 1)) ∧ D_sgn (S (a + 1)) ∧ ¬ (S (a + 1) = 110 ∨ S (a + 1) = 116) ∨ es148 = -1 ∧ ¬ D_sgn (S (a + 1)) ∧ ¬ (S (a + 1) = 110 ∨ S (a + 1) = 116) := by
          rw [ees148]
          unfold D_escd
          by_cases c1 : S (a + 1) = 110
          · rw [if_pos c1]; exact .inl ⟨rfl, c1⟩
          · rw [if_neg c1]
            by_cases c2 : S (a + 1) = 116
            · rw [if_pos c2]; exact .inr (.inl ⟨rfl, c2⟩)
            · rw [if_neg c2]
              by_cases c3 : D_sgn (S (a + 1))
              · rw [if_pos c3]; exact .inr (.inr (.inl ⟨rfl, c3, by omega⟩))
              · rw [if_neg c3]; exact .inr (.inr (.inr ⟨rfl, c3, by omega⟩))
        have zes148 : Zr es148 := ⟨by omega, by omega⟩
        show B_R _ _ (86, [(2, .int (Zi c145)), (1, .int (Zi (S (a + 1)))), (0, .ref o)], [.int (Zi es148), .int (Zi c145), .ref tr]) _ _ _
        have wf149 := hs.1
        refine C_callV (As := [.int (Zi c145), .int (Zi es148)]) (rest := []) rfl (by decide) rfl (by decide) rfl rfl (by decide +kernel) (Nat.le_of_ble_eq_true rfl) hs hd145.1.1 (C_incl _ hd145 (c := c145) (k := es148) (by first | exact hs.zF _ _ | exact Zor_r _ _ | exact hs.zA _ _ | assumption | exact zA _ _ | exact zS _ | exact Zr_not (hs.zA _ _) | exact hs.1.1 _ _ | exact ⟨by omega, by omega⟩) (by omega) (by omega)) (fun x h v149 n149 hs q => ?_)
        obtain ⟨rfl, rfl, fr149, en149, β149, hd149, hb149⟩ := q
        have hp149 := hp145.sub wf149 fr149
        have pf149 := pf145.on fr149 en149
        have hne := hp149.ne hd149
        show B_R _ _ (89, [(2, .int (Zi c145)), (1, .int (Zi (S (a + 1)))), (0, .ref o)], []) _ _ _
        refine Z_go (f2 := (103, [(2, .int (Zi c145)), (1, .int (Zi (S (a + 1)))), (0, .ref o)], [])) (fun _ => rfl) ?_
        refine Z_go (f2 := (104, [(2, .int (Zi c145)), (1, .int (Zi (S (a + 1)))), (0, .ref o)], [.ref o])) (fun _ => rfl) ?_
        refine Z_go (f2 := (105, [(2, .int (Zi c145)), (1, .int (Zi (S (a + 1)))), (0, .ref o)], [.ref o, .ref o])) (fun _ => rfl) ?_
        refine C_gi rfl hs hp149.1.1 (by decide) (Nat.le_of_ble_eq_true rfl) rfl ?_
        rw [show C_F (v149) o 5 = a + 1 from (by first | exact hp149.1.2.2.2.2.2.2.2.2.2.1 | exact (if_neg (fun e => absurd e.1 (by assumption))).trans hp149.1.2.2.2.2.2.2.2.2.2.1 | exact (if_neg (fun e => absurd e.2 (by decide))).trans hp149.1.2.2.2.2.2.2.2.2.2.1 | exact (if_neg (fun e => absurd e.2 (by decide))).trans ((if_neg (fun e => absurd e.2 (by decide))).trans hp149.1.2.2.2.2.2.2.2.2.2.1) | exact (if_neg (fun e => absurd e.2 (by decide))).trans ((if_neg (fun e => absurd e.2 (by decide))).trans ((if_neg (fun e => absurd e.2 (by decide))).trans hp149.1.2.2.2.2.2.2.2.2.2.1)))]
        show B_R _ _ (108, [(2, .int (Zi c145)), (1, .int (Zi (S (a + 1)))), (0, .ref o)], [.int (Zi (a + 1)), .ref o]) _ _ _
        refine Z_go (f2 := (109, [(2, .int (Zi c145)), (1, .int (Zi (S (a + 1)))), (0, .ref o)], [.int (Zi 1), .int (Zi (a + 1)), .ref o])) (fun _ => rfl) ?_
        refine Z_iadd rfl ?_
        refine C_pi rfl hs hp149.1.1 (by decide) (Nat.le_of_ble_eq_true rfl) (.inl rfl) rfl rfl rfl (by first | exact hs.zF _ _ | exact Zor_r _ _ | exact hs.zA _ _ | assumption | exact zA _ _ | exact zS _ | exact Zr_not (hs.zA _ _) | exact hs.1.1 _ _ | exact ⟨by omega, by omega⟩) (fun h hs => ?_)
        refine Z_go (f2 := (114, [(2, .int (Zi c145)), (1, .int (Zi (S (a + 1)))), (0, .ref o)], [.ref o])) (fun _ => rfl) ?_
        refine C_gr rfl hs hp149.1.1 (by decide) (Nat.le_of_ble_eq_true rfl) rfl hp149.1.2.2.1 ?_
        refine Z_go (f2 := (118, [(2, .int (Zi c145)), (1, .int (Zi (S (a + 1)))), (0, .ref o)], [.int (Zi c145), .ref tr])) (fun _ => rfl) ?_
        have wf150 := hs.1
        refine C_callV (As := [.int (Zi c145)]) (rest := []) rfl (by decide) rfl (by decide) rfl rfl (by decide +kernel) (Nat.le_of_ble_eq_true rfl) hs hd149.1.1 (C_newByt _ (hd149.oF hne) hz (a := c145) (by first | exact hs.zF _ _ | exact Zor_r _ _ | exact hs.zA _ _ | assumption | exact zA _ _ | exact zS _ | exact Zr_not (hs.zA _ _) | exact hs.1.1 _ _ | exact ⟨by omega, by omega⟩)) (fun x h v150 n150 hs q => ?_)
        obtain ⟨rfl, fr150, en150, m150, τ150, i150, rfl, ia150, ib150, hd150, hz150, hn150⟩ := q
        have zi150 : Zr i150 := ⟨by omega, by omega⟩
        have hp150 := (hp149.aa (a + 1 + 1)).sub wf150 fr150
        have pf150 := (pf149.sF hp149.1.2.1).on fr150 en150
        have hne := hp150.ne hd150
        show B_R _ _ (121, [(2, .int (Zi c145)), (1, .int (Zi (S (a + 1)))), (0, .ref o)], [.int (Zi i150)]) _ _ _
        refine Z_iret rfl rfl (by first | rfl | decide | exact narrow_b01 (by omega)) ⟨_, hs, ?_⟩
        try dsimp only
        first
        | (exfalso; omega)
        | (rcases (by omega : S (a + 1) = 110 ∨ S (a + 1) = 116 ∨ ¬ (S (a + 1) = 110 ∨ S (a + 1) = 116)) with hq | hq | hq
           · obtain ⟨ec, es⟩ := hc145 hs8
             obtain ⟨e1, e2, e3⟩ := hn150 hm
             refine ⟨rfl, pf150, _, _, _, _, _, i150, _, _, rfl, by omega, by omega, hp150, hd150, hz150, by omega, by omega, ?_⟩
             refine P_say.ok (v := .inr (fun x => x = 10)) (b := a + 2) ?_ ⟨by omega, by omega, by omega, e1, e2, At_ok.set (by rw [e3, ec]) es (fun d j d0 d1 j0 j1 => by
                 have e : ¬ d = c145 := by omega
                 rw [hb149, hb145]
                 simp [e]) ?_⟩
             · unfold P_esc
               rw [if_neg (by omega), if_neg (by omega), if_pos (by omega), show a + 1 + 1 = a + 2 by omega]
             · intro j j0 j1
               have ej : ¬ T_has β145 sm j := fun h => by rw [hb145] at h; exact h.2 ec.symm
               rw [hb149]
               exact ⟨fun h => h.elim (fun h => absurd h ej) (fun h => by have := h.2.1; omega), fun h => .inr ⟨ec.symm, by omega, by omega, by omega, by omega⟩⟩
           · obtain ⟨ec, es⟩ := hc145 hs8
             obtain ⟨e1, e2, e3⟩ := hn150 hm
             refine ⟨rfl, pf150, _, _, _, _, _, i150, _, _, rfl, by omega, by omega, hp150, hd150, hz150, by omega, by omega, ?_⟩
             refine P_say.ok (v := .inr (fun x => x = 9)) (b := a + 2) ?_ ⟨by omega, by omega, by omega, e1, e2, At_ok.set (by rw [e3, ec]) es (fun d j d0 d1 j0 j1 => by
                 have e : ¬ d = c145 := by omega
                 rw [hb149, hb145]
                 simp [e]) ?_⟩
             · unfold P_esc
               rw [if_neg (by omega), if_neg (by omega), if_neg (by omega), if_pos (by omega), show a + 1 + 1 = a + 2 by omega]
             · intro j j0 j1
               have ej : ¬ T_has β145 sm j := fun h => by rw [hb145] at h; exact h.2 ec.symm
               rw [hb149]
               exact ⟨fun h => h.elim (fun h => absurd h ej) (fun h => by have := h.2.1; omega), fun h => .inr ⟨ec.symm, by omega, by omega, by omega, by omega⟩⟩
           · obtain ⟨ec, es⟩ := hc145 hs8
             obtain ⟨e1, e2, e3⟩ := hn150 hm
             refine ⟨rfl, pf150, _, _, _, _, _, i150, _, _, rfl, by omega, by omega, hp150, hd150, hz150, by omega, by omega, ?_⟩
             refine P_say.ok (v := .inr (fun x => x = S (a + 1))) (b := a + 2) ?_ ⟨by omega, by omega, by omega, e1, e2, At_ok.set (by rw [e3, ec]) es (fun d j d0 d1 j0 j1 => by
                 have e : ¬ d = c145 := by omega
                 rw [hb149, hb145]
                 simp [e]) ?_⟩
             · unfold P_esc
               rw [if_neg (by omega), if_neg (by omega), if_neg (by omega), if_neg (by omega), if_pos (by omega), show a + 1 + 1 = a + 2 by omega]
             · intro j j0 j1
               have ej : ¬ T_has β145 sm j := fun h => by rw [hb145] at h; exact h.2 ec.symm
               rw [hb149]
               exact ⟨fun h => h.elim (fun h => absurd h ej) (fun h => by have := h.2.1; omega), fun h => .inr ⟨ec.symm, by omega, by omega, by omega, by omega⟩⟩)
    · refine Z_go (f2 := (58, [(2, .int (Zi c145)), (1, .int (Zi (S (a + 1)))), (0, .ref o)], [.ref o])) (fun _ => rfl) ?_
      refine C_gr rfl hs hp145.1.1 (by decide) (Nat.le_of_ble_eq_true rfl) rfl hp145.1.2.2.1 ?_
      refine Z_go (f2 := (62, [(2, .int (Zi c145)), (1, .int (Zi (S (a + 1)))), (0, .ref o)], [.int (Zi c145), .ref tr])) (fun _ => rfl) ?_
      refine Z_go (f2 := (63, [(2, .int (Zi c145)), (1, .int (Zi (S (a + 1)))), (0, .ref o)], [.int (Zi (S (a + 1))), .int (Zi c145), .ref tr])) (fun _ => rfl) ?_
      have wf151 := hs.1
      refine C_callV (As := [.int (Zi c145), .int (Zi (S (a + 1)))]) (rest := []) rfl (by decide) rfl (by decide) rfl rfl (by decide +kernel) (Nat.le_of_ble_eq_true rfl) hs hd145.1.1 (C_named _ hd145 (c := c145) (nm := S (a + 1)) (by omega) (by omega) (by omega)) (fun x h v151 n151 hs q => ?_)
      obtain ⟨rfl, rfl, fr151, en151, β151, hd151, hb151⟩ := q
      have hp151 := hp145.sub wf151 fr151
      have pf151 := pf145.on fr151 en151
      have hne := hp151.ne hd151
      show B_R _ _ (66, [(2, .int (Zi c145)), (1, .int (Zi (S (a + 1)))), (0, .ref o)], []) _ _ _
      refine Z_go (f2 := (103, [(2, .int (Zi c145)), (1, .int (Zi (S (a + 1)))), (0, .ref o)], [])) (fun _ => rfl) ?_
      refine Z_go (f2 := (104, [(2, .int (Zi c145)), (1, .int (Zi (S (a + 1)))), (0, .ref o)], [.ref o])) (fun _ => rfl) ?_
      refine Z_go (f2 := (105, [(2, .int (Zi c145)), (1, .int (Zi (S (a + 1)))), (0, .ref o)], [.ref o, .ref o])) (fun _ => rfl) ?_
      refine C_gi rfl hs hp151.1.1 (by decide) (Nat.le_of_ble_eq_true rfl) rfl ?_
      rw [show C_F (v151) o 5 = a + 1 from (by first | exact hp151.1.2.2.2.2.2.2.2.2.2.1 | exact (if_neg (fun e => absurd e.1 (by assumption))).trans hp151.1.2.2.2.2.2.2.2.2.2.1 | exact (if_neg (fun e => absurd e.2 (by decide))).trans hp151.1.2.2.2.2.2.2.2.2.2.1 | exact (if_neg (fun e => absurd e.2 (by decide))).trans ((if_neg (fun e => absurd e.2 (by decide))).trans hp151.1.2.2.2.2.2.2.2.2.2.1) | exact (if_neg (fun e => absurd e.2 (by decide))).trans ((if_neg (fun e => absurd e.2 (by decide))).trans ((if_neg (fun e => absurd e.2 (by decide))).trans hp151.1.2.2.2.2.2.2.2.2.2.1)))]
      show B_R _ _ (108, [(2, .int (Zi c145)), (1, .int (Zi (S (a + 1)))), (0, .ref o)], [.int (Zi (a + 1)), .ref o]) _ _ _
      refine Z_go (f2 := (109, [(2, .int (Zi c145)), (1, .int (Zi (S (a + 1)))), (0, .ref o)], [.int (Zi 1), .int (Zi (a + 1)), .ref o])) (fun _ => rfl) ?_
      refine Z_iadd rfl ?_
      refine C_pi rfl hs hp151.1.1 (by decide) (Nat.le_of_ble_eq_true rfl) (.inl rfl) rfl rfl rfl (by first | exact hs.zF _ _ | exact Zor_r _ _ | exact hs.zA _ _ | assumption | exact zA _ _ | exact zS _ | exact Zr_not (hs.zA _ _) | exact hs.1.1 _ _ | exact ⟨by omega, by omega⟩) (fun h hs => ?_)
      refine Z_go (f2 := (114, [(2, .int (Zi c145)), (1, .int (Zi (S (a + 1)))), (0, .ref o)], [.ref o])) (fun _ => rfl) ?_
      refine C_gr rfl hs hp151.1.1 (by decide) (Nat.le_of_ble_eq_true rfl) rfl hp151.1.2.2.1 ?_
      refine Z_go (f2 := (118, [(2, .int (Zi c145)), (1, .int (Zi (S (a + 1)))), (0, .ref o)], [.int (Zi c145), .ref tr])) (fun _ => rfl) ?_
      have wf152 := hs.1
      refine C_callV (As := [.int (Zi c145)]) (rest := []) rfl (by decide) rfl (by decide) rfl rfl (by decide +kernel) (Nat.le_of_ble_eq_true rfl) hs hd151.1.1 (C_newByt _ (hd151.oF hne) hz (a := c145) (by first | exact hs.zF _ _ | exact Zor_r _ _ | exact hs.zA _ _ | assumption | exact zA _ _ | exact zS _ | exact Zr_not (hs.zA _ _) | exact hs.1.1 _ _ | exact ⟨by omega, by omega⟩)) (fun x h v152 n152 hs q => ?_)
      obtain ⟨rfl, fr152, en152, m152, τ152, i152, rfl, ia152, ib152, hd152, hz152, hn152⟩ := q
      have zi152 : Zr i152 := ⟨by omega, by omega⟩
      have hp152 := (hp151.aa (a + 1 + 1)).sub wf152 fr152
      have pf152 := (pf151.sF hp151.1.2.1).on fr152 en152
      have hne := hp152.ne hd152
      show B_R _ _ (121, [(2, .int (Zi c145)), (1, .int (Zi (S (a + 1)))), (0, .ref o)], [.int (Zi i152)]) _ _ _
      refine Z_iret rfl rfl (by first | rfl | decide | exact narrow_b01 (by omega)) ⟨_, hs, ?_⟩
      try dsimp only
      first
      | (exfalso; omega)
      | (obtain ⟨ec, es⟩ := hc145 hs8
         obtain ⟨e1, e2, e3⟩ := hn152 hm
         refine ⟨rfl, pf152, _, _, _, _, _, i152, _, _, rfl, by omega, by omega, hp152, hd152, hz152, by omega, by omega, ?_⟩
         refine P_say.ok (v := .inr (D_kd (S (a + 1)))) (b := a + 2) ?_ ⟨by omega, by omega, by omega, e1, e2, At_ok.set (by rw [e3, ec]) es (fun d j d0 d1 j0 j1 => by
             have e : ¬ d = c145 := by omega
             rw [hb151 _ _ (by omega) j0 j1, hb145]
             simp [e]) ?_⟩
         · unfold P_esc
           rw [if_neg (by omega), if_pos (by omega), show a + 1 + 1 = a + 2 by omega]
         · intro j j0 j1
           have ej : ¬ T_has β145 sm j := fun h => by rw [hb145] at h; exact h.2 ec.symm
           rw [hb151 _ _ (by omega) j0 j1]
           exact ⟨fun h => h.elim (fun h => absurd h ej) (fun h => h.2), fun h => .inr ⟨ec.symm, h⟩⟩)
  · refine Z_go (f2 := (22, [(1, .int (Zi (S (a + 1)))), (0, .ref o)], [.ref o])) (fun _ => rfl) ?_
    refine Z_go (f2 := (23, [(1, .int (Zi (S (a + 1)))), (0, .ref o)], [.ref o, .ref o])) (fun _ => rfl) ?_
    refine C_gi rfl hs hp.1.1 (by decide) (Nat.le_of_ble_eq_true rfl) rfl ?_
    rw [show C_F (C_sF s o 5 (a + 1)) o 5 = a + 1 from (by first | rfl | (simp only [C_F, C_P, C_A, C_L, C_Q, C_K, C_T, C_n, C_sF, C_sP, C_sA, C_sL, C_sQ, C_sAf, C_sQf]; simp [*]; done) | (simp only [C_F, C_P, C_A, C_L, C_Q, C_K, C_T, C_n, C_sF, C_sP, C_sA, C_sL, C_sQ, C_sAf, C_sQf]; simp; omega))]; show B_R _ _ (26, [(1, .int (Zi (S (a + 1)))), (0, .ref o)], [.int (Zi (a + 1)), .ref o]) _ _ _
    refine Z_go (f2 := (27, [(1, .int (Zi (S (a + 1)))), (0, .ref o)], [.int (Zi 1), .int (Zi (a + 1)), .ref o])) (fun _ => rfl) ?_
    refine Z_iadd rfl ?_
    refine C_pi rfl hs hp.1.1 (by decide) (Nat.le_of_ble_eq_true rfl) (.inl rfl) rfl rfl rfl (by first | exact hs.zF _ _ | exact Zor_r _ _ | exact hs.zA _ _ | assumption | exact zA _ _ | exact zS _ | exact Zr_not (hs.zA _ _) | exact hs.1.1 _ _ | exact ⟨by omega, by omega⟩) (fun h hs => ?_)
    refine Z_go (f2 := (32, [(1, .int (Zi (S (a + 1)))), (0, .ref o)], [.ref o])) (fun _ => rfl) ?_
    refine C_gr rfl hs hp.1.1 (by decide) (Nat.le_of_ble_eq_true rfl) rfl hp.1.2.2.1 ?_
    refine Z_go (f2 := (37, [(1, .int (Zi (S (a + 1)))), (0, .ref o)], [.int (Zi 6), .ref tr])) (fun _ => rfl) ?_
    refine Z_go (f2 := (38, [(1, .int (Zi (S (a + 1)))), (0, .ref o)], [.int (Zi 1), .int (Zi 6), .ref tr])) (fun _ => rfl) ?_
    have wf153 := hs.1
    refine C_callV (As := [.int (Zi 6), .int (Zi 1)]) (rest := []) rfl (by decide) rfl (by decide) rfl rfl (by decide +kernel) (Nat.le_of_ble_eq_true rfl) hs hd.1.1 (C_newNode _ ((hd.oF hne).oF hne) hz (k := 6) (z := 1) (by first | exact hs.zF _ _ | exact Zor_r _ _ | exact hs.zA _ _ | assumption | exact zA _ _ | exact zS _ | exact Zr_not (hs.zA _ _) | exact hs.1.1 _ _ | exact ⟨by omega, by omega⟩) (by omega) (by omega)) (fun x h v153 n153 hs q => ?_)
    obtain ⟨rfl, fr153, en153, m153, τ153, i153, rfl, ia153, ib153, hd153, hz153, hn153⟩ := q
    have zi153 : Zr i153 := ⟨by omega, by omega⟩
    have hp153 := ((hp.aa (a + 1)).aa (a + 1 + 1)).sub wf153 fr153
    have pf153 := (((D_Pf.refl p s).sF hp.1.2.1).sF hp.1.2.1).on fr153 en153
    have hne := hp153.ne hd153
    show B_R _ _ (41, [(1, .int (Zi (S (a + 1)))), (0, .ref o)], [.int (Zi i153)]) _ _ _
    refine Z_iret rfl rfl (by first | rfl | decide | exact narrow_b01 (by omega)) ⟨_, hs, ?_⟩
    try dsimp only
    obtain ⟨e1, e2, e3⟩ := hn153 hm
    refine ⟨rfl, pf153, _, _, _, _, _, i153, _, _, rfl, by omega, by omega, hp153, hd153, hz153, by omega, by omega, ?_⟩
    refine P_say.ok (v := .inl 4) (b := a + 2) ?_ ⟨by omega, by omega, by omega, e1, e2, At_ok.op (e3.trans (by rw [show (4 : Int) + 2 = 6 from rfl])) rfl (fun d j _ _ _ _ => Iff.rfl)⟩
    unfold P_esc
    rw [if_pos (by omega), show a + 1 + 1 = a + 2 by omega]
