/-! the class: Parser: braces -/
theorem T_mul_b {l x : Int} (l0 : 0 ≤ l) (l1 : l ≤ 21) (x0 : 0 ≤ x) (x1 : x ≤ 1000000) : 0 ≤ l * x ∧ l * x ≤ 21000000 := by
  refine ⟨Int.mul_nonneg l0 x0, ?_⟩
  have h1 := Int.mul_le_mul l1 x1 x0 (by omega)
  omega
/-- the size of what is counted -/
def T_cz (l h x : Int) : Int := if h = -1 then (l + 1) * x + 1 else h * x + h - l
theorem C_brace (d : Nat) {s : C_S} {p : List Nat} {o tr src N : Nat} {S : Int → Int} {nn fo pl a : Int} {A : Nat → Nat} {m sm : Int} {τ : Nat → Int → Int} {β : Int → Int64} {i0 : Int} (hp : D_P0 s p o tr src N S nn fo 0 pl a) (hd : D_Tr s (p ++ [tr]) tr A m sm τ β) (hz : T_zb τ) (a0 : 0 ≤ a) (an : a ≤ nn) (a1 : 0 < a) (hm : m < 168) (i00 : -1 ≤ i0) (i01 : i0 < 168) (hS : S (a - 1) = 123) : C_ok (d + 5) 38 [.ref o, .int (Zi i0)] s (fun x s2 n => n = 0 ∧ D_Pf p s s2 ∧ ∃ (f2 pl2 a2 m2 i : Int) (τ2 : Nat → Int → Int), x = some (.int (Zi i)) ∧ -1 ≤ i ∧ i < 168 ∧ D_P0 s2 p o tr src N S nn fo f2 pl2 a2 ∧ D_Tr s2 (p ++ [tr]) tr A m2 sm τ2 β ∧ T_zb τ2 ∧ a ≤ a2 ∧ a2 ≤ nn + 5 ∧ P_say (P_cnt S (a - 1)) f2 pl2 (fun e b => a2 = b ∧ b ≤ nn ∧ a ≤ b ∧ i = m ∧ m2 = m + 1 ∧ ∃ l h, e = some (11, l, h) ∧ T_cok 11 l h ∧ τ2 = T_nr τ m i0 l h (T_mn (T_cz l h (T_gs τ i0))))) := by
  refine C_enter (M := E_m38) rfl (Nat.le_of_ble_eq_true rfl) (fun h0 h hs => ?_)
  show B_R (d + 4) _ (0, [(0, .ref o), (1, .int (Zi i0))], []) _ _ _
  have hpz := hp.z hs
  have za := hpz.2.2.1
  have zn := hpz.2.2.2.1
  have zfo := hpz.2.2.2.2
  have nn0 := hp.2.2.2.2.1
  have nn1 := hp.2.2.2.2.2
  have hne := hp.ne hd
  have hm0 := hd.1.2.2.2.2.1
  have hm1 := hd.1.2.2.2.2.2.1
  have hsm0 := hd.1.2.2.2.2.2.2.1
  have hsm1 := hd.1.2.2.2.2.2.2.2
  have hra := hp.r a a0
  have hR : P_cnt S (a - 1) = (match P_num S a with
    | .inl (k, w) => .inl (k, w)
    | .inr (lo, b) =>
      if S b = 44 then
        (if S (b + 1) = 125 then .inr (some (11, lo, -1), b + 2)
        else match P_num S (b + 1) with
          | .inl (k, w) => .inl (k, w)
          | .inr (hi, c) => if hi < lo then .inl (2, b + 1) else if S c = 125 then .inr (some (11, lo, hi), c + 1) else .inl (1, c))
      else if S b = 125 then .inr (some (11, lo, lo), b + 1) else .inl (1, b)) := by
    unfold P_cnt
    rw [if_neg (by omega), if_neg (by omega), if_neg (by omega), if_neg (by omega), show a - 1 + 1 = a by omega]
    rfl
  have hlt : ∀ k v b, P_num S k = .inr (v, b) → k < b ∧ b ≤ nn ∧ 0 ≤ v ∧ v ≤ 20 := fun k v b e => P_num_lt (n := nn) hp.2.2.1 e
  refine Z_go (f2 := (1, [(0, .ref o), (1, .int (Zi i0))], [.ref o])) (fun _ => rfl) ?_
  refine C_gr rfl hs hp.1.1 (by decide) (Nat.le_of_ble_eq_true rfl) rfl hp.1.2.2.1 ?_
  refine Z_go (f2 := (5, [(0, .ref o), (1, .int (Zi i0))], [.int (Zi i0), .ref tr])) (fun _ => rfl) ?_
  refine C_callVR (As := [.int (Zi i0)]) (rest := []) rfl (by decide) rfl (by decide) rfl rfl (by decide +kernel) (Nat.le_of_ble_eq_true rfl) hs hd.1.1 (C_t8 _ hd (i := i0) (by first | exact hs.zF _ _ | exact Zor_r _ _ | exact hs.zA _ _ | assumption | exact zA _ _ | exact zS _ | exact Zr_not (hs.zA _ _) | exact hs.1.1 _ _ | exact ⟨by omega, by omega⟩)) (fun x q => ?_)
  obtain rfl := q
  have hgs154 := T_gs_b hz i0
  show B_R _ _ (8, [(0, .ref o), (1, .int (Zi i0))], [.int (Zi (T_gs τ i0))]) _ _ _
  refine Z_go (f2 := (9, [(2, .int (Zi (T_gs τ i0))), (0, .ref o), (1, .int (Zi i0))], [])) (fun _ => rfl) ?_
  refine Z_go (f2 := (10, [(2, .int (Zi (T_gs τ i0))), (0, .ref o), (1, .int (Zi i0))], [.ref o])) (fun _ => rfl) ?_
  have wf155 := hs.1
  refine C_callV (As := []) (rest := []) rfl (by decide) rfl (by decide) rfl rfl (by decide +kernel) (Nat.le_of_ble_eq_true rfl) hs hp.1.1 (C_num _ hp (by omega) (by omega)) (fun x h v155 n155 hs q => ?_)
  obtain ⟨rfl, pg155, f155, pl155, a155, z155, rfl, hp155, ga155, gb155, gc155, gd155, sy155⟩ := q
  have pf155 := (D_Pf.refl p s).trO pg155
  have hd155 := hd.po wf155 pg155
  have hne := hp155.ne hd155
  obtain ⟨zzf155, zzp155, zza155, _⟩ := hp155.z hs
  show B_R _ _ (13, [(2, .int (Zi (T_gs τ i0))), (0, .ref o), (1, .int (Zi i0))], [.int (Zi z155)]) _ _ _
  refine Z_go (f2 := (14, [(3, .int (Zi z155)), (2, .int (Zi (T_gs τ i0))), (0, .ref o), (1, .int (Zi i0))], [])) (fun _ => rfl) ?_
  refine Z_go (f2 := (15, [(3, .int (Zi z155)), (2, .int (Zi (T_gs τ i0))), (0, .ref o), (1, .int (Zi i0))], [.int (Zi z155)])) (fun _ => rfl) ?_
  refine Z_go (f2 := (17, [(4, .int (Zi z155)), (3, .int (Zi z155)), (2, .int (Zi (T_gs τ i0))), (0, .ref o), (1, .int (Zi i0))], [])) (fun _ => rfl) ?_
  refine Z_go (f2 := (18, [(4, .int (Zi z155)), (3, .int (Zi z155)), (2, .int (Zi (T_gs τ i0))), (0, .ref o), (1, .int (Zi i0))], [.ref o])) (fun _ => rfl) ?_
  refine C_gi rfl hs hp155.1.1 (by decide) (Nat.le_of_ble_eq_true rfl) rfl ?_
  rw [show C_F (v155) o 1 = f155 from (by first | exact hp155.1.2.2.2.2.2.2.1 | exact (if_neg (fun e => absurd e.1 (by assumption))).trans hp155.1.2.2.2.2.2.2.1 | exact (if_neg (fun e => absurd e.2 (by decide))).trans hp155.1.2.2.2.2.2.2.1 | exact (if_neg (fun e => absurd e.2 (by decide))).trans ((if_neg (fun e => absurd e.2 (by decide))).trans hp155.1.2.2.2.2.2.2.1) | exact (if_neg (fun e => absurd e.2 (by decide))).trans ((if_neg (fun e => absurd e.2 (by decide))).trans ((if_neg (fun e => absurd e.2 (by decide))).trans hp155.1.2.2.2.2.2.2.1)))]
  show B_R _ _ (21, [(4, .int (Zi z155)), (3, .int (Zi z155)), (2, .int (Zi (T_gs τ i0))), (0, .ref o), (1, .int (Zi i0))], [.int (Zi f155)]) _ _ _
  refine Z_ine rfl rfl (by first | exact hs.zF _ _ | exact Zor_r _ _ | exact hs.zA _ _ | assumption | exact zA _ _ | exact zS _ | exact Zr_not (hs.zA _ _) | exact hs.1.1 _ _ | exact ⟨by omega, by omega⟩) (fun c1 => ?_) (fun c1 => ?_)
  · refine Z_go (f2 := (65, [(4, .int (Zi z155)), (3, .int (Zi z155)), (2, .int (Zi (T_gs τ i0))), (0, .ref o), (1, .int (Zi i0))], [.ref o])) (fun _ => rfl) ?_
    refine C_gi rfl hs hp155.1.1 (by decide) (Nat.le_of_ble_eq_true rfl) rfl ?_
    rw [show C_F (v155) o 1 = f155 from (by first | exact hp155.1.2.2.2.2.2.2.1 | exact (if_neg (fun e => absurd e.1 (by assumption))).trans hp155.1.2.2.2.2.2.2.1 | exact (if_neg (fun e => absurd e.2 (by decide))).trans hp155.1.2.2.2.2.2.2.1 | exact (if_neg (fun e => absurd e.2 (by decide))).trans ((if_neg (fun e => absurd e.2 (by decide))).trans hp155.1.2.2.2.2.2.2.1) | exact (if_neg (fun e => absurd e.2 (by decide))).trans ((if_neg (fun e => absurd e.2 (by decide))).trans ((if_neg (fun e => absurd e.2 (by decide))).trans hp155.1.2.2.2.2.2.2.1)))]
    show B_R _ _ (68, [(4, .int (Zi z155)), (3, .int (Zi z155)), (2, .int (Zi (T_gs τ i0))), (0, .ref o), (1, .int (Zi i0))], [.int (Zi f155)]) _ _ _
    refine Z_ieq rfl rfl (by first | exact hs.zF _ _ | exact Zor_r _ _ | exact hs.zA _ _ | assumption | exact zA _ _ | exact zS _ | exact Zr_not (hs.zA _ _) | exact hs.1.1 _ _ | exact ⟨by omega, by omega⟩) (fun c2 => ?_) (fun c2 => ?_)
    · obtain rfl : f155 = 0 := by omega
      refine Z_go (f2 := (74, [(4, .int (Zi z155)), (3, .int (Zi z155)), (2, .int (Zi (T_gs τ i0))), (0, .ref o), (1, .int (Zi i0))], [.ref o])) (fun _ => rfl) ?_
      refine C_callVR (As := []) (rest := []) rfl (by decide) rfl (by decide) rfl rfl (by decide +kernel) (Nat.le_of_ble_eq_true rfl) hs hp155.1.1 (C_peek _ hp155 (by omega)) (fun x q => ?_)
      obtain rfl := q
      have zpk156 := hp.r a155 (by omega)
      show B_R _ _ (77, [(4, .int (Zi z155)), (3, .int (Zi z155)), (2, .int (Zi (T_gs τ i0))), (0, .ref o), (1, .int (Zi i0))], [.int (Zi (S a155))]) _ _ _
      refine Z_go (f2 := (79, [(4, .int (Zi z155)), (3, .int (Zi z155)), (2, .int (Zi (T_gs τ i0))), (0, .ref o), (1, .int (Zi i0))], [.int (Zi 125), .int (Zi (S a155))])) (fun _ => rfl) ?_
      refine Z_ceq rfl rfl (by first | exact hs.zF _ _ | exact Zor_r _ _ | exact hs.zA _ _ | assumption | exact zA _ _ | exact zS _ | exact Zr_not (hs.zA _ _) | exact hs.1.1 _ _ | exact ⟨by omega, by omega⟩) (by first | exact hs.zF _ _ | exact Zor_r _ _ | exact hs.zA _ _ | assumption | exact zA _ _ | exact zS _ | exact Zr_not (hs.zA _ _) | exact hs.1.1 _ _ | exact ⟨by omega, by omega⟩) (fun c3 => ?_) (fun c3 => ?_)
      · refine Z_go (f2 := (94, [(4, .int (Zi z155)), (3, .int (Zi z155)), (2, .int (Zi (T_gs τ i0))), (0, .ref o), (1, .int (Zi i0))], [.ref o])) (fun _ => rfl) ?_
        refine Z_go (f2 := (95, [(4, .int (Zi z155)), (3, .int (Zi z155)), (2, .int (Zi (T_gs τ i0))), (0, .ref o), (1, .int (Zi i0))], [.ref o, .ref o])) (fun _ => rfl) ?_
        refine C_gi rfl hs hp155.1.1 (by decide) (Nat.le_of_ble_eq_true rfl) rfl ?_
        rw [show C_F (v155) o 5 = a155 from (by first | exact hp155.1.2.2.2.2.2.2.2.2.2.1 | exact (if_neg (fun e => absurd e.1 (by assumption))).trans hp155.1.2.2.2.2.2.2.2.2.2.1 | exact (if_neg (fun e => absurd e.2 (by decide))).trans hp155.1.2.2.2.2.2.2.2.2.2.1 | exact (if_neg (fun e => absurd e.2 (by decide))).trans ((if_neg (fun e => absurd e.2 (by decide))).trans hp155.1.2.2.2.2.2.2.2.2.2.1) | exact (if_neg (fun e => absurd e.2 (by decide))).trans ((if_neg (fun e => absurd e.2 (by decide))).trans ((if_neg (fun e => absurd e.2 (by decide))).trans hp155.1.2.2.2.2.2.2.2.2.2.1)))]
        show B_R _ _ (98, [(4, .int (Zi z155)), (3, .int (Zi z155)), (2, .int (Zi (T_gs τ i0))), (0, .ref o), (1, .int (Zi i0))], [.int (Zi a155), .ref o]) _ _ _
        refine Z_go (f2 := (99, [(4, .int (Zi z155)), (3, .int (Zi z155)), (2, .int (Zi (T_gs τ i0))), (0, .ref o), (1, .int (Zi i0))], [.int (Zi 1), .int (Zi a155), .ref o])) (fun _ => rfl) ?_
        refine Z_iadd rfl ?_
        refine C_pi rfl hs hp155.1.1 (by decide) (Nat.le_of_ble_eq_true rfl) (.inl rfl) rfl rfl rfl (by first | exact hs.zF _ _ | exact Zor_r _ _ | exact hs.zA _ _ | assumption | exact zA _ _ | exact zS _ | exact Zr_not (hs.zA _ _) | exact hs.1.1 _ _ | exact ⟨by omega, by omega⟩) (fun h hs => ?_)
        refine Z_go (f2 := (105, [(4, .int (Zi z155)), (3, .int (Zi z155)), (2, .int (Zi (T_gs τ i0))), (0, .ref o), (1, .int (Zi i0))], [.int (Zi z155)])) (fun _ => rfl) ?_
        refine Z_go (f2 := (106, [(4, .int (Zi z155)), (3, .int (Zi z155)), (2, .int (Zi (T_gs τ i0))), (0, .ref o), (1, .int (Zi i0))], [.int (Zi (-1)), .int (Zi z155)])) (fun _ => rfl) ?_
        refine Z_cne rfl rfl (by first | exact hs.zF _ _ | exact Zor_r _ _ | exact hs.zA _ _ | assumption | exact zA _ _ | exact zS _ | exact Zr_not (hs.zA _ _) | exact hs.1.1 _ _ | exact ⟨by omega, by omega⟩) (by first | exact hs.zF _ _ | exact Zor_r _ _ | exact hs.zA _ _ | assumption | exact zA _ _ | exact zS _ | exact Zr_not (hs.zA _ _) | exact hs.1.1 _ _ | exact ⟨by omega, by omega⟩) (fun c4 => ?_) (fun c4 => ?_)
        · have hsz := T_gs_b hz i0
          have hmu1 := T_mul_b (l := z155 + 1) (x := T_gs τ i0) (by omega) (by omega) (by omega) (by omega)
          have hmu2 := T_mul_b (l := z155) (x := T_gs τ i0) (by omega) (by omega) (by omega) (by omega)
          refine Z_go (f2 := (121, [(4, .int (Zi z155)), (3, .int (Zi z155)), (2, .int (Zi (T_gs τ i0))), (0, .ref o), (1, .int (Zi i0))], [.int (Zi z155)])) (fun _ => rfl) ?_
          refine Z_go (f2 := (122, [(4, .int (Zi z155)), (3, .int (Zi z155)), (2, .int (Zi (T_gs τ i0))), (0, .ref o), (1, .int (Zi i0))], [.int (Zi (T_gs τ i0)), .int (Zi z155)])) (fun _ => rfl) ?_
          refine Z_imul rfl ?_
          refine Z_go (f2 := (125, [(4, .int (Zi z155)), (3, .int (Zi z155)), (2, .int (Zi (T_gs τ i0))), (0, .ref o), (1, .int (Zi i0))], [.int (Zi z155), .int (Zi (z155 * (T_gs τ i0)))])) (fun _ => rfl) ?_
          refine Z_iadd rfl ?_
          refine Z_go (f2 := (127, [(4, .int (Zi z155)), (3, .int (Zi z155)), (2, .int (Zi (T_gs τ i0))), (0, .ref o), (1, .int (Zi i0))], [.int (Zi z155), .int (Zi (z155 * (T_gs τ i0) + z155))])) (fun _ => rfl) ?_
          refine Z_isub rfl ?_
          refine Z_go (f2 := (130, [(5, .int (Zi (z155 * (T_gs τ i0) + z155 - z155))), (4, .int (Zi z155)), (3, .int (Zi z155)), (2, .int (Zi (T_gs τ i0))), (0, .ref o), (1, .int (Zi i0))], [])) (fun _ => rfl) ?_
          refine Z_go (f2 := (131, [(5, .int (Zi (z155 * (T_gs τ i0) + z155 - z155))), (4, .int (Zi z155)), (3, .int (Zi z155)), (2, .int (Zi (T_gs τ i0))), (0, .ref o), (1, .int (Zi i0))], [.ref o])) (fun _ => rfl) ?_
          refine C_gr rfl hs hp155.1.1 (by decide) (Nat.le_of_ble_eq_true rfl) rfl hp155.1.2.2.1 ?_
          refine Z_go (f2 := (135, [(5, .int (Zi (z155 * (T_gs τ i0) + z155 - z155))), (4, .int (Zi z155)), (3, .int (Zi z155)), (2, .int (Zi (T_gs τ i0))), (0, .ref o), (1, .int (Zi i0))], [.int (Zi i0), .ref tr])) (fun _ => rfl) ?_
          refine Z_go (f2 := (136, [(5, .int (Zi (z155 * (T_gs τ i0) + z155 - z155))), (4, .int (Zi z155)), (3, .int (Zi z155)), (2, .int (Zi (T_gs τ i0))), (0, .ref o), (1, .int (Zi i0))], [.int (Zi z155), .int (Zi i0), .ref tr])) (fun _ => rfl) ?_
          refine Z_go (f2 := (138, [(5, .int (Zi (z155 * (T_gs τ i0) + z155 - z155))), (4, .int (Zi z155)), (3, .int (Zi z155)), (2, .int (Zi (T_gs τ i0))), (0, .ref o), (1, .int (Zi i0))], [.int (Zi z155), .int (Zi z155), .int (Zi i0), .ref tr])) (fun _ => rfl) ?_
          refine Z_go (f2 := (140, [(5, .int (Zi (z155 * (T_gs τ i0) + z155 - z155))), (4, .int (Zi z155)), (3, .int (Zi z155)), (2, .int (Zi (T_gs τ i0))), (0, .ref o), (1, .int (Zi i0))], [.int (Zi (z155 * (T_gs τ i0) + z155 - z155)), .int (Zi z155), .int (Zi z155), .int (Zi i0), .ref tr])) (fun _ => rfl) ?_
          have wf157 := hs.1
          refine C_callV (As := [.int (Zi i0), .int (Zi z155), .int (Zi z155), .int (Zi (z155 * (T_gs τ i0) + z155 - z155))]) (rest := []) rfl (by decide) rfl (by decide) rfl rfl (by decide +kernel) (Nat.le_of_ble_eq_true rfl) hs hd155.1.1 (C_newRep _ (hd155.oF hne) hz (a := i0) (lo := z155) (hi := z155) (z := z155 * (T_gs τ i0) + z155 - z155) (by first | exact hs.zF _ _ | exact Zor_r _ _ | exact hs.zA _ _ | assumption | exact zA _ _ | exact zS _ | exact Zr_not (hs.zA _ _) | exact hs.1.1 _ _ | exact ⟨by omega, by omega⟩) (by first | exact hs.zF _ _ | exact Zor_r _ _ | exact hs.zA _ _ | assumption | exact zA _ _ | exact zS _ | exact Zr_not (hs.zA _ _) | exact hs.1.1 _ _ | exact ⟨by omega, by omega⟩) (by first | exact hs.zF _ _ | exact Zor_r _ _ | exact hs.zA _ _ | assumption | exact zA _ _ | exact zS _ | exact Zr_not (hs.zA _ _) | exact hs.1.1 _ _ | exact ⟨by omega, by omega⟩) (by omega) (by omega)) (fun x h v157 n157 hs q => ?_)
          obtain ⟨rfl, fr157, en157, m157, τ157, i157, rfl, ia157, ib157, hd157, hz157, hn157⟩ := q
          have zi157 : Zr i157 := ⟨by omega, by omega⟩
          have hp157 := (hp155.aa (a155 + 1)).sub wf157 fr157
          have pf157 := (pf155.sF hp155.1.2.1).on fr157 en157
          have hne := hp157.ne hd157
          show B_R _ _ (143, [(5, .int (Zi (z155 * (T_gs τ i0) + z155 - z155))), (4, .int (Zi z155)), (3, .int (Zi z155)), (2, .int (Zi (T_gs τ i0))), (0, .ref o), (1, .int (Zi i0))], [.int (Zi i157)]) _ _ _
          refine Z_iret rfl rfl (by first | rfl | decide | exact narrow_b01 (by omega)) ⟨_, hs, ?_⟩
          try dsimp only
          first
          | (exfalso; omega)
          | (first
             | (obtain ⟨e1, e2, e3⟩ := hn157 hm
                rw [hR, uF]
                refine ⟨rfl, pf157, _, _, _, m157, i157, _, rfl, by omega, by omega, hp157, hd157, hz157, by omega, by omega, ?_⟩
                have e44 : S u2 = 44 := by rw [← ue2]; omega
                have e125 : S (u2 + 1) = 125 := by rw [← ue2]; omega
                have hry := hp.r (u2 + 1) (by omega)
                refine P_say.ok' (v := some (11, u1, -1)) (b := u2 + 2) (by omega) ?_ ⟨by omega, by omega, by omega, e1, e2, u1, -1, rfl, .inr ⟨rfl, by omega, by omega, .inl rfl⟩, ?_⟩
                · show (if S u2 = 44 then _ else _) = _
                  rw [if_pos e44, if_pos e125]
                · rw [e3]
                  unfold T_cz
                  rw [if_pos rfl, ue1])
             | (obtain ⟨e1, e2, e3⟩ := hn157 hm
                rw [hR, uF]
                refine ⟨rfl, pf157, _, _, _, m157, i157, _, rfl, by omega, by omega, hp157, hd157, hz157, by omega, by omega, ?_⟩
                have e44 : S u2 ≠ 44 := by rw [← ue2]; omega
                have e125 : S u2 = 125 := by rw [← ue2]; omega
                have hry := hp.r u2 (by omega)
                refine P_say.ok' (v := some (11, u1, u1)) (b := u2 + 1) (by omega) ?_ ⟨by omega, by omega, by omega, e1, e2, u1, u1, rfl, .inr ⟨rfl, by omega, by omega, .inr ⟨by omega, by omega⟩⟩, ?_⟩
                · show (if S u2 = 44 then _ else _) = _
                  rw [if_neg e44, if_pos e125]
                · rw [e3]
                  unfold T_cz
                  rw [if_neg (by omega), ue1]))
        · have hsz := T_gs_b hz i0
          have hmu1 := T_mul_b (l := z155 + 1) (x := T_gs τ i0) (by omega) (by omega) (by omega) (by omega)
          have hmu2 := T_mul_b (l := z155) (x := T_gs τ i0) (by omega) (by omega) (by omega) (by omega)
          refine Z_go (f2 := (110, [(4, .int (Zi z155)), (3, .int (Zi z155)), (2, .int (Zi (T_gs τ i0))), (0, .ref o), (1, .int (Zi i0))], [.int (Zi z155)])) (fun _ => rfl) ?_
          refine Z_go (f2 := (111, [(4, .int (Zi z155)), (3, .int (Zi z155)), (2, .int (Zi (T_gs τ i0))), (0, .ref o), (1, .int (Zi i0))], [.int (Zi 1), .int (Zi z155)])) (fun _ => rfl) ?_
          refine Z_iadd rfl ?_
          refine Z_go (f2 := (113, [(4, .int (Zi z155)), (3, .int (Zi z155)), (2, .int (Zi (T_gs τ i0))), (0, .ref o), (1, .int (Zi i0))], [.int (Zi (T_gs τ i0)), .int (Zi (z155 + 1))])) (fun _ => rfl) ?_
          refine Z_imul rfl ?_
          refine Z_go (f2 := (115, [(4, .int (Zi z155)), (3, .int (Zi z155)), (2, .int (Zi (T_gs τ i0))), (0, .ref o), (1, .int (Zi i0))], [.int (Zi 1), .int (Zi ((z155 + 1) * (T_gs τ i0)))])) (fun _ => rfl) ?_
          refine Z_iadd rfl ?_
          refine Z_go (f2 := (128, [(4, .int (Zi z155)), (3, .int (Zi z155)), (2, .int (Zi (T_gs τ i0))), (0, .ref o), (1, .int (Zi i0))], [.int (Zi ((z155 + 1) * (T_gs τ i0) + 1))])) (fun _ => rfl) ?_
          refine Z_go (f2 := (130, [(5, .int (Zi ((z155 + 1) * (T_gs τ i0) + 1))), (4, .int (Zi z155)), (3, .int (Zi z155)), (2, .int (Zi (T_gs τ i0))), (0, .ref o), (1, .int (Zi i0))], [])) (fun _ => rfl) ?_
          refine Z_go (f2 := (131, [(5, .int (Zi ((z155 + 1) * (T_gs τ i0) + 1))), (4, .int (Zi z155)), (3, .int (Zi z155)), (2, .int (Zi (T_gs τ i0))), (0, .ref o), (1, .int (Zi i0))], [.ref o])) (fun _ => rfl) ?_
          refine C_gr rfl hs hp155.1.1 (by decide) (Nat.le_of_ble_eq_true rfl) rfl hp155.1.2.2.1 ?_
          refine Z_go (f2 := (135, [(5, .int (Zi ((z155 + 1) * (T_gs τ i0) + 1))), (4, .int (Zi z155)), (3, .int (Zi z155)), (2, .int (Zi (T_gs τ i0))), (0, .ref o), (1, .int (Zi i0))], [.int (Zi i0), .ref tr])) (fun _ => rfl) ?_
          refine Z_go (f2 := (136, [(5, .int (Zi ((z155 + 1) * (T_gs τ i0) + 1))), (4, .int (Zi z155)), (3, .int (Zi z155)), (2, .int (Zi (T_gs τ i0))), (0, .ref o), (1, .int (Zi i0))], [.int (Zi z155), .int (Zi i0), .ref tr])) (fun _ => rfl) ?_
          refine Z_go (f2 := (138, [(5, .int (Zi ((z155 + 1) * (T_gs τ i0) + 1))), (4, .int (Zi z155)), (3, .int (Zi z155)), (2, .int (Zi (T_gs τ i0))), (0, .ref o), (1, .int (Zi i0))], [.int (Zi z155), .int (Zi z155), .int (Zi i0), .ref tr])) (fun _ => rfl) ?_
          refine Z_go (f2 := (140, [(5, .int (Zi ((z155 + 1) * (T_gs τ i0) + 1))), (4, .int (Zi z155)), (3, .int (Zi z155)), (2, .int (Zi (T_gs τ i0))), (0, .ref o), (1, .int (Zi i0))], [.int (Zi ((z155 + 1) * (T_gs τ i0) + 1)), .int (Zi z155), .int (Zi z155), .int (Zi i0), .ref tr])) (fun _ => rfl) ?_
          have wf158 := hs.1
          refine C_callV (As := [.int (Zi i0), .int (Zi z155), .int (Zi z155), .int (Zi ((z155 + 1) * (T_gs τ i0) + 1))]) (rest := []) rfl (by decide) rfl (by decide) rfl rfl (by decide +kernel) (Nat.le_of_ble_eq_true rfl) hs hd155.1.1 (C_newRep _ (hd155.oF hne) hz (a := i0) (lo := z155) (hi := z155) (z := (z155 + 1) * (T_gs τ i0) + 1) (by first | exact hs.zF _ _ | exact Zor_r _ _ | exact hs.zA _ _ | assumption | exact zA _ _ | exact zS _ | exact Zr_not (hs.zA _ _) | exact hs.1.1 _ _ | exact ⟨by omega, by omega⟩) (by first | exact hs.zF _ _ | exact Zor_r _ _ | exact hs.zA _ _ | assumption | exact zA _ _ | exact zS _ | exact Zr_not (hs.zA _ _) | exact hs.1.1 _ _ | exact ⟨by omega, by omega⟩) (by first | exact hs.zF _ _ | exact Zor_r _ _ | exact hs.zA _ _ | assumption | exact zA _ _ | exact zS _ | exact Zr_not (hs.zA _ _) | exact hs.1.1 _ _ | exact ⟨by omega, by omega⟩) (by omega) (by omega)) (fun x h v158 n158 hs q => ?_)
          obtain ⟨rfl, fr158, en158, m158, τ158, i158, rfl, ia158, ib158, hd158, hz158, hn158⟩ := q
          have zi158 : Zr i158 := ⟨by omega, by omega⟩
          have hp158 := (hp155.aa (a155 + 1)).sub wf158 fr158
          have pf158 := (pf155.sF hp155.1.2.1).on fr158 en158
          have hne := hp158.ne hd158
          show B_R _ _ (143, [(5, .int (Zi ((z155 + 1) * (T_gs τ i0) + 1))), (4, .int (Zi z155)), (3, .int (Zi z155)), (2, .int (Zi (T_gs τ i0))), (0, .ref o), (1, .int (Zi i0))], [.int (Zi i158)]) _ _ _
          refine Z_iret rfl rfl (by first | rfl | decide | exact narrow_b01 (by omega)) ⟨_, hs, ?_⟩
          try dsimp only
          first
          | (exfalso; omega)
          | (first
             | (obtain ⟨e1, e2, e3⟩ := hn158 hm
                rw [hR, uF]
                refine ⟨rfl, pf158, _, _, _, m158, i158, _, rfl, by omega, by omega, hp158, hd158, hz158, by omega, by omega, ?_⟩
                have e44 : S u2 = 44 := by rw [← ue2]; omega
                have e125 : S (u2 + 1) = 125 := by rw [← ue2]; omega
                have hry := hp.r (u2 + 1) (by omega)
                refine P_say.ok' (v := some (11, u1, -1)) (b := u2 + 2) (by omega) ?_ ⟨by omega, by omega, by omega, e1, e2, u1, -1, rfl, .inr ⟨rfl, by omega, by omega, .inl rfl⟩, ?_⟩
                · show (if S u2 = 44 then _ else _) = _
                  rw [if_pos e44, if_pos e125]
                · rw [e3]
                  unfold T_cz
                  rw [if_pos rfl, ue1])
             | (obtain ⟨e1, e2, e3⟩ := hn158 hm
                rw [hR, uF]
                refine ⟨rfl, pf158, _, _, _, m158, i158, _, rfl, by omega, by omega, hp158, hd158, hz158, by omega, by omega, ?_⟩
                have e44 : S u2 ≠ 44 := by rw [← ue2]; omega
                have e125 : S u2 = 125 := by rw [← ue2]; omega
                have hry := hp.r u2 (by omega)
                refine P_say.ok' (v := some (11, u1, u1)) (b := u2 + 1) (by omega) ?_ ⟨by omega, by omega, by omega, e1, e2, u1, u1, rfl, .inr ⟨rfl, by omega, by omega, .inr ⟨by omega, by omega⟩⟩, ?_⟩
                · show (if S u2 = 44 then _ else _) = _
                  rw [if_neg e44, if_pos e125]
                · rw [e3]
                  unfold T_cz
                  rw [if_neg (by omega), ue1]))
      · refine Z_go (f2 := (83, [(4, .int (Zi z155)), (3, .int (Zi z155)), (2, .int (Zi (T_gs τ i0))), (0, .ref o), (1, .int (Zi i0))], [.ref o])) (fun _ => rfl) ?_
        refine Z_go (f2 := (84, [(4, .int (Zi z155)), (3, .int (Zi z155)), (2, .int (Zi (T_gs τ i0))), (0, .ref o), (1, .int (Zi i0))], [.int (Zi 1), .ref o])) (fun _ => rfl) ?_
        refine Z_go (f2 := (85, [(4, .int (Zi z155)), (3, .int (Zi z155)), (2, .int (Zi (T_gs τ i0))), (0, .ref o), (1, .int (Zi i0))], [.ref o, .int (Zi 1), .ref o])) (fun _ => rfl) ?_
        refine C_gi rfl hs hp155.1.1 (by decide) (Nat.le_of_ble_eq_true rfl) rfl ?_
        rw [show C_F (v155) o 5 = a155 from (by first | exact hp155.1.2.2.2.2.2.2.2.2.2.1 | exact (if_neg (fun e => absurd e.1 (by assumption))).trans hp155.1.2.2.2.2.2.2.2.2.2.1 | exact (if_neg (fun e => absurd e.2 (by decide))).trans hp155.1.2.2.2.2.2.2.2.2.2.1 | exact (if_neg (fun e => absurd e.2 (by decide))).trans ((if_neg (fun e => absurd e.2 (by decide))).trans hp155.1.2.2.2.2.2.2.2.2.2.1) | exact (if_neg (fun e => absurd e.2 (by decide))).trans ((if_neg (fun e => absurd e.2 (by decide))).trans ((if_neg (fun e => absurd e.2 (by decide))).trans hp155.1.2.2.2.2.2.2.2.2.2.1)))]
        show B_R _ _ (88, [(4, .int (Zi z155)), (3, .int (Zi z155)), (2, .int (Zi (T_gs τ i0))), (0, .ref o), (1, .int (Zi i0))], [.int (Zi a155), .int (Zi 1), .ref o]) _ _ _
        refine C_callV (As := [.int (Zi 1), .int (Zi a155)]) (rest := []) rfl (by decide) rfl (by decide) rfl rfl (by decide +kernel) (Nat.le_of_ble_eq_true rfl) hs hp155.1.1 (C_fail0 _ hp155 (kd := 1) (wh := a155) (by first | exact hs.zF _ _ | exact Zor_r _ _ | exact hs.zA _ _ | assumption | exact zA _ _ | exact zS _ | exact Zr_not (hs.zA _ _) | exact hs.1.1 _ _ | exact ⟨by omega, by omega⟩) (by first | exact hs.zF _ _ | exact Zor_r _ _ | exact hs.zA _ _ | assumption | exact zA _ _ | exact zS _ | exact Zr_not (hs.zA _ _) | exact hs.1.1 _ _ | exact ⟨by omega, by omega⟩)) (fun x h uf nf hs q => ?_)
        obtain ⟨rfl, rfl, rfl⟩ := q
        show B_R _ _ (91, [(4, .int (Zi z155)), (3, .int (Zi z155)), (2, .int (Zi (T_gs τ i0))), (0, .ref o), (1, .int (Zi i0))], []) _ _ _
        refine Z_go (f2 := (92, [(4, .int (Zi z155)), (3, .int (Zi z155)), (2, .int (Zi (T_gs τ i0))), (0, .ref o), (1, .int (Zi i0))], [.int (Zi i0)])) (fun _ => rfl) ?_
        refine Z_iret rfl rfl (by first | rfl | decide | exact narrow_b01 (by omega)) ⟨_, hs, ?_⟩
        try dsimp only
        first
        | (exfalso; omega)
        | (have hF := P_say.bad sy155 (by omega)
           rw [hR, hF]
           refine ⟨rfl, ((pf155.sF hp155.1.2.1).sF hp155.1.2.1), _, _, _, m, i0, _, rfl, by omega, by omega, ((hp155.ff 1 (by decide)).pp a155 (by decide)), ((hd155.oF hne).oF hne), hz, by omega, by omega, ?_⟩
           refine P_say.no' (by omega) (by omega) rfl (by omega))
        | (rw [hR, uF]
           refine ⟨rfl, ((pf155.sF hp155.1.2.1).sF hp155.1.2.1), _, _, _, m, i0, _, rfl, by omega, by omega, ((hp155.ff 1 (by decide)).pp a155 (by decide)), ((hd155.oF hne).oF hne), hz, by omega, by omega, ?_⟩
           refine P_say.no' (k := 1) (w := u2) (by omega) (by omega) ?_ (by omega)
           show (if S u2 = 44 then _ else _) = _
           rw [if_neg (by rw [← ue2]; omega), if_neg (by rw [← ue2]; omega)])
        | (rw [hR, uF]
           refine ⟨rfl, ((pf155.sF hp155.1.2.1).sF hp155.1.2.1), _, _, _, m, i0, _, rfl, by omega, by omega, ((hp155.ff 1 (by decide)).pp a155 (by decide)), ((hd155.oF hne).oF hne), hz, by omega, by omega, ?_⟩
           refine P_say.no' (k := 1) (w := u2 + 1) (by omega) (by omega) ?_ (by omega)
           have e44 : S u2 = 44 := by rw [← ue2]; omega
           have e125 : S (u2 + 1) ≠ 125 := by rw [← ue2]; omega
           have edg : ¬ D_dig (S (u2 + 1)) := by rw [← ue2]; omega
           show (if S u2 = 44 then _ else _) = _
           rw [if_pos e44, if_neg e125]
           have eN : P_num S (u2 + 1) = .inl (1, u2 + 1) := by
             unfold P_num
             rw [if_neg edg]
           rw [eN])
    · refine Z_go (f2 := (72, [(4, .int (Zi z155)), (3, .int (Zi z155)), (2, .int (Zi (T_gs τ i0))), (0, .ref o), (1, .int (Zi i0))], [.int (Zi i0)])) (fun _ => rfl) ?_
      refine Z_iret rfl rfl (by first | rfl | decide | exact narrow_b01 (by omega)) ⟨_, hs, ?_⟩
      try dsimp only
      first
      | (exfalso; omega)
      | (have hF := P_say.bad sy155 (by omega)
         rw [hR, hF]
         refine ⟨rfl, pf155, _, _, _, m, i0, _, rfl, by omega, by omega, hp155, hd155, hz, by omega, by omega, ?_⟩
         refine P_say.no' (by omega) (by omega) rfl (by omega))
      | (rw [hR, uF]
         refine ⟨rfl, pf155, _, _, _, m, i0, _, rfl, by omega, by omega, hp155, hd155, hz, by omega, by omega, ?_⟩
         refine P_say.no' (k := 1) (w := u2) (by omega) (by omega) ?_ (by omega)
         show (if S u2 = 44 then _ else _) = _
         rw [if_neg (by rw [← ue2]; omega), if_neg (by rw [← ue2]; omega)])
      | (rw [hR, uF]
         refine ⟨rfl, pf155, _, _, _, m, i0, _, rfl, by omega, by omega, hp155, hd155, hz, by omega, by omega, ?_⟩
         refine P_say.no' (k := 1) (w := u2 + 1) (by omega) (by omega) ?_ (by omega)
         have e44 : S u2 = 44 := by rw [← ue2]; omega
         have e125 : S (u2 + 1) ≠ 125 := by rw [← ue2]; omega
         have edg : ¬ D_dig (S (u2 + 1)) := by rw [← ue2]; omega
         show (if S u2 = 44 then _ else _) = _
         rw [if_pos e44, if_neg e125]
         have eN : P_num S (u2 + 1) = .inl (1, u2 + 1) := by
           unfold P_num
           rw [if_neg edg]
         rw [eN])
  · obtain rfl : f155 = 0 := by omega
    obtain ⟨u1, u2, uF, ue1, ue2, ue3⟩ := P_say.good sy155 (by omega)
    have hl := hlt _ _ _ uF
    have hru := hp.r u2 (by omega)
    refine Z_go (f2 := (25, [(4, .int (Zi z155)), (3, .int (Zi z155)), (2, .int (Zi (T_gs τ i0))), (0, .ref o), (1, .int (Zi i0))], [.ref o])) (fun _ => rfl) ?_
    refine C_callVR (As := []) (rest := []) rfl (by decide) rfl (by decide) rfl rfl (by decide +kernel) (Nat.le_of_ble_eq_true rfl) hs hp155.1.1 (C_peek _ hp155 (by omega)) (fun x q => ?_)
    obtain rfl := q
    have zpk159 := hp.r a155 (by omega)
    show B_R _ _ (28, [(4, .int (Zi z155)), (3, .int (Zi z155)), (2, .int (Zi (T_gs τ i0))), (0, .ref o), (1, .int (Zi i0))], [.int (Zi (S a155))]) _ _ _
    refine Z_go (f2 := (30, [(4, .int (Zi z155)), (3, .int (Zi z155)), (2, .int (Zi (T_gs τ i0))), (0, .ref o), (1, .int (Zi i0))], [.int (Zi 44), .int (Zi (S a155))])) (fun _ => rfl) ?_
    refine Z_cne rfl rfl (by first | exact hs.zF _ _ | exact Zor_r _ _ | exact hs.zA _ _ | assumption | exact zA _ _ | exact zS _ | exact Zr_not (hs.zA _ _) | exact hs.1.1 _ _ | exact ⟨by omega, by omega⟩) (by first | exact hs.zF _ _ | exact Zor_r _ _ | exact hs.zA _ _ | assumption | exact zA _ _ | exact zS _ | exact Zr_not (hs.zA _ _) | exact hs.1.1 _ _ | exact ⟨by omega, by omega⟩) (fun c5 => ?_) (fun c5 => ?_)
    · refine Z_go (f2 := (65, [(4, .int (Zi z155)), (3, .int (Zi z155)), (2, .int (Zi (T_gs τ i0))), (0, .ref o), (1, .int (Zi i0))], [.ref o])) (fun _ => rfl) ?_
      refine C_gi rfl hs hp155.1.1 (by decide) (Nat.le_of_ble_eq_true rfl) rfl ?_
      rw [show C_F (v155) o 1 = 0 from (by first | exact hp155.1.2.2.2.2.2.2.1 | exact (if_neg (fun e => absurd e.1 (by assumption))).trans hp155.1.2.2.2.2.2.2.1 | exact (if_neg (fun e => absurd e.2 (by decide))).trans hp155.1.2.2.2.2.2.2.1 | exact (if_neg (fun e => absurd e.2 (by decide))).trans ((if_neg (fun e => absurd e.2 (by decide))).trans hp155.1.2.2.2.2.2.2.1) | exact (if_neg (fun e => absurd e.2 (by decide))).trans ((if_neg (fun e => absurd e.2 (by decide))).trans ((if_neg (fun e => absurd e.2 (by decide))).trans hp155.1.2.2.2.2.2.2.1)))]
      show B_R _ _ (68, [(4, .int (Zi z155)), (3, .int (Zi z155)), (2, .int (Zi (T_gs τ i0))), (0, .ref o), (1, .int (Zi i0))], [.int (Zi 0)]) _ _ _
      refine Z_ieq rfl rfl (by first | exact hs.zF _ _ | exact Zor_r _ _ | exact hs.zA _ _ | assumption | exact zA _ _ | exact zS _ | exact Zr_not (hs.zA _ _) | exact hs.1.1 _ _ | exact ⟨by omega, by omega⟩) (fun c6 => ?_) (fun c6 => ?_)
      · refine Z_go (f2 := (74, [(4, .int (Zi z155)), (3, .int (Zi z155)), (2, .int (Zi (T_gs τ i0))), (0, .ref o), (1, .int (Zi i0))], [.ref o])) (fun _ => rfl) ?_
        refine C_callVR (As := []) (rest := []) rfl (by decide) rfl (by decide) rfl rfl (by decide +kernel) (Nat.le_of_ble_eq_true rfl) hs hp155.1.1 (C_peek _ hp155 (by omega)) (fun x q => ?_)
        obtain rfl := q
        have zpk160 := hp.r a155 (by omega)
        show B_R _ _ (77, [(4, .int (Zi z155)), (3, .int (Zi z155)), (2, .int (Zi (T_gs τ i0))), (0, .ref o), (1, .int (Zi i0))], [.int (Zi (S a155))]) _ _ _
        refine Z_go (f2 := (79, [(4, .int (Zi z155)), (3, .int (Zi z155)), (2, .int (Zi (T_gs τ i0))), (0, .ref o), (1, .int (Zi i0))], [.int (Zi 125), .int (Zi (S a155))])) (fun _ => rfl) ?_
        refine Z_ceq rfl rfl (by first | exact hs.zF _ _ | exact Zor_r _ _ | exact hs.zA _ _ | assumption | exact zA _ _ | exact zS _ | exact Zr_not (hs.zA _ _) | exact hs.1.1 _ _ | exact ⟨by omega, by omega⟩) (by first | exact hs.zF _ _ | exact Zor_r _ _ | exact hs.zA _ _ | assumption | exact zA _ _ | exact zS _ | exact Zr_not (hs.zA _ _) | exact hs.1.1 _ _ | exact ⟨by omega, by omega⟩) (fun c7 => ?_) (fun c7 => ?_)
        · refine Z_go (f2 := (94, [(4, .int (Zi z155)), (3, .int (Zi z155)), (2, .int (Zi (T_gs τ i0))), (0, .ref o), (1, .int (Zi i0))], [.ref o])) (fun _ => rfl) ?_
          refine Z_go (f2 := (95, [(4, .int (Zi z155)), (3, .int (Zi z155)), (2, .int (Zi (T_gs τ i0))), (0, .ref o), (1, .int (Zi i0))], [.ref o, .ref o])) (fun _ => rfl) ?_
          refine C_gi rfl hs hp155.1.1 (by decide) (Nat.le_of_ble_eq_true rfl) rfl ?_
          rw [show C_F (v155) o 5 = a155 from (by first | exact hp155.1.2.2.2.2.2.2.2.2.2.1 | exact (if_neg (fun e => absurd e.1 (by assumption))).trans hp155.1.2.2.2.2.2.2.2.2.2.1 | exact (if_neg (fun e => absurd e.2 (by decide))).trans hp155.1.2.2.2.2.2.2.2.2.2.1 | exact (if_neg (fun e => absurd e.2 (by decide))).trans ((if_neg (fun e => absurd e.2 (by decide))).trans hp155.1.2.2.2.2.2.2.2.2.2.1) | exact (if_neg (fun e => absurd e.2 (by decide))).trans ((if_neg (fun e => absurd e.2 (by decide))).trans ((if_neg (fun e => absurd e.2 (by decide))).trans hp155.1.2.2.2.2.2.2.2.2.2.1)))]
          show B_R _ _ (98, [(4, .int (Zi z155)), (3, .int (Zi z155)), (2, .int (Zi (T_gs τ i0))), (0, .ref o), (1, .int (Zi i0))], [.int (Zi a155), .ref o]) _ _ _
          refine Z_go (f2 := (99, [(4, .int (Zi z155)), (3, .int (Zi z155)), (2, .int (Zi (T_gs τ i0))), (0, .ref o), (1, .int (Zi i0))], [.int (Zi 1), .int (Zi a155), .ref o])) (fun _ => rfl) ?_
          refine Z_iadd rfl ?_
          refine C_pi rfl hs hp155.1.1 (by decide) (Nat.le_of_ble_eq_true rfl) (.inl rfl) rfl rfl rfl (by first | exact hs.zF _ _ | exact Zor_r _ _ | exact hs.zA _ _ | assumption | exact zA _ _ | exact zS _ | exact Zr_not (hs.zA _ _) | exact hs.1.1 _ _ | exact ⟨by omega, by omega⟩) (fun h hs => ?_)
          refine Z_go (f2 := (105, [(4, .int (Zi z155)), (3, .int (Zi z155)), (2, .int (Zi (T_gs τ i0))), (0, .ref o), (1, .int (Zi i0))], [.int (Zi z155)])) (fun _ => rfl) ?_
          refine Z_go (f2 := (106, [(4, .int (Zi z155)), (3, .int (Zi z155)), (2, .int (Zi (T_gs τ i0))), (0, .ref o), (1, .int (Zi i0))], [.int (Zi (-1)), .int (Zi z155)])) (fun _ => rfl) ?_
          refine Z_cne rfl rfl (by first | exact hs.zF _ _ | exact Zor_r _ _ | exact hs.zA _ _ | assumption | exact zA _ _ | exact zS _ | exact Zr_not (hs.zA _ _) | exact hs.1.1 _ _ | exact ⟨by omega, by omega⟩) (by first | exact hs.zF _ _ | exact Zor_r _ _ | exact hs.zA _ _ | assumption | exact zA _ _ | exact zS _ | exact Zr_not (hs.zA _ _) | exact hs.1.1 _ _ | exact ⟨by omega, by omega⟩) (fun c8 => ?_) (fun c8 => ?_)
          · have hsz := T_gs_b hz i0
            have hmu1 := T_mul_b (l := z155 + 1) (x := T_gs τ i0) (by omega) (by omega) (by omega) (by omega)
            have hmu2 := T_mul_b (l := z155) (x := T_gs τ i0) (by omega) (by omega) (by omega) (by omega)
            refine Z_go (f2 := (121, [(4, .int (Zi z155)), (3, .int (Zi z155)), (2, .int (Zi (T_gs τ i0))), (0, .ref o), (1, .int (Zi i0))], [.int (Zi z155)])) (fun _ => rfl) ?_
            refine Z_go (f2 := (122, [(4, .int (Zi z155)), (3, .int (Zi z155)), (2, .int (Zi (T_gs τ i0))), (0, .ref o), (1, .int (Zi i0))], [.int (Zi (T_gs τ i0)), .int (Zi z155)])) (fun _ => rfl) ?_
            refine Z_imul rfl ?_
            refine Z_go (f2 := (125, [(4, .int (Zi z155)), (3, .int (Zi z155)), (2, .int (Zi (T_gs τ i0))), (0, .ref o), (1, .int (Zi i0))], [.int (Zi z155), .int (Zi (z155 * (T_gs τ i0)))])) (fun _ => rfl) ?_
            refine Z_iadd rfl ?_
            refine Z_go (f2 := (127, [(4, .int (Zi z155)), (3, .int (Zi z155)), (2, .int (Zi (T_gs τ i0))), (0, .ref o), (1, .int (Zi i0))], [.int (Zi z155), .int (Zi (z155 * (T_gs τ i0) + z155))])) (fun _ => rfl) ?_
            refine Z_isub rfl ?_
            refine Z_go (f2 := (130, [(5, .int (Zi (z155 * (T_gs τ i0) + z155 - z155))), (4, .int (Zi z155)), (3, .int (Zi z155)), (2, .int (Zi (T_gs τ i0))), (0, .ref o), (1, .int (Zi i0))], [])) (fun _ => rfl) ?_
            refine Z_go (f2 := (131, [(5, .int (Zi (z155 * (T_gs τ i0) + z155 - z155))), (4, .int (Zi z155)), (3, .int (Zi z155)), (2, .int (Zi (T_gs τ i0))), (0, .ref o), (1, .int (Zi i0))], [.ref o])) (fun _ => rfl) ?_
            refine C_gr rfl hs hp155.1.1 (by decide) (Nat.le_of_ble_eq_true rfl) rfl hp155.1.2.2.1 ?_
            refine Z_go (f2 := (135, [(5, .int (Zi (z155 * (T_gs τ i0) + z155 - z155))), (4, .int (Zi z155)), (3, .int (Zi z155)), (2, .int (Zi (T_gs τ i0))), (0, .ref o), (1, .int (Zi i0))], [.int (Zi i0), .ref tr])) (fun _ => rfl) ?_
            refine Z_go (f2 := (136, [(5, .int (Zi (z155 * (T_gs τ i0) + z155 - z155))), (4, .int (Zi z155)), (3, .int (Zi z155)), (2, .int (Zi (T_gs τ i0))), (0, .ref o), (1, .int (Zi i0))], [.int (Zi z155), .int (Zi i0), .ref tr])) (fun _ => rfl) ?_
            refine Z_go (f2 := (138, [(5, .int (Zi (z155 * (T_gs τ i0) + z155 - z155))), (4, .int (Zi z155)), (3, .int (Zi z155)), (2, .int (Zi (T_gs τ i0))), (0, .ref o), (1, .int (Zi i0))], [.int (Zi z155), .int (Zi z155), .int (Zi i0), .ref tr])) (fun _ => rfl) ?_
            refine Z_go (f2 := (140, [(5, .int (Zi (z155 * (T_gs τ i0) + z155 - z155))), (4, .int (Zi z155)), (3, .int (Zi z155)), (2, .int (Zi (T_gs τ i0))), (0, .ref o), (1, .int (Zi i0))], [.int (Zi (z155 * (T_gs τ i0) + z155 - z155)), .int (Zi z155), .int (Zi z155), .int (Zi i0), .ref tr])) (fun _ => rfl) ?_
            have wf161 := hs.1
            refine C_callV (As := [.int (Zi i0), .int (Zi z155), .int (Zi z155), .int (Zi (z155 * (T_gs τ i0) + z155 - z155))]) (rest := []) rfl (by decide) rfl (by decide) rfl rfl (by decide +kernel) (Nat.le_of_ble_eq_true rfl) hs hd155.1.1 (C_newRep _ (hd155.oF hne) hz (a := i0) (lo := z155) (hi := z155) (z := z155 * (T_gs τ i0) + z155 - z155) (by first | exact hs.zF _ _ | exact Zor_r _ _ | exact hs.zA _ _ | assumption | exact zA _ _ | exact zS _ | exact Zr_not (hs.zA _ _) | exact hs.1.1 _ _ | exact ⟨by omega, by omega⟩) (by first | exact hs.zF _ _ | exact Zor_r _ _ | exact hs.zA _ _ | assumption | exact zA _ _ | exact zS _ | exact Zr_not (hs.zA _ _) | exact hs.1.1 _ _ | exact ⟨by omega, by omega⟩) (by first | exact hs.zF _ _ | exact Zor_r _ _ | exact hs.zA _ _ | assumption | exact zA _ _ | exact zS _ | exact Zr_not (hs.zA _ _) | exact hs.1.1 _ _ | exact ⟨by omega, by omega⟩) (by omega) (by omega)) (fun x h v161 n161 hs q => ?_)
            obtain ⟨rfl, fr161, en161, m161, τ161, i161, rfl, ia161, ib161, hd161, hz161, hn161⟩ := q
            have zi161 : Zr i161 := ⟨by omega, by omega⟩
            have hp161 := (hp155.aa (a155 + 1)).sub wf161 fr161
            have pf161 := (pf155.sF hp155.1.2.1).on fr161 en161
            have hne := hp161.ne hd161
            show B_R _ _ (143, [(5, .int (Zi (z155 * (T_gs τ i0) + z155 - z155))), (4, .int (Zi z155)), (3, .int (Zi z155)), (2, .int (Zi (T_gs τ i0))), (0, .ref o), (1, .int (Zi i0))], [.int (Zi i161)]) _ _ _
            refine Z_iret rfl rfl (by first | rfl | decide | exact narrow_b01 (by omega)) ⟨_, hs, ?_⟩
            try dsimp only
            first
            | (exfalso; omega)
            | (first
               | (obtain ⟨e1, e2, e3⟩ := hn161 hm
                  rw [hR, uF]
                  refine ⟨rfl, pf161, _, _, _, m161, i161, _, rfl, by omega, by omega, hp161, hd161, hz161, by omega, by omega, ?_⟩
                  have e44 : S u2 = 44 := by rw [← ue2]; omega
                  have e125 : S (u2 + 1) = 125 := by rw [← ue2]; omega
                  have hry := hp.r (u2 + 1) (by omega)
                  refine P_say.ok' (v := some (11, u1, -1)) (b := u2 + 2) (by omega) ?_ ⟨by omega, by omega, by omega, e1, e2, u1, -1, rfl, .inr ⟨rfl, by omega, by omega, .inl rfl⟩, ?_⟩
                  · show (if S u2 = 44 then _ else _) = _
                    rw [if_pos e44, if_pos e125]
                  · rw [e3]
                    unfold T_cz
                    rw [if_pos rfl, ue1])
               | (obtain ⟨e1, e2, e3⟩ := hn161 hm
                  rw [hR, uF]
                  refine ⟨rfl, pf161, _, _, _, m161, i161, _, rfl, by omega, by omega, hp161, hd161, hz161, by omega, by omega, ?_⟩
                  have e44 : S u2 ≠ 44 := by rw [← ue2]; omega
                  have e125 : S u2 = 125 := by rw [← ue2]; omega
                  have hry := hp.r u2 (by omega)
                  refine P_say.ok' (v := some (11, u1, u1)) (b := u2 + 1) (by omega) ?_ ⟨by omega, by omega, by omega, e1, e2, u1, u1, rfl, .inr ⟨rfl, by omega, by omega, .inr ⟨by omega, by omega⟩⟩, ?_⟩
                  · show (if S u2 = 44 then _ else _) = _
                    rw [if_neg e44, if_pos e125]
                  · rw [e3]
                    unfold T_cz
                    rw [if_neg (by omega), ue1]))
          · have hsz := T_gs_b hz i0
            have hmu1 := T_mul_b (l := z155 + 1) (x := T_gs τ i0) (by omega) (by omega) (by omega) (by omega)
            have hmu2 := T_mul_b (l := z155) (x := T_gs τ i0) (by omega) (by omega) (by omega) (by omega)
            refine Z_go (f2 := (110, [(4, .int (Zi z155)), (3, .int (Zi z155)), (2, .int (Zi (T_gs τ i0))), (0, .ref o), (1, .int (Zi i0))], [.int (Zi z155)])) (fun _ => rfl) ?_
            refine Z_go (f2 := (111, [(4, .int (Zi z155)), (3, .int (Zi z155)), (2, .int (Zi (T_gs τ i0))), (0, .ref o), (1, .int (Zi i0))], [.int (Zi 1), .int (Zi z155)])) (fun _ => rfl) ?_
            refine Z_iadd rfl ?_
            refine Z_go (f2 := (113, [(4, .int (Zi z155)), (3, .int (Zi z155)), (2, .int (Zi (T_gs τ i0))), (0, .ref o), (1, .int (Zi i0))], [.int (Zi (T_gs τ i0)), .int (Zi (z155 + 1))])) (fun _ => rfl) ?_
            refine Z_imul rfl ?_
            refine Z_go (f2 := (115, [(4, .int (Zi z155)), (3, .int (Zi z155)), (2, .int (Zi (T_gs τ i0))), (0, .ref o), (1, .int (Zi i0))], [.int (Zi 1), .int (Zi ((z155 + 1) * (T_gs τ i0)))])) (fun _ => rfl) ?_
            refine Z_iadd rfl ?_
            refine Z_go (f2 := (128, [(4, .int (Zi z155)), (3, .int (Zi z155)), (2, .int (Zi (T_gs τ i0))), (0, .ref o), (1, .int (Zi i0))], [.int (Zi ((z155 + 1) * (T_gs τ i0) + 1))])) (fun _ => rfl) ?_
            refine Z_go (f2 := (130, [(5, .int (Zi ((z155 + 1) * (T_gs τ i0) + 1))), (4, .int (Zi z155)), (3, .int (Zi z155)), (2, .int (Zi (T_gs τ i0))), (0, .ref o), (1, .int (Zi i0))], [])) (fun _ => rfl) ?_
            refine Z_go (f2 := (131, [(5, .int (Zi ((z155 + 1) * (T_gs τ i0) + 1))), (4, .int (Zi z155)), (3, .int (Zi z155)), (2, .int (Zi (T_gs τ i0))), (0, .ref o), (1, .int (Zi i0))], [.ref o])) (fun _ => rfl) ?_
            refine C_gr rfl hs hp155.1.1 (by decide) (Nat.le_of_ble_eq_true rfl) rfl hp155.1.2.2.1 ?_
            refine Z_go (f2 := (135, [(5, .int (Zi ((z155 + 1) * (T_gs τ i0) + 1))), (4, .int (Zi z155)), (3, .int (Zi z155)), (2, .int (Zi (T_gs τ i0))), (0, .ref o), (1, .int (Zi i0))], [.int (Zi i0), .ref tr])) (fun _ => rfl) ?_
            refine Z_go (f2 := (136, [(5, .int (Zi ((z155 + 1) * (T_gs τ i0) + 1))), (4, .int (Zi z155)), (3, .int (Zi z155)), (2, .int (Zi (T_gs τ i0))), (0, .ref o), (1, .int (Zi i0))], [.int (Zi z155), .int (Zi i0), .ref tr])) (fun _ => rfl) ?_
            refine Z_go (f2 := (138, [(5, .int (Zi ((z155 + 1) * (T_gs τ i0) + 1))), (4, .int (Zi z155)), (3, .int (Zi z155)), (2, .int (Zi (T_gs τ i0))), (0, .ref o), (1, .int (Zi i0))], [.int (Zi z155), .int (Zi z155), .int (Zi i0), .ref tr])) (fun _ => rfl) ?_
            refine Z_go (f2 := (140, [(5, .int (Zi ((z155 + 1) * (T_gs τ i0) + 1))), (4, .int (Zi z155)), (3, .int (Zi z155)), (2, .int (Zi (T_gs τ i0))), (0, .ref o), (1, .int (Zi i0))], [.int (Zi ((z155 + 1) * (T_gs τ i0) + 1)), .int (Zi z155), .int (Zi z155), .int (Zi i0), .ref tr])) (fun _ => rfl) ?_
            have wf162 := hs.1
            refine C_callV (As := [.int (Zi i0), .int (Zi z155), .int (Zi z155), .int (Zi ((z155 + 1) * (T_gs τ i0) + 1))]) (rest := []) rfl (by decide) rfl (by decide) rfl rfl (by decide +kernel) (Nat.le_of_ble_eq_true rfl) hs hd155.1.1 (C_newRep _ (hd155.oF hne) hz (a := i0) (lo := z155) (hi := z155) (z := (z155 + 1) * (T_gs τ i0) + 1) (by first | exact hs.zF _ _ | exact Zor_r _ _ | exact hs.zA _ _ | assumption | exact zA _ _ | exact zS _ | exact Zr_not (hs.zA _ _) | exact hs.1.1 _ _ | exact ⟨by omega, by omega⟩) (by first | exact hs.zF _ _ | exact Zor_r _ _ | exact hs.zA _ _ | assumption | exact zA _ _ | exact zS _ | exact Zr_not (hs.zA _ _) | exact hs.1.1 _ _ | exact ⟨by omega, by omega⟩) (by first | exact hs.zF _ _ | exact Zor_r _ _ | exact hs.zA _ _ | assumption | exact zA _ _ | exact zS _ | exact Zr_not (hs.zA _ _) | exact hs.1.1 _ _ | exact ⟨by omega, by omega⟩) (by omega) (by omega)) (fun x h v162 n162 hs q => ?_)
            obtain ⟨rfl, fr162, en162, m162, τ162, i162, rfl, ia162, ib162, hd162, hz162, hn162⟩ := q
            have zi162 : Zr i162 := ⟨by omega, by omega⟩
            have hp162 := (hp155.aa (a155 + 1)).sub wf162 fr162
            have pf162 := (pf155.sF hp155.1.2.1).on fr162 en162
            have hne := hp162.ne hd162
            show B_R _ _ (143, [(5, .int (Zi ((z155 + 1) * (T_gs τ i0) + 1))), (4, .int (Zi z155)), (3, .int (Zi z155)), (2, .int (Zi (T_gs τ i0))), (0, .ref o), (1, .int (Zi i0))], [.int (Zi i162)]) _ _ _
            refine Z_iret rfl rfl (by first | rfl | decide | exact narrow_b01 (by omega)) ⟨_, hs, ?_⟩
            try dsimp only
            first
            | (exfalso; omega)
            | (first
               | (obtain ⟨e1, e2, e3⟩ := hn162 hm
                  rw [hR, uF]
                  refine ⟨rfl, pf162, _, _, _, m162, i162, _, rfl, by omega, by omega, hp162, hd162, hz162, by omega, by omega, ?_⟩
                  have e44 : S u2 = 44 := by rw [← ue2]; omega
                  have e125 : S (u2 + 1) = 125 := by rw [← ue2]; omega
                  have hry := hp.r (u2 + 1) (by omega)
                  refine P_say.ok' (v := some (11, u1, -1)) (b := u2 + 2) (by omega) ?_ ⟨by omega, by omega, by omega, e1, e2, u1, -1, rfl, .inr ⟨rfl, by omega, by omega, .inl rfl⟩, ?_⟩
                  · show (if S u2 = 44 then _ else _) = _
                    rw [if_pos e44, if_pos e125]
                  · rw [e3]
                    unfold T_cz
                    rw [if_pos rfl, ue1])
               | (obtain ⟨e1, e2, e3⟩ := hn162 hm
                  rw [hR, uF]
                  refine ⟨rfl, pf162, _, _, _, m162, i162, _, rfl, by omega, by omega, hp162, hd162, hz162, by omega, by omega, ?_⟩
                  have e44 : S u2 ≠ 44 := by rw [← ue2]; omega
                  have e125 : S u2 = 125 := by rw [← ue2]; omega
                  have hry := hp.r u2 (by omega)
                  refine P_say.ok' (v := some (11, u1, u1)) (b := u2 + 1) (by omega) ?_ ⟨by omega, by omega, by omega, e1, e2, u1, u1, rfl, .inr ⟨rfl, by omega, by omega, .inr ⟨by omega, by omega⟩⟩, ?_⟩
                  · show (if S u2 = 44 then _ else _) = _
                    rw [if_neg e44, if_pos e125]
                  · rw [e3]
                    unfold T_cz
                    rw [if_neg (by omega), ue1]))
        · refine Z_go (f2 := (83, [(4, .int (Zi z155)), (3, .int (Zi z155)), (2, .int (Zi (T_gs τ i0))), (0, .ref o), (1, .int (Zi i0))], [.ref o])) (fun _ => rfl) ?_
          refine Z_go (f2 := (84, [(4, .int (Zi z155)), (3, .int (Zi z155)), (2, .int (Zi (T_gs τ i0))), (0, .ref o), (1, .int (Zi i0))], [.int (Zi 1), .ref o])) (fun _ => rfl) ?_
          refine Z_go (f2 := (85, [(4, .int (Zi z155)), (3, .int (Zi z155)), (2, .int (Zi (T_gs τ i0))), (0, .ref o), (1, .int (Zi i0))], [.ref o, .int (Zi 1), .ref o])) (fun _ => rfl) ?_
          refine C_gi rfl hs hp155.1.1 (by decide) (Nat.le_of_ble_eq_true rfl) rfl ?_
          rw [show C_F (v155) o 5 = a155 from (by first | exact hp155.1.2.2.2.2.2.2.2.2.2.1 | exact (if_neg (fun e => absurd e.1 (by assumption))).trans hp155.1.2.2.2.2.2.2.2.2.2.1 | exact (if_neg (fun e => absurd e.2 (by decide))).trans hp155.1.2.2.2.2.2.2.2.2.2.1 | exact (if_neg (fun e => absurd e.2 (by decide))).trans ((if_neg (fun e => absurd e.2 (by decide))).trans hp155.1.2.2.2.2.2.2.2.2.2.1) | exact (if_neg (fun e => absurd e.2 (by decide))).trans ((if_neg (fun e => absurd e.2 (by decide))).trans ((if_neg (fun e => absurd e.2 (by decide))).trans hp155.1.2.2.2.2.2.2.2.2.2.1)))]
          show B_R _ _ (88, [(4, .int (Zi z155)), (3, .int (Zi z155)), (2, .int (Zi (T_gs τ i0))), (0, .ref o), (1, .int (Zi i0))], [.int (Zi a155), .int (Zi 1), .ref o]) _ _ _
          refine C_callV (As := [.int (Zi 1), .int (Zi a155)]) (rest := []) rfl (by decide) rfl (by decide) rfl rfl (by decide +kernel) (Nat.le_of_ble_eq_true rfl) hs hp155.1.1 (C_fail0 _ hp155 (kd := 1) (wh := a155) (by first | exact hs.zF _ _ | exact Zor_r _ _ | exact hs.zA _ _ | assumption | exact zA _ _ | exact zS _ | exact Zr_not (hs.zA _ _) | exact hs.1.1 _ _ | exact ⟨by omega, by omega⟩) (by first | exact hs.zF _ _ | exact Zor_r _ _ | exact hs.zA _ _ | assumption | exact zA _ _ | exact zS _ | exact Zr_not (hs.zA _ _) | exact hs.1.1 _ _ | exact ⟨by omega, by omega⟩)) (fun x h uf nf hs q => ?_)
          obtain ⟨rfl, rfl, rfl⟩ := q
          show B_R _ _ (91, [(4, .int (Zi z155)), (3, .int (Zi z155)), (2, .int (Zi (T_gs τ i0))), (0, .ref o), (1, .int (Zi i0))], []) _ _ _
          refine Z_go (f2 := (92, [(4, .int (Zi z155)), (3, .int (Zi z155)), (2, .int (Zi (T_gs τ i0))), (0, .ref o), (1, .int (Zi i0))], [.int (Zi i0)])) (fun _ => rfl) ?_
          refine Z_iret rfl rfl (by first | rfl | decide | exact narrow_b01 (by omega)) ⟨_, hs, ?_⟩
          try dsimp only
          first
          | (exfalso; omega)
          | (have hF := P_say.bad sy155 (by omega)
             rw [hR, hF]
             refine ⟨rfl, ((pf155.sF hp155.1.2.1).sF hp155.1.2.1), _, _, _, m, i0, _, rfl, by omega, by omega, ((hp155.ff 1 (by decide)).pp a155 (by decide)), ((hd155.oF hne).oF hne), hz, by omega, by omega, ?_⟩
             refine P_say.no' (by omega) (by omega) rfl (by omega))
          | (rw [hR, uF]
             refine ⟨rfl, ((pf155.sF hp155.1.2.1).sF hp155.1.2.1), _, _, _, m, i0, _, rfl, by omega, by omega, ((hp155.ff 1 (by decide)).pp a155 (by decide)), ((hd155.oF hne).oF hne), hz, by omega, by omega, ?_⟩
             refine P_say.no' (k := 1) (w := u2) (by omega) (by omega) ?_ (by omega)
             show (if S u2 = 44 then _ else _) = _
             rw [if_neg (by rw [← ue2]; omega), if_neg (by rw [← ue2]; omega)])
          | (rw [hR, uF]
             refine ⟨rfl, ((pf155.sF hp155.1.2.1).sF hp155.1.2.1), _, _, _, m, i0, _, rfl, by omega, by omega, ((hp155.ff 1 (by decide)).pp a155 (by decide)), ((hd155.oF hne).oF hne), hz, by omega, by omega, ?_⟩
             refine P_say.no' (k := 1) (w := u2 + 1) (by omega) (by omega) ?_ (by omega)
             have e44 : S u2 = 44 := by rw [← ue2]; omega
             have e125 : S (u2 + 1) ≠ 125 := by rw [← ue2]; omega
             have edg : ¬ D_dig (S (u2 + 1)) := by rw [← ue2]; omega
             show (if S u2 = 44 then _ else _) = _
             rw [if_pos e44, if_neg e125]
             have eN : P_num S (u2 + 1) = .inl (1, u2 + 1) := by
               unfold P_num
               rw [if_neg edg]
             rw [eN])
      · exfalso; omega
    · refine Z_go (f2 := (34, [(4, .int (Zi z155)), (3, .int (Zi z155)), (2, .int (Zi (T_gs τ i0))), (0, .ref o), (1, .int (Zi i0))], [.ref o])) (fun _ => rfl) ?_
      refine Z_go (f2 := (35, [(4, .int (Zi z155)), (3, .int (Zi z155)), (2, .int (Zi (T_gs τ i0))), (0, .ref o), (1, .int (Zi i0))], [.ref o, .ref o])) (fun _ => rfl) ?_
      refine C_gi rfl hs hp155.1.1 (by decide) (Nat.le_of_ble_eq_true rfl) rfl ?_
      rw [show C_F (v155) o 5 = a155 from (by first | exact hp155.1.2.2.2.2.2.2.2.2.2.1 | exact (if_neg (fun e => absurd e.1 (by assumption))).trans hp155.1.2.2.2.2.2.2.2.2.2.1 | exact (if_neg (fun e => absurd e.2 (by decide))).trans hp155.1.2.2.2.2.2.2.2.2.2.1 | exact (if_neg (fun e => absurd e.2 (by decide))).trans ((if_neg (fun e => absurd e.2 (by decide))).trans hp155.1.2.2.2.2.2.2.2.2.2.1) | exact (if_neg (fun e => absurd e.2 (by decide))).trans ((if_neg (fun e => absurd e.2 (by decide))).trans ((if_neg (fun e => absurd e.2 (by decide))).trans hp155.1.2.2.2.2.2.2.2.2.2.1)))]
      show B_R _ _ (38, [(4, .int (Zi z155)), (3, .int (Zi z155)), (2, .int (Zi (T_gs τ i0))), (0, .ref o), (1, .int (Zi i0))], [.int (Zi a155), .ref o]) _ _ _
      refine Z_go (f2 := (39, [(4, .int (Zi z155)), (3, .int (Zi z155)), (2, .int (Zi (T_gs τ i0))), (0, .ref o), (1, .int (Zi i0))], [.int (Zi 1), .int (Zi a155), .ref o])) (fun _ => rfl) ?_
      refine Z_iadd rfl ?_
      refine C_pi rfl hs hp155.1.1 (by decide) (Nat.le_of_ble_eq_true rfl) (.inl rfl) rfl rfl rfl (by first | exact hs.zF _ _ | exact Zor_r _ _ | exact hs.zA _ _ | assumption | exact zA _ _ | exact zS _ | exact Zr_not (hs.zA _ _) | exact hs.1.1 _ _ | exact ⟨by omega, by omega⟩) (fun h hs => ?_)
      refine Z_go (f2 := (44, [(4, .int (Zi z155)), (3, .int (Zi z155)), (2, .int (Zi (T_gs τ i0))), (0, .ref o), (1, .int (Zi i0))], [.ref o])) (fun _ => rfl) ?_
      refine C_callVR (As := []) (rest := []) rfl (by decide) rfl (by decide) rfl rfl (by decide +kernel) (Nat.le_of_ble_eq_true rfl) hs hp155.1.1 (C_peek _ (hp155.aa (a155 + 1)) (by omega)) (fun x q => ?_)
      obtain rfl := q
      have zpk163 := hp.r (a155 + 1) (by omega)
      show B_R _ _ (47, [(4, .int (Zi z155)), (3, .int (Zi z155)), (2, .int (Zi (T_gs τ i0))), (0, .ref o), (1, .int (Zi i0))], [.int (Zi (S (a155 + 1)))]) _ _ _
      refine Z_callQ (vs := [.int (Zi (S (a155 + 1)))]) (rest := []) rfl (by decide) rfl rfl rfl (Nat.le_of_ble_eq_true rfl) (C_isDig _ (c := S (a155 + 1)) (by first | exact hs.zF _ _ | exact Zor_r _ _ | exact hs.zA _ _ | assumption | exact zA _ _ | exact zS _ | exact Zr_not (hs.zA _ _) | exact hs.1.1 _ _ | exact ⟨by omega, by omega⟩)) (fun x q => ?_)
      obtain ⟨dg164, rfl, hdg164⟩ := q
      have zdg164 : Zr dg164 := ⟨by omega, by omega⟩
      show B_R _ _ (50, [(4, .int (Zi z155)), (3, .int (Zi z155)), (2, .int (Zi (T_gs τ i0))), (0, .ref o), (1, .int (Zi i0))], [.int (Zi dg164)]) _ _ _
      refine Z_ieq rfl rfl (by first | exact hs.zF _ _ | exact Zor_r _ _ | exact hs.zA _ _ | assumption | exact zA _ _ | exact zS _ | exact Zr_not (hs.zA _ _) | exact hs.1.1 _ _ | exact ⟨by omega, by omega⟩) (fun c9 => ?_) (fun c9 => ?_)
      · refine Z_go (f2 := (62, [(4, .int (Zi z155)), (3, .int (Zi z155)), (2, .int (Zi (T_gs τ i0))), (0, .ref o), (1, .int (Zi i0))], [.int (Zi (-1))])) (fun _ => rfl) ?_
        refine Z_go (f2 := (64, [(4, .int (Zi (-1))), (3, .int (Zi z155)), (2, .int (Zi (T_gs τ i0))), (0, .ref o), (1, .int (Zi i0))], [])) (fun _ => rfl) ?_
        refine Z_go (f2 := (65, [(4, .int (Zi (-1))), (3, .int (Zi z155)), (2, .int (Zi (T_gs τ i0))), (0, .ref o), (1, .int (Zi i0))], [.ref o])) (fun _ => rfl) ?_
        refine C_gi rfl hs hp155.1.1 (by decide) (Nat.le_of_ble_eq_true rfl) rfl ?_
        rw [show C_F (C_sF v155 o 5 (a155 + 1)) o 1 = 0 from (by first | exact hp155.1.2.2.2.2.2.2.1 | exact (if_neg (fun e => absurd e.1 (by assumption))).trans hp155.1.2.2.2.2.2.2.1 | exact (if_neg (fun e => absurd e.2 (by decide))).trans hp155.1.2.2.2.2.2.2.1 | exact (if_neg (fun e => absurd e.2 (by decide))).trans ((if_neg (fun e => absurd e.2 (by decide))).trans hp155.1.2.2.2.2.2.2.1) | exact (if_neg (fun e => absurd e.2 (by decide))).trans ((if_neg (fun e => absurd e.2 (by decide))).trans ((if_neg (fun e => absurd e.2 (by decide))).trans hp155.1.2.2.2.2.2.2.1)))]
        show B_R _ _ (68, [(4, .int (Zi (-1))), (3, .int (Zi z155)), (2, .int (Zi (T_gs τ i0))), (0, .ref o), (1, .int (Zi i0))], [.int (Zi 0)]) _ _ _
        refine Z_ieq rfl rfl (by first | exact hs.zF _ _ | exact Zor_r _ _ | exact hs.zA _ _ | assumption | exact zA _ _ | exact zS _ | exact Zr_not (hs.zA _ _) | exact hs.1.1 _ _ | exact ⟨by omega, by omega⟩) (fun c10 => ?_) (fun c10 => ?_)
        · refine Z_go (f2 := (74, [(4, .int (Zi (-1))), (3, .int (Zi z155)), (2, .int (Zi (T_gs τ i0))), (0, .ref o), (1, .int (Zi i0))], [.ref o])) (fun _ => rfl) ?_
          refine C_callVR (As := []) (rest := []) rfl (by decide) rfl (by decide) rfl rfl (by decide +kernel) (Nat.le_of_ble_eq_true rfl) hs hp155.1.1 (C_peek _ (hp155.aa (a155 + 1)) (by omega)) (fun x q => ?_)
          obtain rfl := q
          have zpk165 := hp.r (a155 + 1) (by omega)
          show B_R _ _ (77, [(4, .int (Zi (-1))), (3, .int (Zi z155)), (2, .int (Zi (T_gs τ i0))), (0, .ref o), (1, .int (Zi i0))], [.int (Zi (S (a155 + 1)))]) _ _ _
          refine Z_go (f2 := (79, [(4, .int (Zi (-1))), (3, .int (Zi z155)), (2, .int (Zi (T_gs τ i0))), (0, .ref o), (1, .int (Zi i0))], [.int (Zi 125), .int (Zi (S (a155 + 1)))])) (fun _ => rfl) ?_
          refine Z_ceq rfl rfl (by first | exact hs.zF _ _ | exact Zor_r _ _ | exact hs.zA _ _ | assumption | exact zA _ _ | exact zS _ | exact Zr_not (hs.zA _ _) | exact hs.1.1 _ _ | exact ⟨by omega, by omega⟩) (by first | exact hs.zF _ _ | exact Zor_r _ _ | exact hs.zA _ _ | assumption | exact zA _ _ | exact zS _ | exact Zr_not (hs.zA _ _) | exact hs.1.1 _ _ | exact ⟨by omega, by omega⟩) (fun c11 => ?_) (fun c11 => ?_)
          · refine Z_go (f2 := (94, [(4, .int (Zi (-1))), (3, .int (Zi z155)), (2, .int (Zi (T_gs τ i0))), (0, .ref o), (1, .int (Zi i0))], [.ref o])) (fun _ => rfl) ?_
            refine Z_go (f2 := (95, [(4, .int (Zi (-1))), (3, .int (Zi z155)), (2, .int (Zi (T_gs τ i0))), (0, .ref o), (1, .int (Zi i0))], [.ref o, .ref o])) (fun _ => rfl) ?_
            refine C_gi rfl hs hp155.1.1 (by decide) (Nat.le_of_ble_eq_true rfl) rfl ?_
            rw [show C_F (C_sF v155 o 5 (a155 + 1)) o 5 = a155 + 1 from (by first | rfl | (simp only [C_F, C_P, C_A, C_L, C_Q, C_K, C_T, C_n, C_sF, C_sP, C_sA, C_sL, C_sQ, C_sAf, C_sQf]; simp [*]; done) | (simp only [C_F, C_P, C_A, C_L, C_Q, C_K, C_T, C_n, C_sF, C_sP, C_sA, C_sL, C_sQ, C_sAf, C_sQf]; simp; omega))]; show B_R _ _ (98, [(4, .int (Zi (-1))), (3, .int (Zi z155)), (2, .int (Zi (T_gs τ i0))), (0, .ref o), (1, .int (Zi i0))], [.int (Zi (a155 + 1)), .ref o]) _ _ _
            refine Z_go (f2 := (99, [(4, .int (Zi (-1))), (3, .int (Zi z155)), (2, .int (Zi (T_gs τ i0))), (0, .ref o), (1, .int (Zi i0))], [.int (Zi 1), .int (Zi (a155 + 1)), .ref o])) (fun _ => rfl) ?_
            refine Z_iadd rfl ?_
            refine C_pi rfl hs hp155.1.1 (by decide) (Nat.le_of_ble_eq_true rfl) (.inl rfl) rfl rfl rfl (by first | exact hs.zF _ _ | exact Zor_r _ _ | exact hs.zA _ _ | assumption | exact zA _ _ | exact zS _ | exact Zr_not (hs.zA _ _) | exact hs.1.1 _ _ | exact ⟨by omega, by omega⟩) (fun h hs => ?_)
            refine Z_go (f2 := (105, [(4, .int (Zi (-1))), (3, .int (Zi z155)), (2, .int (Zi (T_gs τ i0))), (0, .ref o), (1, .int (Zi i0))], [.int (Zi (-1))])) (fun _ => rfl) ?_
            refine Z_go (f2 := (106, [(4, .int (Zi (-1))), (3, .int (Zi z155)), (2, .int (Zi (T_gs τ i0))), (0, .ref o), (1, .int (Zi i0))], [.int (Zi (-1)), .int (Zi (-1))])) (fun _ => rfl) ?_
            refine Z_cne rfl rfl (by first | exact hs.zF _ _ | exact Zor_r _ _ | exact hs.zA _ _ | assumption | exact zA _ _ | exact zS _ | exact Zr_not (hs.zA _ _) | exact hs.1.1 _ _ | exact ⟨by omega, by omega⟩) (by first | exact hs.zF _ _ | exact Zor_r _ _ | exact hs.zA _ _ | assumption | exact zA _ _ | exact zS _ | exact Zr_not (hs.zA _ _) | exact hs.1.1 _ _ | exact ⟨by omega, by omega⟩) (fun c12 => ?_) (fun c12 => ?_)
            · exfalso; omega
            · have hsz := T_gs_b hz i0
              have hmu1 := T_mul_b (l := z155 + 1) (x := T_gs τ i0) (by omega) (by omega) (by omega) (by omega)
              have hmu2 := T_mul_b (l := z155) (x := T_gs τ i0) (by omega) (by omega) (by omega) (by omega)
              refine Z_go (f2 := (110, [(4, .int (Zi (-1))), (3, .int (Zi z155)), (2, .int (Zi (T_gs τ i0))), (0, .ref o), (1, .int (Zi i0))], [.int (Zi z155)])) (fun _ => rfl) ?_
              refine Z_go (f2 := (111, [(4, .int (Zi (-1))), (3, .int (Zi z155)), (2, .int (Zi (T_gs τ i0))), (0, .ref o), (1, .int (Zi i0))], [.int (Zi 1), .int (Zi z155)])) (fun _ => rfl) ?_
              refine Z_iadd rfl ?_
              refine Z_go (f2 := (113, [(4, .int (Zi (-1))), (3, .int (Zi z155)), (2, .int (Zi (T_gs τ i0))), (0, .ref o), (1, .int (Zi i0))], [.int (Zi (T_gs τ i0)), .int (Zi (z155 + 1))])) (fun _ => rfl) ?_
              refine Z_imul rfl ?_
              refine Z_go (f2 := (115, [(4, .int (Zi (-1))), (3, .int (Zi z155)), (2, .int (Zi (T_gs τ i0))), (0, .ref o), (1, .int (Zi i0))], [.int (Zi 1), .int (Zi ((z155 + 1) * (T_gs τ i0)))])) (fun _ => rfl) ?_
              refine Z_iadd rfl ?_
              refine Z_go (f2 := (128, [(4, .int (Zi (-1))), (3, .int (Zi z155)), (2, .int (Zi (T_gs τ i0))), (0, .ref o), (1, .int (Zi i0))], [.int (Zi ((z155 + 1) * (T_gs τ i0) + 1))])) (fun _ => rfl) ?_
              refine Z_go (f2 := (130, [(5, .int (Zi ((z155 + 1) * (T_gs τ i0) + 1))), (4, .int (Zi (-1))), (3, .int (Zi z155)), (2, .int (Zi (T_gs τ i0))), (0, .ref o), (1, .int (Zi i0))], [])) (fun _ => rfl) ?_
              refine Z_go (f2 := (131, [(5, .int (Zi ((z155 + 1) * (T_gs τ i0) + 1))), (4, .int (Zi (-1))), (3, .int (Zi z155)), (2, .int (Zi (T_gs τ i0))), (0, .ref o), (1, .int (Zi i0))], [.ref o])) (fun _ => rfl) ?_
              refine C_gr rfl hs hp155.1.1 (by decide) (Nat.le_of_ble_eq_true rfl) rfl hp155.1.2.2.1 ?_
              refine Z_go (f2 := (135, [(5, .int (Zi ((z155 + 1) * (T_gs τ i0) + 1))), (4, .int (Zi (-1))), (3, .int (Zi z155)), (2, .int (Zi (T_gs τ i0))), (0, .ref o), (1, .int (Zi i0))], [.int (Zi i0), .ref tr])) (fun _ => rfl) ?_
              refine Z_go (f2 := (136, [(5, .int (Zi ((z155 + 1) * (T_gs τ i0) + 1))), (4, .int (Zi (-1))), (3, .int (Zi z155)), (2, .int (Zi (T_gs τ i0))), (0, .ref o), (1, .int (Zi i0))], [.int (Zi z155), .int (Zi i0), .ref tr])) (fun _ => rfl) ?_
              refine Z_go (f2 := (138, [(5, .int (Zi ((z155 + 1) * (T_gs τ i0) + 1))), (4, .int (Zi (-1))), (3, .int (Zi z155)), (2, .int (Zi (T_gs τ i0))), (0, .ref o), (1, .int (Zi i0))], [.int (Zi (-1)), .int (Zi z155), .int (Zi i0), .ref tr])) (fun _ => rfl) ?_
              refine Z_go (f2 := (140, [(5, .int (Zi ((z155 + 1) * (T_gs τ i0) + 1))), (4, .int (Zi (-1))), (3, .int (Zi z155)), (2, .int (Zi (T_gs τ i0))), (0, .ref o), (1, .int (Zi i0))], [.int (Zi ((z155 + 1) * (T_gs τ i0) + 1)), .int (Zi (-1)), .int (Zi z155), .int (Zi i0), .ref tr])) (fun _ => rfl) ?_
              have wf166 := hs.1
              refine C_callV (As := [.int (Zi i0), .int (Zi z155), .int (Zi (-1)), .int (Zi ((z155 + 1) * (T_gs τ i0) + 1))]) (rest := []) rfl (by decide) rfl (by decide) rfl rfl (by decide +kernel) (Nat.le_of_ble_eq_true rfl) hs hd155.1.1 (C_newRep _ ((hd155.oF hne).oF hne) hz (a := i0) (lo := z155) (hi := -1) (z := (z155 + 1) * (T_gs τ i0) + 1) (by first | exact hs.zF _ _ | exact Zor_r _ _ | exact hs.zA _ _ | assumption | exact zA _ _ | exact zS _ | exact Zr_not (hs.zA _ _) | exact hs.1.1 _ _ | exact ⟨by omega, by omega⟩) (by first | exact hs.zF _ _ | exact Zor_r _ _ | exact hs.zA _ _ | assumption | exact zA _ _ | exact zS _ | exact Zr_not (hs.zA _ _) | exact hs.1.1 _ _ | exact ⟨by omega, by omega⟩) (by first | exact hs.zF _ _ | exact Zor_r _ _ | exact hs.zA _ _ | assumption | exact zA _ _ | exact zS _ | exact Zr_not (hs.zA _ _) | exact hs.1.1 _ _ | exact ⟨by omega, by omega⟩) (by omega) (by omega)) (fun x h v166 n166 hs q => ?_)
              obtain ⟨rfl, fr166, en166, m166, τ166, i166, rfl, ia166, ib166, hd166, hz166, hn166⟩ := q
              have zi166 : Zr i166 := ⟨by omega, by omega⟩
              have hp166 := ((hp155.aa (a155 + 1)).aa (a155 + 1 + 1)).sub wf166 fr166
              have pf166 := ((pf155.sF hp155.1.2.1).sF hp155.1.2.1).on fr166 en166
              have hne := hp166.ne hd166
              show B_R _ _ (143, [(5, .int (Zi ((z155 + 1) * (T_gs τ i0) + 1))), (4, .int (Zi (-1))), (3, .int (Zi z155)), (2, .int (Zi (T_gs τ i0))), (0, .ref o), (1, .int (Zi i0))], [.int (Zi i166)]) _ _ _
              refine Z_iret rfl rfl (by first | rfl | decide | exact narrow_b01 (by omega)) ⟨_, hs, ?_⟩
              try dsimp only
              first
              | (exfalso; omega)
              | (first
                 | (obtain ⟨e1, e2, e3⟩ := hn166 hm
                    rw [hR, uF]
                    refine ⟨rfl, pf166, _, _, _, m166, i166, _, rfl, by omega, by omega, hp166, hd166, hz166, by omega, by omega, ?_⟩
                    have e44 : S u2 = 44 := by rw [← ue2]; omega
                    have e125 : S (u2 + 1) = 125 := by rw [← ue2]; omega
                    have hry := hp.r (u2 + 1) (by omega)
                    refine P_say.ok' (v := some (11, u1, -1)) (b := u2 + 2) (by omega) ?_ ⟨by omega, by omega, by omega, e1, e2, u1, -1, rfl, .inr ⟨rfl, by omega, by omega, .inl rfl⟩, ?_⟩
                    · show (if S u2 = 44 then _ else _) = _
                      rw [if_pos e44, if_pos e125]
                    · rw [e3]
                      unfold T_cz
                      rw [if_pos rfl, ue1])
                 | (obtain ⟨e1, e2, e3⟩ := hn166 hm
                    rw [hR, uF]
                    refine ⟨rfl, pf166, _, _, _, m166, i166, _, rfl, by omega, by omega, hp166, hd166, hz166, by omega, by omega, ?_⟩
                    have e44 : S u2 ≠ 44 := by rw [← ue2]; omega
                    have e125 : S u2 = 125 := by rw [← ue2]; omega
                    have hry := hp.r u2 (by omega)
                    refine P_say.ok' (v := some (11, u1, u1)) (b := u2 + 1) (by omega) ?_ ⟨by omega, by omega, by omega, e1, e2, u1, u1, rfl, .inr ⟨rfl, by omega, by omega, .inr ⟨by omega, by omega⟩⟩, ?_⟩
                    · show (if S u2 = 44 then _ else _) = _
                      rw [if_neg e44, if_pos e125]
                    · rw [e3]
                      unfold T_cz
                      rw [if_neg (by omega), ue1]))
          · refine Z_go (f2 := (83, [(4, .int (Zi (-1))), (3, .int (Zi z155)), (2, .int (Zi (T_gs τ i0))), (0, .ref o), (1, .int (Zi i0))], [.ref o])) (fun _ => rfl) ?_
            refine Z_go (f2 := (84, [(4, .int (Zi (-1))), (3, .int (Zi z155)), (2, .int (Zi (T_gs τ i0))), (0, .ref o), (1, .int (Zi i0))], [.int (Zi 1), .ref o])) (fun _ => rfl) ?_
            refine Z_go (f2 := (85, [(4, .int (Zi (-1))), (3, .int (Zi z155)), (2, .int (Zi (T_gs τ i0))), (0, .ref o), (1, .int (Zi i0))], [.ref o, .int (Zi 1), .ref o])) (fun _ => rfl) ?_
            refine C_gi rfl hs hp155.1.1 (by decide) (Nat.le_of_ble_eq_true rfl) rfl ?_
            rw [show C_F (C_sF v155 o 5 (a155 + 1)) o 5 = a155 + 1 from (by first | rfl | (simp only [C_F, C_P, C_A, C_L, C_Q, C_K, C_T, C_n, C_sF, C_sP, C_sA, C_sL, C_sQ, C_sAf, C_sQf]; simp [*]; done) | (simp only [C_F, C_P, C_A, C_L, C_Q, C_K, C_T, C_n, C_sF, C_sP, C_sA, C_sL, C_sQ, C_sAf, C_sQf]; simp; omega))]; show B_R _ _ (88, [(4, .int (Zi (-1))), (3, .int (Zi z155)), (2, .int (Zi (T_gs τ i0))), (0, .ref o), (1, .int (Zi i0))], [.int (Zi (a155 + 1)), .int (Zi 1), .ref o]) _ _ _
            refine C_callV (As := [.int (Zi 1), .int (Zi (a155 + 1))]) (rest := []) rfl (by decide) rfl (by decide) rfl rfl (by decide +kernel) (Nat.le_of_ble_eq_true rfl) hs hp155.1.1 (C_fail0 _ (hp155.aa (a155 + 1)) (kd := 1) (wh := a155 + 1) (by first | exact hs.zF _ _ | exact Zor_r _ _ | exact hs.zA _ _ | assumption | exact zA _ _ | exact zS _ | exact Zr_not (hs.zA _ _) | exact hs.1.1 _ _ | exact ⟨by omega, by omega⟩) (by first | exact hs.zF _ _ | exact Zor_r _ _ | exact hs.zA _ _ | assumption | exact zA _ _ | exact zS _ | exact Zr_not (hs.zA _ _) | exact hs.1.1 _ _ | exact ⟨by omega, by omega⟩)) (fun x h uf nf hs q => ?_)
            obtain ⟨rfl, rfl, rfl⟩ := q
            show B_R _ _ (91, [(4, .int (Zi (-1))), (3, .int (Zi z155)), (2, .int (Zi (T_gs τ i0))), (0, .ref o), (1, .int (Zi i0))], []) _ _ _
            refine Z_go (f2 := (92, [(4, .int (Zi (-1))), (3, .int (Zi z155)), (2, .int (Zi (T_gs τ i0))), (0, .ref o), (1, .int (Zi i0))], [.int (Zi i0)])) (fun _ => rfl) ?_
            refine Z_iret rfl rfl (by first | rfl | decide | exact narrow_b01 (by omega)) ⟨_, hs, ?_⟩
            try dsimp only
            first
            | (exfalso; omega)
            | (have hF := P_say.bad sy155 (by omega)
               rw [hR, hF]
               refine ⟨rfl, (((pf155.sF hp155.1.2.1).sF hp155.1.2.1).sF hp155.1.2.1), _, _, _, m, i0, _, rfl, by omega, by omega, (((hp155.aa (a155 + 1)).ff 1 (by decide)).pp (a155 + 1) (by decide)), (((hd155.oF hne).oF hne).oF hne), hz, by omega, by omega, ?_⟩
               refine P_say.no' (by omega) (by omega) rfl (by omega))
            | (rw [hR, uF]
               refine ⟨rfl, (((pf155.sF hp155.1.2.1).sF hp155.1.2.1).sF hp155.1.2.1), _, _, _, m, i0, _, rfl, by omega, by omega, (((hp155.aa (a155 + 1)).ff 1 (by decide)).pp (a155 + 1) (by decide)), (((hd155.oF hne).oF hne).oF hne), hz, by omega, by omega, ?_⟩
               refine P_say.no' (k := 1) (w := u2) (by omega) (by omega) ?_ (by omega)
               show (if S u2 = 44 then _ else _) = _
               rw [if_neg (by rw [← ue2]; omega), if_neg (by rw [← ue2]; omega)])
            | (rw [hR, uF]
               refine ⟨rfl, (((pf155.sF hp155.1.2.1).sF hp155.1.2.1).sF hp155.1.2.1), _, _, _, m, i0, _, rfl, by omega, by omega, (((hp155.aa (a155 + 1)).ff 1 (by decide)).pp (a155 + 1) (by decide)), (((hd155.oF hne).oF hne).oF hne), hz, by omega, by omega, ?_⟩
               refine P_say.no' (k := 1) (w := u2 + 1) (by omega) (by omega) ?_ (by omega)
               have e44 : S u2 = 44 := by rw [← ue2]; omega
               have e125 : S (u2 + 1) ≠ 125 := by rw [← ue2]; omega
               have edg : ¬ D_dig (S (u2 + 1)) := by rw [← ue2]; omega
               show (if S u2 = 44 then _ else _) = _
               rw [if_pos e44, if_neg e125]
               have eN : P_num S (u2 + 1) = .inl (1, u2 + 1) := by
                 unfold P_num
                 rw [if_neg edg]
               rw [eN])
        · exfalso; omega
      · refine Z_go (f2 := (54, [(4, .int (Zi z155)), (3, .int (Zi z155)), (2, .int (Zi (T_gs τ i0))), (0, .ref o), (1, .int (Zi i0))], [.ref o])) (fun _ => rfl) ?_
        refine Z_go (f2 := (55, [(4, .int (Zi z155)), (3, .int (Zi z155)), (2, .int (Zi (T_gs τ i0))), (0, .ref o), (1, .int (Zi i0))], [.int (Zi z155), .ref o])) (fun _ => rfl) ?_
        have wf167 := hs.1
        refine C_callV (As := [.int (Zi z155)]) (rest := []) rfl (by decide) rfl (by decide) rfl rfl (by decide +kernel) (Nat.le_of_ble_eq_true rfl) hs hp155.1.1 (C_num2 _ (hp155.aa (a155 + 1)) (by omega) (by omega) (lo := z155) (by omega) (by omega)) (fun x h v167 n167 hs q => ?_)
        obtain ⟨rfl, pg167, f167, pl167, a167, z167, rfl, hp167, ga167, gb167, gc167, gd167, sy167⟩ := q
        have pf167 := (pf155.sF hp155.1.2.1).trO pg167
        have hd167 := (hd155.oF hne).po wf167 pg167
        have hne := hp167.ne hd167
        obtain ⟨zzf167, zzp167, zza167, _⟩ := hp167.z hs
        show B_R _ _ (58, [(4, .int (Zi z155)), (3, .int (Zi z155)), (2, .int (Zi (T_gs τ i0))), (0, .ref o), (1, .int (Zi i0))], [.int (Zi z167)]) _ _ _
        refine Z_go (f2 := (62, [(4, .int (Zi z155)), (3, .int (Zi z155)), (2, .int (Zi (T_gs τ i0))), (0, .ref o), (1, .int (Zi i0))], [.int (Zi z167)])) (fun _ => rfl) ?_
        refine Z_go (f2 := (64, [(4, .int (Zi z167)), (3, .int (Zi z155)), (2, .int (Zi (T_gs τ i0))), (0, .ref o), (1, .int (Zi i0))], [])) (fun _ => rfl) ?_
        refine Z_go (f2 := (65, [(4, .int (Zi z167)), (3, .int (Zi z155)), (2, .int (Zi (T_gs τ i0))), (0, .ref o), (1, .int (Zi i0))], [.ref o])) (fun _ => rfl) ?_
        refine C_gi rfl hs hp167.1.1 (by decide) (Nat.le_of_ble_eq_true rfl) rfl ?_
        rw [show C_F (v167) o 1 = f167 from (by first | exact hp167.1.2.2.2.2.2.2.1 | exact (if_neg (fun e => absurd e.1 (by assumption))).trans hp167.1.2.2.2.2.2.2.1 | exact (if_neg (fun e => absurd e.2 (by decide))).trans hp167.1.2.2.2.2.2.2.1 | exact (if_neg (fun e => absurd e.2 (by decide))).trans ((if_neg (fun e => absurd e.2 (by decide))).trans hp167.1.2.2.2.2.2.2.1) | exact (if_neg (fun e => absurd e.2 (by decide))).trans ((if_neg (fun e => absurd e.2 (by decide))).trans ((if_neg (fun e => absurd e.2 (by decide))).trans hp167.1.2.2.2.2.2.2.1)))]
        show B_R _ _ (68, [(4, .int (Zi z167)), (3, .int (Zi z155)), (2, .int (Zi (T_gs τ i0))), (0, .ref o), (1, .int (Zi i0))], [.int (Zi f167)]) _ _ _
        refine Z_ieq rfl rfl (by first | exact hs.zF _ _ | exact Zor_r _ _ | exact hs.zA _ _ | assumption | exact zA _ _ | exact zS _ | exact Zr_not (hs.zA _ _) | exact hs.1.1 _ _ | exact ⟨by omega, by omega⟩) (fun c13 => ?_) (fun c13 => ?_)
        · obtain rfl : f167 = 0 := by omega
          obtain ⟨y1, y2, yF, ye1, ye2, ye3, ye4⟩ := P_say.good sy167 (by omega)
          rw [ue2] at yF
          have eN : P_num S (u2 + 1) = .inr (y1, y2) ∧ ¬ y1 < u1 := by
            cases eN : P_num S (u2 + 1) using P_R_el with
            | bad k w => rw [eN] at yF; cases yF
            | ok v c =>
              rw [eN] at yF
              have yF : (if v < z155 then (.inl (2, u2 + 1) : P_R Int) else .inr (v, c)) = _ := yF
              by_cases cv : v < z155
              · rw [if_pos cv] at yF
                cases yF
              · rw [if_neg cv] at yF
                obtain ⟨q1, q2⟩ := P_R_inj yF
                exact ⟨by rw [q1, q2], by omega⟩
          refine Z_go (f2 := (74, [(4, .int (Zi z167)), (3, .int (Zi z155)), (2, .int (Zi (T_gs τ i0))), (0, .ref o), (1, .int (Zi i0))], [.ref o])) (fun _ => rfl) ?_
          refine C_callVR (As := []) (rest := []) rfl (by decide) rfl (by decide) rfl rfl (by decide +kernel) (Nat.le_of_ble_eq_true rfl) hs hp167.1.1 (C_peek _ hp167 (by omega)) (fun x q => ?_)
          obtain rfl := q
          have zpk168 := hp.r a167 (by omega)
          show B_R _ _ (77, [(4, .int (Zi z167)), (3, .int (Zi z155)), (2, .int (Zi (T_gs τ i0))), (0, .ref o), (1, .int (Zi i0))], [.int (Zi (S a167))]) _ _ _
          refine Z_go (f2 := (79, [(4, .int (Zi z167)), (3, .int (Zi z155)), (2, .int (Zi (T_gs τ i0))), (0, .ref o), (1, .int (Zi i0))], [.int (Zi 125), .int (Zi (S a167))])) (fun _ => rfl) ?_
          refine Z_ceq rfl rfl (by first | exact hs.zF _ _ | exact Zor_r _ _ | exact hs.zA _ _ | assumption | exact zA _ _ | exact zS _ | exact Zr_not (hs.zA _ _) | exact hs.1.1 _ _ | exact ⟨by omega, by omega⟩) (by first | exact hs.zF _ _ | exact Zor_r _ _ | exact hs.zA _ _ | assumption | exact zA _ _ | exact zS _ | exact Zr_not (hs.zA _ _) | exact hs.1.1 _ _ | exact ⟨by omega, by omega⟩) (fun c14 => ?_) (fun c14 => ?_)
          · refine Z_go (f2 := (94, [(4, .int (Zi z167)), (3, .int (Zi z155)), (2, .int (Zi (T_gs τ i0))), (0, .ref o), (1, .int (Zi i0))], [.ref o])) (fun _ => rfl) ?_
            refine Z_go (f2 := (95, [(4, .int (Zi z167)), (3, .int (Zi z155)), (2, .int (Zi (T_gs τ i0))), (0, .ref o), (1, .int (Zi i0))], [.ref o, .ref o])) (fun _ => rfl) ?_
            refine C_gi rfl hs hp167.1.1 (by decide) (Nat.le_of_ble_eq_true rfl) rfl ?_
            rw [show C_F (v167) o 5 = a167 from (by first | exact hp167.1.2.2.2.2.2.2.2.2.2.1 | exact (if_neg (fun e => absurd e.1 (by assumption))).trans hp167.1.2.2.2.2.2.2.2.2.2.1 | exact (if_neg (fun e => absurd e.2 (by decide))).trans hp167.1.2.2.2.2.2.2.2.2.2.1 | exact (if_neg (fun e => absurd e.2 (by decide))).trans ((if_neg (fun e => absurd e.2 (by decide))).trans hp167.1.2.2.2.2.2.2.2.2.2.1) | exact (if_neg (fun e => absurd e.2 (by decide))).trans ((if_neg (fun e => absurd e.2 (by decide))).trans ((if_neg (fun e => absurd e.2 (by decide))).trans hp167.1.2.2.2.2.2.2.2.2.2.1)))]
            show B_R _ _ (98, [(4, .int (Zi z167)), (3, .int (Zi z155)), (2, .int (Zi (T_gs τ i0))), (0, .ref o), (1, .int (Zi i0))], [.int (Zi a167), .ref o]) _ _ _
            refine Z_go (f2 := (99, [(4, .int (Zi z167)), (3, .int (Zi z155)), (2, .int (Zi (T_gs τ i0))), (0, .ref o), (1, .int (Zi i0))], [.int (Zi 1), .int (Zi a167), .ref o])) (fun _ => rfl) ?_
            refine Z_iadd rfl ?_
            refine C_pi rfl hs hp167.1.1 (by decide) (Nat.le_of_ble_eq_true rfl) (.inl rfl) rfl rfl rfl (by first | exact hs.zF _ _ | exact Zor_r _ _ | exact hs.zA _ _ | assumption | exact zA _ _ | exact zS _ | exact Zr_not (hs.zA _ _) | exact hs.1.1 _ _ | exact ⟨by omega, by omega⟩) (fun h hs => ?_)
            refine Z_go (f2 := (105, [(4, .int (Zi z167)), (3, .int (Zi z155)), (2, .int (Zi (T_gs τ i0))), (0, .ref o), (1, .int (Zi i0))], [.int (Zi z167)])) (fun _ => rfl) ?_
            refine Z_go (f2 := (106, [(4, .int (Zi z167)), (3, .int (Zi z155)), (2, .int (Zi (T_gs τ i0))), (0, .ref o), (1, .int (Zi i0))], [.int (Zi (-1)), .int (Zi z167)])) (fun _ => rfl) ?_
            refine Z_cne rfl rfl (by first | exact hs.zF _ _ | exact Zor_r _ _ | exact hs.zA _ _ | assumption | exact zA _ _ | exact zS _ | exact Zr_not (hs.zA _ _) | exact hs.1.1 _ _ | exact ⟨by omega, by omega⟩) (by first | exact hs.zF _ _ | exact Zor_r _ _ | exact hs.zA _ _ | assumption | exact zA _ _ | exact zS _ | exact Zr_not (hs.zA _ _) | exact hs.1.1 _ _ | exact ⟨by omega, by omega⟩) (fun c15 => ?_) (fun c15 => ?_)
            · have hsz := T_gs_b hz i0
              have hmu1 := T_mul_b (l := z155 + 1) (x := T_gs τ i0) (by omega) (by omega) (by omega) (by omega)
              have hmu2 := T_mul_b (l := z167) (x := T_gs τ i0) (by omega) (by omega) (by omega) (by omega)
              refine Z_go (f2 := (121, [(4, .int (Zi z167)), (3, .int (Zi z155)), (2, .int (Zi (T_gs τ i0))), (0, .ref o), (1, .int (Zi i0))], [.int (Zi z167)])) (fun _ => rfl) ?_
              refine Z_go (f2 := (122, [(4, .int (Zi z167)), (3, .int (Zi z155)), (2, .int (Zi (T_gs τ i0))), (0, .ref o), (1, .int (Zi i0))], [.int (Zi (T_gs τ i0)), .int (Zi z167)])) (fun _ => rfl) ?_
              refine Z_imul rfl ?_
              refine Z_go (f2 := (125, [(4, .int (Zi z167)), (3, .int (Zi z155)), (2, .int (Zi (T_gs τ i0))), (0, .ref o), (1, .int (Zi i0))], [.int (Zi z167), .int (Zi (z167 * (T_gs τ i0)))])) (fun _ => rfl) ?_
              refine Z_iadd rfl ?_
              refine Z_go (f2 := (127, [(4, .int (Zi z167)), (3, .int (Zi z155)), (2, .int (Zi (T_gs τ i0))), (0, .ref o), (1, .int (Zi i0))], [.int (Zi z155), .int (Zi (z167 * (T_gs τ i0) + z167))])) (fun _ => rfl) ?_
              refine Z_isub rfl ?_
              refine Z_go (f2 := (130, [(5, .int (Zi (z167 * (T_gs τ i0) + z167 - z155))), (4, .int (Zi z167)), (3, .int (Zi z155)), (2, .int (Zi (T_gs τ i0))), (0, .ref o), (1, .int (Zi i0))], [])) (fun _ => rfl) ?_
              refine Z_go (f2 := (131, [(5, .int (Zi (z167 * (T_gs τ i0) + z167 - z155))), (4, .int (Zi z167)), (3, .int (Zi z155)), (2, .int (Zi (T_gs τ i0))), (0, .ref o), (1, .int (Zi i0))], [.ref o])) (fun _ => rfl) ?_
              refine C_gr rfl hs hp167.1.1 (by decide) (Nat.le_of_ble_eq_true rfl) rfl hp167.1.2.2.1 ?_
              refine Z_go (f2 := (135, [(5, .int (Zi (z167 * (T_gs τ i0) + z167 - z155))), (4, .int (Zi z167)), (3, .int (Zi z155)), (2, .int (Zi (T_gs τ i0))), (0, .ref o), (1, .int (Zi i0))], [.int (Zi i0), .ref tr])) (fun _ => rfl) ?_
              refine Z_go (f2 := (136, [(5, .int (Zi (z167 * (T_gs τ i0) + z167 - z155))), (4, .int (Zi z167)), (3, .int (Zi z155)), (2, .int (Zi (T_gs τ i0))), (0, .ref o), (1, .int (Zi i0))], [.int (Zi z155), .int (Zi i0), .ref tr])) (fun _ => rfl) ?_
              refine Z_go (f2 := (138, [(5, .int (Zi (z167 * (T_gs τ i0) + z167 - z155))), (4, .int (Zi z167)), (3, .int (Zi z155)), (2, .int (Zi (T_gs τ i0))), (0, .ref o), (1, .int (Zi i0))], [.int (Zi z167), .int (Zi z155), .int (Zi i0), .ref tr])) (fun _ => rfl) ?_
              refine Z_go (f2 := (140, [(5, .int (Zi (z167 * (T_gs τ i0) + z167 - z155))), (4, .int (Zi z167)), (3, .int (Zi z155)), (2, .int (Zi (T_gs τ i0))), (0, .ref o), (1, .int (Zi i0))], [.int (Zi (z167 * (T_gs τ i0) + z167 - z155)), .int (Zi z167), .int (Zi z155), .int (Zi i0), .ref tr])) (fun _ => rfl) ?_
              have wf169 := hs.1
              refine C_callV (As := [.int (Zi i0), .int (Zi z155), .int (Zi z167), .int (Zi (z167 * (T_gs τ i0) + z167 - z155))]) (rest := []) rfl (by decide) rfl (by decide) rfl rfl (by decide +kernel) (Nat.le_of_ble_eq_true rfl) hs hd167.1.1 (C_newRep _ (hd167.oF hne) hz (a := i0) (lo := z155) (hi := z167) (z := z167 * (T_gs τ i0) + z167 - z155) (by first | exact hs.zF _ _ | exact Zor_r _ _ | exact hs.zA _ _ | assumption | exact zA _ _ | exact zS _ | exact Zr_not (hs.zA _ _) | exact hs.1.1 _ _ | exact ⟨by omega, by omega⟩) (by first | exact hs.zF _ _ | exact Zor_r _ _ | exact hs.zA _ _ | assumption | exact zA _ _ | exact zS _ | exact Zr_not (hs.zA _ _) | exact hs.1.1 _ _ | exact ⟨by omega, by omega⟩) (by first | exact hs.zF _ _ | exact Zor_r _ _ | exact hs.zA _ _ | assumption | exact zA _ _ | exact zS _ | exact Zr_not (hs.zA _ _) | exact hs.1.1 _ _ | exact ⟨by omega, by omega⟩) (by omega) (by omega)) (fun x h v169 n169 hs q => ?_)
              obtain ⟨rfl, fr169, en169, m169, τ169, i169, rfl, ia169, ib169, hd169, hz169, hn169⟩ := q
              have zi169 : Zr i169 := ⟨by omega, by omega⟩
              have hp169 := (hp167.aa (a167 + 1)).sub wf169 fr169
              have pf169 := (pf167.sF hp167.1.2.1).on fr169 en169
              have hne := hp169.ne hd169
              show B_R _ _ (143, [(5, .int (Zi (z167 * (T_gs τ i0) + z167 - z155))), (4, .int (Zi z167)), (3, .int (Zi z155)), (2, .int (Zi (T_gs τ i0))), (0, .ref o), (1, .int (Zi i0))], [.int (Zi i169)]) _ _ _
              refine Z_iret rfl rfl (by first | rfl | decide | exact narrow_b01 (by omega)) ⟨_, hs, ?_⟩
              try dsimp only
              first
              | (exfalso; omega)
              | (obtain ⟨e1, e2, e3⟩ := hn169 hm
                 rw [hR, uF]
                 have e44 : S u2 = 44 := by rw [← ue2]; omega
                 have e125 : S (u2 + 1) ≠ 125 := by rw [← ue2]; omega
                 refine ⟨rfl, pf169, _, _, _, m169, i169, _, rfl, by omega, by omega, hp169, hd169, hz169, by omega, by omega, ?_⟩
                 have hl2 := hlt _ _ _ eN.1
                 have hry := hp.r y2 (by omega)
                 have ey : S y2 = 125 := by rw [← ye2]; omega
                 refine P_say.ok' (v := some (11, u1, y1)) (b := y2 + 1) (by omega) ?_ ⟨by omega, by omega, by omega, e1, e2, u1, y1, rfl, .inr ⟨rfl, by omega, by omega, .inr ⟨by omega, by omega⟩⟩, ?_⟩
                 · show (if S u2 = 44 then _ else _) = _
                   rw [if_pos e44, if_neg e125, eN.1]
                   show (if y1 < u1 then _ else _) = _
                   rw [if_neg eN.2, if_pos ey]
                 · rw [e3]
                   unfold T_cz
                   rw [if_neg (by omega), ue1, ye1])
            · have hsz := T_gs_b hz i0
              have hmu1 := T_mul_b (l := z155 + 1) (x := T_gs τ i0) (by omega) (by omega) (by omega) (by omega)
              have hmu2 := T_mul_b (l := z167) (x := T_gs τ i0) (by omega) (by omega) (by omega) (by omega)
              refine Z_go (f2 := (110, [(4, .int (Zi z167)), (3, .int (Zi z155)), (2, .int (Zi (T_gs τ i0))), (0, .ref o), (1, .int (Zi i0))], [.int (Zi z155)])) (fun _ => rfl) ?_
              refine Z_go (f2 := (111, [(4, .int (Zi z167)), (3, .int (Zi z155)), (2, .int (Zi (T_gs τ i0))), (0, .ref o), (1, .int (Zi i0))], [.int (Zi 1), .int (Zi z155)])) (fun _ => rfl) ?_
              refine Z_iadd rfl ?_
              refine Z_go (f2 := (113, [(4, .int (Zi z167)), (3, .int (Zi z155)), (2, .int (Zi (T_gs τ i0))), (0, .ref o), (1, .int (Zi i0))], [.int (Zi (T_gs τ i0)), .int (Zi (z155 + 1))])) (fun _ => rfl) ?_
              refine Z_imul rfl ?_
              refine Z_go (f2 := (115, [(4, .int (Zi z167)), (3, .int (Zi z155)), (2, .int (Zi (T_gs τ i0))), (0, .ref o), (1, .int (Zi i0))], [.int (Zi 1), .int (Zi ((z155 + 1) * (T_gs τ i0)))])) (fun _ => rfl) ?_
              refine Z_iadd rfl ?_
              refine Z_go (f2 := (128, [(4, .int (Zi z167)), (3, .int (Zi z155)), (2, .int (Zi (T_gs τ i0))), (0, .ref o), (1, .int (Zi i0))], [.int (Zi ((z155 + 1) * (T_gs τ i0) + 1))])) (fun _ => rfl) ?_
              refine Z_go (f2 := (130, [(5, .int (Zi ((z155 + 1) * (T_gs τ i0) + 1))), (4, .int (Zi z167)), (3, .int (Zi z155)), (2, .int (Zi (T_gs τ i0))), (0, .ref o), (1, .int (Zi i0))], [])) (fun _ => rfl) ?_
              refine Z_go (f2 := (131, [(5, .int (Zi ((z155 + 1) * (T_gs τ i0) + 1))), (4, .int (Zi z167)), (3, .int (Zi z155)), (2, .int (Zi (T_gs τ i0))), (0, .ref o), (1, .int (Zi i0))], [.ref o])) (fun _ => rfl) ?_
              refine C_gr rfl hs hp167.1.1 (by decide) (Nat.le_of_ble_eq_true rfl) rfl hp167.1.2.2.1 ?_
              refine Z_go (f2 := (135, [(5, .int (Zi ((z155 + 1) * (T_gs τ i0) + 1))), (4, .int (Zi z167)), (3, .int (Zi z155)), (2, .int (Zi (T_gs τ i0))), (0, .ref o), (1, .int (Zi i0))], [.int (Zi i0), .ref tr])) (fun _ => rfl) ?_
              refine Z_go (f2 := (136, [(5, .int (Zi ((z155 + 1) * (T_gs τ i0) + 1))), (4, .int (Zi z167)), (3, .int (Zi z155)), (2, .int (Zi (T_gs τ i0))), (0, .ref o), (1, .int (Zi i0))], [.int (Zi z155), .int (Zi i0), .ref tr])) (fun _ => rfl) ?_
              refine Z_go (f2 := (138, [(5, .int (Zi ((z155 + 1) * (T_gs τ i0) + 1))), (4, .int (Zi z167)), (3, .int (Zi z155)), (2, .int (Zi (T_gs τ i0))), (0, .ref o), (1, .int (Zi i0))], [.int (Zi z167), .int (Zi z155), .int (Zi i0), .ref tr])) (fun _ => rfl) ?_
              refine Z_go (f2 := (140, [(5, .int (Zi ((z155 + 1) * (T_gs τ i0) + 1))), (4, .int (Zi z167)), (3, .int (Zi z155)), (2, .int (Zi (T_gs τ i0))), (0, .ref o), (1, .int (Zi i0))], [.int (Zi ((z155 + 1) * (T_gs τ i0) + 1)), .int (Zi z167), .int (Zi z155), .int (Zi i0), .ref tr])) (fun _ => rfl) ?_
              have wf170 := hs.1
              refine C_callV (As := [.int (Zi i0), .int (Zi z155), .int (Zi z167), .int (Zi ((z155 + 1) * (T_gs τ i0) + 1))]) (rest := []) rfl (by decide) rfl (by decide) rfl rfl (by decide +kernel) (Nat.le_of_ble_eq_true rfl) hs hd167.1.1 (C_newRep _ (hd167.oF hne) hz (a := i0) (lo := z155) (hi := z167) (z := (z155 + 1) * (T_gs τ i0) + 1) (by first | exact hs.zF _ _ | exact Zor_r _ _ | exact hs.zA _ _ | assumption | exact zA _ _ | exact zS _ | exact Zr_not (hs.zA _ _) | exact hs.1.1 _ _ | exact ⟨by omega, by omega⟩) (by first | exact hs.zF _ _ | exact Zor_r _ _ | exact hs.zA _ _ | assumption | exact zA _ _ | exact zS _ | exact Zr_not (hs.zA _ _) | exact hs.1.1 _ _ | exact ⟨by omega, by omega⟩) (by first | exact hs.zF _ _ | exact Zor_r _ _ | exact hs.zA _ _ | assumption | exact zA _ _ | exact zS _ | exact Zr_not (hs.zA _ _) | exact hs.1.1 _ _ | exact ⟨by omega, by omega⟩) (by omega) (by omega)) (fun x h v170 n170 hs q => ?_)
              obtain ⟨rfl, fr170, en170, m170, τ170, i170, rfl, ia170, ib170, hd170, hz170, hn170⟩ := q
              have zi170 : Zr i170 := ⟨by omega, by omega⟩
              have hp170 := (hp167.aa (a167 + 1)).sub wf170 fr170
              have pf170 := (pf167.sF hp167.1.2.1).on fr170 en170
              have hne := hp170.ne hd170
              show B_R _ _ (143, [(5, .int (Zi ((z155 + 1) * (T_gs τ i0) + 1))), (4, .int (Zi z167)), (3, .int (Zi z155)), (2, .int (Zi (T_gs τ i0))), (0, .ref o), (1, .int (Zi i0))], [.int (Zi i170)]) _ _ _
              refine Z_iret rfl rfl (by first | rfl | decide | exact narrow_b01 (by omega)) ⟨_, hs, ?_⟩
              try dsimp only
              first
              | (exfalso; omega)
              | (obtain ⟨e1, e2, e3⟩ := hn170 hm
                 rw [hR, uF]
                 have e44 : S u2 = 44 := by rw [← ue2]; omega
                 have e125 : S (u2 + 1) ≠ 125 := by rw [← ue2]; omega
                 refine ⟨rfl, pf170, _, _, _, m170, i170, _, rfl, by omega, by omega, hp170, hd170, hz170, by omega, by omega, ?_⟩
                 have hl2 := hlt _ _ _ eN.1
                 have hry := hp.r y2 (by omega)
                 have ey : S y2 = 125 := by rw [← ye2]; omega
                 refine P_say.ok' (v := some (11, u1, y1)) (b := y2 + 1) (by omega) ?_ ⟨by omega, by omega, by omega, e1, e2, u1, y1, rfl, .inr ⟨rfl, by omega, by omega, .inr ⟨by omega, by omega⟩⟩, ?_⟩
                 · show (if S u2 = 44 then _ else _) = _
                   rw [if_pos e44, if_neg e125, eN.1]
                   show (if y1 < u1 then _ else _) = _
                   rw [if_neg eN.2, if_pos ey]
                 · rw [e3]
                   unfold T_cz
                   rw [if_neg (by omega), ue1, ye1])
          · refine Z_go (f2 := (83, [(4, .int (Zi z167)), (3, .int (Zi z155)), (2, .int (Zi (T_gs τ i0))), (0, .ref o), (1, .int (Zi i0))], [.ref o])) (fun _ => rfl) ?_
            refine Z_go (f2 := (84, [(4, .int (Zi z167)), (3, .int (Zi z155)), (2, .int (Zi (T_gs τ i0))), (0, .ref o), (1, .int (Zi i0))], [.int (Zi 1), .ref o])) (fun _ => rfl) ?_
            refine Z_go (f2 := (85, [(4, .int (Zi z167)), (3, .int (Zi z155)), (2, .int (Zi (T_gs τ i0))), (0, .ref o), (1, .int (Zi i0))], [.ref o, .int (Zi 1), .ref o])) (fun _ => rfl) ?_
            refine C_gi rfl hs hp167.1.1 (by decide) (Nat.le_of_ble_eq_true rfl) rfl ?_
            rw [show C_F (v167) o 5 = a167 from (by first | exact hp167.1.2.2.2.2.2.2.2.2.2.1 | exact (if_neg (fun e => absurd e.1 (by assumption))).trans hp167.1.2.2.2.2.2.2.2.2.2.1 | exact (if_neg (fun e => absurd e.2 (by decide))).trans hp167.1.2.2.2.2.2.2.2.2.2.1 | exact (if_neg (fun e => absurd e.2 (by decide))).trans ((if_neg (fun e => absurd e.2 (by decide))).trans hp167.1.2.2.2.2.2.2.2.2.2.1) | exact (if_neg (fun e => absurd e.2 (by decide))).trans ((if_neg (fun e => absurd e.2 (by decide))).trans ((if_neg (fun e => absurd e.2 (by decide))).trans hp167.1.2.2.2.2.2.2.2.2.2.1)))]
            show B_R _ _ (88, [(4, .int (Zi z167)), (3, .int (Zi z155)), (2, .int (Zi (T_gs τ i0))), (0, .ref o), (1, .int (Zi i0))], [.int (Zi a167), .int (Zi 1), .ref o]) _ _ _
            refine C_callV (As := [.int (Zi 1), .int (Zi a167)]) (rest := []) rfl (by decide) rfl (by decide) rfl rfl (by decide +kernel) (Nat.le_of_ble_eq_true rfl) hs hp167.1.1 (C_fail0 _ hp167 (kd := 1) (wh := a167) (by first | exact hs.zF _ _ | exact Zor_r _ _ | exact hs.zA _ _ | assumption | exact zA _ _ | exact zS _ | exact Zr_not (hs.zA _ _) | exact hs.1.1 _ _ | exact ⟨by omega, by omega⟩) (by first | exact hs.zF _ _ | exact Zor_r _ _ | exact hs.zA _ _ | assumption | exact zA _ _ | exact zS _ | exact Zr_not (hs.zA _ _) | exact hs.1.1 _ _ | exact ⟨by omega, by omega⟩)) (fun x h uf nf hs q => ?_)
            obtain ⟨rfl, rfl, rfl⟩ := q
            show B_R _ _ (91, [(4, .int (Zi z167)), (3, .int (Zi z155)), (2, .int (Zi (T_gs τ i0))), (0, .ref o), (1, .int (Zi i0))], []) _ _ _
            refine Z_go (f2 := (92, [(4, .int (Zi z167)), (3, .int (Zi z155)), (2, .int (Zi (T_gs τ i0))), (0, .ref o), (1, .int (Zi i0))], [.int (Zi i0)])) (fun _ => rfl) ?_
            refine Z_iret rfl rfl (by first | rfl | decide | exact narrow_b01 (by omega)) ⟨_, hs, ?_⟩
            try dsimp only
            first
            | (exfalso; omega)
            | (rw [hR, uF]
               have e44 : S u2 = 44 := by rw [← ue2]; omega
               have e125 : S (u2 + 1) ≠ 125 := by rw [← ue2]; omega
               refine ⟨rfl, ((pf167.sF hp167.1.2.1).sF hp167.1.2.1), _, _, _, m, i0, _, rfl, by omega, by omega, ((hp167.ff 1 (by decide)).pp a167 (by decide)), ((hd167.oF hne).oF hne), hz, by omega, by omega, ?_⟩
               refine P_say.no' (k := 1) (w := y2) (by omega) (by omega) ?_ (by omega)
               show (if S u2 = 44 then _ else _) = _
               rw [if_pos e44, if_neg e125]
               rw [eN.1]
               show (if y1 < u1 then _ else _) = _
               rw [if_neg eN.2, if_neg (by rw [← ye2]; omega)])
            | (have hF := P_say.bad sy155 (by omega)
               rw [hR, hF]
               refine ⟨rfl, ((pf167.sF hp167.1.2.1).sF hp167.1.2.1), _, _, _, m, i0, _, rfl, by omega, by omega, ((hp167.ff 1 (by decide)).pp a167 (by decide)), ((hd167.oF hne).oF hne), hz, by omega, by omega, ?_⟩
               refine P_say.no' (by omega) (by omega) rfl (by omega))
            | (rw [hR, uF]
               have e44 : S u2 = 44 := by rw [← ue2]; omega
               have e125 : S (u2 + 1) ≠ 125 := by rw [← ue2]; omega
               have hF := P_say.bad sy167 (by omega)
               rw [ue2] at hF
               refine ⟨rfl, ((pf167.sF hp167.1.2.1).sF hp167.1.2.1), _, _, _, m, i0, _, rfl, by omega, by omega, ((hp167.ff 1 (by decide)).pp a167 (by decide)), ((hd167.oF hne).oF hne), hz, by omega, by omega, ?_⟩
               refine P_say.no' (k := f167) (w := pl167) (by omega) (by omega) ?_ (by omega)
               show (if S u2 = 44 then _ else _) = _
               rw [if_pos e44, if_neg e125]
               cases eN : P_num S (u2 + 1) using P_R_el with
               | bad k w =>
                 rw [eN] at hF
                 obtain ⟨q1, q2⟩ := P_R_bad (show (.inl (k, w) : P_R Int) = .inl (f167, pl167) from hF)
                 show (.inl (k, w) : P_R (Option (Int × Int × Int))) = _
                 rw [q1, q2]
               | ok v c =>
                 rw [eN] at hF
                 have hF : (if v < z155 then (.inl (2, u2 + 1) : P_R Int) else .inr (v, c)) = _ := hF
                 show (if v < u1 then _ else _) = _
                 by_cases cv : v < z155
                 · rw [if_pos cv] at hF
                   rw [if_pos (by omega)]
                   obtain ⟨q1, q2⟩ := P_R_bad hF
                   rw [q1, q2]
                 · rw [if_neg cv] at hF
                   cases hF)
        · refine Z_go (f2 := (72, [(4, .int (Zi z167)), (3, .int (Zi z155)), (2, .int (Zi (T_gs τ i0))), (0, .ref o), (1, .int (Zi i0))], [.int (Zi i0)])) (fun _ => rfl) ?_
          refine Z_iret rfl rfl (by first | rfl | decide | exact narrow_b01 (by omega)) ⟨_, hs, ?_⟩
          try dsimp only
          first
          | (exfalso; omega)
          | (rw [hR, uF]
             have e44 : S u2 = 44 := by rw [← ue2]; omega
             have e125 : S (u2 + 1) ≠ 125 := by rw [← ue2]; omega
             refine ⟨rfl, pf167, _, _, _, m, i0, _, rfl, by omega, by omega, hp167, hd167, hz, by omega, by omega, ?_⟩
             refine P_say.no' (k := 1) (w := y2) (by omega) (by omega) ?_ (by omega)
             show (if S u2 = 44 then _ else _) = _
             rw [if_pos e44, if_neg e125]
             rw [eN.1]
             show (if y1 < u1 then _ else _) = _
             rw [if_neg eN.2, if_neg (by rw [← ye2]; omega)])
          | (have hF := P_say.bad sy155 (by omega)
             rw [hR, hF]
             refine ⟨rfl, pf167, _, _, _, m, i0, _, rfl, by omega, by omega, hp167, hd167, hz, by omega, by omega, ?_⟩
             refine P_say.no' (by omega) (by omega) rfl (by omega))
          | (rw [hR, uF]
             have e44 : S u2 = 44 := by rw [← ue2]; omega
             have e125 : S (u2 + 1) ≠ 125 := by rw [← ue2]; omega
             have hF := P_say.bad sy167 (by omega)
             rw [ue2] at hF
             refine ⟨rfl, pf167, _, _, _, m, i0, _, rfl, by omega, by omega, hp167, hd167, hz, by omega, by omega, ?_⟩
             refine P_say.no' (k := f167) (w := pl167) (by omega) (by omega) ?_ (by omega)
             show (if S u2 = 44 then _ else _) = _
             rw [if_pos e44, if_neg e125]
             cases eN : P_num S (u2 + 1) using P_R_el with
             | bad k w =>
               rw [eN] at hF
               obtain ⟨q1, q2⟩ := P_R_bad (show (.inl (k, w) : P_R Int) = .inl (f167, pl167) from hF)
               show (.inl (k, w) : P_R (Option (Int × Int × Int))) = _
               rw [q1, q2]
             | ok v c =>
               rw [eN] at hF
               have hF : (if v < z155 then (.inl (2, u2 + 1) : P_R Int) else .inr (v, c)) = _ := hF
               show (if v < u1 then _ else _) = _
               by_cases cv : v < z155
               · rw [if_pos cv] at hF
                 rw [if_pos (by omega)]
                 obtain ⟨q1, q2⟩ := P_R_bad hF
                 rw [q1, q2]
               · rw [if_neg cv] at hF
                 cases hF)
