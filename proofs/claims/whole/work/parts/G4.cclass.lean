/-! the class: Parser: a list -/
theorem P_items_end {S : Int → Int} {t : Nat} {a : Int} {B : Int → Prop} (h : S a = 93) : P_items S (t + 1) false a B = .inr (B, a + 1) := by
  conv => lhs; unfold P_items
  rw [if_pos ⟨rfl, h⟩]
theorem P_items_on {S : Int → Int} {t : Nat} {fi : Bool} {a : Int} {B : Int → Prop} (h : fi = true ∨ S a ≠ 93) : P_items S (t + 1) fi a B = (match P_item S a with
    | .inl (k, w) => .inl (k, w)
    | .inr (C, b) => P_items S t false b (fun x => B x ∨ C x)) := by
  conv => lhs; unfold P_items
  rw [if_neg (fun e => h.elim (fun h => by rw [h] at e; exact absurd e.1 (by decide)) (fun h => h e.2))]
  rfl
theorem C_cls_lp {dd : Nat} {h0 : E_H} {s : C_S} {p : List Nat} {o tr src N : Nat} {S : Int → Int} {nn fo a : Int} {A : Nat → Nat} {m sm : Int} {τ : Nat → Int → Int} {β : Int → Int64} {wo : Int} {R : P_R (Int → Prop)} (a0 : 0 ≤ a) (hm : m < 168) (hm0 : 0 ≤ m) (hs8 : sm < 80) (hs9 : 0 ≤ sm) (hwo : wo = 0 ∨ wo = 1) (nn1 : nn ≤ 80) : ∀ (t : Nat) (tt : Nat) (turn f pl' aa e : Int) (β' : Int → Int64) (B : Int → Prop) (u : C_S) (h : E_H), nn + 30 - aa + e < t → (f = 0 ∧ e = 1 ∨ f ≠ 0 ∧ e = 0) → C_is h0 h u → D_P0 u p o tr src N S nn fo f pl' aa → D_Tr u (p ++ [tr]) tr A m (sm + 1) τ β' → T_zb τ → D_Pf p s u → a < aa → aa ≤ nn + 3 → (0 ≤ turn ∧ turn ≤ 80) → (∀ d j, 0 ≤ d → d < sm → 0 ≤ j → j ≤ 255 → (T_has β' d j ↔ T_has β d j)) → (f ≠ 0 ∧ R = .inl (f, pl') ∨ f = 0 ∧ aa ≤ nn ∧ turn + 1 ≤ aa ∧ R = P_items S tt false aa B ∧ nn - aa < tt ∧ ∀ j, 0 ≤ j → j ≤ 255 → (T_has β' sm j ↔ B j)) → B_R (dd + 4) E_m48 (58, [(3, .int (Zi turn)), (2, .int (Zi sm)), (1, .int (Zi wo)), (0, .ref o)], []) h 0 (fun r => ∃ s2 : C_S, C_is h0 r.2.1 s2 ∧ (fun (x : Option Value) (s2 : C_S) (n : Nat) => n = 0 ∧ D_Pf p s s2 ∧ ∃ (f2 pl2 a2 m2 sm2 i : Int) (τ2 : Nat → Int → Int) (β2 : Int → Int64), x = some (.int (Zi i)) ∧ -1 ≤ i ∧ i < 168 ∧ D_P0 s2 p o tr src N S nn fo f2 pl2 a2 ∧ D_Tr s2 (p ++ [tr]) tr A m2 sm2 τ2 β2 ∧ T_zb τ2 ∧ a ≤ a2 ∧ a2 ≤ nn + 5 ∧ P_say (match R with | .inl q => .inl q | .inr (B, b) => .inr (.inr (if wo = 1 then fun x => ¬ P_fold (fo ≠ 0) B x else P_fold (fo ≠ 0) B), b)) f2 pl2 (fun At b => a2 = b ∧ b ≤ nn ∧ a < b ∧ i = m ∧ m2 = m + 1 ∧ At_ok At τ m sm β τ2 sm2 β2)) r.1 s2 r.2.2) := by
  intro t
  induction t with
  | zero => intro tt turn f pl' aa e β' B u h ht he hs hp hd hz pf g0 g1 t0 hold hI; omega
  | succ t ih =>
    intro tt turn f pl' aa e β' B u h ht he hs hp hd hz pf g0 g1 t0 hold hI
    have hpz := hp.z hs
    have za := hpz.2.2.1
    have zn := hpz.2.2.2.1
    have zfo := hpz.2.2.2.2
    have zfu := hpz.1
    have nn0 := hp.2.2.2.2.1
    have hne := hp.ne hd
    have hra := hp.r aa (by omega)
    by_cases h80 : turn < 80
    · rcases hI with ⟨hf, hR⟩ | ⟨rfl, ha, htu, hR, hRt, hB⟩
      · refine Z_go (f2 := (59, [(3, .int (Zi turn)), (2, .int (Zi sm)), (1, .int (Zi wo)), (0, .ref o)], [.int (Zi turn)])) (fun _ => rfl) ?_
        refine Z_go (f2 := (61, [(3, .int (Zi turn)), (2, .int (Zi sm)), (1, .int (Zi wo)), (0, .ref o)], [.int (Zi 80), .int (Zi turn)])) (fun _ => rfl) ?_
        refine Z_cge rfl rfl (by first | exact hs.zF _ _ | exact Zor_r _ _ | exact hs.zA _ _ | assumption | exact zA _ _ | exact zS _ | exact Zr_not (hs.zA _ _) | exact hs.1.1 _ _ | exact ⟨by omega, by omega⟩) (by first | exact hs.zF _ _ | exact Zor_r _ _ | exact hs.zA _ _ | assumption | exact zA _ _ | exact zS _ | exact Zr_not (hs.zA _ _) | exact hs.1.1 _ _ | exact ⟨by omega, by omega⟩) (fun c1 => ?_) (fun c1 => ?_)
        · refine Z_go (f2 := (92, [(3, .int (Zi turn)), (2, .int (Zi sm)), (1, .int (Zi wo)), (0, .ref o)], [.ref o])) (fun _ => rfl) ?_
          refine Z_go (f2 := (93, [(3, .int (Zi turn)), (2, .int (Zi sm)), (1, .int (Zi wo)), (0, .ref o)], [.ref o, .ref o])) (fun _ => rfl) ?_
          refine C_gi rfl hs hp.1.1 (by decide) (Nat.le_of_ble_eq_true rfl) rfl ?_
          rw [show C_F (u) o 5 = aa from (by first | exact hp.1.2.2.2.2.2.2.2.2.2.1 | exact (if_neg (fun e => absurd e.1 (by assumption))).trans hp.1.2.2.2.2.2.2.2.2.2.1 | exact (if_neg (fun e => absurd e.2 (by decide))).trans hp.1.2.2.2.2.2.2.2.2.2.1 | exact (if_neg (fun e => absurd e.2 (by decide))).trans ((if_neg (fun e => absurd e.2 (by decide))).trans hp.1.2.2.2.2.2.2.2.2.2.1) | exact (if_neg (fun e => absurd e.2 (by decide))).trans ((if_neg (fun e => absurd e.2 (by decide))).trans ((if_neg (fun e => absurd e.2 (by decide))).trans hp.1.2.2.2.2.2.2.2.2.2.1)))]
          show B_R _ _ (96, [(3, .int (Zi turn)), (2, .int (Zi sm)), (1, .int (Zi wo)), (0, .ref o)], [.int (Zi aa), .ref o]) _ _ _
          refine Z_go (f2 := (97, [(3, .int (Zi turn)), (2, .int (Zi sm)), (1, .int (Zi wo)), (0, .ref o)], [.int (Zi 1), .int (Zi aa), .ref o])) (fun _ => rfl) ?_
          refine Z_iadd rfl ?_
          refine C_pi rfl hs hp.1.1 (by decide) (Nat.le_of_ble_eq_true rfl) (.inl rfl) rfl rfl rfl (by first | exact hs.zF _ _ | exact Zor_r _ _ | exact hs.zA _ _ | assumption | exact zA _ _ | exact zS _ | exact Zr_not (hs.zA _ _) | exact hs.1.1 _ _ | exact ⟨by omega, by omega⟩) (fun h hs => ?_)
          refine Z_go (f2 := (102, [(3, .int (Zi turn)), (2, .int (Zi sm)), (1, .int (Zi wo)), (0, .ref o)], [.ref o])) (fun _ => rfl) ?_
          refine C_gi rfl hs hp.1.1 (by decide) (Nat.le_of_ble_eq_true rfl) rfl ?_
          rw [show C_F (C_sF u o 5 (aa + 1)) o 6 = fo from (by first | exact hp.1.2.2.2.2.2.2.2.2.2.2.1 | exact (if_neg (fun e => absurd e.1 (by assumption))).trans hp.1.2.2.2.2.2.2.2.2.2.2.1 | exact (if_neg (fun e => absurd e.2 (by decide))).trans hp.1.2.2.2.2.2.2.2.2.2.2.1 | exact (if_neg (fun e => absurd e.2 (by decide))).trans ((if_neg (fun e => absurd e.2 (by decide))).trans hp.1.2.2.2.2.2.2.2.2.2.2.1) | exact (if_neg (fun e => absurd e.2 (by decide))).trans ((if_neg (fun e => absurd e.2 (by decide))).trans ((if_neg (fun e => absurd e.2 (by decide))).trans hp.1.2.2.2.2.2.2.2.2.2.2.1)))]
          show B_R _ _ (105, [(3, .int (Zi turn)), (2, .int (Zi sm)), (1, .int (Zi wo)), (0, .ref o)], [.int (Zi fo)]) _ _ _
          refine Z_ieq rfl rfl (by first | exact hs.zF _ _ | exact Zor_r _ _ | exact hs.zA _ _ | assumption | exact zA _ _ | exact zS _ | exact Zr_not (hs.zA _ _) | exact hs.1.1 _ _ | exact ⟨by omega, by omega⟩) (fun c2 => ?_) (fun c2 => ?_)
          · refine Z_go (f2 := (117, [(3, .int (Zi turn)), (2, .int (Zi sm)), (1, .int (Zi wo)), (0, .ref o)], [.int (Zi wo)])) (fun _ => rfl) ?_
            refine Z_ieq rfl rfl (by first | exact hs.zF _ _ | exact Zor_r _ _ | exact hs.zA _ _ | assumption | exact zA _ _ | exact zS _ | exact Zr_not (hs.zA _ _) | exact hs.1.1 _ _ | exact ⟨by omega, by omega⟩) (fun c3 => ?_) (fun c3 => ?_)
            · refine Z_go (f2 := (129, [(3, .int (Zi turn)), (2, .int (Zi sm)), (1, .int (Zi wo)), (0, .ref o)], [.ref o])) (fun _ => rfl) ?_
              refine C_gr rfl hs hp.1.1 (by decide) (Nat.le_of_ble_eq_true rfl) rfl hp.1.2.2.1 ?_
              refine Z_go (f2 := (133, [(3, .int (Zi turn)), (2, .int (Zi sm)), (1, .int (Zi wo)), (0, .ref o)], [.int (Zi sm), .ref tr])) (fun _ => rfl) ?_
              have wf154 := hs.1
              refine C_callV (As := [.int (Zi sm)]) (rest := []) rfl (by decide) rfl (by decide) rfl rfl (by decide +kernel) (Nat.le_of_ble_eq_true rfl) hs hd.1.1 (C_newByt _ (hd.oF hne) hz (a := sm) (by first | exact hs.zF _ _ | exact Zor_r _ _ | exact hs.zA _ _ | assumption | exact zA _ _ | exact zS _ | exact Zr_not (hs.zA _ _) | exact hs.1.1 _ _ | exact ⟨by omega, by omega⟩)) (fun x h v154 n154 hs q => ?_)
              obtain ⟨rfl, fr154, en154, m154, τ154, i154, rfl, ia154, ib154, hd154, hz154, hn154⟩ := q
              have zi154 : Zr i154 := ⟨by omega, by omega⟩
              have hp154 := (hp.aa (aa + 1)).sub wf154 fr154
              have pf154 := (pf.sF hp.1.2.1).on fr154 en154
              have hne := hp154.ne hd154
              show B_R _ _ (136, [(3, .int (Zi turn)), (2, .int (Zi sm)), (1, .int (Zi wo)), (0, .ref o)], [.int (Zi i154)]) _ _ _
              refine Z_iret rfl rfl (by first | rfl | decide | exact narrow_b01 (by omega)) ⟨_, hs, ?_⟩
              try dsimp only
              rw [hR]
              refine ⟨rfl, pf154, _, _, _, _, _, i154, _, _, rfl, by omega, by omega, hp154, hd154, hz154, by omega, by omega, ?_⟩
              exact P_say.no rfl hf
            · refine Z_go (f2 := (121, [(3, .int (Zi turn)), (2, .int (Zi sm)), (1, .int (Zi wo)), (0, .ref o)], [.ref o])) (fun _ => rfl) ?_
              refine C_gr rfl hs hp.1.1 (by decide) (Nat.le_of_ble_eq_true rfl) rfl hp.1.2.2.1 ?_
              refine Z_go (f2 := (125, [(3, .int (Zi turn)), (2, .int (Zi sm)), (1, .int (Zi wo)), (0, .ref o)], [.int (Zi sm), .ref tr])) (fun _ => rfl) ?_
              have wf155 := hs.1
              refine C_callV (As := [.int (Zi sm)]) (rest := []) rfl (by decide) rfl (by decide) rfl rfl (by decide +kernel) (Nat.le_of_ble_eq_true rfl) hs hd.1.1 (C_inv _ (hd.oF hne) (c := sm) (by omega) (by omega)) (fun x h v155 n155 hs q => ?_)
              obtain ⟨rfl, rfl, fr155, en155, β155, hd155, hb155⟩ := q
              have hp155 := (hp.aa (aa + 1)).sub wf155 fr155
              have pf155 := (pf.sF hp.1.2.1).on fr155 en155
              have hne := hp155.ne hd155
              show B_R _ _ (128, [(3, .int (Zi turn)), (2, .int (Zi sm)), (1, .int (Zi wo)), (0, .ref o)], []) _ _ _
              refine Z_go (f2 := (129, [(3, .int (Zi turn)), (2, .int (Zi sm)), (1, .int (Zi wo)), (0, .ref o)], [.ref o])) (fun _ => rfl) ?_
              refine C_gr rfl hs hp155.1.1 (by decide) (Nat.le_of_ble_eq_true rfl) rfl hp155.1.2.2.1 ?_
              refine Z_go (f2 := (133, [(3, .int (Zi turn)), (2, .int (Zi sm)), (1, .int (Zi wo)), (0, .ref o)], [.int (Zi sm), .ref tr])) (fun _ => rfl) ?_
              have wf156 := hs.1
              refine C_callV (As := [.int (Zi sm)]) (rest := []) rfl (by decide) rfl (by decide) rfl rfl (by decide +kernel) (Nat.le_of_ble_eq_true rfl) hs hd155.1.1 (C_newByt _ hd155 hz (a := sm) (by first | exact hs.zF _ _ | exact Zor_r _ _ | exact hs.zA _ _ | assumption | exact zA _ _ | exact zS _ | exact Zr_not (hs.zA _ _) | exact hs.1.1 _ _ | exact ⟨by omega, by omega⟩)) (fun x h v156 n156 hs q => ?_)
              obtain ⟨rfl, fr156, en156, m156, τ156, i156, rfl, ia156, ib156, hd156, hz156, hn156⟩ := q
              have zi156 : Zr i156 := ⟨by omega, by omega⟩
              have hp156 := hp155.sub wf156 fr156
              have pf156 := pf155.on fr156 en156
              have hne := hp156.ne hd156
              show B_R _ _ (136, [(3, .int (Zi turn)), (2, .int (Zi sm)), (1, .int (Zi wo)), (0, .ref o)], [.int (Zi i156)]) _ _ _
              refine Z_iret rfl rfl (by first | rfl | decide | exact narrow_b01 (by omega)) ⟨_, hs, ?_⟩
              try dsimp only
              rw [hR]
              refine ⟨rfl, pf156, _, _, _, _, _, i156, _, _, rfl, by omega, by omega, hp156, hd156, hz156, by omega, by omega, ?_⟩
              exact P_say.no rfl hf
          · refine Z_go (f2 := (109, [(3, .int (Zi turn)), (2, .int (Zi sm)), (1, .int (Zi wo)), (0, .ref o)], [.ref o])) (fun _ => rfl) ?_
            refine C_gr rfl hs hp.1.1 (by decide) (Nat.le_of_ble_eq_true rfl) rfl hp.1.2.2.1 ?_
            refine Z_go (f2 := (113, [(3, .int (Zi turn)), (2, .int (Zi sm)), (1, .int (Zi wo)), (0, .ref o)], [.int (Zi sm), .ref tr])) (fun _ => rfl) ?_
            have wf157 := hs.1
            refine C_callV (As := [.int (Zi sm)]) (rest := []) rfl (by decide) rfl (by decide) rfl rfl (by decide +kernel) (Nat.le_of_ble_eq_true rfl) hs hd.1.1 (C_foldL _ (hd.oF hne) (c := sm) (by omega) (by omega)) (fun x h v157 n157 hs q => ?_)
            obtain ⟨rfl, rfl, fr157, en157, β157, hd157, hb157⟩ := q
            have hp157 := (hp.aa (aa + 1)).sub wf157 fr157
            have pf157 := (pf.sF hp.1.2.1).on fr157 en157
            have hne := hp157.ne hd157
            show B_R _ _ (116, [(3, .int (Zi turn)), (2, .int (Zi sm)), (1, .int (Zi wo)), (0, .ref o)], []) _ _ _
            refine Z_go (f2 := (117, [(3, .int (Zi turn)), (2, .int (Zi sm)), (1, .int (Zi wo)), (0, .ref o)], [.int (Zi wo)])) (fun _ => rfl) ?_
            refine Z_ieq rfl rfl (by first | exact hs.zF _ _ | exact Zor_r _ _ | exact hs.zA _ _ | assumption | exact zA _ _ | exact zS _ | exact Zr_not (hs.zA _ _) | exact hs.1.1 _ _ | exact ⟨by omega, by omega⟩) (fun c4 => ?_) (fun c4 => ?_)
            · refine Z_go (f2 := (129, [(3, .int (Zi turn)), (2, .int (Zi sm)), (1, .int (Zi wo)), (0, .ref o)], [.ref o])) (fun _ => rfl) ?_
              refine C_gr rfl hs hp157.1.1 (by decide) (Nat.le_of_ble_eq_true rfl) rfl hp157.1.2.2.1 ?_
              refine Z_go (f2 := (133, [(3, .int (Zi turn)), (2, .int (Zi sm)), (1, .int (Zi wo)), (0, .ref o)], [.int (Zi sm), .ref tr])) (fun _ => rfl) ?_
              have wf158 := hs.1
              refine C_callV (As := [.int (Zi sm)]) (rest := []) rfl (by decide) rfl (by decide) rfl rfl (by decide +kernel) (Nat.le_of_ble_eq_true rfl) hs hd157.1.1 (C_newByt _ hd157 hz (a := sm) (by first | exact hs.zF _ _ | exact Zor_r _ _ | exact hs.zA _ _ | assumption | exact zA _ _ | exact zS _ | exact Zr_not (hs.zA _ _) | exact hs.1.1 _ _ | exact ⟨by omega, by omega⟩)) (fun x h v158 n158 hs q => ?_)
              obtain ⟨rfl, fr158, en158, m158, τ158, i158, rfl, ia158, ib158, hd158, hz158, hn158⟩ := q
              have zi158 : Zr i158 := ⟨by omega, by omega⟩
              have hp158 := hp157.sub wf158 fr158
              have pf158 := pf157.on fr158 en158
              have hne := hp158.ne hd158
              show B_R _ _ (136, [(3, .int (Zi turn)), (2, .int (Zi sm)), (1, .int (Zi wo)), (0, .ref o)], [.int (Zi i158)]) _ _ _
              refine Z_iret rfl rfl (by first | rfl | decide | exact narrow_b01 (by omega)) ⟨_, hs, ?_⟩
              try dsimp only
              rw [hR]
              refine ⟨rfl, pf158, _, _, _, _, _, i158, _, _, rfl, by omega, by omega, hp158, hd158, hz158, by omega, by omega, ?_⟩
              exact P_say.no rfl hf
            · refine Z_go (f2 := (121, [(3, .int (Zi turn)), (2, .int (Zi sm)), (1, .int (Zi wo)), (0, .ref o)], [.ref o])) (fun _ => rfl) ?_
              refine C_gr rfl hs hp157.1.1 (by decide) (Nat.le_of_ble_eq_true rfl) rfl hp157.1.2.2.1 ?_
              refine Z_go (f2 := (125, [(3, .int (Zi turn)), (2, .int (Zi sm)), (1, .int (Zi wo)), (0, .ref o)], [.int (Zi sm), .ref tr])) (fun _ => rfl) ?_
              have wf159 := hs.1
              refine C_callV (As := [.int (Zi sm)]) (rest := []) rfl (by decide) rfl (by decide) rfl rfl (by decide +kernel) (Nat.le_of_ble_eq_true rfl) hs hd157.1.1 (C_inv _ hd157 (c := sm) (by omega) (by omega)) (fun x h v159 n159 hs q => ?_)
              obtain ⟨rfl, rfl, fr159, en159, β159, hd159, hb159⟩ := q
              have hp159 := hp157.sub wf159 fr159
              have pf159 := pf157.on fr159 en159
              have hne := hp159.ne hd159
              show B_R _ _ (128, [(3, .int (Zi turn)), (2, .int (Zi sm)), (1, .int (Zi wo)), (0, .ref o)], []) _ _ _
              refine Z_go (f2 := (129, [(3, .int (Zi turn)), (2, .int (Zi sm)), (1, .int (Zi wo)), (0, .ref o)], [.ref o])) (fun _ => rfl) ?_
              refine C_gr rfl hs hp159.1.1 (by decide) (Nat.le_of_ble_eq_true rfl) rfl hp159.1.2.2.1 ?_
              refine Z_go (f2 := (133, [(3, .int (Zi turn)), (2, .int (Zi sm)), (1, .int (Zi wo)), (0, .ref o)], [.int (Zi sm), .ref tr])) (fun _ => rfl) ?_
              have wf160 := hs.1
              refine C_callV (As := [.int (Zi sm)]) (rest := []) rfl (by decide) rfl (by decide) rfl rfl (by decide +kernel) (Nat.le_of_ble_eq_true rfl) hs hd159.1.1 (C_newByt _ hd159 hz (a := sm) (by first | exact hs.zF _ _ | exact Zor_r _ _ | exact hs.zA _ _ | assumption | exact zA _ _ | exact zS _ | exact Zr_not (hs.zA _ _) | exact hs.1.1 _ _ | exact ⟨by omega, by omega⟩)) (fun x h v160 n160 hs q => ?_)
              obtain ⟨rfl, fr160, en160, m160, τ160, i160, rfl, ia160, ib160, hd160, hz160, hn160⟩ := q
              have zi160 : Zr i160 := ⟨by omega, by omega⟩
              have hp160 := hp159.sub wf160 fr160
              have pf160 := pf159.on fr160 en160
              have hne := hp160.ne hd160
              show B_R _ _ (136, [(3, .int (Zi turn)), (2, .int (Zi sm)), (1, .int (Zi wo)), (0, .ref o)], [.int (Zi i160)]) _ _ _
              refine Z_iret rfl rfl (by first | rfl | decide | exact narrow_b01 (by omega)) ⟨_, hs, ?_⟩
              try dsimp only
              rw [hR]
              refine ⟨rfl, pf160, _, _, _, _, _, i160, _, _, rfl, by omega, by omega, hp160, hd160, hz160, by omega, by omega, ?_⟩
              exact P_say.no rfl hf
        · refine Z_go (f2 := (65, [(3, .int (Zi turn)), (2, .int (Zi sm)), (1, .int (Zi wo)), (0, .ref o)], [.ref o])) (fun _ => rfl) ?_
          refine C_gi rfl hs hp.1.1 (by decide) (Nat.le_of_ble_eq_true rfl) rfl ?_
          rw [show C_F (u) o 1 = f from (by first | exact hp.1.2.2.2.2.2.2.1 | exact (if_neg (fun e => absurd e.1 (by assumption))).trans hp.1.2.2.2.2.2.2.1 | exact (if_neg (fun e => absurd e.2 (by decide))).trans hp.1.2.2.2.2.2.2.1 | exact (if_neg (fun e => absurd e.2 (by decide))).trans ((if_neg (fun e => absurd e.2 (by decide))).trans hp.1.2.2.2.2.2.2.1) | exact (if_neg (fun e => absurd e.2 (by decide))).trans ((if_neg (fun e => absurd e.2 (by decide))).trans ((if_neg (fun e => absurd e.2 (by decide))).trans hp.1.2.2.2.2.2.2.1)))]
          show B_R _ _ (68, [(3, .int (Zi turn)), (2, .int (Zi sm)), (1, .int (Zi wo)), (0, .ref o)], [.int (Zi f)]) _ _ _
          refine Z_ine rfl rfl (by first | exact hs.zF _ _ | exact Zor_r _ _ | exact hs.zA _ _ | assumption | exact zA _ _ | exact zS _ | exact Zr_not (hs.zA _ _) | exact hs.1.1 _ _ | exact ⟨by omega, by omega⟩) (fun c5 => ?_) (fun c5 => ?_)
          · refine Z_go (f2 := (92, [(3, .int (Zi turn)), (2, .int (Zi sm)), (1, .int (Zi wo)), (0, .ref o)], [.ref o])) (fun _ => rfl) ?_
            refine Z_go (f2 := (93, [(3, .int (Zi turn)), (2, .int (Zi sm)), (1, .int (Zi wo)), (0, .ref o)], [.ref o, .ref o])) (fun _ => rfl) ?_
            refine C_gi rfl hs hp.1.1 (by decide) (Nat.le_of_ble_eq_true rfl) rfl ?_
            rw [show C_F (u) o 5 = aa from (by first | exact hp.1.2.2.2.2.2.2.2.2.2.1 | exact (if_neg (fun e => absurd e.1 (by assumption))).trans hp.1.2.2.2.2.2.2.2.2.2.1 | exact (if_neg (fun e => absurd e.2 (by decide))).trans hp.1.2.2.2.2.2.2.2.2.2.1 | exact (if_neg (fun e => absurd e.2 (by decide))).trans ((if_neg (fun e => absurd e.2 (by decide))).trans hp.1.2.2.2.2.2.2.2.2.2.1) | exact (if_neg (fun e => absurd e.2 (by decide))).trans ((if_neg (fun e => absurd e.2 (by decide))).trans ((if_neg (fun e => absurd e.2 (by decide))).trans hp.1.2.2.2.2.2.2.2.2.2.1)))]
            show B_R _ _ (96, [(3, .int (Zi turn)), (2, .int (Zi sm)), (1, .int (Zi wo)), (0, .ref o)], [.int (Zi aa), .ref o]) _ _ _
            refine Z_go (f2 := (97, [(3, .int (Zi turn)), (2, .int (Zi sm)), (1, .int (Zi wo)), (0, .ref o)], [.int (Zi 1), .int (Zi aa), .ref o])) (fun _ => rfl) ?_
            refine Z_iadd rfl ?_
            refine C_pi rfl hs hp.1.1 (by decide) (Nat.le_of_ble_eq_true rfl) (.inl rfl) rfl rfl rfl (by first | exact hs.zF _ _ | exact Zor_r _ _ | exact hs.zA _ _ | assumption | exact zA _ _ | exact zS _ | exact Zr_not (hs.zA _ _) | exact hs.1.1 _ _ | exact ⟨by omega, by omega⟩) (fun h hs => ?_)
            refine Z_go (f2 := (102, [(3, .int (Zi turn)), (2, .int (Zi sm)), (1, .int (Zi wo)), (0, .ref o)], [.ref o])) (fun _ => rfl) ?_
            refine C_gi rfl hs hp.1.1 (by decide) (Nat.le_of_ble_eq_true rfl) rfl ?_
            rw [show C_F (C_sF u o 5 (aa + 1)) o 6 = fo from (by first | exact hp.1.2.2.2.2.2.2.2.2.2.2.1 | exact (if_neg (fun e => absurd e.1 (by assumption))).trans hp.1.2.2.2.2.2.2.2.2.2.2.1 | exact (if_neg (fun e => absurd e.2 (by decide))).trans hp.1.2.2.2.2.2.2.2.2.2.2.1 | exact (if_neg (fun e => absurd e.2 (by decide))).trans ((if_neg (fun e => absurd e.2 (by decide))).trans hp.1.2.2.2.2.2.2.2.2.2.2.1) | exact (if_neg (fun e => absurd e.2 (by decide))).trans ((if_neg (fun e => absurd e.2 (by decide))).trans ((if_neg (fun e => absurd e.2 (by decide))).trans hp.1.2.2.2.2.2.2.2.2.2.2.1)))]
            show B_R _ _ (105, [(3, .int (Zi turn)), (2, .int (Zi sm)), (1, .int (Zi wo)), (0, .ref o)], [.int (Zi fo)]) _ _ _
            refine Z_ieq rfl rfl (by first | exact hs.zF _ _ | exact Zor_r _ _ | exact hs.zA _ _ | assumption | exact zA _ _ | exact zS _ | exact Zr_not (hs.zA _ _) | exact hs.1.1 _ _ | exact ⟨by omega, by omega⟩) (fun c6 => ?_) (fun c6 => ?_)
            · refine Z_go (f2 := (117, [(3, .int (Zi turn)), (2, .int (Zi sm)), (1, .int (Zi wo)), (0, .ref o)], [.int (Zi wo)])) (fun _ => rfl) ?_
              refine Z_ieq rfl rfl (by first | exact hs.zF _ _ | exact Zor_r _ _ | exact hs.zA _ _ | assumption | exact zA _ _ | exact zS _ | exact Zr_not (hs.zA _ _) | exact hs.1.1 _ _ | exact ⟨by omega, by omega⟩) (fun c7 => ?_) (fun c7 => ?_)
              · refine Z_go (f2 := (129, [(3, .int (Zi turn)), (2, .int (Zi sm)), (1, .int (Zi wo)), (0, .ref o)], [.ref o])) (fun _ => rfl) ?_
                refine C_gr rfl hs hp.1.1 (by decide) (Nat.le_of_ble_eq_true rfl) rfl hp.1.2.2.1 ?_
                refine Z_go (f2 := (133, [(3, .int (Zi turn)), (2, .int (Zi sm)), (1, .int (Zi wo)), (0, .ref o)], [.int (Zi sm), .ref tr])) (fun _ => rfl) ?_
                have wf161 := hs.1
                refine C_callV (As := [.int (Zi sm)]) (rest := []) rfl (by decide) rfl (by decide) rfl rfl (by decide +kernel) (Nat.le_of_ble_eq_true rfl) hs hd.1.1 (C_newByt _ (hd.oF hne) hz (a := sm) (by first | exact hs.zF _ _ | exact Zor_r _ _ | exact hs.zA _ _ | assumption | exact zA _ _ | exact zS _ | exact Zr_not (hs.zA _ _) | exact hs.1.1 _ _ | exact ⟨by omega, by omega⟩)) (fun x h v161 n161 hs q => ?_)
                obtain ⟨rfl, fr161, en161, m161, τ161, i161, rfl, ia161, ib161, hd161, hz161, hn161⟩ := q
                have zi161 : Zr i161 := ⟨by omega, by omega⟩
                have hp161 := (hp.aa (aa + 1)).sub wf161 fr161
                have pf161 := (pf.sF hp.1.2.1).on fr161 en161
                have hne := hp161.ne hd161
                show B_R _ _ (136, [(3, .int (Zi turn)), (2, .int (Zi sm)), (1, .int (Zi wo)), (0, .ref o)], [.int (Zi i161)]) _ _ _
                refine Z_iret rfl rfl (by first | rfl | decide | exact narrow_b01 (by omega)) ⟨_, hs, ?_⟩
                try dsimp only
                rw [hR]
                refine ⟨rfl, pf161, _, _, _, _, _, i161, _, _, rfl, by omega, by omega, hp161, hd161, hz161, by omega, by omega, ?_⟩
                exact P_say.no rfl hf
              · refine Z_go (f2 := (121, [(3, .int (Zi turn)), (2, .int (Zi sm)), (1, .int (Zi wo)), (0, .ref o)], [.ref o])) (fun _ => rfl) ?_
                refine C_gr rfl hs hp.1.1 (by decide) (Nat.le_of_ble_eq_true rfl) rfl hp.1.2.2.1 ?_
                refine Z_go (f2 := (125, [(3, .int (Zi turn)), (2, .int (Zi sm)), (1, .int (Zi wo)), (0, .ref o)], [.int (Zi sm), .ref tr])) (fun _ => rfl) ?_
                have wf162 := hs.1
                refine C_callV (As := [.int (Zi sm)]) (rest := []) rfl (by decide) rfl (by decide) rfl rfl (by decide +kernel) (Nat.le_of_ble_eq_true rfl) hs hd.1.1 (C_inv _ (hd.oF hne) (c := sm) (by omega) (by omega)) (fun x h v162 n162 hs q => ?_)
                obtain ⟨rfl, rfl, fr162, en162, β162, hd162, hb162⟩ := q
                have hp162 := (hp.aa (aa + 1)).sub wf162 fr162
                have pf162 := (pf.sF hp.1.2.1).on fr162 en162
                have hne := hp162.ne hd162
                show B_R _ _ (128, [(3, .int (Zi turn)), (2, .int (Zi sm)), (1, .int (Zi wo)), (0, .ref o)], []) _ _ _
                refine Z_go (f2 := (129, [(3, .int (Zi turn)), (2, .int (Zi sm)), (1, .int (Zi wo)), (0, .ref o)], [.ref o])) (fun _ => rfl) ?_
                refine C_gr rfl hs hp162.1.1 (by decide) (Nat.le_of_ble_eq_true rfl) rfl hp162.1.2.2.1 ?_
                refine Z_go (f2 := (133, [(3, .int (Zi turn)), (2, .int (Zi sm)), (1, .int (Zi wo)), (0, .ref o)], [.int (Zi sm), .ref tr])) (fun _ => rfl) ?_
                have wf163 := hs.1
                refine C_callV (As := [.int (Zi sm)]) (rest := []) rfl (by decide) rfl (by decide) rfl rfl (by decide +kernel) (Nat.le_of_ble_eq_true rfl) hs hd162.1.1 (C_newByt _ hd162 hz (a := sm) (by first | exact hs.zF _ _ | exact Zor_r _ _ | exact hs.zA _ _ | assumption | exact zA _ _ | exact zS _ | exact Zr_not (hs.zA _ _) | exact hs.1.1 _ _ | exact ⟨by omega, by omega⟩)) (fun x h v163 n163 hs q => ?_)
                obtain ⟨rfl, fr163, en163, m163, τ163, i163, rfl, ia163, ib163, hd163, hz163, hn163⟩ := q
                have zi163 : Zr i163 := ⟨by omega, by omega⟩
                have hp163 := hp162.sub wf163 fr163
                have pf163 := pf162.on fr163 en163
                have hne := hp163.ne hd163
                show B_R _ _ (136, [(3, .int (Zi turn)), (2, .int (Zi sm)), (1, .int (Zi wo)), (0, .ref o)], [.int (Zi i163)]) _ _ _
                refine Z_iret rfl rfl (by first | rfl | decide | exact narrow_b01 (by omega)) ⟨_, hs, ?_⟩
                try dsimp only
                rw [hR]
                refine ⟨rfl, pf163, _, _, _, _, _, i163, _, _, rfl, by omega, by omega, hp163, hd163, hz163, by omega, by omega, ?_⟩
                exact P_say.no rfl hf
            · refine Z_go (f2 := (109, [(3, .int (Zi turn)), (2, .int (Zi sm)), (1, .int (Zi wo)), (0, .ref o)], [.ref o])) (fun _ => rfl) ?_
              refine C_gr rfl hs hp.1.1 (by decide) (Nat.le_of_ble_eq_true rfl) rfl hp.1.2.2.1 ?_
              refine Z_go (f2 := (113, [(3, .int (Zi turn)), (2, .int (Zi sm)), (1, .int (Zi wo)), (0, .ref o)], [.int (Zi sm), .ref tr])) (fun _ => rfl) ?_
              have wf164 := hs.1
              refine C_callV (As := [.int (Zi sm)]) (rest := []) rfl (by decide) rfl (by decide) rfl rfl (by decide +kernel) (Nat.le_of_ble_eq_true rfl) hs hd.1.1 (C_foldL _ (hd.oF hne) (c := sm) (by omega) (by omega)) (fun x h v164 n164 hs q => ?_)
              obtain ⟨rfl, rfl, fr164, en164, β164, hd164, hb164⟩ := q
              have hp164 := (hp.aa (aa + 1)).sub wf164 fr164
              have pf164 := (pf.sF hp.1.2.1).on fr164 en164
              have hne := hp164.ne hd164
              show B_R _ _ (116, [(3, .int (Zi turn)), (2, .int (Zi sm)), (1, .int (Zi wo)), (0, .ref o)], []) _ _ _
              refine Z_go (f2 := (117, [(3, .int (Zi turn)), (2, .int (Zi sm)), (1, .int (Zi wo)), (0, .ref o)], [.int (Zi wo)])) (fun _ => rfl) ?_
              refine Z_ieq rfl rfl (by first | exact hs.zF _ _ | exact Zor_r _ _ | exact hs.zA _ _ | assumption | exact zA _ _ | exact zS _ | exact Zr_not (hs.zA _ _) | exact hs.1.1 _ _ | exact ⟨by omega, by omega⟩) (fun c8 => ?_) (fun c8 => ?_)
              · refine Z_go (f2 := (129, [(3, .int (Zi turn)), (2, .int (Zi sm)), (1, .int (Zi wo)), (0, .ref o)], [.ref o])) (fun _ => rfl) ?_
                refine C_gr rfl hs hp164.1.1 (by decide) (Nat.le_of_ble_eq_true rfl) rfl hp164.1.2.2.1 ?_
                refine Z_go (f2 := (133, [(3, .int (Zi turn)), (2, .int (Zi sm)), (1, .int (Zi wo)), (0, .ref o)], [.int (Zi sm), .ref tr])) (fun _ => rfl) ?_
                have wf165 := hs.1
                refine C_callV (As := [.int (Zi sm)]) (rest := []) rfl (by decide) rfl (by decide) rfl rfl (by decide +kernel) (Nat.le_of_ble_eq_true rfl) hs hd164.1.1 (C_newByt _ hd164 hz (a := sm) (by first | exact hs.zF _ _ | exact Zor_r _ _ | exact hs.zA _ _ | assumption | exact zA _ _ | exact zS _ | exact Zr_not (hs.zA _ _) | exact hs.1.1 _ _ | exact ⟨by omega, by omega⟩)) (fun x h v165 n165 hs q => ?_)
                obtain ⟨rfl, fr165, en165, m165, τ165, i165, rfl, ia165, ib165, hd165, hz165, hn165⟩ := q
                have zi165 : Zr i165 := ⟨by omega, by omega⟩
                have hp165 := hp164.sub wf165 fr165
                have pf165 := pf164.on fr165 en165
                have hne := hp165.ne hd165
                show B_R _ _ (136, [(3, .int (Zi turn)), (2, .int (Zi sm)), (1, .int (Zi wo)), (0, .ref o)], [.int (Zi i165)]) _ _ _
                refine Z_iret rfl rfl (by first | rfl | decide | exact narrow_b01 (by omega)) ⟨_, hs, ?_⟩
                try dsimp only
                rw [hR]
                refine ⟨rfl, pf165, _, _, _, _, _, i165, _, _, rfl, by omega, by omega, hp165, hd165, hz165, by omega, by omega, ?_⟩
                exact P_say.no rfl hf
              · refine Z_go (f2 := (121, [(3, .int (Zi turn)), (2, .int (Zi sm)), (1, .int (Zi wo)), (0, .ref o)], [.ref o])) (fun _ => rfl) ?_
                refine C_gr rfl hs hp164.1.1 (by decide) (Nat.le_of_ble_eq_true rfl) rfl hp164.1.2.2.1 ?_
                refine Z_go (f2 := (125, [(3, .int (Zi turn)), (2, .int (Zi sm)), (1, .int (Zi wo)), (0, .ref o)], [.int (Zi sm), .ref tr])) (fun _ => rfl) ?_
                have wf166 := hs.1
                refine C_callV (As := [.int (Zi sm)]) (rest := []) rfl (by decide) rfl (by decide) rfl rfl (by decide +kernel) (Nat.le_of_ble_eq_true rfl) hs hd164.1.1 (C_inv _ hd164 (c := sm) (by omega) (by omega)) (fun x h v166 n166 hs q => ?_)
                obtain ⟨rfl, rfl, fr166, en166, β166, hd166, hb166⟩ := q
                have hp166 := hp164.sub wf166 fr166
                have pf166 := pf164.on fr166 en166
                have hne := hp166.ne hd166
                show B_R _ _ (128, [(3, .int (Zi turn)), (2, .int (Zi sm)), (1, .int (Zi wo)), (0, .ref o)], []) _ _ _
                refine Z_go (f2 := (129, [(3, .int (Zi turn)), (2, .int (Zi sm)), (1, .int (Zi wo)), (0, .ref o)], [.ref o])) (fun _ => rfl) ?_
                refine C_gr rfl hs hp166.1.1 (by decide) (Nat.le_of_ble_eq_true rfl) rfl hp166.1.2.2.1 ?_
                refine Z_go (f2 := (133, [(3, .int (Zi turn)), (2, .int (Zi sm)), (1, .int (Zi wo)), (0, .ref o)], [.int (Zi sm), .ref tr])) (fun _ => rfl) ?_
                have wf167 := hs.1
                refine C_callV (As := [.int (Zi sm)]) (rest := []) rfl (by decide) rfl (by decide) rfl rfl (by decide +kernel) (Nat.le_of_ble_eq_true rfl) hs hd166.1.1 (C_newByt _ hd166 hz (a := sm) (by first | exact hs.zF _ _ | exact Zor_r _ _ | exact hs.zA _ _ | assumption | exact zA _ _ | exact zS _ | exact Zr_not (hs.zA _ _) | exact hs.1.1 _ _ | exact ⟨by omega, by omega⟩)) (fun x h v167 n167 hs q => ?_)
                obtain ⟨rfl, fr167, en167, m167, τ167, i167, rfl, ia167, ib167, hd167, hz167, hn167⟩ := q
                have zi167 : Zr i167 := ⟨by omega, by omega⟩
                have hp167 := hp166.sub wf167 fr167
                have pf167 := pf166.on fr167 en167
                have hne := hp167.ne hd167
                show B_R _ _ (136, [(3, .int (Zi turn)), (2, .int (Zi sm)), (1, .int (Zi wo)), (0, .ref o)], [.int (Zi i167)]) _ _ _
                refine Z_iret rfl rfl (by first | rfl | decide | exact narrow_b01 (by omega)) ⟨_, hs, ?_⟩
                try dsimp only
                rw [hR]
                refine ⟨rfl, pf167, _, _, _, _, _, i167, _, _, rfl, by omega, by omega, hp167, hd167, hz167, by omega, by omega, ?_⟩
                exact P_say.no rfl hf
          · exfalso; omega
      · refine Z_go (f2 := (59, [(3, .int (Zi turn)), (2, .int (Zi sm)), (1, .int (Zi wo)), (0, .ref o)], [.int (Zi turn)])) (fun _ => rfl) ?_
        refine Z_go (f2 := (61, [(3, .int (Zi turn)), (2, .int (Zi sm)), (1, .int (Zi wo)), (0, .ref o)], [.int (Zi 80), .int (Zi turn)])) (fun _ => rfl) ?_
        refine Z_cge rfl rfl (by first | exact hs.zF _ _ | exact Zor_r _ _ | exact hs.zA _ _ | assumption | exact zA _ _ | exact zS _ | exact Zr_not (hs.zA _ _) | exact hs.1.1 _ _ | exact ⟨by omega, by omega⟩) (by first | exact hs.zF _ _ | exact Zor_r _ _ | exact hs.zA _ _ | assumption | exact zA _ _ | exact zS _ | exact Zr_not (hs.zA _ _) | exact hs.1.1 _ _ | exact ⟨by omega, by omega⟩) (fun c1 => ?_) (fun c1 => ?_)
        · refine Z_go (f2 := (92, [(3, .int (Zi turn)), (2, .int (Zi sm)), (1, .int (Zi wo)), (0, .ref o)], [.ref o])) (fun _ => rfl) ?_
          refine Z_go (f2 := (93, [(3, .int (Zi turn)), (2, .int (Zi sm)), (1, .int (Zi wo)), (0, .ref o)], [.ref o, .ref o])) (fun _ => rfl) ?_
          refine C_gi rfl hs hp.1.1 (by decide) (Nat.le_of_ble_eq_true rfl) rfl ?_
          rw [show C_F (u) o 5 = aa from (by first | exact hp.1.2.2.2.2.2.2.2.2.2.1 | exact (if_neg (fun e => absurd e.1 (by assumption))).trans hp.1.2.2.2.2.2.2.2.2.2.1 | exact (if_neg (fun e => absurd e.2 (by decide))).trans hp.1.2.2.2.2.2.2.2.2.2.1 | exact (if_neg (fun e => absurd e.2 (by decide))).trans ((if_neg (fun e => absurd e.2 (by decide))).trans hp.1.2.2.2.2.2.2.2.2.2.1) | exact (if_neg (fun e => absurd e.2 (by decide))).trans ((if_neg (fun e => absurd e.2 (by decide))).trans ((if_neg (fun e => absurd e.2 (by decide))).trans hp.1.2.2.2.2.2.2.2.2.2.1)))]
          show B_R _ _ (96, [(3, .int (Zi turn)), (2, .int (Zi sm)), (1, .int (Zi wo)), (0, .ref o)], [.int (Zi aa), .ref o]) _ _ _
          refine Z_go (f2 := (97, [(3, .int (Zi turn)), (2, .int (Zi sm)), (1, .int (Zi wo)), (0, .ref o)], [.int (Zi 1), .int (Zi aa), .ref o])) (fun _ => rfl) ?_
          refine Z_iadd rfl ?_
          refine C_pi rfl hs hp.1.1 (by decide) (Nat.le_of_ble_eq_true rfl) (.inl rfl) rfl rfl rfl (by first | exact hs.zF _ _ | exact Zor_r _ _ | exact hs.zA _ _ | assumption | exact zA _ _ | exact zS _ | exact Zr_not (hs.zA _ _) | exact hs.1.1 _ _ | exact ⟨by omega, by omega⟩) (fun h hs => ?_)
          refine Z_go (f2 := (102, [(3, .int (Zi turn)), (2, .int (Zi sm)), (1, .int (Zi wo)), (0, .ref o)], [.ref o])) (fun _ => rfl) ?_
          refine C_gi rfl hs hp.1.1 (by decide) (Nat.le_of_ble_eq_true rfl) rfl ?_
          rw [show C_F (C_sF u o 5 (aa + 1)) o 6 = fo from (by first | exact hp.1.2.2.2.2.2.2.2.2.2.2.1 | exact (if_neg (fun e => absurd e.1 (by assumption))).trans hp.1.2.2.2.2.2.2.2.2.2.2.1 | exact (if_neg (fun e => absurd e.2 (by decide))).trans hp.1.2.2.2.2.2.2.2.2.2.2.1 | exact (if_neg (fun e => absurd e.2 (by decide))).trans ((if_neg (fun e => absurd e.2 (by decide))).trans hp.1.2.2.2.2.2.2.2.2.2.2.1) | exact (if_neg (fun e => absurd e.2 (by decide))).trans ((if_neg (fun e => absurd e.2 (by decide))).trans ((if_neg (fun e => absurd e.2 (by decide))).trans hp.1.2.2.2.2.2.2.2.2.2.2.1)))]
          show B_R _ _ (105, [(3, .int (Zi turn)), (2, .int (Zi sm)), (1, .int (Zi wo)), (0, .ref o)], [.int (Zi fo)]) _ _ _
          refine Z_ieq rfl rfl (by first | exact hs.zF _ _ | exact Zor_r _ _ | exact hs.zA _ _ | assumption | exact zA _ _ | exact zS _ | exact Zr_not (hs.zA _ _) | exact hs.1.1 _ _ | exact ⟨by omega, by omega⟩) (fun c2 => ?_) (fun c2 => ?_)
          · refine Z_go (f2 := (117, [(3, .int (Zi turn)), (2, .int (Zi sm)), (1, .int (Zi wo)), (0, .ref o)], [.int (Zi wo)])) (fun _ => rfl) ?_
            refine Z_ieq rfl rfl (by first | exact hs.zF _ _ | exact Zor_r _ _ | exact hs.zA _ _ | assumption | exact zA _ _ | exact zS _ | exact Zr_not (hs.zA _ _) | exact hs.1.1 _ _ | exact ⟨by omega, by omega⟩) (fun c3 => ?_) (fun c3 => ?_)
            · refine Z_go (f2 := (129, [(3, .int (Zi turn)), (2, .int (Zi sm)), (1, .int (Zi wo)), (0, .ref o)], [.ref o])) (fun _ => rfl) ?_
              refine C_gr rfl hs hp.1.1 (by decide) (Nat.le_of_ble_eq_true rfl) rfl hp.1.2.2.1 ?_
              refine Z_go (f2 := (133, [(3, .int (Zi turn)), (2, .int (Zi sm)), (1, .int (Zi wo)), (0, .ref o)], [.int (Zi sm), .ref tr])) (fun _ => rfl) ?_
              have wf168 := hs.1
              refine C_callV (As := [.int (Zi sm)]) (rest := []) rfl (by decide) rfl (by decide) rfl rfl (by decide +kernel) (Nat.le_of_ble_eq_true rfl) hs hd.1.1 (C_newByt _ (hd.oF hne) hz (a := sm) (by first | exact hs.zF _ _ | exact Zor_r _ _ | exact hs.zA _ _ | assumption | exact zA _ _ | exact zS _ | exact Zr_not (hs.zA _ _) | exact hs.1.1 _ _ | exact ⟨by omega, by omega⟩)) (fun x h v168 n168 hs q => ?_)
              obtain ⟨rfl, fr168, en168, m168, τ168, i168, rfl, ia168, ib168, hd168, hz168, hn168⟩ := q
              have zi168 : Zr i168 := ⟨by omega, by omega⟩
              have hp168 := (hp.aa (aa + 1)).sub wf168 fr168
              have pf168 := (pf.sF hp.1.2.1).on fr168 en168
              have hne := hp168.ne hd168
              show B_R _ _ (136, [(3, .int (Zi turn)), (2, .int (Zi sm)), (1, .int (Zi wo)), (0, .ref o)], [.int (Zi i168)]) _ _ _
              refine Z_iret rfl rfl (by first | rfl | decide | exact narrow_b01 (by omega)) ⟨_, hs, ?_⟩
              try dsimp only
              first
              | (exfalso; omega)
              | (obtain ⟨tt, rfl⟩ : ∃ k, tt = k + 1 := ⟨tt - 1, by omega⟩
                 rw [P_items_end (by omega)] at hR
                 rw [hR]
                 obtain ⟨e1, e2, e3⟩ := hn168 hm
                 have hbo := hold
                 have hF : ∀ j, 0 ≤ j → j ≤ 255 → (T_has β' sm j ↔ P_fold (fo ≠ 0) B j) := fun j j0 j1 => by
                   rw [hB j j0 j1]
                   unfold P_fold
                   exact ⟨.inl, fun h => h.elim id (fun h => absurd h.1 (by omega))⟩
                 refine ⟨rfl, pf168, _, _, _, _, _, i168, _, _, rfl, by omega, by omega, hp168, hd168, hz168, by omega, by omega, ?_⟩
                 refine P_say.ok rfl ⟨rfl, by omega, by omega, e1, e2, ?_⟩
                 refine At_ok.set e3 rfl hbo (fun j j0 j1 => ?_)
                 rw [if_neg (by omega)]
                 exact hF j j0 j1)
            · refine Z_go (f2 := (121, [(3, .int (Zi turn)), (2, .int (Zi sm)), (1, .int (Zi wo)), (0, .ref o)], [.ref o])) (fun _ => rfl) ?_
              refine C_gr rfl hs hp.1.1 (by decide) (Nat.le_of_ble_eq_true rfl) rfl hp.1.2.2.1 ?_
              refine Z_go (f2 := (125, [(3, .int (Zi turn)), (2, .int (Zi sm)), (1, .int (Zi wo)), (0, .ref o)], [.int (Zi sm), .ref tr])) (fun _ => rfl) ?_
              have wf169 := hs.1
              refine C_callV (As := [.int (Zi sm)]) (rest := []) rfl (by decide) rfl (by decide) rfl rfl (by decide +kernel) (Nat.le_of_ble_eq_true rfl) hs hd.1.1 (C_inv _ (hd.oF hne) (c := sm) (by omega) (by omega)) (fun x h v169 n169 hs q => ?_)
              obtain ⟨rfl, rfl, fr169, en169, β169, hd169, hb169⟩ := q
              have hp169 := (hp.aa (aa + 1)).sub wf169 fr169
              have pf169 := (pf.sF hp.1.2.1).on fr169 en169
              have hne := hp169.ne hd169
              show B_R _ _ (128, [(3, .int (Zi turn)), (2, .int (Zi sm)), (1, .int (Zi wo)), (0, .ref o)], []) _ _ _
              refine Z_go (f2 := (129, [(3, .int (Zi turn)), (2, .int (Zi sm)), (1, .int (Zi wo)), (0, .ref o)], [.ref o])) (fun _ => rfl) ?_
              refine C_gr rfl hs hp169.1.1 (by decide) (Nat.le_of_ble_eq_true rfl) rfl hp169.1.2.2.1 ?_
              refine Z_go (f2 := (133, [(3, .int (Zi turn)), (2, .int (Zi sm)), (1, .int (Zi wo)), (0, .ref o)], [.int (Zi sm), .ref tr])) (fun _ => rfl) ?_
              have wf170 := hs.1
              refine C_callV (As := [.int (Zi sm)]) (rest := []) rfl (by decide) rfl (by decide) rfl rfl (by decide +kernel) (Nat.le_of_ble_eq_true rfl) hs hd169.1.1 (C_newByt _ hd169 hz (a := sm) (by first | exact hs.zF _ _ | exact Zor_r _ _ | exact hs.zA _ _ | assumption | exact zA _ _ | exact zS _ | exact Zr_not (hs.zA _ _) | exact hs.1.1 _ _ | exact ⟨by omega, by omega⟩)) (fun x h v170 n170 hs q => ?_)
              obtain ⟨rfl, fr170, en170, m170, τ170, i170, rfl, ia170, ib170, hd170, hz170, hn170⟩ := q
              have zi170 : Zr i170 := ⟨by omega, by omega⟩
              have hp170 := hp169.sub wf170 fr170
              have pf170 := pf169.on fr170 en170
              have hne := hp170.ne hd170
              show B_R _ _ (136, [(3, .int (Zi turn)), (2, .int (Zi sm)), (1, .int (Zi wo)), (0, .ref o)], [.int (Zi i170)]) _ _ _
              refine Z_iret rfl rfl (by first | rfl | decide | exact narrow_b01 (by omega)) ⟨_, hs, ?_⟩
              try dsimp only
              first
              | (exfalso; omega)
              | (obtain ⟨tt, rfl⟩ : ∃ k, tt = k + 1 := ⟨tt - 1, by omega⟩
                 rw [P_items_end (by omega)] at hR
                 rw [hR]
                 obtain ⟨e1, e2, e3⟩ := hn170 hm
                 have hbo : ∀ d j, 0 ≤ d → d < sm → 0 ≤ j → j ≤ 255 → (T_has β169 d j ↔ T_has β d j) := fun d j d0 d1 j0 j1 => by
                   have e : ¬ d = sm := by omega
                   rw [hb169 _ _ (by omega) j0 j1]
                   simp [e]
                   try exact hold d j d0 d1 j0 j1
                 have hF : ∀ j, 0 ≤ j → j ≤ 255 → (T_has β' sm j ↔ P_fold (fo ≠ 0) B j) := fun j j0 j1 => by
                   rw [hB j j0 j1]
                   unfold P_fold
                   exact ⟨.inl, fun h => h.elim id (fun h => absurd h.1 (by omega))⟩
                 refine ⟨rfl, pf170, _, _, _, _, _, i170, _, _, rfl, by omega, by omega, hp170, hd170, hz170, by omega, by omega, ?_⟩
                 refine P_say.ok rfl ⟨rfl, by omega, by omega, e1, e2, ?_⟩
                 refine At_ok.set e3 rfl hbo (fun j j0 j1 => ?_)
                 rw [if_pos (by omega), hb169 _ _ (by omega) j0 j1, ← hF j j0 j1]
                 exact ⟨fun h => h.elim (fun h => h.2) (fun h => absurd rfl h.1), fun h => .inl ⟨rfl, h⟩⟩)
          · refine Z_go (f2 := (109, [(3, .int (Zi turn)), (2, .int (Zi sm)), (1, .int (Zi wo)), (0, .ref o)], [.ref o])) (fun _ => rfl) ?_
            refine C_gr rfl hs hp.1.1 (by decide) (Nat.le_of_ble_eq_true rfl) rfl hp.1.2.2.1 ?_
            refine Z_go (f2 := (113, [(3, .int (Zi turn)), (2, .int (Zi sm)), (1, .int (Zi wo)), (0, .ref o)], [.int (Zi sm), .ref tr])) (fun _ => rfl) ?_
            have wf171 := hs.1
            refine C_callV (As := [.int (Zi sm)]) (rest := []) rfl (by decide) rfl (by decide) rfl rfl (by decide +kernel) (Nat.le_of_ble_eq_true rfl) hs hd.1.1 (C_foldL _ (hd.oF hne) (c := sm) (by omega) (by omega)) (fun x h v171 n171 hs q => ?_)
            obtain ⟨rfl, rfl, fr171, en171, β171, hd171, hb171⟩ := q
            have hp171 := (hp.aa (aa + 1)).sub wf171 fr171
            have pf171 := (pf.sF hp.1.2.1).on fr171 en171
            have hne := hp171.ne hd171
            show B_R _ _ (116, [(3, .int (Zi turn)), (2, .int (Zi sm)), (1, .int (Zi wo)), (0, .ref o)], []) _ _ _
            refine Z_go (f2 := (117, [(3, .int (Zi turn)), (2, .int (Zi sm)), (1, .int (Zi wo)), (0, .ref o)], [.int (Zi wo)])) (fun _ => rfl) ?_
            refine Z_ieq rfl rfl (by first | exact hs.zF _ _ | exact Zor_r _ _ | exact hs.zA _ _ | assumption | exact zA _ _ | exact zS _ | exact Zr_not (hs.zA _ _) | exact hs.1.1 _ _ | exact ⟨by omega, by omega⟩) (fun c4 => ?_) (fun c4 => ?_)
            · refine Z_go (f2 := (129, [(3, .int (Zi turn)), (2, .int (Zi sm)), (1, .int (Zi wo)), (0, .ref o)], [.ref o])) (fun _ => rfl) ?_
              refine C_gr rfl hs hp171.1.1 (by decide) (Nat.le_of_ble_eq_true rfl) rfl hp171.1.2.2.1 ?_
              refine Z_go (f2 := (133, [(3, .int (Zi turn)), (2, .int (Zi sm)), (1, .int (Zi wo)), (0, .ref o)], [.int (Zi sm), .ref tr])) (fun _ => rfl) ?_
              have wf172 := hs.1
              refine C_callV (As := [.int (Zi sm)]) (rest := []) rfl (by decide) rfl (by decide) rfl rfl (by decide +kernel) (Nat.le_of_ble_eq_true rfl) hs hd171.1.1 (C_newByt _ hd171 hz (a := sm) (by first | exact hs.zF _ _ | exact Zor_r _ _ | exact hs.zA _ _ | assumption | exact zA _ _ | exact zS _ | exact Zr_not (hs.zA _ _) | exact hs.1.1 _ _ | exact ⟨by omega, by omega⟩)) (fun x h v172 n172 hs q => ?_)
              obtain ⟨rfl, fr172, en172, m172, τ172, i172, rfl, ia172, ib172, hd172, hz172, hn172⟩ := q
              have zi172 : Zr i172 := ⟨by omega, by omega⟩
              have hp172 := hp171.sub wf172 fr172
              have pf172 := pf171.on fr172 en172
              have hne := hp172.ne hd172
              show B_R _ _ (136, [(3, .int (Zi turn)), (2, .int (Zi sm)), (1, .int (Zi wo)), (0, .ref o)], [.int (Zi i172)]) _ _ _
              refine Z_iret rfl rfl (by first | rfl | decide | exact narrow_b01 (by omega)) ⟨_, hs, ?_⟩
              try dsimp only
              first
              | (exfalso; omega)
              | (obtain ⟨tt, rfl⟩ : ∃ k, tt = k + 1 := ⟨tt - 1, by omega⟩
                 rw [P_items_end (by omega)] at hR
                 rw [hR]
                 obtain ⟨e1, e2, e3⟩ := hn172 hm
                 have hbo : ∀ d j, 0 ≤ d → d < sm → 0 ≤ j → j ≤ 255 → (T_has β171 d j ↔ T_has β d j) := fun d j d0 d1 j0 j1 => by
                   have e : ¬ d = sm := by omega
                   rw [hb171 _ _ (by omega) j0 j1]
                   simp [e]
                   try exact hold d j d0 d1 j0 j1
                 have hF : ∀ j, 0 ≤ j → j ≤ 255 → (T_has β171 sm j ↔ P_fold (fo ≠ 0) B j) := fun j j0 j1 => by
                   rw [hb171 _ _ (by omega) j0 j1, D_fd_congr hB, hB j j0 j1]
                   unfold P_fold
                   exact ⟨fun h => h.imp id (fun h => ⟨by omega, h.2⟩), fun h => h.imp id (fun h => ⟨rfl, h.2⟩)⟩
                 refine ⟨rfl, pf172, _, _, _, _, _, i172, _, _, rfl, by omega, by omega, hp172, hd172, hz172, by omega, by omega, ?_⟩
                 refine P_say.ok rfl ⟨rfl, by omega, by omega, e1, e2, ?_⟩
                 refine At_ok.set e3 rfl hbo (fun j j0 j1 => ?_)
                 rw [if_neg (by omega)]
                 exact hF j j0 j1)
            · refine Z_go (f2 := (121, [(3, .int (Zi turn)), (2, .int (Zi sm)), (1, .int (Zi wo)), (0, .ref o)], [.ref o])) (fun _ => rfl) ?_
              refine C_gr rfl hs hp171.1.1 (by decide) (Nat.le_of_ble_eq_true rfl) rfl hp171.1.2.2.1 ?_
              refine Z_go (f2 := (125, [(3, .int (Zi turn)), (2, .int (Zi sm)), (1, .int (Zi wo)), (0, .ref o)], [.int (Zi sm), .ref tr])) (fun _ => rfl) ?_
              have wf173 := hs.1
              refine C_callV (As := [.int (Zi sm)]) (rest := []) rfl (by decide) rfl (by decide) rfl rfl (by decide +kernel) (Nat.le_of_ble_eq_true rfl) hs hd171.1.1 (C_inv _ hd171 (c := sm) (by omega) (by omega)) (fun x h v173 n173 hs q => ?_)
              obtain ⟨rfl, rfl, fr173, en173, β173, hd173, hb173⟩ := q
              have hp173 := hp171.sub wf173 fr173
              have pf173 := pf171.on fr173 en173
              have hne := hp173.ne hd173
              show B_R _ _ (128, [(3, .int (Zi turn)), (2, .int (Zi sm)), (1, .int (Zi wo)), (0, .ref o)], []) _ _ _
              refine Z_go (f2 := (129, [(3, .int (Zi turn)), (2, .int (Zi sm)), (1, .int (Zi wo)), (0, .ref o)], [.ref o])) (fun _ => rfl) ?_
              refine C_gr rfl hs hp173.1.1 (by decide) (Nat.le_of_ble_eq_true rfl) rfl hp173.1.2.2.1 ?_
              refine Z_go (f2 := (133, [(3, .int (Zi turn)), (2, .int (Zi sm)), (1, .int (Zi wo)), (0, .ref o)], [.int (Zi sm), .ref tr])) (fun _ => rfl) ?_
              have wf174 := hs.1
              refine C_callV (As := [.int (Zi sm)]) (rest := []) rfl (by decide) rfl (by decide) rfl rfl (by decide +kernel) (Nat.le_of_ble_eq_true rfl) hs hd173.1.1 (C_newByt _ hd173 hz (a := sm) (by first | exact hs.zF _ _ | exact Zor_r _ _ | exact hs.zA _ _ | assumption | exact zA _ _ | exact zS _ | exact Zr_not (hs.zA _ _) | exact hs.1.1 _ _ | exact ⟨by omega, by omega⟩)) (fun x h v174 n174 hs q => ?_)
              obtain ⟨rfl, fr174, en174, m174, τ174, i174, rfl, ia174, ib174, hd174, hz174, hn174⟩ := q
              have zi174 : Zr i174 := ⟨by omega, by omega⟩
              have hp174 := hp173.sub wf174 fr174
              have pf174 := pf173.on fr174 en174
              have hne := hp174.ne hd174
              show B_R _ _ (136, [(3, .int (Zi turn)), (2, .int (Zi sm)), (1, .int (Zi wo)), (0, .ref o)], [.int (Zi i174)]) _ _ _
              refine Z_iret rfl rfl (by first | rfl | decide | exact narrow_b01 (by omega)) ⟨_, hs, ?_⟩
              try dsimp only
              first
              | (exfalso; omega)
              | (obtain ⟨tt, rfl⟩ : ∃ k, tt = k + 1 := ⟨tt - 1, by omega⟩
                 rw [P_items_end (by omega)] at hR
                 rw [hR]
                 obtain ⟨e1, e2, e3⟩ := hn174 hm
                 have hbo : ∀ d j, 0 ≤ d → d < sm → 0 ≤ j → j ≤ 255 → (T_has β173 d j ↔ T_has β d j) := fun d j d0 d1 j0 j1 => by
                   have e : ¬ d = sm := by omega
                   rw [hb173 _ _ (by omega) j0 j1, hb171 _ _ (by omega) j0 j1]
                   simp [e]
                   try exact hold d j d0 d1 j0 j1
                 have hF : ∀ j, 0 ≤ j → j ≤ 255 → (T_has β171 sm j ↔ P_fold (fo ≠ 0) B j) := fun j j0 j1 => by
                   rw [hb171 _ _ (by omega) j0 j1, D_fd_congr hB, hB j j0 j1]
                   unfold P_fold
                   exact ⟨fun h => h.imp id (fun h => ⟨by omega, h.2⟩), fun h => h.imp id (fun h => ⟨rfl, h.2⟩)⟩
                 refine ⟨rfl, pf174, _, _, _, _, _, i174, _, _, rfl, by omega, by omega, hp174, hd174, hz174, by omega, by omega, ?_⟩
                 refine P_say.ok rfl ⟨rfl, by omega, by omega, e1, e2, ?_⟩
                 refine At_ok.set e3 rfl hbo (fun j j0 j1 => ?_)
                 rw [if_pos (by omega), hb173 _ _ (by omega) j0 j1, ← hF j j0 j1]
                 exact ⟨fun h => h.elim (fun h => h.2) (fun h => absurd rfl h.1), fun h => .inl ⟨rfl, h⟩⟩)
        · refine Z_go (f2 := (65, [(3, .int (Zi turn)), (2, .int (Zi sm)), (1, .int (Zi wo)), (0, .ref o)], [.ref o])) (fun _ => rfl) ?_
          refine C_gi rfl hs hp.1.1 (by decide) (Nat.le_of_ble_eq_true rfl) rfl ?_
          rw [show C_F (u) o 1 = 0 from (by first | exact hp.1.2.2.2.2.2.2.1 | exact (if_neg (fun e => absurd e.1 (by assumption))).trans hp.1.2.2.2.2.2.2.1 | exact (if_neg (fun e => absurd e.2 (by decide))).trans hp.1.2.2.2.2.2.2.1 | exact (if_neg (fun e => absurd e.2 (by decide))).trans ((if_neg (fun e => absurd e.2 (by decide))).trans hp.1.2.2.2.2.2.2.1) | exact (if_neg (fun e => absurd e.2 (by decide))).trans ((if_neg (fun e => absurd e.2 (by decide))).trans ((if_neg (fun e => absurd e.2 (by decide))).trans hp.1.2.2.2.2.2.2.1)))]
          show B_R _ _ (68, [(3, .int (Zi turn)), (2, .int (Zi sm)), (1, .int (Zi wo)), (0, .ref o)], [.int (Zi 0)]) _ _ _
          refine Z_ine rfl rfl (by first | exact hs.zF _ _ | exact Zor_r _ _ | exact hs.zA _ _ | assumption | exact zA _ _ | exact zS _ | exact Zr_not (hs.zA _ _) | exact hs.1.1 _ _ | exact ⟨by omega, by omega⟩) (fun c5 => ?_) (fun c5 => ?_)
          · exfalso; omega
          · refine Z_go (f2 := (72, [(3, .int (Zi turn)), (2, .int (Zi sm)), (1, .int (Zi wo)), (0, .ref o)], [.ref o])) (fun _ => rfl) ?_
            refine C_callVR (As := []) (rest := []) rfl (by decide) rfl (by decide) rfl rfl (by decide +kernel) (Nat.le_of_ble_eq_true rfl) hs hp.1.1 (C_peek _ hp (by omega)) (fun x q => ?_)
            obtain rfl := q
            have zpk175 := hp.r aa (by omega)
            show B_R _ _ (75, [(3, .int (Zi turn)), (2, .int (Zi sm)), (1, .int (Zi wo)), (0, .ref o)], [.int (Zi (S aa))]) _ _ _
            refine Z_go (f2 := (77, [(3, .int (Zi turn)), (2, .int (Zi sm)), (1, .int (Zi wo)), (0, .ref o)], [.int (Zi 93), .int (Zi (S aa))])) (fun _ => rfl) ?_
            refine Z_ceq rfl rfl (by first | exact hs.zF _ _ | exact Zor_r _ _ | exact hs.zA _ _ | assumption | exact zA _ _ | exact zS _ | exact Zr_not (hs.zA _ _) | exact hs.1.1 _ _ | exact ⟨by omega, by omega⟩) (by first | exact hs.zF _ _ | exact Zor_r _ _ | exact hs.zA _ _ | assumption | exact zA _ _ | exact zS _ | exact Zr_not (hs.zA _ _) | exact hs.1.1 _ _ | exact ⟨by omega, by omega⟩) (fun c6 => ?_) (fun c6 => ?_)
            · refine Z_go (f2 := (92, [(3, .int (Zi turn)), (2, .int (Zi sm)), (1, .int (Zi wo)), (0, .ref o)], [.ref o])) (fun _ => rfl) ?_
              refine Z_go (f2 := (93, [(3, .int (Zi turn)), (2, .int (Zi sm)), (1, .int (Zi wo)), (0, .ref o)], [.ref o, .ref o])) (fun _ => rfl) ?_
              refine C_gi rfl hs hp.1.1 (by decide) (Nat.le_of_ble_eq_true rfl) rfl ?_
              rw [show C_F (u) o 5 = aa from (by first | exact hp.1.2.2.2.2.2.2.2.2.2.1 | exact (if_neg (fun e => absurd e.1 (by assumption))).trans hp.1.2.2.2.2.2.2.2.2.2.1 | exact (if_neg (fun e => absurd e.2 (by decide))).trans hp.1.2.2.2.2.2.2.2.2.2.1 | exact (if_neg (fun e => absurd e.2 (by decide))).trans ((if_neg (fun e => absurd e.2 (by decide))).trans hp.1.2.2.2.2.2.2.2.2.2.1) | exact (if_neg (fun e => absurd e.2 (by decide))).trans ((if_neg (fun e => absurd e.2 (by decide))).trans ((if_neg (fun e => absurd e.2 (by decide))).trans hp.1.2.2.2.2.2.2.2.2.2.1)))]
              show B_R _ _ (96, [(3, .int (Zi turn)), (2, .int (Zi sm)), (1, .int (Zi wo)), (0, .ref o)], [.int (Zi aa), .ref o]) _ _ _
              refine Z_go (f2 := (97, [(3, .int (Zi turn)), (2, .int (Zi sm)), (1, .int (Zi wo)), (0, .ref o)], [.int (Zi 1), .int (Zi aa), .ref o])) (fun _ => rfl) ?_
              refine Z_iadd rfl ?_
              refine C_pi rfl hs hp.1.1 (by decide) (Nat.le_of_ble_eq_true rfl) (.inl rfl) rfl rfl rfl (by first | exact hs.zF _ _ | exact Zor_r _ _ | exact hs.zA _ _ | assumption | exact zA _ _ | exact zS _ | exact Zr_not (hs.zA _ _) | exact hs.1.1 _ _ | exact ⟨by omega, by omega⟩) (fun h hs => ?_)
              refine Z_go (f2 := (102, [(3, .int (Zi turn)), (2, .int (Zi sm)), (1, .int (Zi wo)), (0, .ref o)], [.ref o])) (fun _ => rfl) ?_
              refine C_gi rfl hs hp.1.1 (by decide) (Nat.le_of_ble_eq_true rfl) rfl ?_
              rw [show C_F (C_sF u o 5 (aa + 1)) o 6 = fo from (by first | exact hp.1.2.2.2.2.2.2.2.2.2.2.1 | exact (if_neg (fun e => absurd e.1 (by assumption))).trans hp.1.2.2.2.2.2.2.2.2.2.2.1 | exact (if_neg (fun e => absurd e.2 (by decide))).trans hp.1.2.2.2.2.2.2.2.2.2.2.1 | exact (if_neg (fun e => absurd e.2 (by decide))).trans ((if_neg (fun e => absurd e.2 (by decide))).trans hp.1.2.2.2.2.2.2.2.2.2.2.1) | exact (if_neg (fun e => absurd e.2 (by decide))).trans ((if_neg (fun e => absurd e.2 (by decide))).trans ((if_neg (fun e => absurd e.2 (by decide))).trans hp.1.2.2.2.2.2.2.2.2.2.2.1)))]
              show B_R _ _ (105, [(3, .int (Zi turn)), (2, .int (Zi sm)), (1, .int (Zi wo)), (0, .ref o)], [.int (Zi fo)]) _ _ _
              refine Z_ieq rfl rfl (by first | exact hs.zF _ _ | exact Zor_r _ _ | exact hs.zA _ _ | assumption | exact zA _ _ | exact zS _ | exact Zr_not (hs.zA _ _) | exact hs.1.1 _ _ | exact ⟨by omega, by omega⟩) (fun c7 => ?_) (fun c7 => ?_)
              · refine Z_go (f2 := (117, [(3, .int (Zi turn)), (2, .int (Zi sm)), (1, .int (Zi wo)), (0, .ref o)], [.int (Zi wo)])) (fun _ => rfl) ?_
                refine Z_ieq rfl rfl (by first | exact hs.zF _ _ | exact Zor_r _ _ | exact hs.zA _ _ | assumption | exact zA _ _ | exact zS _ | exact Zr_not (hs.zA _ _) | exact hs.1.1 _ _ | exact ⟨by omega, by omega⟩) (fun c8 => ?_) (fun c8 => ?_)
                · refine Z_go (f2 := (129, [(3, .int (Zi turn)), (2, .int (Zi sm)), (1, .int (Zi wo)), (0, .ref o)], [.ref o])) (fun _ => rfl) ?_
                  refine C_gr rfl hs hp.1.1 (by decide) (Nat.le_of_ble_eq_true rfl) rfl hp.1.2.2.1 ?_
                  refine Z_go (f2 := (133, [(3, .int (Zi turn)), (2, .int (Zi sm)), (1, .int (Zi wo)), (0, .ref o)], [.int (Zi sm), .ref tr])) (fun _ => rfl) ?_
                  have wf176 := hs.1
                  refine C_callV (As := [.int (Zi sm)]) (rest := []) rfl (by decide) rfl (by decide) rfl rfl (by decide +kernel) (Nat.le_of_ble_eq_true rfl) hs hd.1.1 (C_newByt _ (hd.oF hne) hz (a := sm) (by first | exact hs.zF _ _ | exact Zor_r _ _ | exact hs.zA _ _ | assumption | exact zA _ _ | exact zS _ | exact Zr_not (hs.zA _ _) | exact hs.1.1 _ _ | exact ⟨by omega, by omega⟩)) (fun x h v176 n176 hs q => ?_)
                  obtain ⟨rfl, fr176, en176, m176, τ176, i176, rfl, ia176, ib176, hd176, hz176, hn176⟩ := q
                  have zi176 : Zr i176 := ⟨by omega, by omega⟩
                  have hp176 := (hp.aa (aa + 1)).sub wf176 fr176
                  have pf176 := (pf.sF hp.1.2.1).on fr176 en176
                  have hne := hp176.ne hd176
                  show B_R _ _ (136, [(3, .int (Zi turn)), (2, .int (Zi sm)), (1, .int (Zi wo)), (0, .ref o)], [.int (Zi i176)]) _ _ _
                  refine Z_iret rfl rfl (by first | rfl | decide | exact narrow_b01 (by omega)) ⟨_, hs, ?_⟩
                  try dsimp only
                  first
                  | (exfalso; omega)
                  | (obtain ⟨tt, rfl⟩ : ∃ k, tt = k + 1 := ⟨tt - 1, by omega⟩
                     rw [P_items_end (by omega)] at hR
                     rw [hR]
                     obtain ⟨e1, e2, e3⟩ := hn176 hm
                     have hbo := hold
                     have hF : ∀ j, 0 ≤ j → j ≤ 255 → (T_has β' sm j ↔ P_fold (fo ≠ 0) B j) := fun j j0 j1 => by
                       rw [hB j j0 j1]
                       unfold P_fold
                       exact ⟨.inl, fun h => h.elim id (fun h => absurd h.1 (by omega))⟩
                     refine ⟨rfl, pf176, _, _, _, _, _, i176, _, _, rfl, by omega, by omega, hp176, hd176, hz176, by omega, by omega, ?_⟩
                     refine P_say.ok rfl ⟨rfl, by omega, by omega, e1, e2, ?_⟩
                     refine At_ok.set e3 rfl hbo (fun j j0 j1 => ?_)
                     rw [if_neg (by omega)]
                     exact hF j j0 j1)
                · refine Z_go (f2 := (121, [(3, .int (Zi turn)), (2, .int (Zi sm)), (1, .int (Zi wo)), (0, .ref o)], [.ref o])) (fun _ => rfl) ?_
                  refine C_gr rfl hs hp.1.1 (by decide) (Nat.le_of_ble_eq_true rfl) rfl hp.1.2.2.1 ?_
                  refine Z_go (f2 := (125, [(3, .int (Zi turn)), (2, .int (Zi sm)), (1, .int (Zi wo)), (0, .ref o)], [.int (Zi sm), .ref tr])) (fun _ => rfl) ?_
                  have wf177 := hs.1
                  refine C_callV (As := [.int (Zi sm)]) (rest := []) rfl (by decide) rfl (by decide) rfl rfl (by decide +kernel) (Nat.le_of_ble_eq_true rfl) hs hd.1.1 (C_inv _ (hd.oF hne) (c := sm) (by omega) (by omega)) (fun x h v177 n177 hs q => ?_)
                  obtain ⟨rfl, rfl, fr177, en177, β177, hd177, hb177⟩ := q
                  have hp177 := (hp.aa (aa + 1)).sub wf177 fr177
                  have pf177 := (pf.sF hp.1.2.1).on fr177 en177
                  have hne := hp177.ne hd177
                  show B_R _ _ (128, [(3, .int (Zi turn)), (2, .int (Zi sm)), (1, .int (Zi wo)), (0, .ref o)], []) _ _ _
                  refine Z_go (f2 := (129, [(3, .int (Zi turn)), (2, .int (Zi sm)), (1, .int (Zi wo)), (0, .ref o)], [.ref o])) (fun _ => rfl) ?_
                  refine C_gr rfl hs hp177.1.1 (by decide) (Nat.le_of_ble_eq_true rfl) rfl hp177.1.2.2.1 ?_
                  refine Z_go (f2 := (133, [(3, .int (Zi turn)), (2, .int (Zi sm)), (1, .int (Zi wo)), (0, .ref o)], [.int (Zi sm), .ref tr])) (fun _ => rfl) ?_
                  have wf178 := hs.1
                  refine C_callV (As := [.int (Zi sm)]) (rest := []) rfl (by decide) rfl (by decide) rfl rfl (by decide +kernel) (Nat.le_of_ble_eq_true rfl) hs hd177.1.1 (C_newByt _ hd177 hz (a := sm) (by first | exact hs.zF _ _ | exact Zor_r _ _ | exact hs.zA _ _ | assumption | exact zA _ _ | exact zS _ | exact Zr_not (hs.zA _ _) | exact hs.1.1 _ _ | exact ⟨by omega, by omega⟩)) (fun x h v178 n178 hs q => ?_)
                  obtain ⟨rfl, fr178, en178, m178, τ178, i178, rfl, ia178, ib178, hd178, hz178, hn178⟩ := q
                  have zi178 : Zr i178 := ⟨by omega, by omega⟩
                  have hp178 := hp177.sub wf178 fr178
                  have pf178 := pf177.on fr178 en178
                  have hne := hp178.ne hd178
                  show B_R _ _ (136, [(3, .int (Zi turn)), (2, .int (Zi sm)), (1, .int (Zi wo)), (0, .ref o)], [.int (Zi i178)]) _ _ _
                  refine Z_iret rfl rfl (by first | rfl | decide | exact narrow_b01 (by omega)) ⟨_, hs, ?_⟩
                  try dsimp only
                  first
                  | (exfalso; omega)
                  | (obtain ⟨tt, rfl⟩ : ∃ k, tt = k + 1 := ⟨tt - 1, by omega⟩
                     rw [P_items_end (by omega)] at hR
                     rw [hR]
                     obtain ⟨e1, e2, e3⟩ := hn178 hm
                     have hbo : ∀ d j, 0 ≤ d → d < sm → 0 ≤ j → j ≤ 255 → (T_has β177 d j ↔ T_has β d j) := fun d j d0 d1 j0 j1 => by
                       have e : ¬ d = sm := by omega
                       rw [hb177 _ _ (by omega) j0 j1]
                       simp [e]
                       try exact hold d j d0 d1 j0 j1
                     have hF : ∀ j, 0 ≤ j → j ≤ 255 → (T_has β' sm j ↔ P_fold (fo ≠ 0) B j) := fun j j0 j1 => by
                       rw [hB j j0 j1]
                       unfold P_fold
                       exact ⟨.inl, fun h => h.elim id (fun h => absurd h.1 (by omega))⟩
                     refine ⟨rfl, pf178, _, _, _, _, _, i178, _, _, rfl, by omega, by omega, hp178, hd178, hz178, by omega, by omega, ?_⟩
                     refine P_say.ok rfl ⟨rfl, by omega, by omega, e1, e2, ?_⟩
                     refine At_ok.set e3 rfl hbo (fun j j0 j1 => ?_)
                     rw [if_pos (by omega), hb177 _ _ (by omega) j0 j1, ← hF j j0 j1]
                     exact ⟨fun h => h.elim (fun h => h.2) (fun h => absurd rfl h.1), fun h => .inl ⟨rfl, h⟩⟩)
              · refine Z_go (f2 := (109, [(3, .int (Zi turn)), (2, .int (Zi sm)), (1, .int (Zi wo)), (0, .ref o)], [.ref o])) (fun _ => rfl) ?_
                refine C_gr rfl hs hp.1.1 (by decide) (Nat.le_of_ble_eq_true rfl) rfl hp.1.2.2.1 ?_
                refine Z_go (f2 := (113, [(3, .int (Zi turn)), (2, .int (Zi sm)), (1, .int (Zi wo)), (0, .ref o)], [.int (Zi sm), .ref tr])) (fun _ => rfl) ?_
                have wf179 := hs.1
                refine C_callV (As := [.int (Zi sm)]) (rest := []) rfl (by decide) rfl (by decide) rfl rfl (by decide +kernel) (Nat.le_of_ble_eq_true rfl) hs hd.1.1 (C_foldL _ (hd.oF hne) (c := sm) (by omega) (by omega)) (fun x h v179 n179 hs q => ?_)
                obtain ⟨rfl, rfl, fr179, en179, β179, hd179, hb179⟩ := q
                have hp179 := (hp.aa (aa + 1)).sub wf179 fr179
                have pf179 := (pf.sF hp.1.2.1).on fr179 en179
                have hne := hp179.ne hd179
                show B_R _ _ (116, [(3, .int (Zi turn)), (2, .int (Zi sm)), (1, .int (Zi wo)), (0, .ref o)], []) _ _ _
                refine Z_go (f2 := (117, [(3, .int (Zi turn)), (2, .int (Zi sm)), (1, .int (Zi wo)), (0, .ref o)], [.int (Zi wo)])) (fun _ => rfl) ?_
                refine Z_ieq rfl rfl (by first | exact hs.zF _ _ | exact Zor_r _ _ | exact hs.zA _ _ | assumption | exact zA _ _ | exact zS _ | exact Zr_not (hs.zA _ _) | exact hs.1.1 _ _ | exact ⟨by omega, by omega⟩) (fun c9 => ?_) (fun c9 => ?_)
                · refine Z_go (f2 := (129, [(3, .int (Zi turn)), (2, .int (Zi sm)), (1, .int (Zi wo)), (0, .ref o)], [.ref o])) (fun _ => rfl) ?_
                  refine C_gr rfl hs hp179.1.1 (by decide) (Nat.le_of_ble_eq_true rfl) rfl hp179.1.2.2.1 ?_
                  refine Z_go (f2 := (133, [(3, .int (Zi turn)), (2, .int (Zi sm)), (1, .int (Zi wo)), (0, .ref o)], [.int (Zi sm), .ref tr])) (fun _ => rfl) ?_
                  have wf180 := hs.1
                  refine C_callV (As := [.int (Zi sm)]) (rest := []) rfl (by decide) rfl (by decide) rfl rfl (by decide +kernel) (Nat.le_of_ble_eq_true rfl) hs hd179.1.1 (C_newByt _ hd179 hz (a := sm) (by first | exact hs.zF _ _ | exact Zor_r _ _ | exact hs.zA _ _ | assumption | exact zA _ _ | exact zS _ | exact Zr_not (hs.zA _ _) | exact hs.1.1 _ _ | exact ⟨by omega, by omega⟩)) (fun x h v180 n180 hs q => ?_)
                  obtain ⟨rfl, fr180, en180, m180, τ180, i180, rfl, ia180, ib180, hd180, hz180, hn180⟩ := q
                  have zi180 : Zr i180 := ⟨by omega, by omega⟩
                  have hp180 := hp179.sub wf180 fr180
                  have pf180 := pf179.on fr180 en180
                  have hne := hp180.ne hd180
                  show B_R _ _ (136, [(3, .int (Zi turn)), (2, .int (Zi sm)), (1, .int (Zi wo)), (0, .ref o)], [.int (Zi i180)]) _ _ _
                  refine Z_iret rfl rfl (by first | rfl | decide | exact narrow_b01 (by omega)) ⟨_, hs, ?_⟩
                  try dsimp only
                  first
                  | (exfalso; omega)
                  | (obtain ⟨tt, rfl⟩ : ∃ k, tt = k + 1 := ⟨tt - 1, by omega⟩
                     rw [P_items_end (by omega)] at hR
                     rw [hR]
                     obtain ⟨e1, e2, e3⟩ := hn180 hm
                     have hbo : ∀ d j, 0 ≤ d → d < sm → 0 ≤ j → j ≤ 255 → (T_has β179 d j ↔ T_has β d j) := fun d j d0 d1 j0 j1 => by
                       have e : ¬ d = sm := by omega
                       rw [hb179 _ _ (by omega) j0 j1]
                       simp [e]
                       try exact hold d j d0 d1 j0 j1
                     have hF : ∀ j, 0 ≤ j → j ≤ 255 → (T_has β179 sm j ↔ P_fold (fo ≠ 0) B j) := fun j j0 j1 => by
                       rw [hb179 _ _ (by omega) j0 j1, D_fd_congr hB, hB j j0 j1]
                       unfold P_fold
                       exact ⟨fun h => h.imp id (fun h => ⟨by omega, h.2⟩), fun h => h.imp id (fun h => ⟨rfl, h.2⟩)⟩
                     refine ⟨rfl, pf180, _, _, _, _, _, i180, _, _, rfl, by omega, by omega, hp180, hd180, hz180, by omega, by omega, ?_⟩
                     refine P_say.ok rfl ⟨rfl, by omega, by omega, e1, e2, ?_⟩
                     refine At_ok.set e3 rfl hbo (fun j j0 j1 => ?_)
                     rw [if_neg (by omega)]
                     exact hF j j0 j1)
                · refine Z_go (f2 := (121, [(3, .int (Zi turn)), (2, .int (Zi sm)), (1, .int (Zi wo)), (0, .ref o)], [.ref o])) (fun _ => rfl) ?_
                  refine C_gr rfl hs hp179.1.1 (by decide) (Nat.le_of_ble_eq_true rfl) rfl hp179.1.2.2.1 ?_
                  refine Z_go (f2 := (125, [(3, .int (Zi turn)), (2, .int (Zi sm)), (1, .int (Zi wo)), (0, .ref o)], [.int (Zi sm), .ref tr])) (fun _ => rfl) ?_
                  have wf181 := hs.1
                  refine C_callV (As := [.int (Zi sm)]) (rest := []) rfl (by decide) rfl (by decide) rfl rfl (by decide +kernel) (Nat.le_of_ble_eq_true rfl) hs hd179.1.1 (C_inv _ hd179 (c := sm) (by omega) (by omega)) (fun x h v181 n181 hs q => ?_)
                  obtain ⟨rfl, rfl, fr181, en181, β181, hd181, hb181⟩ := q
                  have hp181 := hp179.sub wf181 fr181
                  have pf181 := pf179.on fr181 en181
                  have hne := hp181.ne hd181
                  show B_R _ _ (128, [(3, .int (Zi turn)), (2, .int (Zi sm)), (1, .int (Zi wo)), (0, .ref o)], []) _ _ _
                  refine Z_go (f2 := (129, [(3, .int (Zi turn)), (2, .int (Zi sm)), (1, .int (Zi wo)), (0, .ref o)], [.ref o])) (fun _ => rfl) ?_
                  refine C_gr rfl hs hp181.1.1 (by decide) (Nat.le_of_ble_eq_true rfl) rfl hp181.1.2.2.1 ?_
                  refine Z_go (f2 := (133, [(3, .int (Zi turn)), (2, .int (Zi sm)), (1, .int (Zi wo)), (0, .ref o)], [.int (Zi sm), .ref tr])) (fun _ => rfl) ?_
                  have wf182 := hs.1
                  refine C_callV (As := [.int (Zi sm)]) (rest := []) rfl (by decide) rfl (by decide) rfl rfl (by decide +kernel) (Nat.le_of_ble_eq_true rfl) hs hd181.1.1 (C_newByt _ hd181 hz (a := sm) (by first | exact hs.zF _ _ | exact Zor_r _ _ | exact hs.zA _ _ | assumption | exact zA _ _ | exact zS _ | exact Zr_not (hs.zA _ _) | exact hs.1.1 _ _ | exact ⟨by omega, by omega⟩)) (fun x h v182 n182 hs q => ?_)
                  obtain ⟨rfl, fr182, en182, m182, τ182, i182, rfl, ia182, ib182, hd182, hz182, hn182⟩ := q
                  have zi182 : Zr i182 := ⟨by omega, by omega⟩
                  have hp182 := hp181.sub wf182 fr182
                  have pf182 := pf181.on fr182 en182
                  have hne := hp182.ne hd182
                  show B_R _ _ (136, [(3, .int (Zi turn)), (2, .int (Zi sm)), (1, .int (Zi wo)), (0, .ref o)], [.int (Zi i182)]) _ _ _
                  refine Z_iret rfl rfl (by first | rfl | decide | exact narrow_b01 (by omega)) ⟨_, hs, ?_⟩
                  try dsimp only
                  first
                  | (exfalso; omega)
                  | (obtain ⟨tt, rfl⟩ : ∃ k, tt = k + 1 := ⟨tt - 1, by omega⟩
                     rw [P_items_end (by omega)] at hR
                     rw [hR]
                     obtain ⟨e1, e2, e3⟩ := hn182 hm
                     have hbo : ∀ d j, 0 ≤ d → d < sm → 0 ≤ j → j ≤ 255 → (T_has β181 d j ↔ T_has β d j) := fun d j d0 d1 j0 j1 => by
                       have e : ¬ d = sm := by omega
                       rw [hb181 _ _ (by omega) j0 j1, hb179 _ _ (by omega) j0 j1]
                       simp [e]
                       try exact hold d j d0 d1 j0 j1
                     have hF : ∀ j, 0 ≤ j → j ≤ 255 → (T_has β179 sm j ↔ P_fold (fo ≠ 0) B j) := fun j j0 j1 => by
                       rw [hb179 _ _ (by omega) j0 j1, D_fd_congr hB, hB j j0 j1]
                       unfold P_fold
                       exact ⟨fun h => h.imp id (fun h => ⟨by omega, h.2⟩), fun h => h.imp id (fun h => ⟨rfl, h.2⟩)⟩
                     refine ⟨rfl, pf182, _, _, _, _, _, i182, _, _, rfl, by omega, by omega, hp182, hd182, hz182, by omega, by omega, ?_⟩
                     refine P_say.ok rfl ⟨rfl, by omega, by omega, e1, e2, ?_⟩
                     refine At_ok.set e3 rfl hbo (fun j j0 j1 => ?_)
                     rw [if_pos (by omega), hb181 _ _ (by omega) j0 j1, ← hF j j0 j1]
                     exact ⟨fun h => h.elim (fun h => h.2) (fun h => absurd rfl h.1), fun h => .inl ⟨rfl, h⟩⟩)
            · refine Z_go (f2 := (81, [(3, .int (Zi turn)), (2, .int (Zi sm)), (1, .int (Zi wo)), (0, .ref o)], [.ref o])) (fun _ => rfl) ?_
              refine Z_go (f2 := (82, [(3, .int (Zi turn)), (2, .int (Zi sm)), (1, .int (Zi wo)), (0, .ref o)], [.int (Zi sm), .ref o])) (fun _ => rfl) ?_
              have wf183 := hs.1
              refine C_callV (As := [.int (Zi sm)]) (rest := []) rfl (by decide) rfl (by decide) rfl rfl (by decide +kernel) (Nat.le_of_ble_eq_true rfl) hs hp.1.1 (C_piece _ hp hd hz (by omega) (by omega) (c := sm) (by omega) (by omega)) (fun x h v183 n183 hs q => ?_)
              obtain ⟨rfl, rfl, pg183, f183, pl183, a183, β183, hp183, hd183, ga183, gb183, hb183, sy183⟩ := q
              have pf183 := pf.tr pg183
              have hne := hp183.ne hd183
              obtain ⟨zzf183, zzp183, zza183, _⟩ := hp183.z hs
              show B_R _ _ (85, [(3, .int (Zi turn)), (2, .int (Zi sm)), (1, .int (Zi wo)), (0, .ref o)], []) _ _ _
              refine Z_iinc (L2 := [(3, .int (Zi (turn + 1))), (2, .int (Zi sm)), (1, .int (Zi wo)), (0, .ref o)]) rfl rfl (by decide) rfl ?_
              refine Z_go (f2 := (58, [(3, .int (Zi (turn + 1))), (2, .int (Zi sm)), (1, .int (Zi wo)), (0, .ref o)], [])) (fun _ => rfl) ?_
              refine B_loc (K := [(3, .int (Zi (turn + 1))), (2, .int (Zi sm)), (1, .int (Zi wo)), (0, .ref o)]) (N_all_sub ⟨rfl, rfl, rfl, rfl, trivial⟩) (show ([3, 2, 1, 0] : List Nat).Nodup by decide) ?_
              obtain ⟨tt, rfl⟩ : ∃ k, tt = k + 1 := ⟨tt - 1, by omega⟩
              rw [P_items_on (.inr (by omega))] at hR
              have ho2 : ∀ d j, 0 ≤ d → d < sm → 0 ≤ j → j ≤ 255 → (T_has β183 d j ↔ T_has β d j) := fun d j d0 d1 j0 j1 => (hb183 d j d0 (by omega) j0 j1).trans (hold d j d0 d1 j0 j1)
              by_cases hF : f183 = 0
              · obtain ⟨C, b, eC, e1, e2, e3, e4⟩ := P_say.good sy183 hF
                rw [eC] at hR
                exact ih tt (turn + 1) f183 pl183 a183 1 β183 _ v183 h (by omega) (.inl ⟨hF, rfl⟩) hs hp183 hd183 hz pf183 (by omega) (by omega) (by omega) ho2 (.inr ⟨hF, by omega, by omega, by rw [hR, e1], by omega, fun j j0 j1 => by rw [e4 j j0 j1, hB j j0 j1]⟩)
              · have hR2 := P_say.bad sy183 hF
                rw [hR2] at hR
                exact ih tt (turn + 1) f183 pl183 a183 0 β183 B v183 h (by omega) (.inr ⟨hF, rfl⟩) hs hp183 hd183 hz pf183 (by omega) (by omega) (by omega) ho2 (.inl ⟨hF, hR⟩)
    · have hf : f ≠ 0 ∧ R = .inl (f, pl') := by
        rcases hI with h | h
        · exact h
        · exfalso; omega
      obtain ⟨hf, hR⟩ := hf
      refine Z_go (f2 := (59, [(3, .int (Zi turn)), (2, .int (Zi sm)), (1, .int (Zi wo)), (0, .ref o)], [.int (Zi turn)])) (fun _ => rfl) ?_
      refine Z_go (f2 := (61, [(3, .int (Zi turn)), (2, .int (Zi sm)), (1, .int (Zi wo)), (0, .ref o)], [.int (Zi 80), .int (Zi turn)])) (fun _ => rfl) ?_
      refine Z_cge rfl rfl (by first | exact hs.zF _ _ | exact Zor_r _ _ | exact hs.zA _ _ | assumption | exact zA _ _ | exact zS _ | exact Zr_not (hs.zA _ _) | exact hs.1.1 _ _ | exact ⟨by omega, by omega⟩) (by first | exact hs.zF _ _ | exact Zor_r _ _ | exact hs.zA _ _ | assumption | exact zA _ _ | exact zS _ | exact Zr_not (hs.zA _ _) | exact hs.1.1 _ _ | exact ⟨by omega, by omega⟩) (fun c1 => ?_) (fun c1 => ?_)
      · refine Z_go (f2 := (92, [(3, .int (Zi turn)), (2, .int (Zi sm)), (1, .int (Zi wo)), (0, .ref o)], [.ref o])) (fun _ => rfl) ?_
        refine Z_go (f2 := (93, [(3, .int (Zi turn)), (2, .int (Zi sm)), (1, .int (Zi wo)), (0, .ref o)], [.ref o, .ref o])) (fun _ => rfl) ?_
        refine C_gi rfl hs hp.1.1 (by decide) (Nat.le_of_ble_eq_true rfl) rfl ?_
        rw [show C_F (u) o 5 = aa from (by first | exact hp.1.2.2.2.2.2.2.2.2.2.1 | exact (if_neg (fun e => absurd e.1 (by assumption))).trans hp.1.2.2.2.2.2.2.2.2.2.1 | exact (if_neg (fun e => absurd e.2 (by decide))).trans hp.1.2.2.2.2.2.2.2.2.2.1 | exact (if_neg (fun e => absurd e.2 (by decide))).trans ((if_neg (fun e => absurd e.2 (by decide))).trans hp.1.2.2.2.2.2.2.2.2.2.1) | exact (if_neg (fun e => absurd e.2 (by decide))).trans ((if_neg (fun e => absurd e.2 (by decide))).trans ((if_neg (fun e => absurd e.2 (by decide))).trans hp.1.2.2.2.2.2.2.2.2.2.1)))]
        show B_R _ _ (96, [(3, .int (Zi turn)), (2, .int (Zi sm)), (1, .int (Zi wo)), (0, .ref o)], [.int (Zi aa), .ref o]) _ _ _
        refine Z_go (f2 := (97, [(3, .int (Zi turn)), (2, .int (Zi sm)), (1, .int (Zi wo)), (0, .ref o)], [.int (Zi 1), .int (Zi aa), .ref o])) (fun _ => rfl) ?_
        refine Z_iadd rfl ?_
        refine C_pi rfl hs hp.1.1 (by decide) (Nat.le_of_ble_eq_true rfl) (.inl rfl) rfl rfl rfl (by first | exact hs.zF _ _ | exact Zor_r _ _ | exact hs.zA _ _ | assumption | exact zA _ _ | exact zS _ | exact Zr_not (hs.zA _ _) | exact hs.1.1 _ _ | exact ⟨by omega, by omega⟩) (fun h hs => ?_)
        refine Z_go (f2 := (102, [(3, .int (Zi turn)), (2, .int (Zi sm)), (1, .int (Zi wo)), (0, .ref o)], [.ref o])) (fun _ => rfl) ?_
        refine C_gi rfl hs hp.1.1 (by decide) (Nat.le_of_ble_eq_true rfl) rfl ?_
        rw [show C_F (C_sF u o 5 (aa + 1)) o 6 = fo from (by first | exact hp.1.2.2.2.2.2.2.2.2.2.2.1 | exact (if_neg (fun e => absurd e.1 (by assumption))).trans hp.1.2.2.2.2.2.2.2.2.2.2.1 | exact (if_neg (fun e => absurd e.2 (by decide))).trans hp.1.2.2.2.2.2.2.2.2.2.2.1 | exact (if_neg (fun e => absurd e.2 (by decide))).trans ((if_neg (fun e => absurd e.2 (by decide))).trans hp.1.2.2.2.2.2.2.2.2.2.2.1) | exact (if_neg (fun e => absurd e.2 (by decide))).trans ((if_neg (fun e => absurd e.2 (by decide))).trans ((if_neg (fun e => absurd e.2 (by decide))).trans hp.1.2.2.2.2.2.2.2.2.2.2.1)))]
        show B_R _ _ (105, [(3, .int (Zi turn)), (2, .int (Zi sm)), (1, .int (Zi wo)), (0, .ref o)], [.int (Zi fo)]) _ _ _
        refine Z_ieq rfl rfl (by first | exact hs.zF _ _ | exact Zor_r _ _ | exact hs.zA _ _ | assumption | exact zA _ _ | exact zS _ | exact Zr_not (hs.zA _ _) | exact hs.1.1 _ _ | exact ⟨by omega, by omega⟩) (fun c2 => ?_) (fun c2 => ?_)
        · refine Z_go (f2 := (117, [(3, .int (Zi turn)), (2, .int (Zi sm)), (1, .int (Zi wo)), (0, .ref o)], [.int (Zi wo)])) (fun _ => rfl) ?_
          refine Z_ieq rfl rfl (by first | exact hs.zF _ _ | exact Zor_r _ _ | exact hs.zA _ _ | assumption | exact zA _ _ | exact zS _ | exact Zr_not (hs.zA _ _) | exact hs.1.1 _ _ | exact ⟨by omega, by omega⟩) (fun c3 => ?_) (fun c3 => ?_)
          · refine Z_go (f2 := (129, [(3, .int (Zi turn)), (2, .int (Zi sm)), (1, .int (Zi wo)), (0, .ref o)], [.ref o])) (fun _ => rfl) ?_
            refine C_gr rfl hs hp.1.1 (by decide) (Nat.le_of_ble_eq_true rfl) rfl hp.1.2.2.1 ?_
            refine Z_go (f2 := (133, [(3, .int (Zi turn)), (2, .int (Zi sm)), (1, .int (Zi wo)), (0, .ref o)], [.int (Zi sm), .ref tr])) (fun _ => rfl) ?_
            have wf184 := hs.1
            refine C_callV (As := [.int (Zi sm)]) (rest := []) rfl (by decide) rfl (by decide) rfl rfl (by decide +kernel) (Nat.le_of_ble_eq_true rfl) hs hd.1.1 (C_newByt _ (hd.oF hne) hz (a := sm) (by first | exact hs.zF _ _ | exact Zor_r _ _ | exact hs.zA _ _ | assumption | exact zA _ _ | exact zS _ | exact Zr_not (hs.zA _ _) | exact hs.1.1 _ _ | exact ⟨by omega, by omega⟩)) (fun x h v184 n184 hs q => ?_)
            obtain ⟨rfl, fr184, en184, m184, τ184, i184, rfl, ia184, ib184, hd184, hz184, hn184⟩ := q
            have zi184 : Zr i184 := ⟨by omega, by omega⟩
            have hp184 := (hp.aa (aa + 1)).sub wf184 fr184
            have pf184 := (pf.sF hp.1.2.1).on fr184 en184
            have hne := hp184.ne hd184
            show B_R _ _ (136, [(3, .int (Zi turn)), (2, .int (Zi sm)), (1, .int (Zi wo)), (0, .ref o)], [.int (Zi i184)]) _ _ _
            refine Z_iret rfl rfl (by first | rfl | decide | exact narrow_b01 (by omega)) ⟨_, hs, ?_⟩
            try dsimp only
            rw [hR]
            refine ⟨rfl, pf184, _, _, _, _, _, i184, _, _, rfl, by omega, by omega, hp184, hd184, hz184, by omega, by omega, ?_⟩
            exact P_say.no rfl hf
          · refine Z_go (f2 := (121, [(3, .int (Zi turn)), (2, .int (Zi sm)), (1, .int (Zi wo)), (0, .ref o)], [.ref o])) (fun _ => rfl) ?_
            refine C_gr rfl hs hp.1.1 (by decide) (Nat.le_of_ble_eq_true rfl) rfl hp.1.2.2.1 ?_
            refine Z_go (f2 := (125, [(3, .int (Zi turn)), (2, .int (Zi sm)), (1, .int (Zi wo)), (0, .ref o)], [.int (Zi sm), .ref tr])) (fun _ => rfl) ?_
            have wf185 := hs.1
            refine C_callV (As := [.int (Zi sm)]) (rest := []) rfl (by decide) rfl (by decide) rfl rfl (by decide +kernel) (Nat.le_of_ble_eq_true rfl) hs hd.1.1 (C_inv _ (hd.oF hne) (c := sm) (by omega) (by omega)) (fun x h v185 n185 hs q => ?_)
            obtain ⟨rfl, rfl, fr185, en185, β185, hd185, hb185⟩ := q
            have hp185 := (hp.aa (aa + 1)).sub wf185 fr185
            have pf185 := (pf.sF hp.1.2.1).on fr185 en185
            have hne := hp185.ne hd185
            show B_R _ _ (128, [(3, .int (Zi turn)), (2, .int (Zi sm)), (1, .int (Zi wo)), (0, .ref o)], []) _ _ _
            refine Z_go (f2 := (129, [(3, .int (Zi turn)), (2, .int (Zi sm)), (1, .int (Zi wo)), (0, .ref o)], [.ref o])) (fun _ => rfl) ?_
            refine C_gr rfl hs hp185.1.1 (by decide) (Nat.le_of_ble_eq_true rfl) rfl hp185.1.2.2.1 ?_
            refine Z_go (f2 := (133, [(3, .int (Zi turn)), (2, .int (Zi sm)), (1, .int (Zi wo)), (0, .ref o)], [.int (Zi sm), .ref tr])) (fun _ => rfl) ?_
            have wf186 := hs.1
            refine C_callV (As := [.int (Zi sm)]) (rest := []) rfl (by decide) rfl (by decide) rfl rfl (by decide +kernel) (Nat.le_of_ble_eq_true rfl) hs hd185.1.1 (C_newByt _ hd185 hz (a := sm) (by first | exact hs.zF _ _ | exact Zor_r _ _ | exact hs.zA _ _ | assumption | exact zA _ _ | exact zS _ | exact Zr_not (hs.zA _ _) | exact hs.1.1 _ _ | exact ⟨by omega, by omega⟩)) (fun x h v186 n186 hs q => ?_)
            obtain ⟨rfl, fr186, en186, m186, τ186, i186, rfl, ia186, ib186, hd186, hz186, hn186⟩ := q
            have zi186 : Zr i186 := ⟨by omega, by omega⟩
            have hp186 := hp185.sub wf186 fr186
            have pf186 := pf185.on fr186 en186
            have hne := hp186.ne hd186
            show B_R _ _ (136, [(3, .int (Zi turn)), (2, .int (Zi sm)), (1, .int (Zi wo)), (0, .ref o)], [.int (Zi i186)]) _ _ _
            refine Z_iret rfl rfl (by first | rfl | decide | exact narrow_b01 (by omega)) ⟨_, hs, ?_⟩
            try dsimp only
            rw [hR]
            refine ⟨rfl, pf186, _, _, _, _, _, i186, _, _, rfl, by omega, by omega, hp186, hd186, hz186, by omega, by omega, ?_⟩
            exact P_say.no rfl hf
        · refine Z_go (f2 := (109, [(3, .int (Zi turn)), (2, .int (Zi sm)), (1, .int (Zi wo)), (0, .ref o)], [.ref o])) (fun _ => rfl) ?_
          refine C_gr rfl hs hp.1.1 (by decide) (Nat.le_of_ble_eq_true rfl) rfl hp.1.2.2.1 ?_
          refine Z_go (f2 := (113, [(3, .int (Zi turn)), (2, .int (Zi sm)), (1, .int (Zi wo)), (0, .ref o)], [.int (Zi sm), .ref tr])) (fun _ => rfl) ?_
          have wf187 := hs.1
          refine C_callV (As := [.int (Zi sm)]) (rest := []) rfl (by decide) rfl (by decide) rfl rfl (by decide +kernel) (Nat.le_of_ble_eq_true rfl) hs hd.1.1 (C_foldL _ (hd.oF hne) (c := sm) (by omega) (by omega)) (fun x h v187 n187 hs q => ?_)
          obtain ⟨rfl, rfl, fr187, en187, β187, hd187, hb187⟩ := q
          have hp187 := (hp.aa (aa + 1)).sub wf187 fr187
          have pf187 := (pf.sF hp.1.2.1).on fr187 en187
          have hne := hp187.ne hd187
          show B_R _ _ (116, [(3, .int (Zi turn)), (2, .int (Zi sm)), (1, .int (Zi wo)), (0, .ref o)], []) _ _ _
          refine Z_go (f2 := (117, [(3, .int (Zi turn)), (2, .int (Zi sm)), (1, .int (Zi wo)), (0, .ref o)], [.int (Zi wo)])) (fun _ => rfl) ?_
          refine Z_ieq rfl rfl (by first | exact hs.zF _ _ | exact Zor_r _ _ | exact hs.zA _ _ | assumption | exact zA _ _ | exact zS _ | exact Zr_not (hs.zA _ _) | exact hs.1.1 _ _ | exact ⟨by omega, by omega⟩) (fun c4 => ?_) (fun c4 => ?_)
          · refine Z_go (f2 := (129, [(3, .int (Zi turn)), (2, .int (Zi sm)), (1, .int (Zi wo)), (0, .ref o)], [.ref o])) (fun _ => rfl) ?_
            refine C_gr rfl hs hp187.1.1 (by decide) (Nat.le_of_ble_eq_true rfl) rfl hp187.1.2.2.1 ?_
            refine Z_go (f2 := (133, [(3, .int (Zi turn)), (2, .int (Zi sm)), (1, .int (Zi wo)), (0, .ref o)], [.int (Zi sm), .ref tr])) (fun _ => rfl) ?_
            have wf188 := hs.1
            refine C_callV (As := [.int (Zi sm)]) (rest := []) rfl (by decide) rfl (by decide) rfl rfl (by decide +kernel) (Nat.le_of_ble_eq_true rfl) hs hd187.1.1 (C_newByt _ hd187 hz (a := sm) (by first | exact hs.zF _ _ | exact Zor_r _ _ | exact hs.zA _ _ | assumption | exact zA _ _ | exact zS _ | exact Zr_not (hs.zA _ _) | exact hs.1.1 _ _ | exact ⟨by omega, by omega⟩)) (fun x h v188 n188 hs q => ?_)
            obtain ⟨rfl, fr188, en188, m188, τ188, i188, rfl, ia188, ib188, hd188, hz188, hn188⟩ := q
            have zi188 : Zr i188 := ⟨by omega, by omega⟩
            have hp188 := hp187.sub wf188 fr188
            have pf188 := pf187.on fr188 en188
            have hne := hp188.ne hd188
            show B_R _ _ (136, [(3, .int (Zi turn)), (2, .int (Zi sm)), (1, .int (Zi wo)), (0, .ref o)], [.int (Zi i188)]) _ _ _
            refine Z_iret rfl rfl (by first | rfl | decide | exact narrow_b01 (by omega)) ⟨_, hs, ?_⟩
            try dsimp only
            rw [hR]
            refine ⟨rfl, pf188, _, _, _, _, _, i188, _, _, rfl, by omega, by omega, hp188, hd188, hz188, by omega, by omega, ?_⟩
            exact P_say.no rfl hf
          · refine Z_go (f2 := (121, [(3, .int (Zi turn)), (2, .int (Zi sm)), (1, .int (Zi wo)), (0, .ref o)], [.ref o])) (fun _ => rfl) ?_
            refine C_gr rfl hs hp187.1.1 (by decide) (Nat.le_of_ble_eq_true rfl) rfl hp187.1.2.2.1 ?_
            refine Z_go (f2 := (125, [(3, .int (Zi turn)), (2, .int (Zi sm)), (1, .int (Zi wo)), (0, .ref o)], [.int (Zi sm), .ref tr])) (fun _ => rfl) ?_
            have wf189 := hs.1
            refine C_callV (As := [.int (Zi sm)]) (rest := []) rfl (by decide) rfl (by decide) rfl rfl (by decide +kernel) (Nat.le_of_ble_eq_true rfl) hs hd187.1.1 (C_inv _ hd187 (c := sm) (by omega) (by omega)) (fun x h v189 n189 hs q => ?_)
            obtain ⟨rfl, rfl, fr189, en189, β189, hd189, hb189⟩ := q
            have hp189 := hp187.sub wf189 fr189
            have pf189 := pf187.on fr189 en189
            have hne := hp189.ne hd189
            show B_R _ _ (128, [(3, .int (Zi turn)), (2, .int (Zi sm)), (1, .int (Zi wo)), (0, .ref o)], []) _ _ _
            refine Z_go (f2 := (129, [(3, .int (Zi turn)), (2, .int (Zi sm)), (1, .int (Zi wo)), (0, .ref o)], [.ref o])) (fun _ => rfl) ?_
            refine C_gr rfl hs hp189.1.1 (by decide) (Nat.le_of_ble_eq_true rfl) rfl hp189.1.2.2.1 ?_
            refine Z_go (f2 := (133, [(3, .int (Zi turn)), (2, .int (Zi sm)), (1, .int (Zi wo)), (0, .ref o)], [.int (Zi sm), .ref tr])) (fun _ => rfl) ?_
            have wf190 := hs.1
            refine C_callV (As := [.int (Zi sm)]) (rest := []) rfl (by decide) rfl (by decide) rfl rfl (by decide +kernel) (Nat.le_of_ble_eq_true rfl) hs hd189.1.1 (C_newByt _ hd189 hz (a := sm) (by first | exact hs.zF _ _ | exact Zor_r _ _ | exact hs.zA _ _ | assumption | exact zA _ _ | exact zS _ | exact Zr_not (hs.zA _ _) | exact hs.1.1 _ _ | exact ⟨by omega, by omega⟩)) (fun x h v190 n190 hs q => ?_)
            obtain ⟨rfl, fr190, en190, m190, τ190, i190, rfl, ia190, ib190, hd190, hz190, hn190⟩ := q
            have zi190 : Zr i190 := ⟨by omega, by omega⟩
            have hp190 := hp189.sub wf190 fr190
            have pf190 := pf189.on fr190 en190
            have hne := hp190.ne hd190
            show B_R _ _ (136, [(3, .int (Zi turn)), (2, .int (Zi sm)), (1, .int (Zi wo)), (0, .ref o)], [.int (Zi i190)]) _ _ _
            refine Z_iret rfl rfl (by first | rfl | decide | exact narrow_b01 (by omega)) ⟨_, hs, ?_⟩
            try dsimp only
            rw [hR]
            refine ⟨rfl, pf190, _, _, _, _, _, i190, _, _, rfl, by omega, by omega, hp190, hd190, hz190, by omega, by omega, ?_⟩
            exact P_say.no rfl hf
      · exfalso; omega
theorem C_cls (d : Nat) {s : C_S} {p : List Nat} {o tr src N : Nat} {S : Int → Int} {nn fo pl a : Int} {A : Nat → Nat} {m sm : Int} {τ : Nat → Int → Int} {β : Int → Int64} (hp : D_P0 s p o tr src N S nn fo 0 pl a) (hd : D_Tr s (p ++ [tr]) tr A m sm τ β) (hz : T_zb τ) (a0 : 0 ≤ a) (an : a < nn) (hm : m < 168) (hs8 : sm < 80) (hS : S a = 91) : C_ok (d + 5) 48 [.ref o] s (fun x s2 n => n = 0 ∧ D_Pf p s s2 ∧ ∃ (f2 pl2 a2 m2 sm2 i : Int) (τ2 : Nat → Int → Int) (β2 : Int → Int64), x = some (.int (Zi i)) ∧ -1 ≤ i ∧ i < 168 ∧ D_P0 s2 p o tr src N S nn fo f2 pl2 a2 ∧ D_Tr s2 (p ++ [tr]) tr A m2 sm2 τ2 β2 ∧ T_zb τ2 ∧ a ≤ a2 ∧ a2 ≤ nn + 5 ∧ P_say (P_atom S (fo ≠ 0) a) f2 pl2 (fun At b => a2 = b ∧ b ≤ nn ∧ a < b ∧ i = m ∧ m2 = m + 1 ∧ At_ok At τ m sm β τ2 sm2 β2)) := by
  refine C_enter (M := E_m48) rfl (Nat.le_of_ble_eq_true rfl) (fun h0 h hs => ?_)
  show B_R (d + 4) _ (0, [(0, .ref o)], []) _ _ _
  have hpz := hp.z hs
  have za := hpz.2.2.1
  have zn := hpz.2.2.2.1
  have zfo := hpz.2.2.2.2
  have nn0 := hp.2.2.2.2.1
  have nn1 := hp.2.2.2.2.2
  have hne := hp.ne hd
  have hm0 := hd.1.2.2.2.2.1
  have hm1 := hd.1.2.2.2.2.2.1
  have hsm0 := hd.1.2.2.2.2.2.2.1
  have hsm1 := hd.1.2.2.2.2.2.2.2
  have hra := hp.r a a0
  have hrb := hp.r (a + 1) (by omega)
  have eP : P_atom S (fo ≠ 0) a = (match P_list S (fo ≠ 0) (a + 1) with | .inl (k, w) => .inl (k, w) | .inr (B, b) => .inr (.inr B, b)) := by
    unfold P_atom
    rw [if_neg (by omega), if_neg (by omega), if_pos hS]
    rfl
  rw [eP]
  refine Z_go (f2 := (1, [(0, .ref o)], [.ref o])) (fun _ => rfl) ?_
  refine Z_go (f2 := (2, [(0, .ref o)], [.ref o, .ref o])) (fun _ => rfl) ?_
  refine C_gi rfl hs hp.1.1 (by decide) (Nat.le_of_ble_eq_true rfl) rfl ?_
  rw [show C_F (s) o 5 = a from (by first | exact hp.1.2.2.2.2.2.2.2.2.2.1 | exact (if_neg (fun e => absurd e.1 (by assumption))).trans hp.1.2.2.2.2.2.2.2.2.2.1 | exact (if_neg (fun e => absurd e.2 (by decide))).trans hp.1.2.2.2.2.2.2.2.2.2.1 | exact (if_neg (fun e => absurd e.2 (by decide))).trans ((if_neg (fun e => absurd e.2 (by decide))).trans hp.1.2.2.2.2.2.2.2.2.2.1) | exact (if_neg (fun e => absurd e.2 (by decide))).trans ((if_neg (fun e => absurd e.2 (by decide))).trans ((if_neg (fun e => absurd e.2 (by decide))).trans hp.1.2.2.2.2.2.2.2.2.2.1)))]
  show B_R _ _ (5, [(0, .ref o)], [.int (Zi a), .ref o]) _ _ _
  refine Z_go (f2 := (6, [(0, .ref o)], [.int (Zi 1), .int (Zi a), .ref o])) (fun _ => rfl) ?_
  refine Z_iadd rfl ?_
  refine C_pi rfl hs hp.1.1 (by decide) (Nat.le_of_ble_eq_true rfl) (.inl rfl) rfl rfl rfl (by first | exact hs.zF _ _ | exact Zor_r _ _ | exact hs.zA _ _ | assumption | exact zA _ _ | exact zS _ | exact Zr_not (hs.zA _ _) | exact hs.1.1 _ _ | exact ⟨by omega, by omega⟩) (fun h hs => ?_)
  refine Z_go (f2 := (11, [(0, .ref o)], [.ref o])) (fun _ => rfl) ?_
  refine C_callVR (As := []) (rest := []) rfl (by decide) rfl (by decide) rfl rfl (by decide +kernel) (Nat.le_of_ble_eq_true rfl) hs hp.1.1 (C_peek _ (hp.aa (a + 1)) (by omega)) (fun x q => ?_)
  obtain rfl := q
  have zpk191 := hp.r (a + 1) (by omega)
  show B_R _ _ (14, [(0, .ref o)], [.int (Zi (S (a + 1)))]) _ _ _
  refine Z_go (f2 := (16, [(0, .ref o)], [.int (Zi 94), .int (Zi (S (a + 1)))])) (fun _ => rfl) ?_
  refine Z_cne rfl rfl (by first | exact hs.zF _ _ | exact Zor_r _ _ | exact hs.zA _ _ | assumption | exact zA _ _ | exact zS _ | exact Zr_not (hs.zA _ _) | exact hs.1.1 _ _ | exact ⟨by omega, by omega⟩) (by first | exact hs.zF _ _ | exact Zor_r _ _ | exact hs.zA _ _ | assumption | exact zA _ _ | exact zS _ | exact Zr_not (hs.zA _ _) | exact hs.1.1 _ _ | exact ⟨by omega, by omega⟩) (fun c1 => ?_) (fun c1 => ?_)
  · refine Z_go (f2 := (24, [(0, .ref o)], [.int (Zi 0)])) (fun _ => rfl) ?_
    refine Z_go (f2 := (25, [(1, .int (Zi 0)), (0, .ref o)], [])) (fun _ => rfl) ?_
    refine Z_go (f2 := (26, [(1, .int (Zi 0)), (0, .ref o)], [.ref o])) (fun _ => rfl) ?_
    refine Z_go (f2 := (27, [(1, .int (Zi 0)), (0, .ref o)], [.ref o, .ref o])) (fun _ => rfl) ?_
    refine C_gi rfl hs hp.1.1 (by decide) (Nat.le_of_ble_eq_true rfl) rfl ?_
    rw [show C_F (C_sF s o 5 (a + 1)) o 5 = a + 1 from (by first | rfl | (simp only [C_F, C_P, C_A, C_L, C_Q, C_K, C_T, C_n, C_sF, C_sP, C_sA, C_sL, C_sQ, C_sAf, C_sQf]; simp [*]; done) | (simp only [C_F, C_P, C_A, C_L, C_Q, C_K, C_T, C_n, C_sF, C_sP, C_sA, C_sL, C_sQ, C_sAf, C_sQf]; simp; omega))]; show B_R _ _ (30, [(1, .int (Zi 0)), (0, .ref o)], [.int (Zi (a + 1)), .ref o]) _ _ _
    refine Z_go (f2 := (31, [(1, .int (Zi 0)), (0, .ref o)], [.int (Zi 0), .int (Zi (a + 1)), .ref o])) (fun _ => rfl) ?_
    refine Z_ieq rfl rfl (by first | exact hs.zF _ _ | exact Zor_r _ _ | exact hs.zA _ _ | assumption | exact zA _ _ | exact zS _ | exact Zr_not (hs.zA _ _) | exact hs.1.1 _ _ | exact ⟨by omega, by omega⟩) (fun c2 => ?_) (fun c2 => ?_)
    · refine Z_go (f2 := (39, [(1, .int (Zi 0)), (0, .ref o)], [.int (Zi 0), .int (Zi (a + 1)), .ref o])) (fun _ => rfl) ?_
      refine Z_iadd rfl ?_
      refine C_pi rfl hs hp.1.1 (by decide) (Nat.le_of_ble_eq_true rfl) (.inl rfl) rfl rfl rfl (by first | exact hs.zF _ _ | exact Zor_r _ _ | exact hs.zA _ _ | assumption | exact zA _ _ | exact zS _ | exact Zr_not (hs.zA _ _) | exact hs.1.1 _ _ | exact ⟨by omega, by omega⟩) (fun h hs => ?_)
      refine Z_go (f2 := (44, [(1, .int (Zi 0)), (0, .ref o)], [.ref o])) (fun _ => rfl) ?_
      refine C_gr rfl hs hp.1.1 (by decide) (Nat.le_of_ble_eq_true rfl) rfl hp.1.2.2.1 ?_
      have wf192 := hs.1
      refine C_callV (As := []) (rest := []) rfl (by decide) rfl (by decide) rfl rfl (by decide +kernel) (Nat.le_of_ble_eq_true rfl) hs hd.1.1 (C_newSet _ ((hd.oF hne).oF hne)) (fun x h v192 n192 hs q => ?_)
      obtain ⟨rfl, fr192, en192, sm192, β192, c192, rfl, ca192, cb192, hd192, hb192, hc192⟩ := q
      have zc192 : Zr c192 := ⟨by omega, by omega⟩
      have hp192 := ((hp.aa (a + 1)).aa (a + 1 + 0)).sub wf192 fr192
      have pf192 := (((D_Pf.refl p s).sF hp.1.2.1).sF hp.1.2.1).on fr192 en192
      have hne := hp192.ne hd192
      show B_R _ _ (50, [(1, .int (Zi 0)), (0, .ref o)], [.int (Zi c192)]) _ _ _
      refine Z_go (f2 := (51, [(2, .int (Zi c192)), (1, .int (Zi 0)), (0, .ref o)], [])) (fun _ => rfl) ?_
      refine Z_go (f2 := (52, [(2, .int (Zi c192)), (1, .int (Zi 0)), (0, .ref o)], [.ref o])) (fun _ => rfl) ?_
      refine Z_go (f2 := (53, [(2, .int (Zi c192)), (1, .int (Zi 0)), (0, .ref o)], [.int (Zi c192), .ref o])) (fun _ => rfl) ?_
      have wf193 := hs.1
      refine C_callV (As := [.int (Zi c192)]) (rest := []) rfl (by decide) rfl (by decide) rfl rfl (by decide +kernel) (Nat.le_of_ble_eq_true rfl) hs hp192.1.1 (C_piece _ hp192 hd192 hz (by omega) (by omega) (c := c192) (by omega) (by omega)) (fun x h v193 n193 hs q => ?_)
      obtain ⟨rfl, rfl, pg193, f193, pl193, a193, β193, hp193, hd193, ga193, gb193, hb193, sy193⟩ := q
      have pf193 := pf192.tr pg193
      have hne := hp193.ne hd193
      obtain ⟨zzf193, zzp193, zza193, _⟩ := hp193.z hs
      show B_R _ _ (56, [(2, .int (Zi c192)), (1, .int (Zi 0)), (0, .ref o)], []) _ _ _
      refine Z_go (f2 := (57, [(2, .int (Zi c192)), (1, .int (Zi 0)), (0, .ref o)], [.int (Zi 0)])) (fun _ => rfl) ?_
      refine Z_go (f2 := (58, [(3, .int (Zi 0)), (2, .int (Zi c192)), (1, .int (Zi 0)), (0, .ref o)], [])) (fun _ => rfl) ?_
      rw [show a + 1 + 0 = a + 1 by omega] at sy193
      obtain ⟨ec, es⟩ := hc192 hs8
      subst ec
      rw [es] at hd193
      have hR0 : P_list S (fo ≠ 0) (a + 1) = (match P_items S 82 true (a + 1) (fun _ => False) with
          | .inl (k, w) => .inl (k, w)
          | .inr (B, b) => .inr ((if (0 : Int) = 1 then fun x => ¬ P_fold (fo ≠ 0) B x else P_fold (fo ≠ 0) B), b)) := by
        unfold P_list
        rw [if_neg (by omega)]
        cases P_items S 82 true (a + 1) (fun _ => False) using P_R_el with
        | bad k w => rfl
        | ok B b => rfl
      have hE : ((match P_list S (fo ≠ 0) (a + 1) with | .inl (k, w) => .inl (k, w) | .inr (B, b) => .inr (.inr B, b)) : P_R P_A) = ((match P_items S 82 true (a + 1) (fun _ => False) with | .inl q => .inl q | .inr (B, b) => .inr (.inr (if (0 : Int) = 1 then fun x => ¬ P_fold (fo ≠ 0) B x else P_fold (fo ≠ 0) B), b)) : P_R P_A) := by
        rw [hR0]
        cases P_items S 82 true (a + 1) (fun _ => False) using P_R_el with
        | bad k w => rfl
        | ok B b => rfl
      rw [hE]
      have hR : P_items S 82 true (a + 1) (fun _ => False) = _ := P_items_on (t := 81) (.inl rfl)
      have ho2 : ∀ d j, 0 ≤ d → d < c192 → 0 ≤ j → j ≤ 255 → (T_has β193 d j ↔ T_has β d j) := fun d j d0 d1 j0 j1 => (hb193 d j d0 (by omega) j0 j1).trans (by rw [hb192]; exact ⟨fun h => h.1, fun h => ⟨h, by omega⟩⟩)
      refine B_loc (K := [(3, .int (Zi 0)), (2, .int (Zi c192)), (1, .int (Zi 0)), (0, .ref o)]) (N_all_sub ⟨rfl, rfl, rfl, rfl, trivial⟩) (show ([3, 2, 1, 0] : List Nat).Nodup by decide) ?_
      by_cases hF : f193 = 0
      · obtain ⟨C, b, eC, e1, e2, e3, e4⟩ := P_say.good sy193 hF
        rw [eC] at hR
        exact C_cls_lp a0 hm hm0 hs8 hsm0 (by omega) nn1 200 81 0 f193 pl193 a193 1 β193 _ v193 h (by omega) (.inl ⟨hF, rfl⟩) hs hp193 hd193 hz pf193 (by omega) (by omega) (by omega) ho2 (.inr ⟨hF, by omega, by omega, by rw [hR, e1], by omega, fun j j0 j1 => by rw [e4 j j0 j1, hb192]; exact ⟨fun h => h.elim (fun h => absurd rfl h.2) .inr, fun h => h.elim False.elim .inr⟩⟩)
      · have hR2 := P_say.bad sy193 hF
        rw [hR2] at hR
        exact C_cls_lp a0 hm hm0 hs8 hsm0 (by omega) nn1 200 81 0 f193 pl193 a193 0 β193 (fun _ => False) v193 h (by omega) (.inr ⟨hF, rfl⟩) hs hp193 hd193 hz pf193 (by omega) (by omega) (by omega) ho2 (.inl ⟨hF, hR⟩)
    · exfalso; omega
  · refine Z_go (f2 := (20, [(0, .ref o)], [.int (Zi 1)])) (fun _ => rfl) ?_
    refine Z_go (f2 := (24, [(0, .ref o)], [.int (Zi 1)])) (fun _ => rfl) ?_
    refine Z_go (f2 := (25, [(1, .int (Zi 1)), (0, .ref o)], [])) (fun _ => rfl) ?_
    refine Z_go (f2 := (26, [(1, .int (Zi 1)), (0, .ref o)], [.ref o])) (fun _ => rfl) ?_
    refine Z_go (f2 := (27, [(1, .int (Zi 1)), (0, .ref o)], [.ref o, .ref o])) (fun _ => rfl) ?_
    refine C_gi rfl hs hp.1.1 (by decide) (Nat.le_of_ble_eq_true rfl) rfl ?_
    rw [show C_F (C_sF s o 5 (a + 1)) o 5 = a + 1 from (by first | rfl | (simp only [C_F, C_P, C_A, C_L, C_Q, C_K, C_T, C_n, C_sF, C_sP, C_sA, C_sL, C_sQ, C_sAf, C_sQf]; simp [*]; done) | (simp only [C_F, C_P, C_A, C_L, C_Q, C_K, C_T, C_n, C_sF, C_sP, C_sA, C_sL, C_sQ, C_sAf, C_sQf]; simp; omega))]; show B_R _ _ (30, [(1, .int (Zi 1)), (0, .ref o)], [.int (Zi (a + 1)), .ref o]) _ _ _
    refine Z_go (f2 := (31, [(1, .int (Zi 1)), (0, .ref o)], [.int (Zi 1), .int (Zi (a + 1)), .ref o])) (fun _ => rfl) ?_
    refine Z_ieq rfl rfl (by first | exact hs.zF _ _ | exact Zor_r _ _ | exact hs.zA _ _ | assumption | exact zA _ _ | exact zS _ | exact Zr_not (hs.zA _ _) | exact hs.1.1 _ _ | exact ⟨by omega, by omega⟩) (fun c3 => ?_) (fun c3 => ?_)
    · exfalso; omega
    · refine Z_go (f2 := (35, [(1, .int (Zi 1)), (0, .ref o)], [.int (Zi 1), .int (Zi (a + 1)), .ref o])) (fun _ => rfl) ?_
      refine Z_go (f2 := (39, [(1, .int (Zi 1)), (0, .ref o)], [.int (Zi 1), .int (Zi (a + 1)), .ref o])) (fun _ => rfl) ?_
      refine Z_iadd rfl ?_
      refine C_pi rfl hs hp.1.1 (by decide) (Nat.le_of_ble_eq_true rfl) (.inl rfl) rfl rfl rfl (by first | exact hs.zF _ _ | exact Zor_r _ _ | exact hs.zA _ _ | assumption | exact zA _ _ | exact zS _ | exact Zr_not (hs.zA _ _) | exact hs.1.1 _ _ | exact ⟨by omega, by omega⟩) (fun h hs => ?_)
      refine Z_go (f2 := (44, [(1, .int (Zi 1)), (0, .ref o)], [.ref o])) (fun _ => rfl) ?_
      refine C_gr rfl hs hp.1.1 (by decide) (Nat.le_of_ble_eq_true rfl) rfl hp.1.2.2.1 ?_
      have wf194 := hs.1
      refine C_callV (As := []) (rest := []) rfl (by decide) rfl (by decide) rfl rfl (by decide +kernel) (Nat.le_of_ble_eq_true rfl) hs hd.1.1 (C_newSet _ ((hd.oF hne).oF hne)) (fun x h v194 n194 hs q => ?_)
      obtain ⟨rfl, fr194, en194, sm194, β194, c194, rfl, ca194, cb194, hd194, hb194, hc194⟩ := q
      have zc194 : Zr c194 := ⟨by omega, by omega⟩
      have hp194 := ((hp.aa (a + 1)).aa (a + 1 + 1)).sub wf194 fr194
      have pf194 := (((D_Pf.refl p s).sF hp.1.2.1).sF hp.1.2.1).on fr194 en194
      have hne := hp194.ne hd194
      show B_R _ _ (50, [(1, .int (Zi 1)), (0, .ref o)], [.int (Zi c194)]) _ _ _
      refine Z_go (f2 := (51, [(2, .int (Zi c194)), (1, .int (Zi 1)), (0, .ref o)], [])) (fun _ => rfl) ?_
      refine Z_go (f2 := (52, [(2, .int (Zi c194)), (1, .int (Zi 1)), (0, .ref o)], [.ref o])) (fun _ => rfl) ?_
      refine Z_go (f2 := (53, [(2, .int (Zi c194)), (1, .int (Zi 1)), (0, .ref o)], [.int (Zi c194), .ref o])) (fun _ => rfl) ?_
      have wf195 := hs.1
      refine C_callV (As := [.int (Zi c194)]) (rest := []) rfl (by decide) rfl (by decide) rfl rfl (by decide +kernel) (Nat.le_of_ble_eq_true rfl) hs hp194.1.1 (C_piece _ hp194 hd194 hz (by omega) (by omega) (c := c194) (by omega) (by omega)) (fun x h v195 n195 hs q => ?_)
      obtain ⟨rfl, rfl, pg195, f195, pl195, a195, β195, hp195, hd195, ga195, gb195, hb195, sy195⟩ := q
      have pf195 := pf194.tr pg195
      have hne := hp195.ne hd195
      obtain ⟨zzf195, zzp195, zza195, _⟩ := hp195.z hs
      show B_R _ _ (56, [(2, .int (Zi c194)), (1, .int (Zi 1)), (0, .ref o)], []) _ _ _
      refine Z_go (f2 := (57, [(2, .int (Zi c194)), (1, .int (Zi 1)), (0, .ref o)], [.int (Zi 0)])) (fun _ => rfl) ?_
      refine Z_go (f2 := (58, [(3, .int (Zi 0)), (2, .int (Zi c194)), (1, .int (Zi 1)), (0, .ref o)], [])) (fun _ => rfl) ?_
      obtain ⟨ec, es⟩ := hc194 hs8
      subst ec
      rw [es] at hd195
      have hR0 : P_list S (fo ≠ 0) (a + 1) = (match P_items S 82 true (a + 1 + 1) (fun _ => False) with
          | .inl (k, w) => .inl (k, w)
          | .inr (B, b) => .inr ((if (1 : Int) = 1 then fun x => ¬ P_fold (fo ≠ 0) B x else P_fold (fo ≠ 0) B), b)) := by
        unfold P_list
        rw [if_pos (by omega)]
        cases P_items S 82 true (a + 1 + 1) (fun _ => False) using P_R_el with
        | bad k w => rfl
        | ok B b => rfl
      have hE : ((match P_list S (fo ≠ 0) (a + 1) with | .inl (k, w) => .inl (k, w) | .inr (B, b) => .inr (.inr B, b)) : P_R P_A) = ((match P_items S 82 true (a + 1 + 1) (fun _ => False) with | .inl q => .inl q | .inr (B, b) => .inr (.inr (if (1 : Int) = 1 then fun x => ¬ P_fold (fo ≠ 0) B x else P_fold (fo ≠ 0) B), b)) : P_R P_A) := by
        rw [hR0]
        cases P_items S 82 true (a + 1 + 1) (fun _ => False) using P_R_el with
        | bad k w => rfl
        | ok B b => rfl
      rw [hE]
      have hR : P_items S 82 true (a + 1 + 1) (fun _ => False) = _ := P_items_on (t := 81) (.inl rfl)
      have ho2 : ∀ d j, 0 ≤ d → d < c194 → 0 ≤ j → j ≤ 255 → (T_has β195 d j ↔ T_has β d j) := fun d j d0 d1 j0 j1 => (hb195 d j d0 (by omega) j0 j1).trans (by rw [hb194]; exact ⟨fun h => h.1, fun h => ⟨h, by omega⟩⟩)
      refine B_loc (K := [(3, .int (Zi 0)), (2, .int (Zi c194)), (1, .int (Zi 1)), (0, .ref o)]) (N_all_sub ⟨rfl, rfl, rfl, rfl, trivial⟩) (show ([3, 2, 1, 0] : List Nat).Nodup by decide) ?_
      by_cases hF : f195 = 0
      · obtain ⟨C, b, eC, e1, e2, e3, e4⟩ := P_say.good sy195 hF
        rw [eC] at hR
        exact C_cls_lp a0 hm hm0 hs8 hsm0 (by omega) nn1 200 81 0 f195 pl195 a195 1 β195 _ v195 h (by omega) (.inl ⟨hF, rfl⟩) hs hp195 hd195 hz pf195 (by omega) (by omega) (by omega) ho2 (.inr ⟨hF, by omega, by omega, by rw [hR, e1], by omega, fun j j0 j1 => by rw [e4 j j0 j1, hb194]; exact ⟨fun h => h.elim (fun h => absurd rfl h.2) .inr, fun h => h.elim False.elim .inr⟩⟩)
      · have hR2 := P_say.bad sy195 hF
        rw [hR2] at hR
        exact C_cls_lp a0 hm hm0 hs8 hsm0 (by omega) nn1 200 81 0 f195 pl195 a195 0 β195 (fun _ => False) v195 h (by omega) (.inr ⟨hF, rfl⟩) hs hp195 hd195 hz pf195 (by omega) (by omega) (by omega) ho2 (.inl ⟨hF, hR⟩)
