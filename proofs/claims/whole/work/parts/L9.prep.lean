/-! how large choices get: counts -/
noncomputable def V_D (u v : P_V) : P_X := F_both (F_both (V_C u) (V_C v)) (F_least (F_im2 (fun t h => L_gr (t ++ h)) (V_T u) (V_H v)))
theorem V_ok_b2 {u w : P_V} {x y b : Int} (hu : V_ok u x) (hw : V_ok w y) (hb : 1 ≤ b) (hD : F_E (V_D u w)) (hc : ∀ c, V_D u w c → (c.length : Int) + 2 ≤ 4 * b) : V_ok (V_beh2 u w) b := by
  have hH : ∀ z, V_H w z → z.length ≤ 2 := fun z hz => by have := hw.hl z hz; split at this <;> omega
  have hT : ∀ z, V_T u z → z.length ≤ 2 := fun z hz => by have := hu.tl z hz; split at this <;> omega
  refine ⟨hb, ?_, ?_, hD, hc⟩
  · match u, hu with
    | .inl A, hu => exact E_hs_len (fun z ⟨t, h, _, _, e⟩ => by rw [e, E_hd_len]; omega)
    | .inr q, hu => exact hu.2.1
  · match w, hw with
    | .inl A, hw => exact E_ts_len (fun z ⟨t, h, _, _, e⟩ => by rw [e, E_tl_len]; omega)
    | .inr q, hw => exact hw.2.2.1
theorem F_min_G {F : P_X} (h : F_G F) : F_min F = F := funext (fun x => propext ⟨fun q => q.1, fun q => ⟨q, fun y hy hle => h.2.2.1 y x hy q hle⟩⟩)
theorem F_least_G {F : P_X} (h : F_G F) : F_least F = F := by unfold F_least; rw [F_min_G h, c_pos h.2.2.2]
theorem F_im_one (f : List Int → List Int) (t : List Int) : F_im f (F_one t) = F_one (f t) := funext (fun x => propext ⟨fun ⟨y, hy, e⟩ => by rw [show y = t from hy] at e; exact e, fun h => ⟨t, rfl, h⟩⟩)
theorem V_C_nil : V_C V_nil = F_one [] := by
  show F_least (F_im L_gr (F_one [])) = F_one []
  rw [F_im_one]
  exact F_least_G (F_G_one trivial)
theorem V_H_nil : V_H V_nil = F_one [] := by
  show E_hs (F_im E_hd (F_one [])) = F_one []
  rw [F_im_one]
  exact E_bnd_one _ _ _
theorem F_both_0 {E : P_X} (h : F_G E) : F_both (F_one []) E = E := by
  have e : F_un (F_one []) E = E := funext (fun z => propext ⟨fun ⟨x, y, hx, hy, e⟩ => by rw [show x = [] from hx] at e; rw [e]; exact hy, fun hz => ⟨[], z, rfl, hz, rfl⟩⟩)
  have c : S_card (F_min (F_un (F_one []) E)) 24 := by rw [e, F_min_G h]; exact h.2.2.2
  rw [F_both_a c, e, F_min_G h]
theorem F_bs_self {E : P_X} {M : Nat} (h : F_G E) (hM : ∀ e, E e → e.length ≤ M) : F_bs E M E := .inr ⟨h, h, fun f hf => ⟨f, hf, L_le_rf f⟩, hM, fun e he => Nat.le_trans (L_le_len (L_un_srt (h.1 e he)) (L_le_un (F_core_lb h he) (L_le_rf e))) (hM e he)⟩
/-- an open value, so many times -/
theorem V_rep_o {q : P_X × P_X × P_X} {b0 : Int} (hv : V_ok (.inr q) b0) : ∀ j, V_ok (V_rep V_nil (.inr q) j) (b0 + 3) ∧ F_E (V_D (V_rep V_nil (.inr q) j) (.inr q)) ∧ ∀ c, V_D (V_rep V_nil (.inr q) j) (.inr q) c → c.length ≤ (4 * b0 + 8).toNat + 2 := by
  have b1 := hv.1
  obtain ⟨e1, e2⟩ := hv.cl
  have hX := X_crs (T := q.2.1) (H := q.1) (n := 2) (fun t u ht hu => by have := hv.2.2.1 t ht; have := hv.2.1 u hu; omega)
  have hY := V_crs V_ok_nil hv
  rw [if_pos (.inl rfl)] at hY
  have hD0 : F_bs q.2.2 (4 * b0 + 8).toNat (V_D V_nil (.inr q)) := by
    show F_bs q.2.2 _ (F_both (F_both (V_C V_nil) q.2.2) (F_least (F_im2 (fun t h => L_gr (t ++ h)) (V_T V_nil) (V_H (.inr q)))))
    rw [V_C_nil]
    rcases e1 with hE | hE
    · exact .inl (F_both_n1 (F_both_n2 hE))
    have hE : F_G q.2.2 := hE
    rw [F_both_0 hE]
    rcases hY.1 with hN | hN
    · exact .inl (F_both_n2 hN)
    · obtain ⟨y, hy⟩ := hN.2.1
      have hy0 : y = [] := List.length_eq_zero_iff.mp (Nat.le_zero.mp (hY.2 y hy))
      rw [F_both_abs hE hN.1 (fun f _ => ⟨y, hy, by rw [hy0]; exact fun z hz => absurd hz List.not_mem_nil⟩)]
      exact F_bs_self hE (fun e he => by have := e2 e he; omega)
  have hit := F_it_E hD0 hX.1 hX.2
  have hD : ∀ j, V_D (V_rep V_nil (.inr q) j) (.inr q) = F_it q.2.2 (F_least (F_im2 (fun t h => L_gr (t ++ h)) q.2.1 q.1)) (V_D V_nil (.inr q)) j := by
    intro j
    induction j with
    | zero => rfl
    | succ j ih =>
      have e : V_rep V_nil (.inr q) (j + 1) = V_beh2 (V_rep V_nil (.inr q) j) (.inr q) := by
        show V_beh (V_rep V_nil (.inr q) j) (.inr q) = _
        cases V_rep V_nil (.inr q) j <;> rfl
      rw [e]
      show F_both (F_both (V_D (V_rep V_nil (.inr q) j) (.inr q)) q.2.2) _ = F_stp _ _ (F_it _ _ _ j)
      rw [ih]
      rfl
  have hok : ∀ j, V_ok (V_rep V_nil (.inr q) j) (b0 + 3) := by
    intro j
    induction j with
    | zero => exact V_ok_nil.up (by omega)
    | succ j ih =>
      have e : V_rep V_nil (.inr q) (j + 1) = V_beh2 (V_rep V_nil (.inr q) j) (.inr q) := by
        show V_beh (V_rep V_nil (.inr q) j) (.inr q) = _
        cases V_rep V_nil (.inr q) j <;> rfl
      rw [e]
      refine V_ok_b2 ih hv (by omega) (by rw [hD]; exact (hit j).1) (fun c hc => ?_)
      rw [hD] at hc
      have := (hit j).2 c hc
      omega
  exact fun j => ⟨hok j, by rw [hD]; exact (hit j).1, fun c hc => by rw [hD] at hc; exact (hit j).2 c hc⟩
/-- texts, so many times: texts, or not -/
theorem V_rep_sh (A : P_X) : ∀ j, (V_rep V_nil (.inl A) j = .inl (F_pw A j) ∧ F_fit (F_pw A j)) ∨ ∃ q, V_rep V_nil (.inl A) j = .inr q := by
  intro j
  induction j with
  | zero => exact .inl ⟨rfl, (X_ex_nil (Int.le_refl 0)).2.2.1⟩
  | succ j ih =>
    show (V_beh (V_rep V_nil (.inl A) j) (.inl A) = _ ∧ _) ∨ ∃ q, V_beh (V_rep V_nil (.inl A) j) (.inl A) = .inr q
    rcases ih with ⟨e, _⟩ | ⟨q, e⟩
    · rw [e]
      show (c_if (F_fit (F_pw A (j + 1))) (.inl (F_pw A (j + 1))) (V_beh2 (.inl (F_pw A j)) (.inl A)) = _ ∧ _) ∨ ∃ q, c_if (F_fit (F_pw A (j + 1))) (.inl (F_pw A (j + 1))) (V_beh2 (.inl (F_pw A j)) (.inl A)) = .inr q
      by_cases c : F_fit (F_pw A (j + 1))
      · rw [c_pos c]; exact .inl ⟨rfl, c⟩
      · rw [c_neg c]; exact .inr ⟨_, rfl⟩
    · rw [e]; exact .inr ⟨_, rfl⟩
theorem F_least_8 {A : P_X} (h : S_card A 8) : F_least (F_im L_gr A) = F_min (F_im L_gr A) := by
  unfold F_least
  exact c_pos (S_card_up (m := 8) (F_card_im (A := A) (g := L_gr) (fun y hy => hy.1) h) (by decide))
theorem F_im_S (A : P_X) : F_S (F_im L_gr A) := fun x ⟨t, _, e⟩ => by rw [e]; exact L_gr_srt t
theorem V_C_G {A : P_X} (h : S_card A 8) (g : ∃ x, A x) : F_G (V_C (.inl A)) := by
  show F_G (F_least (F_im L_gr A))
  rw [F_least_8 h]
  obtain ⟨x, hx⟩ := g
  exact F_G_min (F_im_S A) ⟨_, x, hx, rfl⟩ (S_card_up (m := 8) (F_card_im (A := A) (g := L_gr) (fun y hy => hy.1) h) (by decide))
theorem L_pw_F {A : P_X} {t : List Int} (h : A t) : ∀ k, F_pw A k (L_pw t k)
  | 0 => rfl
  | k + 1 => ⟨_, t, L_pw_F h k, h, rfl⟩
theorem X_gr_M {w : List Int} {b0 : Int} (b00 : 0 ≤ b0) (h : (L_gam w : Int) ≤ 4 * b0 + 10) : (L_gr w).length ≤ (4 * b0 + 8).toNat := by
  have h2 : 2 ≤ w.length ∨ L_gr w = [] := by
    match w with
    | [] => exact .inr rfl
    | [_] => exact .inr rfl
    | _ :: _ :: _ => exact .inl (by simp only [List.length_cons]; omega)
  rcases h2 with h2 | h2
  · unfold L_gam at h; omega
  · rw [h2]; exact Nat.zero_le _
theorem X_bs {A : P_X} {b0 : Int} (hA : X_ex A b0) (hex : ∃ x, A x) {k : Nat} (hf : F_fit (F_pw A (k + 1))) (hg : ∀ w, F_pw A (k + 1) w → (L_gam w : Int) ≤ 4 * b0 + 10) : F_bs (V_C (.inl A)) (4 * b0 + 8).toNat (V_C (.inl (F_pw A (k + 1)))) := by
  have gB := V_C_G hf.1 (F_pw_ex hex (k + 1))
  have gE := V_C_G hA.2.2.1.1 hex
  have eB : V_C (.inl (F_pw A (k + 1))) = F_min (F_im L_gr (F_pw A (k + 1))) := F_least_8 hf.1
  have eE : V_C (.inl A) = F_min (F_im L_gr A) := F_least_8 hA.2.2.1.1
  refine .inr ⟨gB, gE, fun f hB => ?_, fun f hB => ?_, fun e he => ?_⟩
  · rw [eB] at hB
    obtain ⟨⟨w, ⟨v, t, _, ht, e2⟩, e⟩, _⟩ := hB
    obtain ⟨z, hz, hle⟩ := F_below (F_im_S A) (x := L_gr t) ⟨t, ht, rfl⟩
    refine ⟨z, by rw [eE]; exact hz, L_le_tr hle ?_⟩
    rw [e, e2]
    exact L_gr_app_r v t
  · rw [eB] at hB
    obtain ⟨⟨w, hw, e⟩, _⟩ := hB
    rw [e]
    exact X_gr_M hA.1 (hg w hw)
  · have he2 := he
    rw [eE] at he2
    obtain ⟨⟨t, ht, e3⟩, _⟩ := he2
    have hp := L_pw_F ht (k + 1)
    obtain ⟨z, hz, hle⟩ := F_below (F_im_S (F_pw A (k + 1))) (x := L_gr (L_pw t (k + 1))) ⟨_, hp, rfl⟩
    rw [← eB] at hz
    refine Nat.le_trans (L_le_len (L_un_srt (gE.1 e he)) (b := L_gr (L_pw t (k + 1))) (L_le_un (L_le_tr (F_core_lb gB hz) hle) ?_)) (X_gr_M hA.1 (hg _ hp))
    rw [e3]
    exact L_gr_app_r (L_pw t k) t
/-- what is put behind, when texts are so many times -/
def X_I (A : P_X) (M : Nat) (j : Nat) : Prop := (V_rep V_nil (.inl A) j = .inl (F_pw A j) ∧ F_fit (F_pw A j)) ∨ ∃ q, V_rep V_nil (.inl A) j = .inr q ∧ q.2.1 = E_ts (X_c2 A) ∧ ∃ B n, F_bs (V_C (.inl A)) M B ∧ q.2.2 = F_it (V_C (.inl A)) (F_least (F_im2 (fun t h => L_gr (t ++ h)) (E_ts (X_c2 A)) (V_H (.inl A)))) B n
theorem X_I_D {A : P_X} {b0 : Int} (hA : X_ex A b0) (hex : ∃ x, A x) (hne : X_ne A) {j : Nat} (h : X_I A (4 * b0 + 8).toNat (j + 1)) (hg : F_fit (F_pw A (j + 1)) → ∀ w, F_pw A (j + 1) w → (L_gam w : Int) ≤ 4 * b0 + 10) : ∃ B n, F_bs (V_C (.inl A)) (4 * b0 + 8).toNat B ∧ V_D (V_rep V_nil (.inl A) (j + 1)) (.inl A) = F_it (V_C (.inl A)) (F_least (F_im2 (fun t h => L_gr (t ++ h)) (E_ts (X_c2 A)) (V_H (.inl A)))) B n := by
  have c12 : S_card A 12 := S_card_up hA.2.2.1.1 (by decide)
  rcases h with ⟨e, hf⟩ | ⟨q, e, eT, B, n, hB, eC⟩
  · have hbs := X_bs hA hex hf (hg hf)
    rw [e]
    by_cases c : j = 0 ∧ ∃ t, A t ∧ t.length = 1
    · obtain ⟨rfl, t, ht, t1⟩ := c
      have gt : L_gr t = [] := by match t, t1 with | [_], _ => rfl
      have hE0 : ∀ x, V_C (.inl A) x → x = [] := F_least_nil (F_im_S A) ⟨t, ht, gt.symm⟩
      have hC0 : ∀ x, V_C (.inl (F_pw A 1)) x → x = [] := F_least_nil (F_im_S _) ⟨t, ⟨[], t, rfl, ht, rfl⟩, gt.symm⟩
      have gE := V_C_G hA.2.2.1.1 hex
      have gB := V_C_G hf.1 (F_pw_ex hex 1)
      have hv : V_ok (.inl A) b0 := hA
      have hY := X_crs (T := V_T (.inl (F_pw A 1))) (H := V_H (.inl A)) (n := 2) (fun t u ht hu => by
        have h1 : t.length ≤ 2 := E_ts_len (fun x ⟨y, _, e⟩ => by rw [e, E_tl_len]; omega) t ht
        have h2 : u.length ≤ 2 := E_hs_len (fun x ⟨y, _, e⟩ => by rw [e, E_hd_len]; omega) u hu
        omega)
      obtain ⟨d1, d2⟩ := F_both_E (a := 0) (b := 0) (.inr gB) (.inr gE) (fun x hx => by rw [hC0 x hx]; exact Nat.le_refl _) (fun x hx => by rw [hE0 x hx]; exact Nat.le_refl _)
      obtain ⟨d3, d4⟩ := F_both_E d1 hY.1 d2 hY.2
      refine ⟨V_D (.inl (F_pw A 1)) (.inl A), 0, ?_, rfl⟩
      rcases d3 with d3 | d3
      · exact .inl d3
      · refine .inr ⟨d3, gE, fun f _ => ?_, fun f hf => ?_, fun e he => ?_⟩
        · obtain ⟨y, hy⟩ := gE.2.1
          exact ⟨y, hy, by rw [hE0 y hy]; exact fun z hz => absurd hz List.not_mem_nil⟩
        · have := d4 f hf
          have := hA.1
          omega
        · have h1 := F_core_len d3 d4
          have h2 := L_un_len e (F_core (V_D (.inl (F_pw A 1)) (.inl A)))
          rw [hE0 e he] at h2 ⊢
          simp only [List.length_nil] at h2
          have := hA.1
          have h1 : (F_core (V_D (.inl (F_pw A 1)) (.inl A))).length ≤ 0 + 0 + 2 := h1
          omega
    · have eT : V_T (.inl (F_pw A (j + 1))) = E_ts (X_c2 A) := by
        cases j with
        | succ k => exact F_pw_T hne hex c12 k
        | zero =>
          show E_ts (F_im E_tl (F_pw A 1)) = _
          congr 1
          have l2 : ∀ t, A t → 2 ≤ t.length := fun t ht => by
            have := List.length_pos_iff.mpr (hne t ht)
            exact Classical.byContradiction (fun q => c ⟨rfl, t, ht, by omega⟩)
          rw [F_pw_tl]
          obtain ⟨u0, hu0⟩ := hex
          funext z
          refine propext ⟨?_, ?_⟩
          · rintro ⟨t, u, ht, hu, e⟩
            refine ⟨t, u0, ht, hu0, ?_⟩
            rw [e]
            show E_tl (u ++ t) = E_tl (u0 ++ t)
            rw [E_tl_app u (l2 t ht), E_tl_app u0 (l2 t ht)]
          · rintro ⟨t, u, ht, hu, e⟩
            refine ⟨t, [], ht, rfl, ?_⟩
            rw [e]
            show E_tl (u ++ t) = E_tl ([] ++ t)
            rw [E_tl_app u (l2 t ht), E_tl_app [] (l2 t ht)]
      refine ⟨_, 1, hbs, ?_⟩
      unfold V_D
      rw [eT]
      rfl
  · refine ⟨B, n + 1, hB, ?_⟩
    unfold V_D
    rw [e]
    show F_both (F_both q.2.2 _) (F_least (F_im2 _ q.2.1 _)) = _
    rw [eT, eC]
    rfl
theorem X_I_s {A : P_X} {b0 : Int} (hA : X_ex A b0) (hex : ∃ x, A x) (hne : X_ne A) {j : Nat} (h : X_I A (4 * b0 + 8).toNat (j + 1)) (hg : F_fit (F_pw A (j + 1)) → ∀ w, F_pw A (j + 1) w → (L_gam w : Int) ≤ 4 * b0 + 10) : X_I A (4 * b0 + 8).toNat (j + 2) := by
  have c12 : S_card A 12 := S_card_up hA.2.2.1.1 (by decide)
  obtain ⟨B, n, hB, hD⟩ := X_I_D hA hex hne h hg
  unfold X_I
  show (V_beh (V_rep V_nil (.inl A) (j + 1)) (.inl A) = _ ∧ _) ∨ ∃ q, V_beh (V_rep V_nil (.inl A) (j + 1)) (.inl A) = .inr q ∧ _
  rcases h with ⟨e, hf⟩ | ⟨q, e, eT, _, _, _, _⟩
  · rw [e] at hD ⊢
    show (c_if (F_fit (F_pw A (j + 2))) (.inl (F_pw A (j + 2))) (V_beh2 (.inl (F_pw A (j + 1))) (.inl A)) = _ ∧ _) ∨ ∃ q, c_if (F_fit (F_pw A (j + 2))) (.inl (F_pw A (j + 2))) (V_beh2 (.inl (F_pw A (j + 1))) (.inl A)) = .inr q ∧ _
    by_cases c : F_fit (F_pw A (j + 2))
    · rw [c_pos c]; exact .inl ⟨rfl, c⟩
    · rw [c_neg c]
      refine .inr ⟨_, rfl, ?_, B, n, hB, hD⟩
      have h1 := V_T_lb (F_pw_ne hne j) (S_card_up hf.1 (by decide))
      rw [F_pw_lb hne hex j] at h1
      exact congrArg E_ts (X_c2_st hne hex c12 h1.1 h1.2).1
  · rw [e] at hD ⊢
    refine .inr ⟨_, rfl, ?_, B, n, hB, hD⟩
    have h1 := X_c2_st hne hex c12 hne rfl
    show E_ts (X_cd A q.2.1) = _
    rw [eT]
    exact congrArg E_ts (X_c2_st hne hex c12 h1.2.1 h1.2.2).1
