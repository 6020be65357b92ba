/-! how large choices get: the whole plan -/
theorem V_beh_or (u w : P_V) : V_beh u w = V_beh2 u w ∨ ∃ P, V_beh u w = .inl P := by
  match u, w with
  | .inl A, .inl B =>
    show c_if _ _ _ = _ ∨ ∃ P, c_if _ _ _ = _
    by_cases c : F_fit (F_im2 (fun a b => a ++ b) A B)
    · rw [c_pos c]; exact .inr ⟨_, rfl⟩
    · rw [c_neg c]; exact .inl rfl
  | .inl A, .inr q => exact .inl rfl
  | .inr q, .inl B => exact .inl rfl
  | .inr q, .inr r => exact .inl rfl
theorem F_pw_1 (A : P_X) : F_pw A 1 = A := by
  funext z
  refine propext ⟨?_, fun h => ⟨[], z, rfl, h, rfl⟩⟩
  rintro ⟨v, t, hv, ht, e⟩
  rw [show v = [] from hv] at e
  rw [e]
  exact ht
theorem X_pwk {A : P_X} {b0 : Int} (hA : X_ex A b0) (j : Nat) (hf : F_fit (F_pw A j)) : X_ex (F_pw A j) (b0 + 3) ∧ ∀ w, F_pw A j w → (L_gam w : Int) ≤ 4 * b0 + 10 :=
  X_pw hA hf (F_pw_byt hA.2.1 j) (fun w hw => ⟨j, Nat.le_refl _, hw⟩) (fun i i1 hi => F_pw_lc ⟨8, hA.2.2.1.1⟩ hi i1 hA.2.1 j)
theorem V_rep_x {A : P_X} {b0 : Int} (hA : X_ex A b0) : ∀ j, V_ok (V_rep V_nil (.inl A) j) (b0 + 3) ∧ F_E (V_D (V_rep V_nil (.inl A) j) (.inl A)) ∧ ∀ c, V_D (V_rep V_nil (.inl A) j) (.inl A) c → c.length ≤ (4 * b0 + 8).toNat + 2 := by
  have hv : V_ok (.inl A) b0 := hA
  have b00 := hA.1
  obtain ⟨e1, e2⟩ := hv.cl
  have st : (∀ j, V_ok (V_rep V_nil (.inl A) j) (b0 + 3) → F_E (V_D (V_rep V_nil (.inl A) j) (.inl A)) ∧ ∀ c, V_D (V_rep V_nil (.inl A) j) (.inl A) c → c.length ≤ (4 * b0 + 8).toNat + 2) → ∀ j, V_ok (V_rep V_nil (.inl A) j) (b0 + 3) ∧ F_E (V_D (V_rep V_nil (.inl A) j) (.inl A)) ∧ ∀ c, V_D (V_rep V_nil (.inl A) j) (.inl A) c → c.length ≤ (4 * b0 + 8).toNat + 2 := by
    intro hD
    have ok : ∀ j, V_ok (V_rep V_nil (.inl A) j) (b0 + 3) := by
      intro j
      induction j with
      | zero => exact V_ok_nil.up (by omega)
      | succ j ih =>
        rcases V_rep_sh A (j + 1) with ⟨e, hf⟩ | ⟨q, e⟩
        · rw [e]; exact (X_pwk hA (j + 1) hf).1
        · rcases V_beh_or (V_rep V_nil (.inl A) j) (.inl A) with h | ⟨P, h⟩
          · have e3 : V_rep V_nil (.inl A) (j + 1) = V_beh2 (V_rep V_nil (.inl A) j) (.inl A) := h
            rw [e3]
            exact V_ok_b2 ih hv (by omega) (hD j ih).1 (fun c hc => by have := (hD j ih).2 c hc; omega)
          · have e3 : V_rep V_nil (.inl A) (j + 1) = .inl P := h
            rw [e3] at e; cases e
    exact fun j => ⟨ok j, hD j (ok j)⟩
  by_cases hex : ∃ x, A x
  · by_cases hn : A []
    · -- the empty text
      refine st (fun j ok => ?_)
      obtain ⟨c1, c2⟩ := ok.cl
      have hE0 : ∀ x, V_C (.inl A) x → x = [] := F_least_nil (F_im_S A) ⟨[], hn, rfl⟩
      have hH0 : ∀ x, V_H (.inl A) x → x = [] := E_hs_nil ⟨[], hn, rfl⟩
      have hY := X_crs (T := V_T (V_rep V_nil (.inl A) j)) (H := V_H (.inl A)) (n := 0) (fun t u ht hu => by
        have := ok.tl t ht
        rw [hH0 u hu]
        show t.length + 0 ≤ 0 + 2
        split at this <;> omega)
      obtain ⟨d1, d2⟩ := F_both_E (b := 0) c1 e1 c2 (fun x hx => by rw [hE0 x hx]; exact Nat.le_refl _)
      obtain ⟨d3, d4⟩ := F_both_E d1 hY.1 d2 hY.2
      exact ⟨d3, fun c hc => by have := d4 c hc; omega⟩
    · have hne : X_ne A := fun x hx e => hn (by rw [← e]; exact hx)
      have hg : ∀ j, F_fit (F_pw A j) → ∀ w, F_pw A j w → (L_gam w : Int) ≤ 4 * b0 + 10 := fun j hf => (X_pwk hA j hf).2
      have hI : ∀ j, X_I A (4 * b0 + 8).toNat (j + 1) := by
        intro j
        induction j with
        | zero =>
          have hf : F_fit (F_pw A 1) := by rw [F_pw_1]; exact hA.2.2.1
          refine .inl ⟨?_, hf⟩
          exact c_pos (a := (.inl (F_pw A 1) : P_V)) hf
        | succ j ih => exact X_I_s hA hex hne ih (hg (j + 1))
      have hX := X_crs (T := E_ts (X_c2 A)) (H := V_H (.inl A)) (n := 2) (fun t u ht hu => by
        have h1 : t.length ≤ 2 := E_ts_len (fun x ⟨y, z, _, _, e⟩ => by rw [e, E_tl_len]; omega) t ht
        have h2 := hv.hl u hu
        split at h2 <;> omega)
      refine st (fun j _ => ?_)
      cases j with
      | zero =>
        have hY := V_crs V_ok_nil hv
        rw [if_pos (.inl rfl)] at hY
        obtain ⟨c1, c2⟩ := V_ok_nil.cl
        obtain ⟨d1, d2⟩ := F_both_E c1 e1 c2 e2
        obtain ⟨d3, d4⟩ := F_both_E d1 hY.1 d2 hY.2
        exact ⟨d3, fun c hc => by have := d4 c hc; omega⟩
      | succ j =>
        obtain ⟨B, n, hB, e⟩ := X_I_D hA hex hne (hI j) (hg (j + 1))
        rw [e]
        exact F_it_E hB hX.1 hX.2 n
  · have hE : ∀ x, ¬ V_C (.inl A) x := fun x hx => by
      rcases e1 with h | h
      · exact h x hx
      · have hx2 : F_least (F_im L_gr A) x := hx
        rw [F_least_8 hA.2.2.1.1] at hx2
        obtain ⟨⟨t, ht, _⟩, _⟩ := hx2
        exact hex ⟨t, ht⟩
    have hD : ∀ j x, ¬ V_D (V_rep V_nil (.inl A) j) (.inl A) x := fun j => F_both_n1 (F_both_n2 hE)
    exact st (fun j _ => ⟨.inl (hD j), fun c hc => absurd hc (hD j c)⟩)
theorem V_rep_ok {v : P_V} {b0 : Int} (hv : V_ok v b0) : ∀ j, V_ok (V_rep V_nil v j) (b0 + 3) ∧ F_E (V_D (V_rep V_nil v j) v) ∧ ∀ c, V_D (V_rep V_nil v j) v c → c.length ≤ (4 * b0 + 8).toNat + 2 := match v, hv with
  | .inl _, hv => V_rep_x hv
  | .inr _, hv => V_rep_o hv
theorem V_ok_hb {u w : P_V} {x y : Int} (hu : V_ok u x) (hw : V_ok w y) (h : (4 * x - 2).toNat + (4 * y - 2).toNat + 2 ≤ 640) : V_hb u w := by
  obtain ⟨c1, c2⟩ := hu.cl
  obtain ⟨c3, c4⟩ := hw.cl
  obtain ⟨c5, c6⟩ := V_crs hu hw
  obtain ⟨d1, d2⟩ := F_both_E c1 c3 c2 c4
  refine ⟨fun a b ha hb => ?_, fun a b ha hb => ?_⟩
  · have := L_un_len b a; have := c2 a ha; have := c4 b hb; omega
  · have := L_un_len b a; have := d2 a ha; have := c6 b hb
    split at this <;> omega
/-- a value that may be none -/
theorem V_may_0 {v : P_V} {b0 : Int} (hv : V_ok v b0) : V_ok (V_may v) (b0 + 1) ∧ (∀ c, V_C (V_may v) c → c = []) ∧ ∀ c, V_H (V_may v) c → c = [] := by
  have ok : V_ok (V_may v) (b0 + 1) := by
    have := V_ok_or hv V_ok_nil
    rw [show b0 + 0 + 1 = b0 + 1 by omega] at this
    exact this
  have two : (∀ c, V_C (V_or2 v V_nil) c → c = []) ∧ ∀ c, V_H (V_or2 v V_nil) c → c = [] := by
    have hS : F_S (V_C v) := hv.cl.1.elim (fun q x hx => absurd hx (q x)) (fun q => q.1)
    refine ⟨F_least_nil (F := F_or (V_C v) (V_C V_nil)) ?_ (.inr ?_), E_hs_nil (H := F_or (V_H v) (V_H V_nil)) (.inr ?_)⟩
    · rintro x (h | h)
      · exact hS x h
      · rw [V_C_nil] at h; rw [show x = [] from h]; trivial
    · rw [V_C_nil]; rfl
    · rw [V_H_nil]; rfl
  refine ⟨ok, ?_⟩
  match v, two with
  | .inl A, two =>
    show (∀ c, V_C (c_if (F_fit (F_or A (F_one []))) (.inl (F_or A (F_one []))) (V_or2 (.inl A) V_nil)) c → c = []) ∧ ∀ c, V_H (c_if (F_fit (F_or A (F_one []))) (.inl (F_or A (F_one []))) (V_or2 (.inl A) V_nil)) c → c = []
    by_cases c : F_fit (F_or A (F_one []))
    · rw [c_pos c]
      exact ⟨F_least_nil (F_im_S _) ⟨[], .inr rfl, rfl⟩, E_hs_nil ⟨[], .inr rfl, rfl⟩⟩
    · rw [c_neg c]; exact two
  | .inr q, two => exact two
theorem V_may_D {u v : P_V} {b0 x : Int} (hv : V_ok v b0) (hu : V_ok u x) (x1 : 1 ≤ x) : F_E (V_D u (V_may v)) ∧ ∀ c, V_D u (V_may v) c → (c.length : Int) + 2 ≤ 4 * x := by
  obtain ⟨ok, m1, m2⟩ := V_may_0 hv
  obtain ⟨c1, c2⟩ := hu.cl
  have hY := X_crs (T := V_T u) (H := V_H (V_may v)) (n := 0) (fun t w ht hw => by
    have := hu.tl t ht
    rw [m2 w hw]
    show t.length + 0 ≤ 0 + 2
    split at this <;> omega)
  obtain ⟨d1, d2⟩ := F_both_E (b := 0) c1 ok.cl.1 c2 (fun z hz => by rw [m1 z hz]; exact Nat.le_refl _)
  obtain ⟨d3, d4⟩ := F_both_E d1 hY.1 d2 hY.2
  exact ⟨d3, fun c hc => by have := d4 c hc; omega⟩
theorem V_rep_may {v : P_V} {b0 : Int} (hv : V_ok v b0) (lo : Nat) : ∀ i, V_ok (V_rep (V_rep V_nil v lo) (V_may v) i) (b0 + 3) := by
  have b00 := hv.b0
  obtain ⟨mk, _, _⟩ := V_may_0 hv
  have step : ∀ u, V_ok u (b0 + 3) → V_beh u (V_may v) = V_beh2 u (V_may v) → V_ok (V_beh u (V_may v)) (b0 + 3) := by
    intro u hu e
    obtain ⟨q1, q2⟩ := V_may_D hv hu (by omega)
    rw [e]
    exact V_ok_b2 hu mk (by omega) q1 q2
  have h0 := (V_rep_ok hv lo).1
  cases hw : V_may v with
  | inr q =>
    intro i
    induction i with
    | zero => exact h0
    | succ i ih =>
      show V_ok (V_beh (V_rep (V_rep V_nil v lo) (.inr q) i) (.inr q)) (b0 + 3)
      rw [← hw]
      rw [← hw] at ih
      refine step _ ih ?_
      rw [hw]
      cases V_rep (V_rep V_nil v lo) (.inr q) i <;> rfl
  | inl W =>
    obtain ⟨A, eA, eW⟩ : ∃ A, v = .inl A ∧ W = F_or A (F_one []) := by
      match v, hw with
      | .inl A, hw =>
        refine ⟨A, rfl, ?_⟩
        have hw : c_if (F_fit (F_or A (F_one []))) (.inl (F_or A (F_one []))) (V_or2 (.inl A) V_nil) = .inl W := hw
        by_cases c : F_fit (F_or A (F_one []))
        · rw [c_pos c] at hw; injection hw with hw; exact hw.symm
        · rw [c_neg c] at hw; cases hw
      | .inr q, hw => cases hw
    subst eA
    subst eW
    have hA : X_ex A b0 := hv
    have main : ∀ i, V_ok (V_rep (V_rep V_nil (.inl A) lo) (.inl (F_or A (F_one []))) i) (b0 + 3) ∧ ((V_rep (V_rep V_nil (.inl A) lo) (.inl (F_or A (F_one []))) i = .inl (F_pq A lo i)) ∨ ∃ q, V_rep (V_rep V_nil (.inl A) lo) (.inl (F_or A (F_one []))) i = .inr q) := by
      intro i
      induction i with
      | zero =>
        refine ⟨h0, ?_⟩
        rcases V_rep_sh A lo with ⟨e, _⟩ | h
        · exact .inl e
        · exact .inr h
      | succ i ih =>
        obtain ⟨ok, sh⟩ := ih
        have st := step _ ok
        rw [hw] at st
        show V_ok (V_beh (V_rep (V_rep V_nil (.inl A) lo) (.inl (F_or A (F_one []))) i) (.inl (F_or A (F_one [])))) (b0 + 3) ∧ (V_beh (V_rep (V_rep V_nil (.inl A) lo) (.inl (F_or A (F_one []))) i) (.inl (F_or A (F_one []))) = _ ∨ ∃ q, V_beh (V_rep (V_rep V_nil (.inl A) lo) (.inl (F_or A (F_one []))) i) (.inl (F_or A (F_one []))) = .inr q)
        rcases sh with e | ⟨q, e⟩
        · rw [e] at st ⊢
          by_cases c : F_fit (F_pq A lo (i + 1))
          · have e5 : V_beh (.inl (F_pq A lo i)) (.inl (F_or A (F_one []))) = .inl (F_pq A lo (i + 1)) := c_pos c
            rw [e5]
            exact ⟨(X_pw hA c (F_pq_byt hA.2.1 lo (i + 1)) (F_pq_w lo (i + 1)) (fun k k1 hk => F_pq_lc ⟨8, hA.2.2.1.1⟩ hk k1 hA.2.1 lo (i + 1))).1, .inl rfl⟩
          · have e5 : V_beh (.inl (F_pq A lo i)) (.inl (F_or A (F_one []))) = V_beh2 (.inl (F_pq A lo i)) (.inl (F_or A (F_one []))) := c_neg c
            refine ⟨st e5, .inr ⟨_, e5⟩⟩
        · rw [e] at st ⊢
          exact ⟨st rfl, .inr ⟨_, rfl⟩⟩
    exact fun i => (main i).1
theorem V_D_open (u v : P_V) : V_D u (V_open v) = V_D u v := rfl
theorem V_times_ok {v : P_V} {b0 lo hi : Int} (hv : V_ok v b0) : V_ok (V_times v lo hi) (b0 + 3) := by
  have b00 := hv.b0
  unfold V_times
  split
  · split
    · exact V_ok_shut (by omega)
    · obtain ⟨h1, h2, h3⟩ := V_rep_ok hv (lo.toNat - 1)
      have e : V_beh (V_rep V_nil v (lo.toNat - 1)) (V_open v) = V_beh2 (V_rep V_nil v (lo.toNat - 1)) (V_open v) := by
        cases V_rep V_nil v (lo.toNat - 1) <;> rfl
      rw [e]
      exact V_ok_b2 h1 (V_ok_open hv) (by omega) (by rw [V_D_open]; exact h2) (fun c hc => by rw [V_D_open] at hc; have := h3 c hc; omega)
  · exact V_rep_may hv lo.toNat _
theorem V_hbt_ok {v : P_V} {b0 lo hi : Int} (hv : V_ok v b0) (h : b0 + 3 ≤ 80) : V_hbt v lo hi := by
  have b00 := hv.b0
  refine ⟨fun _ _ => ⟨fun i _ => V_ok_hb (V_rep_ok hv i).1 hv (by omega), V_ok_hb (V_rep_ok hv _).1 (V_ok_open hv) (by omega)⟩, fun _ => ⟨fun i _ => V_ok_hb (V_rep_ok hv i).1 hv (by omega), fun i _ => V_ok_hb (V_rep_may hv lo.toNat i) (V_may_0 hv).1 (by omega)⟩⟩
/-- the bound, for every regex of at most 80 bytes -/
theorem P_hb_ok {t : P_T} (h : T_is t) (hb : T_by t ≤ 80) : V_ok (P_plan t) (T_by t) ∧ P_hb t := by
  revert hb
  refine T_ind (P := fun t => T_by t ≤ 80 → V_ok (P_plan t) (T_by t) ∧ P_hb t) h ?_ ?_ ?_ ?_ ?_
  · intro _
    exact ⟨V_ok_nil, P_hb_emp⟩
  · intro A hA _
    rw [P_plan_atm hA, T_by_atm hA]
    refine ⟨?_, P_hb_atm hA⟩
    cases A with
    | inl op => exact V_ok_nil.up (by omega)
    | inr B => exact V_ok_set B
  · intro l r hl hr il ir hb
    rw [T_by_beh hl hr] at hb
    have l0 := T_by_pos hl
    have r0 := T_by_pos hr
    obtain ⟨l1, l2⟩ := il (by omega)
    obtain ⟨r1, r2⟩ := ir (by omega)
    rw [P_plan_beh hl hr, T_by_beh hl hr, P_hb_beh hl hr]
    exact ⟨V_ok_beh l1 r1, l2, r2, V_ok_hb l1 r1 (by omega)⟩
  · intro l r hl hr il ir hb
    rw [T_by_or hl hr] at hb
    have l0 := T_by_pos hl
    have r0 := T_by_pos hr
    obtain ⟨l1, l2⟩ := il (by omega)
    obtain ⟨r1, r2⟩ := ir (by omega)
    rw [P_plan_or hl hr, T_by_or hl hr, P_hb_or hl hr]
    exact ⟨V_ok_or l1 r1, l2, r2⟩
  · intro t op lo hi hc ht it hb
    rw [T_by_cnt hc ht] at hb
    have c1 := C_by_pos op lo hi
    obtain ⟨t1, t2⟩ := it (by omega)
    rw [P_plan_cnt hc ht, T_by_cnt hc ht, P_hb_cnt hc ht]
    have c3 : op = 11 → 3 ≤ C_by op lo hi := fun e => by
      unfold C_by
      rw [if_pos e]
      repeat' split
      all_goals omega
    refine ⟨?_, t2, fun e => V_hbt_ok t1 (by have := c3 e; omega)⟩
    have b0 := t1.b0
    unfold V_cnt
    by_cases e8 : op = 8
    · rw [if_pos e8]; exact V_ok_shut (by omega)
    rw [if_neg e8]
    by_cases e9 : op = 9
    · rw [if_pos e9]; exact (V_ok_open t1).up (by omega)
    rw [if_neg e9]
    by_cases e10 : op = 10
    · rw [if_pos e10]; exact (V_may_0 t1).1.up (by omega)
    rw [if_neg e10]
    have e11 : op = 11 := by
      rcases hc with ⟨h, _⟩ | ⟨h, _⟩
      · omega
      · exact h
    exact (V_times_ok t1).up (by have := c3 e11; omega)
