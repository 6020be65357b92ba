/-! how large choices get: the tails of counts -/
def L_la (t : List Int) : List Int := t.drop (t.length - 1)
theorem L_drop_app : ∀ (c y : List Int) (n : Nat), (c ++ y).drop (c.length + n) = y.drop n
  | [], y, n => by rw [List.length_nil, Nat.zero_add, List.nil_append]
  | x :: c, y, n => by
    rw [List.length_cons, show c.length + 1 + n = (c.length + n) + 1 by omega]
    exact L_drop_app c y n
theorem L_la_app (c : List Int) {y : List Int} (h : y ≠ []) : L_la (c ++ y) = L_la y := by
  have := List.length_pos_iff.mpr h
  unfold L_la
  rw [List.length_append, show c.length + y.length - 1 = c.length + (y.length - 1) by omega, L_drop_app]
theorem E_tl_app (c : List Int) {y : List Int} (h : 2 ≤ y.length) : E_tl (c ++ y) = E_tl y := by
  unfold E_tl
  rw [List.length_append, show c.length + y.length - 2 = c.length + (y.length - 2) by omega, L_drop_app]
theorem L_la_len {t : List Int} (h : t ≠ []) : (L_la t).length = 1 := by
  have := List.length_pos_iff.mpr h
  unfold L_la
  rw [List.length_drop]
  omega
theorem E_tl_la {u t : List Int} (hu : u ≠ []) (ht : t ≠ []) : E_tl (u ++ t) = E_tl (L_la u ++ t) := by
  have h1 := L_la_len hu
  have h2 := List.length_pos_iff.mpr ht
  have e : u ++ t = u.take (u.length - 1) ++ (L_la u ++ t) := by
    unfold L_la
    rw [← List.append_assoc, List.take_append_drop]
  rw [e]
  exact E_tl_app _ (by rw [List.length_append]; omega)
def X_lb (S : P_X) : P_X := F_im L_la S
def X_ne (S : P_X) : Prop := ∀ x, S x → x ≠ []
def X_cd (A S : P_X) : P_X := F_im2 (fun t u => E_tl (u ++ t)) A S
theorem X_cd_eq {A S R : P_X} (hA : X_ne A) (hS : X_ne S) (hR : X_ne R) (h : X_lb S = X_lb R) : X_cd A S = X_cd A R := by
  have one : ∀ (S R : P_X), X_ne S → X_ne R → X_lb S = X_lb R → ∀ z, X_cd A S z → X_cd A R z := by
    rintro S R hS hR h z ⟨t, u, ht, hu, e⟩
    have h1 : X_lb R (L_la u) := by rw [← h]; exact ⟨u, hu, rfl⟩
    obtain ⟨w, hw, e2⟩ := h1
    refine ⟨t, w, ht, hw, ?_⟩
    rw [e]
    show E_tl (u ++ t) = E_tl (w ++ t)
    rw [E_tl_la (hS u hu) (hA t ht), E_tl_la (hR w hw) (hA t ht), e2]
  funext z
  exact propext ⟨one S R hS hR h z, one R S hR hS h.symm z⟩
theorem S_suf_below {S : P_X} : ∀ (n : Nat) (x : List Int), x.length ≤ n → S x → ∃ y, S_min (fun a b => a <:+ b) S y ∧ y <:+ x := by
  intro n
  induction n with
  | zero =>
    intro x hx hS
    have e : x = [] := List.length_eq_zero_iff.mp (by omega)
    subst e
    exact ⟨[], ⟨hS, fun y _ hle => List.suffix_nil.mp hle⟩, List.suffix_refl _⟩
  | succ n ih =>
    intro x hx hS
    by_cases c : S_min (fun a b => a <:+ b) S x
    · exact ⟨x, c, List.suffix_refl _⟩
    · have : ∃ y, S y ∧ y <:+ x ∧ y ≠ x := Classical.byContradiction (fun q => c ⟨hS, fun y hy hle => Classical.byContradiction (fun e => q ⟨y, hy, hle, e⟩)⟩)
      obtain ⟨y, hy, hle, hne⟩ := this
      have hl : y.length < x.length := Nat.lt_of_le_of_ne hle.length_le (fun e => hne (hle.eq_of_length e))
      obtain ⟨w, hw, hle2⟩ := ih y (by omega) hy
      exact ⟨w, hw, hle2.trans hle⟩
theorem L_la_suf {a b : List Int} (h : a <:+ b) (ha : a ≠ []) : L_la a = L_la b := by
  obtain ⟨c, e⟩ := h
  rw [← e, L_la_app c ha]
theorem L_la_one {a : List Int} (h : a.length = 1) : L_la a = a := by
  unfold L_la
  rw [h]
  rfl
/-- last bytes stay -/
theorem E_ts_lb {S : P_X} (hS : X_ne S) (hc : S_card (X_lb S) 12) : X_lb (E_ts S) = X_lb S ∧ X_ne (E_ts S) := by
  have hm : X_lb (S_min (fun a b => a <:+ b) S) = X_lb S := by
    funext z
    refine propext ⟨fun ⟨x, hx, e⟩ => ⟨x, hx.1, e⟩, fun ⟨x, hx, e⟩ => ?_⟩
    obtain ⟨y, hy, hle⟩ := S_suf_below x.length x (Nat.le_refl _) hx
    exact ⟨y, hy, by rw [e, L_la_suf hle (hS y hy.1)]⟩
  unfold E_ts E_bnd
  by_cases c1 : S_card (S_min (fun a b => a <:+ b) S) 12
  · rw [c_pos c1]
    exact ⟨hm, fun x hx => hS x hx.1⟩
  · rw [c_neg c1]
    have h1 : ∀ y, (∃ x, S_min (fun a b => a <:+ b) S x ∧ y = List.drop (x.length - 1) x) → y.length = 1 ∧ X_lb S y := by
      rintro y ⟨x, hx, e⟩
      have e : y = L_la x := e
      refine ⟨by rw [e]; exact L_la_len (hS x hx.1), ?_⟩
      rw [← hm]
      exact ⟨x, hx, e⟩
    have hcc : S_card (S_min (fun a b => a <:+ b) (fun y => ∃ x, S_min (fun a b => a <:+ b) S x ∧ y = List.drop (x.length - 1) x)) 12 := S_card_mono (fun y hy => (h1 y hy.1).2) hc
    rw [c_pos hcc]
    refine ⟨?_, fun x hx e => by have := (h1 x hx.1).1; rw [e] at this; cases this⟩
    funext z
    refine propext ⟨fun ⟨x, hx, e⟩ => ?_, fun hz => ?_⟩
    · obtain ⟨q1, q2⟩ := h1 x hx.1
      rw [e, L_la_one q1]
      exact q2
    · rw [← hm] at hz
      obtain ⟨x, hx, e⟩ := hz
      have hz1 : z.length = 1 := by rw [e]; exact L_la_len (hS x hx.1)
      refine ⟨z, ⟨⟨x, hx, e⟩, fun y hy hle => ?_⟩, (L_la_one hz1).symm⟩
      have := (h1 y hy).1
      exact hle.eq_of_length (by omega)
theorem X_lb_card {A : P_X} {n : Nat} (h : S_card A n) : S_card (X_lb A) n := F_card_im (A := A) (g := L_la) (fun y ⟨x, hx, e⟩ => ⟨x, hx, e⟩) h
theorem F_pw_ne {A : P_X} (hA : X_ne A) (k : Nat) : X_ne (F_pw A (k + 1)) := by
  rintro w ⟨v, t, _, ht, e⟩ h
  rw [e] at h
  exact hA t ht (List.append_eq_nil_iff.mp h).2
theorem F_pw_ex {A : P_X} (h : ∃ x, A x) : ∀ k, ∃ w, F_pw A k w
  | 0 => ⟨[], rfl⟩
  | k + 1 => by
    obtain ⟨x, hx⟩ := h
    obtain ⟨w, hw⟩ := F_pw_ex ⟨x, hx⟩ k
    exact ⟨w ++ x, w, x, hw, hx, rfl⟩
theorem F_pw_lb {A : P_X} (hA : X_ne A) (h : ∃ x, A x) (k : Nat) : X_lb (F_pw A (k + 1)) = X_lb A := by
  funext z
  refine propext ⟨?_, ?_⟩
  · rintro ⟨w, ⟨v, t, _, ht, e⟩, e2⟩
    refine ⟨t, ht, ?_⟩
    rw [e2, e]
    exact L_la_app v (hA t ht)
  · rintro ⟨t, ht, e⟩
    obtain ⟨v, hv⟩ := F_pw_ex h k
    refine ⟨v ++ t, ⟨v, t, hv, ht, rfl⟩, ?_⟩
    rw [e, L_la_app v (hA t ht)]
theorem F_pw_tl (A : P_X) (k : Nat) : F_im E_tl (F_pw A (k + 1)) = X_cd A (F_pw A k) := by
  funext z
  refine propext ⟨?_, ?_⟩
  · rintro ⟨w, ⟨v, t, hv, ht, e⟩, e2⟩; exact ⟨t, v, ht, hv, by rw [e2, e]⟩
  · rintro ⟨t, v, ht, hv, e⟩; exact ⟨v ++ t, ⟨v, t, hv, ht, rfl⟩, e⟩
theorem X_cd_ne {A S : P_X} (hA : X_ne A) : X_ne (X_cd A S) := by
  rintro z ⟨t, u, ht, _, e⟩ h
  have h1 := E_tl_len (u ++ t)
  have h2 := List.length_pos_iff.mpr (hA t ht)
  have h3 : z.length = min 2 (u ++ t).length := by rw [e]; exact h1
  rw [h, List.length_append] at h3
  simp only [List.length_nil] at h3
  omega
theorem L_la_tl {t : List Int} (h : t ≠ []) : L_la (E_tl t) = L_la t := by
  have h1 := List.length_pos_iff.mpr h
  refine L_la_suf ⟨t.take (t.length - 2), ?_⟩ (fun e => ?_)
  · unfold E_tl; exact List.take_append_drop _ _
  · have := E_tl_len t; rw [e] at this; simp only [List.length_nil] at this; omega
theorem X_cd_lb {A S : P_X} (hA : X_ne A) (hS : ∃ x, S x) : X_lb (X_cd A S) = X_lb A := by
  funext z
  refine propext ⟨?_, ?_⟩
  · rintro ⟨w, ⟨t, u, ht, hu, e⟩, e2⟩
    refine ⟨t, ht, ?_⟩
    have hne : u ++ t ≠ [] := fun q => hA t ht (List.append_eq_nil_iff.mp q).2
    rw [e2, e, L_la_tl hne, L_la_app u (hA t ht)]
  · rintro ⟨t, ht, e⟩
    obtain ⟨u, hu⟩ := hS
    have hne : u ++ t ≠ [] := fun q => hA t ht (List.append_eq_nil_iff.mp q).2
    refine ⟨E_tl (u ++ t), ⟨t, u, ht, hu, rfl⟩, ?_⟩
    rw [e, L_la_tl hne, L_la_app u (hA t ht)]
/-- the tails of a count of texts: what they are from two on -/
def X_c2 (A : P_X) : P_X := X_cd A A
theorem X_c2_st {A S : P_X} (hA : X_ne A) (hex : ∃ x, A x) (hc : S_card A 12) (hS : X_ne S) (hl : X_lb S = X_lb A) : X_cd A S = X_c2 A ∧ X_ne (E_ts (X_c2 A)) ∧ X_lb (E_ts (X_c2 A)) = X_lb A := by
  have h1 : X_cd A S = X_c2 A := X_cd_eq hA hS hA hl
  have h2 : X_lb (X_c2 A) = X_lb A := X_cd_lb hA hex
  have h3 := E_ts_lb (X_cd_ne (S := A) hA) (by show S_card (X_lb (X_c2 A)) 12; rw [h2]; exact X_lb_card hc)
  exact ⟨h1, h3.2, h3.1.trans h2⟩
theorem F_pw_T {A : P_X} (hA : X_ne A) (hex : ∃ x, A x) (hc : S_card A 12) (k : Nat) : V_T (.inl (F_pw A (k + 2))) = E_ts (X_c2 A) := by
  show E_ts (F_im E_tl (F_pw A (k + 2))) = _
  rw [F_pw_tl, (X_c2_st hA hex hc (F_pw_ne hA k) (F_pw_lb hA hex k)).1]
/-- the tails of texts -/
theorem V_T_lb {A : P_X} (hA : X_ne A) (hc : S_card A 12) : X_ne (V_T (.inl A)) ∧ X_lb (V_T (.inl A)) = X_lb A := by
  have h1 : X_ne (F_im E_tl A) := by
    rintro z ⟨t, ht, e⟩ h
    have h1 := E_tl_len t
    have h2 := List.length_pos_iff.mpr (hA t ht)
    rw [← e, h] at h1
    simp only [List.length_nil] at h1
    omega
  have h2 : X_lb (F_im E_tl A) = X_lb A := by
    funext z
    refine propext ⟨?_, ?_⟩
    · rintro ⟨w, ⟨t, ht, e⟩, e2⟩; exact ⟨t, ht, by rw [e2, e, L_la_tl (hA t ht)]⟩
    · rintro ⟨t, ht, e⟩; exact ⟨E_tl t, ⟨t, ht, rfl⟩, by rw [e, L_la_tl (hA t ht)]⟩
  have h3 := E_ts_lb h1 (by rw [h2]; exact X_lb_card hc)
  exact ⟨h3.2, h3.1.trans h2⟩
theorem F_least_nil {F : P_X} (hS : F_S F) (h : F []) : ∀ x, F_least F x → x = [] := by
  have hm : ∀ x, F_min F x → x = [] := fun x hx => (hx.2 [] h (fun y hy => absurd hy List.not_mem_nil)).symm
  have hc : S_card (F_min F) 24 := ⟨[[]], by show 1 ≤ 24; decide, fun x hx => by rw [hm x hx]; exact List.mem_cons_self ..⟩
  unfold F_least
  rw [c_pos hc]
  exact hm
theorem E_hs_nil {H : P_X} (h : H []) : ∀ x, E_hs H x → x = [] := by
  have hm : ∀ x, S_min (fun a b => a <+: b) H x → x = [] := fun x hx => (hx.2 [] h (List.nil_prefix)).symm
  have hc : S_card (S_min (fun a b => a <+: b) H) 12 := ⟨[[]], by show 1 ≤ 12; decide, fun x hx => by rw [hm x hx]; exact List.mem_cons_self ..⟩
  unfold E_hs E_bnd
  rw [c_pos hc]
  exact hm
/-- a base of counting -/
def F_bs (E : P_X) (M : Nat) (B : P_X) : Prop := (∀ x, ¬ B x) ∨ F_G B ∧ F_G E ∧ (∀ f, B f → ∃ e, E e ∧ L_le e f) ∧ (∀ f, B f → f.length ≤ M) ∧ ∀ e, E e → (L_un (F_core B) e).length ≤ M
theorem F_it_E {B E X : P_X} {M : Nat} (hB : F_bs E M B) (hX : F_E X) (x2 : ∀ x, X x → x.length ≤ 2) : ∀ n, F_E (F_it E X B n) ∧ ∀ z, F_it E X B n z → z.length ≤ M + 2 := by
  rcases hB with h | ⟨hB, hE, h1, m1, m2⟩
  · have : ∀ n z, ¬ F_it E X B n z := by
      intro n
      induction n with
      | zero => exact h
      | succ n ih => exact F_both_n1 (F_both_n1 ih)
    intro n
    exact ⟨.inl (this n), fun z hz => absurd hz (this n z)⟩
  rcases hX with h | hX
  · intro n
    cases n with
    | zero => exact ⟨.inr hB, fun z hz => by have := m1 z hz; omega⟩
    | succ n =>
      have : ∀ z, ¬ F_it E X B (n + 1) z := F_both_n2 h
      exact ⟨.inl this, fun z hz => absurd hz (this z)⟩
  · intro n
    obtain ⟨q1, q2⟩ := F_it_len hB hE hX h1 m1 m2 x2 n
    exact ⟨.inr q1, q2⟩
