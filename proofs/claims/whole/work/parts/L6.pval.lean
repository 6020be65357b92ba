/-! how large choices get: all but counts -/
def L_R (n : Nat) (b : Int) : Int := if n ≤ 2 then b else if n = 3 then max b (2 * b - 6) else if n = 4 then max b (2 * b - 4) else 4 * b
theorem L_R_add {i j n : Nat} {x y : Int} (hi : 1 ≤ i) (hj : 1 ≤ j) (h : i + j ≤ n + 1) (x0 : 0 ≤ x) (y0 : 0 ≤ y) : L_R i x + L_R j y ≤ L_R n (x + y) := by
  unfold L_R
  repeat' split
  all_goals omega
theorem L_R_up {n : Nat} {x y : Int} (x0 : 0 ≤ x) (h : x ≤ y) : L_R n x ≤ L_R n y := by
  unfold L_R
  repeat' split
  all_goals omega
theorem L_R_le {n : Nat} {x : Int} (x0 : 0 ≤ x) : L_R n x ≤ 4 * x := by
  unfold L_R
  repeat' split
  all_goals omega
/-- texts, of so many bytes of a regex -/
def X_ex (A : P_X) (b : Int) : Prop := 0 ≤ b ∧ (∀ t, A t → L_byt t) ∧ F_fit A ∧ ∀ n, S_card A n → ∀ t, A t → (L_gam t : Int) ≤ L_R n b
theorem X_ex.le {A : P_X} {b : Int} (h : X_ex A b) {t : List Int} (ht : A t) : (L_gam t : Int) ≤ 4 * b := Int.le_trans (h.2.2.2 8 h.2.2.1.1 t ht) (L_R_le h.1)
theorem X_ex.up {A : P_X} {b c : Int} (h : X_ex A b) (hc : b ≤ c) : X_ex A c := ⟨by have := h.1; omega, h.2.1, h.2.2.1, fun n hn t ht => Int.le_trans (h.2.2.2 n hn t ht) (L_R_up h.1 hc)⟩
theorem X_ex.nil {A : P_X} (h : X_ex A 0) {t : List Int} (ht : A t) : t = [] := by
  have := h.le ht
  unfold L_gam at this
  exact List.length_eq_zero_iff.mp (by omega)
theorem X_ex_nil {b : Int} (b0 : 0 ≤ b) : X_ex (F_one []) b := ⟨b0, fun t ht => by rw [show t = [] from ht]; exact fun x hx => absurd hx List.not_mem_nil, ⟨⟨[[]], by show 1 ≤ 8; decide, fun t ht => by rw [show t = [] from ht]; exact List.mem_cons_self ..⟩, fun t ht => by rw [show t = [] from ht]; exact Nat.zero_le _⟩, fun n hn t ht => by
  rw [show t = [] from ht, L_gam_nil]
  unfold L_R
  repeat' split
  all_goals omega⟩
theorem X_ex_beh {A B : P_X} {x y : Int} (hA : X_ex A x) (hB : X_ex B y) (hf : F_fit (F_im2 (fun a b => a ++ b) A B)) : X_ex (F_im2 (fun a b => a ++ b) A B) (x + y) := by
  refine ⟨by have := hA.1; have := hB.1; omega, ?_, hf, ?_⟩
  · rintro t ⟨a, b, ha, hb, rfl⟩ z hz
    rcases List.mem_append.mp hz with h | h
    · exact hA.2.1 a ha z h
    · exact hB.2.1 b hb z h
  · rintro n hn t ⟨a, b, ha, hb, rfl⟩
    obtain ⟨la, a1, a2, a3⟩ := S_list hA.2.2.1.1
    obtain ⟨lb, b1, b2, b3⟩ := S_list hB.2.2.1.1
    have na : la ≠ [] := fun e => by have := (a2 a).mpr ha; rw [e] at this; cases this
    have nb : lb ≠ [] := fun e => by have := (b2 b).mpr hb; rw [e] at this; cases this
    have hs := F_sum a1 a2 b1 b2 hA.2.1 hB.2.1 na nb hn
    have h1 := hA.2.2.2 la.length ((S_card_of a1 a2 _).mpr (Nat.le_refl _)) a ha
    have h2 := hB.2.2.2 lb.length ((S_card_of b1 b2 _).mpr (Nat.le_refl _)) b hb
    have h3 := L_gam_app a b
    have h4 := L_R_add (List.length_pos_iff.mpr na) (List.length_pos_iff.mpr nb) hs hA.1 hB.1
    show (L_gam (a ++ b) : Int) ≤ _
    omega
theorem X_ex_or {A B : P_X} {x y : Int} (hA : X_ex A x) (hB : X_ex B y) (hf : F_fit (F_or A B)) : X_ex (F_or A B) (x + y + 1) := by
  have a0 := hA.1
  have b0 := hB.1
  refine ⟨by omega, fun t ht => ht.elim (hA.2.1 t) (hB.2.1 t), hf, fun n hn t ht => ?_⟩
  rcases ht with h | h
  · exact Int.le_trans (hA.2.2.2 n (S_card_mono (fun x hx => .inl hx) hn) t h) (L_R_up a0 (by omega))
  · exact Int.le_trans (hB.2.2.2 n (S_card_mono (fun x hx => .inr hx) hn) t h) (L_R_up b0 (by omega))
/-- a family, or none -/
def F_E (F : P_X) : Prop := (∀ x, ¬ F x) ∨ F_G F
theorem F_E_none {F : P_X} (h : ∀ x, ¬ F x) : F = fun _ => False := funext (fun x => propext ⟨fun q => h x q, fun q => q.elim⟩)
theorem F_both_none {P Q : P_X} (h : ∀ x, ¬ F_un P Q x) : ∀ x, ¬ F_both P Q x := by
  have hm : ∀ x, ¬ F_min (F_un P Q) x := fun x q => h x q.1
  unfold F_both
  rw [c_pos ⟨[], Nat.zero_le _, fun x q => absurd q (hm x)⟩]
  exact hm
theorem F_both_n1 {P Q : P_X} (h : ∀ x, ¬ P x) : ∀ x, ¬ F_both P Q x := F_both_none (fun z ⟨x, _, hx, _⟩ => h x hx)
theorem F_both_n2 {P Q : P_X} (h : ∀ x, ¬ Q x) : ∀ x, ¬ F_both P Q x := F_both_none (fun z ⟨_, y, _, hy, _⟩ => h y hy)
theorem F_both_E {P Q : P_X} (hP : F_E P) (hQ : F_E Q) {a b : Nat} (ha : ∀ x, P x → x.length ≤ a) (hb : ∀ x, Q x → x.length ≤ b) : F_E (F_both P Q) ∧ ∀ z, F_both P Q z → z.length ≤ a + b := by
  rcases hP with h | hP
  · exact ⟨.inl (F_both_n1 h), fun z hz => absurd hz (F_both_n1 h z)⟩
  rcases hQ with h | hQ
  · exact ⟨.inl (F_both_n2 h), fun z hz => absurd hz (F_both_n2 h z)⟩
  exact ⟨.inr (F_both_G hP hQ).1, F_both_len hP hQ ha hb⟩
theorem F_least_E {F : P_X} (hS : F_S F) {a : Nat} (ha : ∀ x, F x → x.length ≤ a) : F_E (F_least F) ∧ ∀ z, F_least F z → z.length ≤ a := by
  by_cases hn : ∃ x, F x
  · unfold F_least
    by_cases c : S_card (F_min F) 24
    · rw [c_pos c]
      exact ⟨.inr (F_G_min hS hn c), fun z hz => ha z hz.1⟩
    · rw [c_neg c]
      have sp := F_core_sp hS hn
      obtain ⟨x, hx⟩ := hn
      refine ⟨.inr (F_G_one sp.1), fun z hz => ?_⟩
      rw [hz]
      exact Nat.le_trans (L_le_len sp.1 (fun y hy => (sp.2 y).mp hy x hx)) (ha x hx)
  · have hm : ∀ x, ¬ F_min F x := fun x q => hn ⟨x, q.1⟩
    unfold F_least
    rw [c_pos ⟨[], Nat.zero_le _, fun x q => absurd q (hm x)⟩]
    exact ⟨.inl hm, fun z hz => absurd hz (hm z)⟩
/-- ends are short -/
theorem E_bnd_len {pre : List Int → List Int → Prop} {sh : List Int → List Int} {H : P_X} {n : Nat} (h : ∀ x, H x → x.length ≤ n) (hsh : ∀ x, (sh x).length ≤ x.length) : ∀ x, E_bnd pre sh H x → x.length ≤ n := by
  intro x hx
  unfold E_bnd at hx
  by_cases c : S_card (S_min pre H) 12
  · rw [c_pos c] at hx; exact h x hx.1
  · rw [c_neg c] at hx
    by_cases c2 : S_card (S_min pre (fun y => ∃ x, S_min pre H x ∧ y = sh x)) 12
    · rw [c_pos c2] at hx
      obtain ⟨⟨y, hy, e⟩, _⟩ := hx
      have := h y hy.1
      have := hsh y
      rw [e]; omega
    · rw [c_neg c2] at hx
      have hx : x = [] := hx
      rw [hx]; exact Nat.zero_le _
theorem E_hs_len {H : P_X} {n : Nat} (h : ∀ x, H x → x.length ≤ n) : ∀ x, E_hs H x → x.length ≤ n := E_bnd_len h (fun x => by show (x.take 1).length ≤ _; rw [List.length_take]; omega)
theorem E_ts_len {H : P_X} {n : Nat} (h : ∀ x, H x → x.length ≤ n) : ∀ x, E_ts H x → x.length ≤ n := E_bnd_len h (fun x => by show (x.drop (x.length - 1)).length ≤ _; rw [List.length_drop]; omega)
theorem E_hd_len (t : List Int) : (E_hd t).length = min 2 t.length := by unfold E_hd; rw [List.length_take]
theorem E_tl_len (t : List Int) : (E_tl t).length = min 2 t.length := by unfold E_tl; rw [List.length_drop]; omega
/-- a value of so many bytes of a regex -/
def V_ok (v : P_V) (b : Int) : Prop := match v with
  | .inl A => X_ex A b
  | .inr q => 1 ≤ b ∧ (∀ x, q.1 x → x.length ≤ 2) ∧ (∀ x, q.2.1 x → x.length ≤ 2) ∧ F_E q.2.2 ∧ ∀ c, q.2.2 c → (c.length : Int) + 2 ≤ 4 * b
theorem V_ok.b0 {v : P_V} {b : Int} (h : V_ok v b) : 0 ≤ b := match v, h with
  | .inl _, h => h.1
  | .inr _, h => by have := h.1; omega
theorem V_ok.up {v : P_V} {b c : Int} (h : V_ok v b) (hc : b ≤ c) : V_ok v c := match v, h with
  | .inl _, h => X_ex.up h hc
  | .inr _, h => ⟨by have := h.1; omega, h.2.1, h.2.2.1, h.2.2.2.1, fun x hx => by have := h.2.2.2.2 x hx; omega⟩
theorem V_ok.hl {v : P_V} {b : Int} (h : V_ok v b) : ∀ x, V_H v x → x.length ≤ (if b = 0 then 0 else 2) := match v, h with
  | .inl A, h => E_hs_len (fun x ⟨t, ht, e⟩ => by
      rw [e, E_hd_len]
      by_cases c : b = 0
      · subst c; rw [h.nil ht, if_pos rfl]; exact Nat.le_refl _
      · rw [if_neg c]; omega)
  | .inr q, h => fun x hx => by rw [if_neg (by have := h.1; omega)]; exact h.2.1 x hx
theorem V_ok.tl {v : P_V} {b : Int} (h : V_ok v b) : ∀ x, V_T v x → x.length ≤ (if b = 0 then 0 else 2) := match v, h with
  | .inl A, h => E_ts_len (fun x ⟨t, ht, e⟩ => by
      rw [e, E_tl_len]
      by_cases c : b = 0
      · subst c; rw [h.nil ht, if_pos rfl]; exact Nat.le_refl _
      · rw [if_neg c]; omega)
  | .inr q, h => fun x hx => by rw [if_neg (by have := h.1; omega)]; exact h.2.2.1 x hx
theorem V_ok.cl {v : P_V} {b : Int} (h : V_ok v b) : F_E (V_C v) ∧ ∀ c, V_C v c → c.length ≤ (4 * b - 2).toNat := match v, h with
  | .inl A, h => F_least_E (fun x ⟨t, _, e⟩ => by rw [e]; exact L_gr_srt t) (fun x ⟨t, ht, e⟩ => by
      have h1 := h.le ht
      have h2 : 2 ≤ t.length ∨ L_gr t = [] := by
        match t with
        | [] => exact .inr rfl
        | [_] => exact .inr rfl
        | _ :: _ :: _ => exact .inl (by simp only [List.length_cons]; omega)
      rw [e]
      rcases h2 with h2 | h2
      · unfold L_gam at h1; omega
      · rw [h2]; exact Nat.zero_le _)
  | .inr q, h => ⟨h.2.2.2.1, fun c hc => by have := h.2.2.2.2 c hc; omega⟩
/-- the grams across two ends -/
theorem X_crs {T H : P_X} {n : Nat} (h : ∀ t u, T t → H u → t.length + u.length ≤ n + 2) : F_E (F_least (F_im2 (fun t h => L_gr (t ++ h)) T H)) ∧ ∀ z, F_least (F_im2 (fun t h => L_gr (t ++ h)) T H) z → z.length ≤ n := by
  refine F_least_E (fun x ⟨t, u, _, _, e⟩ => by rw [e]; exact L_gr_srt _) (fun x ⟨t, u, ht, hu, e⟩ => ?_)
  have h1 := h t u ht hu
  rw [e]
  have := L_gr_sub (t := t ++ u) (l := (List.range (n)).map (fun i : Nat => L_g3 (t ++ u) i)) (fun x hx => by
    obtain ⟨k, k0, k1, e⟩ := (L_gr_at _ x).mp hx
    rw [List.length_append] at k1
    exact List.mem_map.mpr ⟨k.toNat, List.mem_range.mpr (by omega), by rw [show ((k.toNat : Nat) : Int) = k by omega]; exact e.symm⟩)
  rw [List.length_map, List.length_range] at this
  exact this
theorem V_crs {v w : P_V} {x y : Int} (hv : V_ok v x) (hw : V_ok w y) : F_E (F_least (F_im2 (fun t h => L_gr (t ++ h)) (V_T v) (V_H w))) ∧ ∀ z, F_least (F_im2 (fun t h => L_gr (t ++ h)) (V_T v) (V_H w)) z → z.length ≤ (if x = 0 ∨ y = 0 then 0 else 2) := by
  refine X_crs (fun t u ht hu => ?_)
  have h1 := hv.tl t ht
  have h2 := hw.hl u hu
  repeat' split at *
  all_goals omega
theorem V_ok_beh2 {v w : P_V} {x y : Int} (hv : V_ok v x) (hw : V_ok w y) (hb : 1 ≤ x + y) : V_ok (V_beh2 v w) (x + y) := by
  have x0 := hv.b0
  have y0 := hw.b0
  obtain ⟨c1, c2⟩ := hv.cl
  obtain ⟨c3, c4⟩ := hw.cl
  obtain ⟨c5, c6⟩ := V_crs hv hw
  obtain ⟨d1, d2⟩ := F_both_E c1 c3 c2 c4
  obtain ⟨d3, d4⟩ := F_both_E d1 c5 d2 c6
  have hH : ∀ z, V_H w z → z.length ≤ 2 := fun z hz => by have := hw.hl z hz; split at this <;> omega
  have hT : ∀ z, V_T v z → z.length ≤ 2 := fun z hz => by have := hv.tl z hz; split at this <;> omega
  refine ⟨hb, ?_, ?_, d3, fun c hc => ?_⟩
  · match v, hv with
    | .inl A, hv => exact E_hs_len (fun z ⟨t, h, _, _, e⟩ => by rw [e, E_hd_len]; omega)
    | .inr q, hv => exact hv.2.1
  · match w, hw with
    | .inl A, hw => exact E_ts_len (fun z ⟨t, h, _, _, e⟩ => by rw [e, E_tl_len]; omega)
    | .inr q, hw => exact hw.2.2.1
  · have := d4 c hc
    split at this <;> omega
theorem V_ok_beh {v w : P_V} {x y : Int} (hv : V_ok v x) (hw : V_ok w y) : V_ok (V_beh v w) (x + y) := by
  match v, w, hv, hw with
  | .inl A, .inl B, hv, hw =>
    show V_ok (c_if _ _ _) _
    by_cases c : F_fit (F_im2 (fun a b => a ++ b) A B)
    · rw [c_pos c]; exact X_ex_beh hv hw c
    · rw [c_neg c]
      refine V_ok_beh2 (v := .inl A) (w := .inl B) hv hw ?_
      refine Classical.byContradiction (fun q => c ?_)
      have x0 := hv.1
      have y0 := hw.1
      have ex : x = 0 := by omega
      have ey : y = 0 := by omega
      subst ex
      subst ey
      refine ⟨⟨[[]], by show 1 ≤ 8; decide, ?_⟩, ?_⟩
      · rintro z ⟨a, b, ha, hb, rfl⟩; rw [hv.nil ha, hw.nil hb]; exact List.mem_cons_self ..
      · rintro z ⟨a, b, ha, hb, rfl⟩; rw [hv.nil ha, hw.nil hb]; exact Nat.zero_le _
  | .inl A, .inr q, hv, hw => exact V_ok_beh2 (v := .inl A) (w := .inr q) hv hw (by have := hv.b0; have := hw.1; omega)
  | .inr q, .inl B, hv, hw => exact V_ok_beh2 (v := .inr q) (w := .inl B) hv hw (by have := hw.b0; have := hv.1; omega)
  | .inr q, .inr r, hv, hw => exact V_ok_beh2 (v := .inr q) (w := .inr r) hv hw (by have := hw.1; have := hv.1; omega)
theorem V_ok_or2 {v w : P_V} {x y : Int} (hv : V_ok v x) (hw : V_ok w y) : V_ok (V_or2 v w) (x + y + 1) := by
  have x0 := hv.b0
  have y0 := hw.b0
  obtain ⟨c1, c2⟩ := hv.cl
  obtain ⟨c3, c4⟩ := hw.cl
  have hS : ∀ F : P_X, F_E F → F_S F := fun F h => h.elim (fun q x hx => absurd hx (q x)) (fun q => q.1)
  have hL := F_least_E (F := F_or (V_C v) (V_C w)) (fun z hz => hz.elim (hS _ c1 z) (hS _ c3 z)) (a := (4 * (x + y + 1) - 2).toNat) (fun z hz => by
    rcases hz with h | h
    · have := c2 z h; omega
    · have := c4 z h; omega)
  refine ⟨by omega, E_hs_len (fun z hz => ?_), E_ts_len (fun z hz => ?_), hL.1, fun c hc => by have := hL.2 c hc; omega⟩
  · rcases hz with h | h
    · have := hv.hl z h; split at this <;> omega
    · have := hw.hl z h; split at this <;> omega
  · rcases hz with h | h
    · have := hv.tl z h; split at this <;> omega
    · have := hw.tl z h; split at this <;> omega
theorem V_ok_or {v w : P_V} {x y : Int} (hv : V_ok v x) (hw : V_ok w y) : V_ok (V_or v w) (x + y + 1) := by
  match v, w, hv, hw with
  | .inl A, .inl B, hv, hw =>
    show V_ok (c_if _ _ _) _
    by_cases c : F_fit (F_or A B)
    · rw [c_pos c]; exact X_ex_or hv hw c
    · rw [c_neg c]; exact V_ok_or2 (v := .inl A) (w := .inl B) hv hw
  | .inl A, .inr q, hv, hw => exact V_ok_or2 (v := .inl A) (w := .inr q) hv hw
  | .inr q, .inl B, hv, hw => exact V_ok_or2 (v := .inr q) (w := .inl B) hv hw
  | .inr q, .inr r, hv, hw => exact V_ok_or2 (v := .inr q) (w := .inr r) hv hw
theorem V_ok_nil : V_ok V_nil 0 := X_ex_nil (Int.le_refl 0)
theorem V_ok_shut {b : Int} (hb : 1 ≤ b) : V_ok V_shut b := ⟨hb, fun x hx => by rw [show x = [] from hx]; exact Nat.zero_le _, fun x hx => by rw [show x = [] from hx]; exact Nat.zero_le _, .inr (F_G_one trivial), fun c hc => by rw [show c = [] from hc]; show ((0 : Nat) : Int) + 2 ≤ _; omega⟩
theorem V_ok_open {v : P_V} {b : Int} (h : V_ok v b) : V_ok (V_open v) (b + 1) := by
  have b0 := h.b0
  obtain ⟨c1, c2⟩ := h.cl
  refine ⟨by omega, fun x hx => ?_, fun x hx => ?_, c1, fun c hc => by have := c2 c hc; omega⟩
  · have := h.hl x hx; split at this <;> omega
  · have := h.tl x hx; split at this <;> omega
theorem V_ok_set (B : Int → Prop) : V_ok (V_set B) 1 := by
  unfold V_set
  by_cases c : S_card (fun b => B b ∧ 0 ≤ b ∧ b < 256) 8
  · rw [c_pos c]
    refine ⟨by omega, ?_, ⟨?_, ?_⟩, ?_⟩
    · rintro t ⟨b, _, b0, b1, rfl⟩ z hz
      rw [List.mem_singleton.mp hz]; exact ⟨b0, b1⟩
    · obtain ⟨l, l1, l2⟩ := c
      refine ⟨l.map (fun b => [b]), by rw [List.length_map]; exact l1, ?_⟩
      rintro t ⟨b, h, b0, b1, rfl⟩
      exact List.mem_map.mpr ⟨b, l2 b ⟨h, b0, b1⟩, rfl⟩
    · rintro t ⟨b, _, _, _, rfl⟩; show 1 ≤ 60; decide
    · rintro n hn t ⟨b, _, _, _, rfl⟩
      show ((0 + min 2 1 : Nat) : Int) ≤ L_R n 1
      unfold L_R
      repeat' split
      all_goals omega
  · rw [c_neg c]; exact V_ok_shut (Int.le_refl 1)
