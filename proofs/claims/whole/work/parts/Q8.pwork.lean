/-! what the class works out is what is planned, purely -/
theorem F_E.anti {F : P_X} (h : F_E F) : ∀ x y, F x → F y → L_le x y → x = y := fun x y hx hy hle => h.elim (fun q => absurd hx (q x)) (fun q => q.2.2.1 x y hx hy hle)
theorem J_ok {v w : P_V} {x y : Int} {B : Nat} (hv : V_ok v x) (hw : V_ok w y) (x8 : x ≤ 80) (y8 : y ≤ 80) (B0 : 1280 ≤ B) : (∀ a b, V_C v a → V_C v b → L_le a b → a = b) ∧ (∀ a b, F_both (V_C v) (V_C w) a → F_both (V_C v) (V_C w) b → L_le a b → a = b) ∧ (∀ a b, V_C v a → V_C w b → 2 * (a.length + b.length) ≤ B) ∧ ∀ z, F_both (V_C v) (V_C w) z → 2 * (z.length + 2) ≤ B := by
  obtain ⟨c1, c2⟩ := hv.cl
  obtain ⟨d1, d2⟩ := hw.cl
  obtain ⟨e1, e2⟩ := F_both_E c1 d1 c2 d2
  exact ⟨c1.anti, e1.anti, fun a b ha hb => by have := c2 a ha; have := d2 b hb; omega, fun z hz => by have := e2 z hz; omega⟩
def E_lq (pre : List Int → List Int → Prop) : Prop := ∀ u t, pre u t → u.length ≤ t.length ∧ (u.length = t.length → u = t)
theorem S_min_ne {pre : List Int → List Int → Prop} (hp : E_lq pre) {H : P_X} (h : ∃ x, H x) : ∃ x, S_min pre H x := by
  have key : ∀ n : Nat, ∀ x, H x → x.length ≤ n → ∃ x, S_min pre H x := by
    intro n
    induction n with
    | zero =>
      intro x hx hl
      refine ⟨x, hx, fun y hy hyx => ?_⟩
      have := hp y x hyx
      exact this.2 (by omega)
    | succ n ih =>
      intro x hx hl
      by_cases c : ∃ y, H y ∧ y.length ≤ n
      · obtain ⟨y, hy, hyl⟩ := c
        exact ih y hy hyl
      · refine ⟨x, hx, fun y hy hyx => ?_⟩
        have h1 := hp y x hyx
        have h2 : ¬ y.length ≤ n := fun e => c ⟨y, hy, e⟩
        exact h1.2 (by omega)
  obtain ⟨x, hx⟩ := h
  exact key x.length x hx (Nat.le_refl _)
theorem E_bnd_ne {pre : List Int → List Int → Prop} {sh : List Int → List Int} (hp : E_lq pre) {H : P_X} (h : ∃ x, H x) : ∃ x, E_bnd pre sh H x := by
  obtain ⟨x, hx⟩ := S_min_ne hp h
  unfold E_bnd
  by_cases c : S_card (S_min pre H) 12
  · rw [c_pos c]; exact ⟨x, hx⟩
  · rw [c_neg c]
    by_cases c2 : S_card (S_min pre (fun y => ∃ x, S_min pre H x ∧ y = sh x)) 12
    · rw [c_pos c2]; exact S_min_ne hp ⟨sh x, x, hx, rfl⟩
    · rw [c_neg c2]; exact ⟨[], rfl⟩
theorem E_hs_ne {H : P_X} (h : ∃ x, H x) : ∃ x, E_hs H x := E_bnd_ne (fun u t k => ⟨k.length_le, k.eq_of_length⟩) h
theorem F_least_none {F : P_X} (h : ∀ x, ¬ F x) : ∀ x, ¬ F_least F x := by
  have hm : ∀ x, ¬ F_min F x := fun x q => h x q.1
  unfold F_least
  rw [c_pos ⟨[], Nat.zero_le _, fun x q => absurd q (hm x)⟩]
  exact hm
/-- without heads there are no choices -/
def V_ze (v : P_V) : Prop := (∀ x, ¬ V_H v x) → ∀ c, ¬ V_C v c
theorem V_ze_x (A : P_X) : V_ze (.inl A) := fun h => by
  have hA : ∀ t, ¬ A t := fun t ht => by
    obtain ⟨x, hx⟩ := E_hs_ne (H := F_im E_hd A) ⟨_, t, ht, rfl⟩
    exact h x hx
  exact F_least_none (fun x ⟨t, ht, _⟩ => hA t ht)
theorem V_ze_shut : V_ze V_shut := fun h => absurd rfl (h [])
theorem V_ze_open {v : P_V} (h : V_ze v) : V_ze (V_open v) := fun q => h q
theorem V_ze_beh2 {v w : P_V} (hv : V_ze v) (hw : V_ze w) : V_ze (V_beh2 v w) := fun h c => by
  have key : (∀ c, ¬ V_C v c) ∨ ∀ c, ¬ V_C w c := by
    match v, hv, h with
    | .inl A, hv, h =>
      by_cases ca : ∃ t, A t
      · right
        obtain ⟨t, ht⟩ := ca
        refine hw (fun x hx => ?_)
        obtain ⟨y, hy⟩ := E_hs_ne (H := F_im2 (fun t h => E_hd (t ++ h)) A (V_H w)) ⟨_, t, x, ht, hx, rfl⟩
        exact h y hy
      · left
        exact F_least_none (fun x ⟨t, ht, _⟩ => ca ⟨t, ht⟩)
    | .inr q, hv, h => exact .inl (hv h)
  have k2 : ∀ c, ¬ F_both (V_C v) (V_C w) c := key.elim F_both_n1 F_both_n2
  have k3 : ∀ c, ¬ F_both (F_both (V_C v) (V_C w)) (F_least (F_im2 (fun t h => L_gr (t ++ h)) (V_T v) (V_H w))) c := F_both_n1 k2
  exact k3 c
theorem V_ze_beh {v w : P_V} (hv : V_ze v) (hw : V_ze w) : V_ze (V_beh v w) := by
  rcases V_beh_or v w with e | ⟨Q, e⟩
  · rw [e]; exact V_ze_beh2 hv hw
  · rw [e]; exact V_ze_x Q
theorem V_ze_or2 {v w : P_V} (hv : V_ze v) (hw : V_ze w) : V_ze (V_or2 v w) := fun h => by
  have h1 : ∀ x, ¬ F_or (V_H v) (V_H w) x := fun x hx => by
    obtain ⟨y, hy⟩ := E_hs_ne (H := F_or (V_H v) (V_H w)) ⟨x, hx⟩
    exact h y hy
  have a := hv (fun x hx => h1 x (.inl hx))
  have b := hw (fun x hx => h1 x (.inr hx))
  exact F_least_none (F := F_or (V_C v) (V_C w)) (fun x hx => hx.elim (a x) (b x))
theorem V_ze_or {v w : P_V} (hv : V_ze v) (hw : V_ze w) : V_ze (V_or v w) := by
  match v, w, hv, hw with
  | .inl A, .inl Q, hv, hw =>
    show V_ze (c_if _ _ _)
    by_cases c : F_fit (F_or A Q)
    · rw [c_pos c]; exact V_ze_x _
    · rw [c_neg c]; exact V_ze_or2 hv hw
  | .inr q, .inl Q, hv, hw => exact V_ze_or2 hv hw
  | .inl A, .inr q, hv, hw => exact V_ze_or2 hv hw
  | .inr q, .inr q2, hv, hw => exact V_ze_or2 hv hw
theorem V_ze_rep {v w : P_V} (hv : V_ze v) (hw : V_ze w) : ∀ n, V_ze (V_rep v w n)
  | 0 => hv
  | n + 1 => V_ze_beh (V_ze_rep hv hw n) hw
theorem V_ze_may {v : P_V} (hv : V_ze v) : V_ze (V_may v) := V_ze_or hv (V_ze_x _)
theorem V_ze_cnt {v : P_V} (hv : V_ze v) (op lo hi : Int) : V_ze (V_cnt v op lo hi) := by
  unfold V_cnt
  split
  · exact V_ze_shut
  · split
    · exact V_ze_open hv
    · split
      · exact V_ze_may hv
      · unfold V_times
        split
        · split
          · exact V_ze_shut
          · exact V_ze_beh (V_ze_rep (V_ze_x _) hv _) (V_ze_open hv)
        · exact V_ze_rep (V_ze_rep (V_ze_x _) hv _) (V_ze_may hv) _
theorem V_ze_plan {t : P_T} (h : T_is t) : V_ze (P_plan t) := by
  refine T_ind (P := fun t => V_ze (P_plan t)) h (V_ze_x _) (fun A hA => ?_) (fun l r h1 h2 p1 p2 => ?_) (fun l r h1 h2 p1 p2 => ?_) (fun t op lo hi hc h1 p1 => ?_)
  · rw [P_plan_atm hA]
    cases A with
    | inl k => exact V_ze_x _
    | inr Q =>
      show V_ze (V_set Q)
      unfold V_set
      by_cases c : S_card (fun b => Q b ∧ 0 ≤ b ∧ b < 256) 8
      · rw [c_pos c]; exact V_ze_x _
      · rw [c_neg c]; exact V_ze_shut
  · rw [P_plan_beh h1 h2]; exact V_ze_beh p1 p2
  · rw [P_plan_or h1 h2]; exact V_ze_or p1 p2
  · rw [P_plan_cnt hc h1]; exact V_ze_cnt p1 op lo hi
theorem V_T_nil : V_T V_nil = F_one [] := by
  show E_ts (F_im E_tl (F_one [])) = F_one []
  rw [F_im_one]
  exact E_bnd_one _ _ _
theorem F_both_1 {E : P_X} (h : F_G E) : F_both E (F_one []) = E := by
  have e : F_un E (F_one []) = E := funext (fun z => propext ⟨fun ⟨x, y, hx, hy, e⟩ => by rw [show y = [] from hy, L_un_nl (h.1 x hx)] at e; rw [e]; exact hx, fun hz => ⟨z, [], hz, rfl, (L_un_nl (h.1 z hz)).symm⟩⟩)
  have c : S_card (F_min (F_un E (F_one []))) 24 := by rw [e, F_min_G h]; exact h.2.2.2
  unfold F_both
  rw [c_pos c, e, F_min_G h]
/-- nothing ahead changes nothing -/
theorem V_beh_nil {w : P_V} {b : Int} (hw : V_ok w b) (hf : V_fix w) (hz : V_ze w) : V_beh V_nil w = w := by
  match w, hw, hf, hz with
  | .inl Q, hw, _, _ =>
    have e : F_im2 (fun a b => a ++ b) (F_one []) Q = Q := funext (fun z => propext ⟨fun ⟨x, y, hx, hy, e⟩ => by rw [show x = [] from hx] at e; rw [e]; exact hy, fun hz => ⟨[], z, rfl, hz, rfl⟩⟩)
    show c_if (F_fit (F_im2 (fun a b => a ++ b) (F_one []) Q)) (Sum.inl (F_im2 (fun a b => a ++ b) (F_one []) Q) : P_V) (V_beh2 V_nil (.inl Q)) = .inl Q
    rw [e, c_pos hw.2.2.1]
  | .inr q, hw, hf, hz =>
    have hl := hw.2.1
    have e1 : F_im2 (fun t h => E_hd (t ++ h)) (F_one []) q.1 = q.1 := funext (fun z => propext ⟨fun ⟨x, y, hx, hy, e⟩ => by
      rw [show x = [] from hx] at e
      rw [e]
      show q.1 (E_hd y)
      rw [E_hd_s (hl y hy)]
      exact hy, fun hz => ⟨[], z, rfl, hz, (E_hd_s (hl z hz)).symm⟩⟩)
    have e2 : E_hs q.1 = q.1 := V_H_fix hf
    have e3 : F_both (F_both (V_C V_nil) q.2.2) (F_least (F_im2 (fun t h => L_gr (t ++ h)) (V_T V_nil) q.1)) = q.2.2 := by
      rw [V_C_nil, V_T_nil]
      rcases hw.2.2.2.1 with hE | hE
      · have := F_both_n1 (Q := F_least (F_im2 (fun t h => L_gr (t ++ h)) (F_one []) q.1)) (F_both_n2 (P := F_one []) hE)
        rw [F_E_none this, F_E_none hE]
      · rw [F_both_0 hE]
        by_cases c : ∃ x, q.1 x
        · have e4 : F_im2 (fun t h => L_gr (t ++ h)) (F_one []) q.1 = F_one [] := funext (fun z => propext ⟨fun ⟨x, y, hx, hy, e⟩ => by
            rw [show x = [] from hx] at e
            rw [e]
            show L_gr y = []
            have := hl y hy
            match y, this with
            | [], _ => rfl
            | [_], _ => rfl
            | [_, _], _ => rfl, fun hz => by
            obtain ⟨x, hx⟩ := c
            refine ⟨[], x, rfl, hx, ?_⟩
            rw [show z = [] from hz]
            have := hl x hx
            match x, this with
            | [], _ => rfl
            | [_], _ => rfl
            | [_, _], _ => rfl⟩)
          rw [e4, show F_least (F_one []) = F_one [] from F_least_G (F_G_one (x := []) trivial), F_both_1 hE]
        · have := hz (fun x hx => c ⟨x, hx⟩)
          exact absurd hE.2.1 (fun ⟨x, hx⟩ => this x hx)
    show (.inr (E_hs (F_im2 (fun t h => E_hd (t ++ h)) (F_one []) q.1), q.2.1, F_both (F_both (V_C V_nil) q.2.2) (F_least (F_im2 (fun t h => L_gr (t ++ h)) (V_T V_nil) q.1))) : P_V) = _
    rw [e1, e2, e3]
/-- a count, as the class goes about it -/
theorem V_cnt_c {v : P_V} {b : Int} (hv : V_ok v b) (hf : V_fix v) (hz : V_ze v) {op lo hi : Int} (hc : T_cok op lo hi) : V_cnt v op lo hi = if (N_lh op lo hi).1 = 0 ∧ (N_lh op lo hi).2 = -1 then V_shut else if (N_lh op lo hi).2 = 0 then V_nil else if (N_lh op lo hi).2 = -1 then V_beh (V_rep V_nil v ((N_lh op lo hi).1 - 1).toNat) (V_open v) else V_rep (V_rep V_nil v (N_lh op lo hi).1.toNat) (V_may v) ((N_lh op lo hi).2 - (N_lh op lo hi).1).toNat := by
  rcases hc with ⟨rfl | rfl | rfl, h2, h3⟩ | ⟨rfl, h2, h3, h4⟩
  · rw [N_lh8, if_pos ⟨rfl, rfl⟩]; rfl
  · rw [N_lh9, if_neg (fun e => absurd e.1 (by decide)), if_neg (by decide), if_pos rfl]
    show V_open v = V_beh V_nil (V_open v)
    exact (V_beh_nil (V_ok_open hv) (V_fix_open hf) (V_ze_open hz)).symm
  · rw [N_lh10, if_neg (fun e => absurd e.2 (by decide)), if_neg (by decide), if_neg (by decide)]
    show V_may v = V_beh V_nil (V_may v)
    exact (V_beh_nil (V_may_0 hv).1 (V_fix_or _ _) (V_ze_may hz)).symm
  · rw [N_lh11]
    show V_times v lo hi = _
    unfold V_times
    by_cases c : hi = -1
    · rw [if_pos c]
      by_cases d : lo = 0
      · rw [if_pos d, if_pos ⟨d, c⟩]
      · rw [if_neg d, if_neg (fun e => d e.1), if_neg (fun e => by omega), if_pos c, show (lo - 1).toNat = lo.toNat - 1 by omega]
    · rw [if_neg c, if_neg (fun e => c e.2)]
      by_cases d : hi = 0
      · rw [if_pos d]
        have e1 : lo = 0 := by omega
        rw [d, e1]; rfl
      · rw [if_neg d, if_neg c]
