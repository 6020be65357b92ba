/-! a node gets one more below it -/
theorem T_ap_at {τ : Nat → Int → Int} {a i : Int} (ha : 0 ≤ a ∧ a < 168) (hi : 0 ≤ i ∧ i < 168) (hl : T_g τ 2 a = -1 ∨ 0 ≤ T_g τ 2 a ∧ T_g τ 2 a < 168) (f : Nat) (j : Int) : T_ap τ a i f j = if f = 8 ∧ j = a then T_mn (T_gs τ a + T_gs τ i) else if f = 4 ∧ j = i then T_g τ 2 a else if f = 2 ∧ j = a then i else if T_g τ 2 a = -1 then (if f = 1 ∧ j = a then i else τ f j) else (if f = 3 ∧ j = T_g τ 2 a then i else τ f j) := by
  have h8 : ∀ k, T_gs (T_ap1 τ a i) k = T_gs τ k := fun k => by
    have e : ∀ z, T_ap1 τ a i 8 z = τ 8 z := fun z => by
      unfold T_ap1 T_ap0
      by_cases c : T_g τ 2 a = -1
      · rw [if_pos c, T_st_o (.inr (by decide)), T_st_o (.inr (by decide)), T_st_o (.inr (by decide))]
      · rw [if_neg c, T_st_o (.inr (by decide)), T_st_o (.inr (by decide)), T_st_o (.inr (by decide))]
    unfold T_gs T_g
    rw [e]
  unfold T_ap T_gr
  rw [h8, h8, T_st_at]
  by_cases c8 : f = 8 ∧ j = a
  · rw [if_pos ⟨ha, c8⟩, if_pos c8]
  · rw [if_neg (fun e => c8 e.2), if_neg c8]
    unfold T_ap1
    by_cases c : T_g τ 2 a = -1
    · rw [if_pos c, if_pos c, T_st_at]
      unfold T_ap0
      rw [T_st_at, T_st_at]
      by_cases c4 : f = 4 ∧ j = i
      · rw [if_neg (by omega), if_neg (by omega), if_pos ⟨hi, c4⟩, if_pos c4]
      · rw [if_neg c4]
        by_cases c2 : f = 2 ∧ j = a
        · rw [if_neg (by omega), if_pos ⟨ha, c2⟩, if_pos c2]
        · rw [if_neg c2]
          by_cases c1 : f = 1 ∧ j = a
          · rw [if_pos ⟨ha, c1⟩, if_pos c1]
          · rw [if_neg (fun e => c1 e.2), if_neg (fun e => c2 e.2), if_neg (fun e => c4 e.2), if_neg c1]
    · rw [if_neg c, if_neg c, T_st_at]
      unfold T_ap0
      rw [T_st_at, T_st_at]
      have hl2 : 0 ≤ T_g τ 2 a ∧ T_g τ 2 a < 168 := by omega
      by_cases c4 : f = 4 ∧ j = i
      · rw [if_neg (by omega), if_neg (by omega), if_pos ⟨hi, c4⟩, if_pos c4]
      · rw [if_neg c4]
        by_cases c2 : f = 2 ∧ j = a
        · rw [if_neg (by omega), if_pos ⟨ha, c2⟩, if_pos c2]
        · rw [if_neg c2]
          by_cases c1 : f = 3 ∧ j = T_g τ 2 a
          · rw [if_pos ⟨hl2, c1⟩, if_pos c1]
          · rw [if_neg (fun e => c1 e.2), if_neg (fun e => c2 e.2), if_neg (fun e => c4 e.2), if_neg c1]
def N_par (τ : Nat → Int → Int) (H : Int → Int → Prop) (sm : Int) (D k : Nat) (c hi : Int) (L : List (Int × P_T)) : Prop := N_ch τ c L ∧ N_seq (fun a b x t => N_is τ H sm D k a b x t) (c + 1) hi L
theorem N_par.nil {τ : Nat → Int → Int} {H : Int → Int → Prop} {sm : Int} {D k : Nat} {c hi : Int} (h1 : τ 1 c = -1) (h2 : τ 2 c = -1) (h : c + 1 = hi) : N_par τ H sm D k c hi [] := ⟨⟨h1, h2, trivial⟩, h⟩
theorem N_par.keep {τ τ2 : Nat → Int → Int} {H H2 : Int → Int → Prop} {sm sm2 : Int} {D k : Nat} {c hi : Int} {L : List (Int × P_T)} (h : N_par τ H sm D k c hi L) (hf : ∀ f j, c ≤ j → j < hi → f ≠ 8 ∨ j ≠ c → τ2 f j = τ f j) (hH : ∀ c j, 0 ≤ c → c < sm → 0 ≤ j → j ≤ 255 → (H2 c j ↔ H c j)) (hsm : sm ≤ sm2) : N_par τ2 H2 sm2 D k c hi L := by
  obtain ⟨⟨h1, h2, h3⟩, h4⟩ := h
  have hP : ∀ a b x t, N_is τ H sm D k a b x t → a ≤ x ∧ x < b := fun a b x t h => N_is.r h
  have hle := N_seq.le hP h4
  refine ⟨⟨by rw [hf 1 c (by omega) (by omega) (.inl (by decide))]; exact h1, by rw [hf 2 c (by omega) (by omega) (.inl (by decide))]; exact h2, ?_⟩, ?_⟩
  · exact N_lk.keep hP h4 h3 (fun f j j0 j1 => hf f j (by omega) j1 (.inr (by omega)))
  · exact N_seq.keep (w := -1) hP (fun a b x t h g => N_is.keep hH hsm _ _ _ _ _ _ h g) h4 (fun f j j0 j1 _ => hf f j (by omega) j1 (.inr (by omega)))
theorem N_par.app {τ τ2 : Nat → Int → Int} {H H2 : Int → Int → Prop} {sm sm2 : Int} {D k : Nat} {c mid hi x : Int} {t : P_T} {L : List (Int × P_T)} (h : N_par τ H sm D k c mid L) (c0 : 0 ≤ c) (hx : N_is τ2 H2 sm2 D k mid hi x t) (x3 : τ2 3 x = -1) (h1 : hi ≤ 168) (hf : ∀ f j, 0 ≤ j → j < mid → f ≠ 8 ∨ j ≠ c → τ2 f j = τ f j) (hH : ∀ c j, 0 ≤ c → c < sm → 0 ≤ j → j ≤ 255 → (H2 c j ↔ H c j)) (hsm : sm ≤ sm2) : N_par (T_ap τ2 c x) H2 sm2 D k c hi (L ++ [(x, t)]) ∧ (T_ap τ2 c x 0 c = τ2 0 c ∧ T_ap τ2 c x 3 c = τ2 3 c) ∧ T_ap τ2 c x 8 c = T_mn (T_gs τ2 c + T_gs τ2 x) ∧ ∀ f j, 0 ≤ j → j < c → T_ap τ2 c x f j = τ2 f j := by
  have rx := N_is.r hx
  have hP : ∀ a b x t, N_is τ H sm D k a b x t → a ≤ x ∧ x < b := fun a b x t h => N_is.r h
  have hle := N_seq.le hP h.2
  have h2 := h.keep (τ2 := τ2) (fun f j j0 j1 hj => hf f j (by omega) j1 hj) hH hsm
  obtain ⟨⟨q1, q2, q3⟩, q4⟩ := h2
  have hP2 : ∀ a b x t, N_is τ2 H2 sm2 D k a b x t → a ≤ x ∧ x < b := fun a b x t h => N_is.r h
  have la : T_g τ2 2 c = N_la (-1) L := by
    unfold T_g
    rw [if_pos ⟨by omega, by omega⟩, q2]
  have lr : N_la (-1) L = -1 ∧ L = [] ∨ c + 1 ≤ N_la (-1) L ∧ N_la (-1) L < mid := N_seq.la hP2 q4
  have AT := T_ap_at (τ := τ2) (a := c) (i := x) ⟨c0, by omega⟩ ⟨by omega, by omega⟩ (by rw [la]; omega)
  rw [la] at AT
  have keepS : ∀ f j, c + 1 ≤ j → j < mid → ¬ (f = 3 ∧ j = N_la (-1) L) → T_ap τ2 c x f j = τ2 f j := fun f j j0 j1 hj => by
    rw [AT, if_neg (by omega), if_neg (by omega), if_neg (by omega)]
    split
    · rw [if_neg (by omega)]
    · first | rfl | rw [if_neg hj]
  refine ⟨⟨⟨?_, ?_, ?_⟩, ?_⟩, ⟨?_, ?_⟩, ?_, fun f j j0 j1 => ?_⟩
  · rw [AT, if_neg (by omega), if_neg (by omega), if_neg (by omega), N_hd_app]
    rcases lr with ⟨e1, e2⟩ | ⟨e1, e2⟩
    · rw [if_pos e1, if_pos ⟨rfl, rfl⟩, if_pos e2]
    · rw [if_neg (by omega), if_neg (by omega), q1]
      rw [if_neg (fun e => by subst e; have : N_la (-1) [] = -1 := rfl; omega)]
  · rw [AT, if_neg (by omega), if_neg (by omega), if_pos ⟨rfl, rfl⟩, N_la_app]
  · refine N_lk.app hP2 q4 q3 keepS (fun hne => ?_) ?_ ?_
    · have : ¬ N_la (-1) L = -1 := fun e => by
        rcases lr with ⟨_, e2⟩ | ⟨e1, _⟩
        · exact hne e2
        · omega
      rw [AT, if_neg (by omega), if_neg (by omega), if_neg (by omega), if_neg this, if_pos ⟨rfl, rfl⟩]
    · rw [AT, if_neg (by omega), if_pos ⟨rfl, rfl⟩]
    · rw [AT, if_neg (by omega), if_neg (by omega), if_neg (by omega)]
      split
      · rw [if_neg (by omega)]; exact x3
      · rw [if_neg (by omega)]; exact x3
  · refine N_seq.app (N_seq.keep (w := -1) hP2 (fun a b x t h g => N_is.keep (fun _ _ _ _ _ _ => Iff.rfl) (Int.le_refl _) _ _ _ _ _ _ h g) q4 keepS) ?_
    have hk := N_is.keep (τ' := T_ap τ2 c x) (fun _ _ _ _ _ _ => Iff.rfl) (Int.le_refl _) _ _ _ _ _ _ hx (fun f j j0 j1 hj => by
      rw [AT, if_neg (by omega), if_neg (by omega), if_neg (by omega)]
      split
      · rw [if_neg (by omega)]
      · rw [if_neg (by omega)])
    exact hk
  · rw [AT, if_neg (by omega), if_neg (by omega), if_neg (by omega)]
    split
    · rw [if_neg (by omega)]
    · rw [if_neg (by omega)]
  · rw [AT, if_neg (by omega), if_neg (by omega), if_neg (by omega)]
    split
    · rw [if_neg (by omega)]
    · rw [if_neg (by omega)]
  · rw [AT, if_pos ⟨rfl, rfl⟩]
  · rw [AT, if_neg (by omega), if_neg (by omega), if_neg (by omega)]
    split
    · rw [if_neg (by omega)]
    · rw [if_neg (by omega)]
theorem P_aft_ok {S : Int → Int} {fold : Prop} {F : Nat} {t : P_T} {a b : Int} {o : Option P_T} {c : P_T} {st : P_K} {e : Option (Int × Int × Int)} (h : P_cnt S a = .inr (e, b)) : P_aft S fold F t a o c st = P_run S fold F b ((o, T_beh c (P_cnj t e)) :: st) := by
  unfold P_aft
  rw [h]
theorem P_aft_no {S : Int → Int} {fold : Prop} {F : Nat} {t : P_T} {a : Int} {o : Option P_T} {c : P_T} {st : P_K} {k w : Int} (h : P_cnt S a = .inl (k, w)) : P_aft S fold F t a o c st = .inl (k, w) := by
  unfold P_aft
  rw [h]
theorem T_cz_mn {l h x : Int} (l0 : 0 ≤ l) (hh : h = -1 ∨ l ≤ h) (x0 : 0 ≤ x) : T_mn (T_cz l h (T_mn x)) = T_mn (T_cz l h x) := by
  by_cases c : 1000000 < x
  · have e : T_mn x = 1000000 := if_pos c
    rw [e]
    unfold T_cz
    by_cases h1 : h = -1
    · rw [if_pos h1, if_pos h1]
      have b1 : 1 * 1000000 ≤ (l + 1) * 1000000 := by omega
      have b2 : 1 * x ≤ (l + 1) * x := Int.mul_le_mul_of_nonneg_right (by omega) x0
      unfold T_mn
      omega
    · rw [if_neg h1, if_neg h1]
      by_cases h2 : h = 0
      · subst h2
        have : (0 : Int) * 1000000 = 0 * x := by rw [Int.zero_mul, Int.zero_mul]
        rw [this]
      · have b2 : 1 * x ≤ h * x := Int.mul_le_mul_of_nonneg_right (by omega) x0
        unfold T_mn
        omega
  · have e : T_mn x = x := if_neg c
    rw [e]
