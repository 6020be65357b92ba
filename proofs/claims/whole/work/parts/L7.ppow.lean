/-! how large choices get: texts so many times -/
theorem L_R_n {i n : Nat} {x : Int} (hi : 1 ≤ i) (h : i ≤ n) (x0 : 0 ≤ x) : L_R i x ≤ L_R n x := by
  unfold L_R
  repeat' split
  all_goals omega
theorem L_R_0 {n : Nat} {x : Int} (x0 : 0 ≤ x) : x ≤ L_R n x := by
  unfold L_R
  repeat' split
  all_goals omega
theorem L_R_pw4 {i k j n m g : Nat} {b0 : Int} (hi : 2 ≤ i) (hk : 2 ≤ k) (n4 : n ≤ 4) (hn : k * (i - 1) + 1 ≤ n) (hm : (m : Int) ≤ L_R i b0) (j1 : j ≤ k) (j2 : j ≤ i) (hg : g ≤ j * m + min 2 m * (k - j)) (b00 : 0 ≤ b0) : (g : Int) ≤ L_R n (b0 + 3) := by
  have hi2 : i = 2 := by
    refine Classical.byContradiction (fun q => ?_)
    have : k * 2 ≤ k * (i - 1) := Nat.mul_le_mul_left k (by omega)
    omega
  subst hi2
  have hm : (m : Int) ≤ b0 := hm
  have hk3 : k = 2 ∨ k = 3 := by omega
  have hj : j = 0 ∨ j = 1 ∨ j = 2 := by omega
  have h34 : n = 3 ∨ n = 4 := by omega
  unfold L_R
  rcases hk3 with rfl | rfl <;> rcases hj with rfl | rfl | rfl <;> rcases h34 with rfl | rfl <;> simp only [Nat.reduceLeDiff, if_false, if_true, Nat.reduceEqDiff, reduceIte, Nat.reduceSub, Nat.reduceMul, Nat.reduceAdd] at * <;> omega
theorem L_R_pw8 {i k j m g : Nat} {b0 : Int} (hi : 2 ≤ i) (hk : 2 ≤ k) (hn : k * (i - 1) + 1 ≤ 8) (hm : (m : Int) ≤ L_R i b0) (j1 : j ≤ k) (j2 : j ≤ i) (hg : g ≤ j * m + min 2 m * (k - j)) (g60 : g ≤ 60) (b00 : 0 ≤ b0) : (g : Int) ≤ 4 * b0 + 10 := by
  have hi2 : i = 2 ∨ i = 3 ∨ i = 4 := by
    refine Classical.byContradiction (fun q => ?_)
    have : k * 4 ≤ k * (i - 1) := Nat.mul_le_mul_left k (by omega)
    omega
  rcases hi2 with rfl | rfl | rfl
  · have hm : (m : Int) ≤ b0 := hm
    have hk3 : k = 2 ∨ k = 3 ∨ k = 4 ∨ k = 5 ∨ k = 6 ∨ k = 7 := by omega
    have hj : j = 0 ∨ j = 1 ∨ j = 2 := by omega
    rcases hk3 with rfl | rfl | rfl | rfl | rfl | rfl <;> rcases hj with rfl | rfl | rfl <;> simp only [Nat.reduceSub] at * <;> omega
  · have hm : (m : Int) ≤ max b0 (2 * b0 - 6) := hm
    have hk3 : k = 2 ∨ k = 3 := by omega
    have hj : j = 0 ∨ j = 1 ∨ j = 2 ∨ j = 3 := by omega
    rcases hk3 with rfl | rfl <;> rcases hj with rfl | rfl | rfl | rfl <;> simp only [Nat.reduceSub] at * <;> omega
  · have hm : (m : Int) ≤ max b0 (2 * b0 - 4) := hm
    have hk3 : k = 2 := by omega
    have hj : j = 0 ∨ j = 1 ∨ j = 2 := by omega
    subst hk3
    rcases hj with rfl | rfl | rfl <;> simp only [Nat.reduceSub] at * <;> omega
theorem F_pw_one {t : List Int} {A : P_X} (h : ∀ x, A x → x = t) : ∀ (k : Nat) (w : List Int), F_pw A k w → w = L_pw t k
  | 0, w, hw => hw
  | k + 1, w, ⟨v, u, hv, hu, e⟩ => by
    rw [e, F_pw_one h k v hv, h u hu]
    rfl
/-- finite -/
def S_fin {α : Type} (A : α → Prop) : Prop := ∃ n, S_card A n
theorem S_fin_im2 {A B : P_X} {f : List Int → List Int → List Int} (h : S_fin A) (g : S_fin B) : S_fin (F_im2 f A B) := by
  obtain ⟨_, l, _, l2⟩ := h
  obtain ⟨_, k, _, k2⟩ := g
  refine ⟨_, l.flatMap (fun x => k.map (f x)), Nat.le_refl _, ?_⟩
  rintro z ⟨x, y, hx, hy, e⟩
  exact List.mem_flatMap.mpr ⟨x, l2 x hx, List.mem_map.mpr ⟨y, k2 y hy, e.symm⟩⟩
/-- at least so many -/
def S_lc {α : Type} (A : α → Prop) (p : Nat) : Prop := ∀ n, S_card A n → p ≤ n
theorem S_lc_sum {A B : P_X} {p q : Nat} (fA : S_fin A) (fB : S_fin B) (ha : S_lc A p) (hb : S_lc B q) (p1 : 1 ≤ p) (q1 : 1 ≤ q) (ba : ∀ x, A x → L_byt x) (bb : ∀ x, B x → L_byt x) : S_lc (F_im2 (fun a b => a ++ b) A B) (p + q - 1) := by
  intro n hn
  obtain ⟨_, hA⟩ := fA
  obtain ⟨_, hB⟩ := fB
  obtain ⟨la, a1, a2, _⟩ := S_list hA
  obtain ⟨lb, b1, b2, _⟩ := S_list hB
  have h1 := ha la.length ((S_card_of a1 a2 _).mpr (Nat.le_refl _))
  have h2 := hb lb.length ((S_card_of b1 b2 _).mpr (Nat.le_refl _))
  have := F_sum a1 a2 b1 b2 ba bb (by intro e; rw [e] at h1; simp at h1; omega) (by intro e; rw [e] at h2; simp at h2; omega) hn
  omega
/-- so many, and up to e more -/
def F_pq (A : P_X) (lo : Nat) : Nat → P_X
  | 0 => F_pw A lo
  | e + 1 => F_im2 (fun a b => a ++ b) (F_pq A lo e) (F_or A (F_one []))
theorem L_byt_nil : L_byt [] := fun x hx => absurd hx List.not_mem_nil
theorem L_byt_app {a b : List Int} (h : L_byt a) (g : L_byt b) : L_byt (a ++ b) := fun x hx => (List.mem_append.mp hx).elim (h x) (g x)
theorem F_pw_byt {A : P_X} (h : ∀ x, A x → L_byt x) : ∀ (k : Nat) (w : List Int), F_pw A k w → L_byt w
  | 0, w, hw => by rw [show w = [] from hw]; exact L_byt_nil
  | k + 1, w, ⟨v, u, hv, hu, e⟩ => by rw [e]; exact L_byt_app (F_pw_byt h k v hv) (h u hu)
theorem F_pq_byt {A : P_X} (h : ∀ x, A x → L_byt x) (lo : Nat) : ∀ (e : Nat) (w : List Int), F_pq A lo e w → L_byt w
  | 0, w, hw => F_pw_byt h lo w hw
  | k + 1, w, ⟨v, u, hv, hu, e⟩ => by
    rw [e]
    refine L_byt_app (F_pq_byt h lo k v hv) ?_
    rcases hu with hu | hu
    · exact h u hu
    · rw [show u = [] from hu]; exact L_byt_nil
theorem S_fin_one (t : List Int) : S_fin (F_one t) := ⟨1, [t], Nat.le_refl _, fun x hx => by rw [show x = t from hx]; exact List.mem_cons_self ..⟩
theorem S_fin_or {A B : P_X} (h : S_fin A) (g : S_fin B) : S_fin (F_or A B) := by
  obtain ⟨_, l, _, l2⟩ := h
  obtain ⟨_, k, _, k2⟩ := g
  exact ⟨_, l ++ k, Nat.le_refl _, fun x hx => List.mem_append.mpr (hx.elim (fun q => .inl (l2 x q)) (fun q => .inr (k2 x q)))⟩
theorem F_pw_fin {A : P_X} (h : S_fin A) : ∀ k, S_fin (F_pw A k)
  | 0 => S_fin_one []
  | k + 1 => S_fin_im2 (F_pw_fin h k) h
theorem F_pq_fin {A : P_X} (h : S_fin A) (lo : Nat) : ∀ e, S_fin (F_pq A lo e)
  | 0 => F_pw_fin h lo
  | e + 1 => S_fin_im2 (F_pq_fin h lo e) (S_fin_or h (S_fin_one []))
theorem S_lc_1 {A : P_X} (h : ∃ x, A x) : S_lc A 1 := fun n ⟨l, l1, l2⟩ => by
  obtain ⟨x, hx⟩ := h
  have := List.length_pos_of_mem (l2 x hx)
  omega
theorem F_pw_lc {A : P_X} {i : Nat} (fA : S_fin A) (hA : S_lc A i) (i1 : 1 ≤ i) (hb : ∀ x, A x → L_byt x) : ∀ k, S_lc (F_pw A k) (k * (i - 1) + 1)
  | 0 => by rw [Nat.zero_mul]; exact S_lc_1 ⟨[], rfl⟩
  | k + 1 => by
    have := S_lc_sum (F_pw_fin fA k) fA (F_pw_lc fA hA i1 hb k) hA (by omega) i1 (F_pw_byt hb k) hb
    rw [show (k + 1) * (i - 1) + 1 = k * (i - 1) + 1 + i - 1 by rw [Nat.succ_mul]; omega]
    exact this
theorem F_pq_lc {A : P_X} {i : Nat} (fA : S_fin A) (hA : S_lc A i) (i1 : 1 ≤ i) (hb : ∀ x, A x → L_byt x) (lo : Nat) : ∀ e, S_lc (F_pq A lo e) ((lo + e) * (i - 1) + 1)
  | 0 => F_pw_lc fA hA i1 hb lo
  | e + 1 => by
    have h2 : S_lc (F_or A (F_one [])) i := fun n hn => hA n (S_card_mono (fun x hx => .inl hx) hn)
    have := S_lc_sum (F_pq_fin fA lo e) (S_fin_or fA (S_fin_one [])) (F_pq_lc fA hA i1 hb lo e) h2 (by omega) i1 (F_pq_byt hb lo e) (fun x hx => hx.elim (hb x) (fun q => by rw [show x = [] from q]; exact L_byt_nil))
    rw [show (lo + (e + 1)) * (i - 1) + 1 = (lo + e) * (i - 1) + 1 + i - 1 by rw [← Nat.add_assoc, Nat.succ_mul]; omega]
    exact this
theorem F_pq_w {A : P_X} (lo : Nat) : ∀ (e : Nat) (w : List Int), F_pq A lo e w → ∃ j, j ≤ lo + e ∧ F_pw A j w
  | 0, w, hw => ⟨lo, Nat.le_refl _, hw⟩
  | e + 1, w, ⟨v, u, hv, hu, ew⟩ => by
    obtain ⟨j, j1, j2⟩ := F_pq_w lo e v hv
    rcases hu with hu | hu
    · exact ⟨j + 1, by omega, v, u, j2, hu, ew⟩
    · rw [show u = [] from hu] at ew
      refine ⟨j, by omega, ?_⟩
      rw [ew]
      show F_pw A j (v ++ [])
      rw [List.append_nil]
      exact j2
/-- texts of up to k words -/
theorem X_pw {A W : P_X} {b0 : Int} {k : Nat} (hA : X_ex A b0) (hf : F_fit W) (hb : ∀ w, W w → L_byt w) (hw : ∀ w, W w → ∃ j, j ≤ k ∧ F_pw A j w) (hc : ∀ i, 1 ≤ i → S_lc A i → S_lc W (k * (i - 1) + 1)) : X_ex W (b0 + 3) ∧ ∀ w, W w → (L_gam w : Int) ≤ 4 * b0 + 10 := by
  have b00 := hA.1
  obtain ⟨la, a1, a2, a3⟩ := S_list hA.2.2.1.1
  have cA : ∀ n, S_card A n ↔ la.length ≤ n := fun n => S_card_of a1 a2 n
  have lA : S_lc A la.length := fun n hn => (cA n).mp hn
  have key : ∀ w, W w → (∀ n, S_card W n → (L_gam w : Int) ≤ L_R n (b0 + 3)) ∧ (L_gam w : Int) ≤ 4 * b0 + 10 := by
    intro w hW
    obtain ⟨j, j1, hj⟩ := hw w hW
    have g60 := L_gam_60 (hf.2 w hW)
    by_cases i0 : la.length = 0
    · have nA : ∀ x, ¬ A x := fun x hx => by have := (a2 x).mpr hx; rw [List.length_eq_zero_iff.mp i0] at this; cases this
      have e : w = [] := by
        match j, hj with
        | 0, hj => exact hj
        | j + 1, ⟨_, u, _, hu, _⟩ => exact absurd hu (nA u)
      rw [e, L_gam_nil]
      exact ⟨fun n _ => Int.le_trans (by show (0 : Int) ≤ b0 + 3; omega) (L_R_0 (by omega)), by show (0 : Int) ≤ _; omega⟩
    by_cases i1 : la.length = 1
    · obtain ⟨t, ht⟩ : ∃ t, la = [t] := by
        match la, i1 with
        | [t], _ => exact ⟨t, rfl⟩
      have hA1 : ∀ x, A x → x = t := fun x hx => by have := (a2 x).mpr hx; rw [ht] at this; exact List.mem_singleton.mp this
      have hAt : A t := (a2 t).mp (by rw [ht]; exact List.mem_cons_self ..)
      have h1 := hA.2.2.2 1 ((cA 1).mpr (by omega)) t hAt
      have h1 : (L_gam t : Int) ≤ b0 := h1
      have h2 := L_gam_pw t j
      rw [← F_pw_one hA1 j w hj] at h2
      exact ⟨fun n _ => Int.le_trans (by omega) (L_R_0 (n := n) (show 0 ≤ b0 + 3 by omega)), by omega⟩
    have i2 : 2 ≤ la.length := by omega
    have lW := hc la.length (by omega) lA
    have R0 : 0 ≤ L_R la.length b0 := Int.le_trans b00 (L_R_0 b00)
    obtain ⟨D, _, d2, d3, _, d5⟩ := F_pw_gam (m := (L_R la.length b0).toNat) ((cA _).mpr (Nat.le_refl _)) (fun t ht => by have := hA.2.2.2 la.length ((cA _).mpr (Nat.le_refl _)) t ht; omega) j w hj
    by_cases k1 : k ≤ 1
    · have hle : (L_gam w : Int) ≤ L_R la.length b0 := by
        have e : D.length = 0 ∨ D.length = 1 := by omega
        rcases e with e | e
        · rw [e] at d5
          rcases (by omega : j = 0 ∨ j = 1) with ej | ej
          · rw [ej] at d5; omega
          · rw [ej] at d5; omega
        · rw [e] at d5
          have : j - 1 = 0 := by omega
          rw [this] at d5
          omega
      have h4 := L_R_le (n := la.length) b00
      refine ⟨fun n hn => ?_, by omega⟩
      by_cases k0 : k = 0
      · subst k0
        have ej : j = 0 := by omega
        subst ej
        rw [show w = [] from hj, L_gam_nil]
        exact Int.le_trans (by show (0 : Int) ≤ b0 + 3; omega) (L_R_0 (by omega))
      · have ek : k = 1 := by omega
        subst ek
        have := lW n hn
        exact Int.le_trans hle (Int.le_trans (L_R_n (n := n) (by omega) (by omega) b00) (L_R_up b00 (by omega)))
    · have hg : L_gam w ≤ D.length * (L_R la.length b0).toNat + min 2 (L_R la.length b0).toNat * (k - D.length) := Nat.le_trans d5 (Nat.add_le_add_left (Nat.mul_le_mul_left _ (by omega)) _)
      have h8 := L_R_pw8 (b0 := b0) i2 (by omega) (lW 8 hf.1) (by omega) (by omega) d3 hg g60 b00
      refine ⟨fun n hn => ?_, h8⟩
      by_cases n4 : n ≤ 4
      · exact L_R_pw4 (b0 := b0) i2 (by omega) n4 (lW n hn) (by omega) (by omega) d3 hg b00
      · have : L_R n (b0 + 3) = 4 * (b0 + 3) := by
          unfold L_R
          rw [if_neg (by omega), if_neg (by omega), if_neg (by omega)]
        rw [this]; omega
  exact ⟨⟨by omega, hb, hf, fun n hn t ht => (key t ht).1 n hn⟩, fun w hW => (key w hW).2⟩
