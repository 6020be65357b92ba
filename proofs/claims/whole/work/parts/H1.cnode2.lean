/-! the reading goes on; new nodes -/
def P_aft (S : Int → Int) (fold : Prop) (F : Nat) (t : P_T) (a : Int) (o : Option P_T) (c : P_T) (st : P_K) : P_R P_T := match P_cnt S a with
  | .inl (k, w) => .inl (k, w)
  | .inr (e, b) => P_run S fold F b ((o, T_beh c (P_cnj t e)) :: st)
theorem P_run_tail {S : Int → Int} {fold : Prop} {F : Nat} {t : P_T} {a : Int} {o : Option P_T} {c : P_T} {st st0 : P_K} {a0 : Int} (h : P_step S fold a0 st0 = P_tail S t a o c st) : P_run S fold (F + 1) a0 st0 = P_aft S fold F t a o c st := by
  conv => lhs; unfold P_run
  rw [h]
  unfold P_tail P_aft
  cases P_cnt S a using P_R_el with
  | bad k w => rfl
  | ok e b => rfl
theorem P_run_atom {S : Int → Int} {fold : Prop} {F : Nat} {a : Int} {o : Option P_T} {c : P_T} {st : P_K} (h1 : S a ≠ -1) (h2 : S a ≠ 124) (h3 : S a ≠ 40) (h4 : S a ≠ 41) : P_run S fold (F + 1) a ((o, c) :: st) = (match P_atom S fold a with
    | .inl (k, w) => .inl (k, w)
    | .inr (A, b) => P_aft S fold F (T_atm A) b o c st) := by
  have hs : P_step S fold a ((o, c) :: st) = (match P_atom S fold a with
      | .inl (k, w) => some (.inl (k, w))
      | .inr (A, b) => P_tail S (T_atm A) b o c st) := by
    show (if S a = -1 then _ else if S a = 124 then _ else if S a = 40 then _ else if S a = 41 then _ else _) = _
    rw [if_neg h1, if_neg h2, if_neg h3, if_neg h4]
    rfl
  cases e : P_atom S fold a using P_R_el with
  | bad k w =>
    rw [e] at hs
    conv => lhs; unfold P_run
    rw [hs]
  | ok A b =>
    rw [e] at hs
    exact P_run_tail hs
theorem P_run_open {S : Int → Int} {fold : Prop} {F : Nat} {a : Int} {o : Option P_T} {c : P_T} {st : P_K} (h : S a = 40) : P_run S fold (F + 1) a ((o, c) :: st) = if st.length = 10 then .inl (3, a) else P_run S fold F (a + 1) ((none, T_emp) :: (o, c) :: st) := by
  have hs : P_step S fold a ((o, c) :: st) = if st.length = 10 then some (.inl (3, a)) else some (.inr (a + 1, (none, T_emp) :: (o, c) :: st)) := by
    show (if S a = -1 then _ else if S a = 124 then _ else if S a = 40 then _ else _) = _
    rw [if_neg (by omega), if_neg (by omega), if_pos h]
  conv => lhs; unfold P_run
  rw [hs]
  by_cases c : st.length = 10
  · rw [if_pos c, if_pos c]
  · rw [if_neg c, if_neg c]
theorem P_run_close {S : Int → Int} {fold : Prop} {F : Nat} {a : Int} {o o2 : Option P_T} {c c2 : P_T} {st : P_K} (h : S a = 41) : P_run S fold (F + 1) a ((o2, c2) :: (o, c) :: st) = P_aft S fold F (P_orj o2 c2) (a + 1) o c st := by
  refine P_run_tail ?_
  show (if S a = -1 then _ else if S a = 124 then _ else if S a = 40 then _ else if S a = 41 then _ else _) = _
  rw [if_neg (by omega), if_neg (by omega), if_neg (by omega), if_pos h]
theorem P_run_close0 {S : Int → Int} {fold : Prop} {F : Nat} {a : Int} {o : Option P_T} {c : P_T} (h : S a = 41) : P_run S fold (F + 1) a [(o, c)] = .inl (1, a) := by
  have hs : P_step S fold a [(o, c)] = some (.inl (1, a)) := by
    show (if S a = -1 then _ else if S a = 124 then _ else if S a = 40 then _ else if S a = 41 then _ else _) = _
    rw [if_neg (by omega), if_neg (by omega), if_neg (by omega), if_pos h]
  conv => lhs; unfold P_run
  rw [hs]
theorem P_run_end {S : Int → Int} {fold : Prop} {F : Nat} {a : Int} {q r : Option P_T × P_T} {st : P_K} (h : S a = -1) : P_run S fold (F + 1) a (q :: r :: st) = .inl (1, a) := by
  obtain ⟨o, c⟩ := q
  have hs : P_step S fold a ((o, c) :: r :: st) = some (.inl (1, a)) := by
    show (if S a = -1 then _ else _) = _
    rw [if_pos h]
  conv => lhs; unfold P_run
  rw [hs]
theorem P_run_done {S : Int → Int} {fold : Prop} {F : Nat} {a : Int} {o : Option P_T} {c : P_T} (h : S a = -1) : P_run S fold (F + 1) a [(o, c)] = .inr (P_orj o c, a) := by
  have hs : P_step S fold a [(o, c)] = none := by
    show (if S a = -1 then _ else _) = _
    rw [if_pos h]
  conv => lhs; unfold P_run
  rw [hs]
theorem P_run_or {S : Int → Int} {fold : Prop} {F : Nat} {a : Int} {o : Option P_T} {c : P_T} {st : P_K} (h : S a = 124) : P_run S fold (F + 1) a ((o, c) :: st) = P_run S fold F (a + 1) ((some (P_orj o c), T_emp) :: st) := by
  have hs : P_step S fold a ((o, c) :: st) = some (.inr (a + 1, (some (P_orj o c), T_emp) :: st)) := by
    show (if S a = -1 then _ else if S a = 124 then _ else _) = _
    rw [if_neg (by omega), if_pos h]
  conv => lhs; unfold P_run
  rw [hs]
def N_new (τ : Nat → Int → Int) (β : Int → Int64) (m sm : Int) (τ2 : Nat → Int → Int) (β2 : Int → Int64) (m2 sm2 : Int) : Prop := m ≤ m2 ∧ sm ≤ sm2 ∧ (∀ f j, 0 ≤ j → j < m → τ2 f j = τ f j) ∧ ∀ c j, 0 ≤ c → c < sm → 0 ≤ j → j ≤ 255 → (T_has β2 c j ↔ T_has β c j)
theorem N_new.refl (τ : Nat → Int → Int) (β : Int → Int64) (m sm : Int) : N_new τ β m sm τ β m sm := ⟨Int.le_refl _, Int.le_refl _, fun _ _ _ _ => rfl, fun _ _ _ _ _ _ => Iff.rfl⟩
theorem N_new.tr {τ τ2 τ3 : Nat → Int → Int} {β β2 β3 : Int → Int64} {m m2 m3 sm sm2 sm3 : Int} (h : N_new τ β m sm τ2 β2 m2 sm2) (g : N_new τ2 β2 m2 sm2 τ3 β3 m3 sm3) : N_new τ β m sm τ3 β3 m3 sm3 := by
  obtain ⟨h1, h2, h3, h4⟩ := h
  obtain ⟨g1, g2, g3, g4⟩ := g
  exact ⟨by omega, by omega, fun f j j0 j1 => (g3 f j j0 (by omega)).trans (h3 f j j0 j1), fun c j c0 c1 j0 j1 => (g4 c j c0 (by omega) j0 j1).trans (h4 c j c0 c1 j0 j1)⟩
section TN
variable {τ : Nat → Int → Int} {i k z : Int}
theorem T_nn_0 (h : 0 ≤ i ∧ i < 168) : T_nn τ i k z 0 i = k := by
  unfold T_nn
  simp [T_st_at, h]
theorem T_nn_1 (h : 0 ≤ i ∧ i < 168) {f : Nat} (hf : f = 1 ∨ f = 2 ∨ f = 3 ∨ f = 4 ∨ f = 7) : T_nn τ i k z f i = -1 := by
  unfold T_nn
  rcases hf with rfl | rfl | rfl | rfl | rfl <;> simp [T_st_at, h]
theorem T_nn_8 (h : 0 ≤ i ∧ i < 168) : T_nn τ i k z 8 i = z := by
  unfold T_nn
  simp [T_st_at, h]
theorem T_nn_o {f : Nat} {j : Int} (h : j ≠ i) : T_nn τ i k z f j = τ f j := by
  unfold T_nn
  simp [T_st_at, h]
theorem T_st_o {f g : Nat} {v j : Int} (h : j ≠ i ∨ g ≠ f) : T_st τ f i v g j = τ g j := by
  rw [T_st_at, if_neg (by omega)]
theorem T_st_s {f : Nat} {v : Int} (h : 0 ≤ i ∧ i < 168) : T_st τ f i v f i = v := by
  rw [T_st_at, if_pos ⟨h, rfl, rfl⟩]
end TN
theorem N_at_new {At : P_A} {τ : Nat → Int → Int} {m sm : Int} {β : Int → Int64} {τ2 : Nat → Int → Int} {sm2 : Int} {β2 : Int → Int64} (h : At_ok At τ m sm β τ2 sm2 β2) (hA : A_ok At) (m0 : 0 ≤ m) (m1 : m < 168) (s0 : 0 ≤ sm) {d : Nat} : N_is τ2 (T_has β2) sm2 (d + 1) 0 m (m + 1) m (T_atm At) ∧ τ2 3 m = -1 ∧ N_new τ β m sm τ2 β2 (m + 1) sm2 ∧ sm2 ≤ sm + 1 ∧ τ2 0 m ≠ 2 := by
  cases At with
  | inl k =>
    obtain ⟨rfl, rfl, h3⟩ := (h : _ ∧ _ ∧ _)
    refine ⟨⟨Int.le_refl _, by omega, ?_⟩, T_nn_1 ⟨m0, m1⟩ (by omega), ⟨by omega, Int.le_refl _, fun f j j0 j1 => T_nn_o (by omega), h3⟩, by omega, by rw [T_nn_0 ⟨m0, m1⟩]; have : k = 2 ∨ k = 3 ∨ k = 4 := hA; omega⟩
    rw [if_pos rfl]
    exact .inl ⟨.inl k, hA, rfl, T_nn_0 ⟨m0, m1⟩, T_nn_8 ⟨m0, m1⟩⟩
  | inr B =>
    obtain ⟨rfl, rfl, h3, h4⟩ := (h : _ ∧ _ ∧ _ ∧ _)
    have e7 : T_nb τ m sm 7 m = sm := T_st_s ⟨m0, m1⟩
    refine ⟨⟨Int.le_refl _, by omega, ?_⟩, ?_, ⟨by omega, by omega, fun f j j0 j1 => ?_, h3⟩, by omega, by rw [show T_nb τ m sm 0 m = 3 from (T_st_o (by omega)).trans (T_nn_0 ⟨m0, m1⟩)]; decide⟩
    · rw [if_pos rfl]
      refine .inl ⟨.inr B, hA, rfl, ⟨?_, ?_, ?_, ?_⟩, ?_⟩
      · exact (T_st_o (by omega)).trans (T_nn_0 ⟨m0, m1⟩)
      · rw [e7]; exact s0
      · rw [e7]; omega
      · rw [e7]; exact h4
      · exact (T_st_o (by omega)).trans (T_nn_8 ⟨m0, m1⟩)
    · exact (T_st_o (by omega)).trans (T_nn_1 ⟨m0, m1⟩ (by omega))
    · exact (T_st_o (by omega)).trans (T_nn_o (by omega))
theorem N_rep_new {τ : Nat → Int → Int} {H : Int → Int → Prop} {sm m lo i : Int} {u : P_T} {d : Nat} {op l h : Int} (hu : N_is τ H sm d 0 lo m i u) (h2 : τ 0 i ≠ 2) (hc : T_cok op l h) (l0 : 0 ≤ lo) (m1 : m < 168) {z : Int} (hz : z = T_mn (T_sz (T_cnt u op l h))) {x y : Int} (hx : (x, y) = N_lh op l h) : N_is (T_nr τ m i x y z) H sm (d + 1) 0 lo (m + 1) m (T_cnt u op l h) ∧ T_nr τ m i x y z 3 m = -1 ∧ ∀ f j, 0 ≤ j → j < m → T_nr τ m i x y z f j = τ f j := by
  have r := N_is.r hu
  have m0 : 0 ≤ m := by omega
  have hm : 0 ≤ m ∧ m < 168 := ⟨m0, m1⟩
  have o : ∀ f j, 0 ≤ j → j < m → T_nr τ m i x y z f j = τ f j := fun f j j0 j1 => ((T_st_o (by omega)).trans ((T_st_o (by omega)).trans ((T_st_o (by omega)).trans (T_nn_o (by omega)))))
  have e0 : T_nr τ m i x y z 0 m = 2 := (T_st_o (by omega)).trans ((T_st_o (by omega)).trans ((T_st_o (by omega)).trans (T_nn_0 hm)))
  have e3 : T_nr τ m i x y z 3 m = -1 := (T_st_o (by omega)).trans ((T_st_o (by omega)).trans ((T_st_o (by omega)).trans (T_nn_1 hm (by omega))))
  have e8 : T_nr τ m i x y z 8 m = z := (T_st_o (by omega)).trans ((T_st_o (by omega)).trans ((T_st_o (by omega)).trans (T_nn_8 hm)))
  have e1 : T_nr τ m i x y z 1 m = i := (T_st_o (by omega)).trans ((T_st_o (by omega)).trans (T_st_s hm))
  have e5 : T_nr τ m i x y z 5 m = x := (T_st_o (by omega)).trans (T_st_s hm)
  have e6 : T_nr τ m i x y z 6 m = y := T_st_s hm
  refine ⟨⟨by omega, by omega, ?_⟩, e3, o⟩
  rw [if_pos rfl]
  refine .inr (.inl ⟨u, op, l, h, hc, rfl, e0, by rw [e1, o 0 i (by omega) r.2]; exact h2, by rw [e5, ← hx], by rw [e6, ← hx], by rw [e8, hz], ?_⟩)
  rw [e1]
  exact N_is.keep (fun _ _ _ _ _ _ => Iff.rfl) (Int.le_refl _) _ _ _ _ _ _ hu (fun f j j0 j1 _ => o f j (by omega) j1)
