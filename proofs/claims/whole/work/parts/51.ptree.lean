/-! a regex as a tree, and the way it is read: a machine of a place and a stack of what is open -/
theorem P_ag.ofN {α : Type} {r : P_R α} {a f p v a2 f2 p2 : Int} {same : α → Prop} (h : P_ag r a f p v a2 f2 p2 same) (hf : f ≠ 0) (hp : p < a) : f2 = f ∧ p2 = p := ⟨(h.2 hf hp).1, (h.2 hf hp).2.1⟩
theorem P_ag.weak {α : Type} {r : P_R α} {a f p v a2 f2 p2 : Int} {same same2 : α → Prop} (h : P_ag r a f p v a2 f2 p2 same) (k : ∀ x, same x → same2 x) : P_ag r a f p v a2 f2 p2 same2 := by
  refine ⟨fun hf => ?_, h.2⟩
  have := h.1 hf
  cases r using P_R_el with
  | ok x b => exact ⟨this.1, this.2.1, this.2.2.1, k x this.2.2.2⟩
  | bad k w => exact this
theorem D_list_P {S : Int → Int} {n : Int} (hn : ∀ k, n ≤ k → S k = -1) (n0 : n ≤ 80) (fold : Prop) (a f p : Int) (a0 : 0 ≤ a) (a1 : a ≤ n) : P_ag (P_list S fold a) a f p (D_list S fold a f p).1 (D_list S fold a f p).2.1 (D_list S fold a f p).2.2.1 (D_list S fold a f p).2.2.2.1 (fun B => B = (D_list S fold a f p).2.2.2.2) ∧ a ≤ (D_list S fold a f p).2.1 ∧ (D_list S fold a f p).2.1 ≤ n ∧ ((D_list S fold a f p).1 = 0 ∨ (D_list S fold a f p).1 = 1) := by
  unfold P_list D_list
  have h0 := hn a
  by_cases c : S a = 94
  · simp only [if_pos c]
    have h1 := D_items_P hn 82 true (a + 1) f p (fun _ => False) (by omega) (by omega)
    have h2 := D_items_n hn 82 true (a + 1) f p (fun _ => False) (by omega)
    generalize D_items S 82 true (a + 1) f p (fun _ => False) = r at h1 h2
    obtain ⟨h2, h3, h4⟩ := h2
    by_cases c0 : r.1 = 0
    · rw [if_pos c0]
      refine ⟨⟨fun hf => ?_, fun hf hp => ?_⟩, by omega, h2, h4⟩
      · have := h1.1 hf
        cases e : P_items S 82 true (a + 1) (fun _ => False) using P_R_el with
        | bad k w =>
          rw [e] at this
          obtain ⟨y1, y2, y3, y4, y5⟩ := (this : _ ∧ _ ∧ _ ∧ _ ∧ _)
          exact ⟨y1, y2, y3, by omega, y5⟩
        | ok B b =>
          rw [e] at this
          obtain ⟨y1, y2, y3, y4⟩ := (this : _ ∧ _ ∧ _ ∧ _)
          omega
      · exact h1.2 hf (by omega)
    · rw [if_neg c0]
      refine ⟨⟨fun hf => ?_, fun hf hp => ?_⟩, by dsimp only; omega, h2, h4⟩
      · have := h1.1 hf
        cases e : P_items S 82 true (a + 1) (fun _ => False) using P_R_el with
        | bad k w =>
          rw [e] at this
          obtain ⟨y1, y2, y3, y4, y5⟩ := (this : _ ∧ _ ∧ _ ∧ _ ∧ _)
          exact ⟨y1, y2, y3, by omega, y5⟩
        | ok B b =>
          rw [e] at this
          obtain ⟨y1, y2, y3, y4⟩ := (this : _ ∧ _ ∧ _ ∧ _)
          exact ⟨y1, y2, y3, by rw [y4]⟩
      · exact h1.2 hf (by omega)
  · simp only [if_neg c]
    have h1 := D_items_P hn 82 true a f p (fun _ => False) (by omega) (by omega)
    have h2 := D_items_n hn 82 true a f p (fun _ => False) (by omega)
    generalize D_items S 82 true a f p (fun _ => False) = r at h1 h2
    obtain ⟨h2, h3, h4⟩ := h2
    by_cases c0 : r.1 = 0
    · rw [if_pos c0]
      refine ⟨⟨fun hf => ?_, fun hf hp => ?_⟩, by omega, h2, h4⟩
      · have := h1.1 hf
        cases e : P_items S 82 true a (fun _ => False) using P_R_el with
        | bad k w =>
          rw [e] at this
          exact this
        | ok B b =>
          rw [e] at this
          obtain ⟨y1, y2, y3, y4⟩ := (this : _ ∧ _ ∧ _ ∧ _)
          omega
      · exact h1.2 hf (by omega)
    · rw [if_neg c0]
      refine ⟨⟨fun hf => ?_, fun hf hp => ?_⟩, by dsimp only; omega, h2, h4⟩
      · have := h1.1 hf
        cases e : P_items S 82 true a (fun _ => False) using P_R_el with
        | bad k w =>
          rw [e] at this
          exact this
        | ok B b =>
          rw [e] at this
          obtain ⟨y1, y2, y3, y4⟩ := (this : _ ∧ _ ∧ _ ∧ _)
          exact ⟨y1, y2, y3, by rw [y4]⟩
      · exact h1.2 hf (by omega)
theorem D_esc_P {S : Int → Int} {n : Int} (hn : ∀ k, n ≤ k → S k = -1) (a f p : Int) (a1 : a ≤ n) : P_ag (P_esc S a) a f p (D_esc S a f p).1 (D_esc S a f p).2.1 (D_esc S a f p).2.2.1 (D_esc S a f p).2.2.2.1 (fun A => A = (D_esc S a f p).2.2.2.2) ∧ a ≤ (D_esc S a f p).2.1 ∧ (D_esc S a f p).2.1 ≤ n ∧ ((D_esc S a f p).1 = 0 ∨ (D_esc S a f p).1 = 1) := by
  have h0 := hn a
  unfold P_esc D_esc
  by_cases c1 : S a = 98
  · rw [if_pos c1, if_pos c1]
    exact ⟨⟨fun hf => ⟨rfl, rfl, hf, rfl⟩, fun _ _ => ⟨rfl, rfl, .inr rfl⟩⟩, by dsimp only; omega, by dsimp only; omega, .inr rfl⟩
  · rw [if_neg c1, if_neg c1]
    by_cases c2 : P_nm (S a)
    · rw [if_pos c2, if_pos c2]
      unfold P_nm at c2
      exact ⟨⟨fun hf => ⟨rfl, rfl, hf, rfl⟩, fun _ _ => ⟨rfl, rfl, .inr rfl⟩⟩, by dsimp only; omega, by dsimp only; omega, .inr rfl⟩
    · rw [if_neg c2, if_neg c2]
      by_cases c3 : S a = 110
      · rw [if_pos c3, if_pos c3]
        exact ⟨⟨fun hf => ⟨rfl, rfl, hf, rfl⟩, fun _ _ => ⟨rfl, rfl, .inr rfl⟩⟩, by dsimp only; omega, by dsimp only; omega, .inr rfl⟩
      · rw [if_neg c3, if_neg c3]
        by_cases c4 : S a = 116
        · rw [if_pos c4, if_pos c4]
          exact ⟨⟨fun hf => ⟨rfl, rfl, hf, rfl⟩, fun _ _ => ⟨rfl, rfl, .inr rfl⟩⟩, by dsimp only; omega, by dsimp only; omega, .inr rfl⟩
        · rw [if_neg c4, if_neg c4]
          by_cases c5 : D_sgn (S a)
          · rw [if_pos c5, if_pos c5]
            unfold D_sgn at c5
            exact ⟨⟨fun hf => ⟨rfl, rfl, hf, rfl⟩, fun _ _ => ⟨rfl, rfl, .inr rfl⟩⟩, by dsimp only; omega, by dsimp only; omega, .inr rfl⟩
          · rw [if_neg c5, if_neg c5]
            refine ⟨⟨fun hf => ?_, fun hf hp => ?_⟩, by dsimp only; omega, a1, .inl rfl⟩
            · rw [hf, D_ff_0]; exact ⟨rfl, rfl, by omega, by omega, .inl rfl⟩
            · rw [D_ff_n hf hp]; exact ⟨rfl, rfl, .inl rfl⟩
theorem D_atom_P {S : Int → Int} {n : Int} (hn : ∀ k, n ≤ k → S k = -1) (n0 : n ≤ 80) (fold : Prop) (a f p : Int) (a0 : 0 ≤ a) (a1 : a < n) : P_ag (P_atom S fold a) a f p (D_atom S fold a f p).1 (D_atom S fold a f p).2.1 (D_atom S fold a f p).2.2.1 (D_atom S fold a f p).2.2.2.1 (fun A => A = (D_atom S fold a f p).2.2.2.2) ∧ a < (D_atom S fold a f p).2.1 ∧ (D_atom S fold a f p).2.1 ≤ n ∧ ((D_atom S fold a f p).1 = 0 ∨ (D_atom S fold a f p).1 = 1) := by
  unfold P_atom D_atom
  have OK : ∀ A : P_A, P_ag (.inr (A, a + 1)) a f p 1 (a + 1) f p (fun B => B = A) ∧ a < a + 1 ∧ a + 1 ≤ n ∧ ((1 : Int) = 0 ∨ (1 : Int) = 1) := fun A => ⟨⟨fun hf => ⟨rfl, rfl, hf, rfl⟩, fun _ _ => ⟨rfl, rfl, .inr rfl⟩⟩, by omega, by omega, .inr rfl⟩
  by_cases c1 : S a = 94
  · rw [if_pos c1, if_pos c1]; exact OK _
  · rw [if_neg c1, if_neg c1]
    by_cases c2 : S a = 36
    · rw [if_pos c2, if_pos c2]; exact OK _
    · rw [if_neg c2, if_neg c2]
      by_cases c3 : S a = 91
      · rw [if_pos c3, if_pos c3]
        obtain ⟨h1, h2, h3, h4⟩ := D_list_P hn n0 fold (a + 1) f p (by omega) (by omega)
        refine ⟨⟨fun hf => ?_, fun hf hp => h1.2 hf (by omega)⟩, by dsimp only; omega, h3, h4⟩
        have := h1.1 hf
        cases e : P_list S fold (a + 1) using P_R_el with
        | bad k w =>
          rw [e] at this
          obtain ⟨y1, y2, y3, y4, y5⟩ := (this : _ ∧ _ ∧ _ ∧ _ ∧ _)
          exact ⟨y1, y2, y3, by omega, y5⟩
        | ok B b =>
          rw [e] at this
          obtain ⟨y1, y2, y3, y4⟩ := (this : _ ∧ _ ∧ _ ∧ _)
          exact ⟨y1, y2, y3, by rw [y4]⟩
      · rw [if_neg c3, if_neg c3]
        by_cases c4 : S a = 92
        · rw [if_pos c4, if_pos c4]
          obtain ⟨h1, h2, h3, h4⟩ := D_esc_P hn (a + 1) f p (by omega)
          refine ⟨⟨fun hf => ?_, fun hf hp => h1.2 hf (by omega)⟩, by omega, h3, h4⟩
          have := h1.1 hf
          cases e : P_esc S (a + 1) using P_R_el with
          | bad k w =>
            rw [e] at this
            obtain ⟨y1, y2, y3, y4, y5⟩ := (this : _ ∧ _ ∧ _ ∧ _ ∧ _)
            exact ⟨y1, y2, y3, by omega, y5⟩
          | ok B b =>
            rw [e] at this
            exact this
        · rw [if_neg c4, if_neg c4]
          by_cases c5 : S a = 46
          · rw [if_pos c5, if_pos c5]; exact OK _
          · rw [if_neg c5, if_neg c5]
            by_cases c6 : D_pln (S a)
            · rw [if_pos c6, if_pos c6]; exact OK _
            · rw [if_neg c6, if_neg c6]
              refine ⟨⟨fun hf => ?_, fun hf hp => ?_⟩, by dsimp only; omega, by dsimp only; omega, .inl rfl⟩
              · rw [hf, D_ff_0]; exact ⟨rfl, rfl, by omega, by omega, .inl rfl⟩
              · rw [D_ff_n hf hp]; exact ⟨rfl, rfl, .inl rfl⟩
/-- what follows the first number -/
def D_cn2 (S : Int → Int) (v b f p : Int) : Int × Int × Int × Int × Option (Int × Int × Int) :=
  if v = -1 then (0, b, f, p, none)
  else if S b = 44 then
    (if S (b + 1) = 125 then (1, b + 2, f, p, some (11, v, -1))
     else
       let r := D_num S (b + 1) f p
       if r.1 = -1 then (0, r.2.1, r.2.2.1, r.2.2.2, none)
       else if r.1 < v then
         (if S r.2.1 = 125 then (1, r.2.1 + 1, (D_ff r.2.2.1 r.2.2.2 2 (b + 1)).1, (D_ff r.2.2.1 r.2.2.2 2 (b + 1)).2, some (11, v, r.1))
          else (0, r.2.1, (D_ff (D_ff r.2.2.1 r.2.2.2 2 (b + 1)).1 (D_ff r.2.2.1 r.2.2.2 2 (b + 1)).2 1 r.2.1).1, (D_ff (D_ff r.2.2.1 r.2.2.2 2 (b + 1)).1 (D_ff r.2.2.1 r.2.2.2 2 (b + 1)).2 1 r.2.1).2, none))
       else if S r.2.1 = 125 then (1, r.2.1 + 1, r.2.2.1, r.2.2.2, some (11, v, r.1))
       else (0, r.2.1, (D_ff r.2.2.1 r.2.2.2 1 r.2.1).1, (D_ff r.2.2.1 r.2.2.2 1 r.2.1).2, none))
  else if S b = 125 then (1, b + 1, f, p, some (11, v, v))
  else (0, b, (D_ff f p 1 b).1, (D_ff f p 1 b).2, none)
theorem D_cnt_eq (S : Int → Int) (a f p : Int) : D_cnt S a f p = if S a = 42 then (1, a + 1, f, p, some (8, 0, 0)) else if S a = 43 then (1, a + 1, f, p, some (9, 0, 0)) else if S a = 63 then (1, a + 1, f, p, some (10, 0, 0)) else if S a = 123 then D_cn2 S (D_num S (a + 1) f p).1 (D_num S (a + 1) f p).2.1 (D_num S (a + 1) f p).2.2.1 (D_num S (a + 1) f p).2.2.2 else (1, a, f, p, none) := rfl
/-- it goes on, no further than n; what is told of a fault stays -/
theorem D_cn2_n {S : Int → Int} {n : Int} (hn : ∀ k, n ≤ k → S k = -1) (v b f p : Int) (b1 : b ≤ n) : b ≤ (D_cn2 S v b f p).2.1 ∧ (D_cn2 S v b f p).2.1 ≤ n ∧ ((D_cn2 S v b f p).1 = 0 ∨ (D_cn2 S v b f p).1 = 1 ∧ b < (D_cn2 S v b f p).2.1) ∧ (f ≠ 0 → p < b → (D_cn2 S v b f p).2.2.1 = f ∧ (D_cn2 S v b f p).2.2.2.1 = p) := by
  have h0 := hn b
  have h1 := hn (b + 1)
  unfold D_cn2
  dsimp only
  by_cases c1 : v = -1
  · rw [if_pos c1]
    exact ⟨Int.le_refl _, b1, .inl rfl, fun _ _ => ⟨rfl, rfl⟩⟩
  · rw [if_neg c1]
    by_cases c2 : S b = 44
    · rw [if_pos c2]
      by_cases c3 : S (b + 1) = 125
      · rw [if_pos c3]
        exact ⟨by dsimp only; omega, by dsimp only; omega, .inr ⟨rfl, by dsimp only; omega⟩, fun _ _ => ⟨rfl, rfl⟩⟩
      · rw [if_neg c3]
        have g1 := D_num_le S (b + 1) f p
        have g2 := D_num_n hn (b + 1) f p (by omega)
        have g3 := (D_num_P S (b + 1) f p).2
        generalize D_num S (b + 1) f p = r at g1 g2 g3
        have h2 := hn r.2.1
        by_cases c4 : r.1 = -1
        · rw [if_pos c4]
          refine ⟨by dsimp only; omega, g2.1, .inl rfl, fun hf hp => ?_⟩
          obtain ⟨v2, b2, e, _⟩ := g3 hf (by omega)
          rw [e]; exact ⟨rfl, rfl⟩
        · rw [if_neg c4]
          have g5 := g2.2 c4
          by_cases c5 : r.1 < v
          · rw [if_pos c5]
            by_cases c6 : S r.2.1 = 125
            · rw [if_pos c6]
              refine ⟨by dsimp only; omega, by dsimp only; omega, .inr ⟨rfl, by dsimp only; omega⟩, fun hf hp => ?_⟩
              obtain ⟨v2, b2, e, _⟩ := g3 hf (by omega)
              rw [e]; dsimp only; rw [D_ff_n hf (by omega)]; exact ⟨rfl, rfl⟩
            · rw [if_neg c6]
              refine ⟨by dsimp only; omega, g2.1, .inl rfl, fun hf hp => ?_⟩
              obtain ⟨v2, b2, e, _⟩ := g3 hf (by omega)
              rw [e] at g5 ⊢; dsimp only at g5 ⊢; rw [D_ff_n hf (show p < b + 1 by omega)]; dsimp only; rw [D_ff_n hf (by omega)]; exact ⟨rfl, rfl⟩
          · rw [if_neg c5]
            by_cases c6 : S r.2.1 = 125
            · rw [if_pos c6]
              refine ⟨by dsimp only; omega, by dsimp only; omega, .inr ⟨rfl, by dsimp only; omega⟩, fun hf hp => ?_⟩
              obtain ⟨v2, b2, e, _⟩ := g3 hf (by omega)
              rw [e]; exact ⟨rfl, rfl⟩
            · rw [if_neg c6]
              refine ⟨by dsimp only; omega, g2.1, .inl rfl, fun hf hp => ?_⟩
              obtain ⟨v2, b2, e, _⟩ := g3 hf (by omega)
              rw [e] at g5 ⊢; dsimp only at g5 ⊢; rw [D_ff_n hf (by omega)]; exact ⟨rfl, rfl⟩
    · rw [if_neg c2]
      by_cases c3 : S b = 125
      · rw [if_pos c3]
        exact ⟨by dsimp only; omega, by dsimp only; omega, .inr ⟨rfl, by dsimp only; omega⟩, fun _ _ => ⟨rfl, rfl⟩⟩
      · rw [if_neg c3]
        refine ⟨Int.le_refl _, b1, .inl rfl, fun hf hp => ?_⟩
        rw [D_ff_n hf hp]; exact ⟨rfl, rfl⟩
theorem D_cnt_n {S : Int → Int} {n : Int} (hn : ∀ k, n ≤ k → S k = -1) (a f p : Int) (a1 : a ≤ n) : a ≤ (D_cnt S a f p).2.1 ∧ (D_cnt S a f p).2.1 ≤ n ∧ ((D_cnt S a f p).1 = 0 ∨ (D_cnt S a f p).1 = 1) ∧ (∀ e, (D_cnt S a f p).2.2.2.2 = some e → a < (D_cnt S a f p).2.1) := by
  have h0 := hn a
  rw [D_cnt_eq]
  by_cases c1 : S a = 42
  · rw [if_pos c1]; exact ⟨by dsimp only; omega, by dsimp only; omega, .inr rfl, fun _ _ => by dsimp only; omega⟩
  · rw [if_neg c1]
    by_cases c2 : S a = 43
    · rw [if_pos c2]; exact ⟨by dsimp only; omega, by dsimp only; omega, .inr rfl, fun _ _ => by dsimp only; omega⟩
    · rw [if_neg c2]
      by_cases c3 : S a = 63
      · rw [if_pos c3]; exact ⟨by dsimp only; omega, by dsimp only; omega, .inr rfl, fun _ _ => by dsimp only; omega⟩
      · rw [if_neg c3]
        by_cases c4 : S a = 123
        · rw [if_pos c4]
          have g1 := D_num_le S (a + 1) f p
          have g2 := D_num_n hn (a + 1) f p (by omega)
          obtain ⟨e1, e2, e3, e4⟩ := D_cn2_n hn (D_num S (a + 1) f p).1 (D_num S (a + 1) f p).2.1 (D_num S (a + 1) f p).2.2.1 (D_num S (a + 1) f p).2.2.2 g2.1
          exact ⟨by omega, e2, e3.imp id (fun h => h.1), fun _ _ => by omega⟩
        · rw [if_neg c4]; exact ⟨Int.le_refl _, a1, .inr rfl, fun _ e => by cases e⟩
theorem D_cnt_P {S : Int → Int} {n : Int} (hn : ∀ k, n ≤ k → S k = -1) (a f p : Int) (a1 : a ≤ n) : P_ag (P_cnt S a) a f p (D_cnt S a f p).1 (D_cnt S a f p).2.1 (D_cnt S a f p).2.2.1 (D_cnt S a f p).2.2.2.1 (fun A => A = (D_cnt S a f p).2.2.2.2) := by
  have h0 := hn a
  rw [D_cnt_eq]
  unfold P_cnt
  have OK : ∀ e : Option (Int × Int × Int), P_ag (.inr (e, a + 1)) a f p 1 (a + 1) f p (fun B => B = e) := fun A => ⟨fun hf => ⟨rfl, rfl, hf, rfl⟩, fun _ _ => ⟨rfl, rfl, .inr rfl⟩⟩
  by_cases c1 : S a = 42
  · rw [if_pos c1, if_pos c1]; exact OK _
  · rw [if_neg c1, if_neg c1]
    by_cases c2 : S a = 43
    · rw [if_pos c2, if_pos c2]; exact OK _
    · rw [if_neg c2, if_neg c2]
      by_cases c3 : S a = 63
      · rw [if_pos c3, if_pos c3]; exact OK _
      · rw [if_neg c3, if_neg c3]
        by_cases c4 : S a = 123
        · rw [if_neg (fun e => e c4), if_pos c4]
          have gN := D_num_n hn (a + 1) f p (by omega)
          have gL := D_num_le S (a + 1) f p
          refine ⟨fun hf => ?_, fun hf hp => ?_⟩
          · have g := (D_num_P S (a + 1) f p).1 hf
            cases e : P_num S (a + 1) using P_R_el with
            | bad k w =>
              rw [e] at g
              obtain ⟨g1, g2⟩ := (g : _ ∧ _)
              rcases g2 with ⟨g2, g3⟩ | ⟨g2, v, b, g3, g4, g5⟩
              · rw [g3]
                unfold D_cn2
                rw [if_pos rfl]
                exact ⟨rfl, rfl, by omega, by omega, .inl rfl⟩
              · rw [g3] at gN ⊢
                dsimp only at gN ⊢
                obtain ⟨x1, x2, x3, x4⟩ := D_cn2_n hn v b k w gN.1
                obtain ⟨y1, y2⟩ := x4 (by omega) (by omega)
                exact ⟨y1, y2, by omega, by omega, x3.imp id (fun h => ⟨h.1, by omega⟩)⟩
            | ok lo b =>
              rw [e] at g
              obtain ⟨g1, g2, g3, g4⟩ := (g : _ ∧ _ ∧ _ ∧ _)
              rw [g1]
              dsimp only
              unfold D_cn2
              dsimp only
              rw [if_neg (show ¬ lo = -1 by omega)]
              by_cases d1 : S b = 44
              · rw [if_pos d1, if_pos d1]
                by_cases d2 : S (b + 1) = 125
                · rw [if_pos d2, if_pos d2]
                  exact ⟨rfl, rfl, rfl, rfl⟩
                · rw [if_neg d2, if_neg d2]
                  have q := (D_num_P S (b + 1) 0 p).1 rfl
                  cases e2 : P_num S (b + 1) using P_R_el with
                  | bad k w =>
                    rw [e2] at q
                    obtain ⟨q1, q2⟩ := (q : _ ∧ _)
                    rcases q2 with ⟨q2, q3⟩ | ⟨q2, v, c, q3, q4, q5⟩
                    · rw [q3]
                      dsimp only
                      rw [if_pos rfl]
                      exact ⟨rfl, rfl, by omega, by omega, .inl rfl⟩
                    · rw [q3]
                      dsimp only
                      rw [if_neg (show ¬ v = -1 by omega), if_neg (show ¬ v < lo by omega)]
                      by_cases d3 : S c = 125
                      · rw [if_pos d3]
                        exact ⟨rfl, rfl, by omega, by omega, .inr ⟨rfl, by dsimp only; omega⟩⟩
                      · rw [if_neg d3, D_ff_n (by omega) (by omega)]
                        exact ⟨rfl, rfl, by omega, by omega, .inl rfl⟩
                  | ok hi c =>
                    rw [e2] at q
                    obtain ⟨q1, q2, q3, q4⟩ := (q : _ ∧ _ ∧ _ ∧ _)
                    rw [q1]
                    dsimp only
                    rw [if_neg (show ¬ hi = -1 by omega)]
                    by_cases d3 : hi < lo
                    · rw [if_pos d3, if_pos d3, D_ff_0]
                      by_cases d4 : S c = 125
                      · rw [if_pos d4]
                        exact ⟨rfl, rfl, by omega, by omega, .inr ⟨rfl, by dsimp only; omega⟩⟩
                      · rw [if_neg d4]
                        dsimp only
                        rw [D_ff_n (by omega) (by omega)]
                        exact ⟨rfl, rfl, by omega, by omega, .inl rfl⟩
                    · rw [if_neg d3, if_neg d3]
                      by_cases d4 : S c = 125
                      · rw [if_pos d4, if_pos d4]
                        exact ⟨rfl, rfl, rfl, rfl⟩
                      · rw [if_neg d4, if_neg d4, D_ff_0]
                        exact ⟨rfl, rfl, by omega, by omega, .inl rfl⟩
              · rw [if_neg d1, if_neg d1]
                by_cases d4 : S b = 125
                · rw [if_pos d4, if_pos d4]
                  exact ⟨rfl, rfl, rfl, rfl⟩
                · rw [if_neg d4, if_neg d4, D_ff_0]
                  exact ⟨rfl, rfl, by omega, by omega, .inl rfl⟩
          · obtain ⟨v, b, g1, g2, g3⟩ := (D_num_P S (a + 1) f p).2 hf (by omega)
            rw [g1] at gN ⊢
            dsimp only at gN ⊢
            obtain ⟨x1, x2, x3, x4⟩ := D_cn2_n hn v b f p gN.1
            obtain ⟨y1, y2⟩ := x4 hf (by omega)
            exact ⟨y1, y2, x3.imp id (fun h => h.1)⟩
        · rw [if_pos c4, if_neg c4]
          exact ⟨fun hf => ⟨rfl, rfl, hf, rfl⟩, fun _ _ => ⟨rfl, rfl, .inr rfl⟩⟩
/-- an operator: its number, two numbers of it, a set -/
abbrev P_O : Type := Int × Int × Int × (Int → Prop)
/-- a regex: its operators, each behind what it stands on -/
abbrev P_T : Type := List P_O
def T_emp : P_T := [(5, 0, 0, fun _ => False)]
def T_atm (A : P_A) : P_T := match A with
  | .inl op => [(op, 0, 0, fun _ => False)]
  | .inr B => [(1, 0, 0, B)]
def T_beh (l r : P_T) : P_T := l ++ r ++ [(6, 0, 0, fun _ => False)]
def T_or (l r : P_T) : P_T := l ++ r ++ [(7, 0, 0, fun _ => False)]
def T_cnt (t : P_T) (op lo hi : Int) : P_T := t ++ [(op, lo, hi, fun _ => False)]
/-- the sets of a regex, in their order -/
def T_sets (t : P_T) : List (Int → Prop) := match t with
  | [] => []
  | q :: t => if q.1 = 1 then q.2.2.2 :: T_sets t else T_sets t
/-- its operators, where its first set has the number m -/
def T_ops (m : Nat) (t : P_T) : List (Int × Int × Int) := match t with
  | [] => []
  | q :: t => if q.1 = 1 then (1, (m : Int), 0) :: T_ops (m + 1) t else (q.1, q.2.1, q.2.2.1) :: T_ops m t
theorem T_sets_app (a b : P_T) : T_sets (a ++ b) = T_sets a ++ T_sets b := by
  induction a with
  | nil => rfl
  | cons q a ih =>
    show (if q.1 = 1 then q.2.2.2 :: T_sets (a ++ b) else T_sets (a ++ b)) = (if q.1 = 1 then q.2.2.2 :: T_sets a else T_sets a) ++ T_sets b
    split
    · rw [ih]; rfl
    · exact ih
theorem T_ops_app (a b : P_T) : ∀ m, T_ops m (a ++ b) = T_ops m a ++ T_ops (m + (T_sets a).length) b := by
  induction a with
  | nil => intro m; rfl
  | cons q a ih =>
    intro m
    show (if q.1 = 1 then (1, (m : Int), 0) :: T_ops (m + 1) (a ++ b) else (q.1, q.2.1, q.2.2.1) :: T_ops m (a ++ b)) = (if q.1 = 1 then (1, (m : Int), 0) :: T_ops (m + 1) a else (q.1, q.2.1, q.2.2.1) :: T_ops m a) ++ T_ops (m + (if q.1 = 1 then q.2.2.2 :: T_sets a else T_sets a).length) b
    split
    · rw [ih]
      simp only [List.cons_append, List.length_cons]
      rw [show m + 1 + (T_sets a).length = m + ((T_sets a).length + 1) by omega]
    · rw [ih]; rfl
theorem T_ops_one {q : P_O} (h : q.1 ≠ 1) (m : Nat) : T_ops m [q] = [(q.1, q.2.1, q.2.2.1)] := if_neg h
theorem T_sets_one {q : P_O} (h : q.1 ≠ 1) : T_sets [q] = [] := if_neg h
def P_orj (o : Option P_T) (c : P_T) : P_T := match o with
  | none => c
  | some t => T_or t c
def P_cnj (t : P_T) (e : Option (Int × Int × Int)) : P_T := match e with
  | none => t
  | some e => T_cnt t e.1 e.2.1 e.2.2
abbrev P_K : Type := List (Option P_T × P_T)
/-- one step of the reading: none: done; a fault; or on -/
abbrev P_M : Type := Option ((Int × Int) ⊕ (Int × P_K))
theorem P_M_el {motive : P_M → Prop} (done : motive none) (bad : ∀ k w, motive (some (.inl (k, w)))) (go : ∀ b st2, motive (some (.inr (b, st2)))) (r : P_M) : motive r := match r with
  | none => done
  | some (.inl (k, w)) => bad k w
  | some (.inr (b, st2)) => go b st2
theorem P_M_inj {a c : Int} {b d : P_K} (h : (some (.inr (a, b)) : P_M) = some (.inr (c, d))) : a = c ∧ b = d := by
  injection h with h
  injection h with h
  injection h with h1 h2
  exact ⟨h1, h2⟩
/-- an atom's end: what is counted, and behind what stands there -/
def P_tail (S : Int → Int) (t : P_T) (a : Int) (o : Option P_T) (c : P_T) (st : P_K) : P_M := match P_cnt S a with
  | .inl (k, w) => some (.inl (k, w))
  | .inr (e, b) => some (.inr (b, (o, T_beh c (P_cnj t e)) :: st))
def P_step (S : Int → Int) (fold : Prop) (a : Int) (st : P_K) : P_M := match st with
  | [] => none
  | (o, c) :: st =>
    if S a = -1 then (match st with | [] => none | _ :: _ => some (.inl (1, a)))
    else if S a = 124 then some (.inr (a + 1, (some (P_orj o c), T_emp) :: st))
    else if S a = 40 then (if st.length = 10 then some (.inl (3, a)) else some (.inr (a + 1, (none, T_emp) :: (o, c) :: st)))
    else if S a = 41 then (match st with
      | [] => some (.inl (1, a))
      | (o2, c2) :: st2 => P_tail S (P_orj o c) (a + 1) o2 c2 st2)
    else match P_atom S fold a with
      | .inl (k, w) => some (.inl (k, w))
      | .inr (A, b) => P_tail S (T_atm A) b o c st
/-- the whole of it -/
def P_run (S : Int → Int) (fold : Prop) : Nat → Int → P_K → P_R P_T
  | 0, a, _ => .inl (1, a)
  | t + 1, a, st => match P_step S fold a st with
    | none => .inr ((match st with | [] => T_emp | (o, c) :: _ => P_orj o c), a)
    | some (.inl (k, w)) => .inl (k, w)
    | some (.inr (b, st2)) => P_run S fold t b st2
/-- the operators of what stands there, the outermost first -/
def K_code (st : P_K) : P_T := match st with
  | [] => []
  | (o, c) :: st => K_code st ++ o.getD [] ++ c
