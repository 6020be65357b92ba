/-! a regex as a tree, and the way it is read: a machine of a place and a stack of what is open -/
theorem P_ag.ofN {α : Type} {r : P_R α} {a f p v a2 f2 p2 : Int} {same : α → Prop} (h : P_ag r a f p v a2 f2 p2 same) (hf : f ≠ 0) (hp : p < a) : f2 = f ∧ p2 = p := ⟨(h.2 hf hp).1, (h.2 hf hp).2.1⟩
theorem P_ag.weak {α : Type} {r : P_R α} {a f p v a2 f2 p2 : Int} {same same2 : α → Prop} (h : P_ag r a f p v a2 f2 p2 same) (k : ∀ x, same x → same2 x) : P_ag r a f p v a2 f2 p2 same2 := by
  refine ⟨fun hf => ?_, h.2⟩
  have := h.1 hf
  cases r with
  | ok x b => exact ⟨this.1, this.2.1, this.2.2.1, k x this.2.2.2⟩
  | bad k w => exact this
theorem D_list_P {S : Int → Int} {n : Int} (hn : ∀ k, n ≤ k → S k = -1) (n0 : n ≤ 80) (fold : Prop) (a f p : Int) (a0 : 0 ≤ a) (a1 : a ≤ n) : P_ag (P_list S fold a) a f p (D_list S fold a f p).1 (D_list S fold a f p).2.1 (D_list S fold a f p).2.2.1 (D_list S fold a f p).2.2.2.1 (fun B => B = (D_list S fold a f p).2.2.2.2) ∧ a ≤ (D_list S fold a f p).2.1 ∧ (D_list S fold a f p).2.1 ≤ n ∧ ((D_list S fold a f p).1 = 0 ∨ (D_list S fold a f p).1 = 1) := by
  unfold P_list D_list
  have h0 := hn a
  by_cases c : S a = 94
  · simp only [if_pos c]
    have h1 := D_items_P hn 82 true (a + 1) f p (fun _ => False) (by omega) (by omega)
    have h2 := D_items_n hn 82 true (a + 1) f p (fun _ => False) (by omega)
    generalize D_items S 82 true (a + 1) f p (fun _ => False) = r at h1 h2
    obtain ⟨h2, h3, h4⟩ := h2
    by_cases c0 : r.1 = 0
    · rw [if_pos c0]
      refine ⟨⟨fun hf => ?_, fun hf hp => ?_⟩, by omega, h2, h4⟩
      · have := h1.1 hf
        cases e : P_items S 82 true (a + 1) (fun _ => False) with
        | bad k w =>
          rw [e] at this
          obtain ⟨y1, y2, y3, y4, y5⟩ := (this : _ ∧ _ ∧ _ ∧ _ ∧ _)
          exact ⟨y1, y2, y3, by omega, y5⟩
        | ok B b =>
          rw [e] at this
          obtain ⟨y1, y2, y3, y4⟩ := (this : _ ∧ _ ∧ _ ∧ _)
          omega
      · exact h1.2 hf (by omega)
    · rw [if_neg c0]
      refine ⟨⟨fun hf => ?_, fun hf hp => ?_⟩, by dsimp only; omega, h2, h4⟩
      · have := h1.1 hf
        cases e : P_items S 82 true (a + 1) (fun _ => False) with
        | bad k w =>
          rw [e] at this
          obtain ⟨y1, y2, y3, y4, y5⟩ := (this : _ ∧ _ ∧ _ ∧ _ ∧ _)
          exact ⟨y1, y2, y3, by omega, y5⟩
        | ok B b =>
          rw [e] at this
          obtain ⟨y1, y2, y3, y4⟩ := (this : _ ∧ _ ∧ _ ∧ _)
          exact ⟨y1, y2, y3, by rw [y4]⟩
      · exact h1.2 hf (by omega)
  · simp only [if_neg c]
    have h1 := D_items_P hn 82 true a f p (fun _ => False) (by omega) (by omega)
    have h2 := D_items_n hn 82 true a f p (fun _ => False) (by omega)
    generalize D_items S 82 true a f p (fun _ => False) = r at h1 h2
    obtain ⟨h2, h3, h4⟩ := h2
    by_cases c0 : r.1 = 0
    · rw [if_pos c0]
      refine ⟨⟨fun hf => ?_, fun hf hp => ?_⟩, by omega, h2, h4⟩
      · have := h1.1 hf
        cases e : P_items S 82 true a (fun _ => False) with
        | bad k w =>
          rw [e] at this
          exact this
        | ok B b =>
          rw [e] at this
          obtain ⟨y1, y2, y3, y4⟩ := (this : _ ∧ _ ∧ _ ∧ _)
          omega
      · exact h1.2 hf (by omega)
    · rw [if_neg c0]
      refine ⟨⟨fun hf => ?_, fun hf hp => ?_⟩, by dsimp only; omega, h2, h4⟩
      · have := h1.1 hf
        cases e : P_items S 82 true a (fun _ => False) with
        | bad k w =>
          rw [e] at this
          exact this
        | ok B b =>
          rw [e] at this
          obtain ⟨y1, y2, y3, y4⟩ := (this : _ ∧ _ ∧ _ ∧ _)
          exact ⟨y1, y2, y3, by rw [y4]⟩
      · exact h1.2 hf (by omega)
theorem D_esc_P {S : Int → Int} {n : Int} (hn : ∀ k, n ≤ k → S k = -1) (a f p : Int) (a1 : a ≤ n) : P_ag (P_esc S a) a f p (D_esc S a f p).1 (D_esc S a f p).2.1 (D_esc S a f p).2.2.1 (D_esc S a f p).2.2.2.1 (fun A => A = (D_esc S a f p).2.2.2.2) ∧ a ≤ (D_esc S a f p).2.1 ∧ (D_esc S a f p).2.1 ≤ n ∧ ((D_esc S a f p).1 = 0 ∨ (D_esc S a f p).1 = 1) := by
  have h0 := hn a
  unfold P_esc D_esc
  by_cases c1 : S a = 98
  · rw [if_pos c1, if_pos c1]
    exact ⟨⟨fun hf => ⟨rfl, rfl, hf, rfl⟩, fun _ _ => ⟨rfl, rfl, .inr rfl⟩⟩, by dsimp only; omega, by dsimp only; omega, .inr rfl⟩
  · rw [if_neg c1, if_neg c1]
    by_cases c2 : P_nm (S a)
    · rw [if_pos c2, if_pos c2]
      unfold P_nm at c2
      exact ⟨⟨fun hf => ⟨rfl, rfl, hf, rfl⟩, fun _ _ => ⟨rfl, rfl, .inr rfl⟩⟩, by dsimp only; omega, by dsimp only; omega, .inr rfl⟩
    · rw [if_neg c2, if_neg c2]
      by_cases c3 : S a = 110
      · rw [if_pos c3, if_pos c3]
        exact ⟨⟨fun hf => ⟨rfl, rfl, hf, rfl⟩, fun _ _ => ⟨rfl, rfl, .inr rfl⟩⟩, by dsimp only; omega, by dsimp only; omega, .inr rfl⟩
      · rw [if_neg c3, if_neg c3]
        by_cases c4 : S a = 116
        · rw [if_pos c4, if_pos c4]
          exact ⟨⟨fun hf => ⟨rfl, rfl, hf, rfl⟩, fun _ _ => ⟨rfl, rfl, .inr rfl⟩⟩, by dsimp only; omega, by dsimp only; omega, .inr rfl⟩
        · rw [if_neg c4, if_neg c4]
          by_cases c5 : D_sgn (S a)
          · rw [if_pos c5, if_pos c5]
            unfold D_sgn at c5
            exact ⟨⟨fun hf => ⟨rfl, rfl, hf, rfl⟩, fun _ _ => ⟨rfl, rfl, .inr rfl⟩⟩, by dsimp only; omega, by dsimp only; omega, .inr rfl⟩
          · rw [if_neg c5, if_neg c5]
            refine ⟨⟨fun hf => ?_, fun hf hp => ?_⟩, by dsimp only; omega, a1, .inl rfl⟩
            · rw [hf, D_ff_0]; exact ⟨rfl, rfl, by omega, by omega, .inl rfl⟩
            · rw [D_ff_n hf hp]; exact ⟨rfl, rfl, .inl rfl⟩
theorem D_atom_P {S : Int → Int} {n : Int} (hn : ∀ k, n ≤ k → S k = -1) (n0 : n ≤ 80) (fold : Prop) (a f p : Int) (a0 : 0 ≤ a) (a1 : a < n) : P_ag (P_atom S fold a) a f p (D_atom S fold a f p).1 (D_atom S fold a f p).2.1 (D_atom S fold a f p).2.2.1 (D_atom S fold a f p).2.2.2.1 (fun A => A = (D_atom S fold a f p).2.2.2.2) ∧ a < (D_atom S fold a f p).2.1 ∧ (D_atom S fold a f p).2.1 ≤ n ∧ ((D_atom S fold a f p).1 = 0 ∨ (D_atom S fold a f p).1 = 1) := by
  unfold P_atom D_atom
  have OK : ∀ A : P_A, P_ag (.ok A (a + 1)) a f p 1 (a + 1) f p (fun B => B = A) ∧ a < a + 1 ∧ a + 1 ≤ n ∧ ((1 : Int) = 0 ∨ (1 : Int) = 1) := fun A => ⟨⟨fun hf => ⟨rfl, rfl, hf, rfl⟩, fun _ _ => ⟨rfl, rfl, .inr rfl⟩⟩, by omega, by omega, .inr rfl⟩
  by_cases c1 : S a = 94
  · rw [if_pos c1, if_pos c1]; exact OK _
  · rw [if_neg c1, if_neg c1]
    by_cases c2 : S a = 36
    · rw [if_pos c2, if_pos c2]; exact OK _
    · rw [if_neg c2, if_neg c2]
      by_cases c3 : S a = 91
      · rw [if_pos c3, if_pos c3]
        obtain ⟨h1, h2, h3, h4⟩ := D_list_P hn n0 fold (a + 1) f p (by omega) (by omega)
        refine ⟨⟨fun hf => ?_, fun hf hp => h1.2 hf (by omega)⟩, by dsimp only; omega, h3, h4⟩
        have := h1.1 hf
        cases e : P_list S fold (a + 1) with
        | bad k w =>
          rw [e] at this
          obtain ⟨y1, y2, y3, y4, y5⟩ := (this : _ ∧ _ ∧ _ ∧ _ ∧ _)
          exact ⟨y1, y2, y3, by omega, y5⟩
        | ok B b =>
          rw [e] at this
          obtain ⟨y1, y2, y3, y4⟩ := (this : _ ∧ _ ∧ _ ∧ _)
          exact ⟨y1, y2, y3, by rw [y4]⟩
      · rw [if_neg c3, if_neg c3]
        by_cases c4 : S a = 92
        · rw [if_pos c4, if_pos c4]
          obtain ⟨h1, h2, h3, h4⟩ := D_esc_P hn (a + 1) f p (by omega)
          refine ⟨⟨fun hf => ?_, fun hf hp => h1.2 hf (by omega)⟩, by omega, h3, h4⟩
          have := h1.1 hf
          cases e : P_esc S (a + 1) with
          | bad k w =>
            rw [e] at this
            obtain ⟨y1, y2, y3, y4, y5⟩ := (this : _ ∧ _ ∧ _ ∧ _ ∧ _)
            exact ⟨y1, y2, y3, by omega, y5⟩
          | ok B b =>
            rw [e] at this
            exact this
        · rw [if_neg c4, if_neg c4]
          by_cases c5 : S a = 46
          · rw [if_pos c5, if_pos c5]; exact OK _
          · rw [if_neg c5, if_neg c5]
            by_cases c6 : D_pln (S a)
            · rw [if_pos c6, if_pos c6]; exact OK _
            · rw [if_neg c6, if_neg c6]
              refine ⟨⟨fun hf => ?_, fun hf hp => ?_⟩, by dsimp only; omega, by dsimp only; omega, .inl rfl⟩
              · rw [hf, D_ff_0]; exact ⟨rfl, rfl, by omega, by omega, .inl rfl⟩
              · rw [D_ff_n hf hp]; exact ⟨rfl, rfl, .inl rfl⟩
/-- what follows the first number -/
def D_cn2 (S : Int → Int) (v b f p : Int) : Int × Int × Int × Int × Option (Int × Int × Int) :=
  if v = -1 then (0, b, f, p, none)
  else if S b = 44 then
    (if S (b + 1) = 125 then (1, b + 2, f, p, some (11, v, -1))
     else
       let r := D_num S (b + 1) f p
       if r.1 = -1 then (0, r.2.1, r.2.2.1, r.2.2.2, none)
       else if r.1 < v then
         (if S r.2.1 = 125 then (1, r.2.1 + 1, (D_ff r.2.2.1 r.2.2.2 2 (b + 1)).1, (D_ff r.2.2.1 r.2.2.2 2 (b + 1)).2, some (11, v, r.1))
          else (0, r.2.1, (D_ff (D_ff r.2.2.1 r.2.2.2 2 (b + 1)).1 (D_ff r.2.2.1 r.2.2.2 2 (b + 1)).2 1 r.2.1).1, (D_ff (D_ff r.2.2.1 r.2.2.2 2 (b + 1)).1 (D_ff r.2.2.1 r.2.2.2 2 (b + 1)).2 1 r.2.1).2, none))
       else if S r.2.1 = 125 then (1, r.2.1 + 1, r.2.2.1, r.2.2.2, some (11, v, r.1))
       else (0, r.2.1, (D_ff r.2.2.1 r.2.2.2 1 r.2.1).1, (D_ff r.2.2.1 r.2.2.2 1 r.2.1).2, none))
  else if S b = 125 then (1, b + 1, f, p, some (11, v, v))
  else (0, b, (D_ff f p 1 b).1, (D_ff f p 1 b).2, none)
theorem D_cnt_eq (S : Int → Int) (a f p : Int) : D_cnt S a f p = if S a = 42 then (1, a + 1, f, p, some (8, 0, 0)) else if S a = 43 then (1, a + 1, f, p, some (9, 0, 0)) else if S a = 63 then (1, a + 1, f, p, some (10, 0, 0)) else if S a = 123 then D_cn2 S (D_num S (a + 1) f p).1 (D_num S (a + 1) f p).2.1 (D_num S (a + 1) f p).2.2.1 (D_num S (a + 1) f p).2.2.2 else (1, a, f, p, none) := rfl
/-- it goes on, no further than n; what is told of a fault stays -/
theorem D_cn2_n {S : Int → Int} {n : Int} (hn : ∀ k, n ≤ k → S k = -1) (v b f p : Int) (b1 : b ≤ n) : b ≤ (D_cn2 S v b f p).2.1 ∧ (D_cn2 S v b f p).2.1 ≤ n ∧ ((D_cn2 S v b f p).1 = 0 ∨ (D_cn2 S v b f p).1 = 1 ∧ b < (D_cn2 S v b f p).2.1) ∧ (f ≠ 0 → p < b → (D_cn2 S v b f p).2.2.1 = f ∧ (D_cn2 S v b f p).2.2.2.1 = p) := by
  have h0 := hn b
  have h1 := hn (b + 1)
  unfold D_cn2
  dsimp only
  by_cases c1 : v = -1
  · rw [if_pos c1]
    exact ⟨Int.le_refl _, b1, .inl rfl, fun _ _ => ⟨rfl, rfl⟩⟩
  · rw [if_neg c1]
    by_cases c2 : S b = 44
    · rw [if_pos c2]
      by_cases c3 : S (b + 1) = 125
      · rw [if_pos c3]
        exact ⟨by dsimp only; omega, by dsimp only; omega, .inr ⟨rfl, by dsimp only; omega⟩, fun _ _ => ⟨rfl, rfl⟩⟩
      · rw [if_neg c3]
        have g1 := D_num_le S (b + 1) f p
        have g2 := D_num_n hn (b + 1) f p (by omega)
        have g3 := (D_num_P S (b + 1) f p).2
        generalize D_num S (b + 1) f p = r at g1 g2 g3
        have h2 := hn r.2.1
        by_cases c4 : r.1 = -1
        · rw [if_pos c4]
          refine ⟨by dsimp only; omega, g2.1, .inl rfl, fun hf hp => ?_⟩
          obtain ⟨v2, b2, e, _⟩ := g3 hf (by omega)
          rw [e]; exact ⟨rfl, rfl⟩
        · rw [if_neg c4]
          have g5 := g2.2 c4
          by_cases c5 : r.1 < v
          · rw [if_pos c5]
            by_cases c6 : S r.2.1 = 125
            · rw [if_pos c6]
              refine ⟨by dsimp only; omega, by dsimp only; omega, .inr ⟨rfl, by dsimp only; omega⟩, fun hf hp => ?_⟩
              obtain ⟨v2, b2, e, _⟩ := g3 hf (by omega)
              rw [e]; dsimp only; rw [D_ff_n hf (by omega)]; exact ⟨rfl, rfl⟩
            · rw [if_neg c6]
              refine ⟨by dsimp only; omega, g2.1, .inl rfl, fun hf hp => ?_⟩
              obtain ⟨v2, b2, e, _⟩ := g3 hf (by omega)
              rw [e] at g5 ⊢; dsimp only at g5 ⊢; rw [D_ff_n hf (show p < b + 1 by omega)]; dsimp only; rw [D_ff_n hf (by omega)]; exact ⟨rfl, rfl⟩
          · rw [if_neg c5]
            by_cases c6 : S r.2.1 = 125
            · rw [if_pos c6]
              refine ⟨by dsimp only; omega, by dsimp only; omega, .inr ⟨rfl, by dsimp only; omega⟩, fun hf hp => ?_⟩
              obtain ⟨v2, b2, e, _⟩ := g3 hf (by omega)
              rw [e]; exact ⟨rfl, rfl⟩
            · rw [if_neg c6]
              refine ⟨by dsimp only; omega, g2.1, .inl rfl, fun hf hp => ?_⟩
              obtain ⟨v2, b2, e, _⟩ := g3 hf (by omega)
              rw [e] at g5 ⊢; dsimp only at g5 ⊢; rw [D_ff_n hf (by omega)]; exact ⟨rfl, rfl⟩
    · rw [if_neg c2]
      by_cases c3 : S b = 125
      · rw [if_pos c3]
        exact ⟨by dsimp only; omega, by dsimp only; omega, .inr ⟨rfl, by dsimp only; omega⟩, fun _ _ => ⟨rfl, rfl⟩⟩
      · rw [if_neg c3]
        refine ⟨Int.le_refl _, b1, .inl rfl, fun hf hp => ?_⟩
        rw [D_ff_n hf hp]; exact ⟨rfl, rfl⟩
theorem D_cnt_n {S : Int → Int} {n : Int} (hn : ∀ k, n ≤ k → S k = -1) (a f p : Int) (a1 : a ≤ n) : a ≤ (D_cnt S a f p).2.1 ∧ (D_cnt S a f p).2.1 ≤ n ∧ ((D_cnt S a f p).1 = 0 ∨ (D_cnt S a f p).1 = 1) ∧ (∀ e, (D_cnt S a f p).2.2.2.2 = some e → a < (D_cnt S a f p).2.1) := by
  have h0 := hn a
  rw [D_cnt_eq]
  by_cases c1 : S a = 42
  · rw [if_pos c1]; exact ⟨by dsimp only; omega, by dsimp only; omega, .inr rfl, fun _ _ => by dsimp only; omega⟩
  · rw [if_neg c1]
    by_cases c2 : S a = 43
    · rw [if_pos c2]; exact ⟨by dsimp only; omega, by dsimp only; omega, .inr rfl, fun _ _ => by dsimp only; omega⟩
    · rw [if_neg c2]
      by_cases c3 : S a = 63
      · rw [if_pos c3]; exact ⟨by dsimp only; omega, by dsimp only; omega, .inr rfl, fun _ _ => by dsimp only; omega⟩
      · rw [if_neg c3]
        by_cases c4 : S a = 123
        · rw [if_pos c4]
          have g1 := D_num_le S (a + 1) f p
          have g2 := D_num_n hn (a + 1) f p (by omega)
          obtain ⟨e1, e2, e3, e4⟩ := D_cn2_n hn (D_num S (a + 1) f p).1 (D_num S (a + 1) f p).2.1 (D_num S (a + 1) f p).2.2.1 (D_num S (a + 1) f p).2.2.2 g2.1
          exact ⟨by omega, e2, e3.imp id (fun h => h.1), fun _ _ => by omega⟩
        · rw [if_neg c4]; exact ⟨Int.le_refl _, a1, .inr rfl, fun _ e => by cases e⟩
theorem D_cnt_P {S : Int → Int} {n : Int} (hn : ∀ k, n ≤ k → S k = -1) (a f p : Int) (a1 : a ≤ n) : P_ag (P_cnt S a) a f p (D_cnt S a f p).1 (D_cnt S a f p).2.1 (D_cnt S a f p).2.2.1 (D_cnt S a f p).2.2.2.1 (fun A => A = (D_cnt S a f p).2.2.2.2) := by
  have h0 := hn a
  rw [D_cnt_eq]
  unfold P_cnt
  have OK : ∀ e : Option (Int × Int × Int), P_ag (.ok e (a + 1)) a f p 1 (a + 1) f p (fun B => B = e) := fun A => ⟨fun hf => ⟨rfl, rfl, hf, rfl⟩, fun _ _ => ⟨rfl, rfl, .inr rfl⟩⟩
  by_cases c1 : S a = 42
  · rw [if_pos c1, if_pos c1]; exact OK _
  · rw [if_neg c1, if_neg c1]
    by_cases c2 : S a = 43
    · rw [if_pos c2, if_pos c2]; exact OK _
    · rw [if_neg c2, if_neg c2]
      by_cases c3 : S a = 63
      · rw [if_pos c3, if_pos c3]; exact OK _
      · rw [if_neg c3, if_neg c3]
        by_cases c4 : S a = 123
        · rw [if_neg (fun e => e c4), if_pos c4]
          have gN := D_num_n hn (a + 1) f p (by omega)
          have gL := D_num_le S (a + 1) f p
          refine ⟨fun hf => ?_, fun hf hp => ?_⟩
          · have g := (D_num_P S (a + 1) f p).1 hf
            cases e : P_num S (a + 1) with
            | bad k w =>
              rw [e] at g
              obtain ⟨g1, g2⟩ := (g : _ ∧ _)
              rcases g2 with ⟨g2, g3⟩ | ⟨g2, v, b, g3, g4, g5⟩
              · rw [g3]
                unfold D_cn2
                rw [if_pos rfl]
                exact ⟨rfl, rfl, by omega, by omega, .inl rfl⟩
              · rw [g3] at gN ⊢
                dsimp only at gN ⊢
                obtain ⟨x1, x2, x3, x4⟩ := D_cn2_n hn v b k w gN.1
                obtain ⟨y1, y2⟩ := x4 (by omega) (by omega)
                exact ⟨y1, y2, by omega, by omega, x3.imp id (fun h => ⟨h.1, by omega⟩)⟩
            | ok lo b =>
              rw [e] at g
              obtain ⟨g1, g2, g3, g4⟩ := (g : _ ∧ _ ∧ _ ∧ _)
              rw [g1]
              dsimp only
              unfold D_cn2
              dsimp only
              rw [if_neg (show ¬ lo = -1 by omega)]
              by_cases d1 : S b = 44
              · rw [if_pos d1, if_pos d1]
                by_cases d2 : S (b + 1) = 125
                · rw [if_pos d2, if_pos d2]
                  exact ⟨rfl, rfl, rfl, rfl⟩
                · rw [if_neg d2, if_neg d2]
                  have q := (D_num_P S (b + 1) 0 p).1 rfl
                  cases e2 : P_num S (b + 1) with
                  | bad k w =>
                    rw [e2] at q
                    obtain ⟨q1, q2⟩ := (q : _ ∧ _)
                    rcases q2 with ⟨q2, q3⟩ | ⟨q2, v, c, q3, q4, q5⟩
                    · rw [q3]
                      dsimp only
                      rw [if_pos rfl]
                      exact ⟨rfl, rfl, by omega, by omega, .inl rfl⟩
                    · rw [q3]
                      dsimp only
                      rw [if_neg (show ¬ v = -1 by omega), if_neg (show ¬ v < lo by omega)]
                      by_cases d3 : S c = 125
                      · rw [if_pos d3]
                        exact ⟨rfl, rfl, by omega, by omega, .inr ⟨rfl, by dsimp only; omega⟩⟩
                      · rw [if_neg d3, D_ff_n (by omega) (by omega)]
                        exact ⟨rfl, rfl, by omega, by omega, .inl rfl⟩
                  | ok hi c =>
                    rw [e2] at q
                    obtain ⟨q1, q2, q3, q4⟩ := (q : _ ∧ _ ∧ _ ∧ _)
                    rw [q1]
                    dsimp only
                    rw [if_neg (show ¬ hi = -1 by omega)]
                    by_cases d3 : hi < lo
                    · rw [if_pos d3, if_pos d3, D_ff_0]
                      by_cases d4 : S c = 125
                      · rw [if_pos d4]
                        exact ⟨rfl, rfl, by omega, by omega, .inr ⟨rfl, by dsimp only; omega⟩⟩
                      · rw [if_neg d4]
                        dsimp only
                        rw [D_ff_n (by omega) (by omega)]
                        exact ⟨rfl, rfl, by omega, by omega, .inl rfl⟩
                    · rw [if_neg d3, if_neg d3]
                      by_cases d4 : S c = 125
                      · rw [if_pos d4, if_pos d4]
                        exact ⟨rfl, rfl, rfl, rfl⟩
                      · rw [if_neg d4, if_neg d4, D_ff_0]
                        exact ⟨rfl, rfl, by omega, by omega, .inl rfl⟩
              · rw [if_neg d1, if_neg d1]
                by_cases d4 : S b = 125
                · rw [if_pos d4, if_pos d4]
                  exact ⟨rfl, rfl, rfl, rfl⟩
                · rw [if_neg d4, if_neg d4, D_ff_0]
                  exact ⟨rfl, rfl, by omega, by omega, .inl rfl⟩
          · obtain ⟨v, b, g1, g2, g3⟩ := (D_num_P S (a + 1) f p).2 hf (by omega)
            rw [g1] at gN ⊢
            dsimp only at gN ⊢
            obtain ⟨x1, x2, x3, x4⟩ := D_cn2_n hn v b f p gN.1
            obtain ⟨y1, y2⟩ := x4 hf (by omega)
            exact ⟨y1, y2, x3.imp id (fun h => h.1)⟩
        · rw [if_pos c4, if_neg c4]
          exact ⟨fun hf => ⟨rfl, rfl, hf, rfl⟩, fun _ _ => ⟨rfl, rfl, .inr rfl⟩⟩
/-- a regex as a tree -/
inductive P_T where
  | emp
  | atm (A : P_A)
  | beh (l r : P_T)
  | or (l r : P_T)
  | cnt (t : P_T) (op lo hi : Int)
/-- the sets of a tree, in their order -/
def T_sets : P_T → List (Int → Prop)
  | .emp => []
  | .atm (.at_ _) => []
  | .atm (.set B) => [B]
  | .beh l r => T_sets l ++ T_sets r
  | .or l r => T_sets l ++ T_sets r
  | .cnt t _ _ _ => T_sets t
/-- its operators, one behind the other, where its first set has the number m -/
def T_ops : Nat → P_T → List (Int × Int × Int)
  | _, .emp => [(5, 0, 0)]
  | _, .atm (.at_ op) => [(op, 0, 0)]
  | m, .atm (.set _) => [(1, (m : Int), 0)]
  | m, .beh l r => T_ops m l ++ T_ops (m + (T_sets l).length) r ++ [(6, 0, 0)]
  | m, .or l r => T_ops m l ++ T_ops (m + (T_sets l).length) r ++ [(7, 0, 0)]
  | m, .cnt t op lo hi => T_ops m t ++ [(op, lo, hi)]
/-- of several trees -/
def L_sets : List P_T → List (Int → Prop)
  | [] => []
  | t :: L => T_sets t ++ L_sets L
def L_ops : Nat → List P_T → List (Int × Int × Int)
  | _, [] => []
  | m, t :: L => T_ops m t ++ L_ops (m + (T_sets t).length) L
theorem L_sets_app (L K : List P_T) : L_sets (L ++ K) = L_sets L ++ L_sets K := by
  induction L with
  | nil => rfl
  | cons t L ih => simp [L_sets, ih]
theorem L_ops_app (L K : List P_T) : ∀ m, L_ops m (L ++ K) = L_ops m L ++ L_ops (m + (L_sets L).length) K := by
  induction L with
  | nil => intro m; simp [L_ops, L_sets]
  | cons t L ih =>
    intro m
    simp only [List.cons_append, L_ops, L_sets, ih, List.append_assoc, List.length_append, Nat.add_assoc]
theorem L_ops_emp (L : List P_T) : L_ops 0 (L ++ [.emp]) = L_ops 0 L ++ [(5, 0, 0)] := by simp [L_ops_app, L_ops, T_ops]
theorem L_sets_emp (L : List P_T) : L_sets (L ++ [.emp]) = L_sets L := by simp [L_sets_app, L_sets, T_sets]
theorem L_ops_or (L : List P_T) (x y : P_T) : L_ops 0 (L ++ [.or x y]) = L_ops 0 (L ++ [x, y]) ++ [(7, 0, 0)] := by simp [L_ops_app, L_ops, T_ops]
theorem L_sets_or (L : List P_T) (x y : P_T) : L_sets (L ++ [.or x y]) = L_sets (L ++ [x, y]) := by simp [L_sets_app, L_sets, T_sets]
theorem L_ops_beh (L : List P_T) (x y : P_T) : L_ops 0 (L ++ [.beh x y]) = L_ops 0 (L ++ [x, y]) ++ [(6, 0, 0)] := by simp [L_ops_app, L_ops, T_ops]
theorem L_sets_beh (L : List P_T) (x y : P_T) : L_sets (L ++ [.beh x y]) = L_sets (L ++ [x, y]) := by simp [L_sets_app, L_sets, T_sets]
theorem L_ops_cnt (L : List P_T) (x : P_T) (op lo hi : Int) : L_ops 0 (L ++ [.cnt x op lo hi]) = L_ops 0 (L ++ [x]) ++ [(op, lo, hi)] := by simp [L_ops_app, L_ops, T_ops]
theorem L_sets_cnt (L : List P_T) (x : P_T) (op lo hi : Int) : L_sets (L ++ [.cnt x op lo hi]) = L_sets (L ++ [x]) := by simp [L_sets_app, L_sets, T_sets]
def P_orj : Option P_T → P_T → P_T
  | none, c => c
  | some t, c => .or t c
def P_cnj (t : P_T) : Option (Int × Int × Int) → P_T
  | none => t
  | some e => .cnt t e.1 e.2.1 e.2.2
abbrev P_K : Type := List (Option P_T × P_T)
/-- one step of the reading: done, a fault, or on -/
inductive P_M where
  | done
  | bad (k w : Int)
  | go (a : Int) (st : P_K)
/-- an atom's end: what is counted, and behind what stands there -/
def P_tail (S : Int → Int) (t : P_T) (a : Int) (o : Option P_T) (c : P_T) (st : P_K) : P_M := match P_cnt S a with
  | .bad k w => .bad k w
  | .ok e b => .go b ((o, .beh c (P_cnj t e)) :: st)
def P_step (S : Int → Int) (fold : Prop) (a : Int) : P_K → P_M
  | [] => .done
  | (o, c) :: st =>
    if S a = -1 then (match st with | [] => .done | _ :: _ => .bad 1 a)
    else if S a = 124 then .go (a + 1) ((some (P_orj o c), .emp) :: st)
    else if S a = 40 then (if st.length = 10 then .bad 3 a else .go (a + 1) ((none, .emp) :: (o, c) :: st))
    else if S a = 41 then (match st with
      | [] => .bad 1 a
      | (o2, c2) :: st2 => P_tail S (P_orj o c) (a + 1) o2 c2 st2)
    else match P_atom S fold a with
      | .bad k w => .bad k w
      | .ok A b => P_tail S (.atm A) b o c st
/-- the whole of it -/
def P_run (S : Int → Int) (fold : Prop) : Nat → Int → P_K → P_R P_T
  | 0, a, _ => .bad 1 a
  | t + 1, a, st => match P_step S fold a st with
    | .done => .ok (match st with | [] => .emp | (o, c) :: _ => P_orj o c) a
    | .bad k w => .bad k w
    | .go b st2 => P_run S fold t b st2
/-- the trees of what is open, the outermost first -/
def K_trees : P_K → List P_T
  | [] => []
  | (o, c) :: st => K_trees st ++ o.toList ++ [c]
