/-! the reading of a regex, purely: what stands at a place, or the first fault -/
abbrev P_R (α : Type) : Type := (Int × Int) ⊕ (α × Int)
theorem P_R_el {α : Type} {motive : P_R α → Prop} (bad : ∀ k w, motive (.inl (k, w))) (ok : ∀ v a, motive (.inr (v, a))) (r : P_R α) : motive r := match r with
  | .inl (k, w) => bad k w
  | .inr (v, a) => ok v a
theorem P_R_inj {α : Type} {a c : α} {b d : Int} (h : (Sum.inr (a, b) : P_R α) = Sum.inr (c, d)) : a = c ∧ b = d := by
  injection h with h
  injection h with h1 h2
  exact ⟨h1, h2⟩
theorem P_R_bad {α : Type} {a b c d : Int} (h : (Sum.inl (a, b) : P_R α) = Sum.inl (c, d)) : a = c ∧ b = d := by
  injection h with h
  injection h with h1 h2
  exact ⟨h1, h2⟩
/-- a byte of a list -/
def P_one (S : Int → Int) (a : Int) : P_R Int :=
  if S a = 92 then (if S (a + 1) = 110 then .inr (10, a + 2) else if S (a + 1) = 116 then .inr (9, a + 2) else if D_sgn (S (a + 1)) then .inr (S (a + 1), a + 2) else .inl (1, a + 1))
  else if S a < 32 ∨ 126 < S a ∨ S a = 93 ∨ S a = 45 then .inl (1, a) else .inr (S a, a + 1)
def P_num (S : Int → Int) (a : Int) : P_R Int :=
  if D_dig (S a) then (if D_dig (S (a + 1)) then (if 20 < 10 * (S a - 48) + S (a + 1) - 48 then .inl (3, a) else .inr (10 * (S a - 48) + S (a + 1) - 48, a + 2)) else .inr (S a - 48, a + 1))
  else .inl (1, a)
abbrev P_nm (c : Int) : Prop := c = 100 ∨ c = 119 ∨ c = 115
def P_piece (S : Int → Int) (a : Int) : P_R (Int → Prop) := match P_one S a with
  | .inl (k, w) => .inl (k, w)
  | .inr (lo, b) => if S b = 45 then (match P_one S (b + 1) with
      | .inl (k, w) => .inl (k, w)
      | .inr (hi, c) => if hi < lo then .inl (2, b + 1) else .inr ((fun x => lo ≤ x ∧ x ≤ hi), c))
    else .inr ((fun x => x = lo), b)
def P_item (S : Int → Int) (a : Int) : P_R (Int → Prop) := if S a = 92 ∧ P_nm (S (a + 1)) then .inr (D_kd (S (a + 1)), a + 2) else P_piece S a
/-- the items of a list, up to its end; B: what is in it already -/
def P_items (S : Int → Int) : Nat → Bool → Int → (Int → Prop) → P_R (Int → Prop)
  | 0, _, a, _ => .inl (1, a)
  | t + 1, first, a, B => if first = false ∧ S a = 93 then .inr (B, a + 1) else match P_item S a with
    | .inl (k, w) => .inl (k, w)
    | .inr (C, b) => P_items S t false b (fun x => B x ∨ C x)
/-- with folding -/
def P_fold (fold : Prop) (B : Int → Prop) : Int → Prop := fun x => B x ∨ fold ∧ D_fd B 123 x
def P_list (S : Int → Int) (fold : Prop) (a : Int) : P_R (Int → Prop) :=
  if S a = 94 then (match P_items S 82 true (a + 1) (fun _ => False) with
    | .inl (k, w) => .inl (k, w)
    | .inr (B, b) => .inr ((fun x => ¬ P_fold fold B x), b))
  else (match P_items S 82 true a (fun _ => False) with
    | .inl (k, w) => .inl (k, w)
    | .inr (B, b) => .inr (P_fold fold B, b))
/-- what an atom is: 2, 3, 4 (front, back, edge), or a set -/
abbrev P_A : Type := Int ⊕ (Int → Prop)
def P_esc (S : Int → Int) (a : Int) : P_R P_A :=
  if S a = 98 then .inr (.inl 4, a + 1)
  else if P_nm (S a) then .inr (.inr (D_kd (S a)), a + 1)
  else if S a = 110 then .inr ((.inr (fun x => x = 10)), a + 1)
  else if S a = 116 then .inr ((.inr (fun x => x = 9)), a + 1)
  else if D_sgn (S a) then .inr ((.inr (fun x => x = S a)), a + 1)
  else .inl (1, a)
def P_atom (S : Int → Int) (fold : Prop) (a : Int) : P_R P_A :=
  if S a = 94 then .inr (.inl 2, a + 1)
  else if S a = 36 then .inr (.inl 3, a + 1)
  else if S a = 91 then (match P_list S fold (a + 1) with
    | .inl (k, w) => .inl (k, w)
    | .inr (B, b) => .inr (.inr B, b))
  else if S a = 92 then P_esc S (a + 1)
  else if S a = 46 then .inr ((.inr (fun x => x ≠ 10)), a + 1)
  else if D_pln (S a) then .inr ((.inr (P_fold fold (fun x => x = S a))), a + 1)
  else .inl (1, a)
/-- what follows an atom: nothing, or an operator with two numbers -/
def P_cnt (S : Int → Int) (a : Int) : P_R (Option (Int × Int × Int)) :=
  if S a = 42 then .inr (some (8, 0, 0), a + 1)
  else if S a = 43 then .inr (some (9, 0, 0), a + 1)
  else if S a = 63 then .inr (some (10, 0, 0), a + 1)
  else if S a ≠ 123 then .inr (none, a)
  else match P_num S (a + 1) with
    | .inl (k, w) => .inl (k, w)
    | .inr (lo, b) =>
      if S b = 44 then
        (if S (b + 1) = 125 then .inr (some (11, lo, -1), b + 2)
        else match P_num S (b + 1) with
          | .inl (k, w) => .inl (k, w)
          | .inr (hi, c) => if hi < lo then .inl (2, b + 1) else if S c = 125 then .inr (some (11, lo, hi), c + 1) else .inl (1, c))
      else if S b = 125 then .inr (some (11, lo, lo), b + 1) else .inl (1, b)
/-- the place goes on, and no further than n -/
theorem P_one_lt {S : Int → Int} {n : Int} (hn : ∀ k, n ≤ k → S k = -1) {a v b : Int} (h : P_one S a = .inr (v, b)) : a < b ∧ b ≤ n ∧ 0 ≤ v ∧ v < 256 := by
  have h0 := hn a
  have h1 := hn (a + 1)
  unfold P_one at h
  split at h
  · split at h
    · obtain ⟨h2, h3⟩ := P_R_inj h; omega
    · split at h
      · obtain ⟨h2, h3⟩ := P_R_inj h; omega
      · split at h
        · rename_i hs; unfold D_sgn at hs; obtain ⟨h2, h3⟩ := P_R_inj h; omega
        · cases h
  · split at h
    · cases h
    · obtain ⟨h2, h3⟩ := P_R_inj h; omega
theorem P_num_lt {S : Int → Int} {n : Int} (hn : ∀ k, n ≤ k → S k = -1) {a v b : Int} (h : P_num S a = .inr (v, b)) : a < b ∧ b ≤ n ∧ 0 ≤ v ∧ v ≤ 20 := by
  have h0 := hn a
  have h1 := hn (a + 1)
  unfold P_num at h
  split at h
  · rename_i hd
    unfold D_dig at hd
    split at h
    · rename_i hd2
      unfold D_dig at hd2
      split at h
      · cases h
      · obtain ⟨h2, h3⟩ := P_R_inj h; omega
    · obtain ⟨h2, h3⟩ := P_R_inj h; omega
  · cases h
/-- a fault lies where it is read, or behind -/
theorem P_one_bad {S : Int → Int} {a k w : Int} (h : P_one S a = .inl (k, w)) : a ≤ w ∧ k = 1 ∧ w ≤ a + 1 := by
  unfold P_one at h
  split at h
  · split at h
    · cases h
    · split at h
      · cases h
      · split at h
        · cases h
        · obtain ⟨h2, h3⟩ := P_R_bad h; omega
  · split at h
    · obtain ⟨h2, h3⟩ := P_R_bad h; omega
    · cases h
/-! the same as the reference goes, faults that stand and all -/
abbrev P_F : Type := Int × Int × Int × Int
def D_pc (S : Int → Int) (a f p : Int) : Int × Int × Int × Int × (Int → Prop) :=
  if (D_one S a f p).1 = -1 then (0, (D_one S a f p).2.1, (D_one S a f p).2.2.1, (D_one S a f p).2.2.2, fun _ => False)
  else if S (D_one S a f p).2.1 = 45 then
    (let q := D_one S a f p
     let r := D_one S (q.2.1 + 1) q.2.2.1 q.2.2.2
     if r.1 = -1 then (0, r.2.1, r.2.2.1, r.2.2.2, fun _ => False)
     else if r.1 < q.1 then (1, r.2.1, (D_ff r.2.2.1 r.2.2.2 2 (q.2.1 + 1)).1, (D_ff r.2.2.1 r.2.2.2 2 (q.2.1 + 1)).2, fun _ => False)
     else (1, r.2.1, r.2.2.1, r.2.2.2, fun x => q.1 ≤ x ∧ x ≤ r.1))
  else (1, (D_one S a f p).2.1, (D_one S a f p).2.2.1, (D_one S a f p).2.2.2, fun x => x = (D_one S a f p).1)
def D_item (S : Int → Int) (a f p : Int) : Int × Int × Int × Int × (Int → Prop) := if S a = 92 ∧ P_nm (S (a + 1)) then (1, a + 2, f, p, D_kd (S (a + 1))) else D_pc S a f p
def D_items (S : Int → Int) : Nat → Bool → Int → Int → Int → (Int → Prop) → Int × Int × Int × Int × (Int → Prop)
  | 0, _, a, f, p, B => (0, a, f, p, B)
  | t + 1, first, a, f, p, B => if first = false ∧ S a = 93 then (1, a + 1, f, p, B)
    else if (D_item S a f p).1 = 0 then (0, (D_item S a f p).2.1, (D_item S a f p).2.2.1, (D_item S a f p).2.2.2.1, fun x => B x ∨ (D_item S a f p).2.2.2.2 x)
    else D_items S t false (D_item S a f p).2.1 (D_item S a f p).2.2.1 (D_item S a f p).2.2.2.1 (fun x => B x ∨ (D_item S a f p).2.2.2.2 x)
/-- the two agree: v tells whether it goes on -/
def P_ag {α : Type} (r : P_R α) (a f p v a2 f2 p2 : Int) (same : α → Prop) : Prop :=
  (f = 0 → match r with
    | .inr (x, b) => v = 1 ∧ a2 = b ∧ f2 = 0 ∧ same x
    | .inl (k, w) => f2 = k ∧ p2 = w ∧ k ≠ 0 ∧ a ≤ w ∧ (v = 0 ∨ v = 1 ∧ w < a2)) ∧ (f ≠ 0 → p < a → f2 = f ∧ p2 = p ∧ (v = 0 ∨ v = 1))
theorem D_ff_0 (p k w : Int) : D_ff 0 p k w = (k, w) := by unfold D_ff; rw [if_neg (by omega)]
theorem D_ff_n {f p k w : Int} (hf : f ≠ 0) (h : p < w) : D_ff f p k w = (f, p) := by unfold D_ff; rw [if_pos ⟨hf, .inl h⟩]
theorem D_one_P (S : Int → Int) (a f p : Int) : (f = 0 → match P_one S a with
    | .inr (v, b) => D_one S a f p = (v, b, 0, p) ∧ 0 ≤ v ∧ a < b
    | .inl (k, w) => D_one S a f p = (-1, w, k, w) ∧ k = 1 ∧ a ≤ w) ∧ (f ≠ 0 → p < a → ∃ v b, D_one S a f p = (v, b, f, p) ∧ a ≤ b ∧ (0 ≤ v → a < b)) := by
  refine ⟨fun h => ?_, fun h hp => ?_⟩
  · subst h
    unfold P_one D_one
    repeat rw [D_ff_0]
    by_cases c1 : S a = 92
    · rw [if_pos c1, if_pos c1]
      by_cases c2 : S (a + 1) = 110
      · rw [if_pos c2, if_pos c2]
        exact ⟨rfl, by omega, by omega⟩
      · rw [if_neg c2, if_neg c2]
        by_cases c3 : S (a + 1) = 116
        · rw [if_pos c3, if_pos c3]
          exact ⟨rfl, by omega, by omega⟩
        · rw [if_neg c3, if_neg c3]
          by_cases c4 : D_sgn (S (a + 1))
          · rw [if_pos c4, if_pos c4]
            unfold D_sgn at c4
            exact ⟨rfl, by omega, by omega⟩
          · rw [if_neg c4, if_neg c4]
            exact ⟨rfl, rfl, by omega⟩
    · rw [if_neg c1, if_neg c1]
      by_cases c2 : S a < 32 ∨ 126 < S a ∨ S a = 93 ∨ S a = 45
      · rw [if_pos c2, if_pos c2]
        exact ⟨rfl, rfl, by omega⟩
      · rw [if_neg c2, if_neg c2]
        exact ⟨rfl, by omega, by omega⟩
  · unfold D_one
    rw [D_ff_n h (show p < a + 1 by omega), D_ff_n h hp]
    split
    · split
      · exact ⟨_, _, rfl, by omega, by omega⟩
      · split
        · exact ⟨_, _, rfl, by omega, by omega⟩
        · split
          · exact ⟨_, _, rfl, by omega, by omega⟩
          · exact ⟨_, _, rfl, by omega, by omega⟩
    · split
      · exact ⟨_, _, rfl, by omega, by omega⟩
      · exact ⟨_, _, rfl, by omega, by omega⟩
theorem D_one_le (S : Int → Int) (a f p : Int) : a ≤ (D_one S a f p).2.1 ∧ (D_one S a f p).2.1 ≤ a + 2 := by
  unfold D_one
  repeat' split
  all_goals (dsimp only; omega)
theorem D_num_le (S : Int → Int) (a f p : Int) : a ≤ (D_num S a f p).2.1 ∧ (D_num S a f p).2.1 ≤ a + 2 := by
  unfold D_num
  dsimp only
  repeat' split
  all_goals (dsimp only; omega)
theorem D_num_P (S : Int → Int) (a f p : Int) : (f = 0 → match P_num S a with
    | .inr (v, b) => D_num S a f p = (v, b, 0, p) ∧ 0 ≤ v ∧ v ≤ 20 ∧ a < b
    | .inl (k, w) => w = a ∧ (k = 1 ∧ D_num S a f p = (-1, a, k, w) ∨ k = 3 ∧ ∃ v b, D_num S a f p = (v, b, k, w) ∧ 20 < v ∧ a < b)) ∧ (f ≠ 0 → p < a → ∃ v b, D_num S a f p = (v, b, f, p) ∧ a ≤ b ∧ (v = -1 ∨ 0 ≤ v)) := by
  refine ⟨fun h => ?_, fun h hp => ?_⟩
  · subst h
    unfold P_num D_num
    repeat rw [D_ff_0]
    dsimp only
    by_cases hd : D_dig (S a)
    · rw [if_pos hd, if_pos hd]
      unfold D_dig at hd
      by_cases hd2 : D_dig (S (a + 1))
      · rw [if_pos hd2, if_pos hd2, if_pos hd2]
        unfold D_dig at hd2
        by_cases c : 20 < 10 * (S a - 48) + S (a + 1) - 48
        · rw [if_pos c, if_pos c]
          exact ⟨rfl, .inr ⟨rfl, _, _, rfl, by omega, by omega⟩⟩
        · rw [if_neg c, if_neg c]
          exact ⟨rfl, by omega, by omega, by omega⟩
      · rw [if_neg hd2, if_neg hd2, if_neg hd2, if_neg (by omega)]
        exact ⟨rfl, by omega, by omega, by omega⟩
    · rw [if_neg hd, if_neg hd]
      exact ⟨rfl, .inl ⟨rfl, rfl⟩⟩
  · unfold D_num
    rw [D_ff_n h hp]
    split
    · rename_i hd
      unfold D_dig at hd
      dsimp only
      split
      · rename_i hd2
        unfold D_dig at hd2
        split
        · exact ⟨_, _, rfl, by omega, by omega⟩
        · exact ⟨_, _, rfl, by omega, by omega⟩
      · split
        · exact ⟨_, _, rfl, by omega, by omega⟩
        · exact ⟨_, _, rfl, by omega, by omega⟩
    · exact ⟨_, _, by rw [D_ff_n h hp], by omega, by omega⟩
theorem D_pc_P (S : Int → Int) (a f p : Int) : P_ag (P_piece S a) a f p (D_pc S a f p).1 (D_pc S a f p).2.1 (D_pc S a f p).2.2.1 (D_pc S a f p).2.2.2.1 (fun B => B = (D_pc S a f p).2.2.2.2 ∧ a < (D_pc S a f p).2.1) := by
  have h1 := D_one_P S a f p
  by_cases hf : f = 0
  · have h2 := h1.1 hf
    unfold P_piece D_pc
    cases e : P_one S a using P_R_el with
    | bad k w =>
      rw [e] at h2
      have h2 : D_one S a f p = (-1, w, k, w) ∧ k = 1 ∧ a ≤ w := h2
      obtain ⟨h2, h3, h4⟩ := h2
      rw [h2, if_pos rfl]
      exact ⟨fun _ => ⟨rfl, rfl, by omega, h4, .inl rfl⟩, fun c => absurd hf c⟩
    | ok lo b =>
      rw [e] at h2
      have h2 : D_one S a f p = (lo, b, 0, p) ∧ 0 ≤ lo ∧ a < b := h2
      obtain ⟨h2, h3, h4⟩ := h2
      rw [h2]
      dsimp only
      rw [if_neg (show ¬ lo = -1 by omega)]
      by_cases c : S b = 45
      · rw [if_pos c, if_pos c]
        have g2 := (D_one_P S (b + 1) 0 p).1 rfl
        cases e2 : P_one S (b + 1) using P_R_el with
        | bad k w =>
          rw [e2] at g2
          have g2 : D_one S (b + 1) 0 p = (-1, w, k, w) ∧ k = 1 ∧ b + 1 ≤ w := g2
          obtain ⟨g2, g3, g4⟩ := g2
          rw [g2]
          dsimp only
          rw [if_pos rfl]
          exact ⟨fun _ => ⟨rfl, rfl, by omega, by omega, .inl rfl⟩, fun c => absurd hf c⟩
        | ok hi c2 =>
          rw [e2] at g2
          have g2 : D_one S (b + 1) 0 p = (hi, c2, 0, p) ∧ 0 ≤ hi ∧ b + 1 < c2 := g2
          obtain ⟨g2, g3, g4⟩ := g2
          rw [g2]
          dsimp only
          rw [if_neg (show ¬ hi = -1 by omega)]
          by_cases c3 : hi < lo
          · rw [if_pos c3, if_pos c3, D_ff_0]
            exact ⟨fun _ => ⟨rfl, rfl, by omega, by omega, .inr ⟨rfl, by dsimp only; omega⟩⟩, fun c => absurd hf c⟩
          · rw [if_neg c3, if_neg c3]
            exact ⟨fun _ => ⟨rfl, rfl, rfl, rfl, by dsimp only; omega⟩, fun c => absurd hf c⟩
      · rw [if_neg c, if_neg c]
        exact ⟨fun _ => ⟨rfl, rfl, rfl, rfl, by dsimp only; omega⟩, fun c => absurd hf c⟩
  · by_cases hp : p < a
    · obtain ⟨v, b, h2, h3, h4⟩ := h1.2 hf hp
      unfold D_pc
      rw [h2]
      dsimp only
      by_cases c0 : v = -1
      · rw [if_pos c0]
        exact ⟨fun c => absurd c hf, fun _ _ => ⟨rfl, rfl, .inl rfl⟩⟩
      · rw [if_neg c0]
        by_cases c : S b = 45
        · rw [if_pos c]
          obtain ⟨v2, b2, g2, g3, g4⟩ := (D_one_P S (b + 1) f p).2 hf (by omega)
          rw [g2]
          dsimp only
          by_cases c1 : v2 = -1
          · rw [if_pos c1]
            exact ⟨fun c => absurd c hf, fun _ _ => ⟨rfl, rfl, .inl rfl⟩⟩
          · rw [if_neg c1]
            by_cases c2 : v2 < v
            · rw [if_pos c2, D_ff_n hf (by omega)]
              exact ⟨fun c => absurd c hf, fun _ _ => ⟨rfl, rfl, .inr rfl⟩⟩
            · rw [if_neg c2]
              exact ⟨fun c => absurd c hf, fun _ _ => ⟨rfl, rfl, .inr rfl⟩⟩
        · rw [if_neg c]
          exact ⟨fun c => absurd c hf, fun _ _ => ⟨rfl, rfl, .inr rfl⟩⟩
    · exact ⟨fun c => absurd c hf, fun _ c => absurd c hp⟩
theorem D_pc_le (S : Int → Int) (a f p : Int) : a ≤ (D_pc S a f p).2.1 := by
  have h1 := (D_one_le S a f p).1
  unfold D_pc
  dsimp only
  split
  · exact h1
  · split
    · have h2 := (D_one_le S ((D_one S a f p).2.1 + 1) (D_one S a f p).2.2.1 (D_one S a f p).2.2.2).1
      split
      · dsimp only; omega
      · split
        · dsimp only; omega
        · dsimp only; omega
    · exact h1
theorem D_one_n {S : Int → Int} {n : Int} (hn : ∀ k, n ≤ k → S k = -1) (a f p : Int) (h : a ≤ n) : (D_one S a f p).2.1 ≤ n ∧ ((D_one S a f p).1 ≠ -1 → a < (D_one S a f p).2.1) := by
  have h0 := hn a
  have h1 := hn (a + 1)
  unfold D_one
  split
  · split
    · exact ⟨by dsimp only; omega, fun _ => by dsimp only; omega⟩
    · split
      · exact ⟨by dsimp only; omega, fun _ => by dsimp only; omega⟩
      · split
        · rename_i hs; unfold D_sgn at hs; exact ⟨by dsimp only; omega, fun _ => by dsimp only; omega⟩
        · exact ⟨by dsimp only; omega, fun c => absurd rfl c⟩
  · split
    · exact ⟨h, fun c => absurd rfl c⟩
    · exact ⟨by dsimp only; omega, fun _ => by dsimp only; omega⟩
theorem D_num_n {S : Int → Int} {n : Int} (hn : ∀ k, n ≤ k → S k = -1) (a f p : Int) (h : a ≤ n) : (D_num S a f p).2.1 ≤ n ∧ ((D_num S a f p).1 ≠ -1 → a < (D_num S a f p).2.1) := by
  have h0 := hn a
  have h1 := hn (a + 1)
  unfold D_num
  dsimp only
  split
  · rename_i hd
    unfold D_dig at hd
    split
    · rename_i hd2
      unfold D_dig at hd2
      split <;> exact ⟨by dsimp only; omega, fun _ => by dsimp only; omega⟩
    · split <;> exact ⟨by dsimp only; omega, fun _ => by dsimp only; omega⟩
  · exact ⟨h, fun c => absurd rfl c⟩
theorem D_pc_n {S : Int → Int} {n : Int} (hn : ∀ k, n ≤ k → S k = -1) (a f p : Int) (h : a ≤ n) : (D_pc S a f p).2.1 ≤ n ∧ ((D_pc S a f p).1 ≠ 0 → a < (D_pc S a f p).2.1) ∧ ((D_pc S a f p).1 = 0 ∨ (D_pc S a f p).1 = 1) := by
  obtain ⟨h1, h2⟩ := D_one_n hn a f p h
  unfold D_pc
  dsimp only
  split
  · exact ⟨h1, fun c => absurd rfl c, .inl rfl⟩
  · rename_i c1
    have h3 := h2 c1
    split
    · rename_i c2
      have h4 : (D_one S a f p).2.1 < n := by
        have := hn (D_one S a f p).2.1
        omega
      obtain ⟨h5, h6⟩ := D_one_n hn ((D_one S a f p).2.1 + 1) (D_one S a f p).2.2.1 (D_one S a f p).2.2.2 (by omega)
      split
      · exact ⟨h5, fun c => absurd rfl c, .inl rfl⟩
      · rename_i c3
        have h7 := h6 c3
        split
        · exact ⟨h5, fun _ => by dsimp only; omega, .inr rfl⟩
        · exact ⟨h5, fun _ => by dsimp only; omega, .inr rfl⟩
    · exact ⟨h1, fun _ => h3, .inr rfl⟩
theorem D_item_n {S : Int → Int} {n : Int} (hn : ∀ k, n ≤ k → S k = -1) (a f p : Int) (h : a ≤ n) : (D_item S a f p).2.1 ≤ n ∧ ((D_item S a f p).1 ≠ 0 → a < (D_item S a f p).2.1) ∧ ((D_item S a f p).1 = 0 ∨ (D_item S a f p).1 = 1) := by
  unfold D_item
  split
  · rename_i c
    have h1 := hn (a + 1)
    have h0 := hn a
    have c2 := c.2
    unfold P_nm at c2
    exact ⟨by dsimp only; omega, fun _ => by dsimp only; omega, .inr rfl⟩
  · exact D_pc_n hn a f p h
theorem D_item_le (S : Int → Int) (a f p : Int) : a ≤ (D_item S a f p).2.1 := by
  unfold D_item
  split
  · dsimp only; omega
  · exact D_pc_le S a f p
theorem D_item_P (S : Int → Int) (a f p : Int) : P_ag (P_item S a) a f p (D_item S a f p).1 (D_item S a f p).2.1 (D_item S a f p).2.2.1 (D_item S a f p).2.2.2.1 (fun B => B = (D_item S a f p).2.2.2.2 ∧ a < (D_item S a f p).2.1) := by
  unfold P_item D_item
  by_cases c : S a = 92 ∧ P_nm (S (a + 1))
  · rw [if_pos c, if_pos c]
    exact ⟨fun hf => ⟨rfl, rfl, hf, rfl, by dsimp only; omega⟩, fun _ _ => ⟨rfl, rfl, .inr rfl⟩⟩
  · rw [if_neg c, if_neg c]
    exact D_pc_P S a f p
theorem D_items_n {S : Int → Int} {n : Int} (hn : ∀ k, n ≤ k → S k = -1) : ∀ (t : Nat) (first : Bool) (a f p : Int) (B : Int → Prop), a ≤ n → (D_items S t first a f p B).2.1 ≤ n ∧ a ≤ (D_items S t first a f p B).2.1 ∧ ((D_items S t first a f p B).1 = 0 ∨ (D_items S t first a f p B).1 = 1) := by
  intro t
  induction t with
  | zero => intro first a f p B h; exact ⟨h, Int.le_refl _, .inl rfl⟩
  | succ t ih =>
    intro first a f p B h
    have h0 := hn a
    have h1 := D_item_n hn a f p h
    have h2 := D_item_le S a f p
    unfold D_items
    split
    · rename_i c
      exact ⟨by dsimp only; omega, by dsimp only; omega, .inr rfl⟩
    · split
      · exact ⟨h1.1, h2, .inl rfl⟩
      · have h3 := ih false (D_item S a f p).2.1 (D_item S a f p).2.2.1 (D_item S a f p).2.2.2.1 (fun x => B x ∨ (D_item S a f p).2.2.2.2 x) h1.1
        exact ⟨h3.1, by omega, h3.2.2⟩
theorem D_items_P {S : Int → Int} {n : Int} (hn : ∀ k, n ≤ k → S k = -1) : ∀ (t : Nat) (first : Bool) (a f p : Int) (B : Int → Prop), n - a < t → a ≤ n → P_ag (P_items S t first a B) a f p (D_items S t first a f p B).1 (D_items S t first a f p B).2.1 (D_items S t first a f p B).2.2.1 (D_items S t first a f p B).2.2.2.1 (fun C => C = (D_items S t first a f p B).2.2.2.2) := by
  intro t
  induction t with
  | zero => intro first a f p B h1 h2; omega
  | succ t ih =>
    intro first a f p B h1 h2
    unfold P_items D_items
    by_cases c : first = false ∧ S a = 93
    · rw [if_pos c, if_pos c]
      exact ⟨fun hf => ⟨rfl, rfl, hf, rfl⟩, fun _ _ => ⟨rfl, rfl, .inr rfl⟩⟩
    · rw [if_neg c, if_neg c]
      have hi := D_item_P S a f p
      have hin := D_item_n hn a f p h2
      have hil := D_item_le S a f p
      refine ⟨fun hf => ?_, fun hf hp => ?_⟩
      · have hi := hi.1 hf
        cases e : P_item S a using P_R_el with
        | bad k w =>
          rw [e] at hi
          obtain ⟨x1, x2, x3, x4, x5⟩ := (hi : _ ∧ _ ∧ _ ∧ _ ∧ _)
          rcases x5 with x5 | ⟨x5, x6⟩
          · rw [if_pos x5]
            exact ⟨x1, x2, x3, x4, .inl rfl⟩
          · rw [if_neg (by omega)]
            have hr := (ih false (D_item S a f p).2.1 (D_item S a f p).2.2.1 (D_item S a f p).2.2.2.1 (fun x => B x ∨ (D_item S a f p).2.2.2.2 x) (by omega) hin.1).2 (by omega) (by omega)
            have hl := (D_items_n hn t false (D_item S a f p).2.1 (D_item S a f p).2.2.1 (D_item S a f p).2.2.2.1 (fun x => B x ∨ (D_item S a f p).2.2.2.2 x) hin.1).2.1
            refine ⟨by rw [hr.1, x1], by rw [hr.2.1, x2], x3, x4, ?_⟩
            rcases hr.2.2 with y | y
            · exact .inl y
            · exact .inr ⟨y, by omega⟩
        | ok C b =>
          rw [e] at hi
          obtain ⟨x1, x2, x3, x4, x5⟩ := (hi : _ ∧ _ ∧ _ ∧ _ ∧ _)
          rw [if_neg (by omega)]
          have hr := (ih false (D_item S a f p).2.1 (D_item S a f p).2.2.1 (D_item S a f p).2.2.2.1 (fun x => B x ∨ (D_item S a f p).2.2.2.2 x) (by omega) hin.1).1 x3
          rw [← x2, x4]
          dsimp only
          cases e2 : P_items S t false (D_item S a f p).2.1 (fun x => B x ∨ (D_item S a f p).2.2.2.2 x) using P_R_el with
          | bad k w =>
            rw [e2] at hr
            obtain ⟨y1, y2, y3, y4, y5⟩ := (hr : _ ∧ _ ∧ _ ∧ _ ∧ _)
            exact ⟨y1, y2, y3, by omega, y5⟩
          | ok C2 b2 =>
            rw [e2] at hr
            exact hr
      · have hi := hi.2 hf hp
        obtain ⟨x1, x2, x3⟩ := hi
        rcases x3 with x3 | x3
        · rw [if_pos x3]
          exact ⟨x1, x2, .inl rfl⟩
        · rw [if_neg (by omega)]
          have hr := (ih false (D_item S a f p).2.1 (D_item S a f p).2.2.1 (D_item S a f p).2.2.2.1 (fun x => B x ∨ (D_item S a f p).2.2.2.2 x) (by omega) hin.1).2 (by omega) (by omega)
          exact ⟨by rw [hr.1, x1], by rw [hr.2.1, x2], hr.2.2⟩
