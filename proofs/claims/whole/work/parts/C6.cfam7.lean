/-! the class: Family: putInOrder -/
theorem L_lt_irr (xs : List Int) : ¬ L_lt xs xs := by
  rintro ⟨k, k0, k1, k2, k3, k4⟩
  omega
theorem L_lt_trans {xs ys zs : List Int} (h : L_lt xs ys) (g : L_lt ys zs) : L_lt xs zs := by
  obtain ⟨k, k0, k1, k2, k3, k4⟩ := h
  obtain ⟨l, l0, l1, l2, l3, l4⟩ := g
  by_cases c : k < l
  · have := l3 k k0 c
    exact ⟨k, k0, k1, by omega, fun i i0 i1 => by rw [k3 i i0 i1, l3 i i0 (by omega)], by omega⟩
  · by_cases c2 : k = l
    · subst c2
      exact ⟨k, k0, k1, l2, fun i i0 i1 => by rw [k3 i i0 i1, l3 i i0 i1], by omega⟩
    · have := k3 l l0 (by omega)
      exact ⟨l, l0, by omega, l2, fun i i0 i1 => by rw [k3 i i0 (by omega), l3 i i0 i1], by omega⟩
theorem L_lt_cons {x y : Int} {xs ys : List Int} : L_lt (x :: xs) (y :: ys) ↔ x < y ∨ x = y ∧ L_lt xs ys := by
  constructor
  · rintro ⟨k, k0, k1, k2, k3, k4⟩
    have k1 : k ≤ ((xs.length + 1 : Nat) : Int) := k1
    have k2 : k < ((ys.length + 1 : Nat) : Int) := k2
    have k4 : k = ((xs.length + 1 : Nat) : Int) ∨ _ := k4
    by_cases c : k = 0
    · subst c
      rw [L_at_0, L_at_0] at k4
      exact .inl (by omega)
    · have e := k3 0 (by omega) (by omega)
      rw [L_at_0, L_at_0] at e
      refine .inr ⟨e, k - 1, by omega, by omega, by omega, fun i i0 i1 => ?_, ?_⟩
      · have := k3 (i + 1) (by omega) (by omega)
        rw [L_at_s (by omega), L_at_s (by omega), show i + 1 - 1 = i by omega] at this
        exact this
      · rcases k4 with k4 | k4
        · exact .inl (by omega)
        · rw [L_at_s (by omega), L_at_s (by omega)] at k4
          exact .inr k4
  · rintro (h | ⟨e, k, k0, k1, k2, k3, k4⟩)
    · exact ⟨0, by omega, by show (0 : Int) ≤ ((xs.length + 1 : Nat) : Int); omega, by show (0 : Int) < ((ys.length + 1 : Nat) : Int); omega, fun i i0 i1 => by omega, .inr h⟩
    · refine ⟨k + 1, by omega, by show k + 1 ≤ ((xs.length + 1 : Nat) : Int); omega, by show k + 1 < ((ys.length + 1 : Nat) : Int); omega, fun i i0 i1 => ?_, ?_⟩
      · by_cases c : i = 0
        · subst c
          exact e
        · rw [L_at_s (by omega), L_at_s (by omega)]
          exact k3 _ (by omega) (by omega)
      · rw [L_at_s (by omega), L_at_s (by omega), show k + 1 - 1 = k by omega]
        rcases k4 with k4 | k4
        · exact .inl (by show k + 1 = ((xs.length + 1 : Nat) : Int); omega)
        · exact .inr k4
theorem L_lt_nil {y : Int} {ys : List Int} : L_lt [] (y :: ys) := ⟨0, by omega, Int.le_refl _, by show (0 : Int) < ((ys.length + 1 : Nat) : Int); omega, fun i i0 i1 => by omega, .inl rfl⟩
theorem L_lt_tri : ∀ xs ys : List Int, L_lt xs ys ∨ xs = ys ∨ L_lt ys xs
  | [], [] => .inr (.inl rfl)
  | [], _ :: _ => .inl L_lt_nil
  | _ :: _, [] => .inr (.inr L_lt_nil)
  | x :: xs, y :: ys => by
    rcases (by omega : x < y ∨ x = y ∨ y < x) with c | c | c
    · exact .inl (L_lt_cons.mpr (.inl c))
    · rcases L_lt_tri xs ys with h | h | h
      · exact .inl (L_lt_cons.mpr (.inr ⟨c, h⟩))
      · exact .inr (.inl (by rw [c, h]))
      · exact .inr (.inr (L_lt_cons.mpr (.inr ⟨c.symm, h⟩)))
    · exact .inr (.inr (L_lt_cons.mpr (.inl c)))
/-- not behind, twice -/
theorem L_le_trans {xs ys zs : List Int} (h : ¬ L_lt ys xs) (g : ¬ L_lt zs ys) : ¬ L_lt zs xs := by
  intro e
  rcases L_lt_tri xs ys with a | a | a
  · exact g (L_lt_trans e a)
  · subst a; exact g e
  · exact h a
theorem L_lt_asym {xs ys : List Int} (h : L_lt xs ys) : ¬ L_lt ys xs := fun e => L_lt_irr _ (L_lt_trans h e)
/-- the same sets in another order -/
def F_pm (m : Nat) (φ ψ : Int → List Int) : Prop := (∀ x, x ∈ F_li m ψ ↔ x ∈ F_li m φ) ∧ ((∀ a b : Int, 0 ≤ a → a < m → 0 ≤ b → b < m → φ a = φ b → a = b) → ∀ a b : Int, 0 ≤ a → a < m → 0 ≤ b → b < m → ψ a = ψ b → a = b)
theorem F_pm_sw {m : Nat} {φ ψ : Int → List Int} (h : F_pm m φ ψ) {i k : Int} (i0 : 0 ≤ i) (i1 : i < m) (k0 : 0 ≤ k) (k1 : k < m) : F_pm m φ (F_sw ψ i k) := by
  have pick : ∀ a : Int, 0 ≤ a → a < m → ∃ q : Int, 0 ≤ q ∧ q < m ∧ F_sw ψ i k a = ψ q ∧ (q = if a = k then i else if a = i then k else a) := fun a a0 a1 => by
    unfold F_sw
    by_cases e1 : a = k
    · exact ⟨i, i0, i1, by rw [if_pos e1], by rw [if_pos e1]⟩
    · by_cases e2 : a = i
      · exact ⟨k, k0, k1, by rw [if_neg e1, if_pos e2], by rw [if_neg e1, if_pos e2]⟩
      · exact ⟨a, a0, a1, by rw [if_neg e1, if_neg e2], by rw [if_neg e1, if_neg e2]⟩
  refine ⟨fun x => ?_, fun inj a b a0 a1 b0 b1 e => ?_⟩
  · rw [← h.1 x, F_li_mem, F_li_mem]
    constructor
    · rintro ⟨j, j0, j1, e⟩
      obtain ⟨q, q0, q1, q2, _⟩ := pick j j0 j1
      exact ⟨q, q0, q1, by rw [← q2, e]⟩
    · rintro ⟨j, j0, j1, e⟩
      refine ⟨if j = i then k else if j = k then i else j, by split; exact k0; split; exact i0; exact j0, by split; exact k1; split; exact i1; exact j1, ?_⟩
      rw [← e]
      unfold F_sw
      by_cases e1 : j = i
      · rw [if_pos e1, if_pos rfl, e1]
      · rw [if_neg e1]
        by_cases e2 : j = k
        · rw [if_pos e2]
          by_cases e3 : i = k
          · omega
          · rw [if_neg e3, if_pos rfl, e2]
        · rw [if_neg e2, if_neg e2, if_neg e1]
  · obtain ⟨x, x0, x1, x2, x3⟩ := pick a a0 a1
    obtain ⟨y, y0, y1, y2, y3⟩ := pick b b0 b1
    have := h.2 inj x y x0 x1 y0 y1 (by rw [← x2, ← y2, e])
    by_cases e1 : a = k <;> by_cases e2 : a = i <;> by_cases e3 : b = k <;> by_cases e4 : b = i <;> simp [e1, e2, e3, e4] at x3 y3 <;> omega
/-- sorted up to place i -/
def F_so (ψ : Int → List Int) (i : Int) : Prop := ∀ a b : Int, 0 ≤ a → a < b → b ≤ i → ¬ L_lt (ψ b) (ψ a)
/-- sorted up to place i, but for what stands at k -/
def F_sk (ψ : Int → List Int) (i k : Int) : Prop := (∀ a b : Int, 0 ≤ a → a < b → b ≤ i → a ≠ k → b ≠ k → ¬ L_lt (ψ b) (ψ a)) ∧ ∀ b : Int, k < b → b ≤ i → ¬ L_lt (ψ b) (ψ k)
theorem F_sk_end {ψ : Int → List Int} {i k : Int} (h : F_sk ψ i k) (k0 : 0 ≤ k) (c : k = 0 ∨ ¬ L_lt (ψ k) (ψ (k - 1))) : F_so ψ i := by
  intro a b a0 ab bi
  by_cases e1 : a = k
  · subst e1
    exact h.2 b ab bi
  · by_cases e2 : b = k
    · subst e2
      rcases c with c | c
      · omega
      · by_cases e3 : a = b - 1
        · subst e3; exact c
        · exact L_le_trans (h.1 a (b - 1) a0 (by omega) (by omega) e1 (by omega)) c
    · exact h.1 a b a0 ab bi e1 e2
theorem F_sk_sw {ψ : Int → List Int} {i k : Int} (h : F_sk ψ i k) (k0 : 0 < k) (ki : k ≤ i) (c : L_lt (ψ k) (ψ (k - 1))) : F_sk (F_sw ψ k (k - 1)) i (k - 1) := by
  have s1 : F_sw ψ k (k - 1) k = ψ (k - 1) := by unfold F_sw; rw [if_neg (by omega), if_pos rfl]
  have s2 : F_sw ψ k (k - 1) (k - 1) = ψ k := by unfold F_sw; rw [if_pos rfl]
  have s3 : ∀ a, a ≠ k → a ≠ k - 1 → F_sw ψ k (k - 1) a = ψ a := fun a e1 e2 => by unfold F_sw; rw [if_neg e2, if_neg e1]
  refine ⟨fun a b a0 ab bi na nb => ?_, fun b kb bi => ?_⟩
  · by_cases e1 : a = k
    · subst e1
      rw [s1, s3 b (by omega) nb]
      exact h.1 _ b (by omega) (by omega) bi (by omega) (by omega)
    · by_cases e2 : b = k
      · subst e2
        rw [s1, s3 a e1 na]
        exact h.1 a _ a0 (by omega) (by omega) e1 (by omega)
      · rw [s3 a e1 na, s3 b e2 nb]
        exact h.1 a b a0 ab bi e1 e2
  · rw [s2]
    by_cases e2 : b = k
    · subst e2
      rw [s1]
      exact L_lt_asym c
    · rw [s3 b e2 (by omega)]
      exact h.2 b (by omega) bi
theorem C_ord1 {d : Nat} {h0 : E_H} {s : C_S} {sl : Nat} {Φ : E_R → Prop} {p : List Nat} {f qa ma R B m : Nat} {φ : Int → List Int} {i : Int} (i0 : 0 ≤ i) (im : i < m) (kont : ∀ (k : Int) (u : C_S) (h : E_H) (ψ : Int → List Int), C_is h0 h u → D_Fm u p f qa ma R B m ψ → C_fr (fun t => p <+: t) s u → C_n u = C_n s → C_fw u qa R = C_fw s qa R → F_pm m φ ψ → F_so ψ i → B_R (d + 2) E_m12 (48, [(2, .int (Zi k)), (1, .int (Zi i)), (0, .ref f)], []) h sl Φ) : ∀ (t : Nat) (k : Int) (u : C_S) (h : E_H) (ψ : Int → List Int), k < t → C_is h0 h u → D_Fm u p f qa ma R B m ψ → C_fr (fun t => p <+: t) s u → C_n u = C_n s → C_fw u qa R = C_fw s qa R → F_pm m φ ψ → F_sk ψ i k → 0 ≤ k → k ≤ i → B_R (d + 2) E_m12 (12, [(2, .int (Zi k)), (1, .int (Zi i)), (0, .ref f)], []) h sl Φ := by
  intro t
  induction t with
  | zero => intro k u h ψ ht hs hf fr en ew pm sk k0 k1; omega
  | succ t ih =>
    intro k u h ψ ht hs hf fr en ew pm sk k0 k1
    have hf0 := hf
    obtain ⟨⟨fk, ft, fp, fq, qk, qt, mk, mt, fn, fl, f1⟩, g1, g2, g3⟩ := hf
    have zR := (hs.len (by decide) qk).1
    refine Z_go (f2 := (13, [(2, .int (Zi k)), (1, .int (Zi i)), (0, .ref f)], [.int (Zi k)])) (fun _ => rfl) ?_
    refine Z_ile rfl rfl (by first | exact hs.zF _ _ | exact Zor_r _ _ | exact hs.zA _ _ | assumption | exact zA _ _ | exact zS _ | exact Zr_not (hs.zA _ _) | exact hs.1.1 _ _ | exact ⟨by omega, by omega⟩) (fun c1 => ?_) (fun c1 => ?_)
    · refine B_loc (K := [(2, .int (Zi k)), (1, .int (Zi i)), (0, .ref f)]) (N_all_sub ⟨rfl, rfl, rfl, trivial⟩) (show ([2, 1, 0] : List Nat).Nodup by decide) ?_
      exact kont k u h ψ hs hf0 fr en ew pm (F_sk_end sk k0 (.inl (by omega)))
    · refine Z_go (f2 := (17, [(2, .int (Zi k)), (1, .int (Zi i)), (0, .ref f)], [.ref f])) (fun _ => rfl) ?_
      refine Z_go (f2 := (18, [(2, .int (Zi k)), (1, .int (Zi i)), (0, .ref f)], [.int (Zi k), .ref f])) (fun _ => rfl) ?_
      refine C_callVR (As := [.int (Zi k)]) (rest := []) rfl (by decide) rfl (by decide) rfl rfl (by decide +kernel) (Nat.le_of_ble_eq_true rfl) hs fk (C_row_rd _ hf0 (i := k) (by omega) (by omega)) (fun x q => ?_)
      obtain ⟨r77, a77, cap77, rfl, hq77, hr77, hb77⟩ := q
      have zr77 := D_Row.zr hs hr77
      show B_R _ _ (21, [(2, .int (Zi k)), (1, .int (Zi i)), (0, .ref f)], [.ref r77]) _ _ _
      refine Z_go (f2 := (22, [(2, .int (Zi k)), (1, .int (Zi i)), (0, .ref f)], [.ref f, .ref r77])) (fun _ => rfl) ?_
      refine Z_go (f2 := (23, [(2, .int (Zi k)), (1, .int (Zi i)), (0, .ref f)], [.int (Zi k), .ref f, .ref r77])) (fun _ => rfl) ?_
      refine Z_go (f2 := (24, [(2, .int (Zi k)), (1, .int (Zi i)), (0, .ref f)], [.int (Zi 1), .int (Zi k), .ref f, .ref r77])) (fun _ => rfl) ?_
      refine Z_isub rfl ?_
      refine C_callVR (As := [.int (Zi (k - 1))]) (rest := [.ref r77]) rfl (by decide) rfl (by decide) rfl rfl (by decide +kernel) (Nat.le_of_ble_eq_true rfl) hs fk (C_row_rd _ hf0 (i := k - 1) (by omega) (by omega)) (fun x q => ?_)
      obtain ⟨r78, a78, cap78, rfl, hq78, hr78, hb78⟩ := q
      have zr78 := D_Row.zr hs hr78
      show B_R _ _ (28, [(2, .int (Zi k)), (1, .int (Zi i)), (0, .ref f)], [.ref r78, .ref r77]) _ _ _
      refine C_callVR (As := [.ref r78]) (rest := []) rfl (by decide) rfl (by decide) rfl rfl (by decide +kernel) (Nat.le_of_ble_eq_true rfl) hs hr77.1 (C_ahead _ hr77 hr78) (fun x q => ?_)
      obtain ⟨za79, rfl, ha79⟩ := q
      have zza : Zr za79 := by rcases ha79 with e | e <;> exact ⟨by omega, by omega⟩
      show B_R _ _ (31, [(2, .int (Zi k)), (1, .int (Zi i)), (0, .ref f)], [.int (Zi za79)]) _ _ _
      refine Z_ieq rfl rfl (by first | exact hs.zF _ _ | exact Zor_r _ _ | exact hs.zA _ _ | assumption | exact zA _ _ | exact zS _ | exact Zr_not (hs.zA _ _) | exact hs.1.1 _ _ | exact ⟨by omega, by omega⟩) (fun c2 => ?_) (fun c2 => ?_)
      · refine B_loc (K := [(2, .int (Zi k)), (1, .int (Zi i)), (0, .ref f)]) (N_all_sub ⟨rfl, rfl, rfl, trivial⟩) (show ([2, 1, 0] : List Nat).Nodup by decide) ?_
        exact kont k u h ψ hs hf0 fr en ew pm (F_sk_end sk k0 (.inr (by rcases ha79 with e | e; omega; exact e.2)))
      · refine Z_go (f2 := (35, [(2, .int (Zi k)), (1, .int (Zi i)), (0, .ref f)], [.ref f])) (fun _ => rfl) ?_
        refine Z_go (f2 := (36, [(2, .int (Zi k)), (1, .int (Zi i)), (0, .ref f)], [.int (Zi k), .ref f])) (fun _ => rfl) ?_
        refine Z_go (f2 := (37, [(2, .int (Zi k)), (1, .int (Zi i)), (0, .ref f)], [.int (Zi k), .int (Zi k), .ref f])) (fun _ => rfl) ?_
        refine Z_go (f2 := (38, [(2, .int (Zi k)), (1, .int (Zi i)), (0, .ref f)], [.int (Zi 1), .int (Zi k), .int (Zi k), .ref f])) (fun _ => rfl) ?_
        refine Z_isub rfl ?_
        refine C_callV (As := [.int (Zi k), .int (Zi (k - 1))]) (rest := []) rfl (by decide) rfl (by decide) rfl rfl (by decide +kernel) (Nat.le_of_ble_eq_true rfl) hs fk (C_swap _ hf0 (i := k) (k := k - 1) (by omega) (by omega) (by omega) (by omega)) (fun x h v n hs q => ?_)
        obtain ⟨rfl, rfl, x1, x2, x3, x4⟩ := q
        show B_R _ _ (42, [(2, .int (Zi k)), (1, .int (Zi i)), (0, .ref f)], []) _ _ _
        refine Z_iinc (L2 := [(2, .int (Zi (k + (-1)))), (1, .int (Zi i)), (0, .ref f)]) rfl rfl (by decide) rfl ?_
        refine Z_go (f2 := (12, [(2, .int (Zi (k + (-1)))), (1, .int (Zi i)), (0, .ref f)], [])) (fun _ => rfl) ?_
        refine B_loc (K := [(2, .int (Zi (k + (-1)))), (1, .int (Zi i)), (0, .ref f)]) (N_all_sub ⟨rfl, rfl, rfl, trivial⟩) (show ([2, 1, 0] : List Nat).Nodup by decide) ?_
        exact ih _ v h _ (by omega) hs x1 (fr.tr x2) (by omega) (by omega) (F_pm_sw pm (by omega) (by omega) (by omega) (by omega)) (F_sk_sw sk (by omega) k1 (by rcases ha79 with e | e; exact e.2; omega)) (by omega) (by omega)
theorem C_ord2 {d : Nat} {h0 : E_H} {s : C_S} {p : List Nat} {f qa ma R B m : Nat} {φ : Int → List Int} : ∀ (t : Nat) (i : Int) (u : C_S) (h : E_H) (ψ : Int → List Int), (m : Int) + 1 - i < t → C_is h0 h u → D_Fm u p f qa ma R B m ψ → C_fr (fun t => p <+: t) s u → C_n u = C_n s → C_fw u qa R = C_fw s qa R → F_pm m φ ψ → F_so ψ (i - 1) → 1 ≤ i → (i ≤ m ∨ i = 1) → B_R (d + 2) E_m12 (2, [(1, .int (Zi i)), (0, .ref f)], []) h 0 (fun r => ∃ s2 : C_S, C_is h0 r.2.1 s2 ∧ (fun (x : Option Value) (s2 : C_S) (n : Nat) => x = none ∧ n = 0 ∧ C_n s2 = C_n s ∧ C_fw s2 qa R = C_fw s qa R ∧ C_fr (fun t => p <+: t) s s2 ∧ ∃ ψ, D_Fm s2 p f qa ma R B m ψ ∧ F_pm m φ ψ ∧ F_so ψ (m - 1)) r.1 s2 r.2.2) := by
  intro t
  induction t with
  | zero => intro i u h ψ ht hs hf fr en ew pm so i0 i1; omega
  | succ t ih =>
    intro i u h ψ ht hs hf fr en ew pm so i0 i1
    have hf0 := hf
    obtain ⟨⟨fk, ft, fp, fq, qk, qt, mk, mt, fn, fl, f1⟩, g1, g2, g3⟩ := hf
    have zR := (hs.len (by decide) qk).1
    refine Z_go (f2 := (3, [(1, .int (Zi i)), (0, .ref f)], [.int (Zi i)])) (fun _ => rfl) ?_
    refine Z_go (f2 := (4, [(1, .int (Zi i)), (0, .ref f)], [.ref f, .int (Zi i)])) (fun _ => rfl) ?_
    refine C_gi rfl hs fk (by decide) (Nat.le_of_ble_eq_true rfl) rfl ?_
    rw [show C_F (u) f 2 = (m : Int) from (by first | exact fn | exact (if_neg (fun e => absurd e.1 (by assumption))).trans fn)]
    show B_R _ _ (7, [(1, .int (Zi i)), (0, .ref f)], [.int (Zi ((m : Int))), .int (Zi i)]) _ _ _
    refine Z_cge rfl rfl (by first | exact hs.zF _ _ | exact Zor_r _ _ | exact hs.zA _ _ | assumption | exact zA _ _ | exact zS _ | exact Zr_not (hs.zA _ _) | exact hs.1.1 _ _ | exact ⟨by omega, by omega⟩) (by first | exact hs.zF _ _ | exact Zor_r _ _ | exact hs.zA _ _ | assumption | exact zA _ _ | exact zS _ | exact Zr_not (hs.zA _ _) | exact hs.1.1 _ _ | exact ⟨by omega, by omega⟩) (fun c1 => ?_) (fun c1 => ?_)
    · refine Z_ret rfl rfl ⟨_, hs, ?_⟩
      try dsimp only
      exact ⟨rfl, rfl, en, ew, fr, ψ, hf0, pm, fun a b a0 ab bi => so a b a0 ab (by omega)⟩
    · refine Z_go (f2 := (11, [(1, .int (Zi i)), (0, .ref f)], [.int (Zi i)])) (fun _ => rfl) ?_
      refine Z_go (f2 := (12, [(2, .int (Zi i)), (1, .int (Zi i)), (0, .ref f)], [])) (fun _ => rfl) ?_
      refine B_loc (K := [(2, .int (Zi i)), (1, .int (Zi i)), (0, .ref f)]) (N_all_sub ⟨rfl, rfl, rfl, trivial⟩) (show ([2, 1, 0] : List Nat).Nodup by decide) ?_
      refine C_ord1 (by omega) (by omega) (fun k v h ψ hs hf fr en ew pm so => ?_) (i.toNat + 1) i u h ψ (by omega) hs hf0 fr en ew pm ⟨fun a b a0 ab bi na nb => so a b a0 ab (by omega), fun b kb bi => by omega⟩ (by omega) (by omega)
      refine Z_iinc (L2 := [(1, .int (Zi (i + 1))), (2, .int (Zi k)), (0, .ref f)]) rfl rfl (by decide) rfl ?_
      refine Z_go (f2 := (2, [(1, .int (Zi (i + 1))), (2, .int (Zi k)), (0, .ref f)], [])) (fun _ => rfl) ?_
      refine B_loc (K := [(1, .int (Zi (i + 1))), (0, .ref f)]) (N_all_sub ⟨rfl, rfl, trivial⟩) (show ([1, 0] : List Nat).Nodup by decide) ?_
      exact ih _ v h _ (by omega) hs hf fr en ew pm (by rw [show i + 1 - 1 = i by omega]; exact so) (by omega) (by omega)
theorem C_order (d : Nat) {s : C_S} {p : List Nat} {f qa ma R B m : Nat} {φ : Int → List Int} (hf : D_Fm s p f qa ma R B m φ) : C_ok (d + 3) 12 [.ref f] s (fun x s2 n => x = none ∧ n = 0 ∧ C_n s2 = C_n s ∧ C_fw s2 qa R = C_fw s qa R ∧ C_fr (fun t => p <+: t) s s2 ∧ ∃ ψ, D_Fm s2 p f qa ma R B m ψ ∧ F_pm m φ ψ ∧ F_so ψ (m - 1)) := by
  refine C_enter (M := E_m12) rfl (Nat.le_of_ble_eq_true rfl) (fun h0 h hs => ?_)
  show B_R (d + 2) _ (0, [(0, .ref f)], []) _ _ _
  have hf0 := hf
  have w := hs.1
  obtain ⟨⟨fk, ft, fp, fq, qk, qt, mk, mt, fn, fl, f1⟩, g1, g2, g3⟩ := hf
  have zR := (hs.len (by decide) qk).1
  have neF := hf0.ne
  refine Z_go (f2 := (1, [(0, .ref f)], [.int (Zi 1)])) (fun _ => rfl) ?_
  refine Z_go (f2 := (2, [(1, .int (Zi 1)), (0, .ref f)], [])) (fun _ => rfl) ?_
  refine B_loc (K := [(1, .int (Zi 1)), (0, .ref f)]) (N_all_sub ⟨rfl, rfl, trivial⟩) (show ([1, 0] : List Nat).Nodup by decide) ?_
  exact C_ord2 (m + 2) 1 s h φ (by omega) hs hf0 (C_fr.refl _ _) rfl rfl ⟨fun _ => Iff.rfl, fun e => e⟩ (fun a b a0 ab bi => by omega) (by omega) (by omega)
