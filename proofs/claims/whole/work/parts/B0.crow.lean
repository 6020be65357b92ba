/-! the class: Row -/
theorem fits_b01 {z : Int} (h : z = 0 ∨ z = 1) : fits .boolean (.int (Zi z)) = true := by
  rcases h with rfl | rfl <;> rfl
/-- what stands in a list, -1 elsewhere -/
def L_at (xs : List Int) (i : Int) : Int := if 0 ≤ i then xs.getD i.toNat (-1) else -1
theorem L_at_out {xs : List Int} {i : Int} (h : i < 0 ∨ (xs.length : Int) ≤ i) : L_at xs i = -1 := by
  unfold L_at
  split
  · rw [List.getD_eq_getElem?_getD, List.getElem?_eq_none (by omega)]
    rfl
  · rfl
theorem L_at_0 (x : Int) (xs : List Int) : L_at (x :: xs) 0 = x := rfl
theorem L_at_s {x : Int} {xs : List Int} {i : Int} (h : 0 < i) : L_at (x :: xs) i = L_at xs (i - 1) := by
  unfold L_at
  rw [if_pos (by omega), if_pos (by omega), show i.toNat = (i - 1).toNat + 1 by omega]
  rfl
theorem L_at_nat {xs : List Int} {i : Nat} (h : i < xs.length) : L_at xs i = xs[i] := by
  unfold L_at
  rw [if_pos (by omega), Int.toNat_natCast, List.getD_eq_getElem?_getD, List.getElem?_eq_getElem h]
  rfl
theorem L_at_mem {xs : List Int} {v : Int} : v ∈ xs ↔ ∃ i : Int, 0 ≤ i ∧ i < xs.length ∧ L_at xs i = v := by
  constructor
  · intro h
    obtain ⟨i, hi, e⟩ := List.getElem_of_mem h
    exact ⟨i, by omega, by omega, by rw [L_at_nat hi, e]⟩
  · rintro ⟨i, i0, i1, e⟩
    obtain ⟨k, rfl⟩ := Int.eq_ofNat_of_zero_le i0
    rw [L_at_nat (by omega)] at e
    rw [← e]
    exact List.getElem_mem _
theorem L_at_app {xs ys : List Int} {i : Int} (h : i < xs.length) : L_at (xs ++ ys) i = L_at xs i := by
  unfold L_at
  split
  · rw [List.getD_eq_getElem?_getD, List.getD_eq_getElem?_getD, List.getElem?_append_left (by omega)]
  · rfl
theorem L_at_app2 {xs ys : List Int} {i : Int} (h : xs.length ≤ i) : L_at (xs ++ ys) i = L_at ys (i - xs.length) := by
  unfold L_at
  rw [if_pos (by omega), if_pos (by omega), List.getD_eq_getElem?_getD, List.getD_eq_getElem?_getD, List.getElem?_append_right (by omega)]
  congr 2
  omega
theorem L_at_ext {xs ys : List Int} (hl : xs.length = ys.length) (h : ∀ i : Int, 0 ≤ i → i < xs.length → L_at xs i = L_at ys i) : xs = ys := by
  apply List.ext_getElem hl
  intro i h1 h2
  have := h i (by omega) (by omega)
  rw [L_at_nat h1, L_at_nat h2] at this
  exact this
theorem L_at_srt {xs : List Int} (h : L_srt xs) : ∀ i j : Int, 0 ≤ i → i < j → j < xs.length → L_at xs i < L_at xs j := by
  induction xs with
  | nil => intro i j h1 h2 h3; simp at h3; omega
  | cons x xs ih =>
    intro i j h1 h2 h3
    have h3 : j < (xs.length + 1 : Nat) := h3
    rw [L_at_s (show 0 < j by omega)]
    by_cases c : i = 0
    · subst c
      rw [L_at_0]
      exact h.1 _ (L_at_mem.mpr ⟨j - 1, by omega, by omega, rfl⟩)
    · rw [L_at_s (by omega)]
      exact ih h.2 _ _ (by omega) (by omega) (by omega)
/-- how many are less -/
def L_pl (xs : List Int) (v : Int) : Nat := match xs with
  | [] => 0
  | x :: xs => if x < v then L_pl xs v + 1 else 0
theorem L_pl_le (xs : List Int) (v : Int) : L_pl xs v ≤ xs.length := by
  induction xs with
  | nil => exact Nat.le_refl _
  | cons x xs ih =>
    unfold L_pl
    split
    · exact Nat.succ_le_succ ih
    · exact Nat.zero_le _
theorem L_pl_eq {xs : List Int} {v : Int} {k : Int} (k0 : 0 ≤ k) (k1 : k ≤ xs.length) (h1 : ∀ i : Int, 0 ≤ i → i < k → L_at xs i < v) (h2 : k < xs.length → v ≤ L_at xs k) : k = L_pl xs v := by
  induction xs generalizing k with
  | nil => have k1 : k ≤ (0 : Nat) := k1; show k = (0 : Nat); omega
  | cons x xs ih =>
    have k1 : k ≤ (xs.length + 1 : Nat) := k1
    unfold L_pl
    by_cases c : k = 0
    · subst c
      have := h2 (by show (0 : Int) < (xs.length + 1 : Nat); omega)
      rw [L_at_0] at this
      rw [if_neg (by omega)]
      rfl
    · have a0 := h1 0 (by omega) (by omega)
      rw [L_at_0] at a0
      rw [if_pos a0]
      have := ih (k := k - 1) (by omega) (by omega) (fun i i0 i1 => by have := h1 (i + 1) (by omega) (by omega); rw [L_at_s (by omega), show i + 1 - 1 = i by omega] at this; exact this) (fun hk => by have := h2 (by show k < (xs.length + 1 : Nat); omega); rw [L_at_s (by omega)] at this; exact this)
      omega
theorem L_pl_mem {xs : List Int} {v : Int} (h : L_srt xs) : v ∈ xs ↔ (L_pl xs v : Int) < xs.length ∧ L_at xs (L_pl xs v) = v := by
  constructor
  · intro hm
    obtain ⟨i, i0, i1, e⟩ := L_at_mem.mp hm
    have hp := L_pl_eq (xs := xs) (v := v) i0 (by omega) (fun j j0 j1 => by have := L_at_srt h j i j0 j1 i1; omega) (fun _ => by omega)
    rw [← hp]
    exact ⟨i1, e⟩
  · rintro ⟨h1, h2⟩
    exact L_at_mem.mpr ⟨_, by omega, h1, h2⟩
theorem L_ins_in {xs : List Int} {v : Int} (h : L_srt xs) (hm : v ∈ xs) : L_ins v xs = xs := by
  induction xs with
  | nil => cases hm
  | cons x xs ih =>
    unfold L_ins
    rcases List.mem_cons.mp hm with rfl | hm
    · rw [if_neg (by omega), if_pos rfl]
    · have := h.1 v hm
      rw [if_neg (by omega), if_neg (by omega), ih h.2 hm]
theorem L_ins_len {xs : List Int} {v : Int} (hm : v ∉ xs) : (L_ins v xs).length = xs.length + 1 := by
  induction xs with
  | nil => rfl
  | cons x xs ih =>
    unfold L_ins
    split
    · rfl
    · split
      · rename_i e; subst e; exact absurd (List.mem_cons_self ..) hm
      · show _ + 1 = _ + 1
        rw [ih (fun e => hm (List.mem_cons_of_mem _ e))]
        rfl
theorem L_ins_le (xs : List Int) (v : Int) : (L_ins v xs).length ≤ xs.length + 1 := by
  induction xs with
  | nil => exact Nat.le_refl _
  | cons x xs ih =>
    unfold L_ins
    split
    · exact Nat.le_refl _
    · split
      · exact Nat.le_succ _
      · exact Nat.succ_le_succ ih
theorem L_ins_at {xs : List Int} {v : Int} (hm : v ∉ xs) {i : Int} (i0 : 0 ≤ i) : L_at (L_ins v xs) i = if i < L_pl xs v then L_at xs i else if i = L_pl xs v then v else L_at xs (i - 1) := by
  induction xs generalizing i with
  | nil =>
    show L_at [v] i = if i < (0 : Nat) then _ else if i = (0 : Nat) then v else L_at [] (i - 1)
    rw [if_neg (by omega)]
    split
    · rename_i e
      subst e
      rfl
    · rw [L_at_s (by omega)]
  | cons x xs ih =>
    unfold L_ins L_pl
    have hx : v ≠ x := fun e => hm (e ▸ List.mem_cons_self ..)
    have hm2 : v ∉ xs := fun e => hm (List.mem_cons_of_mem _ e)
    by_cases c : v < x
    · rw [if_pos c, if_neg (show ¬ x < v by omega), if_neg (by omega)]
      by_cases e : i = 0
      · subst e
        rw [if_pos (show (0 : Int) = ((0 : Nat) : Int) from rfl)]
        rfl
      · rw [if_neg (by omega), L_at_s (by omega)]
    · rw [if_neg c, if_neg hx, if_pos (show x < v by omega)]
      by_cases e : i = 0
      · subst e
        rw [if_pos (by omega), L_at_0, L_at_0]
      · rw [show L_at (x :: L_ins v xs) i = L_at (L_ins v xs) (i - 1) from L_at_s (by omega), ih hm2 (by omega)]
        by_cases e1 : i - 1 < L_pl xs v
        · rw [if_pos e1, if_pos (by omega), L_at_s (by omega)]
        · rw [if_neg e1, if_neg (show ¬ i < ((L_pl xs v + 1 : Nat) : Int) by omega)]
          by_cases e2 : i - 1 = L_pl xs v
          · rw [if_pos e2, if_pos (by omega)]
          · rw [if_neg e2, if_neg (by omega), show L_at (x :: xs) (i - 1) = L_at xs (i - 1 - 1) from L_at_s (by omega)]
/-- a Row at o, its path p, its numbers in the row a of cap ints -/
def D_Row (s : C_S) (p : List Nat) (o a cap : Nat) (xs : List Int) : Prop := C_K s o = (15, 0) ∧ C_T s o = p ∧ C_P s o 0 = some a ∧ C_K s a = (0, cap) ∧ C_T s a = p ∧ C_F s o 1 = xs.length ∧ xs.length ≤ cap ∧ 8 ≤ cap ∧ ∀ i : Int, 0 ≤ i → i < xs.length → C_A s a i = L_at xs i
theorem C_lt {s : C_S} (w : C_wf s) {o : Nat} {k : Nat × Nat} (hk : C_K s o = k) (h : k.1 < 20) : o < C_n s := (w.2.2.2.1 o (by rw [hk]; exact h)).1
theorem D_Row.fr {X : List Nat → Prop} {s s2 : C_S} {p : List Nat} {o a cap : Nat} {xs : List Int} (h : D_Row s p o a cap xs) (w : C_wf s) (f : C_fr X s s2) (hX : ¬ X p) : D_Row s2 p o a cap xs := by
  obtain ⟨h1, h2, h3, h4, h5, h6, h7, h8, h9⟩ := h
  have lo := C_lt w h1 (show 15 < 20 by decide)
  have la := C_lt w h4 (show 0 < 20 by decide)
  obtain ⟨f1, f2, f3, f4⟩ := f
  have ko := f2 o lo
  have ka := f2 a la
  have eo := f3 o lo (by rw [h2]; exact hX)
  have ea := f3 a la (by rw [h5]; exact hX)
  refine ⟨by rw [ko.1]; exact h1, by rw [ko.2]; exact h2, by rw [eo.2.1]; exact h3, by rw [ka.1]; exact h4, by rw [ka.2]; exact h5, by rw [eo.1]; exact h6, h7, h8, fun i i0 i1 => by rw [ea.2.2.1]; exact h9 i i0 i1⟩
theorem D_Row.zr {h0 h : E_H} {s : C_S} (hs : C_is h0 h s) {p : List Nat} {o a cap : Nat} {xs : List Int} (hr : D_Row s p o a cap xs) : (xs.length : Int) ≤ cap ∧ (cap : Int) < 2147483648 ∧ C_A s a = C_A s a := ⟨by have := hr.2.2.2.2.2.2.1; omega, by have := (hs.len (by decide) hr.2.2.2.1).1; omega, rfl⟩
theorem D_Row.zat {h0 h : E_H} {s : C_S} (hs : C_is h0 h s) {p : List Nat} {o a cap : Nat} {xs : List Int} (hr : D_Row s p o a cap xs) (i : Int) : Zr (L_at xs i) := by
  by_cases c : 0 ≤ i ∧ i < xs.length
  · rw [← hr.2.2.2.2.2.2.2.2 i c.1 c.2]
    exact hs.zA _ _
  · rw [L_at_out (by omega)]
    exact ⟨by omega, by omega⟩
/-- what a change of a Row leaves: what it holds then, what it took -/
def D_rw (p : List Nat) (o cap : Nat) (ys : List Int) (B : Int) (s s2 : C_S) (n : Nat) : Prop := ∃ a2 cap2, D_Row s2 p o a2 cap2 ys ∧ C_fr (fun t => t = p) s s2 ∧ n + 2 * cap ≤ 2 * cap2 ∧ 8 * C_n s2 + cap ≤ 8 * C_n s + cap2 ∧ ((cap2 : Int) ≤ cap ∨ (cap2 : Int) ≤ 2 * B)
theorem C_at_ (d : Nat) {s : C_S} {p : List Nat} {o a cap : Nat} {xs : List Int} {i : Int} (hr : D_Row s p o a cap xs) (zi : Zr i) : C_rd (d + 1) 88 [.ref o, .int (Zi i)] s (fun x => x = some (.int (Zi (L_at xs i)))) := by
  refine C_enterR (M := E_m88) rfl (Nat.le_of_ble_eq_true rfl) (fun h0 h hs => ?_)
  show B_R (d + 0) _ (0, [(0, .ref o), (1, .int (Zi i))], []) _ _ _
  obtain ⟨rk, rt, rp, ra, rs, rm, rl, r8, ri⟩ := hr
  have z := D_Row.zr hs ⟨rk, rt, rp, ra, rs, rm, rl, r8, ri⟩
  refine Z_go (f2 := (1, [(0, .ref o), (1, .int (Zi i))], [.int (Zi i)])) (fun _ => rfl) ?_
  refine Z_ilt rfl rfl (by first | exact hs.zF _ _ | exact Zor_r _ _ | exact hs.zA _ _ | assumption | exact zA _ _ | exact zS _ | exact Zr_not (hs.zA _ _) | exact hs.1.1 _ _ | exact ⟨by omega, by omega⟩) (fun c1 => ?_) (fun c1 => ?_)
  · refine Z_go (f2 := (31, [(0, .ref o), (1, .int (Zi i))], [.int (Zi (-1))])) (fun _ => rfl) ?_
    refine Z_iret rfl rfl (by first | rfl | decide | exact narrow_b01 (by omega)) ⟨rfl, rfl, ?_⟩
    try dsimp only
    rw [L_at_out (by omega)]
  · refine Z_go (f2 := (5, [(0, .ref o), (1, .int (Zi i))], [.int (Zi i)])) (fun _ => rfl) ?_
    refine Z_go (f2 := (6, [(0, .ref o), (1, .int (Zi i))], [.ref o, .int (Zi i)])) (fun _ => rfl) ?_
    refine C_gi rfl hs rk (by decide) (Nat.le_of_ble_eq_true rfl) rfl ?_
    rw [show C_F (s) o 1 = (xs.length : Int) from (by first | exact rm | exact (if_neg (fun e => absurd e.1 (by assumption))).trans rm)]
    show B_R _ _ (9, [(0, .ref o), (1, .int (Zi i))], [.int (Zi ((xs.length : Int))), .int (Zi i)]) _ _ _
    refine Z_cge rfl rfl (by first | exact hs.zF _ _ | exact Zor_r _ _ | exact hs.zA _ _ | assumption | exact zA _ _ | exact zS _ | exact Zr_not (hs.zA _ _) | exact hs.1.1 _ _ | exact ⟨by omega, by omega⟩) (by first | exact hs.zF _ _ | exact Zor_r _ _ | exact hs.zA _ _ | assumption | exact zA _ _ | exact zS _ | exact Zr_not (hs.zA _ _) | exact hs.1.1 _ _ | exact ⟨by omega, by omega⟩) (fun c2 => ?_) (fun c2 => ?_)
    · refine Z_go (f2 := (31, [(0, .ref o), (1, .int (Zi i))], [.int (Zi (-1))])) (fun _ => rfl) ?_
      refine Z_iret rfl rfl (by first | rfl | decide | exact narrow_b01 (by omega)) ⟨rfl, rfl, ?_⟩
      try dsimp only
      rw [L_at_out (by omega)]
    · refine Z_go (f2 := (13, [(0, .ref o), (1, .int (Zi i))], [.int (Zi i)])) (fun _ => rfl) ?_
      refine Z_go (f2 := (14, [(0, .ref o), (1, .int (Zi i))], [.ref o, .int (Zi i)])) (fun _ => rfl) ?_
      refine C_gr rfl hs rk (by decide) (Nat.le_of_ble_eq_true rfl) rfl rp ?_
      refine C_al rfl hs ra (by decide) ?_
      show B_R _ _ (18, [(0, .ref o), (1, .int (Zi i))], [.int (Zi ((cap : Int))), .int (Zi i)]) _ _ _
      refine Z_cge rfl rfl (by first | exact hs.zF _ _ | exact Zor_r _ _ | exact hs.zA _ _ | assumption | exact zA _ _ | exact zS _ | exact Zr_not (hs.zA _ _) | exact hs.1.1 _ _ | exact ⟨by omega, by omega⟩) (by first | exact hs.zF _ _ | exact Zor_r _ _ | exact hs.zA _ _ | assumption | exact zA _ _ | exact zS _ | exact Zr_not (hs.zA _ _) | exact hs.1.1 _ _ | exact ⟨by omega, by omega⟩) (fun c3 => ?_) (fun c3 => ?_)
      · refine Z_go (f2 := (31, [(0, .ref o), (1, .int (Zi i))], [.int (Zi (-1))])) (fun _ => rfl) ?_
        refine Z_iret rfl rfl (by first | rfl | decide | exact narrow_b01 (by omega)) ⟨rfl, rfl, ?_⟩
        try dsimp only
        rw [L_at_out (by omega)]
      · refine Z_go (f2 := (22, [(0, .ref o), (1, .int (Zi i))], [.ref o])) (fun _ => rfl) ?_
        refine C_gr rfl hs rk (by decide) (Nat.le_of_ble_eq_true rfl) rfl rp ?_
        refine Z_go (f2 := (26, [(0, .ref o), (1, .int (Zi i))], [.int (Zi i), .ref a])) (fun _ => rfl) ?_
        refine C_ia rfl hs ra (by omega) (by omega) ?_
        show B_R _ _ (27, [(0, .ref o), (1, .int (Zi i))], [.int (Zi (C_A s a i))]) _ _ _
        refine Z_go (f2 := (31, [(0, .ref o), (1, .int (Zi i))], [.int (Zi (C_A s a i))])) (fun _ => rfl) ?_
        refine Z_iret rfl rfl (by first | rfl | decide | exact narrow_b01 (by omega)) ⟨rfl, rfl, ?_⟩
        try dsimp only
        rw [← ri i (by omega) (by omega)]
theorem D_Row_0 {s : C_S} {p : List Nat} {o a cap : Nat} {xs : List Int} (hr : D_Row s p o a cap xs) : D_Row (C_sF s o 1 0) p o a cap [] := by
  obtain ⟨rk, rt, rp, ra, rs, rm, rl, r8, ri⟩ := hr
  exact ⟨rk, rt, rp, ra, rs, if_pos ⟨rfl, rfl⟩, Nat.zero_le _, r8, fun i i0 i1 => absurd i1 (by show ¬ i < ((0 : Nat) : Int); omega)⟩
theorem C_clear (d : Nat) {s : C_S} {p : List Nat} {o a cap : Nat} {xs : List Int} (hr : D_Row s p o a cap xs) : C_ok (d + 1) 89 [.ref o] s (fun x s2 n => x = none ∧ n = 0 ∧ D_Row s2 p o a cap [] ∧ C_fr (fun t => t = p) s s2 ∧ C_n s2 = C_n s) := by
  refine C_enter (M := E_m89) rfl (Nat.le_of_ble_eq_true rfl) (fun h0 h hs => ?_)
  show B_R (d + 0) _ (0, [(0, .ref o)], []) _ _ _
  have h0r := D_Row_0 hr
  obtain ⟨rk, rt, rp, ra, rs, rm, rl, r8, ri⟩ := hr
  have z := D_Row.zr hs ⟨rk, rt, rp, ra, rs, rm, rl, r8, ri⟩
  refine Z_go (f2 := (1, [(0, .ref o)], [.ref o])) (fun _ => rfl) ?_
  refine Z_go (f2 := (2, [(0, .ref o)], [.int (Zi 0), .ref o])) (fun _ => rfl) ?_
  refine C_pi rfl hs rk (by decide) (Nat.le_of_ble_eq_true rfl) (.inl rfl) rfl rfl rfl (by first | exact hs.zF _ _ | exact Zor_r _ _ | exact hs.zA _ _ | assumption | exact zA _ _ | exact zS _ | exact Zr_not (hs.zA _ _) | exact hs.1.1 _ _ | exact ⟨by omega, by omega⟩) (fun h hs => ?_)
  refine Z_ret rfl rfl ⟨_, hs, ?_⟩
  try dsimp only
  exact ⟨rfl, rfl, h0r, (C_fr.refl _ _).sF rt, rfl⟩
