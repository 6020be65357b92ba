/-! what is built, purely: the states [m0, m1) lead from q to r as R says -/
def M_tg (m0 m1 r y : Int) : Prop := y = r ∨ m0 ≤ y ∧ y < m1
def M_k1 (κ : Nat → Int → Int) (sm m0 m1 r x : Int) : Prop := (κ 1 x = 7 ∧ M_tg m0 m1 r (κ 2 x) ∧ M_tg m0 m1 r (κ 3 x)) ∨ (3 ≤ κ 1 x ∧ κ 1 x ≤ 6 ∧ M_tg m0 m1 r (κ 2 x) ∧ (κ 1 x = 3 → 0 ≤ κ 4 x ∧ κ 4 x < sm))
def M_bl (κ κ2 : Nat → Int → Int) (H : Int → Int → Prop) (sm m0 m1 r q : Int) (R : (Int → Int) → Int → M_R) : Prop :=
  m0 ≤ m1 ∧ (∀ f x, ¬ (m0 ≤ x ∧ x < m1) → κ2 f x = κ f x) ∧ M_tg m0 m1 r q ∧ (∀ x, m0 ≤ x → x < m1 → M_k1 κ2 sm m0 m1 r x) ∧ M_ld κ2 H m0 m1 q r R ∧ ∀ W n, M_rg n (R W n)
section MB
variable {κ κ2 κ3 κ4 : Nat → Int → Int} {H : Int → Int → Prop} {sm m0 m1 m2 r q q2 : Int} {R Q : (Int → Int) → Int → M_R}
theorem M_tg.wide {a b y : Int} (h : M_tg m0 m1 r y) (ha : a ≤ m0) (hb : m1 ≤ b) : M_tg a b r y := by
  rcases h with h | h
  · exact .inl h
  · exact .inr ⟨by omega, by omega⟩
theorem M_tg.step {a b y : Int} (h : M_tg m0 m1 q y) (ha : a ≤ m0) (hb : m1 ≤ b) (hq : M_tg a b r q) : M_tg a b r y := by
  rcases h with h | h
  · rw [h]; exact hq
  · exact .inr ⟨by omega, by omega⟩
theorem M_k1.step {a b x : Int} (h : M_k1 κ sm m0 m1 q x) (ha : a ≤ m0) (hb : m1 ≤ b) (hq : M_tg a b r q) : M_k1 κ sm a b r x := by
  rcases h with ⟨h1, h2, h3⟩ | ⟨h1, h2, h3, h4⟩
  · exact .inl ⟨h1, h2.step ha hb hq, h3.step ha hb hq⟩
  · exact .inr ⟨h1, h2, h3.step ha hb hq, h4⟩
theorem M_k1.keep {x : Int} (h : M_k1 κ sm m0 m1 q x) (e : ∀ f, κ2 f x = κ f x) : M_k1 κ2 sm m0 m1 q x := by
  unfold M_k1
  rw [e 1, e 2, e 3, e 4]
  exact h
theorem M_bl.same (h : M_bl κ κ2 H sm m0 m1 r q R) (e : ∀ W n i j, R W n i j ↔ Q W n i j) : M_bl κ κ2 H sm m0 m1 r q Q := ⟨h.1, h.2.1, h.2.2.1, h.2.2.2.1, h.2.2.2.2.1.same e, fun W n i j g => h.2.2.2.2.2 W n i j ((e W n i j).mpr g)⟩
theorem M_bl.id : M_bl κ κ H sm m0 m0 r r (fun _ n => M_id n) := ⟨Int.le_refl _, fun _ _ _ => rfl, .inl rfl, fun x a b => by omega, M_ld.id, fun _ _ => M_id_rg⟩
theorem M_bl.seq (h : M_bl κ κ2 H sm m0 m1 r q R) (g : M_bl κ2 κ3 H sm m1 m2 q q2 Q) : M_bl κ κ3 H sm m0 m2 r q2 (fun W n => M_seq (Q W n) (R W n)) := by
  obtain ⟨h1, h2, h3, h4, h5, h6⟩ := h
  obtain ⟨g1, g2, g3, g4, g5, g6⟩ := g
  have hq : M_tg m0 m2 r q := h3.wide (Int.le_refl _) g1
  refine ⟨by omega, fun f x hx => (g2 f x (by omega)).trans (h2 f x (by omega)), g3.step h1 (Int.le_refl _) hq, fun x x0 x1 => ?_, ?_, fun W n => M_seq_rg (g6 W n) (h6 W n)⟩
  · by_cases c : x < m1
    · exact ((h4 x x0 c).keep (fun f => g2 f x (by omega))).step (Int.le_refl _) g1 (.inl rfl)
    · exact (g4 x (by omega) x1).step h1 (Int.le_refl _) hq
  · exact (g5.keep h1 (Int.le_refl _) (fun _ _ _ _ => rfl)).seq (h5.keep (Int.le_refl _) g1 (fun f x x0 x1 => g2 f x (by omega))) g6
/-- a new state -/
def M_nw (κ κ2 : Nat → Int → Int) (x k a b c : Int) : Prop := (∀ f y, y ≠ x → κ2 f y = κ f y) ∧ κ2 1 x = k ∧ κ2 2 x = a ∧ κ2 3 x = b ∧ κ2 4 x = c
theorem M_bl.atm {At : P_A} {a b c k : Int} (hA : A_ok At) (w : M_nw κ κ2 m0 k r b c) (h : match At with
    | .inl z => k = z + 2
    | .inr B => k = 3 ∧ (0 ≤ c ∧ c < sm) ∧ ∀ j, 0 ≤ j → j ≤ 255 → (H c j ↔ B j)) : M_bl κ κ2 H sm m0 (m0 + 1) r m0 (fun W n => M_at W n At) := by
  obtain ⟨w1, w2, w3, w4, w5⟩ := w
  refine ⟨by omega, fun f x hx => w1 f x (by omega), .inr ⟨by omega, by omega⟩, fun x x0 x1 => ?_, M_ld.atm ⟨by omega, by omega⟩ hA ?_ w3, fun W n => ?_⟩
  · obtain rfl : x = m0 := by omega
    refine .inr ?_
    rw [w2, w3, w5]
    cases At with
    | inl z =>
      have hA : z = 2 ∨ z = 3 ∨ z = 4 := hA
      have h : k = z + 2 := h
      exact ⟨by omega, by omega, .inl rfl, fun e => by omega⟩
    | inr B => exact ⟨by have := h.1; omega, by have := h.1; omega, .inl rfl, fun _ => h.2.1⟩
  · cases At with
    | inl z => exact w2.trans h
    | inr B => exact ⟨w2.trans h.1, by rw [w5]; exact h.2.2⟩
  · have := M_of_rg (W := W) (n := n) (T_is.atm hA)
    rw [M_of_atm hA] at this
    exact this
theorem M_bl.alt (h : M_bl κ κ2 H sm m0 m1 r q R) (g : M_bl κ2 κ3 H sm m1 m2 r q2 Q) {c : Int} (w : M_nw κ3 κ4 m2 7 q2 q c) : M_bl κ κ4 H sm m0 (m2 + 1) r m2 (fun W n => M_or (Q W n) (R W n)) := by
  obtain ⟨h1, h2, h3, h4, h5, h6⟩ := h
  obtain ⟨g1, g2, g3, g4, g5, g6⟩ := g
  obtain ⟨w1, w2, w3, w4, w5⟩ := w
  refine ⟨by omega, fun f x hx => (w1 f x (by omega)).trans ((g2 f x (by omega)).trans (h2 f x (by omega))), .inr ⟨by omega, by omega⟩, fun x x0 x1 => ?_, ?_, fun W n i j => Or.rec (g6 W n i j) (h6 W n i j)⟩
  · by_cases c : x < m1
    · exact ((h4 x x0 c).keep (fun f => (w1 f x (by omega)).trans (g2 f x (by omega)))).step (Int.le_refl _) (by omega) (.inl rfl)
    · by_cases d : x < m2
      · exact ((g4 x (by omega) d).keep (fun f => w1 f x (by omega))).step h1 (by omega) (.inl rfl)
      · obtain rfl : x = m2 := by omega
        exact .inl ⟨w2, by rw [w3]; exact g3.wide h1 (by omega), by rw [w4]; exact h3.wide (Int.le_refl _) (by omega)⟩
  · exact M_ld.split ⟨by omega, by omega⟩ w2 w3 w4 (g5.keep h1 (by omega) (fun f x x0 x1 => w1 f x (by omega))) (h5.keep (Int.le_refl _) (by omega) (fun f x x0 x1 => (w1 f x (by omega)).trans (g2 f x (by omega))))
theorem M_bl.opt (h : M_bl κ κ2 H sm m0 m1 r q R) (g : M_bl κ2 κ3 H sm m1 m2 q q2 Q) {c : Int} (w : M_nw κ3 κ4 m2 7 q2 q c) : M_bl κ κ4 H sm m0 (m2 + 1) r m2 (fun W n => M_or (M_seq (Q W n) (R W n)) (R W n)) := by
  have hs := h.seq g
  obtain ⟨h1, h2, h3, h4, h5, h6⟩ := h
  obtain ⟨g1, g2, g3, g4, g5, g6⟩ := g
  obtain ⟨s1, s2, s3, s4, s5, s6⟩ := hs
  obtain ⟨w1, w2, w3, w4, w5⟩ := w
  refine ⟨by omega, fun f x hx => (w1 f x (by omega)).trans ((g2 f x (by omega)).trans (h2 f x (by omega))), .inr ⟨by omega, by omega⟩, fun x x0 x1 => ?_, ?_, fun W n i j => Or.rec (s6 W n i j) (h6 W n i j)⟩
  · by_cases d : x < m2
    · exact ((s4 x (by omega) d).keep (fun f => w1 f x (by omega))).step (Int.le_refl _) (by omega) (.inl rfl)
    · obtain rfl : x = m2 := by omega
      exact .inl ⟨w2, by rw [w3]; exact s3.wide (Int.le_refl _) (by omega), by rw [w4]; exact h3.wide (Int.le_refl _) (by omega)⟩
  · exact M_ld.split ⟨by omega, by omega⟩ w2 w3 w4 (s5.keep (Int.le_refl _) (by omega) (fun f x x0 x1 => w1 f x (by omega))) (h5.keep (Int.le_refl _) (by omega) (fun f x x0 x1 => (w1 f x (by omega)).trans (g2 f x (by omega))))
theorem M_bl.star {a c : Int} (w : M_nw κ κ2 m0 7 a r c) (g : M_bl κ2 κ3 H sm (m0 + 1) m1 m0 q Q) (w2 : M_nw κ3 κ4 m0 7 q r c) : M_bl κ κ4 H sm m0 m1 r m0 (fun W n => M_star n (Q W n)) ∧ M_bl κ κ4 H sm m0 m1 r q (fun W n => M_seq (Q W n) (M_star n (Q W n))) := by
  obtain ⟨g1, g2, g3, g4, g5, g6⟩ := g
  obtain ⟨a1, a2, a3, a4, a5⟩ := w
  obtain ⟨b1, b2, b3, b4, b5⟩ := w2
  have hst : ∀ W n, M_rg n (M_star n (Q W n)) := fun W n i j ⟨k, hk⟩ => M_pow_rg (g6 W n) k i j hk
  have hfr : ∀ f x, ¬ (m0 ≤ x ∧ x < m1) → κ4 f x = κ f x := fun f x hx => (b1 f x (by omega)).trans ((g2 f x (by omega)).trans (a1 f x (by omega)))
  have htg : M_tg m0 m1 r q := g3.step (by omega) (Int.le_refl _) (.inr ⟨by omega, by omega⟩)
  have hks : ∀ x, m0 ≤ x → x < m1 → M_k1 κ4 sm m0 m1 r x := fun x x0 x1 => by
    by_cases d : x = m0
    · rw [d]
      exact .inl ⟨b2, by rw [b3]; exact htg, by rw [b4]; exact .inl rfl⟩
    · exact ((g4 x (by omega) x1).keep (fun f => b1 f x d)).step (by omega) (Int.le_refl _) (.inr ⟨by omega, by omega⟩)
  have hl := g5.keep (κ2 := κ4) (a := m0) (b := m1) (by omega) (Int.le_refl _) (fun f x x0 x1 => b1 f x (by omega))
  have hs := M_ld.star ⟨Int.le_refl m0, by omega⟩ b2 b3 b4 hl g6
  exact ⟨⟨by omega, hfr, .inr ⟨by omega, by omega⟩, hks, hs, hst⟩, ⟨by omega, hfr, htg, hks, hl.seq hs g6, fun W n => M_seq_rg (g6 W n) (hst W n)⟩⟩
/-- up to so many times -/
def M_upto (n : Int) (R : M_R) (k : Nat) : M_R := fun i j => ∃ z, z ≤ k ∧ M_pow n R z i j
theorem M_upto_0 {n : Int} {R : M_R} {i j : Int} : M_upto n R 0 i j ↔ M_id n i j := by
  constructor
  · rintro ⟨z, hz, h⟩
    obtain rfl : z = 0 := by omega
    exact h
  · intro h; exact ⟨0, Nat.le_refl _, h⟩
theorem M_upto_s {n : Int} {R : M_R} {k : Nat} (hR : M_rg n R) {i j : Int} : M_or (M_seq R (M_upto n R k)) (M_upto n R k) i j ↔ M_upto n R (k + 1) i j := by
  constructor
  · rintro (⟨l, h1, z, hz, h2⟩ | ⟨z, hz, h2⟩)
    · exact ⟨z + 1, by omega, l, h1, h2⟩
    · exact ⟨z, by omega, h2⟩
  · rintro ⟨z, hz, h⟩
    cases z with
    | zero => exact .inr ⟨0, by omega, h⟩
    | succ z =>
      obtain ⟨l, h1, h2⟩ := h
      exact .inl ⟨l, h1, z, by omega, h2⟩
theorem N_lh8 {lo hi : Int} : N_lh 8 lo hi = (0, -1) := if_pos rfl
theorem N_lh9 {lo hi : Int} : N_lh 9 lo hi = (1, -1) := by
  unfold N_lh
  rw [if_neg (by decide), if_pos rfl]
theorem N_lh10 {lo hi : Int} : N_lh 10 lo hi = (0, 1) := by
  unfold N_lh
  rw [if_neg (by decide), if_neg (by decide), if_pos rfl]
theorem N_lh11 {lo hi : Int} : N_lh 11 lo hi = (lo, hi) := by
  unfold N_lh
  rw [if_neg (by decide), if_neg (by decide), if_neg (by decide)]
/-- a count, as it is built -/
theorem M_cnt_b {n : Int} {R : M_R} (hR : M_rg n R) {op lo hi : Int} (hc : T_cok op lo hi) {i j : Int} : M_cnt n R op lo hi i j ↔ if (N_lh op lo hi).2 = -1 then M_seq (M_pow n R (N_lh op lo hi).1.toNat) (M_star n R) i j else M_seq (M_pow n R (N_lh op lo hi).1.toNat) (M_upto n R ((N_lh op lo hi).2 - (N_lh op lo hi).1).toNat) i j := by
  have key : ∀ (l : Nat), M_seq (M_pow n R l) (M_star n R) i j ↔ ∃ k : Nat, l ≤ k ∧ M_pow n R k i j := by
    intro l
    constructor
    · rintro ⟨m, h1, k, h2⟩
      exact ⟨l + k, by omega, (M_pow_add hR l k i j).mpr ⟨m, h1, h2⟩⟩
    · rintro ⟨k, hk, h⟩
      rw [show k = l + (k - l) by omega] at h
      obtain ⟨m, h1, h2⟩ := (M_pow_add hR l (k - l) i j).mp h
      exact ⟨m, h1, k - l, h2⟩
  have key2 : ∀ (l h : Nat), M_seq (M_pow n R l) (M_upto n R h) i j ↔ ∃ k : Nat, l ≤ k ∧ k ≤ l + h ∧ M_pow n R k i j := by
    intro l hh
    constructor
    · rintro ⟨m, h1, k, hk, h2⟩
      exact ⟨l + k, by omega, by omega, (M_pow_add hR l k i j).mpr ⟨m, h1, h2⟩⟩
    · rintro ⟨k, hk, hk2, h⟩
      rw [show k = l + (k - l) by omega] at h
      obtain ⟨m, h1, h2⟩ := (M_pow_add hR l (k - l) i j).mp h
      exact ⟨m, h1, k - l, by omega, h2⟩
  rcases hc with ⟨rfl | rfl | rfl, h2, h3⟩ | ⟨rfl, h2, h3, h4⟩
  · rw [N_lh8, if_pos rfl]
    constructor
    · rintro ⟨k, _, h⟩; exact (key 0).mpr ⟨k, by omega, h⟩
    · intro h; obtain ⟨k, _, h⟩ := (key 0).mp h; exact ⟨k, by rw [if_pos rfl]; trivial, h⟩
  · rw [N_lh9, if_pos rfl]
    constructor
    · rintro ⟨k, hk, h⟩; rw [if_neg (by decide), if_pos rfl] at hk; exact (key 1).mpr ⟨k, hk, h⟩
    · intro h; obtain ⟨k, hk, h⟩ := (key 1).mp h; exact ⟨k, by rw [if_neg (by decide), if_pos rfl]; exact hk, h⟩
  · rw [N_lh10, if_neg (show ¬ ((0, 1) : Int × Int).2 = -1 by decide)]
    constructor
    · rintro ⟨k, hk, h⟩; rw [if_neg (by decide), if_neg (by decide), if_pos rfl] at hk; exact (key2 0 1).mpr ⟨k, by omega, by omega, h⟩
    · intro h; obtain ⟨k, hk, hk2, h⟩ := (key2 0 1).mp h; exact ⟨k, by rw [if_neg (by decide), if_neg (by decide), if_pos rfl]; omega, h⟩
  · rw [N_lh11]
    by_cases c : hi = -1
    · rw [if_pos (show ((lo, hi) : Int × Int).2 = -1 from c)]
      constructor
      · rintro ⟨k, hk, h⟩; rw [if_neg (by decide), if_neg (by decide), if_neg (by decide)] at hk; exact (key lo.toNat).mpr ⟨k, by omega, h⟩
      · intro h; obtain ⟨k, hk, h⟩ := (key lo.toNat).mp h; exact ⟨k, by rw [if_neg (by decide), if_neg (by decide), if_neg (by decide)]; omega, h⟩
    · rw [if_neg (show ¬ ((lo, hi) : Int × Int).2 = -1 from c)]
      constructor
      · rintro ⟨k, hk, h⟩; rw [if_neg (by decide), if_neg (by decide), if_neg (by decide)] at hk; exact (key2 lo.toNat (hi - lo).toNat).mpr ⟨k, by omega, by omega, h⟩
      · intro h; obtain ⟨k, hk, hk2, h⟩ := (key2 lo.toNat (hi - lo).toNat).mp h; exact ⟨k, by rw [if_neg (by decide), if_neg (by decide), if_neg (by decide)]; omega, h⟩
end MB
