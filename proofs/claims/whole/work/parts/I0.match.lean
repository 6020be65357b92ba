/-! what a regex matches in bytes, purely -/
abbrev M_R : Type := Int → Int → Prop
def M_id (n : Int) : M_R := fun i j => i = j ∧ 0 ≤ i ∧ i ≤ n
/-- a place that has no size -/
def M_hold (W : Int → Int) (n k i : Int) : Prop := k = 2 ∧ (i = 0 ∨ W (i - 1) = 10) ∨ k = 3 ∧ (i = n ∨ W i = 10) ∨ k = 4 ∧ ¬ (D_wrd (W (i - 1)) ↔ D_wrd (W i))
def M_at (W : Int → Int) (n : Int) (At : P_A) : M_R := match At with
  | .inl k => fun i j => M_id n i j ∧ M_hold W n k i
  | .inr B => fun i j => 0 ≤ i ∧ i < n ∧ j = i + 1 ∧ B (W i)
def M_seq (R Q : M_R) : M_R := fun i j => ∃ k, R i k ∧ Q k j
def M_or (R Q : M_R) : M_R := fun i j => R i j ∨ Q i j
def M_pow (n : Int) (R : M_R) (k : Nat) : M_R := match k with
  | 0 => M_id n
  | k + 1 => M_seq R (M_pow n R k)
def M_cnt (n : Int) (R : M_R) (op lo hi : Int) : M_R := fun i j => ∃ k : Nat, (if op = 8 then True else if op = 9 then 1 ≤ k else if op = 10 then k ≤ 1 else lo ≤ (k : Int) ∧ (hi = -1 ∨ (k : Int) ≤ hi)) ∧ M_pow n R k i j
def M_of (W : Int → Int) (n : Int) (t : P_T) : M_R := T_ev (M_id n, M_at W n, M_seq, M_or, M_cnt n) t
section MO
variable {W : Int → Int} {n : Int}
theorem M_of_emp : M_of W n T_emp = M_id n := rfl
theorem M_of_atm {A : P_A} (h : A_ok A) : M_of W n (T_atm A) = M_at W n A := T_ev_atm _ h
theorem M_of_beh {l r : P_T} (h1 : T_is l) (h2 : T_is r) : M_of W n (T_beh l r) = M_seq (M_of W n l) (M_of W n r) := T_ev_beh _ h1 h2
theorem M_of_or {l r : P_T} (h1 : T_is l) (h2 : T_is r) : M_of W n (T_or l r) = M_or (M_of W n l) (M_of W n r) := T_ev_or _ h1 h2
theorem M_of_cnt {t : P_T} {op lo hi : Int} (hc : T_cok op lo hi) (h1 : T_is t) : M_of W n (T_cnt t op lo hi) = M_cnt n (M_of W n t) op lo hi := T_ev_cnt _ hc h1
def M_rg (n : Int) (R : M_R) : Prop := ∀ i j, R i j → 0 ≤ i ∧ i ≤ j ∧ j ≤ n
theorem M_id_rg : M_rg n (M_id n) := fun i j h => by obtain ⟨h1, h2, h3⟩ := h; omega
theorem M_seq_rg {R Q : M_R} (h : M_rg n R) (g : M_rg n Q) : M_rg n (M_seq R Q) := fun i j ⟨k, h1, h2⟩ => by
  have := h _ _ h1
  have := g _ _ h2
  omega
theorem M_pow_rg {R : M_R} (h : M_rg n R) : ∀ k, M_rg n (M_pow n R k)
  | 0 => M_id_rg
  | k + 1 => M_seq_rg h (M_pow_rg h k)
theorem M_of_rg {t : P_T} (h : T_is t) : M_rg n (M_of W n t) := by
  refine T_ind (P := fun t => M_rg n (M_of W n t)) h M_id_rg (fun A hA => ?_) (fun l r h1 h2 p1 p2 => ?_) (fun l r h1 h2 p1 p2 => ?_) (fun t op lo hi hc h1 p1 => ?_)
  · rw [M_of_atm hA]
    cases A with
    | inl k => exact fun i j h => M_id_rg i j h.1
    | inr B => intro i j h; obtain ⟨h1, h2, h3, h4⟩ := (h : _ ∧ _ ∧ _ ∧ _); omega
  · rw [M_of_beh h1 h2]
    exact M_seq_rg p1 p2
  · rw [M_of_or h1 h2]
    exact fun i j h => h.elim (p1 i j) (p2 i j)
  · rw [M_of_cnt hc h1]
    exact fun i j ⟨k, _, hk⟩ => M_pow_rg p1 k i j hk
theorem M_seq_id {R : M_R} (h : M_rg n R) {i j : Int} : M_seq R (M_id n) i j ↔ R i j := by
  constructor
  · rintro ⟨k, h1, h2, _⟩
    rw [← h2]; exact h1
  · intro h1
    have := h _ _ h1
    exact ⟨j, h1, rfl, by omega, by omega⟩
theorem M_id_seq {R : M_R} (h : M_rg n R) {i j : Int} : M_seq (M_id n) R i j ↔ R i j := by
  constructor
  · rintro ⟨k, ⟨h1, _⟩, h2⟩
    rw [h1]; exact h2
  · intro h1
    have := h _ _ h1
    exact ⟨i, ⟨rfl, by omega, by omega⟩, h1⟩
theorem M_seq_as {R Q P : M_R} {i j : Int} : M_seq (M_seq R Q) P i j ↔ M_seq R (M_seq Q P) i j := by
  constructor
  · rintro ⟨k, ⟨l, h1, h2⟩, h3⟩
    exact ⟨l, h1, k, h2, h3⟩
  · rintro ⟨l, h1, k, h2, h3⟩
    exact ⟨k, ⟨l, h1, h2⟩, h3⟩
theorem M_pow_add {R : M_R} (h : M_rg n R) : ∀ (a b : Nat) (i j : Int), M_pow n R (a + b) i j ↔ M_seq (M_pow n R a) (M_pow n R b) i j
  | 0, b, i, j => by
    rw [Nat.zero_add]
    exact (M_id_seq (M_pow_rg h b)).symm
  | a + 1, b, i, j => by
    rw [show a + 1 + b = (a + b) + 1 by omega]
    constructor
    · rintro ⟨k, h1, h2⟩
      exact M_seq_as.mpr ⟨k, h1, (M_pow_add h a b k j).mp h2⟩
    · intro h1
      obtain ⟨k, h2, h3⟩ := M_seq_as.mp h1
      exact ⟨k, h2, (M_pow_add h a b k j).mpr h3⟩
/-- what has no size matches nothing but nothing -/
theorem M_of_0 {t : P_T} (h : T_is t) : T_sz t = 0 → ∀ i j, M_of W n t i j ↔ M_id n i j := by
  refine T_ind (P := fun t => T_sz t = 0 → ∀ i j, M_of W n t i j ↔ M_id n i j) h (fun _ i j => Iff.rfl) (fun A hA e => ?_) (fun l r h1 h2 p1 p2 e => ?_) (fun l r h1 h2 p1 p2 e => ?_) (fun t op lo hi hc h1 p1 e => ?_)
  · rw [T_sz_atm hA] at e; omega
  · rw [T_sz_beh h1 h2] at e
    have a1 := T_sz_pos h1
    have a2 := T_sz_pos h2
    intro i j
    rw [M_of_beh h1 h2]
    constructor
    · rintro ⟨k, q1, q2⟩
      have q1 := (p1 (by omega) _ _).mp q1
      have q2 := (p2 (by omega) _ _).mp q2
      obtain ⟨e1, e2⟩ := q1
      rw [e1]; exact q2
    · intro q
      exact ⟨i, (p1 (by omega) _ _).mpr ⟨rfl, q.2⟩, (p2 (by omega) _ _).mpr q⟩
  · rw [T_sz_or h1 h2] at e
    have a1 := T_sz_pos h1
    have a2 := T_sz_pos h2
    omega
  · rw [T_sz_cnt hc h1] at e
    have a1 := T_sz_pos h1
    intro i j
    rw [M_of_cnt hc h1]
    rcases hc with ⟨o1, _, _⟩ | ⟨o1, o2, o3, o4⟩
    · rw [if_neg (by omega)] at e; omega
    · rw [if_pos o1] at e
      have hpw : ∀ k : Nat, (k = 0 ∨ T_sz t = 0) → (M_pow n (M_of W n t) k i j ↔ M_id n i j) := by
        intro k hk
        rcases hk with rfl | hk
        · exact Iff.rfl
        · have hid : ∀ (k : Nat) (i j : Int), M_pow n (M_of W n t) k i j ↔ M_id n i j := by
            intro k
            induction k with
            | zero => intro i j; exact Iff.rfl
            | succ k ih =>
              intro i j
              constructor
              · rintro ⟨l, q1, q2⟩
                obtain ⟨e1, e2⟩ := (p1 hk _ _).mp q1
                rw [e1]; exact (ih _ _).mp q2
              · intro q
                exact ⟨i, (p1 hk _ _).mpr ⟨rfl, q.2⟩, (ih _ _).mpr q⟩
          exact hid k i j
      have hne : hi ≠ -1 := fun e2 => by
        rw [if_pos e2] at e
        have : 0 ≤ (lo + 1) * T_sz t := Int.mul_nonneg (by omega) a1
        omega
      rw [if_neg hne] at e
      have hm : 0 ≤ hi * T_sz t := Int.mul_nonneg (by omega) a1
      have hz : hi = 0 ∨ T_sz t = 0 := Int.mul_eq_zero.mp (by omega)
      constructor
      · rintro ⟨k, hk, q⟩
        rw [if_neg (by omega), if_neg (by omega), if_neg (by omega)] at hk
        exact (hpw k (by omega)).mp q
      · intro q
        refine ⟨lo.toNat, ?_, (hpw lo.toNat (by omega)).mpr q⟩
        rw [if_neg (by omega), if_neg (by omega), if_neg (by omega)]
        omega
end MO
/-! states: kinds 1, nexts 2, others 3, sets 4 -/
def M_acc (κ : Nat → Int → Int) (H : Int → Int → Prop) (W : Int → Int) (n : Int) (N : Nat) (q i j : Int) : Prop := match N with
  | 0 => False
  | N + 1 => κ 1 q = 8 ∧ i = j ∨ κ 1 q = 7 ∧ (M_acc κ H W n N (κ 2 q) i j ∨ M_acc κ H W n N (κ 3 q) i j) ∨ κ 1 q = 3 ∧ i < n ∧ H (κ 4 q) (W i) ∧ M_acc κ H W n N (κ 2 q) (i + 1) j ∨ (4 ≤ κ 1 q ∧ κ 1 q ≤ 6) ∧ M_hold W n (κ 1 q - 2) i ∧ M_acc κ H W n N (κ 2 q) i j
theorem M_acc.le {κ : Nat → Int → Int} {H : Int → Int → Prop} {W : Int → Int} {n : Int} : ∀ (N : Nat) {q i j : Int}, M_acc κ H W n N q i j → M_acc κ H W n (N + 1) q i j
  | 0, _, _, _, h => False.elim h
  | N + 1, q, i, j, h => by
    rcases h with h | ⟨h1, h2⟩ | ⟨h1, h2, h3, h4⟩ | ⟨h1, h2, h3⟩
    · exact .inl h
    · exact .inr (.inl ⟨h1, h2.imp (M_acc.le N) (M_acc.le N)⟩)
    · exact .inr (.inr (.inl ⟨h1, h2, h3, M_acc.le N h4⟩))
    · exact .inr (.inr (.inr ⟨h1, h2, M_acc.le N h3⟩))
theorem M_acc.les {κ : Nat → Int → Int} {H : Int → Int → Prop} {W : Int → Int} {n : Int} {N M : Nat} {q i j : Int} (h : M_acc κ H W n N q i j) (g : N ≤ M) : M_acc κ H W n M q i j := by
  induction g with
  | refl => exact h
  | step _ ih => exact M_acc.le _ ih
/-- the states in [m0, m1) lead from q to r as R says, whatever the others are -/
def M_ld (κ : Nat → Int → Int) (H : Int → Int → Prop) (m0 m1 q r : Int) (R : (Int → Int) → Int → M_R) : Prop := ∀ κ' : Nat → Int → Int, (∀ f x, m0 ≤ x → x < m1 → κ' f x = κ f x) → ∀ (W : Int → Int) (n : Int), (∀ k, 0 ≤ k → k < n → 0 ≤ W k ∧ W k ≤ 255) → (∀ (N : Nat) (i j : Int), 0 ≤ i → i ≤ n → M_acc κ' H W n N q i j → ∃ (k : Int) (N' : Nat), N' ≤ N ∧ R W n i k ∧ M_acc κ' H W n N' r k j) ∧ ∀ (i k j : Int) (N' : Nat), R W n i k → M_acc κ' H W n N' r k j → ∃ N, M_acc κ' H W n N q i j
theorem M_ld.keep {κ κ2 : Nat → Int → Int} {H : Int → Int → Prop} {m0 m1 a b q r : Int} {R : (Int → Int) → Int → M_R} (h : M_ld κ H m0 m1 q r R) (ha : a ≤ m0) (hb : m1 ≤ b) (e : ∀ f x, m0 ≤ x → x < m1 → κ2 f x = κ f x) : M_ld κ2 H a b q r R := fun κ' hk => h κ' (fun f x x0 x1 => (hk f x (by omega) (by omega)).trans (e f x x0 x1))
theorem M_ld.same {κ : Nat → Int → Int} {H : Int → Int → Prop} {m0 m1 q r : Int} {R Q : (Int → Int) → Int → M_R} (h : M_ld κ H m0 m1 q r R) (e : ∀ W n i j, R W n i j ↔ Q W n i j) : M_ld κ H m0 m1 q r Q := fun κ' hk W n hW => by
  obtain ⟨h1, h2⟩ := h κ' hk W n hW
  refine ⟨fun N i j i0 i1 ha => ?_, fun i k j N' hq ha => h2 i k j N' ((e W n i k).mpr hq) ha⟩
  obtain ⟨k, N', g1, g2, g3⟩ := h1 N i j i0 i1 ha
  exact ⟨k, N', g1, (e W n i k).mp g2, g3⟩
theorem M_ld.id {κ : Nat → Int → Int} {H : Int → Int → Prop} {m0 m1 r : Int} : M_ld κ H m0 m1 r r (fun _ n => M_id n) := fun κ' _ W n _ => ⟨fun N i j i0 i1 ha => ⟨i, N, Nat.le_refl _, ⟨rfl, i0, i1⟩, ha⟩, fun i k j N' hq ha => ⟨N', by rw [hq.1]; exact ha⟩⟩
theorem M_ld.seq {κ : Nat → Int → Int} {H : Int → Int → Prop} {m0 m1 q p r : Int} {R Q : (Int → Int) → Int → M_R} (h : M_ld κ H m0 m1 q p R) (g : M_ld κ H m0 m1 p r Q) (hR : ∀ W n, M_rg n (R W n)) : M_ld κ H m0 m1 q r (fun W n => M_seq (R W n) (Q W n)) := fun κ' hk W n hW => by
  obtain ⟨h1, h2⟩ := h κ' hk W n hW
  obtain ⟨g1, g2⟩ := g κ' hk W n hW
  refine ⟨fun N i j i0 i1 ha => ?_, fun i k j N' hq ha => ?_⟩
  · obtain ⟨k, N1, a1, a2, a3⟩ := h1 N i j i0 i1 ha
    have := hR W n _ _ a2
    obtain ⟨l, N2, b1, b2, b3⟩ := g1 N1 k j (by omega) (by omega) a3
    exact ⟨l, N2, by omega, ⟨k, a2, b2⟩, b3⟩
  · obtain ⟨l, q1, q2⟩ := hq
    obtain ⟨N1, e1⟩ := g2 l k j N' q2 ha
    exact h2 i l j N1 q1 e1
theorem M_ld.atm {κ : Nat → Int → Int} {H : Int → Int → Prop} {m0 m1 q r : Int} {At : P_A} (hq : m0 ≤ q ∧ q < m1) (hA : A_ok At) (h : match At with
    | .inl k => κ 1 q = k + 2
    | .inr B => κ 1 q = 3 ∧ ∀ j, 0 ≤ j → j ≤ 255 → (H (κ 4 q) j ↔ B j)) (hr : κ 2 q = r) : M_ld κ H m0 m1 q r (fun W n => M_at W n At) := fun κ' hk W n hW => by
  have e1 := hk 1 q hq.1 hq.2
  have e2 := (hk 2 q hq.1 hq.2).trans hr
  have e4 := hk 4 q hq.1 hq.2
  cases At with
  | inl k =>
    have hA : k = 2 ∨ k = 3 ∨ k = 4 := hA
    have h : κ 1 q = k + 2 := h
    refine ⟨fun N i j i0 i1 ha => ?_, fun i l j N' hm ha => ?_⟩
    · cases N with
      | zero => exact False.elim ha
      | succ N =>
        rcases ha with ⟨a1, _⟩ | ⟨a1, _⟩ | ⟨a1, _⟩ | ⟨_, a2, a3⟩
        · omega
        · omega
        · omega
        · rw [e2] at a3
          exact ⟨i, N, by omega, ⟨⟨rfl, i0, i1⟩, by rw [e1, h, show k + 2 - 2 = k by omega] at a2; exact a2⟩, a3⟩
    · obtain ⟨⟨m1, m2, m3⟩, m4⟩ := (hm : _ ∧ _)
      refine ⟨N' + 1, .inr (.inr (.inr ⟨by omega, ?_, ?_⟩))⟩
      · rw [e1, h, show k + 2 - 2 = k by omega]; exact m4
      · rw [e2, m1]; exact ha
  | inr B =>
    obtain ⟨h1, h2⟩ := (h : _ ∧ _)
    refine ⟨fun N i j i0 i1 ha => ?_, fun i l j N' hm ha => ?_⟩
    · cases N with
      | zero => exact False.elim ha
      | succ N =>
        rcases ha with ⟨a1, _⟩ | ⟨a1, _⟩ | ⟨_, a2, a3, a4⟩ | ⟨a1, _⟩
        · omega
        · omega
        · rw [e2] at a4
          rw [e4] at a3
          have := hW i i0 a2
          exact ⟨i + 1, N, by omega, ⟨i0, a2, rfl, (h2 _ this.1 this.2).mp a3⟩, a4⟩
        · omega
    · obtain ⟨m1, m2, m3, m4⟩ := (hm : _ ∧ _ ∧ _ ∧ _)
      have := hW i m1 m2
      refine ⟨N' + 1, .inr (.inr (.inl ⟨by omega, m2, ?_, ?_⟩))⟩
      · rw [e4]; exact (h2 _ this.1 this.2).mpr m4
      · rw [e2, ← m3]; exact ha
theorem M_ld.split {κ : Nat → Int → Int} {H : Int → Int → Prop} {m0 m1 q p p2 r : Int} {R Q : (Int → Int) → Int → M_R} (hq : m0 ≤ q ∧ q < m1) (k1 : κ 1 q = 7) (k2 : κ 2 q = p) (k3 : κ 3 q = p2) (h : M_ld κ H m0 m1 p r R) (g : M_ld κ H m0 m1 p2 r Q) : M_ld κ H m0 m1 q r (fun W n => M_or (R W n) (Q W n)) := fun κ' hk W n hW => by
  obtain ⟨h1, h2⟩ := h κ' hk W n hW
  obtain ⟨g1, g2⟩ := g κ' hk W n hW
  have e1 := (hk 1 q hq.1 hq.2).trans k1
  have e2 := (hk 2 q hq.1 hq.2).trans k2
  have e3 := (hk 3 q hq.1 hq.2).trans k3
  refine ⟨fun N i j i0 i1 ha => ?_, fun i l j N' hm ha => ?_⟩
  · cases N with
    | zero => exact False.elim ha
    | succ N =>
      rcases ha with ⟨a1, _⟩ | ⟨_, a2⟩ | ⟨a1, _⟩ | ⟨a1, _⟩
      · omega
      · rcases a2 with a2 | a2
        · rw [e2] at a2
          obtain ⟨k, N', b1, b2, b3⟩ := h1 N i j i0 i1 a2
          exact ⟨k, N', by omega, .inl b2, b3⟩
        · rw [e3] at a2
          obtain ⟨k, N', b1, b2, b3⟩ := g1 N i j i0 i1 a2
          exact ⟨k, N', by omega, .inr b2, b3⟩
      · omega
      · omega
  · rcases hm with hm | hm
    · obtain ⟨N, e⟩ := h2 i l j N' hm ha
      exact ⟨N + 1, .inr (.inl ⟨e1, .inl (by rw [e2]; exact e)⟩)⟩
    · obtain ⟨N, e⟩ := g2 i l j N' hm ha
      exact ⟨N + 1, .inr (.inl ⟨e1, .inr (by rw [e3]; exact e)⟩)⟩
/-- round and round -/
def M_star (n : Int) (R : M_R) : M_R := fun i j => ∃ k, M_pow n R k i j
theorem M_ld.star {κ : Nat → Int → Int} {H : Int → Int → Prop} {m0 m1 q p r : Int} {R : (Int → Int) → Int → M_R} (hq : m0 ≤ q ∧ q < m1) (k1 : κ 1 q = 7) (k2 : κ 2 q = p) (k3 : κ 3 q = r) (h : M_ld κ H m0 m1 p q R) (hR : ∀ W n, M_rg n (R W n)) : M_ld κ H m0 m1 q r (fun W n => M_star n (R W n)) := fun κ' hk W n hW => by
  obtain ⟨h1, h2⟩ := h κ' hk W n hW
  have e1 := (hk 1 q hq.1 hq.2).trans k1
  have e2 := (hk 2 q hq.1 hq.2).trans k2
  have e3 := (hk 3 q hq.1 hq.2).trans k3
  refine ⟨fun N => ?_, fun i l j N' hm ha => ?_⟩
  · have key : ∀ (M N : Nat), N ≤ M → ∀ i j, 0 ≤ i → i ≤ n → M_acc κ' H W n N q i j → ∃ (k : Int) (N' : Nat), N' ≤ N ∧ M_star n (R W n) i k ∧ M_acc κ' H W n N' r k j := by
      intro M
      induction M with
      | zero =>
        intro N hN i j i0 i1 ha
        obtain rfl : N = 0 := by omega
        exact False.elim ha
      | succ M ih =>
        intro N hN i j i0 i1 ha
        cases N with
        | zero => exact False.elim ha
        | succ N =>
          rcases ha with ⟨a1, _⟩ | ⟨_, a2⟩ | ⟨a1, _⟩ | ⟨a1, _⟩
          · omega
          · rcases a2 with a2 | a2
            · rw [e2] at a2
              obtain ⟨k, N', b1, b2, b3⟩ := h1 N i j i0 i1 a2
              have hk2 := hR W n _ _ b2
              obtain ⟨l, N2, c1, ⟨z, c2⟩, c3⟩ := ih N' (by omega) k j (by omega) (by omega) b3
              exact ⟨l, N2, by omega, ⟨z + 1, k, b2, c2⟩, c3⟩
            · rw [e3] at a2
              exact ⟨i, N, by omega, ⟨0, rfl, i0, i1⟩, a2⟩
          · omega
          · omega
    exact key N N (Nat.le_refl _)
  · obtain ⟨k, hm⟩ := hm
    have key : ∀ (k : Nat) (i : Int), M_pow n (R W n) k i l → ∃ N, M_acc κ' H W n N q i j := by
      intro k
      induction k with
      | zero =>
        intro i hm
        obtain ⟨z1, z2⟩ := (hm : _ ∧ _)
        exact ⟨N' + 1, .inr (.inl ⟨e1, .inr (by rw [e3, z1]; exact ha)⟩)⟩
      | succ k ih =>
        rintro i ⟨z, b1, b2⟩
        obtain ⟨N, e⟩ := ih z b2
        obtain ⟨N2, e4⟩ := h2 i z j N b1 e
        exact ⟨N2 + 1, .inr (.inl ⟨e1, .inl (by rw [e2]; exact e4)⟩)⟩
    exact key k i hm
