/-! how many grams a text has -/
def L_gam (t : List Int) : Nat := (L_gr t).length + min 2 t.length
theorem L_gam_nil : L_gam [] = 0 := rfl
/-- the grams across -/
def L_crs (a b : List Int) : List Int := (if 2 ≤ a.length ∧ 1 ≤ b.length then [L_g3 (a ++ b) (a.length - 2)] else []) ++ (if 1 ≤ a.length ∧ 2 ≤ b.length then [L_g3 (a ++ b) (a.length - 1)] else [])
theorem L_crs_len (a b : List Int) : (L_crs a b).length + min 2 (a ++ b).length ≤ min 2 a.length + min 2 b.length := by
  unfold L_crs
  rw [List.length_append, List.length_append]
  by_cases c1 : 2 ≤ a.length ∧ 1 ≤ b.length
  · rw [if_pos c1]
    by_cases c2 : 1 ≤ a.length ∧ 2 ≤ b.length
    · rw [if_pos c2]; show 1 + 1 + _ ≤ _; omega
    · rw [if_neg c2]; show 1 + 0 + _ ≤ _; omega
  · rw [if_neg c1]
    by_cases c2 : 1 ≤ a.length ∧ 2 ≤ b.length
    · rw [if_pos c2]; show 0 + 1 + _ ≤ _; omega
    · rw [if_neg c2]; show 0 + 0 + _ ≤ _; omega
theorem L_g3_l {a b : List Int} {k : Int} (h : k + 2 < a.length) : L_g3 (a ++ b) k = L_g3 a k := by
  unfold L_g3
  rw [L_at_app (by omega), L_at_app (by omega), L_at_app (by omega)]
theorem L_g3_r {a b : List Int} {k : Int} (h : a.length ≤ k) : L_g3 (a ++ b) k = L_g3 b (k - a.length) := by
  unfold L_g3
  rw [L_at_app2 (by omega), L_at_app2 (by omega), L_at_app2 (by omega), show k + 1 - (a.length : Int) = k - a.length + 1 by omega, show k + 2 - (a.length : Int) = k - a.length + 2 by omega]
theorem L_gr_app (a b : List Int) (x : Int) : x ∈ L_gr (a ++ b) ↔ x ∈ L_gr a ∨ x ∈ L_gr b ∨ x ∈ L_crs a b := by
  rw [L_gr_at, L_gr_at, L_gr_at, List.length_append]
  constructor
  · rintro ⟨k, k0, k1, e⟩
    by_cases c1 : k + 2 < a.length
    · exact .inl ⟨k, k0, c1, by rw [e, L_g3_l c1]⟩
    · by_cases c2 : (a.length : Int) ≤ k
      · exact .inr (.inl ⟨k - a.length, by omega, by omega, by rw [e, L_g3_r c2]⟩)
      · refine .inr (.inr ?_)
        unfold L_crs
        rw [List.mem_append]
        by_cases c3 : k = a.length - 2
        · rw [if_pos (by omega)]
          exact .inl (by rw [e, c3]; exact List.mem_singleton.mpr rfl)
        · have c4 : k = a.length - 1 := by omega
          refine .inr ?_
          rw [if_pos (by omega), e, c4]
          exact List.mem_singleton.mpr rfl
  · rintro (⟨k, k0, k1, e⟩ | ⟨k, k0, k1, e⟩ | h)
    · exact ⟨k, k0, by omega, by rw [e, L_g3_l k1]⟩
    · refine ⟨a.length + k, by omega, by omega, ?_⟩
      rw [e, L_g3_r (by omega), show (a.length : Int) + k - a.length = k by omega]
    · unfold L_crs at h
      rcases List.mem_append.mp h with h | h
      · by_cases c : 2 ≤ a.length ∧ 1 ≤ b.length
        · rw [if_pos c] at h
          exact ⟨a.length - 2, by omega, by omega, List.mem_singleton.mp h⟩
        · rw [if_neg c] at h; cases h
      · by_cases c : 1 ≤ a.length ∧ 2 ≤ b.length
        · rw [if_pos c] at h
          exact ⟨a.length - 1, by omega, by omega, List.mem_singleton.mp h⟩
        · rw [if_neg c] at h; cases h
theorem L_gr_sub {t : List Int} {l : List Int} (h : ∀ x ∈ L_gr t, x ∈ l) : (L_gr t).length ≤ l.length := L_le_len (L_gr_srt t) h
theorem L_gam_app (a b : List Int) : L_gam (a ++ b) ≤ L_gam a + L_gam b := by
  have h1 := L_gr_sub (t := a ++ b) (l := L_gr a ++ (L_gr b ++ L_crs a b)) (fun x hx => by
    rw [List.mem_append, List.mem_append]
    exact (L_gr_app a b x).mp hx)
  have h2 := L_crs_len a b
  rw [List.length_append, List.length_append] at h1
  unfold L_gam
  omega
/-- what is seen already adds little -/
theorem L_gam_seen {w t : List Int} (h : L_le (L_gr t) (L_gr w)) (hl : t.length ≤ w.length) : L_gam (w ++ t) ≤ L_gam w + min 2 (L_gam t) := by
  have h1 := L_gr_sub (t := w ++ t) (l := L_gr w ++ L_crs w t) (fun x hx => by
    rw [List.mem_append]
    rcases (L_gr_app w t x).mp hx with q | q | q
    · exact .inl q
    · exact .inl (h x q)
    · exact .inr q)
  have h2 := L_crs_len w t
  rw [List.length_append] at h1
  unfold L_gam
  omega
theorem L_gr_app_l (a b : List Int) : L_le (L_gr a) (L_gr (a ++ b)) := fun x hx => (L_gr_app a b x).mpr (.inl hx)
theorem L_gr_app_r (a b : List Int) : L_le (L_gr b) (L_gr (a ++ b)) := fun x hx => (L_gr_app a b x).mpr (.inr (.inl hx))
/-- a text that stays within 60 bytes -/
theorem L_gam_60 {t : List Int} (h : t.length ≤ 60) : L_gam t ≤ 60 := by
  have h3 : (L_gr t).length + 2 ≤ t.length ∨ (L_gr t).length = 0 := by
    by_cases c : t.length < 3
    · refine .inr ?_
      match t, c with
      | [], _ => rfl
      | [_], _ => rfl
      | [_, _], _ => rfl
      | _ :: _ :: _ :: _, c => simp only [List.length_cons] at c; omega
    · left
      have := L_gr_sub (t := t) (l := (List.range (t.length - 2)).map (fun i : Nat => L_g3 t i)) (fun x hx => by
        obtain ⟨k, k0, k1, e⟩ := (L_gr_at t x).mp hx
        exact List.mem_map.mpr ⟨k.toNat, List.mem_range.mpr (by omega), by rw [show ((k.toNat : Nat) : Int) = k by omega]; exact e.symm⟩)
      rw [List.length_map, List.length_range] at this
      omega
  unfold L_gam
  omega
/-- a text so many times -/
def L_pw (t : List Int) : Nat → List Int
  | 0 => []
  | k + 1 => L_pw t k ++ t
theorem L_pw_len (t : List Int) : ∀ k, (L_pw t k).length = k * t.length
  | 0 => by show 0 = _; omega
  | k + 1 => by
    show (L_pw t k ++ t).length = _
    rw [List.length_append, L_pw_len t k, Nat.succ_mul]
theorem L_pw_at {t : List Int} {n : Int} (hn : n = t.length) : ∀ (k : Nat) (i : Int), 0 ≤ i → i < (L_pw t k).length → L_at (L_pw t k) i = L_at t (i % n)
  | 0, i, i0, i1 => by
    rw [L_pw_len] at i1
    omega
  | k + 1, i, i0, i1 => by
    have e := L_pw_len t k
    show L_at (L_pw t k ++ t) i = _
    by_cases c : i < (L_pw t k).length
    · rw [L_at_app c, L_pw_at hn k i i0 c]
    · have i1 : i < ((L_pw t k ++ t).length : Int) := i1
      rw [List.length_append] at i1
      rw [L_at_app2 (by omega)]
      congr 1
      have e2 : ((L_pw t k).length : Int) = n * k := by rw [e, hn]; push_cast; rw [Int.mul_comm]
      have h3 : i = (i - (L_pw t k).length) + n * k := by omega
      have h4 : i % n = (i - (L_pw t k).length) % n := by
        conv => lhs; rw [h3]
        rw [Int.add_mul_emod_self_left]
      rw [h4, Int.emod_eq_of_lt (by omega) (by omega)]
theorem L_gam_pw (t : List Int) (k : Nat) : L_gam (L_pw t k) ≤ L_gam t + 2 := by
  by_cases t0 : t.length = 0
  · have e : t = [] := List.length_eq_zero_iff.mp t0
    have : L_pw t k = [] := List.length_eq_zero_iff.mp (by rw [L_pw_len, t0, Nat.mul_zero])
    rw [this, L_gam_nil]
    omega
  have hg : ∀ x ∈ L_gr (L_pw t k), x ∈ L_gr t ++ (List.range (min 2 t.length)).map (fun j : Nat => 65536 * L_at t (t.length - 1 - j) + 256 * L_at t ((t.length - 1 - j + 1) % t.length) + L_at t ((t.length - 1 - j + 2) % t.length)) := by
    intro x hx
    obtain ⟨i, i0, i1, e⟩ := (L_gr_at _ x).mp hx
    unfold L_g3 at e
    rw [L_pw_at (n := t.length) rfl k i i0 (by omega), L_pw_at (n := t.length) rfl k (i + 1) (by omega) (by omega), L_pw_at (n := t.length) rfl k (i + 2) (by omega) (by omega)] at e
    have r0 := Int.emod_nonneg i (show (t.length : Int) ≠ 0 by omega)
    have r1 := Int.emod_lt_of_pos i (show (0 : Int) < t.length by omega)
    have e1 : (i + 1) % (t.length : Int) = (i % t.length + 1) % t.length := by rw [Int.emod_add_emod]
    have e2 : (i + 2) % (t.length : Int) = (i % t.length + 2) % t.length := by rw [Int.emod_add_emod]
    rw [e1, e2] at e
    rw [List.mem_append]
    by_cases c : i % (t.length : Int) + 2 < t.length
    · refine .inl ((L_gr_at t x).mpr ⟨i % t.length, r0, c, ?_⟩)
      have q1 : (i % (t.length : Int) + 1) % t.length = i % t.length + 1 := Int.emod_eq_of_lt (by omega) (by omega)
      have q2 : (i % (t.length : Int) + 2) % t.length = i % t.length + 2 := Int.emod_eq_of_lt (by omega) (by omega)
      rw [q1, q2] at e
      exact e
    · refine .inr (List.mem_map.mpr ⟨(t.length - 1 - i % t.length).toNat, List.mem_range.mpr (by omega), ?_⟩)
      rw [show (((t.length - 1 - i % t.length).toNat : Nat) : Int) = t.length - 1 - i % t.length by omega, show (t.length : Int) - 1 - (t.length - 1 - i % t.length) = i % t.length by omega]
      exact e.symm
  have := L_gr_sub hg
  rw [List.length_append, List.length_map, List.length_range] at this
  unfold L_gam
  omega
/-- the words of so many letters -/
def F_pw (A : P_X) : Nat → P_X
  | 0 => F_one []
  | k + 1 => F_im2 (fun a b => a ++ b) (F_pw A k) A
theorem F_pw_gam {A : P_X} {i m : Nat} (hi : S_card A i) (hm : ∀ t, A t → L_gam t ≤ m) : ∀ (k : Nat) (w : List Int), F_pw A k w → ∃ D : List (List Int), D.Nodup ∧ D.length ≤ k ∧ D.length ≤ i ∧ (∀ d ∈ D, A d ∧ L_le (L_gr d) (L_gr w) ∧ d.length ≤ w.length) ∧ L_gam w ≤ D.length * m + min 2 m * (k - D.length) := by
  intro k
  induction k with
  | zero => intro w hw; rw [show w = [] from hw]; exact ⟨[], List.nodup_nil, Nat.le_refl _, Nat.zero_le _, fun d hd => absurd hd List.not_mem_nil, by rw [L_gam_nil]; exact Nat.zero_le _⟩
  | succ k ih =>
    rintro w ⟨v, t, hv, ht, rfl⟩
    obtain ⟨D, d1, d2, d3, d4, d5⟩ := ih v hv
    by_cases c : t ∈ D
    · obtain ⟨_, g1, g2⟩ := d4 t c
      refine ⟨D, d1, by omega, d3, fun d hd => ?_, ?_⟩
      · obtain ⟨q1, q2, q3⟩ := d4 d hd
        exact ⟨q1, L_le_tr q2 (L_gr_app_l v t), by rw [List.length_append]; omega⟩
      · have := L_gam_seen g1 g2
        have := hm t ht
        show L_gam (v ++ t) ≤ _
        rw [show k + 1 - D.length = (k - D.length) + 1 by omega, Nat.mul_succ]
        omega
    · have hn : (t :: D).Nodup := List.nodup_cons.mpr ⟨c, d1⟩
      have hA : ∀ d ∈ t :: D, A d := fun d hd => by
        rcases List.mem_cons.mp hd with rfl | hd
        · exact ht
        · exact (d4 d hd).1
      refine ⟨t :: D, hn, by rw [List.length_cons]; omega, ?_, fun d hd => ?_, ?_⟩
      · obtain ⟨l, l1, l2⟩ := hi
        have := (S_card_of (A := fun x => x ∈ t :: D) hn (fun _ => Iff.rfl) l.length).mp ⟨l, Nat.le_refl _, fun x hx => l2 x (hA x hx)⟩
        omega
      · refine ⟨hA d hd, ?_⟩
        rcases List.mem_cons.mp hd with rfl | hd
        · exact ⟨L_gr_app_r v d, by rw [List.length_append]; omega⟩
        · obtain ⟨q1, q2, q3⟩ := d4 d hd
          exact ⟨L_le_tr q2 (L_gr_app_l v t), by rw [List.length_append]; omega⟩
      · have := L_gam_app v t
        have := hm t ht
        show L_gam (v ++ t) ≤ _
        rw [List.length_cons, show k + 1 - (D.length + 1) = k - D.length by omega, Nat.succ_mul]
        omega
