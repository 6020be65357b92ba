/-! the reference: the least pairs, laid into a slot -/
/-- the first n of a row as a list -/
def D_row (A : Int → Int) (n : Int) : List Int := (List.range n.toNat).map (fun i : Nat => A (i : Int))
theorem D_row_mem {A : Int → Int} {n x : Int} : x ∈ D_row A n ↔ D_in A n x := by
  unfold D_row
  rw [List.mem_map]
  constructor
  · rintro ⟨i, hi, rfl⟩
    have := List.mem_range.mp hi
    exact ⟨i, by omega, by omega, rfl⟩
  · rintro ⟨i, i0, i1, rfl⟩
    exact ⟨i.toNat, List.mem_range.mpr (by omega), by rw [show ((i.toNat : Nat) : Int) = i by omega]⟩
theorem L_srt_pw : ∀ {l : List Int}, l.Pairwise (· < ·) → L_srt l
  | [], _ => trivial
  | _ :: _, h => ⟨(List.pairwise_cons.mp h).1, L_srt_pw (List.pairwise_cons.mp h).2⟩
theorem D_row_srt {A : Int → Int} {n : Int} (h : D_srt A n) : L_srt (D_row A n) := by
  refine L_srt_pw (List.pairwise_map.mpr (List.Pairwise.imp_of_mem (fun {a b} ha hb hab => ?_) (List.pairwise_lt_range (n := n.toNat))))
  have ha := List.mem_range.mp ha
  have hb := List.mem_range.mp hb
  exact h a b (by omega) (by omega) (by omega)
theorem D_row_eq {A B : Int → Int} {n m : Int} (e : n = m) (h : ∀ j, 0 ≤ j → j < n → A j = B j) : D_row A n = D_row B m := by
  subst e
  unfold D_row
  refine List.map_congr_left (fun i hi => ?_)
  have := List.mem_range.mp hi
  exact h i (by omega) (by omega)
def R_prow (s : R_S) (i : Int) : List Int := D_row (fun x => s.2.1 108 (640 * i + x)) (s.2.1 107 i)
def R_crow (s : R_S) (k c : Int) : List Int := D_row (fun x => s.2.1 106 (640 * (24 * k + c) + x)) (s.2.1 105 (24 * k + c))
theorem R_W_le (s : R_S) (i k : Int) : R_W s i k ↔ L_le (R_prow s i) (R_prow s k) := by
  constructor
  · intro h x hx
    obtain ⟨j, j0, j1, rfl⟩ := D_row_mem.mp hx
    exact D_row_mem.mpr (h j j0 j1)
  · intro h j j0 j1
    exact D_row_mem.mp (h _ (D_row_mem.mpr ⟨j, j0, j1, rfl⟩))
/-- the pairs as a set -/
def R_PF (s : R_S) : P_X := fun x => ∃ i, 0 ≤ i ∧ i < s.1 37 ∧ x = R_prow s i
theorem R_prow_srt {s : R_S} (pv : R_pv s) {i : Int} (i0 : 0 ≤ i) (i1 : i < s.1 37) : L_srt (R_prow s i) := D_row_srt (pv.2.2 i i0 i1).2.2
theorem L_le_anti {a b : List Int} (ha : L_srt a) (hb : L_srt b) (h1 : L_le a b) (h2 : L_le b a) : a = b := L_srt_ext ha hb (fun x => ⟨h1 x, h2 x⟩)
/-- those that stay are the least, each once -/
theorem R_stay_min {s : R_S} (pv : R_pv s) {k : Int} (k0 : 0 ≤ k) (k1 : k < s.1 37) (h : ¬ R_go s k) : F_min (R_PF s) (R_prow s k) := by
  refine ⟨⟨k, k0, k1, rfl⟩, fun y hy hle => ?_⟩
  obtain ⟨i, i0, i1, rfl⟩ := hy
  by_cases e : i = k
  · rw [e]
  · refine L_le_anti (R_prow_srt pv i0 i1) (R_prow_srt pv k0 k1) hle ?_
    refine Classical.byContradiction (fun q => h ⟨i, i0, i1, e, (R_W_le s i k).mpr hle, .inr (fun w => q ((R_W_le s k i).mp w))⟩)
theorem D_first {P : Int → Prop} : ∀ (n : Nat) (k : Int), k ≤ n → 0 ≤ k → P k → ∃ j, 0 ≤ j ∧ j ≤ k ∧ P j ∧ ∀ i, 0 ≤ i → i < j → ¬ P i
  | 0, k, h, k0, hp => ⟨k, k0, Int.le_refl _, hp, fun i i0 i1 => by omega⟩
  | n + 1, k, h, k0, hp => by
    by_cases c : ∃ i, 0 ≤ i ∧ i < k ∧ P i
    · obtain ⟨i, i0, i1, i2⟩ := c
      obtain ⟨j, j0, j1, j2, j3⟩ := D_first n i (by omega) i0 i2
      exact ⟨j, j0, by omega, j2, j3⟩
    · exact ⟨k, k0, Int.le_refl _, hp, fun i i0 i1 hi => c ⟨i, i0, i1, hi⟩⟩
theorem R_min_stay {s : R_S} {x : List Int} (h : F_min (R_PF s) x) : ∃ k, 0 ≤ k ∧ k < s.1 37 ∧ ¬ R_go s k ∧ x = R_prow s k := by
  obtain ⟨⟨i, i0, i1, hx⟩, hm⟩ := h
  obtain ⟨j, j0, j1, j2, j3⟩ := D_first (P := fun k => x = R_prow s k) i.toNat i (by omega) i0 hx
  refine ⟨j, j0, by omega, fun ⟨q, q0, q1, q2, q3, q4⟩ => ?_, j2⟩
  have e := hm (R_prow s q) ⟨q, q0, q1, rfl⟩ (by rw [j2]; exact (R_W_le s q j).mp q3)
  rcases q4 with q4 | q4
  · exact j3 q q0 q4 e.symm
  · exact q4 ((R_W_le s j q).mpr (by rw [← j2, e]; exact fun _ h => h))
theorem R_stay_ne {s : R_S} {j k : Int} (j0 : 0 ≤ j) (jk : j < k) (k1 : k < s.1 37) (hk : ¬ R_go s k) : R_prow s j ≠ R_prow s k := by
  intro e
  exact hk ⟨j, j0, by omega, by omega, (R_W_le s j k).mpr (by rw [e]; exact fun _ h => h), .inl jk⟩
theorem R_min_card {s : R_S} (pv : R_pv s) {m : Int} (h : D_cn (fun j => ¬ R_go s j) (s.1 37) m) (n : Nat) : S_card (F_min (R_PF s)) n ↔ m ≤ n := by
  obtain ⟨l, h1, h2, h3⟩ := h
  have nd : (l.map (R_prow s)).Nodup := by
    refine List.pairwise_map.mpr (List.Pairwise.imp_of_mem (fun {a b} ha hb hab => ?_) h1)
    obtain ⟨a0, a1, a2⟩ := (h3 a).mp ha
    obtain ⟨b0, b1, b2⟩ := (h3 b).mp hb
    intro e
    rcases Int.lt_or_gt_of_ne hab with c | c
    · exact R_stay_ne a0 c b1 b2 e
    · exact R_stay_ne b0 c a1 a2 e.symm
  rw [S_card_of nd (A := F_min (R_PF s)) (fun x => ?_)]
  · rw [List.length_map]
    omega
  · rw [List.mem_map]
    constructor
    · rintro ⟨k, hk, rfl⟩
      obtain ⟨a0, a1, a2⟩ := (h3 k).mp hk
      exact R_stay_min pv a0 a1 a2
    · intro hx
      obtain ⟨k, k0, k1, k2, k3⟩ := R_min_stay hx
      exact ⟨k, (h3 k).mpr ⟨k0, k1, k2⟩, k3.symm⟩
/-- the slot k holds the sets C -/
def R_CC (s : R_S) (k : Int) (C : P_X) : Prop := 0 ≤ s.2.1 104 k ∧ s.2.1 104 k ≤ 24 ∧ (∀ c, 0 ≤ c → c < s.2.1 104 k → 0 ≤ s.2.1 105 (24 * k + c) ∧ s.2.1 105 (24 * k + c) ≤ 640 ∧ D_srt (fun x => s.2.1 106 (640 * (24 * k + c) + x)) (s.2.1 105 (24 * k + c))) ∧ (∀ c e, 0 ≤ c → c < e → e < s.2.1 104 k → R_crow s k c ≠ R_crow s k e) ∧ (∀ x, C x ↔ ∃ c, 0 ≤ c ∧ c < s.2.1 104 k ∧ x = R_crow s k c)
/-- u is s, but what is wanted in the slot k -/
def R_slf (s u : R_S) (k : Int) : Prop := R_only [104, 105, 106, 109] s u ∧ (∀ j, j ≠ k → u.2.1 104 j = s.2.1 104 j) ∧ (∀ j, ¬ (24 * k ≤ j ∧ j < 24 * k + 24) → u.2.1 105 j = s.2.1 105 j) ∧ (∀ j, ¬ (15360 * k ≤ j ∧ j < 15360 * k + 15360) → u.2.1 106 j = s.2.1 106 j)
theorem R_only.up {Q Q2 : List Nat} {s u : R_S} (h : R_only Q s u) (hq : ∀ q, q ∈ Q → q ∈ Q2) : R_only Q2 s u := ⟨h.1, fun q j n => h.2.1 q j (fun e => n (hq q e)), h.2.2⟩
theorem R_slf_109 {s u : R_S} (h : R_only [109] s u) (k : Int) : R_slf s u k := ⟨h.up (by simp), fun j _ => h.2.1 104 j (by decide), fun j _ => h.2.1 105 j (by decide), fun j _ => h.2.1 106 j (by decide)⟩
theorem R_slf.trans {s u w : R_S} {k : Int} (h : R_slf s u k) (g : R_slf u w k) : R_slf s w k := ⟨h.1.trans g.1, fun j hj => by rw [g.2.1 j hj, h.2.1 j hj], fun j hj => by rw [g.2.2.1 j hj, h.2.2.1 j hj], fun j hj => by rw [g.2.2.2 j hj, h.2.2.2 j hj]⟩
theorem R_CC_slf {s u : R_S} {k e : Int} {C : P_X} (h : R_slf s u k) (ne : e ≠ k) (hC : R_CC s e C) : R_CC u e C := by
  obtain ⟨c0, c1, c2, c3, c4⟩ := hC
  have e1 : u.2.1 104 e = s.2.1 104 e := h.2.1 e ne
  have e2 : ∀ c, 0 ≤ c → c < 24 → u.2.1 105 (24 * e + c) = s.2.1 105 (24 * e + c) := fun c a b => h.2.2.1 _ (by omega)
  have e3 : ∀ c, 0 ≤ c → c < 24 → ∀ x, 0 ≤ x → x < 640 → u.2.1 106 (640 * (24 * e + c) + x) = s.2.1 106 (640 * (24 * e + c) + x) := fun c a b x x0 x1 => h.2.2.2 _ (by omega)
  have er : ∀ c, 0 ≤ c → c < s.2.1 104 e → R_crow u e c = R_crow s e c := fun c a b => D_row_eq (e2 c a (by omega)) (fun j j0 j1 => e3 c a (by omega) j j0 (by rw [e2 c a (by omega)] at j1; have := (c2 c a b).2.1; omega))
  refine ⟨by rw [e1]; exact c0, by rw [e1]; exact c1, fun c a b => ?_, fun c q a b d => ?_, fun x => (c4 x).trans ?_⟩
  · rw [e1] at b
    rw [e2 c a (by omega)]
    obtain ⟨z1, z2, z3⟩ := c2 c a b
    refine ⟨z1, z2, fun i j i0 ij jn => ?_⟩
    show u.2.1 106 _ < u.2.1 106 _
    rw [e3 c a (by omega) i i0 (by omega), e3 c a (by omega) j (by omega) (by omega)]
    exact z3 i j i0 ij jn
  · rw [e1] at d
    rw [er c a (by omega), er q (by omega) d]
    exact c3 c q a b d
  · rw [e1]
    constructor
    · rintro ⟨c, a, b, rfl⟩; exact ⟨c, a, b, (er c a b).symm⟩
    · rintro ⟨c, a, b, rfl⟩; exact ⟨c, a, b, er c a b⟩
/-- a slot's cores -/
theorem R_core_CC {s u : R_S} {k n : Int} (pv : R_pv s) (p1 : 1 ≤ s.1 37) (k0 : 0 ≤ k) (hu : R_ptd s u (15360 * k) n) (hc : R_cor s u (15360 * k) n (s.2.1 107 0)) : R_CC (R_sA (R_sA u 105 (24 * k) n) 104 k 1) k (fun x => x = F_core (R_PF s)) ∧ R_slf s (R_sA (R_sA u 105 (24 * k) n) 104 k 1) k := by
  obtain ⟨h0, h1, h2, h3⟩ := hc
  have p00 := pv.2.2 0 (by omega) (by omega)
  have e104 : (R_sA (R_sA u 105 (24 * k) n) 104 k 1).2.1 104 k = 1 := R_sA_s _ _ _ _
  have e105 : (R_sA (R_sA u 105 (24 * k) n) 104 k 1).2.1 105 (24 * k + 0) = n := by rw [Int.add_zero, R_sA_n _ _ _ _ (by decide), R_sA_s]
  have e106 : ∀ j, (R_sA (R_sA u 105 (24 * k) n) 104 k 1).2.1 106 j = u.2.1 106 j := fun j => by rw [R_sA_n _ _ _ _ (by decide), R_sA_n _ _ _ _ (by decide)]
  have er : R_crow (R_sA (R_sA u 105 (24 * k) n) 104 k 1) k 0 = D_row (fun x => u.2.1 106 (15360 * k + x)) n := D_row_eq e105 (fun j _ _ => by rw [e106]; exact congrArg (u.2.1 106) (by omega))
  have ec : F_core (R_PF s) = D_row (fun x => u.2.1 106 (15360 * k + x)) n := by
    refine F_core_eq (D_row_srt h2) (fun x => ?_)
    rw [D_row_mem, h3]
    constructor
    · rintro ⟨a, b⟩ c ⟨i, i0, i1, rfl⟩
      by_cases q : i = 0
      · rw [q]
        refine D_row_mem.mpr ?_
        obtain ⟨j, j0, j1, j2⟩ := a
        exact ⟨j, j0, j1, by rw [← j2]; exact congrArg (s.2.1 108) (by omega)⟩
      · exact D_row_mem.mpr (b i (by omega) i1)
    · intro h
      refine ⟨?_, fun i i0 i1 => D_row_mem.mp (h _ ⟨i, by omega, i1, rfl⟩)⟩
      obtain ⟨j, j0, j1, j2⟩ := D_row_mem.mp (h _ ⟨0, Int.le_refl _, by omega, rfl⟩)
      exact ⟨j, j0, j1, by rw [← j2]; exact congrArg (s.2.1 108) (by omega)⟩
  refine ⟨⟨by rw [e104]; decide, by rw [e104]; decide, fun c a b => ?_, fun c q a b d => by rw [e104] at d; omega, fun x => ?_⟩, ?_⟩
  · rw [e104] at b
    have : c = 0 := by omega
    subst this
    rw [e105]
    refine ⟨h0, by omega, fun i j i0 ij jn => ?_⟩
    show (R_sA (R_sA u 105 (24 * k) n) 104 k 1).2.1 106 _ < (R_sA (R_sA u 105 (24 * k) n) 104 k 1).2.1 106 _
    rw [e106, e106]
    have := h2 i j i0 ij jn
    have this : u.2.1 106 (15360 * k + i) < u.2.1 106 (15360 * k + j) := this
    rw [show 640 * (24 * k + 0) + i = 15360 * k + i by omega, show 640 * (24 * k + 0) + j = 15360 * k + j by omega]
    exact this
  · rw [e104, ec, ← er]
    constructor
    · intro h; exact ⟨0, by omega, by omega, h⟩
    · rintro ⟨c, a, b, h⟩
      have : c = 0 := by omega
      rw [this] at h
      exact h
  · refine ⟨((hu.1.up (by simp)).st (by simp) _ _).st (by simp) _ _, fun j hj => ?_, fun j hj => ?_, fun j hj => ?_⟩
    · rw [R_sA_m _ _ _ _ hj, R_sA_n _ _ _ _ (by decide)]
      exact hu.1.2.1 104 j (by decide)
    · rw [R_sA_n _ _ _ _ (by decide), R_sA_m _ _ _ _ (by omega)]
      exact hu.1.2.1 105 j (by decide)
    · rw [e106]
      exact hu.2 j (by omega)
