/-! the reference: what a slot holds; empties, shuts -/
/-- the slot k holds what is planned -/
def R_V (s : R_S) (k : Int) (v : P_V) : Prop := match v with
  | .inl A => s.2.1 96 k = 1 ∧ R_EX s k A
  | .inr q => s.2.1 96 k = 0 ∧ R_EN 100 s k q.1 ∧ R_EN 102 s k q.2.1 ∧ R_CC s k q.2.2
theorem R_EX_at {s u : R_S} {e k : Int} {A : P_X} (e97 : u.2.1 97 k = s.2.1 97 e) (e98 : ∀ t, 0 ≤ t → t < s.2.1 97 e → u.2.1 98 (8 * k + t) = s.2.1 98 (8 * e + t)) (e99 : ∀ t, 0 ≤ t → t < s.2.1 97 e → ∀ i, 0 ≤ i → i < s.2.1 98 (8 * e + t) → u.2.1 99 (60 * (8 * k + t) + i) = s.2.1 99 (60 * (8 * e + t) + i)) (h : R_EX s e A) : R_EX u k A := by
  have er : ∀ t, 0 ≤ t → t < s.2.1 97 e → R_trow u k t = R_trow s e t := fun t t0 t1 => D_row_eq (e98 t t0 t1) (fun i i0 i1 => e99 t t0 t1 i i0 (by rw [e98 t t0 t1] at i1; exact i1))
  obtain ⟨⟨v0, v1, v2⟩, ds, mem⟩ := h
  refine ⟨⟨by rw [e97]; exact v0, by rw [e97]; exact v1, fun t t0 t1 => ?_⟩, fun t c t0 tc c1 => ?_, fun x => ?_⟩
  · rw [e97] at t1
    rw [e98 t t0 t1]
    have hv := v2 t t0 t1
    exact ⟨hv.1, hv.2.1, fun i i0 i1 => by rw [e99 t t0 t1 i i0 i1]; exact hv.2.2 i i0 i1⟩
  · rw [e97] at c1
    rw [er t t0 (by omega), er c (by omega) c1]
    exact ds t c t0 tc c1
  · rw [mem, e97]
    constructor
    · rintro ⟨t, t0, t1, h⟩
      exact ⟨t, t0, t1, by rw [er t t0 t1]; exact h⟩
    · rintro ⟨t, t0, t1, h⟩
      exact ⟨t, t0, t1, by rw [← er t t0 t1]; exact h⟩
theorem R_EN_at {q : Nat} {s u : R_S} {e k : Int} {H : P_X} (eq : u.2.1 q k = s.2.1 q e) (e1 : ∀ j, 0 ≤ j → j < s.2.1 q e → u.2.1 (q + 1) (12 * k + j) = s.2.1 (q + 1) (12 * e + j)) (h : R_EN q s e H) : R_EN q u k H := by
  obtain ⟨v0, v1, v2, ds, mem⟩ := h
  refine ⟨by rw [eq]; exact v0, by rw [eq]; exact v1, fun j j0 j1 => ?_, fun i j i0 ij j1 => ?_, fun x => ?_⟩
  · rw [eq] at j1
    rw [e1 j j0 j1]
    exact v2 j j0 j1
  · rw [eq] at j1
    rw [e1 i i0 (by omega), e1 j (by omega) j1]
    exact ds i j i0 ij j1
  · rw [mem, eq]
    constructor
    · rintro ⟨t, t0, t1, h⟩
      exact ⟨t, t0, t1, by rw [e1 t t0 t1]; exact h⟩
    · rintro ⟨t, t0, t1, h⟩
      exact ⟨t, t0, t1, by rw [← e1 t t0 t1]; exact h⟩
theorem R_CC_at {s u : R_S} {e k : Int} {C : P_X} (e104 : u.2.1 104 k = s.2.1 104 e) (e105 : ∀ t, 0 ≤ t → t < s.2.1 104 e → u.2.1 105 (24 * k + t) = s.2.1 105 (24 * e + t)) (e106 : ∀ t, 0 ≤ t → t < s.2.1 104 e → ∀ i, 0 ≤ i → i < s.2.1 105 (24 * e + t) → u.2.1 106 (640 * (24 * k + t) + i) = s.2.1 106 (640 * (24 * e + t) + i)) (h : R_CC s e C) : R_CC u k C := by
  have er : ∀ t, 0 ≤ t → t < s.2.1 104 e → R_crow u k t = R_crow s e t := fun t t0 t1 => D_row_eq (e105 t t0 t1) (fun i i0 i1 => e106 t t0 t1 i i0 (by rw [e105 t t0 t1] at i1; exact i1))
  obtain ⟨v0, v1, v2, ds, mem⟩ := h
  refine ⟨by rw [e104]; exact v0, by rw [e104]; exact v1, fun t t0 t1 => ?_, fun t c t0 tc c1 => ?_, fun x => ?_⟩
  · rw [e104] at t1
    rw [e105 t t0 t1]
    have hv := v2 t t0 t1
    refine ⟨hv.1, hv.2.1, fun i j i0 ij j1 => ?_⟩
    show u.2.1 106 _ < u.2.1 106 _
    rw [e106 t t0 t1 i i0 (by omega), e106 t t0 t1 j (by omega) j1]
    exact hv.2.2 i j i0 ij j1
  · rw [e104] at c1
    rw [er t t0 (by omega), er c (by omega) c1]
    exact ds t c t0 tc c1
  · rw [mem, e104]
    constructor
    · rintro ⟨t, t0, t1, h⟩
      exact ⟨t, t0, t1, by rw [er t t0 t1]; exact h⟩
    · rintro ⟨t, t0, t1, h⟩
      exact ⟨t, t0, t1, by rw [← er t t0 t1]; exact h⟩
/-- so many places of the array q belong to one slot -/
def R_wd (q : Nat) : Int := if q = 98 then 8 else if q = 99 then 480 else if q = 101 ∨ q = 103 then 12 else if q = 105 then 24 else if q = 106 then 15360 else 1
/-- u is s, but the slots K and what is gathered -/
def R_vk (s u : R_S) (K : Int → Prop) : Prop := R_fr [37, 41, 43] [89, 96, 97, 98, 99, 100, 101, 102, 103, 104, 105, 106, 107, 108, 109, 110, 111, 112] s u ∧ ∀ q, 96 ≤ q → q ≤ 106 → ∀ j, ¬ K (j / R_wd q) → u.2.1 q j = s.2.1 q j
theorem R_vk_0 (s : R_S) (K : Int → Prop) : R_vk s s K := ⟨⟨fun _ _ => rfl, fun _ _ _ => rfl, rfl⟩, fun _ _ _ _ _ => rfl⟩
theorem R_vk.trans {s u w : R_S} {K L M : Int → Prop} (h : R_vk s u K) (g : R_vk u w L) (hK : ∀ e, K e → M e) (hL : ∀ e, L e → M e) : R_vk s w M := ⟨h.1.tr g.1, fun q q0 q1 j hj => by rw [g.2 q q0 q1 j (fun e => hj (hL _ e)), h.2 q q0 q1 j (fun e => hj (hK _ e))]⟩
theorem R_vk.st {s u : R_S} {K : Int → Prop} (h : R_vk s u K) {q : Nat} (q0 : 96 ≤ q) (q1 : q ≤ 106) {i v : Int} (hi : K (i / R_wd q)) : R_vk s (R_sA u q i v) K := by
  refine ⟨⟨h.1.1, fun p hp j => ?_, h.1.2.2⟩, fun p p0 p1 j hj => ?_⟩
  · rw [R_sA_n u _ _ _ (fun e => by subst e; simp at hp; omega)]
    exact h.1.2.1 p hp j
  · by_cases c : p = q
    · subst c
      rw [R_sA_m u _ _ _ (fun e => hj (by rw [e]; exact hi))]
      exact h.2 p p0 p1 j hj
    · rw [R_sA_n u _ _ _ c]
      exact h.2 p p0 p1 j hj
theorem R_vk.fl {s u : R_S} {K : Int → Prop} (h : R_vk s u K) {q : Nat} (q0 : 96 ≤ q) (q1 : q ≤ 106) {lo hi : Int} {g : Int → Int} (hi2 : ∀ j, lo ≤ j → j < hi → K (j / R_wd q)) : R_vk s (R_fl u q lo hi g) K := by
  refine ⟨⟨h.1.1, fun p hp j => ?_, h.1.2.2⟩, fun p p0 p1 j hj => ?_⟩
  · rw [R_fl_n (fun e => by subst e; simp at hp; omega)]
    exact h.1.2.1 p hp j
  · by_cases c : p = q
    · subst c
      rw [R_fl_o (fun e => hj (hi2 j e.1 e.2))]
      exact h.2 p p0 p1 j hj
    · rw [R_fl_n c]
      exact h.2 p p0 p1 j hj
/-- another slot stays -/
theorem R_V_vk {s u : R_S} {K : Int → Prop} (h : R_vk s u K) {e : Int} (he : ¬ K e) {v : P_V} (hv : R_V s e v) : R_V u e v := by
  have h1 : ∀ q, 96 ≤ q → q ≤ 106 → R_wd q = 1 → u.2.1 q e = s.2.1 q e := fun q q0 q1 w => h.2 q q0 q1 e (by rw [w, Int.ediv_one]; exact he)
  have hk : ∀ q (q0 : 96 ≤ q) (q1 : q ≤ 106) j, j / R_wd q = e → u.2.1 q j = s.2.1 q j := fun q q0 q1 j w => h.2 q q0 q1 j (by rw [w]; exact he)
  match v, hv with
  | .inl A, hv =>
    have b := hv.2.1
    have b2 := b.2.1
    exact ⟨by rw [h1 96 (by decide) (by decide) rfl]; exact hv.1, R_EX_at (h1 97 (by decide) (by decide) rfl) (fun t t0 t1 => hk 98 (by decide) (by decide) _ (by show _ / (8 : Int) = e; omega)) (fun t t0 t1 i i0 i1 => hk 99 (by decide) (by decide) _ (by show _ / (480 : Int) = e; have := b.2.2 t t0 t1; omega)) hv.2⟩
  | .inr q, hv =>
    obtain ⟨a1, a2, a3, a4⟩ := hv
    refine ⟨by rw [h1 96 (by decide) (by decide) rfl]; exact a1, R_EN_at (h1 100 (by decide) (by decide) rfl) (fun t t0 t1 => hk 101 (by decide) (by decide) _ (by show _ / (12 : Int) = e; have := a2.2.1; omega)) a2, R_EN_at (h1 102 (by decide) (by decide) rfl) (fun t t0 t1 => hk 103 (by decide) (by decide) _ (by show _ / (12 : Int) = e; have := a3.2.1; omega)) a3, R_CC_at (h1 104 (by decide) (by decide) rfl) (fun t t0 t1 => hk 105 (by decide) (by decide) _ (by show _ / (24 : Int) = e; have := a4.2.1; omega)) (fun t t0 t1 i i0 i1 => hk 106 (by decide) (by decide) _ (by show _ / (15360 : Int) = e; have := a4.2.1; have := (a4.2.2.1 t t0 t1).2.1; omega)) a4⟩
theorem R_EN_one {q : Nat} {u : R_S} {k : Int} (e1 : u.2.1 q k = 1) (e2 : u.2.1 (q + 1) (12 * k) = 0) : R_EN q u k (F_one []) := by
  have e3 : ∀ j : Int, 0 ≤ j → j < 1 → u.2.1 (q + 1) (12 * k + j) = 0 := fun j j0 j1 => by rw [show 12 * k + j = 12 * k by omega]; exact e2
  refine ⟨by rw [e1]; decide, by rw [e1]; decide, fun j j0 j1 => ?_, fun i j i0 ij j1 => by rw [e1] at j1; omega, fun x => ?_⟩
  · rw [e1] at j1
    rw [e3 j j0 j1]
    exact .inl rfl
  · rw [e1]
    constructor
    · rintro rfl
      exact ⟨0, by decide, by decide, by rw [e3 0 (by decide) (by decide)]; rfl⟩
    · rintro ⟨j, j0, j1, rfl⟩
      rw [e3 j j0 j1]
      rfl
theorem R_CC_one {u : R_S} {k : Int} (e1 : u.2.1 104 k = 1) (e2 : u.2.1 105 (24 * k) = 0) : R_CC u k (F_one []) := by
  have e3 : ∀ j : Int, 0 ≤ j → j < 1 → u.2.1 105 (24 * k + j) = 0 := fun j j0 j1 => by rw [show 24 * k + j = 24 * k by omega]; exact e2
  have er : ∀ j : Int, 0 ≤ j → j < 1 → R_crow u k j = [] := fun j j0 j1 => by unfold R_crow; rw [e3 j j0 j1]; rfl
  refine ⟨by rw [e1]; decide, by rw [e1]; decide, fun j j0 j1 => ?_, fun i j i0 ij j1 => by rw [e1] at j1; omega, fun x => ?_⟩
  · rw [e1] at j1
    rw [e3 j j0 j1]
    exact ⟨by decide, by decide, fun a b a0 ab b1 => by omega⟩
  · rw [e1]
    constructor
    · rintro rfl
      exact ⟨0, by decide, by decide, (er 0 (by decide) (by decide)).symm⟩
    · rintro ⟨j, j0, j1, rfl⟩
      exact er j j0 j1
theorem R_EX_one {u : R_S} {k : Int} (e1 : u.2.1 97 k = 1) (e2 : u.2.1 98 (8 * k) = 0) : R_EX u k (F_one []) := by
  have e3 : ∀ j : Int, 0 ≤ j → j < 1 → u.2.1 98 (8 * k + j) = 0 := fun j j0 j1 => by rw [show 8 * k + j = 8 * k by omega]; exact e2
  have er : ∀ j : Int, 0 ≤ j → j < 1 → R_trow u k j = [] := fun j j0 j1 => by unfold R_trow; rw [e3 j j0 j1]; rfl
  refine ⟨⟨by rw [e1]; decide, by rw [e1]; decide, fun j j0 j1 => ?_⟩, fun i j i0 ij j1 => by rw [e1] at j1; omega, fun x => ?_⟩
  · rw [e1] at j1
    rw [e3 j j0 j1]
    exact ⟨by decide, by decide, fun a b a0 => by omega⟩
  · rw [e1]
    constructor
    · rintro rfl
      exact ⟨0, by decide, by decide, (er 0 (by decide) (by decide)).symm⟩
    · rintro ⟨j, j0, j1, rfl⟩
      exact er j j0 j1
/-- the state as empties leaves it, as shuts does -/
def R_empS (s : R_S) (k : Int) : R_S := R_sA (R_sA (R_sA s 96 k 1) 97 k 1) 98 (8 * k) 0
def R_shuS (s : R_S) (k : Int) : R_S := R_sA (R_sA (R_sA (R_sA (R_sA (R_sA (R_sA s 96 k 0) 100 k 1) 101 (12 * k) 0) 102 k 1) 103 (12 * k) 0) 104 k 1) 105 (24 * k) 0
theorem R_empS_V (s : R_S) (k : Int) : R_V (R_empS s k) k V_nil := by
  unfold R_empS
  exact ⟨(by repeat (first | rw [R_sA_s] | rw [R_sA_n _ _ _ _ (by decide)])), R_EX_one (by repeat (first | rw [R_sA_s] | rw [R_sA_n _ _ _ _ (by decide)])) (by repeat (first | rw [R_sA_s] | rw [R_sA_n _ _ _ _ (by decide)]))⟩
theorem R_shuS_V (s : R_S) (k : Int) : R_V (R_shuS s k) k V_shut := by
  unfold R_shuS
  exact ⟨(by repeat (first | rw [R_sA_s] | rw [R_sA_n _ _ _ _ (by decide)])), R_EN_one (by repeat (first | rw [R_sA_s] | rw [R_sA_n _ _ _ _ (by decide)])) (by repeat (first | rw [R_sA_s] | rw [R_sA_n _ _ _ _ (by decide)])), R_EN_one (by repeat (first | rw [R_sA_s] | rw [R_sA_n _ _ _ _ (by decide)])) (by repeat (first | rw [R_sA_s] | rw [R_sA_n _ _ _ _ (by decide)])), R_CC_one (by repeat (first | rw [R_sA_s] | rw [R_sA_n _ _ _ _ (by decide)])) (by repeat (first | rw [R_sA_s] | rw [R_sA_n _ _ _ _ (by decide)]))⟩
theorem R_empS_vk (s : R_S) (k : Int) : R_vk s (R_empS s k) (fun e => e = k) :=
  (((R_vk_0 s _).st (q := 96) (by decide) (by decide) (Int.ediv_one k)).st (q := 97) (by decide) (by decide) (Int.ediv_one k)).st (q := 98) (by decide) (by decide) (by show _ / (8 : Int) = k; omega)
theorem R_shuS_vk (s : R_S) (k : Int) : R_vk s (R_shuS s k) (fun e => e = k) :=
  (((((((R_vk_0 s _).st (q := 96) (by decide) (by decide) (Int.ediv_one k)).st (q := 100) (by decide) (by decide) (Int.ediv_one k)).st (q := 101) (by decide) (by decide) (by show _ / (12 : Int) = k; omega)).st (q := 102) (by decide) (by decide) (Int.ediv_one k)).st (q := 103) (by decide) (by decide) (by show _ / (12 : Int) = k; omega)).st (q := 104) (by decide) (by decide) (Int.ediv_one k)).st (q := 105) (by decide) (by decide) (by show _ / (24 : Int) = k; omega)
theorem R_empties (d : Nat) (s : R_S) {k : Int}  (zk : Zr k) (k0 : 0 ≤ k) (k1 : k < 44) : R_ok (d + 1) 236 [.int (Zi k)] s (fun x s2 => x = none ∧ R_V s2 k V_nil ∧ R_vk s s2 (fun e => e = k)) := by
  refine R_enter (M := E_m236) rfl (Nat.le_of_ble_eq_true rfl) (fun h0 h hs => ?_)
  show B_R d _ (0, [(0, .ref 83), (1, .int (Zi k))], []) _ _ _
  refine Z_go (f2 := (1, [(0, .ref 83), (1, .int (Zi k))], [.ref 83])) (fun _ => rfl) ?_
  refine R_gr (q := 94) rfl hs rfl ?_
  show B_R _ _ (4, [(0, .ref 83), (1, .int (Zi k))], [.ref 96]) _ _ _
  refine Z_go (f2 := (5, [(0, .ref 83), (1, .int (Zi k))], [.int (Zi k), .ref 96])) (fun _ => rfl) ?_
  refine Z_go (f2 := (6, [(0, .ref 83), (1, .int (Zi k))], [.int (Zi 1), .int (Zi k), .ref 96])) (fun _ => rfl) ?_
  refine R_bs (q := 12) rfl hs rfl rfl (by omega) (by omega) (by decide) (by first | exact .inl rfl | exact .inr rfl | assumption) (fun h hs => ?_)
  refine Z_go (f2 := (8, [(0, .ref 83), (1, .int (Zi k))], [.ref 83])) (fun _ => rfl) ?_
  refine R_gr (q := 95) rfl hs rfl ?_
  show B_R _ _ (11, [(0, .ref 83), (1, .int (Zi k))], [.ref 97]) _ _ _
  refine Z_go (f2 := (12, [(0, .ref 83), (1, .int (Zi k))], [.int (Zi k), .ref 97])) (fun _ => rfl) ?_
  refine Z_go (f2 := (13, [(0, .ref 83), (1, .int (Zi k))], [.int (Zi 1), .int (Zi k), .ref 97])) (fun _ => rfl) ?_
  refine R_is_ (q := 13) rfl hs rfl rfl (by omega) (by omega) (by decide) (by first | exact hs.zF _ | exact Zor_r _ _ | exact hs.zA _ _ | assumption | exact zA _ _ | exact zS _ | exact Zr_not (hs.zA _ _) | exact ⟨by omega, by omega⟩) (fun h hs => ?_)
  refine Z_go (f2 := (15, [(0, .ref 83), (1, .int (Zi k))], [.ref 83])) (fun _ => rfl) ?_
  refine R_gr (q := 96) rfl hs rfl ?_
  show B_R _ _ (18, [(0, .ref 83), (1, .int (Zi k))], [.ref 98]) _ _ _
  refine Z_go (f2 := (20, [(0, .ref 83), (1, .int (Zi k))], [.int (Zi 8), .ref 98])) (fun _ => rfl) ?_
  refine Z_go (f2 := (21, [(0, .ref 83), (1, .int (Zi k))], [.int (Zi k), .int (Zi 8), .ref 98])) (fun _ => rfl) ?_
  refine Z_imul rfl ?_
  refine Z_go (f2 := (23, [(0, .ref 83), (1, .int (Zi k))], [.int (Zi 0), .int (Zi (8 * k)), .ref 98])) (fun _ => rfl) ?_
  refine R_is_ (q := 14) rfl hs rfl rfl (by omega) (by omega) (by decide) (by first | exact hs.zF _ | exact Zor_r _ _ | exact hs.zA _ _ | assumption | exact zA _ _ | exact zS _ | exact Zr_not (hs.zA _ _) | exact ⟨by omega, by omega⟩) (fun h hs => ?_)
  refine Z_ret rfl rfl ⟨_, hs, ?_, rfl⟩
  exact ⟨rfl, R_empS_V s k, R_empS_vk s k⟩
theorem R_shuts (d : Nat) (s : R_S) {k : Int}  (zk : Zr k) (k0 : 0 ≤ k) (k1 : k < 44) : R_ok (d + 1) 237 [.int (Zi k)] s (fun x s2 => x = none ∧ R_V s2 k V_shut ∧ R_vk s s2 (fun e => e = k)) := by
  refine R_enter (M := E_m237) rfl (Nat.le_of_ble_eq_true rfl) (fun h0 h hs => ?_)
  show B_R d _ (0, [(0, .ref 83), (1, .int (Zi k))], []) _ _ _
  refine Z_go (f2 := (1, [(0, .ref 83), (1, .int (Zi k))], [.ref 83])) (fun _ => rfl) ?_
  refine R_gr (q := 94) rfl hs rfl ?_
  show B_R _ _ (4, [(0, .ref 83), (1, .int (Zi k))], [.ref 96]) _ _ _
  refine Z_go (f2 := (5, [(0, .ref 83), (1, .int (Zi k))], [.int (Zi k), .ref 96])) (fun _ => rfl) ?_
  refine Z_go (f2 := (6, [(0, .ref 83), (1, .int (Zi k))], [.int (Zi 0), .int (Zi k), .ref 96])) (fun _ => rfl) ?_
  refine R_bs (q := 12) rfl hs rfl rfl (by omega) (by omega) (by decide) (by first | exact .inl rfl | exact .inr rfl | assumption) (fun h hs => ?_)
  refine Z_go (f2 := (8, [(0, .ref 83), (1, .int (Zi k))], [.ref 83])) (fun _ => rfl) ?_
  refine R_gr (q := 98) rfl hs rfl ?_
  show B_R _ _ (11, [(0, .ref 83), (1, .int (Zi k))], [.ref 100]) _ _ _
  refine Z_go (f2 := (12, [(0, .ref 83), (1, .int (Zi k))], [.int (Zi k), .ref 100])) (fun _ => rfl) ?_
  refine Z_go (f2 := (13, [(0, .ref 83), (1, .int (Zi k))], [.int (Zi 1), .int (Zi k), .ref 100])) (fun _ => rfl) ?_
  refine R_is_ (q := 16) rfl hs rfl rfl (by omega) (by omega) (by decide) (by first | exact hs.zF _ | exact Zor_r _ _ | exact hs.zA _ _ | assumption | exact zA _ _ | exact zS _ | exact Zr_not (hs.zA _ _) | exact ⟨by omega, by omega⟩) (fun h hs => ?_)
  refine Z_go (f2 := (15, [(0, .ref 83), (1, .int (Zi k))], [.ref 83])) (fun _ => rfl) ?_
  refine R_gr (q := 99) rfl hs rfl ?_
  show B_R _ _ (18, [(0, .ref 83), (1, .int (Zi k))], [.ref 101]) _ _ _
  refine Z_go (f2 := (20, [(0, .ref 83), (1, .int (Zi k))], [.int (Zi 12), .ref 101])) (fun _ => rfl) ?_
  refine Z_go (f2 := (21, [(0, .ref 83), (1, .int (Zi k))], [.int (Zi k), .int (Zi 12), .ref 101])) (fun _ => rfl) ?_
  refine Z_imul rfl ?_
  refine Z_go (f2 := (23, [(0, .ref 83), (1, .int (Zi k))], [.int (Zi 0), .int (Zi (12 * k)), .ref 101])) (fun _ => rfl) ?_
  refine R_is_ (q := 17) rfl hs rfl rfl (by omega) (by omega) (by decide) (by first | exact hs.zF _ | exact Zor_r _ _ | exact hs.zA _ _ | assumption | exact zA _ _ | exact zS _ | exact Zr_not (hs.zA _ _) | exact ⟨by omega, by omega⟩) (fun h hs => ?_)
  refine Z_go (f2 := (25, [(0, .ref 83), (1, .int (Zi k))], [.ref 83])) (fun _ => rfl) ?_
  refine R_gr (q := 100) rfl hs rfl ?_
  show B_R _ _ (28, [(0, .ref 83), (1, .int (Zi k))], [.ref 102]) _ _ _
  refine Z_go (f2 := (29, [(0, .ref 83), (1, .int (Zi k))], [.int (Zi k), .ref 102])) (fun _ => rfl) ?_
  refine Z_go (f2 := (30, [(0, .ref 83), (1, .int (Zi k))], [.int (Zi 1), .int (Zi k), .ref 102])) (fun _ => rfl) ?_
  refine R_is_ (q := 18) rfl hs rfl rfl (by omega) (by omega) (by decide) (by first | exact hs.zF _ | exact Zor_r _ _ | exact hs.zA _ _ | assumption | exact zA _ _ | exact zS _ | exact Zr_not (hs.zA _ _) | exact ⟨by omega, by omega⟩) (fun h hs => ?_)
  refine Z_go (f2 := (32, [(0, .ref 83), (1, .int (Zi k))], [.ref 83])) (fun _ => rfl) ?_
  refine R_gr (q := 101) rfl hs rfl ?_
  show B_R _ _ (35, [(0, .ref 83), (1, .int (Zi k))], [.ref 103]) _ _ _
  refine Z_go (f2 := (37, [(0, .ref 83), (1, .int (Zi k))], [.int (Zi 12), .ref 103])) (fun _ => rfl) ?_
  refine Z_go (f2 := (38, [(0, .ref 83), (1, .int (Zi k))], [.int (Zi k), .int (Zi 12), .ref 103])) (fun _ => rfl) ?_
  refine Z_imul rfl ?_
  refine Z_go (f2 := (40, [(0, .ref 83), (1, .int (Zi k))], [.int (Zi 0), .int (Zi (12 * k)), .ref 103])) (fun _ => rfl) ?_
  refine R_is_ (q := 19) rfl hs rfl rfl (by omega) (by omega) (by decide) (by first | exact hs.zF _ | exact Zor_r _ _ | exact hs.zA _ _ | assumption | exact zA _ _ | exact zS _ | exact Zr_not (hs.zA _ _) | exact ⟨by omega, by omega⟩) (fun h hs => ?_)
  refine Z_go (f2 := (42, [(0, .ref 83), (1, .int (Zi k))], [.ref 83])) (fun _ => rfl) ?_
  refine R_gr (q := 102) rfl hs rfl ?_
  show B_R _ _ (45, [(0, .ref 83), (1, .int (Zi k))], [.ref 104]) _ _ _
  refine Z_go (f2 := (46, [(0, .ref 83), (1, .int (Zi k))], [.int (Zi k), .ref 104])) (fun _ => rfl) ?_
  refine Z_go (f2 := (47, [(0, .ref 83), (1, .int (Zi k))], [.int (Zi 1), .int (Zi k), .ref 104])) (fun _ => rfl) ?_
  refine R_is_ (q := 20) rfl hs rfl rfl (by omega) (by omega) (by decide) (by first | exact hs.zF _ | exact Zor_r _ _ | exact hs.zA _ _ | assumption | exact zA _ _ | exact zS _ | exact Zr_not (hs.zA _ _) | exact ⟨by omega, by omega⟩) (fun h hs => ?_)
  refine Z_go (f2 := (49, [(0, .ref 83), (1, .int (Zi k))], [.ref 83])) (fun _ => rfl) ?_
  refine R_gr (q := 103) rfl hs rfl ?_
  show B_R _ _ (52, [(0, .ref 83), (1, .int (Zi k))], [.ref 105]) _ _ _
  refine Z_go (f2 := (54, [(0, .ref 83), (1, .int (Zi k))], [.int (Zi 24), .ref 105])) (fun _ => rfl) ?_
  refine Z_go (f2 := (55, [(0, .ref 83), (1, .int (Zi k))], [.int (Zi k), .int (Zi 24), .ref 105])) (fun _ => rfl) ?_
  refine Z_imul rfl ?_
  refine Z_go (f2 := (57, [(0, .ref 83), (1, .int (Zi k))], [.int (Zi 0), .int (Zi (24 * k)), .ref 105])) (fun _ => rfl) ?_
  refine R_is_ (q := 21) rfl hs rfl rfl (by omega) (by omega) (by decide) (by first | exact hs.zF _ | exact Zor_r _ _ | exact hs.zA _ _ | assumption | exact zA _ _ | exact zS _ | exact Zr_not (hs.zA _ _) | exact ⟨by omega, by omega⟩) (fun h hs => ?_)
  refine Z_ret rfl rfl ⟨_, hs, ?_, rfl⟩
  exact ⟨rfl, R_shuS_V s k, R_shuS_vk s k⟩
