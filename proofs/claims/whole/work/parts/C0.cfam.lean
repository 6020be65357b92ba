/-! the class: Family: rows of sets -/
def C_rw (s : C_S) (x : Option Nat) : Nat := match x with
  | none => 0
  | some r => match C_P s r 0 with
    | none => 0
    | some a => (C_K s a).2 + 16
/-- what a Family's rows weigh -/
def C_fw (s : C_S) (qa R : Nat) : Nat := ((List.range R).map (fun i : Nat => C_rw s (C_Q s qa (i : Int)))).sum
theorem L_sum_upd {f g : Nat → Nat} {k : Nat} : ∀ {R : Nat}, (∀ i, i < R → i ≠ k → g i = f i) → k < R → ((List.range R).map g).sum + f k = ((List.range R).map f).sum + g k := by
  intro R
  induction R with
  | zero => intro _ h; omega
  | succ R ih =>
    intro h hk
    rw [List.range_succ, List.map_append, List.map_append, List.sum_append, List.sum_append]
    simp only [List.map_cons, List.map_nil, List.sum_cons, List.sum_nil, Nat.add_zero]
    by_cases c : k = R
    · subst c
      have : (List.range k).map g = (List.range k).map f := List.map_congr_left (fun i hi => h i (by have := List.mem_range.mp hi; omega) (by have := List.mem_range.mp hi; omega))
      rw [this]
      omega
    · have := ih (fun i hi hne => h i (by omega) hne) (by omega)
      have := h R (by omega) (fun e => c e.symm)
      omega
theorem L_sum_eq {f g : Nat → Nat} {R : Nat} (h : ∀ i, i < R → g i = f i) : ((List.range R).map g).sum = ((List.range R).map f).sum := by
  rw [List.map_congr_left (fun i hi => h i (List.mem_range.mp hi))]
theorem C_fw_upd {s s2 : C_S} {qa R : Nat} {k : Int} (h : ∀ i : Int, 0 ≤ i → i < R → i ≠ k → C_rw s2 (C_Q s2 qa i) = C_rw s (C_Q s qa i)) (k0 : 0 ≤ k) (k1 : k < R) : C_fw s2 qa R + C_rw s (C_Q s qa k) = C_fw s qa R + C_rw s2 (C_Q s2 qa k) := by
  obtain ⟨i, rfl⟩ := Int.eq_ofNat_of_zero_le k0
  exact L_sum_upd (f := fun i : Nat => C_rw s (C_Q s qa (i : Int))) (g := fun i : Nat => C_rw s2 (C_Q s2 qa (i : Int))) (k := i) (fun j hj hne => h j (by omega) (by omega) (by omega)) (by omega)
theorem C_fw_eq {s s2 : C_S} {qa R : Nat} (h : ∀ i : Int, 0 ≤ i → i < R → C_rw s2 (C_Q s2 qa i) = C_rw s (C_Q s qa i)) : C_fw s2 qa R = C_fw s qa R := L_sum_eq (R := R) (f := fun i : Nat => C_rw s (C_Q s qa (i : Int))) (g := fun i : Nat => C_rw s2 (C_Q s2 qa (i : Int))) (fun i hi => h i (by omega) (by omega))
theorem D_Row.rw {s : C_S} {p : List Nat} {o a cap : Nat} {xs : List Int} (h : D_Row s p o a cap xs) : C_rw s (some o) = cap + 16 := by
  unfold C_rw
  dsimp only
  rw [h.2.2.1]
  dsimp only
  rw [h.2.2.2.1]
/-- a slot of a Family -/
def D_sl (s : C_S) (p : List Nat) (qa B m : Nat) (φ : Int → List Int) (i : Int) : Prop := (C_Q s qa i = none ∧ m ≤ i) ∨ ∃ r a cap xs, C_Q s qa i = some r ∧ D_Row s (p ++ [r]) r a cap xs ∧ cap ≤ B ∧ (i < m → xs = φ i)
/-- a Family at f: m sets, φ tells them; room for R of them -/
def D_Fm (s : C_S) (p : List Nat) (f qa ma R B m : Nat) (φ : Int → List Int) : Prop := (C_K s f = (9, 0) ∧ C_T s f = p ∧ C_P s f 0 = some qa ∧ C_P s f 1 = some ma ∧ C_K s qa = (4, R) ∧ C_T s qa = p ∧ C_K s ma = (3, R) ∧ C_T s ma = p ∧ C_F s f 2 = m ∧ m ≤ R ∧ 1 ≤ R) ∧ (∀ i : Int, 0 ≤ i → i < R → D_sl s p qa B m φ i) ∧ (∀ i j : Int, 0 ≤ i → i < R → 0 ≤ j → j < R → ∀ r, C_Q s qa i = some r → C_Q s qa j = some r → i = j) ∧ (∀ i : Int, 0 ≤ i → i < m → C_L s ma i = L_mk (φ i) ∧ L_srt (φ i))
theorem D_Fm.rd {s : C_S} {p : List Nat} {f qa ma R B m : Nat} {φ : Int → List Int} (h : D_Fm s p f qa ma R B m φ) {i : Int} (i0 : 0 ≤ i) (i1 : i < m) : ∃ r a cap, C_Q s qa i = some r ∧ D_Row s (p ++ [r]) r a cap (φ i) ∧ cap ≤ B := by
  have hm := h.1.2.2.2.2.2.2.2.2.2.1
  rcases h.2.1 i i0 (by omega) with ⟨_, e⟩ | ⟨r, a, cap, xs, e1, e2, e3, e4⟩
  · omega
  · rw [e4 i1] at e2
    exact ⟨r, a, cap, e1, e2, e3⟩
theorem L_app_ne (p : List Nat) (r : Nat) : p ≠ p ++ [r] := fun e => by
  have := congrArg List.length e
  simp at this
theorem L_app_ne2 {p : List Nat} {r q : Nat} (h : r ≠ q) : p ++ [r] ≠ p ++ [q] := fun e => h (by
  have := List.append_cancel_left e
  injection this)
theorem L_pre_self (p : List Nat) : p <+: p := ⟨[], List.append_nil p⟩
theorem L_pre_one (p : List Nat) (r : Nat) : p <+: p ++ [r] := ⟨[r], rfl⟩
/-- its own places are told apart by path and kind -/
theorem D_Fm.ne {s : C_S} {p : List Nat} {f qa ma R B m : Nat} {φ : Int → List Int} (h : D_Fm s p f qa ma R B m φ) : f ≠ qa ∧ f ≠ ma ∧ qa ≠ ma := by
  obtain ⟨⟨h1, h2, h3, h4, h5, h6, h7, h8, h9⟩, _⟩ := h
  refine ⟨fun e => ?_, fun e => ?_, fun e => ?_⟩
  · rw [e, h5] at h1; cases h1
  · rw [e, h7] at h1; cases h1
  · rw [e, h7] at h5; cases h5
theorem D_Fm.fr {X : List Nat → Prop} {s s2 : C_S} {p : List Nat} {f qa ma R B m : Nat} {φ : Int → List Int} (h : D_Fm s p f qa ma R B m φ) (w : C_wf s) (k : C_fr X s s2) (hX : ∀ t, p <+: t → ¬ X t) : D_Fm s2 p f qa ma R B m φ ∧ C_fw s2 qa R = C_fw s qa R := by
  obtain ⟨⟨h1, h2, h3, h4, h5, h6, h7, h8, h9, h10, h11⟩, g1, g2, g3⟩ := h
  have lf := C_lt w h1 (show 9 < 20 by decide)
  have lq := C_lt w h5 (show 4 < 20 by decide)
  have lm := C_lt w h7 (show 3 < 20 by decide)
  have nx := hX p (L_pre_self p)
  obtain ⟨ef1, ef2, ef3, ef4, ef5⟩ := k.2.2.1 f lf (by rw [h2]; exact nx)
  obtain ⟨eq1, eq2, eq3, eq4, eq5⟩ := k.2.2.1 qa lq (by rw [h6]; exact nx)
  obtain ⟨em1, em2, em3, em4, em5⟩ := k.2.2.1 ma lm (by rw [h8]; exact nx)
  have kf := k.2.1 f lf
  have kq := k.2.1 qa lq
  have km := k.2.1 ma lm
  have hrow : ∀ i : Int, 0 ≤ i → i < R → D_sl s2 p qa B m φ i ∧ C_rw s2 (C_Q s2 qa i) = C_rw s (C_Q s qa i) := fun i i0 i1 => by
    rcases g1 i i0 i1 with ⟨e1, e2⟩ | ⟨r, a, cap, xs, e1, e2, e3, e4⟩
    · exact ⟨.inl ⟨by rw [eq5]; exact e1, e2⟩, by rw [eq5, e1]; rfl⟩
    · have hr := e2.fr w k (hX _ (L_pre_one p r))
      exact ⟨.inr ⟨r, a, cap, xs, by rw [eq5]; exact e1, hr, e3, e4⟩, by rw [eq5, e1, hr.rw, e2.rw]⟩
  refine ⟨⟨⟨by rw [kf.1]; exact h1, by rw [kf.2]; exact h2, by rw [ef2]; exact h3, by rw [ef2]; exact h4, by rw [kq.1]; exact h5, by rw [kq.2]; exact h6, by rw [km.1]; exact h7, by rw [km.2]; exact h8, by rw [ef1]; exact h9, h10, h11⟩, fun i i0 i1 => (hrow i i0 i1).1, fun i j i0 i1 j0 j1 r q1 q2 => ?_, fun i i0 i1 => ?_⟩, C_fw_eq (fun i i0 i1 => (hrow i i0 i1).2)⟩
  · rw [eq5] at q1 q2
    exact g2 i j i0 i1 j0 j1 r q1 q2
  · rw [em4]
    exact g3 i i0 i1
/-- the row of a slot behind the last set changes: nothing that counts does -/
theorem D_Fm.rowset {s s2 : C_S} {p : List Nat} {f qa ma R B m : Nat} {φ : Int → List Int} (h : D_Fm s p f qa ma R B m φ) (w : C_wf s) {i : Int} (i0 : 0 ≤ i) (i1 : i < R) (im : m ≤ i) {r a2 cap2 : Nat} {ys : List Int} (hq : C_Q s qa i = some r) (k : C_fr (fun t => t = p ++ [r]) s s2) (hr : D_Row s2 (p ++ [r]) r a2 cap2 ys) (hB : cap2 ≤ B) : D_Fm s2 p f qa ma R B m φ ∧ C_Q s2 qa i = some r ∧ C_fw s2 qa R + C_rw s (some r) = C_fw s qa R + (cap2 + 16) := by
  obtain ⟨⟨h1, h2, h3, h4, h5, h6, h7, h8, h9, h10, h11⟩, g1, g2, g3⟩ := h
  have lf := C_lt w h1 (show 9 < 20 by decide)
  have lq := C_lt w h5 (show 4 < 20 by decide)
  have lm := C_lt w h7 (show 3 < 20 by decide)
  have nx : ¬ p = p ++ [r] := L_app_ne p r
  obtain ⟨ef1, ef2, ef3, ef4, ef5⟩ := k.2.2.1 f lf (by rw [h2]; exact nx)
  obtain ⟨eq1, eq2, eq3, eq4, eq5⟩ := k.2.2.1 qa lq (by rw [h6]; exact nx)
  obtain ⟨em1, em2, em3, em4, em5⟩ := k.2.2.1 ma lm (by rw [h8]; exact nx)
  have kf := k.2.1 f lf
  have kq := k.2.1 qa lq
  have km := k.2.1 ma lm
  have hrow : ∀ j : Int, 0 ≤ j → j < R → j ≠ i → D_sl s2 p qa B m φ j ∧ C_rw s2 (C_Q s2 qa j) = C_rw s (C_Q s qa j) := fun j j0 j1 ne => by
    rcases g1 j j0 j1 with ⟨e1, e2⟩ | ⟨r2, a, cap, xs, e1, e2, e3, e4⟩
    · exact ⟨.inl ⟨by rw [eq5]; exact e1, e2⟩, by rw [eq5, e1]; rfl⟩
    · have hne : r2 ≠ r := fun e => ne (g2 j i j0 j1 i0 i1 r (by rw [e1, e]) hq)
      have hr := e2.fr w k (L_app_ne2 hne)
      exact ⟨.inr ⟨r2, a, cap, xs, by rw [eq5]; exact e1, hr, e3, e4⟩, by rw [eq5, e1, hr.rw, e2.rw]⟩
  refine ⟨⟨⟨by rw [kf.1]; exact h1, by rw [kf.2]; exact h2, by rw [ef2]; exact h3, by rw [ef2]; exact h4, by rw [kq.1]; exact h5, by rw [kq.2]; exact h6, by rw [km.1]; exact h7, by rw [km.2]; exact h8, by rw [ef1]; exact h9, h10, h11⟩, fun j j0 j1 => ?_, fun i j i0 i1 j0 j1 r q1 q2 => ?_, fun i i0 i1 => ?_⟩, by rw [eq5]; exact hq, ?_⟩
  · by_cases e : j = i
    · subst e
      exact .inr ⟨r, a2, cap2, ys, by rw [eq5]; exact hq, hr, hB, fun c => by omega⟩
    · exact (hrow j j0 j1 e).1
  · rw [eq5] at q1 q2
    exact g2 i j i0 i1 j0 j1 r q1 q2
  · rw [em4]
    exact g3 i i0 i1
  · have := C_fw_upd (fun j j0 j1 ne => (hrow j j0 j1 ne).2) i0 i1
    rw [hq, eq5, hq, hr.rw] at this
    exact this
/-- a set more, once its row stands -/
theorem D_Fm.grow {s : C_S} {p : List Nat} {f qa ma R B m : Nat} {φ : Int → List Int} (h : D_Fm s p f qa ma R B m φ) (hm : m < R) {r a cap : Nat} {ys : List Int} (hq : C_Q s qa m = some r) (hr : D_Row s (p ++ [r]) r a cap ys) (hB : cap ≤ B) (hs : L_srt ys) {v : Int} (hv : v = m + 1) : D_Fm (C_sF (C_sL s ma m (L_mk ys)) f 2 v) p f qa ma R B (m + 1) (fun i => if i = m then ys else φ i) := by
  obtain ⟨⟨h1, h2, h3, h4, h5, h6, h7, h8, h9, h10, h11⟩, g1, g2, g3⟩ := h
  subst hv
  have hrow : ∀ (r2 a2 cap2 : Nat) (xs : List Int), D_Row s (p ++ [r2]) r2 a2 cap2 xs → D_Row (C_sF (C_sL s ma m (L_mk ys)) f 2 (m + 1)) (p ++ [r2]) r2 a2 cap2 xs := fun r2 a2 cap2 xs e => by
    obtain ⟨k1, k2, k3, k4, k5, k6, k7, k8, k9⟩ := e
    refine ⟨k1, k2, k3, k4, k5, ?_, k7, k8, k9⟩
    exact (if_neg (fun e => by have := e.2; omega)).trans k6
  refine ⟨⟨h1, h2, h3, h4, h5, h6, h7, h8, (if_pos ⟨rfl, rfl⟩).trans (by omega), by omega, h11⟩, fun i i0 i1 => ?_, g2, fun i i0 i1 => ?_⟩
  · by_cases e : i = m
    · subst e
      exact .inr ⟨r, a, cap, ys, hq, hrow _ _ _ _ hr, hB, fun _ => (if_pos rfl).symm⟩
    · rcases g1 i i0 i1 with ⟨e1, e2⟩ | ⟨r2, a2, cap2, xs, e1, e2, e3, e4⟩
      · exact .inl ⟨e1, by omega⟩
      · exact .inr ⟨r2, a2, cap2, xs, e1, hrow _ _ _ _ e2, e3, fun c => (e4 (by omega)).trans (if_neg e).symm⟩
  · show (if ma = ma ∧ i = m then L_mk ys else C_L s ma i) = L_mk (if i = m then ys else φ i) ∧ L_srt (if i = m then ys else φ i)
    by_cases e : i = m
    · rw [if_pos ⟨rfl, e⟩, if_pos e]
      exact ⟨rfl, hs⟩
    · rw [if_neg (fun x => e x.2), if_neg e]
      exact g3 i i0 (by omega)
theorem D_Fm.shrink {s : C_S} {p : List Nat} {f qa ma R B m k : Nat} {φ : Int → List Int} (h : D_Fm s p f qa ma R B m φ) (hk : k ≤ m) {v : Int} (hv : v = k) : D_Fm (C_sF s f 2 v) p f qa ma R B k φ := by
  obtain ⟨⟨h1, h2, h3, h4, h5, h6, h7, h8, h9, h10, h11⟩, g1, g2, g3⟩ := h
  subst hv
  refine ⟨⟨h1, h2, h3, h4, h5, h6, h7, h8, if_pos ⟨rfl, rfl⟩, by omega, h11⟩, fun i i0 i1 => ?_, g2, fun i i0 i1 => g3 i i0 (by omega)⟩
  rcases g1 i i0 i1 with ⟨e1, e2⟩ | ⟨r2, a2, cap2, xs, e1, e2, e3, e4⟩
  · exact .inl ⟨e1, by omega⟩
  · obtain ⟨k1, k2, k3, k4, k5, k6, k7, k8, k9⟩ := e2
    exact .inr ⟨r2, a2, cap2, xs, e1, ⟨k1, k2, k3, k4, k5, (if_neg (fun e => by have := e.2; omega)).trans k6, k7, k8, k9⟩, e3, fun c => e4 (by omega)⟩
theorem C_fw_sF {s : C_S} {qa R o b : Nat} {v : Int} : C_fw (C_sF s o b v) qa R = C_fw s qa R := rfl
theorem C_fw_sL {s : C_S} {qa R o : Nat} {i : Int} {v : Int64} : C_fw (C_sL s o i v) qa R = C_fw s qa R := rfl
def F_sw (φ : Int → List Int) (i k : Int) : Int → List Int := fun j => if j = k then φ i else if j = i then φ k else φ j
/-- two sets change places -/
theorem D_Fm.swap {s : C_S} {p : List Nat} {f qa ma R B m : Nat} {φ : Int → List Int} (h : D_Fm s p f qa ma R B m φ) {i k : Int} (i0 : 0 ≤ i) (i1 : i < m) (k0 : 0 ≤ k) (k1 : k < m) (ne : i ≠ k) {ri rk : Option Nat} (hi : C_Q s qa i = ri) (hk : C_Q s qa k = rk) {x y : Int64} (hx : x = C_L s ma k) (hy : y = C_L s ma i) : D_Fm (C_sL (C_sL (C_sQ (C_sQ s qa i rk) qa k ri) ma i x) ma k y) p f qa ma R B m (F_sw φ i k) ∧ C_fw (C_sL (C_sL (C_sQ (C_sQ s qa i rk) qa k ri) ma i x) ma k y) qa R = C_fw s qa R := by
  subst hi hk hx hy
  obtain ⟨⟨h1, h2, h3, h4, h5, h6, h7, h8, h9, h10, h11⟩, g1, g2, g3⟩ := h
  generalize hu : C_sL (C_sL (C_sQ (C_sQ s qa i (C_Q s qa k)) qa k (C_Q s qa i)) ma i (C_L s ma k)) ma k (C_L s ma i) = u
  have eQ : ∀ j, C_Q u qa j = if j = k then C_Q s qa i else if j = i then C_Q s qa k else C_Q s qa j := fun j => by
    rw [← hu]
    show (if qa = qa ∧ j = k then C_Q s qa i else (if qa = qa ∧ j = i then C_Q s qa k else C_Q s qa j)) = _
    simp
  have eL : ∀ j, C_L u ma j = if j = k then C_L s ma i else if j = i then C_L s ma k else C_L s ma j := fun j => by
    rw [← hu]
    show (if ma = ma ∧ j = k then C_L s ma i else (if ma = ma ∧ j = i then C_L s ma k else C_L s ma j)) = _
    simp
  have eK : C_K u = C_K s := by rw [← hu]; rfl
  have eT : C_T u = C_T s := by rw [← hu]; rfl
  have eF : C_F u = C_F s := by rw [← hu]; rfl
  have eP : C_P u = C_P s := by rw [← hu]; rfl
  have eA : C_A u = C_A s := by rw [← hu]; rfl
  have hrow : ∀ (q : List Nat) (r a cap : Nat) (xs : List Int), D_Row s q r a cap xs → D_Row u q r a cap xs := fun q r a cap xs e => by
    unfold D_Row at e ⊢
    rw [eK, eT, eF, eP, eA]
    exact e
  have eR : ∀ x, C_rw u x = C_rw s x := fun x => by unfold C_rw; rw [eP, eK]
  have sl : ∀ j : Int, 0 ≤ j → j < R → ∀ q : Int, 0 ≤ q → q < R → (q < m → j < m) → C_Q u qa j = C_Q s qa q → (j < m → q < m ∧ F_sw φ i k j = φ q) → D_sl u p qa B m (F_sw φ i k) j := fun j j0 j1 q q0 q1 qm hq hj => by
    rcases g1 q q0 q1 with ⟨e1, e2⟩ | ⟨r2, a2, cap2, xs, e1, e2, e3, e4⟩
    · refine .inl ⟨by rw [hq, e1], ?_⟩
      rcases Classical.em (j < m) with c | c
      · have := (hj c).1
        omega
      · omega
    · exact .inr ⟨r2, a2, cap2, xs, by rw [hq, e1], hrow _ _ _ _ _ e2, e3, fun c => by rw [(hj c).2]; exact e4 (hj c).1⟩
  refine ⟨⟨⟨by rw [eK]; exact h1, by rw [eT]; exact h2, by rw [eP]; exact h3, by rw [eP]; exact h4, by rw [eK]; exact h5, by rw [eT]; exact h6, by rw [eK]; exact h7, by rw [eT]; exact h8, by rw [eF]; exact h9, h10, h11⟩, fun j j0 j1 => ?_, fun a b a0 a1 b0 b1 r q1 q2 => ?_, fun j j0 j1 => ?_⟩, ?_⟩
  · by_cases e1 : j = k
    · exact sl j j0 j1 i i0 (by omega) (fun _ => by omega) (by rw [eQ, if_pos e1]) (fun _ => ⟨i1, if_pos e1⟩)
    · by_cases e2 : j = i
      · exact sl j j0 j1 k k0 (by omega) (fun _ => by omega) (by rw [eQ, if_neg e1, if_pos e2]) (fun _ => ⟨k1, (if_neg e1).trans (if_pos e2)⟩)
      · exact sl j j0 j1 j j0 j1 id (by rw [eQ, if_neg e1, if_neg e2]) (fun c => ⟨c, (if_neg e1).trans (if_neg e2)⟩)
  · have pick : ∀ a : Int, 0 ≤ a → a < R → ∃ q : Int, 0 ≤ q ∧ q < R ∧ C_Q u qa a = C_Q s qa q ∧ (q = if a = k then i else if a = i then k else a) := fun a a0 a1 => by
      by_cases e1 : a = k
      · exact ⟨i, i0, by omega, by rw [eQ, if_pos e1], by rw [if_pos e1]⟩
      · by_cases e2 : a = i
        · exact ⟨k, k0, by omega, by rw [eQ, if_neg e1, if_pos e2], by rw [if_neg e1, if_pos e2]⟩
        · exact ⟨a, a0, a1, by rw [eQ, if_neg e1, if_neg e2], by rw [if_neg e1, if_neg e2]⟩
    obtain ⟨x, x0, x1, x2, x3⟩ := pick a a0 a1
    obtain ⟨y, y0, y1, y2, y3⟩ := pick b b0 b1
    have := g2 x y x0 x1 y0 y1 r (by rw [← x2]; exact q1) (by rw [← y2]; exact q2)
    by_cases e1 : a = k <;> by_cases e2 : a = i <;> by_cases e3 : b = k <;> by_cases e4 : b = i <;> simp [e1, e2, e3, e4] at x3 y3 <;> omega
  · rw [eL]
    show _ = L_mk (if j = k then φ i else if j = i then φ k else φ j) ∧ L_srt (if j = k then φ i else if j = i then φ k else φ j)
    by_cases e1 : j = k
    · rw [if_pos e1, if_pos e1]
      exact g3 i i0 i1
    · rw [if_neg e1, if_neg e1]
      by_cases e2 : j = i
      · rw [if_pos e2, if_pos e2]
        exact g3 k k0 k1
      · rw [if_neg e2, if_neg e2]
        exact g3 j j0 j1
  · -- the weights: two changes
    have u1 := C_fw_upd (s := s) (s2 := C_sQ s qa i (C_Q s qa k)) (qa := qa) (R := R) (k := i) (fun j _ _ hne => by
      show C_rw s (if qa = qa ∧ j = i then C_Q s qa k else C_Q s qa j) = _
      rw [if_neg (fun e => hne e.2)]) i0 (by omega)
    have u2 := C_fw_upd (s := C_sQ s qa i (C_Q s qa k)) (s2 := u) (qa := qa) (R := R) (k := k) (fun j _ _ hne => by
      rw [eR, eQ, if_neg hne]
      show _ = C_rw s (if qa = qa ∧ j = i then C_Q s qa k else C_Q s qa j)
      simp) k0 (by omega)
    rw [eR, eQ, if_pos rfl] at u2
    have v1 : C_rw (C_sQ s qa i (C_Q s qa k)) (C_Q (C_sQ s qa i (C_Q s qa k)) qa i) = C_rw s (C_Q s qa k) := by
      show C_rw s (if qa = qa ∧ i = i then C_Q s qa k else C_Q s qa i) = _
      rw [if_pos ⟨rfl, rfl⟩]
    have v2 : C_rw (C_sQ s qa i (C_Q s qa k)) (C_Q (C_sQ s qa i (C_Q s qa k)) qa k) = C_rw s (C_Q s qa k) := by
      show C_rw s (if qa = qa ∧ k = i then C_Q s qa k else C_Q s qa k) = _
      simp
    omega
