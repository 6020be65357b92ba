/-! the reference: what a piece of code leads to -/
def X_hd (d : Nat) (sl : Nat) (Φ : E_R → Prop) (bk p top : Int) (h : E_H) : Prop := B_R (d + 1) E_m266 (4, [(3, .int (Zi p)), (2, .int (Zi top)), (0, .ref 83), (1, .int (Zi bk))], []) h sl Φ
/-- where the places of X lead to, or come from -/
def M_im (bk : Int) (R : M_R) (X : Int → Prop) : Int → Prop := fun j => if bk = 0 then ∃ i, X i ∧ R i j else ∃ i, X i ∧ R j i
def X_sq (bk : Int) (R Q : M_R) : M_R := if bk = 0 then M_seq R Q else M_seq Q R
theorem M_im_sq {bk : Int} {R Q : M_R} {X : Int → Prop} {j : Int} : M_im bk (X_sq bk R Q) X j ↔ M_im bk Q (M_im bk R X) j := by
  unfold M_im X_sq
  by_cases c : bk = 0
  · rw [if_pos c, if_pos c, if_pos c]
    constructor
    · rintro ⟨i, h1, k, h2, h3⟩
      exact ⟨k, by rw [if_pos c]; exact ⟨i, h1, h2⟩, h3⟩
    · rintro ⟨k, h1, h3⟩
      rw [if_pos c] at h1
      obtain ⟨i, h1, h2⟩ := h1
      exact ⟨i, h1, k, h2, h3⟩
  · rw [if_neg c, if_neg c, if_neg c]
    constructor
    · rintro ⟨i, h1, k, h2, h3⟩
      exact ⟨k, by rw [if_neg c]; exact ⟨i, h1, h3⟩, h2⟩
    · rintro ⟨k, h1, h3⟩
      rw [if_neg c] at h1
      obtain ⟨i, h1, h2⟩ := h1
      exact ⟨i, h1, k, h3, h2⟩
theorem M_im_cong {bk : Int} {R Q : M_R} {X : Int → Prop} (h : ∀ i j, R i j ↔ Q i j) {j : Int} : M_im bk R X j ↔ M_im bk Q X j := by
  unfold M_im
  by_cases c : bk = 0
  · rw [if_pos c, if_pos c]
    exact exists_congr (fun i => and_congr Iff.rfl (h i j))
  · rw [if_neg c, if_neg c]
    exact exists_congr (fun i => and_congr Iff.rfl (h j i))
theorem M_im_or {bk : Int} {R Q : M_R} {X : Int → Prop} {j : Int} : M_im bk (M_or R Q) X j ↔ M_im bk R X j ∨ M_im bk Q X j := by
  unfold M_im M_or
  by_cases c : bk = 0
  · rw [if_pos c, if_pos c, if_pos c]
    constructor
    · rintro ⟨i, h1, h2 | h2⟩
      · exact .inl ⟨i, h1, h2⟩
      · exact .inr ⟨i, h1, h2⟩
    · rintro (⟨i, h1, h2⟩ | ⟨i, h1, h2⟩)
      · exact ⟨i, h1, .inl h2⟩
      · exact ⟨i, h1, .inr h2⟩
  · rw [if_neg c, if_neg c, if_neg c]
    constructor
    · rintro ⟨i, h1, h2 | h2⟩
      · exact .inl ⟨i, h1, h2⟩
      · exact .inr ⟨i, h1, h2⟩
    · rintro (⟨i, h1, h2⟩ | ⟨i, h1, h2⟩)
      · exact ⟨i, h1, .inl h2⟩
      · exact ⟨i, h1, .inr h2⟩
theorem M_im_id {bk n : Int} {X : Int → Prop} (hX : ∀ i, X i → 0 ≤ i ∧ i ≤ n) {j : Int} : M_im bk (M_id n) X j ↔ X j := by
  unfold M_im
  by_cases c : bk = 0
  · rw [if_pos c]
    constructor
    · rintro ⟨i, h1, h2, _⟩
      rw [← h2]; exact h1
    · intro h
      exact ⟨j, h, rfl, (hX j h).1, (hX j h).2⟩
  · rw [if_neg c]
    constructor
    · rintro ⟨i, h1, h2, _⟩
      rw [h2]; exact h1
    · intro h
      exact ⟨j, h, rfl, (hX j h).1, (hX j h).2⟩
theorem M_im_rg {bk n : Int} {R : M_R} (h : M_rg n R) {X : Int → Prop} {j : Int} (hj : M_im bk R X j) : 0 ≤ j ∧ j ≤ n := by
  unfold M_im at hj
  by_cases c : bk = 0
  · rw [if_pos c] at hj
    obtain ⟨i, _, h2⟩ := hj
    have := h _ _ h2
    omega
  · rw [if_neg c] at hj
    obtain ⟨i, _, h2⟩ := hj
    have := h _ _ h2
    omega
theorem M_im_un {bk : Int} {R : M_R} {X Y Z : Int → Prop} (h : ∀ i, X i → Y i ∨ Z i) {j : Int} (hj : M_im bk R X j) : M_im bk R Y j ∨ M_im bk R Z j := by
  unfold M_im at hj ⊢
  by_cases c : bk = 0
  · rw [if_pos c] at hj
    rw [if_pos c, if_pos c]
    obtain ⟨i, h1, h2⟩ := hj
    exact (h i h1).imp (fun e => ⟨i, e, h2⟩) (fun e => ⟨i, e, h2⟩)
  · rw [if_neg c] at hj
    rw [if_neg c, if_neg c]
    obtain ⟨i, h1, h2⟩ := hj
    exact (h i h1).imp (fun e => ⟨i, e, h2⟩) (fun e => ⟨i, e, h2⟩)
theorem M_im_sub {bk : Int} {R : M_R} {X Y : Int → Prop} (h : ∀ i, X i → Y i) {j : Int} (hj : M_im bk R X j) : M_im bk R Y j := (M_im_un (Y := Y) (Z := Y) (fun i e => .inl (h i e)) hj).elim id id
theorem M_pow_1 {n : Int} {R : M_R} (h : M_rg n R) {i j : Int} : M_pow n R 1 i j ↔ R i j := M_seq_id h
theorem M_pow_snoc {n : Int} {R : M_R} (h : M_rg n R) (k : Nat) {i j : Int} : M_pow n R (k + 1) i j ↔ M_seq (M_pow n R k) R i j := by
  rw [M_pow_add h k 1]
  constructor
  · rintro ⟨l, h1, h2⟩
    exact ⟨l, h1, (M_pow_1 h).mp h2⟩
  · rintro ⟨l, h1, h2⟩
    exact ⟨l, h1, (M_pow_1 h).mpr h2⟩
def M_plus (n : Int) (R : M_R) : M_R := fun i j => ∃ k : Nat, 1 ≤ k ∧ M_pow n R k i j
/-- one step more, at the end where it is taken -/
theorem M_im_pow {bk n : Int} {R : M_R} (h : M_rg n R) {X : Int → Prop} (k : Nat) {j : Int} : M_im bk (M_pow n R (k + 1)) X j ↔ M_im bk R (M_im bk (M_pow n R k) X) j := by
  rw [← M_im_sq]
  refine M_im_cong (fun i j => ?_)
  unfold X_sq
  by_cases c : bk = 0
  · rw [if_pos c]
    exact M_pow_snoc h k
  · rw [if_neg c]
    exact Iff.rfl
theorem M_im_plus {bk n : Int} {R : M_R} {X : Int → Prop} {j : Int} : M_im bk (M_plus n R) X j ↔ ∃ k : Nat, 1 ≤ k ∧ M_im bk (M_pow n R k) X j := by
  unfold M_im M_plus
  by_cases c : bk = 0
  · simp only [if_pos c]
    constructor
    · rintro ⟨i, h1, k, h2, h3⟩
      exact ⟨k, h2, i, h1, h3⟩
    · rintro ⟨k, h2, i, h1, h3⟩
      exact ⟨i, h1, k, h2, h3⟩
  · simp only [if_neg c]
    constructor
    · rintro ⟨i, h1, k, h2, h3⟩
      exact ⟨k, h2, i, h1, h3⟩
    · rintro ⟨k, h2, i, h1, h3⟩
      exact ⟨i, h1, k, h2, h3⟩
def R_Ld (d : Nat) (h0 : E_H) (s : R_S) (sl : Nat) (Φ : E_R → Prop) (bk n H : Int) (B : X_L) (R : M_R) : Prop := ∀ (p top : Int) (X : Int → Prop) (u : R_S) (h : E_H), R_is h0 h u → R_lq 119 s u → R_xl s p B → 0 ≤ p → p + B.length ≤ s.1 48 → 0 ≤ top → top + H ≤ 259 → (∀ i, X i → 0 ≤ i ∧ i ≤ n) → R_bs_ u 119 (16 * top) X → (∀ (u2 : R_S) (h2 : E_H), R_is h0 h2 u2 → R_lq 119 s u2 → (∀ j, j < 16 * top → u2.2.2.2 119 j = u.2.2.2 119 j) → R_bs_ u2 119 (16 * top) (M_im bk R X) → X_hd d sl Φ bk (p + B.length) top h2) → X_hd d sl Φ bk p top h
section LD
variable {d : Nat} {h0 : E_H} {s : R_S} {sl : Nat} {Φ : E_R → Prop} {bk n : Int}
theorem R_Ld.cong {H : Int} {B : X_L} {R Q : M_R} (h : R_Ld d h0 s sl Φ bk n H B R) (e : ∀ i j, R i j ↔ Q i j) : R_Ld d h0 s sl Φ bk n H B Q := fun p top X u h_ hs hu hx p0 p1 t0 t1 hX hb kont => h p top X u h_ hs hu hx p0 p1 t0 t1 hX hb (fun u2 h2 hs2 hu2 k hb2 => kont u2 h2 hs2 hu2 k (hb2.weak (fun _ _ _ => M_im_cong e)))
theorem R_Ld.up {H G : Int} {B : X_L} {R : M_R} (h : R_Ld d h0 s sl Φ bk n H B R) (g : H ≤ G) : R_Ld d h0 s sl Φ bk n G B R := fun p top X u h_ hs hu hx p0 p1 t0 t1 => h p top X u h_ hs hu hx p0 p1 t0 (by omega)
theorem R_Ld.nil {H : Int} : R_Ld d h0 s sl Φ bk n H [] (M_id n) := fun p top X u h hs hu hx p0 p1 t0 t1 hX hb kont => by
  have := kont u h hs hu (fun _ _ => rfl) (hb.weak (fun i _ _ => (M_im_id hX).symm))
  rw [show p + (([] : X_L).length : Int) = p from Int.add_zero p] at this
  exact this
theorem R_Ld.app {H : Int} {B C : X_L} {R Q : M_R} (hR : M_rg n R) (h : R_Ld d h0 s sl Φ bk n H B R) (g : R_Ld d h0 s sl Φ bk n H C Q) : R_Ld d h0 s sl Φ bk n H (B ++ C) (X_sq bk R Q) := fun p top X u h_ hs hu hx p0 p1 t0 t1 hX hb kont => by
  obtain ⟨x1, x2⟩ := hx.app
  have el : ((B ++ C).length : Int) = B.length + C.length := by rw [List.length_append]; push_cast; rfl
  rw [el] at p1
  rw [el] at kont
  refine h p top X u h_ hs hu x1 p0 (by omega) t0 t1 hX hb (fun u2 h2 hs2 hu2 k2 hb2 => ?_)
  refine g (p + B.length) top _ u2 h2 hs2 hu2 x2 (by omega) (by omega) t0 t1 (fun i e => M_im_rg hR e) hb2 (fun u3 h3 hs3 hu3 k3 hb3 => ?_)
  have := kont u3 h3 hs3 hu3 (fun j hj => (k3 j hj).trans (k2 j hj)) (hb3.weak (fun i _ _ => M_im_sq.symm))
  rw [← Int.add_assoc] at this
  exact this
theorem R_Ld.rep {H : Int} {B : X_L} {R : M_R} (hR : M_rg n R) (h : R_Ld d h0 s sl Φ bk n H B R) : ∀ k : Nat, R_Ld d h0 s sl Φ bk n H (X_rep k B) (M_pow n R k)
  | 0 => R_Ld.nil
  | k + 1 => by
    rw [X_rep_s]
    refine (R_Ld.app (M_pow_rg hR k) (R_Ld.rep hR h k) h).cong (fun i j => ?_)
    unfold X_sq
    by_cases c : bk = 0
    · rw [if_pos c]
      exact (M_pow_snoc hR k).symm
    · rw [if_neg c]
      exact Iff.rfl
/-- what stands in the two sets of a round -/
def X_ri (bk : Int) (R : M_R) (P A0 X acc new : Int → Prop) : Prop := (∀ i, acc i → A0 i ∨ P i) ∧ (∀ i, A0 i → acc i) ∧ (∀ j, M_im bk R acc j → acc j ∨ M_im bk R new j) ∧ (∀ j, M_im bk R X j → acc j ∨ M_im bk R new j) ∧ ∀ i, new i → X i ∨ P i
theorem X_ri.st {R : M_R} {P A0 X acc new : Int → Prop} (h : X_ri bk R P A0 X acc new) (hP1 : ∀ j, M_im bk R X j → P j) (hP2 : ∀ j, M_im bk R P j → P j) : X_ri bk R P A0 X (fun i => acc i ∨ M_im bk R new i) (fun i => M_im bk R new i ∧ ¬ acc i) := by
  obtain ⟨h1, h2, h3, h4, h5⟩ := h
  have hI : ∀ j, M_im bk R new j → P j := fun j hj => (M_im_un h5 hj).elim (hP1 j) (hP2 j)
  refine ⟨fun i hi => hi.elim (h1 i) (fun e => .inr (hI i e)), fun i hi => .inl (h2 i hi), fun j hj => ?_, fun j hj => .inl (h4 j hj), fun i hi => .inr (hI i hi.1)⟩
  rcases M_im_un (Y := acc) (Z := fun i => M_im bk R new i ∧ ¬ acc i) (fun i hi => by
    by_cases c : acc i
    · exact .inl c
    · exact .inr ⟨hi.elim (fun e => absurd e c) id, c⟩) hj with e | e
  · exact .inl (h3 j e)
  · exact .inr e
theorem X_ri_fin {R : M_R} {X acc new : Int → Prop} {o : Int} (hR : M_rg n R) (hX : ∀ i, X i → 0 ≤ i ∧ i ≤ n) (n1 : n ≤ 1000) {i : Int} (i0 : 0 ≤ i ∨ True) (h : X_ri bk R (M_im bk (M_plus n R) X) (fun i => o ≠ 7 ∧ X i) X acc new) (hn : ∀ i, M_im bk R new i → acc i) (ho : o = 6 ∨ o = 7) : (acc i ∨ M_im bk R new i) ↔ M_im bk (if o = 7 then M_plus n R else M_or (M_id n) (M_plus n R)) X i := by
  obtain ⟨h1, h2, h3, h4, h5⟩ := h
  have cl : ∀ j, M_im bk R acc j → acc j := fun j hj => (h3 j hj).elim id (hn j)
  have st : ∀ (k : Nat) (j : Int), M_im bk (M_pow n R (k + 1)) X j → acc j := by
    intro k
    induction k with
    | zero =>
      intro j hj
      have hj := (M_im_cong (fun i j => M_pow_1 hR)).mp hj
      exact (h4 j hj).elim id (hn j)
    | succ k ih =>
      intro j hj
      exact cl j (M_im_sub (fun i e => ih i e) ((M_im_pow hR (k + 1)).mp hj))
  have pl : ∀ j, M_im bk (M_plus n R) X j → acc j := fun j hj => by
    obtain ⟨k, k1, hk⟩ := M_im_plus.mp hj
    obtain ⟨k, rfl⟩ : ∃ m, k = m + 1 := ⟨k - 1, by omega⟩
    exact st k j hk
  have main : (acc i ∨ M_im bk R new i) ↔ (o ≠ 7 ∧ X i) ∨ M_im bk (M_plus n R) X i := by
    constructor
    · intro e
      exact h1 i (e.elim id (hn i))
    · intro e
      exact .inl (e.elim (h2 i) (pl i))
  rw [main]
  by_cases c : o = 7
  · rw [if_pos c]
    exact ⟨fun e => e.elim (fun q => absurd c q.1) id, .inr⟩
  · rw [if_neg c, M_im_or, M_im_id hX]
    exact or_congr ⟨fun e => e.2, fun e => ⟨c, e⟩⟩ Iff.rfl
theorem R_xl.cons {s : R_S} {p : Int} {x : Int × Int} {L : X_L} (h : R_xl s p (x :: L)) : s.2.1 113 p = x.1 ∧ s.2.1 114 p = x.2 ∧ R_xl s (p + 1) L := by
  have h : R_xl s p ([x] ++ L) := h
  obtain ⟨h1, h2⟩ := h.app
  have h3 := h1 0 Nat.one_pos
  rw [show p + ((0 : Nat) : Int) = p by omega] at h3
  exact ⟨h3.1, h3.2, h2⟩
theorem R_Ld.step {H m : Int} {B : Int → Prop} {W : Int → Int} (zb : Zr bk) (p2 : s.1 48 ≤ 3000) (n0 : 0 ≤ n) (n1 : n ≤ 1000) (m0 : 0 ≤ m) (m1 : m < 90) (hH : 0 ≤ H) (hS : R_bs_ s 120 (16 * m) (fun i => 0 ≤ i ∧ i < n ∧ B (W i))) : R_Ld d h0 s sl Φ bk n H [(1, m)] (fun i j => 0 ≤ i ∧ i < n ∧ j = i + 1 ∧ B (W i)) := fun p top X u h hs hu hx p0 p1 t0 t1 hX hb kont => by
  obtain ⟨e1, e2, _⟩ := hx.cons
  rw [← hu.2.1] at e1 e2
  have e1 : u.2.1 113 p = 1 := e1
  have e2 : u.2.1 114 p = m := e2
  have e48 : u.1 48 = s.1 48 := by rw [hu.1]
  have p1 : p + 1 ≤ s.1 48 := p1
  refine R_ld_1 hs zb p0 (by omega) (by omega) t0 (by omega) (by omega) (fun _ => ⟨by omega, by omega, X, _, hb, by rw [e2]; exact hS.at (fun w _ _ => hu.2.2.2 120 _ (by decide)), fun u2 h hs2 q1 q2 q3 => kont u2 h hs2 (hu.tr q1) q2 (q3.weak (fun i i0 i1 => ?_))⟩) (fun c => by omega) (fun c => by omega) (fun c => by omega) (fun c => by omega) (fun c => by omega)
  unfold X_mv M_im
  by_cases c : bk = 0
  · rw [if_pos c, if_pos c]
    constructor
    · rintro ⟨a1, a2, a3, a4, a5⟩
      exact ⟨i - 1, a2, a3, a4, by omega, a5⟩
    · rintro ⟨k, a1, a2, a3, a4, a5⟩
      obtain rfl : k = i - 1 := by omega
      exact ⟨by omega, a1, a2, a3, a5⟩
  · rw [if_neg c, if_neg c]
    constructor
    · rintro ⟨a1, a2, a3, a4, a5⟩
      exact ⟨i + 1, a2, a3, a4, rfl, a5⟩
    · rintro ⟨k, a1, a2, a3, a4, a5⟩
      obtain rfl : k = i + 1 := a4
      exact ⟨by omega, a1, a2, a3, a5⟩
theorem R_Ld.hold {H m : Int} {W : Int → Int} (zb : Zr bk) (p2 : s.1 48 ≤ 3000) (n1 : n ≤ 1000) (m0 : 0 ≤ m) (m1 : m < 5) (hH : 0 ≤ H) (hS : R_bs_ s 121 (16 * m) (fun i => 0 ≤ i ∧ i ≤ n ∧ M_hold W n m i)) : R_Ld d h0 s sl Φ bk n H [(2, m)] (fun i j => M_id n i j ∧ M_hold W n m i) := fun p top X u h hs hu hx p0 p1 t0 t1 hX hb kont => by
  obtain ⟨e1, e2, _⟩ := hx.cons
  rw [← hu.2.1] at e1 e2
  have e1 : u.2.1 113 p = 2 := e1
  have e2 : u.2.1 114 p = m := e2
  have e48 : u.1 48 = s.1 48 := by rw [hu.1]
  have p1 : p + 1 ≤ s.1 48 := p1
  refine R_ld_1 hs zb p0 (by omega) (by omega) t0 (by omega) (by omega) (fun c => by omega) (fun _ => ⟨by omega, by omega, X, _, hb, by rw [e2]; exact hS.at (fun w _ _ => hu.2.2.2 121 _ (by decide)), fun u2 h hs2 q1 q2 q3 => kont u2 h hs2 (hu.tr q1) q2 (q3.weak (fun i i0 i1 => ?_))⟩) (fun c => by omega) (fun c => by omega) (fun c => by omega) (fun c => by omega)
  unfold M_im
  by_cases c : bk = 0
  · rw [if_pos c]
    constructor
    · rintro ⟨a1, a2, a3, a4⟩
      exact ⟨i, a1, ⟨rfl, a2, a3⟩, a4⟩
    · rintro ⟨k, a1, ⟨a2, a3, a4⟩, a5⟩
      subst a2
      exact ⟨a1, a3, a4, a5⟩
  · rw [if_neg c]
    constructor
    · rintro ⟨a1, a2, a3, a4⟩
      exact ⟨i, a1, ⟨rfl, a2, a3⟩, a4⟩
    · rintro ⟨k, a1, ⟨a2, a3, a4⟩, a5⟩
      subst a2
      exact ⟨a1, a3, a4, a5⟩
/-- doubled, what B does, and joined -/
theorem R_Ld.may {H : Int} {B : X_L} {R : M_R} (zb : Zr bk) (p2 : s.1 48 ≤ 3000) (hH : 0 ≤ H) (hR : M_rg n R) (g : R_Ld d h0 s sl Φ bk n H B R) : R_Ld d h0 s sl Φ bk n (H + 1) ((3, 0) :: B ++ [(5, 0)]) (M_or (M_id n) R) := fun p top X u h hs hu hx p0 p1 t0 t1 hX hb kont => by
  obtain ⟨e1, e2, hx⟩ := hx.cons
  obtain ⟨x1, x2⟩ := hx.app
  obtain ⟨f1, f2, _⟩ := x2.cons
  rw [← hu.2.1] at e1
  have e1 : u.2.1 113 p = 3 := e1
  have e48 : u.1 48 = s.1 48 := by rw [hu.1]
  have el : (((3, 0) :: B ++ [(5, 0)] : X_L).length : Int) = B.length + 2 := by simp; omega
  rw [el] at p1 kont
  refine R_ld_1 hs zb p0 (by omega) (by omega) t0 (by omega) (by omega) (fun c => by omega) (fun c => by omega) (fun _ => ⟨by omega, X, hb, fun u1 h1 hs1 q1 q2 q3 q4 => ?_⟩) (fun c => by omega) (fun c => by omega) (fun c => by omega)
  have hu1 := hu.tr q1
  refine g (p + 1) (top + 1) X u1 h1 hs1 hu1 x1 (by omega) (by omega) (by omega) (by omega) hX q3 (fun u2 h2 hs2 hu2 k2 b2 => ?_)
  have f1 : u2.2.1 113 (p + 1 + B.length) = 5 := by rw [hu2.2.1]; exact f1
  have e48 : u2.1 48 = s.1 48 := by rw [hu2.1]
  refine R_ld_1 hs2 zb (by omega) (by omega) (by omega) (by omega) (by omega) (by omega) (fun c => by omega) (fun c => by omega) (fun c => by omega) (fun c => by omega) (fun _ => ⟨by omega, _, X, b2, ?_, fun u3 h3 hs3 r1 r2 r3 => ?_⟩) (fun c => by omega)
  · rw [show top + 1 - 1 = top by omega]
    exact (q4.weak (fun i _ _ => ⟨fun e => e.2, fun e => ⟨by omega, e⟩⟩)).at (fun w w0 w1 => k2 _ (by omega))
  · rw [show top + 1 - 1 = top by omega] at r2 r3 ⊢
    have := kont u3 h3 hs3 (hu2.tr r1) (fun j hj => by rw [r2 j hj, k2 j (by omega), q2 j hj]) (r3.weak (fun i _ _ => by rw [M_im_or, M_im_id hX]))
    rw [show p + ((B.length : Int) + 2) = p + 1 + B.length + 1 by omega] at this
    exact this
theorem R_Ld.or {H : Int} {B C : X_L} {R Q : M_R} (zb : Zr bk) (p2 : s.1 48 ≤ 3000) (hH : 0 ≤ H) (hR : M_rg n R) (g : R_Ld d h0 s sl Φ bk n H B R) (g2 : R_Ld d h0 s sl Φ bk n H C Q) : R_Ld d h0 s sl Φ bk n (H + 1) ((3, 0) :: B ++ (4, 0) :: C ++ [(5, 0)]) (M_or R Q) := fun p top X u h hs hu hx p0 p1 t0 t1 hX hb kont => by
  have hx : R_xl s p ((3, 0) :: (B ++ ((4, 0) :: (C ++ [(5, 0)])))) := by
    rw [show (3, 0) :: (B ++ ((4, 0) :: (C ++ [(5, 0)]))) = ((3, 0) :: B ++ (4, 0) :: C ++ [(5, 0)] : X_L) by simp]
    exact hx
  obtain ⟨e1, e2, hx⟩ := hx.cons
  obtain ⟨x1, x2⟩ := hx.app
  obtain ⟨f1, f2, x2⟩ := x2.cons
  obtain ⟨x3, x4⟩ := x2.app
  obtain ⟨g3, g4, _⟩ := x4.cons
  rw [← hu.2.1] at e1
  have e1 : u.2.1 113 p = 3 := e1
  have e48 : u.1 48 = s.1 48 := by rw [hu.1]
  have el : (((3, 0) :: B ++ (4, 0) :: C ++ [(5, 0)] : X_L).length : Int) = B.length + C.length + 3 := by
    simp only [List.length_append, List.length_cons, List.length_nil]
    push_cast
    omega
  rw [el] at p1 kont
  refine R_ld_1 hs zb p0 (by omega) (by omega) t0 (by omega) (by omega) (fun c => by omega) (fun c => by omega) (fun _ => ⟨by omega, X, hb, fun u1 h1 hs1 q1 q2 q3 q4 => ?_⟩) (fun c => by omega) (fun c => by omega) (fun c => by omega)
  have hu1 := hu.tr q1
  refine g (p + 1) (top + 1) X u1 h1 hs1 hu1 x1 (by omega) (by omega) (by omega) (by omega) hX q3 (fun u2 h2 hs2 hu2 k2 b2 => ?_)
  have f1 : u2.2.1 113 (p + 1 + B.length) = 4 := by rw [hu2.2.1]; exact f1
  have e48 : u2.1 48 = s.1 48 := by rw [hu2.1]
  have b2t : R_bs_ u2 119 (16 * top) X := (q4.weak (fun i _ _ => ⟨fun e => e.2, fun e => ⟨by omega, e⟩⟩)).at (fun w w0 w1 => k2 _ (by omega))
  refine R_ld_1 hs2 zb (by omega) (by omega) (by omega) (by omega) (by omega) (by omega) (fun c => by omega) (fun c => by omega) (fun c => by omega) (fun _ => ⟨by omega, _, X, b2, by rw [show top + 1 - 1 = top by omega]; exact b2t, fun u3 h3 hs3 r1 r2 r3 r4 => ?_⟩) (fun c => by omega) (fun c => by omega)
  rw [show top + 1 - 1 = top by omega] at r2 r4
  have hu3 := hu2.tr r1
  refine g2 (p + 1 + B.length + 1) (top + 1) X u3 h3 hs3 hu3 x3 (by omega) (by omega) (by omega) (by omega) hX r3 (fun u4 h4 hs4 hu4 k4 b4 => ?_)
  have g3 : u4.2.1 113 (p + 1 + B.length + 1 + C.length) = 5 := by rw [hu4.2.1]; exact g3
  have e48 : u4.1 48 = s.1 48 := by rw [hu4.1]
  refine R_ld_1 hs4 zb (by omega) (by omega) (by omega) (by omega) (by omega) (by omega) (fun c => by omega) (fun c => by omega) (fun c => by omega) (fun c => by omega) (fun _ => ⟨by omega, _, M_im bk R X, b4, ?_, fun u5 h5 hs5 y1 y2 y3 => ?_⟩) (fun c => by omega)
  · rw [show top + 1 - 1 = top by omega]
    exact r4.at (fun w w0 w1 => k4 _ (by omega))
  · rw [show top + 1 - 1 = top by omega] at y2 y3 ⊢
    have := kont u5 h5 hs5 (hu4.tr y1) (fun j hj => by rw [y2 j hj, k4 j (by omega), r2 j hj, k2 j (by omega), q2 j hj]) (y3.weak (fun i _ _ => M_im_or.symm))
    rw [show p + ((B.length : Int) + C.length + 3) = p + 1 + B.length + 1 + C.length + 1 by omega] at this
    exact this
theorem R_Ld.round {H o : Int} {B : X_L} {R : M_R} (zb : Zr bk) (p2 : s.1 48 ≤ 3000) (n1 : n ≤ 1000) (hH : 0 ≤ H) (hR : M_rg n R) (ho : o = 6 ∨ o = 7) (g : R_Ld d h0 s sl Φ bk n H B R) : R_Ld d h0 s sl Φ bk n (H + 1) ((o, 0) :: B ++ [(8, (B.length : Int))]) (if o = 7 then M_plus n R else M_or (M_id n) (M_plus n R)) := fun p top X u h hs hu hx p0 p1 t0 t1 hX hb kont => by
  obtain ⟨e1, e2, hx⟩ := hx.cons
  obtain ⟨x1, x2⟩ := hx.app
  obtain ⟨f1, f2, _⟩ := x2.cons
  rw [← hu.2.1] at e1
  have e1 : u.2.1 113 p = o := e1
  have e48 : u.1 48 = s.1 48 := by rw [hu.1]
  have el : (((o, 0) :: B ++ [(8, (B.length : Int))] : X_L).length : Int) = B.length + 2 := by simp; omega
  rw [el] at p1 kont
  refine R_ld_1 hs zb p0 (by omega) (by omega) t0 (by omega) (by omega) (fun c => by omega) (fun c => by omega) (fun _ => ⟨by omega, X, hb, fun u1 h1 hs1 q1 q2 q3 q4 => ?_⟩) (fun c => by omega) (fun c => by omega) (fun c => by omega)
  have hP1 : ∀ j, M_im bk R X j → M_im bk (M_plus n R) X j := fun j hj => M_im_plus.mpr ⟨1, Nat.le_refl _, (M_im_cong (fun i j => M_pow_1 hR)).mpr hj⟩
  have hP2 : ∀ j, M_im bk R (M_im bk (M_plus n R) X) j → M_im bk (M_plus n R) X j := fun j hj => by
    have hk : ∃ k : Nat, 1 ≤ k ∧ M_im bk R (M_im bk (M_pow n R k) X) j := by
      unfold M_im at hj
      by_cases c : bk = 0
      · rw [if_pos c] at hj
        obtain ⟨i, hi, hr⟩ := hj
        rw [if_pos c] at hi
        obtain ⟨i2, hi2, k, k1, hk⟩ := hi
        refine ⟨k, k1, ?_⟩
        unfold M_im
        rw [if_pos c]
        exact ⟨i, by rw [if_pos c]; exact ⟨i2, hi2, hk⟩, hr⟩
      · rw [if_neg c] at hj
        obtain ⟨i, hi, hr⟩ := hj
        rw [if_neg c] at hi
        obtain ⟨i2, hi2, k, k1, hk⟩ := hi
        refine ⟨k, k1, ?_⟩
        unfold M_im
        rw [if_neg c]
        exact ⟨i, by rw [if_neg c]; exact ⟨i2, hi2, hk⟩, hr⟩
    obtain ⟨k, k1, hk⟩ := hk
    exact M_im_plus.mpr ⟨k + 1, by omega, (M_im_pow hR k).mpr hk⟩
  have key : ∀ (t : Nat) (acc new : Int → Prop) (v : R_S) (h : E_H), (∃ l : List Int, l.length ≤ t ∧ ∀ i, 0 ≤ i → i < 1024 → ¬ acc i → i ∈ l) → R_is h0 h v → R_lq 119 s v → (∀ j, j < 16 * top → v.2.2.2 119 j = u.2.2.2 119 j) → (∀ i, new i → 0 ≤ i ∧ i ≤ n) → X_ri bk R (M_im bk (M_plus n R) X) (fun i => o ≠ 7 ∧ X i) X acc new → R_bs_ v 119 (16 * (top + 1)) new → R_bs_ v 119 (16 * top) acc → X_hd d sl Φ bk (p + 1) (top + 1) h := by
    intro t
    induction t with
    | zero =>
      intro acc new v h hl hsv hv kv hn hi b1 b0
      obtain ⟨l, l1, l2⟩ := hl
      have l0 : l = [] := List.length_eq_zero_iff.mp (by omega)
      subst l0
      refine g (p + 1) (top + 1) new v h hsv hv x1 (by omega) (by omega) (by omega) (by omega) hn b1 (fun u2 h2 hs2 hu2 k2 b2 => ?_)
      have f1 : u2.2.1 113 (p + 1 + B.length) = 8 := by rw [hu2.2.1]; exact f1
      have e48 : u2.1 48 = s.1 48 := by rw [hu2.1]
      refine R_ld_1 hs2 zb (by omega) (by omega) (by omega) (by omega) (by omega) (by omega) (fun c => by omega) (fun c => by omega) (fun c => by omega) (fun c => by omega) (fun c => by omega) (fun _ => ⟨by omega, _, acc, b2, by rw [show top + 1 - 1 = top by omega]; exact b0.at (fun w w0 w1 => k2 _ (by omega)), fun u3 r1 r2 r3 r4 => ⟨fun ⟨i, i0, i1, i2, i3⟩ => absurd (l2 i i0 i1 i3) List.not_mem_nil, fun hno h3 hs3 => ?_⟩⟩)
      rw [show top + 1 - 1 = top by omega] at r2 r4 ⊢
      have := kont u3 h3 hs3 (hu2.tr r1) (fun j hj => by rw [r2 j hj, k2 j (by omega), kv j hj]) (r4.weak (fun i i0 i1 => ?_))
      · rw [show p + ((B.length : Int) + 2) = p + 1 + B.length + 1 by omega] at this
        exact this
      · exact X_ri_fin hR hX n1 (by omega) hi (fun i e => by
          have := M_im_rg hR e
          refine Classical.byContradiction (fun q => hno ⟨i, by omega, by omega, e, q⟩)) ho
    | succ t ih =>
      intro acc new v h hl hsv hv kv hn hi b1 b0
      refine g (p + 1) (top + 1) new v h hsv hv x1 (by omega) (by omega) (by omega) (by omega) hn b1 (fun u2 h2 hs2 hu2 k2 b2 => ?_)
      have f1 : u2.2.1 113 (p + 1 + B.length) = 8 := by rw [hu2.2.1]; exact f1
      have f2 : u2.2.1 114 (p + 1 + B.length) = B.length := by rw [hu2.2.1]; exact f2
      have e48 : u2.1 48 = s.1 48 := by rw [hu2.1]
      refine R_ld_1 hs2 zb (by omega) (by omega) (by omega) (by omega) (by omega) (by omega) (fun c => by omega) (fun c => by omega) (fun c => by omega) (fun c => by omega) (fun c => by omega) (fun _ => ⟨by omega, _, acc, b2, by rw [show top + 1 - 1 = top by omega]; exact b0.at (fun w w0 w1 => k2 _ (by omega)), fun u3 r1 r2 r3 r4 => ⟨fun ⟨i, i0, i1, i2, i3⟩ h3 hs3 => ?_, fun hno h3 hs3 => ?_⟩⟩)
      · rw [f2, show p + 1 + (B.length : Int) - B.length = p + 1 by omega]
        rw [show top + 1 - 1 = top by omega] at r2 r4
        obtain ⟨l, l1, l2⟩ := hl
        have hm := l2 i i0 i1 i3
        refine ih (fun i => acc i ∨ M_im bk R new i) (fun i => M_im bk R new i ∧ ¬ acc i) u3 h3 ⟨l.erase i, by rw [List.length_erase_of_mem hm]; omega, fun j j0 j1 j2 => ?_⟩ hs3 (hu2.tr r1) (fun j hj => by rw [r2 j hj, k2 j (by omega), kv j hj]) (fun j hj => M_im_rg hR hj.1) (hi.st hP1 hP2) r3 r4
        have hne : j ≠ i := fun e => j2 (.inr (e ▸ i2))
        exact (List.mem_erase_of_ne hne).mpr (l2 j j0 j1 (fun e => j2 (.inl e)))
      · rw [show top + 1 - 1 = top by omega] at r2 r4 ⊢
        have := kont u3 h3 hs3 (hu2.tr r1) (fun j hj => by rw [r2 j hj, k2 j (by omega), kv j hj]) (r4.weak (fun i i0 i1 => ?_))
        · rw [show p + ((B.length : Int) + 2) = p + 1 + B.length + 1 by omega] at this
          exact this
        · exact X_ri_fin hR hX n1 (by omega) hi (fun i e => by
            have := M_im_rg hR e
            refine Classical.byContradiction (fun q => hno ⟨i, by omega, by omega, e, q⟩)) ho
  refine key 1024 (fun i => o ≠ 7 ∧ X i) X u1 h1 ⟨(List.range 1024).map (fun i : Nat => (i : Int)), by rw [List.length_map, List.length_range]; exact Nat.le_refl _, fun i i0 i1 _ => List.mem_map.mpr ⟨i.toNat, List.mem_range.mpr (by omega), by omega⟩⟩ hs1 (hu.tr q1) q2 hX ⟨fun i e => .inl e, fun i e => e, fun j hj => .inr (M_im_sub (fun i e => e.2) hj), fun j hj => .inr hj, fun i e => .inl e⟩ q3 (q4.weak (fun i _ _ => by rw [e1]))
theorem M_pow_or {R : M_R} (hR : M_rg n R) : ∀ (m : Nat) (i j : Int), M_pow n (M_or (M_id n) R) m i j ↔ ∃ k : Nat, k ≤ m ∧ M_pow n R k i j
  | 0, i, j => ⟨fun e => ⟨0, Nat.le_refl _, e⟩, fun ⟨k, k0, e⟩ => by obtain rfl : k = 0 := (by omega); exact e⟩
  | m + 1, i, j => by
    constructor
    · rintro ⟨l, h1, h2⟩
      obtain ⟨k, k1, h3⟩ := (M_pow_or hR m l j).mp h2
      rcases h1 with h1 | h1
      · exact ⟨k, by omega, by rw [h1.1]; exact h3⟩
      · exact ⟨k + 1, by omega, l, h1, h3⟩
    · rintro ⟨k, k1, h1⟩
      cases k with
      | zero =>
        obtain ⟨e1, e2, e3⟩ := (h1 : _ ∧ _ ∧ _)
        exact ⟨i, .inl ⟨rfl, e2, e3⟩, (M_pow_or hR m i j).mpr ⟨0, Nat.zero_le _, e1, e2, e3⟩⟩
      | succ k =>
        obtain ⟨l, h2, h3⟩ := h1
        exact ⟨l, .inr h2, (M_pow_or hR m l j).mpr ⟨k, by omega, h3⟩⟩
theorem X_sq_pow {R Q : M_R} (hR : M_rg n R) {S : Nat → Prop} {a : Nat} (hQ : ∀ i j, Q i j ↔ ∃ k : Nat, S k ∧ M_pow n R k i j) (i j : Int) : X_sq bk (M_pow n R a) Q i j ↔ ∃ k : Nat, S k ∧ M_pow n R (a + k) i j := by
  unfold X_sq
  by_cases c : bk = 0
  · rw [if_pos c]
    constructor
    · rintro ⟨l, h1, h2⟩
      obtain ⟨k, k1, h3⟩ := (hQ _ _).mp h2
      exact ⟨k, k1, (M_pow_add hR a k i j).mpr ⟨l, h1, h3⟩⟩
    · rintro ⟨k, k1, h3⟩
      obtain ⟨l, h1, h2⟩ := (M_pow_add hR a k i j).mp h3
      exact ⟨l, h1, (hQ _ _).mpr ⟨k, k1, h2⟩⟩
  · rw [if_neg c]
    constructor
    · rintro ⟨l, h1, h2⟩
      obtain ⟨k, k1, h3⟩ := (hQ _ _).mp h1
      refine ⟨k, k1, ?_⟩
      rw [Nat.add_comm]
      exact (M_pow_add hR k a i j).mpr ⟨l, h3, h2⟩
    · rintro ⟨k, k1, h3⟩
      rw [Nat.add_comm] at h3
      obtain ⟨l, h1, h2⟩ := (M_pow_add hR k a i j).mp h3
      exact ⟨l, (hQ _ _).mpr ⟨k, k1, h1⟩, h2⟩
theorem M_rnd {R : M_R} {i j : Int} : M_or (M_id n) (M_plus n R) i j ↔ ∃ k : Nat, True ∧ M_pow n R k i j := by
  constructor
  · rintro (h | ⟨k, _, h⟩)
    · exact ⟨0, trivial, h⟩
    · exact ⟨k, trivial, h⟩
  · rintro ⟨k, _, h⟩
    cases k with
    | zero => exact .inl h
    | succ k => exact .inr ⟨k + 1, by omega, h⟩
theorem M_or_rg {R Q : M_R} (hR : M_rg n R) (hQ : M_rg n Q) : M_rg n (M_or R Q) := fun i j h => h.elim (hR i j) (hQ i j)
theorem M_plus_rg {R : M_R} (hR : M_rg n R) : M_rg n (M_plus n R) := fun i j ⟨k, _, h⟩ => M_pow_rg hR k i j h
theorem R_Ld.cnt {H : Int} {B : X_L} {R : M_R} {op lo hi : Int} (zb : Zr bk) (p2 : s.1 48 ≤ 3000) (n1 : n ≤ 1000) (hH : 0 ≤ H) (hR : M_rg n R) (hc : T_cok op lo hi) (g : R_Ld d h0 s sl Φ bk n H B R) : R_Ld d h0 s sl Φ bk n (H + 1) (X_cnt B op lo hi) (M_cnt n R op lo hi) := by
  unfold X_cnt
  by_cases c8 : op = 8
  · rw [if_pos c8]
    refine (R_Ld.round zb p2 n1 hH hR (.inl rfl) g).cong (fun i j => ?_)
    rw [if_neg (by decide), M_rnd]
    unfold M_cnt
    exact exists_congr (fun k => and_congr (by rw [if_pos c8]) Iff.rfl)
  · rw [if_neg c8]
    by_cases c9 : op = 9
    · rw [if_pos c9]
      refine (R_Ld.round zb p2 n1 hH hR (.inr rfl) g).cong (fun i j => ?_)
      rw [if_pos rfl]
      unfold M_cnt M_plus
      exact exists_congr (fun k => and_congr (by rw [if_neg c8, if_pos c9]) Iff.rfl)
    · rw [if_neg c9]
      by_cases c10 : op = 10
      · rw [if_pos c10]
        refine (R_Ld.may zb p2 hH hR g).cong (fun i j => ?_)
        unfold M_cnt M_or
        constructor
        · rintro (h | h)
          · exact ⟨0, by rw [if_neg c8, if_neg c9, if_pos c10]; decide, h⟩
          · exact ⟨1, by rw [if_neg c8, if_neg c9, if_pos c10]; decide, (M_pow_1 hR).mpr h⟩
        · rintro ⟨k, hk, h⟩
          rw [if_neg c8, if_neg c9, if_pos c10] at hk
          obtain rfl | rfl : k = 0 ∨ k = 1 := by omega
          · exact .inl h
          · exact .inr ((M_pow_1 hR).mp h)
      · rw [if_neg c10]
        have hc : 0 ≤ lo ∧ lo ≤ 20 ∧ (hi = -1 ∨ lo ≤ hi ∧ hi ≤ 20) := by unfold T_cok at hc; omega
        by_cases c0 : lo = 0 ∧ hi = 0
        · rw [if_pos c0]
          refine (R_Ld.nil (H := H + 1)).cong (fun i j => ?_)
          unfold M_cnt
          constructor
          · intro h
            exact ⟨0, by rw [if_neg c8, if_neg c9, if_neg c10]; omega, h⟩
          · rintro ⟨k, hk, h⟩
            rw [if_neg c8, if_neg c9, if_neg c10] at hk
            obtain rfl : k = 0 := by omega
            exact h
        · rw [if_neg c0]
          unfold X_times
          by_cases c : hi = -1
          · rw [if_pos c]
            have g2 : R_Ld d h0 s sl Φ bk n (H + 1) (X_more hi B) (M_or (M_id n) (M_plus n R)) := by
              unfold X_more
              rw [if_pos c]
              exact (R_Ld.round zb p2 n1 hH hR (.inl rfl) g).cong (fun i j => by rw [if_neg (by decide)])
            have r2 := M_or_rg M_id_rg (M_plus_rg hR)
            refine (R_Ld.app (M_pow_rg hR _) ((g.up (by omega)).rep hR lo.toNat) (g2.rep r2 1)).cong (fun i j => ?_)
            rw [X_sq_pow hR (S := fun _ => True) (fun i j => (M_pow_1 r2).trans M_rnd)]
            unfold M_cnt
            constructor
            · rintro ⟨k, _, h⟩
              exact ⟨lo.toNat + k, by rw [if_neg c8, if_neg c9, if_neg c10]; omega, h⟩
            · rintro ⟨k, hk, h⟩
              rw [if_neg c8, if_neg c9, if_neg c10] at hk
              exact ⟨k - lo.toNat, trivial, by rw [show lo.toNat + (k - lo.toNat) = k by omega]; exact h⟩
          · rw [if_neg c]
            have g2 : R_Ld d h0 s sl Φ bk n (H + 1) (X_more hi B) (M_or (M_id n) R) := by
              unfold X_more
              rw [if_neg c]
              exact R_Ld.may zb p2 hH hR g
            refine (R_Ld.app (M_pow_rg hR _) ((g.up (by omega)).rep hR lo.toNat) (g2.rep (M_or_rg M_id_rg hR) (hi - lo).toNat)).cong (fun i j => ?_)
            rw [X_sq_pow hR (S := fun k => k ≤ (hi - lo).toNat) (fun i j => M_pow_or hR _ i j)]
            unfold M_cnt
            constructor
            · rintro ⟨k, k1, h⟩
              exact ⟨lo.toNat + k, by rw [if_neg c8, if_neg c9, if_neg c10]; omega, h⟩
            · rintro ⟨k, hk, h⟩
              rw [if_neg c8, if_neg c9, if_neg c10] at hk
              exact ⟨k - lo.toNat, by omega, by rw [show lo.toNat + (k - lo.toNat) = k by omega]; exact h⟩
def T_hh (t : P_T) : Nat := T_ev (0, (fun _ => 0), (fun x y => max x y), (fun x y => max x y + 1), (fun x _ _ _ => x + 1)) t
theorem T_hh_by {t : P_T} (h : T_is t) : (T_hh t : Int) ≤ T_by t := by
  refine T_ind (P := fun t => (T_hh t : Int) ≤ T_by t) h (Int.le_refl 0) (fun A hA => ?_) (fun l r h1 h2 p1 p2 => ?_) (fun l r h1 h2 p1 p2 => ?_) (fun t op lo hi hc h1 p1 => ?_)
  · rw [T_by_atm hA, show T_hh (T_atm A) = 0 from T_ev_atm _ hA]
    decide
  · have a1 := T_by_pos h1
    have a2 := T_by_pos h2
    rw [T_by_beh h1 h2, show T_hh (T_beh l r) = max (T_hh l) (T_hh r) from T_ev_beh _ h1 h2]
    omega
  · have a1 := T_by_pos h1
    have a2 := T_by_pos h2
    rw [T_by_or h1 h2, show T_hh (T_or l r) = max (T_hh l) (T_hh r) + 1 from T_ev_or _ h1 h2]
    omega
  · have := C_by_pos op lo hi
    rw [T_by_cnt hc h1, show T_hh (T_cnt t op lo hi) = T_hh t + 1 from T_ev_cnt _ hc h1]
    omega
/-- the steps of the sets L, from the number m on; what holds without a byte -/
def R_sb (s : R_S) (W : Int → Int) (n : Int) (m : Nat) (L : List (Int → Prop)) : Prop := m + L.length ≤ 90 ∧ ∀ (i : Nat) (h : i < L.length), R_bs_ s 120 (16 * ((m + i : Nat) : Int)) (fun j => 0 ≤ j ∧ j < n ∧ L[i] (W j))
theorem R_sb.app {W : Int → Int} {m : Nat} {K L : List (Int → Prop)} (h : R_sb s W n m (K ++ L)) : R_sb s W n m K ∧ R_sb s W n (m + K.length) L := by
  have h1 := h.1
  rw [List.length_append] at h1
  refine ⟨⟨by omega, fun i hi => ?_⟩, ⟨by omega, fun i hi => ?_⟩⟩
  · have := h.2 i (by rw [List.length_append]; omega)
    rw [List.getElem_append_left hi] at this
    exact this
  · have := h.2 (K.length + i) (by rw [List.length_append]; omega)
    have e : (K ++ L)[K.length + i]'(by rw [List.length_append]; omega) = L[i] := by
      rw [List.getElem_append_right (by omega)]
      congr 1
      omega
    rw [e] at this
    rw [show m + K.length + i = m + (K.length + i) by omega]
    exact this
theorem R_Ld.t {W : Int → Int} (zb : Zr bk) (p2 : s.1 48 ≤ 3000) (n0 : 0 ≤ n) (n1 : n ≤ 1000) (hh : ∀ k, k = 2 ∨ k = 3 ∨ k = 4 → R_bs_ s 121 (16 * k) (fun i => 0 ≤ i ∧ i ≤ n ∧ M_hold W n k i)) {t : P_T} (ht : T_is t) : ∀ m, R_sb s W n m (T_sets t) → R_Ld d h0 s sl Φ bk n (T_hh t) (T_cod (decide (bk ≠ 0)) m t) (M_of W n t) := by
  refine T_ind (P := fun t => ∀ m, R_sb s W n m (T_sets t) → R_Ld d h0 s sl Φ bk n (T_hh t) (T_cod (decide (bk ≠ 0)) m t) (M_of W n t)) ht (fun m _ => R_Ld.nil) (fun A hA m hs => ?_) (fun l r h1 h2 p1 p2 m hs => ?_) (fun l r h1 h2 q1 q2 m hs => ?_) (fun t op lo hi hc h1 q1 m hs => ?_)
  · rw [M_of_atm hA]
    cases A with
    | inl op =>
      have hop : op = 2 ∨ op = 3 ∨ op = 4 := hA
      rw [T_cod_in hA]
      exact R_Ld.hold zb p2 n1 (by omega) (by omega) (by omega) (hh op hop)
    | inr B =>
      have hs : R_sb s W n m [B] := hs
      have hm := hs.1
      simp only [List.length_cons, List.length_nil] at hm
      rw [T_cod_by]
      exact R_Ld.step zb p2 n0 n1 (by omega) (by omega) (by omega) (hs.2 0 Nat.one_pos)
  · have es : T_sets (T_beh l r) = T_sets l ++ T_sets r := by
      unfold T_beh
      rw [T_sets_app, T_sets_app]
      exact List.append_nil _
    rw [es] at hs
    obtain ⟨s1, s2⟩ := hs.app
    rw [M_of_beh h1 h2, T_cod_beh h1 h2, show T_hh (T_beh l r) = max (T_hh l) (T_hh r) from T_ev_beh _ h1 h2]
    have g1 := (p1 m s1).up (show ((T_hh l : Nat) : Int) ≤ ((max (T_hh l) (T_hh r) : Nat) : Int) by omega)
    have g2 := (p2 _ s2).up (show ((T_hh r : Nat) : Int) ≤ ((max (T_hh l) (T_hh r) : Nat) : Int) by omega)
    by_cases c : bk = 0
    · rw [show decide (bk ≠ 0) = false from decide_eq_false (by omega)] at g1 g2 ⊢
      refine (R_Ld.app (M_of_rg h1) g1 g2).cong (fun i j => ?_)
      unfold X_sq
      rw [if_pos c]
    · rw [show decide (bk ≠ 0) = true from decide_eq_true c] at g1 g2 ⊢
      refine (R_Ld.app (M_of_rg h2) g2 g1).cong (fun i j => ?_)
      unfold X_sq
      rw [if_neg c]
  · have es : T_sets (T_or l r) = T_sets l ++ T_sets r := by
      unfold T_or
      rw [T_sets_app, T_sets_app]
      exact List.append_nil _
    rw [es] at hs
    obtain ⟨s1, s2⟩ := hs.app
    rw [M_of_or h1 h2, T_cod_or h1 h2, show T_hh (T_or l r) = max (T_hh l) (T_hh r) + 1 from T_ev_or _ h1 h2]
    have g1 := (q1 m s1).up (show ((T_hh l : Nat) : Int) ≤ ((max (T_hh l) (T_hh r) : Nat) : Int) by omega)
    have g2 := (q2 _ s2).up (show ((T_hh r : Nat) : Int) ≤ ((max (T_hh l) (T_hh r) : Nat) : Int) by omega)
    exact (R_Ld.or zb p2 (by omega) (M_of_rg h1) g1 g2).up (by omega)
  · have es : T_sets (T_cnt t op lo hi) = T_sets t := by
      unfold T_cnt
      rw [T_sets_app, T_sets_one (by show op ≠ 1; unfold T_cok at hc; omega), List.append_nil]
    rw [es] at hs
    rw [M_of_cnt hc h1, T_cod_cnt hc h1, show T_hh (T_cnt t op lo hi) = T_hh t + 1 from T_ev_cnt _ hc h1]
    exact (R_Ld.cnt zb p2 n1 (by omega) (M_of_rg h1) hc (q1 m hs)).up (by omega)
end LD
set_option maxRecDepth 8000 in
theorem R_leads (d : Nat) (s : R_S) {bk n : Int} {W : Int → Int} {t : P_T} {X : Int → Prop} (zb : Zr bk) (ht : T_is t) (hb : T_hh t ≤ 250) (n0 : 0 ≤ n) (n1 : n ≤ 1000) (hx : R_xc s (T_cod (decide (bk ≠ 0)) 0 t)) (p2 : s.1 48 ≤ 3000) (hh : ∀ k, k = 2 ∨ k = 3 ∨ k = 4 → R_bs_ s 121 (16 * k) (fun i => 0 ≤ i ∧ i ≤ n ∧ M_hold W n k i)) (hsb : R_sb s W n 0 (T_sets t)) (hX : ∀ i, X i → 0 ≤ i ∧ i ≤ n) (hbX : R_bs_ s 119 0 X) : R_ok (d + 2) 266 [.int (Zi bk)] s (fun x s2 => x = none ∧ R_lq 119 s s2 ∧ R_bs_ s2 119 0 (M_im bk (M_of W n t) X)) := by
  refine R_enter (M := E_m266) rfl (Nat.le_of_ble_eq_true rfl) (fun h0 h hs => ?_)
  show B_R (d + 1) _ (0, [(0, .ref 83), (1, .int (Zi bk))], []) _ _ _
  refine Z_go (f2 := (1, [(0, .ref 83), (1, .int (Zi bk))], [.int (Zi 0)])) (fun _ => rfl) ?_
  refine Z_go (f2 := (2, [(2, .int (Zi 0)), (0, .ref 83), (1, .int (Zi bk))], [])) (fun _ => rfl) ?_
  refine Z_go (f2 := (3, [(2, .int (Zi 0)), (0, .ref 83), (1, .int (Zi bk))], [.int (Zi 0)])) (fun _ => rfl) ?_
  refine Z_go (f2 := (4, [(3, .int (Zi 0)), (2, .int (Zi 0)), (0, .ref 83), (1, .int (Zi bk))], [])) (fun _ => rfl) ?_
  refine B_loc (K := [(3, .int (Zi 0)), (2, .int (Zi 0)), (0, .ref 83), (1, .int (Zi bk))]) (N_all_sub ⟨rfl, rfl, rfl, rfl, trivial⟩) (show ([3, 2, 0, 1] : List Nat).Nodup by decide) ?_
  refine R_Ld.t (s := s) zb p2 n0 n1 hh ht 0 hsb 0 0 X s h hs (R_lq.rf _ _) hx.2 (Int.le_refl _) (by rw [hx.1]; omega) (Int.le_refl _) (by omega) hX hbX (fun u h hs hu k b => ?_)
  have u48 : u.1 48 = s.1 48 := by rw [hu.1]
  unfold X_hd
  rw [show (0 : Int) + (T_cod (decide (bk ≠ 0)) 0 t).length = u.1 48 by rw [u48, hx.1]; omega]
  refine Z_go (f2 := (5, [(3, .int (Zi (u.1 48))), (2, .int (Zi 0)), (0, .ref 83), (1, .int (Zi bk))], [.int (Zi (u.1 48))])) (fun _ => rfl) ?_
  refine Z_go (f2 := (6, [(3, .int (Zi (u.1 48))), (2, .int (Zi 0)), (0, .ref 83), (1, .int (Zi bk))], [.ref 83, .int (Zi (u.1 48))])) (fun _ => rfl) ?_
  refine R_gi rfl hs rfl ?_
  show B_R _ _ (9, [(3, .int (Zi (u.1 48))), (2, .int (Zi 0)), (0, .ref 83), (1, .int (Zi bk))], [.int (Zi (u.1 48)), .int (Zi (u.1 48))]) _ _ _
  refine Z_cge rfl rfl (by first | exact hs.zF _ | exact Zor_r _ _ | exact hs.zA _ _ | assumption | exact zA _ _ | exact zS _ | exact Zr_not (hs.zA _ _) | exact ⟨by omega, by omega⟩) (by first | exact hs.zF _ | exact Zor_r _ _ | exact hs.zA _ _ | assumption | exact zA _ _ | exact zS _ | exact Zr_not (hs.zA _ _) | exact ⟨by omega, by omega⟩) (fun c1 => ?_) (fun c1 => ?_)
  · refine Z_ret rfl rfl ⟨_, hs, ?_, rfl⟩
    exact ⟨rfl, hu, b⟩
  · exfalso; omega
