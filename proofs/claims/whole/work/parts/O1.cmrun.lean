/-! the class: Machine: what a push and a follow do to the run -/
def M_fr (X : Nat → Prop) (o : Nat) (A : Nat → Nat) (s u : C_S) : Prop := (C_n u = C_n s ∧ C_K u = C_K s ∧ C_T u = C_T s ∧ C_P u = C_P s ∧ C_L u = C_L s ∧ C_Q u = C_Q s) ∧ (∀ j f, ¬ (j = o ∧ X f) → C_F u j f = C_F s j f) ∧ ∀ j, (∀ f, X f → (f = 7 ∨ f = 8 ∨ f = 10 ∨ f = 12) → j ≠ A f) → C_A u j = C_A s j
section MF
variable {X Y : Nat → Prop} {o : Nat} {A : Nat → Nat} {s u v : C_S} {p : List Nat}
theorem M_fr.refl : M_fr X o A s s := ⟨⟨rfl, rfl, rfl, rfl, rfl, rfl⟩, fun _ _ _ => rfl, fun _ _ => rfl⟩
theorem M_fr.tr (h : M_fr X o A s u) (g : M_fr X o A u v) : M_fr X o A s v := by
  obtain ⟨⟨a1, a2, a3, a4, a5, a6⟩, a7, a8⟩ := h
  obtain ⟨⟨b1, b2, b3, b4, b5, b6⟩, b7, b8⟩ := g
  exact ⟨⟨b1.trans a1, b2.trans a2, b3.trans a3, b4.trans a4, b5.trans a5, b6.trans a6⟩, fun j f e => (b7 j f e).trans (a7 j f e), fun j e => (b8 j e).trans (a8 j e)⟩
theorem M_fr.wide (h : M_fr X o A s u) (k : ∀ f, X f → Y f) : M_fr Y o A s u := ⟨h.1, fun j f e => h.2.1 j f (fun c => e ⟨c.1, k f c.2⟩), fun j e => h.2.2 j (fun f a b => e f (k f a) b)⟩
theorem M_fr.sF (h : M_fr X o A s u) {f : Nat} (hf : X f) (z : Int) : M_fr X o A s (C_sF u o f z) := ⟨h.1, fun j g e => (if_neg (fun c => e ⟨c.1, by rw [c.2]; exact hf⟩)).trans (h.2.1 j g e), h.2.2⟩
theorem M_fr.sA (h : M_fr X o A s u) {f : Nat} (hf : X f) (hf2 : f = 7 ∨ f = 8 ∨ f = 10 ∨ f = 12) (j z : Int) : M_fr X o A s (C_sA u (A f) j z) := ⟨h.1, h.2.1, fun k e => by
  funext l
  exact (if_neg (fun c => e f hf hf2 c.1)).trans (congrFun (h.2.2 k e) l)⟩
theorem M_fr.M0 (h : M_fr X o A s u) (hm : D_M0 s p o A) : D_M0 u p o A := by
  obtain ⟨⟨a1, a2, a3, a4, a5, a6⟩, a7, a8⟩ := h
  obtain ⟨b1, b2, b3, b4⟩ := hm
  exact ⟨by rw [a2]; exact b1, by rw [a3]; exact b2, fun f hf => by rw [a4, a2, a3]; exact b3 f hf, b4⟩
theorem M_fr.arr (h : M_fr X o A s u) (hm : D_M0 s p o A) {f : Nat} (hf : f = 1 ∨ f = 2 ∨ f = 3 ∨ f = 4 ∨ f = 7 ∨ f = 8 ∨ f = 10 ∨ f = 12) (hx : ¬ X f) : C_A u (A f) = C_A s (A f) := h.2.2 _ (fun g hg hg2 e => by
  have := hm.2.2.2 f g hf (by omega) e
  rw [this] at hx
  exact hx hg)
theorem M_fr.wb (h : M_fr X o A s u) (hm : D_M0 s p o A) {tb N : Nat} (kt : C_K s tb = (1, N)) : C_A u tb = C_A s tb := h.2.2 _ (fun g hg hg2 e => by
  have := (hm.2.2.1 g (by omega)).2.1
  rw [← e, kt] at this
  cases this)
end MF
abbrev M_XE : Nat → Prop := fun f => f = 7 ∨ f = 8 ∨ f = 9 ∨ f = 12 ∨ f = 13 ∨ f = 15 ∨ f = 16
abbrev M_IV (κ : Nat → Int → Int) (H : Int → Int → Prop) (W : Int → Int) (n m e B i : Int) (o : Nat) (A : Nat → Nat) (s : C_S) (t b x : Int) : Prop := M_iv κ H W n m e B i (C_A s (A 7)) (C_A s (A 8)) t (C_A s (A 12)) (C_F s o 13) (C_F s o 15) (C_F s o 16) b x
abbrev M_FN (κ : Nat → Int → Int) (H : Int → Int → Prop) (W : Int → Int) (n m B i : Int) (o : Nat) (A : Nat → Nat) (s : C_S) (j : Int) : Prop := M_fn κ H W n m B i (C_A s (A 12)) (C_F s o 13) (C_F s o 15) (C_F s o 16) j
/-- what any step within a place keeps -/
def M_go (κ : Nat → Int → Int) (H : Int → Int → Prop) (W : Int → Int) (n m B i : Int) (o : Nat) (A : Nat → Nat) (s u : C_S) : Prop := M_fr M_XE o A s u ∧ (∀ q, C_A s (A 7) q = i → C_A u (A 7) q = i) ∧ ((∀ q, 0 ≤ q → q < 202 → C_A s (A 7) q ≤ i) → ∀ q, 0 ≤ q → q < 202 → C_A u (A 7) q ≤ i) ∧ ∀ j, M_FN κ H W n m B i o A s j → M_FN κ H W n m B i o A u j
section MG
variable {κ : Nat → Int → Int} {H : Int → Int → Prop} {W : Int → Int} {n m e B i : Int} {o : Nat} {A : Nat → Nat} {s u v : C_S} {p : List Nat}
theorem M_go.refl : M_go κ H W n m B i o A s s := ⟨M_fr.refl, fun _ h => h, fun h => h, fun _ h => h⟩
theorem M_go.tr (h : M_go κ H W n m B i o A s u) (g : M_go κ H W n m B i o A u v) : M_go κ H W n m B i o A s v := ⟨h.1.tr g.1, fun q hq => g.2.1 q (h.2.1 q hq), fun hq => g.2.2.1 (h.2.2.1 hq), fun j hj => g.2.2.2 j (h.2.2.2 j hj)⟩
theorem C_mp_iv (hm : D_M0 s p o A) {b x q : Int} (h : M_IV κ H W n m e B i o A s (C_F s o 9) b x) (t0 : 0 ≤ C_F s o 9) (q0 : 0 ≤ q) (q1 : q < m) (m1 : m ≤ 202) (hs : ∀ j, M_ac κ H W n q i j → M_ac κ H W n e b j) : M_IV κ H W n m e B i o A (C_mp s o A q i) (C_F (C_mp s o A q i) o 9) b x ∧ M_go κ H W n m B i o A s (C_mp s o A q i) ∧ C_A (C_mp s o A q i) (A 7) q = i ∧ C_F (C_mp s o A q i) o 9 + M_un (C_A (C_mp s o A q i) (A 7)) i 202 = C_F s o 9 + M_un (C_A s (A 7)) i 202 ∧ C_F (C_mp s o A q i) o 13 = C_F s o 13 := by
  by_cases c : C_A s (A 7) q = i
  · have e1 : C_mp s o A q i = s := if_neg (fun a => a.2.2 c)
    rw [e1]
    exact ⟨h, M_go.refl, c, rfl, rfl⟩
  · have e1 : C_mp s o A q i = C_sF (C_sA (C_sA s (A 7) q i) (A 8) (C_F s o 9) q) o 9 (C_F s o 9 + 1) := if_pos ⟨q0, by omega, c⟩
    have n78 : A 7 ≠ A 8 := fun e => by have := hm.2.2.2 7 8 (by omega) (by omega) e; omega
    have n127 : A 12 ≠ A 7 := fun e => by have := hm.2.2.2 12 7 (by omega) (by omega) e; omega
    have n128 : A 12 ≠ A 8 := fun e => by have := hm.2.2.2 12 8 (by omega) (by omega) e; omega
    rw [e1]
    have a7 : C_A (C_sF (C_sA (C_sA s (A 7) q i) (A 8) (C_F s o 9) q) o 9 (C_F s o 9 + 1)) (A 7) = M_up (C_A s (A 7)) q i := by
      funext j
      show (if A 7 = A 8 ∧ j = _ then _ else if A 7 = A 7 ∧ j = q then i else C_A s (A 7) j) = if j = q then i else C_A s (A 7) j
      rw [if_neg (fun e => n78 e.1)]
      by_cases d : j = q
      · rw [if_pos ⟨rfl, d⟩, if_pos d]
      · rw [if_neg (fun e => d e.2), if_neg d]
    have a8 : C_A (C_sF (C_sA (C_sA s (A 7) q i) (A 8) (C_F s o 9) q) o 9 (C_F s o 9 + 1)) (A 8) = M_up (C_A s (A 8)) (C_F s o 9) q := by
      funext j
      show (if A 8 = A 8 ∧ j = C_F s o 9 then q else if A 8 = A 7 ∧ j = q then i else C_A s (A 8) j) = if j = C_F s o 9 then q else C_A s (A 8) j
      by_cases d : j = C_F s o 9
      · rw [if_pos ⟨rfl, d⟩, if_pos d]
      · rw [if_neg (fun e => d e.2), if_neg d, if_neg (fun e => n78 e.1.symm)]
    have a12 : C_A (C_sF (C_sA (C_sA s (A 7) q i) (A 8) (C_F s o 9) q) o 9 (C_F s o 9 + 1)) (A 12) = C_A s (A 12) := by
      funext j
      show (if A 12 = A 8 ∧ j = _ then _ else if A 12 = A 7 ∧ j = q then i else C_A s (A 12) j) = _
      rw [if_neg (fun e => n128 e.1), if_neg (fun e => n127 e.1)]
    have f9 : C_F (C_sF (C_sA (C_sA s (A 7) q i) (A 8) (C_F s o 9) q) o 9 (C_F s o 9 + 1)) o 9 = C_F s o 9 + 1 := if_pos ⟨rfl, rfl⟩
    have f13 : C_F (C_sF (C_sA (C_sA s (A 7) q i) (A 8) (C_F s o 9) q) o 9 (C_F s o 9 + 1)) o 13 = C_F s o 13 := if_neg (by omega)
    have f15 : C_F (C_sF (C_sA (C_sA s (A 7) q i) (A 8) (C_F s o 9) q) o 9 (C_F s o 9 + 1)) o 15 = C_F s o 15 := if_neg (by omega)
    have f16 : C_F (C_sF (C_sA (C_sA s (A 7) q i) (A 8) (C_F s o 9) q) o 9 (C_F s o 9 + 1)) o 16 = C_F s o 16 := if_neg (by omega)
    unfold M_IV at h ⊢
    rw [a7, a8, a12, f9, f13, f15, f16]
    refine ⟨h.push t0 q0 q1 hs, ⟨?_, fun q2 hq => ?_, fun hq q2 g0 g1 => ?_, fun j hj => ?_⟩, if_pos rfl, ?_, rfl⟩
    · exact ((M_fr.refl.sA (f := 7) (.inl rfl) (.inl rfl) _ _).sA (f := 8) (.inr (.inl rfl)) (.inr (.inl rfl)) _ _).sF (f := 9) (.inr (.inr (.inl rfl))) _
    · rw [a7]; unfold M_up; split; rfl; exact hq
    · rw [a7]; unfold M_up; split; omega; exact hq q2 g0 g1
    · unfold M_FN at hj ⊢
      rw [a12, f13, f15, f16]; exact hj
    · rw [M_un_up c q0, if_pos (by omega)]; omega
theorem C_fw_iv (hκ : ∀ f, (f = 1 ∨ f = 2 ∨ f = 3 ∨ f = 4) → C_A s (A f) = κ f) (hok : M_kok κ m) (hB : ∀ b j, 0 ≤ b → M_ac κ H W n e b j → B ≤ b) (B0 : 0 ≤ B) (hm : D_M0 s p o A) {b x : Int} (h : M_IV κ H W n m e B i o A s (C_F s o 9) b x) (t0 : 0 ≤ C_F s o 9) (c0 : 0 ≤ C_F s o 13) (b0 : 0 ≤ b) (bi : b ≤ i) (x0 : 0 ≤ x) (x1 : x < m) (m1 : m ≤ 202) (hs : ∀ j, M_ac κ H W n x i j → M_ac κ H W n e b j) {tb N : Nat} (hW : ∀ k, M_hold (C_wb s tb N) N k i ↔ M_hold W n k i) (hf : C_mfw s o A tb N x b i u) : M_IV κ H W n m e B i o A u (C_F u o 9) b (-1) ∧ M_go κ H W n m B i o A s u ∧ C_F u o 9 + M_un (C_A u (A 7)) i 202 = C_F s o 9 + M_un (C_A s (A 7)) i 202 ∧ 0 ≤ C_F u o 9 ∧ C_F u o 9 ≤ C_F s o 9 + 2 ∧ 0 ≤ C_F u o 13 ∧ C_F u o 13 ≤ C_F s o 13 + 1 := by
  have k1 := congrFun (hκ 1 (by omega)) x
  have k2 := congrFun (hκ 2 (by omega)) x
  have k3 := congrFun (hκ 3 (by omega)) x
  have hx := hok x x0 x1
  unfold C_mfw at hf
  rw [k1, k2, k3] at hf
  rcases hf with ⟨a1, rfl⟩ | ⟨a1, rfl⟩ | ⟨a1, rfl⟩ | ⟨a1, a2, a3, hf⟩
  · by_cases c : C_F s o 15 = -1 ∨ b ≤ C_F s o 15
    · rw [if_pos c]
      obtain ⟨g1, g2⟩ := h.note hB B0 b0 bi a1 hs (g2 := b) (z2 := i) (.inl ⟨c, rfl, rfl⟩)
      have f9 : C_F (C_sF (C_sF s o 15 b) o 16 i) o 9 = C_F s o 9 := (if_neg (by omega)).trans (if_neg (by omega))
      have f13 : C_F (C_sF (C_sF s o 15 b) o 16 i) o 13 = C_F s o 13 := (if_neg (by omega)).trans (if_neg (by omega))
      have f15 : C_F (C_sF (C_sF s o 15 b) o 16 i) o 15 = b := (if_neg (by omega)).trans (if_pos ⟨rfl, rfl⟩)
      have f16 : C_F (C_sF (C_sF s o 15 b) o 16 i) o 16 = i := if_pos ⟨rfl, rfl⟩
      unfold M_IV
      rw [f9, f13, f15, f16]
      refine ⟨g1, ⟨(M_fr.refl.sF (f := 15) (by unfold M_XE; omega) _).sF (f := 16) (by unfold M_XE; omega) _, fun _ a => a, fun a => a, fun j hj => ?_⟩, rfl, t0, by omega, c0, by omega⟩
      unfold M_FN
      rw [f13, f15, f16]
      exact g2 j hj
    · rw [if_neg c]
      obtain ⟨g1, g2⟩ := h.note hB B0 b0 bi a1 hs (g2 := C_F s o 15) (z2 := C_F s o 16) (.inr ⟨c, rfl, rfl⟩)
      exact ⟨g1, M_go.refl, rfl, t0, by omega, c0, by omega⟩
  · have n127 : A 7 ≠ A 12 := fun e => by have := hm.2.2.2 7 12 (by omega) (by omega) e; omega
    have n128 : A 8 ≠ A 12 := fun e => by have := hm.2.2.2 8 12 (by omega) (by omega) e; omega
    have a7 : C_A (C_sF (C_sA s (A 12) (C_F s o 13) (b * 256 + x)) o 13 (C_F s o 13 + 1)) (A 7) = C_A s (A 7) := by
      funext j
      exact if_neg (fun e => n127 e.1)
    have a8 : C_A (C_sF (C_sA s (A 12) (C_F s o 13) (b * 256 + x)) o 13 (C_F s o 13 + 1)) (A 8) = C_A s (A 8) := by
      funext j
      exact if_neg (fun e => n128 e.1)
    have a12 : C_A (C_sF (C_sA s (A 12) (C_F s o 13) (b * 256 + x)) o 13 (C_F s o 13 + 1)) (A 12) = M_up (C_A s (A 12)) (C_F s o 13) (b * 256 + x) := by
      funext j
      show (if A 12 = A 12 ∧ j = C_F s o 13 then b * 256 + x else C_A s (A 12) j) = if j = C_F s o 13 then b * 256 + x else C_A s (A 12) j
      by_cases d : j = C_F s o 13
      · rw [if_pos ⟨rfl, d⟩, if_pos d]
      · rw [if_neg (fun e => d e.2), if_neg d]
    have f9 : C_F (C_sF (C_sA s (A 12) (C_F s o 13) (b * 256 + x)) o 13 (C_F s o 13 + 1)) o 9 = C_F s o 9 := if_neg (by omega)
    have f13 : C_F (C_sF (C_sA s (A 12) (C_F s o 13) (b * 256 + x)) o 13 (C_F s o 13 + 1)) o 13 = C_F s o 13 + 1 := if_pos ⟨rfl, rfl⟩
    have f15 : C_F (C_sF (C_sA s (A 12) (C_F s o 13) (b * 256 + x)) o 13 (C_F s o 13 + 1)) o 15 = C_F s o 15 := if_neg (by omega)
    have f16 : C_F (C_sF (C_sA s (A 12) (C_F s o 13) (b * 256 + x)) o 13 (C_F s o 13 + 1)) o 16 = C_F s o 16 := if_neg (by omega)
    unfold M_IV
    rw [a7, a8, a12, f9, f13, f15, f16]
    refine ⟨h.way hB c0 b0 a1 x0 x1 m1 hs, ⟨(M_fr.refl.sA (f := 12) (by unfold M_XE; omega) (by omega) _ _).sF (f := 13) (by unfold M_XE; omega) _, fun q hq => by rw [a7]; exact hq, fun hq => by rw [a7]; exact hq, fun j hj => ?_⟩, rfl, t0, by omega, by omega, by omega⟩
    unfold M_FN
    rw [a12, f13, f15, f16]
    exact M_fn.way hj
  · have hx : 0 ≤ κ 2 x ∧ κ 2 x < m ∧ 0 ≤ κ 3 x ∧ κ 3 x < m := by rcases hx with q | ⟨_, q⟩ | q; omega; exact q; omega
    obtain ⟨g1, g2, g3, g4, g5⟩ := C_mp_iv hm (q := κ 3 x) h t0 hx.2.2.1 hx.2.2.2 m1 (fun j hj => hs j (M_ac.k7b a1 hj))
    have b9 := C_mp_9 s o A (κ 3 x) i
    have hm2 := C_mp_M0 hm (κ 3 x) i
    generalize C_mp s o A (κ 3 x) i = s1 at *
    obtain ⟨j1, j2, j3, j4, j5⟩ := C_mp_iv hm2 (q := κ 2 x) g1 (by omega) hx.1 hx.2.1 m1 (fun j hj => hs j (M_ac.k7a a1 hj))
    have d9 := C_mp_9 s1 o A (κ 2 x) i
    generalize C_mp s1 o A (κ 2 x) i = s2 at *
    refine ⟨j1.done (fun _ => ⟨fun a => by omega, fun a => by omega, fun _ => ⟨j3, j2.2.1 _ g3⟩, fun a => by omega⟩), g2.tr j2, by omega, by omega, by omega, by omega, by omega⟩
  · have hx : (4 ≤ κ 1 x ∧ κ 1 x ≤ 6) ∧ 0 ≤ κ 2 x ∧ κ 2 x < m := by omega
    rcases hf with ⟨q1, rfl⟩ | ⟨q1, rfl⟩
    · have q1 := (hW _).mp q1
      obtain ⟨g1, g2, g3, g4, g5⟩ := C_mp_iv hm (q := κ 2 x) h t0 hx.2.1 hx.2.2 m1 (fun j hj => hs j (M_ac.k4 hx.1 q1 hj))
      have b9 := C_mp_9 s o A (κ 2 x) i
      refine ⟨g1.done (fun _ => ⟨fun a => by omega, fun a => by omega, fun a => by omega, fun _ _ => g3⟩), g2, by omega, by omega, by omega, by omega, by omega⟩
    · exact ⟨h.done (fun _ => ⟨fun a => by omega, fun a => by omega, fun a => by omega, fun _ a => absurd ((hW _).mpr a) q1⟩), M_go.refl, rfl, t0, by omega, c0, by omega⟩
end MG
