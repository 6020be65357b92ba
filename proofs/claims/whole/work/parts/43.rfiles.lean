/-! the reference's files: what holds of them between the calls -/
def R_by (s : R_S) (f i : Int) : Int := s.2.1 85 (s.2.1 86 f + i)
/-- where a file lies, and apart from all others (x: a file that doesn't count) -/
def R_lie (s : R_S) (x f : Int) : Prop := 0 ≤ s.2.1 86 f ∧ 0 ≤ s.2.1 87 f ∧ s.2.1 87 f ≤ 1000 ∧ s.2.1 86 f + s.2.1 87 f ≤ s.1 3 ∧ (∀ g, R_isF s g → g ≠ x → g ≠ f → s.2.1 86 f + s.2.1 87 f ≤ s.2.1 86 g ∨ s.2.1 86 g + s.2.1 87 g ≤ s.2.1 86 f)
def R_fw (s : R_S) (x : Int) : Prop := (R_w1 s) ∧ (0 ≤ s.1 1) ∧ (s.1 1 ≤ 1000) ∧ (0 ≤ s.1 3) ∧ (s.1 3 ≤ 16000) ∧ (∀ f, R_isF s f → f ≠ x → R_lie s x f) ∧ (∀ j, 0 ≤ s.2.1 85 j ∧ s.2.1 85 j < 256) ∧ (∀ j, 0 ≤ s.2.1 84 j ∧ s.2.1 84 j < 256)
theorem R_fw.w1 {s : R_S} {x : Int} (h : R_fw s x) : R_w1 s := h.1
theorem R_fw.t0 {s : R_S} {x : Int} (h : R_fw s x) : 0 ≤ s.1 1 := h.2.1
theorem R_fw.t1 {s : R_S} {x : Int} (h : R_fw s x) : s.1 1 ≤ 1000 := h.2.2.1
theorem R_fw.p0 {s : R_S} {x : Int} (h : R_fw s x) : 0 ≤ s.1 3 := h.2.2.2.1
theorem R_fw.p1 {s : R_S} {x : Int} (h : R_fw s x) : s.1 3 ≤ 16000 := h.2.2.2.2.1
theorem R_fw.fl {s : R_S} {x : Int} (h : R_fw s x) : ∀ f, R_isF s f → f ≠ x → R_lie s x f := h.2.2.2.2.2.1
theorem R_fw.by_ {s : R_S} {x : Int} (h : R_fw s x) : ∀ j, 0 ≤ s.2.1 85 j ∧ s.2.1 85 j < 256 := h.2.2.2.2.2.2.1
theorem R_fw.tb {s : R_S} {x : Int} (h : R_fw s x) : ∀ j, 0 ≤ s.2.1 84 j ∧ s.2.1 84 j < 256 := h.2.2.2.2.2.2.2
/-- what may have changed -/
def R_fr (bs qs : List Nat) (s s2 : R_S) : Prop := (∀ b, b ∉ bs → s2.1 b = s.1 b) ∧ (∀ q, q ∉ qs → ∀ j, s2.2.1 q j = s.2.1 q j) ∧ s2.2.2 = s.2.2
/-- the file g is in s2 what it is in s -/
def R_kept (s s2 : R_S) (g : Int) : Prop := (R_isF s2 g ↔ R_isF s g) ∧ (R_isF s g → s2.2.1 87 g = s.2.1 87 g ∧ ∀ i, 0 ≤ i → i < s.2.1 87 g → R_by s2 g i = R_by s g i)
theorem R_up_s (f : Nat → Int) (b : Nat) (z : Int) : R_up f b z b = z := by unfold R_up; rw [if_pos rfl]
theorem R_up_n (f : Nat → Int) {b c : Nat} (z : Int) (h : c ≠ b) : R_up f b z c = f c := by unfold R_up; rw [if_neg h]
theorem R_up2_s (f : Nat → Int → Int) (b : Nat) (i z : Int) : R_up2 f b i z b i = z := by unfold R_up2; rw [if_pos ⟨rfl, rfl⟩]
theorem R_up2_n (f : Nat → Int → Int) {b c : Nat} (i z : Int) (j : Int) (h : c ≠ b ∨ j ≠ i) : R_up2 f b i z c j = f c j := by unfold R_up2; rw [if_neg (fun e => h.elim (fun a => a e.1) (fun a => a e.2))]
theorem R_sF_s (s : R_S) (b : Nat) (z : Int) : (R_sF s b z).1 b = z := R_up_s _ _ _
theorem R_sF_n (s : R_S) {b c : Nat} (z : Int) (h : c ≠ b) : (R_sF s b z).1 c = s.1 c := R_up_n _ _ h
theorem R_sF_a (s : R_S) (b : Nat) (z : Int) (q : Nat) (j : Int) : (R_sF s b z).2.1 q j = s.2.1 q j := rfl
/-- leaves, told of files -/
theorem R_leave_fw {s u s2 : R_S} {f k : Int} (w : R_fw s (-1)) (hf : R_isF s f) (hA : R_lvA s u (s.2.1 86 f) (s.2.1 87 f) k) (k0 : s.2.1 86 f ≤ k) (k1 : s.1 3 ≤ k + s.2.1 87 f) (k2 : k = s.2.1 86 f ∨ k + s.2.1 87 f ≤ s.1 3) (hB : R_lvB (R_sF u 3 (s.1 3 - s.2.1 87 f)) s2 f (s.2.1 87 f) (s.1 8)) : R_fw s2 f ∧ R_fr [3] [85, 86] s s2 ∧ s2.1 3 = s.1 3 - s.2.1 87 f ∧ (∀ g, g ≠ f → R_kept s s2 g) := by
  have hf0 := hf
  obtain ⟨f0, f1, f2⟩ := hf0
  obtain ⟨a0, a1, a2, a3, dj⟩ := w.fl f hf (by omega)
  have ef : ∀ b, b ≠ 3 → s2.1 b = s.1 b := by
    intro b hb
    rw [hB.1, R_sF_n _ _ hb, hA.1]
  have e3 : s2.1 3 = s.1 3 - s.2.1 87 f := by rw [hB.1, R_sF_s]
  have eu : ∀ q, q ≠ 85 → ∀ j, u.2.1 q j = s.2.1 q j := fun q hq j => R_lvA_ne hA hq j
  have eq : ∀ q, q ≠ 85 → q ≠ 86 → ∀ j, s2.2.1 q j = s.2.1 q j := by
    intro q h1 h2 j
    rw [R_lvB_ne hB h2 j, R_sF_a, eu q h1]
  have e85 : ∀ j, s2.2.1 85 j = if s.2.1 86 f ≤ j ∧ j < k then s.2.1 85 (j + s.2.1 87 f) else s.2.1 85 j := by
    intro j
    rw [R_lvB_ne hB (by decide) j, R_sF_a, hA.2.1]
    by_cases c : s.2.1 86 f ≤ j ∧ j < k
    · rw [if_pos c, if_pos ⟨rfl, c.1, c.2⟩]
    · rw [if_neg c, if_neg (fun e => c e.2)]
  have e86 : ∀ j, 0 ≤ j → j < s.1 8 → s.2.1 88 j ≠ 0 → s2.2.1 86 j = if s.2.1 86 f < s.2.1 86 j then s.2.1 86 j - s.2.1 87 f else s.2.1 86 j := by
    intro j h0 h1 h2
    rw [hB.2.1]
    have ea : (R_sF u 3 (s.1 3 - s.2.1 87 f)).2.1 88 j = s.2.1 88 j := by rw [R_sF_a, eu 88 (by decide)]
    have eb : ∀ i, (R_sF u 3 (s.1 3 - s.2.1 87 f)).2.1 86 i = s.2.1 86 i := fun i => by rw [R_sF_a, eu 86 (by decide)]
    rw [ea, eb, eb]
    by_cases c : s.2.1 86 f < s.2.1 86 j
    · rw [if_pos c, if_pos ⟨rfl, h0, h1, h2, c⟩]
    · rw [if_neg c, if_neg (fun e => c e.2.2.2.2)]
  have eis : ∀ g, R_isF s2 g ↔ R_isF s g := by
    intro g
    unfold R_isF
    rw [ef 8 (by decide), eq 88 (by decide) (by decide)]
  have key : ∀ g, R_isF s g → g ≠ f → s2.2.1 86 g = (if s.2.1 86 f < s.2.1 86 g then s.2.1 86 g - s.2.1 87 f else s.2.1 86 g) ∧ 0 ≤ s2.2.1 86 g ∧ s2.2.1 86 g + s.2.1 87 g ≤ s.1 3 - s.2.1 87 f := by
    intro g hg gf
    obtain ⟨g0, g1, g2⟩ := id hg
    obtain ⟨b0, b1, b2, b3, _⟩ := w.fl g hg (by omega)
    have d1 := dj g hg (by omega) gf
    have e := e86 g g0 g1 (by omega)
    refine ⟨e, ?_⟩
    rw [e]
    split <;> omega
  refine ⟨⟨?_, ?_, ?_, ?_, ?_, ?_, ?_, ?_⟩, ⟨?_, ?_, ?_⟩, e3, ?_⟩
  · obtain ⟨x1, x2, x3⟩ := w.w1
    refine ⟨by rw [ef 8 (by decide)]; exact x1, by rw [ef 8 (by decide)]; exact x2, fun g => by rw [eq 88 (by decide) (by decide)]; exact x3 g⟩
  · rw [ef 1 (by decide)]; exact w.t0
  · rw [ef 1 (by decide)]; exact w.t1
  · rw [e3]; omega
  · rw [e3]; have := w.p1; omega
  · intro g hg gf
    rw [eis] at hg
    obtain ⟨b0, b1, b2, b3, dg⟩ := w.fl g hg (by have := hg.1; omega)
    obtain ⟨c0, c1, c2⟩ := key g hg gf
    refine ⟨c1, by rw [eq 87 (by decide) (by decide)]; exact b1, by rw [eq 87 (by decide) (by decide)]; exact b2, by rw [e3, eq 87 (by decide) (by decide)]; exact c2, ?_⟩
    intro g2 hg2 g2f g2g
    rw [eis] at hg2
    obtain ⟨h0, h1, h2⟩ := key g2 hg2 g2f
    obtain ⟨q0, q1, q2, q3, _⟩ := w.fl g2 hg2 (by have := hg2.1; omega)
    have d0 := dg g2 hg2 (by have := hg2.1; omega) g2g
    have d1 := dj g hg (by have := hg.1; omega) gf
    have d2 := dj g2 hg2 (by have := hg2.1; omega) g2f
    rw [eq 87 (by decide) (by decide), eq 87 (by decide) (by decide), c0, h0]
    split <;> split <;> omega
  · intro j
    rw [e85]
    split
    · exact w.by_ _
    · exact w.by_ _
  · intro j; rw [eq 84 (by decide) (by decide)]; exact w.tb j
  · intro b hb
    exact ef b (fun e => hb (by rw [e]; exact List.mem_singleton.mpr rfl))
  · intro q hq j
    refine eq q (fun e => hq (by rw [e]; decide)) (fun e => hq (by rw [e]; decide)) j
  · rw [hB.2.2]; show u.2.2 = _; exact hA.2.2
  · intro g gf
    refine ⟨eis g, fun hg => ⟨eq 87 (by decide) (by decide) g, fun i i0 i1 => ?_⟩⟩
    obtain ⟨c0, c1, c2⟩ := key g hg gf
    obtain ⟨b0, b1, b2, b3, _⟩ := w.fl g hg (by have := hg.1; omega)
    have d1 := dj g hg (by have := hg.1; omega) gf
    unfold R_by
    rw [c0, e85]
    by_cases c : s.2.1 86 f < s.2.1 86 g
    · rw [if_pos c, if_pos (by omega)]
      refine congrArg (s.2.1 85) ?_
      omega
    · rw [if_neg c]
      by_cases c2 : s.2.1 86 f ≤ s.2.1 86 g + i ∧ s.2.1 86 g + i < k
      · have : s.2.1 87 f = 0 := by omega
        rw [if_pos c2, this, Int.add_zero]
      · rw [if_neg c2]
/-- takes, told of files -/
theorem R_take_fw {s u s2 : R_S} {f : Int} (w : R_fw s f) (f0 : 0 ≤ f) (p : s.1 3 + s.1 1 ≤ 16000) (ht : R_tk s u f (s.1 1)) (h2 : s2 = R_sF (R_sF u 3 (s.1 3 + s.1 1)) 1 0) : R_fw s2 (-1) ∧ R_fr [1, 3] [85, 86, 87] s s2 ∧ s2.1 3 = s.1 3 + s.1 1 ∧ s2.1 1 = 0 ∧ R_lie s2 f f ∧ (∀ g, g ≠ f → R_kept s s2 g) ∧ s2.2.1 87 f = s.1 1 ∧ (∀ i, 0 ≤ i → i < s.1 1 → R_by s2 f i = s.2.1 84 i) := by
  have t0 := w.t0
  have p0 := w.p0
  have ef : ∀ b, b ≠ 3 → b ≠ 1 → s2.1 b = s.1 b := by
    intro b h3 h1
    rw [h2, R_sF_n _ _ h1, R_sF_n _ _ h3, ht.1]
  have e3 : s2.1 3 = s.1 3 + s.1 1 := by rw [h2, R_sF_n _ _ (by decide), R_sF_s]
  have e1 : s2.1 1 = 0 := by rw [h2, R_sF_s]
  have eu : ∀ q j, s2.2.1 q j = u.2.1 q j := fun q j => by rw [h2]; rfl
  have eq : ∀ q, q ≠ 85 → q ≠ 86 → q ≠ 87 → ∀ j, s2.2.1 q j = s.2.1 q j := by
    intro q h5 h6 h7 j
    rw [eu, ht.2.1, if_neg (fun e => h6 e.1), if_neg (fun e => h7 e.1), if_neg (fun e => h5 e.1)]
  have e86 : ∀ j, s2.2.1 86 j = if j = f then s.1 3 else s.2.1 86 j := by
    intro j
    rw [eu, ht.2.1]
    by_cases c : j = f
    · rw [if_pos ⟨rfl, c⟩, if_pos c]
    · rw [if_neg (fun e => c e.2), if_neg (fun e => absurd e.1 (by decide)), if_neg (fun e => absurd e.1 (by decide)), if_neg c]
  have e87 : ∀ j, s2.2.1 87 j = if j = f then s.1 1 else s.2.1 87 j := by
    intro j
    rw [eu, ht.2.1, if_neg (fun e => absurd e.1 (by decide))]
    by_cases c : j = f
    · rw [if_pos ⟨rfl, c⟩, if_pos c]
    · rw [if_neg (fun e => c e.2), if_neg (fun e => absurd e.1 (by decide)), if_neg c]
  have e85 : ∀ j, s2.2.1 85 j = if s.1 3 ≤ j ∧ j < s.1 3 + s.1 1 then s.2.1 84 (j - s.1 3) else s.2.1 85 j := by
    intro j
    rw [eu, ht.2.1, if_neg (fun e => absurd e.1 (by decide)), if_neg (fun e => absurd e.1 (by decide))]
    by_cases c : s.1 3 ≤ j ∧ j < s.1 3 + s.1 1
    · rw [if_pos ⟨rfl, c.1, c.2⟩, if_pos c]
    · rw [if_neg (fun e => c e.2), if_neg c]
  have eis : ∀ g, R_isF s2 g ↔ R_isF s g := by
    intro g
    unfold R_isF
    rw [ef 8 (by decide) (by decide), eq 88 (by decide) (by decide) (by decide)]
  have lf : R_lie s2 f f := by
    refine ⟨by rw [e86, if_pos rfl]; exact w.p0, by rw [e87, if_pos rfl]; exact w.t0, by rw [e87, if_pos rfl]; exact w.t1, by rw [e86, e87, if_pos rfl, if_pos rfl, e3]; omega, ?_⟩
    intro g hg gf _
    rw [eis] at hg
    obtain ⟨b0, b1, b2, b3, _⟩ := w.fl g hg gf
    rw [e86, e87, e86, e87, if_pos rfl, if_pos rfl, if_neg gf, if_neg gf]
    omega
  refine ⟨⟨?_, ?_, ?_, ?_, ?_, ?_, ?_, ?_⟩, ⟨?_, ?_, ?_⟩, e3, e1, lf, ?_, ?_, ?_⟩
  · obtain ⟨x1, x2, x3⟩ := w.w1
    refine ⟨by rw [ef 8 (by decide) (by decide)]; exact x1, by rw [ef 8 (by decide) (by decide)]; exact x2, fun g => by rw [eq 88 (by decide) (by decide) (by decide)]; exact x3 g⟩
  · rw [e1]; exact Int.le_refl 0
  · rw [e1]; decide
  · rw [e3]; have := w.p0; have := w.t0; omega
  · rw [e3]; exact p
  · intro g hg _
    by_cases gf : g = f
    · rw [gf]
      obtain ⟨b0, b1, b2, b3, dg⟩ := lf
      exact ⟨b0, b1, b2, b3, fun k hk _ kf => dg k hk kf kf⟩
    · rw [eis] at hg
      obtain ⟨b0, b1, b2, b3, dg⟩ := w.fl g hg gf
      refine ⟨by rw [e86, if_neg gf]; exact b0, by rw [e87, if_neg gf]; exact b1, by rw [e87, if_neg gf]; exact b2, by rw [e86, e87, if_neg gf, if_neg gf, e3]; have := w.t0; omega, ?_⟩
      intro k hk _ kg
      by_cases kf : k = f
      · rw [e86, e87, e86, e87, if_pos kf, if_pos kf, if_neg gf, if_neg gf]; omega
      · rw [eis] at hk
        rw [e86, e87, e86, e87, if_neg kf, if_neg kf, if_neg gf, if_neg gf]
        exact dg k hk kf kg
  · intro j
    rw [e85]
    split
    · exact w.tb _
    · exact w.by_ _
  · intro j; rw [eq 84 (by decide) (by decide) (by decide)]; exact w.tb j
  · intro b hb
    exact ef b (fun e => hb (by rw [e]; decide)) (fun e => hb (by rw [e]; decide))
  · intro q hq j
    exact eq q (fun e => hq (by rw [e]; decide)) (fun e => hq (by rw [e]; decide)) (fun e => hq (by rw [e]; decide)) j
  · rw [h2]; show u.2.2 = _; exact ht.2.2
  · intro g gf
    refine ⟨eis g, fun hg => ⟨by rw [e87, if_neg gf], fun i i0 i1 => ?_⟩⟩
    obtain ⟨b0, b1, b2, b3, _⟩ := w.fl g hg gf
    unfold R_by
    rw [e86, if_neg gf, e85, if_neg (by omega)]
  · rw [e87, if_pos rfl]
  · intro i i0 i1
    unfold R_by
    rw [e86, if_pos rfl, e85, if_pos (by omega)]
    refine congrArg (s.2.1 84) ?_
    omega
theorem R_fw_there {s : R_S} {f m : Int} (w : R_fw s (-1)) (lf : R_lie s f f) (hf : f = s.1 8) (c : s.1 8 < 200) : R_fw (R_sF (R_sF (R_sA s 88 f 1) 7 m) 8 (f + 1)) (-1) ∧ R_isF (R_sF (R_sF (R_sA s 88 f 1) 7 m) 8 (f + 1)) f ∧ (∀ g, g ≠ f → R_kept s (R_sF (R_sF (R_sA s 88 f 1) 7 m) 8 (f + 1)) g) := by
  obtain ⟨x1, x2, x3⟩ := w.w1
  have ef : ∀ b, b ≠ 7 → b ≠ 8 → (R_sF (R_sF (R_sA s 88 f 1) 7 m) 8 (f + 1)).1 b = s.1 b := fun b h7 h8 => by rw [R_sF_n _ _ h8, R_sF_n _ _ h7]; rfl
  have e8 : (R_sF (R_sF (R_sA s 88 f 1) 7 m) 8 (f + 1)).1 8 = f + 1 := R_sF_s _ _ _
  have eq : ∀ q, q ≠ 88 → ∀ j, (R_sF (R_sF (R_sA s 88 f 1) 7 m) 8 (f + 1)).2.1 q j = s.2.1 q j := fun q hq j => R_up2_n _ _ _ _ (.inl hq)
  have e88 : ∀ j, (R_sF (R_sF (R_sA s 88 f 1) 7 m) 8 (f + 1)).2.1 88 j = if j = f then 1 else s.2.1 88 j := by
    intro j
    show R_up2 s.2.1 88 f 1 88 j = _
    split
    · rename_i e; rw [e]; exact R_up2_s _ _ _ _
    · rename_i e; exact R_up2_n _ _ _ _ (.inr e)
  generalize R_sF (R_sF (R_sA s 88 f 1) 7 m) 8 (f + 1) = s3 at *
  have eis : ∀ g, g ≠ f → (R_isF s3 g ↔ R_isF s g) := by
    intro g gf
    unfold R_isF
    rw [e8, e88, if_neg gf]
    omega
  have isf : R_isF s3 f := ⟨by omega, by omega, by rw [e88, if_pos rfl]⟩
  have lie : ∀ g, R_isF s3 g → R_lie s3 (-1) g := by
    intro g hg
    by_cases gf : g = f
    · rw [gf]
      obtain ⟨b0, b1, b2, b3, d⟩ := lf
      refine ⟨by rw [eq 86 (by decide)]; exact b0, by rw [eq 87 (by decide)]; exact b1, by rw [eq 87 (by decide)]; exact b2, by rw [eq 86 (by decide), eq 87 (by decide), ef 3 (by decide) (by decide)]; exact b3, fun k hk _ kf => ?_⟩
      rw [eis k kf] at hk
      rw [eq 86 (by decide), eq 87 (by decide), eq 86 (by decide), eq 87 (by decide)]
      exact d k hk kf kf
    · have hg2 := hg
      rw [eis g gf] at hg2
      obtain ⟨b0, b1, b2, b3, d⟩ := w.fl g hg2 (by have := hg2.1; omega)
      refine ⟨by rw [eq 86 (by decide)]; exact b0, by rw [eq 87 (by decide)]; exact b1, by rw [eq 87 (by decide)]; exact b2, by rw [eq 86 (by decide), eq 87 (by decide), ef 3 (by decide) (by decide)]; exact b3, fun k hk _ kg => ?_⟩
      rw [eq 86 (by decide), eq 87 (by decide), eq 86 (by decide), eq 87 (by decide)]
      by_cases kf : k = f
      · rw [kf]
        have := lf.2.2.2.2 g hg2 gf gf
        omega
      · rw [eis k kf] at hk
        exact d k hk (by have := hk.1; omega) kg
  refine ⟨⟨⟨by omega, by omega, fun g => ?_⟩, by rw [ef 1 (by decide) (by decide)]; exact w.t0, by rw [ef 1 (by decide) (by decide)]; exact w.t1, by rw [ef 3 (by decide) (by decide)]; exact w.p0, by rw [ef 3 (by decide) (by decide)]; exact w.p1, fun g hg _ => lie g hg, fun j => by rw [eq 85 (by decide)]; exact w.by_ j, fun j => by rw [eq 84 (by decide)]; exact w.tb j⟩, isf, fun g gf => ⟨eis g gf, fun _ => ⟨eq 87 (by decide) g, fun i _ _ => by unfold R_by; rw [eq 85 (by decide), eq 86 (by decide)]⟩⟩⟩
  rw [e88]
  split
  · exact .inr rfl
  · exact x3 g
theorem R_fw_gone {s : R_S} {f m : Int} (w : R_fw s f) : R_fw (R_sF (R_sA s 88 f 0) 7 m) (-1) ∧ ¬ R_isF (R_sF (R_sA s 88 f 0) 7 m) f ∧ (∀ g, g ≠ f → R_kept s (R_sF (R_sA s 88 f 0) 7 m) g) := by
  obtain ⟨x1, x2, x3⟩ := w.w1
  have ef : ∀ b, b ≠ 7 → (R_sF (R_sA s 88 f 0) 7 m).1 b = s.1 b := fun b h7 => by rw [R_sF_n _ _ h7]; rfl
  have eq : ∀ q, q ≠ 88 → ∀ j, (R_sF (R_sA s 88 f 0) 7 m).2.1 q j = s.2.1 q j := fun q hq j => R_up2_n _ _ _ _ (.inl hq)
  have e88 : ∀ j, (R_sF (R_sA s 88 f 0) 7 m).2.1 88 j = if j = f then 0 else s.2.1 88 j := by
    intro j
    show R_up2 s.2.1 88 f 0 88 j = _
    split
    · rename_i e; rw [e]; exact R_up2_s _ _ _ _
    · rename_i e; exact R_up2_n _ _ _ _ (.inr e)
  generalize R_sF (R_sA s 88 f 0) 7 m = s3 at *
  have eis : ∀ g, g ≠ f → (R_isF s3 g ↔ R_isF s g) := by
    intro g gf
    unfold R_isF
    rw [ef 8 (by decide), e88, if_neg gf]
  have nf : ¬ R_isF s3 f := fun h => by have := h.2.2; rw [e88, if_pos rfl] at this; omega
  refine ⟨⟨⟨by rw [ef 8 (by decide)]; exact x1, by rw [ef 8 (by decide)]; exact x2, fun g => ?_⟩, by rw [ef 1 (by decide)]; exact w.t0, by rw [ef 1 (by decide)]; exact w.t1, by rw [ef 3 (by decide)]; exact w.p0, by rw [ef 3 (by decide)]; exact w.p1, fun g hg _ => ?_, fun j => by rw [eq 85 (by decide)]; exact w.by_ j, fun j => by rw [eq 84 (by decide)]; exact w.tb j⟩, nf, fun g gf => ⟨eis g gf, fun _ => ⟨eq 87 (by decide) g, fun i _ _ => by unfold R_by; rw [eq 85 (by decide), eq 86 (by decide)]⟩⟩⟩
  · rw [e88]
    split
    · exact .inl rfl
    · exact x3 g
  · have gf : g ≠ f := fun e => nf (by rw [← e]; exact hg)
    rw [eis g gf] at hg
    obtain ⟨b0, b1, b2, b3, d⟩ := w.fl g hg gf
    refine ⟨by rw [eq 86 (by decide)]; exact b0, by rw [eq 87 (by decide)]; exact b1, by rw [eq 87 (by decide)]; exact b2, by rw [eq 86 (by decide), eq 87 (by decide), ef 3 (by decide)]; exact b3, fun k hk _ kg => ?_⟩
    have kf : k ≠ f := fun e => nf (by rw [← e]; exact hk)
    rw [eis k kf] at hk
    rw [eq 86 (by decide), eq 87 (by decide), eq 86 (by decide), eq 87 (by decide)]
    exact d k hk kf kg
/-- no file of the number f counts -/
theorem R_fw_none {s : R_S} {f : Int} (w : R_fw s (-1)) (h : ¬ R_isF s f) : R_fw s f := by
  refine ⟨w.w1, w.t0, w.t1, w.p0, w.p1, fun g hg _ => ?_, w.by_, w.tb⟩
  obtain ⟨b0, b1, b2, b3, d⟩ := w.fl g hg (by have := hg.1; omega)
  exact ⟨b0, b1, b2, b3, fun k hk kf kg => d k hk (by have := hk.1; omega) kg⟩
theorem R_kept.trans {s s2 s3 : R_S} {g : Int} (h : R_kept s s2 g) (k : R_kept s2 s3 g) : R_kept s s3 g := by
  refine ⟨k.1.trans h.1, fun hg => ?_⟩
  obtain ⟨a, b⟩ := h.2 hg
  obtain ⟨c, e⟩ := k.2 (h.1.mpr hg)
  exact ⟨by rw [c, a], fun i i0 i1 => by rw [e i i0 (by rw [a]; exact i1), b i i0 i1]⟩
theorem R_fr.trans {bs qs bs2 qs2 : List Nat} {s s2 s3 : R_S} (h : R_fr bs qs s s2) (k : R_fr bs2 qs2 s2 s3) {bs3 qs3 : List Nat} (hb : ∀ b, b ∈ bs ∨ b ∈ bs2 → b ∈ bs3) (hq : ∀ q, q ∈ qs ∨ q ∈ qs2 → q ∈ qs3) : R_fr bs3 qs3 s s3 := by
  refine ⟨fun b n => ?_, fun q n j => ?_, by rw [k.2.2, h.2.2]⟩
  · rw [k.1 b (fun e => n (hb b (.inr e))), h.1 b (fun e => n (hb b (.inl e)))]
  · rw [k.2.1 q (fun e => n (hq q (.inr e))), h.2.1 q (fun e => n (hq q (.inl e)))]
def R_addP (s : R_S) (x : Option Value) (s3 : R_S) : Prop := x = some (.int (Zi (-1))) ∧ s3 = s ∧ (s.1 7 = 40 ∨ s.1 8 = 200 ∨ 16000 < s.1 3 + s.1 1) ∨ x = some (.int (Zi (s.1 8))) ∧ ¬ (s.1 7 = 40 ∨ s.1 8 = 200 ∨ 16000 < s.1 3 + s.1 1) ∧ R_fw s3 (-1) ∧ R_fr [1, 3, 7, 8] [85, 86, 87, 88] s s3 ∧ s3.1 1 = 0 ∧ s3.1 3 = s.1 3 + s.1 1 ∧ s3.1 7 = s.1 7 + 1 ∧ s3.1 8 = s.1 8 + 1 ∧ R_isF s3 (s.1 8) ∧ s3.2.1 87 (s.1 8) = s.1 1 ∧ (∀ i, 0 ≤ i → i < s.1 1 → R_by s3 (s.1 8) i = s.2.1 84 i) ∧ (∀ g, g ≠ s.1 8 → R_kept s s3 g)
theorem R_add_fin {s u s2 : R_S} (w : R_fw s (-1)) (c : ¬ (s.1 7 = 40 ∨ s.1 8 = 200 ∨ 16000 < s.1 3 + s.1 1)) (ht : R_tk s u (s.1 8) (s.1 1)) (h2 : s2 = R_sF (R_sF u 3 (s.1 3 + s.1 1)) 1 0) : R_addP s (some (.int (Zi (s.1 8)))) (R_sF (R_sF (R_sA s2 88 (s2.1 8) 1) 7 (s2.1 7 + 1)) 8 (s2.1 8 + 1)) := by
  obtain ⟨w0, w1⟩ := w.w1
  have n8 : ¬ R_isF s (s.1 8) := fun h => by have := h.2.1; omega
  obtain ⟨f2, fr, e3, e1, lf, kp, ez, eb⟩ := R_take_fw (R_fw_none w n8) w0 (by omega) ht h2
  have e8 : s2.1 8 = s.1 8 := fr.1 8 (by decide)
  have e7 : s2.1 7 = s.1 7 := fr.1 7 (by decide)
  rw [← e8] at lf ez
  obtain ⟨g1, g2, g3⟩ := R_fw_there (m := s2.1 7 + 1) f2 lf rfl (by omega)
  refine .inr ⟨rfl, c, g1, ⟨fun b hb => ?_, fun q hq j => ?_, fr.2.2⟩, ?_, ?_, ?_, ?_, by rw [← e8]; exact g2, ?_, fun i i0 i1 => ?_, fun g hg => (kp g hg).trans (g3 g (by rw [e8]; exact hg))⟩
  · rw [R_sF_n _ _ (fun e => hb (by rw [e]; decide)), R_sF_n _ _ (fun e => hb (by rw [e]; decide))]
    exact fr.1 b (fun e => hb (by revert e; simp; intro e; rcases e with e | e <;> simp [e]))
  · show R_up2 s2.2.1 88 (s2.1 8) 1 q j = _
    rw [R_up2_n _ _ _ _ (.inl (fun e => hq (by rw [e]; decide)))]
    exact fr.2.1 q (fun e => hq (by revert e; simp; intro e; rcases e with e | e | e <;> simp [e])) j
  · rw [R_sF_n _ _ (by decide), R_sF_n _ _ (by decide)]; exact e1
  · rw [R_sF_n _ _ (by decide), R_sF_n _ _ (by decide)]; exact e3
  · rw [R_sF_n _ _ (by decide), R_sF_s, e7]
  · rw [R_sF_s, e8]
  · show R_up2 s2.2.1 88 (s2.1 8) 1 87 _ = _
    rw [R_up2_n _ _ _ _ (.inl (by decide)), ← e8]; exact ez
  · show R_up2 s2.2.1 88 (s2.1 8) 1 85 (R_up2 s2.2.1 88 (s2.1 8) 1 86 _ + i) = _
    rw [R_up2_n _ _ _ _ (.inl (by decide)), R_up2_n _ _ _ _ (.inl (by decide))]
    exact eb i i0 i1
theorem R_add (d : Nat) (s : R_S)   (w : R_fw s (-1)) (n7 : -1000000 ≤ s.1 7) (m7 : s.1 7 ≤ 40) : R_ok (d + 2) 180 [] s (R_addP s) := by
  refine R_enter (M := E_m180) rfl (Nat.le_of_ble_eq_true rfl) (fun h0 h hs => ?_)
  show B_R (d + 1) _ (0, [(0, .ref 83)], []) _ _ _
  obtain ⟨x1, x2, x3⟩ := id w.w1
  have t0 := w.t0
  have t1 := w.t1
  have p0 := w.p0
  have p1 := w.p1
  refine Z_go (f2 := (1, [(0, .ref 83)], [.ref 83])) (fun _ => rfl) ?_
  refine R_gi rfl hs rfl ?_
  show B_R _ _ (4, [(0, .ref 83)], [.int (Zi (s.1 7))]) _ _ _
  refine Z_go (f2 := (6, [(0, .ref 83)], [.int (Zi 40), .int (Zi (s.1 7))])) (fun _ => rfl) ?_
  refine Z_ceq rfl rfl (by first | exact hs.zF _ | exact Zor_r _ _ | exact hs.zA _ _ | assumption | exact zS _ | exact Zr_not (hs.zA _ _) | exact ⟨by omega, by omega⟩) (by first | exact hs.zF _ | exact Zor_r _ _ | exact hs.zA _ _ | assumption | exact zS _ | exact Zr_not (hs.zA _ _) | exact ⟨by omega, by omega⟩) (fun c1 => ?_) (fun c1 => ?_)
  · refine Z_go (f2 := (35, [(0, .ref 83)], [.int (Zi (-1))])) (fun _ => rfl) ?_
    refine Z_iret rfl rfl (by first | rfl | decide | exact narrow_b01 (by omega)) ⟨_, hs, ?_, rfl⟩
    exact .inl ⟨rfl, rfl, by omega⟩
  · refine Z_go (f2 := (10, [(0, .ref 83)], [.ref 83])) (fun _ => rfl) ?_
    refine R_gi rfl hs rfl ?_
    show B_R _ _ (13, [(0, .ref 83)], [.int (Zi (s.1 8))]) _ _ _
    refine Z_go (f2 := (16, [(0, .ref 83)], [.int (Zi 200), .int (Zi (s.1 8))])) (fun _ => rfl) ?_
    refine Z_ceq rfl rfl (by first | exact hs.zF _ | exact Zor_r _ _ | exact hs.zA _ _ | assumption | exact zS _ | exact Zr_not (hs.zA _ _) | exact ⟨by omega, by omega⟩) (by first | exact hs.zF _ | exact Zor_r _ _ | exact hs.zA _ _ | assumption | exact zS _ | exact Zr_not (hs.zA _ _) | exact ⟨by omega, by omega⟩) (fun c2 => ?_) (fun c2 => ?_)
    · refine Z_go (f2 := (35, [(0, .ref 83)], [.int (Zi (-1))])) (fun _ => rfl) ?_
      refine Z_iret rfl rfl (by first | rfl | decide | exact narrow_b01 (by omega)) ⟨_, hs, ?_, rfl⟩
      exact .inl ⟨rfl, rfl, by omega⟩
    · refine Z_go (f2 := (20, [(0, .ref 83)], [.ref 83])) (fun _ => rfl) ?_
      refine R_gi rfl hs rfl ?_
      show B_R _ _ (23, [(0, .ref 83)], [.int (Zi (s.1 3))]) _ _ _
      refine Z_go (f2 := (24, [(0, .ref 83)], [.ref 83, .int (Zi (s.1 3))])) (fun _ => rfl) ?_
      refine R_gi rfl hs rfl ?_
      show B_R _ _ (27, [(0, .ref 83)], [.int (Zi (s.1 1)), .int (Zi (s.1 3))]) _ _ _
      refine Z_iadd rfl ?_
      refine Z_go (f2 := (31, [(0, .ref 83)], [.int (Zi 16000), .int (Zi (s.1 3 + (s.1 1)))])) (fun _ => rfl) ?_
      refine Z_cle rfl rfl (by first | exact hs.zF _ | exact Zor_r _ _ | exact hs.zA _ _ | assumption | exact zS _ | exact Zr_not (hs.zA _ _) | exact ⟨by omega, by omega⟩) (by first | exact hs.zF _ | exact Zor_r _ _ | exact hs.zA _ _ | assumption | exact zS _ | exact Zr_not (hs.zA _ _) | exact ⟨by omega, by omega⟩) (fun c3 => ?_) (fun c3 => ?_)
      · refine Z_go (f2 := (37, [(0, .ref 83)], [.ref 83])) (fun _ => rfl) ?_
        refine Z_go (f2 := (38, [(0, .ref 83)], [.ref 83, .ref 83])) (fun _ => rfl) ?_
        refine R_gi rfl hs rfl ?_
        show B_R _ _ (41, [(0, .ref 83)], [.int (Zi (s.1 8)), .ref 83]) _ _ _
        refine R_call (As := [.int (Zi (s.1 8))]) (rest := []) rfl (by decide) rfl rfl rfl rfl (by decide +kernel) (Nat.le_of_ble_eq_true rfl) hs (R_takes _ _ (by first | assumption | exact hs.zF _ | exact hs.zA _ _ | exact ⟨by omega, by omega⟩ | omega) (by first | assumption | exact hs.zF _ | exact hs.zA _ _ | exact ⟨by omega, by omega⟩ | omega) (by first | assumption | exact hs.zF _ | exact hs.zA _ _ | exact ⟨by omega, by omega⟩ | omega) (by first | assumption | exact hs.zF _ | exact hs.zA _ _ | exact ⟨by omega, by omega⟩ | omega) (by first | assumption | exact hs.zF _ | exact hs.zA _ _ | exact ⟨by omega, by omega⟩ | omega) (by first | assumption | exact hs.zF _ | exact hs.zA _ _ | exact ⟨by omega, by omega⟩ | omega) (by first | assumption | exact hs.zF _ | exact hs.zA _ _ | exact ⟨by omega, by omega⟩ | omega)) (fun x h s2 hs q => ?_)
        obtain ⟨rfl, u, q1, q2⟩ := q
        have T8 : s2.1 8 = s.1 8 := by rw [q2, R_sF_n _ _ (by decide), R_sF_n _ _ (by decide), q1.1]
        have T7 : s2.1 7 = s.1 7 := by rw [q2, R_sF_n _ _ (by decide), R_sF_n _ _ (by decide), q1.1]
        show B_R _ _ (44, [(0, .ref 83)], []) _ _ _
        refine Z_go (f2 := (45, [(0, .ref 83)], [.ref 83])) (fun _ => rfl) ?_
        refine R_gr (q := 86) rfl hs rfl ?_
        show B_R _ _ (48, [(0, .ref 83)], [.ref 88]) _ _ _
        refine Z_go (f2 := (49, [(0, .ref 83)], [.ref 83, .ref 88])) (fun _ => rfl) ?_
        refine R_gi rfl hs rfl ?_
        show B_R _ _ (52, [(0, .ref 83)], [.int (Zi (s2.1 8)), .ref 88]) _ _ _
        refine Z_go (f2 := (53, [(0, .ref 83)], [.int (Zi 1), .int (Zi (s2.1 8)), .ref 88])) (fun _ => rfl) ?_
        refine R_bs (q := 4) rfl hs rfl rfl (by omega) (by omega) (by decide) (by first | exact .inl rfl | exact .inr rfl | assumption) (fun h hs => ?_)
        refine Z_go (f2 := (55, [(0, .ref 83)], [.ref 83])) (fun _ => rfl) ?_
        refine Z_go (f2 := (56, [(0, .ref 83)], [.ref 83, .ref 83])) (fun _ => rfl) ?_
        refine R_gi rfl hs rfl ?_
        show B_R _ _ (59, [(0, .ref 83)], [.int (Zi (s2.1 7)), .ref 83]) _ _ _
        refine Z_go (f2 := (60, [(0, .ref 83)], [.int (Zi 1), .int (Zi (s2.1 7)), .ref 83])) (fun _ => rfl) ?_
        refine Z_iadd rfl ?_
        refine R_pf rfl hs rfl (by first | exact hs.zF _ | exact Zor_r _ _ | exact hs.zA _ _ | assumption | exact zS _ | exact Zr_not (hs.zA _ _) | exact ⟨by omega, by omega⟩) ⟨rfl, rfl, rfl⟩ (fun h hs => ?_)
        refine Z_go (f2 := (65, [(0, .ref 83)], [.ref 83])) (fun _ => rfl) ?_
        refine Z_go (f2 := (66, [(0, .ref 83)], [.ref 83, .ref 83])) (fun _ => rfl) ?_
        refine R_gi rfl hs rfl ?_
        show B_R _ _ (69, [(0, .ref 83)], [.int (Zi (s2.1 8)), .ref 83]) _ _ _
        refine Z_go (f2 := (70, [(0, .ref 83)], [.int (Zi 1), .int (Zi (s2.1 8)), .ref 83])) (fun _ => rfl) ?_
        refine Z_iadd rfl ?_
        refine R_pf rfl hs rfl (by first | exact hs.zF _ | exact Zor_r _ _ | exact hs.zA _ _ | assumption | exact zS _ | exact Zr_not (hs.zA _ _) | exact ⟨by omega, by omega⟩) ⟨rfl, rfl, rfl⟩ (fun h hs => ?_)
        refine Z_go (f2 := (75, [(0, .ref 83)], [.ref 83])) (fun _ => rfl) ?_
        refine R_gi rfl hs rfl ?_
        show B_R _ _ (78, [(0, .ref 83)], [.int (Zi (s2.1 8 + 1))]) _ _ _
        refine Z_go (f2 := (79, [(0, .ref 83)], [.int (Zi 1), .int (Zi (s2.1 8 + 1))])) (fun _ => rfl) ?_
        refine Z_isub rfl ?_
        refine Z_iret rfl rfl (by first | rfl | decide | exact narrow_b01 (by omega)) ⟨_, hs, ?_, rfl⟩
        rw [show s2.1 8 + 1 - 1 = s.1 8 by omega]
        exact R_add_fin w (by omega) q1 q2
      · refine Z_go (f2 := (35, [(0, .ref 83)], [.int (Zi (-1))])) (fun _ => rfl) ?_
        refine Z_iret rfl rfl (by first | rfl | decide | exact narrow_b01 (by omega)) ⟨_, hs, ?_, rfl⟩
        exact .inl ⟨rfl, rfl, by omega⟩
def R_chgP (s : R_S) (f : Int) (x : Option Value) (s3 : R_S) : Prop := x = some (.int (Zi (-1))) ∧ s3 = s ∧ (¬ R_isF s f ∨ 16000 < s.1 3 - s.2.1 87 f + s.1 1) ∨ x = some (.int (Zi (s.1 1))) ∧ R_isF s f ∧ s.1 3 - s.2.1 87 f + s.1 1 ≤ 16000 ∧ R_fw s3 (-1) ∧ R_fr [1, 3] [85, 86, 87] s s3 ∧ s3.1 1 = 0 ∧ s3.1 3 = s.1 3 - s.2.1 87 f + s.1 1 ∧ R_isF s3 f ∧ s3.2.1 87 f = s.1 1 ∧ (∀ i, 0 ≤ i → i < s.1 1 → R_by s3 f i = s.2.1 84 i) ∧ (∀ g, g ≠ f → R_kept s s3 g)
theorem R_chg_fin {s s2 u s3 : R_S} {f : Int} (w : R_fw s (-1)) (hf : R_isF s f) (c : s.1 3 - s.2.1 87 f + s.1 1 ≤ 16000) (L1 : R_fw s2 f) (L2 : R_fr [3] [85, 86] s s2) (L3 : s2.1 3 = s.1 3 - s.2.1 87 f) (L4 : ∀ g, g ≠ f → R_kept s s2 g) (ht : R_tk s2 u f (s2.1 1)) (h2 : s3 = R_sF (R_sF u 3 (s2.1 3 + s2.1 1)) 1 0) : R_chgP s f (some (.int (Zi (s3.2.1 87 f)))) s3 := by
  have y1 : s2.1 1 = s.1 1 := L2.1 1 (by decide)
  obtain ⟨f2, fr, e3, e1, lf, kp, ez, eb⟩ := R_take_fw L1 hf.1 (by omega) ht h2
  rw [ez, y1]
  refine .inr ⟨rfl, hf, c, f2, L2.trans fr (by simp <;> omega) (by simp <;> omega), e1, by omega, ?_, by rw [ez, y1], fun i i0 i1 => ?_, fun g hg => (L4 g hg).trans (kp g hg)⟩
  · have e8 : s3.1 8 = s.1 8 := by rw [fr.1 8 (by decide), L2.1 8 (by decide)]
    have e88 : s3.2.1 88 f = s.2.1 88 f := by rw [fr.2.1 88 (by decide), L2.2.1 88 (by decide)]
    exact ⟨hf.1, by rw [e8]; exact hf.2.1, by rw [e88]; exact hf.2.2⟩
  · rw [eb i i0 (by omega), L2.2.1 84 (by decide)]
theorem R_change (d : Nat) (s : R_S) {f : Int}  (zf : Zr f) (w : R_fw s (-1)) : R_ok (d + 2) 181 [.int (Zi f)] s (R_chgP s f) := by
  refine R_enter (M := E_m181) rfl (Nat.le_of_ble_eq_true rfl) (fun h0 h hs => ?_)
  show B_R (d + 1) _ (0, [(0, .ref 83), (1, .int (Zi f))], []) _ _ _
  obtain ⟨x1, x2, x3⟩ := id w.w1
  have t0 := w.t0
  have t1 := w.t1
  have p0 := w.p0
  have p1 := w.p1
  refine Z_go (f2 := (1, [(0, .ref 83), (1, .int (Zi f))], [.ref 83])) (fun _ => rfl) ?_
  refine Z_go (f2 := (2, [(0, .ref 83), (1, .int (Zi f))], [.int (Zi f), .ref 83])) (fun _ => rfl) ?_
  refine R_call (As := [.int (Zi f)]) (rest := []) rfl (by decide) rfl rfl rfl rfl (by decide +kernel) (Nat.le_of_ble_eq_true rfl) hs (R_isFile _ s (by first | assumption) w.w1) (fun x h s2 hs q => ?_)
  obtain ⟨q0, v, rfl, hv⟩ := q
  rw [q0] at hs
  unfold R_isF at hv
  have lie : R_isF s f → R_lie s (-1) f := fun h => w.fl f h (by have := h.1; omega)
  unfold R_lie R_isF at lie
  have l0 : R_isF s f → 0 ≤ s.2.1 86 f ∧ 0 ≤ s.2.1 87 f ∧ s.2.1 87 f ≤ 1000 ∧ s.2.1 86 f + s.2.1 87 f ≤ s.1 3 := fun h => ⟨(lie h).1, (lie h).2.1, (lie h).2.2.1, (lie h).2.2.2.1⟩
  unfold R_isF at l0
  show B_R _ _ (5, [(0, .ref 83), (1, .int (Zi f))], [.int (Zi v)]) _ _ _
  refine Z_ieq rfl rfl (by first | exact hs.zF _ | exact Zor_r _ _ | exact hs.zA _ _ | assumption | exact zS _ | exact Zr_not (hs.zA _ _) | exact ⟨by omega, by omega⟩) (fun c1 => ?_) (fun c1 => ?_)
  · refine Z_go (f2 := (31, [(0, .ref 83), (1, .int (Zi f))], [.int (Zi (-1))])) (fun _ => rfl) ?_
    refine Z_iret rfl rfl (by first | rfl | decide | exact narrow_b01 (by omega)) ⟨_, hs, ?_, rfl⟩
    exact .inl ⟨rfl, rfl, .inl (by unfold R_isF; omega)⟩
  · refine Z_go (f2 := (9, [(0, .ref 83), (1, .int (Zi f))], [.ref 83])) (fun _ => rfl) ?_
    refine R_gi rfl hs rfl ?_
    show B_R _ _ (12, [(0, .ref 83), (1, .int (Zi f))], [.int (Zi (s.1 3))]) _ _ _
    refine Z_go (f2 := (13, [(0, .ref 83), (1, .int (Zi f))], [.ref 83, .int (Zi (s.1 3))])) (fun _ => rfl) ?_
    refine R_gr (q := 85) rfl hs rfl ?_
    show B_R _ _ (16, [(0, .ref 83), (1, .int (Zi f))], [.ref 87, .int (Zi (s.1 3))]) _ _ _
    refine Z_go (f2 := (17, [(0, .ref 83), (1, .int (Zi f))], [.int (Zi f), .ref 87, .int (Zi (s.1 3))])) (fun _ => rfl) ?_
    refine R_ia (q := 3) rfl hs rfl rfl (by omega) (by omega) (by decide) ?_
    refine Z_isub rfl ?_
    refine Z_go (f2 := (20, [(0, .ref 83), (1, .int (Zi f))], [.ref 83, .int (Zi (s.1 3 - (s.2.1 87 f)))])) (fun _ => rfl) ?_
    refine R_gi rfl hs rfl ?_
    show B_R _ _ (23, [(0, .ref 83), (1, .int (Zi f))], [.int (Zi (s.1 1)), .int (Zi (s.1 3 - (s.2.1 87 f)))]) _ _ _
    refine Z_iadd rfl ?_
    refine Z_go (f2 := (27, [(0, .ref 83), (1, .int (Zi f))], [.int (Zi 16000), .int (Zi (s.1 3 - (s.2.1 87 f) + (s.1 1)))])) (fun _ => rfl) ?_
    refine Z_cle rfl rfl (by first | exact hs.zF _ | exact Zor_r _ _ | exact hs.zA _ _ | assumption | exact zS _ | exact Zr_not (hs.zA _ _) | exact ⟨by omega, by omega⟩) (by first | exact hs.zF _ | exact Zor_r _ _ | exact hs.zA _ _ | assumption | exact zS _ | exact Zr_not (hs.zA _ _) | exact ⟨by omega, by omega⟩) (fun c2 => ?_) (fun c2 => ?_)
    · refine Z_go (f2 := (33, [(0, .ref 83), (1, .int (Zi f))], [.ref 83])) (fun _ => rfl) ?_
      refine Z_go (f2 := (34, [(0, .ref 83), (1, .int (Zi f))], [.int (Zi f), .ref 83])) (fun _ => rfl) ?_
      refine R_call (As := [.int (Zi f)]) (rest := []) rfl (by decide) rfl rfl rfl rfl (by decide +kernel) (Nat.le_of_ble_eq_true rfl) hs (R_leaves _ _ (by first | assumption | exact hs.zF _ | exact hs.zA _ _ | exact ⟨by omega, by omega⟩ | omega) (by first | assumption | exact hs.zF _ | exact hs.zA _ _ | exact ⟨by omega, by omega⟩ | omega) (by first | assumption | exact hs.zF _ | exact hs.zA _ _ | exact ⟨by omega, by omega⟩ | omega) (by first | assumption | exact hs.zF _ | exact hs.zA _ _ | exact ⟨by omega, by omega⟩ | omega) (by first | assumption | exact hs.zF _ | exact hs.zA _ _ | exact ⟨by omega, by omega⟩ | omega) (by first | assumption | exact hs.zF _ | exact hs.zA _ _ | exact ⟨by omega, by omega⟩ | omega) (by first | assumption | exact hs.zF _ | exact hs.zA _ _ | exact ⟨by omega, by omega⟩ | omega) (by first | assumption | exact hs.zF _ | exact hs.zA _ _ | exact ⟨by omega, by omega⟩ | omega) (by first | assumption | exact hs.zF _ | exact hs.zA _ _ | exact ⟨by omega, by omega⟩ | omega) (by first | assumption | exact hs.zF _ | exact hs.zA _ _ | exact ⟨by omega, by omega⟩ | omega)) (fun x h s2 hs q => ?_)
      obtain ⟨rfl, u, k, q1, q2, q3, q4, q5⟩ := q
      obtain ⟨L1, L2, L3, L4⟩ := R_leave_fw w (by unfold R_isF; omega) q1 q2 q3 q4 q5
      have y1 : s2.1 1 = s.1 1 := L2.1 1 (by decide)
      have y8 : s2.1 8 = s.1 8 := L2.1 8 (by decide)
      have y7 : s2.1 7 = s.1 7 := L2.1 7 (by decide)
      have y84 := L2.2.1 84 (by decide)
      skip
      show B_R _ _ (37, [(0, .ref 83), (1, .int (Zi f))], []) _ _ _
      refine Z_go (f2 := (38, [(0, .ref 83), (1, .int (Zi f))], [.ref 83])) (fun _ => rfl) ?_
      refine Z_go (f2 := (39, [(0, .ref 83), (1, .int (Zi f))], [.int (Zi f), .ref 83])) (fun _ => rfl) ?_
      refine R_call (As := [.int (Zi f)]) (rest := []) rfl (by decide) rfl rfl rfl rfl (by decide +kernel) (Nat.le_of_ble_eq_true rfl) hs (R_takes _ _ (by first | assumption | exact hs.zF _ | exact hs.zA _ _ | exact ⟨by omega, by omega⟩ | omega) (by first | assumption | exact hs.zF _ | exact hs.zA _ _ | exact ⟨by omega, by omega⟩ | omega) (by first | assumption | exact hs.zF _ | exact hs.zA _ _ | exact ⟨by omega, by omega⟩ | omega) (by first | assumption | exact hs.zF _ | exact hs.zA _ _ | exact ⟨by omega, by omega⟩ | omega) (by first | assumption | exact hs.zF _ | exact hs.zA _ _ | exact ⟨by omega, by omega⟩ | omega) (by first | assumption | exact hs.zF _ | exact hs.zA _ _ | exact ⟨by omega, by omega⟩ | omega) (by first | assumption | exact hs.zF _ | exact hs.zA _ _ | exact ⟨by omega, by omega⟩ | omega)) (fun x h s3 hs q => ?_)
      obtain ⟨rfl, u3, r1, r2⟩ := q
      show B_R _ _ (42, [(0, .ref 83), (1, .int (Zi f))], []) _ _ _
      refine Z_go (f2 := (43, [(0, .ref 83), (1, .int (Zi f))], [.ref 83])) (fun _ => rfl) ?_
      refine R_gr (q := 85) rfl hs rfl ?_
      show B_R _ _ (46, [(0, .ref 83), (1, .int (Zi f))], [.ref 87]) _ _ _
      refine Z_go (f2 := (47, [(0, .ref 83), (1, .int (Zi f))], [.int (Zi f), .ref 87])) (fun _ => rfl) ?_
      refine R_ia (q := 3) rfl hs rfl rfl (by omega) (by omega) (by decide) ?_
      refine Z_iret rfl rfl (by first | rfl | decide | exact narrow_b01 (by omega)) ⟨_, hs, ?_, rfl⟩
      exact R_chg_fin w (by unfold R_isF; omega) (by omega) L1 L2 L3 L4 r1 r2
    · refine Z_go (f2 := (31, [(0, .ref 83), (1, .int (Zi f))], [.int (Zi (-1))])) (fun _ => rfl) ?_
      refine Z_iret rfl rfl (by first | rfl | decide | exact narrow_b01 (by omega)) ⟨_, hs, ?_, rfl⟩
      exact .inl ⟨rfl, rfl, .inr (by omega)⟩
def R_remP (s : R_S) (f : Int) (x : Option Value) (s3 : R_S) : Prop := x = some (.int (Zi 0)) ∧ s3 = s ∧ ¬ R_isF s f ∨ x = some (.int (Zi 1)) ∧ R_isF s f ∧ R_fw s3 (-1) ∧ R_fr [3, 7] [85, 86, 88] s s3 ∧ s3.1 3 = s.1 3 - s.2.1 87 f ∧ s3.1 7 = s.1 7 - 1 ∧ ¬ R_isF s3 f ∧ (∀ g, g ≠ f → R_kept s s3 g)
theorem R_rem_fin {s s2 : R_S} {f : Int} (hf : R_isF s f) (L1 : R_fw s2 f) (L2 : R_fr [3] [85, 86] s s2) (L3 : s2.1 3 = s.1 3 - s.2.1 87 f) (L4 : ∀ g, g ≠ f → R_kept s s2 g) : R_remP s f (some (.int (Zi 1))) (R_sF (R_sA s2 88 f 0) 7 (s2.1 7 - 1)) := by
  obtain ⟨g1, g2, g3⟩ := R_fw_gone (m := s2.1 7 - 1) L1
  refine .inr ⟨rfl, hf, g1, ⟨fun b hb => ?_, fun q hq j => ?_, L2.2.2⟩, ?_, ?_, g2, fun g hg => (L4 g hg).trans (g3 g hg)⟩
  · rw [R_sF_n _ _ (fun e => hb (by rw [e]; decide))]
    exact L2.1 b (fun e => hb (by revert e; simp; intro e; simp [e]))
  · show R_up2 s2.2.1 88 f 0 q j = _
    rw [R_up2_n _ _ _ _ (.inl (fun e => hq (by rw [e]; decide)))]
    exact L2.2.1 q (fun e => hq (by revert e; simp; intro e; rcases e with e | e <;> simp [e])) j
  · rw [R_sF_n _ _ (by decide)]; exact L3
  · rw [R_sF_s, L2.1 7 (by decide)]
theorem R_remove (d : Nat) (s : R_S) {f : Int}  (zf : Zr f) (w : R_fw s (-1)) (n7 : -1000000 ≤ s.1 7) (m7 : s.1 7 ≤ 40) : R_ok (d + 2) 182 [.int (Zi f)] s (R_remP s f) := by
  refine R_enter (M := E_m182) rfl (Nat.le_of_ble_eq_true rfl) (fun h0 h hs => ?_)
  show B_R (d + 1) _ (0, [(0, .ref 83), (1, .int (Zi f))], []) _ _ _
  obtain ⟨x1, x2, x3⟩ := id w.w1
  have t0 := w.t0
  have t1 := w.t1
  have p0 := w.p0
  have p1 := w.p1
  refine Z_go (f2 := (1, [(0, .ref 83), (1, .int (Zi f))], [.ref 83])) (fun _ => rfl) ?_
  refine Z_go (f2 := (2, [(0, .ref 83), (1, .int (Zi f))], [.int (Zi f), .ref 83])) (fun _ => rfl) ?_
  refine R_call (As := [.int (Zi f)]) (rest := []) rfl (by decide) rfl rfl rfl rfl (by decide +kernel) (Nat.le_of_ble_eq_true rfl) hs (R_isFile _ s (by first | assumption) w.w1) (fun x h s2 hs q => ?_)
  obtain ⟨q0, v, rfl, hv⟩ := q
  rw [q0] at hs
  unfold R_isF at hv
  have lie : R_isF s f → R_lie s (-1) f := fun h => w.fl f h (by have := h.1; omega)
  unfold R_lie R_isF at lie
  have l0 : R_isF s f → 0 ≤ s.2.1 86 f ∧ 0 ≤ s.2.1 87 f ∧ s.2.1 87 f ≤ 1000 ∧ s.2.1 86 f + s.2.1 87 f ≤ s.1 3 := fun h => ⟨(lie h).1, (lie h).2.1, (lie h).2.2.1, (lie h).2.2.2.1⟩
  unfold R_isF at l0
  show B_R _ _ (5, [(0, .ref 83), (1, .int (Zi f))], [.int (Zi v)]) _ _ _
  refine Z_ine rfl rfl (by first | exact hs.zF _ | exact Zor_r _ _ | exact hs.zA _ _ | assumption | exact zS _ | exact Zr_not (hs.zA _ _) | exact ⟨by omega, by omega⟩) (fun c1 => ?_) (fun c1 => ?_)
  · refine Z_go (f2 := (11, [(0, .ref 83), (1, .int (Zi f))], [.ref 83])) (fun _ => rfl) ?_
    refine Z_go (f2 := (12, [(0, .ref 83), (1, .int (Zi f))], [.int (Zi f), .ref 83])) (fun _ => rfl) ?_
    refine R_call (As := [.int (Zi f)]) (rest := []) rfl (by decide) rfl rfl rfl rfl (by decide +kernel) (Nat.le_of_ble_eq_true rfl) hs (R_leaves _ _ (by first | assumption | exact hs.zF _ | exact hs.zA _ _ | exact ⟨by omega, by omega⟩ | omega) (by first | assumption | exact hs.zF _ | exact hs.zA _ _ | exact ⟨by omega, by omega⟩ | omega) (by first | assumption | exact hs.zF _ | exact hs.zA _ _ | exact ⟨by omega, by omega⟩ | omega) (by first | assumption | exact hs.zF _ | exact hs.zA _ _ | exact ⟨by omega, by omega⟩ | omega) (by first | assumption | exact hs.zF _ | exact hs.zA _ _ | exact ⟨by omega, by omega⟩ | omega) (by first | assumption | exact hs.zF _ | exact hs.zA _ _ | exact ⟨by omega, by omega⟩ | omega) (by first | assumption | exact hs.zF _ | exact hs.zA _ _ | exact ⟨by omega, by omega⟩ | omega) (by first | assumption | exact hs.zF _ | exact hs.zA _ _ | exact ⟨by omega, by omega⟩ | omega) (by first | assumption | exact hs.zF _ | exact hs.zA _ _ | exact ⟨by omega, by omega⟩ | omega) (by first | assumption | exact hs.zF _ | exact hs.zA _ _ | exact ⟨by omega, by omega⟩ | omega)) (fun x h s2 hs q => ?_)
    obtain ⟨rfl, u, k, q1, q2, q3, q4, q5⟩ := q
    obtain ⟨L1, L2, L3, L4⟩ := R_leave_fw w (by unfold R_isF; omega) q1 q2 q3 q4 q5
    have y1 : s2.1 1 = s.1 1 := L2.1 1 (by decide)
    have y8 : s2.1 8 = s.1 8 := L2.1 8 (by decide)
    have y7 : s2.1 7 = s.1 7 := L2.1 7 (by decide)
    have y84 := L2.2.1 84 (by decide)
    skip
    show B_R _ _ (15, [(0, .ref 83), (1, .int (Zi f))], []) _ _ _
    refine Z_go (f2 := (16, [(0, .ref 83), (1, .int (Zi f))], [.ref 83])) (fun _ => rfl) ?_
    refine R_gr (q := 86) rfl hs rfl ?_
    show B_R _ _ (19, [(0, .ref 83), (1, .int (Zi f))], [.ref 88]) _ _ _
    refine Z_go (f2 := (20, [(0, .ref 83), (1, .int (Zi f))], [.int (Zi f), .ref 88])) (fun _ => rfl) ?_
    refine Z_go (f2 := (21, [(0, .ref 83), (1, .int (Zi f))], [.int (Zi 0), .int (Zi f), .ref 88])) (fun _ => rfl) ?_
    refine R_bs (q := 4) rfl hs rfl rfl (by omega) (by omega) (by decide) (by first | exact .inl rfl | exact .inr rfl | assumption) (fun h hs => ?_)
    refine Z_go (f2 := (23, [(0, .ref 83), (1, .int (Zi f))], [.ref 83])) (fun _ => rfl) ?_
    refine Z_go (f2 := (24, [(0, .ref 83), (1, .int (Zi f))], [.ref 83, .ref 83])) (fun _ => rfl) ?_
    refine R_gi rfl hs rfl ?_
    show B_R _ _ (27, [(0, .ref 83), (1, .int (Zi f))], [.int (Zi (s2.1 7)), .ref 83]) _ _ _
    refine Z_go (f2 := (28, [(0, .ref 83), (1, .int (Zi f))], [.int (Zi 1), .int (Zi (s2.1 7)), .ref 83])) (fun _ => rfl) ?_
    refine Z_isub rfl ?_
    refine R_pf rfl hs rfl (by first | exact hs.zF _ | exact Zor_r _ _ | exact hs.zA _ _ | assumption | exact zS _ | exact Zr_not (hs.zA _ _) | exact ⟨by omega, by omega⟩) ⟨rfl, rfl, rfl⟩ (fun h hs => ?_)
    refine Z_go (f2 := (33, [(0, .ref 83), (1, .int (Zi f))], [.int (Zi 1)])) (fun _ => rfl) ?_
    refine Z_iret rfl rfl (by first | rfl | decide | exact narrow_b01 (by omega)) ⟨_, hs, ?_, rfl⟩
    exact R_rem_fin (by unfold R_isF; omega) L1 L2 L3 L4
  · refine Z_go (f2 := (9, [(0, .ref 83), (1, .int (Zi f))], [.int (Zi 0)])) (fun _ => rfl) ?_
    refine Z_iret rfl rfl (by first | rfl | decide | exact narrow_b01 (by omega)) ⟨_, hs, ?_, rfl⟩
    exact .inl ⟨rfl, rfl, by unfold R_isF; omega⟩
