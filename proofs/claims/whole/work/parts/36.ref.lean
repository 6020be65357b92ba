/-! the reference's cells (places 83 .. 131) as a state of whole numbers: fields, arrays by place, long fields, long arrays -/
abbrev R_S : Type := (Nat → Int) × (Nat → Int → Int) × (Nat → Int64) × (Nat → Int → Int64)
/-- the reference's fields: 0 an int, 1 a long, else the place of an array -/
def R_ft : List Nat := [84, 0, 85, 0, 86, 87, 88, 0, 0, 89, 90, 91, 92, 0, 93, 0, 0, 0, 0, 0, 0, 0, 0, 94, 95, 1, 96, 97, 98, 99, 100, 101, 102, 103, 104, 105, 106, 0, 107, 108, 109, 0, 110, 0, 111, 112, 113, 114, 0, 115, 116, 117, 118, 119, 120, 121, 0, 122, 123, 0, 124, 125, 126, 0, 127, 128, 129, 130, 0, 131, 0, 0, 0, 1]
/-- the reference's arrays, from place 84 on: type, length -/
def R_at : List (Nat × Nat) := [(0, 1000), (0, 17000), (0, 200), (0, 200), (2, 200), (0, 16000), (0, 400), (0, 400), (0, 400), (0, 720), (2, 12), (3, 60), (2, 44), (0, 44), (0, 352), (0, 21120), (0, 44), (0, 528), (0, 44), (0, 528), (0, 44), (0, 1056), (0, 675840), (0, 580), (0, 371200), (2, 580), (0, 160), (0, 160), (0, 9600), (0, 3000), (0, 3000), (0, 60), (0, 6000), (2, 400), (0, 60), (3, 4160), (3, 1440), (3, 80), (0, 24), (0, 15360), (0, 3), (0, 36), (0, 2160), (0, 40), (0, 40), (0, 40), (0, 40), (0, 40)]
def R_fv (s : R_S) (b : Nat) : Value := match R_ft[b]? with
  | some 0 => .int (Zi (s.1 b))
  | some 1 => .long (s.2.2.1 b)
  | some k => .ref k
  | none => .null
def R_o (s : R_S) : E_O := .inr (12, (List.range 74).map (R_fv s))
def R_a (s : R_S) (k : Nat) : E_O := match R_at[k]? with
  | some (3, n) => .inl (3, n, .inr (.inl (fun i => s.2.2.2 (k + 84) (i : Int))))
  | some (t, n) => .inl (t, n, .inl (fun i => Zi (s.2.1 (k + 84) (i : Int))))
  | none => .inr (0, [])
def R_w (s : R_S) : Prop := (∀ b, Zr (s.1 b)) ∧ (∀ k i, Zr (s.2.1 k i))
def R_is (h0 h : E_H) (s : R_S) : Prop := R_w s ∧ h.length = h0.length ∧ 132 ≤ h.length ∧ h[83]? = some (R_o s) ∧ (∀ k, k < 48 → h[k + 84]? = some (R_a s k)) ∧ (∀ x, x < 83 ∨ 132 ≤ x → h[x]? = h0[x]?)
def R_up (f : Nat → Int) (b : Nat) (z : Int) : Nat → Int := fun j => if j = b then z else f j
def R_up2 (f : Nat → Int → Int) (k : Nat) (i z : Int) : Nat → Int → Int := fun q j => if q = k ∧ j = i then z else f q j
def R_upL (f : Nat → Int64) (b : Nat) (z : Int64) : Nat → Int64 := fun j => if j = b then z else f j
def R_upL2 (f : Nat → Int → Int64) (k : Nat) (i : Int) (z : Int64) : Nat → Int → Int64 := fun q j => if q = k ∧ j = i then z else f q j
def R_sF (s : R_S) (b : Nat) (z : Int) : R_S := (R_up s.1 b z, s.2)
def R_sA (s : R_S) (k : Nat) (i z : Int) : R_S := (s.1, R_up2 s.2.1 k i z, s.2.2)
def R_sL (s : R_S) (b : Nat) (z : Int64) : R_S := (s.1, s.2.1, R_upL s.2.2.1 b z, s.2.2.2)
def R_sM (s : R_S) (k : Nat) (i : Int) (z : Int64) : R_S := (s.1, s.2.1, s.2.2.1, R_upL2 s.2.2.2 k i z)
theorem R_is.o {h0 h : E_H} {s : R_S} (hs : R_is h0 h s) : h[83]? = some (.inr (12, (List.range 74).map (R_fv s))) := hs.2.2.2.1
theorem R_is.a {h0 h : E_H} {s : R_S} (hs : R_is h0 h s) {k : Nat} (hk : k < 48) : h[k + 84]? = some (R_a s k) := hs.2.2.2.2.1 k hk
theorem R_is.zF {h0 h : E_H} {s : R_S} (hs : R_is h0 h s) (b : Nat) : Zr (s.1 b) := hs.1.1 b
theorem R_is.zA {h0 h : E_H} {s : R_S} (hs : R_is h0 h s) (k : Nat) (i : Int) : Zr (s.2.1 k i) := hs.1.2 k i
theorem R_fv_set (s : R_S) {b : Nat} {z : Int} (hb : R_ft[b]? = some 0) : ((List.range 74).map (R_fv s)).set b (.int (Zi z)) = (List.range 74).map (R_fv (R_sF s b z)) := by
  apply List.ext_getElem?
  intro j
  rw [List.getElem?_set]
  simp only [List.getElem?_map, List.length_map, List.length_range]
  by_cases hj : b = j
  · subst hj
    have hl : b < 74 := (List.getElem?_eq_some_iff.mp hb).1
    rw [if_pos rfl, if_pos hl, List.getElem?_range hl]
    show _ = some (R_fv (R_sF s b z) b)
    unfold R_fv
    rw [hb]
    show _ = some (Value.int (Zi (R_up s.1 b z b)))
    rw [show R_up s.1 b z b = z by unfold R_up; rw [if_pos rfl]]
  · rw [if_neg hj]
    by_cases hl : j < 74
    · rw [List.getElem?_range hl]
      show some (R_fv s j) = some (R_fv (R_sF s b z) j)
      unfold R_fv
      rw [show (R_sF s b z).1 j = s.1 j by show R_up s.1 b z j = _; unfold R_up; rw [if_neg (fun e => hj e.symm)]]
      rfl
    · rw [List.getElem?_eq_none (by rw [List.length_range]; omega)]
      rfl
theorem R_a_ne {s : R_S} {k q : Nat} {i z : Int} (h : q + 84 ≠ k) : R_a (R_sA s k i z) q = R_a s q := by
  have e : (R_sA s k i z).2.1 (q + 84) = s.2.1 (q + 84) := by
    funext j
    show R_up2 s.2.1 k i z (q + 84) j = _
    unfold R_up2
    rw [if_neg (fun e => h e.1)]
  unfold R_a
  rw [e]
  rfl
theorem R_a_neM {s : R_S} {k q : Nat} {i : Int} {z : Int64} (h : q + 84 ≠ k) : R_a (R_sM s k i z) q = R_a s q := by
  have e : (R_sM s k i z).2.2.2 (q + 84) = s.2.2.2 (q + 84) := by
    funext j
    show R_upL2 s.2.2.2 k i z (q + 84) j = _
    unfold R_upL2
    rw [if_neg (fun e => h e.1)]
  unfold R_a
  rw [e]
  rfl
/-- a field of the reference is written -/
theorem R_is.putF {h0 h : E_H} {s : R_S} (hs : R_is h0 h s) {b : Nat} {z : Int} (hb : R_ft[b]? = some 0) (hz : Zr z) : R_is h0 (h.set 83 (.inr (12, ((List.range 74).map (R_fv s)).set b (.int (Zi z))))) (R_sF s b z) := by
  obtain ⟨w, l1, l2, o, a, x⟩ := hs
  refine ⟨⟨fun c => ?_, w.2⟩, by rw [List.length_set]; exact l1, by rw [List.length_set]; exact l2, ?_, fun k hk => ?_, fun y hy => ?_⟩
  · show Zr (R_up s.1 b z c)
    unfold R_up
    split
    · exact hz
    · exact w.1 c
  · rw [List.getElem?_set, if_pos rfl, if_pos (by omega), R_fv_set s hb]
    rfl
  · rw [List.getElem?_set, if_neg (by omega)]
    exact a k hk
  · rw [List.getElem?_set, if_neg (by omega)]
    exact x y hy
theorem R_is.putA {h0 h : E_H} {s : R_S} (hs : R_is h0 h s) {k t n : Nat} {j : Nat} {z : Int} (hk : R_at[k]? = some (t, n)) (ht : t ≠ 3) (hz : Zr z) : R_is h0 (h.set (k + 84) (.inl (t, n, .inl (upd (fun i => Zi (s.2.1 (k + 84) (i : Int))) j (Zi z))))) (R_sA s (k + 84) j z) := by
  obtain ⟨w, l1, l2, o, a, x⟩ := hs
  have hk48 : k < 48 := (List.getElem?_eq_some_iff.mp hk).1
  refine ⟨⟨w.1, fun c i => ?_⟩, by rw [List.length_set]; exact l1, by rw [List.length_set]; exact l2, ?_, fun q hq => ?_, fun y hy => ?_⟩
  · show Zr (R_up2 s.2.1 (k + 84) j z c i)
    unfold R_up2
    split
    · exact hz
    · exact w.2 c i
  · rw [List.getElem?_set, if_neg (by omega)]
    exact o
  · by_cases e : q = k
    · subst e
      rw [List.getElem?_set, if_pos rfl, if_pos (by omega)]
      unfold R_a
      rw [hk]
      have e2 : upd (fun i => Zi (s.2.1 (q + 84) (i : Int))) j (Zi z) = fun i : Nat => Zi ((R_sA s (q + 84) j z).2.1 (q + 84) (i : Int)) := by
        funext i
        show _ = Zi (R_up2 s.2.1 (q + 84) j z (q + 84) i)
        unfold R_up2 upd
        by_cases hi : i = j
        · rw [if_pos hi, if_pos ⟨rfl, by omega⟩]
        · rw [if_neg hi, if_neg (by omega)]
      rw [e2]
      split
      · rename_i n2 h2
        injection h2 with h2
        injection h2 with h2 h3
        exact absurd h2 ht
      · rename_i t2 n2 h1 h2
        injection h2 with h2
        injection h2 with h2 h3
        rw [h2, h3]
      · rename_i h2
        cases h2
    · rw [List.getElem?_set, if_neg (by omega), R_a_ne (by omega)]
      exact a q hq
  · rw [List.getElem?_set, if_neg (by omega)]
    exact x y hy
theorem R_is.aI {h0 h : E_H} {s : R_S} (hs : R_is h0 h s) {k n : Nat} (hk : R_at[k]? = some (0, n)) : h[k + 84]? = some (.inl (0, n, .inl (fun i => Zi (s.2.1 (k + 84) (i : Int))))) := by
  rw [hs.a (List.getElem?_eq_some_iff.mp hk).1]
  unfold R_a
  rw [hk]
  rfl
theorem R_is.aB {h0 h : E_H} {s : R_S} (hs : R_is h0 h s) {k n : Nat} (hk : R_at[k]? = some (2, n)) : h[k + 84]? = some (.inl (2, n, .inl (fun i => Zi (s.2.1 (k + 84) (i : Int))))) := by
  rw [hs.a (List.getElem?_eq_some_iff.mp hk).1]
  unfold R_a
  rw [hk]
  rfl
theorem R_is.aL {h0 h : E_H} {s : R_S} (hs : R_is h0 h s) {k n : Nat} (hk : R_at[k]? = some (3, n)) : h[k + 84]? = some (.inl (3, n, .inr (.inl (fun i => s.2.2.2 (k + 84) (i : Int))))) := by
  rw [hs.a (List.getElem?_eq_some_iff.mp hk).1]
  unfold R_a
  rw [hk]
  rfl
