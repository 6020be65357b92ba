/-! the class's heap as a state: for each place its kind, its path, fields, items; the reference's places stay as they are -/
abbrev C_S : Type := Nat × (Nat → Nat × Nat) × (Nat → List Nat) × (Nat → Nat → Int) × (Nat → Nat → Option Nat) × (Nat → Int → Int) × (Nat → Int → Int64) × (Nat → Int → Option Nat)
def C_n (s : C_S) : Nat := s.1
def C_K (s : C_S) : Nat → Nat × Nat := s.2.1
def C_T (s : C_S) : Nat → List Nat := s.2.2.1
def C_F (s : C_S) : Nat → Nat → Int := s.2.2.2.1
def C_P (s : C_S) : Nat → Nat → Option Nat := s.2.2.2.2.1
def C_A (s : C_S) : Nat → Int → Int := s.2.2.2.2.2.1
def C_L (s : C_S) : Nat → Int → Int64 := s.2.2.2.2.2.2.1
def C_Q (s : C_S) : Nat → Int → Option Nat := s.2.2.2.2.2.2.2
def C_sF (s : C_S) (o b : Nat) (z : Int) : C_S := (C_n s, C_K s, C_T s, (fun j c => if j = o ∧ c = b then z else C_F s j c), C_P s, C_A s, C_L s, C_Q s)
def C_sP (s : C_S) (o b : Nat) (r : Option Nat) : C_S := (C_n s, C_K s, C_T s, C_F s, (fun j c => if j = o ∧ c = b then r else C_P s j c), C_A s, C_L s, C_Q s)
def C_sA (s : C_S) (o : Nat) (i z : Int) : C_S := (C_n s, C_K s, C_T s, C_F s, C_P s, (fun j c => if j = o ∧ c = i then z else C_A s j c), C_L s, C_Q s)
def C_sL (s : C_S) (o : Nat) (i : Int) (z : Int64) : C_S := (C_n s, C_K s, C_T s, C_F s, C_P s, C_A s, (fun j c => if j = o ∧ c = i then z else C_L s j c), C_Q s)
def C_sQ (s : C_S) (o : Nat) (i : Int) (r : Option Nat) : C_S := (C_n s, C_K s, C_T s, C_F s, C_P s, C_A s, C_L s, (fun j c => if j = o ∧ c = i then r else C_Q s j c))
/-- an array's numbers, all of them -/
def C_sAf (s : C_S) (o : Nat) (g : Int → Int) : C_S := (C_n s, C_K s, C_T s, C_F s, C_P s, (fun j => if j = o then g else C_A s j), C_L s, C_Q s)
def C_sQf (s : C_S) (o : Nat) (g : Int → Option Nat) : C_S := (C_n s, C_K s, C_T s, C_F s, C_P s, C_A s, C_L s, (fun j => if j = o then g else C_Q s j))
/-- a new cell -/
def C_new (s : C_S) (k : Nat × Nat) (t : List Nat) : C_S := (C_n s + 1, (fun j => if j = C_n s then k else C_K s j), (fun j => if j = C_n s then t else C_T s j), (fun j => if j = C_n s then fun _ => 0 else C_F s j), (fun j => if j = C_n s then fun _ => none else C_P s j), (fun j => if j = C_n s then fun _ => 0 else C_A s j), (fun j => if j = C_n s then fun _ => 0 else C_L s j), (fun j => if j = C_n s then fun _ => none else C_Q s j))
def C_fv (s : C_S) (j ci b : Nat) : Value := if (E_cty ci b).isReference = true then va_rf (C_P s j b) else .int (Zi (C_F s j b))
def C_arr (s : C_S) (j t : Nat) : (Nat → Int32) ⊕ (Nat → Int64) ⊕ (Nat → UInt32) ⊕ (Nat → UInt64) ⊕ (Nat → Option Nat) := if t < 3 then .inl (fun i => Zi (C_A s j (i : Int))) else if t = 3 then .inr (.inl (fun i => C_L s j (i : Int))) else .inr (.inr (.inr (.inr (fun i => C_Q s j (i : Int)))))
def C_cell (s : C_S) (j : Nat) : E_O := if (C_K s j).1 < 8 then .inl ((C_K s j).1, (C_K s j).2, C_arr s j (C_K s j).1) else .inr ((C_K s j).1 - 8, (List.range (E_N ((C_K s j).1 - 8))).map (C_fv s j ((C_K s j).1 - 8)))
def C_wf (s : C_S) : Prop := (∀ j b, Zr (C_F s j b)) ∧ (∀ j i, Zr (C_A s j i)) ∧ (∀ j i, (C_K s j).1 = 1 → -128 ≤ C_A s j i ∧ C_A s j i < 128) ∧ (∀ j, (C_K s j).1 < 20 → j < C_n s ∧ (j < 83 ∨ 132 ≤ j) ∧ (C_K s j).2 < 2147483648) ∧ 132 ≤ C_n s
def C_is (h0 h : E_H) (s : C_S) : Prop := C_wf s ∧ h.length = C_n s ∧ (∀ j, (C_K s j).1 < 20 → h[j]? = some (C_cell s j)) ∧ (∀ j, 83 ≤ j → j < 132 → h[j]? = h0[j]?)
theorem C_is.zF {h0 h : E_H} {s : C_S} (hs : C_is h0 h s) (j b : Nat) : Zr (C_F s j b) := hs.1.1 j b
theorem C_is.zA {h0 h : E_H} {s : C_S} (hs : C_is h0 h s) (j : Nat) (i : Int) : Zr (C_A s j i) := hs.1.2.1 j i
theorem C_cell_eq {s s2 : C_S} {j : Nat} (eK : C_K s2 j = C_K s j) (eF : C_F s2 j = C_F s j) (eP : C_P s2 j = C_P s j) (eA : C_A s2 j = C_A s j) (eL : C_L s2 j = C_L s j) (eQ : C_Q s2 j = C_Q s j) : C_cell s2 j = C_cell s j := by
  unfold C_cell C_arr
  have e : C_fv s2 j = C_fv s j := by
    funext ci b
    unfold C_fv
    rw [eF, eP]
  rw [eK, eA, eL, eQ, e]
theorem C_is.set {h0 h : E_H} {s s2 : C_S} {o : Nat} (hs : C_is h0 h s) (hk : (C_K s o).1 < 20) (eK : C_K s2 = C_K s) (en : C_n s2 = C_n s) (hj : ∀ j, j ≠ o → C_cell s2 j = C_cell s j) (wf : C_wf s2) : C_is h0 (h.set o (C_cell s2 o)) s2 := by
  obtain ⟨w, l, c, r⟩ := hs
  obtain ⟨w1, w2, w3, w4, w5⟩ := w
  have ho := w4 o hk
  refine ⟨wf, by rw [List.length_set, l, en], fun j hkj => ?_, fun j h1 h2 => ?_⟩
  · rw [eK] at hkj
    by_cases e : j = o
    · subst e
      rw [List.getElem?_set, if_pos rfl, if_pos (by omega)]
    · rw [List.getElem?_set, if_neg (fun z => e z.symm), hj j e]
      exact c j hkj
  · rw [List.getElem?_set, if_neg (by omega)]
    exact r j h1 h2
theorem C_is.push {h0 h : E_H} {s s2 : C_S} (hs : C_is h0 h s) (en : C_n s2 = C_n s + 1) (eK : ∀ j, j ≠ C_n s → C_K s2 j = C_K s j) (hj : ∀ j, j ≠ C_n s → C_cell s2 j = C_cell s j) (wf : C_wf s2) : C_is h0 (h ++ [C_cell s2 (C_n s)]) s2 := by
  obtain ⟨w, l, c, r⟩ := hs
  obtain ⟨w1, w2, w3, w4, w5⟩ := w
  refine ⟨wf, by rw [List.length_append, l, en]; rfl, fun j hkj => ?_, fun j h1 h2 => ?_⟩
  · by_cases e : j = C_n s
    · subst e
      rw [List.getElem?_append_right (by omega), l, Nat.sub_self]
      rfl
    · rw [eK j e] at hkj
      have := w4 j hkj
      rw [List.getElem?_append_left (by omega), hj j e]
      exact c j hkj
  · rw [List.getElem?_append_left (by omega)]
    exact r j h1 h2
theorem C_map_set {f f2 : Nat → Value} {N b : Nat} {v : Value} (h1 : f2 b = v) (h2 : ∀ c, c ≠ b → f2 c = f c) : ((List.range N).map f).set b v = (List.range N).map f2 := by
  apply List.ext_getElem?
  intro j
  rw [List.getElem?_set]
  simp only [List.getElem?_map, List.length_map, List.length_range]
  by_cases hj : b = j
  · subst hj
    rw [if_pos rfl]
    by_cases hl : b < N
    · rw [if_pos hl, List.getElem?_range hl]
      show some v = some (f2 b)
      rw [h1]
    · rw [if_neg hl, List.getElem?_eq_none (by rw [List.length_range]; omega)]
      rfl
  · rw [if_neg hj]
    by_cases hl : j < N
    · rw [List.getElem?_range hl]
      show some (f j) = some (f2 j)
      rw [h2 j (fun e => hj e.symm)]
    · rw [List.getElem?_eq_none (by rw [List.length_range]; omega)]
      rfl
/-! what a state's change leaves -/
theorem C_wf.sF {s : C_S} (w : C_wf s) {o b : Nat} {z : Int} (hz : Zr z) : C_wf (C_sF s o b z) := by
  refine ⟨fun j c => ?_, w.2⟩
  show Zr (if j = o ∧ c = b then z else C_F s j c)
  split
  · exact hz
  · exact w.1 j c
theorem C_wf.sP {s : C_S} (w : C_wf s) {o b : Nat} {r : Option Nat} : C_wf (C_sP s o b r) := w
theorem C_wf.sL {s : C_S} (w : C_wf s) {o : Nat} {i : Int} {z : Int64} : C_wf (C_sL s o i z) := w
theorem C_wf.sQ {s : C_S} (w : C_wf s) {o : Nat} {i : Int} {r : Option Nat} : C_wf (C_sQ s o i r) := w
theorem C_wf.sQf {s : C_S} (w : C_wf s) {o : Nat} {g : Int → Option Nat} : C_wf (C_sQf s o g) := w
theorem C_wf.sA {s : C_S} (w : C_wf s) {o : Nat} {i z : Int} (hz : Zr z) (hb : (C_K s o).1 = 1 → -128 ≤ z ∧ z < 128) : C_wf (C_sA s o i z) := by
  obtain ⟨w1, w2, w3, w4⟩ := w
  refine ⟨w1, fun j c => ?_, fun j c hk => ?_, w4⟩
  · show Zr (if j = o ∧ c = i then z else C_A s j c)
    split
    · exact hz
    · exact w2 j c
  · show -128 ≤ (if j = o ∧ c = i then z else C_A s j c) ∧ (if j = o ∧ c = i then z else C_A s j c) < 128
    have hk : (C_K s j).1 = 1 := hk
    split
    · rename_i e
      exact hb (by rw [← e.1]; exact hk)
    · exact w3 j c hk
theorem C_wf.sAf {s : C_S} (w : C_wf s) {o : Nat} {g : Int → Int} (hz : ∀ i, Zr (g i)) (hb : (C_K s o).1 = 1 → ∀ i, -128 ≤ g i ∧ g i < 128) : C_wf (C_sAf s o g) := by
  obtain ⟨w1, w2, w3, w4⟩ := w
  refine ⟨w1, fun j c => ?_, fun j c hk => ?_, w4⟩
  · show Zr ((if j = o then g else C_A s j) c)
    split
    · exact hz c
    · exact w2 j c
  · show -128 ≤ (if j = o then g else C_A s j) c ∧ (if j = o then g else C_A s j) c < 128
    have hk : (C_K s j).1 = 1 := hk
    split
    · rename_i e
      exact hb (by rw [← e]; exact hk) c
    · exact w3 j c hk
theorem C_wf.new {s : C_S} (w : C_wf s) {k : Nat × Nat} {t : List Nat} (hk : k.2 < 2147483648) : C_wf (C_new s k t) := by
  obtain ⟨w1, w2, w3, w4, w5⟩ := w
  have z0 : Zr 0 := ⟨by omega, by omega⟩
  refine ⟨fun j c => ?_, fun j c => ?_, fun j c hk => ?_, fun j hk2 => ?_, by show 132 ≤ C_n s + 1; omega⟩
  · show Zr ((if j = C_n s then fun _ => 0 else C_F s j) c)
    split
    · exact z0
    · exact w1 j c
  · show Zr ((if j = C_n s then fun _ => 0 else C_A s j) c)
    split
    · exact z0
    · exact w2 j c
  · show -128 ≤ (if j = C_n s then fun _ => 0 else C_A s j) c ∧ (if j = C_n s then fun _ => 0 else C_A s j) c < 128
    split
    · exact ⟨by dsimp only; omega, by dsimp only; omega⟩
    · rename_i e
      have hk : (if j = C_n s then k else C_K s j).1 = 1 := hk
      rw [if_neg e] at hk
      exact w3 j c hk
  · have hk2 : (if j = C_n s then k else C_K s j).1 < 20 := hk2
    show j < C_n s + 1 ∧ _ ∧ (if j = C_n s then k else C_K s j).2 < 2147483648
    by_cases e : j = C_n s
    · rw [if_pos e]
      exact ⟨by omega, .inr (by omega), hk⟩
    · rw [if_neg e] at hk2 ⊢
      have := w4 j hk2
      exact ⟨by omega, this.2.1, this.2.2⟩
theorem C_cell_sF {s : C_S} {o b j : Nat} {z : Int} (h : j ≠ o) : C_cell (C_sF s o b z) j = C_cell s j := C_cell_eq rfl (by funext c; exact if_neg (fun e => h e.1)) rfl rfl rfl rfl
theorem C_cell_sP {s : C_S} {o b j : Nat} {z : Option Nat} (h : j ≠ o) : C_cell (C_sP s o b z) j = C_cell s j := C_cell_eq rfl rfl (by funext c; exact if_neg (fun e => h e.1)) rfl rfl rfl
theorem C_cell_sA {s : C_S} {o j : Nat} {i z : Int} (h : j ≠ o) : C_cell (C_sA s o i z) j = C_cell s j := C_cell_eq rfl rfl rfl (by funext c; exact if_neg (fun e => h e.1)) rfl rfl
theorem C_cell_sL {s : C_S} {o j : Nat} {i : Int} {z : Int64} (h : j ≠ o) : C_cell (C_sL s o i z) j = C_cell s j := C_cell_eq rfl rfl rfl rfl (by funext c; exact if_neg (fun e => h e.1)) rfl
theorem C_cell_sQ {s : C_S} {o j : Nat} {i : Int} {z : Option Nat} (h : j ≠ o) : C_cell (C_sQ s o i z) j = C_cell s j := C_cell_eq rfl rfl rfl rfl rfl (by funext c; exact if_neg (fun e => h e.1))
theorem C_cell_sAf {s : C_S} {o j : Nat} {g : Int → Int} (h : j ≠ o) : C_cell (C_sAf s o g) j = C_cell s j := C_cell_eq rfl rfl rfl (if_neg h) rfl rfl
theorem C_cell_sQf {s : C_S} {o j : Nat} {g : Int → Option Nat} (h : j ≠ o) : C_cell (C_sQf s o g) j = C_cell s j := C_cell_eq rfl rfl rfl rfl rfl (if_neg h)
theorem C_cell_new {s : C_S} {j : Nat} {k : Nat × Nat} {t : List Nat} (h : j ≠ C_n s) : C_cell (C_new s k t) j = C_cell s j := C_cell_eq (if_neg h) (if_neg h) (if_neg h) (if_neg h) (if_neg h) (if_neg h)
/-- an object's cell -/
theorem C_is.o {h0 h : E_H} {s : C_S} (hs : C_is h0 h s) {o a : Nat} (ha : a < 12) (hk : C_K s o = (a + 8, 0)) : h[o]? = some (.inr (a, (List.range (E_N a)).map (C_fv s o a))) := by
  rw [hs.2.2.1 o (by rw [hk]; show a + 8 < 20; omega)]
  unfold C_cell
  rw [hk]
  rw [if_neg (show ¬ (a + 8, 0).1 < 8 by show ¬ a + 8 < 8; omega)]
  rfl
theorem C_is.aI {h0 h : E_H} {s : C_S} (hs : C_is h0 h s) {o t n : Nat} (ht : t < 3) (hk : C_K s o = (t, n)) : h[o]? = some (.inl (t, n, .inl (fun i => Zi (C_A s o (i : Int))))) := by
  rw [hs.2.2.1 o (by rw [hk]; show t < 20; omega)]
  unfold C_cell C_arr
  rw [hk]
  rw [if_pos (show (t, n).1 < 8 by show t < 8; omega), if_pos ht]
theorem C_is.aL {h0 h : E_H} {s : C_S} (hs : C_is h0 h s) {o n : Nat} (hk : C_K s o = (3, n)) : h[o]? = some (.inl (3, n, .inr (.inl (fun i => C_L s o (i : Int))))) := by
  rw [hs.2.2.1 o (by rw [hk]; show 3 < 20; omega)]
  unfold C_cell C_arr
  rw [hk]
  rfl
theorem C_is.aQ {h0 h : E_H} {s : C_S} (hs : C_is h0 h s) {o t n : Nat} (h4 : 4 ≤ t) (h8 : t < 8) (hk : C_K s o = (t, n)) : h[o]? = some (.inl (t, n, .inr (.inr (.inr (.inr (fun i => C_Q s o (i : Int))))))) := by
  rw [hs.2.2.1 o (by rw [hk]; show t < 20; omega)]
  unfold C_cell C_arr
  rw [hk]
  rw [if_pos (show (t, n).1 < 8 from h8), if_neg (show ¬ t < 3 by omega), if_neg (show ¬ t = 3 by omega)]
theorem C_is.len {h0 h : E_H} {s : C_S} (hs : C_is h0 h s) {o t n : Nat} (ht : t < 20) (hk : C_K s o = (t, n)) : n < 2147483648 ∧ o < C_n s := by
  have := hs.1.2.2.2.1 o (by rw [hk]; exact ht)
  rw [hk] at this
  exact ⟨this.2.2, this.1⟩
