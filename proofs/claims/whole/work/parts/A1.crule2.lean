/-! the class's rules: one step each -/
section CR
variable {d : Nat} {M : E_MI} {h : E_H} {sl pc a b : Nat} {L : E_L} {st : List Value} {Φ : E_R → Prop} {h0 : E_H} {s : C_S}
theorem C_fv_i {s : C_S} {o a b : Nat} (ht : (E_cty a b).isReference = false) : C_fv s o a b = .int (Zi (C_F s o b)) := by
  unfold C_fv
  rw [ht]
  rfl
theorem C_fv_r {s : C_S} {o a b : Nat} (ht : (E_cty a b).isReference = true) : C_fv s o a b = va_rf (C_P s o b) := by
  unfold C_fv
  rw [ht]
  rfl
theorem C_get {i o : Nat} (hf : E_find M.2.2.2.2.2.2.2 pc = some (.getfield i, 3, a, b)) (hs : C_is h0 h s) (hk : C_K s o = (a + 8, 0)) (ha : a < 12) (hb : b < E_N a) (k : B_R d M (pc + 3, L, C_fv s o a b :: st) h sl Φ) : B_R d M (pc, L, .ref o :: st) h sl Φ := by
  refine B_get hf (hs.o ha hk) ?_ hb k
  rw [List.getElem?_map, List.getElem?_range hb]
  rfl
theorem C_gi {i o : Nat} (hf : E_find M.2.2.2.2.2.2.2 pc = some (.getfield i, 3, a, b)) (hs : C_is h0 h s) (hk : C_K s o = (a + 8, 0)) (ha : a < 12) (hb : b < E_N a) (ht : (E_cty a b).isReference = false) (k : B_R d M (pc + 3, L, .int (Zi (C_F s o b)) :: st) h sl Φ) : B_R d M (pc, L, .ref o :: st) h sl Φ := C_get hf hs hk ha hb (by rw [C_fv_i ht]; exact k)
theorem C_gr {i o : Nat} (hf : E_find M.2.2.2.2.2.2.2 pc = some (.getfield i, 3, a, b)) (hs : C_is h0 h s) (hk : C_K s o = (a + 8, 0)) (ha : a < 12) (hb : b < E_N a) (ht : (E_cty a b).isReference = true) {q : Nat} (hp : C_P s o b = some q) (k : B_R d M (pc + 3, L, .ref q :: st) h sl Φ) : B_R d M (pc, L, .ref o :: st) h sl Φ := C_get hf hs hk ha hb (by rw [C_fv_r ht, hp]; exact k)
theorem C_putE {orc : E_orc} {i o : Nat} {v : Value} {fs : List Value} (hf : E_find M.2.2.2.2.2.2.2 pc = some (.putfield i, 3, a, b)) (ho : h[o]? = some (.inr (a, fs))) (hb : b < E_N a) (hl : b < fs.length) (hfin : E_fin a b = false ∨ (E_isI M = true ∧ M.1 = a)) (hn : narrow (E_cty a b) v = v) (hfit : fits (E_cty a b) v = true) : E_step orc M (pc, L, v :: .ref o :: st) h sl = some (.inl ((pc + 3, L, st), h.set o (.inr (a, fs.set b v)), sl)) := by
  unfold E_step
  rw [hf]
  dsimp only
  unfold E_heap E_putf
  dsimp only
  rw [ho]
  dsimp only
  rw [if_pos ⟨rfl, rfl, hb, hl, hfin, hn, hfit⟩]
  rfl
theorem C_pi {i o : Nat} {z : Int} (hf : E_find M.2.2.2.2.2.2.2 pc = some (.putfield i, 3, a, b)) (hs : C_is h0 h s) (hk : C_K s o = (a + 8, 0)) (ha : a < 12) (hb : b < E_N a) (hfin : E_fin a b = false ∨ (E_isI M = true ∧ M.1 = a)) (ht : (E_cty a b).isReference = false) (hn : narrow (E_cty a b) (.int (Zi z)) = .int (Zi z)) (hfit : fits (E_cty a b) (.int (Zi z)) = true) (hz : Zr z) (k : ∀ h : E_H, C_is h0 h (C_sF s o b z) → B_R d M (pc + 3, L, st) h sl Φ) : B_R d M (pc, L, .int (Zi z) :: .ref o :: st) h sl Φ := by
  have ho := hs.o ha hk
  have hs2 := hs.set (s2 := C_sF s o b z) (o := o) (by rw [hk]; show a + 8 < 20; omega) rfl rfl (fun j hj => C_cell_sF hj) (hs.1.sF hz)
  refine B_go (fun _ => C_putE hf ho hb (by rw [List.length_map, List.length_range]; exact hb) hfin hn hfit) ?_
  have e : C_cell (C_sF s o b z) o = .inr (a, ((List.range (E_N a)).map (C_fv s o a)).set b (.int (Zi z))) := by
    unfold C_cell
    rw [show C_K (C_sF s o b z) o = (a + 8, 0) from hk, if_neg (show ¬ (a + 8, 0).1 < 8 by show ¬ a + 8 < 8; omega)]
    refine congrArg (fun l => (Sum.inr (a, l) : E_O)) ?_
    symm
    refine C_map_set (f2 := C_fv (C_sF s o b z) o a) ?_ (fun c hc => ?_)
    · rw [C_fv_i ht]
      show Value.int (Zi (if o = o ∧ b = b then z else C_F s o b)) = _
      rw [if_pos ⟨rfl, rfl⟩]
    · unfold C_fv
      rw [show C_F (C_sF s o b z) o c = C_F s o c from if_neg (fun e => hc e.2)]
      rfl
  rw [← e]
  exact k _ hs2
theorem C_pr {i o : Nat} {r : Option Nat} {v : Value} (hf : E_find M.2.2.2.2.2.2.2 pc = some (.putfield i, 3, a, b)) (hs : C_is h0 h s) (hv : v = va_rf r) (hk : C_K s o = (a + 8, 0)) (ha : a < 12) (hb : b < E_N a) (hfin : E_fin a b = false ∨ (E_isI M = true ∧ M.1 = a)) (ht : (E_cty a b).isReference = true) (k : ∀ h : E_H, C_is h0 h (C_sP s o b r) → B_R d M (pc + 3, L, st) h sl Φ) : B_R d M (pc, L, v :: .ref o :: st) h sl Φ := by
  subst hv
  have ho := hs.o ha hk
  have hs2 := hs.set (s2 := C_sP s o b r) (o := o) (by rw [hk]; show a + 8 < 20; omega) rfl rfl (fun j hj => C_cell_sP hj) hs.1.sP
  have hn : narrow (E_cty a b) (va_rf r) = va_rf r ∧ fits (E_cty a b) (va_rf r) = true := by
    generalize E_cty a b = ty at ht
    cases r <;> cases ty <;> first | exact ⟨rfl, rfl⟩ | cases ht
  refine B_go (fun _ => C_putE hf ho hb (by rw [List.length_map, List.length_range]; exact hb) hfin hn.1 hn.2) ?_
  have e : C_cell (C_sP s o b r) o = .inr (a, ((List.range (E_N a)).map (C_fv s o a)).set b (va_rf r)) := by
    unfold C_cell
    rw [show C_K (C_sP s o b r) o = (a + 8, 0) from hk, if_neg (show ¬ (a + 8, 0).1 < 8 by show ¬ a + 8 < 8; omega)]
    refine congrArg (fun l => (Sum.inr (a, l) : E_O)) ?_
    symm
    refine C_map_set (f2 := C_fv (C_sP s o b r) o a) ?_ (fun c hc => ?_)
    · rw [C_fv_r ht]
      show va_rf (if o = o ∧ b = b then r else C_P s o b) = _
      rw [if_pos ⟨rfl, rfl⟩]
    · unfold C_fv
      rw [show C_P (C_sP s o b r) o c = C_P s o c from if_neg (fun e => hc e.2)]
      rfl
  rw [← e]
  exact k _ hs2
theorem C_ia {o n : Nat} {z : Int} (hf : E_find M.2.2.2.2.2.2.2 pc = some (.iaload, 1, a, b)) (hs : C_is h0 h s) (hk : C_K s o = (0, n)) (h1 : 0 ≤ z) (h2 : z < n) (k : B_R d M (pc + 1, L, .int (Zi (C_A s o z)) :: st) h sl Φ) : B_R d M (pc, L, .int (Zi z) :: .ref o :: st) h sl Φ := by
  obtain ⟨i, rfl⟩ := Int.eq_ofNat_of_zero_le h1
  exact B_ald (i := i) hf (hs.aI (by decide) hk) (.inl ⟨rfl, rfl⟩) (Zi_nI i).symm (by omega) (hs.len (by decide) hk).1 k
theorem C_ba {o n : Nat} {z : Int} (hf : E_find M.2.2.2.2.2.2.2 pc = some (.baload, 1, a, b)) (hs : C_is h0 h s) (hk : C_K s o = (1, n)) (h1 : 0 ≤ z) (h2 : z < n) (k : B_R d M (pc + 1, L, .int (Zi (C_A s o z)) :: st) h sl Φ) : B_R d M (pc, L, .int (Zi z) :: .ref o :: st) h sl Φ := by
  obtain ⟨i, rfl⟩ := Int.eq_ofNat_of_zero_le h1
  exact B_ald (i := i) hf (hs.aI (by decide) hk) (.inr ⟨rfl, .inl rfl⟩) (Zi_nI i).symm (by omega) (hs.len (by decide) hk).1 k
theorem C_inb {i n : Nat} (h2 : i < n) (hn : n < 2147483648) : E_inb (Zi (i : Int)) n = true ∧ (Zi (i : Int)).toNatClampNeg = i := ⟨Zi_inb (by omega) (by omega) hn, Zi_clamp (by omega) (by omega)⟩
theorem C_is_ {o n : Nat} {z v : Int} (hf : E_find M.2.2.2.2.2.2.2 pc = some (.iastore, 1, a, b)) (hs : C_is h0 h s) (hk : C_K s o = (0, n)) (h1 : 0 ≤ z) (h2 : z < n) (hv : Zr v) (k : ∀ h : E_H, C_is h0 h (C_sA s o z v) → B_R d M (pc + 1, L, st) h sl Φ) : B_R d M (pc, L, .int (Zi v) :: .int (Zi z) :: .ref o :: st) h sl Φ := by
  obtain ⟨i, rfl⟩ := Int.eq_ofNat_of_zero_le h1
  have ho := hs.aI (by decide) hk
  have hn := (hs.len (by decide) hk).1
  obtain ⟨hin, hcl⟩ := C_inb (i := i) (n := n) (by omega) hn
  have hs2 := hs.set (s2 := C_sA s o i v) (o := o) (by rw [hk]; show 0 < 20; decide) rfl rfl (fun j hj => C_cell_sA hj) (hs.1.sA hv (by rw [hk]; intro e; cases e))
  refine B_go (f2 := (pc + 1, L, st)) (h2 := h.set o (C_cell (C_sA s o i v) o)) (s2 := sl) (fun _ => ?_) (k _ hs2)
  unfold E_step
  rw [hf]
  dsimp only
  unfold E_heap E_ast
  dsimp only
  rw [ho]
  dsimp only
  rw [if_pos ⟨rfl, rfl, hin⟩, hcl]
  refine congrArg (fun l => some (Sum.inl ((pc + 1, L, st), h.set o l, sl + 0))) ?_
  unfold C_cell C_arr
  rw [show C_K (C_sA s o i v) o = (0, n) from hk]
  refine congrArg (fun g => (Sum.inl (0, n, Sum.inl g) : E_O)) ?_
  funext j
  show (if j = i then Zi v else Zi (C_A s o (j : Int))) = Zi (if o = o ∧ (j : Int) = (i : Int) then v else C_A s o (j : Int))
  by_cases e : j = i
  · rw [if_pos e, if_pos ⟨rfl, by omega⟩]
  · rw [if_neg e, if_neg (by omega)]
theorem C_nar_b {z : Int} (hz : -128 ≤ z ∧ z < 128) : vp_nar .byte (Zi z) = Zi z := by
  show (Zi z).toInt8.toInt32 = Zi z
  apply Int32.toInt_inj.mp
  rw [Int8.toInt_toInt32, Int32.toInt_toInt8, Zi_to (by omega) (by omega)]
  exact Int.bmod_eq_of_le (by omega) (by omega)
theorem C_bs {o n : Nat} {z v w : Int} (hf : E_find M.2.2.2.2.2.2.2 pc = some (.bastore, 1, a, b)) (hs : C_is h0 h s) (hk : C_K s o = (1, n)) (h1 : 0 ≤ z) (h2 : z < n) (hw : vp_nar .byte (Zi v) = Zi w) (hv : -128 ≤ w ∧ w < 128) (k : ∀ h : E_H, C_is h0 h (C_sA s o z w) → B_R d M (pc + 1, L, st) h sl Φ) : B_R d M (pc, L, .int (Zi v) :: .int (Zi z) :: .ref o :: st) h sl Φ := by
  obtain ⟨i, rfl⟩ := Int.eq_ofNat_of_zero_le h1
  have ho := hs.aI (by decide) hk
  have hn := (hs.len (by decide) hk).1
  obtain ⟨hin, hcl⟩ := C_inb (i := i) (n := n) (by omega) hn
  have hs2 := hs.set (s2 := C_sA s o i w) (o := o) (by rw [hk]; show 1 < 20; decide) rfl rfl (fun j hj => C_cell_sA hj) (hs.1.sA ⟨by omega, by omega⟩ (fun _ => hv))
  refine B_go (f2 := (pc + 1, L, st)) (h2 := h.set o (C_cell (C_sA s o i w) o)) (s2 := sl) (fun _ => ?_) (k _ hs2)
  unfold E_step
  rw [hf]
  dsimp only
  unfold E_heap E_bst
  dsimp only
  rw [ho]
  dsimp only
  rw [if_pos ⟨rfl, hin⟩, if_pos rfl, hcl, hw]
  refine congrArg (fun l => some (Sum.inl ((pc + 1, L, st), h.set o l, sl + 0))) ?_
  unfold C_cell C_arr
  rw [show C_K (C_sA s o i w) o = (1, n) from hk]
  refine congrArg (fun g => (Sum.inl (1, n, Sum.inl g) : E_O)) ?_
  funext j
  show (if j = i then Zi w else Zi (C_A s o (j : Int))) = Zi (if o = o ∧ (j : Int) = (i : Int) then w else C_A s o (j : Int))
  by_cases e : j = i
  · rw [if_pos e, if_pos ⟨rfl, by omega⟩]
  · rw [if_neg e, if_neg (by omega)]
theorem C_la {o n : Nat} {z : Int} (hf : E_find M.2.2.2.2.2.2.2 pc = some (.laload, 1, a, b)) (hs : C_is h0 h s) (hk : C_K s o = (3, n)) (h1 : 0 ≤ z) (h2 : z < n) (k : B_R d M (pc + 1, L, .long (C_L s o z) :: st) h sl Φ) : B_R d M (pc, L, .int (Zi z) :: .ref o :: st) h sl Φ := by
  obtain ⟨i, rfl⟩ := Int.eq_ofNat_of_zero_le h1
  obtain ⟨hin, hcl⟩ := C_inb (i := i) (n := n) (by omega) (hs.len (by decide) hk).1
  refine B_go (f2 := (pc + 1, L, .long (C_L s o (i : Int)) :: st)) (h2 := h) (s2 := sl) (fun _ => ?_) k
  unfold E_step
  rw [hf]
  dsimp only
  unfold E_heap E_lald
  dsimp only
  rw [hs.aL hk]
  dsimp only
  rw [if_pos ⟨rfl, rfl, hin⟩, hcl]
  rfl
theorem C_ls {o n : Nat} {z : Int} {v : Int64} (hf : E_find M.2.2.2.2.2.2.2 pc = some (.lastore, 1, a, b)) (hs : C_is h0 h s) (hk : C_K s o = (3, n)) (h1 : 0 ≤ z) (h2 : z < n) (k : ∀ h : E_H, C_is h0 h (C_sL s o z v) → B_R d M (pc + 1, L, st) h sl Φ) : B_R d M (pc, L, .long v :: .int (Zi z) :: .ref o :: st) h sl Φ := by
  obtain ⟨i, rfl⟩ := Int.eq_ofNat_of_zero_le h1
  obtain ⟨hin, hcl⟩ := C_inb (i := i) (n := n) (by omega) (hs.len (by decide) hk).1
  have hs2 := hs.set (s2 := C_sL s o i v) (o := o) (by rw [hk]; show 3 < 20; decide) rfl rfl (fun j hj => C_cell_sL hj) hs.1.sL
  refine B_go (f2 := (pc + 1, L, st)) (h2 := h.set o (C_cell (C_sL s o i v) o)) (s2 := sl) (fun _ => ?_) (k _ hs2)
  unfold E_step
  rw [hf]
  dsimp only
  unfold E_heap E_lst
  dsimp only
  rw [hs.aL hk]
  dsimp only
  rw [if_pos ⟨rfl, rfl, hin⟩, hcl]
  refine congrArg (fun l => some (Sum.inl ((pc + 1, L, st), h.set o l, sl + 0))) ?_
  unfold C_cell C_arr
  rw [show C_K (C_sL s o i v) o = (3, n) from hk]
  refine congrArg (fun g => (Sum.inl (3, n, Sum.inr (Sum.inl g)) : E_O)) ?_
  funext j
  show (if j = i then v else C_L s o (j : Int)) = (if o = o ∧ (j : Int) = (i : Int) then v else C_L s o (j : Int))
  by_cases e : j = i
  · rw [if_pos e, if_pos ⟨rfl, by omega⟩]
  · rw [if_neg e, if_neg (by omega)]
theorem C_aa {o t n : Nat} {z : Int} (hf : E_find M.2.2.2.2.2.2.2 pc = some (.aaload, 1, a, b)) (hs : C_is h0 h s) (hk : C_K s o = (t, n)) (h4 : 4 ≤ t) (h8 : t < 8) (h1 : 0 ≤ z) (h2 : z < n) (k : B_R d M (pc + 1, L, va_rf (C_Q s o z) :: st) h sl Φ) : B_R d M (pc, L, .int (Zi z) :: .ref o :: st) h sl Φ := by
  obtain ⟨i, rfl⟩ := Int.eq_ofNat_of_zero_le h1
  obtain ⟨hin, hcl⟩ := C_inb (i := i) (n := n) (by omega) (hs.len (by omega) hk).1
  refine B_go (f2 := (pc + 1, L, va_rf (C_Q s o (i : Int)) :: st)) (h2 := h) (s2 := sl) (fun _ => ?_) k
  unfold E_step
  rw [hf]
  dsimp only
  unfold E_heap E_aald
  dsimp only
  rw [hs.aQ h4 h8 hk]
  dsimp only
  rw [if_pos ⟨rfl, h4, h8, hin⟩, hcl]
  rfl
theorem C_aq {o t n : Nat} {z : Int} {r : Option Nat} (hf : E_find M.2.2.2.2.2.2.2 pc = some (.aaload, 1, a, b)) (hs : C_is h0 h s) (hk : C_K s o = (t, n)) (h4 : 4 ≤ t) (h8 : t < 8) (h1 : 0 ≤ z) (h2 : z < n) (hq : C_Q s o z = r) (k : B_R d M (pc + 1, L, va_rf r :: st) h sl Φ) : B_R d M (pc, L, .int (Zi z) :: .ref o :: st) h sl Φ := C_aa hf hs hk h4 h8 h1 h2 (by rw [hq]; exact k)
theorem C_cQ {o t n i : Nat} {r : Option Nat} (hk : C_K s o = (t, n)) (h4 : 4 ≤ t) (h8 : t < 8) : C_cell (C_sQ s o i r) o = .inl (t, n, .inr (.inr (.inr (.inr (va_up (fun j => C_Q s o (j : Int)) i r))))) := by
  unfold C_cell C_arr
  rw [show C_K (C_sQ s o i r) o = (t, n) from hk, if_pos (show (t, n).1 < 8 from h8), if_neg (show ¬ t < 3 by omega), if_neg (show ¬ t = 3 by omega)]
  refine congrArg (fun g => (Sum.inl (t, n, Sum.inr (Sum.inr (Sum.inr (Sum.inr g)))) : E_O)) ?_
  funext j
  show (if o = o ∧ (j : Int) = (i : Int) then r else C_Q s o (j : Int)) = (if j = i then r else C_Q s o (j : Int))
  by_cases e : j = i
  · rw [if_pos e, if_pos ⟨rfl, by omega⟩]
  · rw [if_neg e, if_neg (by omega)]
/-- an object into a row of such objects -/
theorem C_as {o t n v ci : Nat} {z : Int} (hf : E_find M.2.2.2.2.2.2.2 pc = some (.aastore, 1, a, b)) (hs : C_is h0 h s) (hk : C_K s o = (t, n)) (h4 : 4 ≤ t) (h8 : t < 7) (h1 : 0 ≤ z) (h2 : z < n) (hv : C_K s v = (ci + 8, 0)) (hci : ci < 12) (hT : ∃ C T N, E_CL[ci]? = some (C, T, N) ∧ E_ATY[t]? = some (.object C)) (k : ∀ h : E_H, C_is h0 h (C_sQ s o z (some v)) → B_R d M (pc + 1, L, st) h sl Φ) : B_R d M (pc, L, .ref v :: .int (Zi z) :: .ref o :: st) h sl Φ := by
  obtain ⟨i, rfl⟩ := Int.eq_ofNat_of_zero_le h1
  obtain ⟨hin, hcl⟩ := C_inb (i := i) (n := n) (by omega) (hs.len (by omega) hk).1
  have hs2 := hs.set (s2 := C_sQ s o i (some v)) (o := o) (by rw [hk]; show t < 20; omega) rfl rfl (fun j hj => C_cell_sQ hj) hs.1.sQ
  rw [C_cQ hk h4 (by omega)] at hs2
  refine B_go (f2 := (pc + 1, L, st)) (h2 := _) (s2 := sl) (fun _ => ?_) (k _ hs2)
  obtain ⟨C, T, N, hc1, hc2⟩ := hT
  unfold E_step
  rw [hf]
  dsimp only
  unfold E_heap E_aas
  dsimp only
  have e1 : E_aasb 1 (pc, L, .ref v :: .int (Zi (i : Int)) :: .ref o :: st) h = none := by
    unfold E_aasb
    dsimp only
    rw [hs.aQ h4 (by omega) hk, hs.o hci hv]
  rw [e1]
  dsimp only
  unfold E_aast
  dsimp only
  rw [hs.aQ h4 (by omega) hk, hs.o hci hv]
  dsimp only
  rw [hc1]
  dsimp only
  rw [if_pos ⟨rfl, hc2, hin⟩, hcl]
  rfl
/-- a row of bytes into a row of such rows -/
theorem C_ab {o n v m : Nat} {z : Int} (hf : E_find M.2.2.2.2.2.2.2 pc = some (.aastore, 1, a, b)) (hs : C_is h0 h s) (hk : C_K s o = (7, n)) (h1 : 0 ≤ z) (h2 : z < n) (hv : C_K s v = (1, m)) (k : ∀ h : E_H, C_is h0 h (C_sQ s o z (some v)) → B_R d M (pc + 1, L, st) h sl Φ) : B_R d M (pc, L, .ref v :: .int (Zi z) :: .ref o :: st) h sl Φ := by
  obtain ⟨i, rfl⟩ := Int.eq_ofNat_of_zero_le h1
  obtain ⟨hin, hcl⟩ := C_inb (i := i) (n := n) (by omega) (hs.len (by omega) hk).1
  have hs2 := hs.set (s2 := C_sQ s o i (some v)) (o := o) (by rw [hk]; show 7 < 20; decide) rfl rfl (fun j hj => C_cell_sQ hj) hs.1.sQ
  rw [C_cQ hk (by decide) (by decide)] at hs2
  refine B_go (f2 := (pc + 1, L, st)) (h2 := _) (s2 := sl) (fun _ => ?_) (k _ hs2)
  unfold E_step
  rw [hf]
  dsimp only
  unfold E_heap E_aas
  dsimp only
  have e1 : E_aasb 1 (pc, L, .ref v :: .int (Zi (i : Int)) :: .ref o :: st) h = some ((pc + 1, L, st), h.set o (.inl (7, n, .inr (.inr (.inr (.inr (va_up (fun j => C_Q s o (j : Int)) i (some v)))))))) := by
    unfold E_aasb
    dsimp only
    rw [hs.aQ (by decide) (by decide) hk, hs.aI (by decide) hv]
    dsimp only
    rw [if_pos ⟨rfl, rfl, rfl, hin⟩, hcl]
  rw [e1]
  rfl
/-- null into a row of objects -/
theorem C_an {o t n : Nat} {z : Int} (hf : E_find M.2.2.2.2.2.2.2 pc = some (.aastore, 1, a, b)) (hs : C_is h0 h s) (hk : C_K s o = (t, n)) (h4 : 4 ≤ t) (h8 : t < 7) (h1 : 0 ≤ z) (h2 : z < n) (k : ∀ h : E_H, C_is h0 h (C_sQ s o z none) → B_R d M (pc + 1, L, st) h sl Φ) : B_R d M (pc, L, .null :: .int (Zi z) :: .ref o :: st) h sl Φ := by
  obtain ⟨i, rfl⟩ := Int.eq_ofNat_of_zero_le h1
  obtain ⟨hin, hcl⟩ := C_inb (i := i) (n := n) (by omega) (hs.len (by omega) hk).1
  have hs2 := hs.set (s2 := C_sQ s o i none) (o := o) (by rw [hk]; show t < 20; omega) rfl rfl (fun j hj => C_cell_sQ hj) hs.1.sQ
  rw [C_cQ hk h4 (by omega)] at hs2
  refine B_go (f2 := (pc + 1, L, st)) (h2 := _) (s2 := sl) (fun _ => ?_) (k _ hs2)
  unfold E_step
  rw [hf]
  dsimp only
  unfold E_heap E_aas E_aasb
  dsimp only
  unfold E_aast
  dsimp only
  rw [hs.aQ h4 (by omega) hk]
  dsimp only
  rw [if_pos ⟨rfl, h4, h8, hin⟩, hcl]
  rfl
theorem C_al {o t n : Nat} (hf : E_find M.2.2.2.2.2.2.2 pc = some (.arraylength, 1, a, b)) (hs : C_is h0 h s) (hk : C_K s o = (t, n)) (h8 : t < 8) (k : B_R d M (pc + 1, L, .int (Zi (n : Int)) :: st) h sl Φ) : B_R d M (pc, L, .ref o :: st) h sl Φ := by
  refine B_go (f2 := (pc + 1, L, .int (Zi (n : Int)) :: st)) (h2 := h) (s2 := sl) (fun _ => ?_) k
  have ho : h[o]? = some (.inl (t, n, C_arr s o t)) := by
    rw [hs.2.2.1 o (by rw [hk]; show t < 20; omega)]
    unfold C_cell
    rw [hk, if_pos (show (t, n).1 < 8 from h8)]
  unfold E_step
  rw [hf]
  dsimp only
  unfold E_heap E_alen
  dsimp only
  rw [ho]
  dsimp only
  rw [if_pos ⟨rfl, h8⟩, ← Zi_nI]
  rfl
theorem C_dfl : ∀ a, a < 12 → ∀ k, k < E_N a → defaultValue (E_cty a k) = if (E_cty a k).isReference = true then .null else .int 0 := by decide +kernel
theorem C_nw {i : Nat} {t : List Nat} (hf : E_find M.2.2.2.2.2.2.2 pc = some (.new i, 3, a, b)) (hs : C_is h0 h s) (ha : a < 12) (k : ∀ h : E_H, C_is h0 h (C_new s (a + 8, 0) t) → B_R d M (pc + 3, L, .ref (C_n s) :: st) h (sl + E_N a) Φ) : B_R d M (pc, L, st) h sl Φ := by
  have hs2 := hs.push (s2 := C_new s (a + 8, 0) t) rfl (fun j hj => if_neg hj) (fun j hj => C_cell_new hj) (hs.1.new (by show 0 < 2147483648; decide))
  refine B_go (fun _ => ?_) (k _ hs2)
  unfold E_step
  rw [hf]
  dsimp only
  unfold E_heap E_new
  dsimp only
  rw [if_pos ⟨rfl, by omega⟩, hs.2.1]
  refine congrArg (fun l => some (Sum.inl ((pc + 3, L, Value.ref (C_n s) :: st), h ++ [l], sl + E_N a))) ?_
  unfold C_cell
  rw [show C_K (C_new s (a + 8, 0) t) (C_n s) = (a + 8, 0) from if_pos rfl, if_neg (show ¬ (a + 8, 0).1 < 8 by show ¬ a + 8 < 8; omega)]
  refine congrArg (fun l => (Sum.inr (a, l) : E_O)) ?_
  unfold E_dfl
  refine List.map_congr_left (fun k hk => ?_)
  rw [C_dfl a ha k (List.mem_range.mp hk)]
  rw [show (a + 8, 0).1 - 8 = a by show a + 8 - 8 = a; omega]
  unfold C_fv
  by_cases c : (E_cty a k).isReference = true
  all_goals (first | rw [if_pos c, if_pos c] | rw [if_neg c, if_neg c])
  · rw [show C_P (C_new s (a + 8, 0) t) (C_n s) = fun _ => none from if_pos rfl]
    rfl
  · rw [show C_F (C_new s (a + 8, 0) t) (C_n s) = fun _ => 0 from if_pos rfl]
    rfl
/-- a new row of ints or bytes -/
theorem C_na {at_ : Jvm.ClassFile.ArrayType} {z : Int} {t : List Nat} (hf : E_find M.2.2.2.2.2.2.2 pc = some (.newarray at_, 2, a, b)) (hs : C_is h0 h s) (ha : a < 4) (ha2 : a ≠ 2) (h1 : 0 ≤ z) (h2 : z ≤ 67108864) (k : ∀ h : E_H, C_is h0 h (C_new s (a, z.toNat) t) → B_R d M (pc + 2, L, .ref (C_n s) :: st) h (sl + z.toNat) Φ) : B_R d M (pc, L, .int (Zi z) :: st) h sl Φ := by
  have hs2 := hs.push (s2 := C_new s (a, z.toNat) t) rfl (fun j hj => if_neg hj) (fun j hj => C_cell_new hj) (hs.1.new (by show z.toNat < _; omega))
  refine B_go (fun _ => ?_) (k _ hs2)
  have hcl : (Zi z).toNatClampNeg = z.toNat := Zi_clamp h1 (by omega)
  have hneg : ¬ Zi z < 0 := by
    rw [show (0 : Int32) = Zi 0 from rfl, Zi_lt ⟨by omega, by omega⟩ ⟨by omega, by omega⟩]
    omega
  unfold E_step
  rw [hf]
  dsimp only
  unfold E_heap E_newa
  dsimp only
  rw [if_pos ⟨rfl, ha, hneg, by rw [hcl]; omega⟩, hs.2.1, hcl]
  refine congrArg (fun l => some (Sum.inl ((pc + 2, L, Value.ref (C_n s) :: st), h ++ [l], sl + z.toNat))) ?_
  unfold C_cell C_arr E_zer
  rw [show C_K (C_new s (a, z.toNat) t) (C_n s) = (a, z.toNat) from if_pos rfl, if_pos (show (a, z.toNat).1 < 8 by show a < 8; omega)]
  rw [show C_A (C_new s (a, z.toNat) t) (C_n s) = fun _ => 0 from if_pos rfl, show C_L (C_new s (a, z.toNat) t) (C_n s) = fun _ => 0 from if_pos rfl]
  have : a = 0 ∨ a = 1 ∨ a = 3 := by omega
  rcases this with rfl | rfl | rfl <;> rfl
/-- a new row of objects -/
theorem C_nq {i : Nat} {z : Int} {t : List Nat} (hf : E_find M.2.2.2.2.2.2.2 pc = some (.anewarray i, 3, a, b)) (hs : C_is h0 h s) (h4 : 4 ≤ a) (h7 : a < 7) (h1 : 0 ≤ z) (h2 : z ≤ 67108864) (k : ∀ h : E_H, C_is h0 h (C_new s (a, z.toNat) t) → B_R d M (pc + 3, L, .ref (C_n s) :: st) h (sl + z.toNat) Φ) : B_R d M (pc, L, .int (Zi z) :: st) h sl Φ := by
  have hs2 := hs.push (s2 := C_new s (a, z.toNat) t) rfl (fun j hj => if_neg hj) (fun j hj => C_cell_new hj) (hs.1.new (by show z.toNat < _; omega))
  refine B_go (fun _ => ?_) (k _ hs2)
  have hcl : (Zi z).toNatClampNeg = z.toNat := Zi_clamp h1 (by omega)
  have hneg : ¬ Zi z < 0 := by
    rw [show (0 : Int32) = Zi 0 from rfl, Zi_lt ⟨by omega, by omega⟩ ⟨by omega, by omega⟩]
    omega
  unfold E_step
  rw [hf]
  dsimp only
  unfold E_heap E_newq
  dsimp only
  rw [if_pos ⟨rfl, h4, h7, hneg, by rw [hcl]; omega⟩, hs.2.1, hcl]
  refine congrArg (fun l => some (Sum.inl ((pc + 3, L, Value.ref (C_n s) :: st), h ++ [l], sl + z.toNat))) ?_
  unfold C_cell C_arr
  rw [show C_K (C_new s (a, z.toNat) t) (C_n s) = (a, z.toNat) from if_pos rfl, if_pos (show (a, z.toNat).1 < 8 by show a < 8; omega), if_neg (show ¬ (a, z.toNat).1 < 3 by show ¬ a < 3; omega), if_neg (show ¬ (a, z.toNat).1 = 3 by show ¬ a = 3; omega)]
  rw [show C_Q (C_new s (a, z.toNat) t) (C_n s) = fun _ => none from if_pos rfl]
end CR
