/-! the class's rules: copies of rows, calls, returns; what a method leaves -/
theorem C_fit_b {z : Int} (h : -128 ≤ z ∧ z < 128) : fits .byte (.int (Zi z)) = true := by
  show (decide (-128 ≤ Zi z) && decide (Zi z ≤ 127)) = true
  rw [Bool.and_eq_true, decide_eq_true_iff, decide_eq_true_iff, Int32.le_iff_toInt_le, Int32.le_iff_toInt_le, Zi_to (by omega) (by omega), show (-128 : Int32).toInt = -128 from rfl, show (127 : Int32).toInt = 127 from rfl]
  omega
section CR3
variable {d : Nat} {M : E_MI} {h : E_H} {sl pc a b : Nat} {L : E_L} {st : List Value} {Φ : E_R → Prop} {h0 : E_H} {s : C_S}
theorem C_cp {i o q t n0 n1 : Nat} {sp dp n : Int} (hf : E_find M.2.2.2.2.2.2.2 pc = some (.invokestatic i, 3, 998, b)) (hs : C_is h0 h s) (ho : C_K s o = (t, n0)) (hq : C_K s q = (t, n1)) (ht : t < 2) (p0 : 0 ≤ sp) (p1 : 0 ≤ dp) (p2 : 0 ≤ n) (p3 : sp + n ≤ n0) (p4 : dp + n ≤ n1) (hc : E_catS st ≤ 8) (k : ∀ h : E_H, C_is h0 h (C_sAf s q (fun j => if dp ≤ j ∧ j < dp + n then C_A s o (sp + (j - dp)) else C_A s q j)) → B_R d M (pc + 3, L, st) h sl Φ) : B_R d M (pc, L, .int (Zi n) :: .int (Zi dp) :: .ref q :: .int (Zi sp) :: .ref o :: st) h sl Φ := by
  have hn0 := (hs.len (by omega) ho).1
  have hn1 := (hs.len (by omega) hq).1
  have c : ∀ z : Int, 0 ≤ z → z < 2147483648 → ¬ Zi z < 0 ∧ (Zi z).toNatClampNeg = z.toNat := fun z h1 h2 => ⟨by rw [show (0 : Int32) = Zi 0 from rfl, Zi_lt ⟨by omega, by omega⟩ ⟨by omega, by omega⟩]; omega, Zi_clamp h1 h2⟩
  obtain ⟨c1, c2⟩ := c sp p0 (by omega)
  obtain ⟨c3, c4⟩ := c dp p1 (by omega)
  obtain ⟨c5, c6⟩ := c n p2 (by omega)
  have hw := hs.1
  have hs2 := hs.set (s2 := C_sAf s q (fun j => if dp ≤ j ∧ j < dp + n then C_A s o (sp + (j - dp)) else C_A s q j)) (o := q) (by rw [hq]; show t < 20; omega) rfl rfl (fun j hj => C_cell_sAf hj) (hw.sAf (fun j => by
      split
      · exact hw.2.1 _ _
      · exact hw.2.1 _ _) (fun e j => by
      rw [hq] at e
      have e : t = 1 := e
      split
      · exact hw.2.2.1 _ _ (by rw [ho]; exact e)
      · exact hw.2.2.1 _ _ (by rw [hq]; exact e)))
  refine B_go (fun _ => ?_) (k _ hs2)
  unfold E_step
  rw [hf]
  dsimp only
  rw [if_pos ⟨rfl, by decide⟩, if_pos rfl, if_pos (show E_catS (.int (Zi n) :: .int (Zi dp) :: .ref q :: .int (Zi sp) :: .ref o :: st) ≤ 16 by show 1 + (1 + (1 + (1 + (1 + (E_catS st))))) ≤ 16; omega)]
  unfold E_copy
  dsimp only
  rw [hs.aI (by omega) ho, hs.aI (by omega) hq]
  dsimp only
  rw [if_pos ⟨rfl, rfl, ht, c1, c3, c5, by rw [c2, c6]; omega, by rw [c4, c6]; omega, by
    rcases (show t = 0 ∨ t = 1 by omega) with e | e
    · exact .inl e
    · refine .inr (List.all_eq_true.mpr (fun x _ => ?_))
      have := hw.2.2.1 o (((Zi sp).toNatClampNeg + x : Nat) : Int) (by rw [ho]; exact e)
      exact C_fit_b this⟩]
  refine congrArg (fun l => some (Sum.inl ((pc + 3, L, st), h.set q l, sl))) ?_
  unfold C_cell C_arr
  rw [show C_K (C_sAf s q (fun j => if dp ≤ j ∧ j < dp + n then C_A s o (sp + (j - dp)) else C_A s q j)) q = (t, n1) from hq, if_pos (show (t, n1).1 < 8 by show t < 8; omega), if_pos (show (t, n1).1 < 3 by show t < 3; omega)]
  refine congrArg (fun g => (Sum.inl (t, n1, Sum.inl g) : E_O)) ?_
  funext x
  rw [show C_A (C_sAf s q (fun j => if dp ≤ j ∧ j < dp + n then C_A s o (sp + (j - dp)) else C_A s q j)) q = _ from if_pos rfl]
  unfold va_cpy
  rw [c2, c4, c6]
  show (if dp.toNat ≤ x ∧ x < dp.toNat + n.toNat then Zi (C_A s o ((sp.toNat + (x - dp.toNat) : Nat) : Int)) else Zi (C_A s q (x : Int))) = Zi (if dp ≤ (x : Int) ∧ (x : Int) < dp + n then C_A s o (sp + ((x : Int) - dp)) else C_A s q (x : Int))
  by_cases e : dp.toNat ≤ x ∧ x < dp.toNat + n.toNat
  · rw [if_pos e, if_pos (by omega)]
    congr 1
    congr 1
    omega
  · rw [if_neg e, if_neg (by omega)]
/-- a row of bytes doubled -/
theorem C_cl {i o n : Nat} {t : List Nat} (hf : E_find M.2.2.2.2.2.2.2 pc = some (.invokevirtual i, 3, 997, b)) (hs : C_is h0 h s) (hM : M.1 = 16) (hi : i = 310) (ho : C_K s o = (1, n)) (hc : E_catS st ≤ 8) (k : ∀ h : E_H, C_is h0 h (C_sAf (C_new s (1, n) t) (C_n s) (C_A s o)) → B_R d M (pc + 3, L, .ref (C_n s) :: st) h (sl + n) Φ) : B_R d M (pc, L, .ref o :: st) h sl Φ := by
  subst hi
  have hw := hs.1
  have hn := (hs.len (by decide) ho)
  have hs2 := hs.push (s2 := C_sAf (C_new s (1, n) t) (C_n s) (C_A s o)) rfl (fun j hj => if_neg hj) (fun j hj => (C_cell_sAf hj).trans (C_cell_new hj)) ((hw.new hn.1).sAf (fun j => hw.2.1 _ _) (fun _ j => hw.2.2.1 _ _ (by rw [ho])))
  refine B_go (fun _ => ?_) (k _ hs2)
  unfold E_step
  rw [hf]
  dsimp only
  rw [if_neg (by decide)]
  unfold E_cln
  dsimp only
  rw [hs.aI (by decide) ho]
  dsimp only
  rw [if_pos ⟨rfl, hM, rfl, rfl, rfl, hc, List.all_eq_true.mpr (fun x _ => by
      have := hw.2.2.1 o (x : Int) (by rw [ho])
      exact C_fit_b this)⟩, hs.2.1]
  refine congrArg (fun l => some (Sum.inl ((pc + 3, L, Value.ref (C_n s) :: st), h ++ [l], sl + n))) ?_
  unfold C_cell C_arr
  rw [show C_K (C_sAf (C_new s (1, n) t) (C_n s) (C_A s o)) (C_n s) = (1, n) from if_pos rfl]
  rw [show C_A (C_sAf (C_new s (1, n) t) (C_n s) (C_A s o)) (C_n s) = C_A s o from if_pos rfl]
  rfl
theorem C_cc {i o n : Nat} (hf : E_find M.2.2.2.2.2.2.2 pc = some (.checkcast i, 3, a, b)) (hs : C_is h0 h s) (hM : M.1 = 16) (hi : i = 311) (ho : C_K s o = (1, n)) (k : B_R d M (pc + 3, L, .ref o :: st) h sl Φ) : B_R d M (pc, L, .ref o :: st) h sl Φ := by
  subst hi
  refine B_go (f2 := (pc + 3, L, .ref o :: st)) (h2 := h) (s2 := sl) (fun _ => ?_) k
  unfold E_step
  rw [hf]
  dsimp only
  unfold E_heap E_cst
  dsimp only
  rw [hs.aI (by decide) ho]
  dsimp only
  rw [if_pos ⟨rfl, hM, rfl, rfl⟩]
  rfl
/-- a row of n rows of k bytes -/
def C_newM (s : C_S) (n k : Nat) (t : List Nat) : C_S := (C_n s + (1 + n), (fun j => if j < C_n s then C_K s j else if j = C_n s then (7, n) else if j < C_n s + (1 + n) then (1, k) else C_K s j), (fun j => if C_n s ≤ j ∧ j < C_n s + (1 + n) then t else C_T s j), C_F s, C_P s, (fun j => if C_n s ≤ j then fun _ => 0 else C_A s j), C_L s, (fun j => if j = C_n s then (fun i => if 0 ≤ i ∧ i < n then some (C_n s + 1 + i.toNat) else none) else C_Q s j))
theorem C_mna {i : Nat} {z y : Int} {t : List Nat} (hf : E_find M.2.2.2.2.2.2.2 pc = some (.multianewarray i 2, 4, a, b)) (hs : C_is h0 h s) (h1 : 0 ≤ z) (h2 : z ≤ 67108864) (h3 : 0 ≤ y) (h4 : y ≤ 67108864) (k : ∀ h : E_H, C_is h0 h (C_newM s z.toNat y.toNat t) → B_R d M (pc + 4, L, .ref (C_n s) :: st) h (sl + (z.toNat + z.toNat * y.toNat)) Φ) : B_R d M (pc, L, .int (Zi y) :: .int (Zi z) :: st) h sl Φ := by
  have c : ∀ z : Int, 0 ≤ z → z ≤ 67108864 → ¬ Zi z < 0 ∧ (Zi z).toNatClampNeg = z.toNat := fun z h1 h2 => ⟨by rw [show (0 : Int32) = Zi 0 from rfl, Zi_lt ⟨by omega, by omega⟩ ⟨by omega, by omega⟩]; omega, Zi_clamp h1 (by omega)⟩
  obtain ⟨c1, c2⟩ := c z h1 h2
  obtain ⟨c3, c4⟩ := c y h3 h4
  have hw := hs.1
  obtain ⟨w1, w2, w3, w4, w5⟩ := hw
  generalize hN : z.toNat = N at *
  generalize hY : y.toNat = Y at *
  have hs2 : C_is h0 (h ++ (.inl (7, (N, .inr (.inr (.inr (.inr (fun i => if i < N then some (C_n s + 1 + i) else none)))))) :: List.replicate N (.inl (1, (Y, .inl (fun _ => 0)))))) (C_newM s N Y t) := by
    have hold : ∀ j, j < C_n s → C_cell (C_newM s N Y t) j = C_cell s j := fun j hj => C_cell_eq (if_pos hj) rfl rfl (if_neg (by omega)) rfl (if_neg (by omega))
    refine ⟨⟨w1, fun j i => ?_, fun j i hk => ?_, fun j hk => ?_, by show 132 ≤ C_n s + (1 + N); omega⟩, ?_, fun j hk => ?_, fun j j1 j2 => ?_⟩
    · show Zr ((if C_n s ≤ j then fun _ => 0 else C_A s j) i)
      split
      · exact ⟨by show (-2147483648 : Int) ≤ 0; omega, by show (0 : Int) < _; omega⟩
      · exact w2 j i
    · show -128 ≤ (if C_n s ≤ j then fun _ => 0 else C_A s j) i ∧ (if C_n s ≤ j then fun _ => 0 else C_A s j) i < 128
      split
      · exact ⟨by show (-128 : Int) ≤ 0; omega, by show (0 : Int) < _; omega⟩
      · rename_i e
        have hk : (if j < C_n s then C_K s j else if j = C_n s then (7, N) else if j < C_n s + (1 + N) then (1, Y) else C_K s j).1 = 1 := hk
        rw [if_pos (by omega)] at hk
        exact w3 j i hk
    · have hk : (if j < C_n s then C_K s j else if j = C_n s then (7, N) else if j < C_n s + (1 + N) then (1, Y) else C_K s j).1 < 20 := hk
      show j < C_n s + (1 + N) ∧ _ ∧ (if j < C_n s then C_K s j else if j = C_n s then (7, N) else if j < C_n s + (1 + N) then (1, Y) else C_K s j).2 < 2147483648
      by_cases e1 : j < C_n s
      · rw [if_pos e1] at hk ⊢
        have := w4 j hk
        exact ⟨by omega, this.2.1, this.2.2⟩
      · rw [if_neg e1] at hk ⊢
        by_cases e2 : j = C_n s
        · rw [if_pos e2]
          exact ⟨by omega, .inr (by omega), by show N < _; omega⟩
        · rw [if_neg e2] at hk ⊢
          by_cases e3 : j < C_n s + (1 + N)
          · rw [if_pos e3]
            exact ⟨by omega, .inr (by omega), by show Y < _; omega⟩
          · rw [if_neg e3] at hk
            have := w4 j hk
            omega
    · rw [List.length_append, hs.2.1, List.length_cons, List.length_replicate]
      show _ = C_n s + (1 + N)
      omega
    · have hk : (if j < C_n s then C_K s j else if j = C_n s then (7, N) else if j < C_n s + (1 + N) then (1, Y) else C_K s j).1 < 20 := hk
      by_cases e1 : j < C_n s
      · rw [if_pos e1] at hk
        rw [List.getElem?_append_left (by rw [hs.2.1]; exact e1), hold j e1]
        exact hs.2.2.1 j hk
      · rw [if_neg e1] at hk
        rw [List.getElem?_append_right (by rw [hs.2.1]; omega), hs.2.1]
        by_cases e2 : j = C_n s
        · subst e2
          rw [Nat.sub_self]
          refine congrArg some ?_
          unfold C_cell C_arr
          rw [show C_K (C_newM s N Y t) (C_n s) = (7, N) by show (if C_n s < C_n s then C_K s (C_n s) else if C_n s = C_n s then (7, N) else _) = _; rw [if_neg (by omega), if_pos rfl]]
          rw [show C_Q (C_newM s N Y t) (C_n s) = _ from if_pos rfl]
          refine congrArg (fun g => (Sum.inl (7, N, Sum.inr (Sum.inr (Sum.inr (Sum.inr g)))) : E_O)) ?_
          funext x
          show _ = (if 0 ≤ (x : Int) ∧ (x : Int) < (N : Int) then some (C_n s + 1 + (x : Int).toNat) else none)
          by_cases e : x < N
          · rw [if_pos e, if_pos (by omega)]
            congr 1
          · rw [if_neg e, if_neg (by omega)]
        · rw [if_neg e2] at hk
          have e3 : j < C_n s + (1 + N) := by
            apply Classical.byContradiction
            intro e3
            rw [if_neg e3] at hk
            have := w4 j hk
            omega
          obtain ⟨x, rfl⟩ : ∃ x, j = C_n s + (x + 1) := ⟨j - C_n s - 1, by omega⟩
          rw [show C_n s + (x + 1) - C_n s = x + 1 by omega, List.getElem?_cons_succ, List.getElem?_replicate, if_pos (by omega)]
          refine congrArg some ?_
          unfold C_cell C_arr
          rw [show C_K (C_newM s N Y t) (C_n s + (x + 1)) = (1, Y) by show (if C_n s + (x + 1) < C_n s then C_K s _ else if C_n s + (x + 1) = C_n s then (7, N) else if C_n s + (x + 1) < C_n s + (1 + N) then (1, Y) else C_K s _) = _; rw [if_neg (by omega), if_neg (by omega), if_pos e3]]
          rw [show C_A (C_newM s N Y t) (C_n s + (x + 1)) = _ from if_pos (by omega)]
          rfl
    · rw [List.getElem?_append_left (by rw [hs.2.1]; omega)]
      exact hs.2.2.2 j j1 j2
  refine B_go (fun _ => ?_) (k _ hs2)
  unfold E_step
  rw [hf]
  dsimp only
  unfold E_heap
  dsimp only
  rw [if_pos rfl]
  unfold E_mna
  dsimp only
  rw [if_pos ⟨rfl, c1, c3, by rw [c2]; omega, by rw [c4]; omega⟩, c2, c4, hs.2.1]
/-- what a method of the class does: behind the call a state of which post holds, with so many slots -/
def C_ok (d a : Nat) (vs : List Value) (s : C_S) (post : Option Value → C_S → Nat → Prop) : Prop := ∀ (h0 h : E_H), C_is h0 h s → B_C d a vs h (fun r => ∃ s2 : C_S, C_is h0 r.2.1 s2 ∧ post r.1 s2 r.2.2)
theorem C_ok.weak {vs : List Value} {p q : Option Value → C_S → Nat → Prop} (k : C_ok d a vs s p) (i : ∀ x s2 n, p x s2 n → q x s2 n) : C_ok d a vs s q := fun h0 h hs => (k h0 h hs).weak (fun _ ⟨s2, e1, e2⟩ => ⟨s2, e1, i _ _ _ e2⟩)
theorem C_ok.deep {vs : List Value} {p : Option Value → C_S → Nat → Prop} (k : C_ok d a vs s p) (j : Nat) : C_ok (d + j) a vs s p := fun h0 h hs => (k h0 h hs).deep j
theorem C_enter {vs : List Value} {post : Option Value → C_S → Nat → Prop} (hM : E_mi a = some M) (hl : (lg_sl vs).length ≤ M.2.2.2.1) (k : ∀ (h0 h : E_H), C_is h0 h s → B_R d M (0, lv_args 0 vs, []) h 0 (fun r => ∃ s2 : C_S, C_is h0 r.2.1 s2 ∧ post r.1 s2 r.2.2)) : C_ok (d + 1) a vs s post := fun h0 h hs => B_enter hM hl (k h0 h hs)
theorem C_callV {i o : Nat} {M2 : E_MI} {As rest : List Value} {post : Option Value → C_S → Nat → Prop} (hf : E_find M.2.2.2.2.2.2.2 pc = some (.invokevirtual i, 3, a, b)) (ha : a < 900) (hM : E_mi a = some M2) (h12 : M2.1 < 12) (hp : E_pop2 (!M2.2.2.2.2.2.1) M2.2.2.2.2.2.2.1 st = some (.ref o :: As, rest)) (hk1 : M2.2.2.2.2.2.1 = false) (hk2 : E_isI M2 = false) (hc : E_catS rest ≤ 8) (hs : C_is h0 h s) (hk : C_K s o = (M2.1 + 8, 0)) (hO : C_ok d a (.ref o :: As) s post) (k : ∀ (x : Option Value) (h : E_H) (s2 : C_S) (n : Nat), C_is h0 h s2 → post x s2 n → B_R d M (pc + 3, L, x.toList ++ rest) h (sl + n) Φ) : B_R d M (pc, L, st) h sl Φ := by
  refine B_callV hf ha hM hp hk1 hk2 (hs.o h12 hk) (by omega) hc (hO h0 h hs) (fun x h2 s2 q => ?_)
  obtain ⟨s3, q1, q2⟩ := q
  exact k x h2 s3 s2 q1 q2
theorem C_callS {i : Nat} {M2 : E_MI} {vs rest : List Value} {post : Option Value → C_S → Nat → Prop} (hf : E_find M.2.2.2.2.2.2.2 pc = some (.invokestatic i, 3, a, b)) (ha : a < 288) (hM : E_mi a = some M2) (hp : E_pop2 (!M2.2.2.2.2.2.1) M2.2.2.2.2.2.2.1 st = some (vs, rest)) (hk : M2.2.2.2.2.2.1 = true) (hc : E_catS rest ≤ 8) (hs : C_is h0 h s) (hO : C_ok d a vs s post) (k : ∀ (x : Option Value) (h : E_H) (s2 : C_S) (n : Nat), C_is h0 h s2 → post x s2 n → B_R d M (pc + 3, L, x.toList ++ rest) h (sl + n) Φ) : B_R d M (pc, L, st) h sl Φ := by
  refine Z_callS hf ha hM hp hk hc (hO h0 h hs) (fun x h2 s2 q => ?_)
  obtain ⟨s3, q1, q2⟩ := q
  exact k x h2 s3 s2 q1 q2
/-- a call of a static method of the JDK -/
theorem C_callJ {i : Nat} {M2 : E_MI} {vs rest : List Value} {post : Option Value → C_S → Nat → Prop} (hf : E_find M.2.2.2.2.2.2.2 pc = some (.invokestatic i, 3, a, b)) (ha : 290 ≤ a) (ha2 : a < 900) (hM : E_mi a = some M2) (hp : E_pop2 (!M2.2.2.2.2.2.1) M2.2.2.2.2.2.2.1 st = some (vs, rest)) (hk : M2.2.2.2.2.2.1 = true) (hc : E_catS rest ≤ 8) (hs : C_is h0 h s) (hO : C_ok d a vs s post) (k : ∀ (x : Option Value) (h : E_H) (s2 : C_S) (n : Nat), C_is h0 h s2 → post x s2 n → B_R d M (pc + 3, L, x.toList ++ rest) h (sl + n) Φ) : B_R d M (pc, L, st) h sl Φ := by
  obtain ⟨m1, ⟨x, h2, s2⟩, e1, s3, q1, q2⟩ := hO h0 h hs
  obtain ⟨m2, n, r, e, q⟩ := k x h2 s3 s2 q1 q2
  refine ⟨m1 + m2, n + 1, r, ?_, q⟩
  have e1' := B_call_le m1 m2 d _ _ _ _ e1
  have e' := B_run_le (B_call_le m2 m1 d) n 0 _ _ _ _ e
  rw [show m2 + m1 = m1 + m2 by omega] at e'
  refine S_go ?_ e'
  unfold E_step
  rw [hf]
  dsimp only
  rw [if_pos ⟨rfl, by omega⟩, if_neg (by omega), if_neg (by omega)]
  unfold E_inv
  rw [hM]
  dsimp only
  rw [hp]
  dsimp only
  rw [if_pos (show E_kok 0 M2 vs h = true from hk), if_pos hc, e1']
/-- a constructor -/
theorem C_callI {i o : Nat} {M2 : E_MI} {As rest : List Value} {post : Option Value → C_S → Nat → Prop} (hf : E_find M.2.2.2.2.2.2.2 pc = some (.invokespecial i, 3, a, b)) (ha : a < 900) (hM : E_mi a = some M2) (hp : E_pop2 (!M2.2.2.2.2.2.1) M2.2.2.2.2.2.2.1 st = some (.ref o :: As, rest)) (hk1 : M2.2.2.2.2.2.1 = false) (hk2 : E_isI M2 = true) (hk3 : M2.2.2.2.2.1 = none) (hc : E_catS rest ≤ 8) (hs : C_is h0 h s) (hO : C_ok d a (.ref o :: As) s post) (k : ∀ (x : Option Value) (h : E_H) (s2 : C_S) (n : Nat), C_is h0 h s2 → post x s2 n → B_R d M (pc + 3, L, x.toList ++ rest) h (sl + n) Φ) : B_R d M (pc, L, st) h sl Φ := by
  obtain ⟨m1, ⟨x, h2, s2⟩, e1, s3, q1, q2⟩ := hO h0 h hs
  obtain ⟨m2, n, r, e, q⟩ := k x h2 s3 s2 q1 q2
  refine ⟨m1 + m2, n + 1, r, ?_, q⟩
  have e1' := B_call_le m1 m2 d _ _ _ _ e1
  have e' := B_run_le (B_call_le m2 m1 d) n 0 _ _ _ _ e
  rw [show m2 + m1 = m1 + m2 by omega] at e'
  refine S_go ?_ e'
  unfold E_step
  rw [hf]
  dsimp only
  rw [if_pos ⟨rfl, by omega⟩, if_neg (by omega)]
  unfold E_inv
  rw [hM]
  dsimp only
  rw [hp]
  dsimp only
  rw [if_pos (show E_kok 2 M2 (.ref o :: As) h = true by show (!M2.2.2.2.2.2.1 && E_isI M2 && decide (M2.2.2.2.2.1 = none)) = true; rw [hk1, hk2, hk3]; rfl), if_pos hc, e1']
theorem C_obj {i o : Nat} (hf : E_find M.2.2.2.2.2.2.2 pc = some (.invokespecial i, 3, 999, b)) (hc : E_catS st ≤ 8) (k : B_R d M (pc + 3, L, st) h sl Φ) : B_R d M (pc, L, .ref o :: st) h sl Φ := by
  refine B_go (f2 := (pc + 3, L, st)) (h2 := h) (s2 := sl) (fun _ => ?_) k
  unfold E_step
  rw [hf]
  dsimp only
  rw [if_pos ⟨rfl, by decide⟩, if_pos rfl, if_pos hc]
/-- Math.max, Math.min -/
theorem C_max {i : Nat} {x y : Int} (hf : E_find M.2.2.2.2.2.2.2 pc = some (.invokestatic i, 3, 288, 0)) (hx : Zr x) (hy : Zr y) (hc : E_catS st ≤ 8) (k : B_R d M (pc + 3, L, .int (Zi (if x < y then y else x)) :: st) h sl Φ) : B_R d M (pc, L, .int (Zi y) :: .int (Zi x) :: st) h sl Φ := by
  refine B_go (f2 := (pc + 3, L, .int (Zi (if x < y then y else x)) :: st)) (h2 := h) (s2 := sl) (fun _ => ?_) k
  unfold E_step
  rw [hf]
  dsimp only
  rw [if_pos ⟨rfl, by decide⟩, if_neg (by decide), if_pos (by decide), if_pos ⟨rfl, by show 1 + (1 + (E_catS st)) ≤ 16; omega⟩]
  unfold E_mm
  dsimp only
  rw [if_pos rfl]
  by_cases c : x < y
  · rw [if_pos c, if_pos ((Zi_lt hx hy).mpr c)]
  · rw [if_neg c, if_neg (fun z => c ((Zi_lt hx hy).mp z))]
theorem C_min {i : Nat} {x y : Int} (hf : E_find M.2.2.2.2.2.2.2 pc = some (.invokestatic i, 3, 289, 0)) (hx : Zr x) (hy : Zr y) (hc : E_catS st ≤ 8) (k : B_R d M (pc + 3, L, .int (Zi (if y < x then y else x)) :: st) h sl Φ) : B_R d M (pc, L, .int (Zi y) :: .int (Zi x) :: st) h sl Φ := by
  refine B_go (f2 := (pc + 3, L, .int (Zi (if y < x then y else x)) :: st)) (h2 := h) (s2 := sl) (fun _ => ?_) k
  unfold E_step
  rw [hf]
  dsimp only
  rw [if_pos ⟨rfl, by decide⟩, if_neg (by decide), if_pos (by decide), if_pos ⟨rfl, by show 1 + (1 + (E_catS st)) ≤ 16; omega⟩]
  unfold E_mm
  dsimp only
  rw [if_neg (by decide)]
  by_cases c : y < x
  · rw [if_pos c, if_pos ((Zi_lt hy hx).mpr c)]
  · rw [if_neg c, if_neg (fun z => c ((Zi_lt hy hx).mp z))]
theorem C_aret {v : Nat} (hf : E_find M.2.2.2.2.2.2.2 pc = some (.areturn, 1, a, b)) (hty : (∃ C, M.2.2.2.2.1 = some (.object C)) ∨ ∃ t, M.2.2.2.2.1 = some (.array t)) (q : Φ (some (.ref v), h, sl)) : B_R d M (pc, L, [.ref v]) h sl Φ := by
  refine B_end (x := (some (.ref v), h, sl)) (fun o => ?_) q
  unfold E_step
  rw [hf]
  dsimp only
  rcases hty with ⟨C, e⟩ | ⟨t, e⟩
  · rw [e]
    dsimp only
    rw [if_pos rfl]
  · rw [e]
    dsimp only
    rw [if_pos rfl]
theorem C_nret {C : String} (hf : E_find M.2.2.2.2.2.2.2 pc = some (.areturn, 1, a, b)) (hty : M.2.2.2.2.1 = some (.object C)) (q : Φ (some .null, h, sl)) : B_R d M (pc, L, [.null]) h sl Φ := by
  refine B_end (x := (some .null, h, sl)) (fun o => ?_) q
  unfold E_step
  rw [hf]
  dsimp only
  rw [hty]
  dsimp only
  rw [if_pos rfl]
end CR3
/-! what stays -/
def C_at (s s2 : C_S) (j : Nat) : Prop := C_F s2 j = C_F s j ∧ C_P s2 j = C_P s j ∧ C_A s2 j = C_A s j ∧ C_L s2 j = C_L s j ∧ C_Q s2 j = C_Q s j
/-- only places whose path is in X change; new ones have such a path -/
def C_fr (X : List Nat → Prop) (s s2 : C_S) : Prop := C_n s ≤ C_n s2 ∧ (∀ j, j < C_n s → C_K s2 j = C_K s j ∧ C_T s2 j = C_T s j) ∧ (∀ j, j < C_n s → ¬ X (C_T s j) → C_at s s2 j) ∧ (∀ j, C_n s ≤ j → j < C_n s2 → X (C_T s2 j))
theorem C_at.refl (s : C_S) (j : Nat) : C_at s s j := ⟨rfl, rfl, rfl, rfl, rfl⟩
theorem C_at.trans {s u w : C_S} {j : Nat} (h : C_at s u j) (g : C_at u w j) : C_at s w j := ⟨g.1.trans h.1, g.2.1.trans h.2.1, g.2.2.1.trans h.2.2.1, g.2.2.2.1.trans h.2.2.2.1, g.2.2.2.2.trans h.2.2.2.2⟩
theorem C_fr.refl (X : List Nat → Prop) (s : C_S) : C_fr X s s := ⟨Nat.le_refl _, fun _ _ => ⟨rfl, rfl⟩, fun _ _ _ => C_at.refl s _, fun j h1 h2 => by omega⟩
theorem C_fr.trans {X Y Z : List Nat → Prop} {s u w : C_S} (h : C_fr X s u) (g : C_fr Y u w) (hX : ∀ t, X t → Z t) (hY : ∀ t, Y t → Z t) : C_fr Z s w := by
  obtain ⟨h1, h2, h3, h4⟩ := h
  obtain ⟨g1, g2, g3, g4⟩ := g
  refine ⟨Nat.le_trans h1 g1, fun j hj => ⟨((g2 j (by omega)).1).trans (h2 j hj).1, ((g2 j (by omega)).2).trans (h2 j hj).2⟩, fun j hj hx => ?_, fun j j1 j2 => ?_⟩
  · exact (h3 j hj (fun e => hx (hX _ e))).trans (g3 j (by omega) (fun e => hx (hY _ (by rw [(h2 j hj).2] at e; exact e))))
  · by_cases c : j < C_n u
    · rw [(g2 j c).2]
      exact hX _ (h4 j j1 c)
    · exact hY _ (g4 j (by omega) j2)
theorem C_fr.tr {X : List Nat → Prop} {s u w : C_S} (h : C_fr X s u) (g : C_fr X u w) : C_fr X s w := h.trans g (fun _ e => e) (fun _ e => e)
theorem C_fr.weak {X Y : List Nat → Prop} {s u : C_S} (h : C_fr X s u) (hX : ∀ t, X t → Y t) : C_fr Y s u := h.trans (C_fr.refl Y u) hX (fun _ e => e)
theorem C_fr.sF {X : List Nat → Prop} {s u : C_S} (h : C_fr X s u) {o b : Nat} {z : Int} (ho : X (C_T u o)) : C_fr X s (C_sF u o b z) := h.tr ⟨Nat.le_refl _, fun _ _ => ⟨rfl, rfl⟩, fun j _ hx => ⟨by funext c; exact if_neg (fun e => hx (by rw [e.1]; exact ho)), rfl, rfl, rfl, rfl⟩, fun j h1 h2 => absurd (show j < C_n u from h2) (by omega)⟩
theorem C_fr.sP {X : List Nat → Prop} {s u : C_S} (h : C_fr X s u) {o b : Nat} {z : Option Nat} (ho : X (C_T u o)) : C_fr X s (C_sP u o b z) := h.tr ⟨Nat.le_refl _, fun _ _ => ⟨rfl, rfl⟩, fun j _ hx => ⟨rfl, by funext c; exact if_neg (fun e => hx (by rw [e.1]; exact ho)), rfl, rfl, rfl⟩, fun j h1 h2 => absurd (show j < C_n u from h2) (by omega)⟩
theorem C_fr.sA {X : List Nat → Prop} {s u : C_S} (h : C_fr X s u) {o : Nat} {i z : Int} (ho : X (C_T u o)) : C_fr X s (C_sA u o i z) := h.tr ⟨Nat.le_refl _, fun _ _ => ⟨rfl, rfl⟩, fun j _ hx => ⟨rfl, rfl, by funext c; exact if_neg (fun e => hx (by rw [e.1]; exact ho)), rfl, rfl⟩, fun j h1 h2 => absurd (show j < C_n u from h2) (by omega)⟩
theorem C_fr.sL {X : List Nat → Prop} {s u : C_S} (h : C_fr X s u) {o : Nat} {i : Int} {z : Int64} (ho : X (C_T u o)) : C_fr X s (C_sL u o i z) := h.tr ⟨Nat.le_refl _, fun _ _ => ⟨rfl, rfl⟩, fun j _ hx => ⟨rfl, rfl, rfl, by funext c; exact if_neg (fun e => hx (by rw [e.1]; exact ho)), rfl⟩, fun j h1 h2 => absurd (show j < C_n u from h2) (by omega)⟩
theorem C_fr.sQ {X : List Nat → Prop} {s u : C_S} (h : C_fr X s u) {o : Nat} {i : Int} {z : Option Nat} (ho : X (C_T u o)) : C_fr X s (C_sQ u o i z) := h.tr ⟨Nat.le_refl _, fun _ _ => ⟨rfl, rfl⟩, fun j _ hx => ⟨rfl, rfl, rfl, rfl, by funext c; exact if_neg (fun e => hx (by rw [e.1]; exact ho))⟩, fun j h1 h2 => absurd (show j < C_n u from h2) (by omega)⟩
theorem C_fr.sAf {X : List Nat → Prop} {s u : C_S} (h : C_fr X s u) {o : Nat} {g : Int → Int} (ho : X (C_T u o)) : C_fr X s (C_sAf u o g) := h.tr ⟨Nat.le_refl _, fun _ _ => ⟨rfl, rfl⟩, fun j _ hx => ⟨rfl, rfl, if_neg (fun e => hx (by rw [e]; exact ho)), rfl, rfl⟩, fun j h1 h2 => absurd (show j < C_n u from h2) (by omega)⟩
theorem C_fr.new {X : List Nat → Prop} {s u : C_S} (h : C_fr X s u) {k : Nat × Nat} {t : List Nat} (ht : X t) : C_fr X s (C_new u k t) := h.tr ⟨by show C_n u ≤ C_n u + 1; omega, fun j hj => ⟨if_neg (by omega), if_neg (by omega)⟩, fun j hj _ => ⟨if_neg (by omega), if_neg (by omega), if_neg (by omega), if_neg (by omega), if_neg (by omega)⟩, fun j h1 h2 => by
  have h2 : j < C_n u + 1 := h2
  have : j = C_n u := by omega
  show X (if j = C_n u then t else C_T u j)
  rw [if_pos this]
  exact ht⟩
theorem C_fr.newM {X : List Nat → Prop} {s u : C_S} (h : C_fr X s u) {n k : Nat} {t : List Nat} (ht : X t) : C_fr X s (C_newM u n k t) := h.tr ⟨by show C_n u ≤ C_n u + (1 + n); omega, fun j hj => ⟨if_pos hj, if_neg (by omega)⟩, fun j hj _ => ⟨rfl, rfl, if_neg (by omega), rfl, if_neg (by omega)⟩, fun j h1 h2 => by
  have h2 : j < C_n u + (1 + n) := h2
  show X (if C_n u ≤ j ∧ j < C_n u + (1 + n) then t else C_T u j)
  rw [if_pos ⟨h1, h2⟩]
  exact ht⟩
theorem C_fr.K {X : List Nat → Prop} {s u : C_S} (h : C_fr X s u) (w : C_wf s) {o : Nat} {k : Nat × Nat} (hk : C_K s o = k) (hk2 : k.1 < 20) : C_K u o = k := by
  rw [(h.2.1 o (w.2.2.2.1 o (by rw [hk]; exact hk2)).1).1]
  exact hk
/-! methods that change nothing -/
section CRD
variable {d : Nat} {M : E_MI} {h : E_H} {sl pc a b : Nat} {L : E_L} {st : List Value} {Φ : E_R → Prop} {h0 : E_H} {s : C_S}
def C_rd (d a : Nat) (vs : List Value) (s : C_S) (post : Option Value → Prop) : Prop := ∀ (h0 h : E_H), C_is h0 h s → B_C d a vs h (fun r => r.2.1 = h ∧ r.2.2 = 0 ∧ post r.1)
theorem C_rd.ok {vs : List Value} {post : Option Value → Prop} (k : C_rd d a vs s post) : C_ok d a vs s (fun x s2 n => s2 = s ∧ n = 0 ∧ post x) := fun h0 h hs => (k h0 h hs).weak (fun r ⟨e1, e2, e3⟩ => ⟨s, by rw [e1]; exact hs, rfl, e2, e3⟩)
theorem C_rd.deep {vs : List Value} {post : Option Value → Prop} (k : C_rd d a vs s post) (j : Nat) : C_rd (d + j) a vs s post := fun h0 h hs => (k h0 h hs).deep j
theorem C_enterR {vs : List Value} {post : Option Value → Prop} (hM : E_mi a = some M) (hl : (lg_sl vs).length ≤ M.2.2.2.1) (k : ∀ (h0 h : E_H), C_is h0 h s → B_R d M (0, lv_args 0 vs, []) h 0 (fun r => r.2.1 = h ∧ r.2.2 = 0 ∧ post r.1)) : C_rd (d + 1) a vs s post := fun h0 h hs => B_enter hM hl (k h0 h hs)
theorem C_callVR {i o : Nat} {M2 : E_MI} {As rest : List Value} {post : Option Value → Prop} (hf : E_find M.2.2.2.2.2.2.2 pc = some (.invokevirtual i, 3, a, b)) (ha : a < 900) (hM : E_mi a = some M2) (h12 : M2.1 < 12) (hp : E_pop2 (!M2.2.2.2.2.2.1) M2.2.2.2.2.2.2.1 st = some (.ref o :: As, rest)) (hk1 : M2.2.2.2.2.2.1 = false) (hk2 : E_isI M2 = false) (hc : E_catS rest ≤ 8) (hs : C_is h0 h s) (hk : C_K s o = (M2.1 + 8, 0)) (hO : C_rd d a (.ref o :: As) s post) (k : ∀ (x : Option Value), post x → B_R d M (pc + 3, L, x.toList ++ rest) h sl Φ) : B_R d M (pc, L, st) h sl Φ := by
  refine B_callV hf ha hM hp hk1 hk2 (hs.o h12 hk) (by omega) hc (hO h0 h hs) (fun x h2 s2 q => ?_)
  obtain ⟨q1, q2, q3⟩ := q
  have q1 : h2 = h := q1
  have q2 : s2 = 0 := q2
  subst q1
  subst q2
  exact k x q3
theorem C_callSR {i : Nat} {M2 : E_MI} {vs rest : List Value} {post : Option Value → Prop} (hf : E_find M.2.2.2.2.2.2.2 pc = some (.invokestatic i, 3, a, b)) (ha : a < 288) (hM : E_mi a = some M2) (hp : E_pop2 (!M2.2.2.2.2.2.1) M2.2.2.2.2.2.2.1 st = some (vs, rest)) (hk : M2.2.2.2.2.2.1 = true) (hc : E_catS rest ≤ 8) (hs : C_is h0 h s) (hO : C_rd d a vs s post) (k : ∀ (x : Option Value), post x → B_R d M (pc + 3, L, x.toList ++ rest) h sl Φ) : B_R d M (pc, L, st) h sl Φ := by
  refine Z_callS hf ha hM hp hk hc (hO h0 h hs) (fun x h2 s2 q => ?_)
  obtain ⟨q1, q2, q3⟩ := q
  have q1 : h2 = h := q1
  have q2 : s2 = 0 := q2
  subst q1
  subst q2
  exact k x q3
end CRD
theorem C_goto {d : Nat} {M : E_MI} {h : E_H} {sl pc a b p2 : Nat} {L : E_L} {st : List Value} {Φ : E_R → Prop} {off : Int} (hf : E_find M.2.2.2.2.2.2.2 pc = some (.goto off, 3, a, b)) (ht : E_tok pc off = true) (hn : E_tg pc off = p2) (k : B_R d M (p2, L, st) h sl Φ) : B_R d M (pc, L, st) h sl Φ := by
  subst hn
  refine Z_go (f2 := (E_tg pc off, L, st)) (fun o => ?_) k
  unfold E_step
  rw [hf]
  dsimp only
  unfold E_heap E_f1 E_pure E_goto
  dsimp only
  rw [if_pos ⟨rfl, ht⟩]
  rfl
