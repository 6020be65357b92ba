/-! feed: what comes onto the tape isn't known, how much is -/
def T_W (Φ : E_R → Prop) (x : Option E_R) : Prop := ∃ r, x = some r ∧ Φ r
theorem T_of {Φ : E_R → Prop} {x y : Option E_R} (e : x = y) (k : T_W Φ y) : T_W Φ x := e ▸ k
section TY
variable {orc : Nat → List Value → E_H → Option E_R} {M : E_MI} {h : E_H} {sl n pc a b : Nat} {L : E_L} {st : List Value} {Φ : E_R → Prop}
theorem T_end {f : E_F} {x : E_R} (hs : E_step orc M f h sl = some (.inr x)) (k : Φ x) : T_W Φ (E_run orc M (n + 1) f h sl) := ⟨x, S_end hs, k⟩
theorem T_putf {i o : Nat} {fs : List Value} {v : Value} (hf : E_find M.2.2.2.2.2.2.2 pc = some (.putfield i, 3, a, b)) (ho : h[o]? = some (.inr (a, fs))) (hN : b < E_N a ∧ b < fs.length ∧ E_fin a b = false ∧ narrow (E_cty a b) v = v ∧ fits (E_cty a b) v = true) (k : ∀ h2 : E_H, h2[o]? = some (.inr (a, fs.set b v)) → (∀ j, j ≠ o → h2[j]? = h[j]?) → h2.length = h.length → T_W Φ (E_run orc M n (pc + 3, L, st) h2 sl)) : T_W Φ (E_run orc M (n + 1) (pc, L, v :: .ref o :: st) h sl) := by
  have hl : o < h.length := (List.getElem?_eq_some_iff.mp ho).1
  refine T_of (S_putf hf ho hN rfl) (k _ ?_ (fun j hj => ?_) (List.length_set ..))
  · rw [List.getElem?_set, if_pos rfl, if_pos hl]
  · rw [List.getElem?_set, if_neg (fun e => hj e.symm)]
theorem T_bst {o m : Nat} {g : Nat → Int32} {x i : Int32} (hf : E_find M.2.2.2.2.2.2.2 pc = some (.bastore, 1, a, b)) (ho : h[o]? = some (.inl (1, m, .inl g))) (hi : E_inb i m = true) (k : ∀ (h2 : E_H) (g2 : Nat → Int32), h2[o]? = some (.inl (1, m, .inl g2)) → (∀ j, j ≠ o → h2[j]? = h[j]?) → h2.length = h.length → T_W Φ (E_run orc M n (pc + 1, L, st) h2 sl)) : T_W Φ (E_run orc M (n + 1) (pc, L, .int x :: .int i :: .ref o :: st) h sl) := by
  have hl : o < h.length := (List.getElem?_eq_some_iff.mp ho).1
  refine T_of (S_go (f2 := (pc + 1, L, st)) (h2 := h.set o (.inl (1, m, .inl (upd g i.toNatClampNeg (vp_nar .byte x))))) (s2 := sl) ?_ rfl) (k _ (upd g i.toNatClampNeg (vp_nar .byte x)) ?_ (fun j hj => ?_) (List.length_set ..))
  · unfold E_step
    rw [hf]
    dsimp only
    unfold E_heap E_bst
    dsimp only
    rw [ho]
    dsimp only
    rw [if_pos ⟨rfl, hi⟩, if_pos rfl]
    rfl
  · rw [List.getElem?_set, if_pos rfl, if_pos hl]
  · rw [List.getElem?_set, if_neg (fun e => hj e.symm)]
theorem T_ast {o m : Nat} {g : Nat → Int32} {x i : Int32} (hf : E_find M.2.2.2.2.2.2.2 pc = some (.iastore, 1, a, b)) (ho : h[o]? = some (.inl (0, m, .inl g))) (hi : E_inb i m = true) (k : ∀ (h2 : E_H) (g2 : Nat → Int32), h2[o]? = some (.inl (0, m, .inl g2)) → (∀ j, j ≠ o → h2[j]? = h[j]?) → h2.length = h.length → T_W Φ (E_run orc M n (pc + 1, L, st) h2 sl)) : T_W Φ (E_run orc M (n + 1) (pc, L, .int x :: .int i :: .ref o :: st) h sl) := by
  have hl : o < h.length := (List.getElem?_eq_some_iff.mp ho).1
  refine T_of (S_go (f2 := (pc + 1, L, st)) (h2 := h.set o (.inl (0, m, .inl (upd g i.toNatClampNeg x)))) (s2 := sl) ?_ rfl) (k _ (upd g i.toNatClampNeg x) ?_ (fun j hj => ?_) (List.length_set ..))
  · unfold E_step
    rw [hf]
    dsimp only
    unfold E_heap E_ast
    dsimp only
    rw [ho]
    dsimp only
    rw [if_pos ⟨rfl, rfl, hi⟩]
    rfl
  · rw [List.getElem?_set, if_pos rfl, if_pos hl]
  · rw [List.getElem?_set, if_neg (fun e => hj e.symm)]
theorem T_alen {o t m : Nat} {g : Nat → Int32} (hf : E_find M.2.2.2.2.2.2.2 pc = some (.arraylength, 1, a, b)) (ho : h[o]? = some (.inl (t, m, .inl g))) (ht : t < 8) (k : T_W Φ (E_run orc M n (pc + 1, L, .int (Int32.ofNat m) :: st) h sl)) : T_W Φ (E_run orc M (n + 1) (pc, L, .ref o :: st) h sl) := by
  refine T_of (S_go (f2 := (pc + 1, L, .int (Int32.ofNat m) :: st)) (h2 := h) (s2 := sl) ?_ rfl) k
  unfold E_step
  rw [hf]
  dsimp only
  unfold E_heap E_alen
  dsimp only
  rw [ho]
  dsimp only
  rw [if_pos ⟨rfl, ht⟩]
  rfl
theorem T_callV {i : Nat} {M2 : E_MI} {rest : List Value} {o : Nat} {As : List Value} {fs : List Value} {Ψ : E_R → Prop} (hf : E_find M.2.2.2.2.2.2.2 pc = some (.invokevirtual i, 3, a, b)) (ha : a < 900) (hM : E_mi a = some M2) (hp : E_pop2 (!M2.2.2.2.2.2.1) M2.2.2.2.2.2.2.1 st = some (.ref o :: As, rest)) (hk1 : M2.2.2.2.2.2.1 = false) (hk2 : E_isI M2 = false) (ho : h[o]? = some (.inr (M2.1, fs))) (h13 : M2.1 < 13) (hc : E_catS rest ≤ 8) (hO : T_W Ψ (orc a (.ref o :: As) h)) (k : ∀ (x : Option Value) (h2 : E_H) (s2 : Nat), Ψ (x, h2, s2) → T_W Φ (E_run orc M n (pc + 3, L, x.toList ++ rest) h2 (sl + s2))) : T_W Φ (E_run orc M (n + 1) (pc, L, st) h sl) := by
  obtain ⟨⟨x, h2, s2⟩, e, hΨ⟩ := hO
  exact T_of (S_callV hf ha hM hp hk1 hk2 ho h13 hc e rfl) (k x h2 s2 hΨ)
end TY
theorem T_call {fuel d a : Nat} {M : E_MI} {vs : List Value} {h : E_H} {Φ : E_R → Prop} (hM : E_mi a = some M) (hl : (lg_sl vs).length ≤ M.2.2.2.1) (k : T_W Φ (E_run (E_call fuel d) M fuel (0, lv_args 0 vs, []) h 0)) : T_W Φ (E_call fuel (d + 1) a vs h) := T_of (S_call hM hl rfl) k
set_option maxRecDepth 100000 in
theorem X_wn0 {h : E_H} {g : Nat → Int32} (d : Nat) (v : Int32) (OM : h[0]? = some (.inr (11, [.ref 1, .int 0, .ref 2, .ref 8, .ref 21, .ref 68, .ref 78]))) (OA : h[1]? = some (.inl (1, 1000, .inl g))) : T_W (fun r => match r with | (x, h2, s2) => x = none ∧ s2 = 0 ∧ h2[0]? = some (.inr (11, [.ref 1, .int 4, .ref 2, .ref 8, .ref 21, .ref 68, .ref 78])) ∧ (∃ g2, h2[1]? = some (.inl (1, 1000, .inl g2))) ∧ (∀ j, j ≠ 0 → j ≠ 1 → h2[j]? = h[j]?) ∧ h2.length = h.length) (E_call 4000 (d + 1) 162 [.ref 0, .int v] h) := by
  refine T_call (M := E_m162) rfl (Nat.le_of_ble_eq_true rfl) ?_
  refine T_of (S_go rfl rfl) ?_
  refine T_of (S_go rfl rfl) ?_
  refine T_of (S_go rfl rfl) ?_
  refine T_of (S_go rfl rfl) ?_
  refine T_of (S_go rfl rfl) ?_
  refine T_of (S_get rfl OM rfl (by decide) rfl) ?_
  refine T_of (S_go rfl rfl) ?_
  show T_W _ (E_run _ E_m162 3993 (14, [(2, .int 24), (0, .ref 0), (1, .int v)], []) _ 0)
  refine T_of (S_go rfl rfl) ?_
  refine T_of (S_get rfl OM rfl (by decide) rfl) ?_
  refine T_of (S_go rfl rfl) ?_
  refine T_of (S_get rfl OM rfl (by decide) rfl) ?_
  refine T_alen rfl OA (by decide) ?_
  refine T_of (S_go rfl rfl) ?_
  show T_W _ (E_run _ E_m162 3987 (26, [(2, .int 24), (0, .ref 0), (1, .int v)], []) _ 0)
  refine T_of (S_go rfl rfl) ?_
  refine T_of (S_get rfl OM rfl (by decide) rfl) ?_
  refine T_of (S_go rfl rfl) ?_
  refine T_of (S_get rfl OM rfl (by decide) rfl) ?_
  refine T_of (S_go rfl rfl) ?_
  refine T_of (S_go rfl rfl) ?_
  refine T_of (S_go rfl rfl) ?_
  refine T_of (S_go rfl rfl) ?_
  refine T_bst rfl OA (by decide) (fun h1 g1 oa1 ek1 el1 => ?_)
  have om1 := (ek1 0 (by decide)).trans OM
  show T_W _ (E_run _ E_m162 3978 (39, [(2, .int 24), (0, .ref 0), (1, .int v)], []) _ 0)
  refine T_of (S_go rfl rfl) ?_
  refine T_of (S_go rfl rfl) ?_
  refine T_of (S_get rfl om1 rfl (by decide) rfl) ?_
  refine T_of (S_go rfl rfl) ?_
  refine T_of (S_go rfl rfl) ?_
  refine T_putf rfl om1 (by decide +kernel) (fun h2 oz2 ek2 el2 => ?_)
  have om2 : h2[0]? = some (.inr (11, [.ref 1, .int 1, .ref 2, .ref 8, .ref 21, .ref 68, .ref 78])) := oz2
  have oa2 := (ek2 1 (by decide)).trans oa1
  show T_W _ (E_run _ E_m162 3972 (49, [(2, .int 24), (0, .ref 0), (1, .int v)], []) _ 0)
  refine T_of (S_go rfl rfl) ?_
  refine T_of (S_go rfl rfl) ?_
  refine T_of (S_go rfl rfl) ?_
  refine T_of (S_go rfl rfl) ?_
  refine T_of (S_go rfl rfl) ?_
  refine T_of (S_get rfl om2 rfl (by decide) rfl) ?_
  refine T_of (S_go rfl rfl) ?_
  show T_W _ (E_run _ E_m162 3965 (14, [(2, .int 16), (0, .ref 0), (1, .int v)], []) _ 0)
  refine T_of (S_go rfl rfl) ?_
  refine T_of (S_get rfl om2 rfl (by decide) rfl) ?_
  refine T_of (S_go rfl rfl) ?_
  refine T_of (S_get rfl om2 rfl (by decide) rfl) ?_
  refine T_alen rfl oa2 (by decide) ?_
  refine T_of (S_go rfl rfl) ?_
  show T_W _ (E_run _ E_m162 3959 (26, [(2, .int 16), (0, .ref 0), (1, .int v)], []) _ 0)
  refine T_of (S_go rfl rfl) ?_
  refine T_of (S_get rfl om2 rfl (by decide) rfl) ?_
  refine T_of (S_go rfl rfl) ?_
  refine T_of (S_get rfl om2 rfl (by decide) rfl) ?_
  refine T_of (S_go rfl rfl) ?_
  refine T_of (S_go rfl rfl) ?_
  refine T_of (S_go rfl rfl) ?_
  refine T_of (S_go rfl rfl) ?_
  refine T_bst rfl oa2 (by decide) (fun h3 g3 oa3 ek3 el3 => ?_)
  have om3 := (ek3 0 (by decide)).trans om2
  show T_W _ (E_run _ E_m162 3950 (39, [(2, .int 16), (0, .ref 0), (1, .int v)], []) _ 0)
  refine T_of (S_go rfl rfl) ?_
  refine T_of (S_go rfl rfl) ?_
  refine T_of (S_get rfl om3 rfl (by decide) rfl) ?_
  refine T_of (S_go rfl rfl) ?_
  refine T_of (S_go rfl rfl) ?_
  refine T_putf rfl om3 (by decide +kernel) (fun h4 oz4 ek4 el4 => ?_)
  have om4 : h4[0]? = some (.inr (11, [.ref 1, .int 2, .ref 2, .ref 8, .ref 21, .ref 68, .ref 78])) := oz4
  have oa4 := (ek4 1 (by decide)).trans oa3
  show T_W _ (E_run _ E_m162 3944 (49, [(2, .int 16), (0, .ref 0), (1, .int v)], []) _ 0)
  refine T_of (S_go rfl rfl) ?_
  refine T_of (S_go rfl rfl) ?_
  refine T_of (S_go rfl rfl) ?_
  refine T_of (S_go rfl rfl) ?_
  refine T_of (S_go rfl rfl) ?_
  refine T_of (S_get rfl om4 rfl (by decide) rfl) ?_
  refine T_of (S_go rfl rfl) ?_
  show T_W _ (E_run _ E_m162 3937 (14, [(2, .int 8), (0, .ref 0), (1, .int v)], []) _ 0)
  refine T_of (S_go rfl rfl) ?_
  refine T_of (S_get rfl om4 rfl (by decide) rfl) ?_
  refine T_of (S_go rfl rfl) ?_
  refine T_of (S_get rfl om4 rfl (by decide) rfl) ?_
  refine T_alen rfl oa4 (by decide) ?_
  refine T_of (S_go rfl rfl) ?_
  show T_W _ (E_run _ E_m162 3931 (26, [(2, .int 8), (0, .ref 0), (1, .int v)], []) _ 0)
  refine T_of (S_go rfl rfl) ?_
  refine T_of (S_get rfl om4 rfl (by decide) rfl) ?_
  refine T_of (S_go rfl rfl) ?_
  refine T_of (S_get rfl om4 rfl (by decide) rfl) ?_
  refine T_of (S_go rfl rfl) ?_
  refine T_of (S_go rfl rfl) ?_
  refine T_of (S_go rfl rfl) ?_
  refine T_of (S_go rfl rfl) ?_
  refine T_bst rfl oa4 (by decide) (fun h5 g5 oa5 ek5 el5 => ?_)
  have om5 := (ek5 0 (by decide)).trans om4
  show T_W _ (E_run _ E_m162 3922 (39, [(2, .int 8), (0, .ref 0), (1, .int v)], []) _ 0)
  refine T_of (S_go rfl rfl) ?_
  refine T_of (S_go rfl rfl) ?_
  refine T_of (S_get rfl om5 rfl (by decide) rfl) ?_
  refine T_of (S_go rfl rfl) ?_
  refine T_of (S_go rfl rfl) ?_
  refine T_putf rfl om5 (by decide +kernel) (fun h6 oz6 ek6 el6 => ?_)
  have om6 : h6[0]? = some (.inr (11, [.ref 1, .int 3, .ref 2, .ref 8, .ref 21, .ref 68, .ref 78])) := oz6
  have oa6 := (ek6 1 (by decide)).trans oa5
  show T_W _ (E_run _ E_m162 3916 (49, [(2, .int 8), (0, .ref 0), (1, .int v)], []) _ 0)
  refine T_of (S_go rfl rfl) ?_
  refine T_of (S_go rfl rfl) ?_
  refine T_of (S_go rfl rfl) ?_
  refine T_of (S_go rfl rfl) ?_
  refine T_of (S_go rfl rfl) ?_
  refine T_of (S_get rfl om6 rfl (by decide) rfl) ?_
  refine T_of (S_go rfl rfl) ?_
  show T_W _ (E_run _ E_m162 3909 (14, [(2, .int 0), (0, .ref 0), (1, .int v)], []) _ 0)
  refine T_of (S_go rfl rfl) ?_
  refine T_of (S_get rfl om6 rfl (by decide) rfl) ?_
  refine T_of (S_go rfl rfl) ?_
  refine T_of (S_get rfl om6 rfl (by decide) rfl) ?_
  refine T_alen rfl oa6 (by decide) ?_
  refine T_of (S_go rfl rfl) ?_
  show T_W _ (E_run _ E_m162 3903 (26, [(2, .int 0), (0, .ref 0), (1, .int v)], []) _ 0)
  refine T_of (S_go rfl rfl) ?_
  refine T_of (S_get rfl om6 rfl (by decide) rfl) ?_
  refine T_of (S_go rfl rfl) ?_
  refine T_of (S_get rfl om6 rfl (by decide) rfl) ?_
  refine T_of (S_go rfl rfl) ?_
  refine T_of (S_go rfl rfl) ?_
  refine T_of (S_go rfl rfl) ?_
  refine T_of (S_go rfl rfl) ?_
  refine T_bst rfl oa6 (by decide) (fun h7 g7 oa7 ek7 el7 => ?_)
  have om7 := (ek7 0 (by decide)).trans om6
  show T_W _ (E_run _ E_m162 3894 (39, [(2, .int 0), (0, .ref 0), (1, .int v)], []) _ 0)
  refine T_of (S_go rfl rfl) ?_
  refine T_of (S_go rfl rfl) ?_
  refine T_of (S_get rfl om7 rfl (by decide) rfl) ?_
  refine T_of (S_go rfl rfl) ?_
  refine T_of (S_go rfl rfl) ?_
  refine T_putf rfl om7 (by decide +kernel) (fun h8 oz8 ek8 el8 => ?_)
  have om8 : h8[0]? = some (.inr (11, [.ref 1, .int 4, .ref 2, .ref 8, .ref 21, .ref 68, .ref 78])) := oz8
  have oa8 := (ek8 1 (by decide)).trans oa7
  show T_W _ (E_run _ E_m162 3888 (49, [(2, .int 0), (0, .ref 0), (1, .int v)], []) _ 0)
  refine T_of (S_go rfl rfl) ?_
  refine T_of (S_go rfl rfl) ?_
  refine T_of (S_go rfl rfl) ?_
  refine T_of (S_go rfl rfl) ?_
  exact T_end rfl ⟨rfl, rfl, om8, ⟨_, oa8⟩, fun j j0 j1 => (ek8 j j0).trans ((ek7 j j1).trans ((ek6 j j0).trans ((ek5 j j1).trans ((ek4 j j0).trans ((ek3 j j1).trans ((ek2 j j0).trans ((ek1 j j1)))))))), el8.trans (el7.trans (el6.trans (el5.trans (el4.trans (el3.trans (el2.trans (el1)))))))⟩
set_option maxRecDepth 100000 in
theorem X_wn4 {h : E_H} {g : Nat → Int32} (d : Nat) (v : Int32) (OM : h[0]? = some (.inr (11, [.ref 1, .int 4, .ref 2, .ref 8, .ref 21, .ref 68, .ref 78]))) (OA : h[1]? = some (.inl (1, 1000, .inl g))) : T_W (fun r => match r with | (x, h2, s2) => x = none ∧ s2 = 0 ∧ h2[0]? = some (.inr (11, [.ref 1, .int 8, .ref 2, .ref 8, .ref 21, .ref 68, .ref 78])) ∧ (∃ g2, h2[1]? = some (.inl (1, 1000, .inl g2))) ∧ (∀ j, j ≠ 0 → j ≠ 1 → h2[j]? = h[j]?) ∧ h2.length = h.length) (E_call 4000 (d + 1) 162 [.ref 0, .int v] h) := by
  refine T_call (M := E_m162) rfl (Nat.le_of_ble_eq_true rfl) ?_
  refine T_of (S_go rfl rfl) ?_
  refine T_of (S_go rfl rfl) ?_
  refine T_of (S_go rfl rfl) ?_
  refine T_of (S_go rfl rfl) ?_
  refine T_of (S_go rfl rfl) ?_
  refine T_of (S_get rfl OM rfl (by decide) rfl) ?_
  refine T_of (S_go rfl rfl) ?_
  show T_W _ (E_run _ E_m162 3993 (14, [(2, .int 24), (0, .ref 0), (1, .int v)], []) _ 0)
  refine T_of (S_go rfl rfl) ?_
  refine T_of (S_get rfl OM rfl (by decide) rfl) ?_
  refine T_of (S_go rfl rfl) ?_
  refine T_of (S_get rfl OM rfl (by decide) rfl) ?_
  refine T_alen rfl OA (by decide) ?_
  refine T_of (S_go rfl rfl) ?_
  show T_W _ (E_run _ E_m162 3987 (26, [(2, .int 24), (0, .ref 0), (1, .int v)], []) _ 0)
  refine T_of (S_go rfl rfl) ?_
  refine T_of (S_get rfl OM rfl (by decide) rfl) ?_
  refine T_of (S_go rfl rfl) ?_
  refine T_of (S_get rfl OM rfl (by decide) rfl) ?_
  refine T_of (S_go rfl rfl) ?_
  refine T_of (S_go rfl rfl) ?_
  refine T_of (S_go rfl rfl) ?_
  refine T_of (S_go rfl rfl) ?_
  refine T_bst rfl OA (by decide) (fun h1 g1 oa1 ek1 el1 => ?_)
  have om1 := (ek1 0 (by decide)).trans OM
  show T_W _ (E_run _ E_m162 3978 (39, [(2, .int 24), (0, .ref 0), (1, .int v)], []) _ 0)
  refine T_of (S_go rfl rfl) ?_
  refine T_of (S_go rfl rfl) ?_
  refine T_of (S_get rfl om1 rfl (by decide) rfl) ?_
  refine T_of (S_go rfl rfl) ?_
  refine T_of (S_go rfl rfl) ?_
  refine T_putf rfl om1 (by decide +kernel) (fun h2 oz2 ek2 el2 => ?_)
  have om2 : h2[0]? = some (.inr (11, [.ref 1, .int 5, .ref 2, .ref 8, .ref 21, .ref 68, .ref 78])) := oz2
  have oa2 := (ek2 1 (by decide)).trans oa1
  show T_W _ (E_run _ E_m162 3972 (49, [(2, .int 24), (0, .ref 0), (1, .int v)], []) _ 0)
  refine T_of (S_go rfl rfl) ?_
  refine T_of (S_go rfl rfl) ?_
  refine T_of (S_go rfl rfl) ?_
  refine T_of (S_go rfl rfl) ?_
  refine T_of (S_go rfl rfl) ?_
  refine T_of (S_get rfl om2 rfl (by decide) rfl) ?_
  refine T_of (S_go rfl rfl) ?_
  show T_W _ (E_run _ E_m162 3965 (14, [(2, .int 16), (0, .ref 0), (1, .int v)], []) _ 0)
  refine T_of (S_go rfl rfl) ?_
  refine T_of (S_get rfl om2 rfl (by decide) rfl) ?_
  refine T_of (S_go rfl rfl) ?_
  refine T_of (S_get rfl om2 rfl (by decide) rfl) ?_
  refine T_alen rfl oa2 (by decide) ?_
  refine T_of (S_go rfl rfl) ?_
  show T_W _ (E_run _ E_m162 3959 (26, [(2, .int 16), (0, .ref 0), (1, .int v)], []) _ 0)
  refine T_of (S_go rfl rfl) ?_
  refine T_of (S_get rfl om2 rfl (by decide) rfl) ?_
  refine T_of (S_go rfl rfl) ?_
  refine T_of (S_get rfl om2 rfl (by decide) rfl) ?_
  refine T_of (S_go rfl rfl) ?_
  refine T_of (S_go rfl rfl) ?_
  refine T_of (S_go rfl rfl) ?_
  refine T_of (S_go rfl rfl) ?_
  refine T_bst rfl oa2 (by decide) (fun h3 g3 oa3 ek3 el3 => ?_)
  have om3 := (ek3 0 (by decide)).trans om2
  show T_W _ (E_run _ E_m162 3950 (39, [(2, .int 16), (0, .ref 0), (1, .int v)], []) _ 0)
  refine T_of (S_go rfl rfl) ?_
  refine T_of (S_go rfl rfl) ?_
  refine T_of (S_get rfl om3 rfl (by decide) rfl) ?_
  refine T_of (S_go rfl rfl) ?_
  refine T_of (S_go rfl rfl) ?_
  refine T_putf rfl om3 (by decide +kernel) (fun h4 oz4 ek4 el4 => ?_)
  have om4 : h4[0]? = some (.inr (11, [.ref 1, .int 6, .ref 2, .ref 8, .ref 21, .ref 68, .ref 78])) := oz4
  have oa4 := (ek4 1 (by decide)).trans oa3
  show T_W _ (E_run _ E_m162 3944 (49, [(2, .int 16), (0, .ref 0), (1, .int v)], []) _ 0)
  refine T_of (S_go rfl rfl) ?_
  refine T_of (S_go rfl rfl) ?_
  refine T_of (S_go rfl rfl) ?_
  refine T_of (S_go rfl rfl) ?_
  refine T_of (S_go rfl rfl) ?_
  refine T_of (S_get rfl om4 rfl (by decide) rfl) ?_
  refine T_of (S_go rfl rfl) ?_
  show T_W _ (E_run _ E_m162 3937 (14, [(2, .int 8), (0, .ref 0), (1, .int v)], []) _ 0)
  refine T_of (S_go rfl rfl) ?_
  refine T_of (S_get rfl om4 rfl (by decide) rfl) ?_
  refine T_of (S_go rfl rfl) ?_
  refine T_of (S_get rfl om4 rfl (by decide) rfl) ?_
  refine T_alen rfl oa4 (by decide) ?_
  refine T_of (S_go rfl rfl) ?_
  show T_W _ (E_run _ E_m162 3931 (26, [(2, .int 8), (0, .ref 0), (1, .int v)], []) _ 0)
  refine T_of (S_go rfl rfl) ?_
  refine T_of (S_get rfl om4 rfl (by decide) rfl) ?_
  refine T_of (S_go rfl rfl) ?_
  refine T_of (S_get rfl om4 rfl (by decide) rfl) ?_
  refine T_of (S_go rfl rfl) ?_
  refine T_of (S_go rfl rfl) ?_
  refine T_of (S_go rfl rfl) ?_
  refine T_of (S_go rfl rfl) ?_
  refine T_bst rfl oa4 (by decide) (fun h5 g5 oa5 ek5 el5 => ?_)
  have om5 := (ek5 0 (by decide)).trans om4
  show T_W _ (E_run _ E_m162 3922 (39, [(2, .int 8), (0, .ref 0), (1, .int v)], []) _ 0)
  refine T_of (S_go rfl rfl) ?_
  refine T_of (S_go rfl rfl) ?_
  refine T_of (S_get rfl om5 rfl (by decide) rfl) ?_
  refine T_of (S_go rfl rfl) ?_
  refine T_of (S_go rfl rfl) ?_
  refine T_putf rfl om5 (by decide +kernel) (fun h6 oz6 ek6 el6 => ?_)
  have om6 : h6[0]? = some (.inr (11, [.ref 1, .int 7, .ref 2, .ref 8, .ref 21, .ref 68, .ref 78])) := oz6
  have oa6 := (ek6 1 (by decide)).trans oa5
  show T_W _ (E_run _ E_m162 3916 (49, [(2, .int 8), (0, .ref 0), (1, .int v)], []) _ 0)
  refine T_of (S_go rfl rfl) ?_
  refine T_of (S_go rfl rfl) ?_
  refine T_of (S_go rfl rfl) ?_
  refine T_of (S_go rfl rfl) ?_
  refine T_of (S_go rfl rfl) ?_
  refine T_of (S_get rfl om6 rfl (by decide) rfl) ?_
  refine T_of (S_go rfl rfl) ?_
  show T_W _ (E_run _ E_m162 3909 (14, [(2, .int 0), (0, .ref 0), (1, .int v)], []) _ 0)
  refine T_of (S_go rfl rfl) ?_
  refine T_of (S_get rfl om6 rfl (by decide) rfl) ?_
  refine T_of (S_go rfl rfl) ?_
  refine T_of (S_get rfl om6 rfl (by decide) rfl) ?_
  refine T_alen rfl oa6 (by decide) ?_
  refine T_of (S_go rfl rfl) ?_
  show T_W _ (E_run _ E_m162 3903 (26, [(2, .int 0), (0, .ref 0), (1, .int v)], []) _ 0)
  refine T_of (S_go rfl rfl) ?_
  refine T_of (S_get rfl om6 rfl (by decide) rfl) ?_
  refine T_of (S_go rfl rfl) ?_
  refine T_of (S_get rfl om6 rfl (by decide) rfl) ?_
  refine T_of (S_go rfl rfl) ?_
  refine T_of (S_go rfl rfl) ?_
  refine T_of (S_go rfl rfl) ?_
  refine T_of (S_go rfl rfl) ?_
  refine T_bst rfl oa6 (by decide) (fun h7 g7 oa7 ek7 el7 => ?_)
  have om7 := (ek7 0 (by decide)).trans om6
  show T_W _ (E_run _ E_m162 3894 (39, [(2, .int 0), (0, .ref 0), (1, .int v)], []) _ 0)
  refine T_of (S_go rfl rfl) ?_
  refine T_of (S_go rfl rfl) ?_
  refine T_of (S_get rfl om7 rfl (by decide) rfl) ?_
  refine T_of (S_go rfl rfl) ?_
  refine T_of (S_go rfl rfl) ?_
  refine T_putf rfl om7 (by decide +kernel) (fun h8 oz8 ek8 el8 => ?_)
  have om8 : h8[0]? = some (.inr (11, [.ref 1, .int 8, .ref 2, .ref 8, .ref 21, .ref 68, .ref 78])) := oz8
  have oa8 := (ek8 1 (by decide)).trans oa7
  show T_W _ (E_run _ E_m162 3888 (49, [(2, .int 0), (0, .ref 0), (1, .int v)], []) _ 0)
  refine T_of (S_go rfl rfl) ?_
  refine T_of (S_go rfl rfl) ?_
  refine T_of (S_go rfl rfl) ?_
  refine T_of (S_go rfl rfl) ?_
  exact T_end rfl ⟨rfl, rfl, om8, ⟨_, oa8⟩, fun j j0 j1 => (ek8 j j0).trans ((ek7 j j1).trans ((ek6 j j0).trans ((ek5 j j1).trans ((ek4 j j0).trans ((ek3 j j1).trans ((ek2 j j0).trans ((ek1 j j1)))))))), el8.trans (el7.trans (el6.trans (el5.trans (el4.trans (el3.trans (el2.trans (el1)))))))⟩
set_option maxRecDepth 100000 in
theorem X_wn8 {h : E_H} {g : Nat → Int32} (d : Nat) (v : Int32) (OM : h[0]? = some (.inr (11, [.ref 1, .int 8, .ref 2, .ref 8, .ref 21, .ref 68, .ref 78]))) (OA : h[1]? = some (.inl (1, 1000, .inl g))) : T_W (fun r => match r with | (x, h2, s2) => x = none ∧ s2 = 0 ∧ h2[0]? = some (.inr (11, [.ref 1, .int 12, .ref 2, .ref 8, .ref 21, .ref 68, .ref 78])) ∧ (∃ g2, h2[1]? = some (.inl (1, 1000, .inl g2))) ∧ (∀ j, j ≠ 0 → j ≠ 1 → h2[j]? = h[j]?) ∧ h2.length = h.length) (E_call 4000 (d + 1) 162 [.ref 0, .int v] h) := by
  refine T_call (M := E_m162) rfl (Nat.le_of_ble_eq_true rfl) ?_
  refine T_of (S_go rfl rfl) ?_
  refine T_of (S_go rfl rfl) ?_
  refine T_of (S_go rfl rfl) ?_
  refine T_of (S_go rfl rfl) ?_
  refine T_of (S_go rfl rfl) ?_
  refine T_of (S_get rfl OM rfl (by decide) rfl) ?_
  refine T_of (S_go rfl rfl) ?_
  show T_W _ (E_run _ E_m162 3993 (14, [(2, .int 24), (0, .ref 0), (1, .int v)], []) _ 0)
  refine T_of (S_go rfl rfl) ?_
  refine T_of (S_get rfl OM rfl (by decide) rfl) ?_
  refine T_of (S_go rfl rfl) ?_
  refine T_of (S_get rfl OM rfl (by decide) rfl) ?_
  refine T_alen rfl OA (by decide) ?_
  refine T_of (S_go rfl rfl) ?_
  show T_W _ (E_run _ E_m162 3987 (26, [(2, .int 24), (0, .ref 0), (1, .int v)], []) _ 0)
  refine T_of (S_go rfl rfl) ?_
  refine T_of (S_get rfl OM rfl (by decide) rfl) ?_
  refine T_of (S_go rfl rfl) ?_
  refine T_of (S_get rfl OM rfl (by decide) rfl) ?_
  refine T_of (S_go rfl rfl) ?_
  refine T_of (S_go rfl rfl) ?_
  refine T_of (S_go rfl rfl) ?_
  refine T_of (S_go rfl rfl) ?_
  refine T_bst rfl OA (by decide) (fun h1 g1 oa1 ek1 el1 => ?_)
  have om1 := (ek1 0 (by decide)).trans OM
  show T_W _ (E_run _ E_m162 3978 (39, [(2, .int 24), (0, .ref 0), (1, .int v)], []) _ 0)
  refine T_of (S_go rfl rfl) ?_
  refine T_of (S_go rfl rfl) ?_
  refine T_of (S_get rfl om1 rfl (by decide) rfl) ?_
  refine T_of (S_go rfl rfl) ?_
  refine T_of (S_go rfl rfl) ?_
  refine T_putf rfl om1 (by decide +kernel) (fun h2 oz2 ek2 el2 => ?_)
  have om2 : h2[0]? = some (.inr (11, [.ref 1, .int 9, .ref 2, .ref 8, .ref 21, .ref 68, .ref 78])) := oz2
  have oa2 := (ek2 1 (by decide)).trans oa1
  show T_W _ (E_run _ E_m162 3972 (49, [(2, .int 24), (0, .ref 0), (1, .int v)], []) _ 0)
  refine T_of (S_go rfl rfl) ?_
  refine T_of (S_go rfl rfl) ?_
  refine T_of (S_go rfl rfl) ?_
  refine T_of (S_go rfl rfl) ?_
  refine T_of (S_go rfl rfl) ?_
  refine T_of (S_get rfl om2 rfl (by decide) rfl) ?_
  refine T_of (S_go rfl rfl) ?_
  show T_W _ (E_run _ E_m162 3965 (14, [(2, .int 16), (0, .ref 0), (1, .int v)], []) _ 0)
  refine T_of (S_go rfl rfl) ?_
  refine T_of (S_get rfl om2 rfl (by decide) rfl) ?_
  refine T_of (S_go rfl rfl) ?_
  refine T_of (S_get rfl om2 rfl (by decide) rfl) ?_
  refine T_alen rfl oa2 (by decide) ?_
  refine T_of (S_go rfl rfl) ?_
  show T_W _ (E_run _ E_m162 3959 (26, [(2, .int 16), (0, .ref 0), (1, .int v)], []) _ 0)
  refine T_of (S_go rfl rfl) ?_
  refine T_of (S_get rfl om2 rfl (by decide) rfl) ?_
  refine T_of (S_go rfl rfl) ?_
  refine T_of (S_get rfl om2 rfl (by decide) rfl) ?_
  refine T_of (S_go rfl rfl) ?_
  refine T_of (S_go rfl rfl) ?_
  refine T_of (S_go rfl rfl) ?_
  refine T_of (S_go rfl rfl) ?_
  refine T_bst rfl oa2 (by decide) (fun h3 g3 oa3 ek3 el3 => ?_)
  have om3 := (ek3 0 (by decide)).trans om2
  show T_W _ (E_run _ E_m162 3950 (39, [(2, .int 16), (0, .ref 0), (1, .int v)], []) _ 0)
  refine T_of (S_go rfl rfl) ?_
  refine T_of (S_go rfl rfl) ?_
  refine T_of (S_get rfl om3 rfl (by decide) rfl) ?_
  refine T_of (S_go rfl rfl) ?_
  refine T_of (S_go rfl rfl) ?_
  refine T_putf rfl om3 (by decide +kernel) (fun h4 oz4 ek4 el4 => ?_)
  have om4 : h4[0]? = some (.inr (11, [.ref 1, .int 10, .ref 2, .ref 8, .ref 21, .ref 68, .ref 78])) := oz4
  have oa4 := (ek4 1 (by decide)).trans oa3
  show T_W _ (E_run _ E_m162 3944 (49, [(2, .int 16), (0, .ref 0), (1, .int v)], []) _ 0)
  refine T_of (S_go rfl rfl) ?_
  refine T_of (S_go rfl rfl) ?_
  refine T_of (S_go rfl rfl) ?_
  refine T_of (S_go rfl rfl) ?_
  refine T_of (S_go rfl rfl) ?_
  refine T_of (S_get rfl om4 rfl (by decide) rfl) ?_
  refine T_of (S_go rfl rfl) ?_
  show T_W _ (E_run _ E_m162 3937 (14, [(2, .int 8), (0, .ref 0), (1, .int v)], []) _ 0)
  refine T_of (S_go rfl rfl) ?_
  refine T_of (S_get rfl om4 rfl (by decide) rfl) ?_
  refine T_of (S_go rfl rfl) ?_
  refine T_of (S_get rfl om4 rfl (by decide) rfl) ?_
  refine T_alen rfl oa4 (by decide) ?_
  refine T_of (S_go rfl rfl) ?_
  show T_W _ (E_run _ E_m162 3931 (26, [(2, .int 8), (0, .ref 0), (1, .int v)], []) _ 0)
  refine T_of (S_go rfl rfl) ?_
  refine T_of (S_get rfl om4 rfl (by decide) rfl) ?_
  refine T_of (S_go rfl rfl) ?_
  refine T_of (S_get rfl om4 rfl (by decide) rfl) ?_
  refine T_of (S_go rfl rfl) ?_
  refine T_of (S_go rfl rfl) ?_
  refine T_of (S_go rfl rfl) ?_
  refine T_of (S_go rfl rfl) ?_
  refine T_bst rfl oa4 (by decide) (fun h5 g5 oa5 ek5 el5 => ?_)
  have om5 := (ek5 0 (by decide)).trans om4
  show T_W _ (E_run _ E_m162 3922 (39, [(2, .int 8), (0, .ref 0), (1, .int v)], []) _ 0)
  refine T_of (S_go rfl rfl) ?_
  refine T_of (S_go rfl rfl) ?_
  refine T_of (S_get rfl om5 rfl (by decide) rfl) ?_
  refine T_of (S_go rfl rfl) ?_
  refine T_of (S_go rfl rfl) ?_
  refine T_putf rfl om5 (by decide +kernel) (fun h6 oz6 ek6 el6 => ?_)
  have om6 : h6[0]? = some (.inr (11, [.ref 1, .int 11, .ref 2, .ref 8, .ref 21, .ref 68, .ref 78])) := oz6
  have oa6 := (ek6 1 (by decide)).trans oa5
  show T_W _ (E_run _ E_m162 3916 (49, [(2, .int 8), (0, .ref 0), (1, .int v)], []) _ 0)
  refine T_of (S_go rfl rfl) ?_
  refine T_of (S_go rfl rfl) ?_
  refine T_of (S_go rfl rfl) ?_
  refine T_of (S_go rfl rfl) ?_
  refine T_of (S_go rfl rfl) ?_
  refine T_of (S_get rfl om6 rfl (by decide) rfl) ?_
  refine T_of (S_go rfl rfl) ?_
  show T_W _ (E_run _ E_m162 3909 (14, [(2, .int 0), (0, .ref 0), (1, .int v)], []) _ 0)
  refine T_of (S_go rfl rfl) ?_
  refine T_of (S_get rfl om6 rfl (by decide) rfl) ?_
  refine T_of (S_go rfl rfl) ?_
  refine T_of (S_get rfl om6 rfl (by decide) rfl) ?_
  refine T_alen rfl oa6 (by decide) ?_
  refine T_of (S_go rfl rfl) ?_
  show T_W _ (E_run _ E_m162 3903 (26, [(2, .int 0), (0, .ref 0), (1, .int v)], []) _ 0)
  refine T_of (S_go rfl rfl) ?_
  refine T_of (S_get rfl om6 rfl (by decide) rfl) ?_
  refine T_of (S_go rfl rfl) ?_
  refine T_of (S_get rfl om6 rfl (by decide) rfl) ?_
  refine T_of (S_go rfl rfl) ?_
  refine T_of (S_go rfl rfl) ?_
  refine T_of (S_go rfl rfl) ?_
  refine T_of (S_go rfl rfl) ?_
  refine T_bst rfl oa6 (by decide) (fun h7 g7 oa7 ek7 el7 => ?_)
  have om7 := (ek7 0 (by decide)).trans om6
  show T_W _ (E_run _ E_m162 3894 (39, [(2, .int 0), (0, .ref 0), (1, .int v)], []) _ 0)
  refine T_of (S_go rfl rfl) ?_
  refine T_of (S_go rfl rfl) ?_
  refine T_of (S_get rfl om7 rfl (by decide) rfl) ?_
  refine T_of (S_go rfl rfl) ?_
  refine T_of (S_go rfl rfl) ?_
  refine T_putf rfl om7 (by decide +kernel) (fun h8 oz8 ek8 el8 => ?_)
  have om8 : h8[0]? = some (.inr (11, [.ref 1, .int 12, .ref 2, .ref 8, .ref 21, .ref 68, .ref 78])) := oz8
  have oa8 := (ek8 1 (by decide)).trans oa7
  show T_W _ (E_run _ E_m162 3888 (49, [(2, .int 0), (0, .ref 0), (1, .int v)], []) _ 0)
  refine T_of (S_go rfl rfl) ?_
  refine T_of (S_go rfl rfl) ?_
  refine T_of (S_go rfl rfl) ?_
  refine T_of (S_go rfl rfl) ?_
  exact T_end rfl ⟨rfl, rfl, om8, ⟨_, oa8⟩, fun j j0 j1 => (ek8 j j0).trans ((ek7 j j1).trans ((ek6 j j0).trans ((ek5 j j1).trans ((ek4 j j0).trans ((ek3 j j1).trans ((ek2 j j0).trans ((ek1 j j1)))))))), el8.trans (el7.trans (el6.trans (el5.trans (el4.trans (el3.trans (el2.trans (el1)))))))⟩
set_option maxRecDepth 100000 in
theorem X_wn12 {h : E_H} {g : Nat → Int32} (d : Nat) (v : Int32) (OM : h[0]? = some (.inr (11, [.ref 1, .int 12, .ref 2, .ref 8, .ref 21, .ref 68, .ref 78]))) (OA : h[1]? = some (.inl (1, 1000, .inl g))) : T_W (fun r => match r with | (x, h2, s2) => x = none ∧ s2 = 0 ∧ h2[0]? = some (.inr (11, [.ref 1, .int 16, .ref 2, .ref 8, .ref 21, .ref 68, .ref 78])) ∧ (∃ g2, h2[1]? = some (.inl (1, 1000, .inl g2))) ∧ (∀ j, j ≠ 0 → j ≠ 1 → h2[j]? = h[j]?) ∧ h2.length = h.length) (E_call 4000 (d + 1) 162 [.ref 0, .int v] h) := by
  refine T_call (M := E_m162) rfl (Nat.le_of_ble_eq_true rfl) ?_
  refine T_of (S_go rfl rfl) ?_
  refine T_of (S_go rfl rfl) ?_
  refine T_of (S_go rfl rfl) ?_
  refine T_of (S_go rfl rfl) ?_
  refine T_of (S_go rfl rfl) ?_
  refine T_of (S_get rfl OM rfl (by decide) rfl) ?_
  refine T_of (S_go rfl rfl) ?_
  show T_W _ (E_run _ E_m162 3993 (14, [(2, .int 24), (0, .ref 0), (1, .int v)], []) _ 0)
  refine T_of (S_go rfl rfl) ?_
  refine T_of (S_get rfl OM rfl (by decide) rfl) ?_
  refine T_of (S_go rfl rfl) ?_
  refine T_of (S_get rfl OM rfl (by decide) rfl) ?_
  refine T_alen rfl OA (by decide) ?_
  refine T_of (S_go rfl rfl) ?_
  show T_W _ (E_run _ E_m162 3987 (26, [(2, .int 24), (0, .ref 0), (1, .int v)], []) _ 0)
  refine T_of (S_go rfl rfl) ?_
  refine T_of (S_get rfl OM rfl (by decide) rfl) ?_
  refine T_of (S_go rfl rfl) ?_
  refine T_of (S_get rfl OM rfl (by decide) rfl) ?_
  refine T_of (S_go rfl rfl) ?_
  refine T_of (S_go rfl rfl) ?_
  refine T_of (S_go rfl rfl) ?_
  refine T_of (S_go rfl rfl) ?_
  refine T_bst rfl OA (by decide) (fun h1 g1 oa1 ek1 el1 => ?_)
  have om1 := (ek1 0 (by decide)).trans OM
  show T_W _ (E_run _ E_m162 3978 (39, [(2, .int 24), (0, .ref 0), (1, .int v)], []) _ 0)
  refine T_of (S_go rfl rfl) ?_
  refine T_of (S_go rfl rfl) ?_
  refine T_of (S_get rfl om1 rfl (by decide) rfl) ?_
  refine T_of (S_go rfl rfl) ?_
  refine T_of (S_go rfl rfl) ?_
  refine T_putf rfl om1 (by decide +kernel) (fun h2 oz2 ek2 el2 => ?_)
  have om2 : h2[0]? = some (.inr (11, [.ref 1, .int 13, .ref 2, .ref 8, .ref 21, .ref 68, .ref 78])) := oz2
  have oa2 := (ek2 1 (by decide)).trans oa1
  show T_W _ (E_run _ E_m162 3972 (49, [(2, .int 24), (0, .ref 0), (1, .int v)], []) _ 0)
  refine T_of (S_go rfl rfl) ?_
  refine T_of (S_go rfl rfl) ?_
  refine T_of (S_go rfl rfl) ?_
  refine T_of (S_go rfl rfl) ?_
  refine T_of (S_go rfl rfl) ?_
  refine T_of (S_get rfl om2 rfl (by decide) rfl) ?_
  refine T_of (S_go rfl rfl) ?_
  show T_W _ (E_run _ E_m162 3965 (14, [(2, .int 16), (0, .ref 0), (1, .int v)], []) _ 0)
  refine T_of (S_go rfl rfl) ?_
  refine T_of (S_get rfl om2 rfl (by decide) rfl) ?_
  refine T_of (S_go rfl rfl) ?_
  refine T_of (S_get rfl om2 rfl (by decide) rfl) ?_
  refine T_alen rfl oa2 (by decide) ?_
  refine T_of (S_go rfl rfl) ?_
  show T_W _ (E_run _ E_m162 3959 (26, [(2, .int 16), (0, .ref 0), (1, .int v)], []) _ 0)
  refine T_of (S_go rfl rfl) ?_
  refine T_of (S_get rfl om2 rfl (by decide) rfl) ?_
  refine T_of (S_go rfl rfl) ?_
  refine T_of (S_get rfl om2 rfl (by decide) rfl) ?_
  refine T_of (S_go rfl rfl) ?_
  refine T_of (S_go rfl rfl) ?_
  refine T_of (S_go rfl rfl) ?_
  refine T_of (S_go rfl rfl) ?_
  refine T_bst rfl oa2 (by decide) (fun h3 g3 oa3 ek3 el3 => ?_)
  have om3 := (ek3 0 (by decide)).trans om2
  show T_W _ (E_run _ E_m162 3950 (39, [(2, .int 16), (0, .ref 0), (1, .int v)], []) _ 0)
  refine T_of (S_go rfl rfl) ?_
  refine T_of (S_go rfl rfl) ?_
  refine T_of (S_get rfl om3 rfl (by decide) rfl) ?_
  refine T_of (S_go rfl rfl) ?_
  refine T_of (S_go rfl rfl) ?_
  refine T_putf rfl om3 (by decide +kernel) (fun h4 oz4 ek4 el4 => ?_)
  have om4 : h4[0]? = some (.inr (11, [.ref 1, .int 14, .ref 2, .ref 8, .ref 21, .ref 68, .ref 78])) := oz4
  have oa4 := (ek4 1 (by decide)).trans oa3
  show T_W _ (E_run _ E_m162 3944 (49, [(2, .int 16), (0, .ref 0), (1, .int v)], []) _ 0)
  refine T_of (S_go rfl rfl) ?_
  refine T_of (S_go rfl rfl) ?_
  refine T_of (S_go rfl rfl) ?_
  refine T_of (S_go rfl rfl) ?_
  refine T_of (S_go rfl rfl) ?_
  refine T_of (S_get rfl om4 rfl (by decide) rfl) ?_
  refine T_of (S_go rfl rfl) ?_
  show T_W _ (E_run _ E_m162 3937 (14, [(2, .int 8), (0, .ref 0), (1, .int v)], []) _ 0)
  refine T_of (S_go rfl rfl) ?_
  refine T_of (S_get rfl om4 rfl (by decide) rfl) ?_
  refine T_of (S_go rfl rfl) ?_
  refine T_of (S_get rfl om4 rfl (by decide) rfl) ?_
  refine T_alen rfl oa4 (by decide) ?_
  refine T_of (S_go rfl rfl) ?_
  show T_W _ (E_run _ E_m162 3931 (26, [(2, .int 8), (0, .ref 0), (1, .int v)], []) _ 0)
  refine T_of (S_go rfl rfl) ?_
  refine T_of (S_get rfl om4 rfl (by decide) rfl) ?_
  refine T_of (S_go rfl rfl) ?_
  refine T_of (S_get rfl om4 rfl (by decide) rfl) ?_
  refine T_of (S_go rfl rfl) ?_
  refine T_of (S_go rfl rfl) ?_
  refine T_of (S_go rfl rfl) ?_
  refine T_of (S_go rfl rfl) ?_
  refine T_bst rfl oa4 (by decide) (fun h5 g5 oa5 ek5 el5 => ?_)
  have om5 := (ek5 0 (by decide)).trans om4
  show T_W _ (E_run _ E_m162 3922 (39, [(2, .int 8), (0, .ref 0), (1, .int v)], []) _ 0)
  refine T_of (S_go rfl rfl) ?_
  refine T_of (S_go rfl rfl) ?_
  refine T_of (S_get rfl om5 rfl (by decide) rfl) ?_
  refine T_of (S_go rfl rfl) ?_
  refine T_of (S_go rfl rfl) ?_
  refine T_putf rfl om5 (by decide +kernel) (fun h6 oz6 ek6 el6 => ?_)
  have om6 : h6[0]? = some (.inr (11, [.ref 1, .int 15, .ref 2, .ref 8, .ref 21, .ref 68, .ref 78])) := oz6
  have oa6 := (ek6 1 (by decide)).trans oa5
  show T_W _ (E_run _ E_m162 3916 (49, [(2, .int 8), (0, .ref 0), (1, .int v)], []) _ 0)
  refine T_of (S_go rfl rfl) ?_
  refine T_of (S_go rfl rfl) ?_
  refine T_of (S_go rfl rfl) ?_
  refine T_of (S_go rfl rfl) ?_
  refine T_of (S_go rfl rfl) ?_
  refine T_of (S_get rfl om6 rfl (by decide) rfl) ?_
  refine T_of (S_go rfl rfl) ?_
  show T_W _ (E_run _ E_m162 3909 (14, [(2, .int 0), (0, .ref 0), (1, .int v)], []) _ 0)
  refine T_of (S_go rfl rfl) ?_
  refine T_of (S_get rfl om6 rfl (by decide) rfl) ?_
  refine T_of (S_go rfl rfl) ?_
  refine T_of (S_get rfl om6 rfl (by decide) rfl) ?_
  refine T_alen rfl oa6 (by decide) ?_
  refine T_of (S_go rfl rfl) ?_
  show T_W _ (E_run _ E_m162 3903 (26, [(2, .int 0), (0, .ref 0), (1, .int v)], []) _ 0)
  refine T_of (S_go rfl rfl) ?_
  refine T_of (S_get rfl om6 rfl (by decide) rfl) ?_
  refine T_of (S_go rfl rfl) ?_
  refine T_of (S_get rfl om6 rfl (by decide) rfl) ?_
  refine T_of (S_go rfl rfl) ?_
  refine T_of (S_go rfl rfl) ?_
  refine T_of (S_go rfl rfl) ?_
  refine T_of (S_go rfl rfl) ?_
  refine T_bst rfl oa6 (by decide) (fun h7 g7 oa7 ek7 el7 => ?_)
  have om7 := (ek7 0 (by decide)).trans om6
  show T_W _ (E_run _ E_m162 3894 (39, [(2, .int 0), (0, .ref 0), (1, .int v)], []) _ 0)
  refine T_of (S_go rfl rfl) ?_
  refine T_of (S_go rfl rfl) ?_
  refine T_of (S_get rfl om7 rfl (by decide) rfl) ?_
  refine T_of (S_go rfl rfl) ?_
  refine T_of (S_go rfl rfl) ?_
  refine T_putf rfl om7 (by decide +kernel) (fun h8 oz8 ek8 el8 => ?_)
  have om8 : h8[0]? = some (.inr (11, [.ref 1, .int 16, .ref 2, .ref 8, .ref 21, .ref 68, .ref 78])) := oz8
  have oa8 := (ek8 1 (by decide)).trans oa7
  show T_W _ (E_run _ E_m162 3888 (49, [(2, .int 0), (0, .ref 0), (1, .int v)], []) _ 0)
  refine T_of (S_go rfl rfl) ?_
  refine T_of (S_go rfl rfl) ?_
  refine T_of (S_go rfl rfl) ?_
  refine T_of (S_go rfl rfl) ?_
  exact T_end rfl ⟨rfl, rfl, om8, ⟨_, oa8⟩, fun j j0 j1 => (ek8 j j0).trans ((ek7 j j1).trans ((ek6 j j0).trans ((ek5 j j1).trans ((ek4 j j0).trans ((ek3 j j1).trans ((ek2 j j0).trans ((ek1 j j1)))))))), el8.trans (el7.trans (el6.trans (el5.trans (el4.trans (el3.trans (el2.trans (el1)))))))⟩
set_option maxRecDepth 100000 in
theorem X_wn16 {h : E_H} {g : Nat → Int32} (d : Nat) (v : Int32) (OM : h[0]? = some (.inr (11, [.ref 1, .int 16, .ref 2, .ref 8, .ref 21, .ref 68, .ref 78]))) (OA : h[1]? = some (.inl (1, 1000, .inl g))) : T_W (fun r => match r with | (x, h2, s2) => x = none ∧ s2 = 0 ∧ h2[0]? = some (.inr (11, [.ref 1, .int 20, .ref 2, .ref 8, .ref 21, .ref 68, .ref 78])) ∧ (∃ g2, h2[1]? = some (.inl (1, 1000, .inl g2))) ∧ (∀ j, j ≠ 0 → j ≠ 1 → h2[j]? = h[j]?) ∧ h2.length = h.length) (E_call 4000 (d + 1) 162 [.ref 0, .int v] h) := by
  refine T_call (M := E_m162) rfl (Nat.le_of_ble_eq_true rfl) ?_
  refine T_of (S_go rfl rfl) ?_
  refine T_of (S_go rfl rfl) ?_
  refine T_of (S_go rfl rfl) ?_
  refine T_of (S_go rfl rfl) ?_
  refine T_of (S_go rfl rfl) ?_
  refine T_of (S_get rfl OM rfl (by decide) rfl) ?_
  refine T_of (S_go rfl rfl) ?_
  show T_W _ (E_run _ E_m162 3993 (14, [(2, .int 24), (0, .ref 0), (1, .int v)], []) _ 0)
  refine T_of (S_go rfl rfl) ?_
  refine T_of (S_get rfl OM rfl (by decide) rfl) ?_
  refine T_of (S_go rfl rfl) ?_
  refine T_of (S_get rfl OM rfl (by decide) rfl) ?_
  refine T_alen rfl OA (by decide) ?_
  refine T_of (S_go rfl rfl) ?_
  show T_W _ (E_run _ E_m162 3987 (26, [(2, .int 24), (0, .ref 0), (1, .int v)], []) _ 0)
  refine T_of (S_go rfl rfl) ?_
  refine T_of (S_get rfl OM rfl (by decide) rfl) ?_
  refine T_of (S_go rfl rfl) ?_
  refine T_of (S_get rfl OM rfl (by decide) rfl) ?_
  refine T_of (S_go rfl rfl) ?_
  refine T_of (S_go rfl rfl) ?_
  refine T_of (S_go rfl rfl) ?_
  refine T_of (S_go rfl rfl) ?_
  refine T_bst rfl OA (by decide) (fun h1 g1 oa1 ek1 el1 => ?_)
  have om1 := (ek1 0 (by decide)).trans OM
  show T_W _ (E_run _ E_m162 3978 (39, [(2, .int 24), (0, .ref 0), (1, .int v)], []) _ 0)
  refine T_of (S_go rfl rfl) ?_
  refine T_of (S_go rfl rfl) ?_
  refine T_of (S_get rfl om1 rfl (by decide) rfl) ?_
  refine T_of (S_go rfl rfl) ?_
  refine T_of (S_go rfl rfl) ?_
  refine T_putf rfl om1 (by decide +kernel) (fun h2 oz2 ek2 el2 => ?_)
  have om2 : h2[0]? = some (.inr (11, [.ref 1, .int 17, .ref 2, .ref 8, .ref 21, .ref 68, .ref 78])) := oz2
  have oa2 := (ek2 1 (by decide)).trans oa1
  show T_W _ (E_run _ E_m162 3972 (49, [(2, .int 24), (0, .ref 0), (1, .int v)], []) _ 0)
  refine T_of (S_go rfl rfl) ?_
  refine T_of (S_go rfl rfl) ?_
  refine T_of (S_go rfl rfl) ?_
  refine T_of (S_go rfl rfl) ?_
  refine T_of (S_go rfl rfl) ?_
  refine T_of (S_get rfl om2 rfl (by decide) rfl) ?_
  refine T_of (S_go rfl rfl) ?_
  show T_W _ (E_run _ E_m162 3965 (14, [(2, .int 16), (0, .ref 0), (1, .int v)], []) _ 0)
  refine T_of (S_go rfl rfl) ?_
  refine T_of (S_get rfl om2 rfl (by decide) rfl) ?_
  refine T_of (S_go rfl rfl) ?_
  refine T_of (S_get rfl om2 rfl (by decide) rfl) ?_
  refine T_alen rfl oa2 (by decide) ?_
  refine T_of (S_go rfl rfl) ?_
  show T_W _ (E_run _ E_m162 3959 (26, [(2, .int 16), (0, .ref 0), (1, .int v)], []) _ 0)
  refine T_of (S_go rfl rfl) ?_
  refine T_of (S_get rfl om2 rfl (by decide) rfl) ?_
  refine T_of (S_go rfl rfl) ?_
  refine T_of (S_get rfl om2 rfl (by decide) rfl) ?_
  refine T_of (S_go rfl rfl) ?_
  refine T_of (S_go rfl rfl) ?_
  refine T_of (S_go rfl rfl) ?_
  refine T_of (S_go rfl rfl) ?_
  refine T_bst rfl oa2 (by decide) (fun h3 g3 oa3 ek3 el3 => ?_)
  have om3 := (ek3 0 (by decide)).trans om2
  show T_W _ (E_run _ E_m162 3950 (39, [(2, .int 16), (0, .ref 0), (1, .int v)], []) _ 0)
  refine T_of (S_go rfl rfl) ?_
  refine T_of (S_go rfl rfl) ?_
  refine T_of (S_get rfl om3 rfl (by decide) rfl) ?_
  refine T_of (S_go rfl rfl) ?_
  refine T_of (S_go rfl rfl) ?_
  refine T_putf rfl om3 (by decide +kernel) (fun h4 oz4 ek4 el4 => ?_)
  have om4 : h4[0]? = some (.inr (11, [.ref 1, .int 18, .ref 2, .ref 8, .ref 21, .ref 68, .ref 78])) := oz4
  have oa4 := (ek4 1 (by decide)).trans oa3
  show T_W _ (E_run _ E_m162 3944 (49, [(2, .int 16), (0, .ref 0), (1, .int v)], []) _ 0)
  refine T_of (S_go rfl rfl) ?_
  refine T_of (S_go rfl rfl) ?_
  refine T_of (S_go rfl rfl) ?_
  refine T_of (S_go rfl rfl) ?_
  refine T_of (S_go rfl rfl) ?_
  refine T_of (S_get rfl om4 rfl (by decide) rfl) ?_
  refine T_of (S_go rfl rfl) ?_
  show T_W _ (E_run _ E_m162 3937 (14, [(2, .int 8), (0, .ref 0), (1, .int v)], []) _ 0)
  refine T_of (S_go rfl rfl) ?_
  refine T_of (S_get rfl om4 rfl (by decide) rfl) ?_
  refine T_of (S_go rfl rfl) ?_
  refine T_of (S_get rfl om4 rfl (by decide) rfl) ?_
  refine T_alen rfl oa4 (by decide) ?_
  refine T_of (S_go rfl rfl) ?_
  show T_W _ (E_run _ E_m162 3931 (26, [(2, .int 8), (0, .ref 0), (1, .int v)], []) _ 0)
  refine T_of (S_go rfl rfl) ?_
  refine T_of (S_get rfl om4 rfl (by decide) rfl) ?_
  refine T_of (S_go rfl rfl) ?_
  refine T_of (S_get rfl om4 rfl (by decide) rfl) ?_
  refine T_of (S_go rfl rfl) ?_
  refine T_of (S_go rfl rfl) ?_
  refine T_of (S_go rfl rfl) ?_
  refine T_of (S_go rfl rfl) ?_
  refine T_bst rfl oa4 (by decide) (fun h5 g5 oa5 ek5 el5 => ?_)
  have om5 := (ek5 0 (by decide)).trans om4
  show T_W _ (E_run _ E_m162 3922 (39, [(2, .int 8), (0, .ref 0), (1, .int v)], []) _ 0)
  refine T_of (S_go rfl rfl) ?_
  refine T_of (S_go rfl rfl) ?_
  refine T_of (S_get rfl om5 rfl (by decide) rfl) ?_
  refine T_of (S_go rfl rfl) ?_
  refine T_of (S_go rfl rfl) ?_
  refine T_putf rfl om5 (by decide +kernel) (fun h6 oz6 ek6 el6 => ?_)
  have om6 : h6[0]? = some (.inr (11, [.ref 1, .int 19, .ref 2, .ref 8, .ref 21, .ref 68, .ref 78])) := oz6
  have oa6 := (ek6 1 (by decide)).trans oa5
  show T_W _ (E_run _ E_m162 3916 (49, [(2, .int 8), (0, .ref 0), (1, .int v)], []) _ 0)
  refine T_of (S_go rfl rfl) ?_
  refine T_of (S_go rfl rfl) ?_
  refine T_of (S_go rfl rfl) ?_
  refine T_of (S_go rfl rfl) ?_
  refine T_of (S_go rfl rfl) ?_
  refine T_of (S_get rfl om6 rfl (by decide) rfl) ?_
  refine T_of (S_go rfl rfl) ?_
  show T_W _ (E_run _ E_m162 3909 (14, [(2, .int 0), (0, .ref 0), (1, .int v)], []) _ 0)
  refine T_of (S_go rfl rfl) ?_
  refine T_of (S_get rfl om6 rfl (by decide) rfl) ?_
  refine T_of (S_go rfl rfl) ?_
  refine T_of (S_get rfl om6 rfl (by decide) rfl) ?_
  refine T_alen rfl oa6 (by decide) ?_
  refine T_of (S_go rfl rfl) ?_
  show T_W _ (E_run _ E_m162 3903 (26, [(2, .int 0), (0, .ref 0), (1, .int v)], []) _ 0)
  refine T_of (S_go rfl rfl) ?_
  refine T_of (S_get rfl om6 rfl (by decide) rfl) ?_
  refine T_of (S_go rfl rfl) ?_
  refine T_of (S_get rfl om6 rfl (by decide) rfl) ?_
  refine T_of (S_go rfl rfl) ?_
  refine T_of (S_go rfl rfl) ?_
  refine T_of (S_go rfl rfl) ?_
  refine T_of (S_go rfl rfl) ?_
  refine T_bst rfl oa6 (by decide) (fun h7 g7 oa7 ek7 el7 => ?_)
  have om7 := (ek7 0 (by decide)).trans om6
  show T_W _ (E_run _ E_m162 3894 (39, [(2, .int 0), (0, .ref 0), (1, .int v)], []) _ 0)
  refine T_of (S_go rfl rfl) ?_
  refine T_of (S_go rfl rfl) ?_
  refine T_of (S_get rfl om7 rfl (by decide) rfl) ?_
  refine T_of (S_go rfl rfl) ?_
  refine T_of (S_go rfl rfl) ?_
  refine T_putf rfl om7 (by decide +kernel) (fun h8 oz8 ek8 el8 => ?_)
  have om8 : h8[0]? = some (.inr (11, [.ref 1, .int 20, .ref 2, .ref 8, .ref 21, .ref 68, .ref 78])) := oz8
  have oa8 := (ek8 1 (by decide)).trans oa7
  show T_W _ (E_run _ E_m162 3888 (49, [(2, .int 0), (0, .ref 0), (1, .int v)], []) _ 0)
  refine T_of (S_go rfl rfl) ?_
  refine T_of (S_go rfl rfl) ?_
  refine T_of (S_go rfl rfl) ?_
  refine T_of (S_go rfl rfl) ?_
  exact T_end rfl ⟨rfl, rfl, om8, ⟨_, oa8⟩, fun j j0 j1 => (ek8 j j0).trans ((ek7 j j1).trans ((ek6 j j0).trans ((ek5 j j1).trans ((ek4 j j0).trans ((ek3 j j1).trans ((ek2 j j0).trans ((ek1 j j1)))))))), el8.trans (el7.trans (el6.trans (el5.trans (el4.trans (el3.trans (el2.trans (el1)))))))⟩
set_option maxRecDepth 100000 in
theorem X_feed {h : E_H} {g : Nat → Int32} (d : Nat) (a b c e f : Int32) (OM : h[0]? = some (.inr (11, [.ref 1, .int 0, .ref 2, .ref 8, .ref 21, .ref 68, .ref 78]))) (OA : h[1]? = some (.inl (1, 1000, .inl g))) : T_W (fun r => match r with | (x, h2, s2) => x = some (.int 20) ∧ s2 = 0 ∧ h2[0]? = some (.inr (11, [.ref 1, .int 20, .ref 2, .ref 8, .ref 21, .ref 68, .ref 78])) ∧ (∃ g2, h2[1]? = some (.inl (1, 1000, .inl g2))) ∧ (∀ j, j ≠ 0 → j ≠ 1 → h2[j]? = h[j]?) ∧ h2.length = h.length) (E_call 4000 (d + 2) 145 [.ref 0, .int a, .int b, .int c, .int e, .int f] h) := by
  refine T_call (M := E_m145) rfl (Nat.le_of_ble_eq_true rfl) ?_
  refine T_of (S_go rfl rfl) ?_
  refine T_of (S_get rfl OM rfl (by decide) rfl) ?_
  refine T_of (S_go rfl rfl) ?_
  refine T_of (S_go rfl rfl) ?_
  refine T_of (S_go rfl rfl) ?_
  refine T_of (S_go rfl rfl) ?_
  show T_W _ (E_run _ E_m145 3994 (15, [(0, .ref 0), (1, .int a), (2, .int b), (3, .int c), (4, .int e), (5, .int f)], []) _ 0)
  refine T_of (S_go rfl rfl) ?_
  refine T_of (S_go rfl rfl) ?_
  refine T_callV (M2 := E_m162) (o := 0) (As := [.int a]) rfl (by decide) rfl rfl rfl (by decide +kernel) OM (by decide) (Nat.le_of_ble_eq_true rfl) (X_wn0 _ a OM OA) (fun x1 h1 s1 hq1 => ?_)
  obtain ⟨rfl, rfl, om1, ⟨g1, oa1⟩, ek1, el1⟩ := hq1
  refine T_of (S_go rfl rfl) ?_
  refine T_of (S_go rfl rfl) ?_
  refine T_callV (M2 := E_m162) (o := 0) (As := [.int b]) rfl (by decide) rfl rfl rfl (by decide +kernel) om1 (by decide) (Nat.le_of_ble_eq_true rfl) (X_wn4 _ b om1 oa1) (fun x2 h2 s2 hq2 => ?_)
  obtain ⟨rfl, rfl, om2, ⟨g2, oa2⟩, ek2, el2⟩ := hq2
  show T_W _ (E_run _ E_m145 3988 (25, [(0, .ref 0), (1, .int a), (2, .int b), (3, .int c), (4, .int e), (5, .int f)], []) _ 0)
  refine T_of (S_go rfl rfl) ?_
  refine T_of (S_go rfl rfl) ?_
  refine T_callV (M2 := E_m162) (o := 0) (As := [.int c]) rfl (by decide) rfl rfl rfl (by decide +kernel) om2 (by decide) (Nat.le_of_ble_eq_true rfl) (X_wn8 _ c om2 oa2) (fun x3 h3 s3 hq3 => ?_)
  obtain ⟨rfl, rfl, om3, ⟨g3, oa3⟩, ek3, el3⟩ := hq3
  refine T_of (S_go rfl rfl) ?_
  refine T_of (S_go rfl rfl) ?_
  refine T_callV (M2 := E_m162) (o := 0) (As := [.int e]) rfl (by decide) rfl rfl rfl (by decide +kernel) om3 (by decide) (Nat.le_of_ble_eq_true rfl) (X_wn12 _ e om3 oa3) (fun x4 h4 s4 hq4 => ?_)
  obtain ⟨rfl, rfl, om4, ⟨g4, oa4⟩, ek4, el4⟩ := hq4
  show T_W _ (E_run _ E_m145 3982 (36, [(0, .ref 0), (1, .int a), (2, .int b), (3, .int c), (4, .int e), (5, .int f)], []) _ 0)
  refine T_of (S_go rfl rfl) ?_
  refine T_of (S_go rfl rfl) ?_
  refine T_callV (M2 := E_m162) (o := 0) (As := [.int f]) rfl (by decide) rfl rfl rfl (by decide +kernel) om4 (by decide) (Nat.le_of_ble_eq_true rfl) (X_wn16 _ f om4 oa4) (fun x5 h5 s5 hq5 => ?_)
  obtain ⟨rfl, rfl, om5, ⟨g5, oa5⟩, ek5, el5⟩ := hq5
  refine T_of (S_go rfl rfl) ?_
  refine T_of (S_get rfl om5 rfl (by decide) rfl) ?_
  exact T_end rfl ⟨rfl, rfl, om5, ⟨_, oa5⟩, fun j j0 j1 => (ek5 j j0 j1).trans ((ek4 j j0 j1).trans ((ek3 j j0 j1).trans ((ek2 j j0 j1).trans ((ek1 j j0 j1))))), el5.trans (el4.trans (el3.trans (el2.trans (el1))))⟩
set_option maxRecDepth 100000 in
set_option maxHeartbeats 4000000 in
theorem Y_feed {h : E_H} {g : Nat → Int32} (d : Nat) (a b c e f : Int32) (OM : h[83]? = some (.inr (12, [.ref 84, .int 0, .ref 85, .int 0, .ref 86, .ref 87, .ref 88, .int 0, .int 0, .ref 89, .ref 90, .ref 91, .ref 92, .int 0, .ref 93, .int 0, .int 0, .int 0, .int 0, .int 0, .int 0, .int (-1), .int 0, .ref 94, .ref 95, .long 0, .ref 96, .ref 97, .ref 98, .ref 99, .ref 100, .ref 101, .ref 102, .ref 103, .ref 104, .ref 105, .ref 106, .int 0, .ref 107, .ref 108, .ref 109, .int 0, .ref 110, .int 0, .ref 111, .ref 112, .ref 113, .ref 114, .int 0, .ref 115, .ref 116, .ref 117, .ref 118, .ref 119, .ref 120, .ref 121, .int 0, .ref 122, .ref 123, .int 0, .ref 124, .ref 125, .ref 126, .int 0, .ref 127, .ref 128, .ref 129, .ref 130, .int 0, .ref 131, .int 0, .int 0, .int 0, .long 0]))) (OA : h[84]? = some (.inl (0, 1000, .inl g))) : T_W (fun r => match r with | (x, h2, s2) => x = some (.int 20) ∧ s2 = 0 ∧ h2[83]? = some (.inr (12, [.ref 84, .int 20, .ref 85, .int 0, .ref 86, .ref 87, .ref 88, .int 0, .int 0, .ref 89, .ref 90, .ref 91, .ref 92, .int 0, .ref 93, .int 0, .int 0, .int 0, .int 0, .int 0, .int 0, .int (-1), .int 0, .ref 94, .ref 95, .long 0, .ref 96, .ref 97, .ref 98, .ref 99, .ref 100, .ref 101, .ref 102, .ref 103, .ref 104, .ref 105, .ref 106, .int 0, .ref 107, .ref 108, .ref 109, .int 0, .ref 110, .int 0, .ref 111, .ref 112, .ref 113, .ref 114, .int 0, .ref 115, .ref 116, .ref 117, .ref 118, .ref 119, .ref 120, .ref 121, .int 0, .ref 122, .ref 123, .int 0, .ref 124, .ref 125, .ref 126, .int 0, .ref 127, .ref 128, .ref 129, .ref 130, .int 0, .ref 131, .int 0, .int 0, .int 0, .long 0])) ∧ (∃ g2, h2[84]? = some (.inl (0, 1000, .inl g2))) ∧ (∀ j, j ≠ 83 → j ≠ 84 → h2[j]? = h[j]?) ∧ h2.length = h.length) (E_call 4000 (d + 1) 175 [.ref 83, .int a, .int b, .int c, .int e, .int f] h) := by
  refine T_call (M := E_m175) rfl (Nat.le_of_ble_eq_true rfl) ?_
  refine T_of (S_go rfl rfl) ?_
  refine T_of (S_get rfl OM rfl (by decide) rfl) ?_
  refine T_of (S_go rfl rfl) ?_
  refine T_of (S_go rfl rfl) ?_
  refine T_of (S_go rfl rfl) ?_
  refine T_of (S_go rfl rfl) ?_
  show T_W _ (E_run _ E_m175 3994 (15, [(0, .ref 83), (1, .int a), (2, .int b), (3, .int c), (4, .int e), (5, .int f)], []) _ 0)
  refine T_of (S_go rfl rfl) ?_
  refine T_of (S_go rfl rfl) ?_
  refine T_of (S_go rfl rfl) ?_
  refine T_of (S_go rfl rfl) ?_
  refine T_of (S_go rfl rfl) ?_
  show T_W _ (E_run _ E_m175 3989 (25, [(6, .int 0), (0, .ref 83), (1, .int a), (2, .int b), (3, .int c), (4, .int e), (5, .int f)], []) _ 0)
  refine T_of (S_go rfl rfl) ?_
  refine T_of (S_go rfl rfl) ?_
  refine T_of (S_go rfl rfl) ?_
  refine T_of (S_go rfl rfl) ?_
  refine T_of (S_go rfl rfl) ?_
  refine T_of (S_go rfl rfl) ?_
  show T_W _ (E_run _ E_m175 3983 (73, [(7, .int a), (6, .int 0), (0, .ref 83), (1, .int a), (2, .int b), (3, .int c), (4, .int e), (5, .int f)], []) _ 0)
  refine T_of (S_go rfl rfl) ?_
  refine T_of (S_get rfl OM rfl (by decide) rfl) ?_
  refine T_of (S_go rfl rfl) ?_
  refine T_of (S_get rfl OM rfl (by decide) rfl) ?_
  refine T_of (S_go rfl rfl) ?_
  refine T_of (S_go rfl rfl) ?_
  refine T_of (S_go rfl rfl) ?_
  refine T_of (S_go rfl rfl) ?_
  refine T_of (S_go rfl rfl) ?_
  refine T_of (S_go rfl rfl) ?_
  refine T_of (S_go rfl rfl) ?_
  refine T_of (S_go rfl rfl) ?_
  refine T_of (S_go rfl rfl) ?_
  refine T_of (S_go rfl rfl) ?_
  refine T_of (S_go rfl rfl) ?_
  refine T_ast rfl OA (by decide) (fun h1 g1 oa1 ek1 el1 => ?_)
  have om1 := (ek1 83 (by decide)).trans OM
  show T_W _ (E_run _ E_m175 3967 (99, [(7, .int a), (6, .int 0), (0, .ref 83), (1, .int a), (2, .int b), (3, .int c), (4, .int e), (5, .int f)], []) _ 0)
  refine T_of (S_go rfl rfl) ?_
  refine T_of (S_go rfl rfl) ?_
  refine T_of (S_get rfl om1 rfl (by decide) rfl) ?_
  refine T_of (S_go rfl rfl) ?_
  refine T_of (S_go rfl rfl) ?_
  refine T_putf rfl om1 (by decide +kernel) (fun h2 oz2 ek2 el2 => ?_)
  have om2 : h2[83]? = some (.inr (12, [.ref 84, .int 1, .ref 85, .int 0, .ref 86, .ref 87, .ref 88, .int 0, .int 0, .ref 89, .ref 90, .ref 91, .ref 92, .int 0, .ref 93, .int 0, .int 0, .int 0, .int 0, .int 0, .int 0, .int (-1), .int 0, .ref 94, .ref 95, .long 0, .ref 96, .ref 97, .ref 98, .ref 99, .ref 100, .ref 101, .ref 102, .ref 103, .ref 104, .ref 105, .ref 106, .int 0, .ref 107, .ref 108, .ref 109, .int 0, .ref 110, .int 0, .ref 111, .ref 112, .ref 113, .ref 114, .int 0, .ref 115, .ref 116, .ref 117, .ref 118, .ref 119, .ref 120, .ref 121, .int 0, .ref 122, .ref 123, .int 0, .ref 124, .ref 125, .ref 126, .int 0, .ref 127, .ref 128, .ref 129, .ref 130, .int 0, .ref 131, .int 0, .int 0, .int 0, .long 0])) := oz2
  have oa2 := (ek2 84 (by decide)).trans oa1
  show T_W _ (E_run _ E_m175 3961 (109, [(7, .int a), (6, .int 0), (0, .ref 83), (1, .int a), (2, .int b), (3, .int c), (4, .int e), (5, .int f)], []) _ 0)
  refine T_of (S_go rfl rfl) ?_
  refine T_of (S_go rfl rfl) ?_
  refine T_of (S_go rfl rfl) ?_
  refine T_of (S_go rfl rfl) ?_
  refine T_of (S_go rfl rfl) ?_
  show T_W _ (E_run _ E_m175 3956 (25, [(6, .int 1), (7, .int a), (0, .ref 83), (1, .int a), (2, .int b), (3, .int c), (4, .int e), (5, .int f)], []) _ 0)
  refine T_of (S_go rfl rfl) ?_
  refine T_of (S_go rfl rfl) ?_
  refine T_of (S_go rfl rfl) ?_
  refine T_of (S_go rfl rfl) ?_
  refine T_of (S_go rfl rfl) ?_
  refine T_of (S_go rfl rfl) ?_
  show T_W _ (E_run _ E_m175 3950 (73, [(7, .int a), (6, .int 1), (0, .ref 83), (1, .int a), (2, .int b), (3, .int c), (4, .int e), (5, .int f)], []) _ 0)
  refine T_of (S_go rfl rfl) ?_
  refine T_of (S_get rfl om2 rfl (by decide) rfl) ?_
  refine T_of (S_go rfl rfl) ?_
  refine T_of (S_get rfl om2 rfl (by decide) rfl) ?_
  refine T_of (S_go rfl rfl) ?_
  refine T_of (S_go rfl rfl) ?_
  refine T_of (S_go rfl rfl) ?_
  refine T_of (S_go rfl rfl) ?_
  refine T_of (S_go rfl rfl) ?_
  refine T_of (S_go rfl rfl) ?_
  refine T_of (S_go rfl rfl) ?_
  refine T_of (S_go rfl rfl) ?_
  refine T_of (S_go rfl rfl) ?_
  refine T_of (S_go rfl rfl) ?_
  refine T_of (S_go rfl rfl) ?_
  refine T_ast rfl oa2 (by decide) (fun h3 g3 oa3 ek3 el3 => ?_)
  have om3 := (ek3 83 (by decide)).trans om2
  show T_W _ (E_run _ E_m175 3934 (99, [(7, .int a), (6, .int 1), (0, .ref 83), (1, .int a), (2, .int b), (3, .int c), (4, .int e), (5, .int f)], []) _ 0)
  refine T_of (S_go rfl rfl) ?_
  refine T_of (S_go rfl rfl) ?_
  refine T_of (S_get rfl om3 rfl (by decide) rfl) ?_
  refine T_of (S_go rfl rfl) ?_
  refine T_of (S_go rfl rfl) ?_
  refine T_putf rfl om3 (by decide +kernel) (fun h4 oz4 ek4 el4 => ?_)
  have om4 : h4[83]? = some (.inr (12, [.ref 84, .int 2, .ref 85, .int 0, .ref 86, .ref 87, .ref 88, .int 0, .int 0, .ref 89, .ref 90, .ref 91, .ref 92, .int 0, .ref 93, .int 0, .int 0, .int 0, .int 0, .int 0, .int 0, .int (-1), .int 0, .ref 94, .ref 95, .long 0, .ref 96, .ref 97, .ref 98, .ref 99, .ref 100, .ref 101, .ref 102, .ref 103, .ref 104, .ref 105, .ref 106, .int 0, .ref 107, .ref 108, .ref 109, .int 0, .ref 110, .int 0, .ref 111, .ref 112, .ref 113, .ref 114, .int 0, .ref 115, .ref 116, .ref 117, .ref 118, .ref 119, .ref 120, .ref 121, .int 0, .ref 122, .ref 123, .int 0, .ref 124, .ref 125, .ref 126, .int 0, .ref 127, .ref 128, .ref 129, .ref 130, .int 0, .ref 131, .int 0, .int 0, .int 0, .long 0])) := oz4
  have oa4 := (ek4 84 (by decide)).trans oa3
  show T_W _ (E_run _ E_m175 3928 (109, [(7, .int a), (6, .int 1), (0, .ref 83), (1, .int a), (2, .int b), (3, .int c), (4, .int e), (5, .int f)], []) _ 0)
  refine T_of (S_go rfl rfl) ?_
  refine T_of (S_go rfl rfl) ?_
  refine T_of (S_go rfl rfl) ?_
  refine T_of (S_go rfl rfl) ?_
  refine T_of (S_go rfl rfl) ?_
  show T_W _ (E_run _ E_m175 3923 (25, [(6, .int 2), (7, .int a), (0, .ref 83), (1, .int a), (2, .int b), (3, .int c), (4, .int e), (5, .int f)], []) _ 0)
  refine T_of (S_go rfl rfl) ?_
  refine T_of (S_go rfl rfl) ?_
  refine T_of (S_go rfl rfl) ?_
  refine T_of (S_go rfl rfl) ?_
  refine T_of (S_go rfl rfl) ?_
  refine T_of (S_go rfl rfl) ?_
  show T_W _ (E_run _ E_m175 3917 (73, [(7, .int a), (6, .int 2), (0, .ref 83), (1, .int a), (2, .int b), (3, .int c), (4, .int e), (5, .int f)], []) _ 0)
  refine T_of (S_go rfl rfl) ?_
  refine T_of (S_get rfl om4 rfl (by decide) rfl) ?_
  refine T_of (S_go rfl rfl) ?_
  refine T_of (S_get rfl om4 rfl (by decide) rfl) ?_
  refine T_of (S_go rfl rfl) ?_
  refine T_of (S_go rfl rfl) ?_
  refine T_of (S_go rfl rfl) ?_
  refine T_of (S_go rfl rfl) ?_
  refine T_of (S_go rfl rfl) ?_
  refine T_of (S_go rfl rfl) ?_
  refine T_of (S_go rfl rfl) ?_
  refine T_of (S_go rfl rfl) ?_
  refine T_of (S_go rfl rfl) ?_
  refine T_of (S_go rfl rfl) ?_
  refine T_of (S_go rfl rfl) ?_
  refine T_ast rfl oa4 (by decide) (fun h5 g5 oa5 ek5 el5 => ?_)
  have om5 := (ek5 83 (by decide)).trans om4
  show T_W _ (E_run _ E_m175 3901 (99, [(7, .int a), (6, .int 2), (0, .ref 83), (1, .int a), (2, .int b), (3, .int c), (4, .int e), (5, .int f)], []) _ 0)
  refine T_of (S_go rfl rfl) ?_
  refine T_of (S_go rfl rfl) ?_
  refine T_of (S_get rfl om5 rfl (by decide) rfl) ?_
  refine T_of (S_go rfl rfl) ?_
  refine T_of (S_go rfl rfl) ?_
  refine T_putf rfl om5 (by decide +kernel) (fun h6 oz6 ek6 el6 => ?_)
  have om6 : h6[83]? = some (.inr (12, [.ref 84, .int 3, .ref 85, .int 0, .ref 86, .ref 87, .ref 88, .int 0, .int 0, .ref 89, .ref 90, .ref 91, .ref 92, .int 0, .ref 93, .int 0, .int 0, .int 0, .int 0, .int 0, .int 0, .int (-1), .int 0, .ref 94, .ref 95, .long 0, .ref 96, .ref 97, .ref 98, .ref 99, .ref 100, .ref 101, .ref 102, .ref 103, .ref 104, .ref 105, .ref 106, .int 0, .ref 107, .ref 108, .ref 109, .int 0, .ref 110, .int 0, .ref 111, .ref 112, .ref 113, .ref 114, .int 0, .ref 115, .ref 116, .ref 117, .ref 118, .ref 119, .ref 120, .ref 121, .int 0, .ref 122, .ref 123, .int 0, .ref 124, .ref 125, .ref 126, .int 0, .ref 127, .ref 128, .ref 129, .ref 130, .int 0, .ref 131, .int 0, .int 0, .int 0, .long 0])) := oz6
  have oa6 := (ek6 84 (by decide)).trans oa5
  show T_W _ (E_run _ E_m175 3895 (109, [(7, .int a), (6, .int 2), (0, .ref 83), (1, .int a), (2, .int b), (3, .int c), (4, .int e), (5, .int f)], []) _ 0)
  refine T_of (S_go rfl rfl) ?_
  refine T_of (S_go rfl rfl) ?_
  refine T_of (S_go rfl rfl) ?_
  refine T_of (S_go rfl rfl) ?_
  refine T_of (S_go rfl rfl) ?_
  show T_W _ (E_run _ E_m175 3890 (25, [(6, .int 3), (7, .int a), (0, .ref 83), (1, .int a), (2, .int b), (3, .int c), (4, .int e), (5, .int f)], []) _ 0)
  refine T_of (S_go rfl rfl) ?_
  refine T_of (S_go rfl rfl) ?_
  refine T_of (S_go rfl rfl) ?_
  refine T_of (S_go rfl rfl) ?_
  refine T_of (S_go rfl rfl) ?_
  refine T_of (S_go rfl rfl) ?_
  show T_W _ (E_run _ E_m175 3884 (73, [(7, .int a), (6, .int 3), (0, .ref 83), (1, .int a), (2, .int b), (3, .int c), (4, .int e), (5, .int f)], []) _ 0)
  refine T_of (S_go rfl rfl) ?_
  refine T_of (S_get rfl om6 rfl (by decide) rfl) ?_
  refine T_of (S_go rfl rfl) ?_
  refine T_of (S_get rfl om6 rfl (by decide) rfl) ?_
  refine T_of (S_go rfl rfl) ?_
  refine T_of (S_go rfl rfl) ?_
  refine T_of (S_go rfl rfl) ?_
  refine T_of (S_go rfl rfl) ?_
  refine T_of (S_go rfl rfl) ?_
  refine T_of (S_go rfl rfl) ?_
  refine T_of (S_go rfl rfl) ?_
  refine T_of (S_go rfl rfl) ?_
  refine T_of (S_go rfl rfl) ?_
  refine T_of (S_go rfl rfl) ?_
  refine T_of (S_go rfl rfl) ?_
  refine T_ast rfl oa6 (by decide) (fun h7 g7 oa7 ek7 el7 => ?_)
  have om7 := (ek7 83 (by decide)).trans om6
  show T_W _ (E_run _ E_m175 3868 (99, [(7, .int a), (6, .int 3), (0, .ref 83), (1, .int a), (2, .int b), (3, .int c), (4, .int e), (5, .int f)], []) _ 0)
  refine T_of (S_go rfl rfl) ?_
  refine T_of (S_go rfl rfl) ?_
  refine T_of (S_get rfl om7 rfl (by decide) rfl) ?_
  refine T_of (S_go rfl rfl) ?_
  refine T_of (S_go rfl rfl) ?_
  refine T_putf rfl om7 (by decide +kernel) (fun h8 oz8 ek8 el8 => ?_)
  have om8 : h8[83]? = some (.inr (12, [.ref 84, .int 4, .ref 85, .int 0, .ref 86, .ref 87, .ref 88, .int 0, .int 0, .ref 89, .ref 90, .ref 91, .ref 92, .int 0, .ref 93, .int 0, .int 0, .int 0, .int 0, .int 0, .int 0, .int (-1), .int 0, .ref 94, .ref 95, .long 0, .ref 96, .ref 97, .ref 98, .ref 99, .ref 100, .ref 101, .ref 102, .ref 103, .ref 104, .ref 105, .ref 106, .int 0, .ref 107, .ref 108, .ref 109, .int 0, .ref 110, .int 0, .ref 111, .ref 112, .ref 113, .ref 114, .int 0, .ref 115, .ref 116, .ref 117, .ref 118, .ref 119, .ref 120, .ref 121, .int 0, .ref 122, .ref 123, .int 0, .ref 124, .ref 125, .ref 126, .int 0, .ref 127, .ref 128, .ref 129, .ref 130, .int 0, .ref 131, .int 0, .int 0, .int 0, .long 0])) := oz8
  have oa8 := (ek8 84 (by decide)).trans oa7
  show T_W _ (E_run _ E_m175 3862 (109, [(7, .int a), (6, .int 3), (0, .ref 83), (1, .int a), (2, .int b), (3, .int c), (4, .int e), (5, .int f)], []) _ 0)
  refine T_of (S_go rfl rfl) ?_
  refine T_of (S_go rfl rfl) ?_
  refine T_of (S_go rfl rfl) ?_
  refine T_of (S_go rfl rfl) ?_
  refine T_of (S_go rfl rfl) ?_
  show T_W _ (E_run _ E_m175 3857 (25, [(6, .int 4), (7, .int a), (0, .ref 83), (1, .int a), (2, .int b), (3, .int c), (4, .int e), (5, .int f)], []) _ 0)
  refine T_of (S_go rfl rfl) ?_
  refine T_of (S_go rfl rfl) ?_
  refine T_of (S_go rfl rfl) ?_
  refine T_of (S_go rfl rfl) ?_
  refine T_of (S_go rfl rfl) ?_
  refine T_of (S_go rfl rfl) ?_
  show T_W _ (E_run _ E_m175 3851 (42, [(6, .int 4), (7, .int a), (0, .ref 83), (1, .int a), (2, .int b), (3, .int c), (4, .int e), (5, .int f)], []) _ 0)
  refine T_of (S_go rfl rfl) ?_
  refine T_of (S_go rfl rfl) ?_
  refine T_of (S_go rfl rfl) ?_
  refine T_of (S_go rfl rfl) ?_
  refine T_of (S_get rfl om8 rfl (by decide) rfl) ?_
  refine T_of (S_go rfl rfl) ?_
  refine T_of (S_get rfl om8 rfl (by decide) rfl) ?_
  refine T_of (S_go rfl rfl) ?_
  refine T_of (S_go rfl rfl) ?_
  refine T_of (S_go rfl rfl) ?_
  refine T_of (S_go rfl rfl) ?_
  refine T_of (S_go rfl rfl) ?_
  refine T_of (S_go rfl rfl) ?_
  refine T_of (S_go rfl rfl) ?_
  refine T_of (S_go rfl rfl) ?_
  refine T_of (S_go rfl rfl) ?_
  refine T_of (S_go rfl rfl) ?_
  refine T_of (S_go rfl rfl) ?_
  refine T_ast rfl oa8 (by decide) (fun h9 g9 oa9 ek9 el9 => ?_)
  have om9 := (ek9 83 (by decide)).trans om8
  show T_W _ (E_run _ E_m175 3832 (99, [(7, .int b), (6, .int 4), (0, .ref 83), (1, .int a), (2, .int b), (3, .int c), (4, .int e), (5, .int f)], []) _ 0)
  refine T_of (S_go rfl rfl) ?_
  refine T_of (S_go rfl rfl) ?_
  refine T_of (S_get rfl om9 rfl (by decide) rfl) ?_
  refine T_of (S_go rfl rfl) ?_
  refine T_of (S_go rfl rfl) ?_
  refine T_putf rfl om9 (by decide +kernel) (fun h10 oz10 ek10 el10 => ?_)
  have om10 : h10[83]? = some (.inr (12, [.ref 84, .int 5, .ref 85, .int 0, .ref 86, .ref 87, .ref 88, .int 0, .int 0, .ref 89, .ref 90, .ref 91, .ref 92, .int 0, .ref 93, .int 0, .int 0, .int 0, .int 0, .int 0, .int 0, .int (-1), .int 0, .ref 94, .ref 95, .long 0, .ref 96, .ref 97, .ref 98, .ref 99, .ref 100, .ref 101, .ref 102, .ref 103, .ref 104, .ref 105, .ref 106, .int 0, .ref 107, .ref 108, .ref 109, .int 0, .ref 110, .int 0, .ref 111, .ref 112, .ref 113, .ref 114, .int 0, .ref 115, .ref 116, .ref 117, .ref 118, .ref 119, .ref 120, .ref 121, .int 0, .ref 122, .ref 123, .int 0, .ref 124, .ref 125, .ref 126, .int 0, .ref 127, .ref 128, .ref 129, .ref 130, .int 0, .ref 131, .int 0, .int 0, .int 0, .long 0])) := oz10
  have oa10 := (ek10 84 (by decide)).trans oa9
  show T_W _ (E_run _ E_m175 3826 (109, [(7, .int b), (6, .int 4), (0, .ref 83), (1, .int a), (2, .int b), (3, .int c), (4, .int e), (5, .int f)], []) _ 0)
  refine T_of (S_go rfl rfl) ?_
  refine T_of (S_go rfl rfl) ?_
  refine T_of (S_go rfl rfl) ?_
  refine T_of (S_go rfl rfl) ?_
  refine T_of (S_go rfl rfl) ?_
  show T_W _ (E_run _ E_m175 3821 (25, [(6, .int 5), (7, .int b), (0, .ref 83), (1, .int a), (2, .int b), (3, .int c), (4, .int e), (5, .int f)], []) _ 0)
  refine T_of (S_go rfl rfl) ?_
  refine T_of (S_go rfl rfl) ?_
  refine T_of (S_go rfl rfl) ?_
  refine T_of (S_go rfl rfl) ?_
  refine T_of (S_go rfl rfl) ?_
  refine T_of (S_go rfl rfl) ?_
  show T_W _ (E_run _ E_m175 3815 (42, [(6, .int 5), (7, .int b), (0, .ref 83), (1, .int a), (2, .int b), (3, .int c), (4, .int e), (5, .int f)], []) _ 0)
  refine T_of (S_go rfl rfl) ?_
  refine T_of (S_go rfl rfl) ?_
  refine T_of (S_go rfl rfl) ?_
  refine T_of (S_go rfl rfl) ?_
  refine T_of (S_get rfl om10 rfl (by decide) rfl) ?_
  refine T_of (S_go rfl rfl) ?_
  refine T_of (S_get rfl om10 rfl (by decide) rfl) ?_
  refine T_of (S_go rfl rfl) ?_
  refine T_of (S_go rfl rfl) ?_
  refine T_of (S_go rfl rfl) ?_
  refine T_of (S_go rfl rfl) ?_
  refine T_of (S_go rfl rfl) ?_
  refine T_of (S_go rfl rfl) ?_
  refine T_of (S_go rfl rfl) ?_
  refine T_of (S_go rfl rfl) ?_
  refine T_of (S_go rfl rfl) ?_
  refine T_of (S_go rfl rfl) ?_
  refine T_of (S_go rfl rfl) ?_
  refine T_ast rfl oa10 (by decide) (fun h11 g11 oa11 ek11 el11 => ?_)
  have om11 := (ek11 83 (by decide)).trans om10
  show T_W _ (E_run _ E_m175 3796 (99, [(7, .int b), (6, .int 5), (0, .ref 83), (1, .int a), (2, .int b), (3, .int c), (4, .int e), (5, .int f)], []) _ 0)
  refine T_of (S_go rfl rfl) ?_
  refine T_of (S_go rfl rfl) ?_
  refine T_of (S_get rfl om11 rfl (by decide) rfl) ?_
  refine T_of (S_go rfl rfl) ?_
  refine T_of (S_go rfl rfl) ?_
  refine T_putf rfl om11 (by decide +kernel) (fun h12 oz12 ek12 el12 => ?_)
  have om12 : h12[83]? = some (.inr (12, [.ref 84, .int 6, .ref 85, .int 0, .ref 86, .ref 87, .ref 88, .int 0, .int 0, .ref 89, .ref 90, .ref 91, .ref 92, .int 0, .ref 93, .int 0, .int 0, .int 0, .int 0, .int 0, .int 0, .int (-1), .int 0, .ref 94, .ref 95, .long 0, .ref 96, .ref 97, .ref 98, .ref 99, .ref 100, .ref 101, .ref 102, .ref 103, .ref 104, .ref 105, .ref 106, .int 0, .ref 107, .ref 108, .ref 109, .int 0, .ref 110, .int 0, .ref 111, .ref 112, .ref 113, .ref 114, .int 0, .ref 115, .ref 116, .ref 117, .ref 118, .ref 119, .ref 120, .ref 121, .int 0, .ref 122, .ref 123, .int 0, .ref 124, .ref 125, .ref 126, .int 0, .ref 127, .ref 128, .ref 129, .ref 130, .int 0, .ref 131, .int 0, .int 0, .int 0, .long 0])) := oz12
  have oa12 := (ek12 84 (by decide)).trans oa11
  show T_W _ (E_run _ E_m175 3790 (109, [(7, .int b), (6, .int 5), (0, .ref 83), (1, .int a), (2, .int b), (3, .int c), (4, .int e), (5, .int f)], []) _ 0)
  refine T_of (S_go rfl rfl) ?_
  refine T_of (S_go rfl rfl) ?_
  refine T_of (S_go rfl rfl) ?_
  refine T_of (S_go rfl rfl) ?_
  refine T_of (S_go rfl rfl) ?_
  show T_W _ (E_run _ E_m175 3785 (25, [(6, .int 6), (7, .int b), (0, .ref 83), (1, .int a), (2, .int b), (3, .int c), (4, .int e), (5, .int f)], []) _ 0)
  refine T_of (S_go rfl rfl) ?_
  refine T_of (S_go rfl rfl) ?_
  refine T_of (S_go rfl rfl) ?_
  refine T_of (S_go rfl rfl) ?_
  refine T_of (S_go rfl rfl) ?_
  refine T_of (S_go rfl rfl) ?_
  show T_W _ (E_run _ E_m175 3779 (42, [(6, .int 6), (7, .int b), (0, .ref 83), (1, .int a), (2, .int b), (3, .int c), (4, .int e), (5, .int f)], []) _ 0)
  refine T_of (S_go rfl rfl) ?_
  refine T_of (S_go rfl rfl) ?_
  refine T_of (S_go rfl rfl) ?_
  refine T_of (S_go rfl rfl) ?_
  refine T_of (S_get rfl om12 rfl (by decide) rfl) ?_
  refine T_of (S_go rfl rfl) ?_
  refine T_of (S_get rfl om12 rfl (by decide) rfl) ?_
  refine T_of (S_go rfl rfl) ?_
  refine T_of (S_go rfl rfl) ?_
  refine T_of (S_go rfl rfl) ?_
  refine T_of (S_go rfl rfl) ?_
  refine T_of (S_go rfl rfl) ?_
  refine T_of (S_go rfl rfl) ?_
  refine T_of (S_go rfl rfl) ?_
  refine T_of (S_go rfl rfl) ?_
  refine T_of (S_go rfl rfl) ?_
  refine T_of (S_go rfl rfl) ?_
  refine T_of (S_go rfl rfl) ?_
  refine T_ast rfl oa12 (by decide) (fun h13 g13 oa13 ek13 el13 => ?_)
  have om13 := (ek13 83 (by decide)).trans om12
  show T_W _ (E_run _ E_m175 3760 (99, [(7, .int b), (6, .int 6), (0, .ref 83), (1, .int a), (2, .int b), (3, .int c), (4, .int e), (5, .int f)], []) _ 0)
  refine T_of (S_go rfl rfl) ?_
  refine T_of (S_go rfl rfl) ?_
  refine T_of (S_get rfl om13 rfl (by decide) rfl) ?_
  refine T_of (S_go rfl rfl) ?_
  refine T_of (S_go rfl rfl) ?_
  refine T_putf rfl om13 (by decide +kernel) (fun h14 oz14 ek14 el14 => ?_)
  have om14 : h14[83]? = some (.inr (12, [.ref 84, .int 7, .ref 85, .int 0, .ref 86, .ref 87, .ref 88, .int 0, .int 0, .ref 89, .ref 90, .ref 91, .ref 92, .int 0, .ref 93, .int 0, .int 0, .int 0, .int 0, .int 0, .int 0, .int (-1), .int 0, .ref 94, .ref 95, .long 0, .ref 96, .ref 97, .ref 98, .ref 99, .ref 100, .ref 101, .ref 102, .ref 103, .ref 104, .ref 105, .ref 106, .int 0, .ref 107, .ref 108, .ref 109, .int 0, .ref 110, .int 0, .ref 111, .ref 112, .ref 113, .ref 114, .int 0, .ref 115, .ref 116, .ref 117, .ref 118, .ref 119, .ref 120, .ref 121, .int 0, .ref 122, .ref 123, .int 0, .ref 124, .ref 125, .ref 126, .int 0, .ref 127, .ref 128, .ref 129, .ref 130, .int 0, .ref 131, .int 0, .int 0, .int 0, .long 0])) := oz14
  have oa14 := (ek14 84 (by decide)).trans oa13
  show T_W _ (E_run _ E_m175 3754 (109, [(7, .int b), (6, .int 6), (0, .ref 83), (1, .int a), (2, .int b), (3, .int c), (4, .int e), (5, .int f)], []) _ 0)
  refine T_of (S_go rfl rfl) ?_
  refine T_of (S_go rfl rfl) ?_
  refine T_of (S_go rfl rfl) ?_
  refine T_of (S_go rfl rfl) ?_
  refine T_of (S_go rfl rfl) ?_
  show T_W _ (E_run _ E_m175 3749 (25, [(6, .int 7), (7, .int b), (0, .ref 83), (1, .int a), (2, .int b), (3, .int c), (4, .int e), (5, .int f)], []) _ 0)
  refine T_of (S_go rfl rfl) ?_
  refine T_of (S_go rfl rfl) ?_
  refine T_of (S_go rfl rfl) ?_
  refine T_of (S_go rfl rfl) ?_
  refine T_of (S_go rfl rfl) ?_
  refine T_of (S_go rfl rfl) ?_
  show T_W _ (E_run _ E_m175 3743 (42, [(6, .int 7), (7, .int b), (0, .ref 83), (1, .int a), (2, .int b), (3, .int c), (4, .int e), (5, .int f)], []) _ 0)
  refine T_of (S_go rfl rfl) ?_
  refine T_of (S_go rfl rfl) ?_
  refine T_of (S_go rfl rfl) ?_
  refine T_of (S_go rfl rfl) ?_
  refine T_of (S_get rfl om14 rfl (by decide) rfl) ?_
  refine T_of (S_go rfl rfl) ?_
  refine T_of (S_get rfl om14 rfl (by decide) rfl) ?_
  refine T_of (S_go rfl rfl) ?_
  refine T_of (S_go rfl rfl) ?_
  refine T_of (S_go rfl rfl) ?_
  refine T_of (S_go rfl rfl) ?_
  refine T_of (S_go rfl rfl) ?_
  refine T_of (S_go rfl rfl) ?_
  refine T_of (S_go rfl rfl) ?_
  refine T_of (S_go rfl rfl) ?_
  refine T_of (S_go rfl rfl) ?_
  refine T_of (S_go rfl rfl) ?_
  refine T_of (S_go rfl rfl) ?_
  refine T_ast rfl oa14 (by decide) (fun h15 g15 oa15 ek15 el15 => ?_)
  have om15 := (ek15 83 (by decide)).trans om14
  show T_W _ (E_run _ E_m175 3724 (99, [(7, .int b), (6, .int 7), (0, .ref 83), (1, .int a), (2, .int b), (3, .int c), (4, .int e), (5, .int f)], []) _ 0)
  refine T_of (S_go rfl rfl) ?_
  refine T_of (S_go rfl rfl) ?_
  refine T_of (S_get rfl om15 rfl (by decide) rfl) ?_
  refine T_of (S_go rfl rfl) ?_
  refine T_of (S_go rfl rfl) ?_
  refine T_putf rfl om15 (by decide +kernel) (fun h16 oz16 ek16 el16 => ?_)
  have om16 : h16[83]? = some (.inr (12, [.ref 84, .int 8, .ref 85, .int 0, .ref 86, .ref 87, .ref 88, .int 0, .int 0, .ref 89, .ref 90, .ref 91, .ref 92, .int 0, .ref 93, .int 0, .int 0, .int 0, .int 0, .int 0, .int 0, .int (-1), .int 0, .ref 94, .ref 95, .long 0, .ref 96, .ref 97, .ref 98, .ref 99, .ref 100, .ref 101, .ref 102, .ref 103, .ref 104, .ref 105, .ref 106, .int 0, .ref 107, .ref 108, .ref 109, .int 0, .ref 110, .int 0, .ref 111, .ref 112, .ref 113, .ref 114, .int 0, .ref 115, .ref 116, .ref 117, .ref 118, .ref 119, .ref 120, .ref 121, .int 0, .ref 122, .ref 123, .int 0, .ref 124, .ref 125, .ref 126, .int 0, .ref 127, .ref 128, .ref 129, .ref 130, .int 0, .ref 131, .int 0, .int 0, .int 0, .long 0])) := oz16
  have oa16 := (ek16 84 (by decide)).trans oa15
  show T_W _ (E_run _ E_m175 3718 (109, [(7, .int b), (6, .int 7), (0, .ref 83), (1, .int a), (2, .int b), (3, .int c), (4, .int e), (5, .int f)], []) _ 0)
  refine T_of (S_go rfl rfl) ?_
  refine T_of (S_go rfl rfl) ?_
  refine T_of (S_go rfl rfl) ?_
  refine T_of (S_go rfl rfl) ?_
  refine T_of (S_go rfl rfl) ?_
  show T_W _ (E_run _ E_m175 3713 (25, [(6, .int 8), (7, .int b), (0, .ref 83), (1, .int a), (2, .int b), (3, .int c), (4, .int e), (5, .int f)], []) _ 0)
  refine T_of (S_go rfl rfl) ?_
  refine T_of (S_go rfl rfl) ?_
  refine T_of (S_go rfl rfl) ?_
  refine T_of (S_go rfl rfl) ?_
  refine T_of (S_go rfl rfl) ?_
  refine T_of (S_go rfl rfl) ?_
  show T_W _ (E_run _ E_m175 3707 (46, [(6, .int 8), (7, .int b), (0, .ref 83), (1, .int a), (2, .int b), (3, .int c), (4, .int e), (5, .int f)], []) _ 0)
  refine T_of (S_go rfl rfl) ?_
  refine T_of (S_go rfl rfl) ?_
  refine T_of (S_go rfl rfl) ?_
  refine T_of (S_go rfl rfl) ?_
  refine T_of (S_go rfl rfl) ?_
  refine T_of (S_go rfl rfl) ?_
  show T_W _ (E_run _ E_m175 3701 (73, [(7, .int c), (6, .int 8), (0, .ref 83), (1, .int a), (2, .int b), (3, .int c), (4, .int e), (5, .int f)], []) _ 0)
  refine T_of (S_go rfl rfl) ?_
  refine T_of (S_get rfl om16 rfl (by decide) rfl) ?_
  refine T_of (S_go rfl rfl) ?_
  refine T_of (S_get rfl om16 rfl (by decide) rfl) ?_
  refine T_of (S_go rfl rfl) ?_
  refine T_of (S_go rfl rfl) ?_
  refine T_of (S_go rfl rfl) ?_
  refine T_of (S_go rfl rfl) ?_
  refine T_of (S_go rfl rfl) ?_
  refine T_of (S_go rfl rfl) ?_
  refine T_of (S_go rfl rfl) ?_
  refine T_of (S_go rfl rfl) ?_
  refine T_of (S_go rfl rfl) ?_
  refine T_of (S_go rfl rfl) ?_
  refine T_of (S_go rfl rfl) ?_
  refine T_ast rfl oa16 (by decide) (fun h17 g17 oa17 ek17 el17 => ?_)
  have om17 := (ek17 83 (by decide)).trans om16
  show T_W _ (E_run _ E_m175 3685 (99, [(7, .int c), (6, .int 8), (0, .ref 83), (1, .int a), (2, .int b), (3, .int c), (4, .int e), (5, .int f)], []) _ 0)
  refine T_of (S_go rfl rfl) ?_
  refine T_of (S_go rfl rfl) ?_
  refine T_of (S_get rfl om17 rfl (by decide) rfl) ?_
  refine T_of (S_go rfl rfl) ?_
  refine T_of (S_go rfl rfl) ?_
  refine T_putf rfl om17 (by decide +kernel) (fun h18 oz18 ek18 el18 => ?_)
  have om18 : h18[83]? = some (.inr (12, [.ref 84, .int 9, .ref 85, .int 0, .ref 86, .ref 87, .ref 88, .int 0, .int 0, .ref 89, .ref 90, .ref 91, .ref 92, .int 0, .ref 93, .int 0, .int 0, .int 0, .int 0, .int 0, .int 0, .int (-1), .int 0, .ref 94, .ref 95, .long 0, .ref 96, .ref 97, .ref 98, .ref 99, .ref 100, .ref 101, .ref 102, .ref 103, .ref 104, .ref 105, .ref 106, .int 0, .ref 107, .ref 108, .ref 109, .int 0, .ref 110, .int 0, .ref 111, .ref 112, .ref 113, .ref 114, .int 0, .ref 115, .ref 116, .ref 117, .ref 118, .ref 119, .ref 120, .ref 121, .int 0, .ref 122, .ref 123, .int 0, .ref 124, .ref 125, .ref 126, .int 0, .ref 127, .ref 128, .ref 129, .ref 130, .int 0, .ref 131, .int 0, .int 0, .int 0, .long 0])) := oz18
  have oa18 := (ek18 84 (by decide)).trans oa17
  show T_W _ (E_run _ E_m175 3679 (109, [(7, .int c), (6, .int 8), (0, .ref 83), (1, .int a), (2, .int b), (3, .int c), (4, .int e), (5, .int f)], []) _ 0)
  refine T_of (S_go rfl rfl) ?_
  refine T_of (S_go rfl rfl) ?_
  refine T_of (S_go rfl rfl) ?_
  refine T_of (S_go rfl rfl) ?_
  refine T_of (S_go rfl rfl) ?_
  show T_W _ (E_run _ E_m175 3674 (25, [(6, .int 9), (7, .int c), (0, .ref 83), (1, .int a), (2, .int b), (3, .int c), (4, .int e), (5, .int f)], []) _ 0)
  refine T_of (S_go rfl rfl) ?_
  refine T_of (S_go rfl rfl) ?_
  refine T_of (S_go rfl rfl) ?_
  refine T_of (S_go rfl rfl) ?_
  refine T_of (S_go rfl rfl) ?_
  refine T_of (S_go rfl rfl) ?_
  show T_W _ (E_run _ E_m175 3668 (46, [(6, .int 9), (7, .int c), (0, .ref 83), (1, .int a), (2, .int b), (3, .int c), (4, .int e), (5, .int f)], []) _ 0)
  refine T_of (S_go rfl rfl) ?_
  refine T_of (S_go rfl rfl) ?_
  refine T_of (S_go rfl rfl) ?_
  refine T_of (S_go rfl rfl) ?_
  refine T_of (S_go rfl rfl) ?_
  refine T_of (S_go rfl rfl) ?_
  show T_W _ (E_run _ E_m175 3662 (73, [(7, .int c), (6, .int 9), (0, .ref 83), (1, .int a), (2, .int b), (3, .int c), (4, .int e), (5, .int f)], []) _ 0)
  refine T_of (S_go rfl rfl) ?_
  refine T_of (S_get rfl om18 rfl (by decide) rfl) ?_
  refine T_of (S_go rfl rfl) ?_
  refine T_of (S_get rfl om18 rfl (by decide) rfl) ?_
  refine T_of (S_go rfl rfl) ?_
  refine T_of (S_go rfl rfl) ?_
  refine T_of (S_go rfl rfl) ?_
  refine T_of (S_go rfl rfl) ?_
  refine T_of (S_go rfl rfl) ?_
  refine T_of (S_go rfl rfl) ?_
  refine T_of (S_go rfl rfl) ?_
  refine T_of (S_go rfl rfl) ?_
  refine T_of (S_go rfl rfl) ?_
  refine T_of (S_go rfl rfl) ?_
  refine T_of (S_go rfl rfl) ?_
  refine T_ast rfl oa18 (by decide) (fun h19 g19 oa19 ek19 el19 => ?_)
  have om19 := (ek19 83 (by decide)).trans om18
  show T_W _ (E_run _ E_m175 3646 (99, [(7, .int c), (6, .int 9), (0, .ref 83), (1, .int a), (2, .int b), (3, .int c), (4, .int e), (5, .int f)], []) _ 0)
  refine T_of (S_go rfl rfl) ?_
  refine T_of (S_go rfl rfl) ?_
  refine T_of (S_get rfl om19 rfl (by decide) rfl) ?_
  refine T_of (S_go rfl rfl) ?_
  refine T_of (S_go rfl rfl) ?_
  refine T_putf rfl om19 (by decide +kernel) (fun h20 oz20 ek20 el20 => ?_)
  have om20 : h20[83]? = some (.inr (12, [.ref 84, .int 10, .ref 85, .int 0, .ref 86, .ref 87, .ref 88, .int 0, .int 0, .ref 89, .ref 90, .ref 91, .ref 92, .int 0, .ref 93, .int 0, .int 0, .int 0, .int 0, .int 0, .int 0, .int (-1), .int 0, .ref 94, .ref 95, .long 0, .ref 96, .ref 97, .ref 98, .ref 99, .ref 100, .ref 101, .ref 102, .ref 103, .ref 104, .ref 105, .ref 106, .int 0, .ref 107, .ref 108, .ref 109, .int 0, .ref 110, .int 0, .ref 111, .ref 112, .ref 113, .ref 114, .int 0, .ref 115, .ref 116, .ref 117, .ref 118, .ref 119, .ref 120, .ref 121, .int 0, .ref 122, .ref 123, .int 0, .ref 124, .ref 125, .ref 126, .int 0, .ref 127, .ref 128, .ref 129, .ref 130, .int 0, .ref 131, .int 0, .int 0, .int 0, .long 0])) := oz20
  have oa20 := (ek20 84 (by decide)).trans oa19
  show T_W _ (E_run _ E_m175 3640 (109, [(7, .int c), (6, .int 9), (0, .ref 83), (1, .int a), (2, .int b), (3, .int c), (4, .int e), (5, .int f)], []) _ 0)
  refine T_of (S_go rfl rfl) ?_
  refine T_of (S_go rfl rfl) ?_
  refine T_of (S_go rfl rfl) ?_
  refine T_of (S_go rfl rfl) ?_
  refine T_of (S_go rfl rfl) ?_
  show T_W _ (E_run _ E_m175 3635 (25, [(6, .int 10), (7, .int c), (0, .ref 83), (1, .int a), (2, .int b), (3, .int c), (4, .int e), (5, .int f)], []) _ 0)
  refine T_of (S_go rfl rfl) ?_
  refine T_of (S_go rfl rfl) ?_
  refine T_of (S_go rfl rfl) ?_
  refine T_of (S_go rfl rfl) ?_
  refine T_of (S_go rfl rfl) ?_
  refine T_of (S_go rfl rfl) ?_
  show T_W _ (E_run _ E_m175 3629 (46, [(6, .int 10), (7, .int c), (0, .ref 83), (1, .int a), (2, .int b), (3, .int c), (4, .int e), (5, .int f)], []) _ 0)
  refine T_of (S_go rfl rfl) ?_
  refine T_of (S_go rfl rfl) ?_
  refine T_of (S_go rfl rfl) ?_
  refine T_of (S_go rfl rfl) ?_
  refine T_of (S_go rfl rfl) ?_
  refine T_of (S_go rfl rfl) ?_
  show T_W _ (E_run _ E_m175 3623 (73, [(7, .int c), (6, .int 10), (0, .ref 83), (1, .int a), (2, .int b), (3, .int c), (4, .int e), (5, .int f)], []) _ 0)
  refine T_of (S_go rfl rfl) ?_
  refine T_of (S_get rfl om20 rfl (by decide) rfl) ?_
  refine T_of (S_go rfl rfl) ?_
  refine T_of (S_get rfl om20 rfl (by decide) rfl) ?_
  refine T_of (S_go rfl rfl) ?_
  refine T_of (S_go rfl rfl) ?_
  refine T_of (S_go rfl rfl) ?_
  refine T_of (S_go rfl rfl) ?_
  refine T_of (S_go rfl rfl) ?_
  refine T_of (S_go rfl rfl) ?_
  refine T_of (S_go rfl rfl) ?_
  refine T_of (S_go rfl rfl) ?_
  refine T_of (S_go rfl rfl) ?_
  refine T_of (S_go rfl rfl) ?_
  refine T_of (S_go rfl rfl) ?_
  refine T_ast rfl oa20 (by decide) (fun h21 g21 oa21 ek21 el21 => ?_)
  have om21 := (ek21 83 (by decide)).trans om20
  show T_W _ (E_run _ E_m175 3607 (99, [(7, .int c), (6, .int 10), (0, .ref 83), (1, .int a), (2, .int b), (3, .int c), (4, .int e), (5, .int f)], []) _ 0)
  refine T_of (S_go rfl rfl) ?_
  refine T_of (S_go rfl rfl) ?_
  refine T_of (S_get rfl om21 rfl (by decide) rfl) ?_
  refine T_of (S_go rfl rfl) ?_
  refine T_of (S_go rfl rfl) ?_
  refine T_putf rfl om21 (by decide +kernel) (fun h22 oz22 ek22 el22 => ?_)
  have om22 : h22[83]? = some (.inr (12, [.ref 84, .int 11, .ref 85, .int 0, .ref 86, .ref 87, .ref 88, .int 0, .int 0, .ref 89, .ref 90, .ref 91, .ref 92, .int 0, .ref 93, .int 0, .int 0, .int 0, .int 0, .int 0, .int 0, .int (-1), .int 0, .ref 94, .ref 95, .long 0, .ref 96, .ref 97, .ref 98, .ref 99, .ref 100, .ref 101, .ref 102, .ref 103, .ref 104, .ref 105, .ref 106, .int 0, .ref 107, .ref 108, .ref 109, .int 0, .ref 110, .int 0, .ref 111, .ref 112, .ref 113, .ref 114, .int 0, .ref 115, .ref 116, .ref 117, .ref 118, .ref 119, .ref 120, .ref 121, .int 0, .ref 122, .ref 123, .int 0, .ref 124, .ref 125, .ref 126, .int 0, .ref 127, .ref 128, .ref 129, .ref 130, .int 0, .ref 131, .int 0, .int 0, .int 0, .long 0])) := oz22
  have oa22 := (ek22 84 (by decide)).trans oa21
  show T_W _ (E_run _ E_m175 3601 (109, [(7, .int c), (6, .int 10), (0, .ref 83), (1, .int a), (2, .int b), (3, .int c), (4, .int e), (5, .int f)], []) _ 0)
  refine T_of (S_go rfl rfl) ?_
  refine T_of (S_go rfl rfl) ?_
  refine T_of (S_go rfl rfl) ?_
  refine T_of (S_go rfl rfl) ?_
  refine T_of (S_go rfl rfl) ?_
  show T_W _ (E_run _ E_m175 3596 (25, [(6, .int 11), (7, .int c), (0, .ref 83), (1, .int a), (2, .int b), (3, .int c), (4, .int e), (5, .int f)], []) _ 0)
  refine T_of (S_go rfl rfl) ?_
  refine T_of (S_go rfl rfl) ?_
  refine T_of (S_go rfl rfl) ?_
  refine T_of (S_go rfl rfl) ?_
  refine T_of (S_go rfl rfl) ?_
  refine T_of (S_go rfl rfl) ?_
  show T_W _ (E_run _ E_m175 3590 (46, [(6, .int 11), (7, .int c), (0, .ref 83), (1, .int a), (2, .int b), (3, .int c), (4, .int e), (5, .int f)], []) _ 0)
  refine T_of (S_go rfl rfl) ?_
  refine T_of (S_go rfl rfl) ?_
  refine T_of (S_go rfl rfl) ?_
  refine T_of (S_go rfl rfl) ?_
  refine T_of (S_go rfl rfl) ?_
  refine T_of (S_go rfl rfl) ?_
  show T_W _ (E_run _ E_m175 3584 (73, [(7, .int c), (6, .int 11), (0, .ref 83), (1, .int a), (2, .int b), (3, .int c), (4, .int e), (5, .int f)], []) _ 0)
  refine T_of (S_go rfl rfl) ?_
  refine T_of (S_get rfl om22 rfl (by decide) rfl) ?_
  refine T_of (S_go rfl rfl) ?_
  refine T_of (S_get rfl om22 rfl (by decide) rfl) ?_
  refine T_of (S_go rfl rfl) ?_
  refine T_of (S_go rfl rfl) ?_
  refine T_of (S_go rfl rfl) ?_
  refine T_of (S_go rfl rfl) ?_
  refine T_of (S_go rfl rfl) ?_
  refine T_of (S_go rfl rfl) ?_
  refine T_of (S_go rfl rfl) ?_
  refine T_of (S_go rfl rfl) ?_
  refine T_of (S_go rfl rfl) ?_
  refine T_of (S_go rfl rfl) ?_
  refine T_of (S_go rfl rfl) ?_
  refine T_ast rfl oa22 (by decide) (fun h23 g23 oa23 ek23 el23 => ?_)
  have om23 := (ek23 83 (by decide)).trans om22
  show T_W _ (E_run _ E_m175 3568 (99, [(7, .int c), (6, .int 11), (0, .ref 83), (1, .int a), (2, .int b), (3, .int c), (4, .int e), (5, .int f)], []) _ 0)
  refine T_of (S_go rfl rfl) ?_
  refine T_of (S_go rfl rfl) ?_
  refine T_of (S_get rfl om23 rfl (by decide) rfl) ?_
  refine T_of (S_go rfl rfl) ?_
  refine T_of (S_go rfl rfl) ?_
  refine T_putf rfl om23 (by decide +kernel) (fun h24 oz24 ek24 el24 => ?_)
  have om24 : h24[83]? = some (.inr (12, [.ref 84, .int 12, .ref 85, .int 0, .ref 86, .ref 87, .ref 88, .int 0, .int 0, .ref 89, .ref 90, .ref 91, .ref 92, .int 0, .ref 93, .int 0, .int 0, .int 0, .int 0, .int 0, .int 0, .int (-1), .int 0, .ref 94, .ref 95, .long 0, .ref 96, .ref 97, .ref 98, .ref 99, .ref 100, .ref 101, .ref 102, .ref 103, .ref 104, .ref 105, .ref 106, .int 0, .ref 107, .ref 108, .ref 109, .int 0, .ref 110, .int 0, .ref 111, .ref 112, .ref 113, .ref 114, .int 0, .ref 115, .ref 116, .ref 117, .ref 118, .ref 119, .ref 120, .ref 121, .int 0, .ref 122, .ref 123, .int 0, .ref 124, .ref 125, .ref 126, .int 0, .ref 127, .ref 128, .ref 129, .ref 130, .int 0, .ref 131, .int 0, .int 0, .int 0, .long 0])) := oz24
  have oa24 := (ek24 84 (by decide)).trans oa23
  show T_W _ (E_run _ E_m175 3562 (109, [(7, .int c), (6, .int 11), (0, .ref 83), (1, .int a), (2, .int b), (3, .int c), (4, .int e), (5, .int f)], []) _ 0)
  refine T_of (S_go rfl rfl) ?_
  refine T_of (S_go rfl rfl) ?_
  refine T_of (S_go rfl rfl) ?_
  refine T_of (S_go rfl rfl) ?_
  refine T_of (S_go rfl rfl) ?_
  show T_W _ (E_run _ E_m175 3557 (25, [(6, .int 12), (7, .int c), (0, .ref 83), (1, .int a), (2, .int b), (3, .int c), (4, .int e), (5, .int f)], []) _ 0)
  refine T_of (S_go rfl rfl) ?_
  refine T_of (S_go rfl rfl) ?_
  refine T_of (S_go rfl rfl) ?_
  refine T_of (S_go rfl rfl) ?_
  refine T_of (S_go rfl rfl) ?_
  refine T_of (S_go rfl rfl) ?_
  show T_W _ (E_run _ E_m175 3551 (46, [(6, .int 12), (7, .int c), (0, .ref 83), (1, .int a), (2, .int b), (3, .int c), (4, .int e), (5, .int f)], []) _ 0)
  refine T_of (S_go rfl rfl) ?_
  refine T_of (S_go rfl rfl) ?_
  refine T_of (S_go rfl rfl) ?_
  refine T_of (S_go rfl rfl) ?_
  refine T_of (S_go rfl rfl) ?_
  refine T_of (S_go rfl rfl) ?_
  show T_W _ (E_run _ E_m175 3545 (64, [(6, .int 12), (7, .int c), (0, .ref 83), (1, .int a), (2, .int b), (3, .int c), (4, .int e), (5, .int f)], []) _ 0)
  refine T_of (S_go rfl rfl) ?_
  refine T_of (S_go rfl rfl) ?_
  refine T_of (S_go rfl rfl) ?_
  refine T_of (S_go rfl rfl) ?_
  refine T_of (S_get rfl om24 rfl (by decide) rfl) ?_
  refine T_of (S_go rfl rfl) ?_
  refine T_of (S_get rfl om24 rfl (by decide) rfl) ?_
  refine T_of (S_go rfl rfl) ?_
  refine T_of (S_go rfl rfl) ?_
  refine T_of (S_go rfl rfl) ?_
  refine T_of (S_go rfl rfl) ?_
  refine T_of (S_go rfl rfl) ?_
  refine T_of (S_go rfl rfl) ?_
  refine T_of (S_go rfl rfl) ?_
  refine T_of (S_go rfl rfl) ?_
  refine T_of (S_go rfl rfl) ?_
  refine T_of (S_go rfl rfl) ?_
  refine T_of (S_go rfl rfl) ?_
  refine T_ast rfl oa24 (by decide) (fun h25 g25 oa25 ek25 el25 => ?_)
  have om25 := (ek25 83 (by decide)).trans om24
  show T_W _ (E_run _ E_m175 3526 (99, [(7, .int e), (6, .int 12), (0, .ref 83), (1, .int a), (2, .int b), (3, .int c), (4, .int e), (5, .int f)], []) _ 0)
  refine T_of (S_go rfl rfl) ?_
  refine T_of (S_go rfl rfl) ?_
  refine T_of (S_get rfl om25 rfl (by decide) rfl) ?_
  refine T_of (S_go rfl rfl) ?_
  refine T_of (S_go rfl rfl) ?_
  refine T_putf rfl om25 (by decide +kernel) (fun h26 oz26 ek26 el26 => ?_)
  have om26 : h26[83]? = some (.inr (12, [.ref 84, .int 13, .ref 85, .int 0, .ref 86, .ref 87, .ref 88, .int 0, .int 0, .ref 89, .ref 90, .ref 91, .ref 92, .int 0, .ref 93, .int 0, .int 0, .int 0, .int 0, .int 0, .int 0, .int (-1), .int 0, .ref 94, .ref 95, .long 0, .ref 96, .ref 97, .ref 98, .ref 99, .ref 100, .ref 101, .ref 102, .ref 103, .ref 104, .ref 105, .ref 106, .int 0, .ref 107, .ref 108, .ref 109, .int 0, .ref 110, .int 0, .ref 111, .ref 112, .ref 113, .ref 114, .int 0, .ref 115, .ref 116, .ref 117, .ref 118, .ref 119, .ref 120, .ref 121, .int 0, .ref 122, .ref 123, .int 0, .ref 124, .ref 125, .ref 126, .int 0, .ref 127, .ref 128, .ref 129, .ref 130, .int 0, .ref 131, .int 0, .int 0, .int 0, .long 0])) := oz26
  have oa26 := (ek26 84 (by decide)).trans oa25
  show T_W _ (E_run _ E_m175 3520 (109, [(7, .int e), (6, .int 12), (0, .ref 83), (1, .int a), (2, .int b), (3, .int c), (4, .int e), (5, .int f)], []) _ 0)
  refine T_of (S_go rfl rfl) ?_
  refine T_of (S_go rfl rfl) ?_
  refine T_of (S_go rfl rfl) ?_
  refine T_of (S_go rfl rfl) ?_
  refine T_of (S_go rfl rfl) ?_
  show T_W _ (E_run _ E_m175 3515 (25, [(6, .int 13), (7, .int e), (0, .ref 83), (1, .int a), (2, .int b), (3, .int c), (4, .int e), (5, .int f)], []) _ 0)
  refine T_of (S_go rfl rfl) ?_
  refine T_of (S_go rfl rfl) ?_
  refine T_of (S_go rfl rfl) ?_
  refine T_of (S_go rfl rfl) ?_
  refine T_of (S_go rfl rfl) ?_
  refine T_of (S_go rfl rfl) ?_
  show T_W _ (E_run _ E_m175 3509 (46, [(6, .int 13), (7, .int e), (0, .ref 83), (1, .int a), (2, .int b), (3, .int c), (4, .int e), (5, .int f)], []) _ 0)
  refine T_of (S_go rfl rfl) ?_
  refine T_of (S_go rfl rfl) ?_
  refine T_of (S_go rfl rfl) ?_
  refine T_of (S_go rfl rfl) ?_
  refine T_of (S_go rfl rfl) ?_
  refine T_of (S_go rfl rfl) ?_
  show T_W _ (E_run _ E_m175 3503 (64, [(6, .int 13), (7, .int e), (0, .ref 83), (1, .int a), (2, .int b), (3, .int c), (4, .int e), (5, .int f)], []) _ 0)
  refine T_of (S_go rfl rfl) ?_
  refine T_of (S_go rfl rfl) ?_
  refine T_of (S_go rfl rfl) ?_
  refine T_of (S_go rfl rfl) ?_
  refine T_of (S_get rfl om26 rfl (by decide) rfl) ?_
  refine T_of (S_go rfl rfl) ?_
  refine T_of (S_get rfl om26 rfl (by decide) rfl) ?_
  refine T_of (S_go rfl rfl) ?_
  refine T_of (S_go rfl rfl) ?_
  refine T_of (S_go rfl rfl) ?_
  refine T_of (S_go rfl rfl) ?_
  refine T_of (S_go rfl rfl) ?_
  refine T_of (S_go rfl rfl) ?_
  refine T_of (S_go rfl rfl) ?_
  refine T_of (S_go rfl rfl) ?_
  refine T_of (S_go rfl rfl) ?_
  refine T_of (S_go rfl rfl) ?_
  refine T_of (S_go rfl rfl) ?_
  refine T_ast rfl oa26 (by decide) (fun h27 g27 oa27 ek27 el27 => ?_)
  have om27 := (ek27 83 (by decide)).trans om26
  show T_W _ (E_run _ E_m175 3484 (99, [(7, .int e), (6, .int 13), (0, .ref 83), (1, .int a), (2, .int b), (3, .int c), (4, .int e), (5, .int f)], []) _ 0)
  refine T_of (S_go rfl rfl) ?_
  refine T_of (S_go rfl rfl) ?_
  refine T_of (S_get rfl om27 rfl (by decide) rfl) ?_
  refine T_of (S_go rfl rfl) ?_
  refine T_of (S_go rfl rfl) ?_
  refine T_putf rfl om27 (by decide +kernel) (fun h28 oz28 ek28 el28 => ?_)
  have om28 : h28[83]? = some (.inr (12, [.ref 84, .int 14, .ref 85, .int 0, .ref 86, .ref 87, .ref 88, .int 0, .int 0, .ref 89, .ref 90, .ref 91, .ref 92, .int 0, .ref 93, .int 0, .int 0, .int 0, .int 0, .int 0, .int 0, .int (-1), .int 0, .ref 94, .ref 95, .long 0, .ref 96, .ref 97, .ref 98, .ref 99, .ref 100, .ref 101, .ref 102, .ref 103, .ref 104, .ref 105, .ref 106, .int 0, .ref 107, .ref 108, .ref 109, .int 0, .ref 110, .int 0, .ref 111, .ref 112, .ref 113, .ref 114, .int 0, .ref 115, .ref 116, .ref 117, .ref 118, .ref 119, .ref 120, .ref 121, .int 0, .ref 122, .ref 123, .int 0, .ref 124, .ref 125, .ref 126, .int 0, .ref 127, .ref 128, .ref 129, .ref 130, .int 0, .ref 131, .int 0, .int 0, .int 0, .long 0])) := oz28
  have oa28 := (ek28 84 (by decide)).trans oa27
  show T_W _ (E_run _ E_m175 3478 (109, [(7, .int e), (6, .int 13), (0, .ref 83), (1, .int a), (2, .int b), (3, .int c), (4, .int e), (5, .int f)], []) _ 0)
  refine T_of (S_go rfl rfl) ?_
  refine T_of (S_go rfl rfl) ?_
  refine T_of (S_go rfl rfl) ?_
  refine T_of (S_go rfl rfl) ?_
  refine T_of (S_go rfl rfl) ?_
  show T_W _ (E_run _ E_m175 3473 (25, [(6, .int 14), (7, .int e), (0, .ref 83), (1, .int a), (2, .int b), (3, .int c), (4, .int e), (5, .int f)], []) _ 0)
  refine T_of (S_go rfl rfl) ?_
  refine T_of (S_go rfl rfl) ?_
  refine T_of (S_go rfl rfl) ?_
  refine T_of (S_go rfl rfl) ?_
  refine T_of (S_go rfl rfl) ?_
  refine T_of (S_go rfl rfl) ?_
  show T_W _ (E_run _ E_m175 3467 (46, [(6, .int 14), (7, .int e), (0, .ref 83), (1, .int a), (2, .int b), (3, .int c), (4, .int e), (5, .int f)], []) _ 0)
  refine T_of (S_go rfl rfl) ?_
  refine T_of (S_go rfl rfl) ?_
  refine T_of (S_go rfl rfl) ?_
  refine T_of (S_go rfl rfl) ?_
  refine T_of (S_go rfl rfl) ?_
  refine T_of (S_go rfl rfl) ?_
  show T_W _ (E_run _ E_m175 3461 (64, [(6, .int 14), (7, .int e), (0, .ref 83), (1, .int a), (2, .int b), (3, .int c), (4, .int e), (5, .int f)], []) _ 0)
  refine T_of (S_go rfl rfl) ?_
  refine T_of (S_go rfl rfl) ?_
  refine T_of (S_go rfl rfl) ?_
  refine T_of (S_go rfl rfl) ?_
  refine T_of (S_get rfl om28 rfl (by decide) rfl) ?_
  refine T_of (S_go rfl rfl) ?_
  refine T_of (S_get rfl om28 rfl (by decide) rfl) ?_
  refine T_of (S_go rfl rfl) ?_
  refine T_of (S_go rfl rfl) ?_
  refine T_of (S_go rfl rfl) ?_
  refine T_of (S_go rfl rfl) ?_
  refine T_of (S_go rfl rfl) ?_
  refine T_of (S_go rfl rfl) ?_
  refine T_of (S_go rfl rfl) ?_
  refine T_of (S_go rfl rfl) ?_
  refine T_of (S_go rfl rfl) ?_
  refine T_of (S_go rfl rfl) ?_
  refine T_of (S_go rfl rfl) ?_
  refine T_ast rfl oa28 (by decide) (fun h29 g29 oa29 ek29 el29 => ?_)
  have om29 := (ek29 83 (by decide)).trans om28
  show T_W _ (E_run _ E_m175 3442 (99, [(7, .int e), (6, .int 14), (0, .ref 83), (1, .int a), (2, .int b), (3, .int c), (4, .int e), (5, .int f)], []) _ 0)
  refine T_of (S_go rfl rfl) ?_
  refine T_of (S_go rfl rfl) ?_
  refine T_of (S_get rfl om29 rfl (by decide) rfl) ?_
  refine T_of (S_go rfl rfl) ?_
  refine T_of (S_go rfl rfl) ?_
  refine T_putf rfl om29 (by decide +kernel) (fun h30 oz30 ek30 el30 => ?_)
  have om30 : h30[83]? = some (.inr (12, [.ref 84, .int 15, .ref 85, .int 0, .ref 86, .ref 87, .ref 88, .int 0, .int 0, .ref 89, .ref 90, .ref 91, .ref 92, .int 0, .ref 93, .int 0, .int 0, .int 0, .int 0, .int 0, .int 0, .int (-1), .int 0, .ref 94, .ref 95, .long 0, .ref 96, .ref 97, .ref 98, .ref 99, .ref 100, .ref 101, .ref 102, .ref 103, .ref 104, .ref 105, .ref 106, .int 0, .ref 107, .ref 108, .ref 109, .int 0, .ref 110, .int 0, .ref 111, .ref 112, .ref 113, .ref 114, .int 0, .ref 115, .ref 116, .ref 117, .ref 118, .ref 119, .ref 120, .ref 121, .int 0, .ref 122, .ref 123, .int 0, .ref 124, .ref 125, .ref 126, .int 0, .ref 127, .ref 128, .ref 129, .ref 130, .int 0, .ref 131, .int 0, .int 0, .int 0, .long 0])) := oz30
  have oa30 := (ek30 84 (by decide)).trans oa29
  show T_W _ (E_run _ E_m175 3436 (109, [(7, .int e), (6, .int 14), (0, .ref 83), (1, .int a), (2, .int b), (3, .int c), (4, .int e), (5, .int f)], []) _ 0)
  refine T_of (S_go rfl rfl) ?_
  refine T_of (S_go rfl rfl) ?_
  refine T_of (S_go rfl rfl) ?_
  refine T_of (S_go rfl rfl) ?_
  refine T_of (S_go rfl rfl) ?_
  show T_W _ (E_run _ E_m175 3431 (25, [(6, .int 15), (7, .int e), (0, .ref 83), (1, .int a), (2, .int b), (3, .int c), (4, .int e), (5, .int f)], []) _ 0)
  refine T_of (S_go rfl rfl) ?_
  refine T_of (S_go rfl rfl) ?_
  refine T_of (S_go rfl rfl) ?_
  refine T_of (S_go rfl rfl) ?_
  refine T_of (S_go rfl rfl) ?_
  refine T_of (S_go rfl rfl) ?_
  show T_W _ (E_run _ E_m175 3425 (46, [(6, .int 15), (7, .int e), (0, .ref 83), (1, .int a), (2, .int b), (3, .int c), (4, .int e), (5, .int f)], []) _ 0)
  refine T_of (S_go rfl rfl) ?_
  refine T_of (S_go rfl rfl) ?_
  refine T_of (S_go rfl rfl) ?_
  refine T_of (S_go rfl rfl) ?_
  refine T_of (S_go rfl rfl) ?_
  refine T_of (S_go rfl rfl) ?_
  show T_W _ (E_run _ E_m175 3419 (64, [(6, .int 15), (7, .int e), (0, .ref 83), (1, .int a), (2, .int b), (3, .int c), (4, .int e), (5, .int f)], []) _ 0)
  refine T_of (S_go rfl rfl) ?_
  refine T_of (S_go rfl rfl) ?_
  refine T_of (S_go rfl rfl) ?_
  refine T_of (S_go rfl rfl) ?_
  refine T_of (S_get rfl om30 rfl (by decide) rfl) ?_
  refine T_of (S_go rfl rfl) ?_
  refine T_of (S_get rfl om30 rfl (by decide) rfl) ?_
  refine T_of (S_go rfl rfl) ?_
  refine T_of (S_go rfl rfl) ?_
  refine T_of (S_go rfl rfl) ?_
  refine T_of (S_go rfl rfl) ?_
  refine T_of (S_go rfl rfl) ?_
  refine T_of (S_go rfl rfl) ?_
  refine T_of (S_go rfl rfl) ?_
  refine T_of (S_go rfl rfl) ?_
  refine T_of (S_go rfl rfl) ?_
  refine T_of (S_go rfl rfl) ?_
  refine T_of (S_go rfl rfl) ?_
  refine T_ast rfl oa30 (by decide) (fun h31 g31 oa31 ek31 el31 => ?_)
  have om31 := (ek31 83 (by decide)).trans om30
  show T_W _ (E_run _ E_m175 3400 (99, [(7, .int e), (6, .int 15), (0, .ref 83), (1, .int a), (2, .int b), (3, .int c), (4, .int e), (5, .int f)], []) _ 0)
  refine T_of (S_go rfl rfl) ?_
  refine T_of (S_go rfl rfl) ?_
  refine T_of (S_get rfl om31 rfl (by decide) rfl) ?_
  refine T_of (S_go rfl rfl) ?_
  refine T_of (S_go rfl rfl) ?_
  refine T_putf rfl om31 (by decide +kernel) (fun h32 oz32 ek32 el32 => ?_)
  have om32 : h32[83]? = some (.inr (12, [.ref 84, .int 16, .ref 85, .int 0, .ref 86, .ref 87, .ref 88, .int 0, .int 0, .ref 89, .ref 90, .ref 91, .ref 92, .int 0, .ref 93, .int 0, .int 0, .int 0, .int 0, .int 0, .int 0, .int (-1), .int 0, .ref 94, .ref 95, .long 0, .ref 96, .ref 97, .ref 98, .ref 99, .ref 100, .ref 101, .ref 102, .ref 103, .ref 104, .ref 105, .ref 106, .int 0, .ref 107, .ref 108, .ref 109, .int 0, .ref 110, .int 0, .ref 111, .ref 112, .ref 113, .ref 114, .int 0, .ref 115, .ref 116, .ref 117, .ref 118, .ref 119, .ref 120, .ref 121, .int 0, .ref 122, .ref 123, .int 0, .ref 124, .ref 125, .ref 126, .int 0, .ref 127, .ref 128, .ref 129, .ref 130, .int 0, .ref 131, .int 0, .int 0, .int 0, .long 0])) := oz32
  have oa32 := (ek32 84 (by decide)).trans oa31
  show T_W _ (E_run _ E_m175 3394 (109, [(7, .int e), (6, .int 15), (0, .ref 83), (1, .int a), (2, .int b), (3, .int c), (4, .int e), (5, .int f)], []) _ 0)
  refine T_of (S_go rfl rfl) ?_
  refine T_of (S_go rfl rfl) ?_
  refine T_of (S_go rfl rfl) ?_
  refine T_of (S_go rfl rfl) ?_
  refine T_of (S_go rfl rfl) ?_
  show T_W _ (E_run _ E_m175 3389 (25, [(6, .int 16), (7, .int e), (0, .ref 83), (1, .int a), (2, .int b), (3, .int c), (4, .int e), (5, .int f)], []) _ 0)
  refine T_of (S_go rfl rfl) ?_
  refine T_of (S_go rfl rfl) ?_
  refine T_of (S_go rfl rfl) ?_
  refine T_of (S_go rfl rfl) ?_
  refine T_of (S_go rfl rfl) ?_
  refine T_of (S_go rfl rfl) ?_
  show T_W _ (E_run _ E_m175 3383 (46, [(6, .int 16), (7, .int e), (0, .ref 83), (1, .int a), (2, .int b), (3, .int c), (4, .int e), (5, .int f)], []) _ 0)
  refine T_of (S_go rfl rfl) ?_
  refine T_of (S_go rfl rfl) ?_
  refine T_of (S_go rfl rfl) ?_
  refine T_of (S_go rfl rfl) ?_
  refine T_of (S_go rfl rfl) ?_
  refine T_of (S_go rfl rfl) ?_
  show T_W _ (E_run _ E_m175 3377 (69, [(6, .int 16), (7, .int e), (0, .ref 83), (1, .int a), (2, .int b), (3, .int c), (4, .int e), (5, .int f)], []) _ 0)
  refine T_of (S_go rfl rfl) ?_
  refine T_of (S_go rfl rfl) ?_
  refine T_of (S_go rfl rfl) ?_
  refine T_of (S_get rfl om32 rfl (by decide) rfl) ?_
  refine T_of (S_go rfl rfl) ?_
  refine T_of (S_get rfl om32 rfl (by decide) rfl) ?_
  refine T_of (S_go rfl rfl) ?_
  refine T_of (S_go rfl rfl) ?_
  refine T_of (S_go rfl rfl) ?_
  refine T_of (S_go rfl rfl) ?_
  refine T_of (S_go rfl rfl) ?_
  refine T_of (S_go rfl rfl) ?_
  refine T_of (S_go rfl rfl) ?_
  refine T_of (S_go rfl rfl) ?_
  refine T_of (S_go rfl rfl) ?_
  refine T_of (S_go rfl rfl) ?_
  refine T_of (S_go rfl rfl) ?_
  refine T_ast rfl oa32 (by decide) (fun h33 g33 oa33 ek33 el33 => ?_)
  have om33 := (ek33 83 (by decide)).trans om32
  show T_W _ (E_run _ E_m175 3359 (99, [(7, .int f), (6, .int 16), (0, .ref 83), (1, .int a), (2, .int b), (3, .int c), (4, .int e), (5, .int f)], []) _ 0)
  refine T_of (S_go rfl rfl) ?_
  refine T_of (S_go rfl rfl) ?_
  refine T_of (S_get rfl om33 rfl (by decide) rfl) ?_
  refine T_of (S_go rfl rfl) ?_
  refine T_of (S_go rfl rfl) ?_
  refine T_putf rfl om33 (by decide +kernel) (fun h34 oz34 ek34 el34 => ?_)
  have om34 : h34[83]? = some (.inr (12, [.ref 84, .int 17, .ref 85, .int 0, .ref 86, .ref 87, .ref 88, .int 0, .int 0, .ref 89, .ref 90, .ref 91, .ref 92, .int 0, .ref 93, .int 0, .int 0, .int 0, .int 0, .int 0, .int 0, .int (-1), .int 0, .ref 94, .ref 95, .long 0, .ref 96, .ref 97, .ref 98, .ref 99, .ref 100, .ref 101, .ref 102, .ref 103, .ref 104, .ref 105, .ref 106, .int 0, .ref 107, .ref 108, .ref 109, .int 0, .ref 110, .int 0, .ref 111, .ref 112, .ref 113, .ref 114, .int 0, .ref 115, .ref 116, .ref 117, .ref 118, .ref 119, .ref 120, .ref 121, .int 0, .ref 122, .ref 123, .int 0, .ref 124, .ref 125, .ref 126, .int 0, .ref 127, .ref 128, .ref 129, .ref 130, .int 0, .ref 131, .int 0, .int 0, .int 0, .long 0])) := oz34
  have oa34 := (ek34 84 (by decide)).trans oa33
  show T_W _ (E_run _ E_m175 3353 (109, [(7, .int f), (6, .int 16), (0, .ref 83), (1, .int a), (2, .int b), (3, .int c), (4, .int e), (5, .int f)], []) _ 0)
  refine T_of (S_go rfl rfl) ?_
  refine T_of (S_go rfl rfl) ?_
  refine T_of (S_go rfl rfl) ?_
  refine T_of (S_go rfl rfl) ?_
  refine T_of (S_go rfl rfl) ?_
  show T_W _ (E_run _ E_m175 3348 (25, [(6, .int 17), (7, .int f), (0, .ref 83), (1, .int a), (2, .int b), (3, .int c), (4, .int e), (5, .int f)], []) _ 0)
  refine T_of (S_go rfl rfl) ?_
  refine T_of (S_go rfl rfl) ?_
  refine T_of (S_go rfl rfl) ?_
  refine T_of (S_go rfl rfl) ?_
  refine T_of (S_go rfl rfl) ?_
  refine T_of (S_go rfl rfl) ?_
  show T_W _ (E_run _ E_m175 3342 (46, [(6, .int 17), (7, .int f), (0, .ref 83), (1, .int a), (2, .int b), (3, .int c), (4, .int e), (5, .int f)], []) _ 0)
  refine T_of (S_go rfl rfl) ?_
  refine T_of (S_go rfl rfl) ?_
  refine T_of (S_go rfl rfl) ?_
  refine T_of (S_go rfl rfl) ?_
  refine T_of (S_go rfl rfl) ?_
  refine T_of (S_go rfl rfl) ?_
  show T_W _ (E_run _ E_m175 3336 (69, [(6, .int 17), (7, .int f), (0, .ref 83), (1, .int a), (2, .int b), (3, .int c), (4, .int e), (5, .int f)], []) _ 0)
  refine T_of (S_go rfl rfl) ?_
  refine T_of (S_go rfl rfl) ?_
  refine T_of (S_go rfl rfl) ?_
  refine T_of (S_get rfl om34 rfl (by decide) rfl) ?_
  refine T_of (S_go rfl rfl) ?_
  refine T_of (S_get rfl om34 rfl (by decide) rfl) ?_
  refine T_of (S_go rfl rfl) ?_
  refine T_of (S_go rfl rfl) ?_
  refine T_of (S_go rfl rfl) ?_
  refine T_of (S_go rfl rfl) ?_
  refine T_of (S_go rfl rfl) ?_
  refine T_of (S_go rfl rfl) ?_
  refine T_of (S_go rfl rfl) ?_
  refine T_of (S_go rfl rfl) ?_
  refine T_of (S_go rfl rfl) ?_
  refine T_of (S_go rfl rfl) ?_
  refine T_of (S_go rfl rfl) ?_
  refine T_ast rfl oa34 (by decide) (fun h35 g35 oa35 ek35 el35 => ?_)
  have om35 := (ek35 83 (by decide)).trans om34
  show T_W _ (E_run _ E_m175 3318 (99, [(7, .int f), (6, .int 17), (0, .ref 83), (1, .int a), (2, .int b), (3, .int c), (4, .int e), (5, .int f)], []) _ 0)
  refine T_of (S_go rfl rfl) ?_
  refine T_of (S_go rfl rfl) ?_
  refine T_of (S_get rfl om35 rfl (by decide) rfl) ?_
  refine T_of (S_go rfl rfl) ?_
  refine T_of (S_go rfl rfl) ?_
  refine T_putf rfl om35 (by decide +kernel) (fun h36 oz36 ek36 el36 => ?_)
  have om36 : h36[83]? = some (.inr (12, [.ref 84, .int 18, .ref 85, .int 0, .ref 86, .ref 87, .ref 88, .int 0, .int 0, .ref 89, .ref 90, .ref 91, .ref 92, .int 0, .ref 93, .int 0, .int 0, .int 0, .int 0, .int 0, .int 0, .int (-1), .int 0, .ref 94, .ref 95, .long 0, .ref 96, .ref 97, .ref 98, .ref 99, .ref 100, .ref 101, .ref 102, .ref 103, .ref 104, .ref 105, .ref 106, .int 0, .ref 107, .ref 108, .ref 109, .int 0, .ref 110, .int 0, .ref 111, .ref 112, .ref 113, .ref 114, .int 0, .ref 115, .ref 116, .ref 117, .ref 118, .ref 119, .ref 120, .ref 121, .int 0, .ref 122, .ref 123, .int 0, .ref 124, .ref 125, .ref 126, .int 0, .ref 127, .ref 128, .ref 129, .ref 130, .int 0, .ref 131, .int 0, .int 0, .int 0, .long 0])) := oz36
  have oa36 := (ek36 84 (by decide)).trans oa35
  show T_W _ (E_run _ E_m175 3312 (109, [(7, .int f), (6, .int 17), (0, .ref 83), (1, .int a), (2, .int b), (3, .int c), (4, .int e), (5, .int f)], []) _ 0)
  refine T_of (S_go rfl rfl) ?_
  refine T_of (S_go rfl rfl) ?_
  refine T_of (S_go rfl rfl) ?_
  refine T_of (S_go rfl rfl) ?_
  refine T_of (S_go rfl rfl) ?_
  show T_W _ (E_run _ E_m175 3307 (25, [(6, .int 18), (7, .int f), (0, .ref 83), (1, .int a), (2, .int b), (3, .int c), (4, .int e), (5, .int f)], []) _ 0)
  refine T_of (S_go rfl rfl) ?_
  refine T_of (S_go rfl rfl) ?_
  refine T_of (S_go rfl rfl) ?_
  refine T_of (S_go rfl rfl) ?_
  refine T_of (S_go rfl rfl) ?_
  refine T_of (S_go rfl rfl) ?_
  show T_W _ (E_run _ E_m175 3301 (46, [(6, .int 18), (7, .int f), (0, .ref 83), (1, .int a), (2, .int b), (3, .int c), (4, .int e), (5, .int f)], []) _ 0)
  refine T_of (S_go rfl rfl) ?_
  refine T_of (S_go rfl rfl) ?_
  refine T_of (S_go rfl rfl) ?_
  refine T_of (S_go rfl rfl) ?_
  refine T_of (S_go rfl rfl) ?_
  refine T_of (S_go rfl rfl) ?_
  show T_W _ (E_run _ E_m175 3295 (69, [(6, .int 18), (7, .int f), (0, .ref 83), (1, .int a), (2, .int b), (3, .int c), (4, .int e), (5, .int f)], []) _ 0)
  refine T_of (S_go rfl rfl) ?_
  refine T_of (S_go rfl rfl) ?_
  refine T_of (S_go rfl rfl) ?_
  refine T_of (S_get rfl om36 rfl (by decide) rfl) ?_
  refine T_of (S_go rfl rfl) ?_
  refine T_of (S_get rfl om36 rfl (by decide) rfl) ?_
  refine T_of (S_go rfl rfl) ?_
  refine T_of (S_go rfl rfl) ?_
  refine T_of (S_go rfl rfl) ?_
  refine T_of (S_go rfl rfl) ?_
  refine T_of (S_go rfl rfl) ?_
  refine T_of (S_go rfl rfl) ?_
  refine T_of (S_go rfl rfl) ?_
  refine T_of (S_go rfl rfl) ?_
  refine T_of (S_go rfl rfl) ?_
  refine T_of (S_go rfl rfl) ?_
  refine T_of (S_go rfl rfl) ?_
  refine T_ast rfl oa36 (by decide) (fun h37 g37 oa37 ek37 el37 => ?_)
  have om37 := (ek37 83 (by decide)).trans om36
  show T_W _ (E_run _ E_m175 3277 (99, [(7, .int f), (6, .int 18), (0, .ref 83), (1, .int a), (2, .int b), (3, .int c), (4, .int e), (5, .int f)], []) _ 0)
  refine T_of (S_go rfl rfl) ?_
  refine T_of (S_go rfl rfl) ?_
  refine T_of (S_get rfl om37 rfl (by decide) rfl) ?_
  refine T_of (S_go rfl rfl) ?_
  refine T_of (S_go rfl rfl) ?_
  refine T_putf rfl om37 (by decide +kernel) (fun h38 oz38 ek38 el38 => ?_)
  have om38 : h38[83]? = some (.inr (12, [.ref 84, .int 19, .ref 85, .int 0, .ref 86, .ref 87, .ref 88, .int 0, .int 0, .ref 89, .ref 90, .ref 91, .ref 92, .int 0, .ref 93, .int 0, .int 0, .int 0, .int 0, .int 0, .int 0, .int (-1), .int 0, .ref 94, .ref 95, .long 0, .ref 96, .ref 97, .ref 98, .ref 99, .ref 100, .ref 101, .ref 102, .ref 103, .ref 104, .ref 105, .ref 106, .int 0, .ref 107, .ref 108, .ref 109, .int 0, .ref 110, .int 0, .ref 111, .ref 112, .ref 113, .ref 114, .int 0, .ref 115, .ref 116, .ref 117, .ref 118, .ref 119, .ref 120, .ref 121, .int 0, .ref 122, .ref 123, .int 0, .ref 124, .ref 125, .ref 126, .int 0, .ref 127, .ref 128, .ref 129, .ref 130, .int 0, .ref 131, .int 0, .int 0, .int 0, .long 0])) := oz38
  have oa38 := (ek38 84 (by decide)).trans oa37
  show T_W _ (E_run _ E_m175 3271 (109, [(7, .int f), (6, .int 18), (0, .ref 83), (1, .int a), (2, .int b), (3, .int c), (4, .int e), (5, .int f)], []) _ 0)
  refine T_of (S_go rfl rfl) ?_
  refine T_of (S_go rfl rfl) ?_
  refine T_of (S_go rfl rfl) ?_
  refine T_of (S_go rfl rfl) ?_
  refine T_of (S_go rfl rfl) ?_
  show T_W _ (E_run _ E_m175 3266 (25, [(6, .int 19), (7, .int f), (0, .ref 83), (1, .int a), (2, .int b), (3, .int c), (4, .int e), (5, .int f)], []) _ 0)
  refine T_of (S_go rfl rfl) ?_
  refine T_of (S_go rfl rfl) ?_
  refine T_of (S_go rfl rfl) ?_
  refine T_of (S_go rfl rfl) ?_
  refine T_of (S_go rfl rfl) ?_
  refine T_of (S_go rfl rfl) ?_
  show T_W _ (E_run _ E_m175 3260 (46, [(6, .int 19), (7, .int f), (0, .ref 83), (1, .int a), (2, .int b), (3, .int c), (4, .int e), (5, .int f)], []) _ 0)
  refine T_of (S_go rfl rfl) ?_
  refine T_of (S_go rfl rfl) ?_
  refine T_of (S_go rfl rfl) ?_
  refine T_of (S_go rfl rfl) ?_
  refine T_of (S_go rfl rfl) ?_
  refine T_of (S_go rfl rfl) ?_
  show T_W _ (E_run _ E_m175 3254 (69, [(6, .int 19), (7, .int f), (0, .ref 83), (1, .int a), (2, .int b), (3, .int c), (4, .int e), (5, .int f)], []) _ 0)
  refine T_of (S_go rfl rfl) ?_
  refine T_of (S_go rfl rfl) ?_
  refine T_of (S_go rfl rfl) ?_
  refine T_of (S_get rfl om38 rfl (by decide) rfl) ?_
  refine T_of (S_go rfl rfl) ?_
  refine T_of (S_get rfl om38 rfl (by decide) rfl) ?_
  refine T_of (S_go rfl rfl) ?_
  refine T_of (S_go rfl rfl) ?_
  refine T_of (S_go rfl rfl) ?_
  refine T_of (S_go rfl rfl) ?_
  refine T_of (S_go rfl rfl) ?_
  refine T_of (S_go rfl rfl) ?_
  refine T_of (S_go rfl rfl) ?_
  refine T_of (S_go rfl rfl) ?_
  refine T_of (S_go rfl rfl) ?_
  refine T_of (S_go rfl rfl) ?_
  refine T_of (S_go rfl rfl) ?_
  refine T_ast rfl oa38 (by decide) (fun h39 g39 oa39 ek39 el39 => ?_)
  have om39 := (ek39 83 (by decide)).trans om38
  show T_W _ (E_run _ E_m175 3236 (99, [(7, .int f), (6, .int 19), (0, .ref 83), (1, .int a), (2, .int b), (3, .int c), (4, .int e), (5, .int f)], []) _ 0)
  refine T_of (S_go rfl rfl) ?_
  refine T_of (S_go rfl rfl) ?_
  refine T_of (S_get rfl om39 rfl (by decide) rfl) ?_
  refine T_of (S_go rfl rfl) ?_
  refine T_of (S_go rfl rfl) ?_
  refine T_putf rfl om39 (by decide +kernel) (fun h40 oz40 ek40 el40 => ?_)
  have om40 : h40[83]? = some (.inr (12, [.ref 84, .int 20, .ref 85, .int 0, .ref 86, .ref 87, .ref 88, .int 0, .int 0, .ref 89, .ref 90, .ref 91, .ref 92, .int 0, .ref 93, .int 0, .int 0, .int 0, .int 0, .int 0, .int 0, .int (-1), .int 0, .ref 94, .ref 95, .long 0, .ref 96, .ref 97, .ref 98, .ref 99, .ref 100, .ref 101, .ref 102, .ref 103, .ref 104, .ref 105, .ref 106, .int 0, .ref 107, .ref 108, .ref 109, .int 0, .ref 110, .int 0, .ref 111, .ref 112, .ref 113, .ref 114, .int 0, .ref 115, .ref 116, .ref 117, .ref 118, .ref 119, .ref 120, .ref 121, .int 0, .ref 122, .ref 123, .int 0, .ref 124, .ref 125, .ref 126, .int 0, .ref 127, .ref 128, .ref 129, .ref 130, .int 0, .ref 131, .int 0, .int 0, .int 0, .long 0])) := oz40
  have oa40 := (ek40 84 (by decide)).trans oa39
  show T_W _ (E_run _ E_m175 3230 (109, [(7, .int f), (6, .int 19), (0, .ref 83), (1, .int a), (2, .int b), (3, .int c), (4, .int e), (5, .int f)], []) _ 0)
  refine T_of (S_go rfl rfl) ?_
  refine T_of (S_go rfl rfl) ?_
  refine T_of (S_go rfl rfl) ?_
  refine T_of (S_go rfl rfl) ?_
  refine T_of (S_go rfl rfl) ?_
  show T_W _ (E_run _ E_m175 3225 (115, [(6, .int 20), (7, .int f), (0, .ref 83), (1, .int a), (2, .int b), (3, .int c), (4, .int e), (5, .int f)], []) _ 0)
  refine T_of (S_go rfl rfl) ?_
  refine T_of (S_get rfl om40 rfl (by decide) rfl) ?_
  exact T_end rfl ⟨rfl, rfl, om40, ⟨_, oa40⟩, fun j j0 j1 => (ek40 j j0).trans ((ek39 j j1).trans ((ek38 j j0).trans ((ek37 j j1).trans ((ek36 j j0).trans ((ek35 j j1).trans ((ek34 j j0).trans ((ek33 j j1).trans ((ek32 j j0).trans ((ek31 j j1).trans ((ek30 j j0).trans ((ek29 j j1).trans ((ek28 j j0).trans ((ek27 j j1).trans ((ek26 j j0).trans ((ek25 j j1).trans ((ek24 j j0).trans ((ek23 j j1).trans ((ek22 j j0).trans ((ek21 j j1).trans ((ek20 j j0).trans ((ek19 j j1).trans ((ek18 j j0).trans ((ek17 j j1).trans ((ek16 j j0).trans ((ek15 j j1).trans ((ek14 j j0).trans ((ek13 j j1).trans ((ek12 j j0).trans ((ek11 j j1).trans ((ek10 j j0).trans ((ek9 j j1).trans ((ek8 j j0).trans ((ek7 j j1).trans ((ek6 j j0).trans ((ek5 j j1).trans ((ek4 j j0).trans ((ek3 j j1).trans ((ek2 j j0).trans ((ek1 j j1)))))))))))))))))))))))))))))))))))))))), el40.trans (el39.trans (el38.trans (el37.trans (el36.trans (el35.trans (el34.trans (el33.trans (el32.trans (el31.trans (el30.trans (el29.trans (el28.trans (el27.trans (el26.trans (el25.trans (el24.trans (el23.trans (el22.trans (el21.trans (el20.trans (el19.trans (el18.trans (el17.trans (el16.trans (el15.trans (el14.trans (el13.trans (el12.trans (el11.trans (el10.trans (el9.trans (el8.trans (el7.trans (el6.trans (el5.trans (el4.trans (el3.trans (el2.trans (el1)))))))))))))))))))))))))))))))))))))))⟩
