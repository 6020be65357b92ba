/-! steps of the evaluator with numbers that aren't known -/
section SY
variable {orc : Nat → List Value → E_H → Option E_R} {M : E_MI} {h : E_H} {sl n pc a b : Nat} {L : E_L} {st : List Value} {r : Option E_R}
theorem S_go {f f2 : E_F} {h2 : E_H} {s2 : Nat} (hs : E_step orc M f h sl = some (.inl (f2, h2, s2))) (k : E_run orc M n f2 h2 s2 = r) : E_run orc M (n + 1) f h sl = r := by
  unfold E_run
  rw [hs]
  exact k
theorem S_end {f : E_F} {x : E_R} (hs : E_step orc M f h sl = some (.inr x)) : E_run orc M (n + 1) f h sl = some x := by
  unfold E_run
  rw [hs]
theorem S_get {i o : Nat} {fs : List Value} {v : Value} (hf : E_find M.2.2.2.2.2.2.2 pc = some (.getfield i, 3, a, b)) (ho : h[o]? = some (.inr (a, fs))) (hv : fs[b]? = some v) (hN : b < E_N a) (k : E_run orc M n (pc + 3, L, v :: st) h sl = r) : E_run orc M (n + 1) (pc, L, .ref o :: st) h sl = r := by
  refine S_go ?_ k
  unfold E_step
  rw [hf]
  dsimp only
  unfold E_heap E_getf
  dsimp only
  rw [ho]
  dsimp only
  rw [hv]
  dsimp only
  rw [if_pos ⟨rfl, rfl, hN⟩]
  rfl
theorem S_ifc {c0 : Jvm.ClassFile.Cond} {off : Int} {x : Int32} {g : Int32 → Bool} (hg : ∀ f, E_pure M.2.2.2.1 (.ifCond c0 off) 3 f = E_if 3 off f g) (hf : E_find M.2.2.2.2.2.2.2 pc = some (.ifCond c0 off, 3, a, b)) (ht : E_tok pc off = true) (kt : g x = true → E_run orc M n (E_tg pc off, L, st) h sl = r) (kf : g x = false → E_run orc M n (pc + 3, L, st) h sl = r) : E_run orc M (n + 1) (pc, L, .int x :: st) h sl = r := by
  have hs : E_step orc M (pc, L, .int x :: st) h sl = some (.inl ((bif g x then (E_tg pc off, L, st) else (pc + 3, L, st)), h, sl)) := by
    unfold E_step
    rw [hf]
    dsimp only
    unfold E_heap
    dsimp only
    rw [hg]
    unfold E_if
    dsimp only
    rw [if_pos ⟨rfl, ht⟩]
    cases g x <;> rfl
  refine S_go hs ?_
  cases hq : g x
  · exact kf hq
  · exact kt hq
theorem S_icmp {c0 : Jvm.ClassFile.Cond} {off : Int} {x y : Int32} {g : Int32 → Int32 → Bool} (hg : ∀ f, E_pure M.2.2.2.1 (.if_icmp c0 off) 3 f = E_icmp 3 off f g) (hf : E_find M.2.2.2.2.2.2.2 pc = some (.if_icmp c0 off, 3, a, b)) (ht : E_tok pc off = true) (kt : g x y = true → E_run orc M n (E_tg pc off, L, st) h sl = r) (kf : g x y = false → E_run orc M n (pc + 3, L, st) h sl = r) : E_run orc M (n + 1) (pc, L, .int y :: .int x :: st) h sl = r := by
  have hs : E_step orc M (pc, L, .int y :: .int x :: st) h sl = some (.inl ((bif g x y then (E_tg pc off, L, st) else (pc + 3, L, st)), h, sl)) := by
    unfold E_step
    rw [hf]
    dsimp only
    unfold E_heap
    dsimp only
    rw [hg]
    unfold E_icmp
    dsimp only
    rw [if_pos ⟨rfl, ht⟩]
    cases g x y <;> rfl
  refine S_go hs ?_
  cases hq : g x y
  · exact kf hq
  · exact kt hq
/-- a call whose result is known; kind 1: on an object -/
theorem S_callV {i : Nat} {M2 : E_MI} {rest : List Value} {x : Option Value} {h2 : E_H} {s2 o : Nat} {As : List Value} {fs : List Value} (hf : E_find M.2.2.2.2.2.2.2 pc = some (.invokevirtual i, 3, a, b)) (ha : a < 900) (hM : E_mi a = some M2) (hp : E_pop2 (!M2.2.2.2.2.2.1) M2.2.2.2.2.2.2.1 st = some (.ref o :: As, rest)) (hk1 : M2.2.2.2.2.2.1 = false) (hk2 : E_isI M2 = false) (ho : h[o]? = some (.inr (M2.1, fs))) (h13 : M2.1 < 13) (hc : E_catS rest ≤ 8) (hO : orc a (.ref o :: As) h = some (x, h2, s2)) (k : E_run orc M n (pc + 3, L, x.toList ++ rest) h2 (sl + s2) = r) : E_run orc M (n + 1) (pc, L, st) h sl = r := by
  refine S_go ?_ k
  have hkk : E_kok 1 M2 (.ref o :: As) h = true := by
    unfold E_kok E_rcv
    dsimp only
    rw [ho, hk1, hk2]
    simp [h13]
  unfold E_step
  rw [hf]
  dsimp only
  rw [if_pos ⟨rfl, ha⟩]
  unfold E_inv
  rw [hM]
  dsimp only
  rw [hp]
  dsimp only
  rw [if_pos hkk, if_pos hc, hO]
theorem S_putf {i o : Nat} {fs : List Value} {v : Value} (hf : E_find M.2.2.2.2.2.2.2 pc = some (.putfield i, 3, a, b)) (ho : h[o]? = some (.inr (a, fs))) (hN : b < E_N a ∧ b < fs.length ∧ E_fin a b = false ∧ narrow (E_cty a b) v = v ∧ fits (E_cty a b) v = true) (k : E_run orc M n (pc + 3, L, st) (h.set o (.inr (a, fs.set b v))) sl = r) : E_run orc M (n + 1) (pc, L, v :: .ref o :: st) h sl = r := by
  refine S_go ?_ k
  unfold E_step
  rw [hf]
  dsimp only
  unfold E_heap E_putf
  dsimp only
  rw [ho]
  dsimp only
  rw [if_pos ⟨rfl, rfl, hN.1, hN.2.1, Or.inl hN.2.2.1, hN.2.2.2.1, hN.2.2.2.2⟩]
  rfl
theorem S_call {fuel d : Nat} {vs : List Value} (hM : E_mi a = some M) (hl : (lg_sl vs).length ≤ M.2.2.2.1) (k : E_run (E_call fuel d) M fuel (0, lv_args 0 vs, []) h 0 = r) : E_call fuel (d + 1) a vs h = r := by
  unfold E_call
  rw [hM]
  dsimp only
  rw [if_pos hl]
  exact k
end SY
