/-! runs without fuel: what the evaluator comes to, some fuel given; the rules by which methods with unknown heaps and loops are reasoned of -/
abbrev E_orc : Type := Nat → List Value → E_H → Option E_R
def B_le (o o' : E_orc) : Prop := ∀ (a : Nat) (vs : List Value) (h : E_H) (r : E_R), o a vs h = some r → o' a vs h = some r
theorem B_inv_le {o o' : E_orc} (ho : B_le o o') {kind a : Nat} {f : E_F} {h : E_H} {sl : Nat} {q : E_F × E_H × Nat} (e : E_inv o kind a f h sl = some q) : E_inv o' kind a f h sl = some q := by
  unfold E_inv at e ⊢
  split at e
  · cases e
  · rename_i M hM
    try (rw [hM]; dsimp only)
    split at e
    · cases e
    · rename_i vs rest hp
      try (rw [hp]; dsimp only)
      split at e
      · rename_i hk
        try rw [if_pos hk]
        split at e
        · rename_i hc
          try rw [if_pos hc]
          split at e
          · cases e
          · rename_i r h2 s2 hq
            rw [ho _ _ _ _ hq]
            exact e
        · cases e
      · cases e
set_option maxHeartbeats 4000000 in
theorem B_step_le {o o' : E_orc} (ho : B_le o o') {M : E_MI} {f : E_F} {h : E_H} {sl : Nat} {q : (E_F × E_H × Nat) ⊕ E_R} (e : E_step o M f h sl = some q) : E_step o' M f h sl = some q := by
  unfold E_step at e ⊢
  split at e
  · cases e
  · rename_i ins len a b hf
    try (rw [hf]; dsimp only)
    cases ins
    case invokestatic i =>
      dsimp only at e ⊢
      split at e
      · rename_i w
        try rw [if_pos w]
        split at e
        · rename_i w2
          try rw [if_pos w2]
          exact e
        · rename_i w2
          try rw [if_neg w2]
          split at e
          · rename_i w3
            try rw [if_pos w3]
            exact e
          · rename_i w3
            try rw [if_neg w3]
            split at e
            · rename_i z hz
              rw [B_inv_le ho hz]
              exact e
            · cases e
      · cases e
    case invokevirtual i =>
      dsimp only at e ⊢
      split at e
      · rename_i w
        try rw [if_pos w]
        split at e
        · rename_i z hz
          rw [B_inv_le ho hz]
          exact e
        · cases e
      · rename_i w
        try rw [if_neg w]
        exact e
    case invokespecial i =>
      dsimp only at e ⊢
      split at e
      · rename_i w
        try rw [if_pos w]
        split at e
        · rename_i w2
          try rw [if_pos w2]
          exact e
        · rename_i w2
          try rw [if_neg w2]
          split at e
          · rename_i z hz
            rw [B_inv_le ho hz]
            exact e
          · cases e
      · cases e
    all_goals exact e
theorem B_run_le {o o' : E_orc} (ho : B_le o o') {M : E_MI} : ∀ (n k : Nat) (f : E_F) (h : E_H) (sl : Nat) (r : E_R), E_run o M n f h sl = some r → E_run o' M (n + k) f h sl = some r := by
  intro n
  induction n with
  | zero => intro k f h sl r e; cases e
  | succ n ih =>
    intro k f h sl r e
    rw [show n + 1 + k = (n + k) + 1 by omega]
    unfold E_run at e ⊢
    split at e
    · cases e
    · rename_i r2 hs
      rw [B_step_le ho hs]
      exact e
    · rename_i f2 h2 s2 hs
      rw [B_step_le ho hs]
      exact ih k f2 h2 s2 r e
theorem B_call_le (m k : Nat) : ∀ d : Nat, B_le (E_call m d) (E_call (m + k) d) := by
  intro d
  induction d with
  | zero => intro a vs h r e; cases e
  | succ d ih =>
    intro a vs h r e
    unfold E_call at e ⊢
    split at e
    · cases e
    · rename_i M hM
      try (rw [hM]; dsimp only)
      split at e
      · rename_i w
        try rw [if_pos w]
        exact B_run_le ih m k _ _ _ _ e
      · cases e
theorem B_depth_le (m : Nat) : ∀ d : Nat, B_le (E_call m d) (E_call m (d + 1)) := by
  intro d
  induction d with
  | zero => intro a vs h r e; cases e
  | succ d ih =>
    intro a vs h r e
    unfold E_call at e ⊢
    split at e
    · cases e
    · rename_i M hM
      try (rw [hM]; dsimp only)
      split at e
      · rename_i w
        try rw [if_pos w]
        exact B_run_le ih m 0 _ _ _ _ e
      · cases e
def B_R (d : Nat) (M : E_MI) (f : E_F) (h : E_H) (sl : Nat) (Φ : E_R → Prop) : Prop := ∃ (m n : Nat) (r : E_R), E_run (E_call m d) M n f h sl = some r ∧ Φ r
def B_C (d a : Nat) (vs : List Value) (h : E_H) (Φ : E_R → Prop) : Prop := ∃ (m : Nat) (r : E_R), E_call m d a vs h = some r ∧ Φ r
theorem B_C.weak {d a : Nat} {vs : List Value} {h : E_H} {Φ Ψ : E_R → Prop} (k : B_C d a vs h Φ) (hi : ∀ r, Φ r → Ψ r) : B_C d a vs h Ψ := by
  obtain ⟨m, r, e, q⟩ := k
  exact ⟨m, r, e, hi r q⟩
theorem B_C.deep {d a : Nat} {vs : List Value} {h : E_H} {Φ : E_R → Prop} (k : B_C d a vs h Φ) (j : Nat) : B_C (d + j) a vs h Φ := by
  induction j with
  | zero => exact k
  | succ j ih =>
    obtain ⟨m, r, e, q⟩ := ih
    exact ⟨m, r, B_depth_le m _ _ _ _ _ e, q⟩
section BR
variable {d : Nat} {M : E_MI} {h : E_H} {sl pc a b : Nat} {L : E_L} {st : List Value} {Φ : E_R → Prop}
theorem B_go {f f2 : E_F} {h2 : E_H} {s2 : Nat} (hs : ∀ o : E_orc, E_step o M f h sl = some (.inl (f2, h2, s2))) (k : B_R d M f2 h2 s2 Φ) : B_R d M f h sl Φ := by
  obtain ⟨m, n, r, e, q⟩ := k
  exact ⟨m, n + 1, r, S_go (hs _) e, q⟩
theorem B_end {f : E_F} {x : E_R} (hs : ∀ o : E_orc, E_step o M f h sl = some (.inr x)) (q : Φ x) : B_R d M f h sl Φ := ⟨0, 1, x, S_end (hs _), q⟩
theorem B_enter {vs : List Value} (hM : E_mi a = some M) (hl : (lg_sl vs).length ≤ M.2.2.2.1) (k : B_R d M (0, lv_args 0 vs, []) h 0 Φ) : B_C (d + 1) a vs h Φ := by
  obtain ⟨m, n, r, e, q⟩ := k
  refine ⟨m + n, r, S_call hM hl ?_, q⟩
  rw [show m + n = n + m by omega]
  have h1 := B_run_le (B_call_le m n d) n m _ _ _ _ e
  rw [show m + n = n + m by omega] at h1
  exact h1
theorem B_get {i o : Nat} {fs : List Value} {v : Value} (hf : E_find M.2.2.2.2.2.2.2 pc = some (.getfield i, 3, a, b)) (ho : h[o]? = some (.inr (a, fs))) (hv : fs[b]? = some v) (hN : b < E_N a) (k : B_R d M (pc + 3, L, v :: st) h sl Φ) : B_R d M (pc, L, .ref o :: st) h sl Φ := by
  obtain ⟨m, n, r, e, q⟩ := k
  exact ⟨m, n + 1, r, S_get hf ho hv hN e, q⟩
theorem B_ifc {c0 : Jvm.ClassFile.Cond} {off : Int} {x : Int32} {g : Int32 → Bool} (hg : ∀ f, E_pure M.2.2.2.1 (.ifCond c0 off) 3 f = E_if 3 off f g) (hf : E_find M.2.2.2.2.2.2.2 pc = some (.ifCond c0 off, 3, a, b)) (ht : E_tok pc off = true) (kt : g x = true → B_R d M (E_tg pc off, L, st) h sl Φ) (kf : g x = false → B_R d M (pc + 3, L, st) h sl Φ) : B_R d M (pc, L, .int x :: st) h sl Φ := by
  cases hq : g x
  · obtain ⟨m, n, r, e, q⟩ := kf hq
    exact ⟨m, n + 1, r, S_ifc hg hf ht (fun z => by rw [hq] at z; cases z) (fun _ => e), q⟩
  · obtain ⟨m, n, r, e, q⟩ := kt hq
    exact ⟨m, n + 1, r, S_ifc hg hf ht (fun _ => e) (fun z => by rw [hq] at z; cases z), q⟩
theorem B_icmp {c0 : Jvm.ClassFile.Cond} {off : Int} {x y : Int32} {g : Int32 → Int32 → Bool} (hg : ∀ f, E_pure M.2.2.2.1 (.if_icmp c0 off) 3 f = E_icmp 3 off f g) (hf : E_find M.2.2.2.2.2.2.2 pc = some (.if_icmp c0 off, 3, a, b)) (ht : E_tok pc off = true) (kt : g x y = true → B_R d M (E_tg pc off, L, st) h sl Φ) (kf : g x y = false → B_R d M (pc + 3, L, st) h sl Φ) : B_R d M (pc, L, .int y :: .int x :: st) h sl Φ := by
  cases hq : g x y
  · obtain ⟨m, n, r, e, q⟩ := kf hq
    exact ⟨m, n + 1, r, S_icmp hg hf ht (fun z => by rw [hq] at z; cases z) (fun _ => e), q⟩
  · obtain ⟨m, n, r, e, q⟩ := kt hq
    exact ⟨m, n + 1, r, S_icmp hg hf ht (fun _ => e) (fun z => by rw [hq] at z; cases z), q⟩
theorem B_put {i o : Nat} {fs : List Value} {v : Value} (hf : E_find M.2.2.2.2.2.2.2 pc = some (.putfield i, 3, a, b)) (ho : h[o]? = some (.inr (a, fs))) (hN : b < E_N a ∧ b < fs.length ∧ E_fin a b = false ∧ narrow (E_cty a b) v = v ∧ fits (E_cty a b) v = true) (k : ∀ h2 : E_H, h2[o]? = some (.inr (a, fs.set b v)) → (∀ j, j ≠ o → h2[j]? = h[j]?) → h2.length = h.length → B_R d M (pc + 3, L, st) h2 sl Φ) : B_R d M (pc, L, v :: .ref o :: st) h sl Φ := by
  have hl : o < h.length := (List.getElem?_eq_some_iff.mp ho).1
  obtain ⟨m, n, r, e, q⟩ := k (h.set o (.inr (a, fs.set b v))) (by rw [List.getElem?_set, if_pos rfl, if_pos hl]) (fun j hj => by rw [List.getElem?_set, if_neg (fun e => hj e.symm)]) (List.length_set ..)
  exact ⟨m, n + 1, r, S_putf hf ho hN e, q⟩
/-- a load from an int, byte or boolean array -/
theorem B_ald {o t m i : Nat} {g : Nat → Int32} {x : Int32} {ins : Instr} (hf : E_find M.2.2.2.2.2.2.2 pc = some (ins, 1, a, b)) (ho : h[o]? = some (.inl (t, m, .inl g))) (ht : (ins = .iaload ∧ t = 0) ∨ (ins = .baload ∧ (t = 1 ∨ t = 2))) (hx : x = nI i) (hi : i < m) (hm : m < 2 ^ 31) (k : B_R d M (pc + 1, L, .int (g i) :: st) h sl Φ) : B_R d M (pc, L, .int x :: .ref o :: st) h sl Φ := by
  have hin : E_inb x m = true := by
    rw [hx]
    exact decide_eq_true (nI_in hi hm)
  have hcl : x.toNatClampNeg = i := by
    rw [hx]
    exact nI_clamp (by omega)
  obtain ⟨m1, n, r, e, q⟩ := k
  refine ⟨m1, n + 1, r, S_go (f2 := (pc + 1, L, .int (g i) :: st)) (h2 := h) (s2 := sl) ?_ e, q⟩
  unfold E_step
  rw [hf]
  rcases ht with ⟨rfl, rfl⟩ | ⟨rfl, ht⟩
  · dsimp only
    unfold E_heap E_ald
    dsimp only
    rw [ho]
    dsimp only
    rw [if_pos ⟨rfl, rfl, hin⟩, hcl]
    rfl
  · dsimp only
    unfold E_heap E_ald
    dsimp only
    rw [ho]
    dsimp only
    rw [if_pos ⟨rfl, by rcases ht with rfl | rfl <;> rfl, hin⟩, hcl]
    rfl
theorem B_ast {o m i : Nat} {g : Nat → Int32} {x y : Int32} (hf : E_find M.2.2.2.2.2.2.2 pc = some (.iastore, 1, a, b)) (ho : h[o]? = some (.inl (0, m, .inl g))) (hx : x = nI i) (hi : i < m) (hm : m < 2 ^ 31) (k : ∀ h2 : E_H, h2[o]? = some (.inl (0, m, .inl (upd g i y))) → (∀ j, j ≠ o → h2[j]? = h[j]?) → h2.length = h.length → B_R d M (pc + 1, L, st) h2 sl Φ) : B_R d M (pc, L, .int y :: .int x :: .ref o :: st) h sl Φ := by
  have hin : E_inb x m = true := by
    rw [hx]
    exact decide_eq_true (nI_in hi hm)
  have hcl : x.toNatClampNeg = i := by
    rw [hx]
    exact nI_clamp (by omega)
  have hl : o < h.length := (List.getElem?_eq_some_iff.mp ho).1
  obtain ⟨m1, n, r, e, q⟩ := k (h.set o (.inl (0, m, .inl (upd g i y)))) (by rw [List.getElem?_set, if_pos rfl, if_pos hl]) (fun j hj => by rw [List.getElem?_set, if_neg (fun e => hj e.symm)]) (List.length_set ..)
  refine ⟨m1, n + 1, r, S_go (f2 := (pc + 1, L, st)) (h2 := h.set o (.inl (0, m, .inl (upd g i y)))) (s2 := sl) ?_ e, q⟩
  unfold E_step
  rw [hf]
  dsimp only
  unfold E_heap E_ast
  dsimp only
  rw [ho]
  dsimp only
  rw [if_pos ⟨rfl, rfl, hin⟩, hcl]
  rfl
theorem B_alen {o t m : Nat} {g : Nat → Int32} (hf : E_find M.2.2.2.2.2.2.2 pc = some (.arraylength, 1, a, b)) (ho : h[o]? = some (.inl (t, m, .inl g))) (ht : t < 8) (k : B_R d M (pc + 1, L, .int (nI m) :: st) h sl Φ) : B_R d M (pc, L, .ref o :: st) h sl Φ := by
  obtain ⟨m1, n, r, e, q⟩ := k
  refine ⟨m1, n + 1, r, S_go (f2 := (pc + 1, L, .int (nI m) :: st)) (h2 := h) (s2 := sl) ?_ e, q⟩
  unfold E_step
  rw [hf]
  dsimp only
  unfold E_heap E_alen
  dsimp only
  rw [ho]
  dsimp only
  rw [if_pos ⟨rfl, ht⟩]
  rfl
/-- a call on an object -/
theorem B_callV {i : Nat} {M2 : E_MI} {rest : List Value} {o : Nat} {As : List Value} {fs : List Value} {Ψ : E_R → Prop} (hf : E_find M.2.2.2.2.2.2.2 pc = some (.invokevirtual i, 3, a, b)) (ha : a < 900) (hM : E_mi a = some M2) (hp : E_pop2 (!M2.2.2.2.2.2.1) M2.2.2.2.2.2.2.1 st = some (.ref o :: As, rest)) (hk1 : M2.2.2.2.2.2.1 = false) (hk2 : E_isI M2 = false) (ho : h[o]? = some (.inr (M2.1, fs))) (h13 : M2.1 < 13) (hc : E_catS rest ≤ 8) (hO : B_C d a (.ref o :: As) h Ψ) (k : ∀ (x : Option Value) (h2 : E_H) (s2 : Nat), Ψ (x, h2, s2) → B_R d M (pc + 3, L, x.toList ++ rest) h2 (sl + s2) Φ) : B_R d M (pc, L, st) h sl Φ := by
  obtain ⟨m1, ⟨x, h2, s2⟩, e1, q1⟩ := hO
  obtain ⟨m2, n, r, e, q⟩ := k x h2 s2 q1
  refine ⟨m1 + m2, n + 1, r, ?_, q⟩
  have e1' := B_call_le m1 m2 d _ _ _ _ e1
  have e' := B_run_le (B_call_le m2 m1 d) n 0 _ _ _ _ e
  rw [show m2 + m1 = m1 + m2 by omega] at e'
  exact S_callV hf ha hM hp hk1 hk2 ho h13 hc e1' e'
end BR
