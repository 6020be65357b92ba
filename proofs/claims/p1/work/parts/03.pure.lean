/-! the evaluator's pure steps are the machine's -/
/-- an abstract value as the machine has it: the heap's cells stand from sz on -/
def E_v (sz : Nat) : Value → Value
  | .ref k => .ref (sz + k)
  | v => v
def E_q (sz : Nat) (q : Nat × Value) : Nat × Value := (q.1, E_v sz q.2)
theorem E_v_cat (sz : Nat) (v : Value) : (E_v sz v).category = v.category := by cases v <;> rfl
theorem E_lk_mem {L : E_L} {i : Nat} {v : Value} : E_lk L i = some v → (i, v) ∈ L := by
  induction L with
  | nil => intro h; cases h
  | cons q t ih =>
    intro h
    unfold E_lk at h
    split at h
    · rename_i hq
      cases h
      rw [← hq]
      exact List.mem_cons_self
    · exact List.mem_cons_of_mem _ (ih h)
theorem E_has {ls : Array Slot} {n sz : Nat} {L : E_L} (h : lv_has ls n (L.map (E_q sz))) {i : Nat} {v : Value} (hv : E_lk L i = some v) : ls[i]? = some (.val (E_v sz v)) := h.2.2 (i, E_v sz v) (List.mem_map.mpr ⟨(i, v), E_lk_mem hv, rfl⟩)
theorem E_s1_map (sz : Nat) (L : E_L) (i : Nat) (v : Value) : (i, E_v sz v) :: (L.map (E_q sz)).filter (fun q => !(q.1 == i) && !(q.1 + 1 == i && q.2.category == 2)) = (E_s1 L i v).map (E_q sz) := by
  unfold E_s1
  rw [List.map_cons, List.filter_map]
  congr 2
  apply List.filter_congr
  intro q _
  simp [E_q, E_v_cat]
theorem E_s2_map (sz : Nat) (L : E_L) (i : Nat) (v : Value) : (i, E_v sz v) :: (L.map (E_q sz)).filter (fun q => !(q.1 == i) && (!(q.1 == i + 1) && !(q.1 + 1 == i && q.2.category == 2))) = (E_s2 L i v).map (E_q sz) := by
  unfold E_s2
  rw [List.map_cons, List.filter_map]
  congr 2
  apply List.filter_congr
  intro q _
  simp [E_q, E_v_cat]
theorem E_tg_ok {pc : Nat} {off : Int} (h : E_tok pc off = true) : (pc : Int) + off = (E_tg pc off : Int) := by
  unfold E_tok at h
  unfold E_tg
  have := of_decide_eq_true h
  omega
section EP
variable {p : Program} {l : Launch} {e : Env} {R : Room} {s : State} {m : MethodId} {args : Array Value} {below : List Frame} {meth : Method} {c : Code} {H : Heap} {locs : List Loc} {cells slots : Nat} {Q : State → Prop} {cc : ByteArray} {sz nL : Nat}
/-- the machine at an abstract frame -/
def E_W (p : Program) (l : Launch) (e : Env) (R : Room) (s : State) (m : MethodId) (args : Array Value) (below : List Frame) (meth : Method) (c : Code) (sz nL : Nat) (Q : State → Prop) (H : Heap) (locs : List Loc) (cells slots : Nat) (f : E_F) : Prop :=
  ∀ ls : Array Slot, lv_has ls nL (f.2.1.map (E_q sz)) → W p l e R s m args below meth c H locs cells slots Q (F0 m f.1 ls (f.2.2.map (E_v sz)))
theorem E_bin_i {len : Nat} {f f' : E_F} {g : Int32 → Int32 → Int32} (h : E_bin len f g = some f') : ∃ pc L x y st, len = 1 ∧ f = (pc, L, .int y :: .int x :: st) ∧ f' = (pc + 1, L, .int (g x y) :: st) := by
  unfold E_bin at h
  split at h
  · split at h
    · rename_i pc L y x st hl
      cases h
      exact ⟨pc, L, x, y, st, hl, rfl, rfl⟩
    · cases h
  · cases h
theorem E_binN_i {len : Nat} {f f' : E_F} {g : Int32 → Int32 → Int32} (h : E_binN len f g = some f') : ∃ pc L x y st, len = 1 ∧ ¬ y = 0 ∧ f = (pc, L, .int y :: .int x :: st) ∧ f' = (pc + 1, L, .int (g x y) :: st) := by
  unfold E_binN at h
  split at h
  · split at h
    · rename_i pc L y x st hl
      cases h
      exact ⟨pc, L, x, y, st, hl.1, hl.2, rfl, rfl⟩
    · cases h
  · cases h
theorem E_binL_i {len : Nat} {f f' : E_F} {g : Int64 → Int64 → Int64} (h : E_binL len f g = some f') : ∃ pc L x y st, len = 1 ∧ f = (pc, L, .long y :: .long x :: st) ∧ f' = (pc + 1, L, .long (g x y) :: st) := by
  unfold E_binL at h
  split at h
  · split at h
    · rename_i pc L y x st hl
      cases h
      exact ⟨pc, L, x, y, st, hl, rfl, rfl⟩
    · cases h
  · cases h
theorem E_shL_i {len : Nat} {f f' : E_F} {g : Int64 → Int32 → Int64} (h : E_shL len f g = some f') : ∃ pc L x y st, len = 1 ∧ f = (pc, L, .int y :: .long x :: st) ∧ f' = (pc + 1, L, .long (g x y) :: st) := by
  unfold E_shL at h
  split at h
  · split at h
    · rename_i pc L y x st hl
      cases h
      exact ⟨pc, L, x, y, st, hl, rfl, rfl⟩
    · cases h
  · cases h
theorem E_un_i {len : Nat} {f f' : E_F} {g : Int32 → Value} (h : E_un len f g = some f') : ∃ pc L x st, len = 1 ∧ f = (pc, L, .int x :: st) ∧ f' = (pc + 1, L, g x :: st) := by
  unfold E_un at h
  split at h
  · split at h
    · rename_i pc L x st hl
      cases h
      exact ⟨pc, L, x, st, hl, rfl, rfl⟩
    · cases h
  · cases h
theorem E_unL_i {len : Nat} {f f' : E_F} {g : Int64 → Value} (h : E_unL len f g = some f') : ∃ pc L x st, len = 1 ∧ f = (pc, L, .long x :: st) ∧ f' = (pc + 1, L, g x :: st) := by
  unfold E_unL at h
  split at h
  · split at h
    · rename_i pc L x st hl
      cases h
      exact ⟨pc, L, x, st, hl, rfl, rfl⟩
    · cases h
  · cases h
theorem E_push_i {n len : Nat} {f f' : E_F} {v : Value} (h : E_push n len f v = some f') : len = n ∧ f' = (f.1 + n, f.2.1, v :: f.2.2) := by
  unfold E_push at h
  split at h
  · rename_i hl
    cases h
    exact ⟨hl, rfl⟩
  · cases h
theorem E_ildk_i {i n len : Nat} {f f' : E_F} (h : E_ildk i n len f = some f') : ∃ x, len = n ∧ E_lk f.2.1 i = some (.int x) ∧ f' = (f.1 + n, f.2.1, .int x :: f.2.2) := by
  unfold E_ildk at h
  split at h
  · rename_i x hx
    split at h
    · rename_i hl
      cases h
      exact ⟨x, hl, hx, rfl⟩
    · cases h
  · cases h
theorem E_lldk_i {i n len : Nat} {f f' : E_F} (h : E_lldk i n len f = some f') : ∃ x, len = n ∧ E_lk f.2.1 i = some (.long x) ∧ f' = (f.1 + n, f.2.1, .long x :: f.2.2) := by
  unfold E_lldk at h
  split at h
  · rename_i x hx
    split at h
    · rename_i hl
      cases h
      exact ⟨x, hl, hx, rfl⟩
    · cases h
  · cases h
theorem E_aldk_i {i n len : Nat} {f f' : E_F} (h : E_aldk i n len f = some f') : len = n ∧ ((∃ x, E_lk f.2.1 i = some (.ref x) ∧ f' = (f.1 + n, f.2.1, .ref x :: f.2.2)) ∨ (E_lk f.2.1 i = some .null ∧ f' = (f.1 + n, f.2.1, .null :: f.2.2))) := by
  unfold E_aldk at h
  split at h
  · rename_i x hx
    split at h
    · rename_i hl
      cases h
      exact ⟨hl, Or.inl ⟨x, hx, rfl⟩⟩
    · cases h
  · rename_i hx
    split at h
    · rename_i hl
      cases h
      exact ⟨hl, Or.inr ⟨hx, rfl⟩⟩
    · cases h
  · cases h
theorem E_istk_i {mx i n len : Nat} {f f' : E_F} (h : E_istk mx i n len f = some f') : ∃ pc L x st, len = n ∧ i < mx ∧ f = (pc, L, .int x :: st) ∧ f' = (pc + n, E_s1 L i (.int x), st) := by
  unfold E_istk at h
  split at h
  · split at h
    · rename_i pc L x st hl
      cases h
      exact ⟨pc, L, x, st, hl.1, hl.2, rfl, rfl⟩
    · cases h
  · cases h
theorem E_lstk_i {mx i n len : Nat} {f f' : E_F} (h : E_lstk mx i n len f = some f') : ∃ pc L x st, len = n ∧ i + 1 < mx ∧ f = (pc, L, .long x :: st) ∧ f' = (pc + n, E_s2 L i (.long x), st) := by
  unfold E_lstk at h
  split at h
  · split at h
    · rename_i pc L x st hl
      cases h
      exact ⟨pc, L, x, st, hl.1, hl.2, rfl, rfl⟩
    · cases h
  · cases h
theorem E_astk_i {mx i n len : Nat} {f f' : E_F} (h : E_astk mx i n len f = some f') : ∃ pc L st, len = n ∧ i < mx ∧ ((∃ x, f = (pc, L, .ref x :: st) ∧ f' = (pc + n, E_s1 L i (.ref x), st)) ∨ (f = (pc, L, .null :: st) ∧ f' = (pc + n, E_s1 L i .null, st))) := by
  unfold E_astk at h
  split at h
  · split at h
    · rename_i pc L x st hl
      cases h
      exact ⟨pc, L, st, hl.1, hl.2, Or.inl ⟨x, rfl, rfl⟩⟩
    · cases h
  · split at h
    · rename_i pc L st hl
      cases h
      exact ⟨pc, L, st, hl.1, hl.2, Or.inr ⟨rfl, rfl⟩⟩
    · cases h
  · cases h
theorem E_iinck_i {mx i len : Nat} {n : Int} {f f' : E_F} (h : E_iinck mx i n len f = some f') : ∃ x, len = 3 ∧ i < mx ∧ E_lk f.2.1 i = some (.int x) ∧ f' = (f.1 + 3, E_s1 f.2.1 i (.int (x + Int32.ofInt n)), f.2.2) := by
  unfold E_iinck at h
  split at h
  · rename_i x hx
    split at h
    · rename_i hl
      cases h
      exact ⟨x, hl.1, hl.2, hx, rfl⟩
    · cases h
  · cases h
theorem E_if_i {len : Nat} {off : Int} {f f' : E_F} {g : Int32 → Bool} (h : E_if len off f g = some f') : ∃ pc L x st, len = 3 ∧ E_tok pc off = true ∧ f = (pc, L, .int x :: st) ∧ f' = (bif g x then (E_tg pc off, L, st) else (pc + 3, L, st)) := by
  unfold E_if at h
  split at h
  · split at h
    · rename_i pc L x st hl
      refine ⟨pc, L, x, st, hl.1, hl.2, rfl, ?_⟩
      revert h
      cases g x <;> intro h <;> cases h <;> rfl
    · cases h
  · cases h
theorem E_icmp_i {len : Nat} {off : Int} {f f' : E_F} {g : Int32 → Int32 → Bool} (h : E_icmp len off f g = some f') : ∃ pc L x y st, len = 3 ∧ E_tok pc off = true ∧ f = (pc, L, .int y :: .int x :: st) ∧ f' = (bif g x y then (E_tg pc off, L, st) else (pc + 3, L, st)) := by
  unfold E_icmp at h
  split at h
  · split at h
    · rename_i pc L y x st hl
      refine ⟨pc, L, x, y, st, hl.1, hl.2, rfl, ?_⟩
      revert h
      cases g x y <;> intro h <;> cases h <;> rfl
    · cases h
  · cases h
theorem E_dup_i {len : Nat} {f f' : E_F} (h : E_dup len f = some f') : ∃ pc L v st, len = 1 ∧ v.category = 1 ∧ f = (pc, L, v :: st) ∧ f' = (pc + 1, L, v :: v :: st) := by
  unfold E_dup at h
  split at h
  · split at h
    · rename_i pc L v st hl
      cases h
      exact ⟨pc, L, v, st, hl.1, hl.2, rfl, rfl⟩
    · cases h
  · cases h
theorem E_pop_i {len : Nat} {f f' : E_F} (h : E_pop len f = some f') : ∃ pc L v st, len = 1 ∧ v.category = 1 ∧ f = (pc, L, v :: st) ∧ f' = (pc + 1, L, st) := by
  unfold E_pop at h
  split at h
  · split at h
    · rename_i pc L v st hl
      cases h
      exact ⟨pc, L, v, st, hl.1, hl.2, rfl, rfl⟩
    · cases h
  · cases h
theorem E_dup2_i {len : Nat} {f f' : E_F} (h : E_dup2 len f = some f') : ∃ pc L v w st, len = 1 ∧ v.category = 1 ∧ w.category = 1 ∧ f = (pc, L, v :: w :: st) ∧ f' = (pc + 1, L, v :: w :: v :: w :: st) := by
  unfold E_dup2 at h
  split at h
  · split at h
    · rename_i pc L v w st hl
      cases h
      exact ⟨pc, L, v, w, st, hl.1, hl.2.1, hl.2.2, rfl, rfl⟩
    · cases h
  · cases h
theorem E_nul_i {len : Nat} {off : Int} {f f' : E_F} {b : Bool} (h : E_nul len off f b = some f') : ∃ pc L st, len = 3 ∧ E_tok pc off = true ∧ ((∃ x, f = (pc, L, .ref x :: st) ∧ f' = (bif b then (pc + 3, L, st) else (E_tg pc off, L, st))) ∨ (f = (pc, L, .null :: st) ∧ f' = (bif b then (E_tg pc off, L, st) else (pc + 3, L, st)))) := by
  unfold E_nul at h
  split at h
  · split at h
    · rename_i pc L x st hl
      refine ⟨pc, L, st, hl.1, hl.2, Or.inl ⟨x, rfl, ?_⟩⟩
      cases b <;> cases h <;> rfl
    · cases h
  · split at h
    · rename_i pc L st hl
      refine ⟨pc, L, st, hl.1, hl.2, Or.inr ⟨rfl, ?_⟩⟩
      cases b <;> cases h <;> rfl
    · cases h
  · cases h
theorem E_if_w {off : Int} {pc : Nat} {L : E_L} {st : List Value} {b : Bool} {P : Prop} (hP : b = true ↔ P) (kk : E_W p l e R s m args below meth c sz nL Q H locs cells slots (bif b then (E_tg pc off, L, st) else (pc + 3, L, st))) {ls : Array Slot} (hl : lv_has ls nL (L.map (E_q sz))) :
    (P → W p l e R s m args below meth c H locs cells slots Q (F0 m (E_tg pc off) ls (st.map (E_v sz)))) ∧ (¬ P → W p l e R s m args below meth c H locs cells slots Q (F0 m (pc + 3) ls (st.map (E_v sz)))) := by
  refine ⟨fun q => ?_, fun q => ?_⟩
  · rw [hP.mpr q] at kk
    exact kk ls hl
  · have : b = false := by
      cases hb : b
      · rfl
      · exact absurd (hP.mp hb) q
    rw [this] at kk
    exact kk ls hl
end EP
