/-! locals may be forgotten and stand in another order -/
theorem N_E_bin (len : Nat) (g : Int32 → Int32 → Int32) (pc : Nat) (L K : E_L) (st : List Value) (q : E_F) : E_bin len (pc, L, st) g = some q → q.2.1 = L ∧ E_bin len (pc, K, st) g = some (q.1, K, q.2.2) := by
  intro e
  unfold E_bin at e ⊢
  try simp only [Bool.cond_eq_ite] at e ⊢
  repeat' split at e
  all_goals first
    | (cases e; done)
    | (simp only [Prod.mk.injEq, Option.some.injEq] at *; subst_vars; simp_all; done)
    | (simp only [Prod.mk.injEq, Option.some.injEq] at *; obtain ⟨rfl, rfl, rfl⟩ := ‹_ ∧ _ ∧ _›; subst_vars; simp_all; done)
theorem N_E_binN (len : Nat) (g : Int32 → Int32 → Int32) (pc : Nat) (L K : E_L) (st : List Value) (q : E_F) : E_binN len (pc, L, st) g = some q → q.2.1 = L ∧ E_binN len (pc, K, st) g = some (q.1, K, q.2.2) := by
  intro e
  unfold E_binN at e ⊢
  try simp only [Bool.cond_eq_ite] at e ⊢
  repeat' split at e
  all_goals first
    | (cases e; done)
    | (simp only [Prod.mk.injEq, Option.some.injEq] at *; subst_vars; simp_all; done)
    | (simp only [Prod.mk.injEq, Option.some.injEq] at *; obtain ⟨rfl, rfl, rfl⟩ := ‹_ ∧ _ ∧ _›; subst_vars; simp_all; done)
theorem N_E_binL (len : Nat) (g : Int64 → Int64 → Int64) (pc : Nat) (L K : E_L) (st : List Value) (q : E_F) : E_binL len (pc, L, st) g = some q → q.2.1 = L ∧ E_binL len (pc, K, st) g = some (q.1, K, q.2.2) := by
  intro e
  unfold E_binL at e ⊢
  try simp only [Bool.cond_eq_ite] at e ⊢
  repeat' split at e
  all_goals first
    | (cases e; done)
    | (simp only [Prod.mk.injEq, Option.some.injEq] at *; subst_vars; simp_all; done)
    | (simp only [Prod.mk.injEq, Option.some.injEq] at *; obtain ⟨rfl, rfl, rfl⟩ := ‹_ ∧ _ ∧ _›; subst_vars; simp_all; done)
theorem N_E_shL (len : Nat) (g : Int64 → Int32 → Int64) (pc : Nat) (L K : E_L) (st : List Value) (q : E_F) : E_shL len (pc, L, st) g = some q → q.2.1 = L ∧ E_shL len (pc, K, st) g = some (q.1, K, q.2.2) := by
  intro e
  unfold E_shL at e ⊢
  try simp only [Bool.cond_eq_ite] at e ⊢
  repeat' split at e
  all_goals first
    | (cases e; done)
    | (simp only [Prod.mk.injEq, Option.some.injEq] at *; subst_vars; simp_all; done)
    | (simp only [Prod.mk.injEq, Option.some.injEq] at *; obtain ⟨rfl, rfl, rfl⟩ := ‹_ ∧ _ ∧ _›; subst_vars; simp_all; done)
theorem N_E_push (n len : Nat) (v : Value) (pc : Nat) (L K : E_L) (st : List Value) (q : E_F) : E_push n len (pc, L, st) v = some q → q.2.1 = L ∧ E_push n len (pc, K, st) v = some (q.1, K, q.2.2) := by
  intro e
  unfold E_push at e ⊢
  try simp only [Bool.cond_eq_ite] at e ⊢
  repeat' split at e
  all_goals first
    | (cases e; done)
    | (simp only [Prod.mk.injEq, Option.some.injEq] at *; subst_vars; simp_all; done)
    | (simp only [Prod.mk.injEq, Option.some.injEq] at *; obtain ⟨rfl, rfl, rfl⟩ := ‹_ ∧ _ ∧ _›; subst_vars; simp_all; done)
theorem N_E_un (len : Nat) (g : Int32 → Value) (pc : Nat) (L K : E_L) (st : List Value) (q : E_F) : E_un len (pc, L, st) g = some q → q.2.1 = L ∧ E_un len (pc, K, st) g = some (q.1, K, q.2.2) := by
  intro e
  unfold E_un at e ⊢
  try simp only [Bool.cond_eq_ite] at e ⊢
  repeat' split at e
  all_goals first
    | (cases e; done)
    | (simp only [Prod.mk.injEq, Option.some.injEq] at *; subst_vars; simp_all; done)
    | (simp only [Prod.mk.injEq, Option.some.injEq] at *; obtain ⟨rfl, rfl, rfl⟩ := ‹_ ∧ _ ∧ _›; subst_vars; simp_all; done)
theorem N_E_unL (len : Nat) (g : Int64 → Value) (pc : Nat) (L K : E_L) (st : List Value) (q : E_F) : E_unL len (pc, L, st) g = some q → q.2.1 = L ∧ E_unL len (pc, K, st) g = some (q.1, K, q.2.2) := by
  intro e
  unfold E_unL at e ⊢
  try simp only [Bool.cond_eq_ite] at e ⊢
  repeat' split at e
  all_goals first
    | (cases e; done)
    | (simp only [Prod.mk.injEq, Option.some.injEq] at *; subst_vars; simp_all; done)
    | (simp only [Prod.mk.injEq, Option.some.injEq] at *; obtain ⟨rfl, rfl, rfl⟩ := ‹_ ∧ _ ∧ _›; subst_vars; simp_all; done)
theorem N_E_if (len : Nat) (off : Int) (g : Int32 → Bool) (pc : Nat) (L K : E_L) (st : List Value) (q : E_F) : E_if len off (pc, L, st) g = some q → q.2.1 = L ∧ E_if len off (pc, K, st) g = some (q.1, K, q.2.2) := by
  intro e
  unfold E_if at e ⊢
  try simp only [Bool.cond_eq_ite] at e ⊢
  repeat' split at e
  all_goals first
    | (cases e; done)
    | (simp only [Prod.mk.injEq, Option.some.injEq] at *; subst_vars; simp_all; done)
    | (simp only [Prod.mk.injEq, Option.some.injEq] at *; obtain ⟨rfl, rfl, rfl⟩ := ‹_ ∧ _ ∧ _›; subst_vars; simp_all; done)
theorem N_E_icmp (len : Nat) (off : Int) (g : Int32 → Int32 → Bool) (pc : Nat) (L K : E_L) (st : List Value) (q : E_F) : E_icmp len off (pc, L, st) g = some q → q.2.1 = L ∧ E_icmp len off (pc, K, st) g = some (q.1, K, q.2.2) := by
  intro e
  unfold E_icmp at e ⊢
  try simp only [Bool.cond_eq_ite] at e ⊢
  repeat' split at e
  all_goals first
    | (cases e; done)
    | (simp only [Prod.mk.injEq, Option.some.injEq] at *; subst_vars; simp_all; done)
    | (simp only [Prod.mk.injEq, Option.some.injEq] at *; obtain ⟨rfl, rfl, rfl⟩ := ‹_ ∧ _ ∧ _›; subst_vars; simp_all; done)
theorem N_E_goto (len : Nat) (off : Int) (pc : Nat) (L K : E_L) (st : List Value) (q : E_F) : E_goto len off (pc, L, st) = some q → q.2.1 = L ∧ E_goto len off (pc, K, st) = some (q.1, K, q.2.2) := by
  intro e
  unfold E_goto at e ⊢
  try simp only [Bool.cond_eq_ite] at e ⊢
  repeat' split at e
  all_goals first
    | (cases e; done)
    | (simp only [Prod.mk.injEq, Option.some.injEq] at *; subst_vars; simp_all; done)
    | (simp only [Prod.mk.injEq, Option.some.injEq] at *; obtain ⟨rfl, rfl, rfl⟩ := ‹_ ∧ _ ∧ _›; subst_vars; simp_all; done)
theorem N_E_dup (len : Nat) (pc : Nat) (L K : E_L) (st : List Value) (q : E_F) : E_dup len (pc, L, st) = some q → q.2.1 = L ∧ E_dup len (pc, K, st) = some (q.1, K, q.2.2) := by
  intro e
  unfold E_dup at e ⊢
  try simp only [Bool.cond_eq_ite] at e ⊢
  repeat' split at e
  all_goals first
    | (cases e; done)
    | (simp only [Prod.mk.injEq, Option.some.injEq] at *; subst_vars; simp_all; done)
    | (simp only [Prod.mk.injEq, Option.some.injEq] at *; obtain ⟨rfl, rfl, rfl⟩ := ‹_ ∧ _ ∧ _›; subst_vars; simp_all; done)
theorem N_E_dup2 (len : Nat) (pc : Nat) (L K : E_L) (st : List Value) (q : E_F) : E_dup2 len (pc, L, st) = some q → q.2.1 = L ∧ E_dup2 len (pc, K, st) = some (q.1, K, q.2.2) := by
  intro e
  unfold E_dup2 at e ⊢
  try simp only [Bool.cond_eq_ite] at e ⊢
  repeat' split at e
  all_goals first
    | (cases e; done)
    | (simp only [Prod.mk.injEq, Option.some.injEq] at *; subst_vars; simp_all; done)
    | (simp only [Prod.mk.injEq, Option.some.injEq] at *; obtain ⟨rfl, rfl, rfl⟩ := ‹_ ∧ _ ∧ _›; subst_vars; simp_all; done)
theorem N_E_pop (len : Nat) (pc : Nat) (L K : E_L) (st : List Value) (q : E_F) : E_pop len (pc, L, st) = some q → q.2.1 = L ∧ E_pop len (pc, K, st) = some (q.1, K, q.2.2) := by
  intro e
  unfold E_pop at e ⊢
  try simp only [Bool.cond_eq_ite] at e ⊢
  repeat' split at e
  all_goals first
    | (cases e; done)
    | (simp only [Prod.mk.injEq, Option.some.injEq] at *; subst_vars; simp_all; done)
    | (simp only [Prod.mk.injEq, Option.some.injEq] at *; obtain ⟨rfl, rfl, rfl⟩ := ‹_ ∧ _ ∧ _›; subst_vars; simp_all; done)
theorem N_E_nul (len : Nat) (off : Int) (b : Bool) (pc : Nat) (L K : E_L) (st : List Value) (q : E_F) : E_nul len off (pc, L, st) b = some q → q.2.1 = L ∧ E_nul len off (pc, K, st) b = some (q.1, K, q.2.2) := by
  intro e
  unfold E_nul at e ⊢
  try simp only [Bool.cond_eq_ite] at e ⊢
  repeat' split at e
  all_goals first
    | (cases e; done)
    | (simp only [Prod.mk.injEq, Option.some.injEq] at *; subst_vars; simp_all; done)
    | (simp only [Prod.mk.injEq, Option.some.injEq] at *; obtain ⟨rfl, rfl, rfl⟩ := ‹_ ∧ _ ∧ _›; subst_vars; simp_all; done)
theorem N_E_tsw (d lo hi : Int) (offs : Array Int) (pc : Nat) (L K : E_L) (st : List Value) (q : E_F) : E_tsw d lo hi offs (pc, L, st) = some q → q.2.1 = L ∧ E_tsw d lo hi offs (pc, K, st) = some (q.1, K, q.2.2) := by
  intro e
  unfold E_tsw at e ⊢
  rcases st with _ | ⟨v, st⟩
  · cases e
  cases v <;> first | (cases e; done) | skip
  dsimp only at e ⊢
  rename_i x
  cases hb : (decide (x.toInt < lo) || decide (hi < x.toInt)) <;> rw [hb] at e <;> simp only [cond] at e ⊢
  · cases ho : offs[(x.toInt - lo).toNat]? <;> rw [ho] at e <;> dsimp only at e ⊢
    · cases e
    split at e
    · rename_i hc
      rw [if_pos hc]
      cases e
      exact ⟨rfl, rfl⟩
    · cases e
  · split at e
    · rename_i hc
      rw [if_pos hc]
      cases e
      exact ⟨rfl, rfl⟩
    · cases e
theorem N_E_lsw (d : Int) (ps : Array (Int × Int)) (pc : Nat) (L K : E_L) (st : List Value) (q : E_F) : E_lsw d ps (pc, L, st) = some q → q.2.1 = L ∧ E_lsw d ps (pc, K, st) = some (q.1, K, q.2.2) := by
  intro e
  unfold E_lsw at e ⊢
  rcases st with _ | ⟨v, st⟩
  · cases e
  cases v <;> first | (cases e; done) | skip
  dsimp only at e ⊢
  split at e
  · rename_i hc
    rw [if_pos hc]
    cases e
    exact ⟨rfl, rfl⟩
  · cases e
theorem N_E_getf (len a b : Nat) (h : E_H) (pc : Nat) (L K : E_L) (st : List Value) (q : E_F) : E_getf len a b (pc, L, st) h = some q → q.2.1 = L ∧ E_getf len a b (pc, K, st) h = some (q.1, K, q.2.2) := by
  intro e
  unfold E_getf at e ⊢
  try simp only [Bool.cond_eq_ite] at e ⊢
  repeat' split at e
  all_goals first
    | (cases e; done)
    | (simp only [Prod.mk.injEq, Option.some.injEq] at *; subst_vars; simp_all; done)
    | (simp only [Prod.mk.injEq, Option.some.injEq] at *; obtain ⟨rfl, rfl, rfl⟩ := ‹_ ∧ _ ∧ _›; subst_vars; simp_all; done)
theorem N_E_ald (len : Nat) (tok : Nat → Bool) (h : E_H) (pc : Nat) (L K : E_L) (st : List Value) (q : E_F) : E_ald len tok (pc, L, st) h = some q → q.2.1 = L ∧ E_ald len tok (pc, K, st) h = some (q.1, K, q.2.2) := by
  intro e
  unfold E_ald at e ⊢
  try simp only [Bool.cond_eq_ite] at e ⊢
  repeat' split at e
  all_goals first
    | (cases e; done)
    | (simp only [Prod.mk.injEq, Option.some.injEq] at *; subst_vars; simp_all; done)
    | (simp only [Prod.mk.injEq, Option.some.injEq] at *; obtain ⟨rfl, rfl, rfl⟩ := ‹_ ∧ _ ∧ _›; subst_vars; simp_all; done)
theorem N_E_lald (len : Nat) (h : E_H) (pc : Nat) (L K : E_L) (st : List Value) (q : E_F) : E_lald len (pc, L, st) h = some q → q.2.1 = L ∧ E_lald len (pc, K, st) h = some (q.1, K, q.2.2) := by
  intro e
  unfold E_lald at e ⊢
  try simp only [Bool.cond_eq_ite] at e ⊢
  repeat' split at e
  all_goals first
    | (cases e; done)
    | (simp only [Prod.mk.injEq, Option.some.injEq] at *; subst_vars; simp_all; done)
    | (simp only [Prod.mk.injEq, Option.some.injEq] at *; obtain ⟨rfl, rfl, rfl⟩ := ‹_ ∧ _ ∧ _›; subst_vars; simp_all; done)
theorem N_E_aald (len : Nat) (h : E_H) (pc : Nat) (L K : E_L) (st : List Value) (q : E_F) : E_aald len (pc, L, st) h = some q → q.2.1 = L ∧ E_aald len (pc, K, st) h = some (q.1, K, q.2.2) := by
  intro e
  unfold E_aald at e ⊢
  try simp only [Bool.cond_eq_ite] at e ⊢
  repeat' split at e
  all_goals first
    | (cases e; done)
    | (simp only [Prod.mk.injEq, Option.some.injEq] at *; subst_vars; simp_all; done)
    | (simp only [Prod.mk.injEq, Option.some.injEq] at *; obtain ⟨rfl, rfl, rfl⟩ := ‹_ ∧ _ ∧ _›; subst_vars; simp_all; done)
theorem N_E_alen (len : Nat) (h : E_H) (pc : Nat) (L K : E_L) (st : List Value) (q : E_F) : E_alen len (pc, L, st) h = some q → q.2.1 = L ∧ E_alen len (pc, K, st) h = some (q.1, K, q.2.2) := by
  intro e
  unfold E_alen at e ⊢
  try simp only [Bool.cond_eq_ite] at e ⊢
  repeat' split at e
  all_goals first
    | (cases e; done)
    | (simp only [Prod.mk.injEq, Option.some.injEq] at *; subst_vars; simp_all; done)
    | (simp only [Prod.mk.injEq, Option.some.injEq] at *; obtain ⟨rfl, rfl, rfl⟩ := ‹_ ∧ _ ∧ _›; subst_vars; simp_all; done)
theorem N_E_ldc (n oc i len : Nat) (pc : Nat) (L K : E_L) (st : List Value) (q : E_F) : E_ldc n oc i len (pc, L, st) = some q → q.2.1 = L ∧ E_ldc n oc i len (pc, K, st) = some (q.1, K, q.2.2) := by
  intro e
  unfold E_ldc at e ⊢
  try simp only [Bool.cond_eq_ite] at e ⊢
  repeat' split at e
  all_goals first
    | (cases e; done)
    | (simp only [Prod.mk.injEq, Option.some.injEq] at *; subst_vars; simp_all; done)
    | (simp only [Prod.mk.injEq, Option.some.injEq] at *; obtain ⟨rfl, rfl, rfl⟩ := ‹_ ∧ _ ∧ _›; subst_vars; simp_all; done)
theorem N_E_ldc2 (oc i len : Nat) (pc : Nat) (L K : E_L) (st : List Value) (q : E_F) : E_ldc2 oc i len (pc, L, st) = some q → q.2.1 = L ∧ E_ldc2 oc i len (pc, K, st) = some (q.1, K, q.2.2) := by
  intro e
  unfold E_ldc2 at e ⊢
  try simp only [Bool.cond_eq_ite] at e ⊢
  repeat' split at e
  all_goals first
    | (cases e; done)
    | (simp only [Prod.mk.injEq, Option.some.injEq] at *; subst_vars; simp_all; done)
    | (simp only [Prod.mk.injEq, Option.some.injEq] at *; obtain ⟨rfl, rfl, rfl⟩ := ‹_ ∧ _ ∧ _›; subst_vars; simp_all; done)
theorem N_E_mm (a : Nat) (pc : Nat) (L K : E_L) (st : List Value) (q : E_F) : E_mm a (pc, L, st) = some q → q.2.1 = L ∧ E_mm a (pc, K, st) = some (q.1, K, q.2.2) := by
  intro e
  unfold E_mm at e ⊢
  rcases st with _ | ⟨v, st⟩
  · cases e
  rcases st with _ | ⟨w, st⟩
  · cases v <;> cases e
  cases v <;> first | (cases e; done) | skip
  cases w <;> first | (cases e; done) | skip
  cases e
  exact ⟨rfl, rfl⟩
theorem N_E_putf (isI : Bool) (oc len a b : Nat) (h : E_H) (pc : Nat) (L K : E_L) (st : List Value) (q : E_F × E_H) : E_putf isI oc len a b (pc, L, st) h = some q → q.1.2.1 = L ∧ E_putf isI oc len a b (pc, K, st) h = some ((q.1.1, K, q.1.2.2), q.2) := by
  intro e
  unfold E_putf at e ⊢
  try simp only [Bool.cond_eq_ite] at e ⊢
  repeat' split at e
  all_goals first
    | (cases e; done)
    | (simp only [Prod.mk.injEq, Option.some.injEq] at *; subst_vars; simp_all; done)
    | (simp only [Prod.mk.injEq, Option.some.injEq] at *; obtain ⟨rfl, rfl, rfl⟩ := ‹_ ∧ _ ∧ _›; subst_vars; simp_all; done)
theorem N_E_ast (len : Nat) (h : E_H) (pc : Nat) (L K : E_L) (st : List Value) (q : E_F × E_H) : E_ast len (pc, L, st) h = some q → q.1.2.1 = L ∧ E_ast len (pc, K, st) h = some ((q.1.1, K, q.1.2.2), q.2) := by
  intro e
  unfold E_ast at e ⊢
  try simp only [Bool.cond_eq_ite] at e ⊢
  repeat' split at e
  all_goals first
    | (cases e; done)
    | (simp only [Prod.mk.injEq, Option.some.injEq] at *; subst_vars; simp_all; done)
    | (simp only [Prod.mk.injEq, Option.some.injEq] at *; obtain ⟨rfl, rfl, rfl⟩ := ‹_ ∧ _ ∧ _›; subst_vars; simp_all; done)
theorem N_E_bst (len : Nat) (h : E_H) (pc : Nat) (L K : E_L) (st : List Value) (q : E_F × E_H) : E_bst len (pc, L, st) h = some q → q.1.2.1 = L ∧ E_bst len (pc, K, st) h = some ((q.1.1, K, q.1.2.2), q.2) := by
  intro e
  unfold E_bst at e ⊢
  try simp only [Bool.cond_eq_ite] at e ⊢
  repeat' split at e
  all_goals first
    | (cases e; done)
    | (simp only [Prod.mk.injEq, Option.some.injEq] at *; subst_vars; simp_all; done)
    | (simp only [Prod.mk.injEq, Option.some.injEq] at *; obtain ⟨rfl, rfl, rfl⟩ := ‹_ ∧ _ ∧ _›; subst_vars; simp_all; done)
theorem N_E_lst (len : Nat) (h : E_H) (pc : Nat) (L K : E_L) (st : List Value) (q : E_F × E_H) : E_lst len (pc, L, st) h = some q → q.1.2.1 = L ∧ E_lst len (pc, K, st) h = some ((q.1.1, K, q.1.2.2), q.2) := by
  intro e
  unfold E_lst at e ⊢
  try simp only [Bool.cond_eq_ite] at e ⊢
  repeat' split at e
  all_goals first
    | (cases e; done)
    | (simp only [Prod.mk.injEq, Option.some.injEq] at *; subst_vars; simp_all; done)
    | (simp only [Prod.mk.injEq, Option.some.injEq] at *; obtain ⟨rfl, rfl, rfl⟩ := ‹_ ∧ _ ∧ _›; subst_vars; simp_all; done)
theorem N_E_aast (len : Nat) (h : E_H) (pc : Nat) (L K : E_L) (st : List Value) (q : E_F × E_H) : E_aast len (pc, L, st) h = some q → q.1.2.1 = L ∧ E_aast len (pc, K, st) h = some ((q.1.1, K, q.1.2.2), q.2) := by
  intro e
  unfold E_aast at e ⊢
  try simp only [Bool.cond_eq_ite] at e ⊢
  repeat' split at e
  all_goals first
    | (cases e; done)
    | (simp only [Prod.mk.injEq, Option.some.injEq] at *; subst_vars; simp_all; done)
    | (simp only [Prod.mk.injEq, Option.some.injEq] at *; obtain ⟨rfl, rfl, rfl⟩ := ‹_ ∧ _ ∧ _›; subst_vars; simp_all; done)
theorem N_E_aasb (len : Nat) (h : E_H) (pc : Nat) (L K : E_L) (st : List Value) (q : E_F × E_H) : E_aasb len (pc, L, st) h = some q → q.1.2.1 = L ∧ E_aasb len (pc, K, st) h = some ((q.1.1, K, q.1.2.2), q.2) := by
  intro e
  unfold E_aasb at e ⊢
  try simp only [Bool.cond_eq_ite] at e ⊢
  repeat' split at e
  all_goals first
    | (cases e; done)
    | (simp only [Prod.mk.injEq, Option.some.injEq] at *; subst_vars; simp_all; done)
    | (simp only [Prod.mk.injEq, Option.some.injEq] at *; obtain ⟨rfl, rfl, rfl⟩ := ‹_ ∧ _ ∧ _›; subst_vars; simp_all; done)
theorem N_E_aas (len : Nat) (h : E_H) (pc : Nat) (L K : E_L) (st : List Value) (q : E_F × E_H) : E_aas len (pc, L, st) h = some q → q.1.2.1 = L ∧ E_aas len (pc, K, st) h = some ((q.1.1, K, q.1.2.2), q.2) := by
  intro e
  unfold E_aas at e ⊢
  split at e
  · rename_i z hz
    cases e
    obtain ⟨h1, h2⟩ := N_E_aasb len h pc L K st _ hz
    refine ⟨h1, ?_⟩
    rw [h2]
  · rename_i hz
    obtain ⟨h1, h2⟩ := N_E_aast len h pc L K st _ e
    refine ⟨h1, ?_⟩
    have : E_aasb len (pc, K, st) h = none := by
      cases hq : E_aasb len (pc, K, st) h with
      | none => rfl
      | some z => exact absurd (N_E_aasb len h pc K L st _ hq).2 (by rw [hz]; exact fun e => by cases e)
    rw [this]
    exact h2
theorem N_E_cst (oc i len : Nat) (h : E_H) (pc : Nat) (L K : E_L) (st : List Value) (q : E_F) : E_cst oc i len (pc, L, st) h = some q → q.2.1 = L ∧ E_cst oc i len (pc, K, st) h = some (q.1, K, q.2.2) := by
  intro e
  unfold E_cst at e ⊢
  try simp only [Bool.cond_eq_ite] at e ⊢
  repeat' split at e
  all_goals first
    | (cases e; done)
    | (simp only [Prod.mk.injEq, Option.some.injEq] at *; subst_vars; simp_all; done)
    | (simp only [Prod.mk.injEq, Option.some.injEq] at *; obtain ⟨rfl, rfl, rfl⟩ := ‹_ ∧ _ ∧ _›; subst_vars; simp_all; done)
theorem N_E_cln (oc i len a : Nat) (h : E_H) (pc : Nat) (L K : E_L) (st : List Value) (q : E_F × E_H × Nat) : E_cln oc i len a (pc, L, st) h = some q → q.1.2.1 = L ∧ E_cln oc i len a (pc, K, st) h = some ((q.1.1, K, q.1.2.2), q.2) := by
  intro e
  unfold E_cln at e ⊢
  try simp only [Bool.cond_eq_ite] at e ⊢
  repeat' split at e
  all_goals first
    | (cases e; done)
    | (simp only [Prod.mk.injEq, Option.some.injEq] at *; subst_vars; simp_all; done)
    | (simp only [Prod.mk.injEq, Option.some.injEq] at *; obtain ⟨rfl, rfl, rfl⟩ := ‹_ ∧ _ ∧ _›; subst_vars; simp_all; done)
theorem N_E_new (len a : Nat) (h : E_H) (pc : Nat) (L K : E_L) (st : List Value) (q : E_F × E_H) : E_new len a (pc, L, st) h = some q → q.1.2.1 = L ∧ E_new len a (pc, K, st) h = some ((q.1.1, K, q.1.2.2), q.2) := by
  intro e
  unfold E_new at e ⊢
  try simp only [Bool.cond_eq_ite] at e ⊢
  repeat' split at e
  all_goals first
    | (cases e; done)
    | (simp only [Prod.mk.injEq, Option.some.injEq] at *; subst_vars; simp_all; done)
    | (simp only [Prod.mk.injEq, Option.some.injEq] at *; obtain ⟨rfl, rfl, rfl⟩ := ‹_ ∧ _ ∧ _›; subst_vars; simp_all; done)
theorem N_E_copy (len : Nat) (h : E_H) (pc : Nat) (L K : E_L) (st : List Value) (q : E_F × E_H) : E_copy len (pc, L, st) h = some q → q.1.2.1 = L ∧ E_copy len (pc, K, st) h = some ((q.1.1, K, q.1.2.2), q.2) := by
  intro e
  unfold E_copy at e ⊢
  rcases st with _ | ⟨v1, st⟩
  · cases e
  rcases st with _ | ⟨v2, st⟩
  · cases v1 <;> cases e
  rcases st with _ | ⟨v3, st⟩
  · cases v1 <;> cases v2 <;> cases e
  rcases st with _ | ⟨v4, st⟩
  · cases v1 <;> cases v2 <;> cases v3 <;> cases e
  rcases st with _ | ⟨v5, st⟩
  · cases v1 <;> cases v2 <;> cases v3 <;> cases v4 <;> cases e
  cases v1 <;> first | (cases e; done) | skip
  cases v2 <;> first | (cases e; done) | skip
  cases v3 <;> first | (cases e; done) | skip
  cases v4 <;> first | (cases e; done) | skip
  cases v5 <;> first | (cases e; done) | skip
  dsimp only at e ⊢
  split at e
  · rename_i h1 h2
    try (rw [h1, h2]; dsimp only)
    split at e
    · rename_i hc
      rw [if_pos hc]
      cases e
      exact ⟨rfl, rfl⟩
    · cases e
  · cases e
theorem N_E_newa (len a : Nat) (h : E_H) (pc : Nat) (L K : E_L) (st : List Value) (q : E_F × E_H × Nat) : E_newa len a (pc, L, st) h = some q → q.1.2.1 = L ∧ E_newa len a (pc, K, st) h = some ((q.1.1, K, q.1.2.2), q.2) := by
  intro e
  unfold E_newa at e ⊢
  try simp only [Bool.cond_eq_ite] at e ⊢
  repeat' split at e
  all_goals first
    | (cases e; done)
    | (simp only [Prod.mk.injEq, Option.some.injEq] at *; subst_vars; simp_all; done)
    | (simp only [Prod.mk.injEq, Option.some.injEq] at *; obtain ⟨rfl, rfl, rfl⟩ := ‹_ ∧ _ ∧ _›; subst_vars; simp_all; done)
theorem N_E_newq (len a : Nat) (h : E_H) (pc : Nat) (L K : E_L) (st : List Value) (q : E_F × E_H × Nat) : E_newq len a (pc, L, st) h = some q → q.1.2.1 = L ∧ E_newq len a (pc, K, st) h = some ((q.1.1, K, q.1.2.2), q.2) := by
  intro e
  unfold E_newq at e ⊢
  try simp only [Bool.cond_eq_ite] at e ⊢
  repeat' split at e
  all_goals first
    | (cases e; done)
    | (simp only [Prod.mk.injEq, Option.some.injEq] at *; subst_vars; simp_all; done)
    | (simp only [Prod.mk.injEq, Option.some.injEq] at *; obtain ⟨rfl, rfl, rfl⟩ := ‹_ ∧ _ ∧ _›; subst_vars; simp_all; done)
theorem N_E_mna (len : Nat) (h : E_H) (pc : Nat) (L K : E_L) (st : List Value) (q : E_F × E_H × Nat) : E_mna len (pc, L, st) h = some q → q.1.2.1 = L ∧ E_mna len (pc, K, st) h = some ((q.1.1, K, q.1.2.2), q.2) := by
  intro e
  unfold E_mna at e ⊢
  try simp only [Bool.cond_eq_ite] at e ⊢
  repeat' split at e
  all_goals first
    | (cases e; done)
    | (simp only [Prod.mk.injEq, Option.some.injEq] at *; subst_vars; simp_all; done)
    | (simp only [Prod.mk.injEq, Option.some.injEq] at *; obtain ⟨rfl, rfl, rfl⟩ := ‹_ ∧ _ ∧ _›; subst_vars; simp_all; done)
def N_sub (L K : E_L) : Prop := ∀ (i : Nat) (v : Value), E_lk K i = some v → E_lk L i = some v
def N_nd (K : E_L) : Prop := (K.map Prod.fst).Nodup
theorem N_lk_mem {K : E_L} {i : Nat} {v : Value} (h : E_lk K i = some v) : i ∈ K.map Prod.fst := by
  induction K with
  | nil => cases h
  | cons q t ih =>
    unfold E_lk at h
    split at h
    · rename_i e
      exact List.mem_map.mpr ⟨q, List.mem_cons_self, e⟩
    · exact List.mem_cons_of_mem _ (ih h)
theorem N_flt {p : Nat × Value → Bool} {K : E_L} {j : Nat} {w : Value} (nd : N_nd K) (h : E_lk (K.filter p) j = some w) : E_lk K j = some w ∧ p (j, w) = true := by
  induction K with
  | nil => cases h
  | cons q t ih =>
    have nd2 := List.nodup_cons.mp nd
    rw [List.filter_cons] at h
    split at h
    · rename_i hp
      unfold E_lk at h ⊢
      split at h
      · rename_i e
        rw [if_pos e]
        injection h with h
        refine ⟨by rw [h], ?_⟩
        rw [← e, ← h]
        exact hp
      · rename_i e
        rw [if_neg e]
        exact ih nd2.2 h
    · obtain ⟨h1, h2⟩ := ih nd2.2 h
      refine ⟨?_, h2⟩
      unfold E_lk
      rw [if_neg (fun e => nd2.1 (by rw [e]; exact N_lk_mem h1))]
      exact h1
theorem N_flt2 {p : Nat × Value → Bool} {L : E_L} {j : Nat} {w : Value} (h : E_lk L j = some w) (hp : p (j, w) = true) : E_lk (L.filter p) j = some w := by
  induction L with
  | nil => cases h
  | cons q t ih =>
    unfold E_lk at h
    rw [List.filter_cons]
    split at h
    · rename_i e
      injection h with h
      have : q = (j, w) := by rw [← e, ← h]
      rw [this, if_pos hp]
      unfold E_lk
      rw [if_pos rfl]
    · rename_i e
      split
      · unfold E_lk
        rw [if_neg e]
        exact ih h
      · exact ih h
theorem N_put {p : Nat × Value → Bool} {L K : E_L} {i : Nat} {v : Value} (hs : N_sub L K) (nd : N_nd K) (hp : ∀ w : Value, p (i, w) = false) : N_sub ((i, v) :: L.filter p) ((i, v) :: K.filter p) ∧ N_nd ((i, v) :: K.filter p) := by
  refine ⟨fun j w h => ?_, ?_⟩
  · unfold E_lk at h ⊢
    split at h
    · rename_i e
      rw [if_pos e]
      exact h
    · rename_i e
      rw [if_neg e]
      obtain ⟨h1, h2⟩ := N_flt nd h
      exact N_flt2 (hs j w h1) h2
  · refine List.nodup_cons.mpr ⟨fun hm => ?_, ?_⟩
    · obtain ⟨q, hq, e⟩ := List.mem_map.mp hm
      have h2 := (List.mem_filter.mp hq).2
      have e : q.1 = i := e
      have := hp q.2
      rw [← e] at this
      rw [this] at h2
      cases h2
    · exact List.Sublist.nodup (List.Sublist.map _ List.filter_sublist) nd
theorem N_s1 {L K : E_L} {i : Nat} {v : Value} (hs : N_sub L K) (nd : N_nd K) : N_sub (E_s1 L i v) (E_s1 K i v) ∧ N_nd (E_s1 K i v) := N_put hs nd (fun w => by simp)
theorem N_s2 {L K : E_L} {i : Nat} {v : Value} (hs : N_sub L K) (nd : N_nd K) : N_sub (E_s2 L i v) (E_s2 K i v) ∧ N_nd (E_s2 K i v) := N_put hs nd (fun w => by simp)

theorem N_w {L K : E_L} {q : E_F} {x : Option E_F} (hs : N_sub L K) (nd : N_nd K) (h : q.2.1 = K ∧ x = some (q.1, L, q.2.2)) : ∃ L2 : E_L, x = some (q.1, L2, q.2.2) ∧ N_sub L2 q.2.1 ∧ N_nd q.2.1 := ⟨L, h.2, by rw [h.1]; exact hs, by rw [h.1]; exact nd⟩
theorem N_ild {i n len pc : Nat} {L K : E_L} {st : List Value} {q : E_F} (hs : N_sub L K) (nd : N_nd K) (e : E_ildk i n len (pc, K, st) = some q) : ∃ L2 : E_L, E_ildk i n len (pc, L, st) = some (q.1, L2, q.2.2) ∧ N_sub L2 q.2.1 ∧ N_nd q.2.1 := by
  unfold E_ildk at e ⊢
  dsimp only at e ⊢
  split at e
  · rename_i x hk
    rw [hs _ _ hk]
    dsimp only
    split at e
    · rename_i hc
      rw [if_pos hc]
      cases e
      exact ⟨L, rfl, hs, nd⟩
    · cases e
  · cases e
theorem N_lld {i n len pc : Nat} {L K : E_L} {st : List Value} {q : E_F} (hs : N_sub L K) (nd : N_nd K) (e : E_lldk i n len (pc, K, st) = some q) : ∃ L2 : E_L, E_lldk i n len (pc, L, st) = some (q.1, L2, q.2.2) ∧ N_sub L2 q.2.1 ∧ N_nd q.2.1 := by
  unfold E_lldk at e ⊢
  dsimp only at e ⊢
  split at e
  · rename_i x hk
    rw [hs _ _ hk]
    dsimp only
    split at e
    · rename_i hc
      rw [if_pos hc]
      cases e
      exact ⟨L, rfl, hs, nd⟩
    · cases e
  · cases e
theorem N_ald {i n len pc : Nat} {L K : E_L} {st : List Value} {q : E_F} (hs : N_sub L K) (nd : N_nd K) (e : E_aldk i n len (pc, K, st) = some q) : ∃ L2 : E_L, E_aldk i n len (pc, L, st) = some (q.1, L2, q.2.2) ∧ N_sub L2 q.2.1 ∧ N_nd q.2.1 := by
  unfold E_aldk at e ⊢
  dsimp only at e ⊢
  split at e
  · rename_i x hk
    rw [hs _ _ hk]
    dsimp only
    split at e
    · rename_i hc
      rw [if_pos hc]
      cases e
      exact ⟨L, rfl, hs, nd⟩
    · cases e
  · rename_i hk
    rw [hs _ _ hk]
    dsimp only
    split at e
    · rename_i hc
      rw [if_pos hc]
      cases e
      exact ⟨L, rfl, hs, nd⟩
    · cases e
  · cases e
theorem N_iin {mx i : Nat} {n : Int} {len pc : Nat} {L K : E_L} {st : List Value} {q : E_F} (hs : N_sub L K) (nd : N_nd K) (e : E_iinck mx i n len (pc, K, st) = some q) : ∃ L2 : E_L, E_iinck mx i n len (pc, L, st) = some (q.1, L2, q.2.2) ∧ N_sub L2 q.2.1 ∧ N_nd q.2.1 := by
  unfold E_iinck at e ⊢
  dsimp only at e ⊢
  split at e
  · rename_i x hk
    rw [hs _ _ hk]
    dsimp only
    split at e
    · rename_i hc
      rw [if_pos hc]
      cases e
      exact ⟨_, rfl, N_s1 hs nd⟩
    · cases e
  · cases e
theorem N_ist {mx i n len pc : Nat} {L K : E_L} {st : List Value} {q : E_F} (hs : N_sub L K) (nd : N_nd K) (e : E_istk mx i n len (pc, K, st) = some q) : ∃ L2 : E_L, E_istk mx i n len (pc, L, st) = some (q.1, L2, q.2.2) ∧ N_sub L2 q.2.1 ∧ N_nd q.2.1 := by
  unfold E_istk at e ⊢
  rcases st with _ | ⟨v, st⟩
  · cases e
  cases v <;> first | (cases e; done) | skip
  dsimp only at e ⊢
  split at e
  · rename_i hc
    rw [if_pos hc]
    cases e
    exact ⟨_, rfl, N_s1 hs nd⟩
  · cases e
theorem N_lst {mx i n len pc : Nat} {L K : E_L} {st : List Value} {q : E_F} (hs : N_sub L K) (nd : N_nd K) (e : E_lstk mx i n len (pc, K, st) = some q) : ∃ L2 : E_L, E_lstk mx i n len (pc, L, st) = some (q.1, L2, q.2.2) ∧ N_sub L2 q.2.1 ∧ N_nd q.2.1 := by
  unfold E_lstk at e ⊢
  rcases st with _ | ⟨v, st⟩
  · cases e
  cases v <;> first | (cases e; done) | skip
  dsimp only at e ⊢
  split at e
  · rename_i hc
    rw [if_pos hc]
    cases e
    exact ⟨_, rfl, N_s2 hs nd⟩
  · cases e
theorem N_ast {mx i n len pc : Nat} {L K : E_L} {st : List Value} {q : E_F} (hs : N_sub L K) (nd : N_nd K) (e : E_astk mx i n len (pc, K, st) = some q) : ∃ L2 : E_L, E_astk mx i n len (pc, L, st) = some (q.1, L2, q.2.2) ∧ N_sub L2 q.2.1 ∧ N_nd q.2.1 := by
  unfold E_astk at e ⊢
  rcases st with _ | ⟨v, st⟩
  · cases e
  cases v <;> first | (cases e; done) | skip
  all_goals
    dsimp only at e ⊢
    split at e
    · rename_i hc
      rw [if_pos hc]
      cases e
      exact ⟨_, rfl, N_s1 hs nd⟩
    · cases e
set_option maxHeartbeats 4000000 in
theorem N_pure {mx len pc : Nat} {ins : Instr} {L K : E_L} {st : List Value} {q : E_F} (hs : N_sub L K) (nd : N_nd K) (e : E_pure mx ins len (pc, K, st) = some q) : ∃ L2 : E_L, E_pure mx ins len (pc, L, st) = some (q.1, L2, q.2.2) ∧ N_sub L2 q.2.1 ∧ N_nd q.2.1 := by
  unfold E_pure at e ⊢
  split at e
  all_goals first
    | (cases e; done)
    | exact N_ild hs nd e
    | exact N_lld hs nd e
    | exact N_ald hs nd e
    | exact N_ist hs nd e
    | exact N_lst hs nd e
    | exact N_ast hs nd e
    | exact N_iin hs nd e
    | exact N_w hs nd (N_E_bin _ _ pc K L st q e)
    | exact N_w hs nd (N_E_binN _ _ pc K L st q e)
    | exact N_w hs nd (N_E_binL _ _ pc K L st q e)
    | exact N_w hs nd (N_E_shL _ _ pc K L st q e)
    | exact N_w hs nd (N_E_push _ _ _ pc K L st q e)
    | exact N_w hs nd (N_E_un _ _ pc K L st q e)
    | exact N_w hs nd (N_E_unL _ _ pc K L st q e)
    | exact N_w hs nd (N_E_if _ _ _ pc K L st q e)
    | exact N_w hs nd (N_E_icmp _ _ _ pc K L st q e)
    | exact N_w hs nd (N_E_goto _ _ pc K L st q e)
    | exact N_w hs nd (N_E_dup _ pc K L st q e)
    | exact N_w hs nd (N_E_dup2 _ pc K L st q e)
    | exact N_w hs nd (N_E_pop _ pc K L st q e)
    | exact N_w hs nd (N_E_nul _ _ _ pc K L st q e)
    | exact N_w hs nd (N_E_tsw _ _ _ _ pc K L st q e)
    | exact N_w hs nd (N_E_lsw _ _ pc K L st q e)
    | exact N_w hs nd (N_E_getf _ _ _ _ pc K L st q e)
    | exact N_w hs nd (N_E_ald _ _ _ pc K L st q e)
    | exact N_w hs nd (N_E_lald _ _ pc K L st q e)
    | exact N_w hs nd (N_E_aald _ _ pc K L st q e)
    | exact N_w hs nd (N_E_alen _ _ pc K L st q e)
    | exact N_w hs nd (N_E_ldc _ _ _ _ pc K L st q e)
    | exact N_w hs nd (N_E_ldc2 _ _ _ pc K L st q e)
    | exact N_w hs nd (N_E_mm _ pc K L st q e)
    | (try dsimp only at e ⊢
       rcases st with _ | ⟨v, st⟩
       · cases e
       rcases st with _ | ⟨w, st⟩
       · cases v <;> cases e
       cases v <;> first | (cases e; done) | skip
       cases w <;> first | (cases e; done) | skip
       try dsimp only at e ⊢
       split at e
       · rename_i hc
         rw [if_pos hc]
         cases e
         exact ⟨L, rfl, hs, nd⟩
       · cases e)

theorem N_h1 {x y : Option E_F} {h : E_H} {L K : E_L} {q : E_F × E_H × Nat} (hs : N_sub L K) (nd : N_nd K) (e : E_f1 x h = some q) (hx : ∀ p : E_F, x = some p → p.2.1 = K ∧ y = some (p.1, L, p.2.2)) : ∃ L2 : E_L, E_f1 y h = some ((q.1.1, L2, q.1.2.2), q.2) ∧ N_sub L2 q.1.2.1 ∧ N_nd q.1.2.1 := by
  unfold E_f1 at e
  split at e
  · rename_i p
    cases e
    obtain ⟨h1, h2⟩ := hx p rfl
    subst h2
    exact ⟨L, rfl, by rw [h1]; exact hs, by rw [h1]; exact nd⟩
  · cases e
theorem N_h1p {x y : Option E_F} {h : E_H} {q : E_F × E_H × Nat} (e : E_f1 x h = some q) (hx : ∀ p : E_F, x = some p → ∃ L2 : E_L, y = some (p.1, L2, p.2.2) ∧ N_sub L2 p.2.1 ∧ N_nd p.2.1) : ∃ L2 : E_L, E_f1 y h = some ((q.1.1, L2, q.1.2.2), q.2) ∧ N_sub L2 q.1.2.1 ∧ N_nd q.1.2.1 := by
  unfold E_f1 at e
  split at e
  · rename_i p
    cases e
    obtain ⟨L2, h2, h3, h4⟩ := hx p rfl
    subst h2
    exact ⟨L2, rfl, h3, h4⟩
  · cases e
theorem N_h2 {x y : Option (E_F × E_H)} {n : Nat} {L K : E_L} {q : E_F × E_H × Nat} (hs : N_sub L K) (nd : N_nd K) (e : E_f2 x n = some q) (hx : ∀ p : E_F × E_H, x = some p → p.1.2.1 = K ∧ y = some ((p.1.1, L, p.1.2.2), p.2)) : ∃ L2 : E_L, E_f2 y n = some ((q.1.1, L2, q.1.2.2), q.2) ∧ N_sub L2 q.1.2.1 ∧ N_nd q.1.2.1 := by
  unfold E_f2 at e
  split at e
  · rename_i f2 h2
    cases e
    obtain ⟨h1, h2⟩ := hx _ rfl
    subst h2
    have h1 : f2.2.1 = K := h1
    exact ⟨L, rfl, by rw [h1]; exact hs, by rw [h1]; exact nd⟩
  · cases e
theorem N_h3 {y : Option (E_F × E_H × Nat)} {L K : E_L} {q : E_F × E_H × Nat} (hs : N_sub L K) (nd : N_nd K) (h : q.1.2.1 = K ∧ y = some ((q.1.1, L, q.1.2.2), q.2)) : ∃ L2 : E_L, y = some ((q.1.1, L2, q.1.2.2), q.2) ∧ N_sub L2 q.1.2.1 ∧ N_nd q.1.2.1 := ⟨L, h.2, by rw [h.1]; exact hs, by rw [h.1]; exact nd⟩
set_option maxHeartbeats 4000000 in
theorem N_heap {mx oc : Nat} {isI : Bool} {len a b pc : Nat} {ins : Instr} {L K : E_L} {st : List Value} {h : E_H} {q : E_F × E_H × Nat} (hs : N_sub L K) (nd : N_nd K) (e : E_heap mx oc isI ins len a b (pc, K, st) h = some q) : ∃ L2 : E_L, E_heap mx oc isI ins len a b (pc, L, st) h = some ((q.1.1, L2, q.1.2.2), q.2) ∧ N_sub L2 q.1.2.1 ∧ N_nd q.1.2.1 := by
  unfold E_heap at e ⊢
  split at e
  all_goals first
    | (split at e
       · rename_i hd
         rw [if_pos hd]
         exact N_h3 hs nd (N_E_mna _ _ pc K L st q e)
       · cases e)
    | exact N_h1p e (fun p e => N_pure hs nd e)
    | exact N_h1 hs nd e (fun q e => N_E_bin _ _ pc K L st q e)
    | exact N_h1 hs nd e (fun q e => N_E_binN _ _ pc K L st q e)
    | exact N_h1 hs nd e (fun q e => N_E_binL _ _ pc K L st q e)
    | exact N_h1 hs nd e (fun q e => N_E_shL _ _ pc K L st q e)
    | exact N_h1 hs nd e (fun q e => N_E_push _ _ _ pc K L st q e)
    | exact N_h1 hs nd e (fun q e => N_E_un _ _ pc K L st q e)
    | exact N_h1 hs nd e (fun q e => N_E_unL _ _ pc K L st q e)
    | exact N_h1 hs nd e (fun q e => N_E_if _ _ _ pc K L st q e)
    | exact N_h1 hs nd e (fun q e => N_E_icmp _ _ _ pc K L st q e)
    | exact N_h1 hs nd e (fun q e => N_E_goto _ _ pc K L st q e)
    | exact N_h1 hs nd e (fun q e => N_E_dup _ pc K L st q e)
    | exact N_h1 hs nd e (fun q e => N_E_dup2 _ pc K L st q e)
    | exact N_h1 hs nd e (fun q e => N_E_pop _ pc K L st q e)
    | exact N_h1 hs nd e (fun q e => N_E_nul _ _ _ pc K L st q e)
    | exact N_h1 hs nd e (fun q e => N_E_tsw _ _ _ _ pc K L st q e)
    | exact N_h1 hs nd e (fun q e => N_E_lsw _ _ pc K L st q e)
    | exact N_h1 hs nd e (fun q e => N_E_getf _ _ _ _ pc K L st q e)
    | exact N_h1 hs nd e (fun q e => N_E_ald _ _ _ pc K L st q e)
    | exact N_h1 hs nd e (fun q e => N_E_lald _ _ pc K L st q e)
    | exact N_h1 hs nd e (fun q e => N_E_aald _ _ pc K L st q e)
    | exact N_h1 hs nd e (fun q e => N_E_alen _ _ pc K L st q e)
    | exact N_h1 hs nd e (fun q e => N_E_ldc _ _ _ _ pc K L st q e)
    | exact N_h1 hs nd e (fun q e => N_E_ldc2 _ _ _ pc K L st q e)
    | exact N_h1 hs nd e (fun q e => N_E_mm _ pc K L st q e)
    | exact N_h2 hs nd e (fun q e => N_E_putf _ _ _ _ _ _ pc K L st q e)
    | exact N_h2 hs nd e (fun q e => N_E_ast _ _ pc K L st q e)
    | exact N_h2 hs nd e (fun q e => N_E_bst _ _ pc K L st q e)
    | exact N_h2 hs nd e (fun q e => N_E_lst _ _ pc K L st q e)
    | exact N_h2 hs nd e (fun q e => N_E_aas _ _ pc K L st q e)
    | exact N_h1 hs nd e (fun q e => N_E_cst _ _ _ _ pc K L st q e)
    | exact N_h2 hs nd e (fun q e => N_E_new _ _ _ pc K L st q e)
    | exact N_h2 hs nd e (fun q e => N_E_copy _ _ pc K L st q e)
    | exact N_h3 hs nd (N_E_newa _ _ _ pc K L st q e)
    | exact N_h3 hs nd (N_E_newq _ _ _ pc K L st q e)
    | exact N_h3 hs nd (N_E_mna _ _ pc K L st q e)
theorem N_inv {o : E_orc} {kind a pc sl : Nat} {L K : E_L} {st : List Value} {h : E_H} {q : E_F × E_H × Nat} (hs : N_sub L K) (nd : N_nd K) (e : E_inv o kind a (pc, K, st) h sl = some q) : ∃ L2 : E_L, E_inv o kind a (pc, L, st) h sl = some ((q.1.1, L2, q.1.2.2), q.2) ∧ N_sub L2 q.1.2.1 ∧ N_nd q.1.2.1 := by
  unfold E_inv at e ⊢
  split at e
  · cases e
  · rename_i M hM
    try (rw [hM])
    try dsimp only
    split at e
    · cases e
    · rename_i vs rest hp
      have hp : E_pop2 (!M.2.2.2.2.2.1) M.2.2.2.2.2.2.1 st = some (vs, rest) := hp
      try (rw [hp]; dsimp only)
      split at e
      · rename_i hk
        try rw [if_pos hk]
        split at e
        · rename_i hc
          try rw [if_pos hc]
          split at e
          · cases e
          · rename_i r h2 s2 hq
            try (rw [hq])
            cases e
            exact ⟨L, rfl, hs, nd⟩
        · cases e
      · cases e

