/-! locals may be forgotten: steps, runs -/
set_option maxHeartbeats 4000000 in
theorem N_step {o : E_orc} {M : E_MI} {pc sl : Nat} {L K : E_L} {st : List Value} {h : E_H} {q : (E_F × E_H × Nat) ⊕ E_R} (hs : N_sub L K) (nd : N_nd K) (e : E_step o M (pc, K, st) h sl = some q) : (∃ r, q = .inr r ∧ E_step o M (pc, L, st) h sl = some (.inr r)) ∨ (∃ (p : E_F × E_H × Nat) (L2 : E_L), q = .inl p ∧ E_step o M (pc, L, st) h sl = some (.inl ((p.1.1, L2, p.1.2.2), p.2)) ∧ N_sub L2 p.1.2.1 ∧ N_nd p.1.2.1) := by
  have hw : ∀ {x : Option (E_F × E_H × Nat)} {y : Option (E_F × E_H × Nat)}, (match x with | some q => some (Sum.inl q) | none => none : Option ((E_F × E_H × Nat) ⊕ E_R)) = some q → (∀ p, x = some p → ∃ L2 : E_L, y = some ((p.1.1, L2, p.1.2.2), p.2) ∧ N_sub L2 p.1.2.1 ∧ N_nd p.1.2.1) → (∃ (p : E_F × E_H × Nat) (L2 : E_L), q = .inl p ∧ (match y with | some q => some (Sum.inl q) | none => none : Option ((E_F × E_H × Nat) ⊕ E_R)) = some (.inl ((p.1.1, L2, p.1.2.2), p.2)) ∧ N_sub L2 p.1.2.1 ∧ N_nd p.1.2.1) := by
    intro x y e hx
    cases x with
    | none => cases e
    | some p =>
      cases e
      obtain ⟨L2, h1, h2, h3⟩ := hx p rfl
      subst h1
      exact ⟨p, L2, rfl, rfl, h2, h3⟩
  unfold E_step at e ⊢
  dsimp only at e ⊢
  split at e
  · cases e
  · rename_i ins len a b hf
    try (rw [hf]; dsimp only)
    cases ins
    case ireturn =>
      dsimp only at e ⊢
      refine .inl ?_
      split at e
      · split at e
        · rename_i hc
          cases e
          exact ⟨_, rfl, if_pos hc⟩
        · cases e
      · cases e
    case lreturn =>
      dsimp only at e ⊢
      refine .inl ?_
      split at e
      · split at e
        · rename_i hc
          cases e
          exact ⟨_, rfl, if_pos hc⟩
        · cases e
      · cases e
    case areturn =>
      dsimp only at e ⊢
      refine .inl ?_
      split at e
      all_goals first
        | (cases e; done)
        | (split at e
           · rename_i hc
             cases e
             exact ⟨_, rfl, if_pos hc⟩
           · cases e)
    case return_ =>
      dsimp only at e ⊢
      refine .inl ?_
      split at e
      · split at e
        · rename_i hc
          cases e
          exact ⟨_, rfl, if_pos hc⟩
        · cases e
      · cases e
    case invokestatic i =>
      dsimp only at e ⊢
      refine .inr ?_
      split at e
      · rename_i w
        try rw [if_pos w]
        split at e
        · rename_i w2
          try rw [if_pos w2]
          split at e
          · rename_i w3
            try rw [if_pos w3]
            split at e
            · rename_i f2 h2 hq
              cases e
              obtain ⟨h1, h3⟩ := N_E_copy _ _ pc K L st _ hq
              rw [h3]
              have h1 : f2.2.1 = K := h1
              exact ⟨_, L, rfl, rfl, by show N_sub L f2.2.1; rw [h1]; exact hs, by show N_nd f2.2.1; rw [h1]; exact nd⟩
            · cases e
          · cases e
        · rename_i w2
          try rw [if_neg w2]
          split at e
          · rename_i w3
            try rw [if_pos w3]
            split at e
            · rename_i w4
              try rw [if_pos w4]
              split at e
              · rename_i f2 hq
                cases e
                obtain ⟨h1, h3⟩ := N_E_mm _ pc K L st _ hq
                rw [h3]
                exact ⟨_, L, rfl, rfl, by show N_sub L f2.2.1; rw [h1]; exact hs, by show N_nd f2.2.1; rw [h1]; exact nd⟩
              · cases e
            · cases e
          · rename_i w3
            try rw [if_neg w3]
            exact hw e (fun p hp => N_inv hs nd hp)
      · cases e
    case invokevirtual i =>
      dsimp only at e ⊢
      refine .inr ?_
      split at e
      · rename_i w
        try rw [if_pos w]
        exact hw e (fun p hp => N_inv hs nd hp)
      · rename_i w
        try rw [if_neg w]
        split at e
        · rename_i f2 h2 n hq
          cases e
          obtain ⟨h1, h3⟩ := N_E_cln _ _ _ _ _ pc K L st _ hq
          rw [h3]
          have h1 : f2.2.1 = K := h1
          exact ⟨_, L, rfl, rfl, by show N_sub L f2.2.1; rw [h1]; exact hs, by show N_nd f2.2.1; rw [h1]; exact nd⟩
        · cases e
    case invokespecial i =>
      dsimp only at e ⊢
      refine .inr ?_
      split at e
      · rename_i w
        try rw [if_pos w]
        split at e
        · rename_i w2
          try rw [if_pos w2]
          rcases st with _ | ⟨v, st⟩
          · cases e
          cases v <;> first | (cases e; done) | skip
          dsimp only at e ⊢
          split at e
          · rename_i w3
            try rw [if_pos w3]
            cases e
            exact ⟨_, L, rfl, rfl, hs, nd⟩
          · cases e
        · rename_i w2
          try rw [if_neg w2]
          exact hw e (fun p hp => N_inv hs nd hp)
      · cases e
    all_goals
      dsimp only at e ⊢
      refine .inr ?_
      split at e
      · rename_i f2 h2 n hq
        cases e
        obtain ⟨L2, h1, h3, h4⟩ := N_heap hs nd hq
        rw [h1]
        exact ⟨_, L2, rfl, rfl, h3, h4⟩
      · cases e
theorem N_run {o : E_orc} {M : E_MI} : ∀ (n : Nat) {pc sl : Nat} {L K : E_L} {st : List Value} {h : E_H} {r : E_R}, N_sub L K → N_nd K → E_run o M n (pc, K, st) h sl = some r → E_run o M n (pc, L, st) h sl = some r := by
  intro n
  induction n with
  | zero => intro pc sl L K st h r hs nd e; cases e
  | succ n ih =>
    intro pc sl L K st h r hs nd e
    unfold E_run at e ⊢
    split at e
    · cases e
    · rename_i r2 hq
      rcases N_step hs nd hq with ⟨r3, h1, h2⟩ | ⟨p, L2, h1, h2, h3, h4⟩
      · injection h1 with h1
        rw [h2, ← h1]
        exact e
      · cases h1
    · rename_i f2 h2 s2 hq
      rcases N_step hs nd hq with ⟨r3, h1, h5⟩ | ⟨p, L2, h1, h5, h3, h4⟩
      · cases h1
      · injection h1 with h1
        subst h1
        rw [h5]
        exact ih h3 h4 e
/-- a run goes on from a frame of which less is known -/
theorem B_loc {d : Nat} {M : E_MI} {h : E_H} {sl pc : Nat} {L K : E_L} {st : List Value} {Φ : E_R → Prop} (hs : N_sub L K) (nd : N_nd K) (k : B_R d M (pc, K, st) h sl Φ) : B_R d M (pc, L, st) h sl Φ := by
  obtain ⟨m, n, r, e, q⟩ := k
  exact ⟨m, n, r, N_run n hs nd e, q⟩
/-- K's rows stand in L too -/
def N_all (L K : E_L) : Prop := match K with
  | [] => True
  | q :: t => E_lk L q.1 = some q.2 ∧ N_all L t
theorem N_all_sub {L K : E_L} (h : N_all L K) : N_sub L K := by
  intro i v e
  induction K with
  | nil => cases e
  | cons q t ih =>
    obtain ⟨h1, h2⟩ := h
    unfold E_lk at e
    split at e
    · rename_i c
      injection e with e
      rw [← c, ← e]
      exact h1
    · exact ih h2 e
