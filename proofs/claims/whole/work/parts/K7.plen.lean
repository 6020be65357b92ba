/-! a regex read is short -/
def O_ln (o : Option P_T) : Nat := match o with | none => 0 | some t => t.length + 1
theorem P_orj_ln (o : Option P_T) (c : P_T) : (P_orj o c).length = c.length + O_ln o := by
  cases o with
  | none => rfl
  | some t =>
    show (t ++ c ++ [_]).length = c.length + (t.length + 1)
    rw [List.length_append, List.length_append, List.length_singleton]
    omega
def K_ln (st : P_K) : Nat := match st with
  | [] => 0
  | (o, c) :: st => c.length + O_ln o + K_ln st
theorem P_tail_ln {S : Int → Int} {t : P_T} {x b : Int} {o : Option P_T} {c : P_T} {r st2 : P_K} (h : P_tail S t x o c r = some (.inr (b, st2))) : K_ln st2 ≤ K_ln ((o, c) :: r) + t.length + 2 := by
  unfold P_tail at h
  cases e : P_cnt S x using P_R_el with
  | bad k w => rw [e] at h; cases h
  | ok y b2 =>
    rw [e] at h
    obtain ⟨h1, h2⟩ := P_M_inj h
    subst h2
    have q : (P_cnj t y).length ≤ t.length + 1 := by
      cases y with
      | none => exact Nat.le_succ _
      | some z => show (t ++ [_]).length ≤ _; rw [List.length_append, List.length_singleton]; omega
    show (c ++ P_cnj t y ++ [_]).length + O_ln o + K_ln r ≤ c.length + O_ln o + K_ln r + t.length + 2
    rw [List.length_append, List.length_append, List.length_singleton]
    omega
theorem P_step_ln {S : Int → Int} {fold : Prop} {a b : Int} {o : Option P_T} {c : P_T} {st st2 : P_K} (h : P_step S fold a ((o, c) :: st) = some (.inr (b, st2))) : K_ln st2 ≤ K_ln ((o, c) :: st) + 3 := by
  unfold P_step at h
  dsimp only at h
  split at h
  · split at h <;> cases h
  · split at h
    · obtain ⟨h1, h2⟩ := P_M_inj h
      subst h2
      show 1 + ((P_orj o c).length + 1) + K_ln st ≤ c.length + O_ln o + K_ln st + 3
      rw [P_orj_ln]
      omega
    · split at h
      · split at h
        · cases h
        · obtain ⟨h1, h2⟩ := P_M_inj h
          subst h2
          show 1 + 0 + K_ln ((o, c) :: st) ≤ _
          omega
      · split at h
        · cases st with
          | nil => cases h
          | cons q r =>
            obtain ⟨o2, c2⟩ := q
            dsimp only at h
            have := P_tail_ln h
            rw [P_orj_ln] at this
            show _ ≤ c.length + O_ln o + K_ln ((o2, c2) :: r) + 3
            omega
        · cases e : P_atom S fold a using P_R_el with
          | bad k w => rw [e] at h; cases h
          | ok A b2 =>
            rw [e] at h
            have := P_tail_ln h
            have q : (T_atm A).length = 1 := by cases A <;> rfl
            omega
theorem P_run_ln {S : Int → Int} {n : Int} (hn : ∀ k, n ≤ k → S k = -1) (n0 : n ≤ 80) {fold : Prop} {t : P_T} {b : Int} : ∀ (f : Nat) (a : Int) (st : P_K), 0 ≤ a → a ≤ n → K_ok st → st ≠ [] → (K_ln st : Int) ≤ 3 * a + 1 → P_run S fold f a st = .inr (t, b) → (t.length : Int) ≤ 3 * n + 1 := by
  intro f
  induction f with
  | zero => intro a st a0 a1 hk hs hb h; cases h
  | succ f ih =>
    intro a st a0 a1 hk hs hb h
    unfold P_run at h
    cases st with
    | nil => exact absurd rfl hs
    | cons q r =>
      obtain ⟨o, c⟩ := q
      cases e : P_step S fold a ((o, c) :: r) using P_M_el with
      | done =>
        rw [e] at h
        have := P_step_done e
        subst this
        dsimp only at h
        obtain ⟨h1, h2⟩ := P_R_inj h
        subst h1
        rw [P_orj_ln]
        have : K_ln [(o, c)] = c.length + O_ln o + 0 := rfl
        omega
      | bad k w => rw [e] at h; cases h
      | go b2 st2 =>
        rw [e] at h
        obtain ⟨y1, y2, y3, y4, y5⟩ := P_step_ok hn n0 a0 a1 hk e
        have := P_step_ln e
        exact ih b2 st2 (by omega) y5 y1 y4 (by omega) h
theorem P_reads_ln {S : Int → Int} {n : Int} (hn : ∀ k, n ≤ k → S k = -1) (n1 : 0 ≤ n) {fold : Prop} {t : P_T} {b : Int} (h : P_reads S fold n = .inr (t, b)) : (t.length : Int) ≤ 241 := by
  unfold P_reads at h
  split at h
  · cases h
  · have := P_run_ln hn (by omega) 82 0 [(none, T_emp)] (by omega) n1 ⟨⟨T_is.emp, by show 1 ≤ 22; omega, Nat.zero_le _⟩, trivial, by show 0 ≤ 10; omega, trivial⟩ (by simp) (Int.le_refl 1) h
    omega
theorem T_sets_by {t : P_T} (h : T_is t) : ((T_sets t).length : Int) ≤ T_by t := by
  refine T_ind (P := fun t => ((T_sets t).length : Int) ≤ T_by t) h ?_ ?_ ?_ ?_ ?_
  · exact Int.le_refl 0
  · intro A hA
    rw [T_by_atm hA]
    cases A with
    | inl op =>
      show ((if op = 1 then (fun _ => False) :: [] else [] : List (Int → Prop)).length : Int) ≤ 1
      split <;> decide
    | inr B => exact Int.le_refl 1
  · intro l r hl hr il ir
    rw [T_by_beh hl hr]
    unfold T_beh
    rw [T_sets_app, T_sets_app, T_sets_one (by decide), List.length_append, List.length_append, List.length_nil]
    omega
  · intro l r hl hr il ir
    rw [T_by_or hl hr]
    unfold T_or
    rw [T_sets_app, T_sets_app, T_sets_one (by decide), List.length_append, List.length_append, List.length_nil]
    omega
  · intro t op lo hi hc ht it
    rw [T_by_cnt hc ht]
    unfold T_cnt
    have := C_by_pos op lo hi
    rw [T_sets_app, T_sets_one (by have := hc; unfold T_cok at this; omega), List.length_append, List.length_nil]
    omega
theorem Zl_ex2 (x y : Int64) : ∃ z : Int, (if x.toInt < y.toInt then -1 else if x.toInt = y.toInt then 0 else 1) = z ∧ (z = 0 ↔ x = y) ∧ Zr z ∧ (z ≤ 0 ↔ x.toInt ≤ y.toInt) := by
  have h2 : x = y ↔ x.toInt = y.toInt := Int64.toInt_inj.symm
  by_cases c1 : x.toInt < y.toInt
  · exact ⟨-1, if_pos c1, ⟨fun e => by omega, fun e => by have := h2.mp e; omega⟩, ⟨by omega, by omega⟩, ⟨fun _ => by omega, fun _ => by omega⟩⟩
  · by_cases c2 : x.toInt = y.toInt
    · exact ⟨0, by rw [if_neg c1, if_pos c2], ⟨fun _ => h2.mpr c2, fun _ => rfl⟩, ⟨by omega, by omega⟩, ⟨fun _ => by omega, fun _ => by omega⟩⟩
    · exact ⟨1, by rw [if_neg c1, if_neg c2], ⟨fun e => by omega, fun e => absurd (h2.mp e) c2⟩, ⟨by omega, by omega⟩, ⟨fun _ => by omega, fun _ => by omega⟩⟩
