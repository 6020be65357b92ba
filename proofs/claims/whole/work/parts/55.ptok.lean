/-! what holds of every tree that is read: operators, depth, how counts lie in each other, bytes -/
def A_ok : P_A → Prop
  | .at_ op => op = 2 ∨ op = 3 ∨ op = 4
  | .set _ => True
def C_ok (op lo hi : Int) : Prop := (op = 8 ∨ op = 9 ∨ op = 10) ∧ lo = 0 ∧ hi = 0 ∨ op = 11 ∧ 0 ≤ lo ∧ lo ≤ 20 ∧ (hi = -1 ∨ lo ≤ hi ∧ hi ≤ 20)
def T_wf : P_T → Prop
  | .emp => True
  | .atm A => A_ok A
  | .beh l r => T_wf l ∧ T_wf r
  | .or l r => T_wf l ∧ T_wf r
  | .cnt t op lo hi => T_wf t ∧ C_ok op lo hi
def T_dp : P_T → Nat
  | .emp => 1
  | .atm _ => 1
  | .beh l r => max (T_dp l) (1 + T_dp r)
  | .or l r => max (T_dp l) (1 + T_dp r)
  | .cnt t _ _ _ => T_dp t
def T_h : P_T → Nat
  | .emp => 0
  | .atm _ => 0
  | .beh l r => max (T_h l) (T_h r)
  | .or l r => max (T_h l) (T_h r)
  | .cnt t op _ _ => if op = 11 then T_h t + 1 else T_h t
/-- what a count's operator has of bytes at least -/
def C_by (op lo hi : Int) : Int := if op = 11 then (if hi = lo then (if lo < 10 then 3 else 4) else if hi = -1 then (if lo < 10 then 4 else 5) else if hi < 10 then 5 else 6) else 1
def T_by : P_T → Int
  | .emp => 0
  | .atm _ => 1
  | .beh l r => T_by l + T_by r
  | .or l r => T_by l + T_by r + 1
  | .cnt t op lo hi => T_by t + C_by op lo hi
theorem C_by_pos (op lo hi : Int) : 1 ≤ C_by op lo hi := by unfold C_by; repeat' split <;> omega
theorem T_by_pos (t : P_T) : 0 ≤ T_by t := by
  induction t with
  | emp => exact Int.le_refl 0
  | atm A => exact Int.zero_le_ofNat 1
  | beh l r h1 h2 => unfold T_by; omega
  | or l r h1 h2 => unfold T_by; omega
  | cnt t op lo hi h => unfold T_by; have := C_by_pos op lo hi; omega
theorem P_atom_ok {S : Int → Int} {fold : Prop} {a b : Int} {A : P_A} (h : P_atom S fold a = .ok A b) : A_ok A := by
  unfold P_atom P_esc at h
  split at h
  · cases h; exact .inl rfl
  · split at h
    · cases h; exact .inr (.inl rfl)
    · split at h
      · cases e : P_list S fold (a + 1) with
        | bad k w => rw [e] at h; cases h
        | ok B c => rw [e] at h; cases h; trivial
      · split at h
        · split at h
          · cases h; exact .inr (.inr rfl)
          · repeat' split at h
            all_goals first | (cases h; trivial) | cases h
        · split at h
          · cases h; trivial
          · split at h
            · cases h; trivial
            · cases h
theorem P_num_r {S : Int → Int} {a v b : Int} (h : P_num S a = .ok v b) : 0 ≤ v ∧ v ≤ 20 ∧ a < b ∧ (10 ≤ v → a + 2 ≤ b) := by
  unfold P_num at h
  split at h
  · rename_i hd
    unfold D_dig at hd
    split at h
    · rename_i hd2
      unfold D_dig at hd2
      split at h
      · cases h
      · injection h with h1 h2; omega
    · injection h with h1 h2; omega
  · cases h
theorem P_cnt_ok {S : Int → Int} {a b : Int} {e : Option (Int × Int × Int)} (h : P_cnt S a = .ok e b) : match e with
    | none => b = a
    | some q => C_ok q.1 q.2.1 q.2.2 ∧ a + C_by q.1 q.2.1 q.2.2 ≤ b := by
  unfold P_cnt at h
  split at h
  · cases h; exact ⟨.inl ⟨.inl rfl, rfl, rfl⟩, by unfold C_by; rw [if_neg (by decide)]; omega⟩
  · split at h
    · cases h; exact ⟨.inl ⟨.inr (.inl rfl), rfl, rfl⟩, by unfold C_by; rw [if_neg (by decide)]; omega⟩
    · split at h
      · cases h; exact ⟨.inl ⟨.inr (.inr rfl), rfl, rfl⟩, by unfold C_by; rw [if_neg (by decide)]; omega⟩
      · split at h
        · cases h; rfl
        · cases e1 : P_num S (a + 1) with
          | bad k w => rw [e1] at h; cases h
          | ok lo c =>
            rw [e1] at h
            have hl := P_num_r e1
            dsimp only at h
            split at h
            · split at h
              · cases h
                exact ⟨.inr ⟨rfl, by dsimp only; omega, by dsimp only; omega, .inl rfl⟩, by unfold C_by; dsimp only; rw [if_pos rfl, if_neg (by omega), if_pos rfl]; split <;> omega⟩
              · cases e2 : P_num S (c + 1) with
                | bad k w => rw [e2] at h; cases h
                | ok hi c2 =>
                  rw [e2] at h
                  have hl2 := P_num_r e2
                  dsimp only at h
                  split at h
                  · cases h
                  · split at h
                    · cases h
                      refine ⟨.inr ⟨rfl, by dsimp only; omega, by dsimp only; omega, .inr ⟨by dsimp only; omega, by dsimp only; omega⟩⟩, ?_⟩
                      unfold C_by
                      dsimp only
                      rw [if_pos rfl]
                      repeat' split <;> omega
                    · cases h
            · split at h
              · cases h
                refine ⟨.inr ⟨rfl, by dsimp only; omega, by dsimp only; omega, .inr ⟨by dsimp only; omega, by dsimp only; omega⟩⟩, ?_⟩
                unfold C_by
                dsimp only
                rw [if_pos rfl, if_pos rfl]
                split <;> omega
              · cases h
/-- a tree on the level j -/
structure T_ok (t : P_T) (dp h : Nat) : Prop where
  wf : T_wf t
  dp : T_dp t ≤ dp
  h : T_h t ≤ h
def O_ok (o : Option P_T) (dp h : Nat) : Prop := match o with | none => True | some t => T_ok t dp h
def O_by (o : Option P_T) : Int := match o with | none => 0 | some t => T_by t + 1
def K_ok : P_K → Prop
  | [] => True
  | (o, c) :: st => T_ok c (22 - 2 * st.length) (11 - st.length) ∧ O_ok o (23 - 2 * st.length) (11 - st.length) ∧ st.length ≤ 10 ∧ K_ok st
def K_by : P_K → Int
  | [] => 0
  | (o, c) :: st => T_by c + O_by o + K_by st
theorem P_orj_ok {o : Option P_T} {c : P_T} {j : Nat} (hj : j ≤ 10) (h1 : O_ok o (23 - 2 * j) (11 - j)) (h2 : T_ok c (22 - 2 * j) (11 - j)) : T_ok (P_orj o c) (23 - 2 * j) (11 - j) ∧ T_by (P_orj o c) = T_by c + O_by o := by
  cases o with
  | none => exact ⟨⟨h2.wf, by have := h2.dp; show T_dp c ≤ _; omega, h2.h⟩, by show T_by c = _; unfold O_by; dsimp only; omega⟩
  | some t =>
    have h1 : T_ok t (23 - 2 * j) (11 - j) := h1
    refine ⟨⟨⟨h1.wf, h2.wf⟩, ?_, ?_⟩, by show T_by t + T_by c + 1 = _; unfold O_by; dsimp only; omega⟩
    · show max (T_dp t) (1 + T_dp c) ≤ _
      have := h1.dp
      have := h2.dp
      omega
    · show max (T_h t) (T_h c) ≤ _
      have := h1.h
      have := h2.h
      omega
/-- a count's tree: what is counted lies one level deeper -/
theorem P_tail_ok {S : Int → Int} {t c : P_T} {o : Option P_T} {a b : Int} {st st2 : P_K} (hj : st.length ≤ 10) (ht : T_ok t (21 - 2 * st.length) (10 - st.length)) (hk : K_ok ((o, c) :: st)) (h : P_tail S t a o c st = .go b st2) : K_ok st2 ∧ K_by st2 + a ≤ K_by ((o, c) :: st) + T_by t + b ∧ a ≤ b ∧ st2 ≠ [] := by
  unfold P_tail at h
  cases e : P_cnt S a with
  | bad k w => rw [e] at h; cases h
  | ok x b2 =>
    rw [e] at h
    injection h with h1 h2
    subst h1
    subst h2
    have hc := P_cnt_ok e
    obtain ⟨k1, k2, k3, k4⟩ := hk
    have wt := ht.wf
    have dt := ht.dp
    have ht2 := ht.h
    have dc := k1.dp
    have hc2 := k1.h
    cases x with
    | none =>
      have hc : b2 = a := hc
      refine ⟨⟨⟨⟨k1.wf, wt⟩, ?_, ?_⟩, k2, k3, k4⟩, ?_, by omega, by simp⟩
      · show max (T_dp c) (1 + T_dp t) ≤ _; omega
      · show max (T_h c) (T_h t) ≤ _; omega
      · show (T_by c + T_by t) + O_by o + K_by st + a ≤ (T_by c + O_by o + K_by st) + T_by t + b2; omega
    | some q =>
      obtain ⟨hc1, hc2⟩ := (hc : _ ∧ _)
      have hp := C_by_pos q.1 q.2.1 q.2.2
      refine ⟨⟨⟨⟨k1.wf, wt, hc1⟩, ?_, ?_⟩, k2, k3, k4⟩, ?_, by omega, by simp⟩
      · show max (T_dp c) (1 + T_dp t) ≤ _; omega
      · show max (T_h c) (if q.1 = 11 then T_h t + 1 else T_h t) ≤ _
        split <;> omega
      · show (T_by c + (T_by t + C_by q.1 q.2.1 q.2.2)) + O_by o + K_by st + a ≤ (T_by c + O_by o + K_by st) + T_by t + b2; omega
theorem P_step_ok {S : Int → Int} {n : Int} (hn : ∀ k, n ≤ k → S k = -1) (n0 : n ≤ 80) {fold : Prop} {a b : Int} {o : Option P_T} {c : P_T} {st st2 : P_K} (a0 : 0 ≤ a) (a1 : a ≤ n) (hk : K_ok ((o, c) :: st)) (h : P_step S fold a ((o, c) :: st) = .go b st2) : K_ok st2 ∧ K_by st2 + a ≤ K_by ((o, c) :: st) + b ∧ a < b ∧ st2 ≠ [] ∧ b ≤ n := by
  have h0 := hn a
  have hb : ∀ {t : P_T} {o2 : Option P_T} {c2 : P_T} {r : P_K} {x : Int}, x ≤ n → P_tail S t x o2 c2 r = .go b st2 → b ≤ n := by
    intro t o2 c2 r x hx hq
    unfold P_tail at hq
    cases e : P_cnt S x with
    | bad k w => rw [e] at hq; cases hq
    | ok y b2 =>
      rw [e] at hq
      injection hq with q1 q2
      have := (D_cnt_P hn x 0 0 hx).1 rfl
      rw [e] at this
      have h3 := (D_cnt_n hn x 0 0 hx).2.1
      have := this.2.1
      omega
  unfold P_step at h
  dsimp only at h
  obtain ⟨k1, k2, k3, k4⟩ := id hk
  split at h
  · split at h <;> cases h
  · rename_i d1
    have an : a < n := by omega
    split at h
    · injection h with h1 h2
      subst h1
      subst h2
      obtain ⟨x1, x2⟩ := P_orj_ok k3 k2 k1
      refine ⟨⟨⟨trivial, ?_, Nat.zero_le _⟩, x1, k3, k4⟩, ?_, by omega, by simp, by omega⟩
      · show 1 ≤ 22 - 2 * st.length; omega
      · show 0 + (T_by (P_orj o c) + 1) + K_by st + a ≤ T_by c + O_by o + K_by st + (a + 1); omega
    · split at h
      · split at h
        · cases h
        · rename_i hl
          injection h with h1 h2
          subst h1
          subst h2
          refine ⟨⟨⟨trivial, ?_, Nat.zero_le _⟩, trivial, ?_, hk⟩, ?_, by omega, by simp, by omega⟩
          · simp only [List.length_cons]; show 1 ≤ _; omega
          · simp only [List.length_cons]; omega
          · show 0 + 0 + K_by ((o, c) :: st) + a ≤ K_by ((o, c) :: st) + (a + 1); omega
      · split at h
        · cases st with
          | nil => cases h
          | cons q r =>
            obtain ⟨o2, c2⟩ := q
            dsimp only at h
            simp only [List.length_cons] at k1 k2 k3
            obtain ⟨x1, x2⟩ := P_orj_ok k3 k2 k1
            have x3 : T_ok (P_orj o c) (21 - 2 * r.length) (10 - r.length) := ⟨x1.wf, by have := x1.dp; omega, by have := x1.h; omega⟩
            obtain ⟨y1, y2, y3, y4⟩ := P_tail_ok (by omega) x3 k4 h
            refine ⟨y1, ?_, by omega, y4, hb (by omega) h⟩
            have : K_by ((o, c) :: (o2, c2) :: r) = T_by c + O_by o + K_by ((o2, c2) :: r) := rfl
            omega
        · cases e : P_atom S fold a with
          | bad k w => rw [e] at h; cases h
          | ok A b2 =>
            rw [e] at h
            have hA := (D_atom_P hn n0 fold a 0 0 a0 an)
            have hA1 := hA.1.1 rfl
            rw [e] at hA1
            have hA2 := hA1.2.1
            have x3 : T_ok (.atm A) (21 - 2 * st.length) (10 - st.length) := ⟨P_atom_ok e, by show 1 ≤ _; omega, Nat.zero_le _⟩
            obtain ⟨y1, y2, y3, y4⟩ := P_tail_ok k3 x3 hk h
            refine ⟨y1, ?_, by omega, y4, hb (by omega) h⟩
            have : T_by (.atm A) = 1 := rfl
            omega
theorem P_run_ok {S : Int → Int} {n : Int} (hn : ∀ k, n ≤ k → S k = -1) (n0 : n ≤ 80) {fold : Prop} {t : P_T} {b : Int} : ∀ (f : Nat) (a : Int) (st : P_K), 0 ≤ a → a ≤ n → K_ok st → st ≠ [] → K_by st ≤ a → P_run S fold f a st = .ok t b → T_ok t 23 11 ∧ T_by t ≤ n := by
  intro f
  induction f with
  | zero => intro a st a0 a1 hk hs hb h; cases h
  | succ f ih =>
    intro a st a0 a1 hk hs hb h
    unfold P_run at h
    cases st with
    | nil => exact absurd rfl hs
    | cons q r =>
      obtain ⟨o, c⟩ := q
      cases e : P_step S fold a ((o, c) :: r) with
      | done =>
        rw [e] at h
        have := P_step_done e
        subst this
        dsimp only at h
        injection h with h1 h2
        subst h1
        obtain ⟨k1, k2, k3, k4⟩ := hk
        obtain ⟨x1, x2⟩ := P_orj_ok (j := 0) (by omega) k2 k1
        refine ⟨x1, ?_⟩
        have : K_by [(o, c)] = T_by c + O_by o + 0 := rfl
        omega
      | bad k w => rw [e] at h; cases h
      | go b2 st2 =>
        rw [e] at h
        obtain ⟨y1, y2, y3, y4, y5⟩ := P_step_ok hn n0 a0 a1 hk e
        exact ih b2 st2 (by omega) y5 y1 y4 (by omega) h
theorem P_reads_ok {S : Int → Int} {n : Int} (hn : ∀ k, n ≤ k → S k = -1) (n1 : 0 ≤ n) {fold : Prop} {t : P_T} {b : Int} (h : P_reads S fold n = .ok t b) : T_ok t 23 11 ∧ T_by t ≤ n ∧ n ≤ 80 := by
  unfold P_reads at h
  split at h
  · cases h
  · have := P_run_ok hn (by omega) 82 0 [(none, .emp)] (by omega) n1 ⟨⟨trivial, by show 1 ≤ 22; omega, Nat.zero_le _⟩, trivial, by show 0 ≤ 10; omega, trivial⟩ (by simp) (Int.le_refl 0) h
    exact ⟨this.1, this.2, by omega⟩
