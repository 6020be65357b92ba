/-! what holds of every regex that is read: operators, depth, how counts lie in each other, bytes -/
def A_ok (A : P_A) : Prop := match A with
  | .inl op => op = 2 ∨ op = 3 ∨ op = 4
  | .inr _ => True
def T_cok (op lo hi : Int) : Prop := (op = 8 ∨ op = 9 ∨ op = 10) ∧ lo = 0 ∧ hi = 0 ∨ op = 11 ∧ 0 ≤ lo ∧ lo ≤ 20 ∧ (hi = -1 ∨ lo ≤ hi ∧ hi ≤ 20)
/-- a whole regex, and no list of operators else -/
def T_is (t : P_T) : Prop := ∀ P : P_T → Prop, P T_emp → (∀ A, A_ok A → P (T_atm A)) → (∀ l r, P l → P r → P (T_beh l r)) → (∀ l r, P l → P r → P (T_or l r)) → (∀ t op lo hi, T_cok op lo hi → P t → P (T_cnt t op lo hi)) → P t
theorem T_is.emp : T_is T_emp := fun _ a _ _ _ _ => a
theorem T_is.atm {A : P_A} (h : A_ok A) : T_is (T_atm A) := fun _ _ b _ _ _ => b A h
theorem T_is.beh {l r : P_T} (h1 : T_is l) (h2 : T_is r) : T_is (T_beh l r) := fun P a b c d e => c l r (h1 P a b c d e) (h2 P a b c d e)
theorem T_is.or {l r : P_T} (h1 : T_is l) (h2 : T_is r) : T_is (T_or l r) := fun P a b c d e => d l r (h1 P a b c d e) (h2 P a b c d e)
theorem T_is.cnt {t : P_T} {op lo hi : Int} (h : T_cok op lo hi) (h1 : T_is t) : T_is (T_cnt t op lo hi) := fun P a b c d e => e t op lo hi h (h1 P a b c d e)
/-- what holds of all of them -/
theorem T_ind {P : P_T → Prop} {t : P_T} (h : T_is t) (emp : P T_emp) (atm : ∀ A, A_ok A → P (T_atm A)) (beh : ∀ l r, T_is l → T_is r → P l → P r → P (T_beh l r)) (or : ∀ l r, T_is l → T_is r → P l → P r → P (T_or l r)) (cnt : ∀ t op lo hi, T_cok op lo hi → T_is t → P t → P (T_cnt t op lo hi)) : P t :=
  (h (fun t => T_is t ∧ P t) ⟨T_is.emp, emp⟩ (fun A hA => ⟨T_is.atm hA, atm A hA⟩) (fun l r h1 h2 => ⟨h1.1.beh h2.1, beh l r h1.1 h2.1 h1.2 h2.2⟩) (fun l r h1 h2 => ⟨h1.1.or h2.1, or l r h1.1 h2.1 h1.2 h2.2⟩) (fun t op lo hi hc h1 => ⟨T_is.cnt hc h1.1, cnt t op lo hi hc h1.1 h1.2⟩)).2
/-- values of regexes: of the empty one, of atoms, of two behind each other, of alternatives, of counts -/
abbrev T_alg (β : Type) : Type := β × (P_A → β) × (β → β → β) × (β → β → β) × (β → Int → Int → Int → β)
def T_do {β : Type} (g : T_alg β) (q : P_O) (st : List β) : List β :=
  if q.1 = 5 then g.1 :: st
  else if q.1 < 5 then g.2.1 (if q.1 = 1 then .inr q.2.2.2 else .inl q.1) :: st
  else if q.1 = 6 then (match st with | y :: x :: st => g.2.2.1 x y :: st | _ => st)
  else if q.1 = 7 then (match st with | y :: x :: st => g.2.2.2.1 x y :: st | _ => st)
  else (match st with | x :: st => g.2.2.2.2 x q.1 q.2.1 q.2.2.1 :: st | _ => st)
def T_fold {β : Type} (g : T_alg β) (t : P_T) (st : List β) : List β := match t with
  | [] => st
  | q :: t => T_fold g t (T_do g q st)
theorem T_fold_app {β : Type} (g : T_alg β) : ∀ (a b : P_T) (st : List β), T_fold g (a ++ b) st = T_fold g b (T_fold g a st)
  | [], _, _ => rfl
  | q :: a, b, st => T_fold_app g a b (T_do g q st)
/-- the value of a whole regex -/
def T_ev {β : Type} (g : T_alg β) (t : P_T) : β := match T_fold g t [] with
  | x :: _ => x
  | [] => g.1
theorem T_fold_is {β : Type} (g : T_alg β) {t : P_T} (h : T_is t) : ∃ v, ∀ st, T_fold g t st = v :: st := by
  refine T_ind (P := fun t => ∃ v, ∀ st, T_fold g t st = v :: st) h ?_ ?_ ?_ ?_ ?_
  · exact ⟨g.1, fun st => rfl⟩
  · intro A hA
    cases A with
    | inl op =>
      refine ⟨g.2.1 (.inl op), fun st => ?_⟩
      have hA : op = 2 ∨ op = 3 ∨ op = 4 := hA
      rcases hA with rfl | rfl | rfl <;> rfl
    | inr B => exact ⟨g.2.1 (.inr B), fun st => rfl⟩
  · rintro l r _ _ ⟨x, hx⟩ ⟨y, hy⟩
    refine ⟨g.2.2.1 x y, fun st => ?_⟩
    unfold T_beh
    rw [T_fold_app, T_fold_app, hx, hy]
    rfl
  · rintro l r _ _ ⟨x, hx⟩ ⟨y, hy⟩
    refine ⟨g.2.2.2.1 x y, fun st => ?_⟩
    unfold T_or
    rw [T_fold_app, T_fold_app, hx, hy]
    rfl
  · rintro t op lo hi hc _ ⟨x, hx⟩
    refine ⟨g.2.2.2.2 x op lo hi, fun st => ?_⟩
    unfold T_cnt
    rw [T_fold_app, hx]
    show T_do g _ (x :: st) = _
    have : op = 8 ∨ op = 9 ∨ op = 10 ∨ op = 11 := by unfold T_cok at hc; omega
    rcases this with rfl | rfl | rfl | rfl <;> rfl
theorem T_fold_ev {β : Type} (g : T_alg β) {t : P_T} (h : T_is t) (st : List β) : T_fold g t st = T_ev g t :: st := by
  obtain ⟨v, hv⟩ := T_fold_is g h
  have : T_ev g t = v := by unfold T_ev; rw [hv]
  rw [this, hv]
theorem T_ev_emp {β : Type} (g : T_alg β) : T_ev g T_emp = g.1 := rfl
theorem T_ev_atm {β : Type} (g : T_alg β) {A : P_A} (h : A_ok A) : T_ev g (T_atm A) = g.2.1 A := by
  cases A with
  | inl op =>
    have h : op = 2 ∨ op = 3 ∨ op = 4 := h
    rcases h with rfl | rfl | rfl <;> rfl
  | inr B => rfl
theorem T_ev_beh {β : Type} (g : T_alg β) {l r : P_T} (h1 : T_is l) (h2 : T_is r) : T_ev g (T_beh l r) = g.2.2.1 (T_ev g l) (T_ev g r) := by
  show (match T_fold g (T_beh l r) [] with | x :: _ => x | [] => g.1) = _
  unfold T_beh
  rw [T_fold_app, T_fold_app, T_fold_ev g h1, T_fold_ev g h2]
  rfl
theorem T_ev_or {β : Type} (g : T_alg β) {l r : P_T} (h1 : T_is l) (h2 : T_is r) : T_ev g (T_or l r) = g.2.2.2.1 (T_ev g l) (T_ev g r) := by
  show (match T_fold g (T_or l r) [] with | x :: _ => x | [] => g.1) = _
  unfold T_or
  rw [T_fold_app, T_fold_app, T_fold_ev g h1, T_fold_ev g h2]
  rfl
theorem T_ev_cnt {β : Type} (g : T_alg β) {t : P_T} {op lo hi : Int} (hc : T_cok op lo hi) (h1 : T_is t) : T_ev g (T_cnt t op lo hi) = g.2.2.2.2 (T_ev g t) op lo hi := by
  show (match T_fold g (T_cnt t op lo hi) [] with | x :: _ => x | [] => g.1) = _
  unfold T_cnt
  rw [T_fold_app, T_fold_ev g h1]
  have : op = 8 ∨ op = 9 ∨ op = 10 ∨ op = 11 := by unfold T_cok at hc; omega
  rcases this with rfl | rfl | rfl | rfl <;> rfl
def T_dp (t : P_T) : Nat := T_ev (1, (fun _ => 1), (fun x y => max x (1 + y)), (fun x y => max x (1 + y)), (fun x _ _ _ => x)) t
def T_h (t : P_T) : Nat := T_ev (0, (fun _ => 0), (fun x y => max x y), (fun x y => max x y), (fun x op _ _ => if op = 11 then x + 1 else x)) t
/-- what a count's operator has of bytes at least -/
def C_by (op lo hi : Int) : Int := if op = 11 then (if hi = lo then (if lo < 10 then 3 else 4) else if hi = -1 then (if lo < 10 then 4 else 5) else if hi < 10 then 5 else 6) else 1
def T_by (t : P_T) : Int := T_ev (0, (fun _ => 1), (fun x y => x + y), (fun x y => x + y + 1), (fun x op lo hi => x + C_by op lo hi)) t
theorem T_dp_emp : T_dp T_emp = 1 := rfl
theorem T_dp_atm {A : P_A} (h : A_ok A) : T_dp (T_atm A) = 1 := T_ev_atm _ h
theorem T_dp_beh {l r : P_T} (h1 : T_is l) (h2 : T_is r) : T_dp (T_beh l r) = max (T_dp l) (1 + T_dp r) := T_ev_beh _ h1 h2
theorem T_dp_or {l r : P_T} (h1 : T_is l) (h2 : T_is r) : T_dp (T_or l r) = max (T_dp l) (1 + T_dp r) := T_ev_or _ h1 h2
theorem T_dp_cnt {t : P_T} {op lo hi : Int} (hc : T_cok op lo hi) (h1 : T_is t) : T_dp (T_cnt t op lo hi) = T_dp t := T_ev_cnt _ hc h1
theorem T_h_emp : T_h T_emp = 0 := rfl
theorem T_h_atm {A : P_A} (h : A_ok A) : T_h (T_atm A) = 0 := T_ev_atm _ h
theorem T_h_beh {l r : P_T} (h1 : T_is l) (h2 : T_is r) : T_h (T_beh l r) = max (T_h l) (T_h r) := T_ev_beh _ h1 h2
theorem T_h_or {l r : P_T} (h1 : T_is l) (h2 : T_is r) : T_h (T_or l r) = max (T_h l) (T_h r) := T_ev_or _ h1 h2
theorem T_h_cnt {t : P_T} {op lo hi : Int} (hc : T_cok op lo hi) (h1 : T_is t) : T_h (T_cnt t op lo hi) = if op = 11 then T_h t + 1 else T_h t := T_ev_cnt _ hc h1
theorem T_by_emp : T_by T_emp = 0 := rfl
theorem T_by_atm {A : P_A} (h : A_ok A) : T_by (T_atm A) = 1 := T_ev_atm _ h
theorem T_by_beh {l r : P_T} (h1 : T_is l) (h2 : T_is r) : T_by (T_beh l r) = T_by l + T_by r := T_ev_beh _ h1 h2
theorem T_by_or {l r : P_T} (h1 : T_is l) (h2 : T_is r) : T_by (T_or l r) = T_by l + T_by r + 1 := T_ev_or _ h1 h2
theorem T_by_cnt {t : P_T} {op lo hi : Int} (hc : T_cok op lo hi) (h1 : T_is t) : T_by (T_cnt t op lo hi) = T_by t + C_by op lo hi := T_ev_cnt _ hc h1
theorem C_by_pos (op lo hi : Int) : 1 ≤ C_by op lo hi := by unfold C_by; repeat' split <;> omega
theorem T_by_pos {t : P_T} (h : T_is t) : 0 ≤ T_by t := by
  refine T_ind (P := fun t => 0 ≤ T_by t) h ?_ ?_ ?_ ?_ ?_
  · exact Int.le_refl 0
  · intro A hA; show 0 ≤ T_by _; rw [T_by_atm hA]; omega
  · intro l r h1 h2 a b; show 0 ≤ T_by _; rw [T_by_beh h1 h2]; exact Int.add_nonneg a b
  · intro l r h1 h2 a b; show 0 ≤ T_by _; rw [T_by_or h1 h2]; have := Int.add_nonneg a b; omega
  · intro t op lo hi hc h1 a; show 0 ≤ T_by _; rw [T_by_cnt hc h1]; have := C_by_pos op lo hi; exact Int.add_nonneg a (by omega)
theorem T_dp_pos {t : P_T} (h : T_is t) : 1 ≤ T_dp t := by
  refine T_ind (P := fun t => 1 ≤ T_dp t) h ?_ ?_ ?_ ?_ ?_
  · exact Nat.le_refl 1
  · intro A hA; show 1 ≤ T_dp _; rw [T_dp_atm hA]; exact Nat.le_refl 1
  · intro l r h1 h2 a b; show 1 ≤ T_dp _; rw [T_dp_beh h1 h2]; omega
  · intro l r h1 h2 a b; show 1 ≤ T_dp _; rw [T_dp_or h1 h2]; omega
  · intro t op lo hi hc h1 a; show 1 ≤ T_dp _; rw [T_dp_cnt hc h1]; exact a
theorem P_atom_ok {S : Int → Int} {fold : Prop} {a b : Int} {A : P_A} (h : P_atom S fold a = .inr (A, b)) : A_ok A := by
  unfold P_atom P_esc at h
  split at h
  · cases h; exact .inl rfl
  · split at h
    · cases h; exact .inr (.inl rfl)
    · split at h
      · cases e : P_list S fold (a + 1) using P_R_el with
        | bad k w => rw [e] at h; cases h
        | ok B c => rw [e] at h; cases h; trivial
      · split at h
        · split at h
          · cases h; exact .inr (.inr rfl)
          · repeat' split at h
            all_goals first | (cases h; trivial) | cases h
        · split at h
          · cases h; trivial
          · split at h
            · cases h; trivial
            · cases h
theorem P_num_r {S : Int → Int} {a v b : Int} (h : P_num S a = .inr (v, b)) : 0 ≤ v ∧ v ≤ 20 ∧ a < b ∧ (10 ≤ v → a + 2 ≤ b) := by
  unfold P_num at h
  split at h
  · rename_i hd
    unfold D_dig at hd
    split at h
    · rename_i hd2
      unfold D_dig at hd2
      split at h
      · cases h
      · obtain ⟨h1, h2⟩ := P_R_inj h; omega
    · obtain ⟨h1, h2⟩ := P_R_inj h; omega
  · cases h
theorem P_cnt_ok {S : Int → Int} {a b : Int} {e : Option (Int × Int × Int)} (h : P_cnt S a = .inr (e, b)) : match e with
    | none => b = a
    | some q => T_cok q.1 q.2.1 q.2.2 ∧ a + C_by q.1 q.2.1 q.2.2 ≤ b := by
  unfold P_cnt at h
  split at h
  · cases h; exact ⟨.inl ⟨.inl rfl, rfl, rfl⟩, by unfold C_by; rw [if_neg (by decide)]; omega⟩
  · split at h
    · cases h; exact ⟨.inl ⟨.inr (.inl rfl), rfl, rfl⟩, by unfold C_by; rw [if_neg (by decide)]; omega⟩
    · split at h
      · cases h; exact ⟨.inl ⟨.inr (.inr rfl), rfl, rfl⟩, by unfold C_by; rw [if_neg (by decide)]; omega⟩
      · split at h
        · cases h; rfl
        · cases e1 : P_num S (a + 1) using P_R_el with
          | bad k w => rw [e1] at h; cases h
          | ok lo c =>
            rw [e1] at h
            have hl := P_num_r e1
            dsimp only at h
            split at h
            · split at h
              · cases h
                exact ⟨.inr ⟨rfl, by dsimp only; omega, by dsimp only; omega, .inl rfl⟩, by unfold C_by; dsimp only; rw [if_pos rfl, if_neg (by omega), if_pos rfl]; split <;> omega⟩
              · cases e2 : P_num S (c + 1) using P_R_el with
                | bad k w => rw [e2] at h; cases h
                | ok hi c2 =>
                  rw [e2] at h
                  have hl2 := P_num_r e2
                  dsimp only at h
                  split at h
                  · cases h
                  · split at h
                    · cases h
                      refine ⟨.inr ⟨rfl, by dsimp only; omega, by dsimp only; omega, .inr ⟨by dsimp only; omega, by dsimp only; omega⟩⟩, ?_⟩
                      unfold C_by
                      dsimp only
                      rw [if_pos rfl]
                      repeat' split <;> omega
                    · cases h
            · split at h
              · cases h
                refine ⟨.inr ⟨rfl, by dsimp only; omega, by dsimp only; omega, .inr ⟨by dsimp only; omega, by dsimp only; omega⟩⟩, ?_⟩
                unfold C_by
                dsimp only
                rw [if_pos rfl, if_pos rfl]
                split <;> omega
              · cases h
/-- a tree on the level j -/
def T_ok (t : P_T) (dp hh : Nat) : Prop := (T_is t) ∧ (T_dp t ≤ dp) ∧ (T_h t ≤ hh)
theorem T_ok.wf {t : P_T} {dp hh : Nat} (h : T_ok t dp hh) : T_is t := h.1
theorem T_ok.dp {t : P_T} {dp hh : Nat} (h : T_ok t dp hh) : T_dp t ≤ dp := h.2.1
theorem T_ok.h {t : P_T} {dp hh : Nat} (h : T_ok t dp hh) : T_h t ≤ hh := h.2.2
def O_ok (o : Option P_T) (dp h : Nat) : Prop := match o with
  | none => True
  | some t => T_ok t dp h
def O_by (o : Option P_T) : Int := match o with | none => 0 | some t => T_by t + 1
def K_ok (st : P_K) : Prop := match st with
  | [] => True
  | (o, c) :: st => T_ok c (22 - 2 * st.length) (11 - st.length) ∧ O_ok o (23 - 2 * st.length) (11 - st.length) ∧ st.length ≤ 10 ∧ K_ok st
def K_by (st : P_K) : Int := match st with
  | [] => 0
  | (o, c) :: st => T_by c + O_by o + K_by st
theorem P_orj_ok {o : Option P_T} {c : P_T} {j : Nat} (hj : j ≤ 10) (h1 : O_ok o (23 - 2 * j) (11 - j)) (h2 : T_ok c (22 - 2 * j) (11 - j)) : T_ok (P_orj o c) (23 - 2 * j) (11 - j) ∧ T_by (P_orj o c) = T_by c + O_by o := by
  cases o with
  | none => exact ⟨⟨h2.wf, by have := h2.dp; show T_dp c ≤ _; omega, h2.h⟩, by show T_by c = _; unfold O_by; dsimp only; omega⟩
  | some t =>
    have h1 : T_ok t (23 - 2 * j) (11 - j) := h1
    refine ⟨⟨h1.wf.or h2.wf, ?_, ?_⟩, by show T_by (T_or t c) = _; rw [T_by_or h1.wf h2.wf]; unfold O_by; dsimp only; omega⟩
    · show T_dp (T_or t c) ≤ _
      rw [T_dp_or h1.wf h2.wf]
      have := h1.dp
      have := h2.dp
      omega
    · show T_h (T_or t c) ≤ _
      rw [T_h_or h1.wf h2.wf]
      have := h1.h
      have := h2.h
      omega
/-- a count's regex: what is counted lies one level deeper -/
theorem P_tail_ok {S : Int → Int} {t c : P_T} {o : Option P_T} {a b : Int} {st st2 : P_K} (hj : st.length ≤ 10) (ht : T_ok t (21 - 2 * st.length) (10 - st.length)) (hk : K_ok ((o, c) :: st)) (h : P_tail S t a o c st = some (.inr (b, st2))) : K_ok st2 ∧ K_by st2 + a ≤ K_by ((o, c) :: st) + T_by t + b ∧ a ≤ b ∧ st2 ≠ [] := by
  unfold P_tail at h
  cases e : P_cnt S a using P_R_el with
  | bad k w => rw [e] at h; cases h
  | ok x b2 =>
    rw [e] at h
    obtain ⟨h1, h2⟩ := P_M_inj h
    subst h1
    subst h2
    have hc := P_cnt_ok e
    obtain ⟨k1, k2, k3, k4⟩ := hk
    have wt := ht.wf
    have dt := ht.dp
    have ht2 := ht.h
    have dc := k1.dp
    have hc2 := k1.h
    cases x with
    | none =>
      have hc : b2 = a := hc
      refine ⟨⟨⟨k1.wf.beh wt, ?_, ?_⟩, k2, k3, k4⟩, ?_, by omega, by simp⟩
      · show T_dp (T_beh c t) ≤ _; rw [T_dp_beh k1.wf wt]; omega
      · show T_h (T_beh c t) ≤ _; rw [T_h_beh k1.wf wt]; omega
      · show T_by (T_beh c t) + O_by o + K_by st + a ≤ (T_by c + O_by o + K_by st) + T_by t + b2; rw [T_by_beh k1.wf wt]; omega
    | some q =>
      obtain ⟨hc1, hc2⟩ := (hc : _ ∧ _)
      have hp := C_by_pos q.1 q.2.1 q.2.2
      have wq := T_is.cnt hc1 wt
      refine ⟨⟨⟨k1.wf.beh wq, ?_, ?_⟩, k2, k3, k4⟩, ?_, by omega, by simp⟩
      · show T_dp (T_beh c (T_cnt t q.1 q.2.1 q.2.2)) ≤ _; rw [T_dp_beh k1.wf wq, T_dp_cnt hc1 wt]; omega
      · show T_h (T_beh c (T_cnt t q.1 q.2.1 q.2.2)) ≤ _
        rw [T_h_beh k1.wf wq, T_h_cnt hc1 wt]
        split <;> omega
      · show T_by (T_beh c (T_cnt t q.1 q.2.1 q.2.2)) + O_by o + K_by st + a ≤ (T_by c + O_by o + K_by st) + T_by t + b2; rw [T_by_beh k1.wf wq, T_by_cnt hc1 wt]; omega
theorem P_step_ok {S : Int → Int} {n : Int} (hn : ∀ k, n ≤ k → S k = -1) (n0 : n ≤ 80) {fold : Prop} {a b : Int} {o : Option P_T} {c : P_T} {st st2 : P_K} (a0 : 0 ≤ a) (a1 : a ≤ n) (hk : K_ok ((o, c) :: st)) (h : P_step S fold a ((o, c) :: st) = some (.inr (b, st2))) : K_ok st2 ∧ K_by st2 + a ≤ K_by ((o, c) :: st) + b ∧ a < b ∧ st2 ≠ [] ∧ b ≤ n := by
  have h0 := hn a
  have hb : ∀ {t : P_T} {o2 : Option P_T} {c2 : P_T} {r : P_K} {x : Int}, x ≤ n → P_tail S t x o2 c2 r = some (.inr (b, st2)) → b ≤ n := by
    intro t o2 c2 r x hx hq
    unfold P_tail at hq
    cases e : P_cnt S x using P_R_el with
    | bad k w => rw [e] at hq; cases hq
    | ok y b2 =>
      rw [e] at hq
      obtain ⟨q1, q2⟩ := P_M_inj hq
      have := (D_cnt_P hn x 0 0 hx).1 rfl
      rw [e] at this
      have h3 := (D_cnt_n hn x 0 0 hx).2.1
      have := this.2.1
      omega
  unfold P_step at h
  dsimp only at h
  obtain ⟨k1, k2, k3, k4⟩ := id hk
  split at h
  · split at h <;> cases h
  · rename_i d1
    have an : a < n := by omega
    split at h
    · obtain ⟨h1, h2⟩ := P_M_inj h
      subst h1
      subst h2
      obtain ⟨x1, x2⟩ := P_orj_ok k3 k2 k1
      refine ⟨⟨⟨T_is.emp, ?_, Nat.zero_le _⟩, x1, k3, k4⟩, ?_, by omega, by simp, by omega⟩
      · show 1 ≤ 22 - 2 * st.length; omega
      · show 0 + (T_by (P_orj o c) + 1) + K_by st + a ≤ T_by c + O_by o + K_by st + (a + 1); omega
    · split at h
      · split at h
        · cases h
        · rename_i hl
          obtain ⟨h1, h2⟩ := P_M_inj h
          subst h1
          subst h2
          refine ⟨⟨⟨T_is.emp, ?_, Nat.zero_le _⟩, trivial, ?_, hk⟩, ?_, by omega, by simp, by omega⟩
          · simp only [List.length_cons]; show 1 ≤ _; omega
          · simp only [List.length_cons]; omega
          · show 0 + 0 + K_by ((o, c) :: st) + a ≤ K_by ((o, c) :: st) + (a + 1); omega
      · split at h
        · cases st with
          | nil => cases h
          | cons q r =>
            obtain ⟨o2, c2⟩ := q
            dsimp only at h
            simp only [List.length_cons] at k1 k2 k3
            obtain ⟨x1, x2⟩ := P_orj_ok k3 k2 k1
            have x3 : T_ok (P_orj o c) (21 - 2 * r.length) (10 - r.length) := ⟨x1.wf, by have := x1.dp; omega, by have := x1.h; omega⟩
            obtain ⟨y1, y2, y3, y4⟩ := P_tail_ok (by omega) x3 k4 h
            refine ⟨y1, ?_, by omega, y4, hb (by omega) h⟩
            have : K_by ((o, c) :: (o2, c2) :: r) = T_by c + O_by o + K_by ((o2, c2) :: r) := rfl
            omega
        · cases e : P_atom S fold a using P_R_el with
          | bad k w => rw [e] at h; cases h
          | ok A b2 =>
            rw [e] at h
            have hA := (D_atom_P hn n0 fold a 0 0 a0 an)
            have hA1 := hA.1.1 rfl
            rw [e] at hA1
            have hA2 := hA1.2.1
            have x3 : T_ok (T_atm A) (21 - 2 * st.length) (10 - st.length) := ⟨T_is.atm (P_atom_ok e), by rw [T_dp_atm (P_atom_ok e)]; omega, by rw [T_h_atm (P_atom_ok e)]; omega⟩
            obtain ⟨y1, y2, y3, y4⟩ := P_tail_ok k3 x3 hk h
            refine ⟨y1, ?_, by omega, y4, hb (by omega) h⟩
            have : T_by (T_atm A) = 1 := T_by_atm (P_atom_ok e)
            omega
theorem P_run_ok {S : Int → Int} {n : Int} (hn : ∀ k, n ≤ k → S k = -1) (n0 : n ≤ 80) {fold : Prop} {t : P_T} {b : Int} : ∀ (f : Nat) (a : Int) (st : P_K), 0 ≤ a → a ≤ n → K_ok st → st ≠ [] → K_by st ≤ a → P_run S fold f a st = .inr (t, b) → T_ok t 23 11 ∧ T_by t ≤ n := by
  intro f
  induction f with
  | zero => intro a st a0 a1 hk hs hb h; cases h
  | succ f ih =>
    intro a st a0 a1 hk hs hb h
    unfold P_run at h
    cases st with
    | nil => exact absurd rfl hs
    | cons q r =>
      obtain ⟨o, c⟩ := q
      cases e : P_step S fold a ((o, c) :: r) using P_M_el with
      | done =>
        rw [e] at h
        have := P_step_done e
        subst this
        dsimp only at h
        obtain ⟨h1, h2⟩ := P_R_inj h
        subst h1
        obtain ⟨k1, k2, k3, k4⟩ := hk
        obtain ⟨x1, x2⟩ := P_orj_ok (j := 0) (by omega) k2 k1
        refine ⟨x1, ?_⟩
        have : K_by [(o, c)] = T_by c + O_by o + 0 := rfl
        omega
      | bad k w => rw [e] at h; cases h
      | go b2 st2 =>
        rw [e] at h
        obtain ⟨y1, y2, y3, y4, y5⟩ := P_step_ok hn n0 a0 a1 hk e
        exact ih b2 st2 (by omega) y5 y1 y4 (by omega) h
theorem P_reads_ok {S : Int → Int} {n : Int} (hn : ∀ k, n ≤ k → S k = -1) (n1 : 0 ≤ n) {fold : Prop} {t : P_T} {b : Int} (h : P_reads S fold n = .inr (t, b)) : T_ok t 23 11 ∧ T_by t ≤ n ∧ n ≤ 80 := by
  unfold P_reads at h
  split at h
  · cases h
  · have := P_run_ok hn (by omega) 82 0 [(none, T_emp)] (by omega) n1 ⟨⟨T_is.emp, by show 1 ≤ 22; omega, Nat.zero_le _⟩, trivial, by show 0 ≤ 10; omega, trivial⟩ (by simp) (Int.le_refl 0) h
    exact ⟨this.1, this.2, by omega⟩
