/-! the reference: the reading of a regex, small methods -/
/-- what stands at k in the tape -/
def D_see (s : R_S) (k : Int) : Int := if k < s.1 1 then s.2.1 84 k else -1
/-- fail: fault and place that stand, fault and place that are told -/
def D_ff (f p k w : Int) : Int × Int := if f ≠ 0 ∧ (p < w ∨ p = w ∧ f ≤ k) then (f, p) else (k, w)
/-- s with a place of reading, a fault and its place -/
def R_p3 (s : R_S) (a f p : Int) : R_S := R_sF (R_sF (R_sF s 16 a) 18 f) 19 p
theorem R_p3_id (s : R_S) : R_p3 s (s.1 16) (s.1 18) (s.1 19) = s := by
  have e : R_up (R_up (R_up s.1 16 (s.1 16)) 18 (s.1 18)) 19 (s.1 19) = s.1 := by
    funext b
    unfold R_up
    by_cases c1 : b = 19
    · rw [if_pos c1, c1]
    · rw [if_neg c1]
      by_cases c2 : b = 18
      · rw [if_pos c2, c2]
      · rw [if_neg c2]
        by_cases c3 : b = 16
        · rw [if_pos c3, c3]
        · rw [if_neg c3]
  show (R_up (R_up (R_up s.1 16 (s.1 16)) 18 (s.1 18)) 19 (s.1 19), s.2) = s
  rw [e]
theorem R_p3_16 (s : R_S) (a f p z : Int) : R_sF (R_p3 s a f p) 16 z = R_p3 s z f p := by
  have e : R_up (R_up (R_up (R_up s.1 16 a) 18 f) 19 p) 16 z = R_up (R_up (R_up s.1 16 z) 18 f) 19 p := by
    funext b
    unfold R_up
    by_cases c1 : b = 16
    · subst c1; rfl
    · rw [if_neg c1]
      by_cases c2 : b = 19
      · rw [if_pos c2, if_pos c2]
      · rw [if_neg c2, if_neg c2]
        by_cases c3 : b = 18
        · rw [if_pos c3, if_pos c3]
        · rw [if_neg c3, if_neg c3, if_neg c1, if_neg c1]
  exact congrArg (fun x => (x, s.2)) e
theorem R_p3_ff (s : R_S) (a f p k w : Int) : R_sF (R_sF (R_p3 s a f p) 18 k) 19 w = R_p3 s a k w := by
  have e : R_up (R_up (R_up (R_up (R_up s.1 16 a) 18 f) 19 p) 18 k) 19 w = R_up (R_up (R_up s.1 16 a) 18 k) 19 w := by
    funext b
    unfold R_up
    by_cases c1 : b = 19
    · simp [c1]
    · by_cases c2 : b = 18
      · simp [c2]
      · simp [c1, c2]
  exact congrArg (fun x => (x, s.2)) e
theorem R_p3_see (s : R_S) (a f p : Int) : D_see (R_p3 s a f p) = D_see s := rfl
theorem R_see2 (d : Nat) (s : R_S) {k : Int} (zk : Zr k) (k0 : 0 ≤ k) (w : s.1 1 ≤ 1000) : R_ok (d + 1) 191 [.int (Zi k)] s (fun x s2 => s2 = s ∧ x = some (.int (Zi (D_see s k)))) := by
  refine fun h0 h hs => (R_see d s zk k0 w h0 h hs).weak (fun r q => ?_)
  obtain ⟨s2, q1, ⟨q2, v, q3, q4⟩, q5⟩ := q
  refine ⟨s2, q1, ⟨q2, ?_⟩, q5⟩
  rw [q3]
  unfold D_see
  rcases q4 with ⟨q4, q6⟩ | ⟨q4, q6⟩
  · rw [if_pos q6, q4]
  · rw [if_neg (by omega), q4]
theorem R_fail2 (d : Nat) (s : R_S) (a f p : Int) {kd wh : Int} (zkd : Zr kd) (zwh : Zr wh) : R_ok (d + 1) 190 [.int (Zi kd), .int (Zi wh)] (R_p3 s a f p) (fun x s2 => x = none ∧ s2 = R_p3 s a (D_ff f p kd wh).1 (D_ff f p kd wh).2) := by
  refine fun h0 h hs => (R_fail d (R_p3 s a f p) zkd zwh h0 h hs).weak (fun r q => ?_)
  obtain ⟨s2, q1, ⟨q2, q3⟩, q5⟩ := q
  refine ⟨s2, q1, ⟨q2, ?_⟩, q5⟩
  unfold D_ff
  rcases q3 with ⟨q3, q6, q7⟩ | ⟨q3, q6⟩
  · rw [if_pos ⟨q6, q7⟩, q3]
  · have q6 : ¬ (f ≠ 0 ∧ (p < wh ∨ p = wh ∧ f ≤ kd)) := q6
    rw [if_neg q6, q3]
    exact R_p3_ff s a f p kd wh
/-- a byte of a list: what it is, place, fault, its place -/
def D_one (S : Int → Int) (a f p : Int) : Int × Int × Int × Int :=
  if S a = 92 then (if S (a + 1) = 110 then (10, a + 2, f, p) else if S (a + 1) = 116 then (9, a + 2, f, p) else if D_sgn (S (a + 1)) then (S (a + 1), a + 2, f, p) else (-1, a + 1, (D_ff f p 1 (a + 1)).1, (D_ff f p 1 (a + 1)).2))
  else if S a < 32 ∨ 126 < S a ∨ S a = 93 ∨ S a = 45 then (-1, a, (D_ff f p 1 a).1, (D_ff f p 1 a).2) else (S a, a + 1, f, p)
/-- a number -/
def D_num (S : Int → Int) (a f p : Int) : Int × Int × Int × Int :=
  if D_dig (S a) then
    (let v := if D_dig (S (a + 1)) then 10 * (S a - 48) + S (a + 1) - 48 else S a - 48
     let b := if D_dig (S (a + 1)) then a + 2 else a + 1
     if 20 < v then (v, b, (D_ff f p 3 a).1, (D_ff f p 3 a).2) else (v, b, f, p))
  else (-1, a, (D_ff f p 1 a).1, (D_ff f p 1 a).2)
theorem R_one (d : Nat) (s : R_S) (a f p : Int)   (a0 : 0 ≤ a) (a1 : a ≤ s.1 1) (t1 : s.1 1 ≤ 80) (tb : ∀ j, 0 ≤ s.2.1 84 j ∧ s.2.1 84 j < 256) : R_ok (d + 3) 209 [] (R_p3 s a f p) (fun x s2 => x = some (.int (Zi (D_one (D_see s) a f p).1)) ∧ s2 = R_p3 s (D_one (D_see s) a f p).2.1 (D_one (D_see s) a f p).2.2.1 (D_one (D_see s) a f p).2.2.2) := by
  refine R_enter (M := E_m209) rfl (Nat.le_of_ble_eq_true rfl) (fun h0 h hs => ?_)
  show B_R (d + 2) _ (0, [(0, .ref 83)], []) _ _ _
  have zb : ∀ k, -1 ≤ D_see s k ∧ D_see s k < 256 := fun k => by have := tb k; unfold D_see; split <;> omega
  have zb0 := zb a
  have zb1 := zb (a + 1)
  have zS : ∀ k, Zr (D_see s k) := fun k => by unfold D_see; split; exact hs.zA 84 k; exact ⟨by omega, by omega⟩
  have sn : ∀ k, s.1 1 ≤ k → D_see s k = -1 := fun k hk => by unfold D_see; rw [if_neg (by omega)]
  have sn0 := sn a
  have sn1 := sn (a + 1)
  refine Z_go (f2 := (1, [(0, .ref 83)], [.ref 83])) (fun _ => rfl) ?_
  refine Z_go (f2 := (2, [(0, .ref 83)], [.ref 83, .ref 83])) (fun _ => rfl) ?_
  refine R_gi rfl hs rfl ?_
  show B_R _ _ (5, [(0, .ref 83)], [.int (Zi a), .ref 83]) _ _ _
  refine R_call (As := [.int (Zi a)]) (rest := []) rfl (by decide) rfl rfl rfl rfl (by decide +kernel) (Nat.le_of_ble_eq_true rfl) hs (R_see2 _ _ (by first | assumption | exact hs.zF _ | exact hs.zA _ _ | exact zS _ | exact ⟨by omega, by omega⟩ | omega) (by first | assumption | exact hs.zF _ | exact hs.zA _ _ | exact zS _ | exact ⟨by omega, by omega⟩ | omega) (show s.1 1 ≤ 1000 by omega)) (fun x h s2 hs q => ?_)
  obtain ⟨q0, rfl⟩ := q
  rw [q0] at hs
  show B_R _ _ (8, [(0, .ref 83)], [.int (Zi (D_see s a))]) _ _ _
  refine Z_go (f2 := (9, [(1, .int (Zi (D_see s a))), (0, .ref 83)], [])) (fun _ => rfl) ?_
  refine Z_go (f2 := (10, [(1, .int (Zi (D_see s a))), (0, .ref 83)], [.int (Zi (D_see s a))])) (fun _ => rfl) ?_
  refine Z_go (f2 := (12, [(1, .int (Zi (D_see s a))), (0, .ref 83)], [.int (Zi 92), .int (Zi (D_see s a))])) (fun _ => rfl) ?_
  refine Z_cne rfl rfl (by first | exact hs.zF _ | exact Zor_r _ _ | exact hs.zA _ _ | assumption | exact zS _ | exact Zr_not (hs.zA _ _) | exact ⟨by omega, by omega⟩) (by first | exact hs.zF _ | exact Zor_r _ _ | exact hs.zA _ _ | assumption | exact zS _ | exact Zr_not (hs.zA _ _) | exact ⟨by omega, by omega⟩) (fun c1 => ?_) (fun c1 => ?_)
  · refine Z_go (f2 := (99, [(1, .int (Zi (D_see s a))), (0, .ref 83)], [.int (Zi (D_see s a))])) (fun _ => rfl) ?_
    refine Z_go (f2 := (101, [(1, .int (Zi (D_see s a))), (0, .ref 83)], [.int (Zi 32), .int (Zi (D_see s a))])) (fun _ => rfl) ?_
    refine Z_clt rfl rfl (by first | exact hs.zF _ | exact Zor_r _ _ | exact hs.zA _ _ | assumption | exact zS _ | exact Zr_not (hs.zA _ _) | exact ⟨by omega, by omega⟩) (by first | exact hs.zF _ | exact Zor_r _ _ | exact hs.zA _ _ | assumption | exact zS _ | exact Zr_not (hs.zA _ _) | exact ⟨by omega, by omega⟩) (fun c2 => ?_) (fun c2 => ?_)
    · refine Z_go (f2 := (123, [(1, .int (Zi (D_see s a))), (0, .ref 83)], [.ref 83])) (fun _ => rfl) ?_
      refine Z_go (f2 := (124, [(1, .int (Zi (D_see s a))), (0, .ref 83)], [.int (Zi 1), .ref 83])) (fun _ => rfl) ?_
      refine Z_go (f2 := (125, [(1, .int (Zi (D_see s a))), (0, .ref 83)], [.ref 83, .int (Zi 1), .ref 83])) (fun _ => rfl) ?_
      refine R_gi rfl hs rfl ?_
      show B_R _ _ (128, [(1, .int (Zi (D_see s a))), (0, .ref 83)], [.int (Zi a), .int (Zi 1), .ref 83]) _ _ _
      refine R_call (As := [.int (Zi 1), .int (Zi a)]) (rest := []) rfl (by decide) rfl rfl rfl rfl (by decide +kernel) (Nat.le_of_ble_eq_true rfl) hs (R_fail2 _ s a f p (by first | assumption | exact hs.zF _ | exact hs.zA _ _ | exact zS _ | exact ⟨by omega, by omega⟩ | omega) (by first | assumption | exact hs.zF _ | exact hs.zA _ _ | exact zS _ | exact ⟨by omega, by omega⟩ | omega)) (fun x h s2 hs q => ?_)
      obtain ⟨rfl, q1⟩ := q
      rw [q1] at hs
      show B_R _ _ (131, [(1, .int (Zi (D_see s a))), (0, .ref 83)], []) _ _ _
      refine Z_go (f2 := (132, [(1, .int (Zi (D_see s a))), (0, .ref 83)], [.int (Zi (-1))])) (fun _ => rfl) ?_
      refine Z_iret rfl rfl (by first | rfl | decide | exact narrow_b01 (by omega)) ⟨_, hs, ?_, rfl⟩
      have e : D_one (D_see s) a f p = (-1, a, (D_ff f p 1 a).1, (D_ff f p 1 a).2) := by
        unfold D_one
        try dsimp only
        repeat' split
        all_goals first
          | (exfalso; unfold D_sgn D_let D_dig at *; omega)
          | (refine Prod.ext ?_ (Prod.ext ?_ (Prod.ext ?_ ?_)) <;> first | rfl | (dsimp only; omega))
      rw [e]
      exact ⟨rfl, rfl⟩
    · refine Z_go (f2 := (105, [(1, .int (Zi (D_see s a))), (0, .ref 83)], [.int (Zi (D_see s a))])) (fun _ => rfl) ?_
      refine Z_go (f2 := (107, [(1, .int (Zi (D_see s a))), (0, .ref 83)], [.int (Zi 126), .int (Zi (D_see s a))])) (fun _ => rfl) ?_
      refine Z_cgt rfl rfl (by first | exact hs.zF _ | exact Zor_r _ _ | exact hs.zA _ _ | assumption | exact zS _ | exact Zr_not (hs.zA _ _) | exact ⟨by omega, by omega⟩) (by first | exact hs.zF _ | exact Zor_r _ _ | exact hs.zA _ _ | assumption | exact zS _ | exact Zr_not (hs.zA _ _) | exact ⟨by omega, by omega⟩) (fun c3 => ?_) (fun c3 => ?_)
      · refine Z_go (f2 := (123, [(1, .int (Zi (D_see s a))), (0, .ref 83)], [.ref 83])) (fun _ => rfl) ?_
        refine Z_go (f2 := (124, [(1, .int (Zi (D_see s a))), (0, .ref 83)], [.int (Zi 1), .ref 83])) (fun _ => rfl) ?_
        refine Z_go (f2 := (125, [(1, .int (Zi (D_see s a))), (0, .ref 83)], [.ref 83, .int (Zi 1), .ref 83])) (fun _ => rfl) ?_
        refine R_gi rfl hs rfl ?_
        show B_R _ _ (128, [(1, .int (Zi (D_see s a))), (0, .ref 83)], [.int (Zi a), .int (Zi 1), .ref 83]) _ _ _
        refine R_call (As := [.int (Zi 1), .int (Zi a)]) (rest := []) rfl (by decide) rfl rfl rfl rfl (by decide +kernel) (Nat.le_of_ble_eq_true rfl) hs (R_fail2 _ s a f p (by first | assumption | exact hs.zF _ | exact hs.zA _ _ | exact zS _ | exact ⟨by omega, by omega⟩ | omega) (by first | assumption | exact hs.zF _ | exact hs.zA _ _ | exact zS _ | exact ⟨by omega, by omega⟩ | omega)) (fun x h s2 hs q => ?_)
        obtain ⟨rfl, q1⟩ := q
        rw [q1] at hs
        show B_R _ _ (131, [(1, .int (Zi (D_see s a))), (0, .ref 83)], []) _ _ _
        refine Z_go (f2 := (132, [(1, .int (Zi (D_see s a))), (0, .ref 83)], [.int (Zi (-1))])) (fun _ => rfl) ?_
        refine Z_iret rfl rfl (by first | rfl | decide | exact narrow_b01 (by omega)) ⟨_, hs, ?_, rfl⟩
        have e : D_one (D_see s) a f p = (-1, a, (D_ff f p 1 a).1, (D_ff f p 1 a).2) := by
          unfold D_one
          try dsimp only
          repeat' split
          all_goals first
            | (exfalso; unfold D_sgn D_let D_dig at *; omega)
            | (refine Prod.ext ?_ (Prod.ext ?_ (Prod.ext ?_ ?_)) <;> first | rfl | (dsimp only; omega))
        rw [e]
        exact ⟨rfl, rfl⟩
      · refine Z_go (f2 := (111, [(1, .int (Zi (D_see s a))), (0, .ref 83)], [.int (Zi (D_see s a))])) (fun _ => rfl) ?_
        refine Z_go (f2 := (113, [(1, .int (Zi (D_see s a))), (0, .ref 83)], [.int (Zi 93), .int (Zi (D_see s a))])) (fun _ => rfl) ?_
        refine Z_ceq rfl rfl (by first | exact hs.zF _ | exact Zor_r _ _ | exact hs.zA _ _ | assumption | exact zS _ | exact Zr_not (hs.zA _ _) | exact ⟨by omega, by omega⟩) (by first | exact hs.zF _ | exact Zor_r _ _ | exact hs.zA _ _ | assumption | exact zS _ | exact Zr_not (hs.zA _ _) | exact ⟨by omega, by omega⟩) (fun c4 => ?_) (fun c4 => ?_)
        · refine Z_go (f2 := (123, [(1, .int (Zi (D_see s a))), (0, .ref 83)], [.ref 83])) (fun _ => rfl) ?_
          refine Z_go (f2 := (124, [(1, .int (Zi (D_see s a))), (0, .ref 83)], [.int (Zi 1), .ref 83])) (fun _ => rfl) ?_
          refine Z_go (f2 := (125, [(1, .int (Zi (D_see s a))), (0, .ref 83)], [.ref 83, .int (Zi 1), .ref 83])) (fun _ => rfl) ?_
          refine R_gi rfl hs rfl ?_
          show B_R _ _ (128, [(1, .int (Zi (D_see s a))), (0, .ref 83)], [.int (Zi a), .int (Zi 1), .ref 83]) _ _ _
          refine R_call (As := [.int (Zi 1), .int (Zi a)]) (rest := []) rfl (by decide) rfl rfl rfl rfl (by decide +kernel) (Nat.le_of_ble_eq_true rfl) hs (R_fail2 _ s a f p (by first | assumption | exact hs.zF _ | exact hs.zA _ _ | exact zS _ | exact ⟨by omega, by omega⟩ | omega) (by first | assumption | exact hs.zF _ | exact hs.zA _ _ | exact zS _ | exact ⟨by omega, by omega⟩ | omega)) (fun x h s2 hs q => ?_)
          obtain ⟨rfl, q1⟩ := q
          rw [q1] at hs
          show B_R _ _ (131, [(1, .int (Zi (D_see s a))), (0, .ref 83)], []) _ _ _
          refine Z_go (f2 := (132, [(1, .int (Zi (D_see s a))), (0, .ref 83)], [.int (Zi (-1))])) (fun _ => rfl) ?_
          refine Z_iret rfl rfl (by first | rfl | decide | exact narrow_b01 (by omega)) ⟨_, hs, ?_, rfl⟩
          have e : D_one (D_see s) a f p = (-1, a, (D_ff f p 1 a).1, (D_ff f p 1 a).2) := by
            unfold D_one
            try dsimp only
            repeat' split
            all_goals first
              | (exfalso; unfold D_sgn D_let D_dig at *; omega)
              | (refine Prod.ext ?_ (Prod.ext ?_ (Prod.ext ?_ ?_)) <;> first | rfl | (dsimp only; omega))
          rw [e]
          exact ⟨rfl, rfl⟩
        · refine Z_go (f2 := (117, [(1, .int (Zi (D_see s a))), (0, .ref 83)], [.int (Zi (D_see s a))])) (fun _ => rfl) ?_
          refine Z_go (f2 := (119, [(1, .int (Zi (D_see s a))), (0, .ref 83)], [.int (Zi 45), .int (Zi (D_see s a))])) (fun _ => rfl) ?_
          refine Z_cne rfl rfl (by first | exact hs.zF _ | exact Zor_r _ _ | exact hs.zA _ _ | assumption | exact zS _ | exact Zr_not (hs.zA _ _) | exact ⟨by omega, by omega⟩) (by first | exact hs.zF _ | exact Zor_r _ _ | exact hs.zA _ _ | assumption | exact zS _ | exact Zr_not (hs.zA _ _) | exact ⟨by omega, by omega⟩) (fun c5 => ?_) (fun c5 => ?_)
          · refine Z_go (f2 := (134, [(1, .int (Zi (D_see s a))), (0, .ref 83)], [.ref 83])) (fun _ => rfl) ?_
            refine Z_go (f2 := (135, [(1, .int (Zi (D_see s a))), (0, .ref 83)], [.ref 83, .ref 83])) (fun _ => rfl) ?_
            refine R_gi rfl hs rfl ?_
            show B_R _ _ (138, [(1, .int (Zi (D_see s a))), (0, .ref 83)], [.int (Zi a), .ref 83]) _ _ _
            refine Z_go (f2 := (139, [(1, .int (Zi (D_see s a))), (0, .ref 83)], [.int (Zi 1), .int (Zi a), .ref 83])) (fun _ => rfl) ?_
            refine Z_iadd rfl ?_
            refine R_pf rfl hs rfl (by first | exact hs.zF _ | exact Zor_r _ _ | exact hs.zA _ _ | assumption | exact zS _ | exact Zr_not (hs.zA _ _) | exact ⟨by omega, by omega⟩) ⟨rfl, rfl, rfl⟩ (fun h hs => ?_)
            rw [R_p3_16] at hs
            refine Z_go (f2 := (144, [(1, .int (Zi (D_see s a))), (0, .ref 83)], [.int (Zi (D_see s a))])) (fun _ => rfl) ?_
            refine Z_iret rfl rfl (by first | rfl | decide | exact narrow_b01 (by omega)) ⟨_, hs, ?_, rfl⟩
            have e : D_one (D_see s) a f p = (D_see s a, a + 1, f, p) := by
              unfold D_one
              try dsimp only
              repeat' split
              all_goals first
                | (exfalso; unfold D_sgn D_let D_dig at *; omega)
                | (refine Prod.ext ?_ (Prod.ext ?_ (Prod.ext ?_ ?_)) <;> first | rfl | (dsimp only; omega))
            rw [e]
            exact ⟨rfl, rfl⟩
          · refine Z_go (f2 := (123, [(1, .int (Zi (D_see s a))), (0, .ref 83)], [.ref 83])) (fun _ => rfl) ?_
            refine Z_go (f2 := (124, [(1, .int (Zi (D_see s a))), (0, .ref 83)], [.int (Zi 1), .ref 83])) (fun _ => rfl) ?_
            refine Z_go (f2 := (125, [(1, .int (Zi (D_see s a))), (0, .ref 83)], [.ref 83, .int (Zi 1), .ref 83])) (fun _ => rfl) ?_
            refine R_gi rfl hs rfl ?_
            show B_R _ _ (128, [(1, .int (Zi (D_see s a))), (0, .ref 83)], [.int (Zi a), .int (Zi 1), .ref 83]) _ _ _
            refine R_call (As := [.int (Zi 1), .int (Zi a)]) (rest := []) rfl (by decide) rfl rfl rfl rfl (by decide +kernel) (Nat.le_of_ble_eq_true rfl) hs (R_fail2 _ s a f p (by first | assumption | exact hs.zF _ | exact hs.zA _ _ | exact zS _ | exact ⟨by omega, by omega⟩ | omega) (by first | assumption | exact hs.zF _ | exact hs.zA _ _ | exact zS _ | exact ⟨by omega, by omega⟩ | omega)) (fun x h s2 hs q => ?_)
            obtain ⟨rfl, q1⟩ := q
            rw [q1] at hs
            show B_R _ _ (131, [(1, .int (Zi (D_see s a))), (0, .ref 83)], []) _ _ _
            refine Z_go (f2 := (132, [(1, .int (Zi (D_see s a))), (0, .ref 83)], [.int (Zi (-1))])) (fun _ => rfl) ?_
            refine Z_iret rfl rfl (by first | rfl | decide | exact narrow_b01 (by omega)) ⟨_, hs, ?_, rfl⟩
            have e : D_one (D_see s) a f p = (-1, a, (D_ff f p 1 a).1, (D_ff f p 1 a).2) := by
              unfold D_one
              try dsimp only
              repeat' split
              all_goals first
                | (exfalso; unfold D_sgn D_let D_dig at *; omega)
                | (refine Prod.ext ?_ (Prod.ext ?_ (Prod.ext ?_ ?_)) <;> first | rfl | (dsimp only; omega))
            rw [e]
            exact ⟨rfl, rfl⟩
  · refine Z_go (f2 := (16, [(1, .int (Zi (D_see s a))), (0, .ref 83)], [.ref 83])) (fun _ => rfl) ?_
    refine Z_go (f2 := (17, [(1, .int (Zi (D_see s a))), (0, .ref 83)], [.ref 83, .ref 83])) (fun _ => rfl) ?_
    refine R_gi rfl hs rfl ?_
    show B_R _ _ (20, [(1, .int (Zi (D_see s a))), (0, .ref 83)], [.int (Zi a), .ref 83]) _ _ _
    refine Z_go (f2 := (21, [(1, .int (Zi (D_see s a))), (0, .ref 83)], [.int (Zi 1), .int (Zi a), .ref 83])) (fun _ => rfl) ?_
    refine Z_iadd rfl ?_
    refine R_pf rfl hs rfl (by first | exact hs.zF _ | exact Zor_r _ _ | exact hs.zA _ _ | assumption | exact zS _ | exact Zr_not (hs.zA _ _) | exact ⟨by omega, by omega⟩) ⟨rfl, rfl, rfl⟩ (fun h hs => ?_)
    rw [R_p3_16] at hs
    refine Z_go (f2 := (26, [(1, .int (Zi (D_see s a))), (0, .ref 83)], [.ref 83])) (fun _ => rfl) ?_
    refine Z_go (f2 := (27, [(1, .int (Zi (D_see s a))), (0, .ref 83)], [.ref 83, .ref 83])) (fun _ => rfl) ?_
    refine R_gi rfl hs rfl ?_
    show B_R _ _ (30, [(1, .int (Zi (D_see s a))), (0, .ref 83)], [.int (Zi (a + 1)), .ref 83]) _ _ _
    refine R_call (As := [.int (Zi (a + 1))]) (rest := []) rfl (by decide) rfl rfl rfl rfl (by decide +kernel) (Nat.le_of_ble_eq_true rfl) hs (R_see2 _ _ (by first | assumption | exact hs.zF _ | exact hs.zA _ _ | exact zS _ | exact ⟨by omega, by omega⟩ | omega) (by first | assumption | exact hs.zF _ | exact hs.zA _ _ | exact zS _ | exact ⟨by omega, by omega⟩ | omega) (show s.1 1 ≤ 1000 by omega)) (fun x h s2 hs q => ?_)
    obtain ⟨q0, rfl⟩ := q
    rw [q0] at hs
    show B_R _ _ (33, [(1, .int (Zi (D_see s a))), (0, .ref 83)], [.int (Zi (D_see s (a + 1)))]) _ _ _
    refine Z_go (f2 := (34, [(2, .int (Zi (D_see s (a + 1)))), (1, .int (Zi (D_see s a))), (0, .ref 83)], [])) (fun _ => rfl) ?_
    refine Z_go (f2 := (35, [(2, .int (Zi (D_see s (a + 1)))), (1, .int (Zi (D_see s a))), (0, .ref 83)], [.int (Zi (D_see s (a + 1)))])) (fun _ => rfl) ?_
    refine Z_go (f2 := (37, [(2, .int (Zi (D_see s (a + 1)))), (1, .int (Zi (D_see s a))), (0, .ref 83)], [.int (Zi 110), .int (Zi (D_see s (a + 1)))])) (fun _ => rfl) ?_
    refine Z_ceq rfl rfl (by first | exact hs.zF _ | exact Zor_r _ _ | exact hs.zA _ _ | assumption | exact zS _ | exact Zr_not (hs.zA _ _) | exact ⟨by omega, by omega⟩) (by first | exact hs.zF _ | exact Zor_r _ _ | exact hs.zA _ _ | assumption | exact zS _ | exact Zr_not (hs.zA _ _) | exact ⟨by omega, by omega⟩) (fun c6 => ?_) (fun c6 => ?_)
    · refine Z_go (f2 := (65, [(2, .int (Zi (D_see s (a + 1)))), (1, .int (Zi (D_see s a))), (0, .ref 83)], [.ref 83])) (fun _ => rfl) ?_
      refine Z_go (f2 := (66, [(2, .int (Zi (D_see s (a + 1)))), (1, .int (Zi (D_see s a))), (0, .ref 83)], [.ref 83, .ref 83])) (fun _ => rfl) ?_
      refine R_gi rfl hs rfl ?_
      show B_R _ _ (69, [(2, .int (Zi (D_see s (a + 1)))), (1, .int (Zi (D_see s a))), (0, .ref 83)], [.int (Zi (a + 1)), .ref 83]) _ _ _
      refine Z_go (f2 := (70, [(2, .int (Zi (D_see s (a + 1)))), (1, .int (Zi (D_see s a))), (0, .ref 83)], [.int (Zi 1), .int (Zi (a + 1)), .ref 83])) (fun _ => rfl) ?_
      refine Z_iadd rfl ?_
      refine R_pf rfl hs rfl (by first | exact hs.zF _ | exact Zor_r _ _ | exact hs.zA _ _ | assumption | exact zS _ | exact Zr_not (hs.zA _ _) | exact ⟨by omega, by omega⟩) ⟨rfl, rfl, rfl⟩ (fun h hs => ?_)
      rw [R_p3_16] at hs
      refine Z_go (f2 := (75, [(2, .int (Zi (D_see s (a + 1)))), (1, .int (Zi (D_see s a))), (0, .ref 83)], [.int (Zi (D_see s (a + 1)))])) (fun _ => rfl) ?_
      refine Z_go (f2 := (77, [(2, .int (Zi (D_see s (a + 1)))), (1, .int (Zi (D_see s a))), (0, .ref 83)], [.int (Zi 110), .int (Zi (D_see s (a + 1)))])) (fun _ => rfl) ?_
      refine Z_cne rfl rfl (by first | exact hs.zF _ | exact Zor_r _ _ | exact hs.zA _ _ | assumption | exact zS _ | exact Zr_not (hs.zA _ _) | exact ⟨by omega, by omega⟩) (by first | exact hs.zF _ | exact Zor_r _ _ | exact hs.zA _ _ | assumption | exact zS _ | exact Zr_not (hs.zA _ _) | exact ⟨by omega, by omega⟩) (fun c7 => ?_) (fun c7 => ?_)
      · refine Z_go (f2 := (86, [(2, .int (Zi (D_see s (a + 1)))), (1, .int (Zi (D_see s a))), (0, .ref 83)], [.int (Zi (D_see s (a + 1)))])) (fun _ => rfl) ?_
        refine Z_go (f2 := (88, [(2, .int (Zi (D_see s (a + 1)))), (1, .int (Zi (D_see s a))), (0, .ref 83)], [.int (Zi 116), .int (Zi (D_see s (a + 1)))])) (fun _ => rfl) ?_
        refine Z_cne rfl rfl (by first | exact hs.zF _ | exact Zor_r _ _ | exact hs.zA _ _ | assumption | exact zS _ | exact Zr_not (hs.zA _ _) | exact ⟨by omega, by omega⟩) (by first | exact hs.zF _ | exact Zor_r _ _ | exact hs.zA _ _ | assumption | exact zS _ | exact Zr_not (hs.zA _ _) | exact ⟨by omega, by omega⟩) (fun c8 => ?_) (fun c8 => ?_)
        · refine Z_go (f2 := (97, [(2, .int (Zi (D_see s (a + 1)))), (1, .int (Zi (D_see s a))), (0, .ref 83)], [.int (Zi (D_see s (a + 1)))])) (fun _ => rfl) ?_
          refine Z_iret rfl rfl (by first | rfl | decide | exact narrow_b01 (by omega)) ⟨_, hs, ?_, rfl⟩
          have e : D_one (D_see s) a f p = (D_see s (a + 1), a + 1 + 1, f, p) := by
            unfold D_one
            try dsimp only
            repeat' split
            all_goals first
              | (exfalso; unfold D_sgn D_let D_dig at *; omega)
              | (refine Prod.ext ?_ (Prod.ext ?_ (Prod.ext ?_ ?_)) <;> first | rfl | (dsimp only; omega))
          rw [e]
          exact ⟨rfl, rfl⟩
        · refine Z_go (f2 := (93, [(2, .int (Zi (D_see s (a + 1)))), (1, .int (Zi (D_see s a))), (0, .ref 83)], [.int (Zi 9)])) (fun _ => rfl) ?_
          refine Z_go (f2 := (97, [(2, .int (Zi (D_see s (a + 1)))), (1, .int (Zi (D_see s a))), (0, .ref 83)], [.int (Zi 9)])) (fun _ => rfl) ?_
          refine Z_iret rfl rfl (by first | rfl | decide | exact narrow_b01 (by omega)) ⟨_, hs, ?_, rfl⟩
          have e : D_one (D_see s) a f p = (9, a + 1 + 1, f, p) := by
            unfold D_one
            try dsimp only
            repeat' split
            all_goals first
              | (exfalso; unfold D_sgn D_let D_dig at *; omega)
              | (refine Prod.ext ?_ (Prod.ext ?_ (Prod.ext ?_ ?_)) <;> first | rfl | (dsimp only; omega))
          rw [e]
          exact ⟨rfl, rfl⟩
      · refine Z_go (f2 := (82, [(2, .int (Zi (D_see s (a + 1)))), (1, .int (Zi (D_see s a))), (0, .ref 83)], [.int (Zi 10)])) (fun _ => rfl) ?_
        refine Z_go (f2 := (97, [(2, .int (Zi (D_see s (a + 1)))), (1, .int (Zi (D_see s a))), (0, .ref 83)], [.int (Zi 10)])) (fun _ => rfl) ?_
        refine Z_iret rfl rfl (by first | rfl | decide | exact narrow_b01 (by omega)) ⟨_, hs, ?_, rfl⟩
        have e : D_one (D_see s) a f p = (10, a + 1 + 1, f, p) := by
          unfold D_one
          try dsimp only
          repeat' split
          all_goals first
            | (exfalso; unfold D_sgn D_let D_dig at *; omega)
            | (refine Prod.ext ?_ (Prod.ext ?_ (Prod.ext ?_ ?_)) <;> first | rfl | (dsimp only; omega))
        rw [e]
        exact ⟨rfl, rfl⟩
    · refine Z_go (f2 := (41, [(2, .int (Zi (D_see s (a + 1)))), (1, .int (Zi (D_see s a))), (0, .ref 83)], [.int (Zi (D_see s (a + 1)))])) (fun _ => rfl) ?_
      refine Z_go (f2 := (43, [(2, .int (Zi (D_see s (a + 1)))), (1, .int (Zi (D_see s a))), (0, .ref 83)], [.int (Zi 116), .int (Zi (D_see s (a + 1)))])) (fun _ => rfl) ?_
      refine Z_ceq rfl rfl (by first | exact hs.zF _ | exact Zor_r _ _ | exact hs.zA _ _ | assumption | exact zS _ | exact Zr_not (hs.zA _ _) | exact ⟨by omega, by omega⟩) (by first | exact hs.zF _ | exact Zor_r _ _ | exact hs.zA _ _ | assumption | exact zS _ | exact Zr_not (hs.zA _ _) | exact ⟨by omega, by omega⟩) (fun c9 => ?_) (fun c9 => ?_)
      · refine Z_go (f2 := (65, [(2, .int (Zi (D_see s (a + 1)))), (1, .int (Zi (D_see s a))), (0, .ref 83)], [.ref 83])) (fun _ => rfl) ?_
        refine Z_go (f2 := (66, [(2, .int (Zi (D_see s (a + 1)))), (1, .int (Zi (D_see s a))), (0, .ref 83)], [.ref 83, .ref 83])) (fun _ => rfl) ?_
        refine R_gi rfl hs rfl ?_
        show B_R _ _ (69, [(2, .int (Zi (D_see s (a + 1)))), (1, .int (Zi (D_see s a))), (0, .ref 83)], [.int (Zi (a + 1)), .ref 83]) _ _ _
        refine Z_go (f2 := (70, [(2, .int (Zi (D_see s (a + 1)))), (1, .int (Zi (D_see s a))), (0, .ref 83)], [.int (Zi 1), .int (Zi (a + 1)), .ref 83])) (fun _ => rfl) ?_
        refine Z_iadd rfl ?_
        refine R_pf rfl hs rfl (by first | exact hs.zF _ | exact Zor_r _ _ | exact hs.zA _ _ | assumption | exact zS _ | exact Zr_not (hs.zA _ _) | exact ⟨by omega, by omega⟩) ⟨rfl, rfl, rfl⟩ (fun h hs => ?_)
        rw [R_p3_16] at hs
        refine Z_go (f2 := (75, [(2, .int (Zi (D_see s (a + 1)))), (1, .int (Zi (D_see s a))), (0, .ref 83)], [.int (Zi (D_see s (a + 1)))])) (fun _ => rfl) ?_
        refine Z_go (f2 := (77, [(2, .int (Zi (D_see s (a + 1)))), (1, .int (Zi (D_see s a))), (0, .ref 83)], [.int (Zi 110), .int (Zi (D_see s (a + 1)))])) (fun _ => rfl) ?_
        refine Z_cne rfl rfl (by first | exact hs.zF _ | exact Zor_r _ _ | exact hs.zA _ _ | assumption | exact zS _ | exact Zr_not (hs.zA _ _) | exact ⟨by omega, by omega⟩) (by first | exact hs.zF _ | exact Zor_r _ _ | exact hs.zA _ _ | assumption | exact zS _ | exact Zr_not (hs.zA _ _) | exact ⟨by omega, by omega⟩) (fun c10 => ?_) (fun c10 => ?_)
        · refine Z_go (f2 := (86, [(2, .int (Zi (D_see s (a + 1)))), (1, .int (Zi (D_see s a))), (0, .ref 83)], [.int (Zi (D_see s (a + 1)))])) (fun _ => rfl) ?_
          refine Z_go (f2 := (88, [(2, .int (Zi (D_see s (a + 1)))), (1, .int (Zi (D_see s a))), (0, .ref 83)], [.int (Zi 116), .int (Zi (D_see s (a + 1)))])) (fun _ => rfl) ?_
          refine Z_cne rfl rfl (by first | exact hs.zF _ | exact Zor_r _ _ | exact hs.zA _ _ | assumption | exact zS _ | exact Zr_not (hs.zA _ _) | exact ⟨by omega, by omega⟩) (by first | exact hs.zF _ | exact Zor_r _ _ | exact hs.zA _ _ | assumption | exact zS _ | exact Zr_not (hs.zA _ _) | exact ⟨by omega, by omega⟩) (fun c11 => ?_) (fun c11 => ?_)
          · refine Z_go (f2 := (97, [(2, .int (Zi (D_see s (a + 1)))), (1, .int (Zi (D_see s a))), (0, .ref 83)], [.int (Zi (D_see s (a + 1)))])) (fun _ => rfl) ?_
            refine Z_iret rfl rfl (by first | rfl | decide | exact narrow_b01 (by omega)) ⟨_, hs, ?_, rfl⟩
            have e : D_one (D_see s) a f p = (D_see s (a + 1), a + 1 + 1, f, p) := by
              unfold D_one
              try dsimp only
              repeat' split
              all_goals first
                | (exfalso; unfold D_sgn D_let D_dig at *; omega)
                | (refine Prod.ext ?_ (Prod.ext ?_ (Prod.ext ?_ ?_)) <;> first | rfl | (dsimp only; omega))
            rw [e]
            exact ⟨rfl, rfl⟩
          · refine Z_go (f2 := (93, [(2, .int (Zi (D_see s (a + 1)))), (1, .int (Zi (D_see s a))), (0, .ref 83)], [.int (Zi 9)])) (fun _ => rfl) ?_
            refine Z_go (f2 := (97, [(2, .int (Zi (D_see s (a + 1)))), (1, .int (Zi (D_see s a))), (0, .ref 83)], [.int (Zi 9)])) (fun _ => rfl) ?_
            refine Z_iret rfl rfl (by first | rfl | decide | exact narrow_b01 (by omega)) ⟨_, hs, ?_, rfl⟩
            have e : D_one (D_see s) a f p = (9, a + 1 + 1, f, p) := by
              unfold D_one
              try dsimp only
              repeat' split
              all_goals first
                | (exfalso; unfold D_sgn D_let D_dig at *; omega)
                | (refine Prod.ext ?_ (Prod.ext ?_ (Prod.ext ?_ ?_)) <;> first | rfl | (dsimp only; omega))
            rw [e]
            exact ⟨rfl, rfl⟩
        · refine Z_go (f2 := (82, [(2, .int (Zi (D_see s (a + 1)))), (1, .int (Zi (D_see s a))), (0, .ref 83)], [.int (Zi 10)])) (fun _ => rfl) ?_
          refine Z_go (f2 := (97, [(2, .int (Zi (D_see s (a + 1)))), (1, .int (Zi (D_see s a))), (0, .ref 83)], [.int (Zi 10)])) (fun _ => rfl) ?_
          refine Z_iret rfl rfl (by first | rfl | decide | exact narrow_b01 (by omega)) ⟨_, hs, ?_, rfl⟩
          have e : D_one (D_see s) a f p = (10, a + 1 + 1, f, p) := by
            unfold D_one
            try dsimp only
            repeat' split
            all_goals first
              | (exfalso; unfold D_sgn D_let D_dig at *; omega)
              | (refine Prod.ext ?_ (Prod.ext ?_ (Prod.ext ?_ ?_)) <;> first | rfl | (dsimp only; omega))
          rw [e]
          exact ⟨rfl, rfl⟩
      · refine Z_go (f2 := (47, [(2, .int (Zi (D_see s (a + 1)))), (1, .int (Zi (D_see s a))), (0, .ref 83)], [.int (Zi (D_see s (a + 1)))])) (fun _ => rfl) ?_
        refine Z_callQ (vs := [.int (Zi (D_see s (a + 1)))]) (rest := []) rfl (by decide) rfl rfl rfl (Nat.le_of_ble_eq_true rfl) (R_isSign _ (by first | assumption | exact hs.zF _ | exact hs.zA _ _ | exact zS _ | exact ⟨by omega, by omega⟩ | omega)) (fun x q => ?_)
        obtain ⟨v, rfl, hv⟩ := q
        have hvu := hv
        unfold D_sgn D_let D_dig at hvu
        show B_R _ _ (50, [(2, .int (Zi (D_see s (a + 1)))), (1, .int (Zi (D_see s a))), (0, .ref 83)], [.int (Zi v)]) _ _ _
        refine Z_ine rfl rfl (by first | exact hs.zF _ | exact Zor_r _ _ | exact hs.zA _ _ | assumption | exact zS _ | exact Zr_not (hs.zA _ _) | exact ⟨by omega, by omega⟩) (fun c12 => ?_) (fun c12 => ?_)
        · refine Z_go (f2 := (65, [(2, .int (Zi (D_see s (a + 1)))), (1, .int (Zi (D_see s a))), (0, .ref 83)], [.ref 83])) (fun _ => rfl) ?_
          refine Z_go (f2 := (66, [(2, .int (Zi (D_see s (a + 1)))), (1, .int (Zi (D_see s a))), (0, .ref 83)], [.ref 83, .ref 83])) (fun _ => rfl) ?_
          refine R_gi rfl hs rfl ?_
          show B_R _ _ (69, [(2, .int (Zi (D_see s (a + 1)))), (1, .int (Zi (D_see s a))), (0, .ref 83)], [.int (Zi (a + 1)), .ref 83]) _ _ _
          refine Z_go (f2 := (70, [(2, .int (Zi (D_see s (a + 1)))), (1, .int (Zi (D_see s a))), (0, .ref 83)], [.int (Zi 1), .int (Zi (a + 1)), .ref 83])) (fun _ => rfl) ?_
          refine Z_iadd rfl ?_
          refine R_pf rfl hs rfl (by first | exact hs.zF _ | exact Zor_r _ _ | exact hs.zA _ _ | assumption | exact zS _ | exact Zr_not (hs.zA _ _) | exact ⟨by omega, by omega⟩) ⟨rfl, rfl, rfl⟩ (fun h hs => ?_)
          rw [R_p3_16] at hs
          refine Z_go (f2 := (75, [(2, .int (Zi (D_see s (a + 1)))), (1, .int (Zi (D_see s a))), (0, .ref 83)], [.int (Zi (D_see s (a + 1)))])) (fun _ => rfl) ?_
          refine Z_go (f2 := (77, [(2, .int (Zi (D_see s (a + 1)))), (1, .int (Zi (D_see s a))), (0, .ref 83)], [.int (Zi 110), .int (Zi (D_see s (a + 1)))])) (fun _ => rfl) ?_
          refine Z_cne rfl rfl (by first | exact hs.zF _ | exact Zor_r _ _ | exact hs.zA _ _ | assumption | exact zS _ | exact Zr_not (hs.zA _ _) | exact ⟨by omega, by omega⟩) (by first | exact hs.zF _ | exact Zor_r _ _ | exact hs.zA _ _ | assumption | exact zS _ | exact Zr_not (hs.zA _ _) | exact ⟨by omega, by omega⟩) (fun c13 => ?_) (fun c13 => ?_)
          · refine Z_go (f2 := (86, [(2, .int (Zi (D_see s (a + 1)))), (1, .int (Zi (D_see s a))), (0, .ref 83)], [.int (Zi (D_see s (a + 1)))])) (fun _ => rfl) ?_
            refine Z_go (f2 := (88, [(2, .int (Zi (D_see s (a + 1)))), (1, .int (Zi (D_see s a))), (0, .ref 83)], [.int (Zi 116), .int (Zi (D_see s (a + 1)))])) (fun _ => rfl) ?_
            refine Z_cne rfl rfl (by first | exact hs.zF _ | exact Zor_r _ _ | exact hs.zA _ _ | assumption | exact zS _ | exact Zr_not (hs.zA _ _) | exact ⟨by omega, by omega⟩) (by first | exact hs.zF _ | exact Zor_r _ _ | exact hs.zA _ _ | assumption | exact zS _ | exact Zr_not (hs.zA _ _) | exact ⟨by omega, by omega⟩) (fun c14 => ?_) (fun c14 => ?_)
            · refine Z_go (f2 := (97, [(2, .int (Zi (D_see s (a + 1)))), (1, .int (Zi (D_see s a))), (0, .ref 83)], [.int (Zi (D_see s (a + 1)))])) (fun _ => rfl) ?_
              refine Z_iret rfl rfl (by first | rfl | decide | exact narrow_b01 (by omega)) ⟨_, hs, ?_, rfl⟩
              have e : D_one (D_see s) a f p = (D_see s (a + 1), a + 1 + 1, f, p) := by
                unfold D_one
                try dsimp only
                repeat' split
                all_goals first
                  | (exfalso; unfold D_sgn D_let D_dig at *; omega)
                  | (refine Prod.ext ?_ (Prod.ext ?_ (Prod.ext ?_ ?_)) <;> first | rfl | (dsimp only; omega))
              rw [e]
              exact ⟨rfl, rfl⟩
            · refine Z_go (f2 := (93, [(2, .int (Zi (D_see s (a + 1)))), (1, .int (Zi (D_see s a))), (0, .ref 83)], [.int (Zi 9)])) (fun _ => rfl) ?_
              refine Z_go (f2 := (97, [(2, .int (Zi (D_see s (a + 1)))), (1, .int (Zi (D_see s a))), (0, .ref 83)], [.int (Zi 9)])) (fun _ => rfl) ?_
              refine Z_iret rfl rfl (by first | rfl | decide | exact narrow_b01 (by omega)) ⟨_, hs, ?_, rfl⟩
              have e : D_one (D_see s) a f p = (9, a + 1 + 1, f, p) := by
                unfold D_one
                try dsimp only
                repeat' split
                all_goals first
                  | (exfalso; unfold D_sgn D_let D_dig at *; omega)
                  | (refine Prod.ext ?_ (Prod.ext ?_ (Prod.ext ?_ ?_)) <;> first | rfl | (dsimp only; omega))
              rw [e]
              exact ⟨rfl, rfl⟩
          · refine Z_go (f2 := (82, [(2, .int (Zi (D_see s (a + 1)))), (1, .int (Zi (D_see s a))), (0, .ref 83)], [.int (Zi 10)])) (fun _ => rfl) ?_
            refine Z_go (f2 := (97, [(2, .int (Zi (D_see s (a + 1)))), (1, .int (Zi (D_see s a))), (0, .ref 83)], [.int (Zi 10)])) (fun _ => rfl) ?_
            refine Z_iret rfl rfl (by first | rfl | decide | exact narrow_b01 (by omega)) ⟨_, hs, ?_, rfl⟩
            have e : D_one (D_see s) a f p = (10, a + 1 + 1, f, p) := by
              unfold D_one
              try dsimp only
              repeat' split
              all_goals first
                | (exfalso; unfold D_sgn D_let D_dig at *; omega)
                | (refine Prod.ext ?_ (Prod.ext ?_ (Prod.ext ?_ ?_)) <;> first | rfl | (dsimp only; omega))
            rw [e]
            exact ⟨rfl, rfl⟩
        · refine Z_go (f2 := (54, [(2, .int (Zi (D_see s (a + 1)))), (1, .int (Zi (D_see s a))), (0, .ref 83)], [.ref 83])) (fun _ => rfl) ?_
          refine Z_go (f2 := (55, [(2, .int (Zi (D_see s (a + 1)))), (1, .int (Zi (D_see s a))), (0, .ref 83)], [.int (Zi 1), .ref 83])) (fun _ => rfl) ?_
          refine Z_go (f2 := (56, [(2, .int (Zi (D_see s (a + 1)))), (1, .int (Zi (D_see s a))), (0, .ref 83)], [.ref 83, .int (Zi 1), .ref 83])) (fun _ => rfl) ?_
          refine R_gi rfl hs rfl ?_
          show B_R _ _ (59, [(2, .int (Zi (D_see s (a + 1)))), (1, .int (Zi (D_see s a))), (0, .ref 83)], [.int (Zi (a + 1)), .int (Zi 1), .ref 83]) _ _ _
          refine R_call (As := [.int (Zi 1), .int (Zi (a + 1))]) (rest := []) rfl (by decide) rfl rfl rfl rfl (by decide +kernel) (Nat.le_of_ble_eq_true rfl) hs (R_fail2 _ s (a + 1) f p (by first | assumption | exact hs.zF _ | exact hs.zA _ _ | exact zS _ | exact ⟨by omega, by omega⟩ | omega) (by first | assumption | exact hs.zF _ | exact hs.zA _ _ | exact zS _ | exact ⟨by omega, by omega⟩ | omega)) (fun x h s2 hs q => ?_)
          obtain ⟨rfl, q1⟩ := q
          rw [q1] at hs
          show B_R _ _ (62, [(2, .int (Zi (D_see s (a + 1)))), (1, .int (Zi (D_see s a))), (0, .ref 83)], []) _ _ _
          refine Z_go (f2 := (63, [(2, .int (Zi (D_see s (a + 1)))), (1, .int (Zi (D_see s a))), (0, .ref 83)], [.int (Zi (-1))])) (fun _ => rfl) ?_
          refine Z_iret rfl rfl (by first | rfl | decide | exact narrow_b01 (by omega)) ⟨_, hs, ?_, rfl⟩
          have e : D_one (D_see s) a f p = (-1, a + 1, (D_ff f p 1 (a + 1)).1, (D_ff f p 1 (a + 1)).2) := by
            unfold D_one
            try dsimp only
            repeat' split
            all_goals first
              | (exfalso; unfold D_sgn D_let D_dig at *; omega)
              | (refine Prod.ext ?_ (Prod.ext ?_ (Prod.ext ?_ ?_)) <;> first | rfl | (dsimp only; omega))
          rw [e]
          exact ⟨rfl, rfl⟩
theorem R_number (d : Nat) (s : R_S) (a f p : Int)   (a0 : 0 ≤ a) (a1 : a ≤ s.1 1) (t1 : s.1 1 ≤ 80) (tb : ∀ j, 0 ≤ s.2.1 84 j ∧ s.2.1 84 j < 256) : R_ok (d + 2) 211 [] (R_p3 s a f p) (fun x s2 => x = some (.int (Zi (D_num (D_see s) a f p).1)) ∧ s2 = R_p3 s (D_num (D_see s) a f p).2.1 (D_num (D_see s) a f p).2.2.1 (D_num (D_see s) a f p).2.2.2) := by
  refine R_enter (M := E_m211) rfl (Nat.le_of_ble_eq_true rfl) (fun h0 h hs => ?_)
  show B_R (d + 1) _ (0, [(0, .ref 83)], []) _ _ _
  have zb : ∀ k, -1 ≤ D_see s k ∧ D_see s k < 256 := fun k => by have := tb k; unfold D_see; split <;> omega
  have zb0 := zb a
  have zb1 := zb (a + 1)
  have zS : ∀ k, Zr (D_see s k) := fun k => by unfold D_see; split; exact hs.zA 84 k; exact ⟨by omega, by omega⟩
  have sn : ∀ k, s.1 1 ≤ k → D_see s k = -1 := fun k hk => by unfold D_see; rw [if_neg (by omega)]
  have sn0 := sn a
  have sn1 := sn (a + 1)
  refine Z_go (f2 := (1, [(0, .ref 83)], [.ref 83])) (fun _ => rfl) ?_
  refine Z_go (f2 := (2, [(0, .ref 83)], [.ref 83, .ref 83])) (fun _ => rfl) ?_
  refine R_gi rfl hs rfl ?_
  show B_R _ _ (5, [(0, .ref 83)], [.int (Zi a), .ref 83]) _ _ _
  refine R_call (As := [.int (Zi a)]) (rest := []) rfl (by decide) rfl rfl rfl rfl (by decide +kernel) (Nat.le_of_ble_eq_true rfl) hs (R_see2 _ _ (by first | assumption | exact hs.zF _ | exact hs.zA _ _ | exact zS _ | exact ⟨by omega, by omega⟩ | omega) (by first | assumption | exact hs.zF _ | exact hs.zA _ _ | exact zS _ | exact ⟨by omega, by omega⟩ | omega) (show s.1 1 ≤ 1000 by omega)) (fun x h s2 hs q => ?_)
  obtain ⟨q0, rfl⟩ := q
  rw [q0] at hs
  show B_R _ _ (8, [(0, .ref 83)], [.int (Zi (D_see s a))]) _ _ _
  refine Z_callQ (vs := [.int (Zi (D_see s a))]) (rest := []) rfl (by decide) rfl rfl rfl (Nat.le_of_ble_eq_true rfl) (R_isDigit _ (by first | assumption | exact hs.zF _ | exact hs.zA _ _ | exact zS _ | exact ⟨by omega, by omega⟩ | omega)) (fun x q => ?_)
  obtain ⟨v, rfl, hv⟩ := q
  have hvu := hv
  unfold D_dig at hvu
  show B_R _ _ (11, [(0, .ref 83)], [.int (Zi v)]) _ _ _
  refine Z_ine rfl rfl (by first | exact hs.zF _ | exact Zor_r _ _ | exact hs.zA _ _ | assumption | exact zS _ | exact Zr_not (hs.zA _ _) | exact ⟨by omega, by omega⟩) (fun c1 => ?_) (fun c1 => ?_)
  · refine Z_go (f2 := (26, [(0, .ref 83)], [.ref 83])) (fun _ => rfl) ?_
    refine R_gi rfl hs rfl ?_
    show B_R _ _ (29, [(0, .ref 83)], [.int (Zi a)]) _ _ _
    refine Z_go (f2 := (30, [(1, .int (Zi a)), (0, .ref 83)], [])) (fun _ => rfl) ?_
    refine Z_go (f2 := (31, [(1, .int (Zi a)), (0, .ref 83)], [.ref 83])) (fun _ => rfl) ?_
    refine Z_go (f2 := (32, [(1, .int (Zi a)), (0, .ref 83)], [.ref 83, .ref 83])) (fun _ => rfl) ?_
    refine R_gi rfl hs rfl ?_
    show B_R _ _ (35, [(1, .int (Zi a)), (0, .ref 83)], [.int (Zi a), .ref 83]) _ _ _
    refine R_call (As := [.int (Zi a)]) (rest := []) rfl (by decide) rfl rfl rfl rfl (by decide +kernel) (Nat.le_of_ble_eq_true rfl) hs (R_see2 _ _ (by first | assumption | exact hs.zF _ | exact hs.zA _ _ | exact zS _ | exact ⟨by omega, by omega⟩ | omega) (by first | assumption | exact hs.zF _ | exact hs.zA _ _ | exact zS _ | exact ⟨by omega, by omega⟩ | omega) (show s.1 1 ≤ 1000 by omega)) (fun x h s2 hs q => ?_)
    obtain ⟨q0, rfl⟩ := q
    rw [q0] at hs
    show B_R _ _ (38, [(1, .int (Zi a)), (0, .ref 83)], [.int (Zi (D_see s a))]) _ _ _
    refine Z_go (f2 := (40, [(1, .int (Zi a)), (0, .ref 83)], [.int (Zi 48), .int (Zi (D_see s a))])) (fun _ => rfl) ?_
    refine Z_isub rfl ?_
    refine Z_go (f2 := (42, [(2, .int (Zi (D_see s a - 48))), (1, .int (Zi a)), (0, .ref 83)], [])) (fun _ => rfl) ?_
    refine Z_go (f2 := (43, [(2, .int (Zi (D_see s a - 48))), (1, .int (Zi a)), (0, .ref 83)], [.ref 83])) (fun _ => rfl) ?_
    refine Z_go (f2 := (44, [(2, .int (Zi (D_see s a - 48))), (1, .int (Zi a)), (0, .ref 83)], [.ref 83, .ref 83])) (fun _ => rfl) ?_
    refine R_gi rfl hs rfl ?_
    show B_R _ _ (47, [(2, .int (Zi (D_see s a - 48))), (1, .int (Zi a)), (0, .ref 83)], [.int (Zi a), .ref 83]) _ _ _
    refine Z_go (f2 := (48, [(2, .int (Zi (D_see s a - 48))), (1, .int (Zi a)), (0, .ref 83)], [.int (Zi 1), .int (Zi a), .ref 83])) (fun _ => rfl) ?_
    refine Z_iadd rfl ?_
    refine R_pf rfl hs rfl (by first | exact hs.zF _ | exact Zor_r _ _ | exact hs.zA _ _ | assumption | exact zS _ | exact Zr_not (hs.zA _ _) | exact ⟨by omega, by omega⟩) ⟨rfl, rfl, rfl⟩ (fun h hs => ?_)
    rw [R_p3_16] at hs
    refine Z_go (f2 := (53, [(2, .int (Zi (D_see s a - 48))), (1, .int (Zi a)), (0, .ref 83)], [.ref 83])) (fun _ => rfl) ?_
    refine Z_go (f2 := (54, [(2, .int (Zi (D_see s a - 48))), (1, .int (Zi a)), (0, .ref 83)], [.ref 83, .ref 83])) (fun _ => rfl) ?_
    refine R_gi rfl hs rfl ?_
    show B_R _ _ (57, [(2, .int (Zi (D_see s a - 48))), (1, .int (Zi a)), (0, .ref 83)], [.int (Zi (a + 1)), .ref 83]) _ _ _
    refine R_call (As := [.int (Zi (a + 1))]) (rest := []) rfl (by decide) rfl rfl rfl rfl (by decide +kernel) (Nat.le_of_ble_eq_true rfl) hs (R_see2 _ _ (by first | assumption | exact hs.zF _ | exact hs.zA _ _ | exact zS _ | exact ⟨by omega, by omega⟩ | omega) (by first | assumption | exact hs.zF _ | exact hs.zA _ _ | exact zS _ | exact ⟨by omega, by omega⟩ | omega) (show s.1 1 ≤ 1000 by omega)) (fun x h s2 hs q => ?_)
    obtain ⟨q0, rfl⟩ := q
    rw [q0] at hs
    show B_R _ _ (60, [(2, .int (Zi (D_see s a - 48))), (1, .int (Zi a)), (0, .ref 83)], [.int (Zi (D_see s (a + 1)))]) _ _ _
    refine Z_callQ (vs := [.int (Zi (D_see s (a + 1)))]) (rest := []) rfl (by decide) rfl rfl rfl (Nat.le_of_ble_eq_true rfl) (R_isDigit _ (by first | assumption | exact hs.zF _ | exact hs.zA _ _ | exact zS _ | exact ⟨by omega, by omega⟩ | omega)) (fun x q => ?_)
    obtain ⟨v, rfl, hv⟩ := q
    have hvu := hv
    unfold D_dig at hvu
    show B_R _ _ (63, [(2, .int (Zi (D_see s a - 48))), (1, .int (Zi a)), (0, .ref 83)], [.int (Zi v)]) _ _ _
    refine Z_ieq rfl rfl (by first | exact hs.zF _ | exact Zor_r _ _ | exact hs.zA _ _ | assumption | exact zS _ | exact Zr_not (hs.zA _ _) | exact ⟨by omega, by omega⟩) (fun c2 => ?_) (fun c2 => ?_)
    · refine Z_go (f2 := (94, [(2, .int (Zi (D_see s a - 48))), (1, .int (Zi a)), (0, .ref 83)], [.int (Zi (D_see s a - 48))])) (fun _ => rfl) ?_
      refine Z_go (f2 := (96, [(2, .int (Zi (D_see s a - 48))), (1, .int (Zi a)), (0, .ref 83)], [.int (Zi 20), .int (Zi (D_see s a - 48))])) (fun _ => rfl) ?_
      refine Z_cle rfl rfl (by first | exact hs.zF _ | exact Zor_r _ _ | exact hs.zA _ _ | assumption | exact zS _ | exact Zr_not (hs.zA _ _) | exact ⟨by omega, by omega⟩) (by first | exact hs.zF _ | exact Zor_r _ _ | exact hs.zA _ _ | assumption | exact zS _ | exact Zr_not (hs.zA _ _) | exact ⟨by omega, by omega⟩) (fun c3 => ?_) (fun c3 => ?_)
      · refine Z_go (f2 := (106, [(2, .int (Zi (D_see s a - 48))), (1, .int (Zi a)), (0, .ref 83)], [.int (Zi (D_see s a - 48))])) (fun _ => rfl) ?_
        refine Z_iret rfl rfl (by first | rfl | decide | exact narrow_b01 (by omega)) ⟨_, hs, ?_, rfl⟩
        have e : D_num (D_see s) a f p = (D_see s a - 48, a + 1, f, p) := by
          unfold D_num
          try dsimp only
          repeat' split
          all_goals first
            | (exfalso; unfold D_dig at *; omega)
            | (refine Prod.ext ?_ (Prod.ext ?_ (Prod.ext ?_ ?_)) <;> first | rfl | (dsimp only; omega))
        rw [e]
        exact ⟨rfl, rfl⟩
      · refine Z_go (f2 := (100, [(2, .int (Zi (D_see s a - 48))), (1, .int (Zi a)), (0, .ref 83)], [.ref 83])) (fun _ => rfl) ?_
        refine Z_go (f2 := (101, [(2, .int (Zi (D_see s a - 48))), (1, .int (Zi a)), (0, .ref 83)], [.int (Zi 3), .ref 83])) (fun _ => rfl) ?_
        refine Z_go (f2 := (102, [(2, .int (Zi (D_see s a - 48))), (1, .int (Zi a)), (0, .ref 83)], [.int (Zi a), .int (Zi 3), .ref 83])) (fun _ => rfl) ?_
        refine R_call (As := [.int (Zi 3), .int (Zi a)]) (rest := []) rfl (by decide) rfl rfl rfl rfl (by decide +kernel) (Nat.le_of_ble_eq_true rfl) hs (R_fail2 _ s (a + 1) f p (by first | assumption | exact hs.zF _ | exact hs.zA _ _ | exact zS _ | exact ⟨by omega, by omega⟩ | omega) (by first | assumption | exact hs.zF _ | exact hs.zA _ _ | exact zS _ | exact ⟨by omega, by omega⟩ | omega)) (fun x h s2 hs q => ?_)
        obtain ⟨rfl, q1⟩ := q
        rw [q1] at hs
        show B_R _ _ (105, [(2, .int (Zi (D_see s a - 48))), (1, .int (Zi a)), (0, .ref 83)], []) _ _ _
        refine Z_go (f2 := (106, [(2, .int (Zi (D_see s a - 48))), (1, .int (Zi a)), (0, .ref 83)], [.int (Zi (D_see s a - 48))])) (fun _ => rfl) ?_
        refine Z_iret rfl rfl (by first | rfl | decide | exact narrow_b01 (by omega)) ⟨_, hs, ?_, rfl⟩
        have e : D_num (D_see s) a f p = (D_see s a - 48, a + 1, (D_ff f p 3 a).1, (D_ff f p 3 a).2) := by
          unfold D_num
          try dsimp only
          repeat' split
          all_goals first
            | (exfalso; unfold D_dig at *; omega)
            | (refine Prod.ext ?_ (Prod.ext ?_ (Prod.ext ?_ ?_)) <;> first | rfl | (dsimp only; omega))
        rw [e]
        exact ⟨rfl, rfl⟩
    · refine Z_go (f2 := (68, [(2, .int (Zi (D_see s a - 48))), (1, .int (Zi a)), (0, .ref 83)], [.int (Zi 10)])) (fun _ => rfl) ?_
      refine Z_go (f2 := (69, [(2, .int (Zi (D_see s a - 48))), (1, .int (Zi a)), (0, .ref 83)], [.int (Zi (D_see s a - 48)), .int (Zi 10)])) (fun _ => rfl) ?_
      refine Z_imul rfl ?_
      refine Z_go (f2 := (71, [(2, .int (Zi (D_see s a - 48))), (1, .int (Zi a)), (0, .ref 83)], [.ref 83, .int (Zi (10 * (D_see s a - 48)))])) (fun _ => rfl) ?_
      refine Z_go (f2 := (72, [(2, .int (Zi (D_see s a - 48))), (1, .int (Zi a)), (0, .ref 83)], [.ref 83, .ref 83, .int (Zi (10 * (D_see s a - 48)))])) (fun _ => rfl) ?_
      refine R_gi rfl hs rfl ?_
      show B_R _ _ (75, [(2, .int (Zi (D_see s a - 48))), (1, .int (Zi a)), (0, .ref 83)], [.int (Zi (a + 1)), .ref 83, .int (Zi (10 * (D_see s a - 48)))]) _ _ _
      refine R_call (As := [.int (Zi (a + 1))]) (rest := [.int (Zi (10 * (D_see s a - 48)))]) rfl (by decide) rfl rfl rfl rfl (by decide +kernel) (Nat.le_of_ble_eq_true rfl) hs (R_see2 _ _ (by first | assumption | exact hs.zF _ | exact hs.zA _ _ | exact zS _ | exact ⟨by omega, by omega⟩ | omega) (by first | assumption | exact hs.zF _ | exact hs.zA _ _ | exact zS _ | exact ⟨by omega, by omega⟩ | omega) (show s.1 1 ≤ 1000 by omega)) (fun x h s2 hs q => ?_)
      obtain ⟨q0, rfl⟩ := q
      rw [q0] at hs
      show B_R _ _ (78, [(2, .int (Zi (D_see s a - 48))), (1, .int (Zi a)), (0, .ref 83)], [.int (Zi (D_see s (a + 1))), .int (Zi (10 * (D_see s a - 48)))]) _ _ _
      refine Z_iadd rfl ?_
      refine Z_go (f2 := (81, [(2, .int (Zi (D_see s a - 48))), (1, .int (Zi a)), (0, .ref 83)], [.int (Zi 48), .int (Zi (10 * (D_see s a - 48) + (D_see s (a + 1))))])) (fun _ => rfl) ?_
      refine Z_isub rfl ?_
      refine Z_go (f2 := (83, [(2, .int (Zi (10 * (D_see s a - 48) + (D_see s (a + 1)) - 48))), (1, .int (Zi a)), (0, .ref 83)], [])) (fun _ => rfl) ?_
      refine Z_go (f2 := (84, [(2, .int (Zi (10 * (D_see s a - 48) + (D_see s (a + 1)) - 48))), (1, .int (Zi a)), (0, .ref 83)], [.ref 83])) (fun _ => rfl) ?_
      refine Z_go (f2 := (85, [(2, .int (Zi (10 * (D_see s a - 48) + (D_see s (a + 1)) - 48))), (1, .int (Zi a)), (0, .ref 83)], [.ref 83, .ref 83])) (fun _ => rfl) ?_
      refine R_gi rfl hs rfl ?_
      show B_R _ _ (88, [(2, .int (Zi (10 * (D_see s a - 48) + (D_see s (a + 1)) - 48))), (1, .int (Zi a)), (0, .ref 83)], [.int (Zi (a + 1)), .ref 83]) _ _ _
      refine Z_go (f2 := (89, [(2, .int (Zi (10 * (D_see s a - 48) + (D_see s (a + 1)) - 48))), (1, .int (Zi a)), (0, .ref 83)], [.int (Zi 1), .int (Zi (a + 1)), .ref 83])) (fun _ => rfl) ?_
      refine Z_iadd rfl ?_
      refine R_pf rfl hs rfl (by first | exact hs.zF _ | exact Zor_r _ _ | exact hs.zA _ _ | assumption | exact zS _ | exact Zr_not (hs.zA _ _) | exact ⟨by omega, by omega⟩) ⟨rfl, rfl, rfl⟩ (fun h hs => ?_)
      rw [R_p3_16] at hs
      refine Z_go (f2 := (94, [(2, .int (Zi (10 * (D_see s a - 48) + (D_see s (a + 1)) - 48))), (1, .int (Zi a)), (0, .ref 83)], [.int (Zi (10 * (D_see s a - 48) + (D_see s (a + 1)) - 48))])) (fun _ => rfl) ?_
      refine Z_go (f2 := (96, [(2, .int (Zi (10 * (D_see s a - 48) + (D_see s (a + 1)) - 48))), (1, .int (Zi a)), (0, .ref 83)], [.int (Zi 20), .int (Zi (10 * (D_see s a - 48) + (D_see s (a + 1)) - 48))])) (fun _ => rfl) ?_
      refine Z_cle rfl rfl (by first | exact hs.zF _ | exact Zor_r _ _ | exact hs.zA _ _ | assumption | exact zS _ | exact Zr_not (hs.zA _ _) | exact ⟨by omega, by omega⟩) (by first | exact hs.zF _ | exact Zor_r _ _ | exact hs.zA _ _ | assumption | exact zS _ | exact Zr_not (hs.zA _ _) | exact ⟨by omega, by omega⟩) (fun c4 => ?_) (fun c4 => ?_)
      · refine Z_go (f2 := (106, [(2, .int (Zi (10 * (D_see s a - 48) + (D_see s (a + 1)) - 48))), (1, .int (Zi a)), (0, .ref 83)], [.int (Zi (10 * (D_see s a - 48) + (D_see s (a + 1)) - 48))])) (fun _ => rfl) ?_
        refine Z_iret rfl rfl (by first | rfl | decide | exact narrow_b01 (by omega)) ⟨_, hs, ?_, rfl⟩
        have e : D_num (D_see s) a f p = (10 * (D_see s a - 48) + (D_see s (a + 1)) - 48, a + 1 + 1, f, p) := by
          unfold D_num
          try dsimp only
          repeat' split
          all_goals first
            | (exfalso; unfold D_dig at *; omega)
            | (refine Prod.ext ?_ (Prod.ext ?_ (Prod.ext ?_ ?_)) <;> first | rfl | (dsimp only; omega))
        rw [e]
        exact ⟨rfl, rfl⟩
      · refine Z_go (f2 := (100, [(2, .int (Zi (10 * (D_see s a - 48) + (D_see s (a + 1)) - 48))), (1, .int (Zi a)), (0, .ref 83)], [.ref 83])) (fun _ => rfl) ?_
        refine Z_go (f2 := (101, [(2, .int (Zi (10 * (D_see s a - 48) + (D_see s (a + 1)) - 48))), (1, .int (Zi a)), (0, .ref 83)], [.int (Zi 3), .ref 83])) (fun _ => rfl) ?_
        refine Z_go (f2 := (102, [(2, .int (Zi (10 * (D_see s a - 48) + (D_see s (a + 1)) - 48))), (1, .int (Zi a)), (0, .ref 83)], [.int (Zi a), .int (Zi 3), .ref 83])) (fun _ => rfl) ?_
        refine R_call (As := [.int (Zi 3), .int (Zi a)]) (rest := []) rfl (by decide) rfl rfl rfl rfl (by decide +kernel) (Nat.le_of_ble_eq_true rfl) hs (R_fail2 _ s (a + 1 + 1) f p (by first | assumption | exact hs.zF _ | exact hs.zA _ _ | exact zS _ | exact ⟨by omega, by omega⟩ | omega) (by first | assumption | exact hs.zF _ | exact hs.zA _ _ | exact zS _ | exact ⟨by omega, by omega⟩ | omega)) (fun x h s2 hs q => ?_)
        obtain ⟨rfl, q1⟩ := q
        rw [q1] at hs
        show B_R _ _ (105, [(2, .int (Zi (10 * (D_see s a - 48) + (D_see s (a + 1)) - 48))), (1, .int (Zi a)), (0, .ref 83)], []) _ _ _
        refine Z_go (f2 := (106, [(2, .int (Zi (10 * (D_see s a - 48) + (D_see s (a + 1)) - 48))), (1, .int (Zi a)), (0, .ref 83)], [.int (Zi (10 * (D_see s a - 48) + (D_see s (a + 1)) - 48))])) (fun _ => rfl) ?_
        refine Z_iret rfl rfl (by first | rfl | decide | exact narrow_b01 (by omega)) ⟨_, hs, ?_, rfl⟩
        have e : D_num (D_see s) a f p = (10 * (D_see s a - 48) + (D_see s (a + 1)) - 48, a + 1 + 1, (D_ff f p 3 a).1, (D_ff f p 3 a).2) := by
          unfold D_num
          try dsimp only
          repeat' split
          all_goals first
            | (exfalso; unfold D_dig at *; omega)
            | (refine Prod.ext ?_ (Prod.ext ?_ (Prod.ext ?_ ?_)) <;> first | rfl | (dsimp only; omega))
        rw [e]
        exact ⟨rfl, rfl⟩
  · refine Z_go (f2 := (15, [(0, .ref 83)], [.ref 83])) (fun _ => rfl) ?_
    refine Z_go (f2 := (16, [(0, .ref 83)], [.int (Zi 1), .ref 83])) (fun _ => rfl) ?_
    refine Z_go (f2 := (17, [(0, .ref 83)], [.ref 83, .int (Zi 1), .ref 83])) (fun _ => rfl) ?_
    refine R_gi rfl hs rfl ?_
    show B_R _ _ (20, [(0, .ref 83)], [.int (Zi a), .int (Zi 1), .ref 83]) _ _ _
    refine R_call (As := [.int (Zi 1), .int (Zi a)]) (rest := []) rfl (by decide) rfl rfl rfl rfl (by decide +kernel) (Nat.le_of_ble_eq_true rfl) hs (R_fail2 _ s a f p (by first | assumption | exact hs.zF _ | exact hs.zA _ _ | exact zS _ | exact ⟨by omega, by omega⟩ | omega) (by first | assumption | exact hs.zF _ | exact hs.zA _ _ | exact zS _ | exact ⟨by omega, by omega⟩ | omega)) (fun x h s2 hs q => ?_)
    obtain ⟨rfl, q1⟩ := q
    rw [q1] at hs
    show B_R _ _ (23, [(0, .ref 83)], []) _ _ _
    refine Z_go (f2 := (24, [(0, .ref 83)], [.int (Zi (-1))])) (fun _ => rfl) ?_
    refine Z_iret rfl rfl (by first | rfl | decide | exact narrow_b01 (by omega)) ⟨_, hs, ?_, rfl⟩
    have e : D_num (D_see s) a f p = (-1, a, (D_ff f p 1 a).1, (D_ff f p 1 a).2) := by
      unfold D_num
      try dsimp only
      repeat' split
      all_goals first
        | (exfalso; unfold D_dig at *; omega)
        | (refine Prod.ext ?_ (Prod.ext ?_ (Prod.ext ?_ ?_)) <;> first | rfl | (dsimp only; omega))
    rw [e]
    exact ⟨rfl, rfl⟩
