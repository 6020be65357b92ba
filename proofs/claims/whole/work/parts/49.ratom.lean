/-! the reference: the reading of a regex, atoms and counts -/
/-- what an atom leaves behind in operators and sets -/
def R_atp (s w : R_S) : P_A → Prop
  | .inl op => R_ap s w [(op, 0, 0)] []
  | .inr B => R_ap s w [(1, s.1 15, 0)] [B]
def D_esc (S : Int → Int) (a f p : Int) : Int × Int × Int × Int × P_A :=
  if S a = 98 then (1, a + 1, f, p, .inl 4)
  else if P_nm (S a) then (1, a + 1, f, p, .inr (D_kd (S a)))
  else if S a = 110 then (1, a + 1, f, p, .inr (fun x => x = 10))
  else if S a = 116 then (1, a + 1, f, p, .inr (fun x => x = 9))
  else if D_sgn (S a) then (1, a + 1, f, p, .inr (fun x => x = S a))
  else (0, a, (D_ff f p 1 a).1, (D_ff f p 1 a).2, .inl 0)
def D_atom (S : Int → Int) (fold : Prop) (a f p : Int) : Int × Int × Int × Int × P_A :=
  if S a = 94 then (1, a + 1, f, p, .inl 2)
  else if S a = 36 then (1, a + 1, f, p, .inl 3)
  else if S a = 91 then ((D_list S fold (a + 1) f p).1, (D_list S fold (a + 1) f p).2.1, (D_list S fold (a + 1) f p).2.2.1, (D_list S fold (a + 1) f p).2.2.2.1, .inr (D_list S fold (a + 1) f p).2.2.2.2)
  else if S a = 92 then D_esc S (a + 1) f p
  else if S a = 46 then (1, a + 1, f, p, .inr (fun x => x ≠ 10))
  else if D_pln (S a) then (1, a + 1, f, p, .inr (P_fold fold (fun x => x = S a)))
  else (0, a + 1, (D_ff f p 1 a).1, (D_ff f p 1 a).2, .inl 0)
def D_cnt (S : Int → Int) (a f p : Int) : Int × Int × Int × Int × Option (Int × Int × Int) :=
  if S a = 42 then (1, a + 1, f, p, some (8, 0, 0))
  else if S a = 43 then (1, a + 1, f, p, some (9, 0, 0))
  else if S a = 63 then (1, a + 1, f, p, some (10, 0, 0))
  else if S a = 123 then
    (let q := D_num S (a + 1) f p
     if q.1 = -1 then (0, q.2.1, q.2.2.1, q.2.2.2, none)
     else if S q.2.1 = 44 then
       (if S (q.2.1 + 1) = 125 then (1, q.2.1 + 2, q.2.2.1, q.2.2.2, some (11, q.1, -1))
        else
          let r := D_num S (q.2.1 + 1) q.2.2.1 q.2.2.2
          if r.1 = -1 then (0, r.2.1, r.2.2.1, r.2.2.2, none)
          else if r.1 < q.1 then
            (if S r.2.1 = 125 then (1, r.2.1 + 1, (D_ff r.2.2.1 r.2.2.2 2 (q.2.1 + 1)).1, (D_ff r.2.2.1 r.2.2.2 2 (q.2.1 + 1)).2, some (11, q.1, r.1))
             else (0, r.2.1, (D_ff (D_ff r.2.2.1 r.2.2.2 2 (q.2.1 + 1)).1 (D_ff r.2.2.1 r.2.2.2 2 (q.2.1 + 1)).2 1 r.2.1).1, (D_ff (D_ff r.2.2.1 r.2.2.2 2 (q.2.1 + 1)).1 (D_ff r.2.2.1 r.2.2.2 2 (q.2.1 + 1)).2 1 r.2.1).2, none))
          else if S r.2.1 = 125 then (1, r.2.1 + 1, r.2.2.1, r.2.2.2, some (11, q.1, r.1))
          else (0, r.2.1, (D_ff r.2.2.1 r.2.2.2 1 r.2.1).1, (D_ff r.2.2.1 r.2.2.2 1 r.2.1).2, none))
     else if S q.2.1 = 125 then (1, q.2.1 + 1, q.2.2.1, q.2.2.2, some (11, q.1, q.1))
     else (0, q.2.1, (D_ff q.2.2.1 q.2.2.2 1 q.2.1).1, (D_ff q.2.2.1 q.2.2.2 1 q.2.1).2, none))
  else (1, a, f, p, none)
def R_cnp (s w : R_S) : Option (Int × Int × Int) → Prop
  | none => R_ap s w [] []
  | some e => R_ap s w [e] []
theorem R_counted (d : Nat) (s : R_S) (a f p : Int)   (a0 : 0 ≤ a) (a1 : a ≤ s.1 1) (t1 : s.1 1 ≤ 80) (tb : ∀ j, 0 ≤ s.2.1 84 j ∧ s.2.1 84 j < 256) (p0 : 0 ≤ s.1 13) (p1 : s.1 13 < 400) : R_ok (d + 3) 210 [] (R_p3 s a f p) (fun x s2 => x = some (.int (Zi (D_cnt (D_see s) a f p).1)) ∧ ∃ w2, s2 = R_p3 w2 (D_cnt (D_see s) a f p).2.1 (D_cnt (D_see s) a f p).2.2.1 (D_cnt (D_see s) a f p).2.2.2.1 ∧ ((D_cnt (D_see s) a f p).1 = 0 ∧ R_ap s w2 [] [] ∨ (D_cnt (D_see s) a f p).1 = 1 ∧ R_cnp s w2 (D_cnt (D_see s) a f p).2.2.2.2)) := by
  refine R_enter (M := E_m210) rfl (Nat.le_of_ble_eq_true rfl) (fun h0 h hs => ?_)
  show B_R (d + 2) _ (0, [(0, .ref 83)], []) _ _ _
  have zb : ∀ k, -1 ≤ D_see s k ∧ D_see s k < 256 := fun k => by have := tb k; unfold D_see; split <;> omega
  have zb0 := zb a
  have zb1 := zb (a + 1)
  have zS : ∀ k, Zr (D_see s k) := fun k => by unfold D_see; split; exact hs.zA 84 k; exact ⟨by omega, by omega⟩
  have sn : ∀ k, s.1 1 ≤ k → D_see s k = -1 := fun k hk => by unfold D_see; rw [if_neg (by omega)]
  have sn0 := sn a
  have sn1 := sn (a + 1)
  refine Z_go (f2 := (1, [(0, .ref 83)], [.ref 83])) (fun _ => rfl) ?_
  refine Z_go (f2 := (2, [(0, .ref 83)], [.ref 83, .ref 83])) (fun _ => rfl) ?_
  refine R_gi rfl hs rfl ?_
  show B_R _ _ (5, [(0, .ref 83)], [.int (Zi a), .ref 83]) _ _ _
  refine R_call (As := [.int (Zi a)]) (rest := []) rfl (by decide) rfl rfl rfl rfl (by decide +kernel) (Nat.le_of_ble_eq_true rfl) hs (R_see2 _ _ (by first | assumption | exact hs.zF _ | exact hs.zA _ _ | exact zS _ | exact ⟨by omega, by omega⟩ | omega) (by first | assumption | exact hs.zF _ | exact hs.zA _ _ | exact zS _ | exact ⟨by omega, by omega⟩ | omega) (show s.1 1 ≤ 1000 by omega)) (fun x h s2 hs q => ?_)
  obtain ⟨q0, rfl⟩ := q
  rw [q0] at hs
  rw [R_p3_see]
  show B_R _ _ (8, [(0, .ref 83)], [.int (Zi (D_see s a))]) _ _ _
  refine Z_go (f2 := (9, [(1, .int (Zi (D_see s a))), (0, .ref 83)], [])) (fun _ => rfl) ?_
  refine Z_go (f2 := (10, [(1, .int (Zi (D_see s a))), (0, .ref 83)], [.int (Zi (D_see s a))])) (fun _ => rfl) ?_
  refine Z_go (f2 := (12, [(1, .int (Zi (D_see s a))), (0, .ref 83)], [.int (Zi 42), .int (Zi (D_see s a))])) (fun _ => rfl) ?_
  refine Z_ceq rfl rfl (by first | exact hs.zF _ | exact Zor_r _ _ | exact hs.zA _ _ | assumption | exact zS _ | exact Zr_not (hs.zA _ _) | exact ⟨by omega, by omega⟩) (by first | exact hs.zF _ | exact Zor_r _ _ | exact hs.zA _ _ | assumption | exact zS _ | exact Zr_not (hs.zA _ _) | exact ⟨by omega, by omega⟩) (fun c1 => ?_) (fun c1 => ?_)
  · refine Z_go (f2 := (28, [(1, .int (Zi (D_see s a))), (0, .ref 83)], [.ref 83])) (fun _ => rfl) ?_
    refine Z_go (f2 := (29, [(1, .int (Zi (D_see s a))), (0, .ref 83)], [.int (Zi (D_see s a)), .ref 83])) (fun _ => rfl) ?_
    refine Z_go (f2 := (31, [(1, .int (Zi (D_see s a))), (0, .ref 83)], [.int (Zi 42), .int (Zi (D_see s a)), .ref 83])) (fun _ => rfl) ?_
    refine Z_cne rfl rfl (by first | exact hs.zF _ | exact Zor_r _ _ | exact hs.zA _ _ | assumption | exact zS _ | exact Zr_not (hs.zA _ _) | exact ⟨by omega, by omega⟩) (by first | exact hs.zF _ | exact Zor_r _ _ | exact hs.zA _ _ | assumption | exact zS _ | exact Zr_not (hs.zA _ _) | exact ⟨by omega, by omega⟩) (fun c2 => ?_) (fun c2 => ?_)
    · refine Z_go (f2 := (40, [(1, .int (Zi (D_see s a))), (0, .ref 83)], [.int (Zi (D_see s a)), .ref 83])) (fun _ => rfl) ?_
      refine Z_go (f2 := (42, [(1, .int (Zi (D_see s a))), (0, .ref 83)], [.int (Zi 43), .int (Zi (D_see s a)), .ref 83])) (fun _ => rfl) ?_
      refine Z_cne rfl rfl (by first | exact hs.zF _ | exact Zor_r _ _ | exact hs.zA _ _ | assumption | exact zS _ | exact Zr_not (hs.zA _ _) | exact ⟨by omega, by omega⟩) (by first | exact hs.zF _ | exact Zor_r _ _ | exact hs.zA _ _ | assumption | exact zS _ | exact Zr_not (hs.zA _ _) | exact ⟨by omega, by omega⟩) (fun c3 => ?_) (fun c3 => ?_)
      · refine Z_go (f2 := (52, [(1, .int (Zi (D_see s a))), (0, .ref 83)], [.int (Zi 10), .ref 83])) (fun _ => rfl) ?_
        refine Z_go (f2 := (53, [(1, .int (Zi (D_see s a))), (0, .ref 83)], [.int (Zi 0), .int (Zi 10), .ref 83])) (fun _ => rfl) ?_
        refine Z_go (f2 := (54, [(1, .int (Zi (D_see s a))), (0, .ref 83)], [.int (Zi 0), .int (Zi 0), .int (Zi 10), .ref 83])) (fun _ => rfl) ?_
        refine R_call (As := [.int (Zi 10), .int (Zi 0), .int (Zi 0)]) (rest := []) rfl (by decide) rfl rfl rfl rfl (by decide +kernel) (Nat.le_of_ble_eq_true rfl) hs (R_emit2 _ s a f p (by first | assumption | exact hs.zF _ | exact hs.zA _ _ | exact zS _ | exact ⟨by omega, by omega⟩ | omega) (by first | assumption | exact hs.zF _ | exact hs.zA _ _ | exact zS _ | exact ⟨by omega, by omega⟩ | omega) (by first | assumption | exact hs.zF _ | exact hs.zA _ _ | exact zS _ | exact ⟨by omega, by omega⟩ | omega) (by omega) (by omega)) (fun x h s2 hs q => ?_)
        obtain ⟨rfl, q1⟩ := q
        rw [q1] at hs
        show B_R _ _ (57, [(1, .int (Zi (D_see s a))), (0, .ref 83)], []) _ _ _
        refine Z_go (f2 := (58, [(1, .int (Zi (D_see s a))), (0, .ref 83)], [.ref 83])) (fun _ => rfl) ?_
        refine Z_go (f2 := (59, [(1, .int (Zi (D_see s a))), (0, .ref 83)], [.ref 83, .ref 83])) (fun _ => rfl) ?_
        refine R_gi rfl hs rfl ?_
        show B_R _ _ (62, [(1, .int (Zi (D_see s a))), (0, .ref 83)], [.int (Zi a), .ref 83]) _ _ _
        refine Z_go (f2 := (63, [(1, .int (Zi (D_see s a))), (0, .ref 83)], [.int (Zi 1), .int (Zi a), .ref 83])) (fun _ => rfl) ?_
        refine Z_iadd rfl ?_
        refine R_pf rfl hs rfl (by first | exact hs.zF _ | exact Zor_r _ _ | exact hs.zA _ _ | assumption | exact zS _ | exact Zr_not (hs.zA _ _) | exact ⟨by omega, by omega⟩) ⟨rfl, rfl, rfl⟩ (fun h hs => ?_)
        rw [R_p3_16] at hs
        refine Z_go (f2 := (68, [(1, .int (Zi (D_see s a))), (0, .ref 83)], [.int (Zi 1)])) (fun _ => rfl) ?_
        refine Z_iret rfl rfl (by first | rfl | decide | exact narrow_b01 (by omega)) ⟨_, hs, ?_, rfl⟩
        have e : D_cnt (D_see s) a f p = (1, a + 1, f, p, some (10, 0, 0)) := by
          unfold D_cnt
          try dsimp only
          repeat first
            | rw [if_pos (by first | omega | (unfold P_nm; omega) | (unfold D_sgn D_let D_dig; omega) | (unfold D_pln; omega))]
            | rw [if_neg (by first | omega | (unfold P_nm; omega) | (unfold D_sgn D_let D_dig; omega) | (unfold D_pln; omega))]
          try (refine Prod.ext ?_ (Prod.ext ?_ (Prod.ext ?_ (Prod.ext ?_ ?_))) <;> first | rfl | (dsimp only; omega))
        rw [e]
        exact ⟨rfl, _, rfl, .inr ⟨rfl, R_ap_em s 10 0 0⟩⟩
      · refine Z_go (f2 := (47, [(1, .int (Zi (D_see s a))), (0, .ref 83)], [.int (Zi 9), .ref 83])) (fun _ => rfl) ?_
        refine Z_go (f2 := (52, [(1, .int (Zi (D_see s a))), (0, .ref 83)], [.int (Zi 9), .ref 83])) (fun _ => rfl) ?_
        refine Z_go (f2 := (53, [(1, .int (Zi (D_see s a))), (0, .ref 83)], [.int (Zi 0), .int (Zi 9), .ref 83])) (fun _ => rfl) ?_
        refine Z_go (f2 := (54, [(1, .int (Zi (D_see s a))), (0, .ref 83)], [.int (Zi 0), .int (Zi 0), .int (Zi 9), .ref 83])) (fun _ => rfl) ?_
        refine R_call (As := [.int (Zi 9), .int (Zi 0), .int (Zi 0)]) (rest := []) rfl (by decide) rfl rfl rfl rfl (by decide +kernel) (Nat.le_of_ble_eq_true rfl) hs (R_emit2 _ s a f p (by first | assumption | exact hs.zF _ | exact hs.zA _ _ | exact zS _ | exact ⟨by omega, by omega⟩ | omega) (by first | assumption | exact hs.zF _ | exact hs.zA _ _ | exact zS _ | exact ⟨by omega, by omega⟩ | omega) (by first | assumption | exact hs.zF _ | exact hs.zA _ _ | exact zS _ | exact ⟨by omega, by omega⟩ | omega) (by omega) (by omega)) (fun x h s2 hs q => ?_)
        obtain ⟨rfl, q1⟩ := q
        rw [q1] at hs
        show B_R _ _ (57, [(1, .int (Zi (D_see s a))), (0, .ref 83)], []) _ _ _
        refine Z_go (f2 := (58, [(1, .int (Zi (D_see s a))), (0, .ref 83)], [.ref 83])) (fun _ => rfl) ?_
        refine Z_go (f2 := (59, [(1, .int (Zi (D_see s a))), (0, .ref 83)], [.ref 83, .ref 83])) (fun _ => rfl) ?_
        refine R_gi rfl hs rfl ?_
        show B_R _ _ (62, [(1, .int (Zi (D_see s a))), (0, .ref 83)], [.int (Zi a), .ref 83]) _ _ _
        refine Z_go (f2 := (63, [(1, .int (Zi (D_see s a))), (0, .ref 83)], [.int (Zi 1), .int (Zi a), .ref 83])) (fun _ => rfl) ?_
        refine Z_iadd rfl ?_
        refine R_pf rfl hs rfl (by first | exact hs.zF _ | exact Zor_r _ _ | exact hs.zA _ _ | assumption | exact zS _ | exact Zr_not (hs.zA _ _) | exact ⟨by omega, by omega⟩) ⟨rfl, rfl, rfl⟩ (fun h hs => ?_)
        rw [R_p3_16] at hs
        refine Z_go (f2 := (68, [(1, .int (Zi (D_see s a))), (0, .ref 83)], [.int (Zi 1)])) (fun _ => rfl) ?_
        refine Z_iret rfl rfl (by first | rfl | decide | exact narrow_b01 (by omega)) ⟨_, hs, ?_, rfl⟩
        have e : D_cnt (D_see s) a f p = (1, a + 1, f, p, some (9, 0, 0)) := by
          unfold D_cnt
          try dsimp only
          repeat first
            | rw [if_pos (by first | omega | (unfold P_nm; omega) | (unfold D_sgn D_let D_dig; omega) | (unfold D_pln; omega))]
            | rw [if_neg (by first | omega | (unfold P_nm; omega) | (unfold D_sgn D_let D_dig; omega) | (unfold D_pln; omega))]
          try (refine Prod.ext ?_ (Prod.ext ?_ (Prod.ext ?_ (Prod.ext ?_ ?_))) <;> first | rfl | (dsimp only; omega))
        rw [e]
        exact ⟨rfl, _, rfl, .inr ⟨rfl, R_ap_em s 9 0 0⟩⟩
    · refine Z_go (f2 := (36, [(1, .int (Zi (D_see s a))), (0, .ref 83)], [.int (Zi 8), .ref 83])) (fun _ => rfl) ?_
      refine Z_go (f2 := (52, [(1, .int (Zi (D_see s a))), (0, .ref 83)], [.int (Zi 8), .ref 83])) (fun _ => rfl) ?_
      refine Z_go (f2 := (53, [(1, .int (Zi (D_see s a))), (0, .ref 83)], [.int (Zi 0), .int (Zi 8), .ref 83])) (fun _ => rfl) ?_
      refine Z_go (f2 := (54, [(1, .int (Zi (D_see s a))), (0, .ref 83)], [.int (Zi 0), .int (Zi 0), .int (Zi 8), .ref 83])) (fun _ => rfl) ?_
      refine R_call (As := [.int (Zi 8), .int (Zi 0), .int (Zi 0)]) (rest := []) rfl (by decide) rfl rfl rfl rfl (by decide +kernel) (Nat.le_of_ble_eq_true rfl) hs (R_emit2 _ s a f p (by first | assumption | exact hs.zF _ | exact hs.zA _ _ | exact zS _ | exact ⟨by omega, by omega⟩ | omega) (by first | assumption | exact hs.zF _ | exact hs.zA _ _ | exact zS _ | exact ⟨by omega, by omega⟩ | omega) (by first | assumption | exact hs.zF _ | exact hs.zA _ _ | exact zS _ | exact ⟨by omega, by omega⟩ | omega) (by omega) (by omega)) (fun x h s2 hs q => ?_)
      obtain ⟨rfl, q1⟩ := q
      rw [q1] at hs
      show B_R _ _ (57, [(1, .int (Zi (D_see s a))), (0, .ref 83)], []) _ _ _
      refine Z_go (f2 := (58, [(1, .int (Zi (D_see s a))), (0, .ref 83)], [.ref 83])) (fun _ => rfl) ?_
      refine Z_go (f2 := (59, [(1, .int (Zi (D_see s a))), (0, .ref 83)], [.ref 83, .ref 83])) (fun _ => rfl) ?_
      refine R_gi rfl hs rfl ?_
      show B_R _ _ (62, [(1, .int (Zi (D_see s a))), (0, .ref 83)], [.int (Zi a), .ref 83]) _ _ _
      refine Z_go (f2 := (63, [(1, .int (Zi (D_see s a))), (0, .ref 83)], [.int (Zi 1), .int (Zi a), .ref 83])) (fun _ => rfl) ?_
      refine Z_iadd rfl ?_
      refine R_pf rfl hs rfl (by first | exact hs.zF _ | exact Zor_r _ _ | exact hs.zA _ _ | assumption | exact zS _ | exact Zr_not (hs.zA _ _) | exact ⟨by omega, by omega⟩) ⟨rfl, rfl, rfl⟩ (fun h hs => ?_)
      rw [R_p3_16] at hs
      refine Z_go (f2 := (68, [(1, .int (Zi (D_see s a))), (0, .ref 83)], [.int (Zi 1)])) (fun _ => rfl) ?_
      refine Z_iret rfl rfl (by first | rfl | decide | exact narrow_b01 (by omega)) ⟨_, hs, ?_, rfl⟩
      have e : D_cnt (D_see s) a f p = (1, a + 1, f, p, some (8, 0, 0)) := by
        unfold D_cnt
        try dsimp only
        repeat first
          | rw [if_pos (by first | omega | (unfold P_nm; omega) | (unfold D_sgn D_let D_dig; omega) | (unfold D_pln; omega))]
          | rw [if_neg (by first | omega | (unfold P_nm; omega) | (unfold D_sgn D_let D_dig; omega) | (unfold D_pln; omega))]
        try (refine Prod.ext ?_ (Prod.ext ?_ (Prod.ext ?_ (Prod.ext ?_ ?_))) <;> first | rfl | (dsimp only; omega))
      rw [e]
      exact ⟨rfl, _, rfl, .inr ⟨rfl, R_ap_em s 8 0 0⟩⟩
  · refine Z_go (f2 := (16, [(1, .int (Zi (D_see s a))), (0, .ref 83)], [.int (Zi (D_see s a))])) (fun _ => rfl) ?_
    refine Z_go (f2 := (18, [(1, .int (Zi (D_see s a))), (0, .ref 83)], [.int (Zi 43), .int (Zi (D_see s a))])) (fun _ => rfl) ?_
    refine Z_ceq rfl rfl (by first | exact hs.zF _ | exact Zor_r _ _ | exact hs.zA _ _ | assumption | exact zS _ | exact Zr_not (hs.zA _ _) | exact ⟨by omega, by omega⟩) (by first | exact hs.zF _ | exact Zor_r _ _ | exact hs.zA _ _ | assumption | exact zS _ | exact Zr_not (hs.zA _ _) | exact ⟨by omega, by omega⟩) (fun c4 => ?_) (fun c4 => ?_)
    · refine Z_go (f2 := (28, [(1, .int (Zi (D_see s a))), (0, .ref 83)], [.ref 83])) (fun _ => rfl) ?_
      refine Z_go (f2 := (29, [(1, .int (Zi (D_see s a))), (0, .ref 83)], [.int (Zi (D_see s a)), .ref 83])) (fun _ => rfl) ?_
      refine Z_go (f2 := (31, [(1, .int (Zi (D_see s a))), (0, .ref 83)], [.int (Zi 42), .int (Zi (D_see s a)), .ref 83])) (fun _ => rfl) ?_
      refine Z_cne rfl rfl (by first | exact hs.zF _ | exact Zor_r _ _ | exact hs.zA _ _ | assumption | exact zS _ | exact Zr_not (hs.zA _ _) | exact ⟨by omega, by omega⟩) (by first | exact hs.zF _ | exact Zor_r _ _ | exact hs.zA _ _ | assumption | exact zS _ | exact Zr_not (hs.zA _ _) | exact ⟨by omega, by omega⟩) (fun c5 => ?_) (fun c5 => ?_)
      · refine Z_go (f2 := (40, [(1, .int (Zi (D_see s a))), (0, .ref 83)], [.int (Zi (D_see s a)), .ref 83])) (fun _ => rfl) ?_
        refine Z_go (f2 := (42, [(1, .int (Zi (D_see s a))), (0, .ref 83)], [.int (Zi 43), .int (Zi (D_see s a)), .ref 83])) (fun _ => rfl) ?_
        refine Z_cne rfl rfl (by first | exact hs.zF _ | exact Zor_r _ _ | exact hs.zA _ _ | assumption | exact zS _ | exact Zr_not (hs.zA _ _) | exact ⟨by omega, by omega⟩) (by first | exact hs.zF _ | exact Zor_r _ _ | exact hs.zA _ _ | assumption | exact zS _ | exact Zr_not (hs.zA _ _) | exact ⟨by omega, by omega⟩) (fun c6 => ?_) (fun c6 => ?_)
        · refine Z_go (f2 := (52, [(1, .int (Zi (D_see s a))), (0, .ref 83)], [.int (Zi 10), .ref 83])) (fun _ => rfl) ?_
          refine Z_go (f2 := (53, [(1, .int (Zi (D_see s a))), (0, .ref 83)], [.int (Zi 0), .int (Zi 10), .ref 83])) (fun _ => rfl) ?_
          refine Z_go (f2 := (54, [(1, .int (Zi (D_see s a))), (0, .ref 83)], [.int (Zi 0), .int (Zi 0), .int (Zi 10), .ref 83])) (fun _ => rfl) ?_
          refine R_call (As := [.int (Zi 10), .int (Zi 0), .int (Zi 0)]) (rest := []) rfl (by decide) rfl rfl rfl rfl (by decide +kernel) (Nat.le_of_ble_eq_true rfl) hs (R_emit2 _ s a f p (by first | assumption | exact hs.zF _ | exact hs.zA _ _ | exact zS _ | exact ⟨by omega, by omega⟩ | omega) (by first | assumption | exact hs.zF _ | exact hs.zA _ _ | exact zS _ | exact ⟨by omega, by omega⟩ | omega) (by first | assumption | exact hs.zF _ | exact hs.zA _ _ | exact zS _ | exact ⟨by omega, by omega⟩ | omega) (by omega) (by omega)) (fun x h s2 hs q => ?_)
          obtain ⟨rfl, q1⟩ := q
          rw [q1] at hs
          show B_R _ _ (57, [(1, .int (Zi (D_see s a))), (0, .ref 83)], []) _ _ _
          refine Z_go (f2 := (58, [(1, .int (Zi (D_see s a))), (0, .ref 83)], [.ref 83])) (fun _ => rfl) ?_
          refine Z_go (f2 := (59, [(1, .int (Zi (D_see s a))), (0, .ref 83)], [.ref 83, .ref 83])) (fun _ => rfl) ?_
          refine R_gi rfl hs rfl ?_
          show B_R _ _ (62, [(1, .int (Zi (D_see s a))), (0, .ref 83)], [.int (Zi a), .ref 83]) _ _ _
          refine Z_go (f2 := (63, [(1, .int (Zi (D_see s a))), (0, .ref 83)], [.int (Zi 1), .int (Zi a), .ref 83])) (fun _ => rfl) ?_
          refine Z_iadd rfl ?_
          refine R_pf rfl hs rfl (by first | exact hs.zF _ | exact Zor_r _ _ | exact hs.zA _ _ | assumption | exact zS _ | exact Zr_not (hs.zA _ _) | exact ⟨by omega, by omega⟩) ⟨rfl, rfl, rfl⟩ (fun h hs => ?_)
          rw [R_p3_16] at hs
          refine Z_go (f2 := (68, [(1, .int (Zi (D_see s a))), (0, .ref 83)], [.int (Zi 1)])) (fun _ => rfl) ?_
          refine Z_iret rfl rfl (by first | rfl | decide | exact narrow_b01 (by omega)) ⟨_, hs, ?_, rfl⟩
          have e : D_cnt (D_see s) a f p = (1, a + 1, f, p, some (10, 0, 0)) := by
            unfold D_cnt
            try dsimp only
            repeat first
              | rw [if_pos (by first | omega | (unfold P_nm; omega) | (unfold D_sgn D_let D_dig; omega) | (unfold D_pln; omega))]
              | rw [if_neg (by first | omega | (unfold P_nm; omega) | (unfold D_sgn D_let D_dig; omega) | (unfold D_pln; omega))]
            try (refine Prod.ext ?_ (Prod.ext ?_ (Prod.ext ?_ (Prod.ext ?_ ?_))) <;> first | rfl | (dsimp only; omega))
          rw [e]
          exact ⟨rfl, _, rfl, .inr ⟨rfl, R_ap_em s 10 0 0⟩⟩
        · refine Z_go (f2 := (47, [(1, .int (Zi (D_see s a))), (0, .ref 83)], [.int (Zi 9), .ref 83])) (fun _ => rfl) ?_
          refine Z_go (f2 := (52, [(1, .int (Zi (D_see s a))), (0, .ref 83)], [.int (Zi 9), .ref 83])) (fun _ => rfl) ?_
          refine Z_go (f2 := (53, [(1, .int (Zi (D_see s a))), (0, .ref 83)], [.int (Zi 0), .int (Zi 9), .ref 83])) (fun _ => rfl) ?_
          refine Z_go (f2 := (54, [(1, .int (Zi (D_see s a))), (0, .ref 83)], [.int (Zi 0), .int (Zi 0), .int (Zi 9), .ref 83])) (fun _ => rfl) ?_
          refine R_call (As := [.int (Zi 9), .int (Zi 0), .int (Zi 0)]) (rest := []) rfl (by decide) rfl rfl rfl rfl (by decide +kernel) (Nat.le_of_ble_eq_true rfl) hs (R_emit2 _ s a f p (by first | assumption | exact hs.zF _ | exact hs.zA _ _ | exact zS _ | exact ⟨by omega, by omega⟩ | omega) (by first | assumption | exact hs.zF _ | exact hs.zA _ _ | exact zS _ | exact ⟨by omega, by omega⟩ | omega) (by first | assumption | exact hs.zF _ | exact hs.zA _ _ | exact zS _ | exact ⟨by omega, by omega⟩ | omega) (by omega) (by omega)) (fun x h s2 hs q => ?_)
          obtain ⟨rfl, q1⟩ := q
          rw [q1] at hs
          show B_R _ _ (57, [(1, .int (Zi (D_see s a))), (0, .ref 83)], []) _ _ _
          refine Z_go (f2 := (58, [(1, .int (Zi (D_see s a))), (0, .ref 83)], [.ref 83])) (fun _ => rfl) ?_
          refine Z_go (f2 := (59, [(1, .int (Zi (D_see s a))), (0, .ref 83)], [.ref 83, .ref 83])) (fun _ => rfl) ?_
          refine R_gi rfl hs rfl ?_
          show B_R _ _ (62, [(1, .int (Zi (D_see s a))), (0, .ref 83)], [.int (Zi a), .ref 83]) _ _ _
          refine Z_go (f2 := (63, [(1, .int (Zi (D_see s a))), (0, .ref 83)], [.int (Zi 1), .int (Zi a), .ref 83])) (fun _ => rfl) ?_
          refine Z_iadd rfl ?_
          refine R_pf rfl hs rfl (by first | exact hs.zF _ | exact Zor_r _ _ | exact hs.zA _ _ | assumption | exact zS _ | exact Zr_not (hs.zA _ _) | exact ⟨by omega, by omega⟩) ⟨rfl, rfl, rfl⟩ (fun h hs => ?_)
          rw [R_p3_16] at hs
          refine Z_go (f2 := (68, [(1, .int (Zi (D_see s a))), (0, .ref 83)], [.int (Zi 1)])) (fun _ => rfl) ?_
          refine Z_iret rfl rfl (by first | rfl | decide | exact narrow_b01 (by omega)) ⟨_, hs, ?_, rfl⟩
          have e : D_cnt (D_see s) a f p = (1, a + 1, f, p, some (9, 0, 0)) := by
            unfold D_cnt
            try dsimp only
            repeat first
              | rw [if_pos (by first | omega | (unfold P_nm; omega) | (unfold D_sgn D_let D_dig; omega) | (unfold D_pln; omega))]
              | rw [if_neg (by first | omega | (unfold P_nm; omega) | (unfold D_sgn D_let D_dig; omega) | (unfold D_pln; omega))]
            try (refine Prod.ext ?_ (Prod.ext ?_ (Prod.ext ?_ (Prod.ext ?_ ?_))) <;> first | rfl | (dsimp only; omega))
          rw [e]
          exact ⟨rfl, _, rfl, .inr ⟨rfl, R_ap_em s 9 0 0⟩⟩
      · refine Z_go (f2 := (36, [(1, .int (Zi (D_see s a))), (0, .ref 83)], [.int (Zi 8), .ref 83])) (fun _ => rfl) ?_
        refine Z_go (f2 := (52, [(1, .int (Zi (D_see s a))), (0, .ref 83)], [.int (Zi 8), .ref 83])) (fun _ => rfl) ?_
        refine Z_go (f2 := (53, [(1, .int (Zi (D_see s a))), (0, .ref 83)], [.int (Zi 0), .int (Zi 8), .ref 83])) (fun _ => rfl) ?_
        refine Z_go (f2 := (54, [(1, .int (Zi (D_see s a))), (0, .ref 83)], [.int (Zi 0), .int (Zi 0), .int (Zi 8), .ref 83])) (fun _ => rfl) ?_
        refine R_call (As := [.int (Zi 8), .int (Zi 0), .int (Zi 0)]) (rest := []) rfl (by decide) rfl rfl rfl rfl (by decide +kernel) (Nat.le_of_ble_eq_true rfl) hs (R_emit2 _ s a f p (by first | assumption | exact hs.zF _ | exact hs.zA _ _ | exact zS _ | exact ⟨by omega, by omega⟩ | omega) (by first | assumption | exact hs.zF _ | exact hs.zA _ _ | exact zS _ | exact ⟨by omega, by omega⟩ | omega) (by first | assumption | exact hs.zF _ | exact hs.zA _ _ | exact zS _ | exact ⟨by omega, by omega⟩ | omega) (by omega) (by omega)) (fun x h s2 hs q => ?_)
        obtain ⟨rfl, q1⟩ := q
        rw [q1] at hs
        show B_R _ _ (57, [(1, .int (Zi (D_see s a))), (0, .ref 83)], []) _ _ _
        refine Z_go (f2 := (58, [(1, .int (Zi (D_see s a))), (0, .ref 83)], [.ref 83])) (fun _ => rfl) ?_
        refine Z_go (f2 := (59, [(1, .int (Zi (D_see s a))), (0, .ref 83)], [.ref 83, .ref 83])) (fun _ => rfl) ?_
        refine R_gi rfl hs rfl ?_
        show B_R _ _ (62, [(1, .int (Zi (D_see s a))), (0, .ref 83)], [.int (Zi a), .ref 83]) _ _ _
        refine Z_go (f2 := (63, [(1, .int (Zi (D_see s a))), (0, .ref 83)], [.int (Zi 1), .int (Zi a), .ref 83])) (fun _ => rfl) ?_
        refine Z_iadd rfl ?_
        refine R_pf rfl hs rfl (by first | exact hs.zF _ | exact Zor_r _ _ | exact hs.zA _ _ | assumption | exact zS _ | exact Zr_not (hs.zA _ _) | exact ⟨by omega, by omega⟩) ⟨rfl, rfl, rfl⟩ (fun h hs => ?_)
        rw [R_p3_16] at hs
        refine Z_go (f2 := (68, [(1, .int (Zi (D_see s a))), (0, .ref 83)], [.int (Zi 1)])) (fun _ => rfl) ?_
        refine Z_iret rfl rfl (by first | rfl | decide | exact narrow_b01 (by omega)) ⟨_, hs, ?_, rfl⟩
        have e : D_cnt (D_see s) a f p = (1, a + 1, f, p, some (8, 0, 0)) := by
          unfold D_cnt
          try dsimp only
          repeat first
            | rw [if_pos (by first | omega | (unfold P_nm; omega) | (unfold D_sgn D_let D_dig; omega) | (unfold D_pln; omega))]
            | rw [if_neg (by first | omega | (unfold P_nm; omega) | (unfold D_sgn D_let D_dig; omega) | (unfold D_pln; omega))]
          try (refine Prod.ext ?_ (Prod.ext ?_ (Prod.ext ?_ (Prod.ext ?_ ?_))) <;> first | rfl | (dsimp only; omega))
        rw [e]
        exact ⟨rfl, _, rfl, .inr ⟨rfl, R_ap_em s 8 0 0⟩⟩
    · refine Z_go (f2 := (22, [(1, .int (Zi (D_see s a))), (0, .ref 83)], [.int (Zi (D_see s a))])) (fun _ => rfl) ?_
      refine Z_go (f2 := (24, [(1, .int (Zi (D_see s a))), (0, .ref 83)], [.int (Zi 63), .int (Zi (D_see s a))])) (fun _ => rfl) ?_
      refine Z_cne rfl rfl (by first | exact hs.zF _ | exact Zor_r _ _ | exact hs.zA _ _ | assumption | exact zS _ | exact Zr_not (hs.zA _ _) | exact ⟨by omega, by omega⟩) (by first | exact hs.zF _ | exact Zor_r _ _ | exact hs.zA _ _ | assumption | exact zS _ | exact Zr_not (hs.zA _ _) | exact ⟨by omega, by omega⟩) (fun c7 => ?_) (fun c7 => ?_)
      · refine Z_go (f2 := (70, [(1, .int (Zi (D_see s a))), (0, .ref 83)], [.int (Zi (D_see s a))])) (fun _ => rfl) ?_
        refine Z_go (f2 := (72, [(1, .int (Zi (D_see s a))), (0, .ref 83)], [.int (Zi 123), .int (Zi (D_see s a))])) (fun _ => rfl) ?_
        refine Z_ceq rfl rfl (by first | exact hs.zF _ | exact Zor_r _ _ | exact hs.zA _ _ | assumption | exact zS _ | exact Zr_not (hs.zA _ _) | exact ⟨by omega, by omega⟩) (by first | exact hs.zF _ | exact Zor_r _ _ | exact hs.zA _ _ | assumption | exact zS _ | exact Zr_not (hs.zA _ _) | exact ⟨by omega, by omega⟩) (fun c8 => ?_) (fun c8 => ?_)
        · refine Z_go (f2 := (78, [(1, .int (Zi (D_see s a))), (0, .ref 83)], [.ref 83])) (fun _ => rfl) ?_
          refine Z_go (f2 := (79, [(1, .int (Zi (D_see s a))), (0, .ref 83)], [.ref 83, .ref 83])) (fun _ => rfl) ?_
          refine R_gi rfl hs rfl ?_
          show B_R _ _ (82, [(1, .int (Zi (D_see s a))), (0, .ref 83)], [.int (Zi a), .ref 83]) _ _ _
          refine Z_go (f2 := (83, [(1, .int (Zi (D_see s a))), (0, .ref 83)], [.int (Zi 1), .int (Zi a), .ref 83])) (fun _ => rfl) ?_
          refine Z_iadd rfl ?_
          refine R_pf rfl hs rfl (by first | exact hs.zF _ | exact Zor_r _ _ | exact hs.zA _ _ | assumption | exact zS _ | exact Zr_not (hs.zA _ _) | exact ⟨by omega, by omega⟩) ⟨rfl, rfl, rfl⟩ (fun h hs => ?_)
          rw [R_p3_16] at hs
          refine Z_go (f2 := (88, [(1, .int (Zi (D_see s a))), (0, .ref 83)], [.ref 83])) (fun _ => rfl) ?_
          refine R_call (As := []) (rest := []) rfl (by decide) rfl rfl rfl rfl (by decide +kernel) (Nat.le_of_ble_eq_true rfl) hs (R_number _ s (a + 1) f p (by omega) (by omega) t1 tb) (fun x h s2 hs q => ?_)
          obtain ⟨rfl, q1⟩ := q
          rw [q1] at hs
          obtain ⟨o1, ho1⟩ : ∃ o, o = D_num (D_see s) (a + 1) f p := ⟨_, rfl⟩
          rw [← ho1] at hs ⊢
          have hn1 := D_num_n sn (a + 1) f p (by omega)
          rw [← ho1] at hn1
          have hl1 := D_num_le (D_see s) (a + 1) f p
          rw [← ho1] at hl1
          have hr1 := D_num_r zb (a + 1) f p
          rw [← ho1] at hr1
          have sno1 := sn o1.2.1
          show B_R _ _ (91, [(1, .int (Zi (D_see s a))), (0, .ref 83)], [.int (Zi (o1.1))]) _ _ _
          refine Z_go (f2 := (92, [(2, .int (Zi (o1.1))), (1, .int (Zi (D_see s a))), (0, .ref 83)], [])) (fun _ => rfl) ?_
          refine Z_go (f2 := (93, [(2, .int (Zi (o1.1))), (1, .int (Zi (D_see s a))), (0, .ref 83)], [.int (Zi (o1.1))])) (fun _ => rfl) ?_
          refine Z_go (f2 := (94, [(2, .int (Zi (o1.1))), (1, .int (Zi (D_see s a))), (0, .ref 83)], [.int (Zi (-1)), .int (Zi (o1.1))])) (fun _ => rfl) ?_
          refine Z_cne rfl rfl (by first | exact hs.zF _ | exact Zor_r _ _ | exact hs.zA _ _ | assumption | exact zS _ | exact Zr_not (hs.zA _ _) | exact ⟨by omega, by omega⟩) (by first | exact hs.zF _ | exact Zor_r _ _ | exact hs.zA _ _ | assumption | exact zS _ | exact Zr_not (hs.zA _ _) | exact ⟨by omega, by omega⟩) (fun c9 => ?_) (fun c9 => ?_)
          · refine Z_go (f2 := (100, [(2, .int (Zi (o1.1))), (1, .int (Zi (D_see s a))), (0, .ref 83)], [.int (Zi (o1.1))])) (fun _ => rfl) ?_
            refine Z_go (f2 := (101, [(3, .int (Zi (o1.1))), (2, .int (Zi (o1.1))), (1, .int (Zi (D_see s a))), (0, .ref 83)], [])) (fun _ => rfl) ?_
            refine Z_go (f2 := (102, [(3, .int (Zi (o1.1))), (2, .int (Zi (o1.1))), (1, .int (Zi (D_see s a))), (0, .ref 83)], [.ref 83])) (fun _ => rfl) ?_
            refine Z_go (f2 := (103, [(3, .int (Zi (o1.1))), (2, .int (Zi (o1.1))), (1, .int (Zi (D_see s a))), (0, .ref 83)], [.ref 83, .ref 83])) (fun _ => rfl) ?_
            refine R_gi rfl hs rfl ?_
            show B_R _ _ (106, [(3, .int (Zi (o1.1))), (2, .int (Zi (o1.1))), (1, .int (Zi (D_see s a))), (0, .ref 83)], [.int (Zi (o1.2.1)), .ref 83]) _ _ _
            refine R_call (As := [.int (Zi (o1.2.1))]) (rest := []) rfl (by decide) rfl rfl rfl rfl (by decide +kernel) (Nat.le_of_ble_eq_true rfl) hs (R_see2 _ _ (by first | assumption | exact hs.zF _ | exact hs.zA _ _ | exact zS _ | exact ⟨by omega, by omega⟩ | omega) (by first | assumption | exact hs.zF _ | exact hs.zA _ _ | exact zS _ | exact ⟨by omega, by omega⟩ | omega) (show s.1 1 ≤ 1000 by omega)) (fun x h s2 hs q => ?_)
            obtain ⟨q0, rfl⟩ := q
            rw [q0] at hs
            rw [R_p3_see]
            show B_R _ _ (109, [(3, .int (Zi (o1.1))), (2, .int (Zi (o1.1))), (1, .int (Zi (D_see s a))), (0, .ref 83)], [.int (Zi (D_see s o1.2.1))]) _ _ _
            refine Z_go (f2 := (111, [(3, .int (Zi (o1.1))), (2, .int (Zi (o1.1))), (1, .int (Zi (D_see s a))), (0, .ref 83)], [.int (Zi 44), .int (Zi (D_see s o1.2.1))])) (fun _ => rfl) ?_
            refine Z_cne rfl rfl (by first | exact hs.zF _ | exact Zor_r _ _ | exact hs.zA _ _ | assumption | exact zS _ | exact Zr_not (hs.zA _ _) | exact ⟨by omega, by omega⟩) (by first | exact hs.zF _ | exact Zor_r _ _ | exact hs.zA _ _ | assumption | exact zS _ | exact Zr_not (hs.zA _ _) | exact ⟨by omega, by omega⟩) (fun c10 => ?_) (fun c10 => ?_)
            · refine Z_go (f2 := (170, [(3, .int (Zi (o1.1))), (2, .int (Zi (o1.1))), (1, .int (Zi (D_see s a))), (0, .ref 83)], [.ref 83])) (fun _ => rfl) ?_
              refine Z_go (f2 := (171, [(3, .int (Zi (o1.1))), (2, .int (Zi (o1.1))), (1, .int (Zi (D_see s a))), (0, .ref 83)], [.ref 83, .ref 83])) (fun _ => rfl) ?_
              refine R_gi rfl hs rfl ?_
              show B_R _ _ (174, [(3, .int (Zi (o1.1))), (2, .int (Zi (o1.1))), (1, .int (Zi (D_see s a))), (0, .ref 83)], [.int (Zi (o1.2.1)), .ref 83]) _ _ _
              refine R_call (As := [.int (Zi (o1.2.1))]) (rest := []) rfl (by decide) rfl rfl rfl rfl (by decide +kernel) (Nat.le_of_ble_eq_true rfl) hs (R_see2 _ _ (by first | assumption | exact hs.zF _ | exact hs.zA _ _ | exact zS _ | exact ⟨by omega, by omega⟩ | omega) (by first | assumption | exact hs.zF _ | exact hs.zA _ _ | exact zS _ | exact ⟨by omega, by omega⟩ | omega) (show s.1 1 ≤ 1000 by omega)) (fun x h s2 hs q => ?_)
              obtain ⟨q0, rfl⟩ := q
              rw [q0] at hs
              rw [R_p3_see]
              show B_R _ _ (177, [(3, .int (Zi (o1.1))), (2, .int (Zi (o1.1))), (1, .int (Zi (D_see s a))), (0, .ref 83)], [.int (Zi (D_see s o1.2.1))]) _ _ _
              refine Z_go (f2 := (179, [(3, .int (Zi (o1.1))), (2, .int (Zi (o1.1))), (1, .int (Zi (D_see s a))), (0, .ref 83)], [.int (Zi 125), .int (Zi (D_see s o1.2.1))])) (fun _ => rfl) ?_
              refine Z_ceq rfl rfl (by first | exact hs.zF _ | exact Zor_r _ _ | exact hs.zA _ _ | assumption | exact zS _ | exact Zr_not (hs.zA _ _) | exact ⟨by omega, by omega⟩) (by first | exact hs.zF _ | exact Zor_r _ _ | exact hs.zA _ _ | assumption | exact zS _ | exact Zr_not (hs.zA _ _) | exact ⟨by omega, by omega⟩) (fun c11 => ?_) (fun c11 => ?_)
              · refine Z_go (f2 := (194, [(3, .int (Zi (o1.1))), (2, .int (Zi (o1.1))), (1, .int (Zi (D_see s a))), (0, .ref 83)], [.ref 83])) (fun _ => rfl) ?_
                refine Z_go (f2 := (195, [(3, .int (Zi (o1.1))), (2, .int (Zi (o1.1))), (1, .int (Zi (D_see s a))), (0, .ref 83)], [.ref 83, .ref 83])) (fun _ => rfl) ?_
                refine R_gi rfl hs rfl ?_
                show B_R _ _ (198, [(3, .int (Zi (o1.1))), (2, .int (Zi (o1.1))), (1, .int (Zi (D_see s a))), (0, .ref 83)], [.int (Zi (o1.2.1)), .ref 83]) _ _ _
                refine Z_go (f2 := (199, [(3, .int (Zi (o1.1))), (2, .int (Zi (o1.1))), (1, .int (Zi (D_see s a))), (0, .ref 83)], [.int (Zi 1), .int (Zi (o1.2.1)), .ref 83])) (fun _ => rfl) ?_
                refine Z_iadd rfl ?_
                refine R_pf rfl hs rfl (by first | exact hs.zF _ | exact Zor_r _ _ | exact hs.zA _ _ | assumption | exact zS _ | exact Zr_not (hs.zA _ _) | exact ⟨by omega, by omega⟩) ⟨rfl, rfl, rfl⟩ (fun h hs => ?_)
                rw [R_p3_16] at hs
                refine Z_go (f2 := (204, [(3, .int (Zi (o1.1))), (2, .int (Zi (o1.1))), (1, .int (Zi (D_see s a))), (0, .ref 83)], [.ref 83])) (fun _ => rfl) ?_
                refine Z_go (f2 := (206, [(3, .int (Zi (o1.1))), (2, .int (Zi (o1.1))), (1, .int (Zi (D_see s a))), (0, .ref 83)], [.int (Zi 11), .ref 83])) (fun _ => rfl) ?_
                refine Z_go (f2 := (207, [(3, .int (Zi (o1.1))), (2, .int (Zi (o1.1))), (1, .int (Zi (D_see s a))), (0, .ref 83)], [.int (Zi (o1.1)), .int (Zi 11), .ref 83])) (fun _ => rfl) ?_
                refine Z_go (f2 := (208, [(3, .int (Zi (o1.1))), (2, .int (Zi (o1.1))), (1, .int (Zi (D_see s a))), (0, .ref 83)], [.int (Zi (o1.1)), .int (Zi (o1.1)), .int (Zi 11), .ref 83])) (fun _ => rfl) ?_
                refine R_call (As := [.int (Zi 11), .int (Zi (o1.1)), .int (Zi (o1.1))]) (rest := []) rfl (by decide) rfl rfl rfl rfl (by decide +kernel) (Nat.le_of_ble_eq_true rfl) hs (R_emit2 _ s (o1.2.1 + 1) o1.2.2.1 o1.2.2.2 (by first | assumption | exact hs.zF _ | exact hs.zA _ _ | exact zS _ | exact ⟨by omega, by omega⟩ | omega) (by first | assumption | exact hs.zF _ | exact hs.zA _ _ | exact zS _ | exact ⟨by omega, by omega⟩ | omega) (by first | assumption | exact hs.zF _ | exact hs.zA _ _ | exact zS _ | exact ⟨by omega, by omega⟩ | omega) (by omega) (by omega)) (fun x h s2 hs q => ?_)
                obtain ⟨rfl, q1⟩ := q
                rw [q1] at hs
                show B_R _ _ (211, [(3, .int (Zi (o1.1))), (2, .int (Zi (o1.1))), (1, .int (Zi (D_see s a))), (0, .ref 83)], []) _ _ _
                refine Z_go (f2 := (212, [(3, .int (Zi (o1.1))), (2, .int (Zi (o1.1))), (1, .int (Zi (D_see s a))), (0, .ref 83)], [.int (Zi 1)])) (fun _ => rfl) ?_
                refine Z_iret rfl rfl (by first | rfl | decide | exact narrow_b01 (by omega)) ⟨_, hs, ?_, rfl⟩
                have e : D_cnt (D_see s) a f p = (1, o1.2.1 + 1, o1.2.2.1, o1.2.2.2, some (11, o1.1, o1.1)) := by
                  unfold D_cnt
                  try dsimp only
                  rw [← ho1]
                  repeat first
                    | rw [if_pos (by first | omega | (unfold P_nm; omega) | (unfold D_sgn D_let D_dig; omega) | (unfold D_pln; omega))]
                    | rw [if_neg (by first | omega | (unfold P_nm; omega) | (unfold D_sgn D_let D_dig; omega) | (unfold D_pln; omega))]
                  try (refine Prod.ext ?_ (Prod.ext ?_ (Prod.ext ?_ (Prod.ext ?_ ?_))) <;> first | rfl | (dsimp only; omega))
                rw [e]
                exact ⟨rfl, _, rfl, .inr ⟨rfl, R_ap_em s 11 o1.1 o1.1⟩⟩
              · refine Z_go (f2 := (183, [(3, .int (Zi (o1.1))), (2, .int (Zi (o1.1))), (1, .int (Zi (D_see s a))), (0, .ref 83)], [.ref 83])) (fun _ => rfl) ?_
                refine Z_go (f2 := (184, [(3, .int (Zi (o1.1))), (2, .int (Zi (o1.1))), (1, .int (Zi (D_see s a))), (0, .ref 83)], [.int (Zi 1), .ref 83])) (fun _ => rfl) ?_
                refine Z_go (f2 := (185, [(3, .int (Zi (o1.1))), (2, .int (Zi (o1.1))), (1, .int (Zi (D_see s a))), (0, .ref 83)], [.ref 83, .int (Zi 1), .ref 83])) (fun _ => rfl) ?_
                refine R_gi rfl hs rfl ?_
                show B_R _ _ (188, [(3, .int (Zi (o1.1))), (2, .int (Zi (o1.1))), (1, .int (Zi (D_see s a))), (0, .ref 83)], [.int (Zi (o1.2.1)), .int (Zi 1), .ref 83]) _ _ _
                refine R_call (As := [.int (Zi 1), .int (Zi (o1.2.1))]) (rest := []) rfl (by decide) rfl rfl rfl rfl (by decide +kernel) (Nat.le_of_ble_eq_true rfl) hs (R_fail2 _ s o1.2.1 o1.2.2.1 o1.2.2.2 (by first | assumption | exact hs.zF _ | exact hs.zA _ _ | exact zS _ | exact ⟨by omega, by omega⟩ | omega) (by first | assumption | exact hs.zF _ | exact hs.zA _ _ | exact zS _ | exact ⟨by omega, by omega⟩ | omega)) (fun x h s2 hs q => ?_)
                obtain ⟨rfl, q1⟩ := q
                rw [q1] at hs
                show B_R _ _ (191, [(3, .int (Zi (o1.1))), (2, .int (Zi (o1.1))), (1, .int (Zi (D_see s a))), (0, .ref 83)], []) _ _ _
                refine Z_go (f2 := (192, [(3, .int (Zi (o1.1))), (2, .int (Zi (o1.1))), (1, .int (Zi (D_see s a))), (0, .ref 83)], [.int (Zi 0)])) (fun _ => rfl) ?_
                refine Z_iret rfl rfl (by first | rfl | decide | exact narrow_b01 (by omega)) ⟨_, hs, ?_, rfl⟩
                have e : D_cnt (D_see s) a f p = (0, o1.2.1, (D_ff o1.2.2.1 o1.2.2.2 1 o1.2.1).1, (D_ff o1.2.2.1 o1.2.2.2 1 o1.2.1).2, none) := by
                  unfold D_cnt
                  try dsimp only
                  rw [← ho1]
                  repeat first
                    | rw [if_pos (by first | omega | (unfold P_nm; omega) | (unfold D_sgn D_let D_dig; omega) | (unfold D_pln; omega))]
                    | rw [if_neg (by first | omega | (unfold P_nm; omega) | (unfold D_sgn D_let D_dig; omega) | (unfold D_pln; omega))]
                  try (refine Prod.ext ?_ (Prod.ext ?_ (Prod.ext ?_ (Prod.ext ?_ ?_))) <;> first | rfl | (dsimp only; omega))
                rw [e]
                exact ⟨rfl, _, rfl, .inl ⟨rfl, R_ap_0 s⟩⟩
            · refine Z_go (f2 := (115, [(3, .int (Zi (o1.1))), (2, .int (Zi (o1.1))), (1, .int (Zi (D_see s a))), (0, .ref 83)], [.ref 83])) (fun _ => rfl) ?_
              refine Z_go (f2 := (116, [(3, .int (Zi (o1.1))), (2, .int (Zi (o1.1))), (1, .int (Zi (D_see s a))), (0, .ref 83)], [.ref 83, .ref 83])) (fun _ => rfl) ?_
              refine R_gi rfl hs rfl ?_
              show B_R _ _ (119, [(3, .int (Zi (o1.1))), (2, .int (Zi (o1.1))), (1, .int (Zi (D_see s a))), (0, .ref 83)], [.int (Zi (o1.2.1)), .ref 83]) _ _ _
              refine Z_go (f2 := (120, [(3, .int (Zi (o1.1))), (2, .int (Zi (o1.1))), (1, .int (Zi (D_see s a))), (0, .ref 83)], [.int (Zi 1), .int (Zi (o1.2.1)), .ref 83])) (fun _ => rfl) ?_
              refine Z_iadd rfl ?_
              refine R_pf rfl hs rfl (by first | exact hs.zF _ | exact Zor_r _ _ | exact hs.zA _ _ | assumption | exact zS _ | exact Zr_not (hs.zA _ _) | exact ⟨by omega, by omega⟩) ⟨rfl, rfl, rfl⟩ (fun h hs => ?_)
              rw [R_p3_16] at hs
              refine Z_go (f2 := (125, [(3, .int (Zi (o1.1))), (2, .int (Zi (o1.1))), (1, .int (Zi (D_see s a))), (0, .ref 83)], [.int (Zi (-1))])) (fun _ => rfl) ?_
              refine Z_go (f2 := (126, [(3, .int (Zi (-1))), (2, .int (Zi (o1.1))), (1, .int (Zi (D_see s a))), (0, .ref 83)], [])) (fun _ => rfl) ?_
              refine Z_go (f2 := (127, [(3, .int (Zi (-1))), (2, .int (Zi (o1.1))), (1, .int (Zi (D_see s a))), (0, .ref 83)], [.ref 83])) (fun _ => rfl) ?_
              refine Z_go (f2 := (128, [(3, .int (Zi (-1))), (2, .int (Zi (o1.1))), (1, .int (Zi (D_see s a))), (0, .ref 83)], [.ref 83, .ref 83])) (fun _ => rfl) ?_
              refine R_gi rfl hs rfl ?_
              show B_R _ _ (131, [(3, .int (Zi (-1))), (2, .int (Zi (o1.1))), (1, .int (Zi (D_see s a))), (0, .ref 83)], [.int (Zi (o1.2.1 + 1)), .ref 83]) _ _ _
              refine R_call (As := [.int (Zi (o1.2.1 + 1))]) (rest := []) rfl (by decide) rfl rfl rfl rfl (by decide +kernel) (Nat.le_of_ble_eq_true rfl) hs (R_see2 _ _ (by first | assumption | exact hs.zF _ | exact hs.zA _ _ | exact zS _ | exact ⟨by omega, by omega⟩ | omega) (by first | assumption | exact hs.zF _ | exact hs.zA _ _ | exact zS _ | exact ⟨by omega, by omega⟩ | omega) (show s.1 1 ≤ 1000 by omega)) (fun x h s2 hs q => ?_)
              obtain ⟨q0, rfl⟩ := q
              rw [q0] at hs
              rw [R_p3_see]
              show B_R _ _ (134, [(3, .int (Zi (-1))), (2, .int (Zi (o1.1))), (1, .int (Zi (D_see s a))), (0, .ref 83)], [.int (Zi (D_see s (o1.2.1 + 1)))]) _ _ _
              refine Z_go (f2 := (136, [(3, .int (Zi (-1))), (2, .int (Zi (o1.1))), (1, .int (Zi (D_see s a))), (0, .ref 83)], [.int (Zi 125), .int (Zi (D_see s (o1.2.1 + 1)))])) (fun _ => rfl) ?_
              refine Z_ceq rfl rfl (by first | exact hs.zF _ | exact Zor_r _ _ | exact hs.zA _ _ | assumption | exact zS _ | exact Zr_not (hs.zA _ _) | exact ⟨by omega, by omega⟩) (by first | exact hs.zF _ | exact Zor_r _ _ | exact hs.zA _ _ | assumption | exact zS _ | exact Zr_not (hs.zA _ _) | exact ⟨by omega, by omega⟩) (fun c12 => ?_) (fun c12 => ?_)
              · refine Z_go (f2 := (170, [(3, .int (Zi (-1))), (2, .int (Zi (o1.1))), (1, .int (Zi (D_see s a))), (0, .ref 83)], [.ref 83])) (fun _ => rfl) ?_
                refine Z_go (f2 := (171, [(3, .int (Zi (-1))), (2, .int (Zi (o1.1))), (1, .int (Zi (D_see s a))), (0, .ref 83)], [.ref 83, .ref 83])) (fun _ => rfl) ?_
                refine R_gi rfl hs rfl ?_
                show B_R _ _ (174, [(3, .int (Zi (-1))), (2, .int (Zi (o1.1))), (1, .int (Zi (D_see s a))), (0, .ref 83)], [.int (Zi (o1.2.1 + 1)), .ref 83]) _ _ _
                refine R_call (As := [.int (Zi (o1.2.1 + 1))]) (rest := []) rfl (by decide) rfl rfl rfl rfl (by decide +kernel) (Nat.le_of_ble_eq_true rfl) hs (R_see2 _ _ (by first | assumption | exact hs.zF _ | exact hs.zA _ _ | exact zS _ | exact ⟨by omega, by omega⟩ | omega) (by first | assumption | exact hs.zF _ | exact hs.zA _ _ | exact zS _ | exact ⟨by omega, by omega⟩ | omega) (show s.1 1 ≤ 1000 by omega)) (fun x h s2 hs q => ?_)
                obtain ⟨q0, rfl⟩ := q
                rw [q0] at hs
                rw [R_p3_see]
                show B_R _ _ (177, [(3, .int (Zi (-1))), (2, .int (Zi (o1.1))), (1, .int (Zi (D_see s a))), (0, .ref 83)], [.int (Zi (D_see s (o1.2.1 + 1)))]) _ _ _
                refine Z_go (f2 := (179, [(3, .int (Zi (-1))), (2, .int (Zi (o1.1))), (1, .int (Zi (D_see s a))), (0, .ref 83)], [.int (Zi 125), .int (Zi (D_see s (o1.2.1 + 1)))])) (fun _ => rfl) ?_
                refine Z_ceq rfl rfl (by first | exact hs.zF _ | exact Zor_r _ _ | exact hs.zA _ _ | assumption | exact zS _ | exact Zr_not (hs.zA _ _) | exact ⟨by omega, by omega⟩) (by first | exact hs.zF _ | exact Zor_r _ _ | exact hs.zA _ _ | assumption | exact zS _ | exact Zr_not (hs.zA _ _) | exact ⟨by omega, by omega⟩) (fun c13 => ?_) (fun c13 => ?_)
                · refine Z_go (f2 := (194, [(3, .int (Zi (-1))), (2, .int (Zi (o1.1))), (1, .int (Zi (D_see s a))), (0, .ref 83)], [.ref 83])) (fun _ => rfl) ?_
                  refine Z_go (f2 := (195, [(3, .int (Zi (-1))), (2, .int (Zi (o1.1))), (1, .int (Zi (D_see s a))), (0, .ref 83)], [.ref 83, .ref 83])) (fun _ => rfl) ?_
                  refine R_gi rfl hs rfl ?_
                  show B_R _ _ (198, [(3, .int (Zi (-1))), (2, .int (Zi (o1.1))), (1, .int (Zi (D_see s a))), (0, .ref 83)], [.int (Zi (o1.2.1 + 1)), .ref 83]) _ _ _
                  refine Z_go (f2 := (199, [(3, .int (Zi (-1))), (2, .int (Zi (o1.1))), (1, .int (Zi (D_see s a))), (0, .ref 83)], [.int (Zi 1), .int (Zi (o1.2.1 + 1)), .ref 83])) (fun _ => rfl) ?_
                  refine Z_iadd rfl ?_
                  refine R_pf rfl hs rfl (by first | exact hs.zF _ | exact Zor_r _ _ | exact hs.zA _ _ | assumption | exact zS _ | exact Zr_not (hs.zA _ _) | exact ⟨by omega, by omega⟩) ⟨rfl, rfl, rfl⟩ (fun h hs => ?_)
                  rw [R_p3_16] at hs
                  refine Z_go (f2 := (204, [(3, .int (Zi (-1))), (2, .int (Zi (o1.1))), (1, .int (Zi (D_see s a))), (0, .ref 83)], [.ref 83])) (fun _ => rfl) ?_
                  refine Z_go (f2 := (206, [(3, .int (Zi (-1))), (2, .int (Zi (o1.1))), (1, .int (Zi (D_see s a))), (0, .ref 83)], [.int (Zi 11), .ref 83])) (fun _ => rfl) ?_
                  refine Z_go (f2 := (207, [(3, .int (Zi (-1))), (2, .int (Zi (o1.1))), (1, .int (Zi (D_see s a))), (0, .ref 83)], [.int (Zi (o1.1)), .int (Zi 11), .ref 83])) (fun _ => rfl) ?_
                  refine Z_go (f2 := (208, [(3, .int (Zi (-1))), (2, .int (Zi (o1.1))), (1, .int (Zi (D_see s a))), (0, .ref 83)], [.int (Zi (-1)), .int (Zi (o1.1)), .int (Zi 11), .ref 83])) (fun _ => rfl) ?_
                  refine R_call (As := [.int (Zi 11), .int (Zi (o1.1)), .int (Zi (-1))]) (rest := []) rfl (by decide) rfl rfl rfl rfl (by decide +kernel) (Nat.le_of_ble_eq_true rfl) hs (R_emit2 _ s (o1.2.1 + 1 + 1) o1.2.2.1 o1.2.2.2 (by first | assumption | exact hs.zF _ | exact hs.zA _ _ | exact zS _ | exact ⟨by omega, by omega⟩ | omega) (by first | assumption | exact hs.zF _ | exact hs.zA _ _ | exact zS _ | exact ⟨by omega, by omega⟩ | omega) (by first | assumption | exact hs.zF _ | exact hs.zA _ _ | exact zS _ | exact ⟨by omega, by omega⟩ | omega) (by omega) (by omega)) (fun x h s2 hs q => ?_)
                  obtain ⟨rfl, q1⟩ := q
                  rw [q1] at hs
                  show B_R _ _ (211, [(3, .int (Zi (-1))), (2, .int (Zi (o1.1))), (1, .int (Zi (D_see s a))), (0, .ref 83)], []) _ _ _
                  refine Z_go (f2 := (212, [(3, .int (Zi (-1))), (2, .int (Zi (o1.1))), (1, .int (Zi (D_see s a))), (0, .ref 83)], [.int (Zi 1)])) (fun _ => rfl) ?_
                  refine Z_iret rfl rfl (by first | rfl | decide | exact narrow_b01 (by omega)) ⟨_, hs, ?_, rfl⟩
                  have e : D_cnt (D_see s) a f p = (1, o1.2.1 + 1 + 1, o1.2.2.1, o1.2.2.2, some (11, o1.1, -1)) := by
                    unfold D_cnt
                    try dsimp only
                    rw [← ho1]
                    repeat first
                      | rw [if_pos (by first | omega | (unfold P_nm; omega) | (unfold D_sgn D_let D_dig; omega) | (unfold D_pln; omega))]
                      | rw [if_neg (by first | omega | (unfold P_nm; omega) | (unfold D_sgn D_let D_dig; omega) | (unfold D_pln; omega))]
                    try (refine Prod.ext ?_ (Prod.ext ?_ (Prod.ext ?_ (Prod.ext ?_ ?_))) <;> first | rfl | (dsimp only; omega))
                  rw [e]
                  exact ⟨rfl, _, rfl, .inr ⟨rfl, R_ap_em s 11 o1.1 (-1)⟩⟩
                · refine Z_go (f2 := (183, [(3, .int (Zi (-1))), (2, .int (Zi (o1.1))), (1, .int (Zi (D_see s a))), (0, .ref 83)], [.ref 83])) (fun _ => rfl) ?_
                  refine Z_go (f2 := (184, [(3, .int (Zi (-1))), (2, .int (Zi (o1.1))), (1, .int (Zi (D_see s a))), (0, .ref 83)], [.int (Zi 1), .ref 83])) (fun _ => rfl) ?_
                  refine Z_go (f2 := (185, [(3, .int (Zi (-1))), (2, .int (Zi (o1.1))), (1, .int (Zi (D_see s a))), (0, .ref 83)], [.ref 83, .int (Zi 1), .ref 83])) (fun _ => rfl) ?_
                  refine R_gi rfl hs rfl ?_
                  show B_R _ _ (188, [(3, .int (Zi (-1))), (2, .int (Zi (o1.1))), (1, .int (Zi (D_see s a))), (0, .ref 83)], [.int (Zi (o1.2.1 + 1)), .int (Zi 1), .ref 83]) _ _ _
                  refine R_call (As := [.int (Zi 1), .int (Zi (o1.2.1 + 1))]) (rest := []) rfl (by decide) rfl rfl rfl rfl (by decide +kernel) (Nat.le_of_ble_eq_true rfl) hs (R_fail2 _ s (o1.2.1 + 1) o1.2.2.1 o1.2.2.2 (by first | assumption | exact hs.zF _ | exact hs.zA _ _ | exact zS _ | exact ⟨by omega, by omega⟩ | omega) (by first | assumption | exact hs.zF _ | exact hs.zA _ _ | exact zS _ | exact ⟨by omega, by omega⟩ | omega)) (fun x h s2 hs q => ?_)
                  obtain ⟨rfl, q1⟩ := q
                  rw [q1] at hs
                  show B_R _ _ (191, [(3, .int (Zi (-1))), (2, .int (Zi (o1.1))), (1, .int (Zi (D_see s a))), (0, .ref 83)], []) _ _ _
                  refine Z_go (f2 := (192, [(3, .int (Zi (-1))), (2, .int (Zi (o1.1))), (1, .int (Zi (D_see s a))), (0, .ref 83)], [.int (Zi 0)])) (fun _ => rfl) ?_
                  refine Z_iret rfl rfl (by first | rfl | decide | exact narrow_b01 (by omega)) ⟨_, hs, ?_, rfl⟩
                  have e : D_cnt (D_see s) a f p = (0, o1.2.1 + 1, (D_ff o1.2.2.1 o1.2.2.2 1 (o1.2.1 + 1)).1, (D_ff o1.2.2.1 o1.2.2.2 1 (o1.2.1 + 1)).2, none) := by
                    unfold D_cnt
                    try dsimp only
                    rw [← ho1]
                    repeat first
                      | rw [if_pos (by first | omega | (unfold P_nm; omega) | (unfold D_sgn D_let D_dig; omega) | (unfold D_pln; omega))]
                      | rw [if_neg (by first | omega | (unfold P_nm; omega) | (unfold D_sgn D_let D_dig; omega) | (unfold D_pln; omega))]
                    try (refine Prod.ext ?_ (Prod.ext ?_ (Prod.ext ?_ (Prod.ext ?_ ?_))) <;> first | rfl | (dsimp only; omega))
                  rw [e]
                  exact ⟨rfl, _, rfl, .inl ⟨rfl, R_ap_0 s⟩⟩
              · refine Z_go (f2 := (140, [(3, .int (Zi (-1))), (2, .int (Zi (o1.1))), (1, .int (Zi (D_see s a))), (0, .ref 83)], [.ref 83])) (fun _ => rfl) ?_
                refine R_gi rfl hs rfl ?_
                show B_R _ _ (143, [(3, .int (Zi (-1))), (2, .int (Zi (o1.1))), (1, .int (Zi (D_see s a))), (0, .ref 83)], [.int (Zi (o1.2.1 + 1))]) _ _ _
                refine Z_go (f2 := (145, [(4, .int (Zi (o1.2.1 + 1))), (3, .int (Zi (-1))), (2, .int (Zi (o1.1))), (1, .int (Zi (D_see s a))), (0, .ref 83)], [])) (fun _ => rfl) ?_
                refine Z_go (f2 := (146, [(4, .int (Zi (o1.2.1 + 1))), (3, .int (Zi (-1))), (2, .int (Zi (o1.1))), (1, .int (Zi (D_see s a))), (0, .ref 83)], [.ref 83])) (fun _ => rfl) ?_
                refine R_call (As := []) (rest := []) rfl (by decide) rfl rfl rfl rfl (by decide +kernel) (Nat.le_of_ble_eq_true rfl) hs (R_number _ s (o1.2.1 + 1) o1.2.2.1 o1.2.2.2 (by omega) (by omega) t1 tb) (fun x h s2 hs q => ?_)
                obtain ⟨rfl, q1⟩ := q
                rw [q1] at hs
                obtain ⟨o2, ho2⟩ : ∃ o, o = D_num (D_see s) (o1.2.1 + 1) o1.2.2.1 o1.2.2.2 := ⟨_, rfl⟩
                rw [← ho2] at hs ⊢
                have hn2 := D_num_n sn (o1.2.1 + 1) o1.2.2.1 o1.2.2.2 (by omega)
                rw [← ho2] at hn2
                have hl2 := D_num_le (D_see s) (o1.2.1 + 1) o1.2.2.1 o1.2.2.2
                rw [← ho2] at hl2
                have hr2 := D_num_r zb (o1.2.1 + 1) o1.2.2.1 o1.2.2.2
                rw [← ho2] at hr2
                have sno2 := sn o2.2.1
                show B_R _ _ (149, [(4, .int (Zi (o1.2.1 + 1))), (3, .int (Zi (-1))), (2, .int (Zi (o1.1))), (1, .int (Zi (D_see s a))), (0, .ref 83)], [.int (Zi (o2.1))]) _ _ _
                refine Z_go (f2 := (150, [(3, .int (Zi (o2.1))), (4, .int (Zi (o1.2.1 + 1))), (2, .int (Zi (o1.1))), (1, .int (Zi (D_see s a))), (0, .ref 83)], [])) (fun _ => rfl) ?_
                refine Z_go (f2 := (151, [(3, .int (Zi (o2.1))), (4, .int (Zi (o1.2.1 + 1))), (2, .int (Zi (o1.1))), (1, .int (Zi (D_see s a))), (0, .ref 83)], [.int (Zi (o2.1))])) (fun _ => rfl) ?_
                refine Z_go (f2 := (152, [(3, .int (Zi (o2.1))), (4, .int (Zi (o1.2.1 + 1))), (2, .int (Zi (o1.1))), (1, .int (Zi (D_see s a))), (0, .ref 83)], [.int (Zi (-1)), .int (Zi (o2.1))])) (fun _ => rfl) ?_
                refine Z_cne rfl rfl (by first | exact hs.zF _ | exact Zor_r _ _ | exact hs.zA _ _ | assumption | exact zS _ | exact Zr_not (hs.zA _ _) | exact ⟨by omega, by omega⟩) (by first | exact hs.zF _ | exact Zor_r _ _ | exact hs.zA _ _ | assumption | exact zS _ | exact Zr_not (hs.zA _ _) | exact ⟨by omega, by omega⟩) (fun c14 => ?_) (fun c14 => ?_)
                · refine Z_go (f2 := (158, [(3, .int (Zi (o2.1))), (4, .int (Zi (o1.2.1 + 1))), (2, .int (Zi (o1.1))), (1, .int (Zi (D_see s a))), (0, .ref 83)], [.int (Zi (o2.1))])) (fun _ => rfl) ?_
                  refine Z_go (f2 := (159, [(3, .int (Zi (o2.1))), (4, .int (Zi (o1.2.1 + 1))), (2, .int (Zi (o1.1))), (1, .int (Zi (D_see s a))), (0, .ref 83)], [.int (Zi (o1.1)), .int (Zi (o2.1))])) (fun _ => rfl) ?_
                  refine Z_cge rfl rfl (by first | exact hs.zF _ | exact Zor_r _ _ | exact hs.zA _ _ | assumption | exact zS _ | exact Zr_not (hs.zA _ _) | exact ⟨by omega, by omega⟩) (by first | exact hs.zF _ | exact Zor_r _ _ | exact hs.zA _ _ | assumption | exact zS _ | exact Zr_not (hs.zA _ _) | exact ⟨by omega, by omega⟩) (fun c15 => ?_) (fun c15 => ?_)
                  · refine Z_go (f2 := (170, [(3, .int (Zi (o2.1))), (4, .int (Zi (o1.2.1 + 1))), (2, .int (Zi (o1.1))), (1, .int (Zi (D_see s a))), (0, .ref 83)], [.ref 83])) (fun _ => rfl) ?_
                    refine Z_go (f2 := (171, [(3, .int (Zi (o2.1))), (4, .int (Zi (o1.2.1 + 1))), (2, .int (Zi (o1.1))), (1, .int (Zi (D_see s a))), (0, .ref 83)], [.ref 83, .ref 83])) (fun _ => rfl) ?_
                    refine R_gi rfl hs rfl ?_
                    show B_R _ _ (174, [(3, .int (Zi (o2.1))), (4, .int (Zi (o1.2.1 + 1))), (2, .int (Zi (o1.1))), (1, .int (Zi (D_see s a))), (0, .ref 83)], [.int (Zi (o2.2.1)), .ref 83]) _ _ _
                    refine R_call (As := [.int (Zi (o2.2.1))]) (rest := []) rfl (by decide) rfl rfl rfl rfl (by decide +kernel) (Nat.le_of_ble_eq_true rfl) hs (R_see2 _ _ (by first | assumption | exact hs.zF _ | exact hs.zA _ _ | exact zS _ | exact ⟨by omega, by omega⟩ | omega) (by first | assumption | exact hs.zF _ | exact hs.zA _ _ | exact zS _ | exact ⟨by omega, by omega⟩ | omega) (show s.1 1 ≤ 1000 by omega)) (fun x h s2 hs q => ?_)
                    obtain ⟨q0, rfl⟩ := q
                    rw [q0] at hs
                    rw [R_p3_see]
                    show B_R _ _ (177, [(3, .int (Zi (o2.1))), (4, .int (Zi (o1.2.1 + 1))), (2, .int (Zi (o1.1))), (1, .int (Zi (D_see s a))), (0, .ref 83)], [.int (Zi (D_see s o2.2.1))]) _ _ _
                    refine Z_go (f2 := (179, [(3, .int (Zi (o2.1))), (4, .int (Zi (o1.2.1 + 1))), (2, .int (Zi (o1.1))), (1, .int (Zi (D_see s a))), (0, .ref 83)], [.int (Zi 125), .int (Zi (D_see s o2.2.1))])) (fun _ => rfl) ?_
                    refine Z_ceq rfl rfl (by first | exact hs.zF _ | exact Zor_r _ _ | exact hs.zA _ _ | assumption | exact zS _ | exact Zr_not (hs.zA _ _) | exact ⟨by omega, by omega⟩) (by first | exact hs.zF _ | exact Zor_r _ _ | exact hs.zA _ _ | assumption | exact zS _ | exact Zr_not (hs.zA _ _) | exact ⟨by omega, by omega⟩) (fun c16 => ?_) (fun c16 => ?_)
                    · refine Z_go (f2 := (194, [(3, .int (Zi (o2.1))), (4, .int (Zi (o1.2.1 + 1))), (2, .int (Zi (o1.1))), (1, .int (Zi (D_see s a))), (0, .ref 83)], [.ref 83])) (fun _ => rfl) ?_
                      refine Z_go (f2 := (195, [(3, .int (Zi (o2.1))), (4, .int (Zi (o1.2.1 + 1))), (2, .int (Zi (o1.1))), (1, .int (Zi (D_see s a))), (0, .ref 83)], [.ref 83, .ref 83])) (fun _ => rfl) ?_
                      refine R_gi rfl hs rfl ?_
                      show B_R _ _ (198, [(3, .int (Zi (o2.1))), (4, .int (Zi (o1.2.1 + 1))), (2, .int (Zi (o1.1))), (1, .int (Zi (D_see s a))), (0, .ref 83)], [.int (Zi (o2.2.1)), .ref 83]) _ _ _
                      refine Z_go (f2 := (199, [(3, .int (Zi (o2.1))), (4, .int (Zi (o1.2.1 + 1))), (2, .int (Zi (o1.1))), (1, .int (Zi (D_see s a))), (0, .ref 83)], [.int (Zi 1), .int (Zi (o2.2.1)), .ref 83])) (fun _ => rfl) ?_
                      refine Z_iadd rfl ?_
                      refine R_pf rfl hs rfl (by first | exact hs.zF _ | exact Zor_r _ _ | exact hs.zA _ _ | assumption | exact zS _ | exact Zr_not (hs.zA _ _) | exact ⟨by omega, by omega⟩) ⟨rfl, rfl, rfl⟩ (fun h hs => ?_)
                      rw [R_p3_16] at hs
                      refine Z_go (f2 := (204, [(3, .int (Zi (o2.1))), (4, .int (Zi (o1.2.1 + 1))), (2, .int (Zi (o1.1))), (1, .int (Zi (D_see s a))), (0, .ref 83)], [.ref 83])) (fun _ => rfl) ?_
                      refine Z_go (f2 := (206, [(3, .int (Zi (o2.1))), (4, .int (Zi (o1.2.1 + 1))), (2, .int (Zi (o1.1))), (1, .int (Zi (D_see s a))), (0, .ref 83)], [.int (Zi 11), .ref 83])) (fun _ => rfl) ?_
                      refine Z_go (f2 := (207, [(3, .int (Zi (o2.1))), (4, .int (Zi (o1.2.1 + 1))), (2, .int (Zi (o1.1))), (1, .int (Zi (D_see s a))), (0, .ref 83)], [.int (Zi (o1.1)), .int (Zi 11), .ref 83])) (fun _ => rfl) ?_
                      refine Z_go (f2 := (208, [(3, .int (Zi (o2.1))), (4, .int (Zi (o1.2.1 + 1))), (2, .int (Zi (o1.1))), (1, .int (Zi (D_see s a))), (0, .ref 83)], [.int (Zi (o2.1)), .int (Zi (o1.1)), .int (Zi 11), .ref 83])) (fun _ => rfl) ?_
                      refine R_call (As := [.int (Zi 11), .int (Zi (o1.1)), .int (Zi (o2.1))]) (rest := []) rfl (by decide) rfl rfl rfl rfl (by decide +kernel) (Nat.le_of_ble_eq_true rfl) hs (R_emit2 _ s (o2.2.1 + 1) o2.2.2.1 o2.2.2.2 (by first | assumption | exact hs.zF _ | exact hs.zA _ _ | exact zS _ | exact ⟨by omega, by omega⟩ | omega) (by first | assumption | exact hs.zF _ | exact hs.zA _ _ | exact zS _ | exact ⟨by omega, by omega⟩ | omega) (by first | assumption | exact hs.zF _ | exact hs.zA _ _ | exact zS _ | exact ⟨by omega, by omega⟩ | omega) (by omega) (by omega)) (fun x h s2 hs q => ?_)
                      obtain ⟨rfl, q1⟩ := q
                      rw [q1] at hs
                      show B_R _ _ (211, [(3, .int (Zi (o2.1))), (4, .int (Zi (o1.2.1 + 1))), (2, .int (Zi (o1.1))), (1, .int (Zi (D_see s a))), (0, .ref 83)], []) _ _ _
                      refine Z_go (f2 := (212, [(3, .int (Zi (o2.1))), (4, .int (Zi (o1.2.1 + 1))), (2, .int (Zi (o1.1))), (1, .int (Zi (D_see s a))), (0, .ref 83)], [.int (Zi 1)])) (fun _ => rfl) ?_
                      refine Z_iret rfl rfl (by first | rfl | decide | exact narrow_b01 (by omega)) ⟨_, hs, ?_, rfl⟩
                      have e : D_cnt (D_see s) a f p = (1, o2.2.1 + 1, o2.2.2.1, o2.2.2.2, some (11, o1.1, o2.1)) := by
                        unfold D_cnt
                        try dsimp only
                        rw [← ho1]
                        rw [← ho2]
                        repeat first
                          | rw [if_pos (by first | omega | (unfold P_nm; omega) | (unfold D_sgn D_let D_dig; omega) | (unfold D_pln; omega))]
                          | rw [if_neg (by first | omega | (unfold P_nm; omega) | (unfold D_sgn D_let D_dig; omega) | (unfold D_pln; omega))]
                        try (refine Prod.ext ?_ (Prod.ext ?_ (Prod.ext ?_ (Prod.ext ?_ ?_))) <;> first | rfl | (dsimp only; omega))
                      rw [e]
                      exact ⟨rfl, _, rfl, .inr ⟨rfl, R_ap_em s 11 o1.1 o2.1⟩⟩
                    · refine Z_go (f2 := (183, [(3, .int (Zi (o2.1))), (4, .int (Zi (o1.2.1 + 1))), (2, .int (Zi (o1.1))), (1, .int (Zi (D_see s a))), (0, .ref 83)], [.ref 83])) (fun _ => rfl) ?_
                      refine Z_go (f2 := (184, [(3, .int (Zi (o2.1))), (4, .int (Zi (o1.2.1 + 1))), (2, .int (Zi (o1.1))), (1, .int (Zi (D_see s a))), (0, .ref 83)], [.int (Zi 1), .ref 83])) (fun _ => rfl) ?_
                      refine Z_go (f2 := (185, [(3, .int (Zi (o2.1))), (4, .int (Zi (o1.2.1 + 1))), (2, .int (Zi (o1.1))), (1, .int (Zi (D_see s a))), (0, .ref 83)], [.ref 83, .int (Zi 1), .ref 83])) (fun _ => rfl) ?_
                      refine R_gi rfl hs rfl ?_
                      show B_R _ _ (188, [(3, .int (Zi (o2.1))), (4, .int (Zi (o1.2.1 + 1))), (2, .int (Zi (o1.1))), (1, .int (Zi (D_see s a))), (0, .ref 83)], [.int (Zi (o2.2.1)), .int (Zi 1), .ref 83]) _ _ _
                      refine R_call (As := [.int (Zi 1), .int (Zi (o2.2.1))]) (rest := []) rfl (by decide) rfl rfl rfl rfl (by decide +kernel) (Nat.le_of_ble_eq_true rfl) hs (R_fail2 _ s o2.2.1 o2.2.2.1 o2.2.2.2 (by first | assumption | exact hs.zF _ | exact hs.zA _ _ | exact zS _ | exact ⟨by omega, by omega⟩ | omega) (by first | assumption | exact hs.zF _ | exact hs.zA _ _ | exact zS _ | exact ⟨by omega, by omega⟩ | omega)) (fun x h s2 hs q => ?_)
                      obtain ⟨rfl, q1⟩ := q
                      rw [q1] at hs
                      show B_R _ _ (191, [(3, .int (Zi (o2.1))), (4, .int (Zi (o1.2.1 + 1))), (2, .int (Zi (o1.1))), (1, .int (Zi (D_see s a))), (0, .ref 83)], []) _ _ _
                      refine Z_go (f2 := (192, [(3, .int (Zi (o2.1))), (4, .int (Zi (o1.2.1 + 1))), (2, .int (Zi (o1.1))), (1, .int (Zi (D_see s a))), (0, .ref 83)], [.int (Zi 0)])) (fun _ => rfl) ?_
                      refine Z_iret rfl rfl (by first | rfl | decide | exact narrow_b01 (by omega)) ⟨_, hs, ?_, rfl⟩
                      have e : D_cnt (D_see s) a f p = (0, o2.2.1, (D_ff o2.2.2.1 o2.2.2.2 1 o2.2.1).1, (D_ff o2.2.2.1 o2.2.2.2 1 o2.2.1).2, none) := by
                        unfold D_cnt
                        try dsimp only
                        rw [← ho1]
                        rw [← ho2]
                        repeat first
                          | rw [if_pos (by first | omega | (unfold P_nm; omega) | (unfold D_sgn D_let D_dig; omega) | (unfold D_pln; omega))]
                          | rw [if_neg (by first | omega | (unfold P_nm; omega) | (unfold D_sgn D_let D_dig; omega) | (unfold D_pln; omega))]
                        try (refine Prod.ext ?_ (Prod.ext ?_ (Prod.ext ?_ (Prod.ext ?_ ?_))) <;> first | rfl | (dsimp only; omega))
                      rw [e]
                      exact ⟨rfl, _, rfl, .inl ⟨rfl, R_ap_0 s⟩⟩
                  · refine Z_go (f2 := (163, [(3, .int (Zi (o2.1))), (4, .int (Zi (o1.2.1 + 1))), (2, .int (Zi (o1.1))), (1, .int (Zi (D_see s a))), (0, .ref 83)], [.ref 83])) (fun _ => rfl) ?_
                    refine Z_go (f2 := (164, [(3, .int (Zi (o2.1))), (4, .int (Zi (o1.2.1 + 1))), (2, .int (Zi (o1.1))), (1, .int (Zi (D_see s a))), (0, .ref 83)], [.int (Zi 2), .ref 83])) (fun _ => rfl) ?_
                    refine Z_go (f2 := (166, [(3, .int (Zi (o2.1))), (4, .int (Zi (o1.2.1 + 1))), (2, .int (Zi (o1.1))), (1, .int (Zi (D_see s a))), (0, .ref 83)], [.int (Zi (o1.2.1 + 1)), .int (Zi 2), .ref 83])) (fun _ => rfl) ?_
                    refine R_call (As := [.int (Zi 2), .int (Zi (o1.2.1 + 1))]) (rest := []) rfl (by decide) rfl rfl rfl rfl (by decide +kernel) (Nat.le_of_ble_eq_true rfl) hs (R_fail2 _ s o2.2.1 o2.2.2.1 o2.2.2.2 (by first | assumption | exact hs.zF _ | exact hs.zA _ _ | exact zS _ | exact ⟨by omega, by omega⟩ | omega) (by first | assumption | exact hs.zF _ | exact hs.zA _ _ | exact zS _ | exact ⟨by omega, by omega⟩ | omega)) (fun x h s2 hs q => ?_)
                    obtain ⟨rfl, q1⟩ := q
                    rw [q1] at hs
                    show B_R _ _ (169, [(3, .int (Zi (o2.1))), (4, .int (Zi (o1.2.1 + 1))), (2, .int (Zi (o1.1))), (1, .int (Zi (D_see s a))), (0, .ref 83)], []) _ _ _
                    refine Z_go (f2 := (170, [(3, .int (Zi (o2.1))), (4, .int (Zi (o1.2.1 + 1))), (2, .int (Zi (o1.1))), (1, .int (Zi (D_see s a))), (0, .ref 83)], [.ref 83])) (fun _ => rfl) ?_
                    refine Z_go (f2 := (171, [(3, .int (Zi (o2.1))), (4, .int (Zi (o1.2.1 + 1))), (2, .int (Zi (o1.1))), (1, .int (Zi (D_see s a))), (0, .ref 83)], [.ref 83, .ref 83])) (fun _ => rfl) ?_
                    refine R_gi rfl hs rfl ?_
                    show B_R _ _ (174, [(3, .int (Zi (o2.1))), (4, .int (Zi (o1.2.1 + 1))), (2, .int (Zi (o1.1))), (1, .int (Zi (D_see s a))), (0, .ref 83)], [.int (Zi (o2.2.1)), .ref 83]) _ _ _
                    refine R_call (As := [.int (Zi (o2.2.1))]) (rest := []) rfl (by decide) rfl rfl rfl rfl (by decide +kernel) (Nat.le_of_ble_eq_true rfl) hs (R_see2 _ _ (by first | assumption | exact hs.zF _ | exact hs.zA _ _ | exact zS _ | exact ⟨by omega, by omega⟩ | omega) (by first | assumption | exact hs.zF _ | exact hs.zA _ _ | exact zS _ | exact ⟨by omega, by omega⟩ | omega) (show s.1 1 ≤ 1000 by omega)) (fun x h s2 hs q => ?_)
                    obtain ⟨q0, rfl⟩ := q
                    rw [q0] at hs
                    rw [R_p3_see]
                    show B_R _ _ (177, [(3, .int (Zi (o2.1))), (4, .int (Zi (o1.2.1 + 1))), (2, .int (Zi (o1.1))), (1, .int (Zi (D_see s a))), (0, .ref 83)], [.int (Zi (D_see s o2.2.1))]) _ _ _
                    refine Z_go (f2 := (179, [(3, .int (Zi (o2.1))), (4, .int (Zi (o1.2.1 + 1))), (2, .int (Zi (o1.1))), (1, .int (Zi (D_see s a))), (0, .ref 83)], [.int (Zi 125), .int (Zi (D_see s o2.2.1))])) (fun _ => rfl) ?_
                    refine Z_ceq rfl rfl (by first | exact hs.zF _ | exact Zor_r _ _ | exact hs.zA _ _ | assumption | exact zS _ | exact Zr_not (hs.zA _ _) | exact ⟨by omega, by omega⟩) (by first | exact hs.zF _ | exact Zor_r _ _ | exact hs.zA _ _ | assumption | exact zS _ | exact Zr_not (hs.zA _ _) | exact ⟨by omega, by omega⟩) (fun c17 => ?_) (fun c17 => ?_)
                    · refine Z_go (f2 := (194, [(3, .int (Zi (o2.1))), (4, .int (Zi (o1.2.1 + 1))), (2, .int (Zi (o1.1))), (1, .int (Zi (D_see s a))), (0, .ref 83)], [.ref 83])) (fun _ => rfl) ?_
                      refine Z_go (f2 := (195, [(3, .int (Zi (o2.1))), (4, .int (Zi (o1.2.1 + 1))), (2, .int (Zi (o1.1))), (1, .int (Zi (D_see s a))), (0, .ref 83)], [.ref 83, .ref 83])) (fun _ => rfl) ?_
                      refine R_gi rfl hs rfl ?_
                      show B_R _ _ (198, [(3, .int (Zi (o2.1))), (4, .int (Zi (o1.2.1 + 1))), (2, .int (Zi (o1.1))), (1, .int (Zi (D_see s a))), (0, .ref 83)], [.int (Zi (o2.2.1)), .ref 83]) _ _ _
                      refine Z_go (f2 := (199, [(3, .int (Zi (o2.1))), (4, .int (Zi (o1.2.1 + 1))), (2, .int (Zi (o1.1))), (1, .int (Zi (D_see s a))), (0, .ref 83)], [.int (Zi 1), .int (Zi (o2.2.1)), .ref 83])) (fun _ => rfl) ?_
                      refine Z_iadd rfl ?_
                      refine R_pf rfl hs rfl (by first | exact hs.zF _ | exact Zor_r _ _ | exact hs.zA _ _ | assumption | exact zS _ | exact Zr_not (hs.zA _ _) | exact ⟨by omega, by omega⟩) ⟨rfl, rfl, rfl⟩ (fun h hs => ?_)
                      rw [R_p3_16] at hs
                      refine Z_go (f2 := (204, [(3, .int (Zi (o2.1))), (4, .int (Zi (o1.2.1 + 1))), (2, .int (Zi (o1.1))), (1, .int (Zi (D_see s a))), (0, .ref 83)], [.ref 83])) (fun _ => rfl) ?_
                      refine Z_go (f2 := (206, [(3, .int (Zi (o2.1))), (4, .int (Zi (o1.2.1 + 1))), (2, .int (Zi (o1.1))), (1, .int (Zi (D_see s a))), (0, .ref 83)], [.int (Zi 11), .ref 83])) (fun _ => rfl) ?_
                      refine Z_go (f2 := (207, [(3, .int (Zi (o2.1))), (4, .int (Zi (o1.2.1 + 1))), (2, .int (Zi (o1.1))), (1, .int (Zi (D_see s a))), (0, .ref 83)], [.int (Zi (o1.1)), .int (Zi 11), .ref 83])) (fun _ => rfl) ?_
                      refine Z_go (f2 := (208, [(3, .int (Zi (o2.1))), (4, .int (Zi (o1.2.1 + 1))), (2, .int (Zi (o1.1))), (1, .int (Zi (D_see s a))), (0, .ref 83)], [.int (Zi (o2.1)), .int (Zi (o1.1)), .int (Zi 11), .ref 83])) (fun _ => rfl) ?_
                      refine R_call (As := [.int (Zi 11), .int (Zi (o1.1)), .int (Zi (o2.1))]) (rest := []) rfl (by decide) rfl rfl rfl rfl (by decide +kernel) (Nat.le_of_ble_eq_true rfl) hs (R_emit2 _ s (o2.2.1 + 1) (D_ff o2.2.2.1 o2.2.2.2 2 (o1.2.1 + 1)).1 (D_ff o2.2.2.1 o2.2.2.2 2 (o1.2.1 + 1)).2 (by first | assumption | exact hs.zF _ | exact hs.zA _ _ | exact zS _ | exact ⟨by omega, by omega⟩ | omega) (by first | assumption | exact hs.zF _ | exact hs.zA _ _ | exact zS _ | exact ⟨by omega, by omega⟩ | omega) (by first | assumption | exact hs.zF _ | exact hs.zA _ _ | exact zS _ | exact ⟨by omega, by omega⟩ | omega) (by omega) (by omega)) (fun x h s2 hs q => ?_)
                      obtain ⟨rfl, q1⟩ := q
                      rw [q1] at hs
                      show B_R _ _ (211, [(3, .int (Zi (o2.1))), (4, .int (Zi (o1.2.1 + 1))), (2, .int (Zi (o1.1))), (1, .int (Zi (D_see s a))), (0, .ref 83)], []) _ _ _
                      refine Z_go (f2 := (212, [(3, .int (Zi (o2.1))), (4, .int (Zi (o1.2.1 + 1))), (2, .int (Zi (o1.1))), (1, .int (Zi (D_see s a))), (0, .ref 83)], [.int (Zi 1)])) (fun _ => rfl) ?_
                      refine Z_iret rfl rfl (by first | rfl | decide | exact narrow_b01 (by omega)) ⟨_, hs, ?_, rfl⟩
                      have e : D_cnt (D_see s) a f p = (1, o2.2.1 + 1, (D_ff o2.2.2.1 o2.2.2.2 2 (o1.2.1 + 1)).1, (D_ff o2.2.2.1 o2.2.2.2 2 (o1.2.1 + 1)).2, some (11, o1.1, o2.1)) := by
                        unfold D_cnt
                        try dsimp only
                        rw [← ho1]
                        rw [← ho2]
                        repeat first
                          | rw [if_pos (by first | omega | (unfold P_nm; omega) | (unfold D_sgn D_let D_dig; omega) | (unfold D_pln; omega))]
                          | rw [if_neg (by first | omega | (unfold P_nm; omega) | (unfold D_sgn D_let D_dig; omega) | (unfold D_pln; omega))]
                        try (refine Prod.ext ?_ (Prod.ext ?_ (Prod.ext ?_ (Prod.ext ?_ ?_))) <;> first | rfl | (dsimp only; omega))
                      rw [e]
                      exact ⟨rfl, _, rfl, .inr ⟨rfl, R_ap_em s 11 o1.1 o2.1⟩⟩
                    · refine Z_go (f2 := (183, [(3, .int (Zi (o2.1))), (4, .int (Zi (o1.2.1 + 1))), (2, .int (Zi (o1.1))), (1, .int (Zi (D_see s a))), (0, .ref 83)], [.ref 83])) (fun _ => rfl) ?_
                      refine Z_go (f2 := (184, [(3, .int (Zi (o2.1))), (4, .int (Zi (o1.2.1 + 1))), (2, .int (Zi (o1.1))), (1, .int (Zi (D_see s a))), (0, .ref 83)], [.int (Zi 1), .ref 83])) (fun _ => rfl) ?_
                      refine Z_go (f2 := (185, [(3, .int (Zi (o2.1))), (4, .int (Zi (o1.2.1 + 1))), (2, .int (Zi (o1.1))), (1, .int (Zi (D_see s a))), (0, .ref 83)], [.ref 83, .int (Zi 1), .ref 83])) (fun _ => rfl) ?_
                      refine R_gi rfl hs rfl ?_
                      show B_R _ _ (188, [(3, .int (Zi (o2.1))), (4, .int (Zi (o1.2.1 + 1))), (2, .int (Zi (o1.1))), (1, .int (Zi (D_see s a))), (0, .ref 83)], [.int (Zi (o2.2.1)), .int (Zi 1), .ref 83]) _ _ _
                      refine R_call (As := [.int (Zi 1), .int (Zi (o2.2.1))]) (rest := []) rfl (by decide) rfl rfl rfl rfl (by decide +kernel) (Nat.le_of_ble_eq_true rfl) hs (R_fail2 _ s o2.2.1 (D_ff o2.2.2.1 o2.2.2.2 2 (o1.2.1 + 1)).1 (D_ff o2.2.2.1 o2.2.2.2 2 (o1.2.1 + 1)).2 (by first | assumption | exact hs.zF _ | exact hs.zA _ _ | exact zS _ | exact ⟨by omega, by omega⟩ | omega) (by first | assumption | exact hs.zF _ | exact hs.zA _ _ | exact zS _ | exact ⟨by omega, by omega⟩ | omega)) (fun x h s2 hs q => ?_)
                      obtain ⟨rfl, q1⟩ := q
                      rw [q1] at hs
                      show B_R _ _ (191, [(3, .int (Zi (o2.1))), (4, .int (Zi (o1.2.1 + 1))), (2, .int (Zi (o1.1))), (1, .int (Zi (D_see s a))), (0, .ref 83)], []) _ _ _
                      refine Z_go (f2 := (192, [(3, .int (Zi (o2.1))), (4, .int (Zi (o1.2.1 + 1))), (2, .int (Zi (o1.1))), (1, .int (Zi (D_see s a))), (0, .ref 83)], [.int (Zi 0)])) (fun _ => rfl) ?_
                      refine Z_iret rfl rfl (by first | rfl | decide | exact narrow_b01 (by omega)) ⟨_, hs, ?_, rfl⟩
                      have e : D_cnt (D_see s) a f p = (0, o2.2.1, (D_ff (D_ff o2.2.2.1 o2.2.2.2 2 (o1.2.1 + 1)).1 (D_ff o2.2.2.1 o2.2.2.2 2 (o1.2.1 + 1)).2 1 o2.2.1).1, (D_ff (D_ff o2.2.2.1 o2.2.2.2 2 (o1.2.1 + 1)).1 (D_ff o2.2.2.1 o2.2.2.2 2 (o1.2.1 + 1)).2 1 o2.2.1).2, none) := by
                        unfold D_cnt
                        try dsimp only
                        rw [← ho1]
                        rw [← ho2]
                        repeat first
                          | rw [if_pos (by first | omega | (unfold P_nm; omega) | (unfold D_sgn D_let D_dig; omega) | (unfold D_pln; omega))]
                          | rw [if_neg (by first | omega | (unfold P_nm; omega) | (unfold D_sgn D_let D_dig; omega) | (unfold D_pln; omega))]
                        try (refine Prod.ext ?_ (Prod.ext ?_ (Prod.ext ?_ (Prod.ext ?_ ?_))) <;> first | rfl | (dsimp only; omega))
                      rw [e]
                      exact ⟨rfl, _, rfl, .inl ⟨rfl, R_ap_0 s⟩⟩
                · refine Z_go (f2 := (156, [(3, .int (Zi (o2.1))), (4, .int (Zi (o1.2.1 + 1))), (2, .int (Zi (o1.1))), (1, .int (Zi (D_see s a))), (0, .ref 83)], [.int (Zi 0)])) (fun _ => rfl) ?_
                  refine Z_iret rfl rfl (by first | rfl | decide | exact narrow_b01 (by omega)) ⟨_, hs, ?_, rfl⟩
                  have e : D_cnt (D_see s) a f p = (0, o2.2.1, o2.2.2.1, o2.2.2.2, none) := by
                    unfold D_cnt
                    try dsimp only
                    rw [← ho1]
                    rw [← ho2]
                    repeat first
                      | rw [if_pos (by first | omega | (unfold P_nm; omega) | (unfold D_sgn D_let D_dig; omega) | (unfold D_pln; omega))]
                      | rw [if_neg (by first | omega | (unfold P_nm; omega) | (unfold D_sgn D_let D_dig; omega) | (unfold D_pln; omega))]
                    try (refine Prod.ext ?_ (Prod.ext ?_ (Prod.ext ?_ (Prod.ext ?_ ?_))) <;> first | rfl | (dsimp only; omega))
                  rw [e]
                  exact ⟨rfl, _, rfl, .inl ⟨rfl, R_ap_0 s⟩⟩
          · refine Z_go (f2 := (98, [(2, .int (Zi (o1.1))), (1, .int (Zi (D_see s a))), (0, .ref 83)], [.int (Zi 0)])) (fun _ => rfl) ?_
            refine Z_iret rfl rfl (by first | rfl | decide | exact narrow_b01 (by omega)) ⟨_, hs, ?_, rfl⟩
            have e : D_cnt (D_see s) a f p = (0, o1.2.1, o1.2.2.1, o1.2.2.2, none) := by
              unfold D_cnt
              try dsimp only
              rw [← ho1]
              repeat first
                | rw [if_pos (by first | omega | (unfold P_nm; omega) | (unfold D_sgn D_let D_dig; omega) | (unfold D_pln; omega))]
                | rw [if_neg (by first | omega | (unfold P_nm; omega) | (unfold D_sgn D_let D_dig; omega) | (unfold D_pln; omega))]
              try (refine Prod.ext ?_ (Prod.ext ?_ (Prod.ext ?_ (Prod.ext ?_ ?_))) <;> first | rfl | (dsimp only; omega))
            rw [e]
            exact ⟨rfl, _, rfl, .inl ⟨rfl, R_ap_0 s⟩⟩
        · refine Z_go (f2 := (76, [(1, .int (Zi (D_see s a))), (0, .ref 83)], [.int (Zi 1)])) (fun _ => rfl) ?_
          refine Z_iret rfl rfl (by first | rfl | decide | exact narrow_b01 (by omega)) ⟨_, hs, ?_, rfl⟩
          have e : D_cnt (D_see s) a f p = (1, a, f, p, none) := by
            unfold D_cnt
            try dsimp only
            repeat first
              | rw [if_pos (by first | omega | (unfold P_nm; omega) | (unfold D_sgn D_let D_dig; omega) | (unfold D_pln; omega))]
              | rw [if_neg (by first | omega | (unfold P_nm; omega) | (unfold D_sgn D_let D_dig; omega) | (unfold D_pln; omega))]
            try (refine Prod.ext ?_ (Prod.ext ?_ (Prod.ext ?_ (Prod.ext ?_ ?_))) <;> first | rfl | (dsimp only; omega))
          rw [e]
          exact ⟨rfl, _, rfl, .inr ⟨rfl, R_ap_0 s⟩⟩
      · refine Z_go (f2 := (28, [(1, .int (Zi (D_see s a))), (0, .ref 83)], [.ref 83])) (fun _ => rfl) ?_
        refine Z_go (f2 := (29, [(1, .int (Zi (D_see s a))), (0, .ref 83)], [.int (Zi (D_see s a)), .ref 83])) (fun _ => rfl) ?_
        refine Z_go (f2 := (31, [(1, .int (Zi (D_see s a))), (0, .ref 83)], [.int (Zi 42), .int (Zi (D_see s a)), .ref 83])) (fun _ => rfl) ?_
        refine Z_cne rfl rfl (by first | exact hs.zF _ | exact Zor_r _ _ | exact hs.zA _ _ | assumption | exact zS _ | exact Zr_not (hs.zA _ _) | exact ⟨by omega, by omega⟩) (by first | exact hs.zF _ | exact Zor_r _ _ | exact hs.zA _ _ | assumption | exact zS _ | exact Zr_not (hs.zA _ _) | exact ⟨by omega, by omega⟩) (fun c18 => ?_) (fun c18 => ?_)
        · refine Z_go (f2 := (40, [(1, .int (Zi (D_see s a))), (0, .ref 83)], [.int (Zi (D_see s a)), .ref 83])) (fun _ => rfl) ?_
          refine Z_go (f2 := (42, [(1, .int (Zi (D_see s a))), (0, .ref 83)], [.int (Zi 43), .int (Zi (D_see s a)), .ref 83])) (fun _ => rfl) ?_
          refine Z_cne rfl rfl (by first | exact hs.zF _ | exact Zor_r _ _ | exact hs.zA _ _ | assumption | exact zS _ | exact Zr_not (hs.zA _ _) | exact ⟨by omega, by omega⟩) (by first | exact hs.zF _ | exact Zor_r _ _ | exact hs.zA _ _ | assumption | exact zS _ | exact Zr_not (hs.zA _ _) | exact ⟨by omega, by omega⟩) (fun c19 => ?_) (fun c19 => ?_)
          · refine Z_go (f2 := (52, [(1, .int (Zi (D_see s a))), (0, .ref 83)], [.int (Zi 10), .ref 83])) (fun _ => rfl) ?_
            refine Z_go (f2 := (53, [(1, .int (Zi (D_see s a))), (0, .ref 83)], [.int (Zi 0), .int (Zi 10), .ref 83])) (fun _ => rfl) ?_
            refine Z_go (f2 := (54, [(1, .int (Zi (D_see s a))), (0, .ref 83)], [.int (Zi 0), .int (Zi 0), .int (Zi 10), .ref 83])) (fun _ => rfl) ?_
            refine R_call (As := [.int (Zi 10), .int (Zi 0), .int (Zi 0)]) (rest := []) rfl (by decide) rfl rfl rfl rfl (by decide +kernel) (Nat.le_of_ble_eq_true rfl) hs (R_emit2 _ s a f p (by first | assumption | exact hs.zF _ | exact hs.zA _ _ | exact zS _ | exact ⟨by omega, by omega⟩ | omega) (by first | assumption | exact hs.zF _ | exact hs.zA _ _ | exact zS _ | exact ⟨by omega, by omega⟩ | omega) (by first | assumption | exact hs.zF _ | exact hs.zA _ _ | exact zS _ | exact ⟨by omega, by omega⟩ | omega) (by omega) (by omega)) (fun x h s2 hs q => ?_)
            obtain ⟨rfl, q1⟩ := q
            rw [q1] at hs
            show B_R _ _ (57, [(1, .int (Zi (D_see s a))), (0, .ref 83)], []) _ _ _
            refine Z_go (f2 := (58, [(1, .int (Zi (D_see s a))), (0, .ref 83)], [.ref 83])) (fun _ => rfl) ?_
            refine Z_go (f2 := (59, [(1, .int (Zi (D_see s a))), (0, .ref 83)], [.ref 83, .ref 83])) (fun _ => rfl) ?_
            refine R_gi rfl hs rfl ?_
            show B_R _ _ (62, [(1, .int (Zi (D_see s a))), (0, .ref 83)], [.int (Zi a), .ref 83]) _ _ _
            refine Z_go (f2 := (63, [(1, .int (Zi (D_see s a))), (0, .ref 83)], [.int (Zi 1), .int (Zi a), .ref 83])) (fun _ => rfl) ?_
            refine Z_iadd rfl ?_
            refine R_pf rfl hs rfl (by first | exact hs.zF _ | exact Zor_r _ _ | exact hs.zA _ _ | assumption | exact zS _ | exact Zr_not (hs.zA _ _) | exact ⟨by omega, by omega⟩) ⟨rfl, rfl, rfl⟩ (fun h hs => ?_)
            rw [R_p3_16] at hs
            refine Z_go (f2 := (68, [(1, .int (Zi (D_see s a))), (0, .ref 83)], [.int (Zi 1)])) (fun _ => rfl) ?_
            refine Z_iret rfl rfl (by first | rfl | decide | exact narrow_b01 (by omega)) ⟨_, hs, ?_, rfl⟩
            have e : D_cnt (D_see s) a f p = (1, a + 1, f, p, some (10, 0, 0)) := by
              unfold D_cnt
              try dsimp only
              repeat first
                | rw [if_pos (by first | omega | (unfold P_nm; omega) | (unfold D_sgn D_let D_dig; omega) | (unfold D_pln; omega))]
                | rw [if_neg (by first | omega | (unfold P_nm; omega) | (unfold D_sgn D_let D_dig; omega) | (unfold D_pln; omega))]
              try (refine Prod.ext ?_ (Prod.ext ?_ (Prod.ext ?_ (Prod.ext ?_ ?_))) <;> first | rfl | (dsimp only; omega))
            rw [e]
            exact ⟨rfl, _, rfl, .inr ⟨rfl, R_ap_em s 10 0 0⟩⟩
          · refine Z_go (f2 := (47, [(1, .int (Zi (D_see s a))), (0, .ref 83)], [.int (Zi 9), .ref 83])) (fun _ => rfl) ?_
            refine Z_go (f2 := (52, [(1, .int (Zi (D_see s a))), (0, .ref 83)], [.int (Zi 9), .ref 83])) (fun _ => rfl) ?_
            refine Z_go (f2 := (53, [(1, .int (Zi (D_see s a))), (0, .ref 83)], [.int (Zi 0), .int (Zi 9), .ref 83])) (fun _ => rfl) ?_
            refine Z_go (f2 := (54, [(1, .int (Zi (D_see s a))), (0, .ref 83)], [.int (Zi 0), .int (Zi 0), .int (Zi 9), .ref 83])) (fun _ => rfl) ?_
            refine R_call (As := [.int (Zi 9), .int (Zi 0), .int (Zi 0)]) (rest := []) rfl (by decide) rfl rfl rfl rfl (by decide +kernel) (Nat.le_of_ble_eq_true rfl) hs (R_emit2 _ s a f p (by first | assumption | exact hs.zF _ | exact hs.zA _ _ | exact zS _ | exact ⟨by omega, by omega⟩ | omega) (by first | assumption | exact hs.zF _ | exact hs.zA _ _ | exact zS _ | exact ⟨by omega, by omega⟩ | omega) (by first | assumption | exact hs.zF _ | exact hs.zA _ _ | exact zS _ | exact ⟨by omega, by omega⟩ | omega) (by omega) (by omega)) (fun x h s2 hs q => ?_)
            obtain ⟨rfl, q1⟩ := q
            rw [q1] at hs
            show B_R _ _ (57, [(1, .int (Zi (D_see s a))), (0, .ref 83)], []) _ _ _
            refine Z_go (f2 := (58, [(1, .int (Zi (D_see s a))), (0, .ref 83)], [.ref 83])) (fun _ => rfl) ?_
            refine Z_go (f2 := (59, [(1, .int (Zi (D_see s a))), (0, .ref 83)], [.ref 83, .ref 83])) (fun _ => rfl) ?_
            refine R_gi rfl hs rfl ?_
            show B_R _ _ (62, [(1, .int (Zi (D_see s a))), (0, .ref 83)], [.int (Zi a), .ref 83]) _ _ _
            refine Z_go (f2 := (63, [(1, .int (Zi (D_see s a))), (0, .ref 83)], [.int (Zi 1), .int (Zi a), .ref 83])) (fun _ => rfl) ?_
            refine Z_iadd rfl ?_
            refine R_pf rfl hs rfl (by first | exact hs.zF _ | exact Zor_r _ _ | exact hs.zA _ _ | assumption | exact zS _ | exact Zr_not (hs.zA _ _) | exact ⟨by omega, by omega⟩) ⟨rfl, rfl, rfl⟩ (fun h hs => ?_)
            rw [R_p3_16] at hs
            refine Z_go (f2 := (68, [(1, .int (Zi (D_see s a))), (0, .ref 83)], [.int (Zi 1)])) (fun _ => rfl) ?_
            refine Z_iret rfl rfl (by first | rfl | decide | exact narrow_b01 (by omega)) ⟨_, hs, ?_, rfl⟩
            have e : D_cnt (D_see s) a f p = (1, a + 1, f, p, some (9, 0, 0)) := by
              unfold D_cnt
              try dsimp only
              repeat first
                | rw [if_pos (by first | omega | (unfold P_nm; omega) | (unfold D_sgn D_let D_dig; omega) | (unfold D_pln; omega))]
                | rw [if_neg (by first | omega | (unfold P_nm; omega) | (unfold D_sgn D_let D_dig; omega) | (unfold D_pln; omega))]
              try (refine Prod.ext ?_ (Prod.ext ?_ (Prod.ext ?_ (Prod.ext ?_ ?_))) <;> first | rfl | (dsimp only; omega))
            rw [e]
            exact ⟨rfl, _, rfl, .inr ⟨rfl, R_ap_em s 9 0 0⟩⟩
        · refine Z_go (f2 := (36, [(1, .int (Zi (D_see s a))), (0, .ref 83)], [.int (Zi 8), .ref 83])) (fun _ => rfl) ?_
          refine Z_go (f2 := (52, [(1, .int (Zi (D_see s a))), (0, .ref 83)], [.int (Zi 8), .ref 83])) (fun _ => rfl) ?_
          refine Z_go (f2 := (53, [(1, .int (Zi (D_see s a))), (0, .ref 83)], [.int (Zi 0), .int (Zi 8), .ref 83])) (fun _ => rfl) ?_
          refine Z_go (f2 := (54, [(1, .int (Zi (D_see s a))), (0, .ref 83)], [.int (Zi 0), .int (Zi 0), .int (Zi 8), .ref 83])) (fun _ => rfl) ?_
          refine R_call (As := [.int (Zi 8), .int (Zi 0), .int (Zi 0)]) (rest := []) rfl (by decide) rfl rfl rfl rfl (by decide +kernel) (Nat.le_of_ble_eq_true rfl) hs (R_emit2 _ s a f p (by first | assumption | exact hs.zF _ | exact hs.zA _ _ | exact zS _ | exact ⟨by omega, by omega⟩ | omega) (by first | assumption | exact hs.zF _ | exact hs.zA _ _ | exact zS _ | exact ⟨by omega, by omega⟩ | omega) (by first | assumption | exact hs.zF _ | exact hs.zA _ _ | exact zS _ | exact ⟨by omega, by omega⟩ | omega) (by omega) (by omega)) (fun x h s2 hs q => ?_)
          obtain ⟨rfl, q1⟩ := q
          rw [q1] at hs
          show B_R _ _ (57, [(1, .int (Zi (D_see s a))), (0, .ref 83)], []) _ _ _
          refine Z_go (f2 := (58, [(1, .int (Zi (D_see s a))), (0, .ref 83)], [.ref 83])) (fun _ => rfl) ?_
          refine Z_go (f2 := (59, [(1, .int (Zi (D_see s a))), (0, .ref 83)], [.ref 83, .ref 83])) (fun _ => rfl) ?_
          refine R_gi rfl hs rfl ?_
          show B_R _ _ (62, [(1, .int (Zi (D_see s a))), (0, .ref 83)], [.int (Zi a), .ref 83]) _ _ _
          refine Z_go (f2 := (63, [(1, .int (Zi (D_see s a))), (0, .ref 83)], [.int (Zi 1), .int (Zi a), .ref 83])) (fun _ => rfl) ?_
          refine Z_iadd rfl ?_
          refine R_pf rfl hs rfl (by first | exact hs.zF _ | exact Zor_r _ _ | exact hs.zA _ _ | assumption | exact zS _ | exact Zr_not (hs.zA _ _) | exact ⟨by omega, by omega⟩) ⟨rfl, rfl, rfl⟩ (fun h hs => ?_)
          rw [R_p3_16] at hs
          refine Z_go (f2 := (68, [(1, .int (Zi (D_see s a))), (0, .ref 83)], [.int (Zi 1)])) (fun _ => rfl) ?_
          refine Z_iret rfl rfl (by first | rfl | decide | exact narrow_b01 (by omega)) ⟨_, hs, ?_, rfl⟩
          have e : D_cnt (D_see s) a f p = (1, a + 1, f, p, some (8, 0, 0)) := by
            unfold D_cnt
            try dsimp only
            repeat first
              | rw [if_pos (by first | omega | (unfold P_nm; omega) | (unfold D_sgn D_let D_dig; omega) | (unfold D_pln; omega))]
              | rw [if_neg (by first | omega | (unfold P_nm; omega) | (unfold D_sgn D_let D_dig; omega) | (unfold D_pln; omega))]
            try (refine Prod.ext ?_ (Prod.ext ?_ (Prod.ext ?_ (Prod.ext ?_ ?_))) <;> first | rfl | (dsimp only; omega))
          rw [e]
          exact ⟨rfl, _, rfl, .inr ⟨rfl, R_ap_em s 8 0 0⟩⟩
theorem R_escaped (d : Nat) (s : R_S) (a f p : Int)   (a0 : 0 ≤ a) (a1 : a ≤ s.1 1) (t1 : s.1 1 ≤ 80) (tb : ∀ j, 0 ≤ s.2.1 84 j ∧ s.2.1 84 j < 256) (m0 : 0 ≤ s.1 15) (m1 : s.1 15 < 90) (p0 : 0 ≤ s.1 13) (p1 : s.1 13 < 400) : R_ok (d + 4) 206 [] (R_p3 s a f p) (fun x s2 => x = some (.int (Zi (D_esc (D_see s) a f p).1)) ∧ ∃ w2, s2 = R_p3 w2 (D_esc (D_see s) a f p).2.1 (D_esc (D_see s) a f p).2.2.1 (D_esc (D_see s) a f p).2.2.2.1 ∧ ((D_esc (D_see s) a f p).1 = 0 ∧ (∃ Hs, Hs.length ≤ 1 ∧ R_ap s w2 [] Hs) ∨ (D_esc (D_see s) a f p).1 = 1 ∧ R_atp s w2 (D_esc (D_see s) a f p).2.2.2.2)) := by
  refine R_enter (M := E_m206) rfl (Nat.le_of_ble_eq_true rfl) (fun h0 h hs => ?_)
  show B_R (d + 3) _ (0, [(0, .ref 83)], []) _ _ _
  have zb : ∀ k, -1 ≤ D_see s k ∧ D_see s k < 256 := fun k => by have := tb k; unfold D_see; split <;> omega
  have zb0 := zb a
  have zb1 := zb (a + 1)
  have zS : ∀ k, Zr (D_see s k) := fun k => by unfold D_see; split; exact hs.zA 84 k; exact ⟨by omega, by omega⟩
  have sn : ∀ k, s.1 1 ≤ k → D_see s k = -1 := fun k hk => by unfold D_see; rw [if_neg (by omega)]
  have sn0 := sn a
  have sn1 := sn (a + 1)
  have en15 : (R_nw s).1 15 = s.1 15 + 1 := R_sF_s _ _ _
  have en13 : (R_nw s).1 13 = s.1 13 := R_sF_n _ _ (by decide)
  have en17 : (R_nw s).1 17 = s.1 17 := R_sF_n _ _ (by decide)
  have hnw : ∀ y, 0 ≤ y → y < 256 → (R_has (R_nw s) ((R_nw s).1 15 - 1) y ↔ False) := fun y y0 y1 => by have := R_ap_nw.h (s := s) 0 (by decide) y y0 y1; rw [en15]; simpa using this
  refine Z_go (f2 := (1, [(0, .ref 83)], [.ref 83])) (fun _ => rfl) ?_
  refine Z_go (f2 := (2, [(0, .ref 83)], [.ref 83, .ref 83])) (fun _ => rfl) ?_
  refine R_gi rfl hs rfl ?_
  show B_R _ _ (5, [(0, .ref 83)], [.int (Zi a), .ref 83]) _ _ _
  refine R_call (As := [.int (Zi a)]) (rest := []) rfl (by decide) rfl rfl rfl rfl (by decide +kernel) (Nat.le_of_ble_eq_true rfl) hs (R_see2 _ _ (by first | assumption | exact hs.zF _ | exact hs.zA _ _ | exact zS _ | exact ⟨by omega, by omega⟩ | omega) (by first | assumption | exact hs.zF _ | exact hs.zA _ _ | exact zS _ | exact ⟨by omega, by omega⟩ | omega) (show s.1 1 ≤ 1000 by omega)) (fun x h s2 hs q => ?_)
  obtain ⟨q0, rfl⟩ := q
  rw [q0] at hs
  rw [R_p3_see]
  show B_R _ _ (8, [(0, .ref 83)], [.int (Zi (D_see s a))]) _ _ _
  refine Z_go (f2 := (9, [(1, .int (Zi (D_see s a))), (0, .ref 83)], [])) (fun _ => rfl) ?_
  refine Z_go (f2 := (10, [(1, .int (Zi (D_see s a))), (0, .ref 83)], [.int (Zi (D_see s a))])) (fun _ => rfl) ?_
  refine Z_go (f2 := (12, [(1, .int (Zi (D_see s a))), (0, .ref 83)], [.int (Zi 98), .int (Zi (D_see s a))])) (fun _ => rfl) ?_
  refine Z_cne rfl rfl (by first | exact hs.zF _ | exact Zor_r _ _ | exact hs.zA _ _ | assumption | exact zS _ | exact Zr_not (hs.zA _ _) | exact ⟨by omega, by omega⟩) (by first | exact hs.zF _ | exact Zor_r _ _ | exact hs.zA _ _ | assumption | exact zS _ | exact Zr_not (hs.zA _ _) | exact ⟨by omega, by omega⟩) (fun c1 => ?_) (fun c1 => ?_)
  · refine Z_go (f2 := (35, [(1, .int (Zi (D_see s a))), (0, .ref 83)], [.int (Zi (D_see s a))])) (fun _ => rfl) ?_
    refine Z_go (f2 := (37, [(1, .int (Zi (D_see s a))), (0, .ref 83)], [.int (Zi 100), .int (Zi (D_see s a))])) (fun _ => rfl) ?_
    refine Z_ceq rfl rfl (by first | exact hs.zF _ | exact Zor_r _ _ | exact hs.zA _ _ | assumption | exact zS _ | exact Zr_not (hs.zA _ _) | exact ⟨by omega, by omega⟩) (by first | exact hs.zF _ | exact Zor_r _ _ | exact hs.zA _ _ | assumption | exact zS _ | exact Zr_not (hs.zA _ _) | exact ⟨by omega, by omega⟩) (fun c2 => ?_) (fun c2 => ?_)
    · refine Z_go (f2 := (53, [(1, .int (Zi (D_see s a))), (0, .ref 83)], [.int (Zi 1)])) (fun _ => rfl) ?_
      refine Z_go (f2 := (57, [(1, .int (Zi (D_see s a))), (0, .ref 83)], [.int (Zi 1)])) (fun _ => rfl) ?_
      refine Z_go (f2 := (58, [(2, .int (Zi 1)), (1, .int (Zi (D_see s a))), (0, .ref 83)], [])) (fun _ => rfl) ?_
      refine Z_go (f2 := (59, [(2, .int (Zi 1)), (1, .int (Zi (D_see s a))), (0, .ref 83)], [.int (Zi 1)])) (fun _ => rfl) ?_
      refine Z_ine rfl rfl (by first | exact hs.zF _ | exact Zor_r _ _ | exact hs.zA _ _ | assumption | exact zS _ | exact Zr_not (hs.zA _ _) | exact ⟨by omega, by omega⟩) (fun c3 => ?_) (fun c3 => ?_)
      · refine Z_go (f2 := (93, [(2, .int (Zi 1)), (1, .int (Zi (D_see s a))), (0, .ref 83)], [.ref 83])) (fun _ => rfl) ?_
        refine Z_go (f2 := (94, [(2, .int (Zi 1)), (1, .int (Zi (D_see s a))), (0, .ref 83)], [.ref 83, .ref 83])) (fun _ => rfl) ?_
        refine R_gi rfl hs rfl ?_
        show B_R _ _ (97, [(2, .int (Zi 1)), (1, .int (Zi (D_see s a))), (0, .ref 83)], [.int (Zi a), .ref 83]) _ _ _
        refine Z_go (f2 := (98, [(2, .int (Zi 1)), (1, .int (Zi (D_see s a))), (0, .ref 83)], [.int (Zi 1), .int (Zi a), .ref 83])) (fun _ => rfl) ?_
        refine Z_iadd rfl ?_
        refine R_pf rfl hs rfl (by first | exact hs.zF _ | exact Zor_r _ _ | exact hs.zA _ _ | assumption | exact zS _ | exact Zr_not (hs.zA _ _) | exact ⟨by omega, by omega⟩) ⟨rfl, rfl, rfl⟩ (fun h hs => ?_)
        rw [R_p3_16] at hs
        refine Z_go (f2 := (103, [(2, .int (Zi 1)), (1, .int (Zi (D_see s a))), (0, .ref 83)], [.ref 83])) (fun _ => rfl) ?_
        refine R_call (As := []) (rest := []) rfl (by decide) rfl rfl rfl rfl (by decide +kernel) (Nat.le_of_ble_eq_true rfl) hs (R_newSet2 _ s (a + 1) f p (by omega) (by omega)) (fun x h s2 hs q => ?_)
        obtain ⟨rfl, q1⟩ := q
        rw [q1] at hs
        show B_R _ _ (106, [(2, .int (Zi 1)), (1, .int (Zi (D_see s a))), (0, .ref 83)], []) _ _ _
        refine Z_go (f2 := (107, [(2, .int (Zi 1)), (1, .int (Zi (D_see s a))), (0, .ref 83)], [.int (Zi 1)])) (fun _ => rfl) ?_
        refine Z_ieq rfl rfl (by first | exact hs.zF _ | exact Zor_r _ _ | exact hs.zA _ _ | assumption | exact zS _ | exact Zr_not (hs.zA _ _) | exact ⟨by omega, by omega⟩) (fun c4 => ?_) (fun c4 => ?_)
        · exfalso; omega
        · refine Z_go (f2 := (111, [(2, .int (Zi 1)), (1, .int (Zi (D_see s a))), (0, .ref 83)], [.ref 83])) (fun _ => rfl) ?_
          refine Z_go (f2 := (112, [(2, .int (Zi 1)), (1, .int (Zi (D_see s a))), (0, .ref 83)], [.int (Zi (D_see s a)), .ref 83])) (fun _ => rfl) ?_
          refine R_call (As := [.int (Zi (D_see s a))]) (rest := []) rfl (by decide) rfl rfl rfl rfl (by decide +kernel) (Nat.le_of_ble_eq_true rfl) hs (R_putKind2 _ (R_nw s) (a + 1) f p (by first | assumption | exact hs.zF _ | exact hs.zA _ _ | exact zS _ | exact ⟨by omega, by omega⟩ | omega) (by omega) (by omega)) (fun x h s2 hs q => ?_)
          obtain ⟨rfl, w2, q1, q2⟩ := q
          rw [q1] at hs
          have ev15 : w2.1 15 = (R_nw s).1 15 := q2.f15 15
          have ev13 : w2.1 13 = (R_nw s).1 13 := q2.f15 13
          show B_R _ _ (115, [(2, .int (Zi 1)), (1, .int (Zi (D_see s a))), (0, .ref 83)], []) _ _ _
          refine Z_go (f2 := (145, [(2, .int (Zi 1)), (1, .int (Zi (D_see s a))), (0, .ref 83)], [])) (fun _ => rfl) ?_
          refine Z_go (f2 := (146, [(2, .int (Zi 1)), (1, .int (Zi (D_see s a))), (0, .ref 83)], [.ref 83])) (fun _ => rfl) ?_
          refine Z_go (f2 := (147, [(2, .int (Zi 1)), (1, .int (Zi (D_see s a))), (0, .ref 83)], [.int (Zi 1), .ref 83])) (fun _ => rfl) ?_
          refine Z_go (f2 := (148, [(2, .int (Zi 1)), (1, .int (Zi (D_see s a))), (0, .ref 83)], [.ref 83, .int (Zi 1), .ref 83])) (fun _ => rfl) ?_
          refine R_gi rfl hs rfl ?_
          show B_R _ _ (151, [(2, .int (Zi 1)), (1, .int (Zi (D_see s a))), (0, .ref 83)], [.int (Zi (w2.1 15)), .int (Zi 1), .ref 83]) _ _ _
          refine Z_go (f2 := (152, [(2, .int (Zi 1)), (1, .int (Zi (D_see s a))), (0, .ref 83)], [.int (Zi 1), .int (Zi (w2.1 15)), .int (Zi 1), .ref 83])) (fun _ => rfl) ?_
          refine Z_isub rfl ?_
          refine Z_go (f2 := (154, [(2, .int (Zi 1)), (1, .int (Zi (D_see s a))), (0, .ref 83)], [.int (Zi 0), .int (Zi (w2.1 15 - 1)), .int (Zi 1), .ref 83])) (fun _ => rfl) ?_
          refine R_call (As := [.int (Zi 1), .int (Zi (w2.1 15 - 1)), .int (Zi 0)]) (rest := []) rfl (by decide) rfl rfl rfl rfl (by decide +kernel) (Nat.le_of_ble_eq_true rfl) hs (R_emit2 _ w2 (a + 1) f p (by first | assumption | exact hs.zF _ | exact hs.zA _ _ | exact zS _ | exact ⟨by omega, by omega⟩ | omega) (by first | assumption | exact hs.zF _ | exact hs.zA _ _ | exact zS _ | exact ⟨by omega, by omega⟩ | omega) (by first | assumption | exact hs.zF _ | exact hs.zA _ _ | exact zS _ | exact ⟨by omega, by omega⟩ | omega) (by omega) (by omega)) (fun x h s2 hs q => ?_)
          obtain ⟨rfl, q1⟩ := q
          rw [q1] at hs
          show B_R _ _ (157, [(2, .int (Zi 1)), (1, .int (Zi (D_see s a))), (0, .ref 83)], []) _ _ _
          refine Z_go (f2 := (158, [(2, .int (Zi 1)), (1, .int (Zi (D_see s a))), (0, .ref 83)], [.int (Zi 1)])) (fun _ => rfl) ?_
          refine Z_iret rfl rfl (by first | rfl | decide | exact narrow_b01 (by omega)) ⟨_, hs, ?_, rfl⟩
          have e : D_esc (D_see s) a f p = (1, a + 1, f, p, .inr (D_kd (D_see s a))) := by
            unfold D_esc
            try dsimp only
            try unfold D_sgn D_let D_dig at hv
            repeat first
              | rw [if_pos (by first | omega | (unfold P_nm; omega) | (unfold D_sgn D_let D_dig; omega) | (unfold D_pln; omega))]
              | rw [if_neg (by first | omega | (unfold P_nm; omega) | (unfold D_sgn D_let D_dig; omega) | (unfold D_pln; omega))]
            try (refine Prod.ext ?_ (Prod.ext ?_ (Prod.ext ?_ (Prod.ext ?_ ?_))) <;> first | rfl | (dsimp only; omega))
          rw [e]
          refine ⟨rfl, _, rfl, .inr ⟨rfl, ?_⟩⟩
          rw [show w2.1 15 - 1 = s.1 15 by omega]
          exact (R_nw_ss (q2.weak (fun y y0 y1 => ⟨fun h => h.elim (fun h => ((hnw y y0 y1).mp h).elim) id, .inr⟩))).trans (R_ap_em w2 1 (s.1 15) 0) m0
      · exfalso; omega
    · refine Z_go (f2 := (41, [(1, .int (Zi (D_see s a))), (0, .ref 83)], [.int (Zi (D_see s a))])) (fun _ => rfl) ?_
      refine Z_go (f2 := (43, [(1, .int (Zi (D_see s a))), (0, .ref 83)], [.int (Zi 119), .int (Zi (D_see s a))])) (fun _ => rfl) ?_
      refine Z_ceq rfl rfl (by first | exact hs.zF _ | exact Zor_r _ _ | exact hs.zA _ _ | assumption | exact zS _ | exact Zr_not (hs.zA _ _) | exact ⟨by omega, by omega⟩) (by first | exact hs.zF _ | exact Zor_r _ _ | exact hs.zA _ _ | assumption | exact zS _ | exact Zr_not (hs.zA _ _) | exact ⟨by omega, by omega⟩) (fun c5 => ?_) (fun c5 => ?_)
      · refine Z_go (f2 := (53, [(1, .int (Zi (D_see s a))), (0, .ref 83)], [.int (Zi 1)])) (fun _ => rfl) ?_
        refine Z_go (f2 := (57, [(1, .int (Zi (D_see s a))), (0, .ref 83)], [.int (Zi 1)])) (fun _ => rfl) ?_
        refine Z_go (f2 := (58, [(2, .int (Zi 1)), (1, .int (Zi (D_see s a))), (0, .ref 83)], [])) (fun _ => rfl) ?_
        refine Z_go (f2 := (59, [(2, .int (Zi 1)), (1, .int (Zi (D_see s a))), (0, .ref 83)], [.int (Zi 1)])) (fun _ => rfl) ?_
        refine Z_ine rfl rfl (by first | exact hs.zF _ | exact Zor_r _ _ | exact hs.zA _ _ | assumption | exact zS _ | exact Zr_not (hs.zA _ _) | exact ⟨by omega, by omega⟩) (fun c6 => ?_) (fun c6 => ?_)
        · refine Z_go (f2 := (93, [(2, .int (Zi 1)), (1, .int (Zi (D_see s a))), (0, .ref 83)], [.ref 83])) (fun _ => rfl) ?_
          refine Z_go (f2 := (94, [(2, .int (Zi 1)), (1, .int (Zi (D_see s a))), (0, .ref 83)], [.ref 83, .ref 83])) (fun _ => rfl) ?_
          refine R_gi rfl hs rfl ?_
          show B_R _ _ (97, [(2, .int (Zi 1)), (1, .int (Zi (D_see s a))), (0, .ref 83)], [.int (Zi a), .ref 83]) _ _ _
          refine Z_go (f2 := (98, [(2, .int (Zi 1)), (1, .int (Zi (D_see s a))), (0, .ref 83)], [.int (Zi 1), .int (Zi a), .ref 83])) (fun _ => rfl) ?_
          refine Z_iadd rfl ?_
          refine R_pf rfl hs rfl (by first | exact hs.zF _ | exact Zor_r _ _ | exact hs.zA _ _ | assumption | exact zS _ | exact Zr_not (hs.zA _ _) | exact ⟨by omega, by omega⟩) ⟨rfl, rfl, rfl⟩ (fun h hs => ?_)
          rw [R_p3_16] at hs
          refine Z_go (f2 := (103, [(2, .int (Zi 1)), (1, .int (Zi (D_see s a))), (0, .ref 83)], [.ref 83])) (fun _ => rfl) ?_
          refine R_call (As := []) (rest := []) rfl (by decide) rfl rfl rfl rfl (by decide +kernel) (Nat.le_of_ble_eq_true rfl) hs (R_newSet2 _ s (a + 1) f p (by omega) (by omega)) (fun x h s2 hs q => ?_)
          obtain ⟨rfl, q1⟩ := q
          rw [q1] at hs
          show B_R _ _ (106, [(2, .int (Zi 1)), (1, .int (Zi (D_see s a))), (0, .ref 83)], []) _ _ _
          refine Z_go (f2 := (107, [(2, .int (Zi 1)), (1, .int (Zi (D_see s a))), (0, .ref 83)], [.int (Zi 1)])) (fun _ => rfl) ?_
          refine Z_ieq rfl rfl (by first | exact hs.zF _ | exact Zor_r _ _ | exact hs.zA _ _ | assumption | exact zS _ | exact Zr_not (hs.zA _ _) | exact ⟨by omega, by omega⟩) (fun c7 => ?_) (fun c7 => ?_)
          · exfalso; omega
          · refine Z_go (f2 := (111, [(2, .int (Zi 1)), (1, .int (Zi (D_see s a))), (0, .ref 83)], [.ref 83])) (fun _ => rfl) ?_
            refine Z_go (f2 := (112, [(2, .int (Zi 1)), (1, .int (Zi (D_see s a))), (0, .ref 83)], [.int (Zi (D_see s a)), .ref 83])) (fun _ => rfl) ?_
            refine R_call (As := [.int (Zi (D_see s a))]) (rest := []) rfl (by decide) rfl rfl rfl rfl (by decide +kernel) (Nat.le_of_ble_eq_true rfl) hs (R_putKind2 _ (R_nw s) (a + 1) f p (by first | assumption | exact hs.zF _ | exact hs.zA _ _ | exact zS _ | exact ⟨by omega, by omega⟩ | omega) (by omega) (by omega)) (fun x h s2 hs q => ?_)
            obtain ⟨rfl, w2, q1, q2⟩ := q
            rw [q1] at hs
            have ev15 : w2.1 15 = (R_nw s).1 15 := q2.f15 15
            have ev13 : w2.1 13 = (R_nw s).1 13 := q2.f15 13
            show B_R _ _ (115, [(2, .int (Zi 1)), (1, .int (Zi (D_see s a))), (0, .ref 83)], []) _ _ _
            refine Z_go (f2 := (145, [(2, .int (Zi 1)), (1, .int (Zi (D_see s a))), (0, .ref 83)], [])) (fun _ => rfl) ?_
            refine Z_go (f2 := (146, [(2, .int (Zi 1)), (1, .int (Zi (D_see s a))), (0, .ref 83)], [.ref 83])) (fun _ => rfl) ?_
            refine Z_go (f2 := (147, [(2, .int (Zi 1)), (1, .int (Zi (D_see s a))), (0, .ref 83)], [.int (Zi 1), .ref 83])) (fun _ => rfl) ?_
            refine Z_go (f2 := (148, [(2, .int (Zi 1)), (1, .int (Zi (D_see s a))), (0, .ref 83)], [.ref 83, .int (Zi 1), .ref 83])) (fun _ => rfl) ?_
            refine R_gi rfl hs rfl ?_
            show B_R _ _ (151, [(2, .int (Zi 1)), (1, .int (Zi (D_see s a))), (0, .ref 83)], [.int (Zi (w2.1 15)), .int (Zi 1), .ref 83]) _ _ _
            refine Z_go (f2 := (152, [(2, .int (Zi 1)), (1, .int (Zi (D_see s a))), (0, .ref 83)], [.int (Zi 1), .int (Zi (w2.1 15)), .int (Zi 1), .ref 83])) (fun _ => rfl) ?_
            refine Z_isub rfl ?_
            refine Z_go (f2 := (154, [(2, .int (Zi 1)), (1, .int (Zi (D_see s a))), (0, .ref 83)], [.int (Zi 0), .int (Zi (w2.1 15 - 1)), .int (Zi 1), .ref 83])) (fun _ => rfl) ?_
            refine R_call (As := [.int (Zi 1), .int (Zi (w2.1 15 - 1)), .int (Zi 0)]) (rest := []) rfl (by decide) rfl rfl rfl rfl (by decide +kernel) (Nat.le_of_ble_eq_true rfl) hs (R_emit2 _ w2 (a + 1) f p (by first | assumption | exact hs.zF _ | exact hs.zA _ _ | exact zS _ | exact ⟨by omega, by omega⟩ | omega) (by first | assumption | exact hs.zF _ | exact hs.zA _ _ | exact zS _ | exact ⟨by omega, by omega⟩ | omega) (by first | assumption | exact hs.zF _ | exact hs.zA _ _ | exact zS _ | exact ⟨by omega, by omega⟩ | omega) (by omega) (by omega)) (fun x h s2 hs q => ?_)
            obtain ⟨rfl, q1⟩ := q
            rw [q1] at hs
            show B_R _ _ (157, [(2, .int (Zi 1)), (1, .int (Zi (D_see s a))), (0, .ref 83)], []) _ _ _
            refine Z_go (f2 := (158, [(2, .int (Zi 1)), (1, .int (Zi (D_see s a))), (0, .ref 83)], [.int (Zi 1)])) (fun _ => rfl) ?_
            refine Z_iret rfl rfl (by first | rfl | decide | exact narrow_b01 (by omega)) ⟨_, hs, ?_, rfl⟩
            have e : D_esc (D_see s) a f p = (1, a + 1, f, p, .inr (D_kd (D_see s a))) := by
              unfold D_esc
              try dsimp only
              try unfold D_sgn D_let D_dig at hv
              repeat first
                | rw [if_pos (by first | omega | (unfold P_nm; omega) | (unfold D_sgn D_let D_dig; omega) | (unfold D_pln; omega))]
                | rw [if_neg (by first | omega | (unfold P_nm; omega) | (unfold D_sgn D_let D_dig; omega) | (unfold D_pln; omega))]
              try (refine Prod.ext ?_ (Prod.ext ?_ (Prod.ext ?_ (Prod.ext ?_ ?_))) <;> first | rfl | (dsimp only; omega))
            rw [e]
            refine ⟨rfl, _, rfl, .inr ⟨rfl, ?_⟩⟩
            rw [show w2.1 15 - 1 = s.1 15 by omega]
            exact (R_nw_ss (q2.weak (fun y y0 y1 => ⟨fun h => h.elim (fun h => ((hnw y y0 y1).mp h).elim) id, .inr⟩))).trans (R_ap_em w2 1 (s.1 15) 0) m0
        · exfalso; omega
      · refine Z_go (f2 := (47, [(1, .int (Zi (D_see s a))), (0, .ref 83)], [.int (Zi (D_see s a))])) (fun _ => rfl) ?_
        refine Z_go (f2 := (49, [(1, .int (Zi (D_see s a))), (0, .ref 83)], [.int (Zi 115), .int (Zi (D_see s a))])) (fun _ => rfl) ?_
        refine Z_cne rfl rfl (by first | exact hs.zF _ | exact Zor_r _ _ | exact hs.zA _ _ | assumption | exact zS _ | exact Zr_not (hs.zA _ _) | exact ⟨by omega, by omega⟩) (by first | exact hs.zF _ | exact Zor_r _ _ | exact hs.zA _ _ | assumption | exact zS _ | exact Zr_not (hs.zA _ _) | exact ⟨by omega, by omega⟩) (fun c8 => ?_) (fun c8 => ?_)
        · refine Z_go (f2 := (57, [(1, .int (Zi (D_see s a))), (0, .ref 83)], [.int (Zi 0)])) (fun _ => rfl) ?_
          refine Z_go (f2 := (58, [(2, .int (Zi 0)), (1, .int (Zi (D_see s a))), (0, .ref 83)], [])) (fun _ => rfl) ?_
          refine Z_go (f2 := (59, [(2, .int (Zi 0)), (1, .int (Zi (D_see s a))), (0, .ref 83)], [.int (Zi 0)])) (fun _ => rfl) ?_
          refine Z_ine rfl rfl (by first | exact hs.zF _ | exact Zor_r _ _ | exact hs.zA _ _ | assumption | exact zS _ | exact Zr_not (hs.zA _ _) | exact ⟨by omega, by omega⟩) (fun c9 => ?_) (fun c9 => ?_)
          · exfalso; omega
          · refine Z_go (f2 := (63, [(2, .int (Zi 0)), (1, .int (Zi (D_see s a))), (0, .ref 83)], [.int (Zi (D_see s a))])) (fun _ => rfl) ?_
            refine Z_go (f2 := (65, [(2, .int (Zi 0)), (1, .int (Zi (D_see s a))), (0, .ref 83)], [.int (Zi 110), .int (Zi (D_see s a))])) (fun _ => rfl) ?_
            refine Z_ceq rfl rfl (by first | exact hs.zF _ | exact Zor_r _ _ | exact hs.zA _ _ | assumption | exact zS _ | exact Zr_not (hs.zA _ _) | exact ⟨by omega, by omega⟩) (by first | exact hs.zF _ | exact Zor_r _ _ | exact hs.zA _ _ | assumption | exact zS _ | exact Zr_not (hs.zA _ _) | exact ⟨by omega, by omega⟩) (fun c10 => ?_) (fun c10 => ?_)
            · refine Z_go (f2 := (93, [(2, .int (Zi 0)), (1, .int (Zi (D_see s a))), (0, .ref 83)], [.ref 83])) (fun _ => rfl) ?_
              refine Z_go (f2 := (94, [(2, .int (Zi 0)), (1, .int (Zi (D_see s a))), (0, .ref 83)], [.ref 83, .ref 83])) (fun _ => rfl) ?_
              refine R_gi rfl hs rfl ?_
              show B_R _ _ (97, [(2, .int (Zi 0)), (1, .int (Zi (D_see s a))), (0, .ref 83)], [.int (Zi a), .ref 83]) _ _ _
              refine Z_go (f2 := (98, [(2, .int (Zi 0)), (1, .int (Zi (D_see s a))), (0, .ref 83)], [.int (Zi 1), .int (Zi a), .ref 83])) (fun _ => rfl) ?_
              refine Z_iadd rfl ?_
              refine R_pf rfl hs rfl (by first | exact hs.zF _ | exact Zor_r _ _ | exact hs.zA _ _ | assumption | exact zS _ | exact Zr_not (hs.zA _ _) | exact ⟨by omega, by omega⟩) ⟨rfl, rfl, rfl⟩ (fun h hs => ?_)
              rw [R_p3_16] at hs
              refine Z_go (f2 := (103, [(2, .int (Zi 0)), (1, .int (Zi (D_see s a))), (0, .ref 83)], [.ref 83])) (fun _ => rfl) ?_
              refine R_call (As := []) (rest := []) rfl (by decide) rfl rfl rfl rfl (by decide +kernel) (Nat.le_of_ble_eq_true rfl) hs (R_newSet2 _ s (a + 1) f p (by omega) (by omega)) (fun x h s2 hs q => ?_)
              obtain ⟨rfl, q1⟩ := q
              rw [q1] at hs
              show B_R _ _ (106, [(2, .int (Zi 0)), (1, .int (Zi (D_see s a))), (0, .ref 83)], []) _ _ _
              refine Z_go (f2 := (107, [(2, .int (Zi 0)), (1, .int (Zi (D_see s a))), (0, .ref 83)], [.int (Zi 0)])) (fun _ => rfl) ?_
              refine Z_ieq rfl rfl (by first | exact hs.zF _ | exact Zor_r _ _ | exact hs.zA _ _ | assumption | exact zS _ | exact Zr_not (hs.zA _ _) | exact ⟨by omega, by omega⟩) (fun c11 => ?_) (fun c11 => ?_)
              · refine Z_go (f2 := (119, [(2, .int (Zi 0)), (1, .int (Zi (D_see s a))), (0, .ref 83)], [.ref 83])) (fun _ => rfl) ?_
                refine Z_go (f2 := (120, [(2, .int (Zi 0)), (1, .int (Zi (D_see s a))), (0, .ref 83)], [.int (Zi (D_see s a)), .ref 83])) (fun _ => rfl) ?_
                refine Z_go (f2 := (122, [(2, .int (Zi 0)), (1, .int (Zi (D_see s a))), (0, .ref 83)], [.int (Zi 110), .int (Zi (D_see s a)), .ref 83])) (fun _ => rfl) ?_
                refine Z_cne rfl rfl (by first | exact hs.zF _ | exact Zor_r _ _ | exact hs.zA _ _ | assumption | exact zS _ | exact Zr_not (hs.zA _ _) | exact ⟨by omega, by omega⟩) (by first | exact hs.zF _ | exact Zor_r _ _ | exact hs.zA _ _ | assumption | exact zS _ | exact Zr_not (hs.zA _ _) | exact ⟨by omega, by omega⟩) (fun c12 => ?_) (fun c12 => ?_)
                · refine Z_go (f2 := (131, [(2, .int (Zi 0)), (1, .int (Zi (D_see s a))), (0, .ref 83)], [.int (Zi (D_see s a)), .ref 83])) (fun _ => rfl) ?_
                  refine Z_go (f2 := (133, [(2, .int (Zi 0)), (1, .int (Zi (D_see s a))), (0, .ref 83)], [.int (Zi 116), .int (Zi (D_see s a)), .ref 83])) (fun _ => rfl) ?_
                  refine Z_cne rfl rfl (by first | exact hs.zF _ | exact Zor_r _ _ | exact hs.zA _ _ | assumption | exact zS _ | exact Zr_not (hs.zA _ _) | exact ⟨by omega, by omega⟩) (by first | exact hs.zF _ | exact Zor_r _ _ | exact hs.zA _ _ | assumption | exact zS _ | exact Zr_not (hs.zA _ _) | exact ⟨by omega, by omega⟩) (fun c13 => ?_) (fun c13 => ?_)
                  · refine Z_go (f2 := (142, [(2, .int (Zi 0)), (1, .int (Zi (D_see s a))), (0, .ref 83)], [.int (Zi (D_see s a)), .ref 83])) (fun _ => rfl) ?_
                    refine R_call (As := [.int (Zi (D_see s a))]) (rest := []) rfl (by decide) rfl rfl rfl rfl (by decide +kernel) (Nat.le_of_ble_eq_true rfl) hs (R_put2 _ (R_nw s) (a + 1) f p (by first | assumption | exact hs.zF _ | exact hs.zA _ _ | exact zS _ | exact ⟨by omega, by omega⟩ | omega) (by omega) (by omega) (by omega) (by omega)) (fun x h s2 hs q => ?_)
                    obtain ⟨rfl, w2, q1, q2⟩ := q
                    rw [q1] at hs
                    have ev15 : w2.1 15 = (R_nw s).1 15 := q2.f15 15
                    have ev13 : w2.1 13 = (R_nw s).1 13 := q2.f15 13
                    show B_R _ _ (145, [(2, .int (Zi 0)), (1, .int (Zi (D_see s a))), (0, .ref 83)], []) _ _ _
                    refine Z_go (f2 := (146, [(2, .int (Zi 0)), (1, .int (Zi (D_see s a))), (0, .ref 83)], [.ref 83])) (fun _ => rfl) ?_
                    refine Z_go (f2 := (147, [(2, .int (Zi 0)), (1, .int (Zi (D_see s a))), (0, .ref 83)], [.int (Zi 1), .ref 83])) (fun _ => rfl) ?_
                    refine Z_go (f2 := (148, [(2, .int (Zi 0)), (1, .int (Zi (D_see s a))), (0, .ref 83)], [.ref 83, .int (Zi 1), .ref 83])) (fun _ => rfl) ?_
                    refine R_gi rfl hs rfl ?_
                    show B_R _ _ (151, [(2, .int (Zi 0)), (1, .int (Zi (D_see s a))), (0, .ref 83)], [.int (Zi (w2.1 15)), .int (Zi 1), .ref 83]) _ _ _
                    refine Z_go (f2 := (152, [(2, .int (Zi 0)), (1, .int (Zi (D_see s a))), (0, .ref 83)], [.int (Zi 1), .int (Zi (w2.1 15)), .int (Zi 1), .ref 83])) (fun _ => rfl) ?_
                    refine Z_isub rfl ?_
                    refine Z_go (f2 := (154, [(2, .int (Zi 0)), (1, .int (Zi (D_see s a))), (0, .ref 83)], [.int (Zi 0), .int (Zi (w2.1 15 - 1)), .int (Zi 1), .ref 83])) (fun _ => rfl) ?_
                    refine R_call (As := [.int (Zi 1), .int (Zi (w2.1 15 - 1)), .int (Zi 0)]) (rest := []) rfl (by decide) rfl rfl rfl rfl (by decide +kernel) (Nat.le_of_ble_eq_true rfl) hs (R_emit2 _ w2 (a + 1) f p (by first | assumption | exact hs.zF _ | exact hs.zA _ _ | exact zS _ | exact ⟨by omega, by omega⟩ | omega) (by first | assumption | exact hs.zF _ | exact hs.zA _ _ | exact zS _ | exact ⟨by omega, by omega⟩ | omega) (by first | assumption | exact hs.zF _ | exact hs.zA _ _ | exact zS _ | exact ⟨by omega, by omega⟩ | omega) (by omega) (by omega)) (fun x h s2 hs q => ?_)
                    obtain ⟨rfl, q1⟩ := q
                    rw [q1] at hs
                    show B_R _ _ (157, [(2, .int (Zi 0)), (1, .int (Zi (D_see s a))), (0, .ref 83)], []) _ _ _
                    refine Z_go (f2 := (158, [(2, .int (Zi 0)), (1, .int (Zi (D_see s a))), (0, .ref 83)], [.int (Zi 1)])) (fun _ => rfl) ?_
                    refine Z_iret rfl rfl (by first | rfl | decide | exact narrow_b01 (by omega)) ⟨_, hs, ?_, rfl⟩
                    have e : D_esc (D_see s) a f p = (1, a + 1, f, p, .inr (fun x => x = D_see s a)) := by
                      unfold D_esc
                      try dsimp only
                      try unfold D_sgn D_let D_dig at hv
                      repeat first
                        | rw [if_pos (by first | omega | (unfold P_nm; omega) | (unfold D_sgn D_let D_dig; omega) | (unfold D_pln; omega))]
                        | rw [if_neg (by first | omega | (unfold P_nm; omega) | (unfold D_sgn D_let D_dig; omega) | (unfold D_pln; omega))]
                      try (refine Prod.ext ?_ (Prod.ext ?_ (Prod.ext ?_ (Prod.ext ?_ ?_))) <;> first | rfl | (dsimp only; omega))
                    rw [e]
                    refine ⟨rfl, _, rfl, .inr ⟨rfl, ?_⟩⟩
                    rw [show w2.1 15 - 1 = s.1 15 by omega]
                    exact (R_nw_ss (q2.weak (fun y y0 y1 => ⟨fun h => h.elim (fun h => ((hnw y y0 y1).mp h).elim) id, .inr⟩))).trans (R_ap_em w2 1 (s.1 15) 0) m0
                  · refine Z_go (f2 := (138, [(2, .int (Zi 0)), (1, .int (Zi (D_see s a))), (0, .ref 83)], [.int (Zi 9), .ref 83])) (fun _ => rfl) ?_
                    refine Z_go (f2 := (142, [(2, .int (Zi 0)), (1, .int (Zi (D_see s a))), (0, .ref 83)], [.int (Zi 9), .ref 83])) (fun _ => rfl) ?_
                    refine R_call (As := [.int (Zi 9)]) (rest := []) rfl (by decide) rfl rfl rfl rfl (by decide +kernel) (Nat.le_of_ble_eq_true rfl) hs (R_put2 _ (R_nw s) (a + 1) f p (by first | assumption | exact hs.zF _ | exact hs.zA _ _ | exact zS _ | exact ⟨by omega, by omega⟩ | omega) (by omega) (by omega) (by omega) (by omega)) (fun x h s2 hs q => ?_)
                    obtain ⟨rfl, w2, q1, q2⟩ := q
                    rw [q1] at hs
                    have ev15 : w2.1 15 = (R_nw s).1 15 := q2.f15 15
                    have ev13 : w2.1 13 = (R_nw s).1 13 := q2.f15 13
                    show B_R _ _ (145, [(2, .int (Zi 0)), (1, .int (Zi (D_see s a))), (0, .ref 83)], []) _ _ _
                    refine Z_go (f2 := (146, [(2, .int (Zi 0)), (1, .int (Zi (D_see s a))), (0, .ref 83)], [.ref 83])) (fun _ => rfl) ?_
                    refine Z_go (f2 := (147, [(2, .int (Zi 0)), (1, .int (Zi (D_see s a))), (0, .ref 83)], [.int (Zi 1), .ref 83])) (fun _ => rfl) ?_
                    refine Z_go (f2 := (148, [(2, .int (Zi 0)), (1, .int (Zi (D_see s a))), (0, .ref 83)], [.ref 83, .int (Zi 1), .ref 83])) (fun _ => rfl) ?_
                    refine R_gi rfl hs rfl ?_
                    show B_R _ _ (151, [(2, .int (Zi 0)), (1, .int (Zi (D_see s a))), (0, .ref 83)], [.int (Zi (w2.1 15)), .int (Zi 1), .ref 83]) _ _ _
                    refine Z_go (f2 := (152, [(2, .int (Zi 0)), (1, .int (Zi (D_see s a))), (0, .ref 83)], [.int (Zi 1), .int (Zi (w2.1 15)), .int (Zi 1), .ref 83])) (fun _ => rfl) ?_
                    refine Z_isub rfl ?_
                    refine Z_go (f2 := (154, [(2, .int (Zi 0)), (1, .int (Zi (D_see s a))), (0, .ref 83)], [.int (Zi 0), .int (Zi (w2.1 15 - 1)), .int (Zi 1), .ref 83])) (fun _ => rfl) ?_
                    refine R_call (As := [.int (Zi 1), .int (Zi (w2.1 15 - 1)), .int (Zi 0)]) (rest := []) rfl (by decide) rfl rfl rfl rfl (by decide +kernel) (Nat.le_of_ble_eq_true rfl) hs (R_emit2 _ w2 (a + 1) f p (by first | assumption | exact hs.zF _ | exact hs.zA _ _ | exact zS _ | exact ⟨by omega, by omega⟩ | omega) (by first | assumption | exact hs.zF _ | exact hs.zA _ _ | exact zS _ | exact ⟨by omega, by omega⟩ | omega) (by first | assumption | exact hs.zF _ | exact hs.zA _ _ | exact zS _ | exact ⟨by omega, by omega⟩ | omega) (by omega) (by omega)) (fun x h s2 hs q => ?_)
                    obtain ⟨rfl, q1⟩ := q
                    rw [q1] at hs
                    show B_R _ _ (157, [(2, .int (Zi 0)), (1, .int (Zi (D_see s a))), (0, .ref 83)], []) _ _ _
                    refine Z_go (f2 := (158, [(2, .int (Zi 0)), (1, .int (Zi (D_see s a))), (0, .ref 83)], [.int (Zi 1)])) (fun _ => rfl) ?_
                    refine Z_iret rfl rfl (by first | rfl | decide | exact narrow_b01 (by omega)) ⟨_, hs, ?_, rfl⟩
                    have e : D_esc (D_see s) a f p = (1, a + 1, f, p, .inr (fun x => x = 9)) := by
                      unfold D_esc
                      try dsimp only
                      try unfold D_sgn D_let D_dig at hv
                      repeat first
                        | rw [if_pos (by first | omega | (unfold P_nm; omega) | (unfold D_sgn D_let D_dig; omega) | (unfold D_pln; omega))]
                        | rw [if_neg (by first | omega | (unfold P_nm; omega) | (unfold D_sgn D_let D_dig; omega) | (unfold D_pln; omega))]
                      try (refine Prod.ext ?_ (Prod.ext ?_ (Prod.ext ?_ (Prod.ext ?_ ?_))) <;> first | rfl | (dsimp only; omega))
                    rw [e]
                    refine ⟨rfl, _, rfl, .inr ⟨rfl, ?_⟩⟩
                    rw [show w2.1 15 - 1 = s.1 15 by omega]
                    exact (R_nw_ss (q2.weak (fun y y0 y1 => ⟨fun h => h.elim (fun h => ((hnw y y0 y1).mp h).elim) id, .inr⟩))).trans (R_ap_em w2 1 (s.1 15) 0) m0
                · refine Z_go (f2 := (127, [(2, .int (Zi 0)), (1, .int (Zi (D_see s a))), (0, .ref 83)], [.int (Zi 10), .ref 83])) (fun _ => rfl) ?_
                  refine Z_go (f2 := (142, [(2, .int (Zi 0)), (1, .int (Zi (D_see s a))), (0, .ref 83)], [.int (Zi 10), .ref 83])) (fun _ => rfl) ?_
                  refine R_call (As := [.int (Zi 10)]) (rest := []) rfl (by decide) rfl rfl rfl rfl (by decide +kernel) (Nat.le_of_ble_eq_true rfl) hs (R_put2 _ (R_nw s) (a + 1) f p (by first | assumption | exact hs.zF _ | exact hs.zA _ _ | exact zS _ | exact ⟨by omega, by omega⟩ | omega) (by omega) (by omega) (by omega) (by omega)) (fun x h s2 hs q => ?_)
                  obtain ⟨rfl, w2, q1, q2⟩ := q
                  rw [q1] at hs
                  have ev15 : w2.1 15 = (R_nw s).1 15 := q2.f15 15
                  have ev13 : w2.1 13 = (R_nw s).1 13 := q2.f15 13
                  show B_R _ _ (145, [(2, .int (Zi 0)), (1, .int (Zi (D_see s a))), (0, .ref 83)], []) _ _ _
                  refine Z_go (f2 := (146, [(2, .int (Zi 0)), (1, .int (Zi (D_see s a))), (0, .ref 83)], [.ref 83])) (fun _ => rfl) ?_
                  refine Z_go (f2 := (147, [(2, .int (Zi 0)), (1, .int (Zi (D_see s a))), (0, .ref 83)], [.int (Zi 1), .ref 83])) (fun _ => rfl) ?_
                  refine Z_go (f2 := (148, [(2, .int (Zi 0)), (1, .int (Zi (D_see s a))), (0, .ref 83)], [.ref 83, .int (Zi 1), .ref 83])) (fun _ => rfl) ?_
                  refine R_gi rfl hs rfl ?_
                  show B_R _ _ (151, [(2, .int (Zi 0)), (1, .int (Zi (D_see s a))), (0, .ref 83)], [.int (Zi (w2.1 15)), .int (Zi 1), .ref 83]) _ _ _
                  refine Z_go (f2 := (152, [(2, .int (Zi 0)), (1, .int (Zi (D_see s a))), (0, .ref 83)], [.int (Zi 1), .int (Zi (w2.1 15)), .int (Zi 1), .ref 83])) (fun _ => rfl) ?_
                  refine Z_isub rfl ?_
                  refine Z_go (f2 := (154, [(2, .int (Zi 0)), (1, .int (Zi (D_see s a))), (0, .ref 83)], [.int (Zi 0), .int (Zi (w2.1 15 - 1)), .int (Zi 1), .ref 83])) (fun _ => rfl) ?_
                  refine R_call (As := [.int (Zi 1), .int (Zi (w2.1 15 - 1)), .int (Zi 0)]) (rest := []) rfl (by decide) rfl rfl rfl rfl (by decide +kernel) (Nat.le_of_ble_eq_true rfl) hs (R_emit2 _ w2 (a + 1) f p (by first | assumption | exact hs.zF _ | exact hs.zA _ _ | exact zS _ | exact ⟨by omega, by omega⟩ | omega) (by first | assumption | exact hs.zF _ | exact hs.zA _ _ | exact zS _ | exact ⟨by omega, by omega⟩ | omega) (by first | assumption | exact hs.zF _ | exact hs.zA _ _ | exact zS _ | exact ⟨by omega, by omega⟩ | omega) (by omega) (by omega)) (fun x h s2 hs q => ?_)
                  obtain ⟨rfl, q1⟩ := q
                  rw [q1] at hs
                  show B_R _ _ (157, [(2, .int (Zi 0)), (1, .int (Zi (D_see s a))), (0, .ref 83)], []) _ _ _
                  refine Z_go (f2 := (158, [(2, .int (Zi 0)), (1, .int (Zi (D_see s a))), (0, .ref 83)], [.int (Zi 1)])) (fun _ => rfl) ?_
                  refine Z_iret rfl rfl (by first | rfl | decide | exact narrow_b01 (by omega)) ⟨_, hs, ?_, rfl⟩
                  have e : D_esc (D_see s) a f p = (1, a + 1, f, p, .inr (fun x => x = 10)) := by
                    unfold D_esc
                    try dsimp only
                    try unfold D_sgn D_let D_dig at hv
                    repeat first
                      | rw [if_pos (by first | omega | (unfold P_nm; omega) | (unfold D_sgn D_let D_dig; omega) | (unfold D_pln; omega))]
                      | rw [if_neg (by first | omega | (unfold P_nm; omega) | (unfold D_sgn D_let D_dig; omega) | (unfold D_pln; omega))]
                    try (refine Prod.ext ?_ (Prod.ext ?_ (Prod.ext ?_ (Prod.ext ?_ ?_))) <;> first | rfl | (dsimp only; omega))
                  rw [e]
                  refine ⟨rfl, _, rfl, .inr ⟨rfl, ?_⟩⟩
                  rw [show w2.1 15 - 1 = s.1 15 by omega]
                  exact (R_nw_ss (q2.weak (fun y y0 y1 => ⟨fun h => h.elim (fun h => ((hnw y y0 y1).mp h).elim) id, .inr⟩))).trans (R_ap_em w2 1 (s.1 15) 0) m0
              · exfalso; omega
            · refine Z_go (f2 := (69, [(2, .int (Zi 0)), (1, .int (Zi (D_see s a))), (0, .ref 83)], [.int (Zi (D_see s a))])) (fun _ => rfl) ?_
              refine Z_go (f2 := (71, [(2, .int (Zi 0)), (1, .int (Zi (D_see s a))), (0, .ref 83)], [.int (Zi 116), .int (Zi (D_see s a))])) (fun _ => rfl) ?_
              refine Z_ceq rfl rfl (by first | exact hs.zF _ | exact Zor_r _ _ | exact hs.zA _ _ | assumption | exact zS _ | exact Zr_not (hs.zA _ _) | exact ⟨by omega, by omega⟩) (by first | exact hs.zF _ | exact Zor_r _ _ | exact hs.zA _ _ | assumption | exact zS _ | exact Zr_not (hs.zA _ _) | exact ⟨by omega, by omega⟩) (fun c14 => ?_) (fun c14 => ?_)
              · refine Z_go (f2 := (93, [(2, .int (Zi 0)), (1, .int (Zi (D_see s a))), (0, .ref 83)], [.ref 83])) (fun _ => rfl) ?_
                refine Z_go (f2 := (94, [(2, .int (Zi 0)), (1, .int (Zi (D_see s a))), (0, .ref 83)], [.ref 83, .ref 83])) (fun _ => rfl) ?_
                refine R_gi rfl hs rfl ?_
                show B_R _ _ (97, [(2, .int (Zi 0)), (1, .int (Zi (D_see s a))), (0, .ref 83)], [.int (Zi a), .ref 83]) _ _ _
                refine Z_go (f2 := (98, [(2, .int (Zi 0)), (1, .int (Zi (D_see s a))), (0, .ref 83)], [.int (Zi 1), .int (Zi a), .ref 83])) (fun _ => rfl) ?_
                refine Z_iadd rfl ?_
                refine R_pf rfl hs rfl (by first | exact hs.zF _ | exact Zor_r _ _ | exact hs.zA _ _ | assumption | exact zS _ | exact Zr_not (hs.zA _ _) | exact ⟨by omega, by omega⟩) ⟨rfl, rfl, rfl⟩ (fun h hs => ?_)
                rw [R_p3_16] at hs
                refine Z_go (f2 := (103, [(2, .int (Zi 0)), (1, .int (Zi (D_see s a))), (0, .ref 83)], [.ref 83])) (fun _ => rfl) ?_
                refine R_call (As := []) (rest := []) rfl (by decide) rfl rfl rfl rfl (by decide +kernel) (Nat.le_of_ble_eq_true rfl) hs (R_newSet2 _ s (a + 1) f p (by omega) (by omega)) (fun x h s2 hs q => ?_)
                obtain ⟨rfl, q1⟩ := q
                rw [q1] at hs
                show B_R _ _ (106, [(2, .int (Zi 0)), (1, .int (Zi (D_see s a))), (0, .ref 83)], []) _ _ _
                refine Z_go (f2 := (107, [(2, .int (Zi 0)), (1, .int (Zi (D_see s a))), (0, .ref 83)], [.int (Zi 0)])) (fun _ => rfl) ?_
                refine Z_ieq rfl rfl (by first | exact hs.zF _ | exact Zor_r _ _ | exact hs.zA _ _ | assumption | exact zS _ | exact Zr_not (hs.zA _ _) | exact ⟨by omega, by omega⟩) (fun c15 => ?_) (fun c15 => ?_)
                · refine Z_go (f2 := (119, [(2, .int (Zi 0)), (1, .int (Zi (D_see s a))), (0, .ref 83)], [.ref 83])) (fun _ => rfl) ?_
                  refine Z_go (f2 := (120, [(2, .int (Zi 0)), (1, .int (Zi (D_see s a))), (0, .ref 83)], [.int (Zi (D_see s a)), .ref 83])) (fun _ => rfl) ?_
                  refine Z_go (f2 := (122, [(2, .int (Zi 0)), (1, .int (Zi (D_see s a))), (0, .ref 83)], [.int (Zi 110), .int (Zi (D_see s a)), .ref 83])) (fun _ => rfl) ?_
                  refine Z_cne rfl rfl (by first | exact hs.zF _ | exact Zor_r _ _ | exact hs.zA _ _ | assumption | exact zS _ | exact Zr_not (hs.zA _ _) | exact ⟨by omega, by omega⟩) (by first | exact hs.zF _ | exact Zor_r _ _ | exact hs.zA _ _ | assumption | exact zS _ | exact Zr_not (hs.zA _ _) | exact ⟨by omega, by omega⟩) (fun c16 => ?_) (fun c16 => ?_)
                  · refine Z_go (f2 := (131, [(2, .int (Zi 0)), (1, .int (Zi (D_see s a))), (0, .ref 83)], [.int (Zi (D_see s a)), .ref 83])) (fun _ => rfl) ?_
                    refine Z_go (f2 := (133, [(2, .int (Zi 0)), (1, .int (Zi (D_see s a))), (0, .ref 83)], [.int (Zi 116), .int (Zi (D_see s a)), .ref 83])) (fun _ => rfl) ?_
                    refine Z_cne rfl rfl (by first | exact hs.zF _ | exact Zor_r _ _ | exact hs.zA _ _ | assumption | exact zS _ | exact Zr_not (hs.zA _ _) | exact ⟨by omega, by omega⟩) (by first | exact hs.zF _ | exact Zor_r _ _ | exact hs.zA _ _ | assumption | exact zS _ | exact Zr_not (hs.zA _ _) | exact ⟨by omega, by omega⟩) (fun c17 => ?_) (fun c17 => ?_)
                    · refine Z_go (f2 := (142, [(2, .int (Zi 0)), (1, .int (Zi (D_see s a))), (0, .ref 83)], [.int (Zi (D_see s a)), .ref 83])) (fun _ => rfl) ?_
                      refine R_call (As := [.int (Zi (D_see s a))]) (rest := []) rfl (by decide) rfl rfl rfl rfl (by decide +kernel) (Nat.le_of_ble_eq_true rfl) hs (R_put2 _ (R_nw s) (a + 1) f p (by first | assumption | exact hs.zF _ | exact hs.zA _ _ | exact zS _ | exact ⟨by omega, by omega⟩ | omega) (by omega) (by omega) (by omega) (by omega)) (fun x h s2 hs q => ?_)
                      obtain ⟨rfl, w2, q1, q2⟩ := q
                      rw [q1] at hs
                      have ev15 : w2.1 15 = (R_nw s).1 15 := q2.f15 15
                      have ev13 : w2.1 13 = (R_nw s).1 13 := q2.f15 13
                      show B_R _ _ (145, [(2, .int (Zi 0)), (1, .int (Zi (D_see s a))), (0, .ref 83)], []) _ _ _
                      refine Z_go (f2 := (146, [(2, .int (Zi 0)), (1, .int (Zi (D_see s a))), (0, .ref 83)], [.ref 83])) (fun _ => rfl) ?_
                      refine Z_go (f2 := (147, [(2, .int (Zi 0)), (1, .int (Zi (D_see s a))), (0, .ref 83)], [.int (Zi 1), .ref 83])) (fun _ => rfl) ?_
                      refine Z_go (f2 := (148, [(2, .int (Zi 0)), (1, .int (Zi (D_see s a))), (0, .ref 83)], [.ref 83, .int (Zi 1), .ref 83])) (fun _ => rfl) ?_
                      refine R_gi rfl hs rfl ?_
                      show B_R _ _ (151, [(2, .int (Zi 0)), (1, .int (Zi (D_see s a))), (0, .ref 83)], [.int (Zi (w2.1 15)), .int (Zi 1), .ref 83]) _ _ _
                      refine Z_go (f2 := (152, [(2, .int (Zi 0)), (1, .int (Zi (D_see s a))), (0, .ref 83)], [.int (Zi 1), .int (Zi (w2.1 15)), .int (Zi 1), .ref 83])) (fun _ => rfl) ?_
                      refine Z_isub rfl ?_
                      refine Z_go (f2 := (154, [(2, .int (Zi 0)), (1, .int (Zi (D_see s a))), (0, .ref 83)], [.int (Zi 0), .int (Zi (w2.1 15 - 1)), .int (Zi 1), .ref 83])) (fun _ => rfl) ?_
                      refine R_call (As := [.int (Zi 1), .int (Zi (w2.1 15 - 1)), .int (Zi 0)]) (rest := []) rfl (by decide) rfl rfl rfl rfl (by decide +kernel) (Nat.le_of_ble_eq_true rfl) hs (R_emit2 _ w2 (a + 1) f p (by first | assumption | exact hs.zF _ | exact hs.zA _ _ | exact zS _ | exact ⟨by omega, by omega⟩ | omega) (by first | assumption | exact hs.zF _ | exact hs.zA _ _ | exact zS _ | exact ⟨by omega, by omega⟩ | omega) (by first | assumption | exact hs.zF _ | exact hs.zA _ _ | exact zS _ | exact ⟨by omega, by omega⟩ | omega) (by omega) (by omega)) (fun x h s2 hs q => ?_)
                      obtain ⟨rfl, q1⟩ := q
                      rw [q1] at hs
                      show B_R _ _ (157, [(2, .int (Zi 0)), (1, .int (Zi (D_see s a))), (0, .ref 83)], []) _ _ _
                      refine Z_go (f2 := (158, [(2, .int (Zi 0)), (1, .int (Zi (D_see s a))), (0, .ref 83)], [.int (Zi 1)])) (fun _ => rfl) ?_
                      refine Z_iret rfl rfl (by first | rfl | decide | exact narrow_b01 (by omega)) ⟨_, hs, ?_, rfl⟩
                      have e : D_esc (D_see s) a f p = (1, a + 1, f, p, .inr (fun x => x = D_see s a)) := by
                        unfold D_esc
                        try dsimp only
                        try unfold D_sgn D_let D_dig at hv
                        repeat first
                          | rw [if_pos (by first | omega | (unfold P_nm; omega) | (unfold D_sgn D_let D_dig; omega) | (unfold D_pln; omega))]
                          | rw [if_neg (by first | omega | (unfold P_nm; omega) | (unfold D_sgn D_let D_dig; omega) | (unfold D_pln; omega))]
                        try (refine Prod.ext ?_ (Prod.ext ?_ (Prod.ext ?_ (Prod.ext ?_ ?_))) <;> first | rfl | (dsimp only; omega))
                      rw [e]
                      refine ⟨rfl, _, rfl, .inr ⟨rfl, ?_⟩⟩
                      rw [show w2.1 15 - 1 = s.1 15 by omega]
                      exact (R_nw_ss (q2.weak (fun y y0 y1 => ⟨fun h => h.elim (fun h => ((hnw y y0 y1).mp h).elim) id, .inr⟩))).trans (R_ap_em w2 1 (s.1 15) 0) m0
                    · refine Z_go (f2 := (138, [(2, .int (Zi 0)), (1, .int (Zi (D_see s a))), (0, .ref 83)], [.int (Zi 9), .ref 83])) (fun _ => rfl) ?_
                      refine Z_go (f2 := (142, [(2, .int (Zi 0)), (1, .int (Zi (D_see s a))), (0, .ref 83)], [.int (Zi 9), .ref 83])) (fun _ => rfl) ?_
                      refine R_call (As := [.int (Zi 9)]) (rest := []) rfl (by decide) rfl rfl rfl rfl (by decide +kernel) (Nat.le_of_ble_eq_true rfl) hs (R_put2 _ (R_nw s) (a + 1) f p (by first | assumption | exact hs.zF _ | exact hs.zA _ _ | exact zS _ | exact ⟨by omega, by omega⟩ | omega) (by omega) (by omega) (by omega) (by omega)) (fun x h s2 hs q => ?_)
                      obtain ⟨rfl, w2, q1, q2⟩ := q
                      rw [q1] at hs
                      have ev15 : w2.1 15 = (R_nw s).1 15 := q2.f15 15
                      have ev13 : w2.1 13 = (R_nw s).1 13 := q2.f15 13
                      show B_R _ _ (145, [(2, .int (Zi 0)), (1, .int (Zi (D_see s a))), (0, .ref 83)], []) _ _ _
                      refine Z_go (f2 := (146, [(2, .int (Zi 0)), (1, .int (Zi (D_see s a))), (0, .ref 83)], [.ref 83])) (fun _ => rfl) ?_
                      refine Z_go (f2 := (147, [(2, .int (Zi 0)), (1, .int (Zi (D_see s a))), (0, .ref 83)], [.int (Zi 1), .ref 83])) (fun _ => rfl) ?_
                      refine Z_go (f2 := (148, [(2, .int (Zi 0)), (1, .int (Zi (D_see s a))), (0, .ref 83)], [.ref 83, .int (Zi 1), .ref 83])) (fun _ => rfl) ?_
                      refine R_gi rfl hs rfl ?_
                      show B_R _ _ (151, [(2, .int (Zi 0)), (1, .int (Zi (D_see s a))), (0, .ref 83)], [.int (Zi (w2.1 15)), .int (Zi 1), .ref 83]) _ _ _
                      refine Z_go (f2 := (152, [(2, .int (Zi 0)), (1, .int (Zi (D_see s a))), (0, .ref 83)], [.int (Zi 1), .int (Zi (w2.1 15)), .int (Zi 1), .ref 83])) (fun _ => rfl) ?_
                      refine Z_isub rfl ?_
                      refine Z_go (f2 := (154, [(2, .int (Zi 0)), (1, .int (Zi (D_see s a))), (0, .ref 83)], [.int (Zi 0), .int (Zi (w2.1 15 - 1)), .int (Zi 1), .ref 83])) (fun _ => rfl) ?_
                      refine R_call (As := [.int (Zi 1), .int (Zi (w2.1 15 - 1)), .int (Zi 0)]) (rest := []) rfl (by decide) rfl rfl rfl rfl (by decide +kernel) (Nat.le_of_ble_eq_true rfl) hs (R_emit2 _ w2 (a + 1) f p (by first | assumption | exact hs.zF _ | exact hs.zA _ _ | exact zS _ | exact ⟨by omega, by omega⟩ | omega) (by first | assumption | exact hs.zF _ | exact hs.zA _ _ | exact zS _ | exact ⟨by omega, by omega⟩ | omega) (by first | assumption | exact hs.zF _ | exact hs.zA _ _ | exact zS _ | exact ⟨by omega, by omega⟩ | omega) (by omega) (by omega)) (fun x h s2 hs q => ?_)
                      obtain ⟨rfl, q1⟩ := q
                      rw [q1] at hs
                      show B_R _ _ (157, [(2, .int (Zi 0)), (1, .int (Zi (D_see s a))), (0, .ref 83)], []) _ _ _
                      refine Z_go (f2 := (158, [(2, .int (Zi 0)), (1, .int (Zi (D_see s a))), (0, .ref 83)], [.int (Zi 1)])) (fun _ => rfl) ?_
                      refine Z_iret rfl rfl (by first | rfl | decide | exact narrow_b01 (by omega)) ⟨_, hs, ?_, rfl⟩
                      have e : D_esc (D_see s) a f p = (1, a + 1, f, p, .inr (fun x => x = 9)) := by
                        unfold D_esc
                        try dsimp only
                        try unfold D_sgn D_let D_dig at hv
                        repeat first
                          | rw [if_pos (by first | omega | (unfold P_nm; omega) | (unfold D_sgn D_let D_dig; omega) | (unfold D_pln; omega))]
                          | rw [if_neg (by first | omega | (unfold P_nm; omega) | (unfold D_sgn D_let D_dig; omega) | (unfold D_pln; omega))]
                        try (refine Prod.ext ?_ (Prod.ext ?_ (Prod.ext ?_ (Prod.ext ?_ ?_))) <;> first | rfl | (dsimp only; omega))
                      rw [e]
                      refine ⟨rfl, _, rfl, .inr ⟨rfl, ?_⟩⟩
                      rw [show w2.1 15 - 1 = s.1 15 by omega]
                      exact (R_nw_ss (q2.weak (fun y y0 y1 => ⟨fun h => h.elim (fun h => ((hnw y y0 y1).mp h).elim) id, .inr⟩))).trans (R_ap_em w2 1 (s.1 15) 0) m0
                  · refine Z_go (f2 := (127, [(2, .int (Zi 0)), (1, .int (Zi (D_see s a))), (0, .ref 83)], [.int (Zi 10), .ref 83])) (fun _ => rfl) ?_
                    refine Z_go (f2 := (142, [(2, .int (Zi 0)), (1, .int (Zi (D_see s a))), (0, .ref 83)], [.int (Zi 10), .ref 83])) (fun _ => rfl) ?_
                    refine R_call (As := [.int (Zi 10)]) (rest := []) rfl (by decide) rfl rfl rfl rfl (by decide +kernel) (Nat.le_of_ble_eq_true rfl) hs (R_put2 _ (R_nw s) (a + 1) f p (by first | assumption | exact hs.zF _ | exact hs.zA _ _ | exact zS _ | exact ⟨by omega, by omega⟩ | omega) (by omega) (by omega) (by omega) (by omega)) (fun x h s2 hs q => ?_)
                    obtain ⟨rfl, w2, q1, q2⟩ := q
                    rw [q1] at hs
                    have ev15 : w2.1 15 = (R_nw s).1 15 := q2.f15 15
                    have ev13 : w2.1 13 = (R_nw s).1 13 := q2.f15 13
                    show B_R _ _ (145, [(2, .int (Zi 0)), (1, .int (Zi (D_see s a))), (0, .ref 83)], []) _ _ _
                    refine Z_go (f2 := (146, [(2, .int (Zi 0)), (1, .int (Zi (D_see s a))), (0, .ref 83)], [.ref 83])) (fun _ => rfl) ?_
                    refine Z_go (f2 := (147, [(2, .int (Zi 0)), (1, .int (Zi (D_see s a))), (0, .ref 83)], [.int (Zi 1), .ref 83])) (fun _ => rfl) ?_
                    refine Z_go (f2 := (148, [(2, .int (Zi 0)), (1, .int (Zi (D_see s a))), (0, .ref 83)], [.ref 83, .int (Zi 1), .ref 83])) (fun _ => rfl) ?_
                    refine R_gi rfl hs rfl ?_
                    show B_R _ _ (151, [(2, .int (Zi 0)), (1, .int (Zi (D_see s a))), (0, .ref 83)], [.int (Zi (w2.1 15)), .int (Zi 1), .ref 83]) _ _ _
                    refine Z_go (f2 := (152, [(2, .int (Zi 0)), (1, .int (Zi (D_see s a))), (0, .ref 83)], [.int (Zi 1), .int (Zi (w2.1 15)), .int (Zi 1), .ref 83])) (fun _ => rfl) ?_
                    refine Z_isub rfl ?_
                    refine Z_go (f2 := (154, [(2, .int (Zi 0)), (1, .int (Zi (D_see s a))), (0, .ref 83)], [.int (Zi 0), .int (Zi (w2.1 15 - 1)), .int (Zi 1), .ref 83])) (fun _ => rfl) ?_
                    refine R_call (As := [.int (Zi 1), .int (Zi (w2.1 15 - 1)), .int (Zi 0)]) (rest := []) rfl (by decide) rfl rfl rfl rfl (by decide +kernel) (Nat.le_of_ble_eq_true rfl) hs (R_emit2 _ w2 (a + 1) f p (by first | assumption | exact hs.zF _ | exact hs.zA _ _ | exact zS _ | exact ⟨by omega, by omega⟩ | omega) (by first | assumption | exact hs.zF _ | exact hs.zA _ _ | exact zS _ | exact ⟨by omega, by omega⟩ | omega) (by first | assumption | exact hs.zF _ | exact hs.zA _ _ | exact zS _ | exact ⟨by omega, by omega⟩ | omega) (by omega) (by omega)) (fun x h s2 hs q => ?_)
                    obtain ⟨rfl, q1⟩ := q
                    rw [q1] at hs
                    show B_R _ _ (157, [(2, .int (Zi 0)), (1, .int (Zi (D_see s a))), (0, .ref 83)], []) _ _ _
                    refine Z_go (f2 := (158, [(2, .int (Zi 0)), (1, .int (Zi (D_see s a))), (0, .ref 83)], [.int (Zi 1)])) (fun _ => rfl) ?_
                    refine Z_iret rfl rfl (by first | rfl | decide | exact narrow_b01 (by omega)) ⟨_, hs, ?_, rfl⟩
                    have e : D_esc (D_see s) a f p = (1, a + 1, f, p, .inr (fun x => x = 10)) := by
                      unfold D_esc
                      try dsimp only
                      try unfold D_sgn D_let D_dig at hv
                      repeat first
                        | rw [if_pos (by first | omega | (unfold P_nm; omega) | (unfold D_sgn D_let D_dig; omega) | (unfold D_pln; omega))]
                        | rw [if_neg (by first | omega | (unfold P_nm; omega) | (unfold D_sgn D_let D_dig; omega) | (unfold D_pln; omega))]
                      try (refine Prod.ext ?_ (Prod.ext ?_ (Prod.ext ?_ (Prod.ext ?_ ?_))) <;> first | rfl | (dsimp only; omega))
                    rw [e]
                    refine ⟨rfl, _, rfl, .inr ⟨rfl, ?_⟩⟩
                    rw [show w2.1 15 - 1 = s.1 15 by omega]
                    exact (R_nw_ss (q2.weak (fun y y0 y1 => ⟨fun h => h.elim (fun h => ((hnw y y0 y1).mp h).elim) id, .inr⟩))).trans (R_ap_em w2 1 (s.1 15) 0) m0
                · exfalso; omega
              · refine Z_go (f2 := (75, [(2, .int (Zi 0)), (1, .int (Zi (D_see s a))), (0, .ref 83)], [.int (Zi (D_see s a))])) (fun _ => rfl) ?_
                refine Z_callQ (vs := [.int (Zi (D_see s a))]) (rest := []) rfl (by decide) rfl rfl rfl (Nat.le_of_ble_eq_true rfl) (R_isSign _ (by first | assumption | exact hs.zF _ | exact hs.zA _ _ | exact zS _ | exact ⟨by omega, by omega⟩ | omega)) (fun x q => ?_)
                obtain ⟨v, rfl, hv⟩ := q
                have hvu := hv
                unfold D_sgn D_let D_dig at hvu
                show B_R _ _ (78, [(2, .int (Zi 0)), (1, .int (Zi (D_see s a))), (0, .ref 83)], [.int (Zi v)]) _ _ _
                refine Z_ine rfl rfl (by first | exact hs.zF _ | exact Zor_r _ _ | exact hs.zA _ _ | assumption | exact zS _ | exact Zr_not (hs.zA _ _) | exact ⟨by omega, by omega⟩) (fun c18 => ?_) (fun c18 => ?_)
                · refine Z_go (f2 := (93, [(2, .int (Zi 0)), (1, .int (Zi (D_see s a))), (0, .ref 83)], [.ref 83])) (fun _ => rfl) ?_
                  refine Z_go (f2 := (94, [(2, .int (Zi 0)), (1, .int (Zi (D_see s a))), (0, .ref 83)], [.ref 83, .ref 83])) (fun _ => rfl) ?_
                  refine R_gi rfl hs rfl ?_
                  show B_R _ _ (97, [(2, .int (Zi 0)), (1, .int (Zi (D_see s a))), (0, .ref 83)], [.int (Zi a), .ref 83]) _ _ _
                  refine Z_go (f2 := (98, [(2, .int (Zi 0)), (1, .int (Zi (D_see s a))), (0, .ref 83)], [.int (Zi 1), .int (Zi a), .ref 83])) (fun _ => rfl) ?_
                  refine Z_iadd rfl ?_
                  refine R_pf rfl hs rfl (by first | exact hs.zF _ | exact Zor_r _ _ | exact hs.zA _ _ | assumption | exact zS _ | exact Zr_not (hs.zA _ _) | exact ⟨by omega, by omega⟩) ⟨rfl, rfl, rfl⟩ (fun h hs => ?_)
                  rw [R_p3_16] at hs
                  refine Z_go (f2 := (103, [(2, .int (Zi 0)), (1, .int (Zi (D_see s a))), (0, .ref 83)], [.ref 83])) (fun _ => rfl) ?_
                  refine R_call (As := []) (rest := []) rfl (by decide) rfl rfl rfl rfl (by decide +kernel) (Nat.le_of_ble_eq_true rfl) hs (R_newSet2 _ s (a + 1) f p (by omega) (by omega)) (fun x h s2 hs q => ?_)
                  obtain ⟨rfl, q1⟩ := q
                  rw [q1] at hs
                  show B_R _ _ (106, [(2, .int (Zi 0)), (1, .int (Zi (D_see s a))), (0, .ref 83)], []) _ _ _
                  refine Z_go (f2 := (107, [(2, .int (Zi 0)), (1, .int (Zi (D_see s a))), (0, .ref 83)], [.int (Zi 0)])) (fun _ => rfl) ?_
                  refine Z_ieq rfl rfl (by first | exact hs.zF _ | exact Zor_r _ _ | exact hs.zA _ _ | assumption | exact zS _ | exact Zr_not (hs.zA _ _) | exact ⟨by omega, by omega⟩) (fun c19 => ?_) (fun c19 => ?_)
                  · refine Z_go (f2 := (119, [(2, .int (Zi 0)), (1, .int (Zi (D_see s a))), (0, .ref 83)], [.ref 83])) (fun _ => rfl) ?_
                    refine Z_go (f2 := (120, [(2, .int (Zi 0)), (1, .int (Zi (D_see s a))), (0, .ref 83)], [.int (Zi (D_see s a)), .ref 83])) (fun _ => rfl) ?_
                    refine Z_go (f2 := (122, [(2, .int (Zi 0)), (1, .int (Zi (D_see s a))), (0, .ref 83)], [.int (Zi 110), .int (Zi (D_see s a)), .ref 83])) (fun _ => rfl) ?_
                    refine Z_cne rfl rfl (by first | exact hs.zF _ | exact Zor_r _ _ | exact hs.zA _ _ | assumption | exact zS _ | exact Zr_not (hs.zA _ _) | exact ⟨by omega, by omega⟩) (by first | exact hs.zF _ | exact Zor_r _ _ | exact hs.zA _ _ | assumption | exact zS _ | exact Zr_not (hs.zA _ _) | exact ⟨by omega, by omega⟩) (fun c20 => ?_) (fun c20 => ?_)
                    · refine Z_go (f2 := (131, [(2, .int (Zi 0)), (1, .int (Zi (D_see s a))), (0, .ref 83)], [.int (Zi (D_see s a)), .ref 83])) (fun _ => rfl) ?_
                      refine Z_go (f2 := (133, [(2, .int (Zi 0)), (1, .int (Zi (D_see s a))), (0, .ref 83)], [.int (Zi 116), .int (Zi (D_see s a)), .ref 83])) (fun _ => rfl) ?_
                      refine Z_cne rfl rfl (by first | exact hs.zF _ | exact Zor_r _ _ | exact hs.zA _ _ | assumption | exact zS _ | exact Zr_not (hs.zA _ _) | exact ⟨by omega, by omega⟩) (by first | exact hs.zF _ | exact Zor_r _ _ | exact hs.zA _ _ | assumption | exact zS _ | exact Zr_not (hs.zA _ _) | exact ⟨by omega, by omega⟩) (fun c21 => ?_) (fun c21 => ?_)
                      · refine Z_go (f2 := (142, [(2, .int (Zi 0)), (1, .int (Zi (D_see s a))), (0, .ref 83)], [.int (Zi (D_see s a)), .ref 83])) (fun _ => rfl) ?_
                        refine R_call (As := [.int (Zi (D_see s a))]) (rest := []) rfl (by decide) rfl rfl rfl rfl (by decide +kernel) (Nat.le_of_ble_eq_true rfl) hs (R_put2 _ (R_nw s) (a + 1) f p (by first | assumption | exact hs.zF _ | exact hs.zA _ _ | exact zS _ | exact ⟨by omega, by omega⟩ | omega) (by omega) (by omega) (by omega) (by omega)) (fun x h s2 hs q => ?_)
                        obtain ⟨rfl, w2, q1, q2⟩ := q
                        rw [q1] at hs
                        have ev15 : w2.1 15 = (R_nw s).1 15 := q2.f15 15
                        have ev13 : w2.1 13 = (R_nw s).1 13 := q2.f15 13
                        show B_R _ _ (145, [(2, .int (Zi 0)), (1, .int (Zi (D_see s a))), (0, .ref 83)], []) _ _ _
                        refine Z_go (f2 := (146, [(2, .int (Zi 0)), (1, .int (Zi (D_see s a))), (0, .ref 83)], [.ref 83])) (fun _ => rfl) ?_
                        refine Z_go (f2 := (147, [(2, .int (Zi 0)), (1, .int (Zi (D_see s a))), (0, .ref 83)], [.int (Zi 1), .ref 83])) (fun _ => rfl) ?_
                        refine Z_go (f2 := (148, [(2, .int (Zi 0)), (1, .int (Zi (D_see s a))), (0, .ref 83)], [.ref 83, .int (Zi 1), .ref 83])) (fun _ => rfl) ?_
                        refine R_gi rfl hs rfl ?_
                        show B_R _ _ (151, [(2, .int (Zi 0)), (1, .int (Zi (D_see s a))), (0, .ref 83)], [.int (Zi (w2.1 15)), .int (Zi 1), .ref 83]) _ _ _
                        refine Z_go (f2 := (152, [(2, .int (Zi 0)), (1, .int (Zi (D_see s a))), (0, .ref 83)], [.int (Zi 1), .int (Zi (w2.1 15)), .int (Zi 1), .ref 83])) (fun _ => rfl) ?_
                        refine Z_isub rfl ?_
                        refine Z_go (f2 := (154, [(2, .int (Zi 0)), (1, .int (Zi (D_see s a))), (0, .ref 83)], [.int (Zi 0), .int (Zi (w2.1 15 - 1)), .int (Zi 1), .ref 83])) (fun _ => rfl) ?_
                        refine R_call (As := [.int (Zi 1), .int (Zi (w2.1 15 - 1)), .int (Zi 0)]) (rest := []) rfl (by decide) rfl rfl rfl rfl (by decide +kernel) (Nat.le_of_ble_eq_true rfl) hs (R_emit2 _ w2 (a + 1) f p (by first | assumption | exact hs.zF _ | exact hs.zA _ _ | exact zS _ | exact ⟨by omega, by omega⟩ | omega) (by first | assumption | exact hs.zF _ | exact hs.zA _ _ | exact zS _ | exact ⟨by omega, by omega⟩ | omega) (by first | assumption | exact hs.zF _ | exact hs.zA _ _ | exact zS _ | exact ⟨by omega, by omega⟩ | omega) (by omega) (by omega)) (fun x h s2 hs q => ?_)
                        obtain ⟨rfl, q1⟩ := q
                        rw [q1] at hs
                        show B_R _ _ (157, [(2, .int (Zi 0)), (1, .int (Zi (D_see s a))), (0, .ref 83)], []) _ _ _
                        refine Z_go (f2 := (158, [(2, .int (Zi 0)), (1, .int (Zi (D_see s a))), (0, .ref 83)], [.int (Zi 1)])) (fun _ => rfl) ?_
                        refine Z_iret rfl rfl (by first | rfl | decide | exact narrow_b01 (by omega)) ⟨_, hs, ?_, rfl⟩
                        have e : D_esc (D_see s) a f p = (1, a + 1, f, p, .inr (fun x => x = D_see s a)) := by
                          unfold D_esc
                          try dsimp only
                          try unfold D_sgn D_let D_dig at hv
                          repeat first
                            | rw [if_pos (by first | omega | (unfold P_nm; omega) | (unfold D_sgn D_let D_dig; omega) | (unfold D_pln; omega))]
                            | rw [if_neg (by first | omega | (unfold P_nm; omega) | (unfold D_sgn D_let D_dig; omega) | (unfold D_pln; omega))]
                          try (refine Prod.ext ?_ (Prod.ext ?_ (Prod.ext ?_ (Prod.ext ?_ ?_))) <;> first | rfl | (dsimp only; omega))
                        rw [e]
                        refine ⟨rfl, _, rfl, .inr ⟨rfl, ?_⟩⟩
                        rw [show w2.1 15 - 1 = s.1 15 by omega]
                        exact (R_nw_ss (q2.weak (fun y y0 y1 => ⟨fun h => h.elim (fun h => ((hnw y y0 y1).mp h).elim) id, .inr⟩))).trans (R_ap_em w2 1 (s.1 15) 0) m0
                      · refine Z_go (f2 := (138, [(2, .int (Zi 0)), (1, .int (Zi (D_see s a))), (0, .ref 83)], [.int (Zi 9), .ref 83])) (fun _ => rfl) ?_
                        refine Z_go (f2 := (142, [(2, .int (Zi 0)), (1, .int (Zi (D_see s a))), (0, .ref 83)], [.int (Zi 9), .ref 83])) (fun _ => rfl) ?_
                        refine R_call (As := [.int (Zi 9)]) (rest := []) rfl (by decide) rfl rfl rfl rfl (by decide +kernel) (Nat.le_of_ble_eq_true rfl) hs (R_put2 _ (R_nw s) (a + 1) f p (by first | assumption | exact hs.zF _ | exact hs.zA _ _ | exact zS _ | exact ⟨by omega, by omega⟩ | omega) (by omega) (by omega) (by omega) (by omega)) (fun x h s2 hs q => ?_)
                        obtain ⟨rfl, w2, q1, q2⟩ := q
                        rw [q1] at hs
                        have ev15 : w2.1 15 = (R_nw s).1 15 := q2.f15 15
                        have ev13 : w2.1 13 = (R_nw s).1 13 := q2.f15 13
                        show B_R _ _ (145, [(2, .int (Zi 0)), (1, .int (Zi (D_see s a))), (0, .ref 83)], []) _ _ _
                        refine Z_go (f2 := (146, [(2, .int (Zi 0)), (1, .int (Zi (D_see s a))), (0, .ref 83)], [.ref 83])) (fun _ => rfl) ?_
                        refine Z_go (f2 := (147, [(2, .int (Zi 0)), (1, .int (Zi (D_see s a))), (0, .ref 83)], [.int (Zi 1), .ref 83])) (fun _ => rfl) ?_
                        refine Z_go (f2 := (148, [(2, .int (Zi 0)), (1, .int (Zi (D_see s a))), (0, .ref 83)], [.ref 83, .int (Zi 1), .ref 83])) (fun _ => rfl) ?_
                        refine R_gi rfl hs rfl ?_
                        show B_R _ _ (151, [(2, .int (Zi 0)), (1, .int (Zi (D_see s a))), (0, .ref 83)], [.int (Zi (w2.1 15)), .int (Zi 1), .ref 83]) _ _ _
                        refine Z_go (f2 := (152, [(2, .int (Zi 0)), (1, .int (Zi (D_see s a))), (0, .ref 83)], [.int (Zi 1), .int (Zi (w2.1 15)), .int (Zi 1), .ref 83])) (fun _ => rfl) ?_
                        refine Z_isub rfl ?_
                        refine Z_go (f2 := (154, [(2, .int (Zi 0)), (1, .int (Zi (D_see s a))), (0, .ref 83)], [.int (Zi 0), .int (Zi (w2.1 15 - 1)), .int (Zi 1), .ref 83])) (fun _ => rfl) ?_
                        refine R_call (As := [.int (Zi 1), .int (Zi (w2.1 15 - 1)), .int (Zi 0)]) (rest := []) rfl (by decide) rfl rfl rfl rfl (by decide +kernel) (Nat.le_of_ble_eq_true rfl) hs (R_emit2 _ w2 (a + 1) f p (by first | assumption | exact hs.zF _ | exact hs.zA _ _ | exact zS _ | exact ⟨by omega, by omega⟩ | omega) (by first | assumption | exact hs.zF _ | exact hs.zA _ _ | exact zS _ | exact ⟨by omega, by omega⟩ | omega) (by first | assumption | exact hs.zF _ | exact hs.zA _ _ | exact zS _ | exact ⟨by omega, by omega⟩ | omega) (by omega) (by omega)) (fun x h s2 hs q => ?_)
                        obtain ⟨rfl, q1⟩ := q
                        rw [q1] at hs
                        show B_R _ _ (157, [(2, .int (Zi 0)), (1, .int (Zi (D_see s a))), (0, .ref 83)], []) _ _ _
                        refine Z_go (f2 := (158, [(2, .int (Zi 0)), (1, .int (Zi (D_see s a))), (0, .ref 83)], [.int (Zi 1)])) (fun _ => rfl) ?_
                        refine Z_iret rfl rfl (by first | rfl | decide | exact narrow_b01 (by omega)) ⟨_, hs, ?_, rfl⟩
                        have e : D_esc (D_see s) a f p = (1, a + 1, f, p, .inr (fun x => x = 9)) := by
                          unfold D_esc
                          try dsimp only
                          try unfold D_sgn D_let D_dig at hv
                          repeat first
                            | rw [if_pos (by first | omega | (unfold P_nm; omega) | (unfold D_sgn D_let D_dig; omega) | (unfold D_pln; omega))]
                            | rw [if_neg (by first | omega | (unfold P_nm; omega) | (unfold D_sgn D_let D_dig; omega) | (unfold D_pln; omega))]
                          try (refine Prod.ext ?_ (Prod.ext ?_ (Prod.ext ?_ (Prod.ext ?_ ?_))) <;> first | rfl | (dsimp only; omega))
                        rw [e]
                        refine ⟨rfl, _, rfl, .inr ⟨rfl, ?_⟩⟩
                        rw [show w2.1 15 - 1 = s.1 15 by omega]
                        exact (R_nw_ss (q2.weak (fun y y0 y1 => ⟨fun h => h.elim (fun h => ((hnw y y0 y1).mp h).elim) id, .inr⟩))).trans (R_ap_em w2 1 (s.1 15) 0) m0
                    · refine Z_go (f2 := (127, [(2, .int (Zi 0)), (1, .int (Zi (D_see s a))), (0, .ref 83)], [.int (Zi 10), .ref 83])) (fun _ => rfl) ?_
                      refine Z_go (f2 := (142, [(2, .int (Zi 0)), (1, .int (Zi (D_see s a))), (0, .ref 83)], [.int (Zi 10), .ref 83])) (fun _ => rfl) ?_
                      refine R_call (As := [.int (Zi 10)]) (rest := []) rfl (by decide) rfl rfl rfl rfl (by decide +kernel) (Nat.le_of_ble_eq_true rfl) hs (R_put2 _ (R_nw s) (a + 1) f p (by first | assumption | exact hs.zF _ | exact hs.zA _ _ | exact zS _ | exact ⟨by omega, by omega⟩ | omega) (by omega) (by omega) (by omega) (by omega)) (fun x h s2 hs q => ?_)
                      obtain ⟨rfl, w2, q1, q2⟩ := q
                      rw [q1] at hs
                      have ev15 : w2.1 15 = (R_nw s).1 15 := q2.f15 15
                      have ev13 : w2.1 13 = (R_nw s).1 13 := q2.f15 13
                      show B_R _ _ (145, [(2, .int (Zi 0)), (1, .int (Zi (D_see s a))), (0, .ref 83)], []) _ _ _
                      refine Z_go (f2 := (146, [(2, .int (Zi 0)), (1, .int (Zi (D_see s a))), (0, .ref 83)], [.ref 83])) (fun _ => rfl) ?_
                      refine Z_go (f2 := (147, [(2, .int (Zi 0)), (1, .int (Zi (D_see s a))), (0, .ref 83)], [.int (Zi 1), .ref 83])) (fun _ => rfl) ?_
                      refine Z_go (f2 := (148, [(2, .int (Zi 0)), (1, .int (Zi (D_see s a))), (0, .ref 83)], [.ref 83, .int (Zi 1), .ref 83])) (fun _ => rfl) ?_
                      refine R_gi rfl hs rfl ?_
                      show B_R _ _ (151, [(2, .int (Zi 0)), (1, .int (Zi (D_see s a))), (0, .ref 83)], [.int (Zi (w2.1 15)), .int (Zi 1), .ref 83]) _ _ _
                      refine Z_go (f2 := (152, [(2, .int (Zi 0)), (1, .int (Zi (D_see s a))), (0, .ref 83)], [.int (Zi 1), .int (Zi (w2.1 15)), .int (Zi 1), .ref 83])) (fun _ => rfl) ?_
                      refine Z_isub rfl ?_
                      refine Z_go (f2 := (154, [(2, .int (Zi 0)), (1, .int (Zi (D_see s a))), (0, .ref 83)], [.int (Zi 0), .int (Zi (w2.1 15 - 1)), .int (Zi 1), .ref 83])) (fun _ => rfl) ?_
                      refine R_call (As := [.int (Zi 1), .int (Zi (w2.1 15 - 1)), .int (Zi 0)]) (rest := []) rfl (by decide) rfl rfl rfl rfl (by decide +kernel) (Nat.le_of_ble_eq_true rfl) hs (R_emit2 _ w2 (a + 1) f p (by first | assumption | exact hs.zF _ | exact hs.zA _ _ | exact zS _ | exact ⟨by omega, by omega⟩ | omega) (by first | assumption | exact hs.zF _ | exact hs.zA _ _ | exact zS _ | exact ⟨by omega, by omega⟩ | omega) (by first | assumption | exact hs.zF _ | exact hs.zA _ _ | exact zS _ | exact ⟨by omega, by omega⟩ | omega) (by omega) (by omega)) (fun x h s2 hs q => ?_)
                      obtain ⟨rfl, q1⟩ := q
                      rw [q1] at hs
                      show B_R _ _ (157, [(2, .int (Zi 0)), (1, .int (Zi (D_see s a))), (0, .ref 83)], []) _ _ _
                      refine Z_go (f2 := (158, [(2, .int (Zi 0)), (1, .int (Zi (D_see s a))), (0, .ref 83)], [.int (Zi 1)])) (fun _ => rfl) ?_
                      refine Z_iret rfl rfl (by first | rfl | decide | exact narrow_b01 (by omega)) ⟨_, hs, ?_, rfl⟩
                      have e : D_esc (D_see s) a f p = (1, a + 1, f, p, .inr (fun x => x = 10)) := by
                        unfold D_esc
                        try dsimp only
                        try unfold D_sgn D_let D_dig at hv
                        repeat first
                          | rw [if_pos (by first | omega | (unfold P_nm; omega) | (unfold D_sgn D_let D_dig; omega) | (unfold D_pln; omega))]
                          | rw [if_neg (by first | omega | (unfold P_nm; omega) | (unfold D_sgn D_let D_dig; omega) | (unfold D_pln; omega))]
                        try (refine Prod.ext ?_ (Prod.ext ?_ (Prod.ext ?_ (Prod.ext ?_ ?_))) <;> first | rfl | (dsimp only; omega))
                      rw [e]
                      refine ⟨rfl, _, rfl, .inr ⟨rfl, ?_⟩⟩
                      rw [show w2.1 15 - 1 = s.1 15 by omega]
                      exact (R_nw_ss (q2.weak (fun y y0 y1 => ⟨fun h => h.elim (fun h => ((hnw y y0 y1).mp h).elim) id, .inr⟩))).trans (R_ap_em w2 1 (s.1 15) 0) m0
                  · exfalso; omega
                · refine Z_go (f2 := (82, [(2, .int (Zi 0)), (1, .int (Zi (D_see s a))), (0, .ref 83)], [.ref 83])) (fun _ => rfl) ?_
                  refine Z_go (f2 := (83, [(2, .int (Zi 0)), (1, .int (Zi (D_see s a))), (0, .ref 83)], [.int (Zi 1), .ref 83])) (fun _ => rfl) ?_
                  refine Z_go (f2 := (84, [(2, .int (Zi 0)), (1, .int (Zi (D_see s a))), (0, .ref 83)], [.ref 83, .int (Zi 1), .ref 83])) (fun _ => rfl) ?_
                  refine R_gi rfl hs rfl ?_
                  show B_R _ _ (87, [(2, .int (Zi 0)), (1, .int (Zi (D_see s a))), (0, .ref 83)], [.int (Zi a), .int (Zi 1), .ref 83]) _ _ _
                  refine R_call (As := [.int (Zi 1), .int (Zi a)]) (rest := []) rfl (by decide) rfl rfl rfl rfl (by decide +kernel) (Nat.le_of_ble_eq_true rfl) hs (R_fail2 _ s a f p (by first | assumption | exact hs.zF _ | exact hs.zA _ _ | exact zS _ | exact ⟨by omega, by omega⟩ | omega) (by first | assumption | exact hs.zF _ | exact hs.zA _ _ | exact zS _ | exact ⟨by omega, by omega⟩ | omega)) (fun x h s2 hs q => ?_)
                  obtain ⟨rfl, q1⟩ := q
                  rw [q1] at hs
                  show B_R _ _ (90, [(2, .int (Zi 0)), (1, .int (Zi (D_see s a))), (0, .ref 83)], []) _ _ _
                  refine Z_go (f2 := (91, [(2, .int (Zi 0)), (1, .int (Zi (D_see s a))), (0, .ref 83)], [.int (Zi 0)])) (fun _ => rfl) ?_
                  refine Z_iret rfl rfl (by first | rfl | decide | exact narrow_b01 (by omega)) ⟨_, hs, ?_, rfl⟩
                  have e : D_esc (D_see s) a f p = (0, a, (D_ff f p 1 a).1, (D_ff f p 1 a).2, .inl 0) := by
                    unfold D_esc
                    try dsimp only
                    try unfold D_sgn D_let D_dig at hv
                    repeat first
                      | rw [if_pos (by first | omega | (unfold P_nm; omega) | (unfold D_sgn D_let D_dig; omega) | (unfold D_pln; omega))]
                      | rw [if_neg (by first | omega | (unfold P_nm; omega) | (unfold D_sgn D_let D_dig; omega) | (unfold D_pln; omega))]
                    try (refine Prod.ext ?_ (Prod.ext ?_ (Prod.ext ?_ (Prod.ext ?_ ?_))) <;> first | rfl | (dsimp only; omega))
                  rw [e]
                  exact ⟨rfl, _, rfl, .inl ⟨rfl, [], Nat.zero_le _, R_ap_0 s⟩⟩
        · refine Z_go (f2 := (53, [(1, .int (Zi (D_see s a))), (0, .ref 83)], [.int (Zi 1)])) (fun _ => rfl) ?_
          refine Z_go (f2 := (57, [(1, .int (Zi (D_see s a))), (0, .ref 83)], [.int (Zi 1)])) (fun _ => rfl) ?_
          refine Z_go (f2 := (58, [(2, .int (Zi 1)), (1, .int (Zi (D_see s a))), (0, .ref 83)], [])) (fun _ => rfl) ?_
          refine Z_go (f2 := (59, [(2, .int (Zi 1)), (1, .int (Zi (D_see s a))), (0, .ref 83)], [.int (Zi 1)])) (fun _ => rfl) ?_
          refine Z_ine rfl rfl (by first | exact hs.zF _ | exact Zor_r _ _ | exact hs.zA _ _ | assumption | exact zS _ | exact Zr_not (hs.zA _ _) | exact ⟨by omega, by omega⟩) (fun c22 => ?_) (fun c22 => ?_)
          · refine Z_go (f2 := (93, [(2, .int (Zi 1)), (1, .int (Zi (D_see s a))), (0, .ref 83)], [.ref 83])) (fun _ => rfl) ?_
            refine Z_go (f2 := (94, [(2, .int (Zi 1)), (1, .int (Zi (D_see s a))), (0, .ref 83)], [.ref 83, .ref 83])) (fun _ => rfl) ?_
            refine R_gi rfl hs rfl ?_
            show B_R _ _ (97, [(2, .int (Zi 1)), (1, .int (Zi (D_see s a))), (0, .ref 83)], [.int (Zi a), .ref 83]) _ _ _
            refine Z_go (f2 := (98, [(2, .int (Zi 1)), (1, .int (Zi (D_see s a))), (0, .ref 83)], [.int (Zi 1), .int (Zi a), .ref 83])) (fun _ => rfl) ?_
            refine Z_iadd rfl ?_
            refine R_pf rfl hs rfl (by first | exact hs.zF _ | exact Zor_r _ _ | exact hs.zA _ _ | assumption | exact zS _ | exact Zr_not (hs.zA _ _) | exact ⟨by omega, by omega⟩) ⟨rfl, rfl, rfl⟩ (fun h hs => ?_)
            rw [R_p3_16] at hs
            refine Z_go (f2 := (103, [(2, .int (Zi 1)), (1, .int (Zi (D_see s a))), (0, .ref 83)], [.ref 83])) (fun _ => rfl) ?_
            refine R_call (As := []) (rest := []) rfl (by decide) rfl rfl rfl rfl (by decide +kernel) (Nat.le_of_ble_eq_true rfl) hs (R_newSet2 _ s (a + 1) f p (by omega) (by omega)) (fun x h s2 hs q => ?_)
            obtain ⟨rfl, q1⟩ := q
            rw [q1] at hs
            show B_R _ _ (106, [(2, .int (Zi 1)), (1, .int (Zi (D_see s a))), (0, .ref 83)], []) _ _ _
            refine Z_go (f2 := (107, [(2, .int (Zi 1)), (1, .int (Zi (D_see s a))), (0, .ref 83)], [.int (Zi 1)])) (fun _ => rfl) ?_
            refine Z_ieq rfl rfl (by first | exact hs.zF _ | exact Zor_r _ _ | exact hs.zA _ _ | assumption | exact zS _ | exact Zr_not (hs.zA _ _) | exact ⟨by omega, by omega⟩) (fun c23 => ?_) (fun c23 => ?_)
            · exfalso; omega
            · refine Z_go (f2 := (111, [(2, .int (Zi 1)), (1, .int (Zi (D_see s a))), (0, .ref 83)], [.ref 83])) (fun _ => rfl) ?_
              refine Z_go (f2 := (112, [(2, .int (Zi 1)), (1, .int (Zi (D_see s a))), (0, .ref 83)], [.int (Zi (D_see s a)), .ref 83])) (fun _ => rfl) ?_
              refine R_call (As := [.int (Zi (D_see s a))]) (rest := []) rfl (by decide) rfl rfl rfl rfl (by decide +kernel) (Nat.le_of_ble_eq_true rfl) hs (R_putKind2 _ (R_nw s) (a + 1) f p (by first | assumption | exact hs.zF _ | exact hs.zA _ _ | exact zS _ | exact ⟨by omega, by omega⟩ | omega) (by omega) (by omega)) (fun x h s2 hs q => ?_)
              obtain ⟨rfl, w2, q1, q2⟩ := q
              rw [q1] at hs
              have ev15 : w2.1 15 = (R_nw s).1 15 := q2.f15 15
              have ev13 : w2.1 13 = (R_nw s).1 13 := q2.f15 13
              show B_R _ _ (115, [(2, .int (Zi 1)), (1, .int (Zi (D_see s a))), (0, .ref 83)], []) _ _ _
              refine Z_go (f2 := (145, [(2, .int (Zi 1)), (1, .int (Zi (D_see s a))), (0, .ref 83)], [])) (fun _ => rfl) ?_
              refine Z_go (f2 := (146, [(2, .int (Zi 1)), (1, .int (Zi (D_see s a))), (0, .ref 83)], [.ref 83])) (fun _ => rfl) ?_
              refine Z_go (f2 := (147, [(2, .int (Zi 1)), (1, .int (Zi (D_see s a))), (0, .ref 83)], [.int (Zi 1), .ref 83])) (fun _ => rfl) ?_
              refine Z_go (f2 := (148, [(2, .int (Zi 1)), (1, .int (Zi (D_see s a))), (0, .ref 83)], [.ref 83, .int (Zi 1), .ref 83])) (fun _ => rfl) ?_
              refine R_gi rfl hs rfl ?_
              show B_R _ _ (151, [(2, .int (Zi 1)), (1, .int (Zi (D_see s a))), (0, .ref 83)], [.int (Zi (w2.1 15)), .int (Zi 1), .ref 83]) _ _ _
              refine Z_go (f2 := (152, [(2, .int (Zi 1)), (1, .int (Zi (D_see s a))), (0, .ref 83)], [.int (Zi 1), .int (Zi (w2.1 15)), .int (Zi 1), .ref 83])) (fun _ => rfl) ?_
              refine Z_isub rfl ?_
              refine Z_go (f2 := (154, [(2, .int (Zi 1)), (1, .int (Zi (D_see s a))), (0, .ref 83)], [.int (Zi 0), .int (Zi (w2.1 15 - 1)), .int (Zi 1), .ref 83])) (fun _ => rfl) ?_
              refine R_call (As := [.int (Zi 1), .int (Zi (w2.1 15 - 1)), .int (Zi 0)]) (rest := []) rfl (by decide) rfl rfl rfl rfl (by decide +kernel) (Nat.le_of_ble_eq_true rfl) hs (R_emit2 _ w2 (a + 1) f p (by first | assumption | exact hs.zF _ | exact hs.zA _ _ | exact zS _ | exact ⟨by omega, by omega⟩ | omega) (by first | assumption | exact hs.zF _ | exact hs.zA _ _ | exact zS _ | exact ⟨by omega, by omega⟩ | omega) (by first | assumption | exact hs.zF _ | exact hs.zA _ _ | exact zS _ | exact ⟨by omega, by omega⟩ | omega) (by omega) (by omega)) (fun x h s2 hs q => ?_)
              obtain ⟨rfl, q1⟩ := q
              rw [q1] at hs
              show B_R _ _ (157, [(2, .int (Zi 1)), (1, .int (Zi (D_see s a))), (0, .ref 83)], []) _ _ _
              refine Z_go (f2 := (158, [(2, .int (Zi 1)), (1, .int (Zi (D_see s a))), (0, .ref 83)], [.int (Zi 1)])) (fun _ => rfl) ?_
              refine Z_iret rfl rfl (by first | rfl | decide | exact narrow_b01 (by omega)) ⟨_, hs, ?_, rfl⟩
              have e : D_esc (D_see s) a f p = (1, a + 1, f, p, .inr (D_kd (D_see s a))) := by
                unfold D_esc
                try dsimp only
                try unfold D_sgn D_let D_dig at hv
                repeat first
                  | rw [if_pos (by first | omega | (unfold P_nm; omega) | (unfold D_sgn D_let D_dig; omega) | (unfold D_pln; omega))]
                  | rw [if_neg (by first | omega | (unfold P_nm; omega) | (unfold D_sgn D_let D_dig; omega) | (unfold D_pln; omega))]
                try (refine Prod.ext ?_ (Prod.ext ?_ (Prod.ext ?_ (Prod.ext ?_ ?_))) <;> first | rfl | (dsimp only; omega))
              rw [e]
              refine ⟨rfl, _, rfl, .inr ⟨rfl, ?_⟩⟩
              rw [show w2.1 15 - 1 = s.1 15 by omega]
              exact (R_nw_ss (q2.weak (fun y y0 y1 => ⟨fun h => h.elim (fun h => ((hnw y y0 y1).mp h).elim) id, .inr⟩))).trans (R_ap_em w2 1 (s.1 15) 0) m0
          · exfalso; omega
  · refine Z_go (f2 := (16, [(1, .int (Zi (D_see s a))), (0, .ref 83)], [.ref 83])) (fun _ => rfl) ?_
    refine Z_go (f2 := (17, [(1, .int (Zi (D_see s a))), (0, .ref 83)], [.ref 83, .ref 83])) (fun _ => rfl) ?_
    refine R_gi rfl hs rfl ?_
    show B_R _ _ (20, [(1, .int (Zi (D_see s a))), (0, .ref 83)], [.int (Zi a), .ref 83]) _ _ _
    refine Z_go (f2 := (21, [(1, .int (Zi (D_see s a))), (0, .ref 83)], [.int (Zi 1), .int (Zi a), .ref 83])) (fun _ => rfl) ?_
    refine Z_iadd rfl ?_
    refine R_pf rfl hs rfl (by first | exact hs.zF _ | exact Zor_r _ _ | exact hs.zA _ _ | assumption | exact zS _ | exact Zr_not (hs.zA _ _) | exact ⟨by omega, by omega⟩) ⟨rfl, rfl, rfl⟩ (fun h hs => ?_)
    rw [R_p3_16] at hs
    refine Z_go (f2 := (26, [(1, .int (Zi (D_see s a))), (0, .ref 83)], [.ref 83])) (fun _ => rfl) ?_
    refine Z_go (f2 := (27, [(1, .int (Zi (D_see s a))), (0, .ref 83)], [.int (Zi 4), .ref 83])) (fun _ => rfl) ?_
    refine Z_go (f2 := (28, [(1, .int (Zi (D_see s a))), (0, .ref 83)], [.int (Zi 0), .int (Zi 4), .ref 83])) (fun _ => rfl) ?_
    refine Z_go (f2 := (29, [(1, .int (Zi (D_see s a))), (0, .ref 83)], [.int (Zi 0), .int (Zi 0), .int (Zi 4), .ref 83])) (fun _ => rfl) ?_
    refine R_call (As := [.int (Zi 4), .int (Zi 0), .int (Zi 0)]) (rest := []) rfl (by decide) rfl rfl rfl rfl (by decide +kernel) (Nat.le_of_ble_eq_true rfl) hs (R_emit2 _ s (a + 1) f p (by first | assumption | exact hs.zF _ | exact hs.zA _ _ | exact zS _ | exact ⟨by omega, by omega⟩ | omega) (by first | assumption | exact hs.zF _ | exact hs.zA _ _ | exact zS _ | exact ⟨by omega, by omega⟩ | omega) (by first | assumption | exact hs.zF _ | exact hs.zA _ _ | exact zS _ | exact ⟨by omega, by omega⟩ | omega) (by omega) (by omega)) (fun x h s2 hs q => ?_)
    obtain ⟨rfl, q1⟩ := q
    rw [q1] at hs
    show B_R _ _ (32, [(1, .int (Zi (D_see s a))), (0, .ref 83)], []) _ _ _
    refine Z_go (f2 := (33, [(1, .int (Zi (D_see s a))), (0, .ref 83)], [.int (Zi 1)])) (fun _ => rfl) ?_
    refine Z_iret rfl rfl (by first | rfl | decide | exact narrow_b01 (by omega)) ⟨_, hs, ?_, rfl⟩
    have e : D_esc (D_see s) a f p = (1, a + 1, f, p, .inl 4) := by
      unfold D_esc
      try dsimp only
      try unfold D_sgn D_let D_dig at hv
      repeat first
        | rw [if_pos (by first | omega | (unfold P_nm; omega) | (unfold D_sgn D_let D_dig; omega) | (unfold D_pln; omega))]
        | rw [if_neg (by first | omega | (unfold P_nm; omega) | (unfold D_sgn D_let D_dig; omega) | (unfold D_pln; omega))]
      try (refine Prod.ext ?_ (Prod.ext ?_ (Prod.ext ?_ (Prod.ext ?_ ?_))) <;> first | rfl | (dsimp only; omega))
    rw [e]
    exact ⟨rfl, _, rfl, .inr ⟨rfl, R_ap_em s 4 0 0⟩⟩
