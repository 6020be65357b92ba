/-! the reference: the reading of a regex -/
theorem R_p3_18 (s : R_S) (a f p z : Int) : R_sF (R_p3 s a f p) 18 z = R_p3 s a z p := by
  have e : R_up (R_up (R_up (R_up s.1 16 a) 18 f) 19 p) 18 z = R_up (R_up (R_up s.1 16 a) 18 z) 19 p := by
    funext b
    unfold R_up
    by_cases c1 : b = 18
    · simp [c1]
    · simp [c1]
  exact congrArg (fun x => (x, s.2)) e
theorem R_p3_19 (s : R_S) (a f p z : Int) : R_sF (R_p3 s a f p) 19 z = R_p3 s a f z := by
  have e : R_up (R_up (R_up (R_up s.1 16 a) 18 f) 19 p) 19 z = R_up (R_up (R_up s.1 16 a) 18 f) 19 z := by
    funext b
    unfold R_up
    by_cases c1 : b = 19
    · simp [c1]
    · simp [c1]
  exact congrArg (fun x => (x, s.2)) e
theorem R_p3_sF {s : R_S} {a f p z : Int} {b : Nat} (h1 : b ≠ 16) (h2 : b ≠ 18) (h3 : b ≠ 19) : R_sF (R_p3 s a f p) b z = R_p3 (R_sF s b z) a f p := by
  have e : R_up (R_up (R_up (R_up s.1 16 a) 18 f) 19 p) b z = R_up (R_up (R_up (R_up s.1 b z) 16 a) 18 f) 19 p := by
    funext c
    unfold R_up
    by_cases c1 : c = b
    · subst c1; simp [h1, h2, h3]
    · simp [c1]
  exact congrArg (fun x => (x, s.2)) e
theorem P_step_done {S : Int → Int} {fold : Prop} {a : Int} {o : Option P_T} {c : P_T} {st : P_K} (h : P_step S fold a ((o, c) :: st) = none) : st = [] := by
  cases st with
  | nil => rfl
  | cons q r =>
    exfalso
    unfold P_step at h
    dsimp only at h
    have ht : ∀ (t : P_T) (b : Int) (o : Option P_T) (c : P_T) (st : P_K), P_tail S t b o c st ≠ none := by
      intro t b o c st e
      unfold P_tail at e
      cases e2 : P_cnt S b using P_R_el with
      | bad k w => rw [e2] at e; cases e
      | ok x b => rw [e2] at e; cases e
    split at h
    · cases h
    · split at h
      · cases h
      · split at h
        · split at h <;> cases h
        · split at h
          · exact ht _ _ _ _ _ h
          · cases e : P_atom S fold a using P_R_el with
            | bad k w => rw [e] at h; cases h
            | ok A b => rw [e] at h; exact ht _ _ _ _ _ h
def P_reads (S : Int → Int) (fold : Prop) (n : Int) : P_R P_T := if 80 < n then .inl (3, 80) else P_run S fold 82 0 [(none, T_emp)]
/-- how the reading ends -/
def R_rde (R : P_R P_T) (w : R_S) (F P : Int) : Prop := match R with
  | .inl (k, wh) => F = k ∧ P = wh ∧ k ≠ 0
  | .inr (t, _) => F = 0 ∧ (∃ o c, R_cf w [(o, c)] ∧ t = P_orj o c) ∧ 0 ≤ w.1 13 ∧ w.1 13 < 399
theorem R_reads_lp {d : Nat} {h0 : E_H} {s : R_S} {sl : Nat} {Φ : E_R → Prop} {R : P_R P_T} (t1 : s.1 1 ≤ 80) (tb : ∀ j, 0 ≤ s.2.1 84 j ∧ s.2.1 84 j < 256) (kont : ∀ (w : R_S) (h : E_H) (A F P : Int), R_is h0 h (R_p3 w A F P) → R_fr [13, 15, 22] [90, 91, 92, 93, 94] s w → R_rde R w F P → B_R (d + 7) E_m203 (75, [(0, .ref 83)], []) h sl Φ) : ∀ (t : Nat) (A F P : Int) (w : R_S) (h : E_H), s.1 1 - A < t → R_is h0 h (R_p3 w A F P) → R_fr [13, 15, 22] [90, 91, 92, 93, 94] s w → 0 ≤ A → A ≤ s.1 1 → R_nb w A → (F = 0 ∧ (∃ o c st, R_cf w ((o, c) :: st) ∧ P_run (D_see s) (s.1 17 ≠ 0) t A ((o, c) :: st) = R) ∨ F ≠ 0 ∧ P < A ∧ R = .inl (F, P)) → B_R (d + 7) E_m203 (63, [(1, .int (Zi 1)), (0, .ref 83)], []) h sl Φ := by
  intro t
  induction t with
  | zero => intro A F P w h ht hs hw a0 a1 hnb hR; omega
  | succ t ih =>
    intro A F P w h ht hs hw a0 a1 hnb hR
    have es : D_see w = D_see s := R_fr_see hw
    have ew1 : w.1 1 = s.1 1 := hw.1 1 (by decide)
    have ew17 : w.1 17 = s.1 17 := hw.1 17 (by decide)
    have tbw : ∀ j, 0 ≤ w.2.1 84 j ∧ w.2.1 84 j < 256 := fun j => by rw [hw.2.1 84 (by decide)]; exact tb j
    refine Z_go (f2 := (64, [(1, .int (Zi 1)), (0, .ref 83)], [.int (Zi 1)])) (fun _ => rfl) ?_
    refine Z_ieq rfl rfl (by first | exact hs.zF _ | exact Zor_r _ _ | exact hs.zA _ _ | assumption | exact zS _ | exact Zr_not (hs.zA _ _) | exact ⟨by omega, by omega⟩) (fun c1 => ?_) (fun c1 => ?_)
    · exfalso; omega
    · refine Z_go (f2 := (68, [(1, .int (Zi 1)), (0, .ref 83)], [.ref 83])) (fun _ => rfl) ?_
      refine R_call (As := []) (rest := []) rfl (by decide) rfl rfl rfl rfl (by decide +kernel) (Nat.le_of_ble_eq_true rfl) hs (R_readsOne _ w A F P (by omega) (by omega) (by omega) tbw hnb) (fun x h s2 hs q => ?_)
      obtain ⟨v, A2, F2, P2, w2, rfl, q1, q2, q3, q4, q5, q6, q7, q8⟩ := q
      rw [q1] at hs
      show B_R _ _ (71, [(1, .int (Zi 1)), (0, .ref 83)], [.int (Zi v)]) _ _ _
      refine Z_go (f2 := (72, [(1, .int (Zi v)), (0, .ref 83)], [])) (fun _ => rfl) ?_
      rcases q2 with rfl | rfl
      · refine Z_go (f2 := (63, [(1, .int (Zi 0)), (0, .ref 83)], [])) (fun _ => rfl) ?_
        refine Z_go (f2 := (64, [(1, .int (Zi 0)), (0, .ref 83)], [.int (Zi 0)])) (fun _ => rfl) ?_
        refine Z_ieq rfl rfl ⟨by omega, by omega⟩ (fun c2 => ?_) (fun c2 => absurd rfl c2)
        show B_R _ _ (75, [(1, .int (Zi 0)), (0, .ref 83)], []) _ _ _
        refine B_loc (K := [(0, .ref 83)]) (N_all_sub ⟨rfl, trivial⟩) (show ([0] : List Nat).Nodup by decide) ?_
        refine kont w2 h A2 F2 P2 hs (hw.tr q3) ?_
        rcases hR with ⟨f0, o, c, st, hc, hR⟩ | ⟨f0, hp, hR⟩
        · have q7 := q7 f0 o c st hc
          rw [es, ew17] at q7
          unfold P_run at hR
          cases e : P_step (D_see s) (s.1 17 ≠ 0) A ((o, c) :: st) using P_M_el with
          | done =>
            rw [e] at q7 hR
            obtain ⟨y1, y2, y3, y4⟩ := (q7 : _ ∧ _ ∧ _ ∧ _)
            have := P_step_done e
            subst this
            subst y4
            rw [← hR]
            exact ⟨y2, ⟨o, c, hc, rfl⟩, hnb.1, by have := hnb.2.1; omega⟩
          | bad k wh =>
            rw [e] at q7 hR
            obtain ⟨y1, y2, y3, y4⟩ := (q7 : _ ∧ _ ∧ _ ∧ _)
            rw [← hR]
            exact ⟨y1, y2, y3⟩
          | go b st2 =>
            rw [e] at q7
            obtain ⟨y1, y2, y3, y4⟩ := (q7 : _ ∧ _ ∧ _ ∧ _)
            omega
        · obtain ⟨y1, y2⟩ := q8 f0 hp
          rw [hR]
          exact ⟨y1, y2, f0⟩
      · obtain ⟨q61, q62⟩ := q6 rfl
        refine Z_go (f2 := (63, [(1, .int (Zi 1)), (0, .ref 83)], [])) (fun _ => rfl) ?_
        refine ih A2 F2 P2 w2 h (by omega) hs (hw.tr q3) (by omega) (by omega) q62 ?_
        rcases hR with ⟨f0, o, c, st, hc, hR⟩ | ⟨f0, hp, hR⟩
        · have q7 := q7 f0 o c st hc
          rw [es, ew17] at q7
          unfold P_run at hR
          cases e : P_step (D_see s) (s.1 17 ≠ 0) A ((o, c) :: st) using P_M_el with
          | done =>
            rw [e] at q7
            obtain ⟨y1, y2, y3, y4⟩ := (q7 : _ ∧ _ ∧ _ ∧ _)
            omega
          | bad k wh =>
            rw [e] at q7 hR
            obtain ⟨y1, y2, y3, y4⟩ := (q7 : _ ∧ _ ∧ _ ∧ _)
            refine .inr ⟨by omega, by omega, ?_⟩
            rw [← hR, y1, y2]
          | go b st2 =>
            rw [e] at q7 hR
            obtain ⟨y1, y2, y3, y4⟩ := (q7 : _ ∧ _ ∧ _ ∧ _)
            refine .inl ⟨y2, ?_⟩
            cases st2 with
            | nil =>
              have := y4.op
              have := q62.2.2.2.2.1
              simp only [List.length_nil] at *
              omega
            | cons q r => exact ⟨q.1, q.2, r, y4, by rw [y3]; exact hR⟩
        · obtain ⟨y1, y2⟩ := q8 f0 hp
          exact .inr ⟨by omega, by omega, by rw [hR, y1, y2]⟩
/-- what the reading leaves -/
def R_rdp (s : R_S) (s2 : R_S) : Prop := ∃ (w : R_S) (A F P : Int), s2 = R_p3 w A F P ∧ R_fr [13, 15, 22] [90, 91, 92, 93, 94] s w ∧ (match P_reads (D_see s) (s.1 17 ≠ 0) (s.1 1) with
  | .inl (k, wh) => F = k ∧ P = wh ∧ k ≠ 0
  | .inr (t, _) => F = 0 ∧ R_tl w t)
theorem R_rd_w0 (s : R_S) : R_fr [13, 15, 22] [90, 91, 92, 93, 94] s (R_sA (R_sF (R_sF (R_sF s 13 0) 15 0) 22 0) 94 0 0) ∧ R_cf (R_em (R_sA (R_sF (R_sF (R_sF s 13 0) 15 0) 22 0) 94 0 0) 5 0 0) [(none, T_emp)] ∧ R_nb (R_em (R_sA (R_sF (R_sF (R_sF s 13 0) 15 0) 22 0) 94 0 0) 5 0 0) 0 := by
  have fr : R_fr [13, 15, 22] [90, 91, 92, 93, 94] s (R_sA (R_sF (R_sF (R_sF s 13 0) 15 0) 22 0) 94 0 0) := by
    refine ⟨fun b hb => ?_, fun q hq j => ?_, rfl⟩
    · show (R_sF (R_sF (R_sF s 13 0) 15 0) 22 0).1 b = _
      rw [R_sF_n _ _ (fun e => hb (by rw [e]; decide)), R_sF_n _ _ (fun e => hb (by rw [e]; decide)), R_sF_n _ _ (fun e => hb (by rw [e]; decide))]
    · rw [R_sA_n _ _ _ _ (fun e => hq (by rw [e]; decide))]
      rfl
  have tl : R_tl (R_sA (R_sF (R_sF (R_sF s 13 0) 15 0) 22 0) 94 0 0) [] := ⟨rfl, rfl, fun i h => absurd h (Nat.not_lt_zero _), fun i h => absurd h (Nat.not_lt_zero _)⟩
  refine ⟨fr, ⟨tl.emp, ⟨?_, trivial⟩, rfl⟩, ?_⟩
  · rw [R_em_94 _ _ _ _ _ (by decide) (by decide) (by decide)]
    exact R_sA_s _ _ _ _
  · unfold R_nb
    rw [R_em_13, R_em_f _ _ _ _ (by decide), R_em_f _ _ _ _ (by decide)]
    show 0 ≤ (0 : Int) + 1 ∧ (0 : Int) + 1 ≤ 3 * 0 + 1 ∧ (0 : Int) ≤ 0 ∧ (0 : Int) ≤ 0 ∧ (0 : Int) ≤ 0 ∧ (0 : Int) ≤ 10
    omega
theorem R_reads (d : Nat) (s : R_S) (t0 : 0 ≤ s.1 1) (t1 : s.1 1 ≤ 1000) (tb : ∀ j, 0 ≤ s.2.1 84 j ∧ s.2.1 84 j < 256) : R_ok (d + 8) 203 [] s (fun x s2 => x = none ∧ R_rdp s s2) := by
  refine R_enter (M := E_m203) rfl (Nat.le_of_ble_eq_true rfl) (fun h0 h hs => ?_)
  show B_R (d + 7) _ (0, [(0, .ref 83)], []) _ _ _
  rw [← R_p3_id s] at hs
  refine Z_go (f2 := (1, [(0, .ref 83)], [.ref 83])) (fun _ => rfl) ?_
  refine Z_go (f2 := (2, [(0, .ref 83)], [.int (Zi 0), .ref 83])) (fun _ => rfl) ?_
  refine R_pf rfl hs rfl (by first | exact hs.zF _ | exact Zor_r _ _ | exact hs.zA _ _ | assumption | exact zS _ | exact Zr_not (hs.zA _ _) | exact ⟨by omega, by omega⟩) ⟨rfl, rfl, rfl⟩ (fun h hs => ?_)
  rw [R_p3_16] at hs
  refine Z_go (f2 := (6, [(0, .ref 83)], [.ref 83])) (fun _ => rfl) ?_
  refine Z_go (f2 := (7, [(0, .ref 83)], [.int (Zi 0), .ref 83])) (fun _ => rfl) ?_
  refine R_pf rfl hs rfl (by first | exact hs.zF _ | exact Zor_r _ _ | exact hs.zA _ _ | assumption | exact zS _ | exact Zr_not (hs.zA _ _) | exact ⟨by omega, by omega⟩) ⟨rfl, rfl, rfl⟩ (fun h hs => ?_)
  rw [R_p3_18] at hs
  refine Z_go (f2 := (11, [(0, .ref 83)], [.ref 83])) (fun _ => rfl) ?_
  refine Z_go (f2 := (12, [(0, .ref 83)], [.int (Zi (-1)), .ref 83])) (fun _ => rfl) ?_
  refine R_pf rfl hs rfl (by first | exact hs.zF _ | exact Zor_r _ _ | exact hs.zA _ _ | assumption | exact zS _ | exact Zr_not (hs.zA _ _) | exact ⟨by omega, by omega⟩) ⟨rfl, rfl, rfl⟩ (fun h hs => ?_)
  rw [R_p3_19] at hs
  refine Z_go (f2 := (16, [(0, .ref 83)], [.ref 83])) (fun _ => rfl) ?_
  refine Z_go (f2 := (17, [(0, .ref 83)], [.int (Zi 0), .ref 83])) (fun _ => rfl) ?_
  refine R_pf rfl hs rfl (by first | exact hs.zF _ | exact Zor_r _ _ | exact hs.zA _ _ | assumption | exact zS _ | exact Zr_not (hs.zA _ _) | exact ⟨by omega, by omega⟩) ⟨rfl, rfl, rfl⟩ (fun h hs => ?_)
  rw [R_p3_sF (by decide) (by decide) (by decide)] at hs
  refine Z_go (f2 := (21, [(0, .ref 83)], [.ref 83])) (fun _ => rfl) ?_
  refine Z_go (f2 := (22, [(0, .ref 83)], [.int (Zi 0), .ref 83])) (fun _ => rfl) ?_
  refine R_pf rfl hs rfl (by first | exact hs.zF _ | exact Zor_r _ _ | exact hs.zA _ _ | assumption | exact zS _ | exact Zr_not (hs.zA _ _) | exact ⟨by omega, by omega⟩) ⟨rfl, rfl, rfl⟩ (fun h hs => ?_)
  rw [R_p3_sF (by decide) (by decide) (by decide)] at hs
  refine Z_go (f2 := (26, [(0, .ref 83)], [.ref 83])) (fun _ => rfl) ?_
  refine Z_go (f2 := (27, [(0, .ref 83)], [.int (Zi 0), .ref 83])) (fun _ => rfl) ?_
  refine R_pf rfl hs rfl (by first | exact hs.zF _ | exact Zor_r _ _ | exact hs.zA _ _ | assumption | exact zS _ | exact Zr_not (hs.zA _ _) | exact ⟨by omega, by omega⟩) ⟨rfl, rfl, rfl⟩ (fun h hs => ?_)
  rw [R_p3_22] at hs
  refine Z_go (f2 := (31, [(0, .ref 83)], [.ref 83])) (fun _ => rfl) ?_
  refine R_gr (q := 92) rfl hs rfl ?_
  show B_R _ _ (34, [(0, .ref 83)], [.ref 94]) _ _ _
  refine Z_go (f2 := (35, [(0, .ref 83)], [.int (Zi 0), .ref 94])) (fun _ => rfl) ?_
  refine Z_go (f2 := (36, [(0, .ref 83)], [.int (Zi 0), .int (Zi 0), .ref 94])) (fun _ => rfl) ?_
  refine R_bs (q := 10) rfl hs rfl rfl (by omega) (by omega) (by decide) (by first | exact .inl rfl | exact .inr rfl | assumption) (fun h hs => ?_)
  have hs : R_is h0 h (R_p3 (R_sA (R_sF (R_sF (R_sF s 13 0) 15 0) 22 0) 94 0 0) 0 0 (-1)) := hs
  refine Z_go (f2 := (38, [(0, .ref 83)], [.ref 83])) (fun _ => rfl) ?_
  refine R_gi rfl hs rfl ?_
  show B_R _ _ (41, [(0, .ref 83)], [.int (Zi (s.1 1))]) _ _ _
  refine Z_go (f2 := (43, [(0, .ref 83)], [.int (Zi 80), .int (Zi (s.1 1))])) (fun _ => rfl) ?_
  refine Z_cle rfl rfl (by first | exact hs.zF _ | exact Zor_r _ _ | exact hs.zA _ _ | assumption | exact zS _ | exact Zr_not (hs.zA _ _) | exact ⟨by omega, by omega⟩) (by first | exact hs.zF _ | exact Zor_r _ _ | exact hs.zA _ _ | assumption | exact zS _ | exact Zr_not (hs.zA _ _) | exact ⟨by omega, by omega⟩) (fun c1 => ?_) (fun c1 => ?_)
  · refine Z_go (f2 := (55, [(0, .ref 83)], [.ref 83])) (fun _ => rfl) ?_
    refine Z_go (f2 := (56, [(0, .ref 83)], [.int (Zi 5), .ref 83])) (fun _ => rfl) ?_
    refine Z_go (f2 := (57, [(0, .ref 83)], [.int (Zi 0), .int (Zi 5), .ref 83])) (fun _ => rfl) ?_
    refine Z_go (f2 := (58, [(0, .ref 83)], [.int (Zi 0), .int (Zi 0), .int (Zi 5), .ref 83])) (fun _ => rfl) ?_
    refine R_call (As := [.int (Zi 5), .int (Zi 0), .int (Zi 0)]) (rest := []) rfl (by decide) rfl rfl rfl rfl (by decide +kernel) (Nat.le_of_ble_eq_true rfl) hs (R_emit2 _ (R_sA (R_sF (R_sF (R_sF s 13 0) 15 0) 22 0) 94 0 0) 0 0 (-1) (by first | assumption | exact hs.zF _ | exact hs.zA _ _ | exact zS _ | exact ⟨by omega, by omega⟩ | omega) (by first | assumption | exact hs.zF _ | exact hs.zA _ _ | exact zS _ | exact ⟨by omega, by omega⟩ | omega) (by first | assumption | exact hs.zF _ | exact hs.zA _ _ | exact zS _ | exact ⟨by omega, by omega⟩ | omega) (show (0 : Int) ≤ 0 by omega) (show (0 : Int) < 400 by omega)) (fun x h s2 hs q => ?_)
    obtain ⟨rfl, q1⟩ := q
    rw [q1] at hs
    show B_R _ _ (61, [(0, .ref 83)], []) _ _ _
    refine Z_go (f2 := (62, [(0, .ref 83)], [.int (Zi 1)])) (fun _ => rfl) ?_
    refine Z_go (f2 := (63, [(1, .int (Zi 1)), (0, .ref 83)], [])) (fun _ => rfl) ?_
    obtain ⟨z1, z2, z3⟩ := R_rd_w0 s
    refine R_reads_lp (s := s) (R := P_run (D_see s) (s.1 17 ≠ 0) 82 0 [(none, T_emp)]) (by omega) tb (fun w h A F P hs hw hR => ?_) 82 0 0 (-1) _ _ (by omega) hs (z1.tr (R_ap_em _ 5 0 0).fr) (by omega) (by omega) z3 (.inl ⟨rfl, none, T_emp, [], z2, rfl⟩)
    have hP : P_reads (D_see s) (s.1 17 ≠ 0) (s.1 1) = P_run (D_see s) (s.1 17 ≠ 0) 82 0 [(none, T_emp)] := if_neg (by omega)
    have zF : Zr F := hs.zF 18
    have hb : F = 0 → 0 ≤ w.1 13 ∧ w.1 13 < 399 := by
      intro hF
      cases e : P_run (D_see s) (s.1 17 ≠ 0) 82 0 [(none, T_emp)] using P_R_el with
      | bad k wh =>
        rw [e] at hR
        obtain ⟨y1, y2, y3⟩ := (hR : _ ∧ _ ∧ _)
        omega
      | ok t b =>
        rw [e] at hR
        exact hR.2.2
    refine Z_go (f2 := (76, [(0, .ref 83)], [.ref 83])) (fun _ => rfl) ?_
    refine R_gi rfl hs rfl ?_
    show B_R _ _ (79, [(0, .ref 83)], [.int (Zi F)]) _ _ _
    refine Z_ieq rfl rfl (by first | exact hs.zF _ | exact Zor_r _ _ | exact hs.zA _ _ | assumption | exact zS _ | exact Zr_not (hs.zA _ _) | exact ⟨by omega, by omega⟩) (fun b1 => ?_) (fun b1 => ?_)
    · refine Z_go (f2 := (84, [(0, .ref 83)], [.ref 83])) (fun _ => rfl) ?_
      refine R_gr (q := 92) rfl hs rfl ?_
      show B_R _ _ (87, [(0, .ref 83)], [.ref 94]) _ _ _
      refine Z_go (f2 := (88, [(0, .ref 83)], [.int (Zi 0), .ref 94])) (fun _ => rfl) ?_
      refine R_ba (q := 10) rfl hs rfl rfl (by omega) (by omega) (by decide) ?_
      rw [show (R_p3 w A F P).2.1 94 0 = w.2.1 94 0 by first | rfl | simp [R_sA, R_sF, R_up2, R_fl, R_fL, R_sM, R_sL, R_p3, R_em]]; show B_R _ _ (89, [(0, .ref 83)], [.int (Zi (w.2.1 94 0))]) _ _ _
      refine Z_ieq rfl rfl (by first | exact hs.zF _ | exact Zor_r _ _ | exact hs.zA _ _ | assumption | exact zS _ | exact Zr_not (hs.zA _ _) | exact ⟨by omega, by omega⟩) (fun b2 => ?_) (fun b2 => ?_)
      · refine Z_ret rfl rfl ⟨_, hs, ?_, rfl⟩
        cases e : P_run (D_see s) (s.1 17 ≠ 0) 82 0 [(none, T_emp)] using P_R_el with
        | bad k wh =>
          rw [e] at hR
          obtain ⟨y1, y2, y3⟩ := (hR : _ ∧ _ ∧ _)
          omega
        | ok t b =>
          rw [e] at hR
          obtain ⟨y1, ⟨o, c, y2, y3⟩, y4⟩ := (hR : _ ∧ _ ∧ _)
          have e22 := y2.op
          simp only [List.length_cons, List.length_nil] at e22
          have e22 : w.1 22 = 0 := by omega
          rcases R_cf_orj y2 (fun _ => trivial) with ⟨z0, z1⟩ | ⟨z0, z1⟩
          · rw [e22] at z0
            exact ⟨rfl, w, A, F, P, rfl, hw, by rw [hP, e]; exact ⟨y1, by rw [y3]; exact z1⟩⟩
          · rw [e22] at z0
            omega
      · refine Z_go (f2 := (93, [(0, .ref 83)], [.ref 83])) (fun _ => rfl) ?_
        refine Z_go (f2 := (95, [(0, .ref 83)], [.int (Zi 7), .ref 83])) (fun _ => rfl) ?_
        refine Z_go (f2 := (96, [(0, .ref 83)], [.int (Zi 0), .int (Zi 7), .ref 83])) (fun _ => rfl) ?_
        refine Z_go (f2 := (97, [(0, .ref 83)], [.int (Zi 0), .int (Zi 0), .int (Zi 7), .ref 83])) (fun _ => rfl) ?_
        refine R_call (As := [.int (Zi 7), .int (Zi 0), .int (Zi 0)]) (rest := []) rfl (by decide) rfl rfl rfl rfl (by decide +kernel) (Nat.le_of_ble_eq_true rfl) hs (R_emit2 _ w A F P (by first | assumption | exact hs.zF _ | exact hs.zA _ _ | exact zS _ | exact ⟨by omega, by omega⟩ | omega) (by first | assumption | exact hs.zF _ | exact hs.zA _ _ | exact zS _ | exact ⟨by omega, by omega⟩ | omega) (by first | assumption | exact hs.zF _ | exact hs.zA _ _ | exact zS _ | exact ⟨by omega, by omega⟩ | omega) (by omega) (by omega)) (fun x h s2 hs q => ?_)
        obtain ⟨rfl, q1⟩ := q
        rw [q1] at hs
        show B_R _ _ (100, [(0, .ref 83)], []) _ _ _
        refine Z_ret rfl rfl ⟨_, hs, ?_, rfl⟩
        cases e : P_run (D_see s) (s.1 17 ≠ 0) 82 0 [(none, T_emp)] using P_R_el with
        | bad k wh =>
          rw [e] at hR
          obtain ⟨y1, y2, y3⟩ := (hR : _ ∧ _ ∧ _)
          omega
        | ok t b =>
          rw [e] at hR
          obtain ⟨y1, ⟨o, c, y2, y3⟩, y4⟩ := (hR : _ ∧ _ ∧ _)
          have e22 := y2.op
          simp only [List.length_cons, List.length_nil] at e22
          have e22 : w.1 22 = 0 := by omega
          rcases R_cf_orj y2 (fun _ => trivial) with ⟨z0, z1⟩ | ⟨z0, z1⟩
          · rw [e22] at z0
            omega
          · rw [e22] at z0
            exact ⟨rfl, _, A, F, P, rfl, hw.tr (R_ap_em w 7 0 0).fr, by rw [hP, e]; exact ⟨y1, by rw [y3]; exact z1⟩⟩
    · refine Z_ret rfl rfl ⟨_, hs, ?_, rfl⟩
      refine ⟨rfl, w, A, F, P, rfl, hw, ?_⟩
      rw [hP]
      cases e : P_run (D_see s) (s.1 17 ≠ 0) 82 0 [(none, T_emp)] using P_R_el with
      | bad k wh => rw [e] at hR; exact hR
      | ok t b =>
        rw [e] at hR
        have := hR.1
        omega
  · refine Z_go (f2 := (47, [(0, .ref 83)], [.ref 83])) (fun _ => rfl) ?_
    refine Z_go (f2 := (48, [(0, .ref 83)], [.int (Zi 3), .ref 83])) (fun _ => rfl) ?_
    refine Z_go (f2 := (50, [(0, .ref 83)], [.int (Zi 80), .int (Zi 3), .ref 83])) (fun _ => rfl) ?_
    refine R_call (As := [.int (Zi 3), .int (Zi 80)]) (rest := []) rfl (by decide) rfl rfl rfl rfl (by decide +kernel) (Nat.le_of_ble_eq_true rfl) hs (R_fail2 _ (R_sA (R_sF (R_sF (R_sF s 13 0) 15 0) 22 0) 94 0 0) 0 0 (-1) (by first | assumption | exact hs.zF _ | exact hs.zA _ _ | exact zS _ | exact ⟨by omega, by omega⟩ | omega) (by first | assumption | exact hs.zF _ | exact hs.zA _ _ | exact zS _ | exact ⟨by omega, by omega⟩ | omega)) (fun x h s2 hs q => ?_)
    obtain ⟨rfl, q1⟩ := q
    rw [D_ff_0] at q1
    rw [q1] at hs
    show B_R _ _ (53, [(0, .ref 83)], []) _ _ _
    refine Z_ret rfl rfl ⟨_, hs, ?_, rfl⟩
    refine ⟨rfl, (R_sA (R_sF (R_sF (R_sF s 13 0) 15 0) 22 0) 94 0 0), 0, 3, 80, ?_, (R_rd_w0 s).1, ?_⟩
    · rfl
    · rw [show P_reads (D_see s) (s.1 17 ≠ 0) (s.1 1) = .inl (3, 80) from if_pos (by omega)]
      exact ⟨rfl, rfl, by decide⟩
