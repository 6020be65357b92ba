/-! the reference: the reading of a regex, one step -/
theorem D_cnt_op {S : Int → Int} {a f p : Int} {q : Int × Int × Int} (h : (D_cnt S a f p).2.2.2.2 = some q) : q.1 ≠ 1 := by
  rw [D_cnt_eq] at h
  have h2 : ∀ v b f p, (D_cn2 S v b f p).2.2.2.2 = some q → q.1 ≠ 1 := by
    intro v b f p h
    unfold D_cn2 at h
    dsimp only at h
    repeat' split at h
    all_goals first
      | (injection h with h; subst h; show (11 : Int) ≠ 1; decide)
      | cases h
  split at h
  · injection h with h; subst h; show (8 : Int) ≠ 1; decide
  · split at h
    · injection h with h; subst h; show (9 : Int) ≠ 1; decide
    · split at h
      · injection h with h; subst h; show (10 : Int) ≠ 1; decide
      · split at h
        · exact h2 _ _ _ _ h
        · cases h
theorem D_atom_op {S : Int → Int} {fold : Prop} {a f p op : Int} (h : (D_atom S fold a f p).2.2.2.2 = .inl op) : op ≠ 1 := by
  unfold D_atom D_esc at h
  repeat' split at h
  all_goals first
    | (injection h with h; omega)
    | cases h
theorem R_em_13 (s : R_S) (op x y : Int) : (R_em s op x y).1 13 = s.1 13 + 1 := R_sF_s _ _ _
theorem R_em_f (s : R_S) (op x y : Int) {b : Nat} (h : b ≠ 13) : (R_em s op x y).1 b = s.1 b := R_sF_n _ _ h
theorem R_em_94 (s : R_S) (op x y : Int) {q : Nat} (j : Int) (h0 : q ≠ 90) (h1 : q ≠ 91) (h2 : q ≠ 92) : (R_em s op x y).2.1 q j = s.2.1 q j := by
  show (R_sA (R_sA (R_sA s 90 (s.1 13) op) 91 (s.1 13) x) 92 (s.1 13) y).2.1 q j = _
  rw [R_sA_n _ _ _ _ h2, R_sA_n _ _ _ _ h1, R_sA_n _ _ _ _ h0]
theorem R_tl.a94 {s : R_S} {L : P_T} (h : R_tl s L) (i z : Int) : R_tl (R_sA s 94 i z) L := h.cong rfl rfl (fun q j hq => R_sA_n s _ _ _ (by omega))
theorem R_tl.f22 {s : R_S} {L : P_T} (h : R_tl s L) (z : Int) : R_tl (R_sF s 22 z) L := h.cong (R_sF_n _ _ (by decide)) (R_sF_n _ _ (by decide)) (fun _ _ _ => rfl)
theorem R_s_bar {s s1 : R_S} {o : Option P_T} {c : P_T} {st : P_K} (hs1 : s1 = s ∨ s1 = R_em s 7 0 0) (tl : R_tl s1 (K_code st ++ P_orj o c)) (h : R_cf s ((o, c) :: st)) : R_cf (R_em (R_sA s1 94 (s.1 22) 1) 5 0 0) ((some (P_orj o c), T_emp) :: st) := by
  have op := h.op
  simp only [List.length_cons] at op
  have e94 : ∀ j, s1.2.1 94 j = s.2.1 94 j := by
    intro j
    rcases hs1 with rfl | rfl
    · rfl
    · exact R_em_94 _ _ _ _ _ (by decide) (by decide) (by decide)
  have e22 : s1.1 22 = s.1 22 := by
    rcases hs1 with rfl | rfl
    · rfl
    · exact R_em_f _ _ _ _ (by decide)
  refine ⟨?_, ⟨?_, ?_⟩, ?_⟩
  · have := (tl.a94 (s.1 22) 1).emp
    exact this
  · rw [R_em_94 _ _ _ _ _ (by decide) (by decide) (by decide), show (st.length : Int) = s.1 22 by omega, R_sA_s]
  · refine h.kp.2.cong (fun j hj => ?_)
    rw [R_em_94 _ _ _ _ _ (by decide) (by decide) (by decide), R_sA_m _ _ _ _ (by omega), e94]
  · rw [R_em_f _ _ _ _ (by decide)]
    show s1.1 22 = _
    simp only [List.length_cons]
    omega
theorem R_s_open {s : R_S} {st : P_K} (h : R_cf s st) : R_cf (R_em (R_sA (R_sF s 22 (s.1 22 + 1)) 94 (s.1 22 + 1) 0) 5 0 0) ((none, T_emp) :: st) := by
  have op := h.op
  refine ⟨?_, ⟨?_, ?_⟩, ?_⟩
  · have := ((h.tl.f22 (s.1 22 + 1)).a94 (s.1 22 + 1) 0).emp
    show R_tl _ (K_code st ++ [] ++ T_emp)
    rw [List.append_nil]
    exact this
  · rw [R_em_94 _ _ _ _ _ (by decide) (by decide) (by decide), show (st.length : Int) = s.1 22 + 1 by omega, R_sA_s]
  · refine h.kp.cong (fun j hj => ?_)
    rw [R_em_94 _ _ _ _ _ (by decide) (by decide) (by decide), R_sA_m _ _ _ _ (by omega)]
    rfl
  · rw [R_em_f _ _ _ _ (by decide)]
    show (R_sF s 22 (s.1 22 + 1)).1 22 = _
    rw [R_sF_s]
    simp only [List.length_cons]
    omega
theorem R_cnp.ap {s w : R_S} {e : Option (Int × Int × Int)} (h : R_cnp s w e) : ∃ E, R_ap s w E [] ∧ E.length = (match e with | none => 0 | some _ => 1) := by
  cases e with
  | none => exact ⟨[], h, rfl⟩
  | some e => exact ⟨[e], h, rfl⟩
theorem R_atp.ap {s w : R_S} {A : P_A} (h : R_atp s w A) : ∃ E Hs, R_ap s w E Hs ∧ E.length = 1 ∧ Hs.length ≤ 1 := by
  cases A with
  | inl op => exact ⟨_, _, h, rfl, Nat.zero_le _⟩
  | inr B => exact ⟨_, _, h, rfl, Nat.le_refl _⟩
/-- behind: what stands open, an atom's tree, its count -/
theorem R_s_beh {s w1 w2 : R_S} {o : Option P_T} {c t : P_T} {st : P_K} {e : Option (Int × Int × Int)} (tl : R_tl w1 (K_code ((o, c) :: st) ++ t)) (kp : R_kp w1 ((o, c) :: st)) (op : w1.1 22 = st.length) (g : R_cnp w1 w2 e) (hn : ∀ q, e = some q → q.1 ≠ 1) : R_cf (R_em w2 6 0 0) ((o, T_beh c (P_cnj t e)) :: st) := by
  obtain ⟨E, hE, _⟩ := g.ap
  have k2 := (R_ap_em w2 6 0 0).kp (hE.kp kp)
  refine ⟨?_, ⟨k2.1, k2.2⟩, ?_⟩
  · have h2 : R_tl w2 ((K_code st ++ o.getD []) ++ c ++ P_cnj t e) := tl.cnp g hn
    exact h2.beh
  · rw [R_em_f _ _ _ _ (by decide), hE.f 22 (by decide) (by decide), op]
    simp only [List.length_cons]
    omega
theorem R_s_clo {s s1 w2 : R_S} {o o2 : Option P_T} {c c2 : P_T} {st : P_K} {e : Option (Int × Int × Int)} {z : Int} (hs1 : s1 = s ∨ s1 = R_em s 7 0 0) (tl : R_tl s1 (K_code ((o2, c2) :: st) ++ P_orj o c)) (h : R_cf s ((o, c) :: (o2, c2) :: st)) (hz : z = s.1 22 - 1) (g : R_cnp (R_sF s1 22 z) w2 e) (hn : ∀ q, e = some q → q.1 ≠ 1) : R_cf (R_em w2 6 0 0) ((o2, T_beh c2 (P_cnj (P_orj o c) e)) :: st) := by
  have op := h.op
  simp only [List.length_cons] at op
  have e94 : ∀ j, s1.2.1 94 j = s.2.1 94 j := by
    intro j
    rcases hs1 with rfl | rfl
    · rfl
    · exact R_em_94 _ _ _ _ _ (by decide) (by decide) (by decide)
  refine R_s_beh (s := s) (tl.f22 z) (h.kp.2.cong (fun j _ => e94 j)) ?_ g hn
  rw [R_sF_s]
  omega
/-! the reference: the reading of a regex, one step -/
theorem R_readsOne (d : Nat) (s : R_S) (a f p : Int) (a0 : 0 ≤ a) (a1 : a ≤ s.1 1) (t1 : s.1 1 ≤ 80) (tb : ∀ j, 0 ≤ s.2.1 84 j ∧ s.2.1 84 j < 256) (hnb : R_nb s a) : R_ok (d + 7) 204 [] (R_p3 s a f p) (R_stp s a f p) := by
  refine R_enter (M := E_m204) rfl (Nat.le_of_ble_eq_true rfl) (fun h0 h hs => ?_)
  show B_R (d + 6) _ (0, [(0, .ref 83)], []) _ _ _
  have zb : ∀ k, -1 ≤ D_see s k ∧ D_see s k < 256 := fun k => by have := tb k; unfold D_see; split <;> omega
  have zb0 := zb a
  have zb1 := zb (a + 1)
  have zS : ∀ k, Zr (D_see s k) := fun k => by unfold D_see; split; exact hs.zA 84 k; exact ⟨by omega, by omega⟩
  have sn : ∀ k, s.1 1 ≤ k → D_see s k = -1 := fun k hk => by unfold D_see; rw [if_neg (by omega)]
  have sn0 := sn a
  have sn1 := sn (a + 1)
  have zf : Zr f := hs.zF 18
  have zp : Zr p := hs.zF 19
  obtain ⟨n1, n2, n3, n4, n5, n6⟩ := hnb
  refine Z_go (f2 := (1, [(0, .ref 83)], [.ref 83])) (fun _ => rfl) ?_
  refine Z_go (f2 := (2, [(0, .ref 83)], [.ref 83, .ref 83])) (fun _ => rfl) ?_
  refine R_gi rfl hs rfl ?_
  show B_R _ _ (5, [(0, .ref 83)], [.int (Zi a), .ref 83]) _ _ _
  refine R_call (As := [.int (Zi a)]) (rest := []) rfl (by decide) rfl rfl rfl rfl (by decide +kernel) (Nat.le_of_ble_eq_true rfl) hs (R_see2 _ _ (by first | assumption | exact hs.zF _ | exact hs.zA _ _ | exact zS _ | exact ⟨by omega, by omega⟩ | omega) (by first | assumption | exact hs.zF _ | exact hs.zA _ _ | exact zS _ | exact ⟨by omega, by omega⟩ | omega) (show s.1 1 ≤ 1000 by omega)) (fun x h s2 hs q => ?_)
  obtain ⟨q0, rfl⟩ := q
  rw [q0] at hs
  rw [R_p3_see]
  show B_R _ _ (8, [(0, .ref 83)], [.int (Zi (D_see s a))]) _ _ _
  refine Z_go (f2 := (9, [(1, .int (Zi (D_see s a))), (0, .ref 83)], [])) (fun _ => rfl) ?_
  refine Z_go (f2 := (10, [(1, .int (Zi (D_see s a))), (0, .ref 83)], [.int (Zi (D_see s a))])) (fun _ => rfl) ?_
  refine Z_go (f2 := (11, [(1, .int (Zi (D_see s a))), (0, .ref 83)], [.int (Zi (-1)), .int (Zi (D_see s a))])) (fun _ => rfl) ?_
  refine Z_cne rfl rfl (by first | exact hs.zF _ | exact Zor_r _ _ | exact hs.zA _ _ | assumption | exact zS _ | exact Zr_not (hs.zA _ _) | exact ⟨by omega, by omega⟩) (by first | exact hs.zF _ | exact Zor_r _ _ | exact hs.zA _ _ | assumption | exact zS _ | exact Zr_not (hs.zA _ _) | exact ⟨by omega, by omega⟩) (fun c1 => ?_) (fun c1 => ?_)
  · refine Z_go (f2 := (33, [(1, .int (Zi (D_see s a))), (0, .ref 83)], [.int (Zi (D_see s a))])) (fun _ => rfl) ?_
    refine Z_go (f2 := (35, [(1, .int (Zi (D_see s a))), (0, .ref 83)], [.int (Zi 124), .int (Zi (D_see s a))])) (fun _ => rfl) ?_
    refine Z_cne rfl rfl (by first | exact hs.zF _ | exact Zor_r _ _ | exact hs.zA _ _ | assumption | exact zS _ | exact Zr_not (hs.zA _ _) | exact ⟨by omega, by omega⟩) (by first | exact hs.zF _ | exact Zor_r _ _ | exact hs.zA _ _ | assumption | exact zS _ | exact Zr_not (hs.zA _ _) | exact ⟨by omega, by omega⟩) (fun c2 => ?_) (fun c2 => ?_)
    · refine Z_go (f2 := (88, [(1, .int (Zi (D_see s a))), (0, .ref 83)], [.int (Zi (D_see s a))])) (fun _ => rfl) ?_
      refine Z_go (f2 := (90, [(1, .int (Zi (D_see s a))), (0, .ref 83)], [.int (Zi 40), .int (Zi (D_see s a))])) (fun _ => rfl) ?_
      refine Z_cne rfl rfl (by first | exact hs.zF _ | exact Zor_r _ _ | exact hs.zA _ _ | assumption | exact zS _ | exact Zr_not (hs.zA _ _) | exact ⟨by omega, by omega⟩) (by first | exact hs.zF _ | exact Zor_r _ _ | exact hs.zA _ _ | assumption | exact zS _ | exact Zr_not (hs.zA _ _) | exact ⟨by omega, by omega⟩) (fun c3 => ?_) (fun c3 => ?_)
      · refine Z_go (f2 := (173, [(1, .int (Zi (D_see s a))), (0, .ref 83)], [.int (Zi (D_see s a))])) (fun _ => rfl) ?_
        refine Z_go (f2 := (175, [(1, .int (Zi (D_see s a))), (0, .ref 83)], [.int (Zi 41), .int (Zi (D_see s a))])) (fun _ => rfl) ?_
        refine Z_cne rfl rfl (by first | exact hs.zF _ | exact Zor_r _ _ | exact hs.zA _ _ | assumption | exact zS _ | exact Zr_not (hs.zA _ _) | exact ⟨by omega, by omega⟩) (by first | exact hs.zF _ | exact Zor_r _ _ | exact hs.zA _ _ | assumption | exact zS _ | exact Zr_not (hs.zA _ _) | exact ⟨by omega, by omega⟩) (fun c4 => ?_) (fun c4 => ?_)
        · refine Z_go (f2 := (240, [(1, .int (Zi (D_see s a))), (0, .ref 83)], [.ref 83])) (fun _ => rfl) ?_
          refine Z_go (f2 := (241, [(1, .int (Zi (D_see s a))), (0, .ref 83)], [.int (Zi (D_see s a)), .ref 83])) (fun _ => rfl) ?_
          refine R_call (As := [.int (Zi (D_see s a))]) (rest := []) rfl (by decide) rfl rfl rfl rfl (by decide +kernel) (Nat.le_of_ble_eq_true rfl) hs (R_atom _ s a f p (by first | assumption | exact hs.zF _ | exact hs.zA _ _ | exact zS _ | exact ⟨by omega, by omega⟩ | omega) (by omega) (by omega) t1 tb (by omega) (by omega) (by omega) (by omega) rfl (by omega)) (fun x h s2 hs q => ?_)
          have hA := D_atom_P sn t1 (s.1 17 ≠ 0) a f p a0 (by omega)
          generalize ho1 : D_atom (D_see s) (s.1 17 ≠ 0) a f p = o1 at q hA
          obtain ⟨rfl, w1, q1, q2⟩ := q
          rw [q1] at hs
          obtain ⟨hA1, hA2, hA3, hA4⟩ := hA
          have frA : D_see w1 = D_see s ∧ w1.1 1 = s.1 1 ∧ (∀ j, 0 ≤ w1.2.1 84 j ∧ w1.2.1 84 j < 256) ∧ s.1 13 ≤ w1.1 13 ∧ w1.1 13 ≤ s.1 13 + 1 := by
            rcases q2 with ⟨_, Hs, _, q2⟩ | ⟨_, q2⟩
            · exact ⟨q2.see, q2.f 1 (by decide) (by decide), fun j => by rw [q2.q 84 j (by decide) (by decide) (by decide) (by decide)]; exact tb j, by have := q2.f13; simp only [List.length_nil] at this; omega, by have := q2.f13; simp only [List.length_nil] at this; omega⟩
            · obtain ⟨E, Hs, q3, q4, _⟩ := q2.ap
              exact ⟨q3.see, q3.f 1 (by decide) (by decide), fun j => by rw [q3.q 84 j (by decide) (by decide) (by decide) (by decide)]; exact tb j, by have := q3.f13; omega, by have := q3.f13; omega⟩
          obtain ⟨esE, eE1, tbw, eE13, eE13b⟩ := frA
          have qbA : o1.1 = 0 ∨ o1.1 = 1 := hA4
          show B_R _ _ (244, [(1, .int (Zi (D_see s a))), (0, .ref 83)], [.int (Zi (o1.1))]) _ _ _
          refine Z_ine rfl rfl (by first | exact hs.zF _ | exact Zor_r _ _ | exact hs.zA _ _ | assumption | exact zS _ | exact Zr_not (hs.zA _ _) | exact ⟨by omega, by omega⟩) (fun c5 => ?_) (fun c5 => ?_)
          · refine Z_go (f2 := (250, [(1, .int (Zi (D_see s a))), (0, .ref 83)], [.ref 83])) (fun _ => rfl) ?_
            refine R_call (As := []) (rest := []) rfl (by decide) rfl rfl rfl rfl (by decide +kernel) (Nat.le_of_ble_eq_true rfl) hs (R_counted _ w1 o1.2.1 o1.2.2.1 o1.2.2.2.1 (by omega) (by omega) (by omega) tbw (by omega) (by omega)) (fun x h s2 hs q => ?_)
            rw [esE] at q
            have hC := D_cnt_n sn o1.2.1 o1.2.2.1 o1.2.2.2.1 hA3
            generalize ho2 : D_cnt (D_see s) o1.2.1 o1.2.2.1 o1.2.2.2.1 = o2 at q hC
            obtain ⟨rfl, w2, q3, q4⟩ := q
            rw [q3] at hs
            obtain ⟨hC1, hC2, hC3, hC4⟩ := hC
            have q13 : w2.1 13 ≤ w1.1 13 + 1 ∧ 0 ≤ w2.1 13 := by
              rcases q4 with ⟨_, q4⟩ | ⟨_, q4⟩
              · have := q4.f13; simp only [List.length_nil] at this; omega
              · obtain ⟨E, q5, q6⟩ := q4.ap
                have := q5.f13
                have : E.length ≤ 1 := by rw [q6]; split <;> omega
                omega
            show B_R _ _ (253, [(1, .int (Zi (D_see s a))), (0, .ref 83)], [.int (Zi (o2.1))]) _ _ _
            refine Z_ine rfl rfl (by first | exact hs.zF _ | exact Zor_r _ _ | exact hs.zA _ _ | assumption | exact zS _ | exact Zr_not (hs.zA _ _) | exact ⟨by omega, by omega⟩) (fun c6 => ?_) (fun c6 => ?_)
            · refine Z_go (f2 := (259, [(1, .int (Zi (D_see s a))), (0, .ref 83)], [.ref 83])) (fun _ => rfl) ?_
              refine Z_go (f2 := (261, [(1, .int (Zi (D_see s a))), (0, .ref 83)], [.int (Zi 6), .ref 83])) (fun _ => rfl) ?_
              refine Z_go (f2 := (262, [(1, .int (Zi (D_see s a))), (0, .ref 83)], [.int (Zi 0), .int (Zi 6), .ref 83])) (fun _ => rfl) ?_
              refine Z_go (f2 := (263, [(1, .int (Zi (D_see s a))), (0, .ref 83)], [.int (Zi 0), .int (Zi 0), .int (Zi 6), .ref 83])) (fun _ => rfl) ?_
              refine R_call (As := [.int (Zi 6), .int (Zi 0), .int (Zi 0)]) (rest := []) rfl (by decide) rfl rfl rfl rfl (by decide +kernel) (Nat.le_of_ble_eq_true rfl) hs (R_emit2 _ w2 o2.2.1 o2.2.2.1 o2.2.2.2.1 (by first | assumption | exact hs.zF _ | exact hs.zA _ _ | exact zS _ | exact ⟨by omega, by omega⟩ | omega) (by first | assumption | exact hs.zF _ | exact hs.zA _ _ | exact zS _ | exact ⟨by omega, by omega⟩ | omega) (by first | assumption | exact hs.zF _ | exact hs.zA _ _ | exact zS _ | exact ⟨by omega, by omega⟩ | omega) (show 0 ≤ w2.1 13 by omega) (show w2.1 13 < 400 by omega)) (fun x h s2 hs q => ?_)
              obtain ⟨rfl, q1⟩ := q
              rw [q1] at hs
              show B_R _ _ (266, [(1, .int (Zi (D_see s a))), (0, .ref 83)], []) _ _ _
              refine Z_go (f2 := (267, [(1, .int (Zi (D_see s a))), (0, .ref 83)], [.int (Zi 1)])) (fun _ => rfl) ?_
              refine Z_iret rfl rfl (by first | rfl | decide | exact narrow_b01 (by omega)) ⟨_, hs, ?_, rfl⟩
              have q2 : R_atp s w1 o1.2.2.2.2 := by
                rcases q2 with q2 | q2
                · omega
                · exact q2.2
              obtain ⟨E1, H1, hE1, hl1, hk1⟩ := q2.ap
              have q4 : R_cnp w1 w2 o2.2.2.2.2 := by
                rcases q4 with q4 | q4
                · omega
                · exact q4.2
              obtain ⟨E, hE, hEl⟩ := q4.ap
              have hE13 := hE.f13
              have hE15 := hE.f15
              have hE22 := hE.f 22 (by decide) (by decide)
              have gE13 := hE1.f13
              have gE15 := hE1.f15
              have gE22 := hE1.f 22 (by decide) (by decide)
              have hEn : E.length ≤ 1 := by rw [hEl]; split <;> omega
              simp only [List.length_nil] at hE15
              refine ⟨1, o2.2.1, _, _, _, rfl, rfl, .inr rfl, ((hE1.fr.tr hE.fr).tr (R_ap_em _ 6 0 0).fr), by omega, by omega, fun _ => ⟨by omega, by unfold R_nb; rw [R_em_13, R_em_f _ _ _ _ (by decide), R_em_f _ _ _ _ (by decide)]; omega⟩, fun hf o c st hc => ?_, fun hf hp => by have dA := hA1.2 hf (by omega); have dC := (D_cnt_P sn o1.2.1 o1.2.2.1 o1.2.2.2.1 hA3).2 (by omega) (by omega); rw [ho2] at dC; exact ⟨by rw [dC.1]; exact dA.1, by rw [dC.2.1]; exact dA.2.1⟩⟩
              have hD := P_atom_D sn t1 (s.1 17 ≠ 0) a f p o c st a0 (by omega) hf (by omega) (by omega) (by omega) (by omega) ho1.symm ho2.symm
              cases et : P_step (D_see s) (s.1 17 ≠ 0) a ((o, c) :: st) using P_M_el with
              | done => rw [et] at hD; exact hD.elim
              | bad k wh =>
                rw [et] at hD
                obtain ⟨z1, z2, z3⟩ := (hD : _ ∧ _ ∧ _)
                exact ⟨(z3 (by omega)).1, (z3 (by omega)).2.1, z1, (z3 (by omega)).2.2.elim (fun h => by omega) .inr⟩
              | go b st2 =>
                rw [et] at hD
                obtain ⟨z1, z2, z3, z4, z5⟩ := (hD : _ ∧ _ ∧ _ ∧ _ ∧ _)
                have e := hc.op
                simp only [List.length_cons] at e
                exact ⟨rfl, z3, z4, z5 ▸ R_s_beh (s := s) (hc.tl.atp q2 (fun op e => D_atom_op (by rw [ho1]; exact e))) (hE1.kp hc.kp) (by omega) q4 (fun q e => D_cnt_op (by rw [ho2]; exact e))⟩
            · refine Z_go (f2 := (257, [(1, .int (Zi (D_see s a))), (0, .ref 83)], [.int (Zi 0)])) (fun _ => rfl) ?_
              refine Z_iret rfl rfl (by first | rfl | decide | exact narrow_b01 (by omega)) ⟨_, hs, ?_, rfl⟩
              have q2 : R_atp s w1 o1.2.2.2.2 := by
                rcases q2 with q2 | q2
                · omega
                · exact q2.2
              obtain ⟨E1, H1, hE1, hl1, hk1⟩ := q2.ap
              have hE : R_ap w1 w2 [] [] := by
                rcases q4 with q4 | q4
                · exact q4.2
                · omega
              refine ⟨0, o2.2.1, _, _, _, rfl, rfl, .inl rfl, (hE1.fr.tr hE.fr), by omega, by omega, fun e => absurd e (by decide), fun hf o c st hc => ?_, fun hf hp => by have dA := hA1.2 hf (by omega); have dC := (D_cnt_P sn o1.2.1 o1.2.2.1 o1.2.2.2.1 hA3).2 (by omega) (by omega); rw [ho2] at dC; exact ⟨by rw [dC.1]; exact dA.1, by rw [dC.2.1]; exact dA.2.1⟩⟩
              have hD := P_atom_D sn t1 (s.1 17 ≠ 0) a f p o c st a0 (by omega) hf (by omega) (by omega) (by omega) (by omega) ho1.symm ho2.symm
              cases et : P_step (D_see s) (s.1 17 ≠ 0) a ((o, c) :: st) using P_M_el with
              | done => rw [et] at hD; exact hD.elim
              | bad k wh =>
                rw [et] at hD
                obtain ⟨z1, z2, z3⟩ := (hD : _ ∧ _ ∧ _)
                exact ⟨(z3 (by omega)).1, (z3 (by omega)).2.1, z1, .inl rfl⟩
              | go b st2 =>
                rw [et] at hD
                obtain ⟨z1, z2, z3, z4, z5⟩ := (hD : _ ∧ _ ∧ _ ∧ _ ∧ _)
                omega
          · refine Z_go (f2 := (248, [(1, .int (Zi (D_see s a))), (0, .ref 83)], [.int (Zi 0)])) (fun _ => rfl) ?_
            refine Z_iret rfl rfl (by first | rfl | decide | exact narrow_b01 (by omega)) ⟨_, hs, ?_, rfl⟩
            have hE : ∃ Hs, Hs.length ≤ 1 ∧ R_ap s w1 [] Hs := by
              rcases q2 with q2 | q2
              · exact q2.2
              · omega
            obtain ⟨Hs, _, hE⟩ := hE
            refine ⟨0, o1.2.1, _, _, _, rfl, rfl, .inl rfl, hE.fr, by omega, by omega, fun e => absurd e (by decide), fun hf o c st hc => ?_, fun hf hp => by have dA := hA1.2 hf (by omega); exact ⟨dA.1, dA.2.1⟩⟩
            have hD := P_atom_D sn t1 (s.1 17 ≠ 0) a f p o c st a0 (by omega) hf (by omega) (by omega) (by omega) (by omega) ho1.symm rfl
            cases et : P_step (D_see s) (s.1 17 ≠ 0) a ((o, c) :: st) using P_M_el with
            | done => rw [et] at hD; exact hD.elim
            | bad k wh =>
              rw [et] at hD
              obtain ⟨z1, z2, z3⟩ := (hD : _ ∧ _ ∧ _)
              exact ⟨(z2 (by omega)).1, (z2 (by omega)).2, z1, .inl rfl⟩
            | go b st2 =>
              rw [et] at hD
              obtain ⟨z1, z2, z3, z4, z5⟩ := (hD : _ ∧ _ ∧ _ ∧ _ ∧ _)
              omega
        · refine Z_go (f2 := (179, [(1, .int (Zi (D_see s a))), (0, .ref 83)], [.ref 83])) (fun _ => rfl) ?_
          refine R_gi rfl hs rfl ?_
          show B_R _ _ (182, [(1, .int (Zi (D_see s a))), (0, .ref 83)], [.int (Zi (s.1 22))]) _ _ _
          refine Z_ine rfl rfl (by first | exact hs.zF _ | exact Zor_r _ _ | exact hs.zA _ _ | assumption | exact zS _ | exact Zr_not (hs.zA _ _) | exact ⟨by omega, by omega⟩) (fun c7 => ?_) (fun c7 => ?_)
          · refine Z_go (f2 := (197, [(1, .int (Zi (D_see s a))), (0, .ref 83)], [.ref 83])) (fun _ => rfl) ?_
            refine R_gr (q := 92) rfl hs rfl ?_
            show B_R _ _ (200, [(1, .int (Zi (D_see s a))), (0, .ref 83)], [.ref 94]) _ _ _
            refine Z_go (f2 := (201, [(1, .int (Zi (D_see s a))), (0, .ref 83)], [.ref 83, .ref 94])) (fun _ => rfl) ?_
            refine R_gi rfl hs rfl ?_
            show B_R _ _ (204, [(1, .int (Zi (D_see s a))), (0, .ref 83)], [.int (Zi (s.1 22)), .ref 94]) _ _ _
            refine R_ba (q := 10) rfl hs rfl rfl (by omega) (by omega) (by decide) ?_
            rw [show (R_p3 s a f p).2.1 94 (s.1 22) = s.2.1 94 (s.1 22) by first | rfl | simp [R_sA, R_sF, R_up2, R_fl, R_fL, R_sM, R_sL, R_p3, R_em]]; show B_R _ _ (205, [(1, .int (Zi (D_see s a))), (0, .ref 83)], [.int (Zi (s.2.1 94 (s.1 22)))]) _ _ _
            refine Z_ieq rfl rfl (by first | exact hs.zF _ | exact Zor_r _ _ | exact hs.zA _ _ | assumption | exact zS _ | exact Zr_not (hs.zA _ _) | exact ⟨by omega, by omega⟩) (fun c8 => ?_) (fun c8 => ?_)
            · refine Z_go (f2 := (217, [(1, .int (Zi (D_see s a))), (0, .ref 83)], [.ref 83])) (fun _ => rfl) ?_
              refine Z_go (f2 := (218, [(1, .int (Zi (D_see s a))), (0, .ref 83)], [.ref 83, .ref 83])) (fun _ => rfl) ?_
              refine R_gi rfl hs rfl ?_
              show B_R _ _ (221, [(1, .int (Zi (D_see s a))), (0, .ref 83)], [.int (Zi (s.1 22)), .ref 83]) _ _ _
              refine Z_go (f2 := (222, [(1, .int (Zi (D_see s a))), (0, .ref 83)], [.int (Zi 1), .int (Zi (s.1 22)), .ref 83])) (fun _ => rfl) ?_
              refine Z_isub rfl ?_
              refine R_pf rfl hs rfl (by first | exact hs.zF _ | exact Zor_r _ _ | exact hs.zA _ _ | assumption | exact zS _ | exact Zr_not (hs.zA _ _) | exact ⟨by omega, by omega⟩) ⟨rfl, rfl, rfl⟩ (fun h hs => ?_)
              rw [R_p3_22] at hs
              refine Z_go (f2 := (227, [(1, .int (Zi (D_see s a))), (0, .ref 83)], [.ref 83])) (fun _ => rfl) ?_
              refine Z_go (f2 := (228, [(1, .int (Zi (D_see s a))), (0, .ref 83)], [.ref 83, .ref 83])) (fun _ => rfl) ?_
              refine R_gi rfl hs rfl ?_
              show B_R _ _ (231, [(1, .int (Zi (D_see s a))), (0, .ref 83)], [.int (Zi a), .ref 83]) _ _ _
              refine Z_go (f2 := (232, [(1, .int (Zi (D_see s a))), (0, .ref 83)], [.int (Zi 1), .int (Zi a), .ref 83])) (fun _ => rfl) ?_
              refine Z_iadd rfl ?_
              refine R_pf rfl hs rfl (by first | exact hs.zF _ | exact Zor_r _ _ | exact hs.zA _ _ | assumption | exact zS _ | exact Zr_not (hs.zA _ _) | exact ⟨by omega, by omega⟩) ⟨rfl, rfl, rfl⟩ (fun h hs => ?_)
              rw [R_p3_16] at hs
              refine Z_go (f2 := (249, [(1, .int (Zi (D_see s a))), (0, .ref 83)], [])) (fun _ => rfl) ?_
              refine Z_go (f2 := (250, [(1, .int (Zi (D_see s a))), (0, .ref 83)], [.ref 83])) (fun _ => rfl) ?_
              refine R_call (As := []) (rest := []) rfl (by decide) rfl rfl rfl rfl (by decide +kernel) (Nat.le_of_ble_eq_true rfl) hs (R_counted _ (R_sF s 22 (s.1 22 - 1)) (a + 1) f p (by omega) (show a + 1 ≤ s.1 1 by omega) (show s.1 1 ≤ 80 by omega) tb (show 0 ≤ s.1 13 by omega) (show s.1 13 < 400 by omega)) (fun x h s2 hs q => ?_)
              have hw13 : (R_sF s 22 (s.1 22 - 1)).1 13 = s.1 13 := rfl
              have hw1 : (R_sF s 22 (s.1 22 - 1)).1 1 = s.1 1 := rfl
              have esD : D_see (R_sF s 22 (s.1 22 - 1)) = D_see s := rfl
              rw [esD] at q
              have hC := D_cnt_n sn (a + 1) f p (by omega)
              generalize ho2 : D_cnt (D_see s) (a + 1) f p = o2 at q hC
              obtain ⟨rfl, w2, q3, q4⟩ := q
              rw [q3] at hs
              obtain ⟨hC1, hC2, hC3, hC4⟩ := hC
              have q13 : w2.1 13 ≤ s.1 13 + 1 ∧ 0 ≤ w2.1 13 := by
                rcases q4 with ⟨_, q4⟩ | ⟨_, q4⟩
                · have := q4.f13; simp only [List.length_nil] at this; omega
                · obtain ⟨E, q5, q6⟩ := q4.ap
                  have := q5.f13
                  have : E.length ≤ 1 := by rw [q6]; split <;> omega
                  omega
              show B_R _ _ (253, [(1, .int (Zi (D_see s a))), (0, .ref 83)], [.int (Zi (o2.1))]) _ _ _
              refine Z_ine rfl rfl (by first | exact hs.zF _ | exact Zor_r _ _ | exact hs.zA _ _ | assumption | exact zS _ | exact Zr_not (hs.zA _ _) | exact ⟨by omega, by omega⟩) (fun c9 => ?_) (fun c9 => ?_)
              · refine Z_go (f2 := (259, [(1, .int (Zi (D_see s a))), (0, .ref 83)], [.ref 83])) (fun _ => rfl) ?_
                refine Z_go (f2 := (261, [(1, .int (Zi (D_see s a))), (0, .ref 83)], [.int (Zi 6), .ref 83])) (fun _ => rfl) ?_
                refine Z_go (f2 := (262, [(1, .int (Zi (D_see s a))), (0, .ref 83)], [.int (Zi 0), .int (Zi 6), .ref 83])) (fun _ => rfl) ?_
                refine Z_go (f2 := (263, [(1, .int (Zi (D_see s a))), (0, .ref 83)], [.int (Zi 0), .int (Zi 0), .int (Zi 6), .ref 83])) (fun _ => rfl) ?_
                refine R_call (As := [.int (Zi 6), .int (Zi 0), .int (Zi 0)]) (rest := []) rfl (by decide) rfl rfl rfl rfl (by decide +kernel) (Nat.le_of_ble_eq_true rfl) hs (R_emit2 _ w2 o2.2.1 o2.2.2.1 o2.2.2.2.1 (by first | assumption | exact hs.zF _ | exact hs.zA _ _ | exact zS _ | exact ⟨by omega, by omega⟩ | omega) (by first | assumption | exact hs.zF _ | exact hs.zA _ _ | exact zS _ | exact ⟨by omega, by omega⟩ | omega) (by first | assumption | exact hs.zF _ | exact hs.zA _ _ | exact zS _ | exact ⟨by omega, by omega⟩ | omega) (show 0 ≤ w2.1 13 by omega) (show w2.1 13 < 400 by omega)) (fun x h s2 hs q => ?_)
                obtain ⟨rfl, q1⟩ := q
                rw [q1] at hs
                show B_R _ _ (266, [(1, .int (Zi (D_see s a))), (0, .ref 83)], []) _ _ _
                refine Z_go (f2 := (267, [(1, .int (Zi (D_see s a))), (0, .ref 83)], [.int (Zi 1)])) (fun _ => rfl) ?_
                refine Z_iret rfl rfl (by first | rfl | decide | exact narrow_b01 (by omega)) ⟨_, hs, ?_, rfl⟩
                have q4 : R_cnp (R_sF s 22 (s.1 22 - 1)) w2 o2.2.2.2.2 := by
                  rcases q4 with q4 | q4
                  · omega
                  · exact q4.2
                obtain ⟨E, hE, hEl⟩ := q4.ap
                have hE13 := hE.f13
                have hE15 := hE.f15
                have hE22 := hE.f 22 (by decide) (by decide)
                have hEn : E.length ≤ 1 := by rw [hEl]; split <;> omega
                simp only [List.length_nil] at hE15
                have u13 : (R_sF s 22 (s.1 22 - 1)).1 13 = s.1 13 := R_sF_n _ _ (by decide)
                have u15 : (R_sF s 22 (s.1 22 - 1)).1 15 = s.1 15 := R_sF_n _ _ (by decide)
                have u22 : (R_sF s 22 (s.1 22 - 1)).1 22 = s.1 22 - 1 := R_sF_s _ _ _
                refine ⟨1, o2.2.1, _, _, _, rfl, rfl, .inr rfl, (((R_fr_22 s _).tr hE.fr).tr (R_ap_em _ 6 0 0).fr), by omega, by omega, fun _ => ⟨by omega, by unfold R_nb; rw [R_em_13, R_em_f _ _ _ _ (by decide), R_em_f _ _ _ _ (by decide)]; omega⟩, fun hf o c st hc => ?_, fun hf hp => by have := (D_cnt_P sn (a + 1) f p (by omega)).2 hf (by omega); rw [ho2] at this; exact ⟨this.1, this.2.1⟩⟩
                have e := hc.op
                simp only [List.length_cons] at e
                cases st with
                | nil => simp only [List.length_nil] at e; omega
                | cons q r =>
                  obtain ⟨o3, c3⟩ := q
                  have ht := P_tail_D sn (P_orj o c) (a + 1) f p o3 c3 r (by omega) hf
                  rw [ho2] at ht
                  unfold P_step
                  dsimp only
                  rw [if_neg (show ¬ D_see s a = -1 by omega), if_neg (show ¬ D_see s a = 124 by omega), if_neg (show ¬ D_see s a = 40 by omega), if_pos (show D_see s a = 41 by omega)]
                  cases et : P_tail (D_see s) (P_orj o c) (a + 1) o3 c3 r using P_M_el with
                  | done => rw [et] at ht; exact ht.elim
                  | bad k wh =>
                    rw [et] at ht
                    obtain ⟨z1, z2, z3, z4⟩ := (ht : _ ∧ _ ∧ _ ∧ _)
                    exact ⟨z1, z2, z3, z4.elim (fun h => by omega) (fun h => .inr h.2)⟩
                  | go b st2 =>
                    rw [et] at ht
                    obtain ⟨z1, z2, z3, z4⟩ := (ht : _ ∧ _ ∧ _ ∧ _)
                    rcases R_cf_orj hc (fun _ => trivial) with ⟨t0, t1⟩ | ⟨t0, t1⟩
                    · exact ⟨rfl, z2, z3, z4.symm ▸ R_s_clo (.inl rfl) t1 hc rfl q4 (fun q e => D_cnt_op (by rw [ho2]; exact e))⟩
                    · omega
              · refine Z_go (f2 := (257, [(1, .int (Zi (D_see s a))), (0, .ref 83)], [.int (Zi 0)])) (fun _ => rfl) ?_
                refine Z_iret rfl rfl (by first | rfl | decide | exact narrow_b01 (by omega)) ⟨_, hs, ?_, rfl⟩
                have hE : R_ap (R_sF s 22 (s.1 22 - 1)) w2 [] [] := by
                  rcases q4 with q4 | q4
                  · exact q4.2
                  · omega
                refine ⟨0, o2.2.1, _, _, _, rfl, rfl, .inl rfl, ((R_fr_22 s _).tr hE.fr), by omega, by omega, fun e => absurd e (by decide), fun hf o c st hc => ?_, fun hf hp => by have := (D_cnt_P sn (a + 1) f p (by omega)).2 hf (by omega); rw [ho2] at this; exact ⟨this.1, this.2.1⟩⟩
                have e := hc.op
                simp only [List.length_cons] at e
                cases st with
                | nil => simp only [List.length_nil] at e; omega
                | cons q r =>
                  obtain ⟨o3, c3⟩ := q
                  have ht := P_tail_D sn (P_orj o c) (a + 1) f p o3 c3 r (by omega) hf
                  rw [ho2] at ht
                  unfold P_step
                  dsimp only
                  rw [if_neg (show ¬ D_see s a = -1 by omega), if_neg (show ¬ D_see s a = 124 by omega), if_neg (show ¬ D_see s a = 40 by omega), if_pos (show D_see s a = 41 by omega)]
                  cases et : P_tail (D_see s) (P_orj o c) (a + 1) o3 c3 r using P_M_el with
                  | done => rw [et] at ht; exact ht.elim
                  | bad k wh =>
                    rw [et] at ht
                    obtain ⟨z1, z2, z3, z4⟩ := (ht : _ ∧ _ ∧ _ ∧ _)
                    exact ⟨z1, z2, z3, .inl rfl⟩
                  | go b st2 =>
                    rw [et] at ht
                    obtain ⟨z1, z2, z3, z4⟩ := (ht : _ ∧ _ ∧ _ ∧ _)
                    omega
            · refine Z_go (f2 := (209, [(1, .int (Zi (D_see s a))), (0, .ref 83)], [.ref 83])) (fun _ => rfl) ?_
              refine Z_go (f2 := (211, [(1, .int (Zi (D_see s a))), (0, .ref 83)], [.int (Zi 7), .ref 83])) (fun _ => rfl) ?_
              refine Z_go (f2 := (212, [(1, .int (Zi (D_see s a))), (0, .ref 83)], [.int (Zi 0), .int (Zi 7), .ref 83])) (fun _ => rfl) ?_
              refine Z_go (f2 := (213, [(1, .int (Zi (D_see s a))), (0, .ref 83)], [.int (Zi 0), .int (Zi 0), .int (Zi 7), .ref 83])) (fun _ => rfl) ?_
              refine R_call (As := [.int (Zi 7), .int (Zi 0), .int (Zi 0)]) (rest := []) rfl (by decide) rfl rfl rfl rfl (by decide +kernel) (Nat.le_of_ble_eq_true rfl) hs (R_emit2 _ s a f p (by first | assumption | exact hs.zF _ | exact hs.zA _ _ | exact zS _ | exact ⟨by omega, by omega⟩ | omega) (by first | assumption | exact hs.zF _ | exact hs.zA _ _ | exact zS _ | exact ⟨by omega, by omega⟩ | omega) (by first | assumption | exact hs.zF _ | exact hs.zA _ _ | exact zS _ | exact ⟨by omega, by omega⟩ | omega) (show 0 ≤ s.1 13 by omega) (show s.1 13 < 400 by omega)) (fun x h s2 hs q => ?_)
              obtain ⟨rfl, q1⟩ := q
              rw [q1] at hs
              show B_R _ _ (216, [(1, .int (Zi (D_see s a))), (0, .ref 83)], []) _ _ _
              refine Z_go (f2 := (217, [(1, .int (Zi (D_see s a))), (0, .ref 83)], [.ref 83])) (fun _ => rfl) ?_
              refine Z_go (f2 := (218, [(1, .int (Zi (D_see s a))), (0, .ref 83)], [.ref 83, .ref 83])) (fun _ => rfl) ?_
              refine R_gi rfl hs rfl ?_
              show B_R _ _ (221, [(1, .int (Zi (D_see s a))), (0, .ref 83)], [.int (Zi (s.1 22)), .ref 83]) _ _ _
              refine Z_go (f2 := (222, [(1, .int (Zi (D_see s a))), (0, .ref 83)], [.int (Zi 1), .int (Zi (s.1 22)), .ref 83])) (fun _ => rfl) ?_
              refine Z_isub rfl ?_
              refine R_pf rfl hs rfl (by first | exact hs.zF _ | exact Zor_r _ _ | exact hs.zA _ _ | assumption | exact zS _ | exact Zr_not (hs.zA _ _) | exact ⟨by omega, by omega⟩) ⟨rfl, rfl, rfl⟩ (fun h hs => ?_)
              rw [R_p3_22] at hs
              refine Z_go (f2 := (227, [(1, .int (Zi (D_see s a))), (0, .ref 83)], [.ref 83])) (fun _ => rfl) ?_
              refine Z_go (f2 := (228, [(1, .int (Zi (D_see s a))), (0, .ref 83)], [.ref 83, .ref 83])) (fun _ => rfl) ?_
              refine R_gi rfl hs rfl ?_
              show B_R _ _ (231, [(1, .int (Zi (D_see s a))), (0, .ref 83)], [.int (Zi a), .ref 83]) _ _ _
              refine Z_go (f2 := (232, [(1, .int (Zi (D_see s a))), (0, .ref 83)], [.int (Zi 1), .int (Zi a), .ref 83])) (fun _ => rfl) ?_
              refine Z_iadd rfl ?_
              refine R_pf rfl hs rfl (by first | exact hs.zF _ | exact Zor_r _ _ | exact hs.zA _ _ | assumption | exact zS _ | exact Zr_not (hs.zA _ _) | exact ⟨by omega, by omega⟩) ⟨rfl, rfl, rfl⟩ (fun h hs => ?_)
              rw [R_p3_16] at hs
              refine Z_go (f2 := (249, [(1, .int (Zi (D_see s a))), (0, .ref 83)], [])) (fun _ => rfl) ?_
              refine Z_go (f2 := (250, [(1, .int (Zi (D_see s a))), (0, .ref 83)], [.ref 83])) (fun _ => rfl) ?_
              refine R_call (As := []) (rest := []) rfl (by decide) rfl rfl rfl rfl (by decide +kernel) (Nat.le_of_ble_eq_true rfl) hs (R_counted _ (R_sF (R_em s 7 0 0) 22 (s.1 22 - 1)) (a + 1) f p (by omega) (show a + 1 ≤ s.1 1 by omega) (show s.1 1 ≤ 80 by omega) tb (show 0 ≤ (s.1 13) + 1 by omega) (show (s.1 13) + 1 < 400 by omega)) (fun x h s2 hs q => ?_)
              have hw13 : (R_sF (R_em s 7 0 0) 22 (s.1 22 - 1)).1 13 = (s.1 13) + 1 := rfl
              have hw1 : (R_sF (R_em s 7 0 0) 22 (s.1 22 - 1)).1 1 = s.1 1 := rfl
              have esD : D_see (R_sF (R_em s 7 0 0) 22 (s.1 22 - 1)) = D_see s := rfl
              rw [esD] at q
              have hC := D_cnt_n sn (a + 1) f p (by omega)
              generalize ho2 : D_cnt (D_see s) (a + 1) f p = o2 at q hC
              obtain ⟨rfl, w2, q3, q4⟩ := q
              rw [q3] at hs
              obtain ⟨hC1, hC2, hC3, hC4⟩ := hC
              have q13 : w2.1 13 ≤ (s.1 13) + 1 + 1 ∧ 0 ≤ w2.1 13 := by
                rcases q4 with ⟨_, q4⟩ | ⟨_, q4⟩
                · have := q4.f13; simp only [List.length_nil] at this; omega
                · obtain ⟨E, q5, q6⟩ := q4.ap
                  have := q5.f13
                  have : E.length ≤ 1 := by rw [q6]; split <;> omega
                  omega
              show B_R _ _ (253, [(1, .int (Zi (D_see s a))), (0, .ref 83)], [.int (Zi (o2.1))]) _ _ _
              refine Z_ine rfl rfl (by first | exact hs.zF _ | exact Zor_r _ _ | exact hs.zA _ _ | assumption | exact zS _ | exact Zr_not (hs.zA _ _) | exact ⟨by omega, by omega⟩) (fun c10 => ?_) (fun c10 => ?_)
              · refine Z_go (f2 := (259, [(1, .int (Zi (D_see s a))), (0, .ref 83)], [.ref 83])) (fun _ => rfl) ?_
                refine Z_go (f2 := (261, [(1, .int (Zi (D_see s a))), (0, .ref 83)], [.int (Zi 6), .ref 83])) (fun _ => rfl) ?_
                refine Z_go (f2 := (262, [(1, .int (Zi (D_see s a))), (0, .ref 83)], [.int (Zi 0), .int (Zi 6), .ref 83])) (fun _ => rfl) ?_
                refine Z_go (f2 := (263, [(1, .int (Zi (D_see s a))), (0, .ref 83)], [.int (Zi 0), .int (Zi 0), .int (Zi 6), .ref 83])) (fun _ => rfl) ?_
                refine R_call (As := [.int (Zi 6), .int (Zi 0), .int (Zi 0)]) (rest := []) rfl (by decide) rfl rfl rfl rfl (by decide +kernel) (Nat.le_of_ble_eq_true rfl) hs (R_emit2 _ w2 o2.2.1 o2.2.2.1 o2.2.2.2.1 (by first | assumption | exact hs.zF _ | exact hs.zA _ _ | exact zS _ | exact ⟨by omega, by omega⟩ | omega) (by first | assumption | exact hs.zF _ | exact hs.zA _ _ | exact zS _ | exact ⟨by omega, by omega⟩ | omega) (by first | assumption | exact hs.zF _ | exact hs.zA _ _ | exact zS _ | exact ⟨by omega, by omega⟩ | omega) (show 0 ≤ w2.1 13 by omega) (show w2.1 13 < 400 by omega)) (fun x h s2 hs q => ?_)
                obtain ⟨rfl, q1⟩ := q
                rw [q1] at hs
                show B_R _ _ (266, [(1, .int (Zi (D_see s a))), (0, .ref 83)], []) _ _ _
                refine Z_go (f2 := (267, [(1, .int (Zi (D_see s a))), (0, .ref 83)], [.int (Zi 1)])) (fun _ => rfl) ?_
                refine Z_iret rfl rfl (by first | rfl | decide | exact narrow_b01 (by omega)) ⟨_, hs, ?_, rfl⟩
                have q4 : R_cnp (R_sF (R_em s 7 0 0) 22 (s.1 22 - 1)) w2 o2.2.2.2.2 := by
                  rcases q4 with q4 | q4
                  · omega
                  · exact q4.2
                obtain ⟨E, hE, hEl⟩ := q4.ap
                have hE13 := hE.f13
                have hE15 := hE.f15
                have hE22 := hE.f 22 (by decide) (by decide)
                have hEn : E.length ≤ 1 := by rw [hEl]; split <;> omega
                simp only [List.length_nil] at hE15
                have u13 : (R_sF (R_em s 7 0 0) 22 (s.1 22 - 1)).1 13 = s.1 13 + 1 := (R_sF_n _ _ (by decide)).trans (R_em_13 s 7 0 0)
                have u15 : (R_sF (R_em s 7 0 0) 22 (s.1 22 - 1)).1 15 = s.1 15 := (R_sF_n _ _ (by decide)).trans (R_em_f s 7 0 0 (by decide))
                have u22 : (R_sF (R_em s 7 0 0) 22 (s.1 22 - 1)).1 22 = s.1 22 - 1 := R_sF_s _ _ _
                refine ⟨1, o2.2.1, _, _, _, rfl, rfl, .inr rfl, ((((R_ap_em s 7 0 0).fr.tr (R_fr_22 _ _)).tr hE.fr).tr (R_ap_em _ 6 0 0).fr), by omega, by omega, fun _ => ⟨by omega, by unfold R_nb; rw [R_em_13, R_em_f _ _ _ _ (by decide), R_em_f _ _ _ _ (by decide)]; omega⟩, fun hf o c st hc => ?_, fun hf hp => by have := (D_cnt_P sn (a + 1) f p (by omega)).2 hf (by omega); rw [ho2] at this; exact ⟨this.1, this.2.1⟩⟩
                have e := hc.op
                simp only [List.length_cons] at e
                cases st with
                | nil => simp only [List.length_nil] at e; omega
                | cons q r =>
                  obtain ⟨o3, c3⟩ := q
                  have ht := P_tail_D sn (P_orj o c) (a + 1) f p o3 c3 r (by omega) hf
                  rw [ho2] at ht
                  unfold P_step
                  dsimp only
                  rw [if_neg (show ¬ D_see s a = -1 by omega), if_neg (show ¬ D_see s a = 124 by omega), if_neg (show ¬ D_see s a = 40 by omega), if_pos (show D_see s a = 41 by omega)]
                  cases et : P_tail (D_see s) (P_orj o c) (a + 1) o3 c3 r using P_M_el with
                  | done => rw [et] at ht; exact ht.elim
                  | bad k wh =>
                    rw [et] at ht
                    obtain ⟨z1, z2, z3, z4⟩ := (ht : _ ∧ _ ∧ _ ∧ _)
                    exact ⟨z1, z2, z3, z4.elim (fun h => by omega) (fun h => .inr h.2)⟩
                  | go b st2 =>
                    rw [et] at ht
                    obtain ⟨z1, z2, z3, z4⟩ := (ht : _ ∧ _ ∧ _ ∧ _)
                    rcases R_cf_orj hc (fun _ => trivial) with ⟨t0, t1⟩ | ⟨t0, t1⟩
                    · omega
                    · exact ⟨rfl, z2, z3, z4.symm ▸ R_s_clo (.inr rfl) t1 hc rfl q4 (fun q e => D_cnt_op (by rw [ho2]; exact e))⟩
              · refine Z_go (f2 := (257, [(1, .int (Zi (D_see s a))), (0, .ref 83)], [.int (Zi 0)])) (fun _ => rfl) ?_
                refine Z_iret rfl rfl (by first | rfl | decide | exact narrow_b01 (by omega)) ⟨_, hs, ?_, rfl⟩
                have hE : R_ap (R_sF (R_em s 7 0 0) 22 (s.1 22 - 1)) w2 [] [] := by
                  rcases q4 with q4 | q4
                  · exact q4.2
                  · omega
                refine ⟨0, o2.2.1, _, _, _, rfl, rfl, .inl rfl, (((R_ap_em s 7 0 0).fr.tr (R_fr_22 _ _)).tr hE.fr), by omega, by omega, fun e => absurd e (by decide), fun hf o c st hc => ?_, fun hf hp => by have := (D_cnt_P sn (a + 1) f p (by omega)).2 hf (by omega); rw [ho2] at this; exact ⟨this.1, this.2.1⟩⟩
                have e := hc.op
                simp only [List.length_cons] at e
                cases st with
                | nil => simp only [List.length_nil] at e; omega
                | cons q r =>
                  obtain ⟨o3, c3⟩ := q
                  have ht := P_tail_D sn (P_orj o c) (a + 1) f p o3 c3 r (by omega) hf
                  rw [ho2] at ht
                  unfold P_step
                  dsimp only
                  rw [if_neg (show ¬ D_see s a = -1 by omega), if_neg (show ¬ D_see s a = 124 by omega), if_neg (show ¬ D_see s a = 40 by omega), if_pos (show D_see s a = 41 by omega)]
                  cases et : P_tail (D_see s) (P_orj o c) (a + 1) o3 c3 r using P_M_el with
                  | done => rw [et] at ht; exact ht.elim
                  | bad k wh =>
                    rw [et] at ht
                    obtain ⟨z1, z2, z3, z4⟩ := (ht : _ ∧ _ ∧ _ ∧ _)
                    exact ⟨z1, z2, z3, .inl rfl⟩
                  | go b st2 =>
                    rw [et] at ht
                    obtain ⟨z1, z2, z3, z4⟩ := (ht : _ ∧ _ ∧ _ ∧ _)
                    omega
          · refine Z_go (f2 := (186, [(1, .int (Zi (D_see s a))), (0, .ref 83)], [.ref 83])) (fun _ => rfl) ?_
            refine Z_go (f2 := (187, [(1, .int (Zi (D_see s a))), (0, .ref 83)], [.int (Zi 1), .ref 83])) (fun _ => rfl) ?_
            refine Z_go (f2 := (188, [(1, .int (Zi (D_see s a))), (0, .ref 83)], [.ref 83, .int (Zi 1), .ref 83])) (fun _ => rfl) ?_
            refine R_gi rfl hs rfl ?_
            show B_R _ _ (191, [(1, .int (Zi (D_see s a))), (0, .ref 83)], [.int (Zi a), .int (Zi 1), .ref 83]) _ _ _
            refine R_call (As := [.int (Zi 1), .int (Zi a)]) (rest := []) rfl (by decide) rfl rfl rfl rfl (by decide +kernel) (Nat.le_of_ble_eq_true rfl) hs (R_fail2 _ s a f p (by first | assumption | exact hs.zF _ | exact hs.zA _ _ | exact zS _ | exact ⟨by omega, by omega⟩ | omega) (by first | assumption | exact hs.zF _ | exact hs.zA _ _ | exact zS _ | exact ⟨by omega, by omega⟩ | omega)) (fun x h s2 hs q => ?_)
            obtain ⟨rfl, q1⟩ := q
            rw [q1] at hs
            have zff : Zr (D_ff f p 1 a).1 := hs.zF 18
            show B_R _ _ (194, [(1, .int (Zi (D_see s a))), (0, .ref 83)], []) _ _ _
            refine Z_go (f2 := (195, [(1, .int (Zi (D_see s a))), (0, .ref 83)], [.int (Zi 0)])) (fun _ => rfl) ?_
            refine Z_iret rfl rfl (by first | rfl | decide | exact narrow_b01 (by omega)) ⟨_, hs, ?_, rfl⟩
            refine ⟨0, a, _, _, s, rfl, rfl, .inl rfl, (R_ap_0 s).fr, by omega, by omega, fun e => absurd e (by decide), fun hf o c st hc => ?_, fun hf hp => by rw [D_ff_n hf hp]; exact ⟨rfl, rfl⟩⟩
            have e := hc.op
            simp only [List.length_cons] at e
            cases st with
            | cons q r => simp only [List.length_cons] at e; omega
            | nil =>
              unfold P_step
              dsimp only
              rw [if_neg (show ¬ D_see s a = -1 by omega), if_neg (show ¬ D_see s a = 124 by omega), if_neg (show ¬ D_see s a = 40 by omega), if_pos (show D_see s a = 41 by omega)]
              rw [hf, D_ff_0]
              exact ⟨rfl, rfl, by decide, .inl rfl⟩
      · refine Z_go (f2 := (94, [(1, .int (Zi (D_see s a))), (0, .ref 83)], [.ref 83])) (fun _ => rfl) ?_
        refine R_gi rfl hs rfl ?_
        show B_R _ _ (97, [(1, .int (Zi (D_see s a))), (0, .ref 83)], [.int (Zi (s.1 22))]) _ _ _
        refine Z_go (f2 := (99, [(1, .int (Zi (D_see s a))), (0, .ref 83)], [.int (Zi 10), .int (Zi (s.1 22))])) (fun _ => rfl) ?_
        refine Z_cne rfl rfl (by first | exact hs.zF _ | exact Zor_r _ _ | exact hs.zA _ _ | assumption | exact zS _ | exact Zr_not (hs.zA _ _) | exact ⟨by omega, by omega⟩) (by first | exact hs.zF _ | exact Zor_r _ _ | exact hs.zA _ _ | assumption | exact zS _ | exact Zr_not (hs.zA _ _) | exact ⟨by omega, by omega⟩) (fun c11 => ?_) (fun c11 => ?_)
        · refine Z_go (f2 := (112, [(1, .int (Zi (D_see s a))), (0, .ref 83)], [.ref 83])) (fun _ => rfl) ?_
          refine R_gi rfl hs rfl ?_
          show B_R _ _ (115, [(1, .int (Zi (D_see s a))), (0, .ref 83)], [.int (Zi (s.1 22))]) _ _ _
          refine Z_go (f2 := (117, [(1, .int (Zi (D_see s a))), (0, .ref 83)], [.int (Zi 11), .int (Zi (s.1 22))])) (fun _ => rfl) ?_
          refine Z_cne rfl rfl (by first | exact hs.zF _ | exact Zor_r _ _ | exact hs.zA _ _ | assumption | exact zS _ | exact Zr_not (hs.zA _ _) | exact ⟨by omega, by omega⟩) (by first | exact hs.zF _ | exact Zor_r _ _ | exact hs.zA _ _ | assumption | exact zS _ | exact Zr_not (hs.zA _ _) | exact ⟨by omega, by omega⟩) (fun c12 => ?_) (fun c12 => ?_)
          · refine Z_go (f2 := (123, [(1, .int (Zi (D_see s a))), (0, .ref 83)], [.ref 83])) (fun _ => rfl) ?_
            refine Z_go (f2 := (124, [(1, .int (Zi (D_see s a))), (0, .ref 83)], [.ref 83, .ref 83])) (fun _ => rfl) ?_
            refine R_gi rfl hs rfl ?_
            show B_R _ _ (127, [(1, .int (Zi (D_see s a))), (0, .ref 83)], [.int (Zi (s.1 22)), .ref 83]) _ _ _
            refine Z_go (f2 := (128, [(1, .int (Zi (D_see s a))), (0, .ref 83)], [.int (Zi 1), .int (Zi (s.1 22)), .ref 83])) (fun _ => rfl) ?_
            refine Z_iadd rfl ?_
            refine R_pf rfl hs rfl (by first | exact hs.zF _ | exact Zor_r _ _ | exact hs.zA _ _ | assumption | exact zS _ | exact Zr_not (hs.zA _ _) | exact ⟨by omega, by omega⟩) ⟨rfl, rfl, rfl⟩ (fun h hs => ?_)
            rw [R_p3_22] at hs
            refine Z_go (f2 := (133, [(1, .int (Zi (D_see s a))), (0, .ref 83)], [.ref 83])) (fun _ => rfl) ?_
            refine R_gr (q := 92) rfl hs rfl ?_
            show B_R _ _ (136, [(1, .int (Zi (D_see s a))), (0, .ref 83)], [.ref 94]) _ _ _
            refine Z_go (f2 := (137, [(1, .int (Zi (D_see s a))), (0, .ref 83)], [.ref 83, .ref 94])) (fun _ => rfl) ?_
            refine R_gi rfl hs rfl ?_
            show B_R _ _ (140, [(1, .int (Zi (D_see s a))), (0, .ref 83)], [.int (Zi (s.1 22 + 1)), .ref 94]) _ _ _
            refine Z_go (f2 := (141, [(1, .int (Zi (D_see s a))), (0, .ref 83)], [.int (Zi 0), .int (Zi (s.1 22 + 1)), .ref 94])) (fun _ => rfl) ?_
            refine R_bs (q := 10) rfl hs rfl rfl (by omega) (by omega) (by decide) (by first | exact .inl rfl | exact .inr rfl | assumption) (fun h hs => ?_)
            have hs : R_is h0 h (R_p3 (R_sA (R_sF s 22 (s.1 22 + 1)) 94 (s.1 22 + 1) 0) a f p) := hs
            refine Z_go (f2 := (143, [(1, .int (Zi (D_see s a))), (0, .ref 83)], [.ref 83])) (fun _ => rfl) ?_
            refine Z_go (f2 := (144, [(1, .int (Zi (D_see s a))), (0, .ref 83)], [.int (Zi 5), .ref 83])) (fun _ => rfl) ?_
            refine Z_go (f2 := (145, [(1, .int (Zi (D_see s a))), (0, .ref 83)], [.int (Zi 0), .int (Zi 5), .ref 83])) (fun _ => rfl) ?_
            refine Z_go (f2 := (146, [(1, .int (Zi (D_see s a))), (0, .ref 83)], [.int (Zi 0), .int (Zi 0), .int (Zi 5), .ref 83])) (fun _ => rfl) ?_
            refine R_call (As := [.int (Zi 5), .int (Zi 0), .int (Zi 0)]) (rest := []) rfl (by decide) rfl rfl rfl rfl (by decide +kernel) (Nat.le_of_ble_eq_true rfl) hs (R_emit2 _ (R_sA (R_sF s 22 (s.1 22 + 1)) 94 (s.1 22 + 1) 0) a f p (by first | assumption | exact hs.zF _ | exact hs.zA _ _ | exact zS _ | exact ⟨by omega, by omega⟩ | omega) (by first | assumption | exact hs.zF _ | exact hs.zA _ _ | exact zS _ | exact ⟨by omega, by omega⟩ | omega) (by first | assumption | exact hs.zF _ | exact hs.zA _ _ | exact zS _ | exact ⟨by omega, by omega⟩ | omega) (show 0 ≤ s.1 13 by omega) (show s.1 13 < 400 by omega)) (fun x h s2 hs q => ?_)
            obtain ⟨rfl, q1⟩ := q
            rw [q1] at hs
            show B_R _ _ (149, [(1, .int (Zi (D_see s a))), (0, .ref 83)], []) _ _ _
            refine Z_go (f2 := (150, [(1, .int (Zi (D_see s a))), (0, .ref 83)], [.ref 83])) (fun _ => rfl) ?_
            refine Z_go (f2 := (151, [(1, .int (Zi (D_see s a))), (0, .ref 83)], [.ref 83, .ref 83])) (fun _ => rfl) ?_
            refine R_gi rfl hs rfl ?_
            show B_R _ _ (154, [(1, .int (Zi (D_see s a))), (0, .ref 83)], [.int (Zi a), .ref 83]) _ _ _
            refine Z_go (f2 := (155, [(1, .int (Zi (D_see s a))), (0, .ref 83)], [.int (Zi 1), .int (Zi a), .ref 83])) (fun _ => rfl) ?_
            refine Z_iadd rfl ?_
            refine R_pf rfl hs rfl (by first | exact hs.zF _ | exact Zor_r _ _ | exact hs.zA _ _ | assumption | exact zS _ | exact Zr_not (hs.zA _ _) | exact ⟨by omega, by omega⟩) ⟨rfl, rfl, rfl⟩ (fun h hs => ?_)
            rw [R_p3_16] at hs
            refine Z_go (f2 := (160, [(1, .int (Zi (D_see s a))), (0, .ref 83)], [.ref 83])) (fun _ => rfl) ?_
            refine R_gi rfl hs rfl ?_
            show B_R _ _ (163, [(1, .int (Zi (D_see s a))), (0, .ref 83)], [.int (Zi f)]) _ _ _
            refine Z_ine rfl rfl (by first | exact hs.zF _ | exact Zor_r _ _ | exact hs.zA _ _ | assumption | exact zS _ | exact Zr_not (hs.zA _ _) | exact ⟨by omega, by omega⟩) (fun c13 => ?_) (fun c13 => ?_)
            · refine Z_go (f2 := (171, [(1, .int (Zi (D_see s a))), (0, .ref 83)], [.int (Zi 0)])) (fun _ => rfl) ?_
              refine Z_iret rfl rfl (by first | rfl | decide | exact narrow_b01 (by omega)) ⟨_, hs, ?_, rfl⟩
              refine ⟨0, a + 1, f, p, _, rfl, rfl, .inl rfl, (((R_fr_22 s _).tr (R_fr_94 _ _ _)).tr (R_ap_em _ 5 0 0).fr), by omega, by omega, fun e => absurd e (by decide), fun hf o c st hc => ?_, fun hf hp => ⟨rfl, rfl⟩⟩
              exact absurd hf (by assumption)
            · refine Z_go (f2 := (167, [(1, .int (Zi (D_see s a))), (0, .ref 83)], [.int (Zi 1)])) (fun _ => rfl) ?_
              refine Z_go (f2 := (171, [(1, .int (Zi (D_see s a))), (0, .ref 83)], [.int (Zi 1)])) (fun _ => rfl) ?_
              refine Z_iret rfl rfl (by first | rfl | decide | exact narrow_b01 (by omega)) ⟨_, hs, ?_, rfl⟩
              have w13 : (R_sA (R_sF s 22 (s.1 22 + 1)) 94 (s.1 22 + 1) 0).1 13 = s.1 13 := rfl
              have w15 : (R_sA (R_sF s 22 (s.1 22 + 1)) 94 (s.1 22 + 1) 0).1 15 = s.1 15 := rfl
              have w22 : (R_sA (R_sF s 22 (s.1 22 + 1)) 94 (s.1 22 + 1) 0).1 22 = s.1 22 + 1 := rfl
              refine ⟨1, a + 1, f, p, _, rfl, rfl, .inr rfl, (((R_fr_22 s _).tr (R_fr_94 _ _ _)).tr (R_ap_em _ 5 0 0).fr), by omega, by omega, fun _ => ⟨by omega, by unfold R_nb; rw [R_em_13, R_em_f _ _ _ _ (by decide), R_em_f _ _ _ _ (by decide)]; omega⟩, fun hf o c st hc => ?_, fun hf hp => ⟨rfl, rfl⟩⟩
              have e := hc.op
              simp only [List.length_cons] at e
              unfold P_step
              dsimp only
              rw [if_neg (show ¬ D_see s a = -1 by omega), if_neg (show ¬ D_see s a = 124 by omega), if_pos (show D_see s a = 40 by omega), if_neg (show ¬ st.length = 10 by omega)]
              exact ⟨rfl, hf, rfl, R_s_open hc⟩
          · refine Z_go (f2 := (121, [(1, .int (Zi (D_see s a))), (0, .ref 83)], [.int (Zi 0)])) (fun _ => rfl) ?_
            refine Z_iret rfl rfl (by first | rfl | decide | exact narrow_b01 (by omega)) ⟨_, hs, ?_, rfl⟩
            exfalso; omega
        · refine Z_go (f2 := (103, [(1, .int (Zi (D_see s a))), (0, .ref 83)], [.ref 83])) (fun _ => rfl) ?_
          refine Z_go (f2 := (104, [(1, .int (Zi (D_see s a))), (0, .ref 83)], [.int (Zi 3), .ref 83])) (fun _ => rfl) ?_
          refine Z_go (f2 := (105, [(1, .int (Zi (D_see s a))), (0, .ref 83)], [.ref 83, .int (Zi 3), .ref 83])) (fun _ => rfl) ?_
          refine R_gi rfl hs rfl ?_
          show B_R _ _ (108, [(1, .int (Zi (D_see s a))), (0, .ref 83)], [.int (Zi a), .int (Zi 3), .ref 83]) _ _ _
          refine R_call (As := [.int (Zi 3), .int (Zi a)]) (rest := []) rfl (by decide) rfl rfl rfl rfl (by decide +kernel) (Nat.le_of_ble_eq_true rfl) hs (R_fail2 _ s a f p (by first | assumption | exact hs.zF _ | exact hs.zA _ _ | exact zS _ | exact ⟨by omega, by omega⟩ | omega) (by first | assumption | exact hs.zF _ | exact hs.zA _ _ | exact zS _ | exact ⟨by omega, by omega⟩ | omega)) (fun x h s2 hs q => ?_)
          obtain ⟨rfl, q1⟩ := q
          rw [q1] at hs
          have zff : Zr (D_ff f p 3 a).1 := hs.zF 18
          show B_R _ _ (111, [(1, .int (Zi (D_see s a))), (0, .ref 83)], []) _ _ _
          refine Z_go (f2 := (112, [(1, .int (Zi (D_see s a))), (0, .ref 83)], [.ref 83])) (fun _ => rfl) ?_
          refine R_gi rfl hs rfl ?_
          show B_R _ _ (115, [(1, .int (Zi (D_see s a))), (0, .ref 83)], [.int (Zi (s.1 22))]) _ _ _
          refine Z_go (f2 := (117, [(1, .int (Zi (D_see s a))), (0, .ref 83)], [.int (Zi 11), .int (Zi (s.1 22))])) (fun _ => rfl) ?_
          refine Z_cne rfl rfl (by first | exact hs.zF _ | exact Zor_r _ _ | exact hs.zA _ _ | assumption | exact zS _ | exact Zr_not (hs.zA _ _) | exact ⟨by omega, by omega⟩) (by first | exact hs.zF _ | exact Zor_r _ _ | exact hs.zA _ _ | assumption | exact zS _ | exact Zr_not (hs.zA _ _) | exact ⟨by omega, by omega⟩) (fun c14 => ?_) (fun c14 => ?_)
          · refine Z_go (f2 := (123, [(1, .int (Zi (D_see s a))), (0, .ref 83)], [.ref 83])) (fun _ => rfl) ?_
            refine Z_go (f2 := (124, [(1, .int (Zi (D_see s a))), (0, .ref 83)], [.ref 83, .ref 83])) (fun _ => rfl) ?_
            refine R_gi rfl hs rfl ?_
            show B_R _ _ (127, [(1, .int (Zi (D_see s a))), (0, .ref 83)], [.int (Zi (s.1 22)), .ref 83]) _ _ _
            refine Z_go (f2 := (128, [(1, .int (Zi (D_see s a))), (0, .ref 83)], [.int (Zi 1), .int (Zi (s.1 22)), .ref 83])) (fun _ => rfl) ?_
            refine Z_iadd rfl ?_
            refine R_pf rfl hs rfl (by first | exact hs.zF _ | exact Zor_r _ _ | exact hs.zA _ _ | assumption | exact zS _ | exact Zr_not (hs.zA _ _) | exact ⟨by omega, by omega⟩) ⟨rfl, rfl, rfl⟩ (fun h hs => ?_)
            rw [R_p3_22] at hs
            refine Z_go (f2 := (133, [(1, .int (Zi (D_see s a))), (0, .ref 83)], [.ref 83])) (fun _ => rfl) ?_
            refine R_gr (q := 92) rfl hs rfl ?_
            show B_R _ _ (136, [(1, .int (Zi (D_see s a))), (0, .ref 83)], [.ref 94]) _ _ _
            refine Z_go (f2 := (137, [(1, .int (Zi (D_see s a))), (0, .ref 83)], [.ref 83, .ref 94])) (fun _ => rfl) ?_
            refine R_gi rfl hs rfl ?_
            show B_R _ _ (140, [(1, .int (Zi (D_see s a))), (0, .ref 83)], [.int (Zi (s.1 22 + 1)), .ref 94]) _ _ _
            refine Z_go (f2 := (141, [(1, .int (Zi (D_see s a))), (0, .ref 83)], [.int (Zi 0), .int (Zi (s.1 22 + 1)), .ref 94])) (fun _ => rfl) ?_
            refine R_bs (q := 10) rfl hs rfl rfl (by omega) (by omega) (by decide) (by first | exact .inl rfl | exact .inr rfl | assumption) (fun h hs => ?_)
            have hs : R_is h0 h (R_p3 (R_sA (R_sF s 22 (s.1 22 + 1)) 94 (s.1 22 + 1) 0) a (D_ff f p 3 a).1 (D_ff f p 3 a).2) := hs
            refine Z_go (f2 := (143, [(1, .int (Zi (D_see s a))), (0, .ref 83)], [.ref 83])) (fun _ => rfl) ?_
            refine Z_go (f2 := (144, [(1, .int (Zi (D_see s a))), (0, .ref 83)], [.int (Zi 5), .ref 83])) (fun _ => rfl) ?_
            refine Z_go (f2 := (145, [(1, .int (Zi (D_see s a))), (0, .ref 83)], [.int (Zi 0), .int (Zi 5), .ref 83])) (fun _ => rfl) ?_
            refine Z_go (f2 := (146, [(1, .int (Zi (D_see s a))), (0, .ref 83)], [.int (Zi 0), .int (Zi 0), .int (Zi 5), .ref 83])) (fun _ => rfl) ?_
            refine R_call (As := [.int (Zi 5), .int (Zi 0), .int (Zi 0)]) (rest := []) rfl (by decide) rfl rfl rfl rfl (by decide +kernel) (Nat.le_of_ble_eq_true rfl) hs (R_emit2 _ (R_sA (R_sF s 22 (s.1 22 + 1)) 94 (s.1 22 + 1) 0) a (D_ff f p 3 a).1 (D_ff f p 3 a).2 (by first | assumption | exact hs.zF _ | exact hs.zA _ _ | exact zS _ | exact ⟨by omega, by omega⟩ | omega) (by first | assumption | exact hs.zF _ | exact hs.zA _ _ | exact zS _ | exact ⟨by omega, by omega⟩ | omega) (by first | assumption | exact hs.zF _ | exact hs.zA _ _ | exact zS _ | exact ⟨by omega, by omega⟩ | omega) (show 0 ≤ s.1 13 by omega) (show s.1 13 < 400 by omega)) (fun x h s2 hs q => ?_)
            obtain ⟨rfl, q1⟩ := q
            rw [q1] at hs
            show B_R _ _ (149, [(1, .int (Zi (D_see s a))), (0, .ref 83)], []) _ _ _
            refine Z_go (f2 := (150, [(1, .int (Zi (D_see s a))), (0, .ref 83)], [.ref 83])) (fun _ => rfl) ?_
            refine Z_go (f2 := (151, [(1, .int (Zi (D_see s a))), (0, .ref 83)], [.ref 83, .ref 83])) (fun _ => rfl) ?_
            refine R_gi rfl hs rfl ?_
            show B_R _ _ (154, [(1, .int (Zi (D_see s a))), (0, .ref 83)], [.int (Zi a), .ref 83]) _ _ _
            refine Z_go (f2 := (155, [(1, .int (Zi (D_see s a))), (0, .ref 83)], [.int (Zi 1), .int (Zi a), .ref 83])) (fun _ => rfl) ?_
            refine Z_iadd rfl ?_
            refine R_pf rfl hs rfl (by first | exact hs.zF _ | exact Zor_r _ _ | exact hs.zA _ _ | assumption | exact zS _ | exact Zr_not (hs.zA _ _) | exact ⟨by omega, by omega⟩) ⟨rfl, rfl, rfl⟩ (fun h hs => ?_)
            rw [R_p3_16] at hs
            refine Z_go (f2 := (160, [(1, .int (Zi (D_see s a))), (0, .ref 83)], [.ref 83])) (fun _ => rfl) ?_
            refine R_gi rfl hs rfl ?_
            show B_R _ _ (163, [(1, .int (Zi (D_see s a))), (0, .ref 83)], [.int (Zi ((D_ff f p 3 a).1))]) _ _ _
            refine Z_ine rfl rfl (by first | exact hs.zF _ | exact Zor_r _ _ | exact hs.zA _ _ | assumption | exact zS _ | exact Zr_not (hs.zA _ _) | exact ⟨by omega, by omega⟩) (fun c15 => ?_) (fun c15 => ?_)
            · refine Z_go (f2 := (171, [(1, .int (Zi (D_see s a))), (0, .ref 83)], [.int (Zi 0)])) (fun _ => rfl) ?_
              refine Z_iret rfl rfl (by first | rfl | decide | exact narrow_b01 (by omega)) ⟨_, hs, ?_, rfl⟩
              refine ⟨0, a + 1, _, _, _, rfl, rfl, .inl rfl, (((R_fr_22 s _).tr (R_fr_94 _ _ _)).tr (R_ap_em _ 5 0 0).fr), by omega, by omega, fun e => absurd e (by decide), fun hf o c st hc => ?_, fun hf hp => by rw [D_ff_n hf hp]; exact ⟨rfl, rfl⟩⟩
              have e := hc.op
              simp only [List.length_cons] at e
              unfold P_step
              dsimp only
              rw [if_neg (show ¬ D_see s a = -1 by omega), if_neg (show ¬ D_see s a = 124 by omega), if_pos (show D_see s a = 40 by omega), if_pos (show st.length = 10 by omega)]
              rw [hf, D_ff_0]
              exact ⟨rfl, rfl, by decide, .inl rfl⟩
            · refine Z_go (f2 := (167, [(1, .int (Zi (D_see s a))), (0, .ref 83)], [.int (Zi 1)])) (fun _ => rfl) ?_
              refine Z_go (f2 := (171, [(1, .int (Zi (D_see s a))), (0, .ref 83)], [.int (Zi 1)])) (fun _ => rfl) ?_
              refine Z_iret rfl rfl (by first | rfl | decide | exact narrow_b01 (by omega)) ⟨_, hs, ?_, rfl⟩
              exfalso
              have hh : (D_ff f p 3 a).1 = 0 := by assumption
              unfold D_ff at hh
              revert hh
              split
              · rename_i q; exact fun e => q.1 e
              · exact fun e => by have e : (3 : Int) = 0 := e; omega
          · refine Z_go (f2 := (121, [(1, .int (Zi (D_see s a))), (0, .ref 83)], [.int (Zi 0)])) (fun _ => rfl) ?_
            refine Z_iret rfl rfl (by first | rfl | decide | exact narrow_b01 (by omega)) ⟨_, hs, ?_, rfl⟩
            exfalso; omega
    · refine Z_go (f2 := (39, [(1, .int (Zi (D_see s a))), (0, .ref 83)], [.ref 83])) (fun _ => rfl) ?_
      refine R_gr (q := 92) rfl hs rfl ?_
      show B_R _ _ (42, [(1, .int (Zi (D_see s a))), (0, .ref 83)], [.ref 94]) _ _ _
      refine Z_go (f2 := (43, [(1, .int (Zi (D_see s a))), (0, .ref 83)], [.ref 83, .ref 94])) (fun _ => rfl) ?_
      refine R_gi rfl hs rfl ?_
      show B_R _ _ (46, [(1, .int (Zi (D_see s a))), (0, .ref 83)], [.int (Zi (s.1 22)), .ref 94]) _ _ _
      refine R_ba (q := 10) rfl hs rfl rfl (by omega) (by omega) (by decide) ?_
      rw [show (R_p3 s a f p).2.1 94 (s.1 22) = s.2.1 94 (s.1 22) by first | rfl | simp [R_sA, R_sF, R_up2, R_fl, R_fL, R_sM, R_sL, R_p3, R_em]]; show B_R _ _ (47, [(1, .int (Zi (D_see s a))), (0, .ref 83)], [.int (Zi (s.2.1 94 (s.1 22)))]) _ _ _
      refine Z_ieq rfl rfl (by first | exact hs.zF _ | exact Zor_r _ _ | exact hs.zA _ _ | assumption | exact zS _ | exact Zr_not (hs.zA _ _) | exact ⟨by omega, by omega⟩) (fun c16 => ?_) (fun c16 => ?_)
      · refine Z_go (f2 := (59, [(1, .int (Zi (D_see s a))), (0, .ref 83)], [.ref 83])) (fun _ => rfl) ?_
        refine R_gr (q := 92) rfl hs rfl ?_
        show B_R _ _ (62, [(1, .int (Zi (D_see s a))), (0, .ref 83)], [.ref 94]) _ _ _
        refine Z_go (f2 := (63, [(1, .int (Zi (D_see s a))), (0, .ref 83)], [.ref 83, .ref 94])) (fun _ => rfl) ?_
        refine R_gi rfl hs rfl ?_
        show B_R _ _ (66, [(1, .int (Zi (D_see s a))), (0, .ref 83)], [.int (Zi (s.1 22)), .ref 94]) _ _ _
        refine Z_go (f2 := (67, [(1, .int (Zi (D_see s a))), (0, .ref 83)], [.int (Zi 1), .int (Zi (s.1 22)), .ref 94])) (fun _ => rfl) ?_
        refine R_bs (q := 10) rfl hs rfl rfl (by omega) (by omega) (by decide) (by first | exact .inl rfl | exact .inr rfl | assumption) (fun h hs => ?_)
        have hs : R_is h0 h (R_p3 (R_sA s 94 (s.1 22) 1) a f p) := hs
        refine Z_go (f2 := (69, [(1, .int (Zi (D_see s a))), (0, .ref 83)], [.ref 83])) (fun _ => rfl) ?_
        refine Z_go (f2 := (70, [(1, .int (Zi (D_see s a))), (0, .ref 83)], [.int (Zi 5), .ref 83])) (fun _ => rfl) ?_
        refine Z_go (f2 := (71, [(1, .int (Zi (D_see s a))), (0, .ref 83)], [.int (Zi 0), .int (Zi 5), .ref 83])) (fun _ => rfl) ?_
        refine Z_go (f2 := (72, [(1, .int (Zi (D_see s a))), (0, .ref 83)], [.int (Zi 0), .int (Zi 0), .int (Zi 5), .ref 83])) (fun _ => rfl) ?_
        refine R_call (As := [.int (Zi 5), .int (Zi 0), .int (Zi 0)]) (rest := []) rfl (by decide) rfl rfl rfl rfl (by decide +kernel) (Nat.le_of_ble_eq_true rfl) hs (R_emit2 _ (R_sA s 94 (s.1 22) 1) a f p (by first | assumption | exact hs.zF _ | exact hs.zA _ _ | exact zS _ | exact ⟨by omega, by omega⟩ | omega) (by first | assumption | exact hs.zF _ | exact hs.zA _ _ | exact zS _ | exact ⟨by omega, by omega⟩ | omega) (by first | assumption | exact hs.zF _ | exact hs.zA _ _ | exact zS _ | exact ⟨by omega, by omega⟩ | omega) (show 0 ≤ s.1 13 by omega) (show s.1 13 < 400 by omega)) (fun x h s2 hs q => ?_)
        obtain ⟨rfl, q1⟩ := q
        rw [q1] at hs
        show B_R _ _ (75, [(1, .int (Zi (D_see s a))), (0, .ref 83)], []) _ _ _
        refine Z_go (f2 := (76, [(1, .int (Zi (D_see s a))), (0, .ref 83)], [.ref 83])) (fun _ => rfl) ?_
        refine Z_go (f2 := (77, [(1, .int (Zi (D_see s a))), (0, .ref 83)], [.ref 83, .ref 83])) (fun _ => rfl) ?_
        refine R_gi rfl hs rfl ?_
        show B_R _ _ (80, [(1, .int (Zi (D_see s a))), (0, .ref 83)], [.int (Zi a), .ref 83]) _ _ _
        refine Z_go (f2 := (81, [(1, .int (Zi (D_see s a))), (0, .ref 83)], [.int (Zi 1), .int (Zi a), .ref 83])) (fun _ => rfl) ?_
        refine Z_iadd rfl ?_
        refine R_pf rfl hs rfl (by first | exact hs.zF _ | exact Zor_r _ _ | exact hs.zA _ _ | assumption | exact zS _ | exact Zr_not (hs.zA _ _) | exact ⟨by omega, by omega⟩) ⟨rfl, rfl, rfl⟩ (fun h hs => ?_)
        rw [R_p3_16] at hs
        refine Z_go (f2 := (86, [(1, .int (Zi (D_see s a))), (0, .ref 83)], [.int (Zi 1)])) (fun _ => rfl) ?_
        refine Z_iret rfl rfl (by first | rfl | decide | exact narrow_b01 (by omega)) ⟨_, hs, ?_, rfl⟩
        have w13 : (R_sA s 94 (s.1 22) 1).1 13 = s.1 13 := rfl
        have w15 : (R_sA s 94 (s.1 22) 1).1 15 = s.1 15 := rfl
        have w22 : (R_sA s 94 (s.1 22) 1).1 22 = s.1 22 := rfl
        refine ⟨1, a + 1, f, p, _, rfl, rfl, .inr rfl, ((R_fr_94 s _ _).tr (R_ap_em _ 5 0 0).fr), by omega, by omega, fun _ => ⟨by omega, by unfold R_nb; rw [R_em_13, R_em_f _ _ _ _ (by decide), R_em_f _ _ _ _ (by decide)]; omega⟩, fun hf o c st hc => ?_, fun hf hp => ⟨rfl, rfl⟩⟩
        have e := hc.op
        simp only [List.length_cons] at e
        rcases R_cf_orj hc (fun _ => trivial) with ⟨t0, t1⟩ | ⟨t0, t1⟩
        · unfold P_step
          dsimp only
          rw [if_neg (by omega), if_pos (by omega)]
          exact ⟨rfl, hf, rfl, R_s_bar (.inl rfl) t1 hc⟩
        · omega
      · refine Z_go (f2 := (51, [(1, .int (Zi (D_see s a))), (0, .ref 83)], [.ref 83])) (fun _ => rfl) ?_
        refine Z_go (f2 := (53, [(1, .int (Zi (D_see s a))), (0, .ref 83)], [.int (Zi 7), .ref 83])) (fun _ => rfl) ?_
        refine Z_go (f2 := (54, [(1, .int (Zi (D_see s a))), (0, .ref 83)], [.int (Zi 0), .int (Zi 7), .ref 83])) (fun _ => rfl) ?_
        refine Z_go (f2 := (55, [(1, .int (Zi (D_see s a))), (0, .ref 83)], [.int (Zi 0), .int (Zi 0), .int (Zi 7), .ref 83])) (fun _ => rfl) ?_
        refine R_call (As := [.int (Zi 7), .int (Zi 0), .int (Zi 0)]) (rest := []) rfl (by decide) rfl rfl rfl rfl (by decide +kernel) (Nat.le_of_ble_eq_true rfl) hs (R_emit2 _ s a f p (by first | assumption | exact hs.zF _ | exact hs.zA _ _ | exact zS _ | exact ⟨by omega, by omega⟩ | omega) (by first | assumption | exact hs.zF _ | exact hs.zA _ _ | exact zS _ | exact ⟨by omega, by omega⟩ | omega) (by first | assumption | exact hs.zF _ | exact hs.zA _ _ | exact zS _ | exact ⟨by omega, by omega⟩ | omega) (show 0 ≤ s.1 13 by omega) (show s.1 13 < 400 by omega)) (fun x h s2 hs q => ?_)
        obtain ⟨rfl, q1⟩ := q
        rw [q1] at hs
        show B_R _ _ (58, [(1, .int (Zi (D_see s a))), (0, .ref 83)], []) _ _ _
        refine Z_go (f2 := (59, [(1, .int (Zi (D_see s a))), (0, .ref 83)], [.ref 83])) (fun _ => rfl) ?_
        refine R_gr (q := 92) rfl hs rfl ?_
        show B_R _ _ (62, [(1, .int (Zi (D_see s a))), (0, .ref 83)], [.ref 94]) _ _ _
        refine Z_go (f2 := (63, [(1, .int (Zi (D_see s a))), (0, .ref 83)], [.ref 83, .ref 94])) (fun _ => rfl) ?_
        refine R_gi rfl hs rfl ?_
        show B_R _ _ (66, [(1, .int (Zi (D_see s a))), (0, .ref 83)], [.int (Zi (s.1 22)), .ref 94]) _ _ _
        refine Z_go (f2 := (67, [(1, .int (Zi (D_see s a))), (0, .ref 83)], [.int (Zi 1), .int (Zi (s.1 22)), .ref 94])) (fun _ => rfl) ?_
        refine R_bs (q := 10) rfl hs rfl rfl (by omega) (by omega) (by decide) (by first | exact .inl rfl | exact .inr rfl | assumption) (fun h hs => ?_)
        have hs : R_is h0 h (R_p3 (R_sA (R_em s 7 0 0) 94 (s.1 22) 1) a f p) := hs
        refine Z_go (f2 := (69, [(1, .int (Zi (D_see s a))), (0, .ref 83)], [.ref 83])) (fun _ => rfl) ?_
        refine Z_go (f2 := (70, [(1, .int (Zi (D_see s a))), (0, .ref 83)], [.int (Zi 5), .ref 83])) (fun _ => rfl) ?_
        refine Z_go (f2 := (71, [(1, .int (Zi (D_see s a))), (0, .ref 83)], [.int (Zi 0), .int (Zi 5), .ref 83])) (fun _ => rfl) ?_
        refine Z_go (f2 := (72, [(1, .int (Zi (D_see s a))), (0, .ref 83)], [.int (Zi 0), .int (Zi 0), .int (Zi 5), .ref 83])) (fun _ => rfl) ?_
        refine R_call (As := [.int (Zi 5), .int (Zi 0), .int (Zi 0)]) (rest := []) rfl (by decide) rfl rfl rfl rfl (by decide +kernel) (Nat.le_of_ble_eq_true rfl) hs (R_emit2 _ (R_sA (R_em s 7 0 0) 94 (s.1 22) 1) a f p (by first | assumption | exact hs.zF _ | exact hs.zA _ _ | exact zS _ | exact ⟨by omega, by omega⟩ | omega) (by first | assumption | exact hs.zF _ | exact hs.zA _ _ | exact zS _ | exact ⟨by omega, by omega⟩ | omega) (by first | assumption | exact hs.zF _ | exact hs.zA _ _ | exact zS _ | exact ⟨by omega, by omega⟩ | omega) (show 0 ≤ (s.1 13) + 1 by omega) (show (s.1 13) + 1 < 400 by omega)) (fun x h s2 hs q => ?_)
        obtain ⟨rfl, q1⟩ := q
        rw [q1] at hs
        show B_R _ _ (75, [(1, .int (Zi (D_see s a))), (0, .ref 83)], []) _ _ _
        refine Z_go (f2 := (76, [(1, .int (Zi (D_see s a))), (0, .ref 83)], [.ref 83])) (fun _ => rfl) ?_
        refine Z_go (f2 := (77, [(1, .int (Zi (D_see s a))), (0, .ref 83)], [.ref 83, .ref 83])) (fun _ => rfl) ?_
        refine R_gi rfl hs rfl ?_
        show B_R _ _ (80, [(1, .int (Zi (D_see s a))), (0, .ref 83)], [.int (Zi a), .ref 83]) _ _ _
        refine Z_go (f2 := (81, [(1, .int (Zi (D_see s a))), (0, .ref 83)], [.int (Zi 1), .int (Zi a), .ref 83])) (fun _ => rfl) ?_
        refine Z_iadd rfl ?_
        refine R_pf rfl hs rfl (by first | exact hs.zF _ | exact Zor_r _ _ | exact hs.zA _ _ | assumption | exact zS _ | exact Zr_not (hs.zA _ _) | exact ⟨by omega, by omega⟩) ⟨rfl, rfl, rfl⟩ (fun h hs => ?_)
        rw [R_p3_16] at hs
        refine Z_go (f2 := (86, [(1, .int (Zi (D_see s a))), (0, .ref 83)], [.int (Zi 1)])) (fun _ => rfl) ?_
        refine Z_iret rfl rfl (by first | rfl | decide | exact narrow_b01 (by omega)) ⟨_, hs, ?_, rfl⟩
        have w13 : (R_sA (R_em s 7 0 0) 94 (s.1 22) 1).1 13 = s.1 13 + 1 := rfl
        have w15 : (R_sA (R_em s 7 0 0) 94 (s.1 22) 1).1 15 = s.1 15 := rfl
        have w22 : (R_sA (R_em s 7 0 0) 94 (s.1 22) 1).1 22 = s.1 22 := rfl
        refine ⟨1, a + 1, f, p, _, rfl, rfl, .inr rfl, (((R_ap_em s 7 0 0).fr.tr (R_fr_94 _ _ _)).tr (R_ap_em _ 5 0 0).fr), by omega, by omega, fun _ => ⟨by omega, by unfold R_nb; rw [R_em_13, R_em_f _ _ _ _ (by decide), R_em_f _ _ _ _ (by decide)]; omega⟩, fun hf o c st hc => ?_, fun hf hp => ⟨rfl, rfl⟩⟩
        have e := hc.op
        simp only [List.length_cons] at e
        rcases R_cf_orj hc (fun _ => trivial) with ⟨t0, t1⟩ | ⟨t0, t1⟩
        · omega
        · unfold P_step
          dsimp only
          rw [if_neg (by omega), if_pos (by omega)]
          exact ⟨rfl, hf, rfl, R_s_bar (.inr rfl) t1 hc⟩
  · refine Z_go (f2 := (15, [(1, .int (Zi (D_see s a))), (0, .ref 83)], [.ref 83])) (fun _ => rfl) ?_
    refine R_gi rfl hs rfl ?_
    show B_R _ _ (18, [(1, .int (Zi (D_see s a))), (0, .ref 83)], [.int (Zi (s.1 22))]) _ _ _
    refine Z_ile rfl rfl (by first | exact hs.zF _ | exact Zor_r _ _ | exact hs.zA _ _ | assumption | exact zS _ | exact Zr_not (hs.zA _ _) | exact ⟨by omega, by omega⟩) (fun c17 => ?_) (fun c17 => ?_)
    · refine Z_go (f2 := (31, [(1, .int (Zi (D_see s a))), (0, .ref 83)], [.int (Zi 0)])) (fun _ => rfl) ?_
      refine Z_iret rfl rfl (by first | rfl | decide | exact narrow_b01 (by omega)) ⟨_, hs, ?_, rfl⟩
      refine ⟨0, a, f, p, s, rfl, rfl, .inl rfl, (R_ap_0 s).fr, by omega, by omega, fun e => absurd e (by decide), fun hf o c st hc => ?_, fun hf hp => ⟨rfl, rfl⟩⟩
      have e := hc.op
      simp only [List.length_cons] at e
      cases st with
      | cons q r => simp only [List.length_cons] at e; omega
      | nil =>
        unfold P_step
        dsimp only
        rw [if_pos (by omega)]
        exact ⟨rfl, hf, rfl, rfl⟩
    · refine Z_go (f2 := (22, [(1, .int (Zi (D_see s a))), (0, .ref 83)], [.ref 83])) (fun _ => rfl) ?_
      refine Z_go (f2 := (23, [(1, .int (Zi (D_see s a))), (0, .ref 83)], [.int (Zi 1), .ref 83])) (fun _ => rfl) ?_
      refine Z_go (f2 := (24, [(1, .int (Zi (D_see s a))), (0, .ref 83)], [.ref 83, .int (Zi 1), .ref 83])) (fun _ => rfl) ?_
      refine R_gi rfl hs rfl ?_
      show B_R _ _ (27, [(1, .int (Zi (D_see s a))), (0, .ref 83)], [.int (Zi a), .int (Zi 1), .ref 83]) _ _ _
      refine R_call (As := [.int (Zi 1), .int (Zi a)]) (rest := []) rfl (by decide) rfl rfl rfl rfl (by decide +kernel) (Nat.le_of_ble_eq_true rfl) hs (R_fail2 _ s a f p (by first | assumption | exact hs.zF _ | exact hs.zA _ _ | exact zS _ | exact ⟨by omega, by omega⟩ | omega) (by first | assumption | exact hs.zF _ | exact hs.zA _ _ | exact zS _ | exact ⟨by omega, by omega⟩ | omega)) (fun x h s2 hs q => ?_)
      obtain ⟨rfl, q1⟩ := q
      rw [q1] at hs
      have zff : Zr (D_ff f p 1 a).1 := hs.zF 18
      show B_R _ _ (30, [(1, .int (Zi (D_see s a))), (0, .ref 83)], []) _ _ _
      refine Z_go (f2 := (31, [(1, .int (Zi (D_see s a))), (0, .ref 83)], [.int (Zi 0)])) (fun _ => rfl) ?_
      refine Z_iret rfl rfl (by first | rfl | decide | exact narrow_b01 (by omega)) ⟨_, hs, ?_, rfl⟩
      refine ⟨0, a, _, _, s, rfl, rfl, .inl rfl, (R_ap_0 s).fr, by omega, by omega, fun e => absurd e (by decide), fun hf o c st hc => ?_, fun hf hp => by rw [D_ff_n hf hp]; exact ⟨rfl, rfl⟩⟩
      have e := hc.op
      simp only [List.length_cons] at e
      cases st with
      | nil => simp only [List.length_nil] at e; omega
      | cons q r =>
        unfold P_step
        dsimp only
        rw [if_pos (by omega), hf, D_ff_0]
        exact ⟨rfl, rfl, by decide, .inl rfl⟩
