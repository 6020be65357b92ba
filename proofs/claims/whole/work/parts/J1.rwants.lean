/-! the reference: wants -/
noncomputable def P_hbv (t : P_T) : P_V × Prop := T_ev ((V_nil, True), (fun A => (V_atm A, True)), (fun x y => (V_beh x.1 y.1, x.2 ∧ y.2 ∧ V_hb x.1 y.1)), (fun x y => (V_or x.1 y.1, x.2 ∧ y.2)), (fun x op lo hi => (V_cnt x.1 op lo hi, x.2 ∧ (op = 11 → V_hbt x.1 lo hi)))) t
/-- choices stay small wherever things are put behind each other -/
def P_hb (t : P_T) : Prop := (P_hbv t).2
theorem P_plan_emp : P_plan T_emp = V_nil := rfl
theorem P_plan_atm {A : P_A} (h : A_ok A) : P_plan (T_atm A) = V_atm A := T_ev_atm _ h
theorem P_plan_beh {l r : P_T} (h1 : T_is l) (h2 : T_is r) : P_plan (T_beh l r) = V_beh (P_plan l) (P_plan r) := T_ev_beh _ h1 h2
theorem P_plan_or {l r : P_T} (h1 : T_is l) (h2 : T_is r) : P_plan (T_or l r) = V_or (P_plan l) (P_plan r) := T_ev_or _ h1 h2
theorem P_plan_cnt {t : P_T} {op lo hi : Int} (hc : T_cok op lo hi) (h1 : T_is t) : P_plan (T_cnt t op lo hi) = V_cnt (P_plan t) op lo hi := T_ev_cnt _ hc h1
theorem P_hbv_1 {t : P_T} (h : T_is t) : (P_hbv t).1 = P_plan t := by
  refine T_ind (P := fun t => (P_hbv t).1 = P_plan t) h rfl (fun A hA => ?_) (fun l r h1 h2 p1 p2 => ?_) (fun l r h1 h2 p1 p2 => ?_) (fun t op lo hi hc h1 p1 => ?_)
  · rw [P_plan_atm hA]
    exact congrArg Prod.fst (T_ev_atm _ hA)
  · rw [P_plan_beh h1 h2, ← p1, ← p2]
    exact congrArg Prod.fst (T_ev_beh _ h1 h2)
  · rw [P_plan_or h1 h2, ← p1, ← p2]
    exact congrArg Prod.fst (T_ev_or _ h1 h2)
  · rw [P_plan_cnt hc h1, ← p1]
    exact congrArg Prod.fst (T_ev_cnt _ hc h1)
theorem P_hb_beh {l r : P_T} (h1 : T_is l) (h2 : T_is r) : P_hb (T_beh l r) = (P_hb l ∧ P_hb r ∧ V_hb (P_plan l) (P_plan r)) := by
  rw [← P_hbv_1 h1, ← P_hbv_1 h2]
  exact congrArg Prod.snd (T_ev_beh _ h1 h2)
theorem P_hb_or {l r : P_T} (h1 : T_is l) (h2 : T_is r) : P_hb (T_or l r) = (P_hb l ∧ P_hb r) := congrArg Prod.snd (T_ev_or _ h1 h2)
theorem P_hb_cnt {t : P_T} {op lo hi : Int} (hc : T_cok op lo hi) (h1 : T_is t) : P_hb (T_cnt t op lo hi) = (P_hb t ∧ (op = 11 → V_hbt (P_plan t) lo hi)) := by
  rw [← P_hbv_1 h1]
  exact congrArg Prod.snd (T_ev_cnt _ hc h1)
theorem P_hb_emp : P_hb T_emp := trivial
theorem P_hb_atm {A : P_A} (h : A_ok A) : P_hb (T_atm A) := by
  show (P_hbv (T_atm A)).2
  rw [show P_hbv (T_atm A) = (V_atm A, True) from T_ev_atm _ h]
  trivial
theorem V_fix_plan {t : P_T} (h : T_is t) : V_fix (P_plan t) := by
  refine T_ind (P := fun t => V_fix (P_plan t)) h V_fix_nil (fun A hA => ?_) (fun l r h1 h2 p1 p2 => ?_) (fun l r h1 h2 p1 p2 => ?_) (fun t op lo hi hc h1 p1 => ?_)
  · show V_fix (P_plan (T_atm A))
    rw [P_plan_atm hA]
    exact V_fix_atm A
  · show V_fix (P_plan (T_beh l r))
    rw [P_plan_beh h1 h2]
    exact V_fix_beh p1 p2
  · show V_fix (P_plan (T_or l r))
    rw [P_plan_or h1 h2]
    exact V_fix_or _ _
  · show V_fix (P_plan (T_cnt t op lo hi))
    rw [P_plan_cnt hc h1]
    exact V_fix_cnt p1 op lo hi
theorem V_set_eq {B C : Int → Prop} (h : ∀ b, 0 ≤ b → b < 256 → (B b ↔ C b)) : V_set B = V_set C := by
  have e1 : (fun b => B b ∧ 0 ≤ b ∧ b < 256) = (fun b => C b ∧ 0 ≤ b ∧ b < 256) := funext (fun b => propext ⟨fun q => ⟨(h b q.2.1 q.2.2).mp q.1, q.2⟩, fun q => ⟨(h b q.2.1 q.2.2).mpr q.1, q.2⟩⟩)
  have e2 : (fun t : List Int => ∃ b, B b ∧ 0 ≤ b ∧ b < 256 ∧ t = [b]) = (fun t => ∃ b, C b ∧ 0 ≤ b ∧ b < 256 ∧ t = [b]) := funext (fun t => propext ⟨fun ⟨b, q1, q2, q3, q4⟩ => ⟨b, (h b q2 q3).mp q1, q2, q3, q4⟩, fun ⟨b, q1, q2, q3, q4⟩ => ⟨b, (h b q2 q3).mpr q1, q2, q3, q4⟩⟩)
  unfold V_set
  rw [e1, e2]
theorem R_vk.weak {s u : R_S} {K L : Int → Prop} (h : R_vk s u K) (hK : ∀ e, K e → L e) : R_vk s u L := ⟨h.1, fun q q0 q1 j hj => h.2 q q0 q1 j (fun e => hj (hK _ e))⟩
theorem R_wn_1 {d : Nat} {h0 h : E_H} {u : R_S} {sl : Nat} {Φ : E_R → Prop} {k n : Int} (hs : R_is h0 h u) (k0 : 0 ≤ k) (k1 : k < u.1 13) (k2 : u.1 13 ≤ 400) (n0 : 0 ≤ n) (n1 : n ≤ 37) (op : 1 ≤ u.2.1 90 k ∧ u.2.1 90 k ≤ 11)
    (g1 : u.2.1 90 k = 1 → 0 ≤ u.2.1 91 k ∧ u.2.1 91 k < 90 ∧ (∀ (u2 : R_S) (h : E_H), R_is h0 h u2 → R_V u2 n (V_set (R_has u (u.2.1 91 k))) → R_vk u u2 (fun e => n ≤ e) → B_R (d + 10) E_m249 (4, [(2, .int (Zi (k + 1))), (1, .int (Zi (n + 1))), (0, .ref 83)], []) h sl Φ))
    (g2 : 2 ≤ u.2.1 90 k → u.2.1 90 k ≤ 5 → ∀ (u2 : R_S) (h : E_H), R_is h0 h u2 → R_V u2 n V_nil → R_vk u u2 (fun e => n ≤ e) → B_R (d + 10) E_m249 (4, [(2, .int (Zi (k + 1))), (1, .int (Zi (n + 1))), (0, .ref 83)], []) h sl Φ)
    (g6 : u.2.1 90 k = 6 → 2 ≤ n ∧ ∃ v w, R_V u (n - 2) v ∧ R_V u (n - 1) w ∧ V_fix v ∧ V_fix w ∧ V_hb v w ∧ (∀ (u2 : R_S) (h : E_H), R_is h0 h u2 → R_V u2 (n - 2) (V_beh v w) → R_vk u u2 (fun e => n - 2 ≤ e) → B_R (d + 10) E_m249 (4, [(2, .int (Zi (k + 1))), (1, .int (Zi (n - 1))), (0, .ref 83)], []) h sl Φ))
    (g7 : u.2.1 90 k = 7 → 2 ≤ n ∧ ∃ v w, R_V u (n - 2) v ∧ R_V u (n - 1) w ∧ (∀ (u2 : R_S) (h : E_H), R_is h0 h u2 → R_V u2 (n - 2) (V_or v w) → R_vk u u2 (fun e => n - 2 ≤ e) → B_R (d + 10) E_m249 (4, [(2, .int (Zi (k + 1))), (1, .int (Zi (n - 1))), (0, .ref 83)], []) h sl Φ))
    (g8 : u.2.1 90 k = 8 → 1 ≤ n ∧ (∀ (u2 : R_S) (h : E_H), R_is h0 h u2 → R_V u2 (n - 1) V_shut → R_vk u u2 (fun e => n - 1 ≤ e) → B_R (d + 10) E_m249 (4, [(2, .int (Zi (k + 1))), (1, .int (Zi (n))), (0, .ref 83)], []) h sl Φ))
    (g9 : u.2.1 90 k = 9 → 1 ≤ n ∧ ∃ v, R_V u (n - 1) v ∧ (∀ (u2 : R_S) (h : E_H), R_is h0 h u2 → R_V u2 (n - 1) (V_open v) → R_vk u u2 (fun e => n - 1 ≤ e) → B_R (d + 10) E_m249 (4, [(2, .int (Zi (k + 1))), (1, .int (Zi (n))), (0, .ref 83)], []) h sl Φ))
    (ga : u.2.1 90 k = 10 → 1 ≤ n ∧ ∃ v, R_V u (n - 1) v ∧ (∀ (u2 : R_S) (h : E_H), R_is h0 h u2 → R_V u2 (n - 1) (V_may v) → R_vk u u2 (fun e => n - 1 ≤ e) → B_R (d + 10) E_m249 (4, [(2, .int (Zi (k + 1))), (1, .int (Zi (n))), (0, .ref 83)], []) h sl Φ))
    (gb : u.2.1 90 k = 11 → 1 ≤ n ∧ ∃ v, R_V u (n - 1) v ∧ V_fix v ∧ 0 ≤ u.2.1 91 k ∧ u.2.1 91 k ≤ 20 ∧ (u.2.1 92 k = -1 ∨ u.2.1 91 k ≤ u.2.1 92 k ∧ u.2.1 92 k ≤ 20) ∧ V_hbt v (u.2.1 91 k) (u.2.1 92 k) ∧ (∀ (u2 : R_S) (h : E_H), R_is h0 h u2 → R_V u2 (n - 1) (V_times v (u.2.1 91 k) (u.2.1 92 k)) → R_vk u u2 (fun e => n - 1 ≤ e) → B_R (d + 10) E_m249 (4, [(2, .int (Zi (k + 1))), (1, .int (Zi (n))), (0, .ref 83)], []) h sl Φ)) : B_R (d + 10) E_m249 (4, [(2, .int (Zi k)), (1, .int (Zi n)), (0, .ref 83)], []) h sl Φ := by
  have zk : Zr k := ⟨by omega, by omega⟩
  refine Z_go (f2 := (5, [(2, .int (Zi k)), (1, .int (Zi n)), (0, .ref 83)], [.int (Zi k)])) (fun _ => rfl) ?_
  refine Z_go (f2 := (6, [(2, .int (Zi k)), (1, .int (Zi n)), (0, .ref 83)], [.ref 83, .int (Zi k)])) (fun _ => rfl) ?_
  refine R_gi rfl hs rfl ?_
  show B_R _ _ (9, [(2, .int (Zi k)), (1, .int (Zi n)), (0, .ref 83)], [.int (Zi (u.1 13)), .int (Zi k)]) _ _ _
  refine Z_cge rfl rfl (by first | exact hs.zF _ | exact Zor_r _ _ | exact hs.zA _ _ | assumption | exact zA _ _ | exact zS _ | exact Zr_not (hs.zA _ _) | exact ⟨by omega, by omega⟩) (by first | exact hs.zF _ | exact Zor_r _ _ | exact hs.zA _ _ | assumption | exact zA _ _ | exact zS _ | exact Zr_not (hs.zA _ _) | exact ⟨by omega, by omega⟩) (fun c1 => ?_) (fun c1 => ?_)
  · exfalso; omega
  · refine Z_go (f2 := (13, [(2, .int (Zi k)), (1, .int (Zi n)), (0, .ref 83)], [.ref 83])) (fun _ => rfl) ?_
    refine R_gr (q := 88) rfl hs rfl ?_
    show B_R _ _ (16, [(2, .int (Zi k)), (1, .int (Zi n)), (0, .ref 83)], [.ref 90]) _ _ _
    refine Z_go (f2 := (17, [(2, .int (Zi k)), (1, .int (Zi n)), (0, .ref 83)], [.int (Zi k), .ref 90])) (fun _ => rfl) ?_
    refine R_ia (q := 6) rfl hs rfl rfl (by omega) (by omega) (by decide) ?_
    rcases (by omega : u.2.1 90 k = 1 ∨ u.2.1 90 k = 2 ∨ u.2.1 90 k = 3 ∨ u.2.1 90 k = 4 ∨ u.2.1 90 k = 5 ∨ u.2.1 90 k = 6 ∨ u.2.1 90 k = 7 ∨ u.2.1 90 k = 8 ∨ u.2.1 90 k = 9 ∨ u.2.1 90 k = 10 ∨ (u.2.1 90 k < 1 ∨ 10 < u.2.1 90 k)) with c2 | c2 | c2 | c2 | c2 | c2 | c2 | c2 | c2 | c2 | c2
    · refine Z_swk (f2 := (72, [(2, .int (Zi k)), (1, .int (Zi n)), (0, .ref 83)], [])) c2 (fun _ => rfl) ?_
      obtain ⟨q1, q2, q3⟩ := g1 (by omega)
      refine Z_go (f2 := (73, [(2, .int (Zi k)), (1, .int (Zi n)), (0, .ref 83)], [.ref 83])) (fun _ => rfl) ?_
      refine Z_go (f2 := (74, [(2, .int (Zi k)), (1, .int (Zi n)), (0, .ref 83)], [.int (Zi n), .ref 83])) (fun _ => rfl) ?_
      refine Z_go (f2 := (75, [(2, .int (Zi k)), (1, .int (Zi n)), (0, .ref 83)], [.ref 83, .int (Zi n), .ref 83])) (fun _ => rfl) ?_
      refine R_gr (q := 89) rfl hs rfl ?_
      show B_R _ _ (78, [(2, .int (Zi k)), (1, .int (Zi n)), (0, .ref 83)], [.ref 91, .int (Zi n), .ref 83]) _ _ _
      refine Z_go (f2 := (79, [(2, .int (Zi k)), (1, .int (Zi n)), (0, .ref 83)], [.int (Zi k), .ref 91, .int (Zi n), .ref 83])) (fun _ => rfl) ?_
      refine R_ia (q := 7) rfl hs rfl rfl (by omega) (by omega) (by decide) ?_
      refine R_call (As := [.int (Zi n), .int (Zi (u.2.1 91 k))]) (rest := []) rfl (by decide) rfl rfl rfl rfl (by decide +kernel) (Nat.le_of_ble_eq_true rfl) hs (R_ofSet _ u ⟨by omega, by omega⟩ ⟨by omega, by omega⟩ n0 (by omega) q1 q2) (fun x h u2 hs q => ?_)
      obtain ⟨rfl, e1, e2⟩ := q
      show B_R _ _ (83, [(2, .int (Zi k)), (1, .int (Zi n)), (0, .ref 83)], []) _ _ _
      refine Z_iinc (L2 := [(1, .int (Zi (n + 1))), (2, .int (Zi k)), (0, .ref 83)]) rfl rfl (by decide) rfl ?_
      refine Z_go (f2 := (177, [(1, .int (Zi (n + 1))), (2, .int (Zi k)), (0, .ref 83)], [])) (fun _ => rfl) ?_
      refine Z_iinc (L2 := [(2, .int (Zi (k + 1))), (1, .int (Zi (n + 1))), (0, .ref 83)]) rfl rfl (by decide) rfl ?_
      refine Z_goto (p2 := 4) rfl (by decide +kernel) (by decide +kernel) ?_
      refine B_loc (K := [(2, .int (Zi (k + 1))), (1, .int (Zi (n + 1))), (0, .ref 83)]) (N_all_sub ⟨rfl, rfl, rfl, trivial⟩) (show ([2, 1, 0] : List Nat).Nodup by decide) ?_
      exact q3 u2 h hs e1 (e2.weak (fun e he => by have he : e = n := he; omega))
    · refine Z_swk (f2 := (89, [(2, .int (Zi k)), (1, .int (Zi n)), (0, .ref 83)], [])) c2 (fun _ => rfl) ?_
      have q3 := g2 (by omega) (by omega)
      refine Z_go (f2 := (90, [(2, .int (Zi k)), (1, .int (Zi n)), (0, .ref 83)], [.ref 83])) (fun _ => rfl) ?_
      refine Z_go (f2 := (91, [(2, .int (Zi k)), (1, .int (Zi n)), (0, .ref 83)], [.int (Zi n), .ref 83])) (fun _ => rfl) ?_
      refine R_call (As := [.int (Zi n)]) (rest := []) rfl (by decide) rfl rfl rfl rfl (by decide +kernel) (Nat.le_of_ble_eq_true rfl) hs (R_empties _ u ⟨by omega, by omega⟩ n0 (by omega)) (fun x h u2 hs q => ?_)
      obtain ⟨rfl, e1, e2⟩ := q
      show B_R _ _ (94, [(2, .int (Zi k)), (1, .int (Zi n)), (0, .ref 83)], []) _ _ _
      refine Z_iinc (L2 := [(1, .int (Zi (n + 1))), (2, .int (Zi k)), (0, .ref 83)]) rfl rfl (by decide) rfl ?_
      refine Z_go (f2 := (177, [(1, .int (Zi (n + 1))), (2, .int (Zi k)), (0, .ref 83)], [])) (fun _ => rfl) ?_
      refine Z_iinc (L2 := [(2, .int (Zi (k + 1))), (1, .int (Zi (n + 1))), (0, .ref 83)]) rfl rfl (by decide) rfl ?_
      refine Z_goto (p2 := 4) rfl (by decide +kernel) (by decide +kernel) ?_
      refine B_loc (K := [(2, .int (Zi (k + 1))), (1, .int (Zi (n + 1))), (0, .ref 83)]) (N_all_sub ⟨rfl, rfl, rfl, trivial⟩) (show ([2, 1, 0] : List Nat).Nodup by decide) ?_
      exact q3 u2 h hs e1 (e2.weak (fun e he => by have he : e = n := he; omega))
    · refine Z_swk (f2 := (89, [(2, .int (Zi k)), (1, .int (Zi n)), (0, .ref 83)], [])) c2 (fun _ => rfl) ?_
      have q3 := g2 (by omega) (by omega)
      refine Z_go (f2 := (90, [(2, .int (Zi k)), (1, .int (Zi n)), (0, .ref 83)], [.ref 83])) (fun _ => rfl) ?_
      refine Z_go (f2 := (91, [(2, .int (Zi k)), (1, .int (Zi n)), (0, .ref 83)], [.int (Zi n), .ref 83])) (fun _ => rfl) ?_
      refine R_call (As := [.int (Zi n)]) (rest := []) rfl (by decide) rfl rfl rfl rfl (by decide +kernel) (Nat.le_of_ble_eq_true rfl) hs (R_empties _ u ⟨by omega, by omega⟩ n0 (by omega)) (fun x h u2 hs q => ?_)
      obtain ⟨rfl, e1, e2⟩ := q
      show B_R _ _ (94, [(2, .int (Zi k)), (1, .int (Zi n)), (0, .ref 83)], []) _ _ _
      refine Z_iinc (L2 := [(1, .int (Zi (n + 1))), (2, .int (Zi k)), (0, .ref 83)]) rfl rfl (by decide) rfl ?_
      refine Z_go (f2 := (177, [(1, .int (Zi (n + 1))), (2, .int (Zi k)), (0, .ref 83)], [])) (fun _ => rfl) ?_
      refine Z_iinc (L2 := [(2, .int (Zi (k + 1))), (1, .int (Zi (n + 1))), (0, .ref 83)]) rfl rfl (by decide) rfl ?_
      refine Z_goto (p2 := 4) rfl (by decide +kernel) (by decide +kernel) ?_
      refine B_loc (K := [(2, .int (Zi (k + 1))), (1, .int (Zi (n + 1))), (0, .ref 83)]) (N_all_sub ⟨rfl, rfl, rfl, trivial⟩) (show ([2, 1, 0] : List Nat).Nodup by decide) ?_
      exact q3 u2 h hs e1 (e2.weak (fun e he => by have he : e = n := he; omega))
    · refine Z_swk (f2 := (89, [(2, .int (Zi k)), (1, .int (Zi n)), (0, .ref 83)], [])) c2 (fun _ => rfl) ?_
      have q3 := g2 (by omega) (by omega)
      refine Z_go (f2 := (90, [(2, .int (Zi k)), (1, .int (Zi n)), (0, .ref 83)], [.ref 83])) (fun _ => rfl) ?_
      refine Z_go (f2 := (91, [(2, .int (Zi k)), (1, .int (Zi n)), (0, .ref 83)], [.int (Zi n), .ref 83])) (fun _ => rfl) ?_
      refine R_call (As := [.int (Zi n)]) (rest := []) rfl (by decide) rfl rfl rfl rfl (by decide +kernel) (Nat.le_of_ble_eq_true rfl) hs (R_empties _ u ⟨by omega, by omega⟩ n0 (by omega)) (fun x h u2 hs q => ?_)
      obtain ⟨rfl, e1, e2⟩ := q
      show B_R _ _ (94, [(2, .int (Zi k)), (1, .int (Zi n)), (0, .ref 83)], []) _ _ _
      refine Z_iinc (L2 := [(1, .int (Zi (n + 1))), (2, .int (Zi k)), (0, .ref 83)]) rfl rfl (by decide) rfl ?_
      refine Z_go (f2 := (177, [(1, .int (Zi (n + 1))), (2, .int (Zi k)), (0, .ref 83)], [])) (fun _ => rfl) ?_
      refine Z_iinc (L2 := [(2, .int (Zi (k + 1))), (1, .int (Zi (n + 1))), (0, .ref 83)]) rfl rfl (by decide) rfl ?_
      refine Z_goto (p2 := 4) rfl (by decide +kernel) (by decide +kernel) ?_
      refine B_loc (K := [(2, .int (Zi (k + 1))), (1, .int (Zi (n + 1))), (0, .ref 83)]) (N_all_sub ⟨rfl, rfl, rfl, trivial⟩) (show ([2, 1, 0] : List Nat).Nodup by decide) ?_
      exact q3 u2 h hs e1 (e2.weak (fun e he => by have he : e = n := he; omega))
    · refine Z_swk (f2 := (89, [(2, .int (Zi k)), (1, .int (Zi n)), (0, .ref 83)], [])) c2 (fun _ => rfl) ?_
      have q3 := g2 (by omega) (by omega)
      refine Z_go (f2 := (90, [(2, .int (Zi k)), (1, .int (Zi n)), (0, .ref 83)], [.ref 83])) (fun _ => rfl) ?_
      refine Z_go (f2 := (91, [(2, .int (Zi k)), (1, .int (Zi n)), (0, .ref 83)], [.int (Zi n), .ref 83])) (fun _ => rfl) ?_
      refine R_call (As := [.int (Zi n)]) (rest := []) rfl (by decide) rfl rfl rfl rfl (by decide +kernel) (Nat.le_of_ble_eq_true rfl) hs (R_empties _ u ⟨by omega, by omega⟩ n0 (by omega)) (fun x h u2 hs q => ?_)
      obtain ⟨rfl, e1, e2⟩ := q
      show B_R _ _ (94, [(2, .int (Zi k)), (1, .int (Zi n)), (0, .ref 83)], []) _ _ _
      refine Z_iinc (L2 := [(1, .int (Zi (n + 1))), (2, .int (Zi k)), (0, .ref 83)]) rfl rfl (by decide) rfl ?_
      refine Z_go (f2 := (177, [(1, .int (Zi (n + 1))), (2, .int (Zi k)), (0, .ref 83)], [])) (fun _ => rfl) ?_
      refine Z_iinc (L2 := [(2, .int (Zi (k + 1))), (1, .int (Zi (n + 1))), (0, .ref 83)]) rfl rfl (by decide) rfl ?_
      refine Z_goto (p2 := 4) rfl (by decide +kernel) (by decide +kernel) ?_
      refine B_loc (K := [(2, .int (Zi (k + 1))), (1, .int (Zi (n + 1))), (0, .ref 83)]) (N_all_sub ⟨rfl, rfl, rfl, trivial⟩) (show ([2, 1, 0] : List Nat).Nodup by decide) ?_
      exact q3 u2 h hs e1 (e2.weak (fun e he => by have he : e = n := he; omega))
    · refine Z_swk (f2 := (100, [(2, .int (Zi k)), (1, .int (Zi n)), (0, .ref 83)], [])) c2 (fun _ => rfl) ?_
      obtain ⟨q1, v, w, q2, q3, q4, q5, q6, q7⟩ := g6 (by omega)
      refine Z_iinc (L2 := [(1, .int (Zi (n + (-1)))), (2, .int (Zi k)), (0, .ref 83)]) rfl rfl (by decide) rfl ?_
      refine Z_go (f2 := (104, [(1, .int (Zi (n + (-1)))), (2, .int (Zi k)), (0, .ref 83)], [.ref 83])) (fun _ => rfl) ?_
      refine Z_go (f2 := (105, [(1, .int (Zi (n + (-1)))), (2, .int (Zi k)), (0, .ref 83)], [.int (Zi (n + (-1))), .ref 83])) (fun _ => rfl) ?_
      refine Z_go (f2 := (106, [(1, .int (Zi (n + (-1)))), (2, .int (Zi k)), (0, .ref 83)], [.int (Zi 1), .int (Zi (n + (-1))), .ref 83])) (fun _ => rfl) ?_
      refine Z_isub rfl ?_
      refine Z_go (f2 := (108, [(1, .int (Zi (n + (-1)))), (2, .int (Zi k)), (0, .ref 83)], [.int (Zi (n + (-1))), .int (Zi (n + (-1) - 1)), .ref 83])) (fun _ => rfl) ?_
      refine R_call (As := [.int (Zi (n + (-1) - 1)), .int (Zi (n + (-1)))]) (rest := []) rfl (by decide) rfl rfl rfl rfl (by decide +kernel) (Nat.le_of_ble_eq_true rfl) hs (R_behind _ u ⟨by omega, by omega⟩ ⟨by omega, by omega⟩ (by omega) (by omega) (by omega) (by omega) (by omega) (show R_V u (n + (-1) - 1) v by rw [show n + (-1) - 1 = n - 2 by omega]; exact q2) (show R_V u (n + (-1)) w from q3) q4 q5 q6.1 q6.2) (fun x h u2 hs q => ?_)
      obtain ⟨rfl, e1, e1b, e2⟩ := q
      show B_R _ _ (111, [(1, .int (Zi (n + (-1)))), (2, .int (Zi k)), (0, .ref 83)], []) _ _ _
      refine Z_go (f2 := (177, [(1, .int (Zi (n + (-1)))), (2, .int (Zi k)), (0, .ref 83)], [])) (fun _ => rfl) ?_
      refine Z_iinc (L2 := [(2, .int (Zi (k + 1))), (1, .int (Zi (n + (-1)))), (0, .ref 83)]) rfl rfl (by decide) rfl ?_
      refine Z_goto (p2 := 4) rfl (by decide +kernel) (by decide +kernel) ?_
      refine B_loc (K := [(2, .int (Zi (k + 1))), (1, .int (Zi (n + (-1)))), (0, .ref 83)]) (N_all_sub ⟨rfl, rfl, rfl, trivial⟩) (show ([2, 1, 0] : List Nat).Nodup by decide) ?_
      rw [show n + (-1) - 1 = n - 2 by omega] at e1 e2
      exact q7 u2 h hs e1 (e2.weak (fun e he => by rcases he with he | he | he | he | he <;> omega))
    · refine Z_swk (f2 := (114, [(2, .int (Zi k)), (1, .int (Zi n)), (0, .ref 83)], [])) c2 (fun _ => rfl) ?_
      obtain ⟨q1, v, w, q2, q3, q7⟩ := g7 (by omega)
      refine Z_iinc (L2 := [(1, .int (Zi (n + (-1)))), (2, .int (Zi k)), (0, .ref 83)]) rfl rfl (by decide) rfl ?_
      refine Z_go (f2 := (118, [(1, .int (Zi (n + (-1)))), (2, .int (Zi k)), (0, .ref 83)], [.ref 83])) (fun _ => rfl) ?_
      refine Z_go (f2 := (119, [(1, .int (Zi (n + (-1)))), (2, .int (Zi k)), (0, .ref 83)], [.int (Zi (n + (-1))), .ref 83])) (fun _ => rfl) ?_
      refine Z_go (f2 := (120, [(1, .int (Zi (n + (-1)))), (2, .int (Zi k)), (0, .ref 83)], [.int (Zi 1), .int (Zi (n + (-1))), .ref 83])) (fun _ => rfl) ?_
      refine Z_isub rfl ?_
      refine Z_go (f2 := (122, [(1, .int (Zi (n + (-1)))), (2, .int (Zi k)), (0, .ref 83)], [.int (Zi (n + (-1))), .int (Zi (n + (-1) - 1)), .ref 83])) (fun _ => rfl) ?_
      refine R_call (As := [.int (Zi (n + (-1) - 1)), .int (Zi (n + (-1)))]) (rest := []) rfl (by decide) rfl rfl rfl rfl (by decide +kernel) (Nat.le_of_ble_eq_true rfl) hs (R_or _ u ⟨by omega, by omega⟩ ⟨by omega, by omega⟩ (by omega) (by omega) (by omega) (by omega) (by omega) (by omega) (show R_V u (n + (-1) - 1) v by rw [show n + (-1) - 1 = n - 2 by omega]; exact q2) (show R_V u (n + (-1)) w from q3)) (fun x h u2 hs q => ?_)
      obtain ⟨rfl, e1, e2⟩ := q
      show B_R _ _ (125, [(1, .int (Zi (n + (-1)))), (2, .int (Zi k)), (0, .ref 83)], []) _ _ _
      refine Z_go (f2 := (177, [(1, .int (Zi (n + (-1)))), (2, .int (Zi k)), (0, .ref 83)], [])) (fun _ => rfl) ?_
      refine Z_iinc (L2 := [(2, .int (Zi (k + 1))), (1, .int (Zi (n + (-1)))), (0, .ref 83)]) rfl rfl (by decide) rfl ?_
      refine Z_goto (p2 := 4) rfl (by decide +kernel) (by decide +kernel) ?_
      refine B_loc (K := [(2, .int (Zi (k + 1))), (1, .int (Zi (n + (-1)))), (0, .ref 83)]) (N_all_sub ⟨rfl, rfl, rfl, trivial⟩) (show ([2, 1, 0] : List Nat).Nodup by decide) ?_
      rw [show n + (-1) - 1 = n - 2 by omega] at e1 e2
      exact q7 u2 h hs e1 (e2.weak (fun e he => by rcases he with he | he | he | he | he <;> omega))
    · refine Z_swk (f2 := (128, [(2, .int (Zi k)), (1, .int (Zi n)), (0, .ref 83)], [])) c2 (fun _ => rfl) ?_
      obtain ⟨q1, q7⟩ := g8 (by omega)
      refine Z_go (f2 := (129, [(2, .int (Zi k)), (1, .int (Zi n)), (0, .ref 83)], [.ref 83])) (fun _ => rfl) ?_
      refine Z_go (f2 := (130, [(2, .int (Zi k)), (1, .int (Zi n)), (0, .ref 83)], [.int (Zi n), .ref 83])) (fun _ => rfl) ?_
      refine Z_go (f2 := (131, [(2, .int (Zi k)), (1, .int (Zi n)), (0, .ref 83)], [.int (Zi 1), .int (Zi n), .ref 83])) (fun _ => rfl) ?_
      refine Z_isub rfl ?_
      refine R_call (As := [.int (Zi (n - 1))]) (rest := []) rfl (by decide) rfl rfl rfl rfl (by decide +kernel) (Nat.le_of_ble_eq_true rfl) hs (R_shuts _ u ⟨by omega, by omega⟩ (by omega) (by omega)) (fun x h u2 hs q => ?_)
      obtain ⟨rfl, e1, e2⟩ := q
      show B_R _ _ (135, [(2, .int (Zi k)), (1, .int (Zi n)), (0, .ref 83)], []) _ _ _
      refine Z_go (f2 := (177, [(2, .int (Zi k)), (1, .int (Zi n)), (0, .ref 83)], [])) (fun _ => rfl) ?_
      refine Z_iinc (L2 := [(2, .int (Zi (k + 1))), (1, .int (Zi n)), (0, .ref 83)]) rfl rfl (by decide) rfl ?_
      refine Z_goto (p2 := 4) rfl (by decide +kernel) (by decide +kernel) ?_
      refine B_loc (K := [(2, .int (Zi (k + 1))), (1, .int (Zi n)), (0, .ref 83)]) (N_all_sub ⟨rfl, rfl, rfl, trivial⟩) (show ([2, 1, 0] : List Nat).Nodup by decide) ?_
      exact q7 u2 h hs e1 (e2.weak (fun e he => by have he : e = n - 1 := he; omega))
    · refine Z_swk (f2 := (138, [(2, .int (Zi k)), (1, .int (Zi n)), (0, .ref 83)], [])) c2 (fun _ => rfl) ?_
      obtain ⟨q1, v, q2, q7⟩ := g9 (by omega)
      refine Z_go (f2 := (139, [(2, .int (Zi k)), (1, .int (Zi n)), (0, .ref 83)], [.ref 83])) (fun _ => rfl) ?_
      refine Z_go (f2 := (140, [(2, .int (Zi k)), (1, .int (Zi n)), (0, .ref 83)], [.int (Zi n), .ref 83])) (fun _ => rfl) ?_
      refine Z_go (f2 := (141, [(2, .int (Zi k)), (1, .int (Zi n)), (0, .ref 83)], [.int (Zi 1), .int (Zi n), .ref 83])) (fun _ => rfl) ?_
      refine Z_isub rfl ?_
      refine R_call (As := [.int (Zi (n - 1))]) (rest := []) rfl (by decide) rfl rfl rfl rfl (by decide +kernel) (Nat.le_of_ble_eq_true rfl) hs (R_openOnly _ u ⟨by omega, by omega⟩ (by omega) (by omega) q2) (fun x h u2 hs q => ?_)
      obtain ⟨rfl, e1, e2⟩ := q
      show B_R _ _ (145, [(2, .int (Zi k)), (1, .int (Zi n)), (0, .ref 83)], []) _ _ _
      refine Z_go (f2 := (177, [(2, .int (Zi k)), (1, .int (Zi n)), (0, .ref 83)], [])) (fun _ => rfl) ?_
      refine Z_iinc (L2 := [(2, .int (Zi (k + 1))), (1, .int (Zi n)), (0, .ref 83)]) rfl rfl (by decide) rfl ?_
      refine Z_goto (p2 := 4) rfl (by decide +kernel) (by decide +kernel) ?_
      refine B_loc (K := [(2, .int (Zi (k + 1))), (1, .int (Zi n)), (0, .ref 83)]) (N_all_sub ⟨rfl, rfl, rfl, trivial⟩) (show ([2, 1, 0] : List Nat).Nodup by decide) ?_
      exact q7 u2 h hs e1 (e2.weak (fun e he => by have he : e = n - 1 := he; omega))
    · refine Z_swk (f2 := (148, [(2, .int (Zi k)), (1, .int (Zi n)), (0, .ref 83)], [])) c2 (fun _ => rfl) ?_
      obtain ⟨q1, v, q2, q7⟩ := ga (by omega)
      refine Z_go (f2 := (149, [(2, .int (Zi k)), (1, .int (Zi n)), (0, .ref 83)], [.ref 83])) (fun _ => rfl) ?_
      refine Z_go (f2 := (150, [(2, .int (Zi k)), (1, .int (Zi n)), (0, .ref 83)], [.int (Zi n), .ref 83])) (fun _ => rfl) ?_
      refine Z_go (f2 := (151, [(2, .int (Zi k)), (1, .int (Zi n)), (0, .ref 83)], [.int (Zi 1), .int (Zi n), .ref 83])) (fun _ => rfl) ?_
      refine Z_isub rfl ?_
      refine R_call (As := [.int (Zi (n - 1))]) (rest := []) rfl (by decide) rfl rfl rfl rfl (by decide +kernel) (Nat.le_of_ble_eq_true rfl) hs (R_may _ u ⟨by omega, by omega⟩ (by omega) (by omega) q2) (fun x h u2 hs q => ?_)
      obtain ⟨rfl, e1, e2⟩ := q
      show B_R _ _ (155, [(2, .int (Zi k)), (1, .int (Zi n)), (0, .ref 83)], []) _ _ _
      refine Z_go (f2 := (177, [(2, .int (Zi k)), (1, .int (Zi n)), (0, .ref 83)], [])) (fun _ => rfl) ?_
      refine Z_iinc (L2 := [(2, .int (Zi (k + 1))), (1, .int (Zi n)), (0, .ref 83)]) rfl rfl (by decide) rfl ?_
      refine Z_goto (p2 := 4) rfl (by decide +kernel) (by decide +kernel) ?_
      refine B_loc (K := [(2, .int (Zi (k + 1))), (1, .int (Zi n)), (0, .ref 83)]) (N_all_sub ⟨rfl, rfl, rfl, trivial⟩) (show ([2, 1, 0] : List Nat).Nodup by decide) ?_
      exact q7 u2 h hs e1 (e2.weak (fun e he => by rcases he with he | he | he | he | he <;> omega))
    · refine Z_tswd rfl (by first | exact hs.zF _ | exact Zor_r _ _ | exact hs.zA _ _ | assumption | exact zA _ _ | exact zS _ | exact Zr_not (hs.zA _ _) | exact ⟨by omega, by omega⟩) c2 (by rfl) ?_
      show B_R _ _ (158, [(2, .int (Zi k)), (1, .int (Zi n)), (0, .ref 83)], []) _ _ _
      obtain ⟨q1, v, q2, q3, q4, q5, q6, q7, q8⟩ := gb (by omega)
      refine Z_go (f2 := (159, [(2, .int (Zi k)), (1, .int (Zi n)), (0, .ref 83)], [.ref 83])) (fun _ => rfl) ?_
      refine Z_go (f2 := (160, [(2, .int (Zi k)), (1, .int (Zi n)), (0, .ref 83)], [.int (Zi n), .ref 83])) (fun _ => rfl) ?_
      refine Z_go (f2 := (161, [(2, .int (Zi k)), (1, .int (Zi n)), (0, .ref 83)], [.int (Zi 1), .int (Zi n), .ref 83])) (fun _ => rfl) ?_
      refine Z_isub rfl ?_
      refine Z_go (f2 := (163, [(2, .int (Zi k)), (1, .int (Zi n)), (0, .ref 83)], [.ref 83, .int (Zi (n - 1)), .ref 83])) (fun _ => rfl) ?_
      refine R_gr (q := 89) rfl hs rfl ?_
      show B_R _ _ (166, [(2, .int (Zi k)), (1, .int (Zi n)), (0, .ref 83)], [.ref 91, .int (Zi (n - 1)), .ref 83]) _ _ _
      refine Z_go (f2 := (167, [(2, .int (Zi k)), (1, .int (Zi n)), (0, .ref 83)], [.int (Zi k), .ref 91, .int (Zi (n - 1)), .ref 83])) (fun _ => rfl) ?_
      refine R_ia (q := 7) rfl hs rfl rfl (by omega) (by omega) (by decide) ?_
      refine Z_go (f2 := (169, [(2, .int (Zi k)), (1, .int (Zi n)), (0, .ref 83)], [.ref 83, .int (Zi (u.2.1 91 k)), .int (Zi (n - 1)), .ref 83])) (fun _ => rfl) ?_
      refine R_gr (q := 90) rfl hs rfl ?_
      show B_R _ _ (172, [(2, .int (Zi k)), (1, .int (Zi n)), (0, .ref 83)], [.ref 92, .int (Zi (u.2.1 91 k)), .int (Zi (n - 1)), .ref 83]) _ _ _
      refine Z_go (f2 := (173, [(2, .int (Zi k)), (1, .int (Zi n)), (0, .ref 83)], [.int (Zi k), .ref 92, .int (Zi (u.2.1 91 k)), .int (Zi (n - 1)), .ref 83])) (fun _ => rfl) ?_
      refine R_ia (q := 8) rfl hs rfl rfl (by omega) (by omega) (by decide) ?_
      refine R_call (As := [.int (Zi (n - 1)), .int (Zi (u.2.1 91 k)), .int (Zi (u.2.1 92 k))]) (rest := []) rfl (by decide) rfl rfl rfl rfl (by decide +kernel) (Nat.le_of_ble_eq_true rfl) hs (R_times _ u q4 q5 (hs.zA 92 k) (by omega) (by omega) q6 q2 q3 q7) (fun x h u2 hs q => ?_)
      obtain ⟨rfl, e1, e2⟩ := q
      show B_R _ _ (177, [(2, .int (Zi k)), (1, .int (Zi n)), (0, .ref 83)], []) _ _ _
      refine Z_iinc (L2 := [(2, .int (Zi (k + 1))), (1, .int (Zi n)), (0, .ref 83)]) rfl rfl (by decide) rfl ?_
      refine Z_goto (p2 := 4) rfl (by decide +kernel) (by decide +kernel) ?_
      refine B_loc (K := [(2, .int (Zi (k + 1))), (1, .int (Zi n)), (0, .ref 83)]) (N_all_sub ⟨rfl, rfl, rfl, trivial⟩) (show ([2, 1, 0] : List Nat).Nodup by decide) ?_
      exact q8 u2 h hs e1 (e2.weak (fun e he => by rcases he with he | he | he | he | he | he | he <;> omega))
theorem R_vk.p {s u : R_S} {K : Int → Prop} (h : R_vk s u K) : u.1 13 = s.1 13 ∧ (∀ q, q = 90 ∨ q = 91 ∨ q = 92 ∨ q = 93 → ∀ j, u.2.1 q j = s.2.1 q j) := ⟨h.1.1 13 (by decide), fun q hq => h.1.2.1 q (by rcases hq with rfl | rfl | rfl | rfl <;> decide)⟩
/-- the sets L stand from the number m on -/
def R_hs (s : R_S) (m : Nat) (L : List (Int → Prop)) : Prop := m + L.length ≤ 90 ∧ ∀ (i : Nat) (h : i < L.length) (b : Int), 0 ≤ b → b < 256 → (R_has s ((m + i : Nat) : Int) b ↔ L[i] b)
theorem R_hs.app {s : R_S} {m : Nat} {K L : List (Int → Prop)} (h : R_hs s m (K ++ L)) : R_hs s m K ∧ R_hs s (m + K.length) L := by
  have h1 := h.1
  rw [List.length_append] at h1
  refine ⟨⟨by omega, fun i hi b b0 b1 => ?_⟩, ⟨by omega, fun i hi b b0 b1 => ?_⟩⟩
  · have := h.2 i (by rw [List.length_append]; omega) b b0 b1
    rw [List.getElem_append_left hi] at this
    exact this
  · have := h.2 (K.length + i) (by rw [List.length_append]; omega) b b0 b1
    have e : (K ++ L)[K.length + i]'(by rw [List.length_append]; omega) = L[i] := by
      rw [List.getElem_append_right (by omega)]
      congr 1
      omega
    rw [e] at this
    rw [show m + K.length + i = m + (K.length + i) by omega]
    exact this
set_option maxHeartbeats 4000000 in
theorem R_wants_t {d : Nat} {h0 : E_H} {s : R_S} {sl : Nat} {Φ : E_R → Prop} (p1 : s.1 13 ≤ 400) : ∀ (t : P_T), T_is t → ∀ (m : Nat) (k n : Int) (u : R_S) (h : E_H), R_is h0 h u → R_vk s u (fun _ => True) → R_at_ s k (T_ops m t) → R_hs s m (T_sets t) → 0 ≤ k → k + (T_ops m t).length ≤ s.1 13 → 0 ≤ n → n + T_dp t ≤ 36 → P_hb t → (∀ (u2 : R_S) (h2 : E_H), R_is h0 h2 u2 → R_vk u u2 (fun e => n ≤ e) → R_V u2 n (P_plan t) → B_R (d + 10) E_m249 (4, [(2, .int (Zi (k + (T_ops m t).length))), (1, .int (Zi (n + 1))), (0, .ref 83)], []) h2 sl Φ) → B_R (d + 10) E_m249 (4, [(2, .int (Zi k)), (1, .int (Zi n)), (0, .ref 83)], []) h sl Φ := by
  intro t ht
  refine T_ind (P := fun t => ∀ (m : Nat) (k n : Int) (u : R_S) (h : E_H), R_is h0 h u → R_vk s u (fun _ => True) → R_at_ s k (T_ops m t) → R_hs s m (T_sets t) → 0 ≤ k → k + (T_ops m t).length ≤ s.1 13 → 0 ≤ n → n + T_dp t ≤ 36 → P_hb t → (∀ (u2 : R_S) (h2 : E_H), R_is h0 h2 u2 → R_vk u u2 (fun e => n ≤ e) → R_V u2 n (P_plan t) → B_R (d + 10) E_m249 (4, [(2, .int (Zi (k + (T_ops m t).length))), (1, .int (Zi (n + 1))), (0, .ref 83)], []) h2 sl Φ) → B_R (d + 10) E_m249 (4, [(2, .int (Zi k)), (1, .int (Zi n)), (0, .ref 83)], []) h sl Φ) ht ?_ ?_ ?_ ?_ ?_
  · intro m k n u h hs hu ha hh k0 k1 n0 n1 hb kont
    have e := R_at_.one (ha : R_at_ s k [(5, 0, 0)])
    have e13 : u.1 13 = s.1 13 := hu.p.1
    have ex : ∀ q, q = 90 ∨ q = 91 ∨ q = 92 ∨ q = 93 → ∀ j, u.2.1 q j = s.2.1 q j := hu.p.2
    rw [← ex 90 (.inl rfl), ← ex 91 (.inr (.inl rfl)), ← ex 92 (.inr (.inr (.inl rfl)))] at e
    have k1 : k + ((1 : Nat) : Int) ≤ s.1 13 := k1
    have n1 : n + ((1 : Nat) : Int) ≤ 36 := n1
    exact R_wn_1 hs k0 (by omega) (by omega) n0 (by omega) (by omega) (fun h => by omega) (fun _ _ u2 h hs q4 q5 => kont u2 h hs q5 q4) (fun h => by omega) (fun h => by omega) (fun h => by omega) (fun h => by omega) (fun h => by omega) (fun h => by omega)
  · intro A hw m k n u h hs hu ha hh k0 k1 n0 n1 hb kont
    have n1 : n + (T_dp (T_atm A) : Int) ≤ 36 := n1
    rw [T_dp_atm hw] at n1
    have e13 : u.1 13 = s.1 13 := hu.p.1
    have ex : ∀ q, q = 90 ∨ q = 91 ∨ q = 92 ∨ q = 93 → ∀ j, u.2.1 q j = s.2.1 q j := hu.p.2
    cases A with
    | inl op =>
      have hop : op = 2 ∨ op = 3 ∨ op = 4 := hw
      have eops : T_ops m (T_atm (.inl op)) = [(op, 0, 0)] := T_ops_one (q := (op, 0, 0, fun _ => False)) (by show op ≠ 1; omega) m
      rw [eops] at ha k1 kont
      have e := R_at_.one ha
      rw [← ex 90 (.inl rfl), ← ex 91 (.inr (.inl rfl)), ← ex 92 (.inr (.inr (.inl rfl)))] at e
      have k1 : k + ((1 : Nat) : Int) ≤ s.1 13 := k1
      exact R_wn_1 hs k0 (by omega) (by omega) n0 (by omega) (by omega) (fun h => by omega) (fun _ _ u2 h hs q4 q5 => kont u2 h hs q5 (by rw [P_plan_atm hw]; exact q4)) (fun h => by omega) (fun h => by omega) (fun h => by omega) (fun h => by omega) (fun h => by omega) (fun h => by omega)
    | inr B =>
      have e := R_at_.one (ha : R_at_ s k [(1, (m : Int), 0)])
      rw [← ex 90 (.inl rfl), ← ex 91 (.inr (.inl rfl)), ← ex 92 (.inr (.inr (.inl rfl)))] at e
      have k1 : k + ((1 : Nat) : Int) ≤ s.1 13 := k1
      have hh : R_hs s m [B] := hh
      have h90 := hh.1
      have h91 := hh.2 0 Nat.one_pos
      simp only [List.length_cons, List.length_nil] at h90
      have hV : V_set (R_has u (u.2.1 91 k)) = V_atm (.inr B) := V_set_eq (fun b b0 b1 => by
        have := h91 b b0 b1
        rw [e.2.1]
        unfold R_has at this ⊢
        rw [ex 93 (.inr (.inr (.inr rfl)))]
        exact this)
      refine R_wn_1 hs k0 (by omega) (by omega) n0 (by omega) (by omega) (fun _ => ⟨by omega, by omega, fun u2 h hs q4 q5 => ?_⟩) (fun h _ => by omega) (fun h => by omega) (fun h => by omega) (fun h => by omega) (fun h => by omega) (fun h => by omega) (fun h => by omega)
      rw [hV] at q4
      exact kont u2 h hs q5 (by rw [P_plan_atm hw]; exact q4)
  · intro l r wl wr ihl ihr m k n u h hs hu ha hh k0 k1 n0 n1 hb kont
    have eops : T_ops m (T_beh l r) = T_ops m l ++ T_ops (m + (T_sets l).length) r ++ [(6, 0, 0)] := by
      unfold T_beh
      rw [T_ops_app, T_ops_app]
      rfl
    have esets : T_sets (T_beh l r) = T_sets l ++ T_sets r := by
      unfold T_beh
      rw [T_sets_app, T_sets_app]
      exact List.append_nil _
    rw [eops] at ha k1
    rw [esets] at hh
    rw [T_dp_beh wl wr] at n1
    rw [P_hb_beh wl wr] at hb
    obtain ⟨ha, ha3⟩ := ha.app
    obtain ⟨ha1, ha2⟩ := ha.app
    obtain ⟨hh1, hh2⟩ := hh.app
    simp only [List.length_append, List.length_cons, List.length_nil] at k1 ha3
    refine ihl m k n u h hs hu ha1 hh1 k0 (by omega) n0 (by omega) hb.1 (fun u1 h1 hs1 hu1 q1 => ?_)
    refine ihr _ _ (n + 1) u1 h1 hs1 (hu.trans hu1 (fun _ _ => trivial) (fun _ _ => trivial)) ha2 hh2 (by omega) (by omega) (by omega) (by omega) hb.2.1 (fun u2 h2 hs2 hu2 q2 => ?_)
    have hdr := T_dp_pos wr
    have hdl := T_dp_pos wl
    have hsu : R_vk s u2 (fun _ => True) := (hu.trans hu1 (fun _ _ => trivial) (fun _ _ => trivial)).trans hu2 (fun _ _ => trivial) (fun _ _ => trivial)
    have e13 : u2.1 13 = s.1 13 := hsu.p.1
    have ex := hsu.p.2
    have e := ha3.one
    rw [← ex 90 (.inl rfl), ← ex 91 (.inr (.inl rfl)), ← ex 92 (.inr (.inr (.inl rfl)))] at e
    have q1 := R_V_vk hu2 (show ¬ n + 1 ≤ n by omega) q1
    have el : (T_ops m (T_beh l r)).length = (T_ops m l).length + (T_ops (m + (T_sets l).length) r).length + 1 := by
      rw [eops]
      simp only [List.length_append, List.length_cons, List.length_nil]
    rw [el] at kont
    rw [show k + ((T_ops m l).length : Int) + ((T_ops (m + (T_sets l).length) r).length : Int) = k + ((T_ops m l).length + (T_ops (m + (T_sets l).length) r).length : Nat) by omega]
    have kont2 : ∀ (u3 : R_S) (h : E_H), R_is h0 h u3 → R_V u3 (n + 1 + 1 - 2) (V_beh (P_plan l) (P_plan r)) → R_vk u2 u3 (fun e => n + 1 + 1 - 2 ≤ e) → B_R (d + 10) E_m249 (4, [(2, .int (Zi (k + ((T_ops m l).length + (T_ops (m + (T_sets l).length) r).length : Nat) + 1))), (1, .int (Zi (n + 1 + 1 - 1))), (0, .ref 83)], []) h sl Φ := by
      intro u3 h hs q4 q5
      rw [show n + 1 + 1 - 2 = n by omega] at q4 q5
      have := kont u3 h hs ((hu1.trans hu2 (fun _ h => h) (fun e (h : n + 1 ≤ e) => by show n ≤ e; omega)).trans q5 (fun _ h => h) (fun _ h => h)) (by rw [P_plan_beh wl wr]; exact q4)
      rw [show n + 1 + 1 - 1 = n + 1 by omega, show k + (((T_ops m l).length + (T_ops (m + (T_sets l).length) r).length : Nat) : Int) + 1 = k + (((T_ops m l).length + (T_ops (m + (T_sets l).length) r).length + 1 : Nat) : Int) by omega]
      exact this
    have q1 : R_V u2 (n + 1 + 1 - 2) (P_plan l) := by rw [show n + 1 + 1 - 2 = n by omega]; exact q1
    have q2 : R_V u2 (n + 1 + 1 - 1) (P_plan r) := by rw [show n + 1 + 1 - 1 = n + 1 by omega]; exact q2
    exact R_wn_1 hs2 (by omega) (by omega) (by omega) (by omega) (by omega) (by omega) (fun h => by omega) (fun _ h => by omega) (fun _ => ⟨by omega, _, _, q1, q2, V_fix_plan wl, V_fix_plan wr, hb.2.2, kont2⟩) (fun h => by omega) (fun h => by omega) (fun h => by omega) (fun h => by omega) (fun h => by omega)
  · intro l r wl wr ihl ihr m k n u h hs hu ha hh k0 k1 n0 n1 hb kont
    have eops : T_ops m (T_or l r) = T_ops m l ++ T_ops (m + (T_sets l).length) r ++ [(7, 0, 0)] := by
      unfold T_or
      rw [T_ops_app, T_ops_app]
      rfl
    have esets : T_sets (T_or l r) = T_sets l ++ T_sets r := by
      unfold T_or
      rw [T_sets_app, T_sets_app]
      exact List.append_nil _
    rw [eops] at ha k1
    rw [esets] at hh
    rw [T_dp_or wl wr] at n1
    rw [P_hb_or wl wr] at hb
    obtain ⟨ha, ha3⟩ := ha.app
    obtain ⟨ha1, ha2⟩ := ha.app
    obtain ⟨hh1, hh2⟩ := hh.app
    simp only [List.length_append, List.length_cons, List.length_nil] at k1 ha3
    refine ihl m k n u h hs hu ha1 hh1 k0 (by omega) n0 (by omega) hb.1 (fun u1 h1 hs1 hu1 q1 => ?_)
    refine ihr _ _ (n + 1) u1 h1 hs1 (hu.trans hu1 (fun _ _ => trivial) (fun _ _ => trivial)) ha2 hh2 (by omega) (by omega) (by omega) (by omega) hb.2 (fun u2 h2 hs2 hu2 q2 => ?_)
    have hdr := T_dp_pos wr
    have hdl := T_dp_pos wl
    have hsu : R_vk s u2 (fun _ => True) := (hu.trans hu1 (fun _ _ => trivial) (fun _ _ => trivial)).trans hu2 (fun _ _ => trivial) (fun _ _ => trivial)
    have e13 : u2.1 13 = s.1 13 := hsu.p.1
    have ex := hsu.p.2
    have e := ha3.one
    rw [← ex 90 (.inl rfl), ← ex 91 (.inr (.inl rfl)), ← ex 92 (.inr (.inr (.inl rfl)))] at e
    have q1 := R_V_vk hu2 (show ¬ n + 1 ≤ n by omega) q1
    have el : (T_ops m (T_or l r)).length = (T_ops m l).length + (T_ops (m + (T_sets l).length) r).length + 1 := by
      rw [eops]
      simp only [List.length_append, List.length_cons, List.length_nil]
    rw [el] at kont
    rw [show k + ((T_ops m l).length : Int) + ((T_ops (m + (T_sets l).length) r).length : Int) = k + ((T_ops m l).length + (T_ops (m + (T_sets l).length) r).length : Nat) by omega]
    have kont2 : ∀ (u3 : R_S) (h : E_H), R_is h0 h u3 → R_V u3 (n + 1 + 1 - 2) (V_or (P_plan l) (P_plan r)) → R_vk u2 u3 (fun e => n + 1 + 1 - 2 ≤ e) → B_R (d + 10) E_m249 (4, [(2, .int (Zi (k + ((T_ops m l).length + (T_ops (m + (T_sets l).length) r).length : Nat) + 1))), (1, .int (Zi (n + 1 + 1 - 1))), (0, .ref 83)], []) h sl Φ := by
      intro u3 h hs q4 q5
      rw [show n + 1 + 1 - 2 = n by omega] at q4 q5
      have := kont u3 h hs ((hu1.trans hu2 (fun _ h => h) (fun e (h : n + 1 ≤ e) => by show n ≤ e; omega)).trans q5 (fun _ h => h) (fun _ h => h)) (by rw [P_plan_or wl wr]; exact q4)
      rw [show n + 1 + 1 - 1 = n + 1 by omega, show k + (((T_ops m l).length + (T_ops (m + (T_sets l).length) r).length : Nat) : Int) + 1 = k + (((T_ops m l).length + (T_ops (m + (T_sets l).length) r).length + 1 : Nat) : Int) by omega]
      exact this
    have q1 : R_V u2 (n + 1 + 1 - 2) (P_plan l) := by rw [show n + 1 + 1 - 2 = n by omega]; exact q1
    have q2 : R_V u2 (n + 1 + 1 - 1) (P_plan r) := by rw [show n + 1 + 1 - 1 = n + 1 by omega]; exact q2
    exact R_wn_1 hs2 (by omega) (by omega) (by omega) (by omega) (by omega) (by omega) (fun h => by omega) (fun _ h => by omega) (fun h => by omega) (fun _ => ⟨by omega, _, _, q1, q2, kont2⟩) (fun h => by omega) (fun h => by omega) (fun h => by omega) (fun h => by omega)
  · intro t op lo hi hc wt ih m k n u h hs hu ha hh k0 k1 n0 n1 hb kont
    have hop : op ≠ 1 := by unfold T_cok at hc; omega
    have eops : T_ops m (T_cnt t op lo hi) = T_ops m t ++ [(op, lo, hi)] := by
      unfold T_cnt
      rw [T_ops_app, T_ops_one hop]
    have esets : T_sets (T_cnt t op lo hi) = T_sets t := by
      unfold T_cnt
      rw [T_sets_app, T_sets_one hop, List.append_nil]
    rw [eops] at ha k1
    rw [esets] at hh
    rw [T_dp_cnt hc wt] at n1
    rw [P_hb_cnt hc wt] at hb
    obtain ⟨ha1, ha3⟩ := ha.app
    simp only [List.length_append, List.length_cons, List.length_nil] at k1
    refine ih m k n u h hs hu ha1 hh k0 (by omega) n0 n1 hb.1 (fun u1 h1 hs1 hu1 q1 => ?_)
    have hsu : R_vk s u1 (fun _ => True) := hu.trans hu1 (fun _ _ => trivial) (fun _ _ => trivial)
    have e13 : u1.1 13 = s.1 13 := hsu.p.1
    have ex := hsu.p.2
    have e := ha3.one
    rw [← ex 90 (.inl rfl), ← ex 91 (.inr (.inl rfl)), ← ex 92 (.inr (.inr (.inl rfl)))] at e
    obtain ⟨e1, e2, e3⟩ := e
    have hd := T_dp_pos wt
    have el : ((T_ops m (T_cnt t op lo hi)).length : Int) = (T_ops m t).length + 1 := by
      rw [eops]
      simp only [List.length_append, List.length_cons, List.length_nil]
      push_cast
      omega
    rw [el] at kont
    have q1 : R_V u1 (n + 1 - 1) (P_plan t) := by rw [show n + 1 - 1 = n by omega]; exact q1
    have fin : ∀ (v : P_V) (u3 : R_S) (h : E_H), v = P_plan (T_cnt t op lo hi) → R_is h0 h u3 → R_V u3 (n + 1 - 1) v → R_vk u1 u3 (fun e => n + 1 - 1 ≤ e) → B_R (d + 10) E_m249 (4, [(2, .int (Zi (k + (T_ops m t).length + 1))), (1, .int (Zi (n + 1))), (0, .ref 83)], []) h sl Φ := by
      intro v u3 h hv hs q4 q5
      rw [show n + 1 - 1 = n by omega] at q4 q5
      rw [hv] at q4
      have := kont u3 h hs (hu1.trans q5 (fun _ h => h) (fun _ h => h)) q4
      rw [← Int.add_assoc] at this
      exact this
    rw [P_plan_cnt hc wt] at fin
    unfold V_cnt at fin
    have hc2 := hc
    have ho : op = 8 ∨ op = 9 ∨ op = 10 ∨ op = 11 := by unfold T_cok at hc; omega
    refine R_wn_1 hs1 (by omega) (by omega) (by omega) (by omega) (by omega) (by omega) (fun h => by omega) (fun _ h => by omega) (fun h => by omega) (fun h => by omega) (fun h => ⟨by omega, fun u3 h3 => fin _ u3 h3 ?_⟩) (fun h => ⟨by omega, _, q1, fun u3 h3 => fin _ u3 h3 ?_⟩) (fun h => ⟨by omega, _, q1, fun u3 h3 => fin _ u3 h3 ?_⟩) (fun h => ⟨by omega, _, q1, V_fix_plan wt, ?_, ?_, ?_, ?_, fun u3 h3 => fin _ u3 h3 ?_⟩)
    · rw [if_pos (by omega)]
    · rw [if_neg (by omega), if_pos (by omega)]
    · rw [if_neg (by omega), if_neg (by omega), if_pos (by omega)]
    · unfold T_cok at hc; omega
    · unfold T_cok at hc; omega
    · unfold T_cok at hc; omega
    · rw [e2, e3]
      exact hb.2 (by omega)
    · rw [if_neg (by omega), if_neg (by omega), if_neg (by omega), e2, e3]
theorem R_wants (d : Nat) (s : R_S) {t : P_T} (hw : T_is t) (hd : T_dp t ≤ 23) (tl : R_tl s t) (p1 : s.1 13 ≤ 400) (p2 : s.1 15 ≤ 90) (hb : P_hb t) : R_ok (d + 11) 249 [] s (fun x s2 => x = none ∧ R_V s2 0 (P_plan t) ∧ R_vk s s2 (fun _ => True)) := by
  refine R_enter (M := E_m249) rfl (Nat.le_of_ble_eq_true rfl) (fun h0 h hs => ?_)
  show B_R (d + 10) _ (0, [(0, .ref 83)], []) _ _ _
  refine Z_go (f2 := (1, [(0, .ref 83)], [.int (Zi 0)])) (fun _ => rfl) ?_
  refine Z_go (f2 := (2, [(1, .int (Zi 0)), (0, .ref 83)], [])) (fun _ => rfl) ?_
  refine Z_go (f2 := (3, [(1, .int (Zi 0)), (0, .ref 83)], [.int (Zi 0)])) (fun _ => rfl) ?_
  refine Z_go (f2 := (4, [(2, .int (Zi 0)), (1, .int (Zi 0)), (0, .ref 83)], [])) (fun _ => rfl) ?_
  have e13 : s.1 13 = ((T_ops 0 t).length : Int) := tl.n13
  have e15 : s.1 15 = ((T_sets t).length : Int) := tl.n15
  have ha : R_at_ s 0 (T_ops 0 t) := fun i hi => by
    have := tl.e i hi
    rw [Int.zero_add]
    exact this
  have hh : R_hs s 0 (T_sets t) := ⟨by omega, fun i hi b b0 b1 => by
    have := tl.h i hi b b0 b1
    rw [show ((0 + i : Nat) : Int) = (i : Int) by omega]
    exact this⟩
  refine B_loc (K := [(2, .int (Zi 0)), (1, .int (Zi 0)), (0, .ref 83)]) (N_all_sub ⟨rfl, rfl, rfl, trivial⟩) (show ([2, 1, 0] : List Nat).Nodup by decide) ?_
  refine R_wants_t p1 t hw 0 0 0 s h hs (R_vk_0 s _) ha hh (by omega) (by omega) (by omega) (by omega) hb (fun u h hs hu q1 => ?_)
  have u13 : u.1 13 = s.1 13 := hu.p.1
  rw [show (0 : Int) + (T_ops 0 t).length = u.1 13 by omega, show (0 : Int) + 1 = 1 from rfl]
  refine Z_go (f2 := (5, [(2, .int (Zi (u.1 13))), (1, .int (Zi 1)), (0, .ref 83)], [.int (Zi (u.1 13))])) (fun _ => rfl) ?_
  refine Z_go (f2 := (6, [(2, .int (Zi (u.1 13))), (1, .int (Zi 1)), (0, .ref 83)], [.ref 83, .int (Zi (u.1 13))])) (fun _ => rfl) ?_
  refine R_gi rfl hs rfl ?_
  show B_R _ _ (9, [(2, .int (Zi (u.1 13))), (1, .int (Zi 1)), (0, .ref 83)], [.int (Zi (u.1 13)), .int (Zi (u.1 13))]) _ _ _
  refine Z_cge rfl rfl (by first | exact hs.zF _ | exact Zor_r _ _ | exact hs.zA _ _ | assumption | exact zA _ _ | exact zS _ | exact Zr_not (hs.zA _ _) | exact ⟨by omega, by omega⟩) (by first | exact hs.zF _ | exact Zor_r _ _ | exact hs.zA _ _ | assumption | exact zA _ _ | exact zS _ | exact Zr_not (hs.zA _ _) | exact ⟨by omega, by omega⟩) (fun c1 => ?_) (fun c1 => ?_)
  · refine Z_ret rfl rfl ⟨_, hs, ?_, rfl⟩
    exact ⟨rfl, q1, hu.weak (fun _ _ => trivial)⟩
  · exfalso; omega
