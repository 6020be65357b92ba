/-! the reference: what is dead; the code of a regex, purely -/
def X_cnt (B : X_L) (op lo hi : Int) : X_L := if op = 8 then (6, 0) :: B ++ [(8, (B.length : Int))] else if op = 9 then (7, 0) :: B ++ [(8, (B.length : Int))] else if op = 10 then (3, 0) :: B ++ [(5, 0)] else if lo = 0 ∧ hi = 0 then [] else X_times lo hi B
def T_xv (back : Bool) (t : P_T) : (Nat → X_L) × Nat := T_ev ((fun _ => [], 0), (fun A => match A with
  | .inl op => (fun _ => [(2, op)], 0)
  | .inr _ => (fun m => [(1, (m : Int))], 1)), (fun x y => (fun m => cond back (y.1 (m + x.2) ++ x.1 m) (x.1 m ++ y.1 (m + x.2)), x.2 + y.2)), (fun x y => (fun m => (3, 0) :: x.1 m ++ (4, 0) :: y.1 (m + x.2) ++ [(5, 0)], x.2 + y.2)), (fun x op lo hi => (fun m => X_cnt (x.1 m) op lo hi, x.2))) t
/-- the code of a regex whose first set has the number m -/
def T_cod (back : Bool) (m : Nat) (t : P_T) : X_L := (T_xv back t).1 m
section TX
variable {back : Bool} {m : Nat}
theorem T_xv_n {t : P_T} (h : T_is t) : (T_xv back t).2 = (T_sets t).length := by
  refine T_ind (P := fun t => (T_xv back t).2 = (T_sets t).length) h rfl (fun A hA => ?_) (fun l r h1 h2 p1 p2 => ?_) (fun l r h1 h2 p1 p2 => ?_) (fun t op lo hi hc h1 p1 => ?_)
  · cases A with
    | inl op =>
      have e : T_xv back (T_atm (.inl op)) = (fun _ => [(2, op)], 0) := T_ev_atm _ hA
      have hA : op = 2 ∨ op = 3 ∨ op = 4 := hA
      rw [e, show T_sets (T_atm (.inl op)) = [] from T_sets_one (q := (op, 0, 0, fun _ => False)) (by show op ≠ 1; omega)]
      rfl
    | inr B => rfl
  · have e : (T_xv back (T_beh l r)).2 = (T_xv back l).2 + (T_xv back r).2 := congrArg Prod.snd (T_ev_beh _ h1 h2)
    rw [e, p1, p2]
    unfold T_beh
    rw [T_sets_app, T_sets_app, List.length_append, List.length_append]
    rfl
  · have e : (T_xv back (T_or l r)).2 = (T_xv back l).2 + (T_xv back r).2 := congrArg Prod.snd (T_ev_or _ h1 h2)
    rw [e, p1, p2]
    unfold T_or
    rw [T_sets_app, T_sets_app, List.length_append, List.length_append]
    rfl
  · have e0 : T_xv back (T_cnt t op lo hi) = (fun m => X_cnt ((T_xv back t).1 m) op lo hi, (T_xv back t).2) := T_ev_cnt _ hc h1
    have e : (T_xv back (T_cnt t op lo hi)).2 = (T_xv back t).2 := by rw [e0]
    rw [e, p1]
    unfold T_cnt
    rw [T_sets_app, T_sets_one (by show op ≠ 1; unfold T_cok at hc; omega), List.append_nil]
theorem T_cod_emp : T_cod back m T_emp = [] := rfl
theorem T_cod_in {op : Int} (h : A_ok (.inl op)) : T_cod back m (T_atm (.inl op)) = [(2, op)] := congrFun (congrArg Prod.fst (T_ev_atm _ h)) m
theorem T_cod_by {B : Int → Prop} : T_cod back m (T_atm (.inr B)) = [(1, (m : Int))] := congrFun (congrArg Prod.fst (T_ev_atm _ (A := .inr B) trivial)) m
theorem T_cod_beh {l r : P_T} (h1 : T_is l) (h2 : T_is r) : T_cod back m (T_beh l r) = cond back (T_cod back (m + (T_sets l).length) r ++ T_cod back m l) (T_cod back m l ++ T_cod back (m + (T_sets l).length) r) := by
  rw [← T_xv_n (back := back) h1]
  exact congrFun (congrArg Prod.fst (T_ev_beh _ h1 h2)) m
theorem T_cod_or {l r : P_T} (h1 : T_is l) (h2 : T_is r) : T_cod back m (T_or l r) = (3, 0) :: T_cod back m l ++ (4, 0) :: T_cod back (m + (T_sets l).length) r ++ [(5, 0)] := by
  rw [← T_xv_n (back := back) h1]
  exact congrFun (congrArg Prod.fst (T_ev_or _ h1 h2)) m
theorem T_cod_cnt {t : P_T} {op lo hi : Int} (hc : T_cok op lo hi) (h1 : T_is t) : T_cod back m (T_cnt t op lo hi) = X_cnt (T_cod back m t) op lo hi := congrFun (congrArg Prod.fst (T_ev_cnt _ hc h1)) m
theorem X_times_len {lo hi : Int} (B : X_L) (h0 : 0 ≤ lo) (h1 : hi = -1 ∨ lo ≤ hi) : ((X_times lo hi B).length : Int) = if hi = -1 then lo * B.length + B.length + 2 else hi * B.length + 2 * (hi - lo) := by
  unfold X_times
  rw [List.length_append, X_rep_len, X_rep_len, X_more_len]
  obtain ⟨a, rfl⟩ := Int.eq_ofNat_of_zero_le h0
  by_cases c : hi = -1
  · rw [if_pos c, if_pos c, Int.toNat_natCast]
    push_cast
    omega
  · rw [if_neg c, if_neg c, Int.toNat_natCast]
    obtain ⟨b, hb⟩ := Int.eq_ofNat_of_zero_le (show 0 ≤ hi - (a : Int) by omega)
    rw [hb, Int.toNat_natCast, show hi = (a : Int) + b by omega, Nat.mul_add]
    push_cast
    rw [Int.add_mul]
    omega
theorem T_cod_len {t : P_T} (h : T_is t) : ∀ m, ((T_cod back m t).length : Int) ≤ 3 * T_sz t := by
  refine T_ind (P := fun t => ∀ m, ((T_cod back m t).length : Int) ≤ 3 * T_sz t) h (fun m => Int.le_refl _) (fun A hA m => ?_) (fun l r h1 h2 p1 p2 m => ?_) (fun l r h1 h2 p1 p2 m => ?_) (fun t op lo hi hc h1 p1 m => ?_)
  · rw [T_sz_atm hA]
    cases A with
    | inl op => rw [T_cod_in hA]; show ((1 : Nat) : Int) ≤ 3 * 1; decide
    | inr B => rw [T_cod_by]; show ((1 : Nat) : Int) ≤ 3 * 1; decide
  · rw [T_cod_beh h1 h2, T_sz_beh h1 h2]
    have a1 := p1 m
    have a2 := p2 (m + (T_sets l).length)
    cases back with
    | true => show ((_ ++ _ : X_L).length : Int) ≤ _; rw [List.length_append]; omega
    | false => show ((_ ++ _ : X_L).length : Int) ≤ _; rw [List.length_append]; omega
  · rw [T_cod_or h1 h2, T_sz_or h1 h2]
    have a1 := p1 m
    have a2 := p2 (m + (T_sets l).length)
    simp only [List.length_append, List.length_cons, List.length_nil]
    omega
  · rw [T_cod_cnt hc h1, T_sz_cnt hc h1]
    have a1 := p1 m
    have a2 := T_sz_pos h1
    unfold X_cnt
    have one : ∀ x y z : Int × Int, (((x :: T_cod back m t ++ [y] : X_L).length : Nat) : Int) ≤ 3 * (T_sz t + 1) := fun x y z => by
      simp only [List.length_append, List.length_cons, List.length_nil]
      omega
    rcases hc with ⟨o1, o2, o3⟩ | ⟨o1, o2, o3, o4⟩
    · rw [if_neg (show op ≠ 11 by omega)]
      split
      · exact one _ _ (0, 0)
      · split
        · exact one _ _ (0, 0)
        · rw [if_pos (by omega)]
          exact one _ _ (0, 0)
    · rw [if_neg (show op ≠ 8 by omega), if_neg (show op ≠ 9 by omega), if_neg (show op ≠ 10 by omega), if_pos o1]
      by_cases c : lo = 0 ∧ hi = 0
      · rw [if_pos c, if_neg (by omega), c.1, c.2]
        simp
      · rw [if_neg c, X_times_len _ o2 (by omega)]
        by_cases c2 : hi = -1
        · rw [if_pos c2, if_pos c2, Int.add_mul, Int.one_mul]
          have := Int.mul_le_mul_of_nonneg_left a1 o2
          rw [Int.mul_left_comm] at this
          omega
        · rw [if_neg c2, if_neg c2]
          have := Int.mul_le_mul_of_nonneg_left a1 (show 0 ≤ hi by omega)
          rw [Int.mul_left_comm] at this
          omega
end TX
/-- what is dead, op by op -/
def X_dd (t : P_T) : List Int := T_ev ([0], (fun _ => [0]), (fun x y => x ++ y ++ [0]), (fun x y => x ++ y ++ [0]), (fun x op lo hi => if op = 11 ∧ lo = 0 ∧ hi = 0 then List.replicate x.length 1 ++ [0] else x ++ [0])) t
theorem X_dd_atm {A : P_A} (h : A_ok A) : X_dd (T_atm A) = [0] := T_ev_atm _ h
theorem X_dd_beh {l r : P_T} (h1 : T_is l) (h2 : T_is r) : X_dd (T_beh l r) = X_dd l ++ X_dd r ++ [0] := T_ev_beh _ h1 h2
theorem X_dd_or {l r : P_T} (h1 : T_is l) (h2 : T_is r) : X_dd (T_or l r) = X_dd l ++ X_dd r ++ [0] := T_ev_or _ h1 h2
theorem X_dd_cnt {t : P_T} {op lo hi : Int} (hc : T_cok op lo hi) (h1 : T_is t) : X_dd (T_cnt t op lo hi) = if op = 11 ∧ lo = 0 ∧ hi = 0 then List.replicate (X_dd t).length 1 ++ [0] else X_dd t ++ [0] := T_ev_cnt _ hc h1
theorem T_ops_len : ∀ (t : P_T) (m : Nat), (T_ops m t).length = t.length
  | [], _ => rfl
  | q :: t, m => by
    show (if q.1 = 1 then (1, (m : Int), 0) :: T_ops (m + 1) t else (q.1, q.2.1, q.2.2.1) :: T_ops m t).length = t.length + 1
    split
    · rw [List.length_cons, T_ops_len t]
    · rw [List.length_cons, T_ops_len t]
theorem X_dd_len {t : P_T} (h : T_is t) : (X_dd t).length = t.length := by
  refine T_ind (P := fun t => (X_dd t).length = t.length) h rfl (fun A hA => ?_) (fun l r h1 h2 p1 p2 => ?_) (fun l r h1 h2 p1 p2 => ?_) (fun t op lo hi hc h1 p1 => ?_)
  · rw [X_dd_atm hA]
    cases A <;> rfl
  · rw [X_dd_beh h1 h2]
    unfold T_beh
    simp only [List.length_append, p1, p2]
    rfl
  · rw [X_dd_or h1 h2]
    unfold T_or
    simp only [List.length_append, p1, p2]
    rfl
  · rw [X_dd_cnt hc h1]
    unfold T_cnt
    split
    · simp only [List.length_append, List.length_replicate, p1]; rfl
    · simp only [List.length_append, p1]; rfl
def R_dd (s : R_S) (k : Int) (D : List Int) : Prop := ∀ (i : Nat) (h : i < D.length), s.2.1 117 (k + i) = D[i]
theorem R_dd.app {s : R_S} {p : Int} {K L : List Int} (h : R_dd s p (K ++ L)) : R_dd s p K ∧ R_dd s (p + K.length) L := by
  refine ⟨fun i hi => ?_, fun i hi => ?_⟩
  · have := h i (by rw [List.length_append]; omega)
    rw [List.getElem_append_left hi] at this
    exact this
  · have := h (K.length + i) (by rw [List.length_append]; omega)
    rw [List.getElem_append_right (by omega)] at this
    simp only [Nat.add_sub_cancel_left] at this
    rw [show p + (K.length : Int) + (i : Int) = p + ((K.length + i : Nat) : Int) by omega]
    exact this
theorem R_dd.of {s : R_S} {p : Int} {K L : List Int} (h : R_dd s p K) (g : R_dd s (p + K.length) L) : R_dd s p (K ++ L) := by
  intro i hi
  by_cases c : i < K.length
  · rw [List.getElem_append_left c]
    exact h i c
  · rw [List.getElem_append_right (by omega)]
    rw [List.length_append] at hi
    have := g (i - K.length) (by omega)
    rw [show p + (K.length : Int) + ((i - K.length : Nat) : Int) = p + (i : Int) by omega] at this
    exact this
theorem R_dd.at {s u : R_S} {p : Int} {L : List Int} (h : R_dd s p L) (g : ∀ i : Int, 0 ≤ i → i < L.length → u.2.1 117 (p + i) = s.2.1 117 (p + i)) : R_dd u p L := fun i hi => (g i (by omega) (by omega)).trans (h i hi)
theorem R_dd.one {s : R_S} {p x : Int} (h1 : s.2.1 117 p = x) : R_dd s p [x] := fun i hi => by
  have : i = 0 := by simp only [List.length_cons, List.length_nil] at hi; omega
  subst this
  rw [show p + ((0 : Nat) : Int) = p by omega]
  exact h1
def R_nev (s : R_S) (k : Int) : Prop := s.2.1 90 k = 11 ∧ s.2.1 91 k = 0 ∧ s.2.1 92 k = 0
theorem R_isNever (d : Nat) (s : R_S) {k : Int}  (zk : Zr k) (k0 : 0 ≤ k) (k1 : k < 400) : R_ok (d + 1) 257 [.int (Zi k)] s (fun x s2 => s2 = s ∧ ∃ v : Int, x = some (.int (Zi v)) ∧ (v = 1 ∧ R_nev s k ∨ v = 0 ∧ ¬ R_nev s k)) := by
  refine R_enter (M := E_m257) rfl (Nat.le_of_ble_eq_true rfl) (fun h0 h hs => ?_)
  show B_R d _ (0, [(0, .ref 83), (1, .int (Zi k))], []) _ _ _
  refine Z_go (f2 := (1, [(0, .ref 83), (1, .int (Zi k))], [.ref 83])) (fun _ => rfl) ?_
  refine R_gr (q := 88) rfl hs rfl ?_
  show B_R _ _ (4, [(0, .ref 83), (1, .int (Zi k))], [.ref 90]) _ _ _
  refine Z_go (f2 := (5, [(0, .ref 83), (1, .int (Zi k))], [.int (Zi k), .ref 90])) (fun _ => rfl) ?_
  refine R_ia (q := 6) rfl hs rfl rfl (by omega) (by omega) (by decide) ?_
  refine Z_go (f2 := (8, [(0, .ref 83), (1, .int (Zi k))], [.int (Zi 11), .int (Zi (s.2.1 90 k))])) (fun _ => rfl) ?_
  refine Z_cne rfl rfl (by first | exact hs.zF _ | exact Zor_r _ _ | exact hs.zA _ _ | assumption | exact zA _ _ | exact zS _ | exact Zr_not (hs.zA _ _) | exact ⟨by omega, by omega⟩) (by first | exact hs.zF _ | exact Zor_r _ _ | exact hs.zA _ _ | assumption | exact zA _ _ | exact zS _ | exact Zr_not (hs.zA _ _) | exact ⟨by omega, by omega⟩) (fun c1 => ?_) (fun c1 => ?_)
  · refine Z_go (f2 := (34, [(0, .ref 83), (1, .int (Zi k))], [.int (Zi 0)])) (fun _ => rfl) ?_
    refine Z_iret rfl rfl (by first | rfl | decide | exact narrow_b01 (by omega)) ⟨_, hs, ?_, rfl⟩
    exact ⟨rfl, _, rfl, by unfold R_nev; omega⟩
  · refine Z_go (f2 := (12, [(0, .ref 83), (1, .int (Zi k))], [.ref 83])) (fun _ => rfl) ?_
    refine R_gr (q := 89) rfl hs rfl ?_
    show B_R _ _ (15, [(0, .ref 83), (1, .int (Zi k))], [.ref 91]) _ _ _
    refine Z_go (f2 := (16, [(0, .ref 83), (1, .int (Zi k))], [.int (Zi k), .ref 91])) (fun _ => rfl) ?_
    refine R_ia (q := 7) rfl hs rfl rfl (by omega) (by omega) (by decide) ?_
    refine Z_ine rfl rfl (by first | exact hs.zF _ | exact Zor_r _ _ | exact hs.zA _ _ | assumption | exact zA _ _ | exact zS _ | exact Zr_not (hs.zA _ _) | exact ⟨by omega, by omega⟩) (fun c2 => ?_) (fun c2 => ?_)
    · refine Z_go (f2 := (34, [(0, .ref 83), (1, .int (Zi k))], [.int (Zi 0)])) (fun _ => rfl) ?_
      refine Z_iret rfl rfl (by first | rfl | decide | exact narrow_b01 (by omega)) ⟨_, hs, ?_, rfl⟩
      exact ⟨rfl, _, rfl, by unfold R_nev; omega⟩
    · refine Z_go (f2 := (21, [(0, .ref 83), (1, .int (Zi k))], [.ref 83])) (fun _ => rfl) ?_
      refine R_gr (q := 90) rfl hs rfl ?_
      show B_R _ _ (24, [(0, .ref 83), (1, .int (Zi k))], [.ref 92]) _ _ _
      refine Z_go (f2 := (25, [(0, .ref 83), (1, .int (Zi k))], [.int (Zi k), .ref 92])) (fun _ => rfl) ?_
      refine R_ia (q := 8) rfl hs rfl rfl (by omega) (by omega) (by decide) ?_
      refine Z_ine rfl rfl (by first | exact hs.zF _ | exact Zor_r _ _ | exact hs.zA _ _ | assumption | exact zA _ _ | exact zS _ | exact Zr_not (hs.zA _ _) | exact ⟨by omega, by omega⟩) (fun c3 => ?_) (fun c3 => ?_)
      · refine Z_go (f2 := (34, [(0, .ref 83), (1, .int (Zi k))], [.int (Zi 0)])) (fun _ => rfl) ?_
        refine Z_iret rfl rfl (by first | rfl | decide | exact narrow_b01 (by omega)) ⟨_, hs, ?_, rfl⟩
        exact ⟨rfl, _, rfl, by unfold R_nev; omega⟩
      · refine Z_go (f2 := (30, [(0, .ref 83), (1, .int (Zi k))], [.int (Zi 1)])) (fun _ => rfl) ?_
        refine Z_go (f2 := (34, [(0, .ref 83), (1, .int (Zi k))], [.int (Zi 1)])) (fun _ => rfl) ?_
        refine Z_iret rfl rfl (by first | rfl | decide | exact narrow_b01 (by omega)) ⟨_, hs, ?_, rfl⟩
        exact ⟨rfl, _, rfl, by unfold R_nev; omega⟩
theorem R_bu_lp {d : Nat} {h0 : E_H} {s : R_S} {sl : Nat} {Φ : E_R → Prop} {k n b : Int} (k2 : k < 400) (b0 : 0 ≤ b) (zk : Zr k) (kont : ∀ h : E_H, R_is h0 h (R_fl s 117 b k (fun _ => 1)) → B_R (d + 1) E_m258 (94, [(2, .int (Zi k)), (1, .int (Zi n)), (0, .ref 83)], []) h sl Φ) : ∀ (t : Nat) (i : Int) (h : E_H), k - i < t → R_is h0 h (R_fl s 117 b i (fun _ => 1)) → b ≤ i → i ≤ k → B_R (d + 1) E_m258 (76, [(3, .int (Zi i)), (2, .int (Zi k)), (1, .int (Zi n)), (0, .ref 83)], []) h sl Φ := by
  intro t
  induction t with
  | zero => intro i h ht hs i0 i1; omega
  | succ t ih =>
    intro i h ht hs i0 i1
    refine Z_go (f2 := (77, [(3, .int (Zi i)), (2, .int (Zi k)), (1, .int (Zi n)), (0, .ref 83)], [.int (Zi i)])) (fun _ => rfl) ?_
    refine Z_go (f2 := (78, [(3, .int (Zi i)), (2, .int (Zi k)), (1, .int (Zi n)), (0, .ref 83)], [.int (Zi k), .int (Zi i)])) (fun _ => rfl) ?_
    refine Z_cge rfl rfl (by first | exact hs.zF _ | exact Zor_r _ _ | exact hs.zA _ _ | assumption | exact zA _ _ | exact zS _ | exact Zr_not (hs.zA _ _) | exact ⟨by omega, by omega⟩) (by first | exact hs.zF _ | exact Zor_r _ _ | exact hs.zA _ _ | assumption | exact zA _ _ | exact zS _ | exact Zr_not (hs.zA _ _) | exact ⟨by omega, by omega⟩) (fun c1 => ?_) (fun c1 => ?_)
    · refine B_loc (K := [(2, .int (Zi k)), (1, .int (Zi n)), (0, .ref 83)]) (N_all_sub ⟨rfl, rfl, rfl, trivial⟩) (show ([2, 1, 0] : List Nat).Nodup by decide) ?_
      obtain rfl : i = k := by omega
      exact kont h hs
    · refine Z_go (f2 := (82, [(3, .int (Zi i)), (2, .int (Zi k)), (1, .int (Zi n)), (0, .ref 83)], [.ref 83])) (fun _ => rfl) ?_
      refine R_gr (q := 115) rfl hs rfl ?_
      show B_R _ _ (85, [(3, .int (Zi i)), (2, .int (Zi k)), (1, .int (Zi n)), (0, .ref 83)], [.ref 117]) _ _ _
      refine Z_go (f2 := (86, [(3, .int (Zi i)), (2, .int (Zi k)), (1, .int (Zi n)), (0, .ref 83)], [.int (Zi i), .ref 117])) (fun _ => rfl) ?_
      refine Z_go (f2 := (87, [(3, .int (Zi i)), (2, .int (Zi k)), (1, .int (Zi n)), (0, .ref 83)], [.int (Zi 1), .int (Zi i), .ref 117])) (fun _ => rfl) ?_
      refine R_bs (q := 33) rfl hs rfl rfl (by omega) (by omega) (by decide) (by first | exact .inl rfl | exact .inr rfl | assumption) (fun h hs => ?_)
      refine Z_iinc (L2 := [(3, .int (Zi (i + 1))), (2, .int (Zi k)), (1, .int (Zi n)), (0, .ref 83)]) rfl rfl (by decide) rfl ?_
      refine Z_go (f2 := (76, [(3, .int (Zi (i + 1))), (2, .int (Zi k)), (1, .int (Zi n)), (0, .ref 83)], [])) (fun _ => rfl) ?_
      refine B_loc (K := [(3, .int (Zi (i + 1))), (2, .int (Zi k)), (1, .int (Zi n)), (0, .ref 83)]) (N_all_sub ⟨rfl, rfl, rfl, rfl, trivial⟩) (show ([3, 2, 1, 0] : List Nat).Nodup by decide) ?_
      rw [R_fl_st i0 rfl rfl] at hs
      exact ih (i + 1) h (by omega) hs (by omega) (by omega)
theorem R_bu_1 {d : Nat} {h0 h : E_H} {u : R_S} {sl : Nat} {Φ : E_R → Prop} {k n : Int} (hs : R_is h0 h u) (k0 : 0 ≤ k) (k1 : k < u.1 13) (k2 : u.1 13 ≤ 400) (n0 : 0 ≤ n) (n1 : n ≤ 60)
    (g2 : u.2.1 90 k ≤ 5 → n < 60 ∧ ∀ h : E_H, R_is h0 h (R_sA (R_sA u 117 k 0) 118 n k) → B_R (d + 1) E_m258 (4, [(2, .int (Zi (k + 1))), (1, .int (Zi (n + 1))), (0, .ref 83)], []) h sl Φ)
    (g6 : u.2.1 90 k = 6 ∨ u.2.1 90 k = 7 → 1 ≤ n ∧ ∀ h : E_H, R_is h0 h (R_sA u 117 k 0) → B_R (d + 1) E_m258 (4, [(2, .int (Zi (k + 1))), (1, .int (Zi (n - 1))), (0, .ref 83)], []) h sl Φ)
    (g8 : 7 < u.2.1 90 k → ¬ R_nev u k → ∀ h : E_H, R_is h0 h (R_sA u 117 k 0) → B_R (d + 1) E_m258 (4, [(2, .int (Zi (k + 1))), (1, .int (Zi n)), (0, .ref 83)], []) h sl Φ)
    (g9 : R_nev u k → 1 ≤ n ∧ 0 ≤ u.2.1 118 (n - 1) ∧ u.2.1 118 (n - 1) ≤ k ∧ ∀ h : E_H, R_is h0 h (R_fl (R_sA u 117 k 0) 117 (u.2.1 118 (n - 1)) k (fun _ => 1)) → B_R (d + 1) E_m258 (4, [(2, .int (Zi (k + 1))), (1, .int (Zi n)), (0, .ref 83)], []) h sl Φ) : B_R (d + 1) E_m258 (4, [(2, .int (Zi k)), (1, .int (Zi n)), (0, .ref 83)], []) h sl Φ := by
  have zk : Zr k := ⟨by omega, by omega⟩
  have zA : ∀ q j, Zr (u.2.1 q j) := fun q j => hs.zA q j
  refine Z_go (f2 := (5, [(2, .int (Zi k)), (1, .int (Zi n)), (0, .ref 83)], [.int (Zi k)])) (fun _ => rfl) ?_
  refine Z_go (f2 := (6, [(2, .int (Zi k)), (1, .int (Zi n)), (0, .ref 83)], [.ref 83, .int (Zi k)])) (fun _ => rfl) ?_
  refine R_gi rfl hs rfl ?_
  show B_R _ _ (9, [(2, .int (Zi k)), (1, .int (Zi n)), (0, .ref 83)], [.int (Zi (u.1 13)), .int (Zi k)]) _ _ _
  refine Z_cge rfl rfl (by first | exact hs.zF _ | exact Zor_r _ _ | exact hs.zA _ _ | assumption | exact zA _ _ | exact zS _ | exact Zr_not (hs.zA _ _) | exact ⟨by omega, by omega⟩) (by first | exact hs.zF _ | exact Zor_r _ _ | exact hs.zA _ _ | assumption | exact zA _ _ | exact zS _ | exact Zr_not (hs.zA _ _) | exact ⟨by omega, by omega⟩) (fun c1 => ?_) (fun c1 => ?_)
  · exfalso; omega
  · refine Z_go (f2 := (13, [(2, .int (Zi k)), (1, .int (Zi n)), (0, .ref 83)], [.ref 83])) (fun _ => rfl) ?_
    refine R_gr (q := 115) rfl hs rfl ?_
    show B_R _ _ (16, [(2, .int (Zi k)), (1, .int (Zi n)), (0, .ref 83)], [.ref 117]) _ _ _
    refine Z_go (f2 := (17, [(2, .int (Zi k)), (1, .int (Zi n)), (0, .ref 83)], [.int (Zi k), .ref 117])) (fun _ => rfl) ?_
    refine Z_go (f2 := (18, [(2, .int (Zi k)), (1, .int (Zi n)), (0, .ref 83)], [.int (Zi 0), .int (Zi k), .ref 117])) (fun _ => rfl) ?_
    refine R_bs (q := 33) rfl hs rfl rfl (by omega) (by omega) (by decide) (by first | exact .inl rfl | exact .inr rfl | assumption) (fun h hs => ?_)
    refine Z_go (f2 := (20, [(2, .int (Zi k)), (1, .int (Zi n)), (0, .ref 83)], [.ref 83])) (fun _ => rfl) ?_
    refine R_gr (q := 88) rfl hs rfl ?_
    show B_R _ _ (23, [(2, .int (Zi k)), (1, .int (Zi n)), (0, .ref 83)], [.ref 90]) _ _ _
    refine Z_go (f2 := (24, [(2, .int (Zi k)), (1, .int (Zi n)), (0, .ref 83)], [.int (Zi k), .ref 90])) (fun _ => rfl) ?_
    refine R_ia (q := 6) rfl hs rfl rfl (by omega) (by omega) (by decide) ?_
    rw [show (R_sA u 117 k 0).2.1 90 k = u.2.1 90 k by first | rfl | simp [R_sA, R_sF, R_up2, R_fl, R_fL, R_sM, R_sL, R_p3, R_em]]; show B_R _ _ (25, [(2, .int (Zi k)), (1, .int (Zi n)), (0, .ref 83)], [.int (Zi (u.2.1 90 k))]) _ _ _
    refine Z_go (f2 := (26, [(2, .int (Zi k)), (1, .int (Zi n)), (0, .ref 83)], [.int (Zi 5), .int (Zi (u.2.1 90 k))])) (fun _ => rfl) ?_
    refine Z_cgt rfl rfl (by first | exact hs.zF _ | exact Zor_r _ _ | exact hs.zA _ _ | assumption | exact zA _ _ | exact zS _ | exact Zr_not (hs.zA _ _) | exact ⟨by omega, by omega⟩) (by first | exact hs.zF _ | exact Zor_r _ _ | exact hs.zA _ _ | assumption | exact zA _ _ | exact zS _ | exact Zr_not (hs.zA _ _) | exact ⟨by omega, by omega⟩) (fun c2 => ?_) (fun c2 => ?_)
    · refine Z_go (f2 := (43, [(2, .int (Zi k)), (1, .int (Zi n)), (0, .ref 83)], [.ref 83])) (fun _ => rfl) ?_
      refine R_gr (q := 88) rfl hs rfl ?_
      show B_R _ _ (46, [(2, .int (Zi k)), (1, .int (Zi n)), (0, .ref 83)], [.ref 90]) _ _ _
      refine Z_go (f2 := (47, [(2, .int (Zi k)), (1, .int (Zi n)), (0, .ref 83)], [.int (Zi k), .ref 90])) (fun _ => rfl) ?_
      refine R_ia (q := 6) rfl hs rfl rfl (by omega) (by omega) (by decide) ?_
      rw [show (R_sA u 117 k 0).2.1 90 k = u.2.1 90 k by first | rfl | simp [R_sA, R_sF, R_up2, R_fl, R_fL, R_sM, R_sL, R_p3, R_em]]; show B_R _ _ (48, [(2, .int (Zi k)), (1, .int (Zi n)), (0, .ref 83)], [.int (Zi (u.2.1 90 k))]) _ _ _
      refine Z_go (f2 := (50, [(2, .int (Zi k)), (1, .int (Zi n)), (0, .ref 83)], [.int (Zi 7), .int (Zi (u.2.1 90 k))])) (fun _ => rfl) ?_
      refine Z_cgt rfl rfl (by first | exact hs.zF _ | exact Zor_r _ _ | exact hs.zA _ _ | assumption | exact zA _ _ | exact zS _ | exact Zr_not (hs.zA _ _) | exact ⟨by omega, by omega⟩) (by first | exact hs.zF _ | exact Zor_r _ _ | exact hs.zA _ _ | assumption | exact zA _ _ | exact zS _ | exact Zr_not (hs.zA _ _) | exact ⟨by omega, by omega⟩) (fun c3 => ?_) (fun c3 => ?_)
      · refine Z_go (f2 := (60, [(2, .int (Zi k)), (1, .int (Zi n)), (0, .ref 83)], [.ref 83])) (fun _ => rfl) ?_
        refine Z_go (f2 := (61, [(2, .int (Zi k)), (1, .int (Zi n)), (0, .ref 83)], [.int (Zi k), .ref 83])) (fun _ => rfl) ?_
        refine R_call (As := [.int (Zi k)]) (rest := []) rfl (by decide) rfl rfl rfl rfl (by decide +kernel) (Nat.le_of_ble_eq_true rfl) hs (R_isNever _ (R_sA u 117 k 0) (by first | exact hs.zF _ | exact Zor_r _ _ | exact hs.zA _ _ | assumption | exact zA _ _ | exact zS _ | exact Zr_not (hs.zA _ _) | exact ⟨by omega, by omega⟩) k0 (by omega)) (fun x h s2 hs q => ?_)
        obtain ⟨q0, v, rfl, hv⟩ := q
        rw [q0] at hs
        show B_R _ _ (64, [(2, .int (Zi k)), (1, .int (Zi n)), (0, .ref 83)], [.int (Zi v)]) _ _ _
        refine Z_ieq rfl rfl (by first | exact hs.zF _ | exact Zor_r _ _ | exact hs.zA _ _ | assumption | exact zA _ _ | exact zS _ | exact Zr_not (hs.zA _ _) | exact ⟨by omega, by omega⟩) (fun c4 => ?_) (fun c4 => ?_)
        · refine Z_iinc (L2 := [(2, .int (Zi (k + 1))), (1, .int (Zi n)), (0, .ref 83)]) rfl rfl (by decide) rfl ?_
          refine Z_go (f2 := (4, [(2, .int (Zi (k + 1))), (1, .int (Zi n)), (0, .ref 83)], [])) (fun _ => rfl) ?_
          refine B_loc (K := [(2, .int (Zi (k + 1))), (1, .int (Zi n)), (0, .ref 83)]) (N_all_sub ⟨rfl, rfl, rfl, trivial⟩) (show ([2, 1, 0] : List Nat).Nodup by decide) ?_
          exact g8 (by omega) (by rcases hv with hv | hv; omega; exact hv.2) _ hs
        · obtain ⟨b1, b2, b3, g9⟩ := g9 (by rcases hv with hv | hv; exact hv.2; omega)
          refine Z_go (f2 := (68, [(2, .int (Zi k)), (1, .int (Zi n)), (0, .ref 83)], [.ref 83])) (fun _ => rfl) ?_
          refine R_gr (q := 116) rfl hs rfl ?_
          show B_R _ _ (71, [(2, .int (Zi k)), (1, .int (Zi n)), (0, .ref 83)], [.ref 118]) _ _ _
          refine Z_go (f2 := (72, [(2, .int (Zi k)), (1, .int (Zi n)), (0, .ref 83)], [.int (Zi n), .ref 118])) (fun _ => rfl) ?_
          refine Z_go (f2 := (73, [(2, .int (Zi k)), (1, .int (Zi n)), (0, .ref 83)], [.int (Zi 1), .int (Zi n), .ref 118])) (fun _ => rfl) ?_
          refine Z_isub rfl ?_
          refine R_ia (q := 34) rfl hs rfl rfl (by omega) (by omega) (by decide) ?_
          rw [show (R_sA u 117 k 0).2.1 118 (n - 1) = u.2.1 118 (n - 1) by first | rfl | simp [R_sA, R_sF, R_up2, R_fl, R_fL, R_sM, R_sL, R_p3, R_em]]; show B_R _ _ (75, [(2, .int (Zi k)), (1, .int (Zi n)), (0, .ref 83)], [.int (Zi (u.2.1 118 (n - 1)))]) _ _ _
          refine Z_go (f2 := (76, [(3, .int (Zi (u.2.1 118 (n - 1)))), (2, .int (Zi k)), (1, .int (Zi n)), (0, .ref 83)], [])) (fun _ => rfl) ?_
          refine R_bu_lp (s := R_sA u 117 k 0) (by omega) b2 zk (fun h hs => ?_) ((k - u.2.1 118 (n - 1)).toNat + 1) _ _ (by omega) (by rw [R_fl_0]; exact hs) (by omega) b3
          refine Z_iinc (L2 := [(2, .int (Zi (k + 1))), (1, .int (Zi n)), (0, .ref 83)]) rfl rfl (by decide) rfl ?_
          refine Z_go (f2 := (4, [(2, .int (Zi (k + 1))), (1, .int (Zi n)), (0, .ref 83)], [])) (fun _ => rfl) ?_
          exact g9 h hs
      · refine Z_iinc (L2 := [(1, .int (Zi (n + (-1)))), (2, .int (Zi k)), (0, .ref 83)]) rfl rfl (by decide) rfl ?_
        refine Z_go (f2 := (94, [(1, .int (Zi (n + (-1)))), (2, .int (Zi k)), (0, .ref 83)], [])) (fun _ => rfl) ?_
        refine Z_iinc (L2 := [(2, .int (Zi (k + 1))), (1, .int (Zi (n + (-1)))), (0, .ref 83)]) rfl rfl (by decide) rfl ?_
        refine Z_go (f2 := (4, [(2, .int (Zi (k + 1))), (1, .int (Zi (n + (-1)))), (0, .ref 83)], [])) (fun _ => rfl) ?_
        refine B_loc (K := [(2, .int (Zi (k + 1))), (1, .int (Zi (n + (-1)))), (0, .ref 83)]) (N_all_sub ⟨rfl, rfl, rfl, trivial⟩) (show ([2, 1, 0] : List Nat).Nodup by decide) ?_
        rw [show n + (-1) = n - 1 by omega]
        exact (g6 (by omega)).2 _ hs
    · obtain ⟨n9, g2⟩ := g2 (by omega)
      refine Z_go (f2 := (30, [(2, .int (Zi k)), (1, .int (Zi n)), (0, .ref 83)], [.ref 83])) (fun _ => rfl) ?_
      refine R_gr (q := 116) rfl hs rfl ?_
      show B_R _ _ (33, [(2, .int (Zi k)), (1, .int (Zi n)), (0, .ref 83)], [.ref 118]) _ _ _
      refine Z_go (f2 := (34, [(2, .int (Zi k)), (1, .int (Zi n)), (0, .ref 83)], [.int (Zi n), .ref 118])) (fun _ => rfl) ?_
      refine Z_go (f2 := (35, [(2, .int (Zi k)), (1, .int (Zi n)), (0, .ref 83)], [.int (Zi k), .int (Zi n), .ref 118])) (fun _ => rfl) ?_
      refine R_is_ (q := 34) rfl hs rfl rfl (by omega) (by omega) (by decide) (by first | exact hs.zF _ | exact Zor_r _ _ | exact hs.zA _ _ | assumption | exact zA _ _ | exact zS _ | exact Zr_not (hs.zA _ _) | exact ⟨by omega, by omega⟩) (fun h hs => ?_)
      refine Z_iinc (L2 := [(1, .int (Zi (n + 1))), (2, .int (Zi k)), (0, .ref 83)]) rfl rfl (by decide) rfl ?_
      refine Z_go (f2 := (94, [(1, .int (Zi (n + 1))), (2, .int (Zi k)), (0, .ref 83)], [])) (fun _ => rfl) ?_
      refine Z_iinc (L2 := [(2, .int (Zi (k + 1))), (1, .int (Zi (n + 1))), (0, .ref 83)]) rfl rfl (by decide) rfl ?_
      refine Z_go (f2 := (4, [(2, .int (Zi (k + 1))), (1, .int (Zi (n + 1))), (0, .ref 83)], [])) (fun _ => rfl) ?_
      refine B_loc (K := [(2, .int (Zi (k + 1))), (1, .int (Zi (n + 1))), (0, .ref 83)]) (N_all_sub ⟨rfl, rfl, rfl, trivial⟩) (show ([2, 1, 0] : List Nat).Nodup by decide) ?_
      exact g2 _ hs
set_option maxHeartbeats 4000000 in
theorem R_buries_t {d : Nat} {h0 : E_H} {s : R_S} {sl : Nat} {Φ : E_R → Prop} (p1 : s.1 13 ≤ 400) : ∀ (t : P_T), T_is t → ∀ (m : Nat) (k n : Int) (u : R_S) (h : E_H), R_is h0 h u → R_fr [] [117, 118] s u → R_at_ s k (T_ops m t) → 0 ≤ k → k + t.length ≤ s.1 13 → 0 ≤ n → n + T_dp t ≤ 60 → (∀ (u2 : R_S) (h2 : E_H), R_is h0 h2 u2 → R_fr [] [117, 118] u u2 → (∀ j, j < n → u2.2.1 118 j = u.2.1 118 j) → u2.2.1 118 n = k → (∀ j, j < k → u2.2.1 117 j = u.2.1 117 j) → R_dd u2 k (X_dd t) → B_R (d + 1) E_m258 (4, [(2, .int (Zi (k + t.length))), (1, .int (Zi (n + 1))), (0, .ref 83)], []) h2 sl Φ) → B_R (d + 1) E_m258 (4, [(2, .int (Zi k)), (1, .int (Zi n)), (0, .ref 83)], []) h sl Φ := by
  intro t ht
  refine T_ind (P := fun t => ∀ (m : Nat) (k n : Int) (u : R_S) (h : E_H), R_is h0 h u → R_fr [] [117, 118] s u → R_at_ s k (T_ops m t) → 0 ≤ k → k + t.length ≤ s.1 13 → 0 ≤ n → n + T_dp t ≤ 60 → (∀ (u2 : R_S) (h2 : E_H), R_is h0 h2 u2 → R_fr [] [117, 118] u u2 → (∀ j, j < n → u2.2.1 118 j = u.2.1 118 j) → u2.2.1 118 n = k → (∀ j, j < k → u2.2.1 117 j = u.2.1 117 j) → R_dd u2 k (X_dd t) → B_R (d + 1) E_m258 (4, [(2, .int (Zi (k + t.length))), (1, .int (Zi (n + 1))), (0, .ref 83)], []) h2 sl Φ) → B_R (d + 1) E_m258 (4, [(2, .int (Zi k)), (1, .int (Zi n)), (0, .ref 83)], []) h sl Φ) ht ?_ ?_ ?_ ?_ ?_
  · intro m k n u h hs hu ha k0 k1 n0 n1 kont
    have e := R_at_.one (ha : R_at_ s k [(5, 0, 0)])
    have e13 : u.1 13 = s.1 13 := hu.1 13 (by decide)
    have ex : ∀ q, q = 90 ∨ q = 91 ∨ q = 92 → ∀ j, u.2.1 q j = s.2.1 q j := fun q hq => hu.2.1 q (by rcases hq with rfl | rfl | rfl <;> decide)
    rw [← ex 90 (.inl rfl), ← ex 91 (.inr (.inl rfl)), ← ex 92 (.inr (.inr rfl))] at e
    have k1 : k + ((1 : Nat) : Int) ≤ s.1 13 := k1
    have n1 : n + ((1 : Nat) : Int) ≤ 60 := n1
    exact R_bu_1 hs k0 (by omega) (by omega) n0 (by omega) (fun _ => ⟨by omega, fun h hs => kont _ h hs ⟨fun _ _ => rfl, fun q hq j => by rw [R_sA_n _ _ _ _ (fun e => hq (by rw [e]; decide)), R_sA_n _ _ _ _ (fun e => hq (by rw [e]; decide))], rfl⟩ (fun j hj => by rw [R_sA_m _ _ _ _ (by omega), R_sA_n _ _ _ _ (by decide)]) (R_sA_s _ _ _ _) (fun j hj => by rw [R_sA_n _ _ _ _ (by decide), R_sA_m _ _ _ _ (by omega)]) (R_dd.one (by rw [R_sA_n _ _ _ _ (by decide), R_sA_s]))⟩) (fun h => by omega) (fun h => by omega) (fun h => by unfold R_nev at h; omega)
  · intro A hw m k n u h hs hu ha k0 k1 n0 n1 kont
    have n1 : n + (T_dp (T_atm A) : Int) ≤ 60 := n1
    rw [T_dp_atm hw] at n1
    have e13 : u.1 13 = s.1 13 := hu.1 13 (by decide)
    have ex : ∀ q, q = 90 ∨ q = 91 ∨ q = 92 → ∀ j, u.2.1 q j = s.2.1 q j := fun q hq => hu.2.1 q (by rcases hq with rfl | rfl | rfl <;> decide)
    have ho : s.2.1 90 k ≤ 5 := by
      cases A with
      | inl op =>
        have hop : op = 2 ∨ op = 3 ∨ op = 4 := hw
        rw [show T_ops m (T_atm (.inl op)) = [(op, 0, 0)] from T_ops_one (q := (op, 0, 0, fun _ => False)) (by show op ≠ 1; omega) m] at ha
        have e := R_at_.one ha
        omega
      | inr B =>
        have e := R_at_.one (ha : R_at_ s k [(1, (m : Int), 0)])
        omega
    rw [← ex 90 (.inl rfl)] at ho
    have el : (T_atm A).length = 1 := by cases A <;> rfl
    rw [el] at k1 kont
    exact R_bu_1 hs k0 (by omega) (by omega) n0 (by omega) (fun _ => ⟨by omega, fun h hs => kont _ h hs ⟨fun _ _ => rfl, fun q hq j => by rw [R_sA_n _ _ _ _ (fun e => hq (by rw [e]; decide)), R_sA_n _ _ _ _ (fun e => hq (by rw [e]; decide))], rfl⟩ (fun j hj => by rw [R_sA_m _ _ _ _ (by omega), R_sA_n _ _ _ _ (by decide)]) (R_sA_s _ _ _ _) (fun j hj => by rw [R_sA_n _ _ _ _ (by decide), R_sA_m _ _ _ _ (by omega)]) (by rw [X_dd_atm hw]; exact R_dd.one (by rw [R_sA_n _ _ _ _ (by decide), R_sA_s]))⟩) (fun h => by omega) (fun h => by omega) (fun h => by unfold R_nev at h; omega)
  · intro l r wl wr ihl ihr m k n u h hs hu ha k0 k1 n0 n1 kont
    have eops : T_ops m (T_beh l r) = T_ops m l ++ T_ops (m + (T_sets l).length) r ++ [(6, 0, 0)] := by
      unfold T_beh
      rw [T_ops_app, T_ops_app]
      rfl
    rw [eops] at ha
    have el : (T_beh l r).length = l.length + r.length + 1 := by
      unfold T_beh
      rw [List.length_append, List.length_append]
      rfl
    rw [el] at k1 kont
    rw [T_dp_beh wl wr] at n1
    obtain ⟨ha, ha3⟩ := ha.app
    obtain ⟨ha1, ha2⟩ := ha.app
    rw [T_ops_len] at ha2
    rw [List.length_append, T_ops_len, T_ops_len] at ha3
    refine ihl m k n u h hs hu ha1 k0 (by omega) n0 (by omega) (fun u1 h1 hs1 hu1 a1 a2 a3 a4 => ?_)
    refine ihr _ _ (n + 1) u1 h1 hs1 (hu.tr hu1) ha2 (by omega) (by omega) (by omega) (by omega) (fun u2 h2 hs2 hu2 c1 c2 c3 c4 => ?_)
    have hu3 := (hu.tr hu1).tr hu2
    have e13 : u2.1 13 = s.1 13 := hu3.1 13 (by decide)
    have e := ha3.one
    have hdr := T_dp_pos wr
    rw [← hu3.2.1 90 (by decide), ← hu3.2.1 91 (by decide), ← hu3.2.1 92 (by decide)] at e
    rw [show k + (l.length : Int) + (r.length : Int) = k + ((l.length + r.length : Nat) : Int) by omega]
    refine R_bu_1 hs2 (by omega) (by omega) (by omega) (by omega) (by omega) (fun h => by omega) (fun _ => ⟨by omega, fun h hs => ?_⟩) (fun h => by omega) (fun h => by unfold R_nev at h; omega)
    have := kont _ h hs ((hu1.tr hu2).tr ⟨fun _ _ => rfl, fun q hq j => by rw [R_sA_n _ _ _ _ (fun e => hq (by rw [e]; decide))], rfl⟩) (fun j hj => by rw [R_sA_n _ _ _ _ (by decide), c1 j (by omega), a1 j hj]) (by rw [R_sA_n _ _ _ _ (by decide), c1 n (by omega), a2]) (fun j hj => by rw [R_sA_m _ _ _ _ (by omega), c3 j (by omega), a3 j hj]) (by
      rw [X_dd_beh wl wr]
      refine R_dd.of (R_dd.of (a4.at (fun i i0 i1 => ?_)) ((by rw [X_dd_len wl]; exact c4 : R_dd u2 _ _).at (fun i i0 i1 => ?_))) (R_dd.one ?_)
      · rw [X_dd_len wl] at i1
        rw [R_sA_m _ _ _ _ (by omega), c3 _ (by omega)]
      · rw [X_dd_len wr] at i1
        rw [X_dd_len wl, R_sA_m _ _ _ _ (by omega)]
      · rw [List.length_append, X_dd_len wl, X_dd_len wr, R_sA_s])
    rw [show n + 1 + 1 - 1 = n + 1 by omega, show k + ((l.length + r.length : Nat) : Int) + 1 = k + ((l.length + r.length + 1 : Nat) : Int) by omega]
    exact this
  · intro l r wl wr ihl ihr m k n u h hs hu ha k0 k1 n0 n1 kont
    have eops : T_ops m (T_or l r) = T_ops m l ++ T_ops (m + (T_sets l).length) r ++ [(7, 0, 0)] := by
      unfold T_or
      rw [T_ops_app, T_ops_app]
      rfl
    rw [eops] at ha
    have el : (T_or l r).length = l.length + r.length + 1 := by
      unfold T_or
      rw [List.length_append, List.length_append]
      rfl
    rw [el] at k1 kont
    rw [T_dp_or wl wr] at n1
    obtain ⟨ha, ha3⟩ := ha.app
    obtain ⟨ha1, ha2⟩ := ha.app
    rw [T_ops_len] at ha2
    rw [List.length_append, T_ops_len, T_ops_len] at ha3
    refine ihl m k n u h hs hu ha1 k0 (by omega) n0 (by omega) (fun u1 h1 hs1 hu1 a1 a2 a3 a4 => ?_)
    refine ihr _ _ (n + 1) u1 h1 hs1 (hu.tr hu1) ha2 (by omega) (by omega) (by omega) (by omega) (fun u2 h2 hs2 hu2 c1 c2 c3 c4 => ?_)
    have hu3 := (hu.tr hu1).tr hu2
    have e13 : u2.1 13 = s.1 13 := hu3.1 13 (by decide)
    have e := ha3.one
    have hdr := T_dp_pos wr
    rw [← hu3.2.1 90 (by decide), ← hu3.2.1 91 (by decide), ← hu3.2.1 92 (by decide)] at e
    rw [show k + (l.length : Int) + (r.length : Int) = k + ((l.length + r.length : Nat) : Int) by omega]
    refine R_bu_1 hs2 (by omega) (by omega) (by omega) (by omega) (by omega) (fun h => by omega) (fun _ => ⟨by omega, fun h hs => ?_⟩) (fun h => by omega) (fun h => by unfold R_nev at h; omega)
    have := kont _ h hs ((hu1.tr hu2).tr ⟨fun _ _ => rfl, fun q hq j => by rw [R_sA_n _ _ _ _ (fun e => hq (by rw [e]; decide))], rfl⟩) (fun j hj => by rw [R_sA_n _ _ _ _ (by decide), c1 j (by omega), a1 j hj]) (by rw [R_sA_n _ _ _ _ (by decide), c1 n (by omega), a2]) (fun j hj => by rw [R_sA_m _ _ _ _ (by omega), c3 j (by omega), a3 j hj]) (by
      rw [X_dd_or wl wr]
      refine R_dd.of (R_dd.of (a4.at (fun i i0 i1 => ?_)) ((by rw [X_dd_len wl]; exact c4 : R_dd u2 _ _).at (fun i i0 i1 => ?_))) (R_dd.one ?_)
      · rw [X_dd_len wl] at i1
        rw [R_sA_m _ _ _ _ (by omega), c3 _ (by omega)]
      · rw [X_dd_len wr] at i1
        rw [X_dd_len wl, R_sA_m _ _ _ _ (by omega)]
      · rw [List.length_append, X_dd_len wl, X_dd_len wr, R_sA_s])
    rw [show n + 1 + 1 - 1 = n + 1 by omega, show k + ((l.length + r.length : Nat) : Int) + 1 = k + ((l.length + r.length + 1 : Nat) : Int) by omega]
    exact this
  · intro t op lo hi hc wt ih m k n u h hs hu ha k0 k1 n0 n1 kont
    have hop : op ≠ 1 := by unfold T_cok at hc; omega
    have eops : T_ops m (T_cnt t op lo hi) = T_ops m t ++ [(op, lo, hi)] := by
      unfold T_cnt
      rw [T_ops_app, T_ops_one hop]
    rw [eops] at ha
    have el : (T_cnt t op lo hi).length = t.length + 1 := by
      unfold T_cnt
      rw [List.length_append]
      rfl
    rw [el] at k1 kont
    rw [T_dp_cnt hc wt] at n1
    obtain ⟨ha1, ha3⟩ := ha.app
    rw [T_ops_len] at ha3
    refine ih m k n u h hs hu ha1 k0 (by omega) n0 n1 (fun u1 h1 hs1 hu1 a1 a2 a3 a4 => ?_)
    have hu3 := hu.tr hu1
    have e := ha3.one
    rw [← hu3.2.1 90 (by decide), ← hu3.2.1 91 (by decide), ← hu3.2.1 92 (by decide)] at e
    obtain ⟨e1, e2, e3⟩ := e
    have e13 : u1.1 13 = s.1 13 := hu3.1 13 (by decide)
    have hd := T_dp_pos wt
    have ho : op = 8 ∨ op = 9 ∨ op = 10 ∨ op = 11 := by unfold T_cok at hc; omega
    have hz : R_nev u1 (k + t.length) ↔ op = 11 ∧ lo = 0 ∧ hi = 0 := by unfold R_nev; rw [e1, e2, e3]
    have fin : ∀ (v : R_S) (h : E_H), R_is h0 h v → R_fr [] [117, 118] u1 v → (∀ j, v.2.1 118 j = u1.2.1 118 j) → (∀ j, j < k → v.2.1 117 j = u1.2.1 117 j) → R_dd v k (X_dd (T_cnt t op lo hi)) → B_R (d + 1) E_m258 (4, [(2, .int (Zi (k + t.length + 1))), (1, .int (Zi (n + 1))), (0, .ref 83)], []) h sl Φ := by
      intro v h hs q1 q2 q3 q4
      have := kont v h hs (hu1.tr q1) (fun j hj => by rw [q2, a1 j hj]) (by rw [q2, a2]) (fun j hj => by rw [q3 j hj, a3 j hj]) q4
      rw [show k + ((t.length + 1 : Nat) : Int) = k + (t.length : Int) + 1 by omega] at this
      exact this
    refine R_bu_1 hs1 (by omega) (by omega) (by omega) (by omega) (by omega) (fun h => by omega) (fun h => by omega) (fun _ hn h hs => ?_) (fun hn => ?_)
    · refine fin _ h hs ⟨fun _ _ => rfl, fun q hq j => by rw [R_sA_n _ _ _ _ (fun e => hq (by rw [e]; decide))], rfl⟩ (fun j => R_sA_n _ _ _ _ (by decide)) (fun j hj => R_sA_m _ _ _ _ (by omega)) ?_
      rw [X_dd_cnt hc wt, if_neg (fun q => hn (hz.mpr q))]
      refine R_dd.of (a4.at (fun i i0 i1 => ?_)) (R_dd.one ?_)
      · rw [X_dd_len wt] at i1
        rw [R_sA_m _ _ _ _ (by omega)]
      · rw [X_dd_len wt, R_sA_s]
    · rw [show n + 1 - 1 = n by omega, a2]
      refine ⟨by omega, k0, by omega, fun h hs => fin _ h hs ⟨fun _ _ => rfl, fun q hq j => by rw [R_fl_n (fun e => hq (by rw [e]; decide)), R_sA_n _ _ _ _ (fun e => hq (by rw [e]; decide))], rfl⟩ (fun j => by rw [R_fl_n (by decide), R_sA_n _ _ _ _ (by decide)]) (fun j hj => by rw [R_fl_o (by omega), R_sA_m _ _ _ _ (by omega)]) ?_⟩
      rw [X_dd_cnt hc wt, if_pos (hz.mp hn), X_dd_len wt]
      refine R_dd.of (fun i hi => ?_) (R_dd.one ?_)
      · rw [List.length_replicate] at hi
        rw [List.getElem_replicate, R_fl_i (by omega) (by omega)]
      · rw [List.length_replicate, R_fl_o (by omega), R_sA_s]
theorem R_buries (d : Nat) (s : R_S) {t : P_T} (hw : T_is t) (hd : T_dp t ≤ 23) (tl : R_tl s t) (p1 : s.1 13 ≤ 400) : R_ok (d + 2) 258 [] s (fun x s2 => x = none ∧ R_fr [] [117, 118] s s2 ∧ R_dd s2 0 (X_dd t)) := by
  refine R_enter (M := E_m258) rfl (Nat.le_of_ble_eq_true rfl) (fun h0 h hs => ?_)
  show B_R (d + 1) _ (0, [(0, .ref 83)], []) _ _ _
  refine Z_go (f2 := (1, [(0, .ref 83)], [.int (Zi 0)])) (fun _ => rfl) ?_
  refine Z_go (f2 := (2, [(1, .int (Zi 0)), (0, .ref 83)], [])) (fun _ => rfl) ?_
  refine Z_go (f2 := (3, [(1, .int (Zi 0)), (0, .ref 83)], [.int (Zi 0)])) (fun _ => rfl) ?_
  refine Z_go (f2 := (4, [(2, .int (Zi 0)), (1, .int (Zi 0)), (0, .ref 83)], [])) (fun _ => rfl) ?_
  have e13 : s.1 13 = ((T_ops 0 t).length : Int) := tl.n13
  have el := T_ops_len t 0
  have ha : R_at_ s 0 (T_ops 0 t) := fun i hi => by
    have := tl.e i hi
    rw [Int.zero_add]
    exact this
  refine B_loc (K := [(2, .int (Zi 0)), (1, .int (Zi 0)), (0, .ref 83)]) (N_all_sub ⟨rfl, rfl, rfl, trivial⟩) (show ([2, 1, 0] : List Nat).Nodup by decide) ?_
  refine R_buries_t p1 t hw 0 0 0 s h hs ⟨fun _ _ => rfl, fun _ _ _ => rfl, rfl⟩ ha (by omega) (by omega) (by omega) (by omega) (fun u h hs hu q1 q2 q3 q4 => ?_)
  have u13 : u.1 13 = s.1 13 := hu.1 13 (by decide)
  rw [show (0 : Int) + t.length = u.1 13 by omega, show (0 : Int) + 1 = 1 from rfl]
  refine Z_go (f2 := (5, [(2, .int (Zi (u.1 13))), (1, .int (Zi 1)), (0, .ref 83)], [.int (Zi (u.1 13))])) (fun _ => rfl) ?_
  refine Z_go (f2 := (6, [(2, .int (Zi (u.1 13))), (1, .int (Zi 1)), (0, .ref 83)], [.ref 83, .int (Zi (u.1 13))])) (fun _ => rfl) ?_
  refine R_gi rfl hs rfl ?_
  show B_R _ _ (9, [(2, .int (Zi (u.1 13))), (1, .int (Zi 1)), (0, .ref 83)], [.int (Zi (u.1 13)), .int (Zi (u.1 13))]) _ _ _
  refine Z_cge rfl rfl (by first | exact hs.zF _ | exact Zor_r _ _ | exact hs.zA _ _ | assumption | exact zA _ _ | exact zS _ | exact Zr_not (hs.zA _ _) | exact ⟨by omega, by omega⟩) (by first | exact hs.zF _ | exact Zor_r _ _ | exact hs.zA _ _ | assumption | exact zA _ _ | exact zS _ | exact Zr_not (hs.zA _ _) | exact ⟨by omega, by omega⟩) (fun c1 => ?_) (fun c1 => ?_)
  · refine Z_ret rfl rfl ⟨_, hs, ?_, rfl⟩
    exact ⟨rfl, hu, q4⟩
  · exfalso; omega
