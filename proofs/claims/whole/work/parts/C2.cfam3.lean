/-! the class: Family: holdsEach, isMetBy, isAll, offer -/
theorem Zl_ex (x y : Int64) : ∃ z : Int, (if x.toInt < y.toInt then -1 else if x.toInt = y.toInt then 0 else 1) = z ∧ (z = 0 ↔ x = y) ∧ Zr z := by
  have h2 : x = y ↔ x.toInt = y.toInt := Int64.toInt_inj.symm
  by_cases c1 : x.toInt < y.toInt
  · exact ⟨-1, if_pos c1, ⟨fun e => by omega, fun e => by have := h2.mp e; omega⟩, by omega, by omega⟩
  · by_cases c2 : x.toInt = y.toInt
    · exact ⟨0, by rw [if_neg c1, if_pos c2], ⟨fun _ => h2.mpr c2, fun _ => rfl⟩, by omega, by omega⟩
    · exact ⟨1, by rw [if_neg c1, if_neg c2], ⟨fun e => by omega, fun e => absurd (h2.mp e) c2⟩, by omega, by omega⟩
def F_li (m : Nat) (φ : Int → List Int) : List (List Int) := (List.range m).map (fun i : Nat => φ (i : Int))
theorem F_li_s (m : Nat) (φ : Int → List Int) : F_li (m + 1) φ = F_li m φ ++ [φ m] := by
  unfold F_li
  rw [List.range_succ, List.map_append]
  rfl
theorem F_li_len (m : Nat) (φ : Int → List Int) : (F_li m φ).length = m := by
  unfold F_li
  rw [List.length_map, List.length_range]
theorem F_li_congr {m : Nat} {φ ψ : Int → List Int} (h : ∀ j : Int, 0 ≤ j → j < m → φ j = ψ j) : F_li m φ = F_li m ψ := by
  unfold F_li
  exact List.map_congr_left (fun i hi => h i (by omega) (by have := List.mem_range.mp hi; omega))
theorem F_li_mem {m : Nat} {φ : Int → List Int} {x : List Int} : x ∈ F_li m φ ↔ ∃ j : Int, 0 ≤ j ∧ j < m ∧ φ j = x := by
  unfold F_li
  rw [List.mem_map]
  constructor
  · rintro ⟨i, hi, e⟩
    exact ⟨i, by omega, by have := List.mem_range.mp hi; omega, e⟩
  · rintro ⟨j, j0, j1, e⟩
    obtain ⟨i, rfl⟩ := Int.eq_ofNat_of_zero_le j0
    exact ⟨i, List.mem_range.mpr (by omega), e⟩
/-- a set stays beside xs unless xs is part of it -/
noncomputable def F_kp (xs g : List Int) : Bool := @decide (¬ L_le xs g) (Classical.propDecidable _)
theorem F_kp_t {xs g : List Int} : F_kp xs g = true ↔ ¬ L_le xs g := by
  unfold F_kp
  exact @decide_eq_true_iff _ (Classical.propDecidable _)
theorem F_kp_f {xs g : List Int} (h : L_le xs g) : F_kp xs g = false := by
  cases e : F_kp xs g
  · rfl
  · exact absurd h (F_kp_t.mp e)
/-- a set offered to some -/
noncomputable def F_off (fam : List (List Int)) (xs : List Int) : List (List Int) := c_if (∃ g, g ∈ fam ∧ L_le g xs) fam (fam.filter (F_kp xs) ++ [xs])
theorem C_each_lp {d : Nat} {h0 h : E_H} {s : C_S} {p : List Nat} {o a cap : Nat} {xs : List Int} {q : List Nat} {o2 b cap3 : Nat} {ys : List Int} (hs : C_is h0 h s) (hr : D_Row s p o a cap xs) (hq : D_Row s q o2 b cap3 ys) (sx : L_srt xs) : ∀ (t : Nat) (i : Int), (ys.length : Int) - i < t → 0 ≤ i → i ≤ ys.length → (∀ k : Int, 0 ≤ k → k < i → L_at ys k ∈ xs) → B_R (d + 2) E_m13 (2, [(2, .int (Zi i)), (0, .ref o), (1, .ref o2)], []) h 0 (fun r => r.2.1 = h ∧ r.2.2 = 0 ∧ (fun x => ∃ z : Int, x = some (.int (Zi z)) ∧ (z = 1 ∧ L_le ys xs ∨ z = 0 ∧ ¬ L_le ys xs)) r.1) := by
  have hr0 := hr
  have hq0 := hq
  obtain ⟨rk, rt, rp, ra, rs, rm, rl, r8, ri⟩ := hr
  have z := D_Row.zr hs ⟨rk, rt, rp, ra, rs, rm, rl, r8, ri⟩
  have z3 := D_Row.zr hs hq
  obtain ⟨qk, qt, qp, qa, qs, qm, ql, q8, qi⟩ := hq
  intro t
  induction t with
  | zero => intro i ht i0 i1 h1; omega
  | succ t ih =>
    intro i ht i0 i1 h1
    refine Z_go (f2 := (3, [(2, .int (Zi i)), (0, .ref o), (1, .ref o2)], [.int (Zi i)])) (fun _ => rfl) ?_
    refine Z_go (f2 := (4, [(2, .int (Zi i)), (0, .ref o), (1, .ref o2)], [.ref o2, .int (Zi i)])) (fun _ => rfl) ?_
    refine C_gi rfl hs qk (by decide) (Nat.le_of_ble_eq_true rfl) rfl ?_
    rw [show C_F (s) o2 1 = (ys.length : Int) from (by first | exact qm | exact (if_neg (fun e => absurd e.1 (by assumption))).trans qm)]
    show B_R _ _ (7, [(2, .int (Zi i)), (0, .ref o), (1, .ref o2)], [.int (Zi ((ys.length : Int))), .int (Zi i)]) _ _ _
    refine Z_cge rfl rfl (by first | exact hs.zF _ _ | exact Zor_r _ _ | exact hs.zA _ _ | assumption | exact zA _ _ | exact zS _ | exact Zr_not (hs.zA _ _) | exact hs.1.1 _ _ | exact ⟨by omega, by omega⟩) (by first | exact hs.zF _ _ | exact Zor_r _ _ | exact hs.zA _ _ | assumption | exact zA _ _ | exact zS _ | exact Zr_not (hs.zA _ _) | exact hs.1.1 _ _ | exact ⟨by omega, by omega⟩) (fun c1 => ?_) (fun c1 => ?_)
    · refine Z_go (f2 := (31, [(2, .int (Zi i)), (0, .ref o), (1, .ref o2)], [.int (Zi 1)])) (fun _ => rfl) ?_
      refine Z_iret rfl rfl (by first | rfl | decide | exact narrow_b01 (by omega)) ⟨rfl, rfl, ?_⟩
      try dsimp only
      exact ⟨1, rfl, .inl ⟨rfl, L_le_all (fun k k0 k1 => h1 k k0 (by omega))⟩⟩
    · refine Z_go (f2 := (11, [(2, .int (Zi i)), (0, .ref o), (1, .ref o2)], [.ref o])) (fun _ => rfl) ?_
      refine Z_go (f2 := (12, [(2, .int (Zi i)), (0, .ref o), (1, .ref o2)], [.ref o2, .ref o])) (fun _ => rfl) ?_
      refine Z_go (f2 := (13, [(2, .int (Zi i)), (0, .ref o), (1, .ref o2)], [.int (Zi i), .ref o2, .ref o])) (fun _ => rfl) ?_
      refine C_callVR (As := [.int (Zi i)]) (rest := [.ref o]) rfl (by decide) rfl (by decide) rfl rfl (by decide +kernel) (Nat.le_of_ble_eq_true rfl) hs qk (C_at_ _ hq0 (i := i) (by first | exact hs.zF _ _ | exact Zor_r _ _ | exact hs.zA _ _ | assumption | exact zA _ _ | exact zS _ | exact Zr_not (hs.zA _ _) | exact hs.1.1 _ _ | exact ⟨by omega, by omega⟩)) (fun x q => ?_)
      obtain rfl := q
      have zl66 := D_Row.zat hs hq0 i
      show B_R _ _ (16, [(2, .int (Zi i)), (0, .ref o), (1, .ref o2)], [.int (Zi (L_at ys i)), .ref o]) _ _ _
      refine C_callVR (As := [.int (Zi (L_at ys i))]) (rest := []) rfl (by decide) rfl (by decide) rfl rfl (by decide +kernel) (Nat.le_of_ble_eq_true rfl) hs rk (C_holds _ hr0 sx (by first | exact hs.zF _ _ | exact Zor_r _ _ | exact hs.zA _ _ | assumption | exact zA _ _ | exact zS _ | exact Zr_not (hs.zA _ _) | exact hs.1.1 _ _ | exact ⟨by omega, by omega⟩)) (fun x q => ?_)
      obtain ⟨zh67, rfl, hh67⟩ := q
      show B_R _ _ (19, [(2, .int (Zi i)), (0, .ref o), (1, .ref o2)], [.int (Zi zh67)]) _ _ _
      refine Z_ine rfl rfl (by first | exact hs.zF _ _ | exact Zor_r _ _ | exact hs.zA _ _ | assumption | exact zA _ _ | exact zS _ | exact Zr_not (hs.zA _ _) | exact hs.1.1 _ _ | exact ⟨by omega, by omega⟩) (fun c2 => ?_) (fun c2 => ?_)
      · refine Z_iinc (L2 := [(2, .int (Zi (i + 1))), (0, .ref o), (1, .ref o2)]) rfl rfl (by decide) rfl ?_
        refine Z_go (f2 := (2, [(2, .int (Zi (i + 1))), (0, .ref o), (1, .ref o2)], [])) (fun _ => rfl) ?_
        refine B_loc (K := [(2, .int (Zi (i + 1))), (0, .ref o), (1, .ref o2)]) (N_all_sub ⟨rfl, rfl, rfl, trivial⟩) (show ([2, 0, 1] : List Nat).Nodup by decide) ?_
        exact ih _ (by omega) (by omega) (by omega) (fun k k0 k1 => by by_cases e : k = i; subst e; rcases hh67 with hh | hh; exact hh.2; omega; exact h1 k k0 (by omega))
      · refine Z_go (f2 := (23, [(2, .int (Zi i)), (0, .ref o), (1, .ref o2)], [.int (Zi 0)])) (fun _ => rfl) ?_
        refine Z_iret rfl rfl (by first | rfl | decide | exact narrow_b01 (by omega)) ⟨rfl, rfl, ?_⟩
        try dsimp only
        refine ⟨0, rfl, .inr ⟨rfl, fun hl => ?_⟩⟩
        have := hl _ (L_at_mem.mpr ⟨i, i0, by omega, rfl⟩)
        rcases hh67 with hh | hh
        · omega
        · exact hh.2 this
theorem C_each (d : Nat) {s : C_S} {p : List Nat} {o a cap : Nat} {xs : List Int} {q : List Nat} {o2 b cap3 : Nat} {ys : List Int} (hr : D_Row s p o a cap xs) (hq : D_Row s q o2 b cap3 ys) (sx : L_srt xs) : C_rd (d + 3) 13 [.ref o, .ref o2] s (fun x => ∃ z : Int, x = some (.int (Zi z)) ∧ (z = 1 ∧ L_le ys xs ∨ z = 0 ∧ ¬ L_le ys xs)) := by
  refine C_enterR (M := E_m13) rfl (Nat.le_of_ble_eq_true rfl) (fun h0 h hs => ?_)
  show B_R (d + 2) _ (0, [(0, .ref o), (1, .ref o2)], []) _ _ _
  have hr0 := hr
  have hq0 := hq
  obtain ⟨rk, rt, rp, ra, rs, rm, rl, r8, ri⟩ := hr
  have z := D_Row.zr hs ⟨rk, rt, rp, ra, rs, rm, rl, r8, ri⟩
  have z3 := D_Row.zr hs hq
  obtain ⟨qk, qt, qp, qa, qs, qm, ql, q8, qi⟩ := hq
  refine Z_go (f2 := (1, [(0, .ref o), (1, .ref o2)], [.int (Zi 0)])) (fun _ => rfl) ?_
  refine Z_go (f2 := (2, [(2, .int (Zi 0)), (0, .ref o), (1, .ref o2)], [])) (fun _ => rfl) ?_
  refine B_loc (K := [(2, .int (Zi 0)), (0, .ref o), (1, .ref o2)]) (N_all_sub ⟨rfl, rfl, rfl, trivial⟩) (show ([2, 0, 1] : List Nat).Nodup by decide) ?_
  exact C_each_lp hs hr0 hq0 sx (ys.length + 1) _ (by omega) (by omega) (by omega) (fun k k0 k1 => by omega)
theorem C_met_lp {d : Nat} {h0 h : E_H} {s : C_S} {p : List Nat} {f qa ma R B m : Nat} {φ : Int → List Int} {q : List Nat} {o a cap : Nat} {xs : List Int} (hs : C_is h0 h s) (hf : D_Fm s p f qa ma R B m φ) (hr : D_Row s q o a cap xs) (sx : L_srt xs) : ∀ (t : Nat) (i : Int), (m : Int) - i < t → 0 ≤ i → i ≤ m → (∀ k : Int, 0 ≤ k → k < i → ¬ L_le (φ k) xs) → B_R (d + 3) E_m10 (2, [(2, .int (Zi i)), (0, .ref f), (1, .ref o)], []) h 0 (fun r => r.2.1 = h ∧ r.2.2 = 0 ∧ (fun x => ∃ z : Int, x = some (.int (Zi z)) ∧ (z = 1 ∧ (∃ i : Int, 0 ≤ i ∧ i < m ∧ L_le (φ i) xs) ∨ z = 0 ∧ ¬ ∃ i : Int, 0 ≤ i ∧ i < m ∧ L_le (φ i) xs)) r.1) := by
  have hr0 := hr
  have hf0 := hf
  have w := hs.1
  obtain ⟨⟨fk, ft, fp, fq, qk, qt, mk, mt, fn, fl, f1⟩, g1, g2, g3⟩ := hf
  have zR := (hs.len (by decide) qk).1
  have neF := hf0.ne
  intro t
  induction t with
  | zero => intro i ht i0 i1 h1; omega
  | succ t ih =>
    intro i ht i0 i1 h1
    refine Z_go (f2 := (3, [(2, .int (Zi i)), (0, .ref f), (1, .ref o)], [.int (Zi i)])) (fun _ => rfl) ?_
    refine Z_go (f2 := (4, [(2, .int (Zi i)), (0, .ref f), (1, .ref o)], [.ref f, .int (Zi i)])) (fun _ => rfl) ?_
    refine C_gi rfl hs fk (by decide) (Nat.le_of_ble_eq_true rfl) rfl ?_
    rw [show C_F (s) f 2 = (m : Int) from (by first | exact fn | exact (if_neg (fun e => absurd e.1 (by assumption))).trans fn)]
    show B_R _ _ (7, [(2, .int (Zi i)), (0, .ref f), (1, .ref o)], [.int (Zi ((m : Int))), .int (Zi i)]) _ _ _
    refine Z_cge rfl rfl (by first | exact hs.zF _ _ | exact Zor_r _ _ | exact hs.zA _ _ | assumption | exact zA _ _ | exact zS _ | exact Zr_not (hs.zA _ _) | exact hs.1.1 _ _ | exact ⟨by omega, by omega⟩) (by first | exact hs.zF _ _ | exact Zor_r _ _ | exact hs.zA _ _ | assumption | exact zA _ _ | exact zS _ | exact Zr_not (hs.zA _ _) | exact hs.1.1 _ _ | exact ⟨by omega, by omega⟩) (fun c1 => ?_) (fun c1 => ?_)
    · refine Z_go (f2 := (31, [(2, .int (Zi i)), (0, .ref f), (1, .ref o)], [.int (Zi 0)])) (fun _ => rfl) ?_
      refine Z_iret rfl rfl (by first | rfl | decide | exact narrow_b01 (by omega)) ⟨rfl, rfl, ?_⟩
      try dsimp only
      exact ⟨0, rfl, .inr ⟨rfl, fun ⟨k, k0, k1, k2⟩ => h1 k k0 (by omega) k2⟩⟩
    · refine Z_go (f2 := (11, [(2, .int (Zi i)), (0, .ref f), (1, .ref o)], [.ref o])) (fun _ => rfl) ?_
      refine Z_go (f2 := (12, [(2, .int (Zi i)), (0, .ref f), (1, .ref o)], [.ref f, .ref o])) (fun _ => rfl) ?_
      refine Z_go (f2 := (13, [(2, .int (Zi i)), (0, .ref f), (1, .ref o)], [.int (Zi i), .ref f, .ref o])) (fun _ => rfl) ?_
      refine C_callVR (As := [.int (Zi i)]) (rest := [.ref o]) rfl (by decide) rfl (by decide) rfl rfl (by decide +kernel) (Nat.le_of_ble_eq_true rfl) hs fk (C_row_rd _ hf0 (i := i) (by omega) (by omega)) (fun x q => ?_)
      obtain ⟨r68, a68, cap68, rfl, hq68, hr68, hb68⟩ := q
      have zr68 := D_Row.zr hs hr68
      show B_R _ _ (16, [(2, .int (Zi i)), (0, .ref f), (1, .ref o)], [.ref r68, .ref o]) _ _ _
      refine C_callSR (vs := [.ref o, .ref r68]) (rest := []) rfl (by decide) rfl rfl rfl (Nat.le_of_ble_eq_true rfl) hs (C_each _ hr0 hr68 sx) (fun x q => ?_)
      obtain ⟨ze69, rfl, he69⟩ := q
      have zze : Zr ze69 := by rcases he69 with e | e <;> exact ⟨by omega, by omega⟩
      show B_R _ _ (19, [(2, .int (Zi i)), (0, .ref f), (1, .ref o)], [.int (Zi ze69)]) _ _ _
      refine Z_ieq rfl rfl (by first | exact hs.zF _ _ | exact Zor_r _ _ | exact hs.zA _ _ | assumption | exact zA _ _ | exact zS _ | exact Zr_not (hs.zA _ _) | exact hs.1.1 _ _ | exact ⟨by omega, by omega⟩) (fun c2 => ?_) (fun c2 => ?_)
      · refine Z_iinc (L2 := [(2, .int (Zi (i + 1))), (0, .ref f), (1, .ref o)]) rfl rfl (by decide) rfl ?_
        refine Z_go (f2 := (2, [(2, .int (Zi (i + 1))), (0, .ref f), (1, .ref o)], [])) (fun _ => rfl) ?_
        refine B_loc (K := [(2, .int (Zi (i + 1))), (0, .ref f), (1, .ref o)]) (N_all_sub ⟨rfl, rfl, rfl, trivial⟩) (show ([2, 0, 1] : List Nat).Nodup by decide) ?_
        exact ih _ (by omega) (by omega) (by omega) (fun k k0 k1 => by by_cases e : k = i; subst e; rcases he69 with hh | hh; omega; exact hh.2; exact h1 k k0 (by omega))
      · refine Z_go (f2 := (23, [(2, .int (Zi i)), (0, .ref f), (1, .ref o)], [.int (Zi 1)])) (fun _ => rfl) ?_
        refine Z_iret rfl rfl (by first | rfl | decide | exact narrow_b01 (by omega)) ⟨rfl, rfl, ?_⟩
        try dsimp only
        exact ⟨1, rfl, .inl ⟨rfl, i, i0, by omega, by rcases he69 with hh | hh; exact hh.2; omega⟩⟩
theorem C_met (d : Nat) {s : C_S} {p : List Nat} {f qa ma R B m : Nat} {φ : Int → List Int} {q : List Nat} {o a cap : Nat} {xs : List Int} (hf : D_Fm s p f qa ma R B m φ) (hr : D_Row s q o a cap xs) (sx : L_srt xs) : C_rd (d + 4) 10 [.ref f, .ref o] s (fun x => ∃ z : Int, x = some (.int (Zi z)) ∧ (z = 1 ∧ (∃ i : Int, 0 ≤ i ∧ i < m ∧ L_le (φ i) xs) ∨ z = 0 ∧ ¬ ∃ i : Int, 0 ≤ i ∧ i < m ∧ L_le (φ i) xs)) := by
  refine C_enterR (M := E_m10) rfl (Nat.le_of_ble_eq_true rfl) (fun h0 h hs => ?_)
  show B_R (d + 3) _ (0, [(0, .ref f), (1, .ref o)], []) _ _ _
  have hr0 := hr
  have hf0 := hf
  have w := hs.1
  obtain ⟨⟨fk, ft, fp, fq, qk, qt, mk, mt, fn, fl, f1⟩, g1, g2, g3⟩ := hf
  have zR := (hs.len (by decide) qk).1
  have neF := hf0.ne
  refine Z_go (f2 := (1, [(0, .ref f), (1, .ref o)], [.int (Zi 0)])) (fun _ => rfl) ?_
  refine Z_go (f2 := (2, [(2, .int (Zi 0)), (0, .ref f), (1, .ref o)], [])) (fun _ => rfl) ?_
  refine B_loc (K := [(2, .int (Zi 0)), (0, .ref f), (1, .ref o)]) (N_all_sub ⟨rfl, rfl, rfl, trivial⟩) (show ([2, 0, 1] : List Nat).Nodup by decide) ?_
  exact C_met_lp hs hf0 hr0 sx (m + 1) _ (by omega) (by omega) (by omega) (fun k k0 k1 => by omega)
theorem C_isAll (d : Nat) {s : C_S} {p : List Nat} {f qa ma R B m : Nat} {φ : Int → List Int} (hf : D_Fm s p f qa ma R B m φ) : C_rd (d + 2) 9 [.ref f] s (fun x => ∃ z : Int, x = some (.int (Zi z)) ∧ (z = 1 ∧ (m = 1 ∧ φ 0 = []) ∨ z = 0 ∧ ¬ (m = 1 ∧ φ 0 = []))) := by
  refine C_enterR (M := E_m9) rfl (Nat.le_of_ble_eq_true rfl) (fun h0 h hs => ?_)
  show B_R (d + 1) _ (0, [(0, .ref f)], []) _ _ _
  have hf0 := hf
  have w := hs.1
  obtain ⟨⟨fk, ft, fp, fq, qk, qt, mk, mt, fn, fl, f1⟩, g1, g2, g3⟩ := hf
  have zR := (hs.len (by decide) qk).1
  have neF := hf0.ne
  refine Z_go (f2 := (1, [(0, .ref f)], [.ref f])) (fun _ => rfl) ?_
  refine C_gi rfl hs fk (by decide) (Nat.le_of_ble_eq_true rfl) rfl ?_
  rw [show C_F (s) f 2 = (m : Int) from (by first | exact fn | exact (if_neg (fun e => absurd e.1 (by assumption))).trans fn)]
  show B_R _ _ (4, [(0, .ref f)], [.int (Zi ((m : Int)))]) _ _ _
  refine Z_go (f2 := (5, [(0, .ref f)], [.int (Zi 1), .int (Zi ((m : Int)))])) (fun _ => rfl) ?_
  refine Z_cne rfl rfl (by first | exact hs.zF _ _ | exact Zor_r _ _ | exact hs.zA _ _ | assumption | exact zA _ _ | exact zS _ | exact Zr_not (hs.zA _ _) | exact hs.1.1 _ _ | exact ⟨by omega, by omega⟩) (by first | exact hs.zF _ _ | exact Zor_r _ _ | exact hs.zA _ _ | assumption | exact zA _ _ | exact zS _ | exact Zr_not (hs.zA _ _) | exact hs.1.1 _ _ | exact ⟨by omega, by omega⟩) (fun c1 => ?_) (fun c1 => ?_)
  · refine Z_go (f2 := (24, [(0, .ref f)], [.int (Zi 0)])) (fun _ => rfl) ?_
    refine Z_iret rfl rfl (by first | rfl | decide | exact narrow_b01 (by omega)) ⟨rfl, rfl, ?_⟩
    try dsimp only
    exact ⟨0, rfl, .inr ⟨rfl, fun e => by have := congrArg List.length e.2; have e0 : ([] : List Int).length = 0 := rfl; omega⟩⟩
  · refine Z_go (f2 := (9, [(0, .ref f)], [.ref f])) (fun _ => rfl) ?_
    refine Z_go (f2 := (10, [(0, .ref f)], [.int (Zi 0), .ref f])) (fun _ => rfl) ?_
    refine C_callVR (As := [.int (Zi 0)]) (rest := []) rfl (by decide) rfl (by decide) rfl rfl (by decide +kernel) (Nat.le_of_ble_eq_true rfl) hs fk (C_row_rd _ hf0 (i := 0) (by omega) (by omega)) (fun x q => ?_)
    obtain ⟨r70, a70, cap70, rfl, hq70, hr70, hb70⟩ := q
    have zr70 := D_Row.zr hs hr70
    show B_R _ _ (13, [(0, .ref f)], [.ref r70]) _ _ _
    refine C_gi rfl hs hr70.1 (by decide) (Nat.le_of_ble_eq_true rfl) rfl ?_
    rw [show C_F (s) r70 1 = ((φ 0).length : Int) from (by first | exact hr70.2.2.2.2.2.1 | exact (if_neg (fun e => absurd e.1 (by assumption))).trans hr70.2.2.2.2.2.1)]
    show B_R _ _ (16, [(0, .ref f)], [.int (Zi (((φ 0).length : Int)))]) _ _ _
    refine Z_ine rfl rfl (by first | exact hs.zF _ _ | exact Zor_r _ _ | exact hs.zA _ _ | assumption | exact zA _ _ | exact zS _ | exact Zr_not (hs.zA _ _) | exact hs.1.1 _ _ | exact ⟨by omega, by omega⟩) (fun c2 => ?_) (fun c2 => ?_)
    · refine Z_go (f2 := (24, [(0, .ref f)], [.int (Zi 0)])) (fun _ => rfl) ?_
      refine Z_iret rfl rfl (by first | rfl | decide | exact narrow_b01 (by omega)) ⟨rfl, rfl, ?_⟩
      try dsimp only
      exact ⟨0, rfl, .inr ⟨rfl, fun e => by have := congrArg List.length e.2; have e0 : ([] : List Int).length = 0 := rfl; omega⟩⟩
    · refine Z_go (f2 := (20, [(0, .ref f)], [.int (Zi 1)])) (fun _ => rfl) ?_
      refine Z_go (f2 := (24, [(0, .ref f)], [.int (Zi 1)])) (fun _ => rfl) ?_
      refine Z_iret rfl rfl (by first | rfl | decide | exact narrow_b01 (by omega)) ⟨rfl, rfl, ?_⟩
      try dsimp only
      exact ⟨1, rfl, .inl ⟨rfl, by omega, List.eq_nil_of_length_eq_zero (by omega)⟩⟩
