/-! the reference: makes -/
/-- how many texts there are -/
theorem R_EX.nd {s : R_S} {k : Int} {A : P_X} (h : R_EX s k A) : ((List.range (s.2.1 97 k).toNat).map (fun i : Nat => R_trow s k i)).Nodup := by
  refine List.pairwise_map.mpr (List.Pairwise.imp_of_mem (fun {a b} ha hb hab => ?_) (List.pairwise_lt_range (n := (s.2.1 97 k).toNat)))
  have ha := List.mem_range.mp ha
  have hb := List.mem_range.mp hb
  exact h.2.1 a b (by omega) (by omega) (by omega)
theorem R_EX.mem {s : R_S} {k : Int} {A : P_X} (h : R_EX s k A) (x : List Int) : x ∈ (List.range (s.2.1 97 k).toNat).map (fun i : Nat => R_trow s k i) ↔ A x := by
  rw [List.mem_map, h.2.2]
  constructor
  · rintro ⟨i, hi, rfl⟩
    have hi := List.mem_range.mp hi
    exact ⟨i, by omega, by omega, rfl⟩
  · rintro ⟨c, a, b, rfl⟩
    exact ⟨c.toNat, List.mem_range.mpr (by omega), by rw [show ((c.toNat : Nat) : Int) = c by omega]⟩
theorem R_EX.card {s : R_S} {k : Int} {A : P_X} (h : R_EX s k A) (n : Nat) : S_card A n ↔ s.2.1 97 k ≤ n := by
  rw [S_card_of h.nd h.mem, List.length_map, List.length_range]
  have := h.1.1
  omega
theorem R_EX.full {s : R_S} {k : Int} {A : P_X} (h : R_EX s k A) (h8 : s.2.1 97 k = 8) {x : List Int} (hx : ¬ A x) : ¬ S_card (F_or A (F_one x)) 8 := by
  intro q
  have nd : ((List.range (s.2.1 97 k).toNat).map (fun i : Nat => R_trow s k i) ++ [x]).Nodup := by
    refine List.nodup_append.mpr ⟨h.nd, List.nodup_cons.mpr ⟨List.not_mem_nil, List.nodup_nil⟩, fun a ha b hb => ?_⟩
    rw [List.mem_singleton] at hb
    rintro rfl
    rw [hb] at ha
    exact hx ((h.mem x).mp ha)
  have := (S_card_of (A := F_or A (F_one x)) nd (fun y => by
    rw [List.mem_append, h.mem, List.mem_singleton]
    exact Iff.rfl) 8).mp q
  rw [List.length_append, List.length_map, List.length_range, List.length_cons, List.length_nil] at this
  omega
/-- u is s, but the texts of the slot 40 -/
def R_m40 (s u : R_S) : Prop := R_only [97, 98, 99] s u ∧ (∀ j, j ≠ 40 → u.2.1 97 j = s.2.1 97 j) ∧ (∀ j, ¬ (320 ≤ j ∧ j < 328) → u.2.1 98 j = s.2.1 98 j) ∧ (∀ j, ¬ (19200 ≤ j ∧ j < 19680) → u.2.1 99 j = s.2.1 99 j)
theorem R_m40_0 (s : R_S) : R_m40 s s := ⟨R_only_0 _ _, fun _ _ => rfl, fun _ _ => rfl, fun _ _ => rfl⟩
theorem R_m40.trans {s u w : R_S} (h : R_m40 s u) (g : R_m40 u w) : R_m40 s w := ⟨h.1.trans g.1, fun j hj => by rw [g.2.1 j hj, h.2.1 j hj], fun j hj => by rw [g.2.2.1 j hj, h.2.2.1 j hj], fun j hj => by rw [g.2.2.2 j hj, h.2.2.2 j hj]⟩
def R_mkw (s : R_S) (n z : Int) : R_S := R_sA (R_fl (R_sA s 98 (320 + n) z) 99 (60 * (320 + n)) (60 * (320 + n) + z) (fun j => s.2.1 112 (j - 60 * (320 + n)))) 97 40 (n + 1)
theorem R_mkw_EX {s : R_S} {A : P_X} {z : Int} (h : R_EX s 40 A) (h8 : s.2.1 97 40 < 8) (z0 : 0 ≤ z) (z1 : z ≤ 60) (hb : ∀ i, 0 ≤ i → i < z → 0 ≤ s.2.1 112 i ∧ s.2.1 112 i < 256) (hx : ¬ A (R_lg s 0 z)) : R_EX (R_mkw s (s.2.1 97 40) z) 40 (F_or A (F_one (R_lg s 0 z))) ∧ R_m40 s (R_mkw s (s.2.1 97 40) z) := by
  obtain ⟨⟨v0, v1, v2⟩, ds, mem⟩ := id h
  have e97 : (R_mkw s (s.2.1 97 40) z).2.1 97 40 = s.2.1 97 40 + 1 := R_sA_s _ _ _ _
  have e98 : ∀ j, (R_mkw s (s.2.1 97 40) z).2.1 98 j = if j = 320 + s.2.1 97 40 then z else s.2.1 98 j := fun j => by
    unfold R_mkw
    rw [R_sA_n _ _ _ _ (by decide), R_fl_n (by decide)]
    by_cases c : j = 320 + s.2.1 97 40
    · rw [if_pos c, c, R_sA_s]
    · rw [if_neg c, R_sA_m _ _ _ _ c]
  have e99o : ∀ j, ¬ (60 * (320 + s.2.1 97 40) ≤ j ∧ j < 60 * (320 + s.2.1 97 40) + z) → (R_mkw s (s.2.1 97 40) z).2.1 99 j = s.2.1 99 j := fun j hj => by
    unfold R_mkw
    rw [R_sA_n _ _ _ _ (by decide), R_fl_o hj, R_sA_n _ _ _ _ (by decide)]
  have e99i : ∀ i, 0 ≤ i → i < z → (R_mkw s (s.2.1 97 40) z).2.1 99 (60 * (8 * 40 + s.2.1 97 40) + i) = s.2.1 112 i := fun i i0 i1 => by
    unfold R_mkw
    rw [R_sA_n _ _ _ _ (by decide), R_fl_i (by omega) (by omega)]
    exact congrArg (s.2.1 112) (by omega)
  have old : ∀ t, 0 ≤ t → t < s.2.1 97 40 → R_trow (R_mkw s (s.2.1 97 40) z) 40 t = R_trow s 40 t := fun t t0 t1 => by
    have hv := v2 t t0 t1
    refine D_row_eq (by rw [e98, if_neg (by omega)]) (fun i i0 i1 => ?_)
    rw [e98, if_neg (by omega)] at i1
    exact e99o _ (by omega)
  have new : R_trow (R_mkw s (s.2.1 97 40) z) 40 (s.2.1 97 40) = R_lg s 0 z := by
    refine D_row_eq (by rw [e98, if_pos (by omega)]) (fun i i0 i1 => ?_)
    rw [e98, if_pos (by omega)] at i1
    rw [e99i i i0 i1, Int.zero_add]
  refine ⟨⟨⟨by rw [e97]; omega, by rw [e97]; omega, fun t t0 t1 => ?_⟩, fun t e t0 te e1 => ?_, fun x => ?_⟩, ⟨⟨rfl, fun q j hq => ?_, rfl⟩, fun j hj => ?_, fun j hj => ?_, fun j hj => ?_⟩⟩
  · rw [e97] at t1
    rw [e98]
    by_cases c : t = s.2.1 97 40
    · rw [if_pos (by omega), c]
      exact ⟨z0, z1, fun i i0 i1 => by rw [e99i i i0 i1]; exact hb i i0 i1⟩
    · rw [if_neg (by omega)]
      have hv := v2 t t0 (by omega)
      exact ⟨hv.1, hv.2.1, fun i i0 i1 => by rw [e99o _ (by omega)]; exact hv.2.2 i i0 i1⟩
  · rw [e97] at e1
    by_cases c : e = s.2.1 97 40
    · rw [c, new, old t t0 (by omega)]
      intro q
      exact hx (by rw [← q]; exact (mem _).mpr ⟨t, t0, by omega, rfl⟩)
    · rw [old t t0 (by omega), old e (by omega) (by omega)]
      exact ds t e t0 te (by omega)
  · rw [e97]
    constructor
    · rintro (q | q)
      · obtain ⟨t, t0, t1, rfl⟩ := (mem x).mp q
        exact ⟨t, t0, by omega, (old t t0 t1).symm⟩
      · exact ⟨s.2.1 97 40, v0, by omega, by rw [new]; exact q⟩
    · rintro ⟨t, t0, t1, rfl⟩
      by_cases c : t = s.2.1 97 40
      · rw [c, new]; exact .inr rfl
      · rw [old t t0 (by omega)]
        exact .inl ((mem _).mpr ⟨t, t0, by omega, rfl⟩)
  · unfold R_mkw
    rw [R_sA_n _ _ _ _ (fun e => hq (by rw [e]; simp)), R_fl_n (fun e => hq (by rw [e]; simp)), R_sA_n _ _ _ _ (fun e => hq (by rw [e]; simp))]
  · unfold R_mkw
    rw [R_sA_m _ _ _ _ hj, R_fl_n (by decide), R_sA_n _ _ _ _ (by decide)]
  · rw [e98, if_neg (by omega)]
  · exact e99o j (by omega)
theorem R_mk_lp {d : Nat} {h0 : E_H} {s : R_S} {sl : Nat} {Φ : E_R → Prop} {n z : Int} (n0 : 0 ≤ n) (n1 : n < 8) (z1 : z ≤ 60) (zA : ∀ q j, Zr (s.2.1 q j)) (kont : ∀ (h : E_H), R_is h0 h (R_fl s 99 (60 * (320 + n)) (60 * (320 + n) + z) (fun j => s.2.1 112 (j - 60 * (320 + n)))) → B_R (d) E_m241 (80, [(3, .int (Zi z)), (2, .int (Zi n)), (0, .ref 83), (1, .int (Zi z))], []) h sl Φ) : ∀ (t : Nat) (k : Int) (h : E_H), z - k < t → R_is h0 h (R_fl s 99 (60 * (320 + n)) (60 * (320 + n) + k) (fun j => s.2.1 112 (j - 60 * (320 + n)))) → 0 ≤ k → k ≤ z → B_R (d) E_m241 (48, [(3, .int (Zi k)), (2, .int (Zi n)), (0, .ref 83), (1, .int (Zi z))], []) h sl Φ := by
  intro t
  induction t with
  | zero => intro k h ht hs k0 k1; omega
  | succ t ih =>
    intro k h ht hs k0 k1
    refine Z_go (f2 := (49, [(3, .int (Zi k)), (2, .int (Zi n)), (0, .ref 83), (1, .int (Zi z))], [.int (Zi k)])) (fun _ => rfl) ?_
    refine Z_go (f2 := (50, [(3, .int (Zi k)), (2, .int (Zi n)), (0, .ref 83), (1, .int (Zi z))], [.int (Zi z), .int (Zi k)])) (fun _ => rfl) ?_
    refine Z_cge rfl rfl (by first | exact hs.zF _ | exact Zor_r _ _ | exact hs.zA _ _ | assumption | exact zA _ _ | exact zS _ | exact Zr_not (hs.zA _ _) | exact ⟨by omega, by omega⟩) (by first | exact hs.zF _ | exact Zor_r _ _ | exact hs.zA _ _ | assumption | exact zA _ _ | exact zS _ | exact Zr_not (hs.zA _ _) | exact ⟨by omega, by omega⟩) (fun c1 => ?_) (fun c1 => ?_)
    · obtain rfl : k = z := by omega
      exact kont h hs 
    · refine Z_go (f2 := (54, [(3, .int (Zi k)), (2, .int (Zi n)), (0, .ref 83), (1, .int (Zi z))], [.ref 83])) (fun _ => rfl) ?_
      refine R_gr (q := 97) rfl hs rfl ?_
      show B_R _ _ (57, [(3, .int (Zi k)), (2, .int (Zi n)), (0, .ref 83), (1, .int (Zi z))], [.ref 99]) _ _ _
      refine Z_go (f2 := (59, [(3, .int (Zi k)), (2, .int (Zi n)), (0, .ref 83), (1, .int (Zi z))], [.int (Zi 60), .ref 99])) (fun _ => rfl) ?_
      refine Z_go (f2 := (62, [(3, .int (Zi k)), (2, .int (Zi n)), (0, .ref 83), (1, .int (Zi z))], [.int (Zi 320), .int (Zi 60), .ref 99])) (fun _ => rfl) ?_
      refine Z_go (f2 := (63, [(3, .int (Zi k)), (2, .int (Zi n)), (0, .ref 83), (1, .int (Zi z))], [.int (Zi n), .int (Zi 320), .int (Zi 60), .ref 99])) (fun _ => rfl) ?_
      refine Z_iadd rfl ?_
      refine Z_imul rfl ?_
      refine Z_go (f2 := (66, [(3, .int (Zi k)), (2, .int (Zi n)), (0, .ref 83), (1, .int (Zi z))], [.int (Zi k), .int (Zi (60 * (320 + n))), .ref 99])) (fun _ => rfl) ?_
      refine Z_iadd rfl ?_
      refine Z_go (f2 := (68, [(3, .int (Zi k)), (2, .int (Zi n)), (0, .ref 83), (1, .int (Zi z))], [.ref 83, .int (Zi (60 * (320 + n) + k)), .ref 99])) (fun _ => rfl) ?_
      refine R_gr (q := 110) rfl hs rfl ?_
      show B_R _ _ (71, [(3, .int (Zi k)), (2, .int (Zi n)), (0, .ref 83), (1, .int (Zi z))], [.ref 112, .int (Zi (60 * (320 + n) + k)), .ref 99]) _ _ _
      refine Z_go (f2 := (72, [(3, .int (Zi k)), (2, .int (Zi n)), (0, .ref 83), (1, .int (Zi z))], [.int (Zi k), .ref 112, .int (Zi (60 * (320 + n) + k)), .ref 99])) (fun _ => rfl) ?_
      refine R_ia (q := 28) rfl hs rfl rfl (by omega) (by omega) (by decide) ?_
      rw [show (R_fl s 99 (60 * (320 + n)) (60 * (320 + n) + k) (fun j => s.2.1 112 (j - 60 * (320 + n)))).2.1 112 k = s.2.1 112 k by first | rfl | simp [R_sA, R_sF, R_up2, R_fl, R_fL, R_sM, R_sL, R_p3, R_em]]; show B_R _ _ (73, [(3, .int (Zi k)), (2, .int (Zi n)), (0, .ref 83), (1, .int (Zi z))], [.int (Zi (s.2.1 112 k)), .int (Zi (60 * (320 + n) + k)), .ref 99]) _ _ _
      refine R_is_ (q := 15) rfl hs rfl rfl (by omega) (by omega) (by decide) (by first | exact hs.zF _ | exact Zor_r _ _ | exact hs.zA _ _ | assumption | exact zA _ _ | exact zS _ | exact Zr_not (hs.zA _ _) | exact ⟨by omega, by omega⟩) (fun h hs => ?_)
      refine Z_iinc (L2 := [(3, .int (Zi (k + 1))), (2, .int (Zi n)), (0, .ref 83), (1, .int (Zi z))]) rfl rfl (by decide) rfl ?_
      refine Z_go (f2 := (48, [(3, .int (Zi (k + 1))), (2, .int (Zi n)), (0, .ref 83), (1, .int (Zi z))], [])) (fun _ => rfl) ?_
      refine B_loc (K := [(3, .int (Zi (k + 1))), (2, .int (Zi n)), (0, .ref 83), (1, .int (Zi z))]) (N_all_sub ⟨rfl, rfl, rfl, rfl, trivial⟩) (show ([3, 2, 0, 1] : List Nat).Nodup by decide) ?_
      rw [R_fl_st (by omega) rfl (by show _ = s.2.1 112 _; exact congrArg (s.2.1 112) (by omega))] at hs
      exact ih _ _ (by omega) (by rw [← Int.add_assoc]; exact hs) (by omega) (by omega)
theorem R_makes (d : Nat) (s : R_S) {z : Int} {A : P_X} (zz : Zr z) (z0 : 0 ≤ z) (hA : R_EX s 40 A) (hb : z ≤ 60 → ∀ i, 0 ≤ i → i < z → 0 ≤ s.2.1 112 i ∧ s.2.1 112 i < 256) : R_ok (d + 3) 241 [.int (Zi z)] s (fun x s2 => ∃ v : Int, x = some (.int (Zi v)) ∧ (v = 1 ∧ z ≤ 60 ∧ R_EX s2 40 (F_or A (F_one (R_lg s 0 z))) ∧ R_m40 s s2 ∨ v = 0 ∧ R_m40 s s2 ∧ (60 < z ∨ ¬ S_card (F_or A (F_one (R_lg s 0 z))) 8))) := by
  refine R_enter (M := E_m241) rfl (Nat.le_of_ble_eq_true rfl) (fun h0 h hs => ?_)
  show B_R (d + 2) _ (0, [(0, .ref 83), (1, .int (Zi z))], []) _ _ _
  obtain ⟨a0, a1, a2⟩ := id hA.1
  refine Z_go (f2 := (1, [(0, .ref 83), (1, .int (Zi z))], [.int (Zi z)])) (fun _ => rfl) ?_
  refine Z_go (f2 := (3, [(0, .ref 83), (1, .int (Zi z))], [.int (Zi 60), .int (Zi z)])) (fun _ => rfl) ?_
  refine Z_cle rfl rfl (by first | exact hs.zF _ | exact Zor_r _ _ | exact hs.zA _ _ | assumption | exact zA _ _ | exact zS _ | exact Zr_not (hs.zA _ _) | exact ⟨by omega, by omega⟩) (by first | exact hs.zF _ | exact Zor_r _ _ | exact hs.zA _ _ | assumption | exact zA _ _ | exact zS _ | exact Zr_not (hs.zA _ _) | exact ⟨by omega, by omega⟩) (fun c1 => ?_) (fun c1 => ?_)
  · refine Z_go (f2 := (9, [(0, .ref 83), (1, .int (Zi z))], [.ref 83])) (fun _ => rfl) ?_
    refine Z_go (f2 := (10, [(0, .ref 83), (1, .int (Zi z))], [.int (Zi z), .ref 83])) (fun _ => rfl) ?_
    refine Z_go (f2 := (11, [(0, .ref 83), (1, .int (Zi z))], [.int (Zi 0), .int (Zi z), .ref 83])) (fun _ => rfl) ?_
    refine R_call (As := [.int (Zi z), .int (Zi 0)]) (rest := []) rfl (by decide) rfl rfl rfl rfl (by decide +kernel) (Nat.le_of_ble_eq_true rfl) hs (R_isMade _ s ⟨by omega, by omega⟩ ⟨by omega, by omega⟩ hA.1 z0 (by omega) (by omega) (by omega)) (fun x h s2 hs q => ?_)
    obtain ⟨q0, v, rfl, hv⟩ := q
    rw [q0] at hs
    have hv2 : v = 1 ∧ A (R_lg s 0 z) ∨ v = 0 ∧ ¬ A (R_lg s 0 z) := by
      have e : A (R_lg s 0 z) ↔ ∃ k, 0 ≤ k ∧ k < s.2.1 97 40 ∧ R_trow s 40 k = R_lg s 0 z := (hA.2.2 _).trans ⟨fun ⟨t, a, b, c⟩ => ⟨t, a, b, c.symm⟩, fun ⟨t, a, b, c⟩ => ⟨t, a, b, c.symm⟩⟩
      rw [e]
      exact hv
    show B_R _ _ (14, [(0, .ref 83), (1, .int (Zi z))], [.int (Zi v)]) _ _ _
    refine Z_ieq rfl rfl (by first | exact hs.zF _ | exact Zor_r _ _ | exact hs.zA _ _ | assumption | exact zA _ _ | exact zS _ | exact Zr_not (hs.zA _ _) | exact ⟨by omega, by omega⟩) (fun c2 => ?_) (fun c2 => ?_)
    · refine Z_go (f2 := (20, [(0, .ref 83), (1, .int (Zi z))], [.ref 83])) (fun _ => rfl) ?_
      refine R_gr (q := 95) rfl hs rfl ?_
      show B_R _ _ (23, [(0, .ref 83), (1, .int (Zi z))], [.ref 97]) _ _ _
      refine Z_go (f2 := (25, [(0, .ref 83), (1, .int (Zi z))], [.int (Zi 40), .ref 97])) (fun _ => rfl) ?_
      refine R_ia (q := 13) rfl hs rfl rfl (by omega) (by omega) (by decide) ?_
      refine Z_go (f2 := (27, [(2, .int (Zi (s.2.1 97 40))), (0, .ref 83), (1, .int (Zi z))], [])) (fun _ => rfl) ?_
      refine Z_go (f2 := (28, [(2, .int (Zi (s.2.1 97 40))), (0, .ref 83), (1, .int (Zi z))], [.int (Zi (s.2.1 97 40))])) (fun _ => rfl) ?_
      refine Z_go (f2 := (30, [(2, .int (Zi (s.2.1 97 40))), (0, .ref 83), (1, .int (Zi z))], [.int (Zi 8), .int (Zi (s.2.1 97 40))])) (fun _ => rfl) ?_
      refine Z_cne rfl rfl (by first | exact hs.zF _ | exact Zor_r _ _ | exact hs.zA _ _ | assumption | exact zA _ _ | exact zS _ | exact Zr_not (hs.zA _ _) | exact ⟨by omega, by omega⟩) (by first | exact hs.zF _ | exact Zor_r _ _ | exact hs.zA _ _ | assumption | exact zA _ _ | exact zS _ | exact Zr_not (hs.zA _ _) | exact ⟨by omega, by omega⟩) (fun c3 => ?_) (fun c3 => ?_)
      · refine Z_go (f2 := (36, [(2, .int (Zi (s.2.1 97 40))), (0, .ref 83), (1, .int (Zi z))], [.ref 83])) (fun _ => rfl) ?_
        refine R_gr (q := 96) rfl hs rfl ?_
        show B_R _ _ (39, [(2, .int (Zi (s.2.1 97 40))), (0, .ref 83), (1, .int (Zi z))], [.ref 98]) _ _ _
        refine Z_go (f2 := (42, [(2, .int (Zi (s.2.1 97 40))), (0, .ref 83), (1, .int (Zi z))], [.int (Zi 320), .ref 98])) (fun _ => rfl) ?_
        refine Z_go (f2 := (43, [(2, .int (Zi (s.2.1 97 40))), (0, .ref 83), (1, .int (Zi z))], [.int (Zi (s.2.1 97 40)), .int (Zi 320), .ref 98])) (fun _ => rfl) ?_
        refine Z_iadd rfl ?_
        refine Z_go (f2 := (45, [(2, .int (Zi (s.2.1 97 40))), (0, .ref 83), (1, .int (Zi z))], [.int (Zi z), .int (Zi (320 + (s.2.1 97 40))), .ref 98])) (fun _ => rfl) ?_
        refine R_is_ (q := 14) rfl hs rfl rfl (by omega) (by omega) (by decide) (by first | exact hs.zF _ | exact Zor_r _ _ | exact hs.zA _ _ | assumption | exact zA _ _ | exact zS _ | exact Zr_not (hs.zA _ _) | exact ⟨by omega, by omega⟩) (fun h hs => ?_)
        refine Z_go (f2 := (47, [(2, .int (Zi (s.2.1 97 40))), (0, .ref 83), (1, .int (Zi z))], [.int (Zi 0)])) (fun _ => rfl) ?_
        refine Z_go (f2 := (48, [(3, .int (Zi 0)), (2, .int (Zi (s.2.1 97 40))), (0, .ref 83), (1, .int (Zi z))], [])) (fun _ => rfl) ?_
        refine B_loc (K := [(3, .int (Zi 0)), (2, .int (Zi (s.2.1 97 40))), (0, .ref 83), (1, .int (Zi z))]) (N_all_sub ⟨rfl, rfl, rfl, rfl, trivial⟩) (show ([3, 2, 0, 1] : List Nat).Nodup by decide) ?_
        refine R_mk_lp (s := R_sA s 98 (320 + s.2.1 97 40) z) a0 (by omega) (by omega) (fun q j => hs.zA q j) (fun h hs => ?_) (z.toNat + 1) 0 h (by omega) (by rw [Int.add_zero, R_fl_0]; exact hs) (by omega) z0
        have hs : R_is h0 h (R_fl (R_sA s 98 (320 + s.2.1 97 40) z) 99 (60 * (320 + s.2.1 97 40)) (60 * (320 + s.2.1 97 40) + z) (fun j => s.2.1 112 (j - 60 * (320 + s.2.1 97 40)))) := hs
        refine Z_go (f2 := (81, [(3, .int (Zi z)), (2, .int (Zi (s.2.1 97 40))), (0, .ref 83), (1, .int (Zi z))], [.ref 83])) (fun _ => rfl) ?_
        refine R_gr (q := 95) rfl hs rfl ?_
        show B_R _ _ (84, [(3, .int (Zi z)), (2, .int (Zi (s.2.1 97 40))), (0, .ref 83), (1, .int (Zi z))], [.ref 97]) _ _ _
        refine Z_go (f2 := (86, [(3, .int (Zi z)), (2, .int (Zi (s.2.1 97 40))), (0, .ref 83), (1, .int (Zi z))], [.int (Zi 40), .ref 97])) (fun _ => rfl) ?_
        refine Z_go (f2 := (87, [(3, .int (Zi z)), (2, .int (Zi (s.2.1 97 40))), (0, .ref 83), (1, .int (Zi z))], [.int (Zi 40), .ref 97, .int (Zi 40), .ref 97])) (fun _ => rfl) ?_
        refine R_ia (q := 13) rfl hs rfl rfl (by omega) (by omega) (by decide) ?_
        rw [show (R_fl (R_sA s 98 (320 + s.2.1 97 40) z) 99 (60 * (320 + s.2.1 97 40)) (60 * (320 + s.2.1 97 40) + z) (fun j => s.2.1 112 (j - 60 * (320 + s.2.1 97 40)))).2.1 97 40 = s.2.1 97 40 by first | rfl | simp [R_sA, R_sF, R_up2, R_fl, R_fL, R_sM, R_sL, R_p3, R_em]]; show B_R _ _ (88, [(3, .int (Zi z)), (2, .int (Zi (s.2.1 97 40))), (0, .ref 83), (1, .int (Zi z))], [.int (Zi (s.2.1 97 40)), .int (Zi 40), .ref 97]) _ _ _
        refine Z_go (f2 := (89, [(3, .int (Zi z)), (2, .int (Zi (s.2.1 97 40))), (0, .ref 83), (1, .int (Zi z))], [.int (Zi 1), .int (Zi (s.2.1 97 40)), .int (Zi 40), .ref 97])) (fun _ => rfl) ?_
        refine Z_iadd rfl ?_
        refine R_is_ (q := 13) rfl hs rfl rfl (by omega) (by omega) (by decide) (by first | exact hs.zF _ | exact Zor_r _ _ | exact hs.zA _ _ | assumption | exact zA _ _ | exact zS _ | exact Zr_not (hs.zA _ _) | exact ⟨by omega, by omega⟩) (fun h hs => ?_)
        refine Z_go (f2 := (92, [(3, .int (Zi z)), (2, .int (Zi (s.2.1 97 40))), (0, .ref 83), (1, .int (Zi z))], [.int (Zi 1)])) (fun _ => rfl) ?_
        refine Z_iret rfl rfl (by first | rfl | decide | exact narrow_b01 (by omega)) ⟨_, hs, ?_, rfl⟩
        obtain ⟨c1, c2⟩ := R_mkw_EX hA (by omega) z0 (by omega) (hb (by omega)) (by rcases hv2 with q | q; omega; exact q.2)
        exact ⟨_, rfl, .inl ⟨rfl, by omega, c1, c2⟩⟩
      · refine Z_go (f2 := (34, [(2, .int (Zi (s.2.1 97 40))), (0, .ref 83), (1, .int (Zi z))], [.int (Zi 0)])) (fun _ => rfl) ?_
        refine Z_iret rfl rfl (by first | rfl | decide | exact narrow_b01 (by omega)) ⟨_, hs, ?_, rfl⟩
        exact ⟨_, rfl, .inr ⟨rfl, R_m40_0 s, .inr (hA.full (by omega) (by rcases hv2 with q | q; omega; exact q.2))⟩⟩
    · refine Z_go (f2 := (18, [(0, .ref 83), (1, .int (Zi z))], [.int (Zi 1)])) (fun _ => rfl) ?_
      refine Z_iret rfl rfl (by first | rfl | decide | exact narrow_b01 (by omega)) ⟨_, hs, ?_, rfl⟩
      refine ⟨_, rfl, .inl ⟨rfl, by omega, ?_, R_m40_0 s⟩⟩
      have hin : A (R_lg s 0 z) := by rcases hv2 with q | q; exact q.2; omega
      have e : F_or A (F_one (R_lg s 0 z)) = A := funext (fun x => propext ⟨fun q => q.elim id (fun q => by have q : x = R_lg s 0 z := q; rw [q]; exact hin), .inl⟩)
      rw [e]
      exact hA
  · refine Z_go (f2 := (7, [(0, .ref 83), (1, .int (Zi z))], [.int (Zi 0)])) (fun _ => rfl) ?_
    refine Z_iret rfl rfl (by first | rfl | decide | exact narrow_b01 (by omega)) ⟨_, hs, ?_, rfl⟩
    exact ⟨_, rfl, .inr ⟨rfl, R_m40_0 s, .inl (by omega)⟩⟩
