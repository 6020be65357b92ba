/-! the reference: ofSet -/
def R_ctd (s : R_S) (m i n : Int) : Prop := n ≤ i ∧ ∃ l : List Int, l.Nodup ∧ (l.length : Int) = n ∧ ∀ x, x ∈ l ↔ (R_has s m x ∧ 0 ≤ x ∧ x < i)
theorem R_ctd_0 (s : R_S) (m : Int) : R_ctd s m 0 0 := ⟨by decide, [], List.nodup_nil, rfl, fun x => ⟨fun h => absurd h List.not_mem_nil, fun h => by omega⟩⟩
theorem R_ctd.yes {s : R_S} {m i n : Int} (h : R_ctd s m i n) (i0 : 0 ≤ i) (hi : R_has s m i) : R_ctd s m (i + 1) (n + 1) := by
  obtain ⟨ni, l, l1, l2, l3⟩ := h
  refine ⟨by omega, i :: l, List.nodup_cons.mpr ⟨fun q => by have := (l3 i).mp q; omega, l1⟩, by rw [List.length_cons]; omega, fun x => ?_⟩
  rw [List.mem_cons, l3]
  constructor
  · rintro (rfl | q)
    · exact ⟨hi, i0, by omega⟩
    · exact ⟨q.1, q.2.1, by omega⟩
  · rintro ⟨q1, q2, q3⟩
    by_cases c : x = i
    · exact .inl c
    · exact .inr ⟨q1, q2, by omega⟩
theorem R_ctd.no {s : R_S} {m i n : Int} (h : R_ctd s m i n) (hi : ¬ R_has s m i) : R_ctd s m (i + 1) n := by
  obtain ⟨ni, l, l1, l2, l3⟩ := h
  refine ⟨by omega, l, l1, l2, fun x => ?_⟩
  rw [l3]
  constructor
  · exact fun q => ⟨q.1, q.2.1, by omega⟩
  · rintro ⟨q1, q2, q3⟩
    refine ⟨q1, q2, ?_⟩
    by_cases c : x = i
    · exact absurd (c ▸ q1) hi
    · omega
theorem R_ctd.nn {s : R_S} {m i n : Int} (h : R_ctd s m i n) : 0 ≤ n := by
  obtain ⟨ni, l, l1, l2, l3⟩ := h
  omega
theorem R_ctd.card {s : R_S} {m n : Int} (h : R_ctd s m 256 n) (k : Nat) : S_card (fun b => R_has s m b ∧ 0 ≤ b ∧ b < 256) k ↔ n ≤ k := by
  obtain ⟨ni, l, l1, l2, l3⟩ := h
  rw [S_card_of (A := fun b => R_has s m b ∧ 0 ≤ b ∧ b < 256) l1 l3]
  omega
/-- the bytes before i, as texts -/
def R_sbs (B : Int → Prop) (i : Int) : P_X := fun t => ∃ b, B b ∧ 0 ≤ b ∧ b < i ∧ t = [b]
theorem R_sbs_0 (B : Int → Prop) : R_sbs B 0 = fun _ => False := funext (fun x => propext ⟨fun ⟨b, h⟩ => by omega, fun h => h.elim⟩)
theorem R_sbs_yes {B : Int → Prop} {i : Int} (i0 : 0 ≤ i) (h : B i) : F_or (R_sbs B i) (F_one [i]) = R_sbs B (i + 1) := by
  funext x
  refine propext ⟨?_, ?_⟩
  · rintro (⟨b, b1, b2, b3, b4⟩ | q)
    · exact ⟨b, b1, b2, by omega, b4⟩
    · exact ⟨i, h, i0, by omega, q⟩
  · rintro ⟨b, b1, b2, b3, b4⟩
    by_cases c : b = i
    · exact .inr (by rw [← c]; exact b4)
    · exact .inl ⟨b, b1, b2, by omega, b4⟩
theorem R_sbs_no {B : Int → Prop} {i : Int} (h : ¬ B i) : R_sbs B i = R_sbs B (i + 1) := by
  funext x
  refine propext ⟨?_, ?_⟩
  · rintro ⟨b, b1, b2, b3, b4⟩
    exact ⟨b, b1, b2, by omega, b4⟩
  · rintro ⟨b, b1, b2, b3, b4⟩
    by_cases c : b = i
    · exact absurd (c ▸ b1) h
    · exact ⟨b, b1, b2, by omega, b4⟩
theorem R_sbs_new {B : Int → Prop} {i : Int} : ¬ R_sbs B i [i] := by
  rintro ⟨b, b1, b2, b3, b4⟩
  simp at b4
  omega
theorem R_sbs_card {B : Int → Prop} {k : Nat} (h : S_card (fun b => B b ∧ 0 ≤ b ∧ b < 256) k) {i : Int} (i1 : i ≤ 256) : S_card (R_sbs B i) k := by
  obtain ⟨l, l1, l2⟩ := h
  refine ⟨l.map (fun b => [b]), by rw [List.length_map]; exact l1, ?_⟩
  rintro x ⟨b, b1, b2, b3, b4⟩
  exact List.mem_map.mpr ⟨b, l2 b ⟨b1, b2, by omega⟩, b4.symm⟩
def R_osS (u : R_S) (k b : Int) : R_S := R_sA (R_sA (R_sA u 98 (8 * k + u.2.1 97 k) 1) 99 (60 * (8 * k + u.2.1 97 k)) b) 97 k (u.2.1 97 k + 1)
theorem R_osS_EX {u : R_S} {k b : Int} {A : P_X} (h : R_EX u k A) (h8 : u.2.1 97 k < 8) (b0 : 0 ≤ b) (b1 : b < 256) (hx : ¬ A [b]) : R_EX (R_osS u k b) k (F_or A (F_one [b])) := by
  obtain ⟨⟨v0, v1, v2⟩, ds, mem⟩ := id h
  have e97 : (R_osS u k b).2.1 97 k = u.2.1 97 k + 1 := R_sA_s _ _ _ _
  have e98 : ∀ j, (R_osS u k b).2.1 98 j = if j = 8 * k + u.2.1 97 k then 1 else u.2.1 98 j := fun j => by
    unfold R_osS
    rw [R_sA_n _ _ _ _ (by decide), R_sA_n _ _ _ _ (by decide)]
    by_cases c : j = 8 * k + u.2.1 97 k
    · rw [if_pos c, c, R_sA_s]
    · rw [if_neg c, R_sA_m _ _ _ _ c]
  have e99 : ∀ j, (R_osS u k b).2.1 99 j = if j = 60 * (8 * k + u.2.1 97 k) then b else u.2.1 99 j := fun j => by
    unfold R_osS
    rw [R_sA_n _ _ _ _ (by decide)]
    by_cases c : j = 60 * (8 * k + u.2.1 97 k)
    · rw [if_pos c, c, R_sA_s]
    · rw [if_neg c, R_sA_m _ _ _ _ c, R_sA_n _ _ _ _ (by decide)]
  have old : ∀ t, 0 ≤ t → t < u.2.1 97 k → R_trow (R_osS u k b) k t = R_trow u k t := fun t t0 t1 => by
    have hv := v2 t t0 t1
    refine D_row_eq (by rw [e98, if_neg (by omega)]) (fun i i0 i1 => ?_)
    rw [e98, if_neg (by omega)] at i1
    rw [e99, if_neg (by omega)]
  have new : R_trow (R_osS u k b) k (u.2.1 97 k) = [b] := by
    have e : R_trow (R_osS u k b) k (u.2.1 97 k) = D_row (fun _ => b) 1 := D_row_eq (by rw [e98, if_pos rfl]) (fun i i0 i1 => by
      rw [e98, if_pos rfl] at i1
      rw [e99, if_pos (by omega)])
    rw [e]
    rfl
  refine ⟨⟨by rw [e97]; omega, by rw [e97]; omega, fun t t0 t1 => ?_⟩, fun t e t0 te e1 => ?_, fun x => ?_⟩
  · rw [e97] at t1
    rw [e98]
    by_cases c : t = u.2.1 97 k
    · rw [if_pos (by omega)]
      exact ⟨by decide, by decide, fun i i0 i1 => by rw [e99, if_pos (by omega)]; exact ⟨b0, b1⟩⟩
    · rw [if_neg (by omega)]
      have hv := v2 t t0 (by omega)
      exact ⟨hv.1, hv.2.1, fun i i0 i1 => by rw [e99, if_neg (by omega)]; exact hv.2.2 i i0 i1⟩
  · rw [e97] at e1
    by_cases c : e = u.2.1 97 k
    · rw [c, new, old t t0 (by omega)]
      intro q
      exact hx (by rw [← q]; exact (mem _).mpr ⟨t, t0, by omega, rfl⟩)
    · rw [old t t0 (by omega), old e (by omega) (by omega)]
      exact ds t e t0 te (by omega)
  · rw [e97]
    constructor
    · rintro (q | q)
      · obtain ⟨t, t0, t1, rfl⟩ := (mem x).mp q
        exact ⟨t, t0, by omega, (old t t0 t1).symm⟩
      · exact ⟨u.2.1 97 k, v0, by omega, by rw [new]; exact q⟩
    · rintro ⟨t, t0, t1, rfl⟩
      by_cases c : t = u.2.1 97 k
      · rw [c, new]; exact .inr rfl
      · rw [old t t0 (by omega)]
        exact .inl ((mem _).mpr ⟨t, t0, by omega, rfl⟩)
theorem R_osS_vk {s u : R_S} {k b : Int} (h : R_vk s u (fun e => e = k)) (n0 : 0 ≤ u.2.1 97 k) (n1 : u.2.1 97 k < 8) : R_vk s (R_osS u k b) (fun e => e = k) :=
  ((h.st (q := 98) (by decide) (by decide) (by show _ / (8 : Int) = k; omega)).st (q := 99) (by decide) (by decide) (by show _ / (480 : Int) = k; omega)).st (q := 97) (by decide) (by decide) (Int.ediv_one k)
theorem R_os_1 {d : Nat} {h0 : E_H} {s : R_S} {sl : Nat} {Φ : E_R → Prop} {k m : Int} (m0 : 0 ≤ m) (m1 : m < 90) (kont : ∀ (n : Int) (h : E_H), R_is h0 h s → R_ctd s m 256 n → B_R (d + 1) E_m238 (37, [(3, .int (Zi n)), (0, .ref 83), (1, .int (Zi k)), (2, .int (Zi m))], []) h sl Φ) : ∀ (t : Nat) (i n : Int) (h : E_H), 256 - i < t → R_is h0 h s → R_ctd s m i n → 0 ≤ i → i ≤ 256 → B_R (d + 1) E_m238 (5, [(4, .int (Zi i)), (3, .int (Zi n)), (0, .ref 83), (1, .int (Zi k)), (2, .int (Zi m))], []) h sl Φ := by
  intro t
  induction t with
  | zero => intro i n h ht hs hc i0 i1; omega
  | succ t ih =>
    intro i n h ht hs hc i0 i1
    have hn := hc.nn
    have hn2 := hc.1
    refine Z_go (f2 := (7, [(4, .int (Zi i)), (3, .int (Zi n)), (0, .ref 83), (1, .int (Zi k)), (2, .int (Zi m))], [.int (Zi i)])) (fun _ => rfl) ?_
    refine Z_go (f2 := (10, [(4, .int (Zi i)), (3, .int (Zi n)), (0, .ref 83), (1, .int (Zi k)), (2, .int (Zi m))], [.int (Zi 256), .int (Zi i)])) (fun _ => rfl) ?_
    refine Z_cge rfl rfl (by first | exact hs.zF _ | exact Zor_r _ _ | exact hs.zA _ _ | assumption | exact zA _ _ | exact zS _ | exact Zr_not (hs.zA _ _) | exact ⟨by omega, by omega⟩) (by first | exact hs.zF _ | exact Zor_r _ _ | exact hs.zA _ _ | assumption | exact zA _ _ | exact zS _ | exact Zr_not (hs.zA _ _) | exact ⟨by omega, by omega⟩) (fun c1 => ?_) (fun c1 => ?_)
    · refine B_loc (K := [(3, .int (Zi n)), (0, .ref 83), (1, .int (Zi k)), (2, .int (Zi m))]) (N_all_sub ⟨rfl, rfl, rfl, rfl, trivial⟩) (show ([3, 0, 1, 2] : List Nat).Nodup by decide) ?_
      obtain rfl : i = 256 := by omega
      exact kont n h hs hc
    · refine Z_go (f2 := (14, [(4, .int (Zi i)), (3, .int (Zi n)), (0, .ref 83), (1, .int (Zi k)), (2, .int (Zi m))], [.int (Zi n)])) (fun _ => rfl) ?_
      refine Z_go (f2 := (15, [(4, .int (Zi i)), (3, .int (Zi n)), (0, .ref 83), (1, .int (Zi k)), (2, .int (Zi m))], [.ref 83, .int (Zi n)])) (fun _ => rfl) ?_
      refine Z_go (f2 := (16, [(4, .int (Zi i)), (3, .int (Zi n)), (0, .ref 83), (1, .int (Zi k)), (2, .int (Zi m))], [.int (Zi m), .ref 83, .int (Zi n)])) (fun _ => rfl) ?_
      refine Z_go (f2 := (18, [(4, .int (Zi i)), (3, .int (Zi n)), (0, .ref 83), (1, .int (Zi k)), (2, .int (Zi m))], [.int (Zi i), .int (Zi m), .ref 83, .int (Zi n)])) (fun _ => rfl) ?_
      refine R_call (As := [.int (Zi m), .int (Zi i)]) (rest := [.int (Zi n)]) rfl (by decide) rfl rfl rfl rfl (by decide +kernel) (Nat.le_of_ble_eq_true rfl) hs (R_has0 _ s ⟨by omega, by omega⟩ ⟨by omega, by omega⟩ m0 m1 i0 (by omega)) (fun x h s2 hs q => ?_)
      obtain ⟨q0, v, rfl, hv⟩ := q
      rw [q0] at hs
      have zv : Zr v := by rcases hv with q | q <;> exact ⟨by omega, by omega⟩
      show B_R _ _ (21, [(4, .int (Zi i)), (3, .int (Zi n)), (0, .ref 83), (1, .int (Zi k)), (2, .int (Zi m))], [.int (Zi v), .int (Zi n)]) _ _ _
      refine Z_ieq rfl rfl (by first | exact hs.zF _ | exact Zor_r _ _ | exact hs.zA _ _ | assumption | exact zA _ _ | exact zS _ | exact Zr_not (hs.zA _ _) | exact ⟨by omega, by omega⟩) (fun c2 => ?_) (fun c2 => ?_)
      · refine Z_go (f2 := (29, [(4, .int (Zi i)), (3, .int (Zi n)), (0, .ref 83), (1, .int (Zi k)), (2, .int (Zi m))], [.int (Zi 0), .int (Zi n)])) (fun _ => rfl) ?_
        refine Z_iadd rfl ?_
        refine Z_go (f2 := (31, [(3, .int (Zi (n + 0))), (4, .int (Zi i)), (0, .ref 83), (1, .int (Zi k)), (2, .int (Zi m))], [])) (fun _ => rfl) ?_
        refine Z_iinc (L2 := [(4, .int (Zi (i + 1))), (3, .int (Zi (n + 0))), (0, .ref 83), (1, .int (Zi k)), (2, .int (Zi m))]) rfl rfl (by decide) rfl ?_
        refine Z_go (f2 := (5, [(4, .int (Zi (i + 1))), (3, .int (Zi (n + 0))), (0, .ref 83), (1, .int (Zi k)), (2, .int (Zi m))], [])) (fun _ => rfl) ?_
        refine B_loc (K := [(4, .int (Zi (i + 1))), (3, .int (Zi (n + 0))), (0, .ref 83), (1, .int (Zi k)), (2, .int (Zi m))]) (N_all_sub ⟨rfl, rfl, rfl, rfl, rfl, trivial⟩) (show ([4, 3, 0, 1, 2] : List Nat).Nodup by decide) ?_
        rw [Int.add_zero]
        exact ih (i + 1) n h (by omega) hs (hc.no (by rcases hv with q | q; omega; exact q.2)) (by omega) (by omega)
      · refine Z_go (f2 := (25, [(4, .int (Zi i)), (3, .int (Zi n)), (0, .ref 83), (1, .int (Zi k)), (2, .int (Zi m))], [.int (Zi 1), .int (Zi n)])) (fun _ => rfl) ?_
        refine Z_go (f2 := (29, [(4, .int (Zi i)), (3, .int (Zi n)), (0, .ref 83), (1, .int (Zi k)), (2, .int (Zi m))], [.int (Zi 1), .int (Zi n)])) (fun _ => rfl) ?_
        refine Z_iadd rfl ?_
        refine Z_go (f2 := (31, [(3, .int (Zi (n + 1))), (4, .int (Zi i)), (0, .ref 83), (1, .int (Zi k)), (2, .int (Zi m))], [])) (fun _ => rfl) ?_
        refine Z_iinc (L2 := [(4, .int (Zi (i + 1))), (3, .int (Zi (n + 1))), (0, .ref 83), (1, .int (Zi k)), (2, .int (Zi m))]) rfl rfl (by decide) rfl ?_
        refine Z_go (f2 := (5, [(4, .int (Zi (i + 1))), (3, .int (Zi (n + 1))), (0, .ref 83), (1, .int (Zi k)), (2, .int (Zi m))], [])) (fun _ => rfl) ?_
        refine B_loc (K := [(4, .int (Zi (i + 1))), (3, .int (Zi (n + 1))), (0, .ref 83), (1, .int (Zi k)), (2, .int (Zi m))]) (N_all_sub ⟨rfl, rfl, rfl, rfl, rfl, trivial⟩) (show ([4, 3, 0, 1, 2] : List Nat).Nodup by decide) ?_
        exact ih (i + 1) (n + 1) h (by omega) hs (hc.yes i0 (by rcases hv with q | q; exact q.2; omega)) (by omega) (by omega)
theorem R_os_2 {d : Nat} {h0 : E_H} {s : R_S} {sl : Nat} {Φ : E_R → Prop} {k m n : Int} (m0 : 0 ≤ m) (m1 : m < 90) (k0 : 0 ≤ k) (k1 : k < 44) (c8 : S_card (fun b => R_has s m b ∧ 0 ≤ b ∧ b < 256) 8) (kont : ∀ (u : R_S) (h : E_H), R_is h0 h u → R_vk s u (fun e => e = k) → u.2.1 96 k = 1 → R_EX u k (R_sbs (R_has s m) 256) → B_R (d + 1) E_m238 (141, [(3, .int (Zi n)), (0, .ref 83), (1, .int (Zi k)), (2, .int (Zi m))], []) h sl Φ) : ∀ (t : Nat) (i : Int) (u : R_S) (h : E_H), 256 - i < t → R_is h0 h u → R_vk s u (fun e => e = k) → u.2.1 96 k = 1 → R_EX u k (R_sbs (R_has s m) i) → 0 ≤ i → i ≤ 256 → B_R (d + 1) E_m238 (66, [(4, .int (Zi i)), (3, .int (Zi n)), (0, .ref 83), (1, .int (Zi k)), (2, .int (Zi m))], []) h sl Φ := by
  intro t
  induction t with
  | zero => intro i u h ht hs hk hf he i0 i1; omega
  | succ t ih =>
    intro i u h ht hs hk hf he i0 i1
    have eh : R_has u m i ↔ R_has s m i := by unfold R_has; rw [hk.1.2.1 93 (by decide)]
    have v0 := he.1.1
    have v1 := he.1.2.1
    have h8 : R_has s m i → i < 256 → u.2.1 97 k < 8 := fun q q2 => by
      by_cases c : u.2.1 97 k = 8
      · refine absurd ?_ (he.full c R_sbs_new)
        rw [R_sbs_yes i0 q]
        exact R_sbs_card c8 (by omega)
      · omega
    refine Z_go (f2 := (68, [(4, .int (Zi i)), (3, .int (Zi n)), (0, .ref 83), (1, .int (Zi k)), (2, .int (Zi m))], [.int (Zi i)])) (fun _ => rfl) ?_
    refine Z_go (f2 := (71, [(4, .int (Zi i)), (3, .int (Zi n)), (0, .ref 83), (1, .int (Zi k)), (2, .int (Zi m))], [.int (Zi 256), .int (Zi i)])) (fun _ => rfl) ?_
    refine Z_cge rfl rfl (by first | exact hs.zF _ | exact Zor_r _ _ | exact hs.zA _ _ | assumption | exact zA _ _ | exact zS _ | exact Zr_not (hs.zA _ _) | exact ⟨by omega, by omega⟩) (by first | exact hs.zF _ | exact Zor_r _ _ | exact hs.zA _ _ | assumption | exact zA _ _ | exact zS _ | exact Zr_not (hs.zA _ _) | exact ⟨by omega, by omega⟩) (fun c1 => ?_) (fun c1 => ?_)
    · refine B_loc (K := [(3, .int (Zi n)), (0, .ref 83), (1, .int (Zi k)), (2, .int (Zi m))]) (N_all_sub ⟨rfl, rfl, rfl, rfl, trivial⟩) (show ([3, 0, 1, 2] : List Nat).Nodup by decide) ?_
      obtain rfl : i = 256 := by omega
      exact kont u h hs hk hf he
    · refine Z_go (f2 := (75, [(4, .int (Zi i)), (3, .int (Zi n)), (0, .ref 83), (1, .int (Zi k)), (2, .int (Zi m))], [.ref 83])) (fun _ => rfl) ?_
      refine Z_go (f2 := (76, [(4, .int (Zi i)), (3, .int (Zi n)), (0, .ref 83), (1, .int (Zi k)), (2, .int (Zi m))], [.int (Zi m), .ref 83])) (fun _ => rfl) ?_
      refine Z_go (f2 := (78, [(4, .int (Zi i)), (3, .int (Zi n)), (0, .ref 83), (1, .int (Zi k)), (2, .int (Zi m))], [.int (Zi i), .int (Zi m), .ref 83])) (fun _ => rfl) ?_
      refine R_call (As := [.int (Zi m), .int (Zi i)]) (rest := []) rfl (by decide) rfl rfl rfl rfl (by decide +kernel) (Nat.le_of_ble_eq_true rfl) hs (R_has0 _ u ⟨by omega, by omega⟩ ⟨by omega, by omega⟩ m0 m1 i0 (by omega)) (fun x h s2 hs q => ?_)
      obtain ⟨q0, v, rfl, hv⟩ := q
      rw [q0] at hs
      have zv : Zr v := by rcases hv with q | q <;> exact ⟨by omega, by omega⟩
      show B_R _ _ (81, [(4, .int (Zi i)), (3, .int (Zi n)), (0, .ref 83), (1, .int (Zi k)), (2, .int (Zi m))], [.int (Zi v)]) _ _ _
      refine Z_ine rfl rfl (by first | exact hs.zF _ | exact Zor_r _ _ | exact hs.zA _ _ | assumption | exact zA _ _ | exact zS _ | exact Zr_not (hs.zA _ _) | exact ⟨by omega, by omega⟩) (fun c2 => ?_) (fun c2 => ?_)
      · have hi : R_has s m i := by rcases hv with q | q; exact eh.mp q.2; omega
        have h87 := h8 hi (by omega)
        refine Z_go (f2 := (88, [(4, .int (Zi i)), (3, .int (Zi n)), (0, .ref 83), (1, .int (Zi k)), (2, .int (Zi m))], [.ref 83])) (fun _ => rfl) ?_
        refine R_gr (q := 96) rfl hs rfl ?_
        show B_R _ _ (91, [(4, .int (Zi i)), (3, .int (Zi n)), (0, .ref 83), (1, .int (Zi k)), (2, .int (Zi m))], [.ref 98]) _ _ _
        refine Z_go (f2 := (93, [(4, .int (Zi i)), (3, .int (Zi n)), (0, .ref 83), (1, .int (Zi k)), (2, .int (Zi m))], [.int (Zi 8), .ref 98])) (fun _ => rfl) ?_
        refine Z_go (f2 := (94, [(4, .int (Zi i)), (3, .int (Zi n)), (0, .ref 83), (1, .int (Zi k)), (2, .int (Zi m))], [.int (Zi k), .int (Zi 8), .ref 98])) (fun _ => rfl) ?_
        refine Z_imul rfl ?_
        refine Z_go (f2 := (96, [(4, .int (Zi i)), (3, .int (Zi n)), (0, .ref 83), (1, .int (Zi k)), (2, .int (Zi m))], [.ref 83, .int (Zi (8 * k)), .ref 98])) (fun _ => rfl) ?_
        refine R_gr (q := 95) rfl hs rfl ?_
        show B_R _ _ (99, [(4, .int (Zi i)), (3, .int (Zi n)), (0, .ref 83), (1, .int (Zi k)), (2, .int (Zi m))], [.ref 97, .int (Zi (8 * k)), .ref 98]) _ _ _
        refine Z_go (f2 := (100, [(4, .int (Zi i)), (3, .int (Zi n)), (0, .ref 83), (1, .int (Zi k)), (2, .int (Zi m))], [.int (Zi k), .ref 97, .int (Zi (8 * k)), .ref 98])) (fun _ => rfl) ?_
        refine R_ia (q := 13) rfl hs rfl rfl (by omega) (by omega) (by decide) ?_
        refine Z_iadd rfl ?_
        refine Z_go (f2 := (103, [(4, .int (Zi i)), (3, .int (Zi n)), (0, .ref 83), (1, .int (Zi k)), (2, .int (Zi m))], [.int (Zi 1), .int (Zi (8 * k + (u.2.1 97 k))), .ref 98])) (fun _ => rfl) ?_
        refine R_is_ (q := 14) rfl hs rfl rfl (by omega) (by omega) (by decide) (by first | exact hs.zF _ | exact Zor_r _ _ | exact hs.zA _ _ | assumption | exact zA _ _ | exact zS _ | exact Zr_not (hs.zA _ _) | exact ⟨by omega, by omega⟩) (fun h hs => ?_)
        refine Z_go (f2 := (105, [(4, .int (Zi i)), (3, .int (Zi n)), (0, .ref 83), (1, .int (Zi k)), (2, .int (Zi m))], [.ref 83])) (fun _ => rfl) ?_
        refine R_gr (q := 97) rfl hs rfl ?_
        show B_R _ _ (108, [(4, .int (Zi i)), (3, .int (Zi n)), (0, .ref 83), (1, .int (Zi k)), (2, .int (Zi m))], [.ref 99]) _ _ _
        refine Z_go (f2 := (110, [(4, .int (Zi i)), (3, .int (Zi n)), (0, .ref 83), (1, .int (Zi k)), (2, .int (Zi m))], [.int (Zi 60), .ref 99])) (fun _ => rfl) ?_
        refine Z_go (f2 := (112, [(4, .int (Zi i)), (3, .int (Zi n)), (0, .ref 83), (1, .int (Zi k)), (2, .int (Zi m))], [.int (Zi 8), .int (Zi 60), .ref 99])) (fun _ => rfl) ?_
        refine Z_go (f2 := (113, [(4, .int (Zi i)), (3, .int (Zi n)), (0, .ref 83), (1, .int (Zi k)), (2, .int (Zi m))], [.int (Zi k), .int (Zi 8), .int (Zi 60), .ref 99])) (fun _ => rfl) ?_
        refine Z_imul rfl ?_
        refine Z_go (f2 := (115, [(4, .int (Zi i)), (3, .int (Zi n)), (0, .ref 83), (1, .int (Zi k)), (2, .int (Zi m))], [.ref 83, .int (Zi (8 * k)), .int (Zi 60), .ref 99])) (fun _ => rfl) ?_
        refine R_gr (q := 95) rfl hs rfl ?_
        show B_R _ _ (118, [(4, .int (Zi i)), (3, .int (Zi n)), (0, .ref 83), (1, .int (Zi k)), (2, .int (Zi m))], [.ref 97, .int (Zi (8 * k)), .int (Zi 60), .ref 99]) _ _ _
        refine Z_go (f2 := (119, [(4, .int (Zi i)), (3, .int (Zi n)), (0, .ref 83), (1, .int (Zi k)), (2, .int (Zi m))], [.int (Zi k), .ref 97, .int (Zi (8 * k)), .int (Zi 60), .ref 99])) (fun _ => rfl) ?_
        refine R_ia (q := 13) rfl hs rfl rfl (by omega) (by omega) (by decide) ?_
        rw [show (R_sA u 98 (8 * k + (u.2.1 97 k)) 1).2.1 97 k = u.2.1 97 k by first | rfl | simp [R_sA, R_sF, R_up2, R_fl, R_fL, R_sM, R_sL, R_p3, R_em]]; show B_R _ _ (120, [(4, .int (Zi i)), (3, .int (Zi n)), (0, .ref 83), (1, .int (Zi k)), (2, .int (Zi m))], [.int (Zi (u.2.1 97 k)), .int (Zi (8 * k)), .int (Zi 60), .ref 99]) _ _ _
        refine Z_iadd rfl ?_
        refine Z_imul rfl ?_
        refine Z_go (f2 := (124, [(4, .int (Zi i)), (3, .int (Zi n)), (0, .ref 83), (1, .int (Zi k)), (2, .int (Zi m))], [.int (Zi i), .int (Zi (60 * (8 * k + (u.2.1 97 k)))), .ref 99])) (fun _ => rfl) ?_
        refine R_is_ (q := 15) rfl hs rfl rfl (by omega) (by omega) (by decide) (by first | exact hs.zF _ | exact Zor_r _ _ | exact hs.zA _ _ | assumption | exact zA _ _ | exact zS _ | exact Zr_not (hs.zA _ _) | exact ⟨by omega, by omega⟩) (fun h hs => ?_)
        refine Z_go (f2 := (126, [(4, .int (Zi i)), (3, .int (Zi n)), (0, .ref 83), (1, .int (Zi k)), (2, .int (Zi m))], [.ref 83])) (fun _ => rfl) ?_
        refine R_gr (q := 95) rfl hs rfl ?_
        show B_R _ _ (129, [(4, .int (Zi i)), (3, .int (Zi n)), (0, .ref 83), (1, .int (Zi k)), (2, .int (Zi m))], [.ref 97]) _ _ _
        refine Z_go (f2 := (130, [(4, .int (Zi i)), (3, .int (Zi n)), (0, .ref 83), (1, .int (Zi k)), (2, .int (Zi m))], [.int (Zi k), .ref 97])) (fun _ => rfl) ?_
        refine Z_go (f2 := (131, [(4, .int (Zi i)), (3, .int (Zi n)), (0, .ref 83), (1, .int (Zi k)), (2, .int (Zi m))], [.int (Zi k), .ref 97, .int (Zi k), .ref 97])) (fun _ => rfl) ?_
        refine R_ia (q := 13) rfl hs rfl rfl (by omega) (by omega) (by decide) ?_
        rw [show (R_sA (R_sA u 98 (8 * k + (u.2.1 97 k)) 1) 99 (60 * (8 * k + (u.2.1 97 k))) i).2.1 97 k = u.2.1 97 k by first | rfl | simp [R_sA, R_sF, R_up2, R_fl, R_fL, R_sM, R_sL, R_p3, R_em]]; show B_R _ _ (132, [(4, .int (Zi i)), (3, .int (Zi n)), (0, .ref 83), (1, .int (Zi k)), (2, .int (Zi m))], [.int (Zi (u.2.1 97 k)), .int (Zi k), .ref 97]) _ _ _
        refine Z_go (f2 := (133, [(4, .int (Zi i)), (3, .int (Zi n)), (0, .ref 83), (1, .int (Zi k)), (2, .int (Zi m))], [.int (Zi 1), .int (Zi (u.2.1 97 k)), .int (Zi k), .ref 97])) (fun _ => rfl) ?_
        refine Z_iadd rfl ?_
        refine R_is_ (q := 13) rfl hs rfl rfl (by omega) (by omega) (by decide) (by first | exact hs.zF _ | exact Zor_r _ _ | exact hs.zA _ _ | assumption | exact zA _ _ | exact zS _ | exact Zr_not (hs.zA _ _) | exact ⟨by omega, by omega⟩) (fun h hs => ?_)
        refine Z_iinc (L2 := [(4, .int (Zi (i + 1))), (3, .int (Zi n)), (0, .ref 83), (1, .int (Zi k)), (2, .int (Zi m))]) rfl rfl (by decide) rfl ?_
        refine Z_go (f2 := (66, [(4, .int (Zi (i + 1))), (3, .int (Zi n)), (0, .ref 83), (1, .int (Zi k)), (2, .int (Zi m))], [])) (fun _ => rfl) ?_
        refine B_loc (K := [(4, .int (Zi (i + 1))), (3, .int (Zi n)), (0, .ref 83), (1, .int (Zi k)), (2, .int (Zi m))]) (N_all_sub ⟨rfl, rfl, rfl, rfl, rfl, trivial⟩) (show ([4, 3, 0, 1, 2] : List Nat).Nodup by decide) ?_
        have hs : R_is h0 h (R_osS u k i) := hs
        have he2 := R_osS_EX he (h8 hi (by omega)) i0 (by omega) R_sbs_new
        rw [R_sbs_yes i0 hi] at he2
        exact ih (i + 1) _ h (by omega) hs (R_osS_vk hk v0 (h8 hi (by omega))) (by unfold R_osS; rw [R_sA_n _ _ _ _ (by decide), R_sA_n _ _ _ _ (by decide), R_sA_n _ _ _ _ (by decide)]; exact hf) he2 (by omega) (by omega)
      · refine Z_go (f2 := (135, [(4, .int (Zi i)), (3, .int (Zi n)), (0, .ref 83), (1, .int (Zi k)), (2, .int (Zi m))], [])) (fun _ => rfl) ?_
        refine Z_iinc (L2 := [(4, .int (Zi (i + 1))), (3, .int (Zi n)), (0, .ref 83), (1, .int (Zi k)), (2, .int (Zi m))]) rfl rfl (by decide) rfl ?_
        refine Z_go (f2 := (66, [(4, .int (Zi (i + 1))), (3, .int (Zi n)), (0, .ref 83), (1, .int (Zi k)), (2, .int (Zi m))], [])) (fun _ => rfl) ?_
        refine B_loc (K := [(4, .int (Zi (i + 1))), (3, .int (Zi n)), (0, .ref 83), (1, .int (Zi k)), (2, .int (Zi m))]) (N_all_sub ⟨rfl, rfl, rfl, rfl, rfl, trivial⟩) (show ([4, 3, 0, 1, 2] : List Nat).Nodup by decide) ?_
        rw [R_sbs_no (fun q => by rcases hv with q2 | q2; omega; exact q2.2 (eh.mpr q))] at he
        exact ih (i + 1) u h (by omega) hs hk hf he (by omega) (by omega)
theorem R_ofSet (d : Nat) (s : R_S) {k m : Int} (zk : Zr k) (zm : Zr m) (k0 : 0 ≤ k) (k1 : k < 44) (m0 : 0 ≤ m) (m1 : m < 90) : R_ok (d + 2) 238 [.int (Zi k), .int (Zi m)] s (fun x s2 => x = none ∧ R_V s2 k (V_set (R_has s m)) ∧ R_vk s s2 (fun e => e = k)) := by
  refine R_enter (M := E_m238) rfl (Nat.le_of_ble_eq_true rfl) (fun h0 h hs => ?_)
  show B_R (d + 1) _ (0, [(0, .ref 83), (1, .int (Zi k)), (2, .int (Zi m))], []) _ _ _
  refine Z_go (f2 := (1, [(0, .ref 83), (1, .int (Zi k)), (2, .int (Zi m))], [.int (Zi 0)])) (fun _ => rfl) ?_
  refine Z_go (f2 := (2, [(3, .int (Zi 0)), (0, .ref 83), (1, .int (Zi k)), (2, .int (Zi m))], [])) (fun _ => rfl) ?_
  refine Z_go (f2 := (3, [(3, .int (Zi 0)), (0, .ref 83), (1, .int (Zi k)), (2, .int (Zi m))], [.int (Zi 0)])) (fun _ => rfl) ?_
  refine Z_go (f2 := (5, [(4, .int (Zi 0)), (3, .int (Zi 0)), (0, .ref 83), (1, .int (Zi k)), (2, .int (Zi m))], [])) (fun _ => rfl) ?_
  refine B_loc (K := [(4, .int (Zi 0)), (3, .int (Zi 0)), (0, .ref 83), (1, .int (Zi k)), (2, .int (Zi m))]) (N_all_sub ⟨rfl, rfl, rfl, rfl, rfl, trivial⟩) (show ([4, 3, 0, 1, 2] : List Nat).Nodup by decide) ?_
  refine R_os_1 m0 m1 (fun n h hs hc => ?_) 257 0 0 h (by omega) hs (R_ctd_0 s m) (by omega) (by omega)
  have hn := hc.nn
  have hn2 := hc.1
  have hcc := hc.card 8
  refine Z_go (f2 := (38, [(3, .int (Zi n)), (0, .ref 83), (1, .int (Zi k)), (2, .int (Zi m))], [.int (Zi n)])) (fun _ => rfl) ?_
  refine Z_go (f2 := (40, [(3, .int (Zi n)), (0, .ref 83), (1, .int (Zi k)), (2, .int (Zi m))], [.int (Zi 8), .int (Zi n)])) (fun _ => rfl) ?_
  refine Z_cle rfl rfl (by first | exact hs.zF _ | exact Zor_r _ _ | exact hs.zA _ _ | assumption | exact zA _ _ | exact zS _ | exact Zr_not (hs.zA _ _) | exact ⟨by omega, by omega⟩) (by first | exact hs.zF _ | exact Zor_r _ _ | exact hs.zA _ _ | assumption | exact zA _ _ | exact zS _ | exact Zr_not (hs.zA _ _) | exact ⟨by omega, by omega⟩) (fun c1 => ?_) (fun c1 => ?_)
  · refine Z_go (f2 := (50, [(3, .int (Zi n)), (0, .ref 83), (1, .int (Zi k)), (2, .int (Zi m))], [.ref 83])) (fun _ => rfl) ?_
    refine R_gr (q := 94) rfl hs rfl ?_
    show B_R _ _ (53, [(3, .int (Zi n)), (0, .ref 83), (1, .int (Zi k)), (2, .int (Zi m))], [.ref 96]) _ _ _
    refine Z_go (f2 := (54, [(3, .int (Zi n)), (0, .ref 83), (1, .int (Zi k)), (2, .int (Zi m))], [.int (Zi k), .ref 96])) (fun _ => rfl) ?_
    refine Z_go (f2 := (55, [(3, .int (Zi n)), (0, .ref 83), (1, .int (Zi k)), (2, .int (Zi m))], [.int (Zi 1), .int (Zi k), .ref 96])) (fun _ => rfl) ?_
    refine R_bs (q := 12) rfl hs rfl rfl (by omega) (by omega) (by decide) (by first | exact .inl rfl | exact .inr rfl | assumption) (fun h hs => ?_)
    refine Z_go (f2 := (57, [(3, .int (Zi n)), (0, .ref 83), (1, .int (Zi k)), (2, .int (Zi m))], [.ref 83])) (fun _ => rfl) ?_
    refine R_gr (q := 95) rfl hs rfl ?_
    show B_R _ _ (60, [(3, .int (Zi n)), (0, .ref 83), (1, .int (Zi k)), (2, .int (Zi m))], [.ref 97]) _ _ _
    refine Z_go (f2 := (61, [(3, .int (Zi n)), (0, .ref 83), (1, .int (Zi k)), (2, .int (Zi m))], [.int (Zi k), .ref 97])) (fun _ => rfl) ?_
    refine Z_go (f2 := (62, [(3, .int (Zi n)), (0, .ref 83), (1, .int (Zi k)), (2, .int (Zi m))], [.int (Zi 0), .int (Zi k), .ref 97])) (fun _ => rfl) ?_
    refine R_is_ (q := 13) rfl hs rfl rfl (by omega) (by omega) (by decide) (by first | exact hs.zF _ | exact Zor_r _ _ | exact hs.zA _ _ | assumption | exact zA _ _ | exact zS _ | exact Zr_not (hs.zA _ _) | exact ⟨by omega, by omega⟩) (fun h hs => ?_)
    refine Z_go (f2 := (64, [(3, .int (Zi n)), (0, .ref 83), (1, .int (Zi k)), (2, .int (Zi m))], [.int (Zi 0)])) (fun _ => rfl) ?_
    refine Z_go (f2 := (66, [(4, .int (Zi 0)), (3, .int (Zi n)), (0, .ref 83), (1, .int (Zi k)), (2, .int (Zi m))], [])) (fun _ => rfl) ?_
    refine B_loc (K := [(4, .int (Zi 0)), (3, .int (Zi n)), (0, .ref 83), (1, .int (Zi k)), (2, .int (Zi m))]) (N_all_sub ⟨rfl, rfl, rfl, rfl, rfl, trivial⟩) (show ([4, 3, 0, 1, 2] : List Nat).Nodup by decide) ?_
    refine R_os_2 (s := s) m0 m1 k0 k1 (hcc.mpr (by omega)) (fun u h hs hk hf he => ?_) 257 0 _ h (by omega) hs (((R_vk_0 s _).st (q := 96) (by decide) (by decide) (Int.ediv_one k)).st (q := 97) (by decide) (by decide) (Int.ediv_one k)) (by rw [R_sA_n _ _ _ _ (by decide), R_sA_s]) (by rw [R_sbs_0]; exact R_EX_no _ k) (by omega) (by omega)
    refine Z_ret rfl rfl ⟨_, hs, ?_, rfl⟩
    refine ⟨rfl, ?_, hk⟩
    unfold V_set
    rw [c_pos (hcc.mpr (by omega))]
    exact ⟨hf, he⟩
  · refine Z_go (f2 := (44, [(3, .int (Zi n)), (0, .ref 83), (1, .int (Zi k)), (2, .int (Zi m))], [.ref 83])) (fun _ => rfl) ?_
    refine Z_go (f2 := (45, [(3, .int (Zi n)), (0, .ref 83), (1, .int (Zi k)), (2, .int (Zi m))], [.int (Zi k), .ref 83])) (fun _ => rfl) ?_
    refine R_call (As := [.int (Zi k)]) (rest := []) rfl (by decide) rfl rfl rfl rfl (by decide +kernel) (Nat.le_of_ble_eq_true rfl) hs (R_shuts _ s ⟨by omega, by omega⟩ k0 k1) (fun x h s2 hs q => ?_)
    obtain ⟨rfl, q1, q2⟩ := q
    show B_R _ _ (48, [(3, .int (Zi n)), (0, .ref 83), (1, .int (Zi k)), (2, .int (Zi m))], []) _ _ _
    refine Z_ret rfl rfl ⟨_, hs, ?_, rfl⟩
    refine ⟨rfl, ?_, q2⟩
    unfold V_set
    rw [c_neg (fun q => by have := hcc.mp q; omega)]
    exact q1
