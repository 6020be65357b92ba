/-! the reference: texts behind texts -/
theorem D_row_app {A : Int → Int} {n m : Int} (n0 : 0 ≤ n) (m0 : 0 ≤ m) : D_row A (n + m) = D_row A n ++ D_row (fun j => A (n + j)) m := by
  unfold D_row
  rw [show (n + m).toNat = n.toNat + m.toNat by omega, List.range_add, List.map_append, List.map_map]
  refine congrArg _ (List.map_congr_left (fun i hi => ?_))
  show A ((n.toNat + i : Nat) : Int) = A (n + (i : Int))
  exact congrArg A (by omega)
/-- u is s, but the texts of the slot 40, whether it is exact, and what is gathered -/
def R_j40 (s u : R_S) : Prop := R_only [96, 97, 98, 99, 112] s u ∧ (∀ j, j ≠ 40 → u.2.1 96 j = s.2.1 96 j) ∧ (∀ j, j ≠ 40 → u.2.1 97 j = s.2.1 97 j) ∧ (∀ j, ¬ (320 ≤ j ∧ j < 328) → u.2.1 98 j = s.2.1 98 j) ∧ (∀ j, ¬ (19200 ≤ j ∧ j < 19680) → u.2.1 99 j = s.2.1 99 j)
theorem R_j40_0 (s : R_S) : R_j40 s s := ⟨R_only_0 _ _, fun _ _ => rfl, fun _ _ => rfl, fun _ _ => rfl, fun _ _ => rfl⟩
theorem R_j40.trans {s u w : R_S} (h : R_j40 s u) (g : R_j40 u w) : R_j40 s w := ⟨h.1.trans g.1, fun j hj => by rw [g.2.1 j hj, h.2.1 j hj], fun j hj => by rw [g.2.2.1 j hj, h.2.2.1 j hj], fun j hj => by rw [g.2.2.2.1 j hj, h.2.2.2.1 j hj], fun j hj => by rw [g.2.2.2.2 j hj, h.2.2.2.2 j hj]⟩
theorem R_m40.j {s u : R_S} (h : R_m40 s u) : R_j40 s u := ⟨h.1.up (by simp), fun j _ => h.1.2.1 96 j (by simp), h.2.1, h.2.2.1, h.2.2.2⟩
theorem R_only_112 {s : R_S} (lo hi : Int) (g : Int → Int) : R_j40 s (R_fl s 112 lo hi g) := ⟨⟨rfl, fun q j hq => R_fl_n (fun e => hq (by rw [e]; simp)) j, rfl⟩, fun j _ => R_fl_n (by decide) j, fun j _ => R_fl_n (by decide) j, fun j _ => R_fl_n (by decide) j, fun j _ => R_fl_n (by decide) j⟩
theorem R_EX_112 {s : R_S} {k lo hi : Int} {g : Int → Int} {A : P_X} (h : R_EX s k A) : R_EX (R_fl s 112 lo hi g) k A := by
  have e : ∀ q j, q ≠ 112 → (R_fl s 112 lo hi g).2.1 q j = s.2.1 q j := fun q j hq => R_fl_n hq j
  have er : ∀ t, R_trow (R_fl s 112 lo hi g) k t = R_trow s k t := fun t => D_row_eq (e 98 _ (by decide)) (fun i _ _ => e 99 _ (by decide))
  obtain ⟨⟨v0, v1, v2⟩, ds, mem⟩ := h
  refine ⟨⟨by rw [e 97 _ (by decide)]; exact v0, by rw [e 97 _ (by decide)]; exact v1, fun t t0 t1 => ?_⟩, fun t c t0 tc c1 => ?_, fun x => ?_⟩
  · rw [e 97 _ (by decide)] at t1
    rw [e 98 _ (by decide)]
    have hv := v2 t t0 t1
    exact ⟨hv.1, hv.2.1, fun i i0 i1 => by rw [e 99 _ (by decide)]; exact hv.2.2 i i0 i1⟩
  · rw [e 97 _ (by decide)] at c1
    rw [er, er]
    exact ds t c t0 tc c1
  · rw [mem, e 97 _ (by decide)]
    simp only [er]
/-- another slot's texts stay -/
theorem R_tv_j40 {s u : R_S} {k : Int} (h : R_j40 s u) (k0 : k ≠ 40) (hv : R_tv s k) : R_tv u k ∧ u.2.1 97 k = s.2.1 97 k ∧ (∀ t, 0 ≤ t → t < s.2.1 97 k → u.2.1 98 (8 * k + t) = s.2.1 98 (8 * k + t)) ∧ (∀ t, 0 ≤ t → t < s.2.1 97 k → R_trow u k t = R_trow s k t) := by
  obtain ⟨v0, v1, v2⟩ := hv
  have e97 := h.2.2.1 k k0
  have e98 : ∀ t, 0 ≤ t → t < s.2.1 97 k → u.2.1 98 (8 * k + t) = s.2.1 98 (8 * k + t) := fun t t0 t1 => h.2.2.2.1 _ (by omega)
  have e99 : ∀ t, 0 ≤ t → t < s.2.1 97 k → ∀ i, 0 ≤ i → i < 60 → u.2.1 99 (60 * (8 * k + t) + i) = s.2.1 99 (60 * (8 * k + t) + i) := fun t t0 t1 i i0 i1 => h.2.2.2.2 _ (by omega)
  refine ⟨⟨by rw [e97]; exact v0, by rw [e97]; exact v1, fun t t0 t1 => ?_⟩, e97, e98, fun t t0 t1 => ?_⟩
  · rw [e97] at t1
    rw [e98 t t0 t1]
    have hv := v2 t t0 t1
    exact ⟨hv.1, hv.2.1, fun i i0 i1 => by rw [e99 t t0 t1 i i0 (by omega)]; exact hv.2.2 i i0 i1⟩
  · have hv := v2 t t0 t1
    exact D_row_eq (e98 t t0 t1) (fun i i0 i1 => e99 t t0 t1 i i0 (by rw [e98 t t0 t1] at i1; omega))
/-- the pairs of texts done -/
def R_jp (s : R_S) (f g k j : Int) : P_X := fun x => (∃ a c, 0 ≤ a ∧ a < k ∧ 0 ≤ c ∧ c < s.2.1 97 g ∧ x = R_trow s f a ++ R_trow s g c) ∨ (∃ c, 0 ≤ c ∧ c < j ∧ x = R_trow s f k ++ R_trow s g c)
theorem R_jp_0 (s : R_S) (f g : Int) : R_jp s f g 0 0 = fun _ => False := funext (fun x => propext ⟨fun h => h.elim (fun ⟨a, c, a0, a1, _⟩ => by omega) (fun ⟨c, c0, c1, _⟩ => by omega), fun h => h.elim⟩)
theorem R_jp_j (s : R_S) (f g k : Int) {j : Int} (j0 : 0 ≤ j) : F_or (R_jp s f g k j) (F_one (R_trow s f k ++ R_trow s g j)) = R_jp s f g k (j + 1) := by
  funext x
  refine propext ⟨?_, ?_⟩
  · rintro ((h | ⟨c, c0, c1, h⟩) | h)
    · exact .inl h
    · exact .inr ⟨c, c0, by omega, h⟩
    · exact .inr ⟨j, j0, by omega, h⟩
  · rintro (h | ⟨c, c0, c1, h⟩)
    · exact .inl (.inl h)
    · by_cases e : c = j
      · exact .inr (by rw [← e]; exact h)
      · exact .inl (.inr ⟨c, c0, by omega, h⟩)
theorem R_jp_k (s : R_S) (f g : Int) {k : Int} (k0 : 0 ≤ k) : R_jp s f g k (s.2.1 97 g) = R_jp s f g (k + 1) 0 := by
  funext x
  refine propext ⟨?_, ?_⟩
  · rintro (⟨a, c, a0, a1, c0, c1, h⟩ | ⟨c, c0, c1, h⟩)
    · exact .inl ⟨a, c, a0, by omega, c0, c1, h⟩
    · exact .inl ⟨k, c, k0, by omega, c0, c1, h⟩
  · rintro (⟨a, c, a0, a1, c0, c1, h⟩ | ⟨c, c0, c1, h⟩)
    · by_cases e : a = k
      · exact .inr ⟨c, c0, c1, by rw [← e]; exact h⟩
      · exact .inl ⟨a, c, a0, by omega, c0, c1, h⟩
    · omega
theorem R_jp_im {s : R_S} {f g : Int} {A B : P_X} (hA : R_EX s f A) (hB : R_EX s g B) : R_jp s f g (s.2.1 97 f) 0 = F_im2 (fun a b => a ++ b) A B := by
  funext x
  refine propext ⟨?_, ?_⟩
  · rintro (⟨a, c, a0, a1, c0, c1, h⟩ | ⟨c, c0, c1, h⟩)
    · exact ⟨_, _, (hA.2.2 _).mpr ⟨a, a0, a1, rfl⟩, (hB.2.2 _).mpr ⟨c, c0, c1, rfl⟩, h⟩
    · omega
  · rintro ⟨x, y, hx, hy, h⟩
    obtain ⟨a, a0, a1, rfl⟩ := (hA.2.2 _).mp hx
    obtain ⟨c, c0, c1, rfl⟩ := (hB.2.2 _).mp hy
    exact .inl ⟨a, c, a0, a1, c0, c1, h⟩
theorem S_card_mono {α : Type} {A B : α → Prop} {n : Nat} (h : ∀ x, A x → B x) (hB : S_card B n) : S_card A n := by
  obtain ⟨l, h1, h2⟩ := hB
  exact ⟨l, h1, fun x hx => h2 x (h x hx)⟩
theorem R_j_nofit {s : R_S} {f g k j : Int} {A B : P_X} (hA : R_EX s f A) (hB : R_EX s g B) (k0 : 0 ≤ k) (k1 : k < s.2.1 97 f) (j0 : 0 ≤ j) (j1 : j < s.2.1 97 g) (h : 60 < s.2.1 98 (8 * f + k) + s.2.1 98 (8 * g + j) ∨ ¬ S_card (R_jp s f g k (j + 1)) 8) : ¬ F_fit (F_im2 (fun a b => a ++ b) A B) := by
  rintro ⟨c1, c2⟩
  rcases h with h | h
  · have := c2 (R_trow s f k ++ R_trow s g j) ⟨_, _, (hA.2.2 _).mpr ⟨k, k0, k1, rfl⟩, (hB.2.2 _).mpr ⟨j, j0, j1, rfl⟩, rfl⟩
    unfold R_trow at this
    rw [List.length_append, D_row_len, D_row_len] at this
    have v1 := (hA.1.2.2 k k0 k1).1
    have v2 := (hB.1.2.2 j j0 j1).1
    omega
  · refine h (S_card_mono (fun x hx => ?_) c1)
    rcases hx with ⟨a, c, a0, a1, c0, c1, hx⟩ | ⟨c, c0, c1, hx⟩
    · exact ⟨_, _, (hA.2.2 _).mpr ⟨a, a0, by omega, rfl⟩, (hB.2.2 _).mpr ⟨c, c0, c1, rfl⟩, hx⟩
    · exact ⟨_, _, (hA.2.2 _).mpr ⟨k, k0, k1, rfl⟩, (hB.2.2 _).mpr ⟨c, c0, by omega, rfl⟩, hx⟩
theorem R_jo_1 {d : Nat} {h0 : E_H} {s : R_S} {sl : Nat} {Φ : E_R → Prop} {f g k j n m : Int} (f0 : 0 ≤ f) (f1 : f < 44) (g0 : 0 ≤ g) (g1 : g < 44) (k0 : 0 ≤ k) (k1 : k < 8) (j0 : 0 ≤ j) (j1 : j < 8) (n1 : n ≤ 60) (m1 : m ≤ 60) (n0 : 0 ≤ n) (m0 : 0 ≤ m) (zA : ∀ q j, Zr (s.2.1 q j)) (kont : ∀ (h : E_H), R_is h0 h (R_fl s 112 0 n (fun x => s.2.1 99 (60 * (8 * f + k) + x))) → B_R (d + 1) E_m242 (92, [(7, .int (Zi n)), (6, .int (Zi m)), (5, .int (Zi j)), (4, .int (Zi n)), (3, .int (Zi k)), (0, .ref 83), (1, .int (Zi f)), (2, .int (Zi g))], []) h sl Φ) : ∀ (t : Nat) (i : Int) (h : E_H), n - i < t → R_is h0 h (R_fl s 112 0 i (fun x => s.2.1 99 (60 * (8 * f + k) + x))) → 0 ≤ i → i ≤ n → B_R (d + 1) E_m242 (64, [(7, .int (Zi i)), (6, .int (Zi m)), (5, .int (Zi j)), (4, .int (Zi n)), (3, .int (Zi k)), (0, .ref 83), (1, .int (Zi f)), (2, .int (Zi g))], []) h sl Φ := by
  intro t
  induction t with
  | zero => intro i h ht hs i0 i1; omega
  | succ t ih =>
    intro i h ht hs i0 i1
    refine Z_go (f2 := (66, [(7, .int (Zi i)), (6, .int (Zi m)), (5, .int (Zi j)), (4, .int (Zi n)), (3, .int (Zi k)), (0, .ref 83), (1, .int (Zi f)), (2, .int (Zi g))], [.int (Zi i)])) (fun _ => rfl) ?_
    refine Z_go (f2 := (68, [(7, .int (Zi i)), (6, .int (Zi m)), (5, .int (Zi j)), (4, .int (Zi n)), (3, .int (Zi k)), (0, .ref 83), (1, .int (Zi f)), (2, .int (Zi g))], [.int (Zi n), .int (Zi i)])) (fun _ => rfl) ?_
    refine Z_cge rfl rfl (by first | exact hs.zF _ | exact Zor_r _ _ | exact hs.zA _ _ | assumption | exact zA _ _ | exact zS _ | exact Zr_not (hs.zA _ _) | exact ⟨by omega, by omega⟩) (by first | exact hs.zF _ | exact Zor_r _ _ | exact hs.zA _ _ | assumption | exact zA _ _ | exact zS _ | exact Zr_not (hs.zA _ _) | exact ⟨by omega, by omega⟩) (fun c1 => ?_) (fun c1 => ?_)
    · obtain rfl : i = n := by omega
      exact kont h hs 
    · refine Z_go (f2 := (72, [(7, .int (Zi i)), (6, .int (Zi m)), (5, .int (Zi j)), (4, .int (Zi n)), (3, .int (Zi k)), (0, .ref 83), (1, .int (Zi f)), (2, .int (Zi g))], [.ref 83])) (fun _ => rfl) ?_
      refine R_gr (q := 110) rfl hs rfl ?_
      show B_R _ _ (75, [(7, .int (Zi i)), (6, .int (Zi m)), (5, .int (Zi j)), (4, .int (Zi n)), (3, .int (Zi k)), (0, .ref 83), (1, .int (Zi f)), (2, .int (Zi g))], [.ref 112]) _ _ _
      refine Z_go (f2 := (77, [(7, .int (Zi i)), (6, .int (Zi m)), (5, .int (Zi j)), (4, .int (Zi n)), (3, .int (Zi k)), (0, .ref 83), (1, .int (Zi f)), (2, .int (Zi g))], [.int (Zi i), .ref 112])) (fun _ => rfl) ?_
      refine Z_go (f2 := (78, [(7, .int (Zi i)), (6, .int (Zi m)), (5, .int (Zi j)), (4, .int (Zi n)), (3, .int (Zi k)), (0, .ref 83), (1, .int (Zi f)), (2, .int (Zi g))], [.ref 83, .int (Zi i), .ref 112])) (fun _ => rfl) ?_
      refine Z_go (f2 := (79, [(7, .int (Zi i)), (6, .int (Zi m)), (5, .int (Zi j)), (4, .int (Zi n)), (3, .int (Zi k)), (0, .ref 83), (1, .int (Zi f)), (2, .int (Zi g))], [.int (Zi f), .ref 83, .int (Zi i), .ref 112])) (fun _ => rfl) ?_
      refine Z_go (f2 := (80, [(7, .int (Zi i)), (6, .int (Zi m)), (5, .int (Zi j)), (4, .int (Zi n)), (3, .int (Zi k)), (0, .ref 83), (1, .int (Zi f)), (2, .int (Zi g))], [.int (Zi k), .int (Zi f), .ref 83, .int (Zi i), .ref 112])) (fun _ => rfl) ?_
      refine Z_go (f2 := (82, [(7, .int (Zi i)), (6, .int (Zi m)), (5, .int (Zi j)), (4, .int (Zi n)), (3, .int (Zi k)), (0, .ref 83), (1, .int (Zi f)), (2, .int (Zi g))], [.int (Zi i), .int (Zi k), .int (Zi f), .ref 83, .int (Zi i), .ref 112])) (fun _ => rfl) ?_
      refine R_call (As := [.int (Zi f), .int (Zi k), .int (Zi i)]) (rest := [.int (Zi i), .ref 112]) rfl (by decide) rfl rfl rfl rfl (by decide +kernel) (Nat.le_of_ble_eq_true rfl) hs (R_textByte _ (R_fl s 112 0 i (fun x => s.2.1 99 (60 * (8 * f + k) + x))) (by first | assumption | exact hs.zA _ _ | exact zA _ _ | exact ⟨by omega, by omega⟩) (by first | assumption | exact hs.zA _ _ | exact zA _ _ | exact ⟨by omega, by omega⟩) (by first | assumption | exact hs.zA _ _ | exact zA _ _ | exact ⟨by omega, by omega⟩) (by omega) (by omega)) (fun x h s2 hs q => ?_)
      obtain ⟨q0, v, rfl, q2⟩ := q
      rw [q0] at hs
      rw [q2, R_fl_n (by decide)]
      show B_R _ _ (85, [(7, .int (Zi i)), (6, .int (Zi m)), (5, .int (Zi j)), (4, .int (Zi n)), (3, .int (Zi k)), (0, .ref 83), (1, .int (Zi f)), (2, .int (Zi g))], [.int (Zi (s.2.1 99 (60 * (8 * f + k) + i))), .int (Zi i), .ref 112]) _ _ _
      refine R_is_ (q := 28) rfl hs rfl rfl (by omega) (by omega) (by decide) (by first | exact hs.zF _ | exact Zor_r _ _ | exact hs.zA _ _ | assumption | exact zA _ _ | exact zS _ | exact Zr_not (hs.zA _ _) | exact ⟨by omega, by omega⟩) (fun h hs => ?_)
      refine Z_iinc (L2 := [(7, .int (Zi (i + 1))), (6, .int (Zi m)), (5, .int (Zi j)), (4, .int (Zi n)), (3, .int (Zi k)), (0, .ref 83), (1, .int (Zi f)), (2, .int (Zi g))]) rfl rfl (by decide) rfl ?_
      refine Z_go (f2 := (64, [(7, .int (Zi (i + 1))), (6, .int (Zi m)), (5, .int (Zi j)), (4, .int (Zi n)), (3, .int (Zi k)), (0, .ref 83), (1, .int (Zi f)), (2, .int (Zi g))], [])) (fun _ => rfl) ?_
      refine B_loc (K := [(7, .int (Zi (i + 1))), (6, .int (Zi m)), (5, .int (Zi j)), (4, .int (Zi n)), (3, .int (Zi k)), (0, .ref 83), (1, .int (Zi f)), (2, .int (Zi g))]) (N_all_sub ⟨rfl, rfl, rfl, rfl, rfl, rfl, rfl, rfl, trivial⟩) (show ([7, 6, 5, 4, 3, 0, 1, 2] : List Nat).Nodup by decide) ?_
      rw [R_fl_st (by omega) rfl rfl] at hs
      exact ih _ _ (by omega) hs (by omega) (by omega)
theorem R_jo_2 {d : Nat} {h0 : E_H} {s : R_S} {sl : Nat} {Φ : E_R → Prop} {f g k j n m : Int} (f0 : 0 ≤ f) (f1 : f < 44) (g0 : 0 ≤ g) (g1 : g < 44) (k0 : 0 ≤ k) (k1 : k < 8) (j0 : 0 ≤ j) (j1 : j < 8) (n1 : n ≤ 60) (m1 : m ≤ 60) (n0 : 0 ≤ n) (m0 : 0 ≤ m) (zA : ∀ q j, Zr (s.2.1 q j)) (kont : ∀ (h : E_H), R_is h0 h (R_fl s 112 n (n + m) (fun x => s.2.1 99 (60 * (8 * g + j) + (x - n)))) → B_R (d + 1) E_m242 (127, [(7, .int (Zi m)), (6, .int (Zi m)), (5, .int (Zi j)), (4, .int (Zi n)), (3, .int (Zi k)), (0, .ref 83), (1, .int (Zi f)), (2, .int (Zi g))], []) h sl Φ) : ∀ (t : Nat) (i : Int) (h : E_H), m - i < t → R_is h0 h (R_fl s 112 n (n + i) (fun x => s.2.1 99 (60 * (8 * g + j) + (x - n)))) → 0 ≤ i → i ≤ m → B_R (d + 1) E_m242 (95, [(7, .int (Zi i)), (6, .int (Zi m)), (5, .int (Zi j)), (4, .int (Zi n)), (3, .int (Zi k)), (0, .ref 83), (1, .int (Zi f)), (2, .int (Zi g))], []) h sl Φ := by
  intro t
  induction t with
  | zero => intro i h ht hs i0 i1; omega
  | succ t ih =>
    intro i h ht hs i0 i1
    refine Z_go (f2 := (97, [(7, .int (Zi i)), (6, .int (Zi m)), (5, .int (Zi j)), (4, .int (Zi n)), (3, .int (Zi k)), (0, .ref 83), (1, .int (Zi f)), (2, .int (Zi g))], [.int (Zi i)])) (fun _ => rfl) ?_
    refine Z_go (f2 := (99, [(7, .int (Zi i)), (6, .int (Zi m)), (5, .int (Zi j)), (4, .int (Zi n)), (3, .int (Zi k)), (0, .ref 83), (1, .int (Zi f)), (2, .int (Zi g))], [.int (Zi m), .int (Zi i)])) (fun _ => rfl) ?_
    refine Z_cge rfl rfl (by first | exact hs.zF _ | exact Zor_r _ _ | exact hs.zA _ _ | assumption | exact zA _ _ | exact zS _ | exact Zr_not (hs.zA _ _) | exact ⟨by omega, by omega⟩) (by first | exact hs.zF _ | exact Zor_r _ _ | exact hs.zA _ _ | assumption | exact zA _ _ | exact zS _ | exact Zr_not (hs.zA _ _) | exact ⟨by omega, by omega⟩) (fun c1 => ?_) (fun c1 => ?_)
    · obtain rfl : i = m := by omega
      exact kont h hs 
    · refine Z_go (f2 := (103, [(7, .int (Zi i)), (6, .int (Zi m)), (5, .int (Zi j)), (4, .int (Zi n)), (3, .int (Zi k)), (0, .ref 83), (1, .int (Zi f)), (2, .int (Zi g))], [.ref 83])) (fun _ => rfl) ?_
      refine R_gr (q := 110) rfl hs rfl ?_
      show B_R _ _ (106, [(7, .int (Zi i)), (6, .int (Zi m)), (5, .int (Zi j)), (4, .int (Zi n)), (3, .int (Zi k)), (0, .ref 83), (1, .int (Zi f)), (2, .int (Zi g))], [.ref 112]) _ _ _
      refine Z_go (f2 := (108, [(7, .int (Zi i)), (6, .int (Zi m)), (5, .int (Zi j)), (4, .int (Zi n)), (3, .int (Zi k)), (0, .ref 83), (1, .int (Zi f)), (2, .int (Zi g))], [.int (Zi n), .ref 112])) (fun _ => rfl) ?_
      refine Z_go (f2 := (110, [(7, .int (Zi i)), (6, .int (Zi m)), (5, .int (Zi j)), (4, .int (Zi n)), (3, .int (Zi k)), (0, .ref 83), (1, .int (Zi f)), (2, .int (Zi g))], [.int (Zi i), .int (Zi n), .ref 112])) (fun _ => rfl) ?_
      refine Z_iadd rfl ?_
      refine Z_go (f2 := (112, [(7, .int (Zi i)), (6, .int (Zi m)), (5, .int (Zi j)), (4, .int (Zi n)), (3, .int (Zi k)), (0, .ref 83), (1, .int (Zi f)), (2, .int (Zi g))], [.ref 83, .int (Zi (n + i)), .ref 112])) (fun _ => rfl) ?_
      refine Z_go (f2 := (113, [(7, .int (Zi i)), (6, .int (Zi m)), (5, .int (Zi j)), (4, .int (Zi n)), (3, .int (Zi k)), (0, .ref 83), (1, .int (Zi f)), (2, .int (Zi g))], [.int (Zi g), .ref 83, .int (Zi (n + i)), .ref 112])) (fun _ => rfl) ?_
      refine Z_go (f2 := (115, [(7, .int (Zi i)), (6, .int (Zi m)), (5, .int (Zi j)), (4, .int (Zi n)), (3, .int (Zi k)), (0, .ref 83), (1, .int (Zi f)), (2, .int (Zi g))], [.int (Zi j), .int (Zi g), .ref 83, .int (Zi (n + i)), .ref 112])) (fun _ => rfl) ?_
      refine Z_go (f2 := (117, [(7, .int (Zi i)), (6, .int (Zi m)), (5, .int (Zi j)), (4, .int (Zi n)), (3, .int (Zi k)), (0, .ref 83), (1, .int (Zi f)), (2, .int (Zi g))], [.int (Zi i), .int (Zi j), .int (Zi g), .ref 83, .int (Zi (n + i)), .ref 112])) (fun _ => rfl) ?_
      refine R_call (As := [.int (Zi g), .int (Zi j), .int (Zi i)]) (rest := [.int (Zi (n + i)), .ref 112]) rfl (by decide) rfl rfl rfl rfl (by decide +kernel) (Nat.le_of_ble_eq_true rfl) hs (R_textByte _ (R_fl s 112 n (n + i) (fun x => s.2.1 99 (60 * (8 * g + j) + (x - n)))) (by first | assumption | exact hs.zA _ _ | exact zA _ _ | exact ⟨by omega, by omega⟩) (by first | assumption | exact hs.zA _ _ | exact zA _ _ | exact ⟨by omega, by omega⟩) (by first | assumption | exact hs.zA _ _ | exact zA _ _ | exact ⟨by omega, by omega⟩) (by omega) (by omega)) (fun x h s2 hs q => ?_)
      obtain ⟨q0, v, rfl, q2⟩ := q
      rw [q0] at hs
      rw [q2, R_fl_n (by decide)]
      show B_R _ _ (120, [(7, .int (Zi i)), (6, .int (Zi m)), (5, .int (Zi j)), (4, .int (Zi n)), (3, .int (Zi k)), (0, .ref 83), (1, .int (Zi f)), (2, .int (Zi g))], [.int (Zi (s.2.1 99 (60 * (8 * g + j) + i))), .int (Zi (n + i)), .ref 112]) _ _ _
      refine R_is_ (q := 28) rfl hs rfl rfl (by omega) (by omega) (by decide) (by first | exact hs.zF _ | exact Zor_r _ _ | exact hs.zA _ _ | assumption | exact zA _ _ | exact zS _ | exact Zr_not (hs.zA _ _) | exact ⟨by omega, by omega⟩) (fun h hs => ?_)
      refine Z_iinc (L2 := [(7, .int (Zi (i + 1))), (6, .int (Zi m)), (5, .int (Zi j)), (4, .int (Zi n)), (3, .int (Zi k)), (0, .ref 83), (1, .int (Zi f)), (2, .int (Zi g))]) rfl rfl (by decide) rfl ?_
      refine Z_go (f2 := (95, [(7, .int (Zi (i + 1))), (6, .int (Zi m)), (5, .int (Zi j)), (4, .int (Zi n)), (3, .int (Zi k)), (0, .ref 83), (1, .int (Zi f)), (2, .int (Zi g))], [])) (fun _ => rfl) ?_
      refine B_loc (K := [(7, .int (Zi (i + 1))), (6, .int (Zi m)), (5, .int (Zi j)), (4, .int (Zi n)), (3, .int (Zi k)), (0, .ref 83), (1, .int (Zi f)), (2, .int (Zi g))]) (N_all_sub ⟨rfl, rfl, rfl, rfl, rfl, rfl, rfl, rfl, trivial⟩) (show ([7, 6, 5, 4, 3, 0, 1, 2] : List Nat).Nodup by decide) ?_
      rw [R_fl_st (by omega) rfl (by show _ = s.2.1 99 _; exact congrArg (s.2.1 99) (by omega))] at hs
      exact ih _ _ (by omega) (by rw [← Int.add_assoc]; exact hs) (by omega) (by omega)
