/-! the reference sorts its row (Shell), and makes a set of it -/
def D_same (A B : Int → Int) (n : Int) : Prop := ∀ x, D_in A n x ↔ D_in B n x
def D_up (A : Int → Int) (p v : Int) : Int → Int := fun j => if j = p then v else A j
/-- u is s, but for the row of grams -/
def R_row (s u : R_S) : Prop := u.1 = s.1 ∧ (∀ q j, q ≠ 89 → u.2.1 q j = s.2.1 q j) ∧ u.2.2 = s.2.2
theorem R_row_st {s u : R_S} (h : R_row s u) (p v : Int) : R_row s (R_sA u 89 p v) := by
  refine ⟨h.1, fun q j hq => ?_, h.2.2⟩
  show R_up2 u.2.1 89 p v q j = _
  unfold R_up2
  rw [if_neg (fun e => hq e.1)]
  exact h.2.1 q j hq
theorem R_row_up (u : R_S) (p v : Int) : (R_sA u 89 p v).2.1 89 = D_up (u.2.1 89) p v := by
  funext j
  show R_up2 u.2.1 89 p v 89 j = _
  unfold R_up2 D_up
  by_cases h : j = p
  · rw [if_pos ⟨rfl, h⟩, if_pos h]
  · rw [if_neg (fun e => h e.2), if_neg h]
theorem D_up_s (A : Int → Int) (p v : Int) : D_up A p v p = v := by unfold D_up; rw [if_pos rfl]
theorem D_up_n (A : Int → Int) {p v j : Int} (h : j ≠ p) : D_up A p v j = A j := by unfold D_up; rw [if_neg h]
theorem D_up_id (A : Int → Int) (p : Int) : D_up A p (A p) = A := by
  funext j
  unfold D_up
  split
  · rename_i e
    rw [e]
  · rfl
/-- the hole goes from p to q -/
theorem D_same_sw {A C : Int → Int} {n p q v : Int} (p0 : 0 ≤ p) (p1 : p < n) (q0 : 0 ≤ q) (q1 : q < n) (pq : p ≠ q) (h : D_same (D_up A p v) C n) : D_same (D_up (D_up A p (A q)) q v) C n := by
  intro x
  rw [← h x]
  constructor
  · rintro ⟨i, a, b, e⟩
    by_cases iq : i = q
    · rw [iq, D_up_s] at e
      exact ⟨p, p0, p1, by rw [D_up_s]; exact e⟩
    · rw [D_up_n _ iq] at e
      by_cases ip : i = p
      · rw [ip, D_up_s] at e
        exact ⟨q, q0, q1, by rw [D_up_n _ (fun z => pq z.symm)]; exact e⟩
      · rw [D_up_n _ ip] at e
        exact ⟨i, a, b, by rw [D_up_n _ ip]; exact e⟩
  · rintro ⟨i, a, b, e⟩
    by_cases ip : i = p
    · rw [ip, D_up_s] at e
      exact ⟨q, q0, q1, by rw [D_up_s]; exact e⟩
    · rw [D_up_n _ ip] at e
      by_cases iq : i = q
      · exact ⟨p, p0, p1, by rw [D_up_n _ pq, D_up_s, ← iq]; exact e⟩
      · exact ⟨i, a, b, by rw [D_up_n _ iq, D_up_n _ ip]; exact e⟩
/-- sorted up to k, but for the hole p, where v belongs; all behind it are greater -/
def D_hole (A : Int → Int) (p k v : Int) : Prop := (∀ i j, 0 ≤ i → i < j → j ≤ k → i ≠ p → j ≠ p → A i ≤ A j) ∧ (∀ j, p < j → j ≤ k → v < A j)
def D_asc (A : Int → Int) (n : Int) : Prop := ∀ i j, 0 ≤ i → i < j → j < n → A i ≤ A j
theorem D_hole_go {A : Int → Int} {p k v : Int} (h : D_hole A p k v) (p1 : 1 ≤ p) (pk : p ≤ k) (c : v < A (p - 1)) : D_hole (D_up A p (A (p - 1))) (p - 1) k v := by
  refine ⟨fun i j a b d e f => ?_, fun j a b => ?_⟩
  · by_cases ip : i = p
    · rw [ip, D_up_s, D_up_n _ (by omega)]
      exact h.1 _ _ (by omega) (by omega) d (by omega) (by omega)
    · rw [D_up_n _ ip]
      by_cases jp : j = p
      · rw [jp, D_up_s]
        exact h.1 _ _ a (by omega) (by omega) ip (by omega)
      · rw [D_up_n _ jp]
        exact h.1 _ _ a b d ip jp
  · by_cases jp : j = p
    · rw [jp, D_up_s]
      exact c
    · rw [D_up_n _ jp]
      exact h.2 j (by omega) b
theorem D_hole_fin {A : Int → Int} {p k v : Int} (h : D_hole A p k v) (p0 : 0 ≤ p) (pk : p ≤ k) (c : p = 0 ∨ A (p - 1) ≤ v) : D_asc (D_up A p v) (k + 1) := by
  intro i j a b d
  by_cases ip : i = p
  · rw [ip, D_up_s, D_up_n _ (by omega)]
    have := h.2 j (by omega) (by omega)
    omega
  · rw [D_up_n _ ip]
    by_cases jp : j = p
    · rw [jp, D_up_s]
      by_cases e : i = p - 1
      · rw [e]
        omega
      · have := h.1 i (p - 1) a (by omega) (by omega) ip (by omega)
        omega
    · rw [D_up_n _ jp]
      exact h.1 i j a b (by omega) ip jp
theorem D_hole_in {A : Int → Int} {k : Int} (h : D_asc A k) : D_hole A k k (A k) := ⟨fun i j a b c d e => h i j a b (by omega), fun j a b => by omega⟩
theorem R_sort_in {d : Nat} {h0 : E_H} {s : R_S} {sl : Nat} {Φ : E_R → Prop} {n g k v : Int} {C : Int → Int} (zv : Zr v) (g1 : 1 ≤ g) (g2 : g ≤ 16000) (k1 : k < n) (n1 : n ≤ 16000) (kont : ∀ (p : Int) (u : R_S) (h : E_H), R_is h0 h u → R_row s u → 0 ≤ p → p ≤ k → D_same (D_up (u.2.1 89) p v) C n → (g = 1 → D_asc (D_up (u.2.1 89) p v) (k + 1)) → B_R d E_m187 (87, [(5, .int (Zi p)), (4, .int (Zi v)), (3, .int (Zi k)), (2, .int (Zi g)), (0, .ref 83), (1, .int (Zi n))], []) h sl Φ) : ∀ (t : Nat) (p : Int) (u : R_S) (h : E_H), p < t → R_is h0 h u → R_row s u → 0 ≤ p → p ≤ k → D_same (D_up (u.2.1 89) p v) C n → (g = 1 → D_hole (u.2.1 89) p k v) → B_R d E_m187 (42, [(5, .int (Zi p)), (4, .int (Zi v)), (3, .int (Zi k)), (2, .int (Zi g)), (0, .ref 83), (1, .int (Zi n))], []) h sl Φ := by
  intro t
  induction t with
  | zero => intro p u h ht hs hu p0; omega
  | succ t ih =>
    intro p u h ht hs hu p0 p1 hd hh
    refine Z_go (f2 := (44, [(5, .int (Zi p)), (4, .int (Zi v)), (3, .int (Zi k)), (2, .int (Zi g)), (0, .ref 83), (1, .int (Zi n))], [.int (Zi p)])) (fun _ => rfl) ?_
    refine Z_go (f2 := (45, [(5, .int (Zi p)), (4, .int (Zi v)), (3, .int (Zi k)), (2, .int (Zi g)), (0, .ref 83), (1, .int (Zi n))], [.int (Zi g), .int (Zi p)])) (fun _ => rfl) ?_
    refine Z_clt rfl rfl (by first | exact hs.zF _ | exact Zor_r _ _ | exact hs.zA _ _ | assumption | exact zS _ | exact Zr_not (hs.zA _ _) | exact ⟨by omega, by omega⟩) (by first | exact hs.zF _ | exact Zor_r _ _ | exact hs.zA _ _ | assumption | exact zS _ | exact Zr_not (hs.zA _ _) | exact ⟨by omega, by omega⟩) (fun c1 => ?_) (fun c1 => ?_)
    · exact kont p u h hs hu p0 p1 hd (fun e => D_hole_fin (hh e) p0 p1 (.inl (by omega)))
    · refine Z_go (f2 := (49, [(5, .int (Zi p)), (4, .int (Zi v)), (3, .int (Zi k)), (2, .int (Zi g)), (0, .ref 83), (1, .int (Zi n))], [.ref 83])) (fun _ => rfl) ?_
      refine R_gr (q := 87) rfl hs rfl ?_
      show B_R _ _ (52, [(5, .int (Zi p)), (4, .int (Zi v)), (3, .int (Zi k)), (2, .int (Zi g)), (0, .ref 83), (1, .int (Zi n))], [.ref 89]) _ _ _
      refine Z_go (f2 := (54, [(5, .int (Zi p)), (4, .int (Zi v)), (3, .int (Zi k)), (2, .int (Zi g)), (0, .ref 83), (1, .int (Zi n))], [.int (Zi p), .ref 89])) (fun _ => rfl) ?_
      refine Z_go (f2 := (55, [(5, .int (Zi p)), (4, .int (Zi v)), (3, .int (Zi k)), (2, .int (Zi g)), (0, .ref 83), (1, .int (Zi n))], [.int (Zi g), .int (Zi p), .ref 89])) (fun _ => rfl) ?_
      refine Z_isub rfl ?_
      refine R_ia (q := 5) rfl hs rfl rfl (by omega) (by omega) (by decide) ?_
      refine Z_go (f2 := (59, [(5, .int (Zi p)), (4, .int (Zi v)), (3, .int (Zi k)), (2, .int (Zi g)), (0, .ref 83), (1, .int (Zi n))], [.int (Zi v), .int (Zi (u.2.1 89 (p - g)))])) (fun _ => rfl) ?_
      refine Z_cle rfl rfl (by first | exact hs.zF _ | exact Zor_r _ _ | exact hs.zA _ _ | assumption | exact zS _ | exact Zr_not (hs.zA _ _) | exact ⟨by omega, by omega⟩) (by first | exact hs.zF _ | exact Zor_r _ _ | exact hs.zA _ _ | assumption | exact zS _ | exact Zr_not (hs.zA _ _) | exact ⟨by omega, by omega⟩) (fun c2 => ?_) (fun c2 => ?_)
      · exact kont p u h hs hu p0 p1 hd (fun e => D_hole_fin (hh e) p0 p1 (.inr (by rw [e] at c2; exact c2)))
      · refine Z_go (f2 := (63, [(5, .int (Zi p)), (4, .int (Zi v)), (3, .int (Zi k)), (2, .int (Zi g)), (0, .ref 83), (1, .int (Zi n))], [.ref 83])) (fun _ => rfl) ?_
        refine R_gr (q := 87) rfl hs rfl ?_
        show B_R _ _ (66, [(5, .int (Zi p)), (4, .int (Zi v)), (3, .int (Zi k)), (2, .int (Zi g)), (0, .ref 83), (1, .int (Zi n))], [.ref 89]) _ _ _
        refine Z_go (f2 := (68, [(5, .int (Zi p)), (4, .int (Zi v)), (3, .int (Zi k)), (2, .int (Zi g)), (0, .ref 83), (1, .int (Zi n))], [.int (Zi p), .ref 89])) (fun _ => rfl) ?_
        refine Z_go (f2 := (69, [(5, .int (Zi p)), (4, .int (Zi v)), (3, .int (Zi k)), (2, .int (Zi g)), (0, .ref 83), (1, .int (Zi n))], [.ref 83, .int (Zi p), .ref 89])) (fun _ => rfl) ?_
        refine R_gr (q := 87) rfl hs rfl ?_
        show B_R _ _ (72, [(5, .int (Zi p)), (4, .int (Zi v)), (3, .int (Zi k)), (2, .int (Zi g)), (0, .ref 83), (1, .int (Zi n))], [.ref 89, .int (Zi p), .ref 89]) _ _ _
        refine Z_go (f2 := (74, [(5, .int (Zi p)), (4, .int (Zi v)), (3, .int (Zi k)), (2, .int (Zi g)), (0, .ref 83), (1, .int (Zi n))], [.int (Zi p), .ref 89, .int (Zi p), .ref 89])) (fun _ => rfl) ?_
        refine Z_go (f2 := (75, [(5, .int (Zi p)), (4, .int (Zi v)), (3, .int (Zi k)), (2, .int (Zi g)), (0, .ref 83), (1, .int (Zi n))], [.int (Zi g), .int (Zi p), .ref 89, .int (Zi p), .ref 89])) (fun _ => rfl) ?_
        refine Z_isub rfl ?_
        refine R_ia (q := 5) rfl hs rfl rfl (by omega) (by omega) (by decide) ?_
        refine R_is_ (q := 5) rfl hs rfl rfl (by omega) (by omega) (by decide) (by first | exact hs.zF _ | exact Zor_r _ _ | exact hs.zA _ _ | assumption | exact zS _ | exact Zr_not (hs.zA _ _) | exact ⟨by omega, by omega⟩) (fun h hs => ?_)
        refine Z_go (f2 := (80, [(5, .int (Zi p)), (4, .int (Zi v)), (3, .int (Zi k)), (2, .int (Zi g)), (0, .ref 83), (1, .int (Zi n))], [.int (Zi p)])) (fun _ => rfl) ?_
        refine Z_go (f2 := (81, [(5, .int (Zi p)), (4, .int (Zi v)), (3, .int (Zi k)), (2, .int (Zi g)), (0, .ref 83), (1, .int (Zi n))], [.int (Zi g), .int (Zi p)])) (fun _ => rfl) ?_
        refine Z_isub rfl ?_
        refine Z_go (f2 := (84, [(5, .int (Zi (p - g))), (4, .int (Zi v)), (3, .int (Zi k)), (2, .int (Zi g)), (0, .ref 83), (1, .int (Zi n))], [])) (fun _ => rfl) ?_
        refine Z_go (f2 := (42, [(5, .int (Zi (p - g))), (4, .int (Zi v)), (3, .int (Zi k)), (2, .int (Zi g)), (0, .ref 83), (1, .int (Zi n))], [])) (fun _ => rfl) ?_
        refine B_loc (K := [(5, .int (Zi (p - g))), (4, .int (Zi v)), (3, .int (Zi k)), (2, .int (Zi g)), (0, .ref 83), (1, .int (Zi n))]) (N_all_sub ⟨rfl, rfl, rfl, rfl, rfl, rfl, trivial⟩) (show ([5, 4, 3, 2, 0, 1] : List Nat).Nodup by decide) ?_
        exact ih _ _ _ (by omega) hs (R_row_st hu _ _) (by omega) (by omega) (by rw [R_row_up]; exact D_same_sw p0 (by omega) (by omega) (by omega) (by omega) hd) (fun e => by rw [R_row_up]; subst e; exact D_hole_go (hh rfl) (by omega) p1 c2)
theorem D_asc_up {A : Int → Int} {n : Int} (h : D_asc A n) {m : Int} (hm : m ≤ n) : D_asc A m := fun i j a b c => h i j a b (by omega)
theorem R_sort_k {d : Nat} {h0 : E_H} {s : R_S} {sl : Nat} {Φ : E_R → Prop} {n g : Int} {C : Int → Int} (g1 : 1 ≤ g) (g2 : g ≤ 16000) (n0 : 0 ≤ n) (n1 : n ≤ 16000) (kont : ∀ (k : Int) (u : R_S) (h : E_H), R_is h0 h u → R_row s u → D_same (u.2.1 89) C n → (g = 1 → D_asc (u.2.1 89) n) → B_R d E_m187 (102, [(3, .int (Zi k)), (2, .int (Zi g)), (0, .ref 83), (1, .int (Zi n))], []) h sl Φ) : ∀ (t : Nat) (k : Int) (u : R_S) (h : E_H), n - k < t → R_is h0 h u → R_row s u → g ≤ k → k ≤ n ∨ k = g → D_same (u.2.1 89) C n → (g = 1 → D_asc (u.2.1 89) k) → B_R d E_m187 (26, [(3, .int (Zi k)), (2, .int (Zi g)), (0, .ref 83), (1, .int (Zi n))], []) h sl Φ := by
  intro t
  induction t with
  | zero =>
    intro k u h ht hs hu k0 k1 hd ha
    refine Z_go (f2 := (27, [(3, .int (Zi k)), (2, .int (Zi g)), (0, .ref 83), (1, .int (Zi n))], [.int (Zi k)])) (fun _ => rfl) ?_
    refine Z_go (f2 := (28, [(3, .int (Zi k)), (2, .int (Zi g)), (0, .ref 83), (1, .int (Zi n))], [.int (Zi n), .int (Zi k)])) (fun _ => rfl) ?_
    refine Z_cge rfl rfl (by first | exact hs.zF _ | exact Zor_r _ _ | exact hs.zA _ _ | assumption | exact zS _ | exact Zr_not (hs.zA _ _) | exact ⟨by omega, by omega⟩) (by first | exact hs.zF _ | exact Zor_r _ _ | exact hs.zA _ _ | assumption | exact zS _ | exact Zr_not (hs.zA _ _) | exact ⟨by omega, by omega⟩) (fun c1 => ?_) (fun c1 => ?_)
    · exact kont k u h hs hu hd (fun e => D_asc_up (ha e) (by omega))
    · exfalso; omega
  | succ t ih =>
    intro k u h ht hs hu k0 k1 hd ha
    refine Z_go (f2 := (27, [(3, .int (Zi k)), (2, .int (Zi g)), (0, .ref 83), (1, .int (Zi n))], [.int (Zi k)])) (fun _ => rfl) ?_
    refine Z_go (f2 := (28, [(3, .int (Zi k)), (2, .int (Zi g)), (0, .ref 83), (1, .int (Zi n))], [.int (Zi n), .int (Zi k)])) (fun _ => rfl) ?_
    refine Z_cge rfl rfl (by first | exact hs.zF _ | exact Zor_r _ _ | exact hs.zA _ _ | assumption | exact zS _ | exact Zr_not (hs.zA _ _) | exact ⟨by omega, by omega⟩) (by first | exact hs.zF _ | exact Zor_r _ _ | exact hs.zA _ _ | assumption | exact zS _ | exact Zr_not (hs.zA _ _) | exact ⟨by omega, by omega⟩) (fun c1 => ?_) (fun c1 => ?_)
    · exact kont k u h hs hu hd (fun e => D_asc_up (ha e) (by omega))
    · refine Z_go (f2 := (32, [(3, .int (Zi k)), (2, .int (Zi g)), (0, .ref 83), (1, .int (Zi n))], [.ref 83])) (fun _ => rfl) ?_
      refine R_gr (q := 87) rfl hs rfl ?_
      show B_R _ _ (35, [(3, .int (Zi k)), (2, .int (Zi g)), (0, .ref 83), (1, .int (Zi n))], [.ref 89]) _ _ _
      refine Z_go (f2 := (36, [(3, .int (Zi k)), (2, .int (Zi g)), (0, .ref 83), (1, .int (Zi n))], [.int (Zi k), .ref 89])) (fun _ => rfl) ?_
      refine R_ia (q := 5) rfl hs rfl rfl (by omega) (by omega) (by decide) ?_
      refine Z_go (f2 := (39, [(4, .int (Zi (u.2.1 89 k))), (3, .int (Zi k)), (2, .int (Zi g)), (0, .ref 83), (1, .int (Zi n))], [])) (fun _ => rfl) ?_
      refine Z_go (f2 := (40, [(4, .int (Zi (u.2.1 89 k))), (3, .int (Zi k)), (2, .int (Zi g)), (0, .ref 83), (1, .int (Zi n))], [.int (Zi k)])) (fun _ => rfl) ?_
      refine Z_go (f2 := (42, [(5, .int (Zi k)), (4, .int (Zi (u.2.1 89 k))), (3, .int (Zi k)), (2, .int (Zi g)), (0, .ref 83), (1, .int (Zi n))], [])) (fun _ => rfl) ?_
      have zv := hs.zA 89 k
      have hv := D_up_id (u.2.1 89) k
      have hh := fun e => D_hole_in (ha e)
      generalize u.2.1 89 k = v at zv hv hh ⊢
      refine R_sort_in (v := v) zv g1 g2 c1 n1 (fun p u h hs hu p0 p1 hd ha => ?_) (k.toNat + 1) k u h (by omega) hs hu (by omega) (by omega) (by rw [hv]; exact hd) hh
      refine Z_go (f2 := (88, [(5, .int (Zi p)), (4, .int (Zi v)), (3, .int (Zi k)), (2, .int (Zi g)), (0, .ref 83), (1, .int (Zi n))], [.ref 83])) (fun _ => rfl) ?_
      refine R_gr (q := 87) rfl hs rfl ?_
      show B_R _ _ (91, [(5, .int (Zi p)), (4, .int (Zi v)), (3, .int (Zi k)), (2, .int (Zi g)), (0, .ref 83), (1, .int (Zi n))], [.ref 89]) _ _ _
      refine Z_go (f2 := (93, [(5, .int (Zi p)), (4, .int (Zi v)), (3, .int (Zi k)), (2, .int (Zi g)), (0, .ref 83), (1, .int (Zi n))], [.int (Zi p), .ref 89])) (fun _ => rfl) ?_
      refine Z_go (f2 := (95, [(5, .int (Zi p)), (4, .int (Zi v)), (3, .int (Zi k)), (2, .int (Zi g)), (0, .ref 83), (1, .int (Zi n))], [.int (Zi v), .int (Zi p), .ref 89])) (fun _ => rfl) ?_
      refine R_is_ (q := 5) rfl hs rfl rfl (by omega) (by omega) (by decide) (by first | exact hs.zF _ | exact Zor_r _ _ | exact hs.zA _ _ | assumption | exact zS _ | exact Zr_not (hs.zA _ _) | exact ⟨by omega, by omega⟩) (fun h hs => ?_)
      refine Z_iinc (L2 := [(3, .int (Zi (k + 1))), (5, .int (Zi p)), (4, .int (Zi v)), (2, .int (Zi g)), (0, .ref 83), (1, .int (Zi n))]) rfl rfl (by decide) rfl ?_
      refine Z_go (f2 := (26, [(3, .int (Zi (k + 1))), (5, .int (Zi p)), (4, .int (Zi v)), (2, .int (Zi g)), (0, .ref 83), (1, .int (Zi n))], [])) (fun _ => rfl) ?_
      refine B_loc (K := [(3, .int (Zi (k + 1))), (2, .int (Zi g)), (0, .ref 83), (1, .int (Zi n))]) (N_all_sub ⟨rfl, rfl, rfl, rfl, trivial⟩) (show ([3, 2, 0, 1] : List Nat).Nodup by decide) ?_
      exact ih _ _ _ (by omega) hs (R_row_st hu _ _) (by omega) (by omega) (by rw [R_row_up]; exact hd) (fun e => by rw [R_row_up]; exact ha e)
def R_gap (g : Int) : Prop := g = 1 ∨ g = 4 ∨ g = 13 ∨ g = 40 ∨ g = 121 ∨ g = 364 ∨ g = 1093 ∨ g = 3280 ∨ g = 9841
theorem R_sort_g {d : Nat} {h0 : E_H} {s : R_S} {sl : Nat} {Φ : E_R → Prop} {n : Int} {C : Int → Int} (n0 : 0 ≤ n) (n1 : n ≤ 16000) (kont : ∀ (g : Int) (u : R_S) (h : E_H), R_is h0 h u → R_row s u → D_same (u.2.1 89) C n → D_asc (u.2.1 89) n → B_R d E_m187 (109, [(2, .int (Zi g)), (0, .ref 83), (1, .int (Zi n))], []) h sl Φ) : ∀ (t : Nat) (g : Int) (u : R_S) (h : E_H), g < t → R_is h0 h u → R_row s u → (R_gap g ∨ g = 0) → D_same (u.2.1 89) C n → (g = 0 → D_asc (u.2.1 89) n) → B_R d E_m187 (20, [(2, .int (Zi g)), (0, .ref 83), (1, .int (Zi n))], []) h sl Φ := by
  intro t
  induction t with
  | zero => intro g u h ht hs hu hg; unfold R_gap at hg; omega
  | succ t ih =>
    intro g u h ht hs hu hg hd ha
    have hg2 : 0 ≤ g ∧ g ≤ 9841 := by unfold R_gap at hg; omega
    refine Z_go (f2 := (21, [(2, .int (Zi g)), (0, .ref 83), (1, .int (Zi n))], [.int (Zi g)])) (fun _ => rfl) ?_
    refine Z_ile rfl rfl (by first | exact hs.zF _ | exact Zor_r _ _ | exact hs.zA _ _ | assumption | exact zS _ | exact Zr_not (hs.zA _ _) | exact ⟨by omega, by omega⟩) (fun c1 => ?_) (fun c1 => ?_)
    · exact kont g u h hs hu hd (ha (by omega))
    · refine Z_go (f2 := (25, [(2, .int (Zi g)), (0, .ref 83), (1, .int (Zi n))], [.int (Zi g)])) (fun _ => rfl) ?_
      refine Z_go (f2 := (26, [(3, .int (Zi g)), (2, .int (Zi g)), (0, .ref 83), (1, .int (Zi n))], [])) (fun _ => rfl) ?_
      refine R_sort_k (by omega) (by omega) n0 n1 (fun k u h hs hu hd ha2 => ?_) ((n - g).toNat + 1) g u h (by omega) hs hu (by omega) (.inr rfl) hd (fun e i j a b c => by omega)
      refine Z_go (f2 := (103, [(3, .int (Zi k)), (2, .int (Zi g)), (0, .ref 83), (1, .int (Zi n))], [.int (Zi g)])) (fun _ => rfl) ?_
      refine Z_go (f2 := (104, [(3, .int (Zi k)), (2, .int (Zi g)), (0, .ref 83), (1, .int (Zi n))], [.int (Zi 3), .int (Zi g)])) (fun _ => rfl) ?_
      refine Z_idiv rfl (by omega) (by omega) (by omega) (by omega) ?_
      refine Z_go (f2 := (106, [(2, .int (Zi (g / 3))), (3, .int (Zi k)), (0, .ref 83), (1, .int (Zi n))], [])) (fun _ => rfl) ?_
      refine Z_go (f2 := (20, [(2, .int (Zi (g / 3))), (3, .int (Zi k)), (0, .ref 83), (1, .int (Zi n))], [])) (fun _ => rfl) ?_
      refine B_loc (K := [(2, .int (Zi (g / 3))), (0, .ref 83), (1, .int (Zi n))]) (N_all_sub ⟨rfl, rfl, rfl, trivial⟩) (show ([2, 0, 1] : List Nat).Nodup by decide) ?_
      exact ih _ _ _ (by omega) hs hu (by unfold R_gap at hg ⊢; omega) hd (fun e => ha2 (by unfold R_gap at hg; omega))
theorem R_sort_f {d : Nat} {h0 h : E_H} {s : R_S} {sl : Nat} {Φ : E_R → Prop} {n : Int} (hs : R_is h0 h s) (n0 : 0 ≤ n) (n1 : n ≤ 16000) (kont : ∀ (g : Int), R_gap g → B_R d E_m187 (20, [(2, .int (Zi g)), (0, .ref 83), (1, .int (Zi n))], []) h sl Φ) : ∀ (t : Nat) (g : Int), n - g < t → R_gap g → B_R d E_m187 (2, [(2, .int (Zi g)), (0, .ref 83), (1, .int (Zi n))], []) h sl Φ := by
  intro t
  induction t with
  | zero =>
    intro g ht hg
    have hg2 : 1 ≤ g ∧ g ≤ 9841 := by unfold R_gap at hg; omega
    refine Z_go (f2 := (3, [(2, .int (Zi g)), (0, .ref 83), (1, .int (Zi n))], [.int (Zi 3)])) (fun _ => rfl) ?_
    refine Z_go (f2 := (4, [(2, .int (Zi g)), (0, .ref 83), (1, .int (Zi n))], [.int (Zi g), .int (Zi 3)])) (fun _ => rfl) ?_
    refine Z_imul rfl ?_
    refine Z_go (f2 := (6, [(2, .int (Zi g)), (0, .ref 83), (1, .int (Zi n))], [.int (Zi 1), .int (Zi (3 * g))])) (fun _ => rfl) ?_
    refine Z_iadd rfl ?_
    refine Z_go (f2 := (8, [(2, .int (Zi g)), (0, .ref 83), (1, .int (Zi n))], [.int (Zi n), .int (Zi (3 * g + 1))])) (fun _ => rfl) ?_
    refine Z_cge rfl rfl (by first | exact hs.zF _ | exact Zor_r _ _ | exact hs.zA _ _ | assumption | exact zS _ | exact Zr_not (hs.zA _ _) | exact ⟨by omega, by omega⟩) (by first | exact hs.zF _ | exact Zor_r _ _ | exact hs.zA _ _ | assumption | exact zS _ | exact Zr_not (hs.zA _ _) | exact ⟨by omega, by omega⟩) (fun c1 => ?_) (fun c1 => ?_)
    · exact kont g hg
    · exfalso; omega
  | succ t ih =>
    intro g ht hg
    have hg2 : 1 ≤ g ∧ g ≤ 9841 := by unfold R_gap at hg; omega
    refine Z_go (f2 := (3, [(2, .int (Zi g)), (0, .ref 83), (1, .int (Zi n))], [.int (Zi 3)])) (fun _ => rfl) ?_
    refine Z_go (f2 := (4, [(2, .int (Zi g)), (0, .ref 83), (1, .int (Zi n))], [.int (Zi g), .int (Zi 3)])) (fun _ => rfl) ?_
    refine Z_imul rfl ?_
    refine Z_go (f2 := (6, [(2, .int (Zi g)), (0, .ref 83), (1, .int (Zi n))], [.int (Zi 1), .int (Zi (3 * g))])) (fun _ => rfl) ?_
    refine Z_iadd rfl ?_
    refine Z_go (f2 := (8, [(2, .int (Zi g)), (0, .ref 83), (1, .int (Zi n))], [.int (Zi n), .int (Zi (3 * g + 1))])) (fun _ => rfl) ?_
    refine Z_cge rfl rfl (by first | exact hs.zF _ | exact Zor_r _ _ | exact hs.zA _ _ | assumption | exact zS _ | exact Zr_not (hs.zA _ _) | exact ⟨by omega, by omega⟩) (by first | exact hs.zF _ | exact Zor_r _ _ | exact hs.zA _ _ | assumption | exact zS _ | exact Zr_not (hs.zA _ _) | exact ⟨by omega, by omega⟩) (fun c1 => ?_) (fun c1 => ?_)
    · exact kont g hg
    · refine Z_go (f2 := (12, [(2, .int (Zi g)), (0, .ref 83), (1, .int (Zi n))], [.int (Zi 3)])) (fun _ => rfl) ?_
      refine Z_go (f2 := (13, [(2, .int (Zi g)), (0, .ref 83), (1, .int (Zi n))], [.int (Zi g), .int (Zi 3)])) (fun _ => rfl) ?_
      refine Z_imul rfl ?_
      refine Z_go (f2 := (15, [(2, .int (Zi g)), (0, .ref 83), (1, .int (Zi n))], [.int (Zi 1), .int (Zi (3 * g))])) (fun _ => rfl) ?_
      refine Z_iadd rfl ?_
      refine Z_go (f2 := (17, [(2, .int (Zi (3 * g + 1))), (0, .ref 83), (1, .int (Zi n))], [])) (fun _ => rfl) ?_
      refine Z_go (f2 := (2, [(2, .int (Zi (3 * g + 1))), (0, .ref 83), (1, .int (Zi n))], [])) (fun _ => rfl) ?_
      exact ih _ (by omega) (by unfold R_gap at hg ⊢; omega)
/-- the first k of the ascending S, each once, are the first m of B -/
def D_ded (S B : Int → Int) (k m : Int) : Prop := 0 ≤ m ∧ m ≤ k ∧ D_srt B m ∧ (∀ x, D_in B m x ↔ D_in S k x) ∧ (∀ j, k ≤ j → B j = S j) ∧ (0 < k → 0 < m ∧ B (m - 1) = S (k - 1))
theorem D_in_succ {A : Int → Int} {k x : Int} (h : 0 ≤ k) : D_in A (k + 1) x ↔ D_in A k x ∨ A k = x := by
  constructor
  · rintro ⟨i, a, b, e⟩
    by_cases c : i = k
    · exact .inr (by rw [← c]; exact e)
    · exact .inl ⟨i, a, by omega, e⟩
  · rintro (⟨i, a, b, e⟩ | e)
    · exact ⟨i, a, by omega, e⟩
    · exact ⟨k, h, by omega, e⟩
theorem D_ded_0 (S : Int → Int) : D_ded S S 0 0 := ⟨by omega, by omega, fun i j a b c => by omega, fun x => Iff.rfl, fun j a => rfl, fun a => by omega⟩
theorem D_ded_skip {S B : Int → Int} {k m : Int} (h : D_ded S B k m) (hm : 0 < m) (e : B (m - 1) = B k) : D_ded S B (k + 1) m := by
  obtain ⟨h1, h2, h3, h4, h5, h6⟩ := h
  refine ⟨h1, by omega, h3, fun x => ?_, fun j a => h5 j (by omega), fun _ => ⟨hm, ?_⟩⟩
  · rw [D_in_succ (by omega), h4]
    constructor
    · exact .inl
    · rintro (q | q)
      · exact q
      · rw [← h4]
        exact ⟨m - 1, by omega, by omega, by rw [e, h5 k (by omega)]; exact q⟩
  · rw [e, h5 k (by omega)]
    congr 1
    omega
theorem D_ded_add {S B : Int → Int} {k m n : Int} (ha : D_asc S n) (hk : k < n) (h : D_ded S B k m) (e : m = 0 ∨ B (m - 1) ≠ B k) : D_ded S (D_up B m (B k)) (k + 1) (m + 1) := by
  obtain ⟨h1, h2, h3, h4, h5, h6⟩ := h
  have hk0 := h5 k (by omega)
  have hlt : ∀ i, 0 ≤ i → i < m → B i < B k := by
    intro i a b
    have e1 := D_srt_le h3 a (show i ≤ m - 1 by omega) (by omega)
    obtain ⟨h7, h8⟩ := h6 (by omega)
    have e2 := ha (k - 1) k (by omega) (by omega) hk
    have e3 : B (m - 1) ≠ B k := e.resolve_left (by omega)
    omega
  refine ⟨by omega, by omega, fun i j a b c => ?_, fun x => ?_, fun j a => ?_, fun _ => ⟨by omega, ?_⟩⟩
  · rw [D_up_n _ (show i ≠ m by omega)]
    by_cases jm : j = m
    · rw [jm, D_up_s]
      exact hlt i a (by omega)
    · rw [D_up_n _ jm]
      exact h3 i j a b (by omega)
  · rw [D_in_succ h1, D_in_succ (by omega), D_up_s, hk0, ← h4]
    have : D_in (D_up B m (S k)) m x ↔ D_in B m x := by
      constructor
      · rintro ⟨i, a, b, e⟩
        exact ⟨i, a, b, by rw [D_up_n _ (by omega)] at e; exact e⟩
      · rintro ⟨i, a, b, e⟩
        exact ⟨i, a, b, by rw [D_up_n _ (by omega)]; exact e⟩
    rw [this]
  · rw [D_up_n _ (by omega)]
    exact h5 j (by omega)
  · rw [show m + 1 - 1 = m by omega, D_up_s, hk0]
    congr 1
    omega
theorem R_sort_d {d : Nat} {h0 : E_H} {s : R_S} {sl : Nat} {Φ : E_R → Prop} {n g : Int} {S : Int → Int} (n0 : 0 ≤ n) (n1 : n ≤ 16000) (ha : D_asc S n) (kont : ∀ (k m : Int) (u : R_S) (h : E_H), R_is h0 h u → R_row s u → D_ded S (u.2.1 89) n m → B_R d E_m187 (167, [(4, .int (Zi k)), (3, .int (Zi m)), (2, .int (Zi g)), (0, .ref 83), (1, .int (Zi n))], []) h sl Φ) : ∀ (t : Nat) (k m : Int) (u : R_S) (h : E_H), n - k < t → R_is h0 h u → R_row s u → 0 ≤ k → k ≤ n → D_ded S (u.2.1 89) k m → B_R d E_m187 (114, [(4, .int (Zi k)), (3, .int (Zi m)), (2, .int (Zi g)), (0, .ref 83), (1, .int (Zi n))], []) h sl Φ := by
  intro t
  induction t with
  | zero => intro k m u h ht hs hu k0 k1 hd; omega
  | succ t ih =>
    intro k m u h ht hs hu k0 k1 hd
    obtain ⟨d1, d2, d3, d4, d5, d6⟩ := id hd
    refine Z_go (f2 := (116, [(4, .int (Zi k)), (3, .int (Zi m)), (2, .int (Zi g)), (0, .ref 83), (1, .int (Zi n))], [.int (Zi k)])) (fun _ => rfl) ?_
    refine Z_go (f2 := (117, [(4, .int (Zi k)), (3, .int (Zi m)), (2, .int (Zi g)), (0, .ref 83), (1, .int (Zi n))], [.int (Zi n), .int (Zi k)])) (fun _ => rfl) ?_
    refine Z_cge rfl rfl (by first | exact hs.zF _ | exact Zor_r _ _ | exact hs.zA _ _ | assumption | exact zS _ | exact Zr_not (hs.zA _ _) | exact ⟨by omega, by omega⟩) (by first | exact hs.zF _ | exact Zor_r _ _ | exact hs.zA _ _ | assumption | exact zS _ | exact Zr_not (hs.zA _ _) | exact ⟨by omega, by omega⟩) (fun c1 => ?_) (fun c1 => ?_)
    · have e : k = n := by omega
      subst e
      exact kont k m u h hs hu hd
    · refine Z_go (f2 := (121, [(4, .int (Zi k)), (3, .int (Zi m)), (2, .int (Zi g)), (0, .ref 83), (1, .int (Zi n))], [.int (Zi m)])) (fun _ => rfl) ?_
      refine Z_ile rfl rfl (by first | exact hs.zF _ | exact Zor_r _ _ | exact hs.zA _ _ | assumption | exact zS _ | exact Zr_not (hs.zA _ _) | exact ⟨by omega, by omega⟩) (fun c2 => ?_) (fun c2 => ?_)
      · refine Z_go (f2 := (146, [(4, .int (Zi k)), (3, .int (Zi m)), (2, .int (Zi g)), (0, .ref 83), (1, .int (Zi n))], [.ref 83])) (fun _ => rfl) ?_
        refine R_gr (q := 87) rfl hs rfl ?_
        show B_R _ _ (149, [(4, .int (Zi k)), (3, .int (Zi m)), (2, .int (Zi g)), (0, .ref 83), (1, .int (Zi n))], [.ref 89]) _ _ _
        refine Z_go (f2 := (150, [(4, .int (Zi k)), (3, .int (Zi m)), (2, .int (Zi g)), (0, .ref 83), (1, .int (Zi n))], [.int (Zi m), .ref 89])) (fun _ => rfl) ?_
        refine Z_go (f2 := (151, [(4, .int (Zi k)), (3, .int (Zi m)), (2, .int (Zi g)), (0, .ref 83), (1, .int (Zi n))], [.ref 83, .int (Zi m), .ref 89])) (fun _ => rfl) ?_
        refine R_gr (q := 87) rfl hs rfl ?_
        show B_R _ _ (154, [(4, .int (Zi k)), (3, .int (Zi m)), (2, .int (Zi g)), (0, .ref 83), (1, .int (Zi n))], [.ref 89, .int (Zi m), .ref 89]) _ _ _
        refine Z_go (f2 := (156, [(4, .int (Zi k)), (3, .int (Zi m)), (2, .int (Zi g)), (0, .ref 83), (1, .int (Zi n))], [.int (Zi k), .ref 89, .int (Zi m), .ref 89])) (fun _ => rfl) ?_
        refine R_ia (q := 5) rfl hs rfl rfl (by omega) (by omega) (by decide) ?_
        refine R_is_ (q := 5) rfl hs rfl rfl (by omega) (by omega) (by decide) (by first | exact hs.zF _ | exact Zor_r _ _ | exact hs.zA _ _ | assumption | exact zS _ | exact Zr_not (hs.zA _ _) | exact ⟨by omega, by omega⟩) (fun h hs => ?_)
        refine Z_iinc (L2 := [(3, .int (Zi (m + 1))), (4, .int (Zi k)), (2, .int (Zi g)), (0, .ref 83), (1, .int (Zi n))]) rfl rfl (by decide) rfl ?_
        refine Z_iinc (L2 := [(4, .int (Zi (k + 1))), (3, .int (Zi (m + 1))), (2, .int (Zi g)), (0, .ref 83), (1, .int (Zi n))]) rfl rfl (by decide) rfl ?_
        refine Z_go (f2 := (114, [(4, .int (Zi (k + 1))), (3, .int (Zi (m + 1))), (2, .int (Zi g)), (0, .ref 83), (1, .int (Zi n))], [])) (fun _ => rfl) ?_
        refine B_loc (K := [(4, .int (Zi (k + 1))), (3, .int (Zi (m + 1))), (2, .int (Zi g)), (0, .ref 83), (1, .int (Zi n))]) (N_all_sub ⟨rfl, rfl, rfl, rfl, rfl, trivial⟩) (show ([4, 3, 2, 0, 1] : List Nat).Nodup by decide) ?_
        exact ih _ _ _ _ (by omega) hs (R_row_st hu _ _) (by omega) (by omega) (by rw [R_row_up]; exact D_ded_add ha (by omega) hd (.inl (by omega)))
      · refine Z_go (f2 := (125, [(4, .int (Zi k)), (3, .int (Zi m)), (2, .int (Zi g)), (0, .ref 83), (1, .int (Zi n))], [.ref 83])) (fun _ => rfl) ?_
        refine R_gr (q := 87) rfl hs rfl ?_
        show B_R _ _ (128, [(4, .int (Zi k)), (3, .int (Zi m)), (2, .int (Zi g)), (0, .ref 83), (1, .int (Zi n))], [.ref 89]) _ _ _
        refine Z_go (f2 := (129, [(4, .int (Zi k)), (3, .int (Zi m)), (2, .int (Zi g)), (0, .ref 83), (1, .int (Zi n))], [.int (Zi m), .ref 89])) (fun _ => rfl) ?_
        refine Z_go (f2 := (130, [(4, .int (Zi k)), (3, .int (Zi m)), (2, .int (Zi g)), (0, .ref 83), (1, .int (Zi n))], [.int (Zi 1), .int (Zi m), .ref 89])) (fun _ => rfl) ?_
        refine Z_isub rfl ?_
        refine R_ia (q := 5) rfl hs rfl rfl (by omega) (by omega) (by decide) ?_
        refine Z_go (f2 := (133, [(4, .int (Zi k)), (3, .int (Zi m)), (2, .int (Zi g)), (0, .ref 83), (1, .int (Zi n))], [.ref 83, .int (Zi (u.2.1 89 (m - 1)))])) (fun _ => rfl) ?_
        refine R_gr (q := 87) rfl hs rfl ?_
        show B_R _ _ (136, [(4, .int (Zi k)), (3, .int (Zi m)), (2, .int (Zi g)), (0, .ref 83), (1, .int (Zi n))], [.ref 89, .int (Zi (u.2.1 89 (m - 1)))]) _ _ _
        refine Z_go (f2 := (138, [(4, .int (Zi k)), (3, .int (Zi m)), (2, .int (Zi g)), (0, .ref 83), (1, .int (Zi n))], [.int (Zi k), .ref 89, .int (Zi (u.2.1 89 (m - 1)))])) (fun _ => rfl) ?_
        refine R_ia (q := 5) rfl hs rfl rfl (by omega) (by omega) (by decide) ?_
        refine Z_cne rfl rfl (by first | exact hs.zF _ | exact Zor_r _ _ | exact hs.zA _ _ | assumption | exact zS _ | exact Zr_not (hs.zA _ _) | exact ⟨by omega, by omega⟩) (by first | exact hs.zF _ | exact Zor_r _ _ | exact hs.zA _ _ | assumption | exact zS _ | exact Zr_not (hs.zA _ _) | exact ⟨by omega, by omega⟩) (fun c3 => ?_) (fun c3 => ?_)
        · refine Z_go (f2 := (146, [(4, .int (Zi k)), (3, .int (Zi m)), (2, .int (Zi g)), (0, .ref 83), (1, .int (Zi n))], [.ref 83])) (fun _ => rfl) ?_
          refine R_gr (q := 87) rfl hs rfl ?_
          show B_R _ _ (149, [(4, .int (Zi k)), (3, .int (Zi m)), (2, .int (Zi g)), (0, .ref 83), (1, .int (Zi n))], [.ref 89]) _ _ _
          refine Z_go (f2 := (150, [(4, .int (Zi k)), (3, .int (Zi m)), (2, .int (Zi g)), (0, .ref 83), (1, .int (Zi n))], [.int (Zi m), .ref 89])) (fun _ => rfl) ?_
          refine Z_go (f2 := (151, [(4, .int (Zi k)), (3, .int (Zi m)), (2, .int (Zi g)), (0, .ref 83), (1, .int (Zi n))], [.ref 83, .int (Zi m), .ref 89])) (fun _ => rfl) ?_
          refine R_gr (q := 87) rfl hs rfl ?_
          show B_R _ _ (154, [(4, .int (Zi k)), (3, .int (Zi m)), (2, .int (Zi g)), (0, .ref 83), (1, .int (Zi n))], [.ref 89, .int (Zi m), .ref 89]) _ _ _
          refine Z_go (f2 := (156, [(4, .int (Zi k)), (3, .int (Zi m)), (2, .int (Zi g)), (0, .ref 83), (1, .int (Zi n))], [.int (Zi k), .ref 89, .int (Zi m), .ref 89])) (fun _ => rfl) ?_
          refine R_ia (q := 5) rfl hs rfl rfl (by omega) (by omega) (by decide) ?_
          refine R_is_ (q := 5) rfl hs rfl rfl (by omega) (by omega) (by decide) (by first | exact hs.zF _ | exact Zor_r _ _ | exact hs.zA _ _ | assumption | exact zS _ | exact Zr_not (hs.zA _ _) | exact ⟨by omega, by omega⟩) (fun h hs => ?_)
          refine Z_iinc (L2 := [(3, .int (Zi (m + 1))), (4, .int (Zi k)), (2, .int (Zi g)), (0, .ref 83), (1, .int (Zi n))]) rfl rfl (by decide) rfl ?_
          refine Z_iinc (L2 := [(4, .int (Zi (k + 1))), (3, .int (Zi (m + 1))), (2, .int (Zi g)), (0, .ref 83), (1, .int (Zi n))]) rfl rfl (by decide) rfl ?_
          refine Z_go (f2 := (114, [(4, .int (Zi (k + 1))), (3, .int (Zi (m + 1))), (2, .int (Zi g)), (0, .ref 83), (1, .int (Zi n))], [])) (fun _ => rfl) ?_
          refine B_loc (K := [(4, .int (Zi (k + 1))), (3, .int (Zi (m + 1))), (2, .int (Zi g)), (0, .ref 83), (1, .int (Zi n))]) (N_all_sub ⟨rfl, rfl, rfl, rfl, rfl, trivial⟩) (show ([4, 3, 2, 0, 1] : List Nat).Nodup by decide) ?_
          exact ih _ _ _ _ (by omega) hs (R_row_st hu _ _) (by omega) (by omega) (by rw [R_row_up]; exact D_ded_add ha (by omega) hd (.inr (by assumption)))
        · refine Z_go (f2 := (161, [(4, .int (Zi k)), (3, .int (Zi m)), (2, .int (Zi g)), (0, .ref 83), (1, .int (Zi n))], [])) (fun _ => rfl) ?_
          refine Z_iinc (L2 := [(4, .int (Zi (k + 1))), (3, .int (Zi m)), (2, .int (Zi g)), (0, .ref 83), (1, .int (Zi n))]) rfl rfl (by decide) rfl ?_
          refine Z_go (f2 := (114, [(4, .int (Zi (k + 1))), (3, .int (Zi m)), (2, .int (Zi g)), (0, .ref 83), (1, .int (Zi n))], [])) (fun _ => rfl) ?_
          refine B_loc (K := [(4, .int (Zi (k + 1))), (3, .int (Zi m)), (2, .int (Zi g)), (0, .ref 83), (1, .int (Zi n))]) (N_all_sub ⟨rfl, rfl, rfl, rfl, rfl, trivial⟩) (show ([4, 3, 2, 0, 1] : List Nat).Nodup by decide) ?_
          exact ih _ _ _ _ (by omega) hs hu (by omega) (by omega) (D_ded_skip hd (by omega) (by assumption))
theorem R_sorted (d : Nat) (s : R_S) {n : Int}  (zn : Zr n) (n0 : 0 ≤ n) (n1 : n ≤ 16000) : R_ok (d + 1) 187 [.int (Zi n)] s (fun x s2 => ∃ m : Int, x = some (.int (Zi m)) ∧ R_row s s2 ∧ 0 ≤ m ∧ m ≤ n ∧ D_srt (s2.2.1 89) m ∧ (∀ v, D_in (s2.2.1 89) m v ↔ D_in (s.2.1 89) n v)) := by
  refine R_enter (M := E_m187) rfl (Nat.le_of_ble_eq_true rfl) (fun h0 h hs => ?_)
  show B_R d _ (0, [(0, .ref 83), (1, .int (Zi n))], []) _ _ _
  refine Z_go (f2 := (1, [(0, .ref 83), (1, .int (Zi n))], [.int (Zi 1)])) (fun _ => rfl) ?_
  refine Z_go (f2 := (2, [(2, .int (Zi 1)), (0, .ref 83), (1, .int (Zi n))], [])) (fun _ => rfl) ?_
  refine R_sort_f hs n0 n1 (fun g hg => ?_) n.toNat _ (by omega) (.inl rfl)
  refine R_sort_g n0 n1 (fun g u h hs hu hd ha => ?_) (g.toNat + 1) g s h (by unfold R_gap at hg; omega) hs ⟨rfl, fun _ _ _ => rfl, rfl⟩ (.inl hg) (fun x => Iff.rfl) (fun e => by unfold R_gap at hg; omega)
  refine Z_go (f2 := (110, [(2, .int (Zi g)), (0, .ref 83), (1, .int (Zi n))], [.int (Zi 0)])) (fun _ => rfl) ?_
  refine Z_go (f2 := (111, [(3, .int (Zi 0)), (2, .int (Zi g)), (0, .ref 83), (1, .int (Zi n))], [])) (fun _ => rfl) ?_
  refine Z_go (f2 := (112, [(3, .int (Zi 0)), (2, .int (Zi g)), (0, .ref 83), (1, .int (Zi n))], [.int (Zi 0)])) (fun _ => rfl) ?_
  refine Z_go (f2 := (114, [(4, .int (Zi 0)), (3, .int (Zi 0)), (2, .int (Zi g)), (0, .ref 83), (1, .int (Zi n))], [])) (fun _ => rfl) ?_
  refine R_sort_d n0 n1 ha (fun k m u h hs hu hq => ?_) (n.toNat + 1) _ _ _ _ (by omega) hs hu (by omega) n0 (D_ded_0 _)
  refine Z_go (f2 := (168, [(4, .int (Zi k)), (3, .int (Zi m)), (2, .int (Zi g)), (0, .ref 83), (1, .int (Zi n))], [.int (Zi m)])) (fun _ => rfl) ?_
  refine Z_iret rfl rfl (by first | rfl | decide | exact narrow_b01 (by omega)) ⟨_, hs, ?_, rfl⟩
  exact ⟨m, rfl, hu, hq.1, hq.2.1, hq.2.2.1, fun v => (hq.2.2.2.1 v).trans (hd v)⟩
