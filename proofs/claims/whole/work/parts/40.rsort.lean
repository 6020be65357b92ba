/-! the reference sorts its row (Shell), and makes a set of it -/
def D_same (A B : Int → Int) (n : Int) : Prop := ∀ x, D_in A n x ↔ D_in B n x
def D_up (A : Int → Int) (p v : Int) : Int → Int := fun j => if j = p then v else A j
/-- u is s, but for the row of grams -/
def R_row (s u : R_S) : Prop := u.1 = s.1 ∧ (∀ q j, q ≠ 89 → u.2.1 q j = s.2.1 q j) ∧ u.2.2 = s.2.2
theorem R_row_st {s u : R_S} (h : R_row s u) (p v : Int) : R_row s (R_sA u 89 p v) := by
  refine ⟨h.1, fun q j hq => ?_, h.2.2⟩
  show R_up2 u.2.1 89 p v q j = _
  unfold R_up2
  rw [if_neg (fun e => hq e.1)]
  exact h.2.1 q j hq
theorem R_row_up (u : R_S) (p v : Int) : (R_sA u 89 p v).2.1 89 = D_up (u.2.1 89) p v := by
  funext j
  show R_up2 u.2.1 89 p v 89 j = _
  unfold R_up2 D_up
  by_cases h : j = p
  · rw [if_pos ⟨rfl, h⟩, if_pos h]
  · rw [if_neg (fun e => h e.2), if_neg h]
theorem D_up_s (A : Int → Int) (p v : Int) : D_up A p v p = v := by unfold D_up; rw [if_pos rfl]
theorem D_up_n (A : Int → Int) {p v j : Int} (h : j ≠ p) : D_up A p v j = A j := by unfold D_up; rw [if_neg h]
theorem D_up_id (A : Int → Int) (p : Int) : D_up A p (A p) = A := by
  funext j
  unfold D_up
  split
  · rename_i e
    rw [e]
  · rfl
/-- the hole goes from p to q -/
theorem D_same_sw {A C : Int → Int} {n p q v : Int} (p0 : 0 ≤ p) (p1 : p < n) (q0 : 0 ≤ q) (q1 : q < n) (pq : p ≠ q) (h : D_same (D_up A p v) C n) : D_same (D_up (D_up A p (A q)) q v) C n := by
  intro x
  rw [← h x]
  constructor
  · rintro ⟨i, a, b, e⟩
    by_cases iq : i = q
    · rw [iq, D_up_s] at e
      exact ⟨p, p0, p1, by rw [D_up_s]; exact e⟩
    · rw [D_up_n _ iq] at e
      by_cases ip : i = p
      · rw [ip, D_up_s] at e
        exact ⟨q, q0, q1, by rw [D_up_n _ (fun z => pq z.symm)]; exact e⟩
      · rw [D_up_n _ ip] at e
        exact ⟨i, a, b, by rw [D_up_n _ ip]; exact e⟩
  · rintro ⟨i, a, b, e⟩
    by_cases ip : i = p
    · rw [ip, D_up_s] at e
      exact ⟨q, q0, q1, by rw [D_up_s]; exact e⟩
    · rw [D_up_n _ ip] at e
      by_cases iq : i = q
      · exact ⟨p, p0, p1, by rw [D_up_n _ pq, D_up_s, ← iq]; exact e⟩
      · exact ⟨i, a, b, by rw [D_up_n _ iq, D_up_n _ ip]; exact e⟩
/-- sorted up to k, but for the hole p, where v belongs; all behind it are greater -/
def D_hole (A : Int → Int) (p k v : Int) : Prop := (∀ i j, 0 ≤ i → i < j → j ≤ k → i ≠ p → j ≠ p → A i ≤ A j) ∧ (∀ j, p < j → j ≤ k → v < A j)
def D_asc (A : Int → Int) (n : Int) : Prop := ∀ i j, 0 ≤ i → i < j → j < n → A i ≤ A j
theorem D_hole_go {A : Int → Int} {p k v : Int} (h : D_hole A p k v) (p1 : 1 ≤ p) (pk : p ≤ k) (c : v < A (p - 1)) : D_hole (D_up A p (A (p - 1))) (p - 1) k v := by
  refine ⟨fun i j a b d e f => ?_, fun j a b => ?_⟩
  · by_cases ip : i = p
    · rw [ip, D_up_s, D_up_n _ (by omega)]
      exact h.1 _ _ (by omega) (by omega) d (by omega) (by omega)
    · rw [D_up_n _ ip]
      by_cases jp : j = p
      · rw [jp, D_up_s]
        exact h.1 _ _ a (by omega) (by omega) ip (by omega)
      · rw [D_up_n _ jp]
        exact h.1 _ _ a b d ip jp
  · by_cases jp : j = p
    · rw [jp, D_up_s]
      exact c
    · rw [D_up_n _ jp]
      exact h.2 j (by omega) b
theorem D_hole_fin {A : Int → Int} {p k v : Int} (h : D_hole A p k v) (p0 : 0 ≤ p) (pk : p ≤ k) (c : p = 0 ∨ A (p - 1) ≤ v) : D_asc (D_up A p v) (k + 1) := by
  intro i j a b d
  by_cases ip : i = p
  · rw [ip, D_up_s, D_up_n _ (by omega)]
    have := h.2 j (by omega) (by omega)
    omega
  · rw [D_up_n _ ip]
    by_cases jp : j = p
    · rw [jp, D_up_s]
      by_cases e : i = p - 1
      · rw [e]
        omega
      · have := h.1 i (p - 1) a (by omega) (by omega) ip (by omega)
        omega
    · rw [D_up_n _ jp]
      exact h.1 i j a b (by omega) ip jp
theorem D_hole_in {A : Int → Int} {k : Int} (h : D_asc A k) : D_hole A k k (A k) := ⟨fun i j a b c d e => h i j a b (by omega), fun j a b => by omega⟩
theorem R_sort_in {d : Nat} {h0 : E_H} {s : R_S} {sl : Nat} {Φ : E_R → Prop} {n g k v : Int} {C : Int → Int} (zv : Zr v) (g1 : 1 ≤ g) (g2 : g ≤ 16000) (k1 : k < n) (n1 : n ≤ 16000) (kont : ∀ (p : Int) (u : R_S) (h : E_H), R_is h0 h u → R_row s u → 0 ≤ p → p ≤ k → D_same (D_up (u.2.1 89) p v) C n → (g = 1 → D_asc (D_up (u.2.1 89) p v) (k + 1)) → B_R d E_m187 (87, [(5, .int (Zi p)), (4, .int (Zi v)), (3, .int (Zi k)), (2, .int (Zi g)), (0, .ref 83), (1, .int (Zi n))], []) h sl Φ) : ∀ (t : Nat) (p : Int) (u : R_S) (h : E_H), p < t → R_is h0 h u → R_row s u → 0 ≤ p → p ≤ k → D_same (D_up (u.2.1 89) p v) C n → (g = 1 → D_hole (u.2.1 89) p k v) → B_R d E_m187 (42, [(5, .int (Zi p)), (4, .int (Zi v)), (3, .int (Zi k)), (2, .int (Zi g)), (0, .ref 83), (1, .int (Zi n))], []) h sl Φ := by
  intro t
  induction t with
  | zero => intro p u h ht hs hu p0; omega
  | succ t ih =>
    intro p u h ht hs hu p0 p1 hd hh
    refine Z_go (f2 := (44, [(5, .int (Zi p)), (4, .int (Zi v)), (3, .int (Zi k)), (2, .int (Zi g)), (0, .ref 83), (1, .int (Zi n))], [.int (Zi p)])) (fun _ => rfl) ?_
    refine Z_go (f2 := (45, [(5, .int (Zi p)), (4, .int (Zi v)), (3, .int (Zi k)), (2, .int (Zi g)), (0, .ref 83), (1, .int (Zi n))], [.int (Zi g), .int (Zi p)])) (fun _ => rfl) ?_
    refine Z_clt rfl rfl (by first | exact hs.zF _ | exact hs.zA _ _ | assumption | exact ⟨by omega, by omega⟩) (by first | exact hs.zF _ | exact hs.zA _ _ | assumption | exact ⟨by omega, by omega⟩) (fun c1 => ?_) (fun c1 => ?_)
    · exact kont p u h hs hu p0 p1 hd (fun e => D_hole_fin (hh e) p0 p1 (.inl (by omega)))
    · refine Z_go (f2 := (49, [(5, .int (Zi p)), (4, .int (Zi v)), (3, .int (Zi k)), (2, .int (Zi g)), (0, .ref 83), (1, .int (Zi n))], [.ref 83])) (fun _ => rfl) ?_
      refine R_gr (q := 87) rfl hs rfl ?_
      show B_R _ _ (52, [(5, .int (Zi p)), (4, .int (Zi v)), (3, .int (Zi k)), (2, .int (Zi g)), (0, .ref 83), (1, .int (Zi n))], [.ref 89]) _ _ _
      refine Z_go (f2 := (54, [(5, .int (Zi p)), (4, .int (Zi v)), (3, .int (Zi k)), (2, .int (Zi g)), (0, .ref 83), (1, .int (Zi n))], [.int (Zi p), .ref 89])) (fun _ => rfl) ?_
      refine Z_go (f2 := (55, [(5, .int (Zi p)), (4, .int (Zi v)), (3, .int (Zi k)), (2, .int (Zi g)), (0, .ref 83), (1, .int (Zi n))], [.int (Zi g), .int (Zi p), .ref 89])) (fun _ => rfl) ?_
      refine Z_isub rfl ?_
      refine R_ia (q := 5) rfl hs rfl rfl (by omega) (by omega) (by decide) ?_
      refine Z_go (f2 := (59, [(5, .int (Zi p)), (4, .int (Zi v)), (3, .int (Zi k)), (2, .int (Zi g)), (0, .ref 83), (1, .int (Zi n))], [.int (Zi v), .int (Zi (u.2.1 89 (p - g)))])) (fun _ => rfl) ?_
      refine Z_cle rfl rfl (by first | exact hs.zF _ | exact hs.zA _ _ | assumption | exact ⟨by omega, by omega⟩) (by first | exact hs.zF _ | exact hs.zA _ _ | assumption | exact ⟨by omega, by omega⟩) (fun c2 => ?_) (fun c2 => ?_)
      · exact kont p u h hs hu p0 p1 hd (fun e => D_hole_fin (hh e) p0 p1 (.inr (by rw [e] at c2; exact c2)))
      · refine Z_go (f2 := (63, [(5, .int (Zi p)), (4, .int (Zi v)), (3, .int (Zi k)), (2, .int (Zi g)), (0, .ref 83), (1, .int (Zi n))], [.ref 83])) (fun _ => rfl) ?_
        refine R_gr (q := 87) rfl hs rfl ?_
        show B_R _ _ (66, [(5, .int (Zi p)), (4, .int (Zi v)), (3, .int (Zi k)), (2, .int (Zi g)), (0, .ref 83), (1, .int (Zi n))], [.ref 89]) _ _ _
        refine Z_go (f2 := (68, [(5, .int (Zi p)), (4, .int (Zi v)), (3, .int (Zi k)), (2, .int (Zi g)), (0, .ref 83), (1, .int (Zi n))], [.int (Zi p), .ref 89])) (fun _ => rfl) ?_
        refine Z_go (f2 := (69, [(5, .int (Zi p)), (4, .int (Zi v)), (3, .int (Zi k)), (2, .int (Zi g)), (0, .ref 83), (1, .int (Zi n))], [.ref 83, .int (Zi p), .ref 89])) (fun _ => rfl) ?_
        refine R_gr (q := 87) rfl hs rfl ?_
        show B_R _ _ (72, [(5, .int (Zi p)), (4, .int (Zi v)), (3, .int (Zi k)), (2, .int (Zi g)), (0, .ref 83), (1, .int (Zi n))], [.ref 89, .int (Zi p), .ref 89]) _ _ _
        refine Z_go (f2 := (74, [(5, .int (Zi p)), (4, .int (Zi v)), (3, .int (Zi k)), (2, .int (Zi g)), (0, .ref 83), (1, .int (Zi n))], [.int (Zi p), .ref 89, .int (Zi p), .ref 89])) (fun _ => rfl) ?_
        refine Z_go (f2 := (75, [(5, .int (Zi p)), (4, .int (Zi v)), (3, .int (Zi k)), (2, .int (Zi g)), (0, .ref 83), (1, .int (Zi n))], [.int (Zi g), .int (Zi p), .ref 89, .int (Zi p), .ref 89])) (fun _ => rfl) ?_
        refine Z_isub rfl ?_
        refine R_ia (q := 5) rfl hs rfl rfl (by omega) (by omega) (by decide) ?_
        refine R_is_ (q := 5) rfl hs rfl rfl (by omega) (by omega) (by decide) (by first | exact hs.zF _ | exact hs.zA _ _ | assumption | exact ⟨by omega, by omega⟩) (fun h hs => ?_)
        refine Z_go (f2 := (80, [(5, .int (Zi p)), (4, .int (Zi v)), (3, .int (Zi k)), (2, .int (Zi g)), (0, .ref 83), (1, .int (Zi n))], [.int (Zi p)])) (fun _ => rfl) ?_
        refine Z_go (f2 := (81, [(5, .int (Zi p)), (4, .int (Zi v)), (3, .int (Zi k)), (2, .int (Zi g)), (0, .ref 83), (1, .int (Zi n))], [.int (Zi g), .int (Zi p)])) (fun _ => rfl) ?_
        refine Z_isub rfl ?_
        refine Z_go (f2 := (84, [(5, .int (Zi (p - g))), (4, .int (Zi v)), (3, .int (Zi k)), (2, .int (Zi g)), (0, .ref 83), (1, .int (Zi n))], [])) (fun _ => rfl) ?_
        refine Z_go (f2 := (42, [(5, .int (Zi (p - g))), (4, .int (Zi v)), (3, .int (Zi k)), (2, .int (Zi g)), (0, .ref 83), (1, .int (Zi n))], [])) (fun _ => rfl) ?_
        refine B_loc (K := [(5, .int (Zi (p - g))), (4, .int (Zi v)), (3, .int (Zi k)), (2, .int (Zi g)), (0, .ref 83), (1, .int (Zi n))]) (N_all_sub ⟨rfl, rfl, rfl, rfl, rfl, rfl, trivial⟩) (show ([5, 4, 3, 2, 0, 1] : List Nat).Nodup by decide) ?_
        exact ih _ _ _ (by omega) hs (R_row_st hu _ _) (by omega) (by omega) (by rw [R_row_up]; exact D_same_sw p0 (by omega) (by omega) (by omega) (by omega) hd) (fun e => by rw [R_row_up]; subst e; exact D_hole_go (hh rfl) (by omega) p1 c2)
