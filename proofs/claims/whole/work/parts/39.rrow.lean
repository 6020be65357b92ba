/-! the reference: loops, the row of grams -/
def D_srt (A : Int → Int) (n : Int) : Prop := ∀ i j : Int, 0 ≤ i → i < j → j < n → A i < A j
theorem D_srt_le {A : Int → Int} {n : Int} (h : D_srt A n) {i j : Int} (h0 : 0 ≤ i) (h1 : i ≤ j) (h2 : j < n) : A i ≤ A j := by
  by_cases e : i = j
  · rw [e]; omega
  · have := h i j h0 (by omega) h2; omega
theorem R_isInRow_lp {d : Nat} {h0 h : E_H} {s : R_S} {sl : Nat} {Φ : E_R → Prop} {n v : Int} (hs : R_is h0 h s) (zv : Zr v) (n1 : n ≤ 16000) (srt : D_srt (s.2.1 89) n) (kont : ∀ lo hi : Int, 0 ≤ lo → lo ≤ n → (∀ i, 0 ≤ i → i < lo → s.2.1 89 i < v) → (∀ i, lo ≤ i → i < n → v ≤ s.2.1 89 i) → B_R d E_m189 (45, [(4, .int (Zi hi)), (3, .int (Zi lo)), (0, .ref 83), (1, .int (Zi n)), (2, .int (Zi v))], []) h sl Φ) : ∀ (t : Nat) (lo hi : Int), hi - lo < t → 0 ≤ lo → lo ≤ hi → hi ≤ n → (∀ i, 0 ≤ i → i < lo → s.2.1 89 i < v) → (∀ i, hi ≤ i → i < n → v ≤ s.2.1 89 i) → B_R d E_m189 (5, [(4, .int (Zi hi)), (3, .int (Zi lo)), (0, .ref 83), (1, .int (Zi n)), (2, .int (Zi v))], []) h sl Φ := by
  intro t
  induction t with
  | zero => intro lo hi ht l0 l1 l2 i1 i2; omega
  | succ t ih =>
    intro lo hi ht l0 l1 l2 i1 i2
    refine Z_go (f2 := (6, [(4, .int (Zi hi)), (3, .int (Zi lo)), (0, .ref 83), (1, .int (Zi n)), (2, .int (Zi v))], [.int (Zi lo)])) (fun _ => rfl) ?_
    refine Z_go (f2 := (8, [(4, .int (Zi hi)), (3, .int (Zi lo)), (0, .ref 83), (1, .int (Zi n)), (2, .int (Zi v))], [.int (Zi hi), .int (Zi lo)])) (fun _ => rfl) ?_
    refine Z_cge rfl rfl (by first | exact hs.zF _ | exact hs.zA _ _ | assumption | exact ⟨by omega, by omega⟩) (by first | exact hs.zF _ | exact hs.zA _ _ | assumption | exact ⟨by omega, by omega⟩) (fun c1 => ?_) (fun c1 => ?_)
    · exact kont lo hi l0 (by omega) i1 (fun i a b => i2 i (by omega) b)
    · refine Z_go (f2 := (12, [(4, .int (Zi hi)), (3, .int (Zi lo)), (0, .ref 83), (1, .int (Zi n)), (2, .int (Zi v))], [.int (Zi lo)])) (fun _ => rfl) ?_
      refine Z_go (f2 := (14, [(4, .int (Zi hi)), (3, .int (Zi lo)), (0, .ref 83), (1, .int (Zi n)), (2, .int (Zi v))], [.int (Zi hi), .int (Zi lo)])) (fun _ => rfl) ?_
      refine Z_iadd rfl ?_
      refine Z_go (f2 := (16, [(4, .int (Zi hi)), (3, .int (Zi lo)), (0, .ref 83), (1, .int (Zi n)), (2, .int (Zi v))], [.int (Zi 1), .int (Zi (lo + hi))])) (fun _ => rfl) ?_
      refine Z_ishr rfl (by first | exact hs.zF _ | exact hs.zA _ _ | assumption | exact ⟨by omega, by omega⟩) (by omega) (by omega) (p := 2) (by rfl) ?_
      refine Z_go (f2 := (19, [(5, .int (Zi ((lo + hi) / 2))), (4, .int (Zi hi)), (3, .int (Zi lo)), (0, .ref 83), (1, .int (Zi n)), (2, .int (Zi v))], [])) (fun _ => rfl) ?_
      refine Z_go (f2 := (20, [(5, .int (Zi ((lo + hi) / 2))), (4, .int (Zi hi)), (3, .int (Zi lo)), (0, .ref 83), (1, .int (Zi n)), (2, .int (Zi v))], [.ref 83])) (fun _ => rfl) ?_
      refine R_gr (q := 87) rfl hs rfl ?_
      show B_R _ _ (23, [(5, .int (Zi ((lo + hi) / 2))), (4, .int (Zi hi)), (3, .int (Zi lo)), (0, .ref 83), (1, .int (Zi n)), (2, .int (Zi v))], [.ref 89]) _ _ _
      refine Z_go (f2 := (25, [(5, .int (Zi ((lo + hi) / 2))), (4, .int (Zi hi)), (3, .int (Zi lo)), (0, .ref 83), (1, .int (Zi n)), (2, .int (Zi v))], [.int (Zi ((lo + hi) / 2)), .ref 89])) (fun _ => rfl) ?_
      refine R_ia (q := 5) rfl hs rfl rfl (by omega) (by omega) (by decide) ?_
      refine Z_go (f2 := (27, [(5, .int (Zi ((lo + hi) / 2))), (4, .int (Zi hi)), (3, .int (Zi lo)), (0, .ref 83), (1, .int (Zi n)), (2, .int (Zi v))], [.int (Zi v), .int (Zi (s.2.1 89 ((lo + hi) / 2)))])) (fun _ => rfl) ?_
      refine Z_cge rfl rfl (by first | exact hs.zF _ | exact hs.zA _ _ | assumption | exact ⟨by omega, by omega⟩) (by first | exact hs.zF _ | exact hs.zA _ _ | assumption | exact ⟨by omega, by omega⟩) (fun c2 => ?_) (fun c2 => ?_)
      · refine Z_go (f2 := (40, [(5, .int (Zi ((lo + hi) / 2))), (4, .int (Zi hi)), (3, .int (Zi lo)), (0, .ref 83), (1, .int (Zi n)), (2, .int (Zi v))], [.int (Zi ((lo + hi) / 2))])) (fun _ => rfl) ?_
        refine Z_go (f2 := (42, [(4, .int (Zi ((lo + hi) / 2))), (5, .int (Zi ((lo + hi) / 2))), (3, .int (Zi lo)), (0, .ref 83), (1, .int (Zi n)), (2, .int (Zi v))], [])) (fun _ => rfl) ?_
        refine Z_go (f2 := (5, [(4, .int (Zi ((lo + hi) / 2))), (5, .int (Zi ((lo + hi) / 2))), (3, .int (Zi lo)), (0, .ref 83), (1, .int (Zi n)), (2, .int (Zi v))], [])) (fun _ => rfl) ?_
        refine B_loc (K := [(4, .int (Zi ((lo + hi) / 2))), (3, .int (Zi lo)), (0, .ref 83), (1, .int (Zi n)), (2, .int (Zi v))]) (N_all_sub ⟨rfl, rfl, rfl, rfl, rfl, trivial⟩) (show ([4, 3, 0, 1, 2] : List Nat).Nodup by decide) ?_
        exact ih _ _ (by omega) l0 (by omega) (by omega) i1 (fun i a b => by have := D_srt_le srt (show 0 ≤ (lo + hi) / 2 by omega) a b; omega)
      · refine Z_go (f2 := (32, [(5, .int (Zi ((lo + hi) / 2))), (4, .int (Zi hi)), (3, .int (Zi lo)), (0, .ref 83), (1, .int (Zi n)), (2, .int (Zi v))], [.int (Zi ((lo + hi) / 2))])) (fun _ => rfl) ?_
        refine Z_go (f2 := (33, [(5, .int (Zi ((lo + hi) / 2))), (4, .int (Zi hi)), (3, .int (Zi lo)), (0, .ref 83), (1, .int (Zi n)), (2, .int (Zi v))], [.int (Zi 1), .int (Zi ((lo + hi) / 2))])) (fun _ => rfl) ?_
        refine Z_iadd rfl ?_
        refine Z_go (f2 := (35, [(3, .int (Zi ((lo + hi) / 2 + 1))), (5, .int (Zi ((lo + hi) / 2))), (4, .int (Zi hi)), (0, .ref 83), (1, .int (Zi n)), (2, .int (Zi v))], [])) (fun _ => rfl) ?_
        refine Z_go (f2 := (42, [(3, .int (Zi ((lo + hi) / 2 + 1))), (5, .int (Zi ((lo + hi) / 2))), (4, .int (Zi hi)), (0, .ref 83), (1, .int (Zi n)), (2, .int (Zi v))], [])) (fun _ => rfl) ?_
        refine Z_go (f2 := (5, [(3, .int (Zi ((lo + hi) / 2 + 1))), (5, .int (Zi ((lo + hi) / 2))), (4, .int (Zi hi)), (0, .ref 83), (1, .int (Zi n)), (2, .int (Zi v))], [])) (fun _ => rfl) ?_
        refine B_loc (K := [(4, .int (Zi hi)), (3, .int (Zi ((lo + hi) / 2 + 1))), (0, .ref 83), (1, .int (Zi n)), (2, .int (Zi v))]) (N_all_sub ⟨rfl, rfl, rfl, rfl, rfl, trivial⟩) (show ([4, 3, 0, 1, 2] : List Nat).Nodup by decide) ?_
        exact ih _ _ (by omega) (by omega) (by omega) l2 (fun i a b => by have := D_srt_le srt a (show i ≤ (lo + hi) / 2 by omega) (by omega); omega) i2
def D_in (A : Int → Int) (n v : Int) : Prop := ∃ i : Int, 0 ≤ i ∧ i < n ∧ A i = v
theorem R_isInRow (d : Nat) (s : R_S) {n v : Int}  (zn : Zr n) (zv : Zr v) (n0 : 0 ≤ n) (n1 : n ≤ 16000) (srt : D_srt (s.2.1 89) n) : R_ok (d + 1) 189 [.int (Zi n), .int (Zi v)] s (fun x s2 => s2 = s ∧ ∃ r : Int, x = some (.int (Zi r)) ∧ (r = 1 ∧ D_in (s.2.1 89) n v ∨ r = 0 ∧ ¬ D_in (s.2.1 89) n v)) := by
  refine R_enter (M := E_m189) rfl (Nat.le_of_ble_eq_true rfl) (fun h0 h hs => ?_)
  show B_R d _ (0, [(0, .ref 83), (1, .int (Zi n)), (2, .int (Zi v))], []) _ _ _
  refine Z_go (f2 := (1, [(0, .ref 83), (1, .int (Zi n)), (2, .int (Zi v))], [.int (Zi 0)])) (fun _ => rfl) ?_
  refine Z_go (f2 := (2, [(3, .int (Zi 0)), (0, .ref 83), (1, .int (Zi n)), (2, .int (Zi v))], [])) (fun _ => rfl) ?_
  refine Z_go (f2 := (3, [(3, .int (Zi 0)), (0, .ref 83), (1, .int (Zi n)), (2, .int (Zi v))], [.int (Zi n)])) (fun _ => rfl) ?_
  refine Z_go (f2 := (5, [(4, .int (Zi n)), (3, .int (Zi 0)), (0, .ref 83), (1, .int (Zi n)), (2, .int (Zi v))], [])) (fun _ => rfl) ?_
  refine R_isInRow_lp hs zv n1 srt (fun lo hi l0 l1 i1 i2 => ?_) (n.toNat + 1) _ _ (by omega) (by omega) n0 (by omega) (fun i a b => by omega) (fun i a b => by omega)
  refine Z_go (f2 := (46, [(4, .int (Zi hi)), (3, .int (Zi lo)), (0, .ref 83), (1, .int (Zi n)), (2, .int (Zi v))], [.int (Zi lo)])) (fun _ => rfl) ?_
  refine Z_go (f2 := (47, [(4, .int (Zi hi)), (3, .int (Zi lo)), (0, .ref 83), (1, .int (Zi n)), (2, .int (Zi v))], [.int (Zi n), .int (Zi lo)])) (fun _ => rfl) ?_
  refine Z_cge rfl rfl (by first | exact hs.zF _ | exact hs.zA _ _ | assumption | exact ⟨by omega, by omega⟩) (by first | exact hs.zF _ | exact hs.zA _ _ | assumption | exact ⟨by omega, by omega⟩) (fun c1 => ?_) (fun c1 => ?_)
  · refine Z_go (f2 := (65, [(4, .int (Zi hi)), (3, .int (Zi lo)), (0, .ref 83), (1, .int (Zi n)), (2, .int (Zi v))], [.int (Zi 0)])) (fun _ => rfl) ?_
    refine Z_iret rfl rfl (by first | rfl | decide) ⟨_, hs, ?_, rfl⟩
    exact ⟨rfl, _, rfl, .inr ⟨rfl, fun ⟨i, a, b, e⟩ => (Classical.em (i < lo)).elim (fun c => by have := i1 i a c; omega) (fun c => by have := i2 lo (by omega) (by omega); have := D_srt_le srt l0 (show lo ≤ i by omega) b; omega)⟩⟩
  · refine Z_go (f2 := (51, [(4, .int (Zi hi)), (3, .int (Zi lo)), (0, .ref 83), (1, .int (Zi n)), (2, .int (Zi v))], [.ref 83])) (fun _ => rfl) ?_
    refine R_gr (q := 87) rfl hs rfl ?_
    show B_R _ _ (54, [(4, .int (Zi hi)), (3, .int (Zi lo)), (0, .ref 83), (1, .int (Zi n)), (2, .int (Zi v))], [.ref 89]) _ _ _
    refine Z_go (f2 := (55, [(4, .int (Zi hi)), (3, .int (Zi lo)), (0, .ref 83), (1, .int (Zi n)), (2, .int (Zi v))], [.int (Zi lo), .ref 89])) (fun _ => rfl) ?_
    refine R_ia (q := 5) rfl hs rfl rfl (by omega) (by omega) (by decide) ?_
    refine Z_go (f2 := (57, [(4, .int (Zi hi)), (3, .int (Zi lo)), (0, .ref 83), (1, .int (Zi n)), (2, .int (Zi v))], [.int (Zi v), .int (Zi (s.2.1 89 lo))])) (fun _ => rfl) ?_
    refine Z_cne rfl rfl (by first | exact hs.zF _ | exact hs.zA _ _ | assumption | exact ⟨by omega, by omega⟩) (by first | exact hs.zF _ | exact hs.zA _ _ | assumption | exact ⟨by omega, by omega⟩) (fun c2 => ?_) (fun c2 => ?_)
    · refine Z_go (f2 := (65, [(4, .int (Zi hi)), (3, .int (Zi lo)), (0, .ref 83), (1, .int (Zi n)), (2, .int (Zi v))], [.int (Zi 0)])) (fun _ => rfl) ?_
      refine Z_iret rfl rfl (by first | rfl | decide) ⟨_, hs, ?_, rfl⟩
      exact ⟨rfl, _, rfl, .inr ⟨rfl, fun ⟨i, a, b, e⟩ => (Classical.em (i < lo)).elim (fun c => by have := i1 i a c; omega) (fun c => by have := i2 lo (by omega) (by omega); have := D_srt_le srt l0 (show lo ≤ i by omega) b; omega)⟩⟩
    · refine Z_go (f2 := (61, [(4, .int (Zi hi)), (3, .int (Zi lo)), (0, .ref 83), (1, .int (Zi n)), (2, .int (Zi v))], [.int (Zi 1)])) (fun _ => rfl) ?_
      refine Z_go (f2 := (65, [(4, .int (Zi hi)), (3, .int (Zi lo)), (0, .ref 83), (1, .int (Zi n)), (2, .int (Zi v))], [.int (Zi 1)])) (fun _ => rfl) ?_
      refine Z_iret rfl rfl (by first | rfl | decide) ⟨_, hs, ?_, rfl⟩
      exact ⟨rfl, _, rfl, .inl ⟨rfl, lo, l0, by omega, by omega⟩⟩
