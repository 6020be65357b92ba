/-! the reference: loops, the row of grams -/
def D_srt (A : Int → Int) (n : Int) : Prop := ∀ i j : Int, 0 ≤ i → i < j → j < n → A i < A j
theorem D_srt_le {A : Int → Int} {n : Int} (h : D_srt A n) {i j : Int} (h0 : 0 ≤ i) (h1 : i ≤ j) (h2 : j < n) : A i ≤ A j := by
  by_cases e : i = j
  · rw [e]; omega
  · have := h i j h0 (by omega) h2; omega
theorem R_isInRow_lp {d : Nat} {h0 h : E_H} {s : R_S} {sl : Nat} {Φ : E_R → Prop} {n v : Int} (hs : R_is h0 h s) (zv : Zr v) (n1 : n ≤ 16000) (srt : D_srt (s.2.1 89) n) (kont : ∀ lo hi : Int, 0 ≤ lo → lo ≤ n → (∀ i, 0 ≤ i → i < lo → s.2.1 89 i < v) → (∀ i, lo ≤ i → i < n → v ≤ s.2.1 89 i) → B_R d E_m189 (45, [(4, .int (Zi hi)), (3, .int (Zi lo)), (0, .ref 83), (1, .int (Zi n)), (2, .int (Zi v))], []) h sl Φ) : ∀ (t : Nat) (lo hi : Int), hi - lo < t → 0 ≤ lo → lo ≤ hi → hi ≤ n → (∀ i, 0 ≤ i → i < lo → s.2.1 89 i < v) → (∀ i, hi ≤ i → i < n → v ≤ s.2.1 89 i) → B_R d E_m189 (5, [(4, .int (Zi hi)), (3, .int (Zi lo)), (0, .ref 83), (1, .int (Zi n)), (2, .int (Zi v))], []) h sl Φ := by
  intro t
  induction t with
  | zero => intro lo hi ht l0 l1 l2 i1 i2; omega
  | succ t ih =>
    intro lo hi ht l0 l1 l2 i1 i2
    refine Z_go (f2 := (6, [(4, .int (Zi hi)), (3, .int (Zi lo)), (0, .ref 83), (1, .int (Zi n)), (2, .int (Zi v))], [.int (Zi lo)])) (fun _ => rfl) ?_
    refine Z_go (f2 := (8, [(4, .int (Zi hi)), (3, .int (Zi lo)), (0, .ref 83), (1, .int (Zi n)), (2, .int (Zi v))], [.int (Zi hi), .int (Zi lo)])) (fun _ => rfl) ?_
    refine Z_cge rfl rfl (by first | exact hs.zF _ | exact Zor_r _ _ | exact hs.zA _ _ | assumption | exact zA _ _ | exact zS _ | exact Zr_not (hs.zA _ _) | exact ⟨by omega, by omega⟩) (by first | exact hs.zF _ | exact Zor_r _ _ | exact hs.zA _ _ | assumption | exact zA _ _ | exact zS _ | exact Zr_not (hs.zA _ _) | exact ⟨by omega, by omega⟩) (fun c1 => ?_) (fun c1 => ?_)
    · exact kont lo hi l0 (by omega) i1 (fun i a b => i2 i (by omega) b)
    · refine Z_go (f2 := (12, [(4, .int (Zi hi)), (3, .int (Zi lo)), (0, .ref 83), (1, .int (Zi n)), (2, .int (Zi v))], [.int (Zi lo)])) (fun _ => rfl) ?_
      refine Z_go (f2 := (14, [(4, .int (Zi hi)), (3, .int (Zi lo)), (0, .ref 83), (1, .int (Zi n)), (2, .int (Zi v))], [.int (Zi hi), .int (Zi lo)])) (fun _ => rfl) ?_
      refine Z_iadd rfl ?_
      refine Z_go (f2 := (16, [(4, .int (Zi hi)), (3, .int (Zi lo)), (0, .ref 83), (1, .int (Zi n)), (2, .int (Zi v))], [.int (Zi 1), .int (Zi (lo + hi))])) (fun _ => rfl) ?_
      refine Z_ishr rfl (by first | exact hs.zF _ | exact Zor_r _ _ | exact hs.zA _ _ | assumption | exact zA _ _ | exact zS _ | exact Zr_not (hs.zA _ _) | exact ⟨by omega, by omega⟩) (by omega) (by omega) (p := 2) (by rfl) ?_
      refine Z_go (f2 := (19, [(5, .int (Zi ((lo + hi) / 2))), (4, .int (Zi hi)), (3, .int (Zi lo)), (0, .ref 83), (1, .int (Zi n)), (2, .int (Zi v))], [])) (fun _ => rfl) ?_
      refine Z_go (f2 := (20, [(5, .int (Zi ((lo + hi) / 2))), (4, .int (Zi hi)), (3, .int (Zi lo)), (0, .ref 83), (1, .int (Zi n)), (2, .int (Zi v))], [.ref 83])) (fun _ => rfl) ?_
      refine R_gr (q := 87) rfl hs rfl ?_
      show B_R _ _ (23, [(5, .int (Zi ((lo + hi) / 2))), (4, .int (Zi hi)), (3, .int (Zi lo)), (0, .ref 83), (1, .int (Zi n)), (2, .int (Zi v))], [.ref 89]) _ _ _
      refine Z_go (f2 := (25, [(5, .int (Zi ((lo + hi) / 2))), (4, .int (Zi hi)), (3, .int (Zi lo)), (0, .ref 83), (1, .int (Zi n)), (2, .int (Zi v))], [.int (Zi ((lo + hi) / 2)), .ref 89])) (fun _ => rfl) ?_
      refine R_ia (q := 5) rfl hs rfl rfl (by omega) (by omega) (by decide) ?_
      refine Z_go (f2 := (27, [(5, .int (Zi ((lo + hi) / 2))), (4, .int (Zi hi)), (3, .int (Zi lo)), (0, .ref 83), (1, .int (Zi n)), (2, .int (Zi v))], [.int (Zi v), .int (Zi (s.2.1 89 ((lo + hi) / 2)))])) (fun _ => rfl) ?_
      refine Z_cge rfl rfl (by first | exact hs.zF _ | exact Zor_r _ _ | exact hs.zA _ _ | assumption | exact zA _ _ | exact zS _ | exact Zr_not (hs.zA _ _) | exact ⟨by omega, by omega⟩) (by first | exact hs.zF _ | exact Zor_r _ _ | exact hs.zA _ _ | assumption | exact zA _ _ | exact zS _ | exact Zr_not (hs.zA _ _) | exact ⟨by omega, by omega⟩) (fun c2 => ?_) (fun c2 => ?_)
      · refine Z_go (f2 := (40, [(5, .int (Zi ((lo + hi) / 2))), (4, .int (Zi hi)), (3, .int (Zi lo)), (0, .ref 83), (1, .int (Zi n)), (2, .int (Zi v))], [.int (Zi ((lo + hi) / 2))])) (fun _ => rfl) ?_
        refine Z_go (f2 := (42, [(4, .int (Zi ((lo + hi) / 2))), (5, .int (Zi ((lo + hi) / 2))), (3, .int (Zi lo)), (0, .ref 83), (1, .int (Zi n)), (2, .int (Zi v))], [])) (fun _ => rfl) ?_
        refine Z_go (f2 := (5, [(4, .int (Zi ((lo + hi) / 2))), (5, .int (Zi ((lo + hi) / 2))), (3, .int (Zi lo)), (0, .ref 83), (1, .int (Zi n)), (2, .int (Zi v))], [])) (fun _ => rfl) ?_
        refine B_loc (K := [(4, .int (Zi ((lo + hi) / 2))), (3, .int (Zi lo)), (0, .ref 83), (1, .int (Zi n)), (2, .int (Zi v))]) (N_all_sub ⟨rfl, rfl, rfl, rfl, rfl, trivial⟩) (show ([4, 3, 0, 1, 2] : List Nat).Nodup by decide) ?_
        exact ih _ _ (by omega) l0 (by omega) (by omega) i1 (fun i a b => by have := D_srt_le srt (show 0 ≤ (lo + hi) / 2 by omega) a b; omega)
      · refine Z_go (f2 := (32, [(5, .int (Zi ((lo + hi) / 2))), (4, .int (Zi hi)), (3, .int (Zi lo)), (0, .ref 83), (1, .int (Zi n)), (2, .int (Zi v))], [.int (Zi ((lo + hi) / 2))])) (fun _ => rfl) ?_
        refine Z_go (f2 := (33, [(5, .int (Zi ((lo + hi) / 2))), (4, .int (Zi hi)), (3, .int (Zi lo)), (0, .ref 83), (1, .int (Zi n)), (2, .int (Zi v))], [.int (Zi 1), .int (Zi ((lo + hi) / 2))])) (fun _ => rfl) ?_
        refine Z_iadd rfl ?_
        refine Z_go (f2 := (35, [(3, .int (Zi ((lo + hi) / 2 + 1))), (5, .int (Zi ((lo + hi) / 2))), (4, .int (Zi hi)), (0, .ref 83), (1, .int (Zi n)), (2, .int (Zi v))], [])) (fun _ => rfl) ?_
        refine Z_go (f2 := (42, [(3, .int (Zi ((lo + hi) / 2 + 1))), (5, .int (Zi ((lo + hi) / 2))), (4, .int (Zi hi)), (0, .ref 83), (1, .int (Zi n)), (2, .int (Zi v))], [])) (fun _ => rfl) ?_
        refine Z_go (f2 := (5, [(3, .int (Zi ((lo + hi) / 2 + 1))), (5, .int (Zi ((lo + hi) / 2))), (4, .int (Zi hi)), (0, .ref 83), (1, .int (Zi n)), (2, .int (Zi v))], [])) (fun _ => rfl) ?_
        refine B_loc (K := [(4, .int (Zi hi)), (3, .int (Zi ((lo + hi) / 2 + 1))), (0, .ref 83), (1, .int (Zi n)), (2, .int (Zi v))]) (N_all_sub ⟨rfl, rfl, rfl, rfl, rfl, trivial⟩) (show ([4, 3, 0, 1, 2] : List Nat).Nodup by decide) ?_
        exact ih _ _ (by omega) (by omega) (by omega) l2 (fun i a b => by have := D_srt_le srt a (show i ≤ (lo + hi) / 2 by omega) (by omega); omega) i2
def D_in (A : Int → Int) (n v : Int) : Prop := ∃ i : Int, 0 ≤ i ∧ i < n ∧ A i = v
theorem R_isInRow (d : Nat) (s : R_S) {n v : Int}  (zn : Zr n) (zv : Zr v) (n0 : 0 ≤ n) (n1 : n ≤ 16000) (srt : D_srt (s.2.1 89) n) : R_ok (d + 1) 189 [.int (Zi n), .int (Zi v)] s (fun x s2 => s2 = s ∧ ∃ r : Int, x = some (.int (Zi r)) ∧ (r = 1 ∧ D_in (s.2.1 89) n v ∨ r = 0 ∧ ¬ D_in (s.2.1 89) n v)) := by
  refine R_enter (M := E_m189) rfl (Nat.le_of_ble_eq_true rfl) (fun h0 h hs => ?_)
  show B_R d _ (0, [(0, .ref 83), (1, .int (Zi n)), (2, .int (Zi v))], []) _ _ _
  refine Z_go (f2 := (1, [(0, .ref 83), (1, .int (Zi n)), (2, .int (Zi v))], [.int (Zi 0)])) (fun _ => rfl) ?_
  refine Z_go (f2 := (2, [(3, .int (Zi 0)), (0, .ref 83), (1, .int (Zi n)), (2, .int (Zi v))], [])) (fun _ => rfl) ?_
  refine Z_go (f2 := (3, [(3, .int (Zi 0)), (0, .ref 83), (1, .int (Zi n)), (2, .int (Zi v))], [.int (Zi n)])) (fun _ => rfl) ?_
  refine Z_go (f2 := (5, [(4, .int (Zi n)), (3, .int (Zi 0)), (0, .ref 83), (1, .int (Zi n)), (2, .int (Zi v))], [])) (fun _ => rfl) ?_
  refine R_isInRow_lp hs zv n1 srt (fun lo hi l0 l1 i1 i2 => ?_) (n.toNat + 1) _ _ (by omega) (by omega) n0 (by omega) (fun i a b => by omega) (fun i a b => by omega)
  refine Z_go (f2 := (46, [(4, .int (Zi hi)), (3, .int (Zi lo)), (0, .ref 83), (1, .int (Zi n)), (2, .int (Zi v))], [.int (Zi lo)])) (fun _ => rfl) ?_
  refine Z_go (f2 := (47, [(4, .int (Zi hi)), (3, .int (Zi lo)), (0, .ref 83), (1, .int (Zi n)), (2, .int (Zi v))], [.int (Zi n), .int (Zi lo)])) (fun _ => rfl) ?_
  refine Z_cge rfl rfl (by first | exact hs.zF _ | exact Zor_r _ _ | exact hs.zA _ _ | assumption | exact zA _ _ | exact zS _ | exact Zr_not (hs.zA _ _) | exact ⟨by omega, by omega⟩) (by first | exact hs.zF _ | exact Zor_r _ _ | exact hs.zA _ _ | assumption | exact zA _ _ | exact zS _ | exact Zr_not (hs.zA _ _) | exact ⟨by omega, by omega⟩) (fun c1 => ?_) (fun c1 => ?_)
  · refine Z_go (f2 := (65, [(4, .int (Zi hi)), (3, .int (Zi lo)), (0, .ref 83), (1, .int (Zi n)), (2, .int (Zi v))], [.int (Zi 0)])) (fun _ => rfl) ?_
    refine Z_iret rfl rfl (by first | rfl | decide | exact narrow_b01 (by omega)) ⟨_, hs, ?_, rfl⟩
    exact ⟨rfl, _, rfl, .inr ⟨rfl, fun ⟨i, a, b, e⟩ => (Classical.em (i < lo)).elim (fun c => by have := i1 i a c; omega) (fun c => by have := i2 lo (by omega) (by omega); have := D_srt_le srt l0 (show lo ≤ i by omega) b; omega)⟩⟩
  · refine Z_go (f2 := (51, [(4, .int (Zi hi)), (3, .int (Zi lo)), (0, .ref 83), (1, .int (Zi n)), (2, .int (Zi v))], [.ref 83])) (fun _ => rfl) ?_
    refine R_gr (q := 87) rfl hs rfl ?_
    show B_R _ _ (54, [(4, .int (Zi hi)), (3, .int (Zi lo)), (0, .ref 83), (1, .int (Zi n)), (2, .int (Zi v))], [.ref 89]) _ _ _
    refine Z_go (f2 := (55, [(4, .int (Zi hi)), (3, .int (Zi lo)), (0, .ref 83), (1, .int (Zi n)), (2, .int (Zi v))], [.int (Zi lo), .ref 89])) (fun _ => rfl) ?_
    refine R_ia (q := 5) rfl hs rfl rfl (by omega) (by omega) (by decide) ?_
    refine Z_go (f2 := (57, [(4, .int (Zi hi)), (3, .int (Zi lo)), (0, .ref 83), (1, .int (Zi n)), (2, .int (Zi v))], [.int (Zi v), .int (Zi (s.2.1 89 lo))])) (fun _ => rfl) ?_
    refine Z_cne rfl rfl (by first | exact hs.zF _ | exact Zor_r _ _ | exact hs.zA _ _ | assumption | exact zA _ _ | exact zS _ | exact Zr_not (hs.zA _ _) | exact ⟨by omega, by omega⟩) (by first | exact hs.zF _ | exact Zor_r _ _ | exact hs.zA _ _ | assumption | exact zA _ _ | exact zS _ | exact Zr_not (hs.zA _ _) | exact ⟨by omega, by omega⟩) (fun c2 => ?_) (fun c2 => ?_)
    · refine Z_go (f2 := (65, [(4, .int (Zi hi)), (3, .int (Zi lo)), (0, .ref 83), (1, .int (Zi n)), (2, .int (Zi v))], [.int (Zi 0)])) (fun _ => rfl) ?_
      refine Z_iret rfl rfl (by first | rfl | decide | exact narrow_b01 (by omega)) ⟨_, hs, ?_, rfl⟩
      exact ⟨rfl, _, rfl, .inr ⟨rfl, fun ⟨i, a, b, e⟩ => (Classical.em (i < lo)).elim (fun c => by have := i1 i a c; omega) (fun c => by have := i2 lo (by omega) (by omega); have := D_srt_le srt l0 (show lo ≤ i by omega) b; omega)⟩⟩
    · refine Z_go (f2 := (61, [(4, .int (Zi hi)), (3, .int (Zi lo)), (0, .ref 83), (1, .int (Zi n)), (2, .int (Zi v))], [.int (Zi 1)])) (fun _ => rfl) ?_
      refine Z_go (f2 := (65, [(4, .int (Zi hi)), (3, .int (Zi lo)), (0, .ref 83), (1, .int (Zi n)), (2, .int (Zi v))], [.int (Zi 1)])) (fun _ => rfl) ?_
      refine Z_iret rfl rfl (by first | rfl | decide | exact narrow_b01 (by omega)) ⟨_, hs, ?_, rfl⟩
      exact ⟨rfl, _, rfl, .inl ⟨rfl, lo, l0, by omega, by omega⟩⟩
def R_gm (s : R_S) (p : Int) : Int := 65536 * s.2.1 85 p + 256 * s.2.1 85 (p + 1) + s.2.1 85 (p + 2)
theorem R_gramAt (d : Nat) (s : R_S) {p : Int}  (zp : Zr p) (p0 : 0 ≤ p) (p1 : p + 2 < 17000) : R_ok (d + 1) 185 [.int (Zi p)] s (fun x s2 => s2 = s ∧ x = some (.int (Zi (R_gm s p)))) := by
  refine R_enter (M := E_m185) rfl (Nat.le_of_ble_eq_true rfl) (fun h0 h hs => ?_)
  show B_R d _ (0, [(0, .ref 83), (1, .int (Zi p))], []) _ _ _
  refine Z_go (f2 := (2, [(0, .ref 83), (1, .int (Zi p))], [.int (Zi 65536)])) (fun _ => rfl) ?_
  refine Z_go (f2 := (3, [(0, .ref 83), (1, .int (Zi p))], [.ref 83, .int (Zi 65536)])) (fun _ => rfl) ?_
  refine R_gr (q := 83) rfl hs rfl ?_
  show B_R _ _ (6, [(0, .ref 83), (1, .int (Zi p))], [.ref 85, .int (Zi 65536)]) _ _ _
  refine Z_go (f2 := (7, [(0, .ref 83), (1, .int (Zi p))], [.int (Zi p), .ref 85, .int (Zi 65536)])) (fun _ => rfl) ?_
  refine R_ia (q := 1) rfl hs rfl rfl (by omega) (by omega) (by decide) ?_
  refine Z_imul rfl ?_
  refine Z_go (f2 := (12, [(0, .ref 83), (1, .int (Zi p))], [.int (Zi 256), .int (Zi (65536 * (s.2.1 85 p)))])) (fun _ => rfl) ?_
  refine Z_go (f2 := (13, [(0, .ref 83), (1, .int (Zi p))], [.ref 83, .int (Zi 256), .int (Zi (65536 * (s.2.1 85 p)))])) (fun _ => rfl) ?_
  refine R_gr (q := 83) rfl hs rfl ?_
  show B_R _ _ (16, [(0, .ref 83), (1, .int (Zi p))], [.ref 85, .int (Zi 256), .int (Zi (65536 * (s.2.1 85 p)))]) _ _ _
  refine Z_go (f2 := (17, [(0, .ref 83), (1, .int (Zi p))], [.int (Zi p), .ref 85, .int (Zi 256), .int (Zi (65536 * (s.2.1 85 p)))])) (fun _ => rfl) ?_
  refine Z_go (f2 := (18, [(0, .ref 83), (1, .int (Zi p))], [.int (Zi 1), .int (Zi p), .ref 85, .int (Zi 256), .int (Zi (65536 * (s.2.1 85 p)))])) (fun _ => rfl) ?_
  refine Z_iadd rfl ?_
  refine R_ia (q := 1) rfl hs rfl rfl (by omega) (by omega) (by decide) ?_
  refine Z_imul rfl ?_
  refine Z_iadd rfl ?_
  refine Z_go (f2 := (23, [(0, .ref 83), (1, .int (Zi p))], [.ref 83, .int (Zi (65536 * (s.2.1 85 p) + (256 * (s.2.1 85 (p + 1)))))])) (fun _ => rfl) ?_
  refine R_gr (q := 83) rfl hs rfl ?_
  show B_R _ _ (26, [(0, .ref 83), (1, .int (Zi p))], [.ref 85, .int (Zi (65536 * (s.2.1 85 p) + (256 * (s.2.1 85 (p + 1)))))]) _ _ _
  refine Z_go (f2 := (27, [(0, .ref 83), (1, .int (Zi p))], [.int (Zi p), .ref 85, .int (Zi (65536 * (s.2.1 85 p) + (256 * (s.2.1 85 (p + 1)))))])) (fun _ => rfl) ?_
  refine Z_go (f2 := (28, [(0, .ref 83), (1, .int (Zi p))], [.int (Zi 2), .int (Zi p), .ref 85, .int (Zi (65536 * (s.2.1 85 p) + (256 * (s.2.1 85 (p + 1)))))])) (fun _ => rfl) ?_
  refine Z_iadd rfl ?_
  refine R_ia (q := 1) rfl hs rfl rfl (by omega) (by omega) (by decide) ?_
  refine Z_iadd rfl ?_
  refine Z_iret rfl rfl (by first | rfl | decide | exact narrow_b01 (by omega)) ⟨_, hs, ?_, rfl⟩
  exact ⟨rfl, rfl⟩
theorem R_byt {s : R_S} (h : ∀ j, 0 ≤ s.2.1 85 j ∧ s.2.1 85 j < 256) (p : Int) : 0 ≤ R_gm s p ∧ R_gm s p < 16777216 := by
  unfold R_gm
  have h1 := h p
  have h2 := h (p + 1)
  have h3 := h (p + 2)
  omega
/-- u is s, but for the row of grams: from place fr on k grams of the file f stand there -/
def R_gath (s u : R_S) (f fr k : Int) : Prop := u.1 = s.1 ∧ (∀ q j, u.2.1 q j = if q = 89 ∧ fr ≤ j ∧ j < fr + k then R_gm s (s.2.1 86 f + (j - fr)) else s.2.1 q j) ∧ u.2.2 = s.2.2
theorem R_gath_ne {s u : R_S} {f fr k : Int} (h : R_gath s u f fr k) {q : Nat} (hq : q ≠ 89) (j : Int) : u.2.1 q j = s.2.1 q j := by
  rw [h.2.1, if_neg (fun e => hq e.1)]
theorem R_gath_gm {s u : R_S} {f fr k : Int} (h : R_gath s u f fr k) (p : Int) : R_gm u p = R_gm s p := by
  unfold R_gm
  rw [R_gath_ne h (by decide), R_gath_ne h (by decide), R_gath_ne h (by decide)]
theorem R_gath_st {s u : R_S} {f fr k n : Int} (h : R_gath s u f fr k) (k0 : 0 ≤ k) (hn : n = fr + k) : R_gath s (R_sA u 89 n (R_gm u (u.2.1 86 f + k))) f fr (k + 1) := by
  refine ⟨h.1, fun q j => ?_, h.2.2⟩
  show R_up2 u.2.1 89 n _ q j = _
  unfold R_up2
  rw [R_gath_gm h, R_gath_ne h (by decide)]
  by_cases c : q = 89 ∧ j = n
  · obtain ⟨c1, c2⟩ := c
    rw [if_pos ⟨c1, c2⟩, if_pos ⟨c1, by omega, by omega⟩]
    congr 1
    omega
  · rw [if_neg c, h.2.1]
    by_cases c3 : q = 89 ∧ fr ≤ j ∧ j < fr + k
    · rw [if_pos c3, if_pos ⟨c3.1, c3.2.1, by omega⟩]
    · rw [if_neg c3, if_neg (fun e => c3 ⟨e.1, e.2.1, by have := e.2.2; have : ¬ j = n := fun z => c ⟨e.1, z⟩; omega⟩)]
theorem R_gathers_lp {d : Nat} {h0 : E_H} {s : R_S} {sl : Nat} {Φ : E_R → Prop} {f fr : Int} (zf : Zr f) (f0 : 0 ≤ f) (f1 : f < 200) (r0 : 0 ≤ fr) (r1 : fr ≤ 16000) (r2 : fr + s.2.1 87 f ≤ 16000) (a0 : 0 ≤ s.2.1 86 f) (a1 : s.2.1 86 f + s.2.1 87 f ≤ 16000) (b0 : 0 ≤ s.2.1 87 f) (hb : ∀ j, 0 ≤ s.2.1 85 j ∧ s.2.1 85 j < 256) (kont : ∀ (k n : Int) (u : R_S) (h : E_H), R_is h0 h u → R_gath s u f fr k → n = fr + k → 0 ≤ k → s.2.1 87 f ≤ k + 2 → (k = 0 ∨ k + 2 = s.2.1 87 f) → B_R (d + 1) E_m188 (46, [(4, .int (Zi k)), (3, .int (Zi n)), (0, .ref 83), (1, .int (Zi f)), (2, .int (Zi fr))], []) h sl Φ) : ∀ (t : Nat) (k n : Int) (u : R_S) (h : E_H), s.2.1 87 f - k < t → R_is h0 h u → R_gath s u f fr k → n = fr + k → 0 ≤ k → (k = 0 ∨ k + 2 ≤ s.2.1 87 f) → B_R (d + 1) E_m188 (5, [(4, .int (Zi k)), (3, .int (Zi n)), (0, .ref 83), (1, .int (Zi f)), (2, .int (Zi fr))], []) h sl Φ := by
  intro t
  induction t with
  | zero =>
    intro k n u h ht hs hu hn k0 k1
    have e86 := R_gath_ne hu (show 86 ≠ 89 by decide) f
    have e87 := R_gath_ne hu (show 87 ≠ 89 by decide) f
    have hz : Zr (R_gm u (u.2.1 86 f + k)) := by rw [R_gath_gm hu]; have := R_byt hb (u.2.1 86 f + k); exact ⟨by omega, by omega⟩
    refine Z_go (f2 := (7, [(4, .int (Zi k)), (3, .int (Zi n)), (0, .ref 83), (1, .int (Zi f)), (2, .int (Zi fr))], [.int (Zi k)])) (fun _ => rfl) ?_
    refine Z_go (f2 := (8, [(4, .int (Zi k)), (3, .int (Zi n)), (0, .ref 83), (1, .int (Zi f)), (2, .int (Zi fr))], [.int (Zi 2), .int (Zi k)])) (fun _ => rfl) ?_
    refine Z_iadd rfl ?_
    refine Z_go (f2 := (10, [(4, .int (Zi k)), (3, .int (Zi n)), (0, .ref 83), (1, .int (Zi f)), (2, .int (Zi fr))], [.ref 83, .int (Zi (k + 2))])) (fun _ => rfl) ?_
    refine R_gr (q := 85) rfl hs rfl ?_
    show B_R _ _ (13, [(4, .int (Zi k)), (3, .int (Zi n)), (0, .ref 83), (1, .int (Zi f)), (2, .int (Zi fr))], [.ref 87, .int (Zi (k + 2))]) _ _ _
    refine Z_go (f2 := (14, [(4, .int (Zi k)), (3, .int (Zi n)), (0, .ref 83), (1, .int (Zi f)), (2, .int (Zi fr))], [.int (Zi f), .ref 87, .int (Zi (k + 2))])) (fun _ => rfl) ?_
    refine R_ia (q := 3) rfl hs rfl rfl (by omega) (by omega) (by decide) ?_
    refine Z_cge rfl rfl (by first | exact hs.zF _ | exact Zor_r _ _ | exact hs.zA _ _ | assumption | exact zA _ _ | exact zS _ | exact Zr_not (hs.zA _ _) | exact ⟨by omega, by omega⟩) (by first | exact hs.zF _ | exact Zor_r _ _ | exact hs.zA _ _ | assumption | exact zA _ _ | exact zS _ | exact Zr_not (hs.zA _ _) | exact ⟨by omega, by omega⟩) (fun c1 => ?_) (fun c1 => ?_)
    · exact kont k n u h hs hu hn k0 (by omega) (by omega)
    · exfalso; omega
  | succ t ih =>
    intro k n u h ht hs hu hn k0 k1
    have e86 := R_gath_ne hu (show 86 ≠ 89 by decide) f
    have e87 := R_gath_ne hu (show 87 ≠ 89 by decide) f
    have hz : Zr (R_gm u (u.2.1 86 f + k)) := by rw [R_gath_gm hu]; have := R_byt hb (u.2.1 86 f + k); exact ⟨by omega, by omega⟩
    refine Z_go (f2 := (7, [(4, .int (Zi k)), (3, .int (Zi n)), (0, .ref 83), (1, .int (Zi f)), (2, .int (Zi fr))], [.int (Zi k)])) (fun _ => rfl) ?_
    refine Z_go (f2 := (8, [(4, .int (Zi k)), (3, .int (Zi n)), (0, .ref 83), (1, .int (Zi f)), (2, .int (Zi fr))], [.int (Zi 2), .int (Zi k)])) (fun _ => rfl) ?_
    refine Z_iadd rfl ?_
    refine Z_go (f2 := (10, [(4, .int (Zi k)), (3, .int (Zi n)), (0, .ref 83), (1, .int (Zi f)), (2, .int (Zi fr))], [.ref 83, .int (Zi (k + 2))])) (fun _ => rfl) ?_
    refine R_gr (q := 85) rfl hs rfl ?_
    show B_R _ _ (13, [(4, .int (Zi k)), (3, .int (Zi n)), (0, .ref 83), (1, .int (Zi f)), (2, .int (Zi fr))], [.ref 87, .int (Zi (k + 2))]) _ _ _
    refine Z_go (f2 := (14, [(4, .int (Zi k)), (3, .int (Zi n)), (0, .ref 83), (1, .int (Zi f)), (2, .int (Zi fr))], [.int (Zi f), .ref 87, .int (Zi (k + 2))])) (fun _ => rfl) ?_
    refine R_ia (q := 3) rfl hs rfl rfl (by omega) (by omega) (by decide) ?_
    refine Z_cge rfl rfl (by first | exact hs.zF _ | exact Zor_r _ _ | exact hs.zA _ _ | assumption | exact zA _ _ | exact zS _ | exact Zr_not (hs.zA _ _) | exact ⟨by omega, by omega⟩) (by first | exact hs.zF _ | exact Zor_r _ _ | exact hs.zA _ _ | assumption | exact zA _ _ | exact zS _ | exact Zr_not (hs.zA _ _) | exact ⟨by omega, by omega⟩) (fun c1 => ?_) (fun c1 => ?_)
    · exact kont k n u h hs hu hn k0 (by omega) (by omega)
    · refine Z_go (f2 := (19, [(4, .int (Zi k)), (3, .int (Zi n)), (0, .ref 83), (1, .int (Zi f)), (2, .int (Zi fr))], [.ref 83])) (fun _ => rfl) ?_
      refine R_gr (q := 87) rfl hs rfl ?_
      show B_R _ _ (22, [(4, .int (Zi k)), (3, .int (Zi n)), (0, .ref 83), (1, .int (Zi f)), (2, .int (Zi fr))], [.ref 89]) _ _ _
      refine Z_go (f2 := (23, [(4, .int (Zi k)), (3, .int (Zi n)), (0, .ref 83), (1, .int (Zi f)), (2, .int (Zi fr))], [.int (Zi n), .ref 89])) (fun _ => rfl) ?_
      refine Z_go (f2 := (24, [(4, .int (Zi k)), (3, .int (Zi n)), (0, .ref 83), (1, .int (Zi f)), (2, .int (Zi fr))], [.ref 83, .int (Zi n), .ref 89])) (fun _ => rfl) ?_
      refine Z_go (f2 := (25, [(4, .int (Zi k)), (3, .int (Zi n)), (0, .ref 83), (1, .int (Zi f)), (2, .int (Zi fr))], [.ref 83, .ref 83, .int (Zi n), .ref 89])) (fun _ => rfl) ?_
      refine R_gr (q := 84) rfl hs rfl ?_
      show B_R _ _ (28, [(4, .int (Zi k)), (3, .int (Zi n)), (0, .ref 83), (1, .int (Zi f)), (2, .int (Zi fr))], [.ref 86, .ref 83, .int (Zi n), .ref 89]) _ _ _
      refine Z_go (f2 := (29, [(4, .int (Zi k)), (3, .int (Zi n)), (0, .ref 83), (1, .int (Zi f)), (2, .int (Zi fr))], [.int (Zi f), .ref 86, .ref 83, .int (Zi n), .ref 89])) (fun _ => rfl) ?_
      refine R_ia (q := 2) rfl hs rfl rfl (by omega) (by omega) (by decide) ?_
      refine Z_go (f2 := (32, [(4, .int (Zi k)), (3, .int (Zi n)), (0, .ref 83), (1, .int (Zi f)), (2, .int (Zi fr))], [.int (Zi k), .int (Zi (u.2.1 86 f)), .ref 83, .int (Zi n), .ref 89])) (fun _ => rfl) ?_
      refine Z_iadd rfl ?_
      refine R_call (As := [.int (Zi (u.2.1 86 f + k))]) (rest := [.int (Zi n), .ref 89]) rfl (by decide) rfl rfl rfl rfl (by decide +kernel) (Nat.le_of_ble_eq_true rfl) hs (R_gramAt _ u (by exact ⟨by omega, by omega⟩) (by omega) (by omega)) (fun x h s2 hs q => ?_)
      obtain ⟨q0, rfl⟩ := q
      rw [q0] at hs
      show B_R _ _ (36, [(4, .int (Zi k)), (3, .int (Zi n)), (0, .ref 83), (1, .int (Zi f)), (2, .int (Zi fr))], [.int (Zi (R_gm u (u.2.1 86 f + k))), .int (Zi n), .ref 89]) _ _ _
      refine R_is_ (q := 5) rfl hs rfl rfl (by omega) (by omega) (by decide) (by first | exact hs.zF _ | exact Zor_r _ _ | exact hs.zA _ _ | assumption | exact zA _ _ | exact zS _ | exact Zr_not (hs.zA _ _) | exact ⟨by omega, by omega⟩) (fun h hs => ?_)
      refine Z_iinc (L2 := [(3, .int (Zi (n + 1))), (4, .int (Zi k)), (0, .ref 83), (1, .int (Zi f)), (2, .int (Zi fr))]) rfl rfl (by decide) rfl ?_
      refine Z_iinc (L2 := [(4, .int (Zi (k + 1))), (3, .int (Zi (n + 1))), (0, .ref 83), (1, .int (Zi f)), (2, .int (Zi fr))]) rfl rfl (by decide) rfl ?_
      refine Z_go (f2 := (5, [(4, .int (Zi (k + 1))), (3, .int (Zi (n + 1))), (0, .ref 83), (1, .int (Zi f)), (2, .int (Zi fr))], [])) (fun _ => rfl) ?_
      refine B_loc (K := [(4, .int (Zi (k + 1))), (3, .int (Zi (n + 1))), (0, .ref 83), (1, .int (Zi f)), (2, .int (Zi fr))]) (N_all_sub ⟨rfl, rfl, rfl, rfl, rfl, trivial⟩) (show ([4, 3, 0, 1, 2] : List Nat).Nodup by decide) ?_
      exact ih _ _ _ _ (by omega) hs (R_gath_st hu k0 hn) (by omega) (by omega) (by omega)
theorem R_gathers (d : Nat) (s : R_S) {f fr : Int}  (zf : Zr f) (zfr : Zr fr) (f0 : 0 ≤ f) (f1 : f < 200) (r0 : 0 ≤ fr) (r1 : fr ≤ 16000) (r2 : fr + s.2.1 87 f ≤ 16000) (a0 : 0 ≤ s.2.1 86 f) (a1 : s.2.1 86 f + s.2.1 87 f ≤ 16000) (b0 : 0 ≤ s.2.1 87 f) (hb : ∀ j, 0 ≤ s.2.1 85 j ∧ s.2.1 85 j < 256) : R_ok (d + 2) 188 [.int (Zi f), .int (Zi fr)] s (fun x s2 => ∃ k : Int, x = some (.int (Zi (fr + k))) ∧ R_gath s s2 f fr k ∧ 0 ≤ k ∧ s.2.1 87 f ≤ k + 2 ∧ (k = 0 ∨ k + 2 = s.2.1 87 f)) := by
  refine R_enter (M := E_m188) rfl (Nat.le_of_ble_eq_true rfl) (fun h0 h hs => ?_)
  show B_R (d + 1) _ (0, [(0, .ref 83), (1, .int (Zi f)), (2, .int (Zi fr))], []) _ _ _
  refine Z_go (f2 := (1, [(0, .ref 83), (1, .int (Zi f)), (2, .int (Zi fr))], [.int (Zi fr)])) (fun _ => rfl) ?_
  refine Z_go (f2 := (2, [(3, .int (Zi fr)), (0, .ref 83), (1, .int (Zi f)), (2, .int (Zi fr))], [])) (fun _ => rfl) ?_
  refine Z_go (f2 := (3, [(3, .int (Zi fr)), (0, .ref 83), (1, .int (Zi f)), (2, .int (Zi fr))], [.int (Zi 0)])) (fun _ => rfl) ?_
  refine Z_go (f2 := (5, [(4, .int (Zi 0)), (3, .int (Zi fr)), (0, .ref 83), (1, .int (Zi f)), (2, .int (Zi fr))], [])) (fun _ => rfl) ?_
  refine R_gathers_lp zf f0 f1 r0 r1 r2 a0 a1 b0 hb (fun k n u h hs hu hn k0 k1 k2 => ?_) ((s.2.1 87 f).toNat + 1) _ _ _ _ (by omega) hs ⟨rfl, fun q j => by rw [if_neg (by omega)], rfl⟩ (by omega) (by omega) (by omega)
  refine Z_go (f2 := (47, [(4, .int (Zi k)), (3, .int (Zi n)), (0, .ref 83), (1, .int (Zi f)), (2, .int (Zi fr))], [.int (Zi n)])) (fun _ => rfl) ?_
  refine Z_iret rfl rfl (by first | rfl | decide | exact narrow_b01 (by omega)) ⟨_, hs, ?_, rfl⟩
  exact ⟨k, by rw [hn], hu, k0, k1, k2⟩
