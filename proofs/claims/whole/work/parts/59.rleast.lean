/-! the reference: which of the pairs are least -/
/-- the pair i lies in the pair k -/
def R_W (s : R_S) (i k : Int) : Prop := ∀ j, 0 ≤ j → j < s.2.1 107 i → D_in (fun x => s.2.1 108 (640 * k + x)) (s.2.1 107 k) (s.2.1 108 (640 * i + j))
/-- i sends k away -/
def R_gq (s : R_S) (k i : Int) : Prop := i ≠ k ∧ R_W s i k ∧ (i < k ∨ ¬ R_W s k i)
def R_go (s : R_S) (k : Int) : Prop := ∃ i, 0 ≤ i ∧ i < s.1 37 ∧ R_gq s k i
/-- the pairs stand as they should -/
def R_pv (s : R_S) : Prop := 0 ≤ s.1 37 ∧ s.1 37 ≤ 580 ∧ ∀ i, 0 ≤ i → i < s.1 37 → 0 ≤ s.2.1 107 i ∧ s.2.1 107 i ≤ 640 ∧ D_srt (fun x => s.2.1 108 (640 * i + x)) (s.2.1 107 i)
/-- u is s, but the arrays Q -/
def R_only (Q : List Nat) (s u : R_S) : Prop := u.1 = s.1 ∧ (∀ q j, q ∉ Q → u.2.1 q j = s.2.1 q j) ∧ u.2.2 = s.2.2
theorem R_only_0 (Q : List Nat) (s : R_S) : R_only Q s s := ⟨rfl, fun _ _ _ => rfl, rfl⟩
theorem R_only.st {Q : List Nat} {s u : R_S} (h : R_only Q s u) {q : Nat} (hq : q ∈ Q) (i v : Int) : R_only Q s (R_sA u q i v) := ⟨h.1, fun p j hp => by rw [R_sA_n u _ _ _ (fun e => hp (by rw [e]; exact hq))]; exact h.2.1 p j hp, h.2.2⟩
theorem R_only.trans {Q : List Nat} {s u w : R_S} (h : R_only Q s u) (g : R_only Q u w) : R_only Q s w := ⟨by rw [g.1, h.1], fun q j hq => by rw [g.2.1 q j hq, h.2.1 q j hq], by rw [g.2.2, h.2.2]⟩
theorem R_W_only {s u : R_S} (h : R_only [109] s u) (i k : Int) : R_W u i k ↔ R_W s i k := by
  unfold R_W
  rw [h.2.1 107 _ (by decide), h.2.1 107 _ (by decide)]
  have : ∀ x, u.2.1 108 x = s.2.1 108 x := fun x => h.2.1 108 x (by decide)
  simp only [this]
theorem R_pv_only {s u : R_S} (h : R_only [109] s u) (p : R_pv s) : R_pv u := by
  refine ⟨by rw [h.1]; exact p.1, by rw [h.1]; exact p.2.1, fun i i0 i1 => ?_⟩
  rw [h.1] at i1
  rw [h.2.1 107 _ (by decide)]
  have : (fun x => u.2.1 108 (640 * i + x)) = fun x => s.2.1 108 (640 * i + x) := by
    funext x
    exact h.2.1 108 _ (by decide)
  rw [this]
  exact p.2.2 i i0 i1
theorem R_go_only {s u : R_S} (h : R_only [109] s u) (k : Int) : R_go u k ↔ R_go s k := by
  unfold R_go R_gq
  rw [h.1]
  simp only [R_W_only h]
/-- how many -/
def D_cn (P : Int → Prop) (k m : Int) : Prop := ∃ l : List Int, l.Nodup ∧ (l.length : Int) = m ∧ ∀ j, j ∈ l ↔ 0 ≤ j ∧ j < k ∧ P j
theorem D_cn_0 (P : Int → Prop) : D_cn P 0 0 := ⟨[], List.nodup_nil, rfl, fun j => ⟨fun h => absurd h List.not_mem_nil, fun h => by omega⟩⟩
theorem D_cn_no {P : Int → Prop} {k m : Int} (h : D_cn P k m) (n : ¬ P k) : D_cn P (k + 1) m := by
  obtain ⟨l, h1, h2, h3⟩ := h
  refine ⟨l, h1, h2, fun j => (h3 j).trans ⟨fun e => ⟨e.1, by omega, e.2.2⟩, fun e => ⟨e.1, ?_, e.2.2⟩⟩⟩
  have : j ≠ k := fun q => n (q ▸ e.2.2)
  omega
theorem D_cn_yes {P : Int → Prop} {k m : Int} (h : D_cn P k m) (k0 : 0 ≤ k) (y : P k) : D_cn P (k + 1) (m + 1) := by
  obtain ⟨l, h1, h2, h3⟩ := h
  refine ⟨k :: l, List.nodup_cons.mpr ⟨fun e => by have := (h3 k).mp e; omega, h1⟩, by simp only [List.length_cons]; omega, fun j => ?_⟩
  rw [List.mem_cons, h3]
  constructor
  · rintro (rfl | e)
    · exact ⟨k0, by omega, y⟩
    · exact ⟨e.1, by omega, e.2.2⟩
  · intro e
    by_cases c : j = k
    · exact .inl c
    · exact .inr ⟨e.1, by omega, e.2.2⟩
theorem D_cn_le {P : Int → Prop} {k m : Int} (h : D_cn P k m) (k0 : 0 ≤ k) : 0 ≤ m ∧ m ≤ k := by
  obtain ⟨l, h1, h2, h3⟩ := h
  refine ⟨by omega, ?_⟩
  have := (S_card_of h1 (A := fun j => j ∈ l) (fun _ => Iff.rfl) k.toNat).mp ⟨(List.range k.toNat).map (fun i : Nat => (i : Int)), by simp, fun x hx => ?_⟩
  · omega
  · have := (h3 x).mp hx
    exact List.mem_map.mpr ⟨x.toNat, List.mem_range.mpr (by omega), by omega⟩
theorem R_lp_in {d : Nat} {h0 : E_H} {s : R_S} {sl : Nat} {Φ : E_R → Prop} {k m : Int} (pv : R_pv s) (k0 : 0 ≤ k) (k1 : k < s.1 37) (kont : ∀ (g : Int) (h : E_H), R_is h0 h s → (g = 1 ∧ R_go s k ∨ g = 0 ∧ ¬ R_go s k) → B_R (d + 1) E_m226 (74, [(3, .int (Zi g)), (2, .int (Zi k)), (0, .ref 83), (1, .int (Zi m))], []) h sl Φ) : ∀ (t : Nat) (i g : Int) (h : E_H), s.1 37 - i < t → R_is h0 h s → 0 ≤ i → i ≤ s.1 37 → ((g = 1 ∧ R_go s k) ∨ (g = 0 ∧ ∀ j, 0 ≤ j → j < i → ¬ R_gq s k j)) → B_R (d + 1) E_m226 (17, [(4, .int (Zi i)), (3, .int (Zi g)), (2, .int (Zi k)), (0, .ref 83), (1, .int (Zi m))], []) h sl Φ := by
  obtain ⟨hp0, hp1, hp⟩ := id pv
  intro t
  induction t with
  | zero => intro i g h ht hs i0 i1 hi; omega
  | succ t ih =>
    intro i g h ht hs i0 i1 hi
    refine Z_go (f2 := (19, [(4, .int (Zi i)), (3, .int (Zi g)), (2, .int (Zi k)), (0, .ref 83), (1, .int (Zi m))], [.int (Zi i)])) (fun _ => rfl) ?_
    refine Z_go (f2 := (20, [(4, .int (Zi i)), (3, .int (Zi g)), (2, .int (Zi k)), (0, .ref 83), (1, .int (Zi m))], [.ref 83, .int (Zi i)])) (fun _ => rfl) ?_
    refine R_gi rfl hs rfl ?_
    show B_R _ _ (23, [(4, .int (Zi i)), (3, .int (Zi g)), (2, .int (Zi k)), (0, .ref 83), (1, .int (Zi m))], [.int (Zi (s.1 37)), .int (Zi i)]) _ _ _
    refine Z_cge rfl rfl (by first | exact hs.zF _ | exact Zor_r _ _ | exact hs.zA _ _ | assumption | exact zS _ | exact Zr_not (hs.zA _ _) | exact ⟨by omega, by omega⟩) (by first | exact hs.zF _ | exact Zor_r _ _ | exact hs.zA _ _ | assumption | exact zS _ | exact Zr_not (hs.zA _ _) | exact ⟨by omega, by omega⟩) (fun c1 => ?_) (fun c1 => ?_)
    · refine B_loc (K := [(3, .int (Zi g)), (2, .int (Zi k)), (0, .ref 83), (1, .int (Zi m))]) (N_all_sub ⟨rfl, rfl, rfl, rfl, trivial⟩) (show ([3, 2, 0, 1] : List Nat).Nodup by decide) ?_
      refine kont g h hs ?_
      rcases hi with hi | ⟨hi, hj⟩
      · exact .inl hi
      · exact .inr ⟨hi, fun ⟨j, j0, j1, j2⟩ => hj j j0 (by omega) j2⟩
    · refine Z_go (f2 := (27, [(4, .int (Zi i)), (3, .int (Zi g)), (2, .int (Zi k)), (0, .ref 83), (1, .int (Zi m))], [.int (Zi g)])) (fun _ => rfl) ?_
      refine Z_ine rfl rfl (by first | exact hs.zF _ | exact Zor_r _ _ | exact hs.zA _ _ | assumption | exact zS _ | exact Zr_not (hs.zA _ _) | exact ⟨by omega, by omega⟩) (fun c2 => ?_) (fun c2 => ?_)
      · refine B_loc (K := [(3, .int (Zi g)), (2, .int (Zi k)), (0, .ref 83), (1, .int (Zi m))]) (N_all_sub ⟨rfl, rfl, rfl, rfl, trivial⟩) (show ([3, 2, 0, 1] : List Nat).Nodup by decide) ?_
        refine kont g h hs ?_
        rcases hi with hi | ⟨hi, hj⟩
        · exact .inl hi
        · omega
      · refine Z_go (f2 := (32, [(4, .int (Zi i)), (3, .int (Zi g)), (2, .int (Zi k)), (0, .ref 83), (1, .int (Zi m))], [.int (Zi i)])) (fun _ => rfl) ?_
        refine Z_go (f2 := (33, [(4, .int (Zi i)), (3, .int (Zi g)), (2, .int (Zi k)), (0, .ref 83), (1, .int (Zi m))], [.int (Zi k), .int (Zi i)])) (fun _ => rfl) ?_
        refine Z_ceq rfl rfl (by first | exact hs.zF _ | exact Zor_r _ _ | exact hs.zA _ _ | assumption | exact zS _ | exact Zr_not (hs.zA _ _) | exact ⟨by omega, by omega⟩) (by first | exact hs.zF _ | exact Zor_r _ _ | exact hs.zA _ _ | assumption | exact zS _ | exact Zr_not (hs.zA _ _) | exact ⟨by omega, by omega⟩) (fun c3 => ?_) (fun c3 => ?_)
        · refine Z_go (f2 := (67, [(4, .int (Zi i)), (3, .int (Zi g)), (2, .int (Zi k)), (0, .ref 83), (1, .int (Zi m))], [.int (Zi 0)])) (fun _ => rfl) ?_
          refine Z_go (f2 := (68, [(3, .int (Zi 0)), (4, .int (Zi i)), (2, .int (Zi k)), (0, .ref 83), (1, .int (Zi m))], [])) (fun _ => rfl) ?_
          refine Z_iinc (L2 := [(4, .int (Zi (i + 1))), (3, .int (Zi 0)), (2, .int (Zi k)), (0, .ref 83), (1, .int (Zi m))]) rfl rfl (by decide) rfl ?_
          refine Z_go (f2 := (17, [(4, .int (Zi (i + 1))), (3, .int (Zi 0)), (2, .int (Zi k)), (0, .ref 83), (1, .int (Zi m))], [])) (fun _ => rfl) ?_
          refine B_loc (K := [(4, .int (Zi (i + 1))), (3, .int (Zi 0)), (2, .int (Zi k)), (0, .ref 83), (1, .int (Zi m))]) (N_all_sub ⟨rfl, rfl, rfl, rfl, rfl, trivial⟩) (show ([4, 3, 2, 0, 1] : List Nat).Nodup by decide) ?_
          refine ih (i + 1) 0 h (by omega) hs (by omega) (by omega) (.inr ⟨rfl, fun j j0 j1 => ?_⟩)
          rcases hi with hi | ⟨hi, hj⟩
          · omega
          · by_cases c : j = i
            · subst c
              rintro ⟨w1, w2, w3⟩
              omega
            · exact hj j j0 (by omega)
        · refine Z_go (f2 := (37, [(4, .int (Zi i)), (3, .int (Zi g)), (2, .int (Zi k)), (0, .ref 83), (1, .int (Zi m))], [.ref 83])) (fun _ => rfl) ?_
          refine Z_go (f2 := (39, [(4, .int (Zi i)), (3, .int (Zi g)), (2, .int (Zi k)), (0, .ref 83), (1, .int (Zi m))], [.int (Zi i), .ref 83])) (fun _ => rfl) ?_
          refine Z_go (f2 := (40, [(4, .int (Zi i)), (3, .int (Zi g)), (2, .int (Zi k)), (0, .ref 83), (1, .int (Zi m))], [.int (Zi k), .int (Zi i), .ref 83])) (fun _ => rfl) ?_
          refine R_call (As := [.int (Zi i), .int (Zi k)]) (rest := []) rfl (by decide) rfl rfl rfl rfl (by decide +kernel) (Nat.le_of_ble_eq_true rfl) hs (R_isWithin _ s (by first | assumption | exact hs.zF _ | exact hs.zA _ _ | exact ⟨by omega, by omega⟩ | omega) (by first | assumption | exact hs.zF _ | exact hs.zA _ _ | exact ⟨by omega, by omega⟩ | omega) (by first | assumption | exact hs.zF _ | exact hs.zA _ _ | exact ⟨by omega, by omega⟩ | omega) (by first | assumption | exact hs.zF _ | exact hs.zA _ _ | exact ⟨by omega, by omega⟩ | omega) (by first | assumption | exact hs.zF _ | exact hs.zA _ _ | exact ⟨by omega, by omega⟩ | omega) (by first | assumption | exact hs.zF _ | exact hs.zA _ _ | exact ⟨by omega, by omega⟩ | omega) (hp _ (by first | assumption | exact hs.zF _ | exact hs.zA _ _ | exact ⟨by omega, by omega⟩ | omega) (by first | assumption | exact hs.zF _ | exact hs.zA _ _ | exact ⟨by omega, by omega⟩ | omega)).1 (hp _ (by first | assumption | exact hs.zF _ | exact hs.zA _ _ | exact ⟨by omega, by omega⟩ | omega) (by first | assumption | exact hs.zF _ | exact hs.zA _ _ | exact ⟨by omega, by omega⟩ | omega)).1 (hp _ (by first | assumption | exact hs.zF _ | exact hs.zA _ _ | exact ⟨by omega, by omega⟩ | omega) (by first | assumption | exact hs.zF _ | exact hs.zA _ _ | exact ⟨by omega, by omega⟩ | omega)).2.1 (hp _ (by first | assumption | exact hs.zF _ | exact hs.zA _ _ | exact ⟨by omega, by omega⟩ | omega) (by first | assumption | exact hs.zF _ | exact hs.zA _ _ | exact ⟨by omega, by omega⟩ | omega)).2.1 (hp _ (by first | assumption | exact hs.zF _ | exact hs.zA _ _ | exact ⟨by omega, by omega⟩ | omega) (by first | assumption | exact hs.zF _ | exact hs.zA _ _ | exact ⟨by omega, by omega⟩ | omega)).2.2 (hp _ (by first | assumption | exact hs.zF _ | exact hs.zA _ _ | exact ⟨by omega, by omega⟩ | omega) (by first | assumption | exact hs.zF _ | exact hs.zA _ _ | exact ⟨by omega, by omega⟩ | omega)).2.2) (fun x h s2 hs q => ?_)
          obtain ⟨q0, v1, rfl, hv1⟩ := q
          rw [q0] at hs
          have hv1 : v1 = 1 ∧ R_W s i k ∨ v1 = 0 ∧ ¬ R_W s i k := hv1
          show B_R _ _ (43, [(4, .int (Zi i)), (3, .int (Zi g)), (2, .int (Zi k)), (0, .ref 83), (1, .int (Zi m))], [.int (Zi v1)]) _ _ _
          refine Z_ieq rfl rfl (by first | exact hs.zF _ | exact Zor_r _ _ | exact hs.zA _ _ | assumption | exact zS _ | exact Zr_not (hs.zA _ _) | exact ⟨by omega, by omega⟩) (fun c4 => ?_) (fun c4 => ?_)
          · refine Z_go (f2 := (67, [(4, .int (Zi i)), (3, .int (Zi g)), (2, .int (Zi k)), (0, .ref 83), (1, .int (Zi m))], [.int (Zi 0)])) (fun _ => rfl) ?_
            refine Z_go (f2 := (68, [(3, .int (Zi 0)), (4, .int (Zi i)), (2, .int (Zi k)), (0, .ref 83), (1, .int (Zi m))], [])) (fun _ => rfl) ?_
            refine Z_iinc (L2 := [(4, .int (Zi (i + 1))), (3, .int (Zi 0)), (2, .int (Zi k)), (0, .ref 83), (1, .int (Zi m))]) rfl rfl (by decide) rfl ?_
            refine Z_go (f2 := (17, [(4, .int (Zi (i + 1))), (3, .int (Zi 0)), (2, .int (Zi k)), (0, .ref 83), (1, .int (Zi m))], [])) (fun _ => rfl) ?_
            refine B_loc (K := [(4, .int (Zi (i + 1))), (3, .int (Zi 0)), (2, .int (Zi k)), (0, .ref 83), (1, .int (Zi m))]) (N_all_sub ⟨rfl, rfl, rfl, rfl, rfl, trivial⟩) (show ([4, 3, 2, 0, 1] : List Nat).Nodup by decide) ?_
            refine ih (i + 1) 0 h (by omega) hs (by omega) (by omega) (.inr ⟨rfl, fun j j0 j1 => ?_⟩)
            rcases hi with hi | ⟨hi, hj⟩
            · omega
            · by_cases c : j = i
              · subst c
                rintro ⟨w1, w2, w3⟩
                rcases hv1 with q | q
                · omega
                · exact q.2 w2
              · exact hj j j0 (by omega)
          · refine Z_go (f2 := (48, [(4, .int (Zi i)), (3, .int (Zi g)), (2, .int (Zi k)), (0, .ref 83), (1, .int (Zi m))], [.int (Zi i)])) (fun _ => rfl) ?_
            refine Z_go (f2 := (49, [(4, .int (Zi i)), (3, .int (Zi g)), (2, .int (Zi k)), (0, .ref 83), (1, .int (Zi m))], [.int (Zi k), .int (Zi i)])) (fun _ => rfl) ?_
            refine Z_clt rfl rfl (by first | exact hs.zF _ | exact Zor_r _ _ | exact hs.zA _ _ | assumption | exact zS _ | exact Zr_not (hs.zA _ _) | exact ⟨by omega, by omega⟩) (by first | exact hs.zF _ | exact Zor_r _ _ | exact hs.zA _ _ | assumption | exact zS _ | exact Zr_not (hs.zA _ _) | exact ⟨by omega, by omega⟩) (fun c5 => ?_) (fun c5 => ?_)
            · refine Z_go (f2 := (63, [(4, .int (Zi i)), (3, .int (Zi g)), (2, .int (Zi k)), (0, .ref 83), (1, .int (Zi m))], [.int (Zi 1)])) (fun _ => rfl) ?_
              refine Z_go (f2 := (67, [(4, .int (Zi i)), (3, .int (Zi g)), (2, .int (Zi k)), (0, .ref 83), (1, .int (Zi m))], [.int (Zi 1)])) (fun _ => rfl) ?_
              refine Z_go (f2 := (68, [(3, .int (Zi 1)), (4, .int (Zi i)), (2, .int (Zi k)), (0, .ref 83), (1, .int (Zi m))], [])) (fun _ => rfl) ?_
              refine Z_iinc (L2 := [(4, .int (Zi (i + 1))), (3, .int (Zi 1)), (2, .int (Zi k)), (0, .ref 83), (1, .int (Zi m))]) rfl rfl (by decide) rfl ?_
              refine Z_go (f2 := (17, [(4, .int (Zi (i + 1))), (3, .int (Zi 1)), (2, .int (Zi k)), (0, .ref 83), (1, .int (Zi m))], [])) (fun _ => rfl) ?_
              refine B_loc (K := [(4, .int (Zi (i + 1))), (3, .int (Zi 1)), (2, .int (Zi k)), (0, .ref 83), (1, .int (Zi m))]) (N_all_sub ⟨rfl, rfl, rfl, rfl, rfl, trivial⟩) (show ([4, 3, 2, 0, 1] : List Nat).Nodup by decide) ?_
              exact ih (i + 1) 1 h (by omega) hs (by omega) (by omega) (.inl ⟨rfl, i, i0, by omega, by omega, by rcases hv1 with q | q; exact q.2; omega, .inl (by omega)⟩)
            · refine Z_go (f2 := (53, [(4, .int (Zi i)), (3, .int (Zi g)), (2, .int (Zi k)), (0, .ref 83), (1, .int (Zi m))], [.ref 83])) (fun _ => rfl) ?_
              refine Z_go (f2 := (54, [(4, .int (Zi i)), (3, .int (Zi g)), (2, .int (Zi k)), (0, .ref 83), (1, .int (Zi m))], [.int (Zi k), .ref 83])) (fun _ => rfl) ?_
              refine Z_go (f2 := (56, [(4, .int (Zi i)), (3, .int (Zi g)), (2, .int (Zi k)), (0, .ref 83), (1, .int (Zi m))], [.int (Zi i), .int (Zi k), .ref 83])) (fun _ => rfl) ?_
              refine R_call (As := [.int (Zi k), .int (Zi i)]) (rest := []) rfl (by decide) rfl rfl rfl rfl (by decide +kernel) (Nat.le_of_ble_eq_true rfl) hs (R_isWithin _ s (by first | assumption | exact hs.zF _ | exact hs.zA _ _ | exact ⟨by omega, by omega⟩ | omega) (by first | assumption | exact hs.zF _ | exact hs.zA _ _ | exact ⟨by omega, by omega⟩ | omega) (by first | assumption | exact hs.zF _ | exact hs.zA _ _ | exact ⟨by omega, by omega⟩ | omega) (by first | assumption | exact hs.zF _ | exact hs.zA _ _ | exact ⟨by omega, by omega⟩ | omega) (by first | assumption | exact hs.zF _ | exact hs.zA _ _ | exact ⟨by omega, by omega⟩ | omega) (by first | assumption | exact hs.zF _ | exact hs.zA _ _ | exact ⟨by omega, by omega⟩ | omega) (hp _ (by first | assumption | exact hs.zF _ | exact hs.zA _ _ | exact ⟨by omega, by omega⟩ | omega) (by first | assumption | exact hs.zF _ | exact hs.zA _ _ | exact ⟨by omega, by omega⟩ | omega)).1 (hp _ (by first | assumption | exact hs.zF _ | exact hs.zA _ _ | exact ⟨by omega, by omega⟩ | omega) (by first | assumption | exact hs.zF _ | exact hs.zA _ _ | exact ⟨by omega, by omega⟩ | omega)).1 (hp _ (by first | assumption | exact hs.zF _ | exact hs.zA _ _ | exact ⟨by omega, by omega⟩ | omega) (by first | assumption | exact hs.zF _ | exact hs.zA _ _ | exact ⟨by omega, by omega⟩ | omega)).2.1 (hp _ (by first | assumption | exact hs.zF _ | exact hs.zA _ _ | exact ⟨by omega, by omega⟩ | omega) (by first | assumption | exact hs.zF _ | exact hs.zA _ _ | exact ⟨by omega, by omega⟩ | omega)).2.1 (hp _ (by first | assumption | exact hs.zF _ | exact hs.zA _ _ | exact ⟨by omega, by omega⟩ | omega) (by first | assumption | exact hs.zF _ | exact hs.zA _ _ | exact ⟨by omega, by omega⟩ | omega)).2.2 (hp _ (by first | assumption | exact hs.zF _ | exact hs.zA _ _ | exact ⟨by omega, by omega⟩ | omega) (by first | assumption | exact hs.zF _ | exact hs.zA _ _ | exact ⟨by omega, by omega⟩ | omega)).2.2) (fun x h s2 hs q => ?_)
              obtain ⟨q0, v2, rfl, hv2⟩ := q
              rw [q0] at hs
              have hv2 : v2 = 1 ∧ R_W s k i ∨ v2 = 0 ∧ ¬ R_W s k i := hv2
              show B_R _ _ (59, [(4, .int (Zi i)), (3, .int (Zi g)), (2, .int (Zi k)), (0, .ref 83), (1, .int (Zi m))], [.int (Zi v2)]) _ _ _
              refine Z_ine rfl rfl (by first | exact hs.zF _ | exact Zor_r _ _ | exact hs.zA _ _ | assumption | exact zS _ | exact Zr_not (hs.zA _ _) | exact ⟨by omega, by omega⟩) (fun c6 => ?_) (fun c6 => ?_)
              · refine Z_go (f2 := (67, [(4, .int (Zi i)), (3, .int (Zi g)), (2, .int (Zi k)), (0, .ref 83), (1, .int (Zi m))], [.int (Zi 0)])) (fun _ => rfl) ?_
                refine Z_go (f2 := (68, [(3, .int (Zi 0)), (4, .int (Zi i)), (2, .int (Zi k)), (0, .ref 83), (1, .int (Zi m))], [])) (fun _ => rfl) ?_
                refine Z_iinc (L2 := [(4, .int (Zi (i + 1))), (3, .int (Zi 0)), (2, .int (Zi k)), (0, .ref 83), (1, .int (Zi m))]) rfl rfl (by decide) rfl ?_
                refine Z_go (f2 := (17, [(4, .int (Zi (i + 1))), (3, .int (Zi 0)), (2, .int (Zi k)), (0, .ref 83), (1, .int (Zi m))], [])) (fun _ => rfl) ?_
                refine B_loc (K := [(4, .int (Zi (i + 1))), (3, .int (Zi 0)), (2, .int (Zi k)), (0, .ref 83), (1, .int (Zi m))]) (N_all_sub ⟨rfl, rfl, rfl, rfl, rfl, trivial⟩) (show ([4, 3, 2, 0, 1] : List Nat).Nodup by decide) ?_
                refine ih (i + 1) 0 h (by omega) hs (by omega) (by omega) (.inr ⟨rfl, fun j j0 j1 => ?_⟩)
                rcases hi with hi | ⟨hi, hj⟩
                · omega
                · by_cases c : j = i
                  · subst c
                    rintro ⟨w1, w2, w3⟩
                    rcases w3 with w3 | w3
                    · omega
                    · rcases hv2 with q | q
                      · exact w3 q.2
                      · omega
                  · exact hj j j0 (by omega)
              · refine Z_go (f2 := (63, [(4, .int (Zi i)), (3, .int (Zi g)), (2, .int (Zi k)), (0, .ref 83), (1, .int (Zi m))], [.int (Zi 1)])) (fun _ => rfl) ?_
                refine Z_go (f2 := (67, [(4, .int (Zi i)), (3, .int (Zi g)), (2, .int (Zi k)), (0, .ref 83), (1, .int (Zi m))], [.int (Zi 1)])) (fun _ => rfl) ?_
                refine Z_go (f2 := (68, [(3, .int (Zi 1)), (4, .int (Zi i)), (2, .int (Zi k)), (0, .ref 83), (1, .int (Zi m))], [])) (fun _ => rfl) ?_
                refine Z_iinc (L2 := [(4, .int (Zi (i + 1))), (3, .int (Zi 1)), (2, .int (Zi k)), (0, .ref 83), (1, .int (Zi m))]) rfl rfl (by decide) rfl ?_
                refine Z_go (f2 := (17, [(4, .int (Zi (i + 1))), (3, .int (Zi 1)), (2, .int (Zi k)), (0, .ref 83), (1, .int (Zi m))], [])) (fun _ => rfl) ?_
                refine B_loc (K := [(4, .int (Zi (i + 1))), (3, .int (Zi 1)), (2, .int (Zi k)), (0, .ref 83), (1, .int (Zi m))]) (N_all_sub ⟨rfl, rfl, rfl, rfl, rfl, trivial⟩) (show ([4, 3, 2, 0, 1] : List Nat).Nodup by decide) ?_
                exact ih (i + 1) 1 h (by omega) hs (by omega) (by omega) (.inl ⟨rfl, i, i0, by omega, by omega, by rcases hv1 with q | q; exact q.2; omega, .inr (by rcases hv2 with q | q; omega; exact q.2)⟩)
theorem R_flag {s u : R_S} {k v : Int} (hu : R_only [109] s u) (h : (∀ j, 0 ≤ j → j < k → (u.2.1 109 j = 1 ∧ ¬ R_go s j ∨ u.2.1 109 j = 0 ∧ R_go s j))) (hv : v = 1 ∧ ¬ R_go s k ∨ v = 0 ∧ R_go s k) : ∀ j, 0 ≤ j → j < k + 1 → ((R_sA u 109 k v).2.1 109 j = 1 ∧ ¬ R_go s j ∨ (R_sA u 109 k v).2.1 109 j = 0 ∧ R_go s j) := by
  intro j j0 j1
  by_cases c : j = k
  · rw [c, R_sA_s]
    exact hv
  · rw [R_sA_m _ _ _ _ c]
    exact h j j0 (by omega)
theorem R_lp_out {d : Nat} {h0 : E_H} {s : R_S} {sl : Nat} {Φ : E_R → Prop} (pv : R_pv s) (kont : ∀ (u : R_S) (h : E_H) (m : Int), R_is h0 h u → R_only [109] s u → (∀ j, 0 ≤ j → j < s.1 37 → (u.2.1 109 j = 1 ∧ ¬ R_go s j ∨ u.2.1 109 j = 0 ∧ R_go s j)) → D_cn (fun j => ¬ R_go s j) (s.1 37) m → B_R (d + 1) E_m226 (107, [(0, .ref 83), (1, .int (Zi m))], []) h sl Φ) : ∀ (t : Nat) (k m : Int) (u : R_S) (h : E_H), s.1 37 - k < t → R_is h0 h u → R_only [109] s u → (∀ j, 0 ≤ j → j < k → (u.2.1 109 j = 1 ∧ ¬ R_go s j ∨ u.2.1 109 j = 0 ∧ R_go s j)) → D_cn (fun j => ¬ R_go s j) k m → 0 ≤ k → k ≤ s.1 37 → B_R (d + 1) E_m226 (4, [(2, .int (Zi k)), (0, .ref 83), (1, .int (Zi m))], []) h sl Φ := by
  intro t
  induction t with
  | zero => intro k m u h ht hs hu hf hm k0 k1; omega
  | succ t ih =>
    intro k m u h ht hs hu hf hm k0 k1
    have e37 : u.1 37 = s.1 37 := by rw [hu.1]
    have hml := D_cn_le hm k0
    have p37 := pv.2.1
    refine Z_go (f2 := (5, [(2, .int (Zi k)), (0, .ref 83), (1, .int (Zi m))], [.int (Zi k)])) (fun _ => rfl) ?_
    refine Z_go (f2 := (6, [(2, .int (Zi k)), (0, .ref 83), (1, .int (Zi m))], [.ref 83, .int (Zi k)])) (fun _ => rfl) ?_
    refine R_gi rfl hs rfl ?_
    show B_R _ _ (9, [(2, .int (Zi k)), (0, .ref 83), (1, .int (Zi m))], [.int (Zi (u.1 37)), .int (Zi k)]) _ _ _
    refine Z_cge rfl rfl (by first | exact hs.zF _ | exact Zor_r _ _ | exact hs.zA _ _ | assumption | exact zS _ | exact Zr_not (hs.zA _ _) | exact ⟨by omega, by omega⟩) (by first | exact hs.zF _ | exact Zor_r _ _ | exact hs.zA _ _ | assumption | exact zS _ | exact Zr_not (hs.zA _ _) | exact ⟨by omega, by omega⟩) (fun c1 => ?_) (fun c1 => ?_)
    · refine B_loc (K := [(0, .ref 83), (1, .int (Zi m))]) (N_all_sub ⟨rfl, rfl, trivial⟩) (show ([0, 1] : List Nat).Nodup by decide) ?_
      have e : k = s.1 37 := by omega
      rw [e] at hf hm
      exact kont u h m hs hu hf hm
    · refine Z_go (f2 := (13, [(2, .int (Zi k)), (0, .ref 83), (1, .int (Zi m))], [.int (Zi 0)])) (fun _ => rfl) ?_
      refine Z_go (f2 := (14, [(3, .int (Zi 0)), (2, .int (Zi k)), (0, .ref 83), (1, .int (Zi m))], [])) (fun _ => rfl) ?_
      refine Z_go (f2 := (15, [(3, .int (Zi 0)), (2, .int (Zi k)), (0, .ref 83), (1, .int (Zi m))], [.int (Zi 0)])) (fun _ => rfl) ?_
      refine Z_go (f2 := (17, [(4, .int (Zi 0)), (3, .int (Zi 0)), (2, .int (Zi k)), (0, .ref 83), (1, .int (Zi m))], [])) (fun _ => rfl) ?_
      refine B_loc (K := [(4, .int (Zi 0)), (3, .int (Zi 0)), (2, .int (Zi k)), (0, .ref 83), (1, .int (Zi m))]) (N_all_sub ⟨rfl, rfl, rfl, rfl, rfl, trivial⟩) (show ([4, 3, 2, 0, 1] : List Nat).Nodup by decide) ?_
      refine R_lp_in (s := u) (R_pv_only hu pv) k0 (by omega) (fun g h hs hg => ?_) ((u.1 37).toNat + 1) 0 0 h (by omega) hs (by omega) (by omega) (.inr ⟨rfl, fun j j0 j1 => by omega⟩)
      rw [R_go_only hu] at hg
      refine Z_go (f2 := (75, [(3, .int (Zi g)), (2, .int (Zi k)), (0, .ref 83), (1, .int (Zi m))], [.ref 83])) (fun _ => rfl) ?_
      refine R_gr (q := 107) rfl hs rfl ?_
      show B_R _ _ (78, [(3, .int (Zi g)), (2, .int (Zi k)), (0, .ref 83), (1, .int (Zi m))], [.ref 109]) _ _ _
      refine Z_go (f2 := (79, [(3, .int (Zi g)), (2, .int (Zi k)), (0, .ref 83), (1, .int (Zi m))], [.int (Zi k), .ref 109])) (fun _ => rfl) ?_
      refine Z_go (f2 := (80, [(3, .int (Zi g)), (2, .int (Zi k)), (0, .ref 83), (1, .int (Zi m))], [.int (Zi g), .int (Zi k), .ref 109])) (fun _ => rfl) ?_
      refine Z_ine rfl rfl (by first | exact hs.zF _ | exact Zor_r _ _ | exact hs.zA _ _ | assumption | exact zS _ | exact Zr_not (hs.zA _ _) | exact ⟨by omega, by omega⟩) (fun b1 => ?_) (fun b1 => ?_)
      · refine Z_go (f2 := (88, [(3, .int (Zi g)), (2, .int (Zi k)), (0, .ref 83), (1, .int (Zi m))], [.int (Zi 0), .int (Zi k), .ref 109])) (fun _ => rfl) ?_
        refine R_bs (q := 25) rfl hs rfl rfl (by omega) (by omega) (by decide) (by first | exact .inl rfl | exact .inr rfl | assumption) (fun h hs => ?_)
        refine Z_go (f2 := (90, [(3, .int (Zi g)), (2, .int (Zi k)), (0, .ref 83), (1, .int (Zi m))], [.int (Zi m)])) (fun _ => rfl) ?_
        refine Z_go (f2 := (91, [(3, .int (Zi g)), (2, .int (Zi k)), (0, .ref 83), (1, .int (Zi m))], [.int (Zi g), .int (Zi m)])) (fun _ => rfl) ?_
        refine Z_ieq rfl rfl (by first | exact hs.zF _ | exact Zor_r _ _ | exact hs.zA _ _ | assumption | exact zS _ | exact Zr_not (hs.zA _ _) | exact ⟨by omega, by omega⟩) (fun b2 => ?_) (fun b2 => ?_)
        · refine Z_go (f2 := (99, [(3, .int (Zi g)), (2, .int (Zi k)), (0, .ref 83), (1, .int (Zi m))], [.int (Zi 1), .int (Zi m)])) (fun _ => rfl) ?_
          refine Z_iadd rfl ?_
          refine Z_go (f2 := (101, [(1, .int (Zi (m + 1))), (3, .int (Zi g)), (2, .int (Zi k)), (0, .ref 83)], [])) (fun _ => rfl) ?_
          refine Z_iinc (L2 := [(2, .int (Zi (k + 1))), (1, .int (Zi (m + 1))), (3, .int (Zi g)), (0, .ref 83)]) rfl rfl (by decide) rfl ?_
          refine Z_go (f2 := (4, [(2, .int (Zi (k + 1))), (1, .int (Zi (m + 1))), (3, .int (Zi g)), (0, .ref 83)], [])) (fun _ => rfl) ?_
          exfalso; omega
        · refine Z_go (f2 := (95, [(3, .int (Zi g)), (2, .int (Zi k)), (0, .ref 83), (1, .int (Zi m))], [.int (Zi 0), .int (Zi m)])) (fun _ => rfl) ?_
          refine Z_go (f2 := (99, [(3, .int (Zi g)), (2, .int (Zi k)), (0, .ref 83), (1, .int (Zi m))], [.int (Zi 0), .int (Zi m)])) (fun _ => rfl) ?_
          refine Z_iadd rfl ?_
          refine Z_go (f2 := (101, [(1, .int (Zi (m + 0))), (3, .int (Zi g)), (2, .int (Zi k)), (0, .ref 83)], [])) (fun _ => rfl) ?_
          refine Z_iinc (L2 := [(2, .int (Zi (k + 1))), (1, .int (Zi (m + 0))), (3, .int (Zi g)), (0, .ref 83)]) rfl rfl (by decide) rfl ?_
          refine Z_go (f2 := (4, [(2, .int (Zi (k + 1))), (1, .int (Zi (m + 0))), (3, .int (Zi g)), (0, .ref 83)], [])) (fun _ => rfl) ?_
          refine B_loc (K := [(2, .int (Zi (k + 1))), (0, .ref 83), (1, .int (Zi (m + 0)))]) (N_all_sub ⟨rfl, rfl, rfl, trivial⟩) (show ([2, 0, 1] : List Nat).Nodup by decide) ?_
          rw [Int.add_zero]
          exact ih (k + 1) m _ h (by omega) hs (hu.st (by decide) _ _) (R_flag hu hf (.inr ⟨rfl, by rcases hg with q | q; exact q.2; omega⟩)) (D_cn_no hm (fun q => q (by rcases hg with z | z; exact z.2; omega))) (by omega) (by omega)
      · refine Z_go (f2 := (84, [(3, .int (Zi g)), (2, .int (Zi k)), (0, .ref 83), (1, .int (Zi m))], [.int (Zi 1), .int (Zi k), .ref 109])) (fun _ => rfl) ?_
        refine Z_go (f2 := (88, [(3, .int (Zi g)), (2, .int (Zi k)), (0, .ref 83), (1, .int (Zi m))], [.int (Zi 1), .int (Zi k), .ref 109])) (fun _ => rfl) ?_
        refine R_bs (q := 25) rfl hs rfl rfl (by omega) (by omega) (by decide) (by first | exact .inl rfl | exact .inr rfl | assumption) (fun h hs => ?_)
        refine Z_go (f2 := (90, [(3, .int (Zi g)), (2, .int (Zi k)), (0, .ref 83), (1, .int (Zi m))], [.int (Zi m)])) (fun _ => rfl) ?_
        refine Z_go (f2 := (91, [(3, .int (Zi g)), (2, .int (Zi k)), (0, .ref 83), (1, .int (Zi m))], [.int (Zi g), .int (Zi m)])) (fun _ => rfl) ?_
        refine Z_ieq rfl rfl (by first | exact hs.zF _ | exact Zor_r _ _ | exact hs.zA _ _ | assumption | exact zS _ | exact Zr_not (hs.zA _ _) | exact ⟨by omega, by omega⟩) (fun b3 => ?_) (fun b3 => ?_)
        · refine Z_go (f2 := (99, [(3, .int (Zi g)), (2, .int (Zi k)), (0, .ref 83), (1, .int (Zi m))], [.int (Zi 1), .int (Zi m)])) (fun _ => rfl) ?_
          refine Z_iadd rfl ?_
          refine Z_go (f2 := (101, [(1, .int (Zi (m + 1))), (3, .int (Zi g)), (2, .int (Zi k)), (0, .ref 83)], [])) (fun _ => rfl) ?_
          refine Z_iinc (L2 := [(2, .int (Zi (k + 1))), (1, .int (Zi (m + 1))), (3, .int (Zi g)), (0, .ref 83)]) rfl rfl (by decide) rfl ?_
          refine Z_go (f2 := (4, [(2, .int (Zi (k + 1))), (1, .int (Zi (m + 1))), (3, .int (Zi g)), (0, .ref 83)], [])) (fun _ => rfl) ?_
          refine B_loc (K := [(2, .int (Zi (k + 1))), (0, .ref 83), (1, .int (Zi (m + 1)))]) (N_all_sub ⟨rfl, rfl, rfl, trivial⟩) (show ([2, 0, 1] : List Nat).Nodup by decide) ?_
          exact ih (k + 1) (m + 1) _ h (by omega) hs (hu.st (by decide) _ _) (R_flag hu hf (.inl ⟨rfl, by rcases hg with q | q; omega; exact q.2⟩)) (D_cn_yes hm k0 (by rcases hg with q | q; omega; exact q.2)) (by omega) (by omega)
        · refine Z_go (f2 := (95, [(3, .int (Zi g)), (2, .int (Zi k)), (0, .ref 83), (1, .int (Zi m))], [.int (Zi 0), .int (Zi m)])) (fun _ => rfl) ?_
          refine Z_go (f2 := (99, [(3, .int (Zi g)), (2, .int (Zi k)), (0, .ref 83), (1, .int (Zi m))], [.int (Zi 0), .int (Zi m)])) (fun _ => rfl) ?_
          refine Z_iadd rfl ?_
          refine Z_go (f2 := (101, [(1, .int (Zi (m + 0))), (3, .int (Zi g)), (2, .int (Zi k)), (0, .ref 83)], [])) (fun _ => rfl) ?_
          refine Z_iinc (L2 := [(2, .int (Zi (k + 1))), (1, .int (Zi (m + 0))), (3, .int (Zi g)), (0, .ref 83)]) rfl rfl (by decide) rfl ?_
          refine Z_go (f2 := (4, [(2, .int (Zi (k + 1))), (1, .int (Zi (m + 0))), (3, .int (Zi g)), (0, .ref 83)], [])) (fun _ => rfl) ?_
          exfalso; omega
theorem R_leastPairs (d : Nat) (s : R_S)   (pv : R_pv s) : R_ok (d + 2) 226 [] s (fun x u => ∃ m : Int, x = some (.int (Zi m)) ∧ R_only [109] s u ∧ (∀ j, 0 ≤ j → j < s.1 37 → (u.2.1 109 j = 1 ∧ ¬ R_go s j ∨ u.2.1 109 j = 0 ∧ R_go s j)) ∧ D_cn (fun j => ¬ R_go s j) (s.1 37) m) := by
  refine R_enter (M := E_m226) rfl (Nat.le_of_ble_eq_true rfl) (fun h0 h hs => ?_)
  show B_R (d + 1) _ (0, [(0, .ref 83)], []) _ _ _
  refine Z_go (f2 := (1, [(0, .ref 83)], [.int (Zi 0)])) (fun _ => rfl) ?_
  refine Z_go (f2 := (2, [(1, .int (Zi 0)), (0, .ref 83)], [])) (fun _ => rfl) ?_
  refine Z_go (f2 := (3, [(1, .int (Zi 0)), (0, .ref 83)], [.int (Zi 0)])) (fun _ => rfl) ?_
  refine Z_go (f2 := (4, [(2, .int (Zi 0)), (1, .int (Zi 0)), (0, .ref 83)], [])) (fun _ => rfl) ?_
  refine B_loc (K := [(2, .int (Zi 0)), (0, .ref 83), (1, .int (Zi 0))]) (N_all_sub ⟨rfl, rfl, rfl, trivial⟩) (show ([2, 0, 1] : List Nat).Nodup by decide) ?_
  refine R_lp_out pv (fun u h m hs hu hf hm => ?_) ((s.1 37).toNat + 1) 0 0 s h (by omega) hs (R_only_0 _ _) (fun j j0 j1 => by omega) (D_cn_0 _) (by omega) pv.1
  refine Z_go (f2 := (108, [(0, .ref 83), (1, .int (Zi m))], [.int (Zi m)])) (fun _ => rfl) ?_
  refine Z_iret rfl rfl (by first | rfl | decide | exact narrow_b01 (by omega)) ⟨_, hs, ?_, rfl⟩
  exact ⟨m, rfl, hu, hf, hm⟩
