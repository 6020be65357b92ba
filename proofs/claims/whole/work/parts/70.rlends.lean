/-! the reference: the least ends -/
def X_pre (hd : Int) (a b : List Int) : Prop := if hd ≠ 0 then a <+: b else a <:+ b
theorem X_pp_pre {hd a b : Int} (ha : X_v a) (hb : X_v b) : X_pp hd a b ↔ X_pre hd (X_dec a) (X_dec b) := by
  unfold X_pre
  by_cases h : hd ≠ 0
  · rw [if_pos h]
    exact X_pp_hd h ha hb
  · rw [if_neg h]
    exact X_pp_tl (Classical.not_not.mp h) ha hb
/-- the ends gathered -/
def R_sv (s : R_S) : Prop := 0 ≤ s.1 41 ∧ s.1 41 ≤ 160 ∧ ∀ k, 0 ≤ k → k < s.1 41 → X_v (s.2.1 110 k)
def R_SH (s : R_S) : P_X := fun x => ∃ k, 0 ≤ k ∧ k < s.1 41 ∧ x = X_dec (s.2.1 110 k)
/-- i sends k away -/
def R_eq (s : R_S) (hd k i : Int) : Prop := i ≠ k ∧ X_pp hd (s.2.1 110 i) (s.2.1 110 k) ∧ (s.2.1 110 i ≠ s.2.1 110 k ∨ i < k)
def R_eo (s : R_S) (hd k : Int) : Prop := ∃ i, 0 ≤ i ∧ i < s.1 41 ∧ R_eq s hd k i
theorem R_eo_109 {s u : R_S} (h : R_only [109] s u) (hd k : Int) : R_eo u hd k ↔ R_eo s hd k := by
  unfold R_eo R_eq
  rw [h.1]
  have : ∀ x, u.2.1 110 x = s.2.1 110 x := fun x => h.2.1 110 x (by decide)
  simp only [this]
theorem R_sv_109 {s u : R_S} (h : R_only [109] s u) (p : R_sv s) : R_sv u := by
  refine ⟨by rw [h.1]; exact p.1, by rw [h.1]; exact p.2.1, fun k k0 k1 => ?_⟩
  rw [h.1] at k1
  rw [h.2.1 110 _ (by decide)]
  exact p.2.2 k k0 k1
theorem R_eo_min {s : R_S} {hd k : Int} (pv : R_sv s) (k0 : 0 ≤ k) (k1 : k < s.1 41) (h : ¬ R_eo s hd k) : S_min (X_pre hd) (R_SH s) (X_dec (s.2.1 110 k)) := by
  refine ⟨⟨k, k0, k1, rfl⟩, fun y hy hle => ?_⟩
  obtain ⟨i, i0, i1, rfl⟩ := hy
  by_cases e : s.2.1 110 i = s.2.1 110 k
  · rw [e]
  · exact absurd ⟨i, i0, i1, fun q => e (by rw [q]), (X_pp_pre (pv.2.2 i i0 i1) (pv.2.2 k k0 k1)).mpr hle, .inl e⟩ h
theorem R_min_eo {s : R_S} {hd : Int} {x : List Int} (pv : R_sv s) (h : S_min (X_pre hd) (R_SH s) x) : ∃ k, 0 ≤ k ∧ k < s.1 41 ∧ ¬ R_eo s hd k ∧ x = X_dec (s.2.1 110 k) := by
  obtain ⟨⟨i, i0, i1, hx⟩, hm⟩ := h
  obtain ⟨j, j0, j1, j2, j3⟩ := D_first (P := fun k => x = X_dec (s.2.1 110 k)) i.toNat i (by omega) i0 hx
  refine ⟨j, j0, by omega, fun ⟨q, q0, q1, q2, q3, q4⟩ => ?_, j2⟩
  have vq := pv.2.2 q q0 q1
  have vj := pv.2.2 j j0 (by omega)
  have e := hm (X_dec (s.2.1 110 q)) ⟨q, q0, q1, rfl⟩ (by rw [j2]; exact (X_pp_pre vq vj).mp q3)
  rcases q4 with q4 | q4
  · exact q4 (X_dec_inj vq vj (by rw [e, j2]))
  · exact j3 q q0 q4 e.symm
theorem R_eo_ne {s : R_S} {hd j k : Int} (j0 : 0 ≤ j) (jk : j < k) (k1 : k < s.1 41) (hk : ¬ R_eo s hd k) : s.2.1 110 j ≠ s.2.1 110 k := by
  intro e
  exact hk ⟨j, j0, by omega, by omega, .inr (.inl e), .inr jk⟩
theorem R_ls_in {d : Nat} {h0 h : E_H} {s : R_S} {sl : Nat} {Φ : E_R → Prop} {k m hd : Int} (zhd : Zr hd) (hs : R_is h0 h s) (pv : R_sv s) (k0 : 0 ≤ k) (k1 : k < s.1 41) (kont : ∀ (g : Int), (g = 1 ∧ R_eo s hd k ∨ g = 0 ∧ ¬ R_eo s hd k) → B_R (d + 2) E_m218 (93, [(4, .int (Zi g)), (3, .int (Zi k)), (2, .int (Zi m)), (0, .ref 83), (1, .int (Zi hd))], []) h sl Φ) : ∀ (t : Nat) (i g : Int), s.1 41 - i < t → 0 ≤ i → i ≤ s.1 41 → ((g = 1 ∧ R_eo s hd k) ∨ (g = 0 ∧ ∀ j, 0 ≤ j → j < i → ¬ R_eq s hd k j)) → B_R (d + 2) E_m218 (18, [(5, .int (Zi i)), (4, .int (Zi g)), (3, .int (Zi k)), (2, .int (Zi m)), (0, .ref 83), (1, .int (Zi hd))], []) h sl Φ := by
  have hp1 := pv.2.1
  intro t
  induction t with
  | zero => intro i g ht i0 i1 hi; omega
  | succ t ih =>
    intro i g ht i0 i1 hi
    refine Z_go (f2 := (20, [(5, .int (Zi i)), (4, .int (Zi g)), (3, .int (Zi k)), (2, .int (Zi m)), (0, .ref 83), (1, .int (Zi hd))], [.int (Zi i)])) (fun _ => rfl) ?_
    refine Z_go (f2 := (21, [(5, .int (Zi i)), (4, .int (Zi g)), (3, .int (Zi k)), (2, .int (Zi m)), (0, .ref 83), (1, .int (Zi hd))], [.ref 83, .int (Zi i)])) (fun _ => rfl) ?_
    refine R_gi rfl hs rfl ?_
    show B_R _ _ (24, [(5, .int (Zi i)), (4, .int (Zi g)), (3, .int (Zi k)), (2, .int (Zi m)), (0, .ref 83), (1, .int (Zi hd))], [.int (Zi (s.1 41)), .int (Zi i)]) _ _ _
    refine Z_cge rfl rfl (by first | exact hs.zF _ | exact Zor_r _ _ | exact hs.zA _ _ | assumption | exact zA _ _ | exact zS _ | exact Zr_not (hs.zA _ _) | exact ⟨by omega, by omega⟩) (by first | exact hs.zF _ | exact Zor_r _ _ | exact hs.zA _ _ | assumption | exact zA _ _ | exact zS _ | exact Zr_not (hs.zA _ _) | exact ⟨by omega, by omega⟩) (fun c1 => ?_) (fun c1 => ?_)
    · refine B_loc (K := [(4, .int (Zi g)), (3, .int (Zi k)), (2, .int (Zi m)), (0, .ref 83), (1, .int (Zi hd))]) (N_all_sub ⟨rfl, rfl, rfl, rfl, rfl, trivial⟩) (show ([4, 3, 2, 0, 1] : List Nat).Nodup by decide) ?_
      refine kont g ?_
      rcases hi with hi | ⟨hi, hj⟩
      · exact .inl hi
      · exact .inr ⟨hi, fun ⟨j, j0, j1, j2⟩ => hj j j0 (by omega) j2⟩
    · refine Z_go (f2 := (29, [(5, .int (Zi i)), (4, .int (Zi g)), (3, .int (Zi k)), (2, .int (Zi m)), (0, .ref 83), (1, .int (Zi hd))], [.int (Zi g)])) (fun _ => rfl) ?_
      refine Z_ine rfl rfl (by first | exact hs.zF _ | exact Zor_r _ _ | exact hs.zA _ _ | assumption | exact zA _ _ | exact zS _ | exact Zr_not (hs.zA _ _) | exact ⟨by omega, by omega⟩) (fun c2 => ?_) (fun c2 => ?_)
      · refine B_loc (K := [(4, .int (Zi g)), (3, .int (Zi k)), (2, .int (Zi m)), (0, .ref 83), (1, .int (Zi hd))]) (N_all_sub ⟨rfl, rfl, rfl, rfl, rfl, trivial⟩) (show ([4, 3, 2, 0, 1] : List Nat).Nodup by decide) ?_
        refine kont g ?_
        rcases hi with hi | ⟨hi, hj⟩
        · exact .inl hi
        · omega
      · refine Z_go (f2 := (34, [(5, .int (Zi i)), (4, .int (Zi g)), (3, .int (Zi k)), (2, .int (Zi m)), (0, .ref 83), (1, .int (Zi hd))], [.int (Zi i)])) (fun _ => rfl) ?_
        refine Z_go (f2 := (35, [(5, .int (Zi i)), (4, .int (Zi g)), (3, .int (Zi k)), (2, .int (Zi m)), (0, .ref 83), (1, .int (Zi hd))], [.int (Zi k), .int (Zi i)])) (fun _ => rfl) ?_
        refine Z_ceq rfl rfl (by first | exact hs.zF _ | exact Zor_r _ _ | exact hs.zA _ _ | assumption | exact zA _ _ | exact zS _ | exact Zr_not (hs.zA _ _) | exact ⟨by omega, by omega⟩) (by first | exact hs.zF _ | exact Zor_r _ _ | exact hs.zA _ _ | assumption | exact zA _ _ | exact zS _ | exact Zr_not (hs.zA _ _) | exact ⟨by omega, by omega⟩) (fun c3 => ?_) (fun c3 => ?_)
        · refine Z_go (f2 := (85, [(5, .int (Zi i)), (4, .int (Zi g)), (3, .int (Zi k)), (2, .int (Zi m)), (0, .ref 83), (1, .int (Zi hd))], [.int (Zi 0)])) (fun _ => rfl) ?_
          refine Z_go (f2 := (87, [(4, .int (Zi 0)), (5, .int (Zi i)), (3, .int (Zi k)), (2, .int (Zi m)), (0, .ref 83), (1, .int (Zi hd))], [])) (fun _ => rfl) ?_
          refine Z_iinc (L2 := [(5, .int (Zi (i + 1))), (4, .int (Zi 0)), (3, .int (Zi k)), (2, .int (Zi m)), (0, .ref 83), (1, .int (Zi hd))]) rfl rfl (by decide) rfl ?_
          refine Z_go (f2 := (18, [(5, .int (Zi (i + 1))), (4, .int (Zi 0)), (3, .int (Zi k)), (2, .int (Zi m)), (0, .ref 83), (1, .int (Zi hd))], [])) (fun _ => rfl) ?_
          refine B_loc (K := [(5, .int (Zi (i + 1))), (4, .int (Zi 0)), (3, .int (Zi k)), (2, .int (Zi m)), (0, .ref 83), (1, .int (Zi hd))]) (N_all_sub ⟨rfl, rfl, rfl, rfl, rfl, rfl, trivial⟩) (show ([5, 4, 3, 2, 0, 1] : List Nat).Nodup by decide) ?_
          refine ih (i + 1) 0 (by omega) (by omega) (by omega) (.inr ⟨rfl, fun j j0 j1 => ?_⟩)
          rcases hi with hi | ⟨hi, hj⟩
          · omega
          · by_cases c : j = i
            · subst c
              rintro ⟨w1, w2, w3⟩
              omega
            · exact hj j j0 (by omega)
        · refine Z_go (f2 := (39, [(5, .int (Zi i)), (4, .int (Zi g)), (3, .int (Zi k)), (2, .int (Zi m)), (0, .ref 83), (1, .int (Zi hd))], [.ref 83])) (fun _ => rfl) ?_
          refine R_gr (q := 108) rfl hs rfl ?_
          show B_R _ _ (42, [(5, .int (Zi i)), (4, .int (Zi g)), (3, .int (Zi k)), (2, .int (Zi m)), (0, .ref 83), (1, .int (Zi hd))], [.ref 110]) _ _ _
          refine Z_go (f2 := (44, [(5, .int (Zi i)), (4, .int (Zi g)), (3, .int (Zi k)), (2, .int (Zi m)), (0, .ref 83), (1, .int (Zi hd))], [.int (Zi i), .ref 110])) (fun _ => rfl) ?_
          refine R_ia (q := 26) rfl hs rfl rfl (by omega) (by omega) (by decide) ?_
          refine Z_go (f2 := (46, [(5, .int (Zi i)), (4, .int (Zi g)), (3, .int (Zi k)), (2, .int (Zi m)), (0, .ref 83), (1, .int (Zi hd))], [.ref 83, .int (Zi (s.2.1 110 i))])) (fun _ => rfl) ?_
          refine R_gr (q := 108) rfl hs rfl ?_
          show B_R _ _ (49, [(5, .int (Zi i)), (4, .int (Zi g)), (3, .int (Zi k)), (2, .int (Zi m)), (0, .ref 83), (1, .int (Zi hd))], [.ref 110, .int (Zi (s.2.1 110 i))]) _ _ _
          refine Z_go (f2 := (50, [(5, .int (Zi i)), (4, .int (Zi g)), (3, .int (Zi k)), (2, .int (Zi m)), (0, .ref 83), (1, .int (Zi hd))], [.int (Zi k), .ref 110, .int (Zi (s.2.1 110 i))])) (fun _ => rfl) ?_
          refine R_ia (q := 26) rfl hs rfl rfl (by omega) (by omega) (by decide) ?_
          refine Z_go (f2 := (52, [(5, .int (Zi i)), (4, .int (Zi g)), (3, .int (Zi k)), (2, .int (Zi m)), (0, .ref 83), (1, .int (Zi hd))], [.int (Zi hd), .int (Zi (s.2.1 110 k)), .int (Zi (s.2.1 110 i))])) (fun _ => rfl) ?_
          refine Z_callQ (vs := [.int (Zi (s.2.1 110 i)), .int (Zi (s.2.1 110 k)), .int (Zi hd)]) (rest := []) rfl (by decide) rfl rfl rfl (Nat.le_of_ble_eq_true rfl) (R_isPart _ (by first | assumption | exact hs.zA _ _ | exact ⟨by omega, by omega⟩) (by first | assumption | exact hs.zA _ _ | exact ⟨by omega, by omega⟩) (by first | assumption | exact hs.zA _ _ | exact ⟨by omega, by omega⟩) (pv.2.2 i i0 (by omega)) (pv.2.2 k k0 k1)) (fun x q => ?_)
          obtain ⟨v, rfl, hv⟩ := q
          show B_R _ _ (55, [(5, .int (Zi i)), (4, .int (Zi g)), (3, .int (Zi k)), (2, .int (Zi m)), (0, .ref 83), (1, .int (Zi hd))], [.int (Zi v)]) _ _ _
          refine Z_ieq rfl rfl (by first | exact hs.zF _ | exact Zor_r _ _ | exact hs.zA _ _ | assumption | exact zA _ _ | exact zS _ | exact Zr_not (hs.zA _ _) | exact ⟨by omega, by omega⟩) (fun c4 => ?_) (fun c4 => ?_)
          · refine Z_go (f2 := (85, [(5, .int (Zi i)), (4, .int (Zi g)), (3, .int (Zi k)), (2, .int (Zi m)), (0, .ref 83), (1, .int (Zi hd))], [.int (Zi 0)])) (fun _ => rfl) ?_
            refine Z_go (f2 := (87, [(4, .int (Zi 0)), (5, .int (Zi i)), (3, .int (Zi k)), (2, .int (Zi m)), (0, .ref 83), (1, .int (Zi hd))], [])) (fun _ => rfl) ?_
            refine Z_iinc (L2 := [(5, .int (Zi (i + 1))), (4, .int (Zi 0)), (3, .int (Zi k)), (2, .int (Zi m)), (0, .ref 83), (1, .int (Zi hd))]) rfl rfl (by decide) rfl ?_
            refine Z_go (f2 := (18, [(5, .int (Zi (i + 1))), (4, .int (Zi 0)), (3, .int (Zi k)), (2, .int (Zi m)), (0, .ref 83), (1, .int (Zi hd))], [])) (fun _ => rfl) ?_
            refine B_loc (K := [(5, .int (Zi (i + 1))), (4, .int (Zi 0)), (3, .int (Zi k)), (2, .int (Zi m)), (0, .ref 83), (1, .int (Zi hd))]) (N_all_sub ⟨rfl, rfl, rfl, rfl, rfl, rfl, trivial⟩) (show ([5, 4, 3, 2, 0, 1] : List Nat).Nodup by decide) ?_
            refine ih (i + 1) 0 (by omega) (by omega) (by omega) (.inr ⟨rfl, fun j j0 j1 => ?_⟩)
            rcases hi with hi | ⟨hi, hj⟩
            · omega
            · by_cases c : j = i
              · subst c
                rintro ⟨w1, w2, w3⟩
                rcases hv with q | q
                · omega
                · exact q.2 w2
              · exact hj j j0 (by omega)
          · refine Z_go (f2 := (59, [(5, .int (Zi i)), (4, .int (Zi g)), (3, .int (Zi k)), (2, .int (Zi m)), (0, .ref 83), (1, .int (Zi hd))], [.ref 83])) (fun _ => rfl) ?_
            refine R_gr (q := 108) rfl hs rfl ?_
            show B_R _ _ (62, [(5, .int (Zi i)), (4, .int (Zi g)), (3, .int (Zi k)), (2, .int (Zi m)), (0, .ref 83), (1, .int (Zi hd))], [.ref 110]) _ _ _
            refine Z_go (f2 := (64, [(5, .int (Zi i)), (4, .int (Zi g)), (3, .int (Zi k)), (2, .int (Zi m)), (0, .ref 83), (1, .int (Zi hd))], [.int (Zi i), .ref 110])) (fun _ => rfl) ?_
            refine R_ia (q := 26) rfl hs rfl rfl (by omega) (by omega) (by decide) ?_
            refine Z_go (f2 := (66, [(5, .int (Zi i)), (4, .int (Zi g)), (3, .int (Zi k)), (2, .int (Zi m)), (0, .ref 83), (1, .int (Zi hd))], [.ref 83, .int (Zi (s.2.1 110 i))])) (fun _ => rfl) ?_
            refine R_gr (q := 108) rfl hs rfl ?_
            show B_R _ _ (69, [(5, .int (Zi i)), (4, .int (Zi g)), (3, .int (Zi k)), (2, .int (Zi m)), (0, .ref 83), (1, .int (Zi hd))], [.ref 110, .int (Zi (s.2.1 110 i))]) _ _ _
            refine Z_go (f2 := (70, [(5, .int (Zi i)), (4, .int (Zi g)), (3, .int (Zi k)), (2, .int (Zi m)), (0, .ref 83), (1, .int (Zi hd))], [.int (Zi k), .ref 110, .int (Zi (s.2.1 110 i))])) (fun _ => rfl) ?_
            refine R_ia (q := 26) rfl hs rfl rfl (by omega) (by omega) (by decide) ?_
            refine Z_cne rfl rfl (by first | exact hs.zF _ | exact Zor_r _ _ | exact hs.zA _ _ | assumption | exact zA _ _ | exact zS _ | exact Zr_not (hs.zA _ _) | exact ⟨by omega, by omega⟩) (by first | exact hs.zF _ | exact Zor_r _ _ | exact hs.zA _ _ | assumption | exact zA _ _ | exact zS _ | exact Zr_not (hs.zA _ _) | exact ⟨by omega, by omega⟩) (fun c5 => ?_) (fun c5 => ?_)
            · refine Z_go (f2 := (81, [(5, .int (Zi i)), (4, .int (Zi g)), (3, .int (Zi k)), (2, .int (Zi m)), (0, .ref 83), (1, .int (Zi hd))], [.int (Zi 1)])) (fun _ => rfl) ?_
              refine Z_go (f2 := (85, [(5, .int (Zi i)), (4, .int (Zi g)), (3, .int (Zi k)), (2, .int (Zi m)), (0, .ref 83), (1, .int (Zi hd))], [.int (Zi 1)])) (fun _ => rfl) ?_
              refine Z_go (f2 := (87, [(4, .int (Zi 1)), (5, .int (Zi i)), (3, .int (Zi k)), (2, .int (Zi m)), (0, .ref 83), (1, .int (Zi hd))], [])) (fun _ => rfl) ?_
              refine Z_iinc (L2 := [(5, .int (Zi (i + 1))), (4, .int (Zi 1)), (3, .int (Zi k)), (2, .int (Zi m)), (0, .ref 83), (1, .int (Zi hd))]) rfl rfl (by decide) rfl ?_
              refine Z_go (f2 := (18, [(5, .int (Zi (i + 1))), (4, .int (Zi 1)), (3, .int (Zi k)), (2, .int (Zi m)), (0, .ref 83), (1, .int (Zi hd))], [])) (fun _ => rfl) ?_
              refine B_loc (K := [(5, .int (Zi (i + 1))), (4, .int (Zi 1)), (3, .int (Zi k)), (2, .int (Zi m)), (0, .ref 83), (1, .int (Zi hd))]) (N_all_sub ⟨rfl, rfl, rfl, rfl, rfl, rfl, trivial⟩) (show ([5, 4, 3, 2, 0, 1] : List Nat).Nodup by decide) ?_
              exact ih (i + 1) 1 (by omega) (by omega) (by omega) (.inl ⟨rfl, i, i0, by omega, by omega, by rcases hv with q | q; exact q.2; omega, by omega⟩)
            · refine Z_go (f2 := (76, [(5, .int (Zi i)), (4, .int (Zi g)), (3, .int (Zi k)), (2, .int (Zi m)), (0, .ref 83), (1, .int (Zi hd))], [.int (Zi i)])) (fun _ => rfl) ?_
              refine Z_go (f2 := (77, [(5, .int (Zi i)), (4, .int (Zi g)), (3, .int (Zi k)), (2, .int (Zi m)), (0, .ref 83), (1, .int (Zi hd))], [.int (Zi k), .int (Zi i)])) (fun _ => rfl) ?_
              refine Z_cge rfl rfl (by first | exact hs.zF _ | exact Zor_r _ _ | exact hs.zA _ _ | assumption | exact zA _ _ | exact zS _ | exact Zr_not (hs.zA _ _) | exact ⟨by omega, by omega⟩) (by first | exact hs.zF _ | exact Zor_r _ _ | exact hs.zA _ _ | assumption | exact zA _ _ | exact zS _ | exact Zr_not (hs.zA _ _) | exact ⟨by omega, by omega⟩) (fun c6 => ?_) (fun c6 => ?_)
              · refine Z_go (f2 := (85, [(5, .int (Zi i)), (4, .int (Zi g)), (3, .int (Zi k)), (2, .int (Zi m)), (0, .ref 83), (1, .int (Zi hd))], [.int (Zi 0)])) (fun _ => rfl) ?_
                refine Z_go (f2 := (87, [(4, .int (Zi 0)), (5, .int (Zi i)), (3, .int (Zi k)), (2, .int (Zi m)), (0, .ref 83), (1, .int (Zi hd))], [])) (fun _ => rfl) ?_
                refine Z_iinc (L2 := [(5, .int (Zi (i + 1))), (4, .int (Zi 0)), (3, .int (Zi k)), (2, .int (Zi m)), (0, .ref 83), (1, .int (Zi hd))]) rfl rfl (by decide) rfl ?_
                refine Z_go (f2 := (18, [(5, .int (Zi (i + 1))), (4, .int (Zi 0)), (3, .int (Zi k)), (2, .int (Zi m)), (0, .ref 83), (1, .int (Zi hd))], [])) (fun _ => rfl) ?_
                refine B_loc (K := [(5, .int (Zi (i + 1))), (4, .int (Zi 0)), (3, .int (Zi k)), (2, .int (Zi m)), (0, .ref 83), (1, .int (Zi hd))]) (N_all_sub ⟨rfl, rfl, rfl, rfl, rfl, rfl, trivial⟩) (show ([5, 4, 3, 2, 0, 1] : List Nat).Nodup by decide) ?_
                refine ih (i + 1) 0 (by omega) (by omega) (by omega) (.inr ⟨rfl, fun j j0 j1 => ?_⟩)
                rcases hi with hi | ⟨hi, hj⟩
                · omega
                · by_cases c : j = i
                  · subst c
                    rintro ⟨w1, w2, w3⟩
                    omega
                  · exact hj j j0 (by omega)
              · refine Z_go (f2 := (81, [(5, .int (Zi i)), (4, .int (Zi g)), (3, .int (Zi k)), (2, .int (Zi m)), (0, .ref 83), (1, .int (Zi hd))], [.int (Zi 1)])) (fun _ => rfl) ?_
                refine Z_go (f2 := (85, [(5, .int (Zi i)), (4, .int (Zi g)), (3, .int (Zi k)), (2, .int (Zi m)), (0, .ref 83), (1, .int (Zi hd))], [.int (Zi 1)])) (fun _ => rfl) ?_
                refine Z_go (f2 := (87, [(4, .int (Zi 1)), (5, .int (Zi i)), (3, .int (Zi k)), (2, .int (Zi m)), (0, .ref 83), (1, .int (Zi hd))], [])) (fun _ => rfl) ?_
                refine Z_iinc (L2 := [(5, .int (Zi (i + 1))), (4, .int (Zi 1)), (3, .int (Zi k)), (2, .int (Zi m)), (0, .ref 83), (1, .int (Zi hd))]) rfl rfl (by decide) rfl ?_
                refine Z_go (f2 := (18, [(5, .int (Zi (i + 1))), (4, .int (Zi 1)), (3, .int (Zi k)), (2, .int (Zi m)), (0, .ref 83), (1, .int (Zi hd))], [])) (fun _ => rfl) ?_
                refine B_loc (K := [(5, .int (Zi (i + 1))), (4, .int (Zi 1)), (3, .int (Zi k)), (2, .int (Zi m)), (0, .ref 83), (1, .int (Zi hd))]) (N_all_sub ⟨rfl, rfl, rfl, rfl, rfl, rfl, trivial⟩) (show ([5, 4, 3, 2, 0, 1] : List Nat).Nodup by decide) ?_
                exact ih (i + 1) 1 (by omega) (by omega) (by omega) (.inl ⟨rfl, i, i0, by omega, by omega, by rcases hv with q | q; exact q.2; omega, by omega⟩)
theorem R_eflag {s u : R_S} {hd k v : Int} (h : (∀ j, 0 ≤ j → j < k → (u.2.1 109 j = 1 ∧ ¬ R_eo s hd j ∨ u.2.1 109 j = 0 ∧ R_eo s hd j))) (hv : v = 1 ∧ ¬ R_eo s hd k ∨ v = 0 ∧ R_eo s hd k) : (∀ j, 0 ≤ j → j < k + 1 → ((R_sA u 109 k v).2.1 109 j = 1 ∧ ¬ R_eo s hd j ∨ (R_sA u 109 k v).2.1 109 j = 0 ∧ R_eo s hd j)) := by
  intro j j0 j1
  by_cases c : j = k
  · rw [c, R_sA_s]
    exact hv
  · rw [R_sA_m _ _ _ _ c]
    exact h j j0 (by omega)
theorem R_ls_out {d : Nat} {h0 : E_H} {s : R_S} {sl : Nat} {Φ : E_R → Prop} {hd m : Int} (zhd : Zr hd) (pv : R_sv s) (kont : ∀ (u : R_S) (h : E_H), R_is h0 h u → R_only [109] s u → (∀ j, 0 ≤ j → j < s.1 41 → (u.2.1 109 j = 1 ∧ ¬ R_eo s hd j ∨ u.2.1 109 j = 0 ∧ R_eo s hd j)) → B_R (d + 2) E_m218 (115, [(2, .int (Zi m)), (0, .ref 83), (1, .int (Zi hd))], []) h sl Φ) : ∀ (t : Nat) (k : Int) (u : R_S) (h : E_H), s.1 41 - k < t → R_is h0 h u → R_only [109] s u → (∀ j, 0 ≤ j → j < k → (u.2.1 109 j = 1 ∧ ¬ R_eo s hd j ∨ u.2.1 109 j = 0 ∧ R_eo s hd j)) → 0 ≤ k → k ≤ s.1 41 → B_R (d + 2) E_m218 (4, [(3, .int (Zi k)), (2, .int (Zi m)), (0, .ref 83), (1, .int (Zi hd))], []) h sl Φ := by
  intro t
  induction t with
  | zero => intro k u h ht hs hu hf k0 k1; omega
  | succ t ih =>
    intro k u h ht hs hu hf k0 k1
    have e41 : u.1 41 = s.1 41 := by rw [hu.1]
    have p41 := pv.2.1
    refine Z_go (f2 := (5, [(3, .int (Zi k)), (2, .int (Zi m)), (0, .ref 83), (1, .int (Zi hd))], [.int (Zi k)])) (fun _ => rfl) ?_
    refine Z_go (f2 := (6, [(3, .int (Zi k)), (2, .int (Zi m)), (0, .ref 83), (1, .int (Zi hd))], [.ref 83, .int (Zi k)])) (fun _ => rfl) ?_
    refine R_gi rfl hs rfl ?_
    show B_R _ _ (9, [(3, .int (Zi k)), (2, .int (Zi m)), (0, .ref 83), (1, .int (Zi hd))], [.int (Zi (u.1 41)), .int (Zi k)]) _ _ _
    refine Z_cge rfl rfl (by first | exact hs.zF _ | exact Zor_r _ _ | exact hs.zA _ _ | assumption | exact zA _ _ | exact zS _ | exact Zr_not (hs.zA _ _) | exact ⟨by omega, by omega⟩) (by first | exact hs.zF _ | exact Zor_r _ _ | exact hs.zA _ _ | assumption | exact zA _ _ | exact zS _ | exact Zr_not (hs.zA _ _) | exact ⟨by omega, by omega⟩) (fun c1 => ?_) (fun c1 => ?_)
    · refine B_loc (K := [(2, .int (Zi m)), (0, .ref 83), (1, .int (Zi hd))]) (N_all_sub ⟨rfl, rfl, rfl, trivial⟩) (show ([2, 0, 1] : List Nat).Nodup by decide) ?_
      have e : k = s.1 41 := by omega
      rw [e] at hf
      exact kont u h hs hu hf
    · refine Z_go (f2 := (13, [(3, .int (Zi k)), (2, .int (Zi m)), (0, .ref 83), (1, .int (Zi hd))], [.int (Zi 0)])) (fun _ => rfl) ?_
      refine Z_go (f2 := (15, [(4, .int (Zi 0)), (3, .int (Zi k)), (2, .int (Zi m)), (0, .ref 83), (1, .int (Zi hd))], [])) (fun _ => rfl) ?_
      refine Z_go (f2 := (16, [(4, .int (Zi 0)), (3, .int (Zi k)), (2, .int (Zi m)), (0, .ref 83), (1, .int (Zi hd))], [.int (Zi 0)])) (fun _ => rfl) ?_
      refine Z_go (f2 := (18, [(5, .int (Zi 0)), (4, .int (Zi 0)), (3, .int (Zi k)), (2, .int (Zi m)), (0, .ref 83), (1, .int (Zi hd))], [])) (fun _ => rfl) ?_
      refine B_loc (K := [(5, .int (Zi 0)), (4, .int (Zi 0)), (3, .int (Zi k)), (2, .int (Zi m)), (0, .ref 83), (1, .int (Zi hd))]) (N_all_sub ⟨rfl, rfl, rfl, rfl, rfl, rfl, trivial⟩) (show ([5, 4, 3, 2, 0, 1] : List Nat).Nodup by decide) ?_
      refine R_ls_in (s := u) zhd hs (R_sv_109 hu pv) k0 (by omega) (fun g hg => ?_) ((u.1 41).toNat + 1) 0 0 (by omega) (by omega) (by omega) (.inr ⟨rfl, fun j j0 j1 => by omega⟩)
      rw [R_eo_109 hu] at hg
      refine Z_go (f2 := (94, [(4, .int (Zi g)), (3, .int (Zi k)), (2, .int (Zi m)), (0, .ref 83), (1, .int (Zi hd))], [.ref 83])) (fun _ => rfl) ?_
      refine R_gr (q := 107) rfl hs rfl ?_
      show B_R _ _ (97, [(4, .int (Zi g)), (3, .int (Zi k)), (2, .int (Zi m)), (0, .ref 83), (1, .int (Zi hd))], [.ref 109]) _ _ _
      refine Z_go (f2 := (98, [(4, .int (Zi g)), (3, .int (Zi k)), (2, .int (Zi m)), (0, .ref 83), (1, .int (Zi hd))], [.int (Zi k), .ref 109])) (fun _ => rfl) ?_
      refine Z_go (f2 := (100, [(4, .int (Zi g)), (3, .int (Zi k)), (2, .int (Zi m)), (0, .ref 83), (1, .int (Zi hd))], [.int (Zi g), .int (Zi k), .ref 109])) (fun _ => rfl) ?_
      refine Z_ine rfl rfl (by first | exact hs.zF _ | exact Zor_r _ _ | exact hs.zA _ _ | assumption | exact zA _ _ | exact zS _ | exact Zr_not (hs.zA _ _) | exact ⟨by omega, by omega⟩) (fun b1 => ?_) (fun b1 => ?_)
      · refine Z_go (f2 := (108, [(4, .int (Zi g)), (3, .int (Zi k)), (2, .int (Zi m)), (0, .ref 83), (1, .int (Zi hd))], [.int (Zi 0), .int (Zi k), .ref 109])) (fun _ => rfl) ?_
        refine R_bs (q := 25) rfl hs rfl rfl (by omega) (by omega) (by decide) (by first | exact .inl rfl | exact .inr rfl | assumption) (fun h hs => ?_)
        refine Z_iinc (L2 := [(3, .int (Zi (k + 1))), (4, .int (Zi g)), (2, .int (Zi m)), (0, .ref 83), (1, .int (Zi hd))]) rfl rfl (by decide) rfl ?_
        refine Z_go (f2 := (4, [(3, .int (Zi (k + 1))), (4, .int (Zi g)), (2, .int (Zi m)), (0, .ref 83), (1, .int (Zi hd))], [])) (fun _ => rfl) ?_
        refine B_loc (K := [(3, .int (Zi (k + 1))), (2, .int (Zi m)), (0, .ref 83), (1, .int (Zi hd))]) (N_all_sub ⟨rfl, rfl, rfl, rfl, trivial⟩) (show ([3, 2, 0, 1] : List Nat).Nodup by decide) ?_
        exact ih (k + 1) _ h (by omega) hs (hu.st (by simp) _ _) (R_eflag hf (.inr ⟨rfl, by rcases hg with q | q; exact q.2; omega⟩)) (by omega) (by omega)
      · refine Z_go (f2 := (104, [(4, .int (Zi g)), (3, .int (Zi k)), (2, .int (Zi m)), (0, .ref 83), (1, .int (Zi hd))], [.int (Zi 1), .int (Zi k), .ref 109])) (fun _ => rfl) ?_
        refine Z_go (f2 := (108, [(4, .int (Zi g)), (3, .int (Zi k)), (2, .int (Zi m)), (0, .ref 83), (1, .int (Zi hd))], [.int (Zi 1), .int (Zi k), .ref 109])) (fun _ => rfl) ?_
        refine R_bs (q := 25) rfl hs rfl rfl (by omega) (by omega) (by decide) (by first | exact .inl rfl | exact .inr rfl | assumption) (fun h hs => ?_)
        refine Z_iinc (L2 := [(3, .int (Zi (k + 1))), (4, .int (Zi g)), (2, .int (Zi m)), (0, .ref 83), (1, .int (Zi hd))]) rfl rfl (by decide) rfl ?_
        refine Z_go (f2 := (4, [(3, .int (Zi (k + 1))), (4, .int (Zi g)), (2, .int (Zi m)), (0, .ref 83), (1, .int (Zi hd))], [])) (fun _ => rfl) ?_
        refine B_loc (K := [(3, .int (Zi (k + 1))), (2, .int (Zi m)), (0, .ref 83), (1, .int (Zi hd))]) (N_all_sub ⟨rfl, rfl, rfl, rfl, trivial⟩) (show ([3, 2, 0, 1] : List Nat).Nodup by decide) ?_
        exact ih (k + 1) _ h (by omega) hs (hu.st (by simp) _ _) (R_eflag hf (.inl ⟨rfl, by rcases hg with q | q; omega; exact q.2⟩)) (by omega) (by omega)
/-- the first m hold those of the first k that stay -/
def R_cmp (s v u : R_S) (hd m k : Int) : Prop := R_only [110] v u ∧ 0 ≤ m ∧ m ≤ k ∧ (∀ j, m ≤ j → u.2.1 110 j = v.2.1 110 j) ∧ ∃ ks : List Int, ks.Nodup ∧ (ks.length : Int) = m ∧ (∀ j, j ∈ ks ↔ 0 ≤ j ∧ j < k ∧ ¬ R_eo s hd j) ∧ (∀ (c : Nat) (h : c < ks.length), u.2.1 110 c = v.2.1 110 ks[c])
theorem R_cmp_0 (s v : R_S) (hd : Int) : R_cmp s v v hd 0 0 := ⟨R_only_0 _ _, by omega, by omega, fun _ _ => rfl, [], List.nodup_nil, rfl, fun j => ⟨fun h => absurd h List.not_mem_nil, fun h => by omega⟩, fun c h => absurd h (Nat.not_lt_zero _)⟩
theorem R_cmp.skip {s v u : R_S} {hd m k : Int} (h : R_cmp s v u hd m k) (g : R_eo s hd k) : R_cmp s v u hd m (k + 1) := by
  obtain ⟨h1, h2, h3, h4, ks, h5, h6, h7, h8⟩ := h
  refine ⟨h1, h2, by omega, h4, ks, h5, h6, fun j => (h7 j).trans ⟨fun q => ⟨q.1, by omega, q.2.2⟩, fun q => ⟨q.1, ?_, q.2.2⟩⟩, h8⟩
  have : j ≠ k := fun z => q.2.2 (z ▸ g)
  omega
theorem R_cmp.add {s v u : R_S} {hd m k : Int} (h : R_cmp s v u hd m k) (k0 : 0 ≤ k) (g : ¬ R_eo s hd k) : R_cmp s v (R_sA u 110 m (v.2.1 110 k)) hd (m + 1) (k + 1) := by
  obtain ⟨h1, h2, h3, h4, ks, h5, h6, h7, h8⟩ := h
  refine ⟨h1.st (by simp) _ _, by omega, by omega, fun j hj => by rw [R_sA_m _ _ _ _ (by omega)]; exact h4 j (by omega), ks ++ [k], ?_, ?_, fun j => ?_, fun c hc => ?_⟩
  · refine List.nodup_append.mpr ⟨h5, List.nodup_cons.mpr ⟨List.not_mem_nil, List.nodup_nil⟩, fun x hx y hy => ?_⟩
    rw [List.mem_singleton] at hy
    have := (h7 x).mp hx
    omega
  · simp only [List.length_append, List.length_cons, List.length_nil]
    omega
  · rw [List.mem_append, List.mem_singleton, h7]
    constructor
    · rintro (q | rfl)
      · exact ⟨q.1, by omega, q.2.2⟩
      · exact ⟨k0, by omega, g⟩
    · intro q
      by_cases z : j = k
      · exact .inr z
      · exact .inl ⟨q.1, by omega, q.2.2⟩
  · by_cases z : c < ks.length
    · rw [List.getElem_append_left z, R_sA_m _ _ _ _ (by omega)]
      exact h8 c z
    · simp only [List.length_append, List.length_cons, List.length_nil] at hc
      have hc : c = ks.length := by omega
      subst hc
      rw [List.getElem_append_right (Nat.le_refl _)]
      simp only [Nat.sub_self, List.getElem_cons_zero]
      rw [h6, R_sA_s]
/-- what leastShorts leaves -/
def R_lst (s u : R_S) (hd : Int) : Prop := (∀ b, b ≠ 41 → u.1 b = s.1 b) ∧ (∀ q j, q ≠ 109 → q ≠ 110 → u.2.1 q j = s.2.1 q j) ∧ u.2.2 = s.2.2 ∧ R_sv u ∧ u.1 41 ≤ s.1 41 ∧ (∀ j k, 0 ≤ j → j < k → k < u.1 41 → u.2.1 110 j ≠ u.2.1 110 k) ∧ R_SH u = S_min (X_pre hd) (R_SH s)
theorem R_cmp.fin {s v u : R_S} {hd m : Int} (pv : R_sv s) (hv : R_only [109] s v) (h : R_cmp s v u hd m (s.1 41)) : R_lst s (R_sF u 41 m) hd := by
  obtain ⟨h1, h2, h3, h4, ks, h5, h6, h7, h8⟩ := h
  have e41 : (R_sF u 41 m).1 41 = m := R_sF_s _ _ _
  have v110 : ∀ j, v.2.1 110 j = s.2.1 110 j := fun j => hv.2.1 110 j (by simp)
  have at_ : ∀ c, 0 ≤ c → c < m → ∃ (x : Nat) (hx : x < ks.length), c = x ∧ u.2.1 110 c = s.2.1 110 ks[x] := fun c a b => ⟨c.toNat, by omega, by omega, by
    have := h8 c.toNat (by omega)
    rw [show ((c.toNat : Nat) : Int) = c by omega, v110] at this
    exact this⟩
  refine ⟨fun b hb => by rw [R_sF_n _ _ hb, h1.1, hv.1], fun q j a b => ?_, by show u.2.2 = _; rw [h1.2.2, hv.2.2], ⟨by rw [e41]; exact h2, by rw [e41]; have := pv.2.1; omega, fun k k0 k1 => ?_⟩, by rw [e41]; exact h3, fun j k j0 jk k1 => ?_, ?_⟩
  · rw [R_sF_a, h1.2.1 q j (by simp; exact b), hv.2.1 q j (by simp; exact a)]
  · rw [e41] at k1
    obtain ⟨x, hx, _, e⟩ := at_ k k0 k1
    rw [R_sF_a, e]
    have := (h7 ks[x]).mp (List.getElem_mem hx)
    exact pv.2.2 _ this.1 this.2.1
  · rw [e41] at k1
    obtain ⟨x, hx, ex, e⟩ := at_ j j0 (by omega)
    obtain ⟨y, hy, ey, e2⟩ := at_ k (by omega) k1
    rw [R_sF_a, R_sF_a, e, e2]
    have a1 := (h7 ks[x]).mp (List.getElem_mem hx)
    have a2 := (h7 ks[y]).mp (List.getElem_mem hy)
    have ne : ks[x] ≠ ks[y] := (List.pairwise_iff_getElem.mp h5) x y hx hy (by omega)
    rcases Int.lt_or_gt_of_ne ne with z | z
    · exact R_eo_ne a1.1 z a2.2.1 a2.2.2
    · exact (R_eo_ne a2.1 z a1.2.1 a1.2.2).symm
  · funext x
    refine propext ⟨?_, ?_⟩
    · rintro ⟨k, k0, k1, rfl⟩
      rw [e41] at k1
      obtain ⟨y, hy, _, e⟩ := at_ k k0 k1
      rw [R_sF_a, e]
      have a1 := (h7 ks[y]).mp (List.getElem_mem hy)
      exact R_eo_min pv a1.1 a1.2.1 a1.2.2
    · intro hx
      obtain ⟨k, k0, k1, k2, k3⟩ := R_min_eo pv hx
      obtain ⟨c, hc, hk⟩ := List.getElem_of_mem ((h7 k).mpr ⟨k0, k1, k2⟩)
      refine ⟨c, by omega, by rw [e41]; omega, ?_⟩
      rw [R_sF_a, h8 c hc, hk, v110]
      exact k3
theorem R_ls_cmp {d : Nat} {h0 : E_H} {s v : R_S} {sl : Nat} {Φ : E_R → Prop} {hd : Int} (pv : R_sv s) (hv : R_only [109] s v) (fl : (∀ j, 0 ≤ j → j < s.1 41 → (v.2.1 109 j = 1 ∧ ¬ R_eo s hd j ∨ v.2.1 109 j = 0 ∧ R_eo s hd j))) (kont : ∀ (u : R_S) (h : E_H) (m : Int), R_is h0 h u → R_cmp s v u hd m (s.1 41) → B_R (d + 2) E_m218 (158, [(2, .int (Zi m)), (0, .ref 83), (1, .int (Zi hd))], []) h sl Φ) : ∀ (t : Nat) (k m : Int) (u : R_S) (h : E_H), s.1 41 - k < t → R_is h0 h u → R_cmp s v u hd m k → 0 ≤ k → k ≤ s.1 41 → B_R (d + 2) E_m218 (117, [(3, .int (Zi k)), (2, .int (Zi m)), (0, .ref 83), (1, .int (Zi hd))], []) h sl Φ := by
  intro t
  induction t with
  | zero => intro k m u h ht hs hu k0 k1; omega
  | succ t ih =>
    intro k m u h ht hs hu k0 k1
    have e41 : u.1 41 = s.1 41 := by rw [hu.1.1, hv.1]
    have e109 : u.2.1 109 k = v.2.1 109 k := hu.1.2.1 109 k (by simp)
    have m0 := hu.2.1
    have m1 := hu.2.2.1
    have e110 : u.2.1 110 k = v.2.1 110 k := hu.2.2.2.1 k m1
    have p41 := pv.2.1
    refine Z_go (f2 := (118, [(3, .int (Zi k)), (2, .int (Zi m)), (0, .ref 83), (1, .int (Zi hd))], [.int (Zi k)])) (fun _ => rfl) ?_
    refine Z_go (f2 := (119, [(3, .int (Zi k)), (2, .int (Zi m)), (0, .ref 83), (1, .int (Zi hd))], [.ref 83, .int (Zi k)])) (fun _ => rfl) ?_
    refine R_gi rfl hs rfl ?_
    show B_R _ _ (122, [(3, .int (Zi k)), (2, .int (Zi m)), (0, .ref 83), (1, .int (Zi hd))], [.int (Zi (u.1 41)), .int (Zi k)]) _ _ _
    refine Z_cge rfl rfl (by first | exact hs.zF _ | exact Zor_r _ _ | exact hs.zA _ _ | assumption | exact zA _ _ | exact zS _ | exact Zr_not (hs.zA _ _) | exact ⟨by omega, by omega⟩) (by first | exact hs.zF _ | exact Zor_r _ _ | exact hs.zA _ _ | assumption | exact zA _ _ | exact zS _ | exact Zr_not (hs.zA _ _) | exact ⟨by omega, by omega⟩) (fun c1 => ?_) (fun c1 => ?_)
    · refine B_loc (K := [(2, .int (Zi m)), (0, .ref 83), (1, .int (Zi hd))]) (N_all_sub ⟨rfl, rfl, rfl, trivial⟩) (show ([2, 0, 1] : List Nat).Nodup by decide) ?_
      have e : k = s.1 41 := by omega
      rw [e] at hu
      exact kont u h m hs hu
    · refine Z_go (f2 := (126, [(3, .int (Zi k)), (2, .int (Zi m)), (0, .ref 83), (1, .int (Zi hd))], [.ref 83])) (fun _ => rfl) ?_
      refine R_gr (q := 107) rfl hs rfl ?_
      show B_R _ _ (129, [(3, .int (Zi k)), (2, .int (Zi m)), (0, .ref 83), (1, .int (Zi hd))], [.ref 109]) _ _ _
      refine Z_go (f2 := (130, [(3, .int (Zi k)), (2, .int (Zi m)), (0, .ref 83), (1, .int (Zi hd))], [.int (Zi k), .ref 109])) (fun _ => rfl) ?_
      refine R_ba (q := 25) rfl hs rfl rfl (by omega) (by omega) (by decide) ?_
      refine Z_ine rfl rfl (by first | exact hs.zF _ | exact Zor_r _ _ | exact hs.zA _ _ | assumption | exact zA _ _ | exact zS _ | exact Zr_not (hs.zA _ _) | exact ⟨by omega, by omega⟩) (fun c2 => ?_) (fun c2 => ?_)
      · refine Z_go (f2 := (138, [(3, .int (Zi k)), (2, .int (Zi m)), (0, .ref 83), (1, .int (Zi hd))], [.ref 83])) (fun _ => rfl) ?_
        refine R_gr (q := 108) rfl hs rfl ?_
        show B_R _ _ (141, [(3, .int (Zi k)), (2, .int (Zi m)), (0, .ref 83), (1, .int (Zi hd))], [.ref 110]) _ _ _
        refine Z_go (f2 := (142, [(3, .int (Zi k)), (2, .int (Zi m)), (0, .ref 83), (1, .int (Zi hd))], [.int (Zi m), .ref 110])) (fun _ => rfl) ?_
        refine Z_go (f2 := (143, [(3, .int (Zi k)), (2, .int (Zi m)), (0, .ref 83), (1, .int (Zi hd))], [.ref 83, .int (Zi m), .ref 110])) (fun _ => rfl) ?_
        refine R_gr (q := 108) rfl hs rfl ?_
        show B_R _ _ (146, [(3, .int (Zi k)), (2, .int (Zi m)), (0, .ref 83), (1, .int (Zi hd))], [.ref 110, .int (Zi m), .ref 110]) _ _ _
        refine Z_go (f2 := (147, [(3, .int (Zi k)), (2, .int (Zi m)), (0, .ref 83), (1, .int (Zi hd))], [.int (Zi k), .ref 110, .int (Zi m), .ref 110])) (fun _ => rfl) ?_
        refine R_ia (q := 26) rfl hs rfl rfl (by omega) (by omega) (by decide) ?_
        refine R_is_ (q := 26) rfl hs rfl rfl (by omega) (by omega) (by decide) (by first | exact hs.zF _ | exact Zor_r _ _ | exact hs.zA _ _ | assumption | exact zA _ _ | exact zS _ | exact Zr_not (hs.zA _ _) | exact ⟨by omega, by omega⟩) (fun h hs => ?_)
        refine Z_iinc (L2 := [(2, .int (Zi (m + 1))), (3, .int (Zi k)), (0, .ref 83), (1, .int (Zi hd))]) rfl rfl (by decide) rfl ?_
        refine Z_iinc (L2 := [(3, .int (Zi (k + 1))), (2, .int (Zi (m + 1))), (0, .ref 83), (1, .int (Zi hd))]) rfl rfl (by decide) rfl ?_
        refine Z_go (f2 := (117, [(3, .int (Zi (k + 1))), (2, .int (Zi (m + 1))), (0, .ref 83), (1, .int (Zi hd))], [])) (fun _ => rfl) ?_
        refine B_loc (K := [(3, .int (Zi (k + 1))), (2, .int (Zi (m + 1))), (0, .ref 83), (1, .int (Zi hd))]) (N_all_sub ⟨rfl, rfl, rfl, rfl, trivial⟩) (show ([3, 2, 0, 1] : List Nat).Nodup by decide) ?_
        rw [e110] at hs
        exact ih (k + 1) (m + 1) _ h (by omega) hs (hu.add k0 (by rcases fl k k0 (by omega) with q | q; exact q.2; omega)) (by omega) (by omega)
      · refine Z_go (f2 := (152, [(3, .int (Zi k)), (2, .int (Zi m)), (0, .ref 83), (1, .int (Zi hd))], [])) (fun _ => rfl) ?_
        refine Z_iinc (L2 := [(3, .int (Zi (k + 1))), (2, .int (Zi m)), (0, .ref 83), (1, .int (Zi hd))]) rfl rfl (by decide) rfl ?_
        refine Z_go (f2 := (117, [(3, .int (Zi (k + 1))), (2, .int (Zi m)), (0, .ref 83), (1, .int (Zi hd))], [])) (fun _ => rfl) ?_
        refine B_loc (K := [(3, .int (Zi (k + 1))), (2, .int (Zi m)), (0, .ref 83), (1, .int (Zi hd))]) (N_all_sub ⟨rfl, rfl, rfl, rfl, trivial⟩) (show ([3, 2, 0, 1] : List Nat).Nodup by decide) ?_
        exact ih (k + 1) m u h (by omega) hs (hu.skip (by rcases fl k k0 (by omega) with q | q; omega; exact q.2)) (by omega) (by omega)
theorem R_leastShorts (d : Nat) (s : R_S) {hd : Int} (zhd : Zr hd) (pv : R_sv s) : R_ok (d + 3) 218 [.int (Zi hd)] s (fun x s2 => x = none ∧ R_lst s s2 hd) := by
  refine R_enter (M := E_m218) rfl (Nat.le_of_ble_eq_true rfl) (fun h0 h hs => ?_)
  show B_R (d + 2) _ (0, [(0, .ref 83), (1, .int (Zi hd))], []) _ _ _
  refine Z_go (f2 := (1, [(0, .ref 83), (1, .int (Zi hd))], [.int (Zi 0)])) (fun _ => rfl) ?_
  refine Z_go (f2 := (2, [(2, .int (Zi 0)), (0, .ref 83), (1, .int (Zi hd))], [])) (fun _ => rfl) ?_
  refine Z_go (f2 := (3, [(2, .int (Zi 0)), (0, .ref 83), (1, .int (Zi hd))], [.int (Zi 0)])) (fun _ => rfl) ?_
  refine Z_go (f2 := (4, [(3, .int (Zi 0)), (2, .int (Zi 0)), (0, .ref 83), (1, .int (Zi hd))], [])) (fun _ => rfl) ?_
  refine B_loc (K := [(3, .int (Zi 0)), (2, .int (Zi 0)), (0, .ref 83), (1, .int (Zi hd))]) (N_all_sub ⟨rfl, rfl, rfl, rfl, trivial⟩) (show ([3, 2, 0, 1] : List Nat).Nodup by decide) ?_
  refine R_ls_out zhd pv (fun v h hs hv fl => ?_) ((s.1 41).toNat + 1) 0 s h (by omega) hs (R_only_0 _ _) (fun j j0 j1 => by omega) (by omega) pv.1
  refine Z_go (f2 := (116, [(2, .int (Zi 0)), (0, .ref 83), (1, .int (Zi hd))], [.int (Zi 0)])) (fun _ => rfl) ?_
  refine Z_go (f2 := (117, [(3, .int (Zi 0)), (2, .int (Zi 0)), (0, .ref 83), (1, .int (Zi hd))], [])) (fun _ => rfl) ?_
  refine B_loc (K := [(3, .int (Zi 0)), (2, .int (Zi 0)), (0, .ref 83), (1, .int (Zi hd))]) (N_all_sub ⟨rfl, rfl, rfl, rfl, trivial⟩) (show ([3, 2, 0, 1] : List Nat).Nodup by decide) ?_
  refine R_ls_cmp pv hv fl (fun u h m hs hu => ?_) ((s.1 41).toNat + 1) 0 0 v h (by omega) hs (R_cmp_0 _ _ _) (by omega) pv.1
  have m0 := hu.2.1
  have m1 := hu.2.2.1
  have p41 := pv.2.1
  refine Z_go (f2 := (159, [(2, .int (Zi m)), (0, .ref 83), (1, .int (Zi hd))], [.ref 83])) (fun _ => rfl) ?_
  refine Z_go (f2 := (160, [(2, .int (Zi m)), (0, .ref 83), (1, .int (Zi hd))], [.int (Zi m), .ref 83])) (fun _ => rfl) ?_
  refine R_pf rfl hs rfl (by first | exact hs.zF _ | exact Zor_r _ _ | exact hs.zA _ _ | assumption | exact zA _ _ | exact zS _ | exact Zr_not (hs.zA _ _) | exact ⟨by omega, by omega⟩) ⟨rfl, rfl, rfl⟩ (fun h hs => ?_)
  refine Z_ret rfl rfl ⟨_, hs, ?_, rfl⟩
  exact ⟨rfl, hu.fin pv hv⟩
