/-! the reference: what stands in all pairs -/
/-- v stands in the pair k -/
def R_pin (s : R_S) (k v : Int) : Prop := D_in (fun x => s.2.1 108 (640 * k + x)) (s.2.1 107 k) v
def R_all (s : R_S) (v : Int) : Prop := ∀ k, 1 ≤ k → k < s.1 37 → R_pin s k v
theorem R_co_j {d : Nat} {h0 h : E_H} {s : R_S} {sl : Nat} {Φ : E_R → Prop} {k a v i n sl_ : Int} (hs : R_is h0 h s) (zv : Zr v) (k0 : 0 ≤ k) (k1 : k < 580) (nb : s.2.1 107 k ≤ 640) (kont : ∀ j : Int, 0 ≤ j → j ≤ s.2.1 107 k → (∀ x, 0 ≤ x → x < j → s.2.1 108 (640 * k + x) < v) → (j = s.2.1 107 k ∨ v ≤ s.2.1 108 (640 * k + j)) → B_R d E_m228 (82, [(7, .int (Zi j)), (6, .int (Zi k)), (5, .int (Zi a)), (4, .int (Zi v)), (3, .int (Zi i)), (2, .int (Zi n)), (0, .ref 83), (1, .int (Zi sl_))], []) h sl Φ) : ∀ (t : Nat) (j : Int), s.2.1 107 k - j < t → 0 ≤ j → j ≤ s.2.1 107 k → (∀ x, 0 ≤ x → x < j → s.2.1 108 (640 * k + x) < v) → B_R d E_m228 (45, [(7, .int (Zi j)), (6, .int (Zi k)), (5, .int (Zi a)), (4, .int (Zi v)), (3, .int (Zi i)), (2, .int (Zi n)), (0, .ref 83), (1, .int (Zi sl_))], []) h sl Φ := by
  intro t
  induction t with
  | zero => intro j ht j0 j1 hj; omega
  | succ t ih =>
    intro j ht j0 j1 hj
    refine Z_go (f2 := (47, [(7, .int (Zi j)), (6, .int (Zi k)), (5, .int (Zi a)), (4, .int (Zi v)), (3, .int (Zi i)), (2, .int (Zi n)), (0, .ref 83), (1, .int (Zi sl_))], [.int (Zi j)])) (fun _ => rfl) ?_
    refine Z_go (f2 := (48, [(7, .int (Zi j)), (6, .int (Zi k)), (5, .int (Zi a)), (4, .int (Zi v)), (3, .int (Zi i)), (2, .int (Zi n)), (0, .ref 83), (1, .int (Zi sl_))], [.ref 83, .int (Zi j)])) (fun _ => rfl) ?_
    refine R_gr (q := 105) rfl hs rfl ?_
    show B_R _ _ (51, [(7, .int (Zi j)), (6, .int (Zi k)), (5, .int (Zi a)), (4, .int (Zi v)), (3, .int (Zi i)), (2, .int (Zi n)), (0, .ref 83), (1, .int (Zi sl_))], [.ref 107, .int (Zi j)]) _ _ _
    refine Z_go (f2 := (53, [(7, .int (Zi j)), (6, .int (Zi k)), (5, .int (Zi a)), (4, .int (Zi v)), (3, .int (Zi i)), (2, .int (Zi n)), (0, .ref 83), (1, .int (Zi sl_))], [.int (Zi k), .ref 107, .int (Zi j)])) (fun _ => rfl) ?_
    refine R_ia (q := 23) rfl hs rfl rfl (by omega) (by omega) (by decide) ?_
    refine Z_cge rfl rfl (by first | exact hs.zF _ | exact Zor_r _ _ | exact hs.zA _ _ | assumption | exact zS _ | exact Zr_not (hs.zA _ _) | exact ⟨by omega, by omega⟩) (by first | exact hs.zF _ | exact Zor_r _ _ | exact hs.zA _ _ | assumption | exact zS _ | exact Zr_not (hs.zA _ _) | exact ⟨by omega, by omega⟩) (fun c1 => ?_) (fun c1 => ?_)
    · exact kont j j0 j1 hj (.inl (by omega))
    · refine Z_go (f2 := (58, [(7, .int (Zi j)), (6, .int (Zi k)), (5, .int (Zi a)), (4, .int (Zi v)), (3, .int (Zi i)), (2, .int (Zi n)), (0, .ref 83), (1, .int (Zi sl_))], [.ref 83])) (fun _ => rfl) ?_
      refine R_gr (q := 106) rfl hs rfl ?_
      show B_R _ _ (61, [(7, .int (Zi j)), (6, .int (Zi k)), (5, .int (Zi a)), (4, .int (Zi v)), (3, .int (Zi i)), (2, .int (Zi n)), (0, .ref 83), (1, .int (Zi sl_))], [.ref 108]) _ _ _
      refine Z_go (f2 := (64, [(7, .int (Zi j)), (6, .int (Zi k)), (5, .int (Zi a)), (4, .int (Zi v)), (3, .int (Zi i)), (2, .int (Zi n)), (0, .ref 83), (1, .int (Zi sl_))], [.int (Zi 640), .ref 108])) (fun _ => rfl) ?_
      refine Z_go (f2 := (66, [(7, .int (Zi j)), (6, .int (Zi k)), (5, .int (Zi a)), (4, .int (Zi v)), (3, .int (Zi i)), (2, .int (Zi n)), (0, .ref 83), (1, .int (Zi sl_))], [.int (Zi k), .int (Zi 640), .ref 108])) (fun _ => rfl) ?_
      refine Z_imul rfl ?_
      refine Z_go (f2 := (69, [(7, .int (Zi j)), (6, .int (Zi k)), (5, .int (Zi a)), (4, .int (Zi v)), (3, .int (Zi i)), (2, .int (Zi n)), (0, .ref 83), (1, .int (Zi sl_))], [.int (Zi j), .int (Zi (640 * k)), .ref 108])) (fun _ => rfl) ?_
      refine Z_iadd rfl ?_
      refine R_ia (q := 24) rfl hs rfl rfl (by omega) (by omega) (by decide) ?_
      refine Z_go (f2 := (73, [(7, .int (Zi j)), (6, .int (Zi k)), (5, .int (Zi a)), (4, .int (Zi v)), (3, .int (Zi i)), (2, .int (Zi n)), (0, .ref 83), (1, .int (Zi sl_))], [.int (Zi v), .int (Zi (s.2.1 108 (640 * k + j)))])) (fun _ => rfl) ?_
      refine Z_cge rfl rfl (by first | exact hs.zF _ | exact Zor_r _ _ | exact hs.zA _ _ | assumption | exact zS _ | exact Zr_not (hs.zA _ _) | exact ⟨by omega, by omega⟩) (by first | exact hs.zF _ | exact Zor_r _ _ | exact hs.zA _ _ | assumption | exact zS _ | exact Zr_not (hs.zA _ _) | exact ⟨by omega, by omega⟩) (fun c2 => ?_) (fun c2 => ?_)
      · exact kont j j0 j1 hj (.inr (by omega))
      · refine Z_iinc (L2 := [(7, .int (Zi (j + 1))), (6, .int (Zi k)), (5, .int (Zi a)), (4, .int (Zi v)), (3, .int (Zi i)), (2, .int (Zi n)), (0, .ref 83), (1, .int (Zi sl_))]) rfl rfl (by decide) rfl ?_
        refine Z_go (f2 := (45, [(7, .int (Zi (j + 1))), (6, .int (Zi k)), (5, .int (Zi a)), (4, .int (Zi v)), (3, .int (Zi i)), (2, .int (Zi n)), (0, .ref 83), (1, .int (Zi sl_))], [])) (fun _ => rfl) ?_
        refine B_loc (K := [(7, .int (Zi (j + 1))), (6, .int (Zi k)), (5, .int (Zi a)), (4, .int (Zi v)), (3, .int (Zi i)), (2, .int (Zi n)), (0, .ref 83), (1, .int (Zi sl_))]) (N_all_sub ⟨rfl, rfl, rfl, rfl, rfl, rfl, rfl, rfl, trivial⟩) (show ([7, 6, 5, 4, 3, 2, 0, 1] : List Nat).Nodup by decide) ?_
        exact ih (j + 1) (by omega) (by omega) (by omega) (fun x x0 x1 => (Classical.em (x = j)).elim (fun e => by rw [e]; omega) (fun e => hj x x0 (by omega)))
theorem R_co_k {d : Nat} {h0 h : E_H} {s : R_S} {sl : Nat} {Φ : E_R → Prop} {v i n sl_ : Int} (hs : R_is h0 h s) (pv : R_pv s) (zv : Zr v) (kont : ∀ a : Int, (a = 1 ∧ R_all s v ∨ a = 0 ∧ ¬ R_all s v) → B_R d E_m228 (126, [(5, .int (Zi a)), (4, .int (Zi v)), (3, .int (Zi i)), (2, .int (Zi n)), (0, .ref 83), (1, .int (Zi sl_))], []) h sl Φ) : ∀ (t : Nat) (k a : Int), s.1 37 - k < t → 1 ≤ k → k ≤ 581 → (a = 1 ∧ (∀ x, 1 ≤ x → x < k → x < s.1 37 → R_pin s x v) ∨ a = 0 ∧ ¬ R_all s v) → B_R d E_m228 (28, [(6, .int (Zi k)), (5, .int (Zi a)), (4, .int (Zi v)), (3, .int (Zi i)), (2, .int (Zi n)), (0, .ref 83), (1, .int (Zi sl_))], []) h sl Φ := by
  obtain ⟨hp0, hp1, hp⟩ := id pv
  intro t
  induction t with
  | zero =>
    intro k a ht k0 k1 ha
    refine Z_go (f2 := (30, [(6, .int (Zi k)), (5, .int (Zi a)), (4, .int (Zi v)), (3, .int (Zi i)), (2, .int (Zi n)), (0, .ref 83), (1, .int (Zi sl_))], [.int (Zi k)])) (fun _ => rfl) ?_
    refine Z_go (f2 := (31, [(6, .int (Zi k)), (5, .int (Zi a)), (4, .int (Zi v)), (3, .int (Zi i)), (2, .int (Zi n)), (0, .ref 83), (1, .int (Zi sl_))], [.ref 83, .int (Zi k)])) (fun _ => rfl) ?_
    refine R_gi rfl hs rfl ?_
    show B_R _ _ (34, [(6, .int (Zi k)), (5, .int (Zi a)), (4, .int (Zi v)), (3, .int (Zi i)), (2, .int (Zi n)), (0, .ref 83), (1, .int (Zi sl_))], [.int (Zi (s.1 37)), .int (Zi k)]) _ _ _
    refine Z_cge rfl rfl (by first | exact hs.zF _ | exact Zor_r _ _ | exact hs.zA _ _ | assumption | exact zS _ | exact Zr_not (hs.zA _ _) | exact ⟨by omega, by omega⟩) (by first | exact hs.zF _ | exact Zor_r _ _ | exact hs.zA _ _ | assumption | exact zS _ | exact Zr_not (hs.zA _ _) | exact ⟨by omega, by omega⟩) (fun c1 => ?_) (fun c1 => ?_)
    · refine B_loc (K := [(5, .int (Zi a)), (4, .int (Zi v)), (3, .int (Zi i)), (2, .int (Zi n)), (0, .ref 83), (1, .int (Zi sl_))]) (N_all_sub ⟨rfl, rfl, rfl, rfl, rfl, rfl, trivial⟩) (show ([5, 4, 3, 2, 0, 1] : List Nat).Nodup by decide) ?_
      refine kont a ?_
      rcases ha with ⟨q, r⟩ | q
      · exact .inl ⟨q, fun x x0 x1 => r x x0 (by omega) x1⟩
      · exact .inr q
    · exfalso; omega
  | succ t ih =>
    intro k a ht k0 k1 ha
    have hpk : k < s.1 37 → 0 ≤ s.2.1 107 k ∧ s.2.1 107 k ≤ 640 := fun q => ⟨(hp k (by omega) q).1, (hp k (by omega) q).2.1⟩
    refine Z_go (f2 := (30, [(6, .int (Zi k)), (5, .int (Zi a)), (4, .int (Zi v)), (3, .int (Zi i)), (2, .int (Zi n)), (0, .ref 83), (1, .int (Zi sl_))], [.int (Zi k)])) (fun _ => rfl) ?_
    refine Z_go (f2 := (31, [(6, .int (Zi k)), (5, .int (Zi a)), (4, .int (Zi v)), (3, .int (Zi i)), (2, .int (Zi n)), (0, .ref 83), (1, .int (Zi sl_))], [.ref 83, .int (Zi k)])) (fun _ => rfl) ?_
    refine R_gi rfl hs rfl ?_
    show B_R _ _ (34, [(6, .int (Zi k)), (5, .int (Zi a)), (4, .int (Zi v)), (3, .int (Zi i)), (2, .int (Zi n)), (0, .ref 83), (1, .int (Zi sl_))], [.int (Zi (s.1 37)), .int (Zi k)]) _ _ _
    refine Z_cge rfl rfl (by first | exact hs.zF _ | exact Zor_r _ _ | exact hs.zA _ _ | assumption | exact zS _ | exact Zr_not (hs.zA _ _) | exact ⟨by omega, by omega⟩) (by first | exact hs.zF _ | exact Zor_r _ _ | exact hs.zA _ _ | assumption | exact zS _ | exact Zr_not (hs.zA _ _) | exact ⟨by omega, by omega⟩) (fun c1 => ?_) (fun c1 => ?_)
    · refine B_loc (K := [(5, .int (Zi a)), (4, .int (Zi v)), (3, .int (Zi i)), (2, .int (Zi n)), (0, .ref 83), (1, .int (Zi sl_))]) (N_all_sub ⟨rfl, rfl, rfl, rfl, rfl, rfl, trivial⟩) (show ([5, 4, 3, 2, 0, 1] : List Nat).Nodup by decide) ?_
      refine kont a ?_
      rcases ha with ⟨q, r⟩ | q
      · exact .inl ⟨q, fun x x0 x1 => r x x0 (by omega) x1⟩
      · exact .inr q
    · refine Z_go (f2 := (39, [(6, .int (Zi k)), (5, .int (Zi a)), (4, .int (Zi v)), (3, .int (Zi i)), (2, .int (Zi n)), (0, .ref 83), (1, .int (Zi sl_))], [.int (Zi a)])) (fun _ => rfl) ?_
      refine Z_ieq rfl rfl (by first | exact hs.zF _ | exact Zor_r _ _ | exact hs.zA _ _ | assumption | exact zS _ | exact Zr_not (hs.zA _ _) | exact ⟨by omega, by omega⟩) (fun c2 => ?_) (fun c2 => ?_)
      · refine B_loc (K := [(5, .int (Zi a)), (4, .int (Zi v)), (3, .int (Zi i)), (2, .int (Zi n)), (0, .ref 83), (1, .int (Zi sl_))]) (N_all_sub ⟨rfl, rfl, rfl, rfl, rfl, rfl, trivial⟩) (show ([5, 4, 3, 2, 0, 1] : List Nat).Nodup by decide) ?_
        refine kont a ?_
        rcases ha with ⟨q, r⟩ | q
        · omega
        · exact .inr q
      · refine Z_go (f2 := (43, [(6, .int (Zi k)), (5, .int (Zi a)), (4, .int (Zi v)), (3, .int (Zi i)), (2, .int (Zi n)), (0, .ref 83), (1, .int (Zi sl_))], [.int (Zi 0)])) (fun _ => rfl) ?_
        refine Z_go (f2 := (45, [(7, .int (Zi 0)), (6, .int (Zi k)), (5, .int (Zi a)), (4, .int (Zi v)), (3, .int (Zi i)), (2, .int (Zi n)), (0, .ref 83), (1, .int (Zi sl_))], [])) (fun _ => rfl) ?_
        refine B_loc (K := [(7, .int (Zi 0)), (6, .int (Zi k)), (5, .int (Zi a)), (4, .int (Zi v)), (3, .int (Zi i)), (2, .int (Zi n)), (0, .ref 83), (1, .int (Zi sl_))]) (N_all_sub ⟨rfl, rfl, rfl, rfl, rfl, rfl, rfl, rfl, trivial⟩) (show ([7, 6, 5, 4, 3, 2, 0, 1] : List Nat).Nodup by decide) ?_
        refine R_co_j hs zv (by omega) (by omega) (hp k (by omega) (by omega)).2.1 (fun j j0 j1 hj he => ?_) ((s.2.1 107 k).toNat + 1) 0 (by omega) (by omega) (hp k (by omega) (by omega)).1 (fun x x0 x1 => by omega)
        refine Z_go (f2 := (84, [(7, .int (Zi j)), (6, .int (Zi k)), (5, .int (Zi a)), (4, .int (Zi v)), (3, .int (Zi i)), (2, .int (Zi n)), (0, .ref 83), (1, .int (Zi sl_))], [.int (Zi j)])) (fun _ => rfl) ?_
        refine Z_go (f2 := (85, [(7, .int (Zi j)), (6, .int (Zi k)), (5, .int (Zi a)), (4, .int (Zi v)), (3, .int (Zi i)), (2, .int (Zi n)), (0, .ref 83), (1, .int (Zi sl_))], [.ref 83, .int (Zi j)])) (fun _ => rfl) ?_
        refine R_gr (q := 105) rfl hs rfl ?_
        show B_R _ _ (88, [(7, .int (Zi j)), (6, .int (Zi k)), (5, .int (Zi a)), (4, .int (Zi v)), (3, .int (Zi i)), (2, .int (Zi n)), (0, .ref 83), (1, .int (Zi sl_))], [.ref 107, .int (Zi j)]) _ _ _
        refine Z_go (f2 := (90, [(7, .int (Zi j)), (6, .int (Zi k)), (5, .int (Zi a)), (4, .int (Zi v)), (3, .int (Zi i)), (2, .int (Zi n)), (0, .ref 83), (1, .int (Zi sl_))], [.int (Zi k), .ref 107, .int (Zi j)])) (fun _ => rfl) ?_
        refine R_ia (q := 23) rfl hs rfl rfl (by omega) (by omega) (by decide) ?_
        refine Z_cge rfl rfl (by first | exact hs.zF _ | exact Zor_r _ _ | exact hs.zA _ _ | assumption | exact zS _ | exact Zr_not (hs.zA _ _) | exact ⟨by omega, by omega⟩) (by first | exact hs.zF _ | exact Zor_r _ _ | exact hs.zA _ _ | assumption | exact zS _ | exact Zr_not (hs.zA _ _) | exact ⟨by omega, by omega⟩) (fun b1 => ?_) (fun b1 => ?_)
        · refine Z_go (f2 := (118, [(7, .int (Zi j)), (6, .int (Zi k)), (5, .int (Zi a)), (4, .int (Zi v)), (3, .int (Zi i)), (2, .int (Zi n)), (0, .ref 83), (1, .int (Zi sl_))], [.int (Zi 0)])) (fun _ => rfl) ?_
          refine Z_go (f2 := (120, [(5, .int (Zi 0)), (7, .int (Zi j)), (6, .int (Zi k)), (4, .int (Zi v)), (3, .int (Zi i)), (2, .int (Zi n)), (0, .ref 83), (1, .int (Zi sl_))], [])) (fun _ => rfl) ?_
          refine Z_iinc (L2 := [(6, .int (Zi (k + 1))), (5, .int (Zi 0)), (7, .int (Zi j)), (4, .int (Zi v)), (3, .int (Zi i)), (2, .int (Zi n)), (0, .ref 83), (1, .int (Zi sl_))]) rfl rfl (by decide) rfl ?_
          refine Z_go (f2 := (28, [(6, .int (Zi (k + 1))), (5, .int (Zi 0)), (7, .int (Zi j)), (4, .int (Zi v)), (3, .int (Zi i)), (2, .int (Zi n)), (0, .ref 83), (1, .int (Zi sl_))], [])) (fun _ => rfl) ?_
          refine B_loc (K := [(6, .int (Zi (k + 1))), (5, .int (Zi 0)), (4, .int (Zi v)), (3, .int (Zi i)), (2, .int (Zi n)), (0, .ref 83), (1, .int (Zi sl_))]) (N_all_sub ⟨rfl, rfl, rfl, rfl, rfl, rfl, rfl, trivial⟩) (show ([6, 5, 4, 3, 2, 0, 1] : List Nat).Nodup by decide) ?_
          refine ih (k + 1) 0 (by omega) (by omega) (by omega) (.inr ⟨rfl, fun hh => ?_⟩)
          obtain ⟨x, x0, x1, x2⟩ := hh k k0 (by omega)
          have x2 : s.2.1 108 (640 * k + x) = v := x2
          have sb := (hp k (by omega) (by omega)).2.2
          by_cases c : x < j
          · have := hj x x0 c; omega
          · rcases he with he | he
            · omega
            · have := D_srt_le sb j0 (show j ≤ x by omega) x1
              have this : s.2.1 108 (640 * k + j) ≤ s.2.1 108 (640 * k + x) := this
              omega
        · refine Z_go (f2 := (95, [(7, .int (Zi j)), (6, .int (Zi k)), (5, .int (Zi a)), (4, .int (Zi v)), (3, .int (Zi i)), (2, .int (Zi n)), (0, .ref 83), (1, .int (Zi sl_))], [.ref 83])) (fun _ => rfl) ?_
          refine R_gr (q := 106) rfl hs rfl ?_
          show B_R _ _ (98, [(7, .int (Zi j)), (6, .int (Zi k)), (5, .int (Zi a)), (4, .int (Zi v)), (3, .int (Zi i)), (2, .int (Zi n)), (0, .ref 83), (1, .int (Zi sl_))], [.ref 108]) _ _ _
          refine Z_go (f2 := (101, [(7, .int (Zi j)), (6, .int (Zi k)), (5, .int (Zi a)), (4, .int (Zi v)), (3, .int (Zi i)), (2, .int (Zi n)), (0, .ref 83), (1, .int (Zi sl_))], [.int (Zi 640), .ref 108])) (fun _ => rfl) ?_
          refine Z_go (f2 := (103, [(7, .int (Zi j)), (6, .int (Zi k)), (5, .int (Zi a)), (4, .int (Zi v)), (3, .int (Zi i)), (2, .int (Zi n)), (0, .ref 83), (1, .int (Zi sl_))], [.int (Zi k), .int (Zi 640), .ref 108])) (fun _ => rfl) ?_
          refine Z_imul rfl ?_
          refine Z_go (f2 := (106, [(7, .int (Zi j)), (6, .int (Zi k)), (5, .int (Zi a)), (4, .int (Zi v)), (3, .int (Zi i)), (2, .int (Zi n)), (0, .ref 83), (1, .int (Zi sl_))], [.int (Zi j), .int (Zi (640 * k)), .ref 108])) (fun _ => rfl) ?_
          refine Z_iadd rfl ?_
          refine R_ia (q := 24) rfl hs rfl rfl (by omega) (by omega) (by decide) ?_
          refine Z_go (f2 := (110, [(7, .int (Zi j)), (6, .int (Zi k)), (5, .int (Zi a)), (4, .int (Zi v)), (3, .int (Zi i)), (2, .int (Zi n)), (0, .ref 83), (1, .int (Zi sl_))], [.int (Zi v), .int (Zi (s.2.1 108 (640 * k + j)))])) (fun _ => rfl) ?_
          refine Z_cne rfl rfl (by first | exact hs.zF _ | exact Zor_r _ _ | exact hs.zA _ _ | assumption | exact zS _ | exact Zr_not (hs.zA _ _) | exact ⟨by omega, by omega⟩) (by first | exact hs.zF _ | exact Zor_r _ _ | exact hs.zA _ _ | assumption | exact zS _ | exact Zr_not (hs.zA _ _) | exact ⟨by omega, by omega⟩) (fun b2 => ?_) (fun b2 => ?_)
          · refine Z_go (f2 := (118, [(7, .int (Zi j)), (6, .int (Zi k)), (5, .int (Zi a)), (4, .int (Zi v)), (3, .int (Zi i)), (2, .int (Zi n)), (0, .ref 83), (1, .int (Zi sl_))], [.int (Zi 0)])) (fun _ => rfl) ?_
            refine Z_go (f2 := (120, [(5, .int (Zi 0)), (7, .int (Zi j)), (6, .int (Zi k)), (4, .int (Zi v)), (3, .int (Zi i)), (2, .int (Zi n)), (0, .ref 83), (1, .int (Zi sl_))], [])) (fun _ => rfl) ?_
            refine Z_iinc (L2 := [(6, .int (Zi (k + 1))), (5, .int (Zi 0)), (7, .int (Zi j)), (4, .int (Zi v)), (3, .int (Zi i)), (2, .int (Zi n)), (0, .ref 83), (1, .int (Zi sl_))]) rfl rfl (by decide) rfl ?_
            refine Z_go (f2 := (28, [(6, .int (Zi (k + 1))), (5, .int (Zi 0)), (7, .int (Zi j)), (4, .int (Zi v)), (3, .int (Zi i)), (2, .int (Zi n)), (0, .ref 83), (1, .int (Zi sl_))], [])) (fun _ => rfl) ?_
            refine B_loc (K := [(6, .int (Zi (k + 1))), (5, .int (Zi 0)), (4, .int (Zi v)), (3, .int (Zi i)), (2, .int (Zi n)), (0, .ref 83), (1, .int (Zi sl_))]) (N_all_sub ⟨rfl, rfl, rfl, rfl, rfl, rfl, rfl, trivial⟩) (show ([6, 5, 4, 3, 2, 0, 1] : List Nat).Nodup by decide) ?_
            refine ih (k + 1) 0 (by omega) (by omega) (by omega) (.inr ⟨rfl, fun hh => ?_⟩)
            obtain ⟨x, x0, x1, x2⟩ := hh k k0 (by omega)
            have x2 : s.2.1 108 (640 * k + x) = v := x2
            have sb := (hp k (by omega) (by omega)).2.2
            by_cases c : x < j
            · have := hj x x0 c; omega
            · rcases he with he | he
              · omega
              · have := D_srt_le sb j0 (show j ≤ x by omega) x1
                have this : s.2.1 108 (640 * k + j) ≤ s.2.1 108 (640 * k + x) := this
                omega
          · refine Z_go (f2 := (114, [(7, .int (Zi j)), (6, .int (Zi k)), (5, .int (Zi a)), (4, .int (Zi v)), (3, .int (Zi i)), (2, .int (Zi n)), (0, .ref 83), (1, .int (Zi sl_))], [.int (Zi 1)])) (fun _ => rfl) ?_
            refine Z_go (f2 := (118, [(7, .int (Zi j)), (6, .int (Zi k)), (5, .int (Zi a)), (4, .int (Zi v)), (3, .int (Zi i)), (2, .int (Zi n)), (0, .ref 83), (1, .int (Zi sl_))], [.int (Zi 1)])) (fun _ => rfl) ?_
            refine Z_go (f2 := (120, [(5, .int (Zi 1)), (7, .int (Zi j)), (6, .int (Zi k)), (4, .int (Zi v)), (3, .int (Zi i)), (2, .int (Zi n)), (0, .ref 83), (1, .int (Zi sl_))], [])) (fun _ => rfl) ?_
            refine Z_iinc (L2 := [(6, .int (Zi (k + 1))), (5, .int (Zi 1)), (7, .int (Zi j)), (4, .int (Zi v)), (3, .int (Zi i)), (2, .int (Zi n)), (0, .ref 83), (1, .int (Zi sl_))]) rfl rfl (by decide) rfl ?_
            refine Z_go (f2 := (28, [(6, .int (Zi (k + 1))), (5, .int (Zi 1)), (7, .int (Zi j)), (4, .int (Zi v)), (3, .int (Zi i)), (2, .int (Zi n)), (0, .ref 83), (1, .int (Zi sl_))], [])) (fun _ => rfl) ?_
            refine B_loc (K := [(6, .int (Zi (k + 1))), (5, .int (Zi 1)), (4, .int (Zi v)), (3, .int (Zi i)), (2, .int (Zi n)), (0, .ref 83), (1, .int (Zi sl_))]) (N_all_sub ⟨rfl, rfl, rfl, rfl, rfl, rfl, rfl, trivial⟩) (show ([6, 5, 4, 3, 2, 0, 1] : List Nat).Nodup by decide) ?_
            refine ih (k + 1) 1 (by omega) (by omega) (by omega) (.inl ⟨rfl, fun x x0 x1 x2 => ?_⟩)
            by_cases c : x = k
            · subst c
              exact ⟨j, j0, by omega, by show s.2.1 108 (640 * x + j) = v; omega⟩
            · rcases ha with ⟨q, r⟩ | q
              · exact r x x0 (by omega) x2
              · omega
/-- u is s, but what stands from off on, n of them -/
def R_ptd (s u : R_S) (off n : Int) : Prop := R_only [106] s u ∧ (∀ j, ¬ (off ≤ j ∧ j < off + n) → u.2.1 106 j = s.2.1 106 j)
theorem R_ptd_0 (s : R_S) (off : Int) : R_ptd s s off 0 := ⟨R_only_0 _ _, fun _ _ => rfl⟩
theorem R_ptd.st {s u : R_S} {off n : Int} (h : R_ptd s u off n) (n0 : 0 ≤ n) (v : Int) : R_ptd s (R_sA u 106 (off + n) v) off (n + 1) := by
  refine ⟨h.1.st (by decide) _ _, fun j hj => ?_⟩
  rw [R_sA_m _ _ _ _ (by omega)]
  exact h.2 j (by omega)
theorem R_pv_106 {s u : R_S} (h : R_only [106] s u) (p : R_pv s) : R_pv u := by
  refine ⟨by rw [h.1]; exact p.1, by rw [h.1]; exact p.2.1, fun i i0 i1 => ?_⟩
  rw [h.1] at i1
  rw [h.2.1 107 _ (by decide)]
  have : (fun x => u.2.1 108 (640 * i + x)) = fun x => s.2.1 108 (640 * i + x) := by
    funext x
    exact h.2.1 108 _ (by decide)
  rw [this]
  exact p.2.2 i i0 i1
theorem R_all_106 {s u : R_S} (h : R_only [106] s u) (v : Int) : R_all u v ↔ R_all s v := by
  unfold R_all R_pin
  rw [h.1]
  have : ∀ k x, u.2.1 108 (640 * k + x) = s.2.1 108 (640 * k + x) := fun k x => h.2.1 108 _ (by decide)
  have e2 : ∀ k, u.2.1 107 k = s.2.1 107 k := fun k => h.2.1 107 _ (by decide)
  simp only [this, e2]
/-- what has come out of the first i of the pair 0 -/
def R_cor (s u : R_S) (off n i : Int) : Prop := 0 ≤ n ∧ n ≤ i ∧ D_srt (fun x => u.2.1 106 (off + x)) n ∧ (∀ x, D_in (fun x => u.2.1 106 (off + x)) n x ↔ D_in (s.2.1 108) i x ∧ R_all s x)
theorem R_cor_0 (s : R_S) (off : Int) : R_cor s s off 0 0 := ⟨Int.le_refl _, Int.le_refl _, fun i j a b c => by omega, fun x => ⟨fun ⟨i, a, b, _⟩ => by omega, fun ⟨⟨i, a, b, _⟩, _⟩ => by omega⟩⟩
theorem R_cor.skip {s u : R_S} {off n i : Int} (h : R_cor s u off n i) (i0 : 0 ≤ i) (c : ¬ R_all s (s.2.1 108 i)) : R_cor s u off n (i + 1) := by
  refine ⟨h.1, by have := h.2.1; omega, h.2.2.1, fun x => ?_⟩
  rw [h.2.2.2, D_in_succ i0]
  constructor
  · rintro ⟨a, b⟩; exact ⟨.inl a, b⟩
  · rintro ⟨a | a, b⟩
    · exact ⟨a, b⟩
    · exact absurd (a ▸ b) c
theorem R_cor.add {s u : R_S} {off n i m : Int} (h : R_cor s u off n i) (i0 : 0 ≤ i) (hi : i < m) (sr : D_srt (s.2.1 108) m) (c : R_all s (s.2.1 108 i)) : R_cor s (R_sA u 106 (off + n) (s.2.1 108 i)) off (n + 1) (i + 1) := by
  obtain ⟨h0, h1, h2, h3⟩ := h
  have e : (fun x => (R_sA u 106 (off + n) (s.2.1 108 i)).2.1 106 (off + x)) = D_up (fun x => u.2.1 106 (off + x)) n (s.2.1 108 i) := by
    funext x
    unfold D_up
    by_cases q : x = n
    · rw [if_pos q, q, R_sA_s]
    · rw [if_neg q, R_sA_m _ _ _ _ (by omega)]
  have old : ∀ j, j < n → D_up (fun x => u.2.1 106 (off + x)) n (s.2.1 108 i) j = u.2.1 106 (off + j) := fun j hj => D_up_n _ (by omega)
  refine ⟨by omega, by omega, ?_, fun x => ?_⟩
  · rw [e]
    intro a b a0 ab bn
    by_cases q : b = n
    · rw [q, D_up_s, old a (by omega)]
      obtain ⟨y, y0, y1, y2⟩ := ((h3 (u.2.1 106 (off + a))).mp ⟨a, a0, by omega, rfl⟩).1
      rw [← y2]
      exact sr y i y0 y1 hi
    · rw [old a (by omega), old b (by omega)]
      exact h2 a b a0 ab (by omega)
  · rw [e, D_in_succ h0, D_in_succ i0]
    have e2 : D_in (D_up (fun x => u.2.1 106 (off + x)) n (s.2.1 108 i)) n x ↔ D_in (fun x => u.2.1 106 (off + x)) n x := by
      constructor
      · rintro ⟨j, j0, j1, j2⟩; exact ⟨j, j0, j1, by rw [old j j1] at j2; exact j2⟩
      · rintro ⟨j, j0, j1, j2⟩; exact ⟨j, j0, j1, by rw [old j j1]; exact j2⟩
    rw [e2, h3, D_up_s]
    constructor
    · rintro (⟨a, b⟩ | a)
      · exact ⟨.inl a, b⟩
      · exact ⟨.inr a, a ▸ c⟩
    · rintro ⟨a | a, b⟩
      · exact .inl ⟨a, b⟩
      · exact .inr a
theorem R_co_i {d : Nat} {h0 : E_H} {s : R_S} {sl : Nat} {Φ : E_R → Prop} {sl_ : Int} (pv : R_pv s) (p1 : 1 ≤ s.1 37) (s0 : 0 ≤ sl_) (s1 : sl_ < 44) (kont : ∀ (u : R_S) (h : E_H) (n : Int), R_is h0 h u → R_ptd s u (15360 * sl_) n → R_cor s u (15360 * sl_) n (s.2.1 107 0) → B_R d E_m228 (157, [(2, .int (Zi n)), (0, .ref 83), (1, .int (Zi sl_))], []) h sl Φ) : ∀ (t : Nat) (i n : Int) (u : R_S) (h : E_H), s.2.1 107 0 - i < t → R_is h0 h u → R_ptd s u (15360 * sl_) n → R_cor s u (15360 * sl_) n i → 0 ≤ i → i ≤ s.2.1 107 0 → B_R d E_m228 (4, [(3, .int (Zi i)), (2, .int (Zi n)), (0, .ref 83), (1, .int (Zi sl_))], []) h sl Φ := by
  intro t
  induction t with
  | zero => intro i n u h ht hs hu hc i0 i1; omega
  | succ t ih =>
    intro i n u h ht hs hu hc i0 i1
    have e37 : u.1 37 = s.1 37 := by rw [hu.1.1]
    have e107 : u.2.1 107 0 = s.2.1 107 0 := hu.1.2.1 107 _ (by decide)
    have e108 : u.2.1 108 i = s.2.1 108 i := hu.1.2.1 108 _ (by decide)
    obtain ⟨hp0, hp1, hp⟩ := id pv
    obtain ⟨c0, c1, c2, c3⟩ := id hc
    have p00 := hp 0 (by omega) (by omega)
    have sr : D_srt (s.2.1 108) (s.2.1 107 0) := by
      have := p00.2.2
      simpa using this
    refine Z_go (f2 := (5, [(3, .int (Zi i)), (2, .int (Zi n)), (0, .ref 83), (1, .int (Zi sl_))], [.int (Zi i)])) (fun _ => rfl) ?_
    refine Z_go (f2 := (6, [(3, .int (Zi i)), (2, .int (Zi n)), (0, .ref 83), (1, .int (Zi sl_))], [.ref 83, .int (Zi i)])) (fun _ => rfl) ?_
    refine R_gr (q := 105) rfl hs rfl ?_
    show B_R _ _ (9, [(3, .int (Zi i)), (2, .int (Zi n)), (0, .ref 83), (1, .int (Zi sl_))], [.ref 107, .int (Zi i)]) _ _ _
    refine Z_go (f2 := (10, [(3, .int (Zi i)), (2, .int (Zi n)), (0, .ref 83), (1, .int (Zi sl_))], [.int (Zi 0), .ref 107, .int (Zi i)])) (fun _ => rfl) ?_
    refine R_ia (q := 23) rfl hs rfl rfl (by omega) (by omega) (by decide) ?_
    refine Z_cge rfl rfl (by first | exact hs.zF _ | exact Zor_r _ _ | exact hs.zA _ _ | assumption | exact zS _ | exact Zr_not (hs.zA _ _) | exact ⟨by omega, by omega⟩) (by first | exact hs.zF _ | exact Zor_r _ _ | exact hs.zA _ _ | assumption | exact zS _ | exact Zr_not (hs.zA _ _) | exact ⟨by omega, by omega⟩) (fun c1 => ?_) (fun c1 => ?_)
    · refine B_loc (K := [(2, .int (Zi n)), (0, .ref 83), (1, .int (Zi sl_))]) (N_all_sub ⟨rfl, rfl, rfl, trivial⟩) (show ([2, 0, 1] : List Nat).Nodup by decide) ?_
      have e : i = s.2.1 107 0 := by omega
      rw [e] at hc
      exact kont u h n hs hu hc
    · refine Z_go (f2 := (15, [(3, .int (Zi i)), (2, .int (Zi n)), (0, .ref 83), (1, .int (Zi sl_))], [.ref 83])) (fun _ => rfl) ?_
      refine R_gr (q := 106) rfl hs rfl ?_
      show B_R _ _ (18, [(3, .int (Zi i)), (2, .int (Zi n)), (0, .ref 83), (1, .int (Zi sl_))], [.ref 108]) _ _ _
      refine Z_go (f2 := (19, [(3, .int (Zi i)), (2, .int (Zi n)), (0, .ref 83), (1, .int (Zi sl_))], [.int (Zi i), .ref 108])) (fun _ => rfl) ?_
      refine R_ia (q := 24) rfl hs rfl rfl (by omega) (by omega) (by decide) ?_
      refine Z_go (f2 := (22, [(4, .int (Zi (u.2.1 108 i))), (3, .int (Zi i)), (2, .int (Zi n)), (0, .ref 83), (1, .int (Zi sl_))], [])) (fun _ => rfl) ?_
      refine Z_go (f2 := (23, [(4, .int (Zi (u.2.1 108 i))), (3, .int (Zi i)), (2, .int (Zi n)), (0, .ref 83), (1, .int (Zi sl_))], [.int (Zi 1)])) (fun _ => rfl) ?_
      refine Z_go (f2 := (25, [(5, .int (Zi 1)), (4, .int (Zi (u.2.1 108 i))), (3, .int (Zi i)), (2, .int (Zi n)), (0, .ref 83), (1, .int (Zi sl_))], [])) (fun _ => rfl) ?_
      refine Z_go (f2 := (26, [(5, .int (Zi 1)), (4, .int (Zi (u.2.1 108 i))), (3, .int (Zi i)), (2, .int (Zi n)), (0, .ref 83), (1, .int (Zi sl_))], [.int (Zi 1)])) (fun _ => rfl) ?_
      refine Z_go (f2 := (28, [(6, .int (Zi 1)), (5, .int (Zi 1)), (4, .int (Zi (u.2.1 108 i))), (3, .int (Zi i)), (2, .int (Zi n)), (0, .ref 83), (1, .int (Zi sl_))], [])) (fun _ => rfl) ?_
      refine B_loc (K := [(6, .int (Zi 1)), (5, .int (Zi 1)), (4, .int (Zi (u.2.1 108 i))), (3, .int (Zi i)), (2, .int (Zi n)), (0, .ref 83), (1, .int (Zi sl_))]) (N_all_sub ⟨rfl, rfl, rfl, rfl, rfl, rfl, rfl, trivial⟩) (show ([6, 5, 4, 3, 2, 0, 1] : List Nat).Nodup by decide) ?_
      refine R_co_k (s := u) hs (R_pv_106 hu.1 pv) (hs.zA _ _) (fun a ha => ?_) ((u.1 37).toNat + 1) 1 1 (by omega) (by omega) (by omega) (.inl ⟨rfl, fun x x0 x1 => by omega⟩)
      rw [R_all_106 hu.1, e108] at ha
      refine Z_go (f2 := (128, [(5, .int (Zi a)), (4, .int (Zi (u.2.1 108 i))), (3, .int (Zi i)), (2, .int (Zi n)), (0, .ref 83), (1, .int (Zi sl_))], [.int (Zi a)])) (fun _ => rfl) ?_
      refine Z_ine rfl rfl (by first | exact hs.zF _ | exact Zor_r _ _ | exact hs.zA _ _ | assumption | exact zS _ | exact Zr_not (hs.zA _ _) | exact ⟨by omega, by omega⟩) (fun b1 => ?_) (fun b1 => ?_)
      · refine Z_go (f2 := (135, [(5, .int (Zi a)), (4, .int (Zi (u.2.1 108 i))), (3, .int (Zi i)), (2, .int (Zi n)), (0, .ref 83), (1, .int (Zi sl_))], [.ref 83])) (fun _ => rfl) ?_
        refine R_gr (q := 104) rfl hs rfl ?_
        show B_R _ _ (138, [(5, .int (Zi a)), (4, .int (Zi (u.2.1 108 i))), (3, .int (Zi i)), (2, .int (Zi n)), (0, .ref 83), (1, .int (Zi sl_))], [.ref 106]) _ _ _
        refine Z_go (f2 := (141, [(5, .int (Zi a)), (4, .int (Zi (u.2.1 108 i))), (3, .int (Zi i)), (2, .int (Zi n)), (0, .ref 83), (1, .int (Zi sl_))], [.int (Zi 15360), .ref 106])) (fun _ => rfl) ?_
        refine Z_go (f2 := (142, [(5, .int (Zi a)), (4, .int (Zi (u.2.1 108 i))), (3, .int (Zi i)), (2, .int (Zi n)), (0, .ref 83), (1, .int (Zi sl_))], [.int (Zi sl_), .int (Zi 15360), .ref 106])) (fun _ => rfl) ?_
        refine Z_imul rfl ?_
        refine Z_go (f2 := (144, [(5, .int (Zi a)), (4, .int (Zi (u.2.1 108 i))), (3, .int (Zi i)), (2, .int (Zi n)), (0, .ref 83), (1, .int (Zi sl_))], [.int (Zi n), .int (Zi (15360 * sl_)), .ref 106])) (fun _ => rfl) ?_
        refine Z_iadd rfl ?_
        refine Z_go (f2 := (147, [(5, .int (Zi a)), (4, .int (Zi (u.2.1 108 i))), (3, .int (Zi i)), (2, .int (Zi n)), (0, .ref 83), (1, .int (Zi sl_))], [.int (Zi (u.2.1 108 i)), .int (Zi (15360 * sl_ + n)), .ref 106])) (fun _ => rfl) ?_
        refine R_is_ (q := 22) rfl hs rfl rfl (by omega) (by omega) (by decide) (by first | exact hs.zF _ | exact Zor_r _ _ | exact hs.zA _ _ | assumption | exact zS _ | exact Zr_not (hs.zA _ _) | exact ⟨by omega, by omega⟩) (fun h hs => ?_)
        refine Z_iinc (L2 := [(2, .int (Zi (n + 1))), (5, .int (Zi a)), (4, .int (Zi (u.2.1 108 i))), (3, .int (Zi i)), (0, .ref 83), (1, .int (Zi sl_))]) rfl rfl (by decide) rfl ?_
        refine Z_iinc (L2 := [(3, .int (Zi (i + 1))), (2, .int (Zi (n + 1))), (5, .int (Zi a)), (4, .int (Zi (u.2.1 108 i))), (0, .ref 83), (1, .int (Zi sl_))]) rfl rfl (by decide) rfl ?_
        refine Z_goto (p2 := 4) rfl (by decide +kernel) (by decide +kernel) ?_
        refine B_loc (K := [(3, .int (Zi (i + 1))), (2, .int (Zi (n + 1))), (0, .ref 83), (1, .int (Zi sl_))]) (N_all_sub ⟨rfl, rfl, rfl, rfl, trivial⟩) (show ([3, 2, 0, 1] : List Nat).Nodup by decide) ?_
        rw [e108] at hs
        exact ih (i + 1) (n + 1) _ h (by omega) hs (hu.st c0 _) (hc.add i0 (by omega) sr (by rcases ha with q | q; exact q.2; omega)) (by omega) (by omega)
      · refine Z_go (f2 := (151, [(5, .int (Zi a)), (4, .int (Zi (u.2.1 108 i))), (3, .int (Zi i)), (2, .int (Zi n)), (0, .ref 83), (1, .int (Zi sl_))], [])) (fun _ => rfl) ?_
        refine Z_iinc (L2 := [(3, .int (Zi (i + 1))), (5, .int (Zi a)), (4, .int (Zi (u.2.1 108 i))), (2, .int (Zi n)), (0, .ref 83), (1, .int (Zi sl_))]) rfl rfl (by decide) rfl ?_
        refine Z_goto (p2 := 4) rfl (by decide +kernel) (by decide +kernel) ?_
        refine B_loc (K := [(3, .int (Zi (i + 1))), (2, .int (Zi n)), (0, .ref 83), (1, .int (Zi sl_))]) (N_all_sub ⟨rfl, rfl, rfl, rfl, trivial⟩) (show ([3, 2, 0, 1] : List Nat).Nodup by decide) ?_
        exact ih (i + 1) n _ h (by omega) hs hu (hc.skip i0 (by rcases ha with q | q; omega; exact q.2)) (by omega) (by omega)
theorem R_cores (d : Nat) (s : R_S) {sl_ : Int} (zsl : Zr sl_) (s0 : 0 ≤ sl_) (s1 : sl_ < 44) (pv : R_pv s) (p1 : 1 ≤ s.1 37) : R_ok (d + 1) 228 [.int (Zi sl_)] s (fun x s2 => x = none ∧ ∃ (u : R_S) (n : Int), R_ptd s u (15360 * sl_) n ∧ R_cor s u (15360 * sl_) n (s.2.1 107 0) ∧ s2 = R_sA (R_sA u 105 (24 * sl_) n) 104 sl_ 1) := by
  refine R_enter (M := E_m228) rfl (Nat.le_of_ble_eq_true rfl) (fun h0 h hs => ?_)
  show B_R d _ (0, [(0, .ref 83), (1, .int (Zi sl_))], []) _ _ _
  refine Z_go (f2 := (1, [(0, .ref 83), (1, .int (Zi sl_))], [.int (Zi 0)])) (fun _ => rfl) ?_
  refine Z_go (f2 := (2, [(2, .int (Zi 0)), (0, .ref 83), (1, .int (Zi sl_))], [])) (fun _ => rfl) ?_
  refine Z_go (f2 := (3, [(2, .int (Zi 0)), (0, .ref 83), (1, .int (Zi sl_))], [.int (Zi 0)])) (fun _ => rfl) ?_
  refine Z_go (f2 := (4, [(3, .int (Zi 0)), (2, .int (Zi 0)), (0, .ref 83), (1, .int (Zi sl_))], [])) (fun _ => rfl) ?_
  refine B_loc (K := [(3, .int (Zi 0)), (2, .int (Zi 0)), (0, .ref 83), (1, .int (Zi sl_))]) (N_all_sub ⟨rfl, rfl, rfl, rfl, trivial⟩) (show ([3, 2, 0, 1] : List Nat).Nodup by decide) ?_
  refine R_co_i pv p1 s0 s1 (fun u h n hs hu hc => ?_) ((s.2.1 107 0).toNat + 1) 0 0 s h (by omega) hs (R_ptd_0 _ _) (R_cor_0 _ _) (by omega) (pv.2.2 0 (by omega) (by omega)).1
  obtain ⟨c0, c1, c2, c3⟩ := id hc
  have p00 := pv.2.2 0 (by omega) (by omega)
  refine Z_go (f2 := (158, [(2, .int (Zi n)), (0, .ref 83), (1, .int (Zi sl_))], [.ref 83])) (fun _ => rfl) ?_
  refine R_gr (q := 103) rfl hs rfl ?_
  show B_R _ _ (161, [(2, .int (Zi n)), (0, .ref 83), (1, .int (Zi sl_))], [.ref 105]) _ _ _
  refine Z_go (f2 := (163, [(2, .int (Zi n)), (0, .ref 83), (1, .int (Zi sl_))], [.int (Zi 24), .ref 105])) (fun _ => rfl) ?_
  refine Z_go (f2 := (164, [(2, .int (Zi n)), (0, .ref 83), (1, .int (Zi sl_))], [.int (Zi sl_), .int (Zi 24), .ref 105])) (fun _ => rfl) ?_
  refine Z_imul rfl ?_
  refine Z_go (f2 := (166, [(2, .int (Zi n)), (0, .ref 83), (1, .int (Zi sl_))], [.int (Zi n), .int (Zi (24 * sl_)), .ref 105])) (fun _ => rfl) ?_
  refine R_is_ (q := 21) rfl hs rfl rfl (by omega) (by omega) (by decide) (by first | exact hs.zF _ | exact Zor_r _ _ | exact hs.zA _ _ | assumption | exact zS _ | exact Zr_not (hs.zA _ _) | exact ⟨by omega, by omega⟩) (fun h hs => ?_)
  refine Z_go (f2 := (168, [(2, .int (Zi n)), (0, .ref 83), (1, .int (Zi sl_))], [.ref 83])) (fun _ => rfl) ?_
  refine R_gr (q := 102) rfl hs rfl ?_
  show B_R _ _ (171, [(2, .int (Zi n)), (0, .ref 83), (1, .int (Zi sl_))], [.ref 104]) _ _ _
  refine Z_go (f2 := (172, [(2, .int (Zi n)), (0, .ref 83), (1, .int (Zi sl_))], [.int (Zi sl_), .ref 104])) (fun _ => rfl) ?_
  refine Z_go (f2 := (173, [(2, .int (Zi n)), (0, .ref 83), (1, .int (Zi sl_))], [.int (Zi 1), .int (Zi sl_), .ref 104])) (fun _ => rfl) ?_
  refine R_is_ (q := 20) rfl hs rfl rfl (by omega) (by omega) (by decide) (by first | exact hs.zF _ | exact Zor_r _ _ | exact hs.zA _ _ | assumption | exact zS _ | exact Zr_not (hs.zA _ _) | exact ⟨by omega, by omega⟩) (fun h hs => ?_)
  refine Z_ret rfl rfl ⟨_, hs, ?_, rfl⟩
  exact ⟨rfl, u, n, hu, hc, rfl⟩
