/-! the reference: sets of grams, which lie in which -/
/-- a rising row that lies in another one is no longer -/
theorem D_in_le {A B : Int → Int} {n m : Int} (sa : D_srt A n) (n0 : 0 ≤ n) (m0 : 0 ≤ m) (h : ∀ j, 0 ≤ j → j < n → D_in B m (A j)) : n ≤ m := by
  have e1 : ((List.range n.toNat).map (fun i : Nat => A (i : Int))).length = n.toNat := by simp
  have e2 : ((List.range m.toNat).map (fun i : Nat => B (i : Int))).length = m.toNat := by simp
  have nd : ((List.range n.toNat).map (fun i : Nat => A (i : Int))).Nodup := by
    refine List.pairwise_map.mpr (List.Pairwise.imp_of_mem (fun {a b} ha hb hab => ?_) (List.pairwise_lt_range (n := n.toNat)))
    have ha := List.mem_range.mp ha
    have hb := List.mem_range.mp hb
    have := sa a b (by omega) (by omega) (by omega)
    omega
  have := (S_card_of (A := fun x => x ∈ (List.range n.toNat).map (fun i : Nat => A (i : Int))) nd (fun _ => Iff.rfl) m.toNat).mp ⟨(List.range m.toNat).map (fun i : Nat => B (i : Int)), by rw [e2]; exact Nat.le_refl _, fun x hx => ?_⟩
  · rw [e1] at this
    omega
  · obtain ⟨i, hi, rfl⟩ := List.mem_map.mp hx
    have hi := List.mem_range.mp hi
    obtain ⟨k, k0, k1, k2⟩ := h i (by omega) (by omega)
    refine List.mem_map.mpr ⟨k.toNat, List.mem_range.mpr (by omega), ?_⟩
    rw [show ((k.toNat : Nat) : Int) = k by omega]
    exact k2
theorem R_wi_in {d : Nat} {h0 h : E_H} {s : R_S} {sl : Nat} {Φ : E_R → Prop} {a b v i : Int} (hs : R_is h0 h s) (zv : Zr v) (b0 : 0 ≤ b) (b1 : b < 580) (nb : s.2.1 107 b ≤ 640) (kont : ∀ k : Int, 0 ≤ k → k ≤ s.2.1 107 b → (∀ j, 0 ≤ j → j < k → s.2.1 108 (640 * b + j) < v) → (k = s.2.1 107 b ∨ v ≤ s.2.1 108 (640 * b + k)) → B_R d E_m225 (81, [(3, .int (Zi k)), (5, .int (Zi v)), (4, .int (Zi i)), (0, .ref 83), (1, .int (Zi a)), (2, .int (Zi b))], []) h sl Φ) : ∀ (t : Nat) (k : Int), s.2.1 107 b - k < t → 0 ≤ k → k ≤ s.2.1 107 b → (∀ j, 0 ≤ j → j < k → s.2.1 108 (640 * b + j) < v) → B_R d E_m225 (48, [(3, .int (Zi k)), (5, .int (Zi v)), (4, .int (Zi i)), (0, .ref 83), (1, .int (Zi a)), (2, .int (Zi b))], []) h sl Φ := by
  intro t
  induction t with
  | zero => intro k ht k0 k1 hk; omega
  | succ t ih =>
    intro k ht k0 k1 hk
    refine Z_go (f2 := (49, [(3, .int (Zi k)), (5, .int (Zi v)), (4, .int (Zi i)), (0, .ref 83), (1, .int (Zi a)), (2, .int (Zi b))], [.int (Zi k)])) (fun _ => rfl) ?_
    refine Z_go (f2 := (50, [(3, .int (Zi k)), (5, .int (Zi v)), (4, .int (Zi i)), (0, .ref 83), (1, .int (Zi a)), (2, .int (Zi b))], [.ref 83, .int (Zi k)])) (fun _ => rfl) ?_
    refine R_gr (q := 105) rfl hs rfl ?_
    show B_R _ _ (53, [(3, .int (Zi k)), (5, .int (Zi v)), (4, .int (Zi i)), (0, .ref 83), (1, .int (Zi a)), (2, .int (Zi b))], [.ref 107, .int (Zi k)]) _ _ _
    refine Z_go (f2 := (54, [(3, .int (Zi k)), (5, .int (Zi v)), (4, .int (Zi i)), (0, .ref 83), (1, .int (Zi a)), (2, .int (Zi b))], [.int (Zi b), .ref 107, .int (Zi k)])) (fun _ => rfl) ?_
    refine R_ia (q := 23) rfl hs rfl rfl (by omega) (by omega) (by decide) ?_
    refine Z_cge rfl rfl (by first | exact hs.zF _ | exact Zor_r _ _ | exact hs.zA _ _ | assumption | exact zS _ | exact Zr_not (hs.zA _ _) | exact ⟨by omega, by omega⟩) (by first | exact hs.zF _ | exact Zor_r _ _ | exact hs.zA _ _ | assumption | exact zS _ | exact Zr_not (hs.zA _ _) | exact ⟨by omega, by omega⟩) (fun c1 => ?_) (fun c1 => ?_)
    · exact kont k k0 k1 hk (.inl (by omega))
    · refine Z_go (f2 := (59, [(3, .int (Zi k)), (5, .int (Zi v)), (4, .int (Zi i)), (0, .ref 83), (1, .int (Zi a)), (2, .int (Zi b))], [.ref 83])) (fun _ => rfl) ?_
      refine R_gr (q := 106) rfl hs rfl ?_
      show B_R _ _ (62, [(3, .int (Zi k)), (5, .int (Zi v)), (4, .int (Zi i)), (0, .ref 83), (1, .int (Zi a)), (2, .int (Zi b))], [.ref 108]) _ _ _
      refine Z_go (f2 := (65, [(3, .int (Zi k)), (5, .int (Zi v)), (4, .int (Zi i)), (0, .ref 83), (1, .int (Zi a)), (2, .int (Zi b))], [.int (Zi 640), .ref 108])) (fun _ => rfl) ?_
      refine Z_go (f2 := (66, [(3, .int (Zi k)), (5, .int (Zi v)), (4, .int (Zi i)), (0, .ref 83), (1, .int (Zi a)), (2, .int (Zi b))], [.int (Zi b), .int (Zi 640), .ref 108])) (fun _ => rfl) ?_
      refine Z_imul rfl ?_
      refine Z_go (f2 := (68, [(3, .int (Zi k)), (5, .int (Zi v)), (4, .int (Zi i)), (0, .ref 83), (1, .int (Zi a)), (2, .int (Zi b))], [.int (Zi k), .int (Zi (640 * b)), .ref 108])) (fun _ => rfl) ?_
      refine Z_iadd rfl ?_
      refine R_ia (q := 24) rfl hs rfl rfl (by omega) (by omega) (by decide) ?_
      refine Z_go (f2 := (72, [(3, .int (Zi k)), (5, .int (Zi v)), (4, .int (Zi i)), (0, .ref 83), (1, .int (Zi a)), (2, .int (Zi b))], [.int (Zi v), .int (Zi (s.2.1 108 (640 * b + k)))])) (fun _ => rfl) ?_
      refine Z_cge rfl rfl (by first | exact hs.zF _ | exact Zor_r _ _ | exact hs.zA _ _ | assumption | exact zS _ | exact Zr_not (hs.zA _ _) | exact ⟨by omega, by omega⟩) (by first | exact hs.zF _ | exact Zor_r _ _ | exact hs.zA _ _ | assumption | exact zS _ | exact Zr_not (hs.zA _ _) | exact ⟨by omega, by omega⟩) (fun c2 => ?_) (fun c2 => ?_)
      · exact kont k k0 k1 hk (.inr (by omega))
      · refine Z_iinc (L2 := [(3, .int (Zi (k + 1))), (5, .int (Zi v)), (4, .int (Zi i)), (0, .ref 83), (1, .int (Zi a)), (2, .int (Zi b))]) rfl rfl (by decide) rfl ?_
        refine Z_go (f2 := (48, [(3, .int (Zi (k + 1))), (5, .int (Zi v)), (4, .int (Zi i)), (0, .ref 83), (1, .int (Zi a)), (2, .int (Zi b))], [])) (fun _ => rfl) ?_
        refine B_loc (K := [(3, .int (Zi (k + 1))), (5, .int (Zi v)), (4, .int (Zi i)), (0, .ref 83), (1, .int (Zi a)), (2, .int (Zi b))]) (N_all_sub ⟨rfl, rfl, rfl, rfl, rfl, rfl, trivial⟩) (show ([3, 5, 4, 0, 1, 2] : List Nat).Nodup by decide) ?_
        exact ih (k + 1) (by omega) (by omega) (by omega) (fun j j0 j1 => (Classical.em (j = k)).elim (fun e => by rw [e]; omega) (fun e => hk j j0 (by omega)))
theorem R_wi_out {d : Nat} {h0 h : E_H} {s : R_S} {sl : Nat} {Φ : E_R → Prop} {a b : Int} (hs : R_is h0 h s) (a0 : 0 ≤ a) (a1 : a < 580) (b0 : 0 ≤ b) (b1 : b < 580) (na : s.2.1 107 a ≤ 640) (nb : s.2.1 107 b ≤ 640) (sa : D_srt (fun x => s.2.1 108 (640 * a + x)) (s.2.1 107 a)) (sb : D_srt (fun x => s.2.1 108 (640 * b + x)) (s.2.1 107 b)) (k1_ : (∀ j, 0 ≤ j → j < s.2.1 107 a → D_in (fun x => s.2.1 108 (640 * b + x)) (s.2.1 107 b) (s.2.1 108 (640 * a + j))) → Φ (some (.int (Zi 1)), h, sl)) (k0_ : ¬ (∀ j, 0 ≤ j → j < s.2.1 107 a → D_in (fun x => s.2.1 108 (640 * b + x)) (s.2.1 107 b) (s.2.1 108 (640 * a + j))) → Φ (some (.int (Zi 0)), h, sl)) : ∀ (t : Nat) (i k : Int), s.2.1 107 a - i < t → 0 ≤ i → i ≤ s.2.1 107 a → 0 ≤ k → k ≤ s.2.1 107 b → (∀ j, 0 ≤ j → j < i → D_in (fun x => s.2.1 108 (640 * b + x)) (s.2.1 107 b) (s.2.1 108 (640 * a + j))) → (i < s.2.1 107 a → ∀ j, 0 ≤ j → j < k → s.2.1 108 (640 * b + j) < s.2.1 108 (640 * a + i)) → B_R d E_m225 (22, [(4, .int (Zi i)), (3, .int (Zi k)), (0, .ref 83), (1, .int (Zi a)), (2, .int (Zi b))], []) h sl Φ := by
  intro t
  induction t with
  | zero => intro i k ht i0 i1 k0 k1 hi hk; omega
  | succ t ih =>
    intro i k ht i0 i1 k0 k1 hi hk
    refine Z_go (f2 := (24, [(4, .int (Zi i)), (3, .int (Zi k)), (0, .ref 83), (1, .int (Zi a)), (2, .int (Zi b))], [.int (Zi i)])) (fun _ => rfl) ?_
    refine Z_go (f2 := (25, [(4, .int (Zi i)), (3, .int (Zi k)), (0, .ref 83), (1, .int (Zi a)), (2, .int (Zi b))], [.ref 83, .int (Zi i)])) (fun _ => rfl) ?_
    refine R_gr (q := 105) rfl hs rfl ?_
    show B_R _ _ (28, [(4, .int (Zi i)), (3, .int (Zi k)), (0, .ref 83), (1, .int (Zi a)), (2, .int (Zi b))], [.ref 107, .int (Zi i)]) _ _ _
    refine Z_go (f2 := (29, [(4, .int (Zi i)), (3, .int (Zi k)), (0, .ref 83), (1, .int (Zi a)), (2, .int (Zi b))], [.int (Zi a), .ref 107, .int (Zi i)])) (fun _ => rfl) ?_
    refine R_ia (q := 23) rfl hs rfl rfl (by omega) (by omega) (by decide) ?_
    refine Z_cge rfl rfl (by first | exact hs.zF _ | exact Zor_r _ _ | exact hs.zA _ _ | assumption | exact zS _ | exact Zr_not (hs.zA _ _) | exact ⟨by omega, by omega⟩) (by first | exact hs.zF _ | exact Zor_r _ _ | exact hs.zA _ _ | assumption | exact zS _ | exact Zr_not (hs.zA _ _) | exact ⟨by omega, by omega⟩) (fun c1 => ?_) (fun c1 => ?_)
    · refine Z_go (f2 := (117, [(4, .int (Zi i)), (3, .int (Zi k)), (0, .ref 83), (1, .int (Zi a)), (2, .int (Zi b))], [.int (Zi 1)])) (fun _ => rfl) ?_
      refine Z_iret rfl rfl (by first | rfl | decide | exact narrow_b01 (by omega)) ?_
      have e : i = s.2.1 107 a := by omega
      rw [e] at hi
      exact k1_ hi
    · refine Z_go (f2 := (34, [(4, .int (Zi i)), (3, .int (Zi k)), (0, .ref 83), (1, .int (Zi a)), (2, .int (Zi b))], [.ref 83])) (fun _ => rfl) ?_
      refine R_gr (q := 106) rfl hs rfl ?_
      show B_R _ _ (37, [(4, .int (Zi i)), (3, .int (Zi k)), (0, .ref 83), (1, .int (Zi a)), (2, .int (Zi b))], [.ref 108]) _ _ _
      refine Z_go (f2 := (40, [(4, .int (Zi i)), (3, .int (Zi k)), (0, .ref 83), (1, .int (Zi a)), (2, .int (Zi b))], [.int (Zi 640), .ref 108])) (fun _ => rfl) ?_
      refine Z_go (f2 := (41, [(4, .int (Zi i)), (3, .int (Zi k)), (0, .ref 83), (1, .int (Zi a)), (2, .int (Zi b))], [.int (Zi a), .int (Zi 640), .ref 108])) (fun _ => rfl) ?_
      refine Z_imul rfl ?_
      refine Z_go (f2 := (44, [(4, .int (Zi i)), (3, .int (Zi k)), (0, .ref 83), (1, .int (Zi a)), (2, .int (Zi b))], [.int (Zi i), .int (Zi (640 * a)), .ref 108])) (fun _ => rfl) ?_
      refine Z_iadd rfl ?_
      refine R_ia (q := 24) rfl hs rfl rfl (by omega) (by omega) (by decide) ?_
      refine Z_go (f2 := (48, [(5, .int (Zi (s.2.1 108 (640 * a + i)))), (4, .int (Zi i)), (3, .int (Zi k)), (0, .ref 83), (1, .int (Zi a)), (2, .int (Zi b))], [])) (fun _ => rfl) ?_
      refine B_loc (K := [(3, .int (Zi k)), (5, .int (Zi (s.2.1 108 (640 * a + i)))), (4, .int (Zi i)), (0, .ref 83), (1, .int (Zi a)), (2, .int (Zi b))]) (N_all_sub ⟨rfl, rfl, rfl, rfl, rfl, rfl, trivial⟩) (show ([3, 5, 4, 0, 1, 2] : List Nat).Nodup by decide) ?_
      refine R_wi_in hs (v := s.2.1 108 (640 * a + i)) (i := i) (a := a) (hs.zA _ _) b0 b1 nb (fun k2 k20 k21 hk2 he => ?_) ((s.2.1 107 b - k).toNat + 1) k (by omega) k0 k1 (hk (by omega))
      refine Z_go (f2 := (82, [(3, .int (Zi k2)), (5, .int (Zi (s.2.1 108 (640 * a + i)))), (4, .int (Zi i)), (0, .ref 83), (1, .int (Zi a)), (2, .int (Zi b))], [.int (Zi k2)])) (fun _ => rfl) ?_
      refine Z_go (f2 := (83, [(3, .int (Zi k2)), (5, .int (Zi (s.2.1 108 (640 * a + i)))), (4, .int (Zi i)), (0, .ref 83), (1, .int (Zi a)), (2, .int (Zi b))], [.ref 83, .int (Zi k2)])) (fun _ => rfl) ?_
      refine R_gr (q := 105) rfl hs rfl ?_
      show B_R _ _ (86, [(3, .int (Zi k2)), (5, .int (Zi (s.2.1 108 (640 * a + i)))), (4, .int (Zi i)), (0, .ref 83), (1, .int (Zi a)), (2, .int (Zi b))], [.ref 107, .int (Zi k2)]) _ _ _
      refine Z_go (f2 := (87, [(3, .int (Zi k2)), (5, .int (Zi (s.2.1 108 (640 * a + i)))), (4, .int (Zi i)), (0, .ref 83), (1, .int (Zi a)), (2, .int (Zi b))], [.int (Zi b), .ref 107, .int (Zi k2)])) (fun _ => rfl) ?_
      refine R_ia (q := 23) rfl hs rfl rfl (by omega) (by omega) (by decide) ?_
      refine Z_ceq rfl rfl (by first | exact hs.zF _ | exact Zor_r _ _ | exact hs.zA _ _ | assumption | exact zS _ | exact Zr_not (hs.zA _ _) | exact ⟨by omega, by omega⟩) (by first | exact hs.zF _ | exact Zor_r _ _ | exact hs.zA _ _ | assumption | exact zS _ | exact Zr_not (hs.zA _ _) | exact ⟨by omega, by omega⟩) (fun b1 => ?_) (fun b1 => ?_)
      · refine Z_go (f2 := (109, [(3, .int (Zi k2)), (5, .int (Zi (s.2.1 108 (640 * a + i)))), (4, .int (Zi i)), (0, .ref 83), (1, .int (Zi a)), (2, .int (Zi b))], [.int (Zi 0)])) (fun _ => rfl) ?_
        refine Z_iret rfl rfl (by first | rfl | decide | exact narrow_b01 (by omega)) ?_
        refine k0_ (fun hh => ?_)
        obtain ⟨x, x0, x1, x2⟩ := hh i i0 (by omega)
        have x2 : s.2.1 108 (640 * b + x) = s.2.1 108 (640 * a + i) := x2
        by_cases c : x < k2
        · have := hk2 x x0 c; omega
        · rcases he with he | he
          · omega
          · have := D_srt_le sb k20 (show k2 ≤ x by omega) x1
            have this : s.2.1 108 (640 * b + k2) ≤ s.2.1 108 (640 * b + x) := this
            omega
      · refine Z_go (f2 := (92, [(3, .int (Zi k2)), (5, .int (Zi (s.2.1 108 (640 * a + i)))), (4, .int (Zi i)), (0, .ref 83), (1, .int (Zi a)), (2, .int (Zi b))], [.ref 83])) (fun _ => rfl) ?_
        refine R_gr (q := 106) rfl hs rfl ?_
        show B_R _ _ (95, [(3, .int (Zi k2)), (5, .int (Zi (s.2.1 108 (640 * a + i)))), (4, .int (Zi i)), (0, .ref 83), (1, .int (Zi a)), (2, .int (Zi b))], [.ref 108]) _ _ _
        refine Z_go (f2 := (98, [(3, .int (Zi k2)), (5, .int (Zi (s.2.1 108 (640 * a + i)))), (4, .int (Zi i)), (0, .ref 83), (1, .int (Zi a)), (2, .int (Zi b))], [.int (Zi 640), .ref 108])) (fun _ => rfl) ?_
        refine Z_go (f2 := (99, [(3, .int (Zi k2)), (5, .int (Zi (s.2.1 108 (640 * a + i)))), (4, .int (Zi i)), (0, .ref 83), (1, .int (Zi a)), (2, .int (Zi b))], [.int (Zi b), .int (Zi 640), .ref 108])) (fun _ => rfl) ?_
        refine Z_imul rfl ?_
        refine Z_go (f2 := (101, [(3, .int (Zi k2)), (5, .int (Zi (s.2.1 108 (640 * a + i)))), (4, .int (Zi i)), (0, .ref 83), (1, .int (Zi a)), (2, .int (Zi b))], [.int (Zi k2), .int (Zi (640 * b)), .ref 108])) (fun _ => rfl) ?_
        refine Z_iadd rfl ?_
        refine R_ia (q := 24) rfl hs rfl rfl (by omega) (by omega) (by decide) ?_
        refine Z_go (f2 := (105, [(3, .int (Zi k2)), (5, .int (Zi (s.2.1 108 (640 * a + i)))), (4, .int (Zi i)), (0, .ref 83), (1, .int (Zi a)), (2, .int (Zi b))], [.int (Zi (s.2.1 108 (640 * a + i))), .int (Zi (s.2.1 108 (640 * b + k2)))])) (fun _ => rfl) ?_
        refine Z_ceq rfl rfl (by first | exact hs.zF _ | exact Zor_r _ _ | exact hs.zA _ _ | assumption | exact zS _ | exact Zr_not (hs.zA _ _) | exact ⟨by omega, by omega⟩) (by first | exact hs.zF _ | exact Zor_r _ _ | exact hs.zA _ _ | assumption | exact zS _ | exact Zr_not (hs.zA _ _) | exact ⟨by omega, by omega⟩) (fun b2 => ?_) (fun b2 => ?_)
        · refine Z_iinc (L2 := [(4, .int (Zi (i + 1))), (3, .int (Zi k2)), (5, .int (Zi (s.2.1 108 (640 * a + i)))), (0, .ref 83), (1, .int (Zi a)), (2, .int (Zi b))]) rfl rfl (by decide) rfl ?_
          refine Z_go (f2 := (22, [(4, .int (Zi (i + 1))), (3, .int (Zi k2)), (5, .int (Zi (s.2.1 108 (640 * a + i)))), (0, .ref 83), (1, .int (Zi a)), (2, .int (Zi b))], [])) (fun _ => rfl) ?_
          refine B_loc (K := [(4, .int (Zi (i + 1))), (3, .int (Zi k2)), (0, .ref 83), (1, .int (Zi a)), (2, .int (Zi b))]) (N_all_sub ⟨rfl, rfl, rfl, rfl, rfl, trivial⟩) (show ([4, 3, 0, 1, 2] : List Nat).Nodup by decide) ?_
          refine ih (i + 1) k2 (by omega) (by omega) (by omega) k20 k21 (fun j j0 j1 => (Classical.em (j = i)).elim (fun e => ⟨k2, k20, by omega, by rw [e]; show s.2.1 108 (640 * b + k2) = _; omega⟩) (fun e => hi j j0 (by omega))) (fun hi2 j j0 j1 => ?_)
          have h1 := hk2 j j0 j1
          have h2 := sa i (i + 1) i0 (by omega) hi2
          have h2 : s.2.1 108 (640 * a + i) < s.2.1 108 (640 * a + (i + 1)) := h2
          omega
        · refine Z_go (f2 := (109, [(3, .int (Zi k2)), (5, .int (Zi (s.2.1 108 (640 * a + i)))), (4, .int (Zi i)), (0, .ref 83), (1, .int (Zi a)), (2, .int (Zi b))], [.int (Zi 0)])) (fun _ => rfl) ?_
          refine Z_iret rfl rfl (by first | rfl | decide | exact narrow_b01 (by omega)) ?_
          refine k0_ (fun hh => ?_)
          obtain ⟨x, x0, x1, x2⟩ := hh i i0 (by omega)
          have x2 : s.2.1 108 (640 * b + x) = s.2.1 108 (640 * a + i) := x2
          by_cases c : x < k2
          · have := hk2 x x0 c; omega
          · rcases he with he | he
            · omega
            · have := D_srt_le sb k20 (show k2 ≤ x by omega) x1
              have this : s.2.1 108 (640 * b + k2) ≤ s.2.1 108 (640 * b + x) := this
              omega
theorem R_isWithin (d : Nat) (s : R_S) {a b : Int}  (za : Zr a) (zb : Zr b) (a0 : 0 ≤ a) (a1 : a < 580) (b0 : 0 ≤ b) (b1 : b < 580) (na0 : 0 ≤ s.2.1 107 a) (nb0 : 0 ≤ s.2.1 107 b) (na : s.2.1 107 a ≤ 640) (nb : s.2.1 107 b ≤ 640) (sa : D_srt (fun x => s.2.1 108 (640 * a + x)) (s.2.1 107 a)) (sb : D_srt (fun x => s.2.1 108 (640 * b + x)) (s.2.1 107 b)) : R_ok (d + 1) 225 [.int (Zi a), .int (Zi b)] s (fun x s2 => s2 = s ∧ ∃ v : Int, x = some (.int (Zi v)) ∧ (v = 1 ∧ (∀ j, 0 ≤ j → j < s.2.1 107 a → D_in (fun x => s.2.1 108 (640 * b + x)) (s.2.1 107 b) (s.2.1 108 (640 * a + j))) ∨ v = 0 ∧ ¬ (∀ j, 0 ≤ j → j < s.2.1 107 a → D_in (fun x => s.2.1 108 (640 * b + x)) (s.2.1 107 b) (s.2.1 108 (640 * a + j))))) := by
  refine R_enter (M := E_m225) rfl (Nat.le_of_ble_eq_true rfl) (fun h0 h hs => ?_)
  show B_R d _ (0, [(0, .ref 83), (1, .int (Zi a)), (2, .int (Zi b))], []) _ _ _
  refine Z_go (f2 := (1, [(0, .ref 83), (1, .int (Zi a)), (2, .int (Zi b))], [.ref 83])) (fun _ => rfl) ?_
  refine R_gr (q := 105) rfl hs rfl ?_
  show B_R _ _ (4, [(0, .ref 83), (1, .int (Zi a)), (2, .int (Zi b))], [.ref 107]) _ _ _
  refine Z_go (f2 := (5, [(0, .ref 83), (1, .int (Zi a)), (2, .int (Zi b))], [.int (Zi a), .ref 107])) (fun _ => rfl) ?_
  refine R_ia (q := 23) rfl hs rfl rfl (by omega) (by omega) (by decide) ?_
  refine Z_go (f2 := (7, [(0, .ref 83), (1, .int (Zi a)), (2, .int (Zi b))], [.ref 83, .int (Zi (s.2.1 107 a))])) (fun _ => rfl) ?_
  refine R_gr (q := 105) rfl hs rfl ?_
  show B_R _ _ (10, [(0, .ref 83), (1, .int (Zi a)), (2, .int (Zi b))], [.ref 107, .int (Zi (s.2.1 107 a))]) _ _ _
  refine Z_go (f2 := (11, [(0, .ref 83), (1, .int (Zi a)), (2, .int (Zi b))], [.int (Zi b), .ref 107, .int (Zi (s.2.1 107 a))])) (fun _ => rfl) ?_
  refine R_ia (q := 23) rfl hs rfl rfl (by omega) (by omega) (by decide) ?_
  refine Z_cle rfl rfl (by first | exact hs.zF _ | exact Zor_r _ _ | exact hs.zA _ _ | assumption | exact zS _ | exact Zr_not (hs.zA _ _) | exact ⟨by omega, by omega⟩) (by first | exact hs.zF _ | exact Zor_r _ _ | exact hs.zA _ _ | assumption | exact zS _ | exact Zr_not (hs.zA _ _) | exact ⟨by omega, by omega⟩) (fun c1 => ?_) (fun c1 => ?_)
  · refine Z_go (f2 := (18, [(0, .ref 83), (1, .int (Zi a)), (2, .int (Zi b))], [.int (Zi 0)])) (fun _ => rfl) ?_
    refine Z_go (f2 := (19, [(3, .int (Zi 0)), (0, .ref 83), (1, .int (Zi a)), (2, .int (Zi b))], [])) (fun _ => rfl) ?_
    refine Z_go (f2 := (20, [(3, .int (Zi 0)), (0, .ref 83), (1, .int (Zi a)), (2, .int (Zi b))], [.int (Zi 0)])) (fun _ => rfl) ?_
    refine Z_go (f2 := (22, [(4, .int (Zi 0)), (3, .int (Zi 0)), (0, .ref 83), (1, .int (Zi a)), (2, .int (Zi b))], [])) (fun _ => rfl) ?_
    refine R_wi_out hs a0 a1 b0 b1 na nb sa sb (fun hh => ⟨s, hs, ⟨rfl, _, rfl, .inl ⟨rfl, hh⟩⟩, rfl⟩) (fun hh => ⟨s, hs, ⟨rfl, _, rfl, .inr ⟨rfl, hh⟩⟩, rfl⟩) ((s.2.1 107 a).toNat + 1) 0 0 (by omega) (by omega) na0 (by omega) nb0 (fun j j0 j1 => by omega) (fun _ j j0 j1 => by omega)
  · refine Z_go (f2 := (16, [(0, .ref 83), (1, .int (Zi a)), (2, .int (Zi b))], [.int (Zi 0)])) (fun _ => rfl) ?_
    refine Z_iret rfl rfl (by first | rfl | decide | exact narrow_b01 (by omega)) ⟨_, hs, ?_, rfl⟩
    refine ⟨rfl, _, rfl, .inr ⟨rfl, fun hh => ?_⟩⟩
    have := D_in_le sa na0 nb0 hh
    omega
