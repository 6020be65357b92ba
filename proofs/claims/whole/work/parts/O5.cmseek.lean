/-! the class: Machine: seek -/
theorem C_mfill_lp {d : Nat} {h0 : E_H} {s : C_S} {p : List Nat} {o : Nat} {A : Nat → Nat} {v : Int} (hm : D_M0 s p o A) (zv : Zr v) : ∀ (t : Nat) (i : Int) (u : C_S) (h : E_H), 203 - i < t → 0 ≤ i → i ≤ 202 → C_is h0 h u → M_fr (fun f => f = 7) o A s u → (∀ j : Int, 0 ≤ j → j < i → C_A u (A 7) j = v) → B_R d E_m292 (5, [(2, .int (Zi i)), (3, .int (Zi 202)), (0, .ref (A 7)), (1, .int (Zi v))], []) h 0 (fun r => ∃ s2 : C_S, C_is h0 r.2.1 s2 ∧ (fun (x : Option Value) (s2 : C_S) (n : Nat) => x = none ∧ n = 0 ∧ M_fr (fun f => f = 7) o A s s2 ∧ ∀ j : Int, 0 ≤ j → j < 202 → C_A s2 (A 7) j = v) r.1 s2 r.2.2) := by
  intro t
  induction t with
  | zero => intro i u h ht i0 i1 hs fr hv; omega
  | succ t ih =>
    intro i u h ht i0 i1 hs fr hv
    have ka := ((fr.M0 hm).2.2.1 7 (by omega)).2.1
    have zi : Zr i := ⟨by omega, by omega⟩
    refine Z_go (f2 := (6, [(2, .int (Zi i)), (3, .int (Zi 202)), (0, .ref (A 7)), (1, .int (Zi v))], [.int (Zi i)])) (fun _ => rfl) ?_
    refine Z_go (f2 := (7, [(2, .int (Zi i)), (3, .int (Zi 202)), (0, .ref (A 7)), (1, .int (Zi v))], [.int (Zi 202), .int (Zi i)])) (fun _ => rfl) ?_
    refine Z_cge rfl rfl (by first | exact hs.zF _ _ | exact Zor_r _ _ | exact hs.zA _ _ | assumption | exact zA _ _ | exact zS _ | exact Zr_not (hs.zA _ _) | exact hs.1.1 _ _ | exact ⟨by omega, by omega⟩) (by first | exact hs.zF _ _ | exact Zor_r _ _ | exact hs.zA _ _ | assumption | exact zA _ _ | exact zS _ | exact Zr_not (hs.zA _ _) | exact hs.1.1 _ _ | exact ⟨by omega, by omega⟩) (fun y1 => ?_) (fun y1 => ?_)
    · refine Z_ret rfl rfl ⟨_, hs, ?_⟩
      try dsimp only
      exact ⟨rfl, rfl, fr, fun j j0 j1 => hv j j0 (by omega)⟩
    · refine Z_go (f2 := (11, [(2, .int (Zi i)), (3, .int (Zi 202)), (0, .ref (A 7)), (1, .int (Zi v))], [.ref (A 7)])) (fun _ => rfl) ?_
      refine Z_go (f2 := (12, [(2, .int (Zi i)), (3, .int (Zi 202)), (0, .ref (A 7)), (1, .int (Zi v))], [.int (Zi i), .ref (A 7)])) (fun _ => rfl) ?_
      refine Z_go (f2 := (13, [(2, .int (Zi i)), (3, .int (Zi 202)), (0, .ref (A 7)), (1, .int (Zi v))], [.int (Zi v), .int (Zi i), .ref (A 7)])) (fun _ => rfl) ?_
      refine C_is_ rfl hs ka (by omega) (by omega) (by first | exact hs.zF _ _ | exact Zor_r _ _ | exact hs.zA _ _ | assumption | exact zA _ _ | exact zS _ | exact Zr_not (hs.zA _ _) | exact hs.1.1 _ _ | exact ⟨by omega, by omega⟩) (fun h hs => ?_)
      refine Z_iinc (L2 := [(2, .int (Zi (i + 1))), (3, .int (Zi 202)), (0, .ref (A 7)), (1, .int (Zi v))]) rfl rfl (by decide) rfl ?_
      refine Z_go (f2 := (5, [(2, .int (Zi (i + 1))), (3, .int (Zi 202)), (0, .ref (A 7)), (1, .int (Zi v))], [])) (fun _ => rfl) ?_
      refine B_loc (K := [(2, .int (Zi (i + 1))), (3, .int (Zi 202)), (0, .ref (A 7)), (1, .int (Zi v))]) (N_all_sub ⟨rfl, rfl, rfl, rfl, trivial⟩) (show ([2, 3, 0, 1] : List Nat).Nodup by decide) ?_
      refine ih _ _ h (by omega) (by omega) (by omega) hs (fr.sA (f := 7) rfl (by omega) _ _) (fun j j0 j1 => ?_)
      show (if A 7 = A 7 ∧ j = i then v else C_A u (A 7) j) = v
      by_cases c : j = i
      · rw [if_pos ⟨rfl, c⟩]
      · rw [if_neg (fun e => c e.2)]
        exact hv j j0 (by omega)
theorem C_mfill (d : Nat) {s : C_S} {p : List Nat} {o : Nat} {A : Nat → Nat} {v : Int} (hm : D_M0 s p o A) (zv : Zr v) : C_ok (d + 1) 292 [.ref (A 7), .int (Zi v)] s (fun x s2 n => x = none ∧ n = 0 ∧ M_fr (fun f => f = 7) o A s s2 ∧ ∀ j : Int, 0 ≤ j → j < 202 → C_A s2 (A 7) j = v) := by
  refine C_enter (M := E_m292) rfl (Nat.le_of_ble_eq_true rfl) (fun h0 h hs => ?_)
  show B_R (d + 0) _ (0, [(0, .ref (A 7)), (1, .int (Zi v))], []) _ _ _
  have ka := (hm.2.2.1 7 (by omega)).2.1
  refine Z_go (f2 := (1, [(0, .ref (A 7)), (1, .int (Zi v))], [.int (Zi 0)])) (fun _ => rfl) ?_
  refine Z_go (f2 := (2, [(2, .int (Zi 0)), (0, .ref (A 7)), (1, .int (Zi v))], [])) (fun _ => rfl) ?_
  refine Z_go (f2 := (3, [(2, .int (Zi 0)), (0, .ref (A 7)), (1, .int (Zi v))], [.ref (A 7)])) (fun _ => rfl) ?_
  refine C_al rfl hs ka (by decide) ?_
  show B_R _ _ (4, [(2, .int (Zi 0)), (0, .ref (A 7)), (1, .int (Zi v))], [.int (Zi 202)]) _ _ _
  refine Z_go (f2 := (5, [(3, .int (Zi 202)), (2, .int (Zi 0)), (0, .ref (A 7)), (1, .int (Zi v))], [])) (fun _ => rfl) ?_
  refine B_loc (K := [(2, .int (Zi 0)), (3, .int (Zi 202)), (0, .ref (A 7)), (1, .int (Zi v))]) (N_all_sub ⟨rfl, rfl, rfl, rfl, trivial⟩) (show ([2, 3, 0, 1] : List Nat).Nodup by decide) ?_
  exact C_mfill_lp hm zv 204 0 s h (by omega) (by omega) (by omega) hs M_fr.refl (fun j j0 j1 => by omega)
abbrev M_XA : Nat → Prop := fun f => f = 7 ∨ f = 8 ∨ f = 9 ∨ f = 10 ∨ f = 11 ∨ f = 12 ∨ f = 13 ∨ f = 15 ∨ f = 16
theorem C_seek_lp {d : Nat} {h0 : E_H} {s : C_S} {sl : Nat} {Φ : E_R → Prop} {p : List Nat} {o : Nat} {A : Nat → Nat} {κ : Nat → Int → Int} {W : Int → Int} {m e B : Int} {tb N tr : Nat} {p2 : List Nat} {A2 : Nat → Nat} {m2 sm : Int} {τ : Nat → Int → Int} {β : Int → Int64} (hm : D_M0 s p o A) (kt : C_K s tb = (1, N)) (hW : C_wb s tb N = W) (hκ : ∀ f, (f = 1 ∨ f = 2 ∨ f = 3 ∨ f = 4) → C_A s (A f) = κ f) (hok : M_kok κ m) (hset : ∀ q, 0 ≤ q → q < m → κ 1 q = 3 → -1 ≤ κ 4 q ∧ κ 4 q < 80) (et : C_P s o 14 = some tb) (m1 : m ≤ 202) (N1 : N ≤ 1000) (e0 : C_P s o 0 = some tr) (ht : D_Tr s p2 tr A2 m2 sm τ β) (np : p2 ≠ p) (f6 : C_F s o 6 = e) (e00 : 0 ≤ e) (e01 : e < m) (hB : ∀ b j, 0 ≤ b → M_ac κ (T_has β) W N e b j → B ≤ b) (B0 : 0 ≤ B) (sw : C_wf s) (ret : ∀ (u : C_S) (h : E_H), C_is h0 h u → M_fr M_XA o A s u → (C_F u o 15 = -1 ∨ 0 ≤ C_F u o 15 ∧ C_F u o 15 ≤ N ∧ M_ac κ (T_has β) W N e (C_F u o 15) (C_F u o 16)) → (B ≤ N → ∀ j, M_ac κ (T_has β) W N e B j → C_F u o 15 = B ∧ j ≤ C_F u o 16) → Φ (none, h, sl)) : ∀ (t : Nat) (i : Int) (u : C_S) (h : E_H), N + 2 - i < t → 0 ≤ i → i ≤ N + 1 → C_is h0 h u → M_fr M_XA o A s u → M_sd κ (T_has β) W N m e i (C_A u (A 10)) (C_F u o 11) → 0 ≤ C_F u o 11 → C_F u o 11 ≤ 202 → (i = N + 1 → C_F u o 11 ≤ 0) → (∀ q, 0 ≤ q → q < 202 → C_A u (A 7) q < i) → (C_F u o 15 = -1 ∨ 0 ≤ C_F u o 15 ∧ C_F u o 15 < i ∧ C_F u o 16 ≤ i ∧ M_ac κ (T_has β) W N e (C_F u o 15) (C_F u o 16)) → (B < i → ∀ j, M_ac κ (T_has β) W N e B j → (C_F u o 15 = B ∧ j ≤ C_F u o 16) ∨ ∃ k, 0 ≤ k ∧ k < C_F u o 11 ∧ C_A u (A 10) k / 256 = B ∧ M_ac κ (T_has β) W N (C_A u (A 10) k % 256) i j) → B_R (d + 5) E_m23 (30, [(2, .int (Zi i)), (0, .ref o), (1, .ref tb)], []) h sl Φ := by
  intro t
  induction t with
  | zero => intro i u h ht2 i0 i1 hs fr sd c0 c1 cn hμ hg hf; omega
  | succ t ih =>
    intro i u h ht2 i0 i1 hs fr sd c0 c1 cn hμ hg hf
    have hmu := fr.M0 hm
    have hwu := fr.wb hm kt
    have hWu : C_wb u tb N = W := by rw [← hW]; unfold C_wb; rw [hwu]
    have etu : C_P u o 14 = some tb := by rw [fr.1.2.2.2.1]; exact et
    have eu0 : C_P u o 0 = some tr := by rw [fr.1.2.2.2.1]; exact e0
    have ktu : C_K u tb = (1, N) := by rw [fr.1.2.1]; exact kt
    have hκu : ∀ f, (f = 1 ∨ f = 2 ∨ f = 3 ∨ f = 4) → C_A u (A f) = κ f := fun f hf => by rw [fr.arr hm (by omega) (by unfold M_XA; omega)]; exact hκ f hf
    have u6 : C_F u o 6 = e := (fr.2.1 o 6 (by unfold M_XA; omega)).trans f6
    have ok := hmu.1
    have htu := ht.fr sw (fr.fr hm) np
    have w := hs.1
    have z15 := w.1 o 15
    have z11 := w.1 o 11
    have zi : Zr i := ⟨by omega, by omega⟩
    refine Z_go (f2 := (31, [(2, .int (Zi i)), (0, .ref o), (1, .ref tb)], [.int (Zi i)])) (fun _ => rfl) ?_
    refine Z_go (f2 := (32, [(2, .int (Zi i)), (0, .ref o), (1, .ref tb)], [.ref tb, .int (Zi i)])) (fun _ => rfl) ?_
    refine C_al rfl hs ktu (by decide) ?_
    show B_R _ _ (33, [(2, .int (Zi i)), (0, .ref o), (1, .ref tb)], [.int (Zi ((N : Int))), .int (Zi i)]) _ _ _
    refine Z_cgt rfl rfl (by first | exact hs.zF _ _ | exact Zor_r _ _ | exact hs.zA _ _ | assumption | exact zA _ _ | exact zS _ | exact Zr_not (hs.zA _ _) | exact hs.1.1 _ _ | exact ⟨by omega, by omega⟩) (by first | exact hs.zF _ _ | exact Zor_r _ _ | exact hs.zA _ _ | assumption | exact zA _ _ | exact zS _ | exact Zr_not (hs.zA _ _) | exact hs.1.1 _ _ | exact ⟨by omega, by omega⟩) (fun y91 => ?_) (fun y91 => ?_)
    · refine Z_ret rfl rfl ?_
      try dsimp only
      refine ret u h hs fr (by rcases hg with g | ⟨g1, g2, g3, g4⟩; exact .inl g; exact .inr ⟨g1, by omega, g4⟩) (fun hBN j hj => ?_)
      have hbi : B < i := by
        by_cases c : B < i
        · exact c
        · rcases hg with g | ⟨g1, g2, g3, g4⟩
          · omega
          · have := hB _ _ g1 g4
            omega
      rcases hf hbi j hj with q | ⟨k, q0, q1, _⟩
      · exact q
      · omega
    · refine Z_go (f2 := (37, [(2, .int (Zi i)), (0, .ref o), (1, .ref tb)], [.ref o])) (fun _ => rfl) ?_
      refine C_gi rfl hs ok (by decide) (Nat.le_of_ble_eq_true rfl) rfl ?_
      show B_R _ _ (40, [(2, .int (Zi i)), (0, .ref o), (1, .ref tb)], [.int (Zi (C_F u o 15))]) _ _ _
      refine Z_go (f2 := (41, [(2, .int (Zi i)), (0, .ref o), (1, .ref tb)], [.int (Zi (-1)), .int (Zi (C_F u o 15))])) (fun _ => rfl) ?_
      refine Z_ceq rfl rfl (by first | exact hs.zF _ _ | exact Zor_r _ _ | exact hs.zA _ _ | assumption | exact zA _ _ | exact zS _ | exact Zr_not (hs.zA _ _) | exact hs.1.1 _ _ | exact ⟨by omega, by omega⟩) (by first | exact hs.zF _ _ | exact Zor_r _ _ | exact hs.zA _ _ | assumption | exact zA _ _ | exact zS _ | exact Zr_not (hs.zA _ _) | exact hs.1.1 _ _ | exact ⟨by omega, by omega⟩) (fun y92 => ?_) (fun y92 => ?_)
      · refine Z_go (f2 := (52, [(2, .int (Zi i)), (0, .ref o), (1, .ref tb)], [.ref o])) (fun _ => rfl) ?_
        refine Z_go (f2 := (53, [(2, .int (Zi i)), (0, .ref o), (1, .ref tb)], [.int (Zi i), .ref o])) (fun _ => rfl) ?_
        refine C_callV (As := [.int (Zi i)]) (rest := []) rfl (by decide) rfl (by decide) rfl rfl (by decide +kernel) (Nat.le_of_ble_eq_true rfl) hs ok (C_sprd _ hmu etu ktu hWu hκu hok hB B0 m1 N1 sd c0 c1 hg i0 (by omega) hμ u6 e00 e01) (fun x h v1 n1 hs q => ?_)
        obtain ⟨rfl, rfl, x1, x2, x3, x4, x5⟩ := q
        have hmu0 : D_M0 (C_sF u o 13 0) p o A := hmu
        have hmv := x1.1.M0 hmu0
        have wv := hs.1
        have etv : C_P v1 o 14 = some tb := by rw [x1.1.1.2.2.2.1]; exact etu
        have ev0 : C_P v1 o 0 = some tr := by rw [x1.1.1.2.2.2.1]; exact eu0
        have ktv : C_K v1 tb = (1, N) := by rw [x1.1.1.2.1]; exact ktu
        have hwv := x1.1.wb hmu0 ktu
        have hWv : C_wb v1 tb N = W := by rw [← hWu]; unfold C_wb; rw [hwv]; rfl
        have hκv : ∀ f, (f = 1 ∨ f = 2 ∨ f = 3 ∨ f = 4) → C_A v1 (A f) = κ f := fun f hf => by rw [x1.1.arr hmu0 (by omega) (by unfold M_XE; omega)]; exact hκu f hf
        have fr1 : M_fr M_XA o A u v1 := (M_fr.refl.sF (f := 13) (by unfold M_XA; omega) _).tr (x1.1.wide (fun f hf => by unfold M_XE at hf; unfold M_XA; omega))
        have htv := htu.fr w (fr1.fr hmu) np
        show B_R _ _ (56, [(2, .int (Zi i)), (0, .ref o), (1, .ref tb)], []) _ _ _
        refine Z_go (f2 := (57, [(2, .int (Zi i)), (0, .ref o), (1, .ref tb)], [.ref o])) (fun _ => rfl) ?_
        refine Z_go (f2 := (58, [(2, .int (Zi i)), (0, .ref o), (1, .ref tb)], [.int (Zi i), .ref o])) (fun _ => rfl) ?_
        refine C_callV (As := [.int (Zi i)]) (rest := []) rfl (by decide) rfl (by decide) rfl rfl (by decide +kernel) (Nat.le_of_ble_eq_true rfl) hs hmv.1 (C_stp _ hmv etv ktv hWv hκv hok hset hB B0 m1 N1 ev0 htv np x2 i0 (by omega) x3 x4) (fun x h v2 n2 hs q => ?_)
        obtain ⟨rfl, rfl, y1, y2, y3, y4, y5, y6⟩ := q
        show B_R _ _ (61, [(2, .int (Zi i)), (0, .ref o), (1, .ref tb)], []) _ _ _
        refine Z_iinc (L2 := [(2, .int (Zi (i + 1))), (0, .ref o), (1, .ref tb)]) rfl rfl (by decide) rfl ?_
        refine Z_go (f2 := (30, [(2, .int (Zi (i + 1))), (0, .ref o), (1, .ref tb)], [])) (fun _ => rfl) ?_
        refine B_loc (K := [(2, .int (Zi (i + 1))), (0, .ref o), (1, .ref tb)]) (N_all_sub ⟨rfl, rfl, rfl, trivial⟩) (show ([2, 0, 1] : List Nat).Nodup by decide) ?_
        have v15 : C_F v2 o 15 = C_F v1 o 15 := y1.2.1 o 15 (by unfold M_XS; omega)
        have v16 : C_F v2 o 16 = C_F v1 o 16 := y1.2.1 o 16 (by unfold M_XS; omega)
        have v7 : C_A v2 (A 7) = C_A v1 (A 7) := y1.arr hmv (by omega) (by unfold M_XS; omega)
        refine ih _ v2 _ (by omega) (by omega) (by omega) hs ((fr.tr fr1).tr (y1.wide (fun f hf => by unfold M_XS at hf; unfold M_XA; omega))) y2 y3 y4 (fun c => y5 (by omega)) (fun q q0 q1 => ?_) ?_ (fun hbi j hj => ?_)
        · rw [v7]
          have := x1.2.2.1 (fun q q0 q1 => by have := hμ q q0 q1; show C_A u (A 7) q ≤ i; omega) q q0 q1
          omega
        · rw [v15, v16]
          rcases x2.2.2.2.1 with g | ⟨g1, g2, g3, g4⟩
          · exact .inl g
          · exact .inr ⟨g1, by omega, by omega, g4⟩
        · rw [v15, v16]
          have hfn : M_FN κ (T_has β) W N m B i o A v1 j := by
            by_cases c : B < i
            · rcases hf c j hj with q | q
              · exact x5 j (.inl q)
              · exact x5 j (.inr (.inl q))
            · exact x5 j (.inr (.inr ⟨by omega, hj⟩))
          by_cases iN : i < N
          · exact y6 iN j hfn
          · rcases hfn with q | ⟨k, q, g0, g1, g2, g3, g4, g5, g6⟩
            · exact .inl q
            · have := (M_ac.k3i g5 g6).1
              omega
      · refine Z_go (f2 := (45, [(2, .int (Zi i)), (0, .ref o), (1, .ref tb)], [.ref o])) (fun _ => rfl) ?_
        refine C_gi rfl hs ok (by decide) (Nat.le_of_ble_eq_true rfl) rfl ?_
        show B_R _ _ (48, [(2, .int (Zi i)), (0, .ref o), (1, .ref tb)], [.int (Zi (C_F u o 11))]) _ _ _
        refine Z_ile rfl rfl (by first | exact hs.zF _ _ | exact Zor_r _ _ | exact hs.zA _ _ | assumption | exact zA _ _ | exact zS _ | exact Zr_not (hs.zA _ _) | exact hs.1.1 _ _ | exact ⟨by omega, by omega⟩) (fun y93 => ?_) (fun y93 => ?_)
        · refine Z_ret rfl rfl ?_
          try dsimp only
          refine ret u h hs fr (by rcases hg with g | ⟨g1, g2, g3, g4⟩; exact .inl g; exact .inr ⟨g1, by omega, g4⟩) (fun hBN j hj => ?_)
          have hbi : B < i := by
            by_cases c : B < i
            · exact c
            · rcases hg with g | ⟨g1, g2, g3, g4⟩
              · omega
              · have := hB _ _ g1 g4
                omega
          rcases hf hbi j hj with q | ⟨k, q0, q1, _⟩
          · exact q
          · omega
        · refine Z_go (f2 := (52, [(2, .int (Zi i)), (0, .ref o), (1, .ref tb)], [.ref o])) (fun _ => rfl) ?_
          refine Z_go (f2 := (53, [(2, .int (Zi i)), (0, .ref o), (1, .ref tb)], [.int (Zi i), .ref o])) (fun _ => rfl) ?_
          refine C_callV (As := [.int (Zi i)]) (rest := []) rfl (by decide) rfl (by decide) rfl rfl (by decide +kernel) (Nat.le_of_ble_eq_true rfl) hs ok (C_sprd _ hmu etu ktu hWu hκu hok hB B0 m1 N1 sd c0 c1 hg i0 (by omega) hμ u6 e00 e01) (fun x h v1 n1 hs q => ?_)
          obtain ⟨rfl, rfl, x1, x2, x3, x4, x5⟩ := q
          have hmu0 : D_M0 (C_sF u o 13 0) p o A := hmu
          have hmv := x1.1.M0 hmu0
          have wv := hs.1
          have etv : C_P v1 o 14 = some tb := by rw [x1.1.1.2.2.2.1]; exact etu
          have ev0 : C_P v1 o 0 = some tr := by rw [x1.1.1.2.2.2.1]; exact eu0
          have ktv : C_K v1 tb = (1, N) := by rw [x1.1.1.2.1]; exact ktu
          have hwv := x1.1.wb hmu0 ktu
          have hWv : C_wb v1 tb N = W := by rw [← hWu]; unfold C_wb; rw [hwv]; rfl
          have hκv : ∀ f, (f = 1 ∨ f = 2 ∨ f = 3 ∨ f = 4) → C_A v1 (A f) = κ f := fun f hf => by rw [x1.1.arr hmu0 (by omega) (by unfold M_XE; omega)]; exact hκu f hf
          have fr1 : M_fr M_XA o A u v1 := (M_fr.refl.sF (f := 13) (by unfold M_XA; omega) _).tr (x1.1.wide (fun f hf => by unfold M_XE at hf; unfold M_XA; omega))
          have htv := htu.fr w (fr1.fr hmu) np
          show B_R _ _ (56, [(2, .int (Zi i)), (0, .ref o), (1, .ref tb)], []) _ _ _
          refine Z_go (f2 := (57, [(2, .int (Zi i)), (0, .ref o), (1, .ref tb)], [.ref o])) (fun _ => rfl) ?_
          refine Z_go (f2 := (58, [(2, .int (Zi i)), (0, .ref o), (1, .ref tb)], [.int (Zi i), .ref o])) (fun _ => rfl) ?_
          refine C_callV (As := [.int (Zi i)]) (rest := []) rfl (by decide) rfl (by decide) rfl rfl (by decide +kernel) (Nat.le_of_ble_eq_true rfl) hs hmv.1 (C_stp _ hmv etv ktv hWv hκv hok hset hB B0 m1 N1 ev0 htv np x2 i0 (by omega) x3 x4) (fun x h v2 n2 hs q => ?_)
          obtain ⟨rfl, rfl, y1, y2, y3, y4, y5, y6⟩ := q
          show B_R _ _ (61, [(2, .int (Zi i)), (0, .ref o), (1, .ref tb)], []) _ _ _
          refine Z_iinc (L2 := [(2, .int (Zi (i + 1))), (0, .ref o), (1, .ref tb)]) rfl rfl (by decide) rfl ?_
          refine Z_go (f2 := (30, [(2, .int (Zi (i + 1))), (0, .ref o), (1, .ref tb)], [])) (fun _ => rfl) ?_
          refine B_loc (K := [(2, .int (Zi (i + 1))), (0, .ref o), (1, .ref tb)]) (N_all_sub ⟨rfl, rfl, rfl, trivial⟩) (show ([2, 0, 1] : List Nat).Nodup by decide) ?_
          have v15 : C_F v2 o 15 = C_F v1 o 15 := y1.2.1 o 15 (by unfold M_XS; omega)
          have v16 : C_F v2 o 16 = C_F v1 o 16 := y1.2.1 o 16 (by unfold M_XS; omega)
          have v7 : C_A v2 (A 7) = C_A v1 (A 7) := y1.arr hmv (by omega) (by unfold M_XS; omega)
          refine ih _ v2 _ (by omega) (by omega) (by omega) hs ((fr.tr fr1).tr (y1.wide (fun f hf => by unfold M_XS at hf; unfold M_XA; omega))) y2 y3 y4 (fun c => y5 (by omega)) (fun q q0 q1 => ?_) ?_ (fun hbi j hj => ?_)
          · rw [v7]
            have := x1.2.2.1 (fun q q0 q1 => by have := hμ q q0 q1; show C_A u (A 7) q ≤ i; omega) q q0 q1
            omega
          · rw [v15, v16]
            rcases x2.2.2.2.1 with g | ⟨g1, g2, g3, g4⟩
            · exact .inl g
            · exact .inr ⟨g1, by omega, by omega, g4⟩
          · rw [v15, v16]
            have hfn : M_FN κ (T_has β) W N m B i o A v1 j := by
              by_cases c : B < i
              · rcases hf c j hj with q | q
                · exact x5 j (.inl q)
                · exact x5 j (.inr (.inl q))
              · exact x5 j (.inr (.inr ⟨by omega, hj⟩))
            by_cases iN : i < N
            · exact y6 iN j hfn
            · rcases hfn with q | ⟨k, q, g0, g1, g2, g3, g4, g5, g6⟩
              · exact .inl q
              · have := (M_ac.k3i g5 g6).1
                omega
theorem M_least {κ : Nat → Int → Int} {W : Int → Int} {β : Int → Int64} {N : Nat} (e : Int) : ∃ B, 0 ≤ B ∧ (∀ b j, 0 ≤ b → M_ac κ (T_has β) W N e b j → B ≤ b) ∧ ((∃ j, M_ac κ (T_has β) W N e B j) ∨ ∀ b j, 0 ≤ b → ¬ M_ac κ (T_has β) W N e b j) := by
  by_cases h : ∃ b : Nat, ∃ j, M_ac κ (T_has β) W N e b j
  · have key : ∀ k : Nat, (∃ b : Nat, b ≤ k ∧ ∃ j, M_ac κ (T_has β) W N e b j) → ∃ b : Nat, (∃ j, M_ac κ (T_has β) W N e b j) ∧ ∀ c : Nat, (∃ j, M_ac κ (T_has β) W N e c j) → b ≤ c := by
      intro k
      induction k with
      | zero =>
        rintro ⟨b, hb, hj⟩
        exact ⟨b, hj, fun c _ => by omega⟩
      | succ k ih =>
        rintro ⟨b, hb, hj⟩
        by_cases c : ∃ b : Nat, b ≤ k ∧ ∃ j, M_ac κ (T_has β) W N e b j
        · exact ih c
        · refine ⟨b, hj, fun c2 hc => ?_⟩
          by_cases d : b ≤ c2
          · exact d
          · exact absurd ⟨c2, by omega, hc⟩ c
    obtain ⟨b0, hb0⟩ := h
    obtain ⟨b, h1, h2⟩ := key b0 ⟨b0, Nat.le_refl _, hb0⟩
    refine ⟨b, by omega, fun c j c0 hc => ?_, .inl h1⟩
    have := h2 c.toNat ⟨j, by rw [show ((c.toNat : Nat) : Int) = c by omega]; exact hc⟩
    omega
  · have hno : ∀ b j, 0 ≤ b → ¬ M_ac κ (T_has β) W N e b j := fun b j b0 hb => h ⟨b.toNat, j, by rw [show ((b.toNat : Nat) : Int) = b by omega]; exact hb⟩
    exact ⟨0, by omega, fun b j b0 hb => absurd hb (hno b j b0), .inr hno⟩
theorem C_seek (d : Nat) {s : C_S} {p : List Nat} {o : Nat} {A : Nat → Nat} {κ : Nat → Int → Int} {W : Int → Int} {m e : Int} {tb N tr : Nat} {p2 : List Nat} {A2 : Nat → Nat} {m2 sm : Int} {τ : Nat → Int → Int} {β : Int → Int64} (hm : D_M0 s p o A) (kt : C_K s tb = (1, N)) (hW : C_wb s tb N = W) (hκ : ∀ f, (f = 1 ∨ f = 2 ∨ f = 3 ∨ f = 4) → C_A s (A f) = κ f) (hok : M_kok κ m) (hset : ∀ q, 0 ≤ q → q < m → κ 1 q = 3 → -1 ≤ κ 4 q ∧ κ 4 q < 80) (m1 : m ≤ 202) (N1 : N ≤ 1000) (e0 : C_P s o 0 = some tr) (ht : D_Tr s p2 tr A2 m2 sm τ β) (np : p2 ≠ p) (f6 : C_F s o 6 = e) (e00 : 0 ≤ e) (e01 : e < m) : C_ok (d + 6) 23 [.ref o, .ref tb] s (fun x s2 n => x = none ∧ n = 0 ∧ C_fr (fun t => t = p) s s2 ∧ C_n s2 = C_n s ∧ D_M0 s2 p o A ∧ (∀ f, (f = 1 ∨ f = 2 ∨ f = 3 ∨ f = 4) → C_A s2 (A f) = κ f) ∧ C_F s2 o 6 = e ∧ C_F s2 o 5 = C_F s o 5 ∧ C_P s2 o 0 = some tr ∧ ((C_F s2 o 15 = -1 ∧ ∀ b j : Int, 0 ≤ b → b ≤ (N : Int) → ¬ M_ac κ (T_has β) W N e b j) ∨ (0 ≤ C_F s2 o 15 ∧ C_F s2 o 15 ≤ N ∧ M_ac κ (T_has β) W N e (C_F s2 o 15) (C_F s2 o 16) ∧ (∀ b j, 0 ≤ b → M_ac κ (T_has β) W N e b j → C_F s2 o 15 ≤ b) ∧ ∀ j, M_ac κ (T_has β) W N e (C_F s2 o 15) j → j ≤ C_F s2 o 16))) := by
  refine C_enter (M := E_m23) rfl (Nat.le_of_ble_eq_true rfl) (fun h0 h hs => ?_)
  show B_R (d + 5) _ (0, [(0, .ref o), (1, .ref tb)], []) _ _ _
  have w := hs.1
  have ok := hm.1
  obtain ⟨ee1, k1, t1⟩ := hm.2.2.1 1 (by omega)
  obtain ⟨ee2, k2, t2⟩ := hm.2.2.1 2 (by omega)
  obtain ⟨ee3, k3, t3⟩ := hm.2.2.1 3 (by omega)
  obtain ⟨e4, k4, t4⟩ := hm.2.2.1 4 (by omega)
  obtain ⟨e7, k7, t7⟩ := hm.2.2.1 7 (by omega)
  obtain ⟨e8, k8, t8⟩ := hm.2.2.1 8 (by omega)
  obtain ⟨ee10, k10, t10⟩ := hm.2.2.1 10 (by omega)
  obtain ⟨ee12, k12, t12⟩ := hm.2.2.1 12 (by omega)
  have sw := hs.1
  obtain ⟨B, B0, hB, hex⟩ := M_least (κ := κ) (W := W) (β := β) (N := N) e
  refine Z_go (f2 := (1, [(0, .ref o), (1, .ref tb)], [.ref o])) (fun _ => rfl) ?_
  refine Z_go (f2 := (2, [(0, .ref o), (1, .ref tb)], [.ref tb, .ref o])) (fun _ => rfl) ?_
  refine C_pr rfl hs (r := some tb) rfl ok (by decide) (Nat.le_of_ble_eq_true rfl) (.inl rfl) rfl (fun h hs => ?_)
  refine Z_go (f2 := (6, [(0, .ref o), (1, .ref tb)], [.ref o])) (fun _ => rfl) ?_
  refine Z_go (f2 := (7, [(0, .ref o), (1, .ref tb)], [.int (Zi (-1)), .ref o])) (fun _ => rfl) ?_
  refine C_pi rfl hs ok (by decide) (Nat.le_of_ble_eq_true rfl) (.inl rfl) rfl rfl rfl (by first | exact hs.zF _ _ | exact Zor_r _ _ | exact hs.zA _ _ | assumption | exact zA _ _ | exact zS _ | exact Zr_not (hs.zA _ _) | exact hs.1.1 _ _ | exact ⟨by omega, by omega⟩) (fun h hs => ?_)
  refine Z_go (f2 := (11, [(0, .ref o), (1, .ref tb)], [.ref o])) (fun _ => rfl) ?_
  refine Z_go (f2 := (12, [(0, .ref o), (1, .ref tb)], [.int (Zi (-1)), .ref o])) (fun _ => rfl) ?_
  refine C_pi rfl hs ok (by decide) (Nat.le_of_ble_eq_true rfl) (.inl rfl) rfl rfl rfl (by first | exact hs.zF _ _ | exact Zor_r _ _ | exact hs.zA _ _ | assumption | exact zA _ _ | exact zS _ | exact Zr_not (hs.zA _ _) | exact hs.1.1 _ _ | exact ⟨by omega, by omega⟩) (fun h hs => ?_)
  refine Z_go (f2 := (16, [(0, .ref o), (1, .ref tb)], [.ref o])) (fun _ => rfl) ?_
  refine Z_go (f2 := (17, [(0, .ref o), (1, .ref tb)], [.int (Zi 0), .ref o])) (fun _ => rfl) ?_
  refine C_pi rfl hs ok (by decide) (Nat.le_of_ble_eq_true rfl) (.inl rfl) rfl rfl rfl (by first | exact hs.zF _ _ | exact Zor_r _ _ | exact hs.zA _ _ | assumption | exact zA _ _ | exact zS _ | exact Zr_not (hs.zA _ _) | exact hs.1.1 _ _ | exact ⟨by omega, by omega⟩) (fun h hs => ?_)
  have hm0 : D_M0 (C_sF (C_sF (C_sF (C_sP s o 14 (some tb)) o 15 (-1)) o 16 (-1)) o 11 0) p o A := ⟨hm.1, hm.2.1, fun f hf => by obtain ⟨q1, q2, q3⟩ := hm.2.2.1 f hf; exact ⟨(if_neg (by omega)).trans q1, q2, q3⟩, hm.2.2.2⟩
  have s15 : C_F (C_sF (C_sF (C_sF (C_sP s o 14 (some tb)) o 15 (-1)) o 16 (-1)) o 11 0) o 15 = -1 := (if_neg (by omega)).trans ((if_neg (by omega)).trans (if_pos ⟨rfl, rfl⟩))
  have s11 : C_F (C_sF (C_sF (C_sF (C_sP s o 14 (some tb)) o 15 (-1)) o 16 (-1)) o 11 0) o 11 = 0 := if_pos ⟨rfl, rfl⟩
  have s6 : C_F (C_sF (C_sF (C_sF (C_sP s o 14 (some tb)) o 15 (-1)) o 16 (-1)) o 11 0) o 6 = C_F s o 6 := (if_neg (by omega)).trans ((if_neg (by omega)).trans (if_neg (by omega)))
  have s5 : C_F (C_sF (C_sF (C_sF (C_sP s o 14 (some tb)) o 15 (-1)) o 16 (-1)) o 11 0) o 5 = C_F s o 5 := (if_neg (by omega)).trans ((if_neg (by omega)).trans (if_neg (by omega)))
  have s0p : C_P (C_sF (C_sF (C_sF (C_sP s o 14 (some tb)) o 15 (-1)) o 16 (-1)) o 11 0) o 0 = some tr := (if_neg (by omega)).trans e0
  have s14 : C_P (C_sF (C_sF (C_sF (C_sP s o 14 (some tb)) o 15 (-1)) o 16 (-1)) o 11 0) o 14 = some tb := if_pos ⟨rfl, rfl⟩
  refine Z_go (f2 := (21, [(0, .ref o), (1, .ref tb)], [.ref o])) (fun _ => rfl) ?_
  refine C_gr rfl hs ok (by decide) (Nat.le_of_ble_eq_true rfl) rfl ((if_neg (by omega)).trans e7) ?_
  refine Z_go (f2 := (25, [(0, .ref o), (1, .ref tb)], [.int (Zi (-1)), .ref (A 7)])) (fun _ => rfl) ?_
  refine C_callJ (vs := [.ref (A 7), .int (Zi (-1))]) (rest := []) rfl (by decide) (by decide) rfl rfl rfl (Nat.le_of_ble_eq_true rfl) hs (C_mfill _ hm0 (v := -1) ⟨by omega, by omega⟩) (fun x h v0 n0 hs q => ?_)
  obtain ⟨rfl, rfl, x1, x2⟩ := q
  show B_R _ _ (28, [(0, .ref o), (1, .ref tb)], []) _ _ _
  refine Z_go (f2 := (29, [(0, .ref o), (1, .ref tb)], [.int (Zi 0)])) (fun _ => rfl) ?_
  refine Z_go (f2 := (30, [(2, .int (Zi 0)), (0, .ref o), (1, .ref tb)], [])) (fun _ => rfl) ?_
  refine B_loc (K := [(2, .int (Zi 0)), (0, .ref o), (1, .ref tb)]) (N_all_sub ⟨rfl, rfl, rfl, trivial⟩) (show ([2, 0, 1] : List Nat).Nodup by decide) ?_
  have hmv := x1.M0 hm0
  have v15 : C_F v0 o 15 = -1 := (x1.2.1 o 15 (by omega)).trans s15
  have v11 : C_F v0 o 11 = 0 := (x1.2.1 o 11 (by omega)).trans s11
  have v6 : C_F v0 o 6 = e := (x1.2.1 o 6 (by omega)).trans (s6.trans f6)
  have v5 : C_F v0 o 5 = C_F s o 5 := (x1.2.1 o 5 (by omega)).trans s5
  have v0p : C_P v0 o 0 = some tr := by rw [x1.1.2.2.2.1]; exact s0p
  have etv : C_P v0 o 14 = some tb := by rw [x1.1.2.2.2.1]; exact s14
  have ktv : C_K v0 tb = (1, N) := by rw [x1.1.2.1]; exact kt
  have hwv := x1.wb hm0 (tb := tb) (N := N) kt
  have hWv : C_wb v0 tb N = W := by rw [← hW]; unfold C_wb; rw [hwv]; rfl
  have hκv : ∀ f, (f = 1 ∨ f = 2 ∨ f = 3 ∨ f = 4) → C_A v0 (A f) = κ f := fun f hf => by rw [x1.arr hm0 (by omega) (by omega)]; exact hκ f hf
  have frc0 : C_fr (fun t => t = p) s (C_sF (C_sF (C_sF (C_sP s o 14 (some tb)) o 15 (-1)) o 16 (-1)) o 11 0) := ((((C_fr.refl _ _).sP hm.2.1).sF hm.2.1).sF hm.2.1).sF hm.2.1
  have frv := frc0.tr (x1.fr hm0)
  have htv := ht.fr sw frv np
  have wv := hs.1
  refine C_seek_lp (s := v0) hmv ktv hWv hκv hok hset etv m1 N1 v0p htv np v6 e00 e01 hB B0 wv (fun u h hs fr g1 g2 => ⟨u, hs, rfl, rfl, frv.tr (fr.fr hmv), ?_, fr.M0 hmv, fun f hf => ?_, ?_, ?_, ?_, ?_⟩) (N + 3) 0 v0 h (by omega) (by omega) (by omega) hs M_fr.refl ?_ (by omega) (by omega) (fun c => by omega) (fun q q0 q1 => by rw [x2 q q0 q1]; omega) (.inl v15) (fun c => by omega)
  rotate_left
  · rw [fr.1.1, x1.1.1]; rfl
  · rw [fr.arr hmv (by omega) (by unfold M_XA; omega)]; exact hκv f hf
  · exact (fr.2.1 o 6 (by unfold M_XA; omega)).trans v6
  · exact (fr.2.1 o 5 (by unfold M_XA; omega)).trans v5
  · rw [fr.1.2.2.2.1]; exact v0p
  · by_cases c : ∃ b j : Int, 0 ≤ b ∧ b ≤ (N : Int) ∧ M_ac κ (T_has β) W N e b j
    · obtain ⟨b, j, b0, b1, hj⟩ := c
      rcases hex with ⟨j2, hj2⟩ | hno
      · have hBb := hB b j b0 hj
        have hfin := g2 (by omega)
        have hfin2 := hfin j2 hj2
        refine .inr ⟨by omega, by omega, ?_, fun b j b0 hj => ?_, fun j hj => ?_⟩
        · rcases g1 with g | ⟨_, _, g⟩
          · omega
          · exact g
        · rw [hfin2.1]; exact hB b j b0 hj
        · rw [hfin2.1] at hj
          exact (hfin j hj).2
      · exact absurd hj (hno b j b0)
    · refine .inl ⟨?_, fun b j b0 b1 hj => c ⟨b, j, b0, b1, hj⟩⟩
      rcases g1 with g | ⟨q1, q2, q3⟩
      · exact g
      · exact absurd ⟨_, _, q1, q2, q3⟩ c
  · rw [v11]
    exact ⟨fun k k0 k1 => by omega, fun k k2 k0 k1 k3 => by omega⟩
