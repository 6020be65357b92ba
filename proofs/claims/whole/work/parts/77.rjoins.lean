/-! the reference: joins -/
theorem R_EX_up {s u : R_S} {k : Int} {A : P_X} (e97 : u.2.1 97 k = s.2.1 97 k) (e98 : ∀ j, u.2.1 98 j = s.2.1 98 j) (e99 : ∀ j, u.2.1 99 j = s.2.1 99 j) (h : R_EX s k A) : R_EX u k A := by
  have er : ∀ t, R_trow u k t = R_trow s k t := fun t => D_row_eq (e98 _) (fun i _ _ => e99 _)
  obtain ⟨⟨v0, v1, v2⟩, ds, mem⟩ := h
  refine ⟨⟨by rw [e97]; exact v0, by rw [e97]; exact v1, fun t t0 t1 => ?_⟩, fun t c t0 tc c1 => ?_, fun x => ?_⟩
  · rw [e97] at t1
    rw [e98]
    have hv := v2 t t0 t1
    exact ⟨hv.1, hv.2.1, fun i i0 i1 => by rw [e99]; exact hv.2.2 i i0 i1⟩
  · rw [e97] at c1
    rw [er, er]
    exact ds t c t0 tc c1
  · rw [mem, e97]
    simp only [er]
theorem R_EX_no (s : R_S) (k : Int) : R_EX (R_sA s 97 k 0) k (fun _ => False) := by
  have e := R_sA_s s 97 k 0
  exact ⟨⟨by rw [e]; omega, by rw [e]; omega, fun t t0 t1 => by rw [e] at t1; omega⟩, fun t c t0 tc c1 => by rw [e] at c1; omega, fun x => ⟨fun h => h.elim, fun ⟨t, t0, t1, _⟩ => by rw [e] at t1; omega⟩⟩
theorem R_j40_97 (s : R_S) (z : Int) : R_j40 s (R_sA s 97 40 z) := ⟨⟨rfl, fun q j hq => R_sA_n _ _ _ _ (fun e => hq (by rw [e]; simp)), rfl⟩, fun j _ => R_sA_n _ _ _ _ (by decide), fun j hj => R_sA_m _ _ _ _ hj, fun j _ => R_sA_n _ _ _ _ (by decide), fun j _ => R_sA_n _ _ _ _ (by decide)⟩
theorem R_j40_96 (s : R_S) (z : Int) : R_j40 s (R_sA s 96 40 z) := ⟨⟨rfl, fun q j hq => R_sA_n _ _ _ _ (fun e => hq (by rw [e]; simp)), rfl⟩, fun j hj => R_sA_m _ _ _ _ hj, fun j _ => R_sA_n _ _ _ _ (by decide), fun j _ => R_sA_n _ _ _ _ (by decide), fun j _ => R_sA_n _ _ _ _ (by decide)⟩
theorem R_jo_w {u w : R_S} {f g k j n m : Int} (hn : n = u.2.1 98 (8 * f + k)) (hm : m = u.2.1 98 (8 * g + j)) (vf : R_tv u f) (vg : R_tv u g) (k0 : 0 ≤ k) (k1 : k < u.2.1 97 f) (j0 : 0 ≤ j) (j1 : j < u.2.1 97 g) (hw : w = R_fl (R_fl u 112 0 n (fun x => u.2.1 99 (60 * (8 * f + k) + x))) 112 n (n + m) (fun x => (R_fl u 112 0 n (fun x => u.2.1 99 (60 * (8 * f + k) + x))).2.1 99 (60 * (8 * g + j) + (x - n)))) : R_lg w 0 (n + m) = R_trow u f k ++ R_trow u g j ∧ ∀ i, 0 ≤ i → i < n + m → 0 ≤ w.2.1 112 i ∧ w.2.1 112 i < 256 := by
  have b1 := vf.2.2 k k0 k1
  have b2 := vg.2.2 j j0 j1
  rw [← hn] at b1
  rw [← hm] at b2
  have e1 : ∀ i, 0 ≤ i → i < n → w.2.1 112 i = u.2.1 99 (60 * (8 * f + k) + i) := fun i i0 i1 => by rw [hw, R_fl_o (by omega), R_fl_i i0 i1]
  have e2 : ∀ i, 0 ≤ i → i < m → w.2.1 112 (n + i) = u.2.1 99 (60 * (8 * g + j) + i) := fun i i0 i1 => by
    rw [hw, R_fl_i (by omega) (by omega), R_fl_n (by decide)]
    exact congrArg (u.2.1 99) (by omega)
  constructor
  · unfold R_lg
    rw [D_row_app b1.1 b2.1]
    exact congr (congrArg _ (D_row_eq hn (fun i i0 i1 => by rw [Int.zero_add]; exact e1 i i0 i1))) (D_row_eq hm (fun i i0 i1 => by rw [Int.zero_add]; exact e2 i i0 i1))
  · intro i i0 i1
    by_cases c : i < n
    · rw [e1 i i0 c]
      exact b1.2.2 i i0 c
    · have := e2 (i - n) (by omega) (by omega)
      rw [show n + (i - n) = i by omega] at this
      rw [this]
      exact b2.2.2 (i - n) (by omega) (by omega)
theorem R_jo_in {d : Nat} {h0 : E_H} {s : R_S} {sl : Nat} {Φ : E_R → Prop} {f g : Int} {A B : P_X} (f0 : 0 ≤ f) (f1 : f < 44) (g0 : 0 ≤ g) (g1 : g < 44) (nf : f ≠ 40) (ng : g ≠ 40) (hA : R_EX s f A) (hB : R_EX s g B) {k n : Int} (k0 : 0 ≤ k) (k1 : k < s.2.1 97 f) (hn : n = s.2.1 98 (8 * f + k)) (bad : ∀ (w : R_S) (h : E_H), R_is h0 h w → R_j40 s w → ¬ F_fit (F_im2 (fun a b => a ++ b) A B) → Φ (some (.int (Zi 0)), h, sl)) (kont : ∀ (u : R_S) (h : E_H), R_is h0 h u → R_j40 s u → R_EX u 40 (R_jp s f g (k + 1) 0) → B_R (d + 3) E_m242 (147, [(3, .int (Zi k)), (0, .ref 83), (1, .int (Zi f)), (2, .int (Zi g))], []) h sl Φ) : ∀ (t : Nat) (j : Int) (u : R_S) (h : E_H), s.2.1 97 g - j < t → R_is h0 h u → R_j40 s u → R_EX u 40 (R_jp s f g k j) → 0 ≤ j → j ≤ s.2.1 97 g → B_R (d + 3) E_m242 (36, [(5, .int (Zi j)), (4, .int (Zi n)), (3, .int (Zi k)), (0, .ref 83), (1, .int (Zi f)), (2, .int (Zi g))], []) h sl Φ := by
  intro t
  induction t with
  | zero => intro j u h ht hs hj he j0 j1; omega
  | succ t ih =>
    intro j u h ht hs hj he j0 j1
    obtain ⟨vf, e97f, e98f, erf⟩ := R_tv_j40 hj nf hA.1
    obtain ⟨vg, e97g, e98g, erg⟩ := R_tv_j40 hj ng hB.1
    have gb := vg.2.1
    have fb := vf.2.1
    have bn := vf.2.2 k k0 (by omega)
    rw [e98f k k0 k1, ← hn] at bn
    refine Z_go (f2 := (38, [(5, .int (Zi j)), (4, .int (Zi n)), (3, .int (Zi k)), (0, .ref 83), (1, .int (Zi f)), (2, .int (Zi g))], [.int (Zi j)])) (fun _ => rfl) ?_
    refine Z_go (f2 := (39, [(5, .int (Zi j)), (4, .int (Zi n)), (3, .int (Zi k)), (0, .ref 83), (1, .int (Zi f)), (2, .int (Zi g))], [.ref 83, .int (Zi j)])) (fun _ => rfl) ?_
    refine R_gr (q := 95) rfl hs rfl ?_
    show B_R _ _ (42, [(5, .int (Zi j)), (4, .int (Zi n)), (3, .int (Zi k)), (0, .ref 83), (1, .int (Zi f)), (2, .int (Zi g))], [.ref 97, .int (Zi j)]) _ _ _
    refine Z_go (f2 := (43, [(5, .int (Zi j)), (4, .int (Zi n)), (3, .int (Zi k)), (0, .ref 83), (1, .int (Zi f)), (2, .int (Zi g))], [.int (Zi g), .ref 97, .int (Zi j)])) (fun _ => rfl) ?_
    refine R_ia (q := 13) rfl hs rfl rfl (by omega) (by omega) (by decide) ?_
    refine Z_cge rfl rfl (by first | exact hs.zF _ | exact Zor_r _ _ | exact hs.zA _ _ | assumption | exact zA _ _ | exact zS _ | exact Zr_not (hs.zA _ _) | exact ⟨by omega, by omega⟩) (by first | exact hs.zF _ | exact Zor_r _ _ | exact hs.zA _ _ | assumption | exact zA _ _ | exact zS _ | exact Zr_not (hs.zA _ _) | exact ⟨by omega, by omega⟩) (fun c1 => ?_) (fun c1 => ?_)
    · refine B_loc (K := [(3, .int (Zi k)), (0, .ref 83), (1, .int (Zi f)), (2, .int (Zi g))]) (N_all_sub ⟨rfl, rfl, rfl, rfl, trivial⟩) (show ([3, 0, 1, 2] : List Nat).Nodup by decide) ?_
      obtain rfl : j = s.2.1 97 g := by omega
      rw [R_jp_k s f g k0] at he
      exact kont u h hs hj he
    · refine Z_go (f2 := (48, [(5, .int (Zi j)), (4, .int (Zi n)), (3, .int (Zi k)), (0, .ref 83), (1, .int (Zi f)), (2, .int (Zi g))], [.ref 83])) (fun _ => rfl) ?_
      refine R_gr (q := 96) rfl hs rfl ?_
      show B_R _ _ (51, [(5, .int (Zi j)), (4, .int (Zi n)), (3, .int (Zi k)), (0, .ref 83), (1, .int (Zi f)), (2, .int (Zi g))], [.ref 98]) _ _ _
      refine Z_go (f2 := (53, [(5, .int (Zi j)), (4, .int (Zi n)), (3, .int (Zi k)), (0, .ref 83), (1, .int (Zi f)), (2, .int (Zi g))], [.int (Zi 8), .ref 98])) (fun _ => rfl) ?_
      refine Z_go (f2 := (54, [(5, .int (Zi j)), (4, .int (Zi n)), (3, .int (Zi k)), (0, .ref 83), (1, .int (Zi f)), (2, .int (Zi g))], [.int (Zi g), .int (Zi 8), .ref 98])) (fun _ => rfl) ?_
      refine Z_imul rfl ?_
      refine Z_go (f2 := (57, [(5, .int (Zi j)), (4, .int (Zi n)), (3, .int (Zi k)), (0, .ref 83), (1, .int (Zi f)), (2, .int (Zi g))], [.int (Zi j), .int (Zi (8 * g)), .ref 98])) (fun _ => rfl) ?_
      refine Z_iadd rfl ?_
      refine R_ia (q := 14) rfl hs rfl rfl (by omega) (by omega) (by decide) ?_
      refine Z_go (f2 := (61, [(6, .int (Zi (u.2.1 98 (8 * g + j)))), (5, .int (Zi j)), (4, .int (Zi n)), (3, .int (Zi k)), (0, .ref 83), (1, .int (Zi f)), (2, .int (Zi g))], [])) (fun _ => rfl) ?_
      refine Z_go (f2 := (62, [(6, .int (Zi (u.2.1 98 (8 * g + j)))), (5, .int (Zi j)), (4, .int (Zi n)), (3, .int (Zi k)), (0, .ref 83), (1, .int (Zi f)), (2, .int (Zi g))], [.int (Zi 0)])) (fun _ => rfl) ?_
      refine Z_go (f2 := (64, [(7, .int (Zi 0)), (6, .int (Zi (u.2.1 98 (8 * g + j)))), (5, .int (Zi j)), (4, .int (Zi n)), (3, .int (Zi k)), (0, .ref 83), (1, .int (Zi f)), (2, .int (Zi g))], [])) (fun _ => rfl) ?_
      have bm := vg.2.2 j j0 (by omega)
      refine B_loc (K := [(7, .int (Zi 0)), (6, .int (Zi (u.2.1 98 (8 * g + j)))), (5, .int (Zi j)), (4, .int (Zi n)), (3, .int (Zi k)), (0, .ref 83), (1, .int (Zi f)), (2, .int (Zi g))]) (N_all_sub ⟨rfl, rfl, rfl, rfl, rfl, rfl, rfl, rfl, trivial⟩) (show ([7, 6, 5, 4, 3, 0, 1, 2] : List Nat).Nodup by decide) ?_
      refine R_jo_1 (d := d + 2) (s := u) (f := f) (g := g) (k := k) (j := j) (n := n) (m := u.2.1 98 (8 * g + j)) f0 f1 g0 g1 k0 (by omega) j0 (by omega) bn.2.1 bm.2.1 bn.1 bm.1 (fun q j => hs.zA q j) (fun h hs => ?_) (n.toNat + 1) 0 h (by omega) (by rw [R_fl_0]; exact hs) (by omega) bn.1
      refine Z_go (f2 := (93, [(7, .int (Zi n)), (6, .int (Zi (u.2.1 98 (8 * g + j)))), (5, .int (Zi j)), (4, .int (Zi n)), (3, .int (Zi k)), (0, .ref 83), (1, .int (Zi f)), (2, .int (Zi g))], [.int (Zi 0)])) (fun _ => rfl) ?_
      refine Z_go (f2 := (95, [(7, .int (Zi 0)), (6, .int (Zi (u.2.1 98 (8 * g + j)))), (5, .int (Zi j)), (4, .int (Zi n)), (3, .int (Zi k)), (0, .ref 83), (1, .int (Zi f)), (2, .int (Zi g))], [])) (fun _ => rfl) ?_
      refine B_loc (K := [(7, .int (Zi 0)), (6, .int (Zi (u.2.1 98 (8 * g + j)))), (5, .int (Zi j)), (4, .int (Zi n)), (3, .int (Zi k)), (0, .ref 83), (1, .int (Zi f)), (2, .int (Zi g))]) (N_all_sub ⟨rfl, rfl, rfl, rfl, rfl, rfl, rfl, rfl, trivial⟩) (show ([7, 6, 5, 4, 3, 0, 1, 2] : List Nat).Nodup by decide) ?_
      refine R_jo_2 (d := d + 2) (s := R_fl u 112 0 n (fun x => u.2.1 99 (60 * (8 * f + k) + x))) (f := f) (g := g) (k := k) (j := j) (n := n) (m := u.2.1 98 (8 * g + j)) f0 f1 g0 g1 k0 (by omega) j0 (by omega) bn.2.1 bm.2.1 bn.1 bm.1 (fun q j => hs.zA q j) (fun h hs => ?_) ((u.2.1 98 (8 * g + j)).toNat + 1) 0 h (by omega) (by rw [Int.add_zero, R_fl_0]; exact hs) (by omega) bm.1
      have zu : Zr (u.2.1 98 (8 * g + j)) := ⟨by omega, by omega⟩
      have key : ∃ w, w = R_fl (R_fl u 112 0 n (fun x => u.2.1 99 (60 * (8 * f + k) + x))) 112 n (n + u.2.1 98 (8 * g + j)) (fun x => (R_fl u 112 0 n (fun x => u.2.1 99 (60 * (8 * f + k) + x))).2.1 99 (60 * (8 * g + j) + (x - n))) := ⟨_, rfl⟩
      obtain ⟨w, hw⟩ := key
      rw [← hw] at hs
      obtain ⟨kr, kb⟩ := R_jo_w (f := f) (g := g) (k := k) (j := j) (w := w) (by rw [e98f k k0 k1]; exact hn) rfl vf vg k0 (by omega) j0 (by omega) hw
      have hjw : R_j40 s w := by rw [hw]; exact (hj.trans (R_only_112 _ _ _)).trans (R_only_112 _ _ _)
      have hew : R_EX w 40 (R_jp s f g k j) := by rw [hw]; exact R_EX_112 (R_EX_112 he)
      rw [erf k k0 k1, erg j j0 (by omega)] at kr
      refine Z_go (f2 := (128, [(7, .int (Zi (u.2.1 98 (8 * g + j)))), (6, .int (Zi (u.2.1 98 (8 * g + j)))), (5, .int (Zi j)), (4, .int (Zi n)), (3, .int (Zi k)), (0, .ref 83), (1, .int (Zi f)), (2, .int (Zi g))], [.ref 83])) (fun _ => rfl) ?_
      refine Z_go (f2 := (130, [(7, .int (Zi (u.2.1 98 (8 * g + j)))), (6, .int (Zi (u.2.1 98 (8 * g + j)))), (5, .int (Zi j)), (4, .int (Zi n)), (3, .int (Zi k)), (0, .ref 83), (1, .int (Zi f)), (2, .int (Zi g))], [.int (Zi n), .ref 83])) (fun _ => rfl) ?_
      refine Z_go (f2 := (132, [(7, .int (Zi (u.2.1 98 (8 * g + j)))), (6, .int (Zi (u.2.1 98 (8 * g + j)))), (5, .int (Zi j)), (4, .int (Zi n)), (3, .int (Zi k)), (0, .ref 83), (1, .int (Zi f)), (2, .int (Zi g))], [.int (Zi (u.2.1 98 (8 * g + j))), .int (Zi n), .ref 83])) (fun _ => rfl) ?_
      refine Z_iadd rfl ?_
      refine R_call (As := [.int (Zi (n + (u.2.1 98 (8 * g + j))))]) (rest := []) rfl (by decide) rfl rfl rfl rfl (by decide +kernel) (Nat.le_of_ble_eq_true rfl) hs (R_makes _ w (z := n + u.2.1 98 (8 * g + j)) ⟨by omega, by omega⟩ (by omega) hew (fun _ => kb)) (fun x h w2 hs q => ?_)
      obtain ⟨v, rfl, hv⟩ := q
      rw [kr, R_jp_j s f g k j0] at hv
      have bs : Zr v := by rcases hv with q | q <;> exact ⟨by omega, by omega⟩
      show B_R _ _ (136, [(7, .int (Zi (u.2.1 98 (8 * g + j)))), (6, .int (Zi (u.2.1 98 (8 * g + j)))), (5, .int (Zi j)), (4, .int (Zi n)), (3, .int (Zi k)), (0, .ref 83), (1, .int (Zi f)), (2, .int (Zi g))], [.int (Zi v)]) _ _ _
      refine Z_ine rfl rfl (by first | exact hs.zF _ | exact Zor_r _ _ | exact hs.zA _ _ | assumption | exact zA _ _ | exact zS _ | exact Zr_not (hs.zA _ _) | exact ⟨by omega, by omega⟩) (fun c1 => ?_) (fun c1 => ?_)
      · refine Z_iinc (L2 := [(5, .int (Zi (j + 1))), (7, .int (Zi (u.2.1 98 (8 * g + j)))), (6, .int (Zi (u.2.1 98 (8 * g + j)))), (4, .int (Zi n)), (3, .int (Zi k)), (0, .ref 83), (1, .int (Zi f)), (2, .int (Zi g))]) rfl rfl (by decide) rfl ?_
        refine Z_go (f2 := (36, [(5, .int (Zi (j + 1))), (7, .int (Zi (u.2.1 98 (8 * g + j)))), (6, .int (Zi (u.2.1 98 (8 * g + j)))), (4, .int (Zi n)), (3, .int (Zi k)), (0, .ref 83), (1, .int (Zi f)), (2, .int (Zi g))], [])) (fun _ => rfl) ?_
        refine B_loc (K := [(5, .int (Zi (j + 1))), (4, .int (Zi n)), (3, .int (Zi k)), (0, .ref 83), (1, .int (Zi f)), (2, .int (Zi g))]) (N_all_sub ⟨rfl, rfl, rfl, rfl, rfl, rfl, trivial⟩) (show ([5, 4, 3, 0, 1, 2] : List Nat).Nodup by decide) ?_
        rcases hv with ⟨_, _, c1, c2⟩ | ⟨q, _⟩
        · exact ih (j + 1) w2 h (by omega) hs (hjw.trans c2.j) c1 (by omega) (by omega)
        · omega
      · refine Z_go (f2 := (140, [(7, .int (Zi (u.2.1 98 (8 * g + j)))), (6, .int (Zi (u.2.1 98 (8 * g + j)))), (5, .int (Zi j)), (4, .int (Zi n)), (3, .int (Zi k)), (0, .ref 83), (1, .int (Zi f)), (2, .int (Zi g))], [.int (Zi 0)])) (fun _ => rfl) ?_
        refine Z_iret rfl rfl (by first | rfl | decide | exact narrow_b01 (by omega)) ?_
        rcases hv with ⟨q, _⟩ | ⟨_, c1, c2⟩
        · omega
        · refine bad w2 h hs (hjw.trans c1.j) (R_j_nofit hA hB k0 k1 j0 (by omega) (c2.imp (fun q => ?_) id))
          rw [← hn, ← e98g j j0 (by omega)]
          exact q
theorem R_jo_out {d : Nat} {h0 : E_H} {s : R_S} {sl : Nat} {Φ : E_R → Prop} {f g : Int} {A B : P_X} (f0 : 0 ≤ f) (f1 : f < 44) (g0 : 0 ≤ g) (g1 : g < 44) (nf : f ≠ 40) (ng : g ≠ 40) (hA : R_EX s f A) (hB : R_EX s g B) (bad : ∀ (w : R_S) (h : E_H), R_is h0 h w → R_j40 s w → ¬ F_fit (F_im2 (fun a b => a ++ b) A B) → Φ (some (.int (Zi 0)), h, sl)) (kont : ∀ (u : R_S) (h : E_H), R_is h0 h u → R_j40 s u → R_EX u 40 (R_jp s f g (s.2.1 97 f) 0) → B_R (d + 3) E_m242 (153, [(0, .ref 83), (1, .int (Zi f)), (2, .int (Zi g))], []) h sl Φ) : ∀ (t : Nat) (k : Int) (u : R_S) (h : E_H), s.2.1 97 f - k < t → R_is h0 h u → R_j40 s u → R_EX u 40 (R_jp s f g k 0) → 0 ≤ k → k ≤ s.2.1 97 f → B_R (d + 3) E_m242 (10, [(3, .int (Zi k)), (0, .ref 83), (1, .int (Zi f)), (2, .int (Zi g))], []) h sl Φ := by
  intro t
  induction t with
  | zero => intro k u h ht hs hj he k0 k1; omega
  | succ t ih =>
    intro k u h ht hs hj he k0 k1
    obtain ⟨vf, e97f, e98f, erf⟩ := R_tv_j40 hj nf hA.1
    have fb := vf.2.1
    have gb := hB.1.1
    refine Z_go (f2 := (11, [(3, .int (Zi k)), (0, .ref 83), (1, .int (Zi f)), (2, .int (Zi g))], [.int (Zi k)])) (fun _ => rfl) ?_
    refine Z_go (f2 := (12, [(3, .int (Zi k)), (0, .ref 83), (1, .int (Zi f)), (2, .int (Zi g))], [.ref 83, .int (Zi k)])) (fun _ => rfl) ?_
    refine R_gr (q := 95) rfl hs rfl ?_
    show B_R _ _ (15, [(3, .int (Zi k)), (0, .ref 83), (1, .int (Zi f)), (2, .int (Zi g))], [.ref 97, .int (Zi k)]) _ _ _
    refine Z_go (f2 := (16, [(3, .int (Zi k)), (0, .ref 83), (1, .int (Zi f)), (2, .int (Zi g))], [.int (Zi f), .ref 97, .int (Zi k)])) (fun _ => rfl) ?_
    refine R_ia (q := 13) rfl hs rfl rfl (by omega) (by omega) (by decide) ?_
    refine Z_cge rfl rfl (by first | exact hs.zF _ | exact Zor_r _ _ | exact hs.zA _ _ | assumption | exact zA _ _ | exact zS _ | exact Zr_not (hs.zA _ _) | exact ⟨by omega, by omega⟩) (by first | exact hs.zF _ | exact Zor_r _ _ | exact hs.zA _ _ | assumption | exact zA _ _ | exact zS _ | exact Zr_not (hs.zA _ _) | exact ⟨by omega, by omega⟩) (fun c1 => ?_) (fun c1 => ?_)
    · refine B_loc (K := [(0, .ref 83), (1, .int (Zi f)), (2, .int (Zi g))]) (N_all_sub ⟨rfl, rfl, rfl, trivial⟩) (show ([0, 1, 2] : List Nat).Nodup by decide) ?_
      obtain rfl : k = s.2.1 97 f := by omega
      exact kont u h hs hj he
    · refine Z_go (f2 := (21, [(3, .int (Zi k)), (0, .ref 83), (1, .int (Zi f)), (2, .int (Zi g))], [.ref 83])) (fun _ => rfl) ?_
      refine R_gr (q := 96) rfl hs rfl ?_
      show B_R _ _ (24, [(3, .int (Zi k)), (0, .ref 83), (1, .int (Zi f)), (2, .int (Zi g))], [.ref 98]) _ _ _
      refine Z_go (f2 := (26, [(3, .int (Zi k)), (0, .ref 83), (1, .int (Zi f)), (2, .int (Zi g))], [.int (Zi 8), .ref 98])) (fun _ => rfl) ?_
      refine Z_go (f2 := (27, [(3, .int (Zi k)), (0, .ref 83), (1, .int (Zi f)), (2, .int (Zi g))], [.int (Zi f), .int (Zi 8), .ref 98])) (fun _ => rfl) ?_
      refine Z_imul rfl ?_
      refine Z_go (f2 := (29, [(3, .int (Zi k)), (0, .ref 83), (1, .int (Zi f)), (2, .int (Zi g))], [.int (Zi k), .int (Zi (8 * f)), .ref 98])) (fun _ => rfl) ?_
      refine Z_iadd rfl ?_
      refine R_ia (q := 14) rfl hs rfl rfl (by omega) (by omega) (by decide) ?_
      refine Z_go (f2 := (33, [(4, .int (Zi (u.2.1 98 (8 * f + k)))), (3, .int (Zi k)), (0, .ref 83), (1, .int (Zi f)), (2, .int (Zi g))], [])) (fun _ => rfl) ?_
      refine Z_go (f2 := (34, [(4, .int (Zi (u.2.1 98 (8 * f + k)))), (3, .int (Zi k)), (0, .ref 83), (1, .int (Zi f)), (2, .int (Zi g))], [.int (Zi 0)])) (fun _ => rfl) ?_
      refine Z_go (f2 := (36, [(5, .int (Zi 0)), (4, .int (Zi (u.2.1 98 (8 * f + k)))), (3, .int (Zi k)), (0, .ref 83), (1, .int (Zi f)), (2, .int (Zi g))], [])) (fun _ => rfl) ?_
      refine B_loc (K := [(5, .int (Zi 0)), (4, .int (Zi (u.2.1 98 (8 * f + k)))), (3, .int (Zi k)), (0, .ref 83), (1, .int (Zi f)), (2, .int (Zi g))]) (N_all_sub ⟨rfl, rfl, rfl, rfl, rfl, rfl, trivial⟩) (show ([5, 4, 3, 0, 1, 2] : List Nat).Nodup by decide) ?_
      refine R_jo_in (n := u.2.1 98 (8 * f + k)) f0 f1 g0 g1 nf ng hA hB k0 (by omega) (e98f k k0 (by omega)) bad (fun u h hs hj he => ?_) ((s.2.1 97 g).toNat + 1) 0 u h (by omega) hs hj he (by omega) gb
      refine Z_iinc (L2 := [(3, .int (Zi (k + 1))), (0, .ref 83), (1, .int (Zi f)), (2, .int (Zi g))]) rfl rfl (by decide) rfl ?_
      refine Z_goto (p2 := 10) rfl (by decide +kernel) (by decide +kernel) ?_
      refine B_loc (K := [(3, .int (Zi (k + 1))), (0, .ref 83), (1, .int (Zi f)), (2, .int (Zi g))]) (N_all_sub ⟨rfl, rfl, rfl, rfl, trivial⟩) (show ([3, 0, 1, 2] : List Nat).Nodup by decide) ?_
      exact ih (k + 1) u h (by omega) hs hj he (by omega) (by omega)
theorem R_joins (d : Nat) (s : R_S) {f g : Int} {A B : P_X} (f0 : 0 ≤ f) (f1 : f < 44) (g0 : 0 ≤ g) (g1 : g < 44) (nf : f ≠ 40) (ng : g ≠ 40) (hA : R_EX s f A) (hB : R_EX s g B) (zf : Zr f) (zg : Zr g) : R_ok (d + 4) 242 [.int (Zi f), .int (Zi g)] s (fun x s2 => ∃ v : Int, x = some (.int (Zi v)) ∧ (v = 1 ∧ F_fit (F_im2 (fun a b => a ++ b) A B) ∧ R_EX s2 40 (F_im2 (fun a b => a ++ b) A B) ∧ s2.2.1 96 40 = 1 ∧ R_j40 s s2 ∨ v = 0 ∧ R_j40 s s2 ∧ ¬ F_fit (F_im2 (fun a b => a ++ b) A B))) := by
  refine R_enter (M := E_m242) rfl (Nat.le_of_ble_eq_true rfl) (fun h0 h hs => ?_)
  show B_R (d + 3) _ (0, [(0, .ref 83), (1, .int (Zi f)), (2, .int (Zi g))], []) _ _ _
  refine Z_go (f2 := (1, [(0, .ref 83), (1, .int (Zi f)), (2, .int (Zi g))], [.ref 83])) (fun _ => rfl) ?_
  refine R_gr (q := 95) rfl hs rfl ?_
  show B_R _ _ (4, [(0, .ref 83), (1, .int (Zi f)), (2, .int (Zi g))], [.ref 97]) _ _ _
  refine Z_go (f2 := (6, [(0, .ref 83), (1, .int (Zi f)), (2, .int (Zi g))], [.int (Zi 40), .ref 97])) (fun _ => rfl) ?_
  refine Z_go (f2 := (7, [(0, .ref 83), (1, .int (Zi f)), (2, .int (Zi g))], [.int (Zi 0), .int (Zi 40), .ref 97])) (fun _ => rfl) ?_
  refine R_is_ (q := 13) rfl hs rfl rfl (by omega) (by omega) (by decide) (by first | exact hs.zF _ | exact Zor_r _ _ | exact hs.zA _ _ | assumption | exact zA _ _ | exact zS _ | exact Zr_not (hs.zA _ _) | exact ⟨by omega, by omega⟩) (fun h hs => ?_)
  refine Z_go (f2 := (9, [(0, .ref 83), (1, .int (Zi f)), (2, .int (Zi g))], [.int (Zi 0)])) (fun _ => rfl) ?_
  refine Z_go (f2 := (10, [(3, .int (Zi 0)), (0, .ref 83), (1, .int (Zi f)), (2, .int (Zi g))], [])) (fun _ => rfl) ?_
  refine B_loc (K := [(3, .int (Zi 0)), (0, .ref 83), (1, .int (Zi f)), (2, .int (Zi g))]) (N_all_sub ⟨rfl, rfl, rfl, rfl, trivial⟩) (show ([3, 0, 1, 2] : List Nat).Nodup by decide) ?_
  refine R_jo_out (s := s) f0 f1 g0 g1 nf ng hA hB (fun w h hs hj nfit => ⟨_, hs, ⟨_, rfl, .inr ⟨rfl, hj, nfit⟩⟩, rfl⟩) (fun u h hs hj he => ?_) ((s.2.1 97 f).toNat + 1) 0 _ h (by omega) hs (R_j40_97 s 0) (by rw [R_jp_0]; exact R_EX_no s 40) (by omega) hA.1.1
  rw [R_jp_im hA hB] at he
  refine Z_go (f2 := (154, [(0, .ref 83), (1, .int (Zi f)), (2, .int (Zi g))], [.ref 83])) (fun _ => rfl) ?_
  refine R_gr (q := 94) rfl hs rfl ?_
  show B_R _ _ (157, [(0, .ref 83), (1, .int (Zi f)), (2, .int (Zi g))], [.ref 96]) _ _ _
  refine Z_go (f2 := (159, [(0, .ref 83), (1, .int (Zi f)), (2, .int (Zi g))], [.int (Zi 40), .ref 96])) (fun _ => rfl) ?_
  refine Z_go (f2 := (160, [(0, .ref 83), (1, .int (Zi f)), (2, .int (Zi g))], [.int (Zi 1), .int (Zi 40), .ref 96])) (fun _ => rfl) ?_
  refine R_bs (q := 12) rfl hs rfl rfl (by omega) (by omega) (by decide) (by first | exact .inl rfl | exact .inr rfl | assumption) (fun h hs => ?_)
  refine Z_go (f2 := (162, [(0, .ref 83), (1, .int (Zi f)), (2, .int (Zi g))], [.int (Zi 1)])) (fun _ => rfl) ?_
  refine Z_iret rfl rfl (by first | rfl | decide | exact narrow_b01 (by omega)) ⟨_, hs, ?_, rfl⟩
  have he2 : R_EX (R_sA u 96 40 1) 40 (F_im2 (fun a b => a ++ b) A B) := R_EX_up (R_sA_n _ _ _ _ (by decide)) (fun j => R_sA_n _ _ _ _ (by decide)) (fun j => R_sA_n _ _ _ _ (by decide)) he
  refine ⟨_, rfl, .inl ⟨rfl, ⟨(he2.card 8).mpr (by have := he2.1.2.1; omega), fun t ht => ?_⟩, he2, R_sA_s _ _ _ _, hj.trans (R_j40_96 u 1)⟩⟩
  obtain ⟨c, c0, c1, rfl⟩ := (he2.2.2 _).mp ht
  have := (he2.1.2.2 c c0 c1).2.1
  unfold R_trow
  rw [D_row_len]
  omega
