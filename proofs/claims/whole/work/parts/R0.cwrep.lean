/-! the class: Planner: work: a REPEAT, a node -/
theorem W_by11 {b lo hi : Int} (h : b + C_by 11 lo hi ≤ 80) : b + 3 ≤ 80 := by
  unfold C_by at h
  rw [if_pos rfl] at h
  split at h <;> omega
theorem W_cnt_b {v : P_V} {b op lo hi : Int} (hv : V_ok v b) (hc : T_cok op lo hi) (hb : b + C_by op lo hi ≤ 80) : b + 1 ≤ 80 ∧ (∀ j : Nat, (j : Int) < (if (N_lh op lo hi).2 = -1 then (N_lh op lo hi).1 - 1 else (N_lh op lo hi).1) → ∃ x, x ≤ 80 ∧ V_ok (V_rep V_nil v j) x) ∧ (∃ x, x ≤ 80 ∧ V_ok (V_rep V_nil v ((N_lh op lo hi).1 - 1).toNat) x) ∧ ∀ j : Nat, (N_lh op lo hi).1 + j < (N_lh op lo hi).2 → ∃ x, x ≤ 80 ∧ V_ok (V_rep (V_rep V_nil v (N_lh op lo hi).1.toNat) (V_may v) j) x := by
  have b0 := hv.b0
  rcases hc with ⟨rfl | rfl | rfl, h2, h3⟩ | ⟨rfl, h2, h3, h4⟩
  · rw [N_lh8]
    have hb : b + 1 ≤ 80 := hb
    exact ⟨hb, fun j hj => by rw [if_pos rfl] at hj; have hj : (j : Int) < 0 - 1 := hj; omega, ⟨0, by omega, V_ok_nil⟩, fun j hj => by have hj : (0 : Int) + j < -1 := hj; omega⟩
  · rw [N_lh9]
    have hb : b + 1 ≤ 80 := hb
    exact ⟨hb, fun j hj => by rw [if_pos rfl] at hj; have hj : (j : Int) < 1 - 1 := hj; omega, ⟨0, by omega, V_ok_nil⟩, fun j hj => by have hj : (1 : Int) + j < -1 := hj; omega⟩
  · rw [N_lh10]
    have hb : b + 1 ≤ 80 := hb
    exact ⟨hb, fun j hj => by rw [if_neg (by decide)] at hj; have hj : (j : Int) < 0 := hj; omega, ⟨0, by omega, V_ok_nil⟩, fun j hj => by
      have hj : (0 : Int) + j < 1 := hj
      obtain rfl : j = 0 := by omega
      exact ⟨0, by omega, V_ok_nil⟩⟩
  · have h3' := W_by11 hb
    rw [N_lh11]
    exact ⟨by omega, fun j _ => ⟨b + 3, h3', (V_rep_ok hv j).1⟩, ⟨b + 3, h3', (V_rep_ok hv _).1⟩, fun j _ => ⟨b + 3, h3', V_rep_may hv _ j⟩⟩
theorem C_wr1 {d : Nat} {h0 : E_H} {s : C_S} {Φ : E_R → Prop} {pp : List Nat} {pl tr B : Nat} {G : G_t} {P3 : G_p} {ω : Nat → Nat} {lv : Nat} {i li lw hg : Int} {v w : P_V} (B0 : 1280 ≤ B) (B1 : B ≤ 20000) (hlv : lv ≤ 36) (t1 : P3.2.2.2.2.1 lv = true) (t2 : P3.2.2.2.2.1 (lv + 1) = true) {b9 : Int} (hw9 : V_ok v b9) (hb9 : b9 ≤ 80) (hr : ∀ j : Nat, (j : Int) < (if hg = -1 then lw - 1 else lw) → ∃ x, x ≤ 80 ∧ V_ok (V_rep V_nil v j) x) (lw0 : 0 ≤ lw) (lw1 : lw ≤ 20) (hg0 : -1 ≤ hg) (hg1 : hg ≤ 20) (ret : ∀ (u : C_S) (h : E_H) (sl : Nat) (G1 : G_t) (ω1 : Nat → Nat), C_is h0 h u → D_Pl u pp pl tr B G1 P3 ω1 → D_cs pp s u ω ω1 sl → D_pv B G1 lv (V_rep V_nil v (if hg = -1 then lw - 1 else lw).toNat) → D_pv B G1 (lv + 1) v → (∀ j, j ≠ lv → j ≠ lv + 1 → G_oth j G G1) → B_R (d + 9) E_m63 (114, [(0, .ref pl), (1, .int (Zi i)), (2, .int (Zi li)), (3, .int (Zi lw)), (4, .int (Zi hg)), (5, .ref (P3.2.2.2.1 lv)), (6, .ref (P3.2.2.2.1 (lv + 1)))], []) h sl Φ) : ∀ (c : Nat) (k : Int) (u : C_S) (h : E_H) (sl : Nat) (G1 : G_t) (ω1 : Nat → Nat), c = ((if hg = -1 then lw - 1 else lw) - k).toNat → 0 ≤ k → k ≤ 20 → (k ≤ (if hg = -1 then lw - 1 else lw) ∨ k = 0) → C_is h0 h u → D_Pl u pp pl tr B G1 P3 ω1 → D_cs pp s u ω ω1 sl → D_pv B G1 lv (V_rep V_nil v k.toNat) → D_pv B G1 (lv + 1) v → (∀ j, j ≠ lv → j ≠ lv + 1 → G_oth j G G1) → B_R (d + 9) E_m63 (82, [(7, .int (Zi k)), (0, .ref pl), (1, .int (Zi i)), (2, .int (Zi li)), (3, .int (Zi lw)), (4, .int (Zi hg)), (5, .ref (P3.2.2.2.1 lv)), (6, .ref (P3.2.2.2.1 (lv + 1)))], []) h sl Φ := by
  intro c
  have zlw : Zr lw := ⟨by omega, by omega⟩
  have zhg : Zr hg := ⟨by omega, by omega⟩
  generalize em : (if hg = -1 then lw - 1 else lw) = m9 at *
  have hm9 : -1 ≤ m9 ∧ m9 ≤ 20 := by rw [← em]; split <;> omega
  obtain ⟨m90, m91⟩ := hm9
  induction c with
  | zero =>
    intro k u h sl G1 ω1 hc k0 k2 k1 hs hp cs hv hw ot
    have zk : Zr k := ⟨by omega, by omega⟩
    refine Z_go (f2 := (84, [(7, .int (Zi k)), (0, .ref pl), (1, .int (Zi i)), (2, .int (Zi li)), (3, .int (Zi lw)), (4, .int (Zi hg)), (5, .ref (P3.2.2.2.1 lv)), (6, .ref (P3.2.2.2.1 (lv + 1)))], [.int (Zi k)])) (fun _ => rfl) ?_
    refine Z_go (f2 := (86, [(7, .int (Zi k)), (0, .ref pl), (1, .int (Zi i)), (2, .int (Zi li)), (3, .int (Zi lw)), (4, .int (Zi hg)), (5, .ref (P3.2.2.2.1 lv)), (6, .ref (P3.2.2.2.1 (lv + 1)))], [.int (Zi hg), .int (Zi k)])) (fun _ => rfl) ?_
    refine Z_go (f2 := (87, [(7, .int (Zi k)), (0, .ref pl), (1, .int (Zi i)), (2, .int (Zi li)), (3, .int (Zi lw)), (4, .int (Zi hg)), (5, .ref (P3.2.2.2.1 lv)), (6, .ref (P3.2.2.2.1 (lv + 1)))], [.int (Zi (-1)), .int (Zi hg), .int (Zi k)])) (fun _ => rfl) ?_
    refine Z_cne rfl rfl (by first | exact hs.zF _ _ | exact Zor_r _ _ | exact hs.zA _ _ | assumption | exact zA _ _ | exact zS _ | exact Zr_not (hs.zA _ _) | exact hs.1.1 _ _ | exact ⟨by omega, by omega⟩) (by first | exact hs.zF _ _ | exact Zor_r _ _ | exact hs.zA _ _ | assumption | exact zA _ _ | exact zS _ | exact Zr_not (hs.zA _ _) | exact hs.1.1 _ _ | exact ⟨by omega, by omega⟩) (fun y1 => ?_) (fun y1 => ?_)
    · have e9 : m9 = lw := by rw [← em]; exact if_neg (by omega)
      refine Z_go (f2 := (97, [(7, .int (Zi k)), (0, .ref pl), (1, .int (Zi i)), (2, .int (Zi li)), (3, .int (Zi lw)), (4, .int (Zi hg)), (5, .ref (P3.2.2.2.1 lv)), (6, .ref (P3.2.2.2.1 (lv + 1)))], [.int (Zi lw), .int (Zi k)])) (fun _ => rfl) ?_
      refine Z_cge rfl rfl (by first | exact hs.zF _ _ | exact Zor_r _ _ | exact hs.zA _ _ | assumption | exact zA _ _ | exact zS _ | exact Zr_not (hs.zA _ _) | exact hs.1.1 _ _ | exact ⟨by omega, by omega⟩) (by first | exact hs.zF _ _ | exact Zor_r _ _ | exact hs.zA _ _ | assumption | exact zA _ _ | exact zS _ | exact Zr_not (hs.zA _ _) | exact hs.1.1 _ _ | exact ⟨by omega, by omega⟩) (fun y2 => ?_) (fun y2 => ?_)
      · refine B_loc (K := [(0, .ref pl), (1, .int (Zi i)), (2, .int (Zi li)), (3, .int (Zi lw)), (4, .int (Zi hg)), (5, .ref (P3.2.2.2.1 lv)), (6, .ref (P3.2.2.2.1 (lv + 1)))]) (N_all_sub ⟨rfl, rfl, rfl, rfl, rfl, rfl, rfl, trivial⟩) (show ([0, 1, 2, 3, 4, 5, 6] : List Nat).Nodup by decide) ?_
        rw [show k.toNat = m9.toNat by omega] at hv
        exact ret u h sl G1 ω1 hs hp cs hv hw ot
      · exfalso; omega
    · have e9 : m9 = lw - 1 := by rw [← em]; exact if_pos (by omega)
      refine Z_go (f2 := (91, [(7, .int (Zi k)), (0, .ref pl), (1, .int (Zi i)), (2, .int (Zi li)), (3, .int (Zi lw)), (4, .int (Zi hg)), (5, .ref (P3.2.2.2.1 lv)), (6, .ref (P3.2.2.2.1 (lv + 1)))], [.int (Zi lw), .int (Zi k)])) (fun _ => rfl) ?_
      refine Z_go (f2 := (92, [(7, .int (Zi k)), (0, .ref pl), (1, .int (Zi i)), (2, .int (Zi li)), (3, .int (Zi lw)), (4, .int (Zi hg)), (5, .ref (P3.2.2.2.1 lv)), (6, .ref (P3.2.2.2.1 (lv + 1)))], [.int (Zi 1), .int (Zi lw), .int (Zi k)])) (fun _ => rfl) ?_
      refine Z_isub rfl ?_
      refine Z_go (f2 := (97, [(7, .int (Zi k)), (0, .ref pl), (1, .int (Zi i)), (2, .int (Zi li)), (3, .int (Zi lw)), (4, .int (Zi hg)), (5, .ref (P3.2.2.2.1 lv)), (6, .ref (P3.2.2.2.1 (lv + 1)))], [.int (Zi (lw - 1)), .int (Zi k)])) (fun _ => rfl) ?_
      refine Z_cge rfl rfl (by first | exact hs.zF _ _ | exact Zor_r _ _ | exact hs.zA _ _ | assumption | exact zA _ _ | exact zS _ | exact Zr_not (hs.zA _ _) | exact hs.1.1 _ _ | exact ⟨by omega, by omega⟩) (by first | exact hs.zF _ _ | exact Zor_r _ _ | exact hs.zA _ _ | assumption | exact zA _ _ | exact zS _ | exact Zr_not (hs.zA _ _) | exact hs.1.1 _ _ | exact ⟨by omega, by omega⟩) (fun y3 => ?_) (fun y3 => ?_)
      · refine B_loc (K := [(0, .ref pl), (1, .int (Zi i)), (2, .int (Zi li)), (3, .int (Zi lw)), (4, .int (Zi hg)), (5, .ref (P3.2.2.2.1 lv)), (6, .ref (P3.2.2.2.1 (lv + 1)))]) (N_all_sub ⟨rfl, rfl, rfl, rfl, rfl, rfl, rfl, trivial⟩) (show ([0, 1, 2, 3, 4, 5, 6] : List Nat).Nodup by decide) ?_
        rw [show k.toNat = m9.toNat by omega] at hv
        exact ret u h sl G1 ω1 hs hp cs hv hw ot
      · exfalso; omega
  | succ c ih =>
    intro k u h sl G1 ω1 hc k0 k2 k1 hs hp cs hv hw ot
    have zk : Zr k := ⟨by omega, by omega⟩
    obtain ⟨x9, x91, x92⟩ := hr k.toNat (by omega)
    have jk := J_ok (B := B) x92 hw9 x91 hb9 B0
    refine Z_go (f2 := (84, [(7, .int (Zi k)), (0, .ref pl), (1, .int (Zi i)), (2, .int (Zi li)), (3, .int (Zi lw)), (4, .int (Zi hg)), (5, .ref (P3.2.2.2.1 lv)), (6, .ref (P3.2.2.2.1 (lv + 1)))], [.int (Zi k)])) (fun _ => rfl) ?_
    refine Z_go (f2 := (86, [(7, .int (Zi k)), (0, .ref pl), (1, .int (Zi i)), (2, .int (Zi li)), (3, .int (Zi lw)), (4, .int (Zi hg)), (5, .ref (P3.2.2.2.1 lv)), (6, .ref (P3.2.2.2.1 (lv + 1)))], [.int (Zi hg), .int (Zi k)])) (fun _ => rfl) ?_
    refine Z_go (f2 := (87, [(7, .int (Zi k)), (0, .ref pl), (1, .int (Zi i)), (2, .int (Zi li)), (3, .int (Zi lw)), (4, .int (Zi hg)), (5, .ref (P3.2.2.2.1 lv)), (6, .ref (P3.2.2.2.1 (lv + 1)))], [.int (Zi (-1)), .int (Zi hg), .int (Zi k)])) (fun _ => rfl) ?_
    refine Z_cne rfl rfl (by first | exact hs.zF _ _ | exact Zor_r _ _ | exact hs.zA _ _ | assumption | exact zA _ _ | exact zS _ | exact Zr_not (hs.zA _ _) | exact hs.1.1 _ _ | exact ⟨by omega, by omega⟩) (by first | exact hs.zF _ _ | exact Zor_r _ _ | exact hs.zA _ _ | assumption | exact zA _ _ | exact zS _ | exact Zr_not (hs.zA _ _) | exact hs.1.1 _ _ | exact ⟨by omega, by omega⟩) (fun y1 => ?_) (fun y1 => ?_)
    · have e9 : m9 = lw := by rw [← em]; exact if_neg (by omega)
      refine Z_go (f2 := (97, [(7, .int (Zi k)), (0, .ref pl), (1, .int (Zi i)), (2, .int (Zi li)), (3, .int (Zi lw)), (4, .int (Zi hg)), (5, .ref (P3.2.2.2.1 lv)), (6, .ref (P3.2.2.2.1 (lv + 1)))], [.int (Zi lw), .int (Zi k)])) (fun _ => rfl) ?_
      refine Z_cge rfl rfl (by first | exact hs.zF _ _ | exact Zor_r _ _ | exact hs.zA _ _ | assumption | exact zA _ _ | exact zS _ | exact Zr_not (hs.zA _ _) | exact hs.1.1 _ _ | exact ⟨by omega, by omega⟩) (by first | exact hs.zF _ _ | exact Zor_r _ _ | exact hs.zA _ _ | assumption | exact zA _ _ | exact zS _ | exact Zr_not (hs.zA _ _) | exact hs.1.1 _ _ | exact ⟨by omega, by omega⟩) (fun y2 => ?_) (fun y2 => ?_)
      · exfalso; omega
      · refine Z_go (f2 := (101, [(7, .int (Zi k)), (0, .ref pl), (1, .int (Zi i)), (2, .int (Zi li)), (3, .int (Zi lw)), (4, .int (Zi hg)), (5, .ref (P3.2.2.2.1 lv)), (6, .ref (P3.2.2.2.1 (lv + 1)))], [.ref pl])) (fun _ => rfl) ?_
        refine Z_go (f2 := (103, [(7, .int (Zi k)), (0, .ref pl), (1, .int (Zi i)), (2, .int (Zi li)), (3, .int (Zi lw)), (4, .int (Zi hg)), (5, .ref (P3.2.2.2.1 lv)), (6, .ref (P3.2.2.2.1 (lv + 1)))], [.ref (P3.2.2.2.1 lv), .ref pl])) (fun _ => rfl) ?_
        refine Z_go (f2 := (105, [(7, .int (Zi k)), (0, .ref pl), (1, .int (Zi i)), (2, .int (Zi li)), (3, .int (Zi lw)), (4, .int (Zi hg)), (5, .ref (P3.2.2.2.1 lv)), (6, .ref (P3.2.2.2.1 (lv + 1)))], [.ref (P3.2.2.2.1 (lv + 1)), .ref (P3.2.2.2.1 lv), .ref pl])) (fun _ => rfl) ?_
        refine C_callV (As := [.ref (P3.2.2.2.1 lv), .ref (P3.2.2.2.1 (lv + 1))]) (rest := []) rfl (by decide) rfl (by decide) rfl rfl (by decide +kernel) (Nat.le_of_ble_eq_true rfl) hs hp.1.1.1 (C_join _ hp B0 B1 (j := lv) (k := lv + 1) (by omega) t1 (by omega) t2 (by omega) hv hw jk.1 jk.2.1 jk.2.2.1 jk.2.2.2) (fun x h v4 n4 hs q => ?_)
        obtain ⟨rfl, G5, ⟨ω5, hp, cq⟩, hv, hw, ot5⟩ := q
        have cs := cs.tr cq
        show B_R _ _ (108, [(7, .int (Zi k)), (0, .ref pl), (1, .int (Zi i)), (2, .int (Zi li)), (3, .int (Zi lw)), (4, .int (Zi hg)), (5, .ref (P3.2.2.2.1 lv)), (6, .ref (P3.2.2.2.1 (lv + 1)))], []) _ _ _
        refine Z_iinc (L2 := [(7, .int (Zi (k + 1))), (0, .ref pl), (1, .int (Zi i)), (2, .int (Zi li)), (3, .int (Zi lw)), (4, .int (Zi hg)), (5, .ref (P3.2.2.2.1 lv)), (6, .ref (P3.2.2.2.1 (lv + 1)))]) rfl rfl (by decide) rfl ?_
        refine Z_go (f2 := (82, [(7, .int (Zi (k + 1))), (0, .ref pl), (1, .int (Zi i)), (2, .int (Zi li)), (3, .int (Zi lw)), (4, .int (Zi hg)), (5, .ref (P3.2.2.2.1 lv)), (6, .ref (P3.2.2.2.1 (lv + 1)))], [])) (fun _ => rfl) ?_
        refine B_loc (K := [(7, .int (Zi (k + 1))), (0, .ref pl), (1, .int (Zi i)), (2, .int (Zi li)), (3, .int (Zi lw)), (4, .int (Zi hg)), (5, .ref (P3.2.2.2.1 lv)), (6, .ref (P3.2.2.2.1 (lv + 1)))]) (N_all_sub ⟨rfl, rfl, rfl, rfl, rfl, rfl, rfl, rfl, trivial⟩) (show ([7, 0, 1, 2, 3, 4, 5, 6] : List Nat).Nodup by decide) ?_
        refine ih (k + 1) v4 h _ G5 _ (by omega) (by omega) (by omega) (by omega) hs hp cs ?_ hw (fun j h1 h2 => (ot j h1 h2).tr (ot5 j h1 h2))
        rw [show (k + 1).toNat = k.toNat + 1 by omega]
        exact hv
    · have e9 : m9 = lw - 1 := by rw [← em]; exact if_pos (by omega)
      refine Z_go (f2 := (91, [(7, .int (Zi k)), (0, .ref pl), (1, .int (Zi i)), (2, .int (Zi li)), (3, .int (Zi lw)), (4, .int (Zi hg)), (5, .ref (P3.2.2.2.1 lv)), (6, .ref (P3.2.2.2.1 (lv + 1)))], [.int (Zi lw), .int (Zi k)])) (fun _ => rfl) ?_
      refine Z_go (f2 := (92, [(7, .int (Zi k)), (0, .ref pl), (1, .int (Zi i)), (2, .int (Zi li)), (3, .int (Zi lw)), (4, .int (Zi hg)), (5, .ref (P3.2.2.2.1 lv)), (6, .ref (P3.2.2.2.1 (lv + 1)))], [.int (Zi 1), .int (Zi lw), .int (Zi k)])) (fun _ => rfl) ?_
      refine Z_isub rfl ?_
      refine Z_go (f2 := (97, [(7, .int (Zi k)), (0, .ref pl), (1, .int (Zi i)), (2, .int (Zi li)), (3, .int (Zi lw)), (4, .int (Zi hg)), (5, .ref (P3.2.2.2.1 lv)), (6, .ref (P3.2.2.2.1 (lv + 1)))], [.int (Zi (lw - 1)), .int (Zi k)])) (fun _ => rfl) ?_
      refine Z_cge rfl rfl (by first | exact hs.zF _ _ | exact Zor_r _ _ | exact hs.zA _ _ | assumption | exact zA _ _ | exact zS _ | exact Zr_not (hs.zA _ _) | exact hs.1.1 _ _ | exact ⟨by omega, by omega⟩) (by first | exact hs.zF _ _ | exact Zor_r _ _ | exact hs.zA _ _ | assumption | exact zA _ _ | exact zS _ | exact Zr_not (hs.zA _ _) | exact hs.1.1 _ _ | exact ⟨by omega, by omega⟩) (fun y3 => ?_) (fun y3 => ?_)
      · exfalso; omega
      · refine Z_go (f2 := (101, [(7, .int (Zi k)), (0, .ref pl), (1, .int (Zi i)), (2, .int (Zi li)), (3, .int (Zi lw)), (4, .int (Zi hg)), (5, .ref (P3.2.2.2.1 lv)), (6, .ref (P3.2.2.2.1 (lv + 1)))], [.ref pl])) (fun _ => rfl) ?_
        refine Z_go (f2 := (103, [(7, .int (Zi k)), (0, .ref pl), (1, .int (Zi i)), (2, .int (Zi li)), (3, .int (Zi lw)), (4, .int (Zi hg)), (5, .ref (P3.2.2.2.1 lv)), (6, .ref (P3.2.2.2.1 (lv + 1)))], [.ref (P3.2.2.2.1 lv), .ref pl])) (fun _ => rfl) ?_
        refine Z_go (f2 := (105, [(7, .int (Zi k)), (0, .ref pl), (1, .int (Zi i)), (2, .int (Zi li)), (3, .int (Zi lw)), (4, .int (Zi hg)), (5, .ref (P3.2.2.2.1 lv)), (6, .ref (P3.2.2.2.1 (lv + 1)))], [.ref (P3.2.2.2.1 (lv + 1)), .ref (P3.2.2.2.1 lv), .ref pl])) (fun _ => rfl) ?_
        refine C_callV (As := [.ref (P3.2.2.2.1 lv), .ref (P3.2.2.2.1 (lv + 1))]) (rest := []) rfl (by decide) rfl (by decide) rfl rfl (by decide +kernel) (Nat.le_of_ble_eq_true rfl) hs hp.1.1.1 (C_join _ hp B0 B1 (j := lv) (k := lv + 1) (by omega) t1 (by omega) t2 (by omega) hv hw jk.1 jk.2.1 jk.2.2.1 jk.2.2.2) (fun x h v4 n4 hs q => ?_)
        obtain ⟨rfl, G5, ⟨ω5, hp, cq⟩, hv, hw, ot5⟩ := q
        have cs := cs.tr cq
        show B_R _ _ (108, [(7, .int (Zi k)), (0, .ref pl), (1, .int (Zi i)), (2, .int (Zi li)), (3, .int (Zi lw)), (4, .int (Zi hg)), (5, .ref (P3.2.2.2.1 lv)), (6, .ref (P3.2.2.2.1 (lv + 1)))], []) _ _ _
        refine Z_iinc (L2 := [(7, .int (Zi (k + 1))), (0, .ref pl), (1, .int (Zi i)), (2, .int (Zi li)), (3, .int (Zi lw)), (4, .int (Zi hg)), (5, .ref (P3.2.2.2.1 lv)), (6, .ref (P3.2.2.2.1 (lv + 1)))]) rfl rfl (by decide) rfl ?_
        refine Z_go (f2 := (82, [(7, .int (Zi (k + 1))), (0, .ref pl), (1, .int (Zi i)), (2, .int (Zi li)), (3, .int (Zi lw)), (4, .int (Zi hg)), (5, .ref (P3.2.2.2.1 lv)), (6, .ref (P3.2.2.2.1 (lv + 1)))], [])) (fun _ => rfl) ?_
        refine B_loc (K := [(7, .int (Zi (k + 1))), (0, .ref pl), (1, .int (Zi i)), (2, .int (Zi li)), (3, .int (Zi lw)), (4, .int (Zi hg)), (5, .ref (P3.2.2.2.1 lv)), (6, .ref (P3.2.2.2.1 (lv + 1)))]) (N_all_sub ⟨rfl, rfl, rfl, rfl, rfl, rfl, rfl, rfl, trivial⟩) (show ([7, 0, 1, 2, 3, 4, 5, 6] : List Nat).Nodup by decide) ?_
        refine ih (k + 1) v4 h _ G5 _ (by omega) (by omega) (by omega) (by omega) hs hp cs ?_ hw (fun j h1 h2 => (ot j h1 h2).tr (ot5 j h1 h2))
        rw [show (k + 1).toNat = k.toNat + 1 by omega]
        exact hv
theorem C_wr2 {d : Nat} {h0 : E_H} {s : C_S} {Φ : E_R → Prop} {pp : List Nat} {pl tr B : Nat} {G : G_t} {P3 : G_p} {ω : Nat → Nat} {lv : Nat} {i li lw hg : Int} {v w : P_V} (B0 : 1280 ≤ B) (B1 : B ≤ 20000) (hlv : lv ≤ 36) (t1 : P3.2.2.2.2.1 lv = true) (t2 : P3.2.2.2.2.1 (lv + 1) = true) {b9 : Int} (hw9 : V_ok w b9) (hb9 : b9 ≤ 80) (hr : ∀ j : Nat, lw + j < hg → ∃ x, x ≤ 80 ∧ V_ok (V_rep (V_rep V_nil v lw.toNat) w j) x) (lw0 : 0 ≤ lw) (lw1 : lw ≤ 20) (hg0 : -1 ≤ hg) (hg1 : hg ≤ 20) (lh : lw ≤ hg) (ret : ∀ (u : C_S) (h : E_H) (sl : Nat) (G1 : G_t) (ω1 : Nat → Nat), C_is h0 h u → D_Pl u pp pl tr B G1 P3 ω1 → D_cs pp s u ω ω1 sl → D_pv B G1 lv (V_rep (V_rep V_nil v lw.toNat) w (hg - lw).toNat) → D_pv B G1 (lv + 1) w → (∀ j, j ≠ lv → j ≠ lv + 1 → G_oth j G G1) → B_R (d + 9) E_m63 (183, [(0, .ref pl), (1, .int (Zi i)), (2, .int (Zi li)), (3, .int (Zi lw)), (4, .int (Zi hg)), (5, .ref (P3.2.2.2.1 lv)), (6, .ref (P3.2.2.2.1 (lv + 1)))], []) h sl Φ) : ∀ (c : Nat) (k : Int) (u : C_S) (h : E_H) (sl : Nat) (G1 : G_t) (ω1 : Nat → Nat), c = (hg - k).toNat → lw ≤ k → k ≤ 20 → (k ≤ hg ∨ k = lw) → C_is h0 h u → D_Pl u pp pl tr B G1 P3 ω1 → D_cs pp s u ω ω1 sl → D_pv B G1 lv (V_rep (V_rep V_nil v lw.toNat) w (k - lw).toNat) → D_pv B G1 (lv + 1) w → (∀ j, j ≠ lv → j ≠ lv + 1 → G_oth j G G1) → B_R (d + 9) E_m63 (162, [(7, .int (Zi k)), (0, .ref pl), (1, .int (Zi i)), (2, .int (Zi li)), (3, .int (Zi lw)), (4, .int (Zi hg)), (5, .ref (P3.2.2.2.1 lv)), (6, .ref (P3.2.2.2.1 (lv + 1)))], []) h sl Φ := by
  intro c
  have zlw : Zr lw := ⟨by omega, by omega⟩
  have zhg : Zr hg := ⟨by omega, by omega⟩
  induction c with
  | zero =>
    intro k u h sl G1 ω1 hc k0 k2 k1 hs hp cs hv hw ot
    have zk : Zr k := ⟨by omega, by omega⟩
    refine Z_go (f2 := (164, [(7, .int (Zi k)), (0, .ref pl), (1, .int (Zi i)), (2, .int (Zi li)), (3, .int (Zi lw)), (4, .int (Zi hg)), (5, .ref (P3.2.2.2.1 lv)), (6, .ref (P3.2.2.2.1 (lv + 1)))], [.int (Zi k)])) (fun _ => rfl) ?_
    refine Z_go (f2 := (166, [(7, .int (Zi k)), (0, .ref pl), (1, .int (Zi i)), (2, .int (Zi li)), (3, .int (Zi lw)), (4, .int (Zi hg)), (5, .ref (P3.2.2.2.1 lv)), (6, .ref (P3.2.2.2.1 (lv + 1)))], [.int (Zi hg), .int (Zi k)])) (fun _ => rfl) ?_
    refine Z_cge rfl rfl (by first | exact hs.zF _ _ | exact Zor_r _ _ | exact hs.zA _ _ | assumption | exact zA _ _ | exact zS _ | exact Zr_not (hs.zA _ _) | exact hs.1.1 _ _ | exact ⟨by omega, by omega⟩) (by first | exact hs.zF _ _ | exact Zor_r _ _ | exact hs.zA _ _ | assumption | exact zA _ _ | exact zS _ | exact Zr_not (hs.zA _ _) | exact hs.1.1 _ _ | exact ⟨by omega, by omega⟩) (fun y1 => ?_) (fun y1 => ?_)
    · refine B_loc (K := [(0, .ref pl), (1, .int (Zi i)), (2, .int (Zi li)), (3, .int (Zi lw)), (4, .int (Zi hg)), (5, .ref (P3.2.2.2.1 lv)), (6, .ref (P3.2.2.2.1 (lv + 1)))]) (N_all_sub ⟨rfl, rfl, rfl, rfl, rfl, rfl, rfl, trivial⟩) (show ([0, 1, 2, 3, 4, 5, 6] : List Nat).Nodup by decide) ?_
      rw [show (k - lw).toNat = (hg - lw).toNat by omega] at hv
      exact ret u h sl G1 ω1 hs hp cs hv hw ot
    · exfalso; omega
  | succ c ih =>
    intro k u h sl G1 ω1 hc k0 k2 k1 hs hp cs hv hw ot
    have zk : Zr k := ⟨by omega, by omega⟩
    obtain ⟨x9, x91, x92⟩ := hr (k - lw).toNat (by omega)
    have jk := J_ok (B := B) x92 hw9 x91 hb9 B0
    refine Z_go (f2 := (164, [(7, .int (Zi k)), (0, .ref pl), (1, .int (Zi i)), (2, .int (Zi li)), (3, .int (Zi lw)), (4, .int (Zi hg)), (5, .ref (P3.2.2.2.1 lv)), (6, .ref (P3.2.2.2.1 (lv + 1)))], [.int (Zi k)])) (fun _ => rfl) ?_
    refine Z_go (f2 := (166, [(7, .int (Zi k)), (0, .ref pl), (1, .int (Zi i)), (2, .int (Zi li)), (3, .int (Zi lw)), (4, .int (Zi hg)), (5, .ref (P3.2.2.2.1 lv)), (6, .ref (P3.2.2.2.1 (lv + 1)))], [.int (Zi hg), .int (Zi k)])) (fun _ => rfl) ?_
    refine Z_cge rfl rfl (by first | exact hs.zF _ _ | exact Zor_r _ _ | exact hs.zA _ _ | assumption | exact zA _ _ | exact zS _ | exact Zr_not (hs.zA _ _) | exact hs.1.1 _ _ | exact ⟨by omega, by omega⟩) (by first | exact hs.zF _ _ | exact Zor_r _ _ | exact hs.zA _ _ | assumption | exact zA _ _ | exact zS _ | exact Zr_not (hs.zA _ _) | exact hs.1.1 _ _ | exact ⟨by omega, by omega⟩) (fun y1 => ?_) (fun y1 => ?_)
    · exfalso; omega
    · refine Z_go (f2 := (170, [(7, .int (Zi k)), (0, .ref pl), (1, .int (Zi i)), (2, .int (Zi li)), (3, .int (Zi lw)), (4, .int (Zi hg)), (5, .ref (P3.2.2.2.1 lv)), (6, .ref (P3.2.2.2.1 (lv + 1)))], [.ref pl])) (fun _ => rfl) ?_
      refine Z_go (f2 := (172, [(7, .int (Zi k)), (0, .ref pl), (1, .int (Zi i)), (2, .int (Zi li)), (3, .int (Zi lw)), (4, .int (Zi hg)), (5, .ref (P3.2.2.2.1 lv)), (6, .ref (P3.2.2.2.1 (lv + 1)))], [.ref (P3.2.2.2.1 lv), .ref pl])) (fun _ => rfl) ?_
      refine Z_go (f2 := (174, [(7, .int (Zi k)), (0, .ref pl), (1, .int (Zi i)), (2, .int (Zi li)), (3, .int (Zi lw)), (4, .int (Zi hg)), (5, .ref (P3.2.2.2.1 lv)), (6, .ref (P3.2.2.2.1 (lv + 1)))], [.ref (P3.2.2.2.1 (lv + 1)), .ref (P3.2.2.2.1 lv), .ref pl])) (fun _ => rfl) ?_
      refine C_callV (As := [.ref (P3.2.2.2.1 lv), .ref (P3.2.2.2.1 (lv + 1))]) (rest := []) rfl (by decide) rfl (by decide) rfl rfl (by decide +kernel) (Nat.le_of_ble_eq_true rfl) hs hp.1.1.1 (C_join _ hp B0 B1 (j := lv) (k := lv + 1) (by omega) t1 (by omega) t2 (by omega) hv hw jk.1 jk.2.1 jk.2.2.1 jk.2.2.2) (fun x h v4 n4 hs q => ?_)
      obtain ⟨rfl, G5, ⟨ω5, hp, cq⟩, hv, hw, ot5⟩ := q
      have cs := cs.tr cq
      show B_R _ _ (177, [(7, .int (Zi k)), (0, .ref pl), (1, .int (Zi i)), (2, .int (Zi li)), (3, .int (Zi lw)), (4, .int (Zi hg)), (5, .ref (P3.2.2.2.1 lv)), (6, .ref (P3.2.2.2.1 (lv + 1)))], []) _ _ _
      refine Z_iinc (L2 := [(7, .int (Zi (k + 1))), (0, .ref pl), (1, .int (Zi i)), (2, .int (Zi li)), (3, .int (Zi lw)), (4, .int (Zi hg)), (5, .ref (P3.2.2.2.1 lv)), (6, .ref (P3.2.2.2.1 (lv + 1)))]) rfl rfl (by decide) rfl ?_
      refine Z_go (f2 := (162, [(7, .int (Zi (k + 1))), (0, .ref pl), (1, .int (Zi i)), (2, .int (Zi li)), (3, .int (Zi lw)), (4, .int (Zi hg)), (5, .ref (P3.2.2.2.1 lv)), (6, .ref (P3.2.2.2.1 (lv + 1)))], [])) (fun _ => rfl) ?_
      refine B_loc (K := [(7, .int (Zi (k + 1))), (0, .ref pl), (1, .int (Zi i)), (2, .int (Zi li)), (3, .int (Zi lw)), (4, .int (Zi hg)), (5, .ref (P3.2.2.2.1 lv)), (6, .ref (P3.2.2.2.1 (lv + 1)))]) (N_all_sub ⟨rfl, rfl, rfl, rfl, rfl, rfl, rfl, rfl, trivial⟩) (show ([7, 0, 1, 2, 3, 4, 5, 6] : List Nat).Nodup by decide) ?_
      refine ih (k + 1) v4 h _ G5 _ (by omega) (by omega) (by omega) (by omega) hs hp cs ?_ hw (fun j h1 h2 => (ot j h1 h2).tr (ot5 j h1 h2))
      rw [show (k + 1 - lw).toNat = (k - lw).toNat + 1 by omega]
      exact hv
theorem C_wrep (d : Nat) {s : C_S} {pp : List Nat} {pl tr B : Nat} {G : G_t} {P : G_p} {ω : Nat → Nat} {p2 : List Nat} {A2 : Nat → Nat} {m2 sm : Int} {τ : Nat → Int → Int} {β : Int → Int64} {lo hi i li : Int} {lv dd : Nat} {na nb x9 : Int} {tt : P_T} {op a b : Int} (hB : W_BN (d + 9) dd) (hp : D_Pl s pp pl tr B G P ω) (B0 : 1280 ≤ B) (B1 : B ≤ 20000) (htr : D_Tr s p2 tr A2 m2 sm τ β) (np : ¬ pp <+: p2) (hn0 : D_pv B G 38 V_nil) (hn : N_is τ (T_has β) sm dd 0 na nb x9 tt) (n0 : 0 ≤ na) (n1 : nb ≤ 168) (nk : τ 0 x9 ≠ 2) (hdep : 4 * (lv : Int) + 3 * (dd : Int) ≤ 143) (el : li = (lv : Int)) (zi : Zr i) (hc : T_cok op a b) (e1 : T_g τ 1 i = x9) (e5 : T_g τ 5 i = (N_lh op a b).1) (e6 : T_g τ 6 i = (N_lh op a b).2) (hby : T_by tt + C_by op a b ≤ 80) : C_ok (d + 10) 63 [.ref pl, .int (Zi i), .int (Zi li)] s (fun x s2 n => W_ps pp pl tr B s P G ω lv (V_cnt (P_plan tt) op a b) x s2 n) := by
  refine C_enter (M := E_m63) rfl (Nat.le_of_ble_eq_true rfl) (fun h0 h hs => ?_)
  show B_R (d + 9) _ (0, [(0, .ref pl), (1, .int (Zi i)), (2, .int (Zi li))], []) _ _ _
  have cs := D_cs.refl pp s ω
  have sw := hs.1
  have hlv : lv ≤ 35 := by
    have : 1 ≤ (dd : Int) := by
      cases dd with
      | zero => exact False.elim hn
      | succ _ => omega
    omega
  have zli : Zr li := ⟨by omega, by omega⟩
  have htt := N_is.is _ _ _ _ _ _ hn
  have hbp := T_by_pos htt
  have nr := N_is.r hn
  have zx : Zr x9 := ⟨by omega, by omega⟩
  have hb80 : T_by tt ≤ 80 := by
    have := C_by_pos op a b
    omega
  have hok := P_plan_ok htt hb80
  have hfx := V_fix_plan htt
  have hze := V_ze_plan htt
  obtain ⟨q1_, q2_, q3_, q4_⟩ := W_cnt_b hok hc hby
  have hcv := V_cnt_c hok hfx hze hc
  have hrg : 0 ≤ (N_lh op a b).1 ∧ (N_lh op a b).1 ≤ 20 ∧ ((N_lh op a b).2 = -1 ∨ (N_lh op a b).1 ≤ (N_lh op a b).2 ∧ (N_lh op a b).2 ≤ 20) := by
    have := T_cnt_b hc (X := 0) (by omega)
    exact ⟨this.1, this.2.1, this.2.2.1⟩
  rw [hcv]
  generalize (N_lh op a b).1 = lw at *
  generalize (N_lh op a b).2 = hg at *
  obtain ⟨lw0, lw1, hgr⟩ := hrg
  have zlw : Zr lw := ⟨by omega, by omega⟩
  have zhg : Zr hg := ⟨by omega, by omega⟩
  have th380 : P.2.2.2.2.1 38 = true := hp.1.2.2.2.2
  refine Z_go (f2 := (1, [(0, .ref pl), (1, .int (Zi i)), (2, .int (Zi li))], [.ref pl])) (fun _ => rfl) ?_
  refine C_gr rfl hs hp.1.1.1 (by decide) (Nat.le_of_ble_eq_true rfl) rfl hp.1.1.2.2.1 ?_
  refine Z_go (f2 := (5, [(0, .ref pl), (1, .int (Zi i)), (2, .int (Zi li))], [.int (Zi i), .ref tr])) (fun _ => rfl) ?_
  refine C_callVR (As := [.int (Zi i)]) (rest := []) rfl (by decide) rfl (by decide) rfl rfl (by decide +kernel) (Nat.le_of_ble_eq_true rfl) hs htr.1.1 (C_t5 _ htr (i := i) zi) (fun x q => ?_)
  obtain rfl := q
  rw [e5]
  show B_R _ _ (8, [(0, .ref pl), (1, .int (Zi i)), (2, .int (Zi li))], [.int (Zi lw)]) _ _ _
  refine Z_go (f2 := (9, [(3, .int (Zi lw)), (0, .ref pl), (1, .int (Zi i)), (2, .int (Zi li))], [])) (fun _ => rfl) ?_
  refine Z_go (f2 := (10, [(3, .int (Zi lw)), (0, .ref pl), (1, .int (Zi i)), (2, .int (Zi li))], [.ref pl])) (fun _ => rfl) ?_
  refine C_gr rfl hs hp.1.1.1 (by decide) (Nat.le_of_ble_eq_true rfl) rfl hp.1.1.2.2.1 ?_
  refine Z_go (f2 := (14, [(3, .int (Zi lw)), (0, .ref pl), (1, .int (Zi i)), (2, .int (Zi li))], [.int (Zi i), .ref tr])) (fun _ => rfl) ?_
  refine C_callVR (As := [.int (Zi i)]) (rest := []) rfl (by decide) rfl (by decide) rfl rfl (by decide +kernel) (Nat.le_of_ble_eq_true rfl) hs htr.1.1 (C_t6 _ htr (i := i) zi) (fun x q => ?_)
  obtain rfl := q
  rw [e6]
  show B_R _ _ (17, [(3, .int (Zi lw)), (0, .ref pl), (1, .int (Zi i)), (2, .int (Zi li))], [.int (Zi hg)]) _ _ _
  refine Z_go (f2 := (19, [(4, .int (Zi hg)), (3, .int (Zi lw)), (0, .ref pl), (1, .int (Zi i)), (2, .int (Zi li))], [])) (fun _ => rfl) ?_
  refine Z_go (f2 := (20, [(4, .int (Zi hg)), (3, .int (Zi lw)), (0, .ref pl), (1, .int (Zi i)), (2, .int (Zi li))], [.ref pl])) (fun _ => rfl) ?_
  refine Z_go (f2 := (21, [(4, .int (Zi hg)), (3, .int (Zi lw)), (0, .ref pl), (1, .int (Zi i)), (2, .int (Zi li))], [.int (Zi li), .ref pl])) (fun _ => rfl) ?_
  refine C_callV (As := [.int (Zi li)]) (rest := []) rfl (by decide) rfl (by decide) rfl rfl (by decide +kernel) (Nat.le_of_ble_eq_true rfl) hs hp.1.1.1 (C_prt _ hp B0 B1 (l := lv) (by omega) el) (fun x h v1 n1 hs q => ?_)
  obtain ⟨P1, G1, ω1, rfl, hp, cq, le1, th1, ot1⟩ := q
  have cs := cs.tr cq
  have hn0 := hn0.congr (ot1 38 th380)
  have th381 := (le1.2.2.2.1 38 (by omega) th380).1
  show B_R _ _ (24, [(4, .int (Zi hg)), (3, .int (Zi lw)), (0, .ref pl), (1, .int (Zi i)), (2, .int (Zi li))], [.ref (P1.2.2.2.1 lv)]) _ _ _
  refine Z_go (f2 := (26, [(5, .ref (P1.2.2.2.1 lv)), (4, .int (Zi hg)), (3, .int (Zi lw)), (0, .ref pl), (1, .int (Zi i)), (2, .int (Zi li))], [])) (fun _ => rfl) ?_
  refine Z_go (f2 := (27, [(5, .ref (P1.2.2.2.1 lv)), (4, .int (Zi hg)), (3, .int (Zi lw)), (0, .ref pl), (1, .int (Zi i)), (2, .int (Zi li))], [.ref pl])) (fun _ => rfl) ?_
  refine Z_go (f2 := (28, [(5, .ref (P1.2.2.2.1 lv)), (4, .int (Zi hg)), (3, .int (Zi lw)), (0, .ref pl), (1, .int (Zi i)), (2, .int (Zi li))], [.int (Zi li), .ref pl])) (fun _ => rfl) ?_
  refine Z_go (f2 := (29, [(5, .ref (P1.2.2.2.1 lv)), (4, .int (Zi hg)), (3, .int (Zi lw)), (0, .ref pl), (1, .int (Zi i)), (2, .int (Zi li))], [.int (Zi 1), .int (Zi li), .ref pl])) (fun _ => rfl) ?_
  refine Z_iadd rfl ?_
  refine C_callV (As := [.int (Zi (li + 1))]) (rest := []) rfl (by decide) rfl (by decide) rfl rfl (by decide +kernel) (Nat.le_of_ble_eq_true rfl) hs hp.1.1.1 (C_prt _ hp B0 B1 (l := lv + 1) (lv := li + 1) (by omega) (by omega)) (fun x h v2 n2 hs q => ?_)
  obtain ⟨P2, G2, ω2, rfl, hp, cq, le2, th2, ot2⟩ := q
  have cs := cs.tr cq
  have hpe := le2.2.2.2.1 lv (by omega) th1
  have hn0 := hn0.congr (ot2 38 th381)
  have th382 := (le2.2.2.2.1 38 (by omega) th381).1
  have htv := htr.fr sw cs.2.2 np
  have otb : ∀ j, j < lv → P.2.2.2.2.1 j = true → G_oth j G G2 := fun j hj hTj => (ot1 j hTj).tr (ot2 j (le1.2.2.2.1 j (by omega) hTj).1)
  have leb := le1.tr le2
  show B_R _ _ (33, [(5, .ref (P1.2.2.2.1 lv)), (4, .int (Zi hg)), (3, .int (Zi lw)), (0, .ref pl), (1, .int (Zi i)), (2, .int (Zi li))], [.ref (P2.2.2.2.1 (lv + 1))]) _ _ _
  rw [← hpe.2]
  show B_R _ _ (33, [(5, .ref (P2.2.2.2.1 lv)), (4, .int (Zi hg)), (3, .int (Zi lw)), (0, .ref pl), (1, .int (Zi i)), (2, .int (Zi li))], [.ref (P2.2.2.2.1 (lv + 1))]) _ _ _
  refine Z_go (f2 := (35, [(6, .ref (P2.2.2.2.1 (lv + 1))), (5, .ref (P2.2.2.2.1 lv)), (4, .int (Zi hg)), (3, .int (Zi lw)), (0, .ref pl), (1, .int (Zi i)), (2, .int (Zi li))], [])) (fun _ => rfl) ?_
  refine Z_go (f2 := (36, [(6, .ref (P2.2.2.2.1 (lv + 1))), (5, .ref (P2.2.2.2.1 lv)), (4, .int (Zi hg)), (3, .int (Zi lw)), (0, .ref pl), (1, .int (Zi i)), (2, .int (Zi li))], [.int (Zi lw)])) (fun _ => rfl) ?_
  refine Z_ine rfl rfl (by first | exact hs.zF _ _ | exact Zor_r _ _ | exact hs.zA _ _ | assumption | exact zA _ _ | exact zS _ | exact Zr_not (hs.zA _ _) | exact hs.1.1 _ _ | exact ⟨by omega, by omega⟩) (fun y1 => ?_) (fun y1 => ?_)
  · refine Z_go (f2 := (53, [(6, .ref (P2.2.2.2.1 (lv + 1))), (5, .ref (P2.2.2.2.1 lv)), (4, .int (Zi hg)), (3, .int (Zi lw)), (0, .ref pl), (1, .int (Zi i)), (2, .int (Zi li))], [.ref pl])) (fun _ => rfl) ?_
    refine Z_go (f2 := (55, [(6, .ref (P2.2.2.2.1 (lv + 1))), (5, .ref (P2.2.2.2.1 lv)), (4, .int (Zi hg)), (3, .int (Zi lw)), (0, .ref pl), (1, .int (Zi i)), (2, .int (Zi li))], [.ref (P2.2.2.2.1 lv), .ref pl])) (fun _ => rfl) ?_
    refine C_callV (As := [.ref (P2.2.2.2.1 lv)]) (rest := []) rfl (by decide) rfl (by decide) rfl rfl (by decide +kernel) (Nat.le_of_ble_eq_true rfl) hs hp.1.1.1 (C_nil _ hp B0 B1 (j := lv) (by omega) hpe.1) (fun x h v3 n3 hs q => ?_)
    obtain ⟨rfl, G3, ⟨ω3, hp, cq⟩, hv, ot3⟩ := q
    have cs := cs.tr cq
    have hn0 := hn0.congr (ot3 38 (by omega))
    have htv := htr.fr sw cs.2.2 np
    have otb : ∀ j, j < lv → P.2.2.2.2.1 j = true → G_oth j G G3 := fun j hj hTj => (otb j hj hTj).tr (ot3 j (by omega))
    show B_R _ _ (58, [(6, .ref (P2.2.2.2.1 (lv + 1))), (5, .ref (P2.2.2.2.1 lv)), (4, .int (Zi hg)), (3, .int (Zi lw)), (0, .ref pl), (1, .int (Zi i)), (2, .int (Zi li))], []) _ _ _
    refine Z_go (f2 := (60, [(6, .ref (P2.2.2.2.1 (lv + 1))), (5, .ref (P2.2.2.2.1 lv)), (4, .int (Zi hg)), (3, .int (Zi lw)), (0, .ref pl), (1, .int (Zi i)), (2, .int (Zi li))], [.int (Zi hg)])) (fun _ => rfl) ?_
    refine Z_ine rfl rfl (by first | exact hs.zF _ _ | exact Zor_r _ _ | exact hs.zA _ _ | assumption | exact zA _ _ | exact zS _ | exact Zr_not (hs.zA _ _) | exact hs.1.1 _ _ | exact ⟨by omega, by omega⟩) (fun y2 => ?_) (fun y2 => ?_)
    · refine Z_go (f2 := (65, [(6, .ref (P2.2.2.2.1 (lv + 1))), (5, .ref (P2.2.2.2.1 lv)), (4, .int (Zi hg)), (3, .int (Zi lw)), (0, .ref pl), (1, .int (Zi i)), (2, .int (Zi li))], [.ref pl])) (fun _ => rfl) ?_
      refine Z_go (f2 := (66, [(6, .ref (P2.2.2.2.1 (lv + 1))), (5, .ref (P2.2.2.2.1 lv)), (4, .int (Zi hg)), (3, .int (Zi lw)), (0, .ref pl), (1, .int (Zi i)), (2, .int (Zi li))], [.ref pl, .ref pl])) (fun _ => rfl) ?_
      refine C_gr rfl hs hp.1.1.1 (by decide) (Nat.le_of_ble_eq_true rfl) rfl hp.1.1.2.2.1 ?_
      refine Z_go (f2 := (70, [(6, .ref (P2.2.2.2.1 (lv + 1))), (5, .ref (P2.2.2.2.1 lv)), (4, .int (Zi hg)), (3, .int (Zi lw)), (0, .ref pl), (1, .int (Zi i)), (2, .int (Zi li))], [.int (Zi i), .ref tr, .ref pl])) (fun _ => rfl) ?_
      refine C_callVR (As := [.int (Zi i)]) (rest := [.ref pl]) rfl (by decide) rfl (by decide) rfl rfl (by decide +kernel) (Nat.le_of_ble_eq_true rfl) hs htv.1.1 (C_t1 _ htv (i := i) zi) (fun x q => ?_)
      obtain rfl := q
      rw [e1]
      show B_R _ _ (73, [(6, .ref (P2.2.2.2.1 (lv + 1))), (5, .ref (P2.2.2.2.1 lv)), (4, .int (Zi hg)), (3, .int (Zi lw)), (0, .ref pl), (1, .int (Zi i)), (2, .int (Zi li))], [.int (Zi x9), .ref pl]) _ _ _
      refine Z_go (f2 := (74, [(6, .ref (P2.2.2.2.1 (lv + 1))), (5, .ref (P2.2.2.2.1 lv)), (4, .int (Zi hg)), (3, .int (Zi lw)), (0, .ref pl), (1, .int (Zi i)), (2, .int (Zi li))], [.int (Zi li), .int (Zi x9), .ref pl])) (fun _ => rfl) ?_
      refine Z_go (f2 := (75, [(6, .ref (P2.2.2.2.1 (lv + 1))), (5, .ref (P2.2.2.2.1 lv)), (4, .int (Zi hg)), (3, .int (Zi lw)), (0, .ref pl), (1, .int (Zi i)), (2, .int (Zi li))], [.int (Zi 1), .int (Zi li), .int (Zi x9), .ref pl])) (fun _ => rfl) ?_
      refine Z_iadd rfl ?_
      refine C_callV (As := [.int (Zi x9), .int (Zi (li + 1))]) (rest := []) rfl (by decide) rfl (by decide) rfl rfl (by decide +kernel) (Nat.le_of_ble_eq_true rfl) hs hp.1.1.1 (hB v3 pp pl tr B G3 P2 ω3 p2 A2 m2 sm τ β 0 na nb x9 tt (lv + 1) (li + 1) hp B0 B1 htv np hn0 hn (by omega) (by omega) (by omega) (by rw [if_neg (by omega), if_neg (by omega), if_neg nk]; omega) (by omega) (by omega)) (fun x h v4 n4 hs q => ?_)
      obtain ⟨rfl, P3, G4, ω4, hp, cq, le3, th3, hw, hn0, ot4⟩ := q
      have cs := cs.tr cq
      have hpe1 := le3.2.2.2.1 lv (by omega) hpe.1
      have hpe2 := le3.2.2.2.1 (lv + 1) (by omega) th2
      have hv := hv.congr (ot4 lv (by omega) hpe.1)
      have htv := htr.fr sw cs.2.2 np
      have otb : ∀ j, j < lv → P.2.2.2.2.1 j = true → G_oth j G G4 := fun j hj hTj => (otb j hj hTj).tr (ot4 j (by omega) (leb.2.2.2.1 j (by omega) hTj).1)
      have leb := leb.tr le3
      show B_R _ _ (79, [(6, .ref (P2.2.2.2.1 (lv + 1))), (5, .ref (P2.2.2.2.1 lv)), (4, .int (Zi hg)), (3, .int (Zi lw)), (0, .ref pl), (1, .int (Zi i)), (2, .int (Zi li))], []) _ _ _
      rw [← hpe1.2]
      show B_R _ _ (79, [(6, .ref (P2.2.2.2.1 (lv + 1))), (5, .ref (P3.2.2.2.1 lv)), (4, .int (Zi hg)), (3, .int (Zi lw)), (0, .ref pl), (1, .int (Zi i)), (2, .int (Zi li))], []) _ _ _
      refine Z_go (f2 := (80, [(6, .ref (P2.2.2.2.1 (lv + 1))), (5, .ref (P3.2.2.2.1 lv)), (4, .int (Zi hg)), (3, .int (Zi lw)), (0, .ref pl), (1, .int (Zi i)), (2, .int (Zi li))], [.int (Zi 0)])) (fun _ => rfl) ?_
      rw [← hpe2.2]
      show B_R _ _ (80, [(6, .ref (P3.2.2.2.1 (lv + 1))), (5, .ref (P3.2.2.2.1 lv)), (4, .int (Zi hg)), (3, .int (Zi lw)), (0, .ref pl), (1, .int (Zi i)), (2, .int (Zi li))], [.int (Zi 0)]) _ _ _
      refine Z_go (f2 := (82, [(7, .int (Zi 0)), (6, .ref (P3.2.2.2.1 (lv + 1))), (5, .ref (P3.2.2.2.1 lv)), (4, .int (Zi hg)), (3, .int (Zi lw)), (0, .ref pl), (1, .int (Zi i)), (2, .int (Zi li))], [])) (fun _ => rfl) ?_
      refine B_loc (K := [(7, .int (Zi 0)), (0, .ref pl), (1, .int (Zi i)), (2, .int (Zi li)), (3, .int (Zi lw)), (4, .int (Zi hg)), (5, .ref (P3.2.2.2.1 lv)), (6, .ref (P3.2.2.2.1 (lv + 1)))]) (N_all_sub ⟨rfl, rfl, rfl, rfl, rfl, rfl, rfl, rfl, trivial⟩) (show ([7, 0, 1, 2, 3, 4, 5, 6] : List Nat).Nodup by decide) ?_
      refine C_wr1 (s := s) (G := G4) (w := P_plan tt) (v := P_plan tt) B0 B1 (by omega) hpe1.1 th3 hok hb80 q2_ lw0 lw1 (by omega) (by omega) (fun u h sl G5 ω5 hs hp cs hv hw ot5 => ?_) ((if hg = -1 then lw - 1 else lw) - 0).toNat 0 _ h _ _ _ rfl (by omega) (by omega) (.inr rfl) hs hp cs hv hw (fun j _ _ => G_oth.refl j G4)
      have hn1 := hn0.congr (ot5 38 (by omega) (by omega))
      refine Z_go (f2 := (116, [(0, .ref pl), (1, .int (Zi i)), (2, .int (Zi li)), (3, .int (Zi lw)), (4, .int (Zi hg)), (5, .ref (P3.2.2.2.1 lv)), (6, .ref (P3.2.2.2.1 (lv + 1)))], [.int (Zi hg)])) (fun _ => rfl) ?_
      refine Z_go (f2 := (117, [(0, .ref pl), (1, .int (Zi i)), (2, .int (Zi li)), (3, .int (Zi lw)), (4, .int (Zi hg)), (5, .ref (P3.2.2.2.1 lv)), (6, .ref (P3.2.2.2.1 (lv + 1)))], [.int (Zi (-1)), .int (Zi hg)])) (fun _ => rfl) ?_
      refine Z_cne rfl rfl (by first | exact hs.zF _ _ | exact Zor_r _ _ | exact hs.zA _ _ | assumption | exact zA _ _ | exact zS _ | exact Zr_not (hs.zA _ _) | exact hs.1.1 _ _ | exact ⟨by omega, by omega⟩) (by first | exact hs.zF _ _ | exact Zor_r _ _ | exact hs.zA _ _ | assumption | exact zA _ _ | exact zS _ | exact Zr_not (hs.zA _ _) | exact hs.1.1 _ _ | exact ⟨by omega, by omega⟩) (fun y1 => ?_) (fun y1 => ?_)
      · refine Z_go (f2 := (145, [(0, .ref pl), (1, .int (Zi i)), (2, .int (Zi li)), (3, .int (Zi lw)), (4, .int (Zi hg)), (5, .ref (P3.2.2.2.1 lv)), (6, .ref (P3.2.2.2.1 (lv + 1)))], [.int (Zi hg)])) (fun _ => rfl) ?_
        refine Z_go (f2 := (146, [(0, .ref pl), (1, .int (Zi i)), (2, .int (Zi li)), (3, .int (Zi lw)), (4, .int (Zi hg)), (5, .ref (P3.2.2.2.1 lv)), (6, .ref (P3.2.2.2.1 (lv + 1)))], [.int (Zi lw), .int (Zi hg)])) (fun _ => rfl) ?_
        refine Z_cle rfl rfl (by first | exact hs.zF _ _ | exact Zor_r _ _ | exact hs.zA _ _ | assumption | exact zA _ _ | exact zS _ | exact Zr_not (hs.zA _ _) | exact hs.1.1 _ _ | exact ⟨by omega, by omega⟩) (by first | exact hs.zF _ _ | exact Zor_r _ _ | exact hs.zA _ _ | assumption | exact zA _ _ | exact zS _ | exact Zr_not (hs.zA _ _) | exact hs.1.1 _ _ | exact ⟨by omega, by omega⟩) (fun y2 => ?_) (fun y2 => ?_)
        · refine Z_ret rfl rfl ⟨_, hs, ?_⟩
          try dsimp only
          rw [if_neg (fun e => by omega), if_neg (by omega), if_neg (by omega), show (hg - lw).toNat = 0 by omega]
          rw [if_neg (by omega)] at hv
          exact ⟨rfl, P3, G5, ω5, hp, cs, leb, hpe1.1, hv, hn1, fun j hj hTj => (otb j hj hTj).tr (ot5 j (by omega) (by omega))⟩
        · refine Z_go (f2 := (150, [(0, .ref pl), (1, .int (Zi i)), (2, .int (Zi li)), (3, .int (Zi lw)), (4, .int (Zi hg)), (5, .ref (P3.2.2.2.1 lv)), (6, .ref (P3.2.2.2.1 (lv + 1)))], [.ref pl])) (fun _ => rfl) ?_
          refine Z_go (f2 := (152, [(0, .ref pl), (1, .int (Zi i)), (2, .int (Zi li)), (3, .int (Zi lw)), (4, .int (Zi hg)), (5, .ref (P3.2.2.2.1 lv)), (6, .ref (P3.2.2.2.1 (lv + 1)))], [.ref (P3.2.2.2.1 (lv + 1)), .ref pl])) (fun _ => rfl) ?_
          refine Z_go (f2 := (153, [(0, .ref pl), (1, .int (Zi i)), (2, .int (Zi li)), (3, .int (Zi lw)), (4, .int (Zi hg)), (5, .ref (P3.2.2.2.1 lv)), (6, .ref (P3.2.2.2.1 (lv + 1)))], [.ref pl, .ref (P3.2.2.2.1 (lv + 1)), .ref pl])) (fun _ => rfl) ?_
          refine C_gr rfl hs hp.1.1.1 (by decide) (Nat.le_of_ble_eq_true rfl) rfl hp.1.1.2.2.2.2.2.2.2.2.2.2.2.2 ?_
          refine C_callV (As := [.ref (P3.2.2.2.1 (lv + 1)), .ref (P3.2.2.2.1 38)]) (rest := []) rfl (by decide) rfl (by decide) rfl rfl (by decide +kernel) (Nat.le_of_ble_eq_true rfl) hs hp.1.1.1 (C_altr _ hp B0 B1 (j := lv + 1) (k := 38) (by omega) th3 (by omega) (by have := hp.1.2.2.2.2; exact this) (by omega) hw hn1) (fun x h v6 n6 hs q => ?_)
          obtain ⟨rfl, G7, ⟨ω7, hp, cq⟩, hw, hn2, ot7⟩ := q
          have cs := cs.tr cq
          have hv := hv.congr (ot7 lv (by omega) (by omega))
          show B_R _ _ (159, [(0, .ref pl), (1, .int (Zi i)), (2, .int (Zi li)), (3, .int (Zi lw)), (4, .int (Zi hg)), (5, .ref (P3.2.2.2.1 lv)), (6, .ref (P3.2.2.2.1 (lv + 1)))], []) _ _ _
          refine Z_go (f2 := (160, [(0, .ref pl), (1, .int (Zi i)), (2, .int (Zi li)), (3, .int (Zi lw)), (4, .int (Zi hg)), (5, .ref (P3.2.2.2.1 lv)), (6, .ref (P3.2.2.2.1 (lv + 1)))], [.int (Zi lw)])) (fun _ => rfl) ?_
          refine Z_go (f2 := (162, [(7, .int (Zi lw)), (0, .ref pl), (1, .int (Zi i)), (2, .int (Zi li)), (3, .int (Zi lw)), (4, .int (Zi hg)), (5, .ref (P3.2.2.2.1 lv)), (6, .ref (P3.2.2.2.1 (lv + 1)))], [])) (fun _ => rfl) ?_
          refine B_loc (K := [(7, .int (Zi lw)), (0, .ref pl), (1, .int (Zi i)), (2, .int (Zi li)), (3, .int (Zi lw)), (4, .int (Zi hg)), (5, .ref (P3.2.2.2.1 lv)), (6, .ref (P3.2.2.2.1 (lv + 1)))]) (N_all_sub ⟨rfl, rfl, rfl, rfl, rfl, rfl, rfl, rfl, trivial⟩) (show ([7, 0, 1, 2, 3, 4, 5, 6] : List Nat).Nodup by decide) ?_
          rw [if_neg (by omega)] at hv
          refine C_wr2 (s := s) (G := G7) (w := V_may (P_plan tt)) (v := P_plan tt) B0 B1 (by omega) hpe1.1 th3 (V_may_0 hok).1 q1_ q4_ lw0 lw1 (by omega) (by omega) (by omega) (fun u h sl G8 ω8 hs hp cs hv hw ot8 => ?_) (hg - lw).toNat lw _ h _ _ _ rfl (Int.le_refl _) (by omega) (by omega) hs hp cs (by rw [show (lw - lw).toNat = 0 by omega]; exact hv) hw (fun j _ _ => G_oth.refl j G7)
          refine Z_ret rfl rfl ⟨_, hs, ?_⟩
          rw [if_neg (fun e => by omega), if_neg (by omega), if_neg (by omega)]
          exact ⟨rfl, P3, G8, ω8, hp, cs, leb, hpe1.1, hv, hn2.congr (ot8 38 (by omega) (by omega)), fun j hj hTj => (((otb j hj hTj).tr (ot5 j (by omega) (by omega))).tr (ot7 j (by omega) (by omega))).tr (ot8 j (by omega) (by omega))⟩
      · refine Z_go (f2 := (121, [(0, .ref pl), (1, .int (Zi i)), (2, .int (Zi li)), (3, .int (Zi lw)), (4, .int (Zi hg)), (5, .ref (P3.2.2.2.1 lv)), (6, .ref (P3.2.2.2.1 (lv + 1)))], [.ref pl])) (fun _ => rfl) ?_
        refine Z_go (f2 := (123, [(0, .ref pl), (1, .int (Zi i)), (2, .int (Zi li)), (3, .int (Zi lw)), (4, .int (Zi hg)), (5, .ref (P3.2.2.2.1 lv)), (6, .ref (P3.2.2.2.1 (lv + 1)))], [.ref (P3.2.2.2.1 (lv + 1)), .ref pl])) (fun _ => rfl) ?_
        refine C_callV (As := [.ref (P3.2.2.2.1 (lv + 1))]) (rest := []) rfl (by decide) rfl (by decide) rfl rfl (by decide +kernel) (Nat.le_of_ble_eq_true rfl) hs hp.1.1.1 (C_unf _ hp B0 B1 (j := lv + 1) (by omega) th3 hw) (fun x h v5 n5 hs q => ?_)
        obtain ⟨rfl, G6, ⟨ω6, hp, cq⟩, hw, uw, _, _, ot6⟩ := q
        have cs := cs.tr cq
        have hv := hv.congr (ot6 lv (by omega))
        have hT9 := (hp.2.1 (lv + 1) (by omega) th3).2.1
        have hwf := hs.1
        show B_R _ _ (126, [(0, .ref pl), (1, .int (Zi i)), (2, .int (Zi li)), (3, .int (Zi lw)), (4, .int (Zi hg)), (5, .ref (P3.2.2.2.1 lv)), (6, .ref (P3.2.2.2.1 (lv + 1)))], []) _ _ _
        refine Z_go (f2 := (128, [(0, .ref pl), (1, .int (Zi i)), (2, .int (Zi li)), (3, .int (Zi lw)), (4, .int (Zi hg)), (5, .ref (P3.2.2.2.1 lv)), (6, .ref (P3.2.2.2.1 (lv + 1)))], [.ref (P3.2.2.2.1 (lv + 1))])) (fun _ => rfl) ?_
        refine Z_go (f2 := (129, [(0, .ref pl), (1, .int (Zi i)), (2, .int (Zi li)), (3, .int (Zi lw)), (4, .int (Zi hg)), (5, .ref (P3.2.2.2.1 lv)), (6, .ref (P3.2.2.2.1 (lv + 1)))], [.int (Zi 0), .ref (P3.2.2.2.1 (lv + 1))])) (fun _ => rfl) ?_
        refine C_pi rfl hs (hp.2.1 (lv + 1) (by omega) th3).1 (by decide) (Nat.le_of_ble_eq_true rfl) (.inl rfl) rfl (by first | rfl | exact narrow_b01 (by omega)) (by first | rfl | exact fits_b01 (by omega)) (by first | exact hs.zF _ _ | exact Zor_r _ _ | exact hs.zA _ _ | assumption | exact zA _ _ | exact zS _ | exact Zr_not (hs.zA _ _) | exact hs.1.1 _ _ | exact ⟨by omega, by omega⟩) (fun h hs => ?_)
        have hp := hp.upE hwf (by omega) th3 (v := 0) (.inl rfl)
        have cs := cs.tr (D_cs.flag (ω := ω6) (z := 0) (b := 0) hT9)
        have hv := hv.congr (show G_oth lv G6 (g_se G6 (lv + 1) 0) from ⟨rfl, rfl, rfl, rfl, g_up_o (by omega), rfl⟩)
        have hw : D_pv B (g_se G6 (lv + 1) 0) (lv + 1) (V_open (P_plan tt)) := D_pv.ofi (q := (V_H (P_plan tt), V_T (P_plan tt), V_C (P_plan tt))) g_up_s uw (hw.u uw)
        rw [if_pos (by omega)] at hv
        obtain ⟨x8, x81, x82⟩ := q3_
        have jk := J_ok (B := B) x82 (V_ok_open hok) x81 q1_ B0
        refine Z_go (f2 := (133, [(0, .ref pl), (1, .int (Zi i)), (2, .int (Zi li)), (3, .int (Zi lw)), (4, .int (Zi hg)), (5, .ref (P3.2.2.2.1 lv)), (6, .ref (P3.2.2.2.1 (lv + 1)))], [.ref pl])) (fun _ => rfl) ?_
        refine Z_go (f2 := (135, [(0, .ref pl), (1, .int (Zi i)), (2, .int (Zi li)), (3, .int (Zi lw)), (4, .int (Zi hg)), (5, .ref (P3.2.2.2.1 lv)), (6, .ref (P3.2.2.2.1 (lv + 1)))], [.ref (P3.2.2.2.1 lv), .ref pl])) (fun _ => rfl) ?_
        refine Z_go (f2 := (137, [(0, .ref pl), (1, .int (Zi i)), (2, .int (Zi li)), (3, .int (Zi lw)), (4, .int (Zi hg)), (5, .ref (P3.2.2.2.1 lv)), (6, .ref (P3.2.2.2.1 (lv + 1)))], [.ref (P3.2.2.2.1 (lv + 1)), .ref (P3.2.2.2.1 lv), .ref pl])) (fun _ => rfl) ?_
        refine C_callV (As := [.ref (P3.2.2.2.1 lv), .ref (P3.2.2.2.1 (lv + 1))]) (rest := []) rfl (by decide) rfl (by decide) rfl rfl (by decide +kernel) (Nat.le_of_ble_eq_true rfl) hs hp.1.1.1 (C_join _ hp B0 B1 (j := lv) (k := lv + 1) (by omega) hpe1.1 (by omega) th3 (by omega) hv hw jk.1 jk.2.1 jk.2.2.1 jk.2.2.2) (fun x h v6 n6 hs q => ?_)
        obtain ⟨rfl, G7, ⟨ω7, hp, cq⟩, hv, hw, ot7⟩ := q
        have cs := cs.tr cq
        show B_R _ _ (140, [(0, .ref pl), (1, .int (Zi i)), (2, .int (Zi li)), (3, .int (Zi lw)), (4, .int (Zi hg)), (5, .ref (P3.2.2.2.1 lv)), (6, .ref (P3.2.2.2.1 (lv + 1)))], []) _ _ _
        refine Z_go (f2 := (183, [(0, .ref pl), (1, .int (Zi i)), (2, .int (Zi li)), (3, .int (Zi lw)), (4, .int (Zi hg)), (5, .ref (P3.2.2.2.1 lv)), (6, .ref (P3.2.2.2.1 (lv + 1)))], [])) (fun _ => rfl) ?_
        refine Z_ret rfl rfl ⟨_, hs, ?_⟩
        try dsimp only
        rw [if_neg (fun e => by omega), if_neg (by omega), if_pos (by omega)]
        exact ⟨rfl, P3, G7, ω7, hp, cs, leb, hpe1.1, hv, (hn1.congr (ot6 38 (by omega))).congr ((show G_oth 38 G6 (g_se G6 (lv + 1) 0) from ⟨rfl, rfl, rfl, rfl, g_up_o (by omega), rfl⟩).tr (ot7 38 (by omega) (by omega))), fun j hj hTj => ((((otb j hj hTj).tr (ot5 j (by omega) (by omega))).tr (ot6 j (by omega))).tr (show G_oth j G6 (g_se G6 (lv + 1) 0) from ⟨rfl, rfl, rfl, rfl, g_up_o (by omega), rfl⟩)).tr (ot7 j (by omega) (by omega))⟩
    · refine Z_ret rfl rfl ⟨_, hs, ?_⟩
      try dsimp only
      rw [if_neg (fun e => by omega), if_pos (by omega)]
      exact ⟨rfl, P2, G3, ω3, hp, cs, leb, hpe.1, hv, hn0, otb⟩
  · refine Z_go (f2 := (41, [(6, .ref (P2.2.2.2.1 (lv + 1))), (5, .ref (P2.2.2.2.1 lv)), (4, .int (Zi hg)), (3, .int (Zi lw)), (0, .ref pl), (1, .int (Zi i)), (2, .int (Zi li))], [.int (Zi hg)])) (fun _ => rfl) ?_
    refine Z_go (f2 := (42, [(6, .ref (P2.2.2.2.1 (lv + 1))), (5, .ref (P2.2.2.2.1 lv)), (4, .int (Zi hg)), (3, .int (Zi lw)), (0, .ref pl), (1, .int (Zi i)), (2, .int (Zi li))], [.int (Zi (-1)), .int (Zi hg)])) (fun _ => rfl) ?_
    refine Z_cne rfl rfl (by first | exact hs.zF _ _ | exact Zor_r _ _ | exact hs.zA _ _ | assumption | exact zA _ _ | exact zS _ | exact Zr_not (hs.zA _ _) | exact hs.1.1 _ _ | exact ⟨by omega, by omega⟩) (by first | exact hs.zF _ _ | exact Zor_r _ _ | exact hs.zA _ _ | assumption | exact zA _ _ | exact zS _ | exact Zr_not (hs.zA _ _) | exact hs.1.1 _ _ | exact ⟨by omega, by omega⟩) (fun y3 => ?_) (fun y3 => ?_)
    · refine Z_go (f2 := (53, [(6, .ref (P2.2.2.2.1 (lv + 1))), (5, .ref (P2.2.2.2.1 lv)), (4, .int (Zi hg)), (3, .int (Zi lw)), (0, .ref pl), (1, .int (Zi i)), (2, .int (Zi li))], [.ref pl])) (fun _ => rfl) ?_
      refine Z_go (f2 := (55, [(6, .ref (P2.2.2.2.1 (lv + 1))), (5, .ref (P2.2.2.2.1 lv)), (4, .int (Zi hg)), (3, .int (Zi lw)), (0, .ref pl), (1, .int (Zi i)), (2, .int (Zi li))], [.ref (P2.2.2.2.1 lv), .ref pl])) (fun _ => rfl) ?_
      refine C_callV (As := [.ref (P2.2.2.2.1 lv)]) (rest := []) rfl (by decide) rfl (by decide) rfl rfl (by decide +kernel) (Nat.le_of_ble_eq_true rfl) hs hp.1.1.1 (C_nil _ hp B0 B1 (j := lv) (by omega) hpe.1) (fun x h v3 n3 hs q => ?_)
      obtain ⟨rfl, G3, ⟨ω3, hp, cq⟩, hv, ot3⟩ := q
      have cs := cs.tr cq
      have hn0 := hn0.congr (ot3 38 (by omega))
      have htv := htr.fr sw cs.2.2 np
      have otb : ∀ j, j < lv → P.2.2.2.2.1 j = true → G_oth j G G3 := fun j hj hTj => (otb j hj hTj).tr (ot3 j (by omega))
      show B_R _ _ (58, [(6, .ref (P2.2.2.2.1 (lv + 1))), (5, .ref (P2.2.2.2.1 lv)), (4, .int (Zi hg)), (3, .int (Zi lw)), (0, .ref pl), (1, .int (Zi i)), (2, .int (Zi li))], []) _ _ _
      refine Z_go (f2 := (60, [(6, .ref (P2.2.2.2.1 (lv + 1))), (5, .ref (P2.2.2.2.1 lv)), (4, .int (Zi hg)), (3, .int (Zi lw)), (0, .ref pl), (1, .int (Zi i)), (2, .int (Zi li))], [.int (Zi hg)])) (fun _ => rfl) ?_
      refine Z_ine rfl rfl (by first | exact hs.zF _ _ | exact Zor_r _ _ | exact hs.zA _ _ | assumption | exact zA _ _ | exact zS _ | exact Zr_not (hs.zA _ _) | exact hs.1.1 _ _ | exact ⟨by omega, by omega⟩) (fun y4 => ?_) (fun y4 => ?_)
      · refine Z_go (f2 := (65, [(6, .ref (P2.2.2.2.1 (lv + 1))), (5, .ref (P2.2.2.2.1 lv)), (4, .int (Zi hg)), (3, .int (Zi lw)), (0, .ref pl), (1, .int (Zi i)), (2, .int (Zi li))], [.ref pl])) (fun _ => rfl) ?_
        refine Z_go (f2 := (66, [(6, .ref (P2.2.2.2.1 (lv + 1))), (5, .ref (P2.2.2.2.1 lv)), (4, .int (Zi hg)), (3, .int (Zi lw)), (0, .ref pl), (1, .int (Zi i)), (2, .int (Zi li))], [.ref pl, .ref pl])) (fun _ => rfl) ?_
        refine C_gr rfl hs hp.1.1.1 (by decide) (Nat.le_of_ble_eq_true rfl) rfl hp.1.1.2.2.1 ?_
        refine Z_go (f2 := (70, [(6, .ref (P2.2.2.2.1 (lv + 1))), (5, .ref (P2.2.2.2.1 lv)), (4, .int (Zi hg)), (3, .int (Zi lw)), (0, .ref pl), (1, .int (Zi i)), (2, .int (Zi li))], [.int (Zi i), .ref tr, .ref pl])) (fun _ => rfl) ?_
        refine C_callVR (As := [.int (Zi i)]) (rest := [.ref pl]) rfl (by decide) rfl (by decide) rfl rfl (by decide +kernel) (Nat.le_of_ble_eq_true rfl) hs htv.1.1 (C_t1 _ htv (i := i) zi) (fun x q => ?_)
        obtain rfl := q
        rw [e1]
        show B_R _ _ (73, [(6, .ref (P2.2.2.2.1 (lv + 1))), (5, .ref (P2.2.2.2.1 lv)), (4, .int (Zi hg)), (3, .int (Zi lw)), (0, .ref pl), (1, .int (Zi i)), (2, .int (Zi li))], [.int (Zi x9), .ref pl]) _ _ _
        refine Z_go (f2 := (74, [(6, .ref (P2.2.2.2.1 (lv + 1))), (5, .ref (P2.2.2.2.1 lv)), (4, .int (Zi hg)), (3, .int (Zi lw)), (0, .ref pl), (1, .int (Zi i)), (2, .int (Zi li))], [.int (Zi li), .int (Zi x9), .ref pl])) (fun _ => rfl) ?_
        refine Z_go (f2 := (75, [(6, .ref (P2.2.2.2.1 (lv + 1))), (5, .ref (P2.2.2.2.1 lv)), (4, .int (Zi hg)), (3, .int (Zi lw)), (0, .ref pl), (1, .int (Zi i)), (2, .int (Zi li))], [.int (Zi 1), .int (Zi li), .int (Zi x9), .ref pl])) (fun _ => rfl) ?_
        refine Z_iadd rfl ?_
        refine C_callV (As := [.int (Zi x9), .int (Zi (li + 1))]) (rest := []) rfl (by decide) rfl (by decide) rfl rfl (by decide +kernel) (Nat.le_of_ble_eq_true rfl) hs hp.1.1.1 (hB v3 pp pl tr B G3 P2 ω3 p2 A2 m2 sm τ β 0 na nb x9 tt (lv + 1) (li + 1) hp B0 B1 htv np hn0 hn (by omega) (by omega) (by omega) (by rw [if_neg (by omega), if_neg (by omega), if_neg nk]; omega) (by omega) (by omega)) (fun x h v4 n4 hs q => ?_)
        obtain ⟨rfl, P3, G4, ω4, hp, cq, le3, th3, hw, hn0, ot4⟩ := q
        have cs := cs.tr cq
        have hpe1 := le3.2.2.2.1 lv (by omega) hpe.1
        have hpe2 := le3.2.2.2.1 (lv + 1) (by omega) th2
        have hv := hv.congr (ot4 lv (by omega) hpe.1)
        have htv := htr.fr sw cs.2.2 np
        have otb : ∀ j, j < lv → P.2.2.2.2.1 j = true → G_oth j G G4 := fun j hj hTj => (otb j hj hTj).tr (ot4 j (by omega) (leb.2.2.2.1 j (by omega) hTj).1)
        have leb := leb.tr le3
        show B_R _ _ (79, [(6, .ref (P2.2.2.2.1 (lv + 1))), (5, .ref (P2.2.2.2.1 lv)), (4, .int (Zi hg)), (3, .int (Zi lw)), (0, .ref pl), (1, .int (Zi i)), (2, .int (Zi li))], []) _ _ _
        rw [← hpe1.2]
        show B_R _ _ (79, [(6, .ref (P2.2.2.2.1 (lv + 1))), (5, .ref (P3.2.2.2.1 lv)), (4, .int (Zi hg)), (3, .int (Zi lw)), (0, .ref pl), (1, .int (Zi i)), (2, .int (Zi li))], []) _ _ _
        refine Z_go (f2 := (80, [(6, .ref (P2.2.2.2.1 (lv + 1))), (5, .ref (P3.2.2.2.1 lv)), (4, .int (Zi hg)), (3, .int (Zi lw)), (0, .ref pl), (1, .int (Zi i)), (2, .int (Zi li))], [.int (Zi 0)])) (fun _ => rfl) ?_
        rw [← hpe2.2]
        show B_R _ _ (80, [(6, .ref (P3.2.2.2.1 (lv + 1))), (5, .ref (P3.2.2.2.1 lv)), (4, .int (Zi hg)), (3, .int (Zi lw)), (0, .ref pl), (1, .int (Zi i)), (2, .int (Zi li))], [.int (Zi 0)]) _ _ _
        refine Z_go (f2 := (82, [(7, .int (Zi 0)), (6, .ref (P3.2.2.2.1 (lv + 1))), (5, .ref (P3.2.2.2.1 lv)), (4, .int (Zi hg)), (3, .int (Zi lw)), (0, .ref pl), (1, .int (Zi i)), (2, .int (Zi li))], [])) (fun _ => rfl) ?_
        refine B_loc (K := [(7, .int (Zi 0)), (0, .ref pl), (1, .int (Zi i)), (2, .int (Zi li)), (3, .int (Zi lw)), (4, .int (Zi hg)), (5, .ref (P3.2.2.2.1 lv)), (6, .ref (P3.2.2.2.1 (lv + 1)))]) (N_all_sub ⟨rfl, rfl, rfl, rfl, rfl, rfl, rfl, rfl, trivial⟩) (show ([7, 0, 1, 2, 3, 4, 5, 6] : List Nat).Nodup by decide) ?_
        refine C_wr1 (s := s) (G := G4) (w := P_plan tt) (v := P_plan tt) B0 B1 (by omega) hpe1.1 th3 hok hb80 q2_ lw0 lw1 (by omega) (by omega) (fun u h sl G5 ω5 hs hp cs hv hw ot5 => ?_) ((if hg = -1 then lw - 1 else lw) - 0).toNat 0 _ h _ _ _ rfl (by omega) (by omega) (.inr rfl) hs hp cs hv hw (fun j _ _ => G_oth.refl j G4)
        have hn1 := hn0.congr (ot5 38 (by omega) (by omega))
        refine Z_go (f2 := (116, [(0, .ref pl), (1, .int (Zi i)), (2, .int (Zi li)), (3, .int (Zi lw)), (4, .int (Zi hg)), (5, .ref (P3.2.2.2.1 lv)), (6, .ref (P3.2.2.2.1 (lv + 1)))], [.int (Zi hg)])) (fun _ => rfl) ?_
        refine Z_go (f2 := (117, [(0, .ref pl), (1, .int (Zi i)), (2, .int (Zi li)), (3, .int (Zi lw)), (4, .int (Zi hg)), (5, .ref (P3.2.2.2.1 lv)), (6, .ref (P3.2.2.2.1 (lv + 1)))], [.int (Zi (-1)), .int (Zi hg)])) (fun _ => rfl) ?_
        refine Z_cne rfl rfl (by first | exact hs.zF _ _ | exact Zor_r _ _ | exact hs.zA _ _ | assumption | exact zA _ _ | exact zS _ | exact Zr_not (hs.zA _ _) | exact hs.1.1 _ _ | exact ⟨by omega, by omega⟩) (by first | exact hs.zF _ _ | exact Zor_r _ _ | exact hs.zA _ _ | assumption | exact zA _ _ | exact zS _ | exact Zr_not (hs.zA _ _) | exact hs.1.1 _ _ | exact ⟨by omega, by omega⟩) (fun y1 => ?_) (fun y1 => ?_)
        · refine Z_go (f2 := (145, [(0, .ref pl), (1, .int (Zi i)), (2, .int (Zi li)), (3, .int (Zi lw)), (4, .int (Zi hg)), (5, .ref (P3.2.2.2.1 lv)), (6, .ref (P3.2.2.2.1 (lv + 1)))], [.int (Zi hg)])) (fun _ => rfl) ?_
          refine Z_go (f2 := (146, [(0, .ref pl), (1, .int (Zi i)), (2, .int (Zi li)), (3, .int (Zi lw)), (4, .int (Zi hg)), (5, .ref (P3.2.2.2.1 lv)), (6, .ref (P3.2.2.2.1 (lv + 1)))], [.int (Zi lw), .int (Zi hg)])) (fun _ => rfl) ?_
          refine Z_cle rfl rfl (by first | exact hs.zF _ _ | exact Zor_r _ _ | exact hs.zA _ _ | assumption | exact zA _ _ | exact zS _ | exact Zr_not (hs.zA _ _) | exact hs.1.1 _ _ | exact ⟨by omega, by omega⟩) (by first | exact hs.zF _ _ | exact Zor_r _ _ | exact hs.zA _ _ | assumption | exact zA _ _ | exact zS _ | exact Zr_not (hs.zA _ _) | exact hs.1.1 _ _ | exact ⟨by omega, by omega⟩) (fun y2 => ?_) (fun y2 => ?_)
          · refine Z_ret rfl rfl ⟨_, hs, ?_⟩
            try dsimp only
            rw [if_neg (fun e => by omega), if_neg (by omega), if_neg (by omega), show (hg - lw).toNat = 0 by omega]
            rw [if_neg (by omega)] at hv
            exact ⟨rfl, P3, G5, ω5, hp, cs, leb, hpe1.1, hv, hn1, fun j hj hTj => (otb j hj hTj).tr (ot5 j (by omega) (by omega))⟩
          · refine Z_go (f2 := (150, [(0, .ref pl), (1, .int (Zi i)), (2, .int (Zi li)), (3, .int (Zi lw)), (4, .int (Zi hg)), (5, .ref (P3.2.2.2.1 lv)), (6, .ref (P3.2.2.2.1 (lv + 1)))], [.ref pl])) (fun _ => rfl) ?_
            refine Z_go (f2 := (152, [(0, .ref pl), (1, .int (Zi i)), (2, .int (Zi li)), (3, .int (Zi lw)), (4, .int (Zi hg)), (5, .ref (P3.2.2.2.1 lv)), (6, .ref (P3.2.2.2.1 (lv + 1)))], [.ref (P3.2.2.2.1 (lv + 1)), .ref pl])) (fun _ => rfl) ?_
            refine Z_go (f2 := (153, [(0, .ref pl), (1, .int (Zi i)), (2, .int (Zi li)), (3, .int (Zi lw)), (4, .int (Zi hg)), (5, .ref (P3.2.2.2.1 lv)), (6, .ref (P3.2.2.2.1 (lv + 1)))], [.ref pl, .ref (P3.2.2.2.1 (lv + 1)), .ref pl])) (fun _ => rfl) ?_
            refine C_gr rfl hs hp.1.1.1 (by decide) (Nat.le_of_ble_eq_true rfl) rfl hp.1.1.2.2.2.2.2.2.2.2.2.2.2.2 ?_
            refine C_callV (As := [.ref (P3.2.2.2.1 (lv + 1)), .ref (P3.2.2.2.1 38)]) (rest := []) rfl (by decide) rfl (by decide) rfl rfl (by decide +kernel) (Nat.le_of_ble_eq_true rfl) hs hp.1.1.1 (C_altr _ hp B0 B1 (j := lv + 1) (k := 38) (by omega) th3 (by omega) (by have := hp.1.2.2.2.2; exact this) (by omega) hw hn1) (fun x h v6 n6 hs q => ?_)
            obtain ⟨rfl, G7, ⟨ω7, hp, cq⟩, hw, hn2, ot7⟩ := q
            have cs := cs.tr cq
            have hv := hv.congr (ot7 lv (by omega) (by omega))
            show B_R _ _ (159, [(0, .ref pl), (1, .int (Zi i)), (2, .int (Zi li)), (3, .int (Zi lw)), (4, .int (Zi hg)), (5, .ref (P3.2.2.2.1 lv)), (6, .ref (P3.2.2.2.1 (lv + 1)))], []) _ _ _
            refine Z_go (f2 := (160, [(0, .ref pl), (1, .int (Zi i)), (2, .int (Zi li)), (3, .int (Zi lw)), (4, .int (Zi hg)), (5, .ref (P3.2.2.2.1 lv)), (6, .ref (P3.2.2.2.1 (lv + 1)))], [.int (Zi lw)])) (fun _ => rfl) ?_
            refine Z_go (f2 := (162, [(7, .int (Zi lw)), (0, .ref pl), (1, .int (Zi i)), (2, .int (Zi li)), (3, .int (Zi lw)), (4, .int (Zi hg)), (5, .ref (P3.2.2.2.1 lv)), (6, .ref (P3.2.2.2.1 (lv + 1)))], [])) (fun _ => rfl) ?_
            refine B_loc (K := [(7, .int (Zi lw)), (0, .ref pl), (1, .int (Zi i)), (2, .int (Zi li)), (3, .int (Zi lw)), (4, .int (Zi hg)), (5, .ref (P3.2.2.2.1 lv)), (6, .ref (P3.2.2.2.1 (lv + 1)))]) (N_all_sub ⟨rfl, rfl, rfl, rfl, rfl, rfl, rfl, rfl, trivial⟩) (show ([7, 0, 1, 2, 3, 4, 5, 6] : List Nat).Nodup by decide) ?_
            rw [if_neg (by omega)] at hv
            refine C_wr2 (s := s) (G := G7) (w := V_may (P_plan tt)) (v := P_plan tt) B0 B1 (by omega) hpe1.1 th3 (V_may_0 hok).1 q1_ q4_ lw0 lw1 (by omega) (by omega) (by omega) (fun u h sl G8 ω8 hs hp cs hv hw ot8 => ?_) (hg - lw).toNat lw _ h _ _ _ rfl (Int.le_refl _) (by omega) (by omega) hs hp cs (by rw [show (lw - lw).toNat = 0 by omega]; exact hv) hw (fun j _ _ => G_oth.refl j G7)
            refine Z_ret rfl rfl ⟨_, hs, ?_⟩
            rw [if_neg (fun e => by omega), if_neg (by omega), if_neg (by omega)]
            exact ⟨rfl, P3, G8, ω8, hp, cs, leb, hpe1.1, hv, hn2.congr (ot8 38 (by omega) (by omega)), fun j hj hTj => (((otb j hj hTj).tr (ot5 j (by omega) (by omega))).tr (ot7 j (by omega) (by omega))).tr (ot8 j (by omega) (by omega))⟩
        · refine Z_go (f2 := (121, [(0, .ref pl), (1, .int (Zi i)), (2, .int (Zi li)), (3, .int (Zi lw)), (4, .int (Zi hg)), (5, .ref (P3.2.2.2.1 lv)), (6, .ref (P3.2.2.2.1 (lv + 1)))], [.ref pl])) (fun _ => rfl) ?_
          refine Z_go (f2 := (123, [(0, .ref pl), (1, .int (Zi i)), (2, .int (Zi li)), (3, .int (Zi lw)), (4, .int (Zi hg)), (5, .ref (P3.2.2.2.1 lv)), (6, .ref (P3.2.2.2.1 (lv + 1)))], [.ref (P3.2.2.2.1 (lv + 1)), .ref pl])) (fun _ => rfl) ?_
          refine C_callV (As := [.ref (P3.2.2.2.1 (lv + 1))]) (rest := []) rfl (by decide) rfl (by decide) rfl rfl (by decide +kernel) (Nat.le_of_ble_eq_true rfl) hs hp.1.1.1 (C_unf _ hp B0 B1 (j := lv + 1) (by omega) th3 hw) (fun x h v5 n5 hs q => ?_)
          obtain ⟨rfl, G6, ⟨ω6, hp, cq⟩, hw, uw, _, _, ot6⟩ := q
          have cs := cs.tr cq
          have hv := hv.congr (ot6 lv (by omega))
          have hT9 := (hp.2.1 (lv + 1) (by omega) th3).2.1
          have hwf := hs.1
          show B_R _ _ (126, [(0, .ref pl), (1, .int (Zi i)), (2, .int (Zi li)), (3, .int (Zi lw)), (4, .int (Zi hg)), (5, .ref (P3.2.2.2.1 lv)), (6, .ref (P3.2.2.2.1 (lv + 1)))], []) _ _ _
          refine Z_go (f2 := (128, [(0, .ref pl), (1, .int (Zi i)), (2, .int (Zi li)), (3, .int (Zi lw)), (4, .int (Zi hg)), (5, .ref (P3.2.2.2.1 lv)), (6, .ref (P3.2.2.2.1 (lv + 1)))], [.ref (P3.2.2.2.1 (lv + 1))])) (fun _ => rfl) ?_
          refine Z_go (f2 := (129, [(0, .ref pl), (1, .int (Zi i)), (2, .int (Zi li)), (3, .int (Zi lw)), (4, .int (Zi hg)), (5, .ref (P3.2.2.2.1 lv)), (6, .ref (P3.2.2.2.1 (lv + 1)))], [.int (Zi 0), .ref (P3.2.2.2.1 (lv + 1))])) (fun _ => rfl) ?_
          refine C_pi rfl hs (hp.2.1 (lv + 1) (by omega) th3).1 (by decide) (Nat.le_of_ble_eq_true rfl) (.inl rfl) rfl (by first | rfl | exact narrow_b01 (by omega)) (by first | rfl | exact fits_b01 (by omega)) (by first | exact hs.zF _ _ | exact Zor_r _ _ | exact hs.zA _ _ | assumption | exact zA _ _ | exact zS _ | exact Zr_not (hs.zA _ _) | exact hs.1.1 _ _ | exact ⟨by omega, by omega⟩) (fun h hs => ?_)
          have hp := hp.upE hwf (by omega) th3 (v := 0) (.inl rfl)
          have cs := cs.tr (D_cs.flag (ω := ω6) (z := 0) (b := 0) hT9)
          have hv := hv.congr (show G_oth lv G6 (g_se G6 (lv + 1) 0) from ⟨rfl, rfl, rfl, rfl, g_up_o (by omega), rfl⟩)
          have hw : D_pv B (g_se G6 (lv + 1) 0) (lv + 1) (V_open (P_plan tt)) := D_pv.ofi (q := (V_H (P_plan tt), V_T (P_plan tt), V_C (P_plan tt))) g_up_s uw (hw.u uw)
          rw [if_pos (by omega)] at hv
          obtain ⟨x8, x81, x82⟩ := q3_
          have jk := J_ok (B := B) x82 (V_ok_open hok) x81 q1_ B0
          refine Z_go (f2 := (133, [(0, .ref pl), (1, .int (Zi i)), (2, .int (Zi li)), (3, .int (Zi lw)), (4, .int (Zi hg)), (5, .ref (P3.2.2.2.1 lv)), (6, .ref (P3.2.2.2.1 (lv + 1)))], [.ref pl])) (fun _ => rfl) ?_
          refine Z_go (f2 := (135, [(0, .ref pl), (1, .int (Zi i)), (2, .int (Zi li)), (3, .int (Zi lw)), (4, .int (Zi hg)), (5, .ref (P3.2.2.2.1 lv)), (6, .ref (P3.2.2.2.1 (lv + 1)))], [.ref (P3.2.2.2.1 lv), .ref pl])) (fun _ => rfl) ?_
          refine Z_go (f2 := (137, [(0, .ref pl), (1, .int (Zi i)), (2, .int (Zi li)), (3, .int (Zi lw)), (4, .int (Zi hg)), (5, .ref (P3.2.2.2.1 lv)), (6, .ref (P3.2.2.2.1 (lv + 1)))], [.ref (P3.2.2.2.1 (lv + 1)), .ref (P3.2.2.2.1 lv), .ref pl])) (fun _ => rfl) ?_
          refine C_callV (As := [.ref (P3.2.2.2.1 lv), .ref (P3.2.2.2.1 (lv + 1))]) (rest := []) rfl (by decide) rfl (by decide) rfl rfl (by decide +kernel) (Nat.le_of_ble_eq_true rfl) hs hp.1.1.1 (C_join _ hp B0 B1 (j := lv) (k := lv + 1) (by omega) hpe1.1 (by omega) th3 (by omega) hv hw jk.1 jk.2.1 jk.2.2.1 jk.2.2.2) (fun x h v6 n6 hs q => ?_)
          obtain ⟨rfl, G7, ⟨ω7, hp, cq⟩, hv, hw, ot7⟩ := q
          have cs := cs.tr cq
          show B_R _ _ (140, [(0, .ref pl), (1, .int (Zi i)), (2, .int (Zi li)), (3, .int (Zi lw)), (4, .int (Zi hg)), (5, .ref (P3.2.2.2.1 lv)), (6, .ref (P3.2.2.2.1 (lv + 1)))], []) _ _ _
          refine Z_go (f2 := (183, [(0, .ref pl), (1, .int (Zi i)), (2, .int (Zi li)), (3, .int (Zi lw)), (4, .int (Zi hg)), (5, .ref (P3.2.2.2.1 lv)), (6, .ref (P3.2.2.2.1 (lv + 1)))], [])) (fun _ => rfl) ?_
          refine Z_ret rfl rfl ⟨_, hs, ?_⟩
          try dsimp only
          rw [if_neg (fun e => by omega), if_neg (by omega), if_pos (by omega)]
          exact ⟨rfl, P3, G7, ω7, hp, cs, leb, hpe1.1, hv, (hn1.congr (ot6 38 (by omega))).congr ((show G_oth 38 G6 (g_se G6 (lv + 1) 0) from ⟨rfl, rfl, rfl, rfl, g_up_o (by omega), rfl⟩).tr (ot7 38 (by omega) (by omega))), fun j hj hTj => ((((otb j hj hTj).tr (ot5 j (by omega) (by omega))).tr (ot6 j (by omega))).tr (show G_oth j G6 (g_se G6 (lv + 1) 0) from ⟨rfl, rfl, rfl, rfl, g_up_o (by omega), rfl⟩)).tr (ot7 j (by omega) (by omega))⟩
      · refine Z_ret rfl rfl ⟨_, hs, ?_⟩
        try dsimp only
        rw [if_neg (fun e => by omega), if_pos (by omega)]
        exact ⟨rfl, P2, G3, ω3, hp, cs, leb, hpe.1, hv, hn0, otb⟩
    · refine Z_go (f2 := (46, [(6, .ref (P2.2.2.2.1 (lv + 1))), (5, .ref (P2.2.2.2.1 lv)), (4, .int (Zi hg)), (3, .int (Zi lw)), (0, .ref pl), (1, .int (Zi i)), (2, .int (Zi li))], [.ref pl])) (fun _ => rfl) ?_
      refine Z_go (f2 := (48, [(6, .ref (P2.2.2.2.1 (lv + 1))), (5, .ref (P2.2.2.2.1 lv)), (4, .int (Zi hg)), (3, .int (Zi lw)), (0, .ref pl), (1, .int (Zi i)), (2, .int (Zi li))], [.ref (P2.2.2.2.1 lv), .ref pl])) (fun _ => rfl) ?_
      refine C_callV (As := [.ref (P2.2.2.2.1 lv)]) (rest := []) rfl (by decide) rfl (by decide) rfl rfl (by decide +kernel) (Nat.le_of_ble_eq_true rfl) hs hp.1.1.1 (C_sht _ hp B0 B1 (j := lv) (by omega) hpe.1) (fun x h v3 n3 hs q => ?_)
      obtain ⟨rfl, G3, ⟨ω3, hp, cq⟩, hv, ot3⟩ := q
      have cs := cs.tr cq
      show B_R _ _ (51, [(6, .ref (P2.2.2.2.1 (lv + 1))), (5, .ref (P2.2.2.2.1 lv)), (4, .int (Zi hg)), (3, .int (Zi lw)), (0, .ref pl), (1, .int (Zi i)), (2, .int (Zi li))], []) _ _ _
      refine Z_ret rfl rfl ⟨_, hs, ?_⟩
      try dsimp only
      rw [if_pos ⟨by omega, by omega⟩]
      exact ⟨rfl, P2, G3, ω3, hp, cs, leb, hpe.1, hv, hn0.congr (ot3 38 (by omega)), fun j hj hTj => (otb j hj hTj).tr (ot3 j (by omega))⟩
