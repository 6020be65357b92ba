/-! the reference: opens, whole -/
/-- the slot holds what is planned, and its heads, tails and choices stand -/
def R_opn (s : R_S) (z : Int) (v : P_V) : Prop := R_V s z v ∧ R_EN 100 s z (V_H v) ∧ R_EN 102 s z (V_T v) ∧ R_CC s z (V_C v)
theorem R_opn_vk {s u : R_S} {K : Int → Prop} (h : R_vk s u K) {e : Int} (he : ¬ K e) {v : P_V} (hv : R_opn s e v) : R_opn u e v := by
  have h1 : ∀ q, 96 ≤ q → q ≤ 106 → R_wd q = 1 → u.2.1 q e = s.2.1 q e := fun q q0 q1 w => h.2 q q0 q1 e (by rw [w, Int.ediv_one]; exact he)
  have hk : ∀ q (q0 : 96 ≤ q) (q1 : q ≤ 106) j, j / R_wd q = e → u.2.1 q j = s.2.1 q j := fun q q0 q1 j w => h.2 q q0 q1 j (by rw [w]; exact he)
  obtain ⟨a1, a2, a3, a4⟩ := hv
  exact ⟨R_V_vk h he a1, R_EN_at (h1 100 (by decide) (by decide) rfl) (fun t t0 t1 => hk 101 (by decide) (by decide) _ (by show _ / (12 : Int) = e; have := a2.2.1; omega)) a2, R_EN_at (h1 102 (by decide) (by decide) rfl) (fun t t0 t1 => hk 103 (by decide) (by decide) _ (by show _ / (12 : Int) = e; have := a3.2.1; omega)) a3, R_CC_at (h1 104 (by decide) (by decide) rfl) (fun t t0 t1 => hk 105 (by decide) (by decide) _ (by show _ / (24 : Int) = e; have := a4.2.1; omega)) (fun t t0 t1 i i0 i1 => hk 106 (by decide) (by decide) _ (by show _ / (15360 : Int) = e; have := a4.2.1; have := (a4.2.2.1 t t0 t1).2.1; omega)) a4⟩
theorem F_im_id (A : P_X) : F_im id A = A := funext (fun x => propext ⟨fun ⟨y, hy, h⟩ => by rw [h]; exact hy, fun h => ⟨x, h, rfl⟩⟩)
theorem R_opens (d : Nat) (s : R_S) {z : Int} (zz : Zr z) (z0 : 0 ≤ z) (z1 : z < 44) {v : P_V} (hv : R_V s z v) : R_ok (d + 6) 235 [.int (Zi z)] s (fun x s2 => x = none ∧ R_opn s2 z v ∧ R_vk s s2 (fun e => e = z)) := by
  refine R_enter (M := E_m235) rfl (Nat.le_of_ble_eq_true rfl) (fun h0 h hs => ?_)
  show B_R (d + 5) _ (0, [(0, .ref 83), (1, .int (Zi z))], []) _ _ _
  match v, hv with
  | .inr q, hv =>
    have f96 := hv.1
    refine Z_go (f2 := (1, [(0, .ref 83), (1, .int (Zi z))], [.ref 83])) (fun _ => rfl) ?_
    refine R_gr (q := 94) rfl hs rfl ?_
    show B_R _ _ (4, [(0, .ref 83), (1, .int (Zi z))], [.ref 96]) _ _ _
    refine Z_go (f2 := (5, [(0, .ref 83), (1, .int (Zi z))], [.int (Zi z), .ref 96])) (fun _ => rfl) ?_
    refine R_ba (q := 12) rfl hs rfl rfl (by omega) (by omega) (by decide) ?_
    refine Z_ine rfl rfl (by first | exact hs.zF _ | exact Zor_r _ _ | exact hs.zA _ _ | assumption | exact zA _ _ | exact zS _ | exact Zr_not (hs.zA _ _) | exact ⟨by omega, by omega⟩) (fun c1 => ?_) (fun c1 => ?_)
    · refine Z_go (f2 := (11, [(0, .ref 83), (1, .int (Zi z))], [.ref 83])) (fun _ => rfl) ?_
      refine Z_go (f2 := (12, [(0, .ref 83), (1, .int (Zi z))], [.int (Zi 0), .ref 83])) (fun _ => rfl) ?_
      refine R_pf rfl hs rfl (by first | exact hs.zF _ | exact Zor_r _ _ | exact hs.zA _ _ | assumption | exact zA _ _ | exact zS _ | exact Zr_not (hs.zA _ _) | exact ⟨by omega, by omega⟩) ⟨rfl, rfl, rfl⟩ (fun h hs => ?_)
      refine Z_go (f2 := (16, [(0, .ref 83), (1, .int (Zi z))], [.int (Zi 0)])) (fun _ => rfl) ?_
      refine Z_go (f2 := (17, [(2, .int (Zi 0)), (0, .ref 83), (1, .int (Zi z))], [])) (fun _ => rfl) ?_
      exfalso; omega
    · refine Z_ret rfl rfl ⟨_, hs, ?_, rfl⟩
      exact ⟨rfl, ⟨hv, hv.2.1, hv.2.2.1, hv.2.2.2⟩, R_vk_0 s _⟩
  | .inl A, hv =>
    have f96 := hv.1
    refine Z_go (f2 := (1, [(0, .ref 83), (1, .int (Zi z))], [.ref 83])) (fun _ => rfl) ?_
    refine R_gr (q := 94) rfl hs rfl ?_
    show B_R _ _ (4, [(0, .ref 83), (1, .int (Zi z))], [.ref 96]) _ _ _
    refine Z_go (f2 := (5, [(0, .ref 83), (1, .int (Zi z))], [.int (Zi z), .ref 96])) (fun _ => rfl) ?_
    refine R_ba (q := 12) rfl hs rfl rfl (by omega) (by omega) (by decide) ?_
    refine Z_ine rfl rfl (by first | exact hs.zF _ | exact Zor_r _ _ | exact hs.zA _ _ | assumption | exact zA _ _ | exact zS _ | exact Zr_not (hs.zA _ _) | exact ⟨by omega, by omega⟩) (fun c1 => ?_) (fun c1 => ?_)
    · refine Z_go (f2 := (11, [(0, .ref 83), (1, .int (Zi z))], [.ref 83])) (fun _ => rfl) ?_
      refine Z_go (f2 := (12, [(0, .ref 83), (1, .int (Zi z))], [.int (Zi 0), .ref 83])) (fun _ => rfl) ?_
      refine R_pf rfl hs rfl (by first | exact hs.zF _ | exact Zor_r _ _ | exact hs.zA _ _ | assumption | exact zA _ _ | exact zS _ | exact Zr_not (hs.zA _ _) | exact ⟨by omega, by omega⟩) ⟨rfl, rfl, rfl⟩ (fun h hs => ?_)
      refine Z_go (f2 := (16, [(0, .ref 83), (1, .int (Zi z))], [.int (Zi 0)])) (fun _ => rfl) ?_
      refine Z_go (f2 := (17, [(2, .int (Zi 0)), (0, .ref 83), (1, .int (Zi z))], [])) (fun _ => rfl) ?_
      refine B_loc (K := [(2, .int (Zi 0)), (0, .ref 83), (1, .int (Zi z))]) (N_all_sub ⟨rfl, rfl, rfl, trivial⟩) (show ([2, 0, 1] : List Nat).Nodup by decide) ?_
      refine R_op_h (d := d + 3) (s := s) z0 z1 hv.2.1 (fun u h hs hu => ?_) ((s.2.1 97 z).toNat + 1) 0 _ h (by omega) hs (by rw [R_tf_0]; exact R_shp_0 s) (by omega) hv.2.1.1
      refine Z_go (f2 := (45, [(0, .ref 83), (1, .int (Zi z))], [.ref 83])) (fun _ => rfl) ?_
      refine Z_go (f2 := (46, [(0, .ref 83), (1, .int (Zi z))], [.int (Zi z), .ref 83])) (fun _ => rfl) ?_
      refine Z_go (f2 := (47, [(0, .ref 83), (1, .int (Zi z))], [.int (Zi 1), .int (Zi z), .ref 83])) (fun _ => rfl) ?_
      refine R_call (As := [.int (Zi z), .int (Zi 1)]) (rest := []) rfl (by decide) rfl rfl rfl rfl (by decide +kernel) (Nat.le_of_ble_eq_true rfl) hs (R_shortsAre _ u ⟨by omega, by omega⟩ ⟨by omega, by omega⟩ z0 z1 hu.2.2.2.2.1) (fun x h w hs q => ?_)
      obtain ⟨rfl, q1, q2⟩ := q
      obtain ⟨en, ek⟩ := q1 (by decide)
      rw [hu.2.2.2.2.2, R_tf_all hv.2] at en
      have a3 : ∀ q j, 96 ≤ q → q ≤ 99 → w.2.1 q j = s.2.1 q j := fun q j q0 q1 => (ek.2.1 q j (by omega) (by omega) (by omega) (by omega)).trans (hu.2.1 q j (by omega))
      have hvw : R_EX w z A := R_EX_eq (fun j => a3 97 j (by decide) (by decide)) (fun j => a3 98 j (by decide) (by decide)) (fun j => a3 99 j (by decide) (by decide)) hv.2
      show B_R _ _ (50, [(0, .ref 83), (1, .int (Zi z))], []) _ _ _
      refine Z_go (f2 := (51, [(0, .ref 83), (1, .int (Zi z))], [.ref 83])) (fun _ => rfl) ?_
      refine Z_go (f2 := (52, [(0, .ref 83), (1, .int (Zi z))], [.int (Zi 0), .ref 83])) (fun _ => rfl) ?_
      refine R_pf rfl hs rfl (by first | exact hs.zF _ | exact Zor_r _ _ | exact hs.zA _ _ | assumption | exact zA _ _ | exact zS _ | exact Zr_not (hs.zA _ _) | exact ⟨by omega, by omega⟩) ⟨rfl, rfl, rfl⟩ (fun h hs => ?_)
      refine Z_go (f2 := (56, [(0, .ref 83), (1, .int (Zi z))], [.int (Zi 0)])) (fun _ => rfl) ?_
      refine Z_go (f2 := (57, [(2, .int (Zi 0)), (0, .ref 83), (1, .int (Zi z))], [])) (fun _ => rfl) ?_
      refine B_loc (K := [(2, .int (Zi 0)), (0, .ref 83), (1, .int (Zi z))]) (N_all_sub ⟨rfl, rfl, rfl, trivial⟩) (show ([2, 0, 1] : List Nat).Nodup by decide) ?_
      refine R_op_t (d := d + 3) (s := w) z0 z1 hvw.1 (fun u2 h hs hu2 => ?_) ((w.2.1 97 z).toNat + 1) 0 _ h (by omega) hs (by rw [R_tf_0]; exact R_shp_0 w) (by omega) hvw.1.1
      refine Z_go (f2 := (85, [(0, .ref 83), (1, .int (Zi z))], [.ref 83])) (fun _ => rfl) ?_
      refine Z_go (f2 := (86, [(0, .ref 83), (1, .int (Zi z))], [.int (Zi z), .ref 83])) (fun _ => rfl) ?_
      refine Z_go (f2 := (87, [(0, .ref 83), (1, .int (Zi z))], [.int (Zi 0), .int (Zi z), .ref 83])) (fun _ => rfl) ?_
      refine R_call (As := [.int (Zi z), .int (Zi 0)]) (rest := []) rfl (by decide) rfl rfl rfl rfl (by decide +kernel) (Nat.le_of_ble_eq_true rfl) hs (R_shortsAre _ u2 ⟨by omega, by omega⟩ ⟨by omega, by omega⟩ z0 z1 hu2.2.2.2.2.1) (fun x h w2 hs q => ?_)
      obtain ⟨rfl, q1, q2⟩ := q
      obtain ⟨en2, ek2⟩ := q2 rfl
      rw [hu2.2.2.2.2.2, R_tf_all hvw] at en2
      have a2 : ∀ q j, 96 ≤ q → q ≤ 101 → w2.2.1 q j = w.2.1 q j := fun q j q0 q1 => (ek2.2.1 q j (by omega) (by omega) (by omega) (by omega)).trans (hu2.2.1 q j (by omega))
      have hvw2 : R_EX w2 z A := R_EX_eq (fun j => a2 97 j (by decide) (by decide)) (fun j => a2 98 j (by decide) (by decide)) (fun j => a2 99 j (by decide) (by decide)) hvw
      show B_R _ _ (90, [(0, .ref 83), (1, .int (Zi z))], []) _ _ _
      refine Z_go (f2 := (91, [(0, .ref 83), (1, .int (Zi z))], [.ref 83])) (fun _ => rfl) ?_
      refine Z_go (f2 := (92, [(0, .ref 83), (1, .int (Zi z))], [.int (Zi 0), .ref 83])) (fun _ => rfl) ?_
      refine R_pf rfl hs rfl (by first | exact hs.zF _ | exact Zor_r _ _ | exact hs.zA _ _ | assumption | exact zA _ _ | exact zS _ | exact Zr_not (hs.zA _ _) | exact ⟨by omega, by omega⟩) ⟨rfl, rfl, rfl⟩ (fun h hs => ?_)
      refine Z_go (f2 := (96, [(0, .ref 83), (1, .int (Zi z))], [.int (Zi 0)])) (fun _ => rfl) ?_
      refine Z_go (f2 := (97, [(2, .int (Zi 0)), (0, .ref 83), (1, .int (Zi z))], [])) (fun _ => rfl) ?_
      refine B_loc (K := [(2, .int (Zi 0)), (0, .ref 83), (1, .int (Zi z))]) (N_all_sub ⟨rfl, rfl, rfl, trivial⟩) (show ([2, 0, 1] : List Nat).Nodup by decide) ?_
      refine R_op_l (d := d + 4) (s := w2) z0 z1 hvw2.1 (fun u3 h hs hu3 => ?_) ((w2.2.1 97 z).toNat + 1) 0 _ h (by omega) hs (by rw [R_tf_0]; exact R_lgs_0 w2) (by omega) hvw2.1.1
      refine Z_go (f2 := (186, [(0, .ref 83), (1, .int (Zi z))], [.ref 83])) (fun _ => rfl) ?_
      refine Z_go (f2 := (187, [(0, .ref 83), (1, .int (Zi z))], [.int (Zi z), .ref 83])) (fun _ => rfl) ?_
      refine R_call (As := [.int (Zi z)]) (rest := []) rfl (by decide) rfl rfl rfl rfl (by decide +kernel) (Nat.le_of_ble_eq_true rfl) hs (R_ofLongs _ u3 ⟨by omega, by omega⟩ z0 z1 hu3.2.2.2.2.1) (fun x h w4 hs q => ?_)
      obtain ⟨rfl, c1, c2, c3⟩ := q
      rw [R_LF_LT, hu3.2.2.2.2.2, R_tf_all hvw2, F_im_id] at c1
      show B_R _ _ (190, [(0, .ref 83), (1, .int (Zi z))], []) _ _ _
      refine Z_ret rfl rfl ⟨_, hs, ?_, rfl⟩
      have a1 : ∀ q j, 96 ≤ q → q ≤ 103 → w4.2.1 q j = w2.2.1 q j := fun q j q0 q1 => (c3 q j q0 q1).trans (hu3.2.1 q j (by omega) (by omega))
      have g100 : R_EN 100 w4 z (E_hs (F_im E_hd A)) := R_EN_at (by rw [a1 _ _ (by decide) (by decide), a2 _ _ (by decide) (by decide)]) (fun j _ _ => by rw [a1 _ _ (by decide) (by decide), a2 _ _ (by decide) (by decide)]) en
      have g102 : R_EN 102 w4 z (E_ts (F_im E_tl A)) := R_EN_at (a1 _ _ (by decide) (by decide)) (fun j _ _ => a1 _ _ (by decide) (by decide)) en2
      have gx : R_EX w4 z A := R_EX_eq (fun j => a1 97 j (by decide) (by decide)) (fun j => a1 98 j (by decide) (by decide)) (fun j => a1 99 j (by decide) (by decide)) hvw2
      have g96 : w4.2.1 96 z = 1 := by rw [a1 _ _ (by decide) (by decide), a2 _ _ (by decide) (by decide), a3 _ _ (by decide) (by decide)]; exact f96
      have I : ∀ e, (fun e => e = z) e → (fun e => e = z) e := fun _ h => h
      exact ⟨rfl, ⟨⟨g96, gx⟩, g100, g102, c1⟩, ((((((hu.vk _).trans (ek.vk (.inl rfl)) I I).trans (hu2.vk _) I I).trans (ek2.vk (.inr rfl)) I I).trans (hu3.vk _) I I).trans c2 I I)⟩
    · refine Z_ret rfl rfl ⟨_, hs, ?_, rfl⟩
      exfalso; omega
