/-! the reference: least, whole; choices among the pairs -/
theorem R_PF_109 {s u : R_S} (h : R_only [109] s u) : R_PF u = R_PF s := by
  funext x
  unfold R_PF R_prow
  rw [h.1]
  have e1 : ∀ i, u.2.1 107 i = s.2.1 107 i := fun i => h.2.1 107 i (by decide)
  have e2 : ∀ i, u.2.1 108 i = s.2.1 108 i := fun i => h.2.1 108 i (by decide)
  simp only [e1, e2]
theorem R_lsq.n {s u : R_S} {e n m : Int} (h : R_lsq s u e n (s.1 37)) (hm : D_cn (fun j => ¬ R_go s j) (s.1 37) m) : 0 ≤ n ∧ n ≤ m := by
  obtain ⟨h1, h2, h3, ks, h4, h5, h6, h7⟩ := h
  obtain ⟨l, l1, l2, l3⟩ := hm
  have := (S_card_of h4 (A := fun j => j ∈ ks) (fun _ => Iff.rfl) l.length).mp ⟨l, Nat.le_refl _, fun x hx => (l3 x).mpr ((h6 x).mp hx)⟩
  omega
theorem R_least_min {s : R_S} {u : R_S} {e n m : Int} (pv : R_pv s) (hm : D_cn (fun j => ¬ R_go s j) (s.1 37) m) (m1 : m ≤ 24) (h : R_lsq s u e n (s.1 37)) : R_CC (R_sA u 104 e n) e (F_least (R_PF s)) ∧ R_slf s (R_sA u 104 e n) e := by
  have hn : n ≤ 24 := by have := h.n hm; omega
  have := h.CC pv hn
  unfold F_least
  rw [c_pos ((R_min_card pv hm 24).mpr (by omega))]
  exact this
theorem R_least (d : Nat) (s : R_S) {sl_ : Int} (zsl : Zr sl_) (s0 : 0 ≤ sl_) (s1 : sl_ < 44) (pv : R_pv s) : R_ok (d + 3) 227 [.int (Zi sl_)] s (fun x s2 => x = none ∧ R_CC s2 sl_ (F_least (R_PF s)) ∧ R_slf s s2 sl_) := by
  refine R_enter (M := E_m227) rfl (Nat.le_of_ble_eq_true rfl) (fun h0 h hs => ?_)
  show B_R (d + 2) _ (0, [(0, .ref 83), (1, .int (Zi sl_))], []) _ _ _
  refine Z_go (f2 := (1, [(0, .ref 83), (1, .int (Zi sl_))], [.ref 83])) (fun _ => rfl) ?_
  refine R_call (As := []) (rest := []) rfl (by decide) rfl rfl rfl rfl (by decide +kernel) (Nat.le_of_ble_eq_true rfl) hs (R_leastPairs _ s pv) (fun x h v hs q => ?_)
  obtain ⟨m, rfl, q1, q2, q3⟩ := q
  have pv2 := R_pv_only q1 pv
  have e37 : v.1 37 = s.1 37 := by rw [q1.1]
  have q4 : D_cn (fun j => ¬ R_go v j) (v.1 37) m := by
    rw [e37]
    have : (fun j => ¬ R_go v j) = fun j => ¬ R_go s j := funext (fun j => propext (not_congr (R_go_only q1 j)))
    rw [this]
    exact q3
  have q5 : ∀ j, 0 ≤ j → j < v.1 37 → (v.2.1 109 j = 1 ∧ ¬ R_go v j ∨ v.2.1 109 j = 0 ∧ R_go v j) := fun j j0 j1 => by
    rw [R_go_only q1]
    exact q2 j j0 (by omega)
  have hml := D_cn_le q4 pv2.1
  have p37 := pv2.2.1
  show B_R _ _ (4, [(0, .ref 83), (1, .int (Zi sl_))], [.int (Zi m)]) _ _ _
  refine Z_go (f2 := (5, [(2, .int (Zi m)), (0, .ref 83), (1, .int (Zi sl_))], [])) (fun _ => rfl) ?_
  refine Z_go (f2 := (6, [(2, .int (Zi m)), (0, .ref 83), (1, .int (Zi sl_))], [.int (Zi m)])) (fun _ => rfl) ?_
  refine Z_go (f2 := (8, [(2, .int (Zi m)), (0, .ref 83), (1, .int (Zi sl_))], [.int (Zi 24), .int (Zi m)])) (fun _ => rfl) ?_
  refine Z_cle rfl rfl (by first | exact hs.zF _ | exact Zor_r _ _ | exact hs.zA _ _ | assumption | exact zA _ _ | exact zS _ | exact Zr_not (hs.zA _ _) | exact ⟨by omega, by omega⟩) (by first | exact hs.zF _ | exact Zor_r _ _ | exact hs.zA _ _ | assumption | exact zA _ _ | exact zS _ | exact Zr_not (hs.zA _ _) | exact ⟨by omega, by omega⟩) (fun c1 => ?_) (fun c1 => ?_)
  · refine Z_go (f2 := (18, [(2, .int (Zi m)), (0, .ref 83), (1, .int (Zi sl_))], [.int (Zi 0)])) (fun _ => rfl) ?_
    refine Z_go (f2 := (19, [(3, .int (Zi 0)), (2, .int (Zi m)), (0, .ref 83), (1, .int (Zi sl_))], [])) (fun _ => rfl) ?_
    refine Z_go (f2 := (20, [(3, .int (Zi 0)), (2, .int (Zi m)), (0, .ref 83), (1, .int (Zi sl_))], [.int (Zi 0)])) (fun _ => rfl) ?_
    refine Z_go (f2 := (22, [(4, .int (Zi 0)), (3, .int (Zi 0)), (2, .int (Zi m)), (0, .ref 83), (1, .int (Zi sl_))], [])) (fun _ => rfl) ?_
    refine B_loc (K := [(4, .int (Zi 0)), (3, .int (Zi 0)), (2, .int (Zi m)), (0, .ref 83), (1, .int (Zi sl_))]) (N_all_sub ⟨rfl, rfl, rfl, rfl, rfl, trivial⟩) (show ([4, 3, 2, 0, 1] : List Nat).Nodup by decide) ?_
    refine R_le_out (s := v) pv2 s0 s1 q5 q4 (by omega) (fun u h n hs hu => ?_) ((v.1 37).toNat + 1) 0 0 v h (by omega) hs (R_lsq_0 _ _) (by omega) pv2.1
    have hnn := hu.n q4
    refine Z_go (f2 := (125, [(3, .int (Zi n)), (0, .ref 83), (1, .int (Zi sl_))], [.ref 83])) (fun _ => rfl) ?_
    refine R_gr (q := 102) rfl hs rfl ?_
    show B_R _ _ (128, [(3, .int (Zi n)), (0, .ref 83), (1, .int (Zi sl_))], [.ref 104]) _ _ _
    refine Z_go (f2 := (129, [(3, .int (Zi n)), (0, .ref 83), (1, .int (Zi sl_))], [.int (Zi sl_), .ref 104])) (fun _ => rfl) ?_
    refine Z_go (f2 := (130, [(3, .int (Zi n)), (0, .ref 83), (1, .int (Zi sl_))], [.int (Zi n), .int (Zi sl_), .ref 104])) (fun _ => rfl) ?_
    refine R_is_ (q := 20) rfl hs rfl rfl (by omega) (by omega) (by decide) (by first | exact hs.zF _ | exact Zor_r _ _ | exact hs.zA _ _ | assumption | exact zA _ _ | exact zS _ | exact Zr_not (hs.zA _ _) | exact ⟨by omega, by omega⟩) (fun h hs => ?_)
    refine Z_ret rfl rfl ⟨_, hs, ?_, rfl⟩
    have := R_least_min pv2 q4 (by omega) hu
    rw [R_PF_109 q1] at this
    exact ⟨rfl, this.1, (R_slf_109 q1 sl_).trans this.2⟩
  · refine Z_go (f2 := (12, [(2, .int (Zi m)), (0, .ref 83), (1, .int (Zi sl_))], [.ref 83])) (fun _ => rfl) ?_
    refine Z_go (f2 := (13, [(2, .int (Zi m)), (0, .ref 83), (1, .int (Zi sl_))], [.int (Zi sl_), .ref 83])) (fun _ => rfl) ?_
    refine R_call (As := [.int (Zi sl_)]) (rest := []) rfl (by decide) rfl rfl rfl rfl (by decide +kernel) (Nat.le_of_ble_eq_true rfl) hs (R_cores _ v zsl s0 s1 pv2 (by omega)) (fun x h w hs q => ?_)
    obtain ⟨rfl, u, n, q6, q7, q8⟩ := q
    show B_R _ _ (16, [(2, .int (Zi m)), (0, .ref 83), (1, .int (Zi sl_))], []) _ _ _
    refine Z_ret rfl rfl ⟨_, hs, ?_, rfl⟩
    obtain ⟨c1, c2⟩ := R_core_CC pv2 (by omega) s0 q6 q7
    refine ⟨rfl, ?_, (R_slf_109 q1 sl_).trans (by rw [q8]; exact c2)⟩
    rw [q8]
    unfold F_least
    rw [c_neg (fun h => by have := (R_min_card pv q3 24).mp h; omega), ← R_PF_109 q1]
    exact c1
