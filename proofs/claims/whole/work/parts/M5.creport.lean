/-! the class: Report: what is asked of it -/
/-- a row in the box p -/
def D_r2 (s : C_S) (p : List Nat) (u : Nat) (X : List Int) (K : Nat) : Prop := ∃ a c, D_Row s (p ++ [u]) u a c X ∧ c ≤ K
theorem D_r2.fr {Z : List Nat → Prop} {s s2 : C_S} {p : List Nat} {u K : Nat} {X : List Int} (h : D_r2 s p u X K) (w : C_wf s) (k : C_fr Z s s2) (hZ : ¬ Z (p ++ [u])) : D_r2 s2 p u X K ∧ C_rw s2 (some u) = C_rw s (some u) := by
  obtain ⟨a, c, h1, h2⟩ := h
  exact ⟨⟨a, c, h1.fr w k hZ, h2⟩, by rw [(h1.fr w k hZ).rw, h1.rw]⟩
def D_p0 (s : C_S) (p : List Nat) (o u v : Nat) (n2 n3 n4 n5 n6 : Int) : Prop := C_K s o = (14, 0) ∧ C_T s o = p ∧ C_P s o 0 = some u ∧ C_P s o 1 = some v ∧ C_F s o 2 = n2 ∧ C_F s o 3 = n3 ∧ C_F s o 4 = n4 ∧ C_F s o 5 = n5 ∧ C_F s o 6 = n6 ∧ u ≠ v
/-- the report at o: opened files O, hits H, four numbers each -/
def D_Rp (s : C_S) (p : List Nat) (o u v : Nat) (O H : List Int) (n2 n3 n4 n5 n6 : Int) : Prop := D_p0 s p o u v n2 n3 n4 n5 n6 ∧ D_r2 s p u O 400 ∧ D_r2 s p v H 400
def D_pr (s : C_S) (o : Nat) : Nat := C_rw s (C_P s o 0) + C_rw s (C_P s o 1)
theorem D_Rp.fr {Z : List Nat → Prop} {s s2 : C_S} {p : List Nat} {o u v : Nat} {O H : List Int} {n2 n3 n4 n5 n6 : Int} (h : D_Rp s p o u v O H n2 n3 n4 n5 n6) (w : C_wf s) (k : C_fr Z s s2) (hZ : ∀ t, p <+: t → ¬ Z t) : D_Rp s2 p o u v O H n2 n3 n4 n5 n6 ∧ D_pr s2 o = D_pr s o := by
  obtain ⟨⟨h1, h2, h3, h4, h5, h6, h7, h8, h9, h10⟩, g1, g2⟩ := h
  have lo := C_lt w h1 (show 14 < 20 by decide)
  obtain ⟨e1, e2, e3, e4, e5⟩ := k.2.2.1 o lo (by rw [h2]; exact hZ p (L_pre_self p))
  have g1 := g1.fr w k (hZ _ (L_pre_one p u))
  have g2 := g2.fr w k (hZ _ (L_pre_one p v))
  refine ⟨⟨⟨by rw [(k.2.1 o lo).1]; exact h1, by rw [(k.2.1 o lo).2]; exact h2, by rw [e2]; exact h3, by rw [e2]; exact h4, by rw [e1]; exact h5, by rw [e1]; exact h6, by rw [e1]; exact h7, by rw [e1]; exact h8, by rw [e1]; exact h9, h10⟩, g1.1, g2.1⟩, ?_⟩
  unfold D_pr
  rw [e2, h3, h4, g1.2, g2.2]
theorem C_opnd (d : Nat) {s : C_S} {p : List Nat} {o u v : Nat} {O H : List Int} {n2 n3 n4 n5 n6 : Int} {i : Int} (hd : D_Rp s p o u v O H n2 n3 n4 n5 n6) (zi : Zr i) : C_rd (d + 2) 85 [.ref o, .int (Zi i)] s (fun x => x = some (.int (Zi (L_at O i)))) := by
  refine C_enterR (M := E_m85) rfl (Nat.le_of_ble_eq_true rfl) (fun h0 h hs => ?_)
  show B_R (d + 1) _ (0, [(0, .ref o), (1, .int (Zi i))], []) _ _ _
  have hd0 := hd
  have w := hs.1
  obtain ⟨⟨ok, ot, oe, ov, o2, o3, o4, o5, o6, uv⟩, ⟨au, cu, hu, hcu⟩, ⟨av, cv, hv, hcv⟩⟩ := hd
  refine Z_go (f2 := (1, [(0, .ref o), (1, .int (Zi i))], [.ref o])) (fun _ => rfl) ?_
  refine C_gr rfl hs ok (by decide) (Nat.le_of_ble_eq_true rfl) rfl oe ?_
  refine Z_go (f2 := (5, [(0, .ref o), (1, .int (Zi i))], [.int (Zi i), .ref u])) (fun _ => rfl) ?_
  refine C_callVR (As := [.int (Zi i)]) (rest := []) rfl (by decide) rfl (by decide) rfl rfl (by decide +kernel) (Nat.le_of_ble_eq_true rfl) hs (hu).1 (C_at_ _ hu (i := i) (by first | exact hs.zF _ _ | exact Zor_r _ _ | exact hs.zA _ _ | assumption | exact zA _ _ | exact zS _ | exact Zr_not (hs.zA _ _) | exact hs.1.1 _ _ | exact ⟨by omega, by omega⟩)) (fun x q => ?_)
  obtain rfl := q
  have zl81 := D_Row.zat hs hu i
  show B_R _ _ (8, [(0, .ref o), (1, .int (Zi i))], [.int (Zi (L_at O i))]) _ _ _
  refine Z_iret rfl rfl (by first | rfl | decide | exact narrow_b01 (by omega)) ⟨rfl, rfl, rfl⟩
theorem C_hitF (d : Nat) {s : C_S} {p : List Nat} {o u v : Nat} {O H : List Int} {n2 n3 n4 n5 n6 : Int} {i k : Int} (hd : D_Rp s p o u v O H n2 n3 n4 n5 n6) (zi : Zr i) (zk : Zr k) (h2 : n2 ≤ 100000) : C_rd (d + 2) 86 [.ref o, .int (Zi i), .int (Zi k)] s (fun x => x = some (.int (Zi (if 0 ≤ i ∧ i < n2 ∧ 0 ≤ k ∧ k ≤ 3 then L_at H (4 * i + k) else -1)))) := by
  refine C_enterR (M := E_m86) rfl (Nat.le_of_ble_eq_true rfl) (fun h0 h hs => ?_)
  show B_R (d + 1) _ (0, [(0, .ref o), (1, .int (Zi i)), (2, .int (Zi k))], []) _ _ _
  have hd0 := hd
  have w := hs.1
  obtain ⟨⟨ok, ot, oe, ov, o2, o3, o4, o5, o6, uv⟩, ⟨au, cu, hu, hcu⟩, ⟨av, cv, hv, hcv⟩⟩ := hd
  have zn : Zr n2 := by rw [← o2]; exact hs.1.1 _ _
  refine Z_go (f2 := (1, [(0, .ref o), (1, .int (Zi i)), (2, .int (Zi k))], [.int (Zi i)])) (fun _ => rfl) ?_
  refine Z_ilt rfl rfl (by first | exact hs.zF _ _ | exact Zor_r _ _ | exact hs.zA _ _ | assumption | exact zA _ _ | exact zS _ | exact Zr_not (hs.zA _ _) | exact hs.1.1 _ _ | exact ⟨by omega, by omega⟩) (fun c1 => ?_) (fun c1 => ?_)
  · refine Z_go (f2 := (26, [(0, .ref o), (1, .int (Zi i)), (2, .int (Zi k))], [.int (Zi 0)])) (fun _ => rfl) ?_
    refine Z_go (f2 := (27, [(3, .int (Zi 0)), (0, .ref o), (1, .int (Zi i)), (2, .int (Zi k))], [])) (fun _ => rfl) ?_
    refine Z_go (f2 := (28, [(3, .int (Zi 0)), (0, .ref o), (1, .int (Zi i)), (2, .int (Zi k))], [.int (Zi 0)])) (fun _ => rfl) ?_
    refine Z_ieq rfl rfl (by first | exact hs.zF _ _ | exact Zor_r _ _ | exact hs.zA _ _ | assumption | exact zA _ _ | exact zS _ | exact Zr_not (hs.zA _ _) | exact hs.1.1 _ _ | exact ⟨by omega, by omega⟩) (fun c2 => ?_) (fun c2 => ?_)
    · refine Z_go (f2 := (47, [(3, .int (Zi 0)), (0, .ref o), (1, .int (Zi i)), (2, .int (Zi k))], [.int (Zi (-1))])) (fun _ => rfl) ?_
      refine Z_iret rfl rfl (by first | rfl | decide | exact narrow_b01 (by omega)) ⟨rfl, rfl, ?_⟩
      try dsimp only
      first
      | rw [if_neg (by omega)]
      | (exfalso; omega)
    · exfalso; omega
  · refine Z_go (f2 := (5, [(0, .ref o), (1, .int (Zi i)), (2, .int (Zi k))], [.int (Zi i)])) (fun _ => rfl) ?_
    refine Z_go (f2 := (6, [(0, .ref o), (1, .int (Zi i)), (2, .int (Zi k))], [.ref o, .int (Zi i)])) (fun _ => rfl) ?_
    refine C_gi rfl hs ok (by decide) (Nat.le_of_ble_eq_true rfl) rfl ?_
    rw [show C_F (s) o 2 = n2 from (by first | exact o2 | exact (if_neg (fun e => absurd e.1 (by assumption))).trans o2 | exact (if_neg (fun e => absurd e.2 (by decide))).trans o2 | exact (if_neg (fun e => absurd e.2 (by decide))).trans ((if_neg (fun e => absurd e.2 (by decide))).trans o2) | exact (if_neg (fun e => absurd e.2 (by decide))).trans ((if_neg (fun e => absurd e.2 (by decide))).trans ((if_neg (fun e => absurd e.2 (by decide))).trans o2)))]
    show B_R _ _ (9, [(0, .ref o), (1, .int (Zi i)), (2, .int (Zi k))], [.int (Zi n2), .int (Zi i)]) _ _ _
    refine Z_cge rfl rfl (by first | exact hs.zF _ _ | exact Zor_r _ _ | exact hs.zA _ _ | assumption | exact zA _ _ | exact zS _ | exact Zr_not (hs.zA _ _) | exact hs.1.1 _ _ | exact ⟨by omega, by omega⟩) (by first | exact hs.zF _ _ | exact Zor_r _ _ | exact hs.zA _ _ | assumption | exact zA _ _ | exact zS _ | exact Zr_not (hs.zA _ _) | exact hs.1.1 _ _ | exact ⟨by omega, by omega⟩) (fun c3 => ?_) (fun c3 => ?_)
    · refine Z_go (f2 := (26, [(0, .ref o), (1, .int (Zi i)), (2, .int (Zi k))], [.int (Zi 0)])) (fun _ => rfl) ?_
      refine Z_go (f2 := (27, [(3, .int (Zi 0)), (0, .ref o), (1, .int (Zi i)), (2, .int (Zi k))], [])) (fun _ => rfl) ?_
      refine Z_go (f2 := (28, [(3, .int (Zi 0)), (0, .ref o), (1, .int (Zi i)), (2, .int (Zi k))], [.int (Zi 0)])) (fun _ => rfl) ?_
      refine Z_ieq rfl rfl (by first | exact hs.zF _ _ | exact Zor_r _ _ | exact hs.zA _ _ | assumption | exact zA _ _ | exact zS _ | exact Zr_not (hs.zA _ _) | exact hs.1.1 _ _ | exact ⟨by omega, by omega⟩) (fun c4 => ?_) (fun c4 => ?_)
      · refine Z_go (f2 := (47, [(3, .int (Zi 0)), (0, .ref o), (1, .int (Zi i)), (2, .int (Zi k))], [.int (Zi (-1))])) (fun _ => rfl) ?_
        refine Z_iret rfl rfl (by first | rfl | decide | exact narrow_b01 (by omega)) ⟨rfl, rfl, ?_⟩
        try dsimp only
        first
        | rw [if_neg (by omega)]
        | (exfalso; omega)
      · exfalso; omega
    · refine Z_go (f2 := (13, [(0, .ref o), (1, .int (Zi i)), (2, .int (Zi k))], [.int (Zi k)])) (fun _ => rfl) ?_
      refine Z_ilt rfl rfl (by first | exact hs.zF _ _ | exact Zor_r _ _ | exact hs.zA _ _ | assumption | exact zA _ _ | exact zS _ | exact Zr_not (hs.zA _ _) | exact hs.1.1 _ _ | exact ⟨by omega, by omega⟩) (fun c5 => ?_) (fun c5 => ?_)
      · refine Z_go (f2 := (26, [(0, .ref o), (1, .int (Zi i)), (2, .int (Zi k))], [.int (Zi 0)])) (fun _ => rfl) ?_
        refine Z_go (f2 := (27, [(3, .int (Zi 0)), (0, .ref o), (1, .int (Zi i)), (2, .int (Zi k))], [])) (fun _ => rfl) ?_
        refine Z_go (f2 := (28, [(3, .int (Zi 0)), (0, .ref o), (1, .int (Zi i)), (2, .int (Zi k))], [.int (Zi 0)])) (fun _ => rfl) ?_
        refine Z_ieq rfl rfl (by first | exact hs.zF _ _ | exact Zor_r _ _ | exact hs.zA _ _ | assumption | exact zA _ _ | exact zS _ | exact Zr_not (hs.zA _ _) | exact hs.1.1 _ _ | exact ⟨by omega, by omega⟩) (fun c6 => ?_) (fun c6 => ?_)
        · refine Z_go (f2 := (47, [(3, .int (Zi 0)), (0, .ref o), (1, .int (Zi i)), (2, .int (Zi k))], [.int (Zi (-1))])) (fun _ => rfl) ?_
          refine Z_iret rfl rfl (by first | rfl | decide | exact narrow_b01 (by omega)) ⟨rfl, rfl, ?_⟩
          try dsimp only
          first
          | rw [if_neg (by omega)]
          | (exfalso; omega)
        · exfalso; omega
      · refine Z_go (f2 := (17, [(0, .ref o), (1, .int (Zi i)), (2, .int (Zi k))], [.int (Zi k)])) (fun _ => rfl) ?_
        refine Z_go (f2 := (18, [(0, .ref o), (1, .int (Zi i)), (2, .int (Zi k))], [.int (Zi 3), .int (Zi k)])) (fun _ => rfl) ?_
        refine Z_cgt rfl rfl (by first | exact hs.zF _ _ | exact Zor_r _ _ | exact hs.zA _ _ | assumption | exact zA _ _ | exact zS _ | exact Zr_not (hs.zA _ _) | exact hs.1.1 _ _ | exact ⟨by omega, by omega⟩) (by first | exact hs.zF _ _ | exact Zor_r _ _ | exact hs.zA _ _ | assumption | exact zA _ _ | exact zS _ | exact Zr_not (hs.zA _ _) | exact hs.1.1 _ _ | exact ⟨by omega, by omega⟩) (fun c7 => ?_) (fun c7 => ?_)
        · refine Z_go (f2 := (26, [(0, .ref o), (1, .int (Zi i)), (2, .int (Zi k))], [.int (Zi 0)])) (fun _ => rfl) ?_
          refine Z_go (f2 := (27, [(3, .int (Zi 0)), (0, .ref o), (1, .int (Zi i)), (2, .int (Zi k))], [])) (fun _ => rfl) ?_
          refine Z_go (f2 := (28, [(3, .int (Zi 0)), (0, .ref o), (1, .int (Zi i)), (2, .int (Zi k))], [.int (Zi 0)])) (fun _ => rfl) ?_
          refine Z_ieq rfl rfl (by first | exact hs.zF _ _ | exact Zor_r _ _ | exact hs.zA _ _ | assumption | exact zA _ _ | exact zS _ | exact Zr_not (hs.zA _ _) | exact hs.1.1 _ _ | exact ⟨by omega, by omega⟩) (fun c8 => ?_) (fun c8 => ?_)
          · refine Z_go (f2 := (47, [(3, .int (Zi 0)), (0, .ref o), (1, .int (Zi i)), (2, .int (Zi k))], [.int (Zi (-1))])) (fun _ => rfl) ?_
            refine Z_iret rfl rfl (by first | rfl | decide | exact narrow_b01 (by omega)) ⟨rfl, rfl, ?_⟩
            try dsimp only
            first
            | rw [if_neg (by omega)]
            | (exfalso; omega)
          · exfalso; omega
        · refine Z_go (f2 := (22, [(0, .ref o), (1, .int (Zi i)), (2, .int (Zi k))], [.int (Zi 1)])) (fun _ => rfl) ?_
          refine Z_go (f2 := (26, [(0, .ref o), (1, .int (Zi i)), (2, .int (Zi k))], [.int (Zi 1)])) (fun _ => rfl) ?_
          refine Z_go (f2 := (27, [(3, .int (Zi 1)), (0, .ref o), (1, .int (Zi i)), (2, .int (Zi k))], [])) (fun _ => rfl) ?_
          refine Z_go (f2 := (28, [(3, .int (Zi 1)), (0, .ref o), (1, .int (Zi i)), (2, .int (Zi k))], [.int (Zi 1)])) (fun _ => rfl) ?_
          refine Z_ieq rfl rfl (by first | exact hs.zF _ _ | exact Zor_r _ _ | exact hs.zA _ _ | assumption | exact zA _ _ | exact zS _ | exact Zr_not (hs.zA _ _) | exact hs.1.1 _ _ | exact ⟨by omega, by omega⟩) (fun c9 => ?_) (fun c9 => ?_)
          · exfalso; omega
          · refine Z_go (f2 := (32, [(3, .int (Zi 1)), (0, .ref o), (1, .int (Zi i)), (2, .int (Zi k))], [.ref o])) (fun _ => rfl) ?_
            refine C_gr rfl hs ok (by decide) (Nat.le_of_ble_eq_true rfl) rfl ov ?_
            refine Z_go (f2 := (36, [(3, .int (Zi 1)), (0, .ref o), (1, .int (Zi i)), (2, .int (Zi k))], [.int (Zi 4), .ref v])) (fun _ => rfl) ?_
            refine Z_go (f2 := (37, [(3, .int (Zi 1)), (0, .ref o), (1, .int (Zi i)), (2, .int (Zi k))], [.int (Zi i), .int (Zi 4), .ref v])) (fun _ => rfl) ?_
            refine Z_imul rfl ?_
            refine Z_go (f2 := (39, [(3, .int (Zi 1)), (0, .ref o), (1, .int (Zi i)), (2, .int (Zi k))], [.int (Zi k), .int (Zi (4 * i)), .ref v])) (fun _ => rfl) ?_
            refine Z_iadd rfl ?_
            refine C_callVR (As := [.int (Zi (4 * i + k))]) (rest := []) rfl (by decide) rfl (by decide) rfl rfl (by decide +kernel) (Nat.le_of_ble_eq_true rfl) hs (hv).1 (C_at_ _ hv (i := 4 * i + k) (by first | exact hs.zF _ _ | exact Zor_r _ _ | exact hs.zA _ _ | assumption | exact zA _ _ | exact zS _ | exact Zr_not (hs.zA _ _) | exact hs.1.1 _ _ | exact ⟨by omega, by omega⟩)) (fun x q => ?_)
            obtain rfl := q
            have zl82 := D_Row.zat hs hv (4 * i + k)
            show B_R _ _ (43, [(3, .int (Zi 1)), (0, .ref o), (1, .int (Zi i)), (2, .int (Zi k))], [.int (Zi (L_at H (4 * i + k)))]) _ _ _
            refine Z_go (f2 := (47, [(3, .int (Zi 1)), (0, .ref o), (1, .int (Zi i)), (2, .int (Zi k))], [.int (Zi (L_at H (4 * i + k)))])) (fun _ => rfl) ?_
            refine Z_iret rfl rfl (by first | rfl | decide | exact narrow_b01 (by omega)) ⟨rfl, rfl, ?_⟩
            try dsimp only
            rw [if_pos (by omega)]
