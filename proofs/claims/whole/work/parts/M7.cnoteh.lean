/-! the class: Report: a hit is noted -/
theorem C_noteH (d : Nat) {s : C_S} {p : List Nat} {o u v : Nat} {O H : List Int} {n2 n3 n4 n5 n6 : Int} {a b c e : Int} (hd : D_Rp s p o u v O H n2 n3 n4 n5 n6) (za : Zr a) (zb : Zr b) (zc : Zr c) (ze : Zr e) (lH : H.length + 4 ≤ 200) (h2 : Zr (n2 + 1)) (h5 : Zr (n5 + 1)) : C_ok (d + 4) 84 [.ref o, .int (Zi a), .int (Zi b), .int (Zi c), .int (Zi e)] s (fun x s2 n => x = none ∧ C_fr (fun t => p <+: t) s s2 ∧ n + 2 * D_pr s o ≤ 2 * D_pr s2 o ∧ 8 * C_n s2 + D_pr s o ≤ 8 * C_n s + D_pr s2 o ∧ D_Rp s2 p o u v O (H ++ [a, b, c, e]) (n2 + 1) n3 n4 (n5 + 1) n6) := by
  refine C_enter (M := E_m84) rfl (Nat.le_of_ble_eq_true rfl) (fun h0 h hs => ?_)
  show B_R (d + 3) _ (0, [(0, .ref o), (1, .int (Zi a)), (2, .int (Zi b)), (3, .int (Zi c)), (4, .int (Zi e))], []) _ _ _
  have hd0 := hd
  have w := hs.1
  obtain ⟨⟨ok, ot, oe, ov, o2, o3, o4, o5, o6, uv⟩, ⟨au, cu, hu, hcu⟩, ⟨av, cv, hv, hcv⟩⟩ := hd
  refine Z_go (f2 := (1, [(0, .ref o), (1, .int (Zi a)), (2, .int (Zi b)), (3, .int (Zi c)), (4, .int (Zi e))], [.ref o])) (fun _ => rfl) ?_
  refine C_gr rfl hs ok (by decide) (Nat.le_of_ble_eq_true rfl) rfl ov ?_
  refine Z_go (f2 := (5, [(0, .ref o), (1, .int (Zi a)), (2, .int (Zi b)), (3, .int (Zi c)), (4, .int (Zi e))], [.int (Zi a), .ref v])) (fun _ => rfl) ?_
  refine C_callV (As := [.int (Zi a)]) (rest := []) rfl (by decide) rfl (by decide) rfl rfl (by decide +kernel) (Nat.le_of_ble_eq_true rfl) hs (hv).1 (C_push _ hv (v := a) za (by omega)) (fun x h w1 m1 hs q => ?_)
  obtain ⟨rfl, hw1⟩ := q
  obtain ⟨hd1, q1a, q1b, q1c⟩ := hd0.pv w hv hcv hw1 (by omega)
  have wf1 := hs.1
  obtain ⟨au1, cu1, hu1, hcu1⟩ := hd1.2.1
  obtain ⟨av1, cv1, hv1, hcv1⟩ := hd1.2.2
  show B_R _ _ (8, [(0, .ref o), (1, .int (Zi a)), (2, .int (Zi b)), (3, .int (Zi c)), (4, .int (Zi e))], []) _ _ _
  refine Z_go (f2 := (9, [(0, .ref o), (1, .int (Zi a)), (2, .int (Zi b)), (3, .int (Zi c)), (4, .int (Zi e))], [.ref o])) (fun _ => rfl) ?_
  refine C_gr rfl hs (hd1).1.1 (by decide) (Nat.le_of_ble_eq_true rfl) rfl (hd1).1.2.2.2.1 ?_
  refine Z_go (f2 := (13, [(0, .ref o), (1, .int (Zi a)), (2, .int (Zi b)), (3, .int (Zi c)), (4, .int (Zi e))], [.int (Zi b), .ref v])) (fun _ => rfl) ?_
  refine C_callV (As := [.int (Zi b)]) (rest := []) rfl (by decide) rfl (by decide) rfl rfl (by decide +kernel) (Nat.le_of_ble_eq_true rfl) hs (hv1).1 (C_push _ hv1 (v := b) zb (by simp only [List.length_append, List.length_cons, List.length_nil]; omega)) (fun x h w2 m2 hs q => ?_)
  obtain ⟨rfl, hw2⟩ := q
  obtain ⟨hd2, q2a, q2b, q2c⟩ := hd1.pv wf1 hv1 hcv1 hw2 (by simp only [List.length_append, List.length_cons, List.length_nil]; omega)
  have wf2 := hs.1
  obtain ⟨au2, cu2, hu2, hcu2⟩ := hd2.2.1
  obtain ⟨av2, cv2, hv2, hcv2⟩ := hd2.2.2
  show B_R _ _ (16, [(0, .ref o), (1, .int (Zi a)), (2, .int (Zi b)), (3, .int (Zi c)), (4, .int (Zi e))], []) _ _ _
  refine Z_go (f2 := (17, [(0, .ref o), (1, .int (Zi a)), (2, .int (Zi b)), (3, .int (Zi c)), (4, .int (Zi e))], [.ref o])) (fun _ => rfl) ?_
  refine C_gr rfl hs (hd2).1.1 (by decide) (Nat.le_of_ble_eq_true rfl) rfl (hd2).1.2.2.2.1 ?_
  refine Z_go (f2 := (21, [(0, .ref o), (1, .int (Zi a)), (2, .int (Zi b)), (3, .int (Zi c)), (4, .int (Zi e))], [.int (Zi c), .ref v])) (fun _ => rfl) ?_
  refine C_callV (As := [.int (Zi c)]) (rest := []) rfl (by decide) rfl (by decide) rfl rfl (by decide +kernel) (Nat.le_of_ble_eq_true rfl) hs (hv2).1 (C_push _ hv2 (v := c) zc (by simp only [List.length_append, List.length_cons, List.length_nil]; omega)) (fun x h w3 m3 hs q => ?_)
  obtain ⟨rfl, hw3⟩ := q
  obtain ⟨hd3, q3a, q3b, q3c⟩ := hd2.pv wf2 hv2 hcv2 hw3 (by simp only [List.length_append, List.length_cons, List.length_nil]; omega)
  have wf3 := hs.1
  obtain ⟨au3, cu3, hu3, hcu3⟩ := hd3.2.1
  obtain ⟨av3, cv3, hv3, hcv3⟩ := hd3.2.2
  show B_R _ _ (24, [(0, .ref o), (1, .int (Zi a)), (2, .int (Zi b)), (3, .int (Zi c)), (4, .int (Zi e))], []) _ _ _
  refine Z_go (f2 := (25, [(0, .ref o), (1, .int (Zi a)), (2, .int (Zi b)), (3, .int (Zi c)), (4, .int (Zi e))], [.ref o])) (fun _ => rfl) ?_
  refine C_gr rfl hs (hd3).1.1 (by decide) (Nat.le_of_ble_eq_true rfl) rfl (hd3).1.2.2.2.1 ?_
  refine Z_go (f2 := (30, [(0, .ref o), (1, .int (Zi a)), (2, .int (Zi b)), (3, .int (Zi c)), (4, .int (Zi e))], [.int (Zi e), .ref v])) (fun _ => rfl) ?_
  refine C_callV (As := [.int (Zi e)]) (rest := []) rfl (by decide) rfl (by decide) rfl rfl (by decide +kernel) (Nat.le_of_ble_eq_true rfl) hs (hv3).1 (C_push _ hv3 (v := e) ze (by simp only [List.length_append, List.length_cons, List.length_nil]; omega)) (fun x h w4 m4 hs q => ?_)
  obtain ⟨rfl, hw4⟩ := q
  obtain ⟨hd4, q4a, q4b, q4c⟩ := hd3.pv wf3 hv3 hcv3 hw4 (by simp only [List.length_append, List.length_cons, List.length_nil]; omega)
  have wf4 := hs.1
  obtain ⟨au4, cu4, hu4, hcu4⟩ := hd4.2.1
  obtain ⟨av4, cv4, hv4, hcv4⟩ := hd4.2.2
  show B_R _ _ (33, [(0, .ref o), (1, .int (Zi a)), (2, .int (Zi b)), (3, .int (Zi c)), (4, .int (Zi e))], []) _ _ _
  refine Z_go (f2 := (34, [(0, .ref o), (1, .int (Zi a)), (2, .int (Zi b)), (3, .int (Zi c)), (4, .int (Zi e))], [.ref o])) (fun _ => rfl) ?_
  refine Z_go (f2 := (35, [(0, .ref o), (1, .int (Zi a)), (2, .int (Zi b)), (3, .int (Zi c)), (4, .int (Zi e))], [.ref o, .ref o])) (fun _ => rfl) ?_
  refine C_gi rfl hs (hd4).1.1 (by decide) (Nat.le_of_ble_eq_true rfl) rfl ?_
  rw [show C_F (w4) o 2 = n2 from (by first | exact (hd4).1.2.2.2.2.1 | exact (if_neg (fun e => absurd e.1 (by assumption))).trans (hd4).1.2.2.2.2.1 | exact (if_neg (fun e => absurd e.2 (by decide))).trans (hd4).1.2.2.2.2.1 | exact (if_neg (fun e => absurd e.2 (by decide))).trans ((if_neg (fun e => absurd e.2 (by decide))).trans (hd4).1.2.2.2.2.1) | exact (if_neg (fun e => absurd e.2 (by decide))).trans ((if_neg (fun e => absurd e.2 (by decide))).trans ((if_neg (fun e => absurd e.2 (by decide))).trans (hd4).1.2.2.2.2.1)))]
  show B_R _ _ (38, [(0, .ref o), (1, .int (Zi a)), (2, .int (Zi b)), (3, .int (Zi c)), (4, .int (Zi e))], [.int (Zi n2), .ref o]) _ _ _
  refine Z_go (f2 := (39, [(0, .ref o), (1, .int (Zi a)), (2, .int (Zi b)), (3, .int (Zi c)), (4, .int (Zi e))], [.int (Zi 1), .int (Zi n2), .ref o])) (fun _ => rfl) ?_
  refine Z_iadd rfl ?_
  refine C_pi rfl hs (hd4).1.1 (by decide) (Nat.le_of_ble_eq_true rfl) (.inl rfl) rfl rfl rfl (by first | exact hs.zF _ _ | exact Zor_r _ _ | exact hs.zA _ _ | assumption | exact zA _ _ | exact zS _ | exact Zr_not (hs.zA _ _) | exact hs.1.1 _ _ | exact ⟨by omega, by omega⟩) (fun h hs => ?_)
  have hsA := hs
  refine Z_go (f2 := (44, [(0, .ref o), (1, .int (Zi a)), (2, .int (Zi b)), (3, .int (Zi c)), (4, .int (Zi e))], [.ref o])) (fun _ => rfl) ?_
  refine Z_go (f2 := (45, [(0, .ref o), (1, .int (Zi a)), (2, .int (Zi b)), (3, .int (Zi c)), (4, .int (Zi e))], [.ref o, .ref o])) (fun _ => rfl) ?_
  refine C_gi rfl hs (hd4).1.1 (by decide) (Nat.le_of_ble_eq_true rfl) rfl ?_
  rw [show C_F (C_sF w4 o 2 (n2 + 1)) o 5 = n5 from (by first | exact (hd4).1.2.2.2.2.2.2.2.1 | exact (if_neg (fun e => absurd e.1 (by assumption))).trans (hd4).1.2.2.2.2.2.2.2.1 | exact (if_neg (fun e => absurd e.2 (by decide))).trans (hd4).1.2.2.2.2.2.2.2.1 | exact (if_neg (fun e => absurd e.2 (by decide))).trans ((if_neg (fun e => absurd e.2 (by decide))).trans (hd4).1.2.2.2.2.2.2.2.1) | exact (if_neg (fun e => absurd e.2 (by decide))).trans ((if_neg (fun e => absurd e.2 (by decide))).trans ((if_neg (fun e => absurd e.2 (by decide))).trans (hd4).1.2.2.2.2.2.2.2.1)))]
  show B_R _ _ (48, [(0, .ref o), (1, .int (Zi a)), (2, .int (Zi b)), (3, .int (Zi c)), (4, .int (Zi e))], [.int (Zi n5), .ref o]) _ _ _
  refine Z_go (f2 := (49, [(0, .ref o), (1, .int (Zi a)), (2, .int (Zi b)), (3, .int (Zi c)), (4, .int (Zi e))], [.int (Zi 1), .int (Zi n5), .ref o])) (fun _ => rfl) ?_
  refine Z_iadd rfl ?_
  refine C_pi rfl hs (hd4).1.1 (by decide) (Nat.le_of_ble_eq_true rfl) (.inl rfl) rfl rfl rfl (by first | exact hs.zF _ _ | exact Zor_r _ _ | exact hs.zA _ _ | assumption | exact zA _ _ | exact zS _ | exact Zr_not (hs.zA _ _) | exact hs.1.1 _ _ | exact ⟨by omega, by omega⟩) (fun h hs => ?_)
  refine Z_ret rfl rfl ⟨_, hs, ?_⟩
  try dsimp only
  obtain ⟨hd5, p1, p2⟩ := hd4.sF wf4 2 (n2 + 1)
  have wf5 : C_wf (C_sF w4 o 2 (n2 + 1)) := hsA.1
  obtain ⟨hd6, p3, p4⟩ := hd5.sF wf5 5 (n5 + 1)
  refine ⟨rfl, ?_, by rw [p3, p1]; omega, ?_, ?_⟩
  · exact ((((q1c.trans q2c (fun _ e => e) (fun _ e => e)).trans q3c (fun _ e => e) (fun _ e => e)).trans q4c (fun _ e => e) (fun _ e => e)).trans p2 (fun _ e => e) (fun _ e => e)).trans p4 (fun _ e => e) (fun _ e => e)
  · rw [p3, p1]
    show 8 * C_n w4 + D_pr s o ≤ _
    omega
  · rw [List.append_assoc, List.append_assoc, List.append_assoc] at hd6
    exact hd6
