/-! the class: Report: what is noted -/
theorem D_Rp.pu {s w : C_S} {p : List Nat} {o u v : Nat} {O H : List Int} {n2 n3 n4 n5 n6 : Int} {X : List Int} {B : Int} {n a c : Nat} (hd : D_Rp s p o u v O H n2 n3 n4 n5 n6) (wf : C_wf s) (hr : D_Row s (p ++ [u]) u a c O) (hc : c ≤ 400) (hw : D_rw (p ++ [u]) u c X B s w n) (hB : 2 * B ≤ 400) : D_Rp w p o u v X H n2 n3 n4 n5 n6 ∧ n + 2 * D_pr s o ≤ 2 * D_pr w o ∧ 8 * C_n w + D_pr s o ≤ 8 * C_n s + D_pr w o ∧ C_fr (fun t => p <+: t) s w := by
  obtain ⟨a2, cap2, r1, r2, r3, r4, r5⟩ := hw
  obtain ⟨⟨h1, h2, h3, h4, h5, h6, h7, h8, h9, h10⟩, g1, g2⟩ := hd
  have lo := C_lt wf h1 (show 14 < 20 by decide)
  obtain ⟨e1, e2, e3, e4, e5⟩ := r2.2.2.1 o lo (by rw [h2]; exact L_app_ne p u)
  have g2 := g2.fr wf r2 (fun e => L_app_ne2 h10 e.symm)
  refine ⟨⟨⟨by rw [(r2.2.1 o lo).1]; exact h1, by rw [(r2.2.1 o lo).2]; exact h2, by rw [e2]; exact h3, by rw [e2]; exact h4, by rw [e1]; exact h5, by rw [e1]; exact h6, by rw [e1]; exact h7, by rw [e1]; exact h8, by rw [e1]; exact h9, h10⟩, ⟨a2, cap2, r1, by omega⟩, g2.1⟩, ?_, ?_, r2.weak (fun t e => by rw [e]; exact L_pre_one p u)⟩
  · unfold D_pr
    rw [e2, h3, h4, g2.2, r1.rw, hr.rw]
    omega
  · unfold D_pr
    rw [e2, h3, h4, g2.2, r1.rw, hr.rw]
    omega
theorem D_Rp.pv {s w : C_S} {p : List Nat} {o u v : Nat} {O H : List Int} {n2 n3 n4 n5 n6 : Int} {X : List Int} {B : Int} {n a c : Nat} (hd : D_Rp s p o u v O H n2 n3 n4 n5 n6) (wf : C_wf s) (hr : D_Row s (p ++ [v]) v a c H) (hc : c ≤ 400) (hw : D_rw (p ++ [v]) v c X B s w n) (hB : 2 * B ≤ 400) : D_Rp w p o u v O X n2 n3 n4 n5 n6 ∧ n + 2 * D_pr s o ≤ 2 * D_pr w o ∧ 8 * C_n w + D_pr s o ≤ 8 * C_n s + D_pr w o ∧ C_fr (fun t => p <+: t) s w := by
  obtain ⟨a2, cap2, r1, r2, r3, r4, r5⟩ := hw
  obtain ⟨⟨h1, h2, h3, h4, h5, h6, h7, h8, h9, h10⟩, g1, g2⟩ := hd
  have lo := C_lt wf h1 (show 14 < 20 by decide)
  obtain ⟨e1, e2, e3, e4, e5⟩ := r2.2.2.1 o lo (by rw [h2]; exact L_app_ne p v)
  have g1 := g1.fr wf r2 (fun e => L_app_ne2 h10 e)
  refine ⟨⟨⟨by rw [(r2.2.1 o lo).1]; exact h1, by rw [(r2.2.1 o lo).2]; exact h2, by rw [e2]; exact h3, by rw [e2]; exact h4, by rw [e1]; exact h5, by rw [e1]; exact h6, by rw [e1]; exact h7, by rw [e1]; exact h8, by rw [e1]; exact h9, h10⟩, g1.1, ⟨a2, cap2, r1, by omega⟩⟩, ?_, ?_, r2.weak (fun t e => by rw [e]; exact L_pre_one p v)⟩
  · unfold D_pr
    rw [e2, h3, h4, g1.2, r1.rw, hr.rw]
    omega
  · unfold D_pr
    rw [e2, h3, h4, g1.2, r1.rw, hr.rw]
    omega
theorem D_Rp.sF {s : C_S} {p : List Nat} {o u v : Nat} {O H : List Int} {n2 n3 n4 n5 n6 : Int} (hd : D_Rp s p o u v O H n2 n3 n4 n5 n6) (wf : C_wf s) (b : Nat) (z : Int) : D_Rp (C_sF s o b z) p o u v O H (if b = 2 then z else n2) (if b = 3 then z else n3) (if b = 4 then z else n4) (if b = 5 then z else n5) (if b = 6 then z else n6) ∧ D_pr (C_sF s o b z) o = D_pr s o ∧ C_fr (fun t => p <+: t) s (C_sF s o b z) := by
  obtain ⟨⟨h1, h2, h3, h4, h5, h6, h7, h8, h9, h10⟩, g1, g2⟩ := hd
  have fr : C_fr (fun t => t = p) s (C_sF s o b z) := (C_fr.refl _ s).sF h2
  have g1 := g1.fr wf fr (fun e => L_app_ne p u e.symm)
  have g2 := g2.fr wf fr (fun e => L_app_ne p v e.symm)
  have hF : ∀ c n : _, C_F s o c = n → C_F (C_sF s o b z) o c = if b = c then z else n := fun c n e => by
    show (if o = o ∧ c = b then z else C_F s o c) = _
    by_cases q : b = c
    · rw [if_pos ⟨rfl, q.symm⟩, if_pos q]
    · rw [if_neg (fun t => q t.2.symm), if_neg q, e]
  refine ⟨⟨⟨h1, h2, h3, h4, hF 2 _ h5, hF 3 _ h6, hF 4 _ h7, hF 5 _ h8, hF 6 _ h9, h10⟩, g1.1, g2.1⟩, ?_, fr.weak (fun t e => by rw [e]; exact L_pre_self p)⟩
  show C_rw (C_sF s o b z) (C_P s o 0) + C_rw (C_sF s o b z) (C_P s o 1) = _
  unfold D_pr
  rw [h3, h4, g1.2, g2.2]
theorem C_noteO (d : Nat) {s : C_S} {p : List Nat} {o u v : Nat} {O H : List Int} {n2 n3 n4 n5 n6 : Int} {f : Int} (hd : D_Rp s p o u v O H n2 n3 n4 n5 n6) (zf : Zr f) (lO : O.length + 1 ≤ 200) (h4 : Zr (n4 + 1)) : C_ok (d + 4) 83 [.ref o, .int (Zi f)] s (fun x s2 n => x = none ∧ C_fr (fun t => p <+: t) s s2 ∧ n + 2 * D_pr s o ≤ 2 * D_pr s2 o ∧ 8 * C_n s2 + D_pr s o ≤ 8 * C_n s + D_pr s2 o ∧ D_Rp s2 p o u v (O ++ [f]) H n2 n3 (n4 + 1) n5 n6) := by
  refine C_enter (M := E_m83) rfl (Nat.le_of_ble_eq_true rfl) (fun h0 h hs => ?_)
  show B_R (d + 3) _ (0, [(0, .ref o), (1, .int (Zi f))], []) _ _ _
  have hd0 := hd
  have w := hs.1
  obtain ⟨⟨ok, ot, oe, ov, o2, o3, o4, o5, o6, uv⟩, ⟨au, cu, hu, hcu⟩, ⟨av, cv, hv, hcv⟩⟩ := hd
  refine Z_go (f2 := (1, [(0, .ref o), (1, .int (Zi f))], [.ref o])) (fun _ => rfl) ?_
  refine C_gr rfl hs ok (by decide) (Nat.le_of_ble_eq_true rfl) rfl oe ?_
  refine Z_go (f2 := (5, [(0, .ref o), (1, .int (Zi f))], [.int (Zi f), .ref u])) (fun _ => rfl) ?_
  refine C_callV (As := [.int (Zi f)]) (rest := []) rfl (by decide) rfl (by decide) rfl rfl (by decide +kernel) (Nat.le_of_ble_eq_true rfl) hs (hu).1 (C_push _ hu (v := f) zf (by omega)) (fun x h w1 n hs q => ?_)
  obtain ⟨rfl, hw⟩ := q
  obtain ⟨hd1, q1, q2, q3⟩ := hd0.pu w hu hcu hw (by omega)
  show B_R _ _ (8, [(0, .ref o), (1, .int (Zi f))], []) _ _ _
  have hs1 := hs
  refine Z_go (f2 := (9, [(0, .ref o), (1, .int (Zi f))], [.ref o])) (fun _ => rfl) ?_
  refine Z_go (f2 := (10, [(0, .ref o), (1, .int (Zi f))], [.ref o, .ref o])) (fun _ => rfl) ?_
  refine C_gi rfl hs (hd1).1.1 (by decide) (Nat.le_of_ble_eq_true rfl) rfl ?_
  rw [show C_F (w1) o 4 = n4 from (by first | exact (hd1).1.2.2.2.2.2.2.1 | exact (if_neg (fun e => absurd e.1 (by assumption))).trans (hd1).1.2.2.2.2.2.2.1 | exact (if_neg (fun e => absurd e.2 (by decide))).trans (hd1).1.2.2.2.2.2.2.1 | exact (if_neg (fun e => absurd e.2 (by decide))).trans ((if_neg (fun e => absurd e.2 (by decide))).trans (hd1).1.2.2.2.2.2.2.1) | exact (if_neg (fun e => absurd e.2 (by decide))).trans ((if_neg (fun e => absurd e.2 (by decide))).trans ((if_neg (fun e => absurd e.2 (by decide))).trans (hd1).1.2.2.2.2.2.2.1)))]
  show B_R _ _ (13, [(0, .ref o), (1, .int (Zi f))], [.int (Zi n4), .ref o]) _ _ _
  refine Z_go (f2 := (14, [(0, .ref o), (1, .int (Zi f))], [.int (Zi 1), .int (Zi n4), .ref o])) (fun _ => rfl) ?_
  refine Z_iadd rfl ?_
  refine C_pi rfl hs (hd1).1.1 (by decide) (Nat.le_of_ble_eq_true rfl) (.inl rfl) rfl rfl rfl (by first | exact hs.zF _ _ | exact Zor_r _ _ | exact hs.zA _ _ | assumption | exact zA _ _ | exact zS _ | exact Zr_not (hs.zA _ _) | exact hs.1.1 _ _ | exact ⟨by omega, by omega⟩) (fun h hs => ?_)
  refine Z_ret rfl rfl ⟨_, hs, ?_⟩
  try dsimp only
  obtain ⟨hd2, q4, q5⟩ := hd1.sF hs1.1 4 (n4 + 1)
  exact ⟨rfl, q3.trans q5 (fun _ e => e) (fun _ e => e), by rw [q4]; omega, by rw [q4]; exact q2, hd2⟩
theorem C_begin (d : Nat) {s : C_S} {p : List Nat} {o u v : Nat} {O H : List Int} {n2 n3 n4 n5 n6 : Int} {m : Int} (hd : D_Rp s p o u v O H n2 n3 n4 n5 n6) (zm : Zr m) (h3 : Zr (n3 + 1)) : C_ok (d + 2) 82 [.ref o, .int (Zi m)] s (fun x s2 n => x = none ∧ n = 0 ∧ C_n s2 = C_n s ∧ C_fr (fun t => p <+: t) s s2 ∧ D_pr s2 o = D_pr s o ∧ D_Rp s2 p o u v [] [] 0 (n3 + 1) n4 n5 m) := by
  refine C_enter (M := E_m82) rfl (Nat.le_of_ble_eq_true rfl) (fun h0 h hs => ?_)
  show B_R (d + 1) _ (0, [(0, .ref o), (1, .int (Zi m))], []) _ _ _
  have hd0 := hd
  have w := hs.1
  obtain ⟨⟨ok, ot, oe, ov, o2, o3, o4, o5, o6, uv⟩, ⟨au, cu, hu, hcu⟩, ⟨av, cv, hv, hcv⟩⟩ := hd
  refine Z_go (f2 := (1, [(0, .ref o), (1, .int (Zi m))], [.ref o])) (fun _ => rfl) ?_
  refine C_gr rfl hs ok (by decide) (Nat.le_of_ble_eq_true rfl) rfl oe ?_
  refine C_callV (As := []) (rest := []) rfl (by decide) rfl (by decide) rfl rfl (by decide +kernel) (Nat.le_of_ble_eq_true rfl) hs (hu).1 (C_clear _ hu) (fun x h w1 m1 hs q => ?_)
  obtain ⟨rfl, rfl, hr1, fr1, en1⟩ := q
  obtain ⟨hd1, q1, q2, q3⟩ := hd0.pu (B := 0) (n := 0) w hu hcu (X := []) ⟨au, cu, hr1, fr1, by omega, by rw [en1]; omega, .inl (Int.le_refl _)⟩ (by omega)
  have w1f := hs.1
  obtain ⟨au1, cu1, hu1, hcu1⟩ := hd1.2.1
  obtain ⟨av1, cv1, hv1, hcv1⟩ := hd1.2.2
  have hs1 := hs
  show B_R _ _ (7, [(0, .ref o), (1, .int (Zi m))], []) _ _ _
  refine Z_go (f2 := (8, [(0, .ref o), (1, .int (Zi m))], [.ref o])) (fun _ => rfl) ?_
  refine C_gr rfl hs (hd1).1.1 (by decide) (Nat.le_of_ble_eq_true rfl) rfl (hd1).1.2.2.2.1 ?_
  refine C_callV (As := []) (rest := []) rfl (by decide) rfl (by decide) rfl rfl (by decide +kernel) (Nat.le_of_ble_eq_true rfl) hs (hv1).1 (C_clear _ hv1) (fun x h w2 m2 hs q => ?_)
  obtain ⟨rfl, rfl, hr2, fr2, en2⟩ := q
  obtain ⟨hd2, q4, q5, q6⟩ := hd1.pv (B := 0) (n := 0) w1f hv1 hcv1 (X := []) ⟨av1, cv1, hr2, fr2, by omega, by rw [en2]; omega, .inl (Int.le_refl _)⟩ (by omega)
  obtain ⟨au2, cu2, hu2, hcu2⟩ := hd2.2.1
  obtain ⟨av2, cv2, hv2, hcv2⟩ := hd2.2.2
  have hs2 := hs
  show B_R _ _ (14, [(0, .ref o), (1, .int (Zi m))], []) _ _ _
  refine Z_go (f2 := (15, [(0, .ref o), (1, .int (Zi m))], [.ref o])) (fun _ => rfl) ?_
  refine Z_go (f2 := (16, [(0, .ref o), (1, .int (Zi m))], [.int (Zi 0), .ref o])) (fun _ => rfl) ?_
  refine C_pi rfl hs (hd2).1.1 (by decide) (Nat.le_of_ble_eq_true rfl) (.inl rfl) rfl rfl rfl (by first | exact hs.zF _ _ | exact Zor_r _ _ | exact hs.zA _ _ | assumption | exact zA _ _ | exact zS _ | exact Zr_not (hs.zA _ _) | exact hs.1.1 _ _ | exact ⟨by omega, by omega⟩) (fun h hs => ?_)
  have hsA := hs
  refine Z_go (f2 := (20, [(0, .ref o), (1, .int (Zi m))], [.ref o])) (fun _ => rfl) ?_
  refine Z_go (f2 := (21, [(0, .ref o), (1, .int (Zi m))], [.ref o, .ref o])) (fun _ => rfl) ?_
  refine C_gi rfl hs (hd2).1.1 (by decide) (Nat.le_of_ble_eq_true rfl) rfl ?_
  rw [show C_F (C_sF w2 o 2 0) o 3 = n3 from (by first | exact (hd2).1.2.2.2.2.2.1 | exact (if_neg (fun e => absurd e.1 (by assumption))).trans (hd2).1.2.2.2.2.2.1 | exact (if_neg (fun e => absurd e.2 (by decide))).trans (hd2).1.2.2.2.2.2.1 | exact (if_neg (fun e => absurd e.2 (by decide))).trans ((if_neg (fun e => absurd e.2 (by decide))).trans (hd2).1.2.2.2.2.2.1) | exact (if_neg (fun e => absurd e.2 (by decide))).trans ((if_neg (fun e => absurd e.2 (by decide))).trans ((if_neg (fun e => absurd e.2 (by decide))).trans (hd2).1.2.2.2.2.2.1)))]
  show B_R _ _ (24, [(0, .ref o), (1, .int (Zi m))], [.int (Zi n3), .ref o]) _ _ _
  refine Z_go (f2 := (25, [(0, .ref o), (1, .int (Zi m))], [.int (Zi 1), .int (Zi n3), .ref o])) (fun _ => rfl) ?_
  refine Z_iadd rfl ?_
  refine C_pi rfl hs (hd2).1.1 (by decide) (Nat.le_of_ble_eq_true rfl) (.inl rfl) rfl rfl rfl (by first | exact hs.zF _ _ | exact Zor_r _ _ | exact hs.zA _ _ | assumption | exact zA _ _ | exact zS _ | exact Zr_not (hs.zA _ _) | exact hs.1.1 _ _ | exact ⟨by omega, by omega⟩) (fun h hs => ?_)
  have hsB := hs
  refine Z_go (f2 := (30, [(0, .ref o), (1, .int (Zi m))], [.ref o])) (fun _ => rfl) ?_
  refine Z_go (f2 := (31, [(0, .ref o), (1, .int (Zi m))], [.int (Zi m), .ref o])) (fun _ => rfl) ?_
  refine C_pi rfl hs (hd2).1.1 (by decide) (Nat.le_of_ble_eq_true rfl) (.inl rfl) rfl rfl rfl (by first | exact hs.zF _ _ | exact Zor_r _ _ | exact hs.zA _ _ | assumption | exact zA _ _ | exact zS _ | exact Zr_not (hs.zA _ _) | exact hs.1.1 _ _ | exact ⟨by omega, by omega⟩) (fun h hs => ?_)
  refine Z_ret rfl rfl ⟨_, hs, ?_⟩
  try dsimp only
  obtain ⟨hd3, p1, p2⟩ := hd2.sF hs2.1 2 0
  have wf3 : C_wf (C_sF w2 o 2 0) := hsA.1
  obtain ⟨hd4, p3, p4⟩ := hd3.sF wf3 3 (n3 + 1)
  have wf4 : C_wf (C_sF (C_sF w2 o 2 0) o 3 (n3 + 1)) := hsB.1
  obtain ⟨hd5, p5, p6⟩ := hd4.sF wf4 6 m
  have eu : D_pr w2 o = D_pr s o := by
    have e1 : D_pr w1 o = D_pr s o := by
      obtain ⟨x1, x2, x3, x4, x5⟩ := fr1.2.2.1 o (C_lt w hd0.1.1 (by decide)) (by rw [ot]; exact L_app_ne p u)
      obtain ⟨_, y2⟩ := hd0.2.2.fr w fr1 (fun e => L_app_ne2 uv e.symm)
      unfold D_pr
      rw [x2, oe, ov, y2, hr1.rw, hu.rw]
    have e2 : D_pr w2 o = D_pr w1 o := by
      obtain ⟨x1, x2, x3, x4, x5⟩ := fr2.2.2.1 o (C_lt w1f hd1.1.1 (by decide)) (by rw [hd1.1.2.1]; exact L_app_ne p v)
      obtain ⟨_, y2⟩ := hd1.2.1.fr w1f fr2 (fun e => L_app_ne2 uv e)
      unfold D_pr
      rw [x2, hd1.1.2.2.1, hd1.1.2.2.2.1, y2, hr2.rw, hv1.rw]
    rw [e2, e1]
  refine ⟨rfl, rfl, by show C_n w2 = C_n s; rw [en2, en1], ?_, by rw [p5, p3, p1, eu], hd5⟩
  exact ((((q3.trans q6 (fun _ e => e) (fun _ e => e)).trans p2 (fun _ e => e) (fun _ e => e)).trans p4 (fun _ e => e) (fun _ e => e)).trans p6 (fun _ e => e) (fun _ e => e))
