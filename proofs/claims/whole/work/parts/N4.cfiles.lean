/-! the class: GramFinder: add, change, remove -/
theorem D_G.fr {Z : List Nat → Prop} {s s2 : C_S} {g tb sh pa pl ma re : Nat} {m : Int} (h : D_G s g tb sh pa pl ma re m) (w : C_wf s) (k : C_fr Z s s2) (hZ : ¬ Z []) : D_G s2 g tb sh pa pl ma re m := by
  obtain ⟨h1, h2, h3, h4, h5, h6, h7, h8, h9, h10, h11, h12⟩ := h
  have lg := C_lt w h1 (show 19 < 20 by decide)
  have lt := C_lt w h4 (show 1 < 20 by decide)
  obtain ⟨e1, e2, e3, e4, e5⟩ := k.2.2.1 g lg (by rw [h2]; exact hZ)
  exact ⟨by rw [(k.2.1 g lg).1]; exact h1, by rw [(k.2.1 g lg).2]; exact h2, by rw [e2]; exact h3, by rw [(k.2.1 tb lt).1]; exact h4, by rw [(k.2.1 tb lt).2]; exact h5, by rw [e2]; exact h6, by rw [e2]; exact h7, by rw [e2]; exact h8, by rw [e2]; exact h9, by rw [e2]; exact h10, by rw [e1]; exact h11, h12⟩
theorem C_remove (d : Nat) {s : C_S} {g tb sh pa pl ma re : Nat} {m : Int} {p : List Nat} {ea u v : Nat} {fs : Int → Option (List Int)} {ca th tg : Int} {f : Int} (hg : D_G s g tb sh pa pl ma re m) (hd : D_Sh s p sh ea u v fs ca th tg) (pn : p ≠ []) (t0 : 0 ≤ th) (t1 : th ≤ 40) (b0 : 0 ≤ tg) (b1 : tg ≤ 16000) (zf : Zr f) : C_ok (d + 3) 149 [.ref g, .int (Zi f)] s (fun x s2 n => n = 0 ∧ C_n s2 = C_n s ∧ C_fr (fun t => p <+: t) s s2 ∧ D_ps s2 sh = D_ps s sh ∧ ∃ z : Int, x = some (.int (Zi z)) ∧ (z = 0 ∧ s2 = s ∧ (∀ X, ¬ D_isf fs ca f X) ∨ z = 1 ∧ ∃ X, D_isf fs ca f X ∧ D_Sh s2 p sh ea u v (fun i => if i = f then none else fs i) ca (th - 1) (tg - X.length))) := by
  refine C_enter (M := E_m149) rfl (Nat.le_of_ble_eq_true rfl) (fun h0 h hs => ?_)
  show B_R (d + 2) _ (0, [(0, .ref g), (1, .int (Zi f))], []) _ _ _
  have w := hs.1
  obtain ⟨gk, gt, g0, tk, tt, g2, g3, g4, g5, g6, gm, m0, m1⟩ := id hg
  refine Z_go (f2 := (1, [(0, .ref g), (1, .int (Zi f))], [.ref g])) (fun _ => rfl) ?_
  refine C_gr rfl hs gk (by decide) (Nat.le_of_ble_eq_true rfl) rfl g2 ?_
  refine Z_go (f2 := (5, [(0, .ref g), (1, .int (Zi f))], [.int (Zi f), .ref sh])) (fun _ => rfl) ?_
  refine C_callV (As := [.int (Zi f)]) (rest := []) rfl (by decide) rfl (by decide) rfl rfl (by decide +kernel) (Nat.le_of_ble_eq_true rfl) hs hd.1.1 (C_drop _ hd t0 t1 b0 b1 zf) (fun x h w1 m9 hs q => ?_)
  obtain ⟨rfl, q1, q2, q3, z9, rfl, hz9⟩ := q
  have z01 : z9 = 0 ∨ z9 = 1 := by rcases hz9 with ⟨e, _⟩ | ⟨e, _⟩ <;> omega
  show B_R _ _ (8, [(0, .ref g), (1, .int (Zi f))], [.int (Zi z9)]) _ _ _
  refine Z_iret rfl rfl (by first | rfl | decide | exact narrow_b01 (by omega)) ⟨_, hs, ?_⟩
  try dsimp only
  exact ⟨rfl, q1, q2, q3, z9, rfl, hz9⟩
theorem C_add (d : Nat) {s : C_S} {g tb sh pa pl ma re : Nat} {m : Int} {p : List Nat} {ea u v : Nat} {fs : Int → Option (List Int)} {ca th tg : Int} {X2 : List Int} (hg : D_G s g tb sh pa pl ma re m) (hd : D_Sh s p sh ea u v fs ca th tg) (pn : p ≠ []) (t0 : 0 ≤ th) (t1 : th ≤ 40) (b0 : 0 ≤ tg) (b1 : tg ≤ 16000) (hx : D_by s tb 1000 X2) (em : m = X2.length) : C_ok (d + 6) 147 [.ref g] s (fun x s2 n => n ≤ 6000 ∧ C_n s ≤ C_n s2 ∧ C_n s2 ≤ C_n s + 270 ∧ ∃ z : Int, x = some (.int (Zi z)) ∧ (z = -1 ∧ s2 = s ∧ (40 ≤ th ∨ 200 ≤ ca ∨ 16000 < tg + X2.length) ∨ z = ca ∧ ¬ (40 ≤ th ∨ 200 ≤ ca ∨ 16000 < tg + X2.length) ∧ ∃ s1, s2 = C_sF s1 g 1 0 ∧ C_wf s1 ∧ C_fr (fun t => p <+: t) s s1 ∧ D_ps s1 sh = D_ps s sh ∧ D_G s1 g tb sh pa pl ma re m ∧ D_Sh s1 p sh ea u v (fun i => if i = ca then some X2 else fs i) (ca + 1) (th + 1) (tg + X2.length))) := by
  refine C_enter (M := E_m147) rfl (Nat.le_of_ble_eq_true rfl) (fun h0 h hs => ?_)
  show B_R (d + 5) _ (0, [(0, .ref g)], []) _ _ _
  have w := hs.1
  obtain ⟨gk, gt, g0, tk, tt, g2, g3, g4, g5, g6, gm, m0, m1⟩ := id hg
  have pn0 : ¬ p <+: ([] : List Nat) := fun e => pn (List.prefix_nil.mp e)
  have zm : Zr m := ⟨by omega, by omega⟩
  have c0 := hd.1.2.2.2.2.2.2.2.2.2.2.1
  have c1 := hd.1.2.2.2.2.2.2.2.2.2.2.2.1
  refine Z_go (f2 := (1, [(0, .ref g)], [.ref g])) (fun _ => rfl) ?_
  refine C_gr rfl hs gk (by decide) (Nat.le_of_ble_eq_true rfl) rfl g2 ?_
  refine Z_go (f2 := (5, [(0, .ref g)], [.ref g, .ref sh])) (fun _ => rfl) ?_
  refine C_gr rfl hs gk (by decide) (Nat.le_of_ble_eq_true rfl) rfl g0 ?_
  refine Z_go (f2 := (9, [(0, .ref g)], [.ref g, .ref tb, .ref sh])) (fun _ => rfl) ?_
  refine C_gi rfl hs gk (by decide) (Nat.le_of_ble_eq_true rfl) rfl ?_
  rw [show C_F (s) g 1 = m from (by first | exact gm | exact (if_neg (fun e => absurd e.1 (by assumption))).trans gm | exact (if_neg (fun e => absurd e.2 (by decide))).trans gm | exact (if_neg (fun e => absurd e.2 (by decide))).trans ((if_neg (fun e => absurd e.2 (by decide))).trans gm) | exact (if_neg (fun e => absurd e.2 (by decide))).trans ((if_neg (fun e => absurd e.2 (by decide))).trans ((if_neg (fun e => absurd e.2 (by decide))).trans gm)))]
  show B_R _ _ (12, [(0, .ref g)], [.int (Zi m), .ref tb, .ref sh]) _ _ _
  refine C_callV (As := [.ref tb, .int (Zi m)]) (rest := []) rfl (by decide) rfl (by decide) rfl rfl (by decide +kernel) (Nat.le_of_ble_eq_true rfl) hs hd.1.1 (em ▸ C_take _ hd t0 t1 b0 b1 hx (by omega) (by omega) (by rw [tt]; exact pn0)) (fun x h w1 m9 hs q => ?_)
  obtain ⟨q0, q1, q2, q3, q4, z9, rfl, hz9⟩ := q
  rw [em] at hz9
  have hg1 := hg.fr w q3 pn0
  have w1f := hs.1
  have z01 : Zr z9 := by rcases hz9 with ⟨e, _⟩ | ⟨e, _⟩ <;> exact ⟨by omega, by omega⟩
  show B_R _ _ (15, [(0, .ref g)], [.int (Zi z9)]) _ _ _
  refine Z_go (f2 := (16, [(1, .int (Zi z9)), (0, .ref g)], [])) (fun _ => rfl) ?_
  refine Z_go (f2 := (17, [(1, .int (Zi z9)), (0, .ref g)], [.int (Zi z9)])) (fun _ => rfl) ?_
  refine Z_go (f2 := (18, [(1, .int (Zi z9)), (0, .ref g)], [.int (Zi (-1)), .int (Zi z9)])) (fun _ => rfl) ?_
  refine Z_ceq rfl rfl (by first | exact hs.zF _ _ | exact Zor_r _ _ | exact hs.zA _ _ | assumption | exact zA _ _ | exact zS _ | exact Zr_not (hs.zA _ _) | exact hs.1.1 _ _ | exact ⟨by omega, by omega⟩) (by first | exact hs.zF _ _ | exact Zor_r _ _ | exact hs.zA _ _ | assumption | exact zA _ _ | exact zS _ | exact Zr_not (hs.zA _ _) | exact hs.1.1 _ _ | exact ⟨by omega, by omega⟩) (fun y1 => ?_) (fun y1 => ?_)
  · refine Z_go (f2 := (27, [(1, .int (Zi z9)), (0, .ref g)], [.int (Zi z9)])) (fun _ => rfl) ?_
    refine Z_iret rfl rfl (by first | rfl | decide | exact narrow_b01 (by omega)) ⟨_, hs, ?_⟩
    try dsimp only
    refine ⟨by omega, q1, q2, z9, rfl, ?_⟩
    rcases hz9 with h | ⟨h1, h2, h3⟩
    · exact .inl h
    · exfalso; omega
  · refine Z_go (f2 := (22, [(1, .int (Zi z9)), (0, .ref g)], [.ref g])) (fun _ => rfl) ?_
    refine Z_go (f2 := (23, [(1, .int (Zi z9)), (0, .ref g)], [.int (Zi 0), .ref g])) (fun _ => rfl) ?_
    refine C_pi rfl hs hg1.1 (by decide) (Nat.le_of_ble_eq_true rfl) (.inl rfl) rfl rfl rfl (by first | exact hs.zF _ _ | exact Zor_r _ _ | exact hs.zA _ _ | assumption | exact zA _ _ | exact zS _ | exact Zr_not (hs.zA _ _) | exact hs.1.1 _ _ | exact ⟨by omega, by omega⟩) (fun h hs => ?_)
    refine Z_go (f2 := (27, [(1, .int (Zi z9)), (0, .ref g)], [.int (Zi z9)])) (fun _ => rfl) ?_
    refine Z_iret rfl rfl (by first | rfl | decide | exact narrow_b01 (by omega)) ⟨_, hs, ?_⟩
    try dsimp only
    refine ⟨by omega, q1, q2, z9, rfl, ?_⟩
    rcases hz9 with h | ⟨h1, h2, h3⟩
    · exfalso; omega
    · exact .inr ⟨h1, h2, w1, rfl, w1f, q3, q4, hg1, h3⟩
theorem C_change (d : Nat) {s : C_S} {g tb sh pa pl ma re : Nat} {m : Int} {p : List Nat} {ea u v : Nat} {fs : Int → Option (List Int)} {ca th tg : Int} {X2 : List Int} {f : Int} (hg : D_G s g tb sh pa pl ma re m) (hd : D_Sh s p sh ea u v fs ca th tg) (pn : p ≠ []) (t0 : 0 ≤ th) (t1 : th ≤ 40) (b0 : 0 ≤ tg) (b1 : tg ≤ 16000) (hx : D_by s tb 1000 X2) (em : m = X2.length) (zf : Zr f) : C_ok (d + 6) 148 [.ref g, .int (Zi f)] s (fun x s2 n => n ≤ 6000 ∧ C_n s ≤ C_n s2 ∧ C_n s2 ≤ C_n s + 270 ∧ ∃ z : Int, x = some (.int (Zi z)) ∧ (z = -1 ∧ s2 = s ∧ (∀ X, D_isf fs ca f X → 16000 < tg - X.length + X2.length) ∨ z = X2.length ∧ ∃ X, D_isf fs ca f X ∧ tg - X.length + X2.length ≤ 16000 ∧ ∃ s1, s2 = C_sF s1 g 1 0 ∧ C_wf s1 ∧ C_fr (fun t => p <+: t) s s1 ∧ D_ps s1 sh = D_ps s sh ∧ D_G s1 g tb sh pa pl ma re m ∧ D_Sh s1 p sh ea u v (fun i => if i = f then some X2 else fs i) ca th (tg + (X2.length - X.length)))) := by
  refine C_enter (M := E_m148) rfl (Nat.le_of_ble_eq_true rfl) (fun h0 h hs => ?_)
  show B_R (d + 5) _ (0, [(0, .ref g), (1, .int (Zi f))], []) _ _ _
  have w := hs.1
  obtain ⟨gk, gt, g0, tk, tt, g2, g3, g4, g5, g6, gm, m0, m1⟩ := id hg
  have pn0 : ¬ p <+: ([] : List Nat) := fun e => pn (List.prefix_nil.mp e)
  have zm : Zr m := ⟨by omega, by omega⟩
  refine Z_go (f2 := (1, [(0, .ref g), (1, .int (Zi f))], [.ref g])) (fun _ => rfl) ?_
  refine C_gr rfl hs gk (by decide) (Nat.le_of_ble_eq_true rfl) rfl g2 ?_
  refine Z_go (f2 := (5, [(0, .ref g), (1, .int (Zi f))], [.int (Zi f), .ref sh])) (fun _ => rfl) ?_
  refine Z_go (f2 := (6, [(0, .ref g), (1, .int (Zi f))], [.ref g, .int (Zi f), .ref sh])) (fun _ => rfl) ?_
  refine C_gr rfl hs gk (by decide) (Nat.le_of_ble_eq_true rfl) rfl g0 ?_
  refine Z_go (f2 := (10, [(0, .ref g), (1, .int (Zi f))], [.ref g, .ref tb, .int (Zi f), .ref sh])) (fun _ => rfl) ?_
  refine C_gi rfl hs gk (by decide) (Nat.le_of_ble_eq_true rfl) rfl ?_
  rw [show C_F (s) g 1 = m from (by first | exact gm | exact (if_neg (fun e => absurd e.1 (by assumption))).trans gm | exact (if_neg (fun e => absurd e.2 (by decide))).trans gm | exact (if_neg (fun e => absurd e.2 (by decide))).trans ((if_neg (fun e => absurd e.2 (by decide))).trans gm) | exact (if_neg (fun e => absurd e.2 (by decide))).trans ((if_neg (fun e => absurd e.2 (by decide))).trans ((if_neg (fun e => absurd e.2 (by decide))).trans gm)))]
  show B_R _ _ (13, [(0, .ref g), (1, .int (Zi f))], [.int (Zi m), .ref tb, .int (Zi f), .ref sh]) _ _ _
  refine C_callV (As := [.int (Zi f), .ref tb, .int (Zi m)]) (rest := []) rfl (by decide) rfl (by decide) rfl rfl (by decide +kernel) (Nat.le_of_ble_eq_true rfl) hs hd.1.1 (em ▸ C_exch _ hd t0 t1 b0 b1 hx (by omega) (by omega) (by rw [tt]; exact pn0) zf) (fun x h w1 m9 hs q => ?_)
  obtain ⟨q0, q1, q2, q3, q4, z9, rfl, hz9⟩ := q
  rw [em] at hz9
  have hg1 := hg.fr w q3 pn0
  have w1f := hs.1
  have z01 : Zr z9 := by rcases hz9 with ⟨e, _⟩ | ⟨e, _⟩ <;> exact ⟨by omega, by omega⟩
  show B_R _ _ (16, [(0, .ref g), (1, .int (Zi f))], [.int (Zi z9)]) _ _ _
  refine Z_go (f2 := (17, [(2, .int (Zi z9)), (0, .ref g), (1, .int (Zi f))], [])) (fun _ => rfl) ?_
  refine Z_go (f2 := (18, [(2, .int (Zi z9)), (0, .ref g), (1, .int (Zi f))], [.int (Zi z9)])) (fun _ => rfl) ?_
  refine Z_go (f2 := (19, [(2, .int (Zi z9)), (0, .ref g), (1, .int (Zi f))], [.int (Zi (-1)), .int (Zi z9)])) (fun _ => rfl) ?_
  refine Z_ceq rfl rfl (by first | exact hs.zF _ _ | exact Zor_r _ _ | exact hs.zA _ _ | assumption | exact zA _ _ | exact zS _ | exact Zr_not (hs.zA _ _) | exact hs.1.1 _ _ | exact ⟨by omega, by omega⟩) (by first | exact hs.zF _ _ | exact Zor_r _ _ | exact hs.zA _ _ | assumption | exact zA _ _ | exact zS _ | exact Zr_not (hs.zA _ _) | exact hs.1.1 _ _ | exact ⟨by omega, by omega⟩) (fun y1 => ?_) (fun y1 => ?_)
  · refine Z_go (f2 := (28, [(2, .int (Zi z9)), (0, .ref g), (1, .int (Zi f))], [.int (Zi z9)])) (fun _ => rfl) ?_
    refine Z_iret rfl rfl (by first | rfl | decide | exact narrow_b01 (by omega)) ⟨_, hs, ?_⟩
    try dsimp only
    refine ⟨by omega, q1, q2, z9, rfl, ?_⟩
    rcases hz9 with h | ⟨h1, h2⟩
    · exact .inl h
    · exfalso; omega
  · refine Z_go (f2 := (23, [(2, .int (Zi z9)), (0, .ref g), (1, .int (Zi f))], [.ref g])) (fun _ => rfl) ?_
    refine Z_go (f2 := (24, [(2, .int (Zi z9)), (0, .ref g), (1, .int (Zi f))], [.int (Zi 0), .ref g])) (fun _ => rfl) ?_
    refine C_pi rfl hs hg1.1 (by decide) (Nat.le_of_ble_eq_true rfl) (.inl rfl) rfl rfl rfl (by first | exact hs.zF _ _ | exact Zor_r _ _ | exact hs.zA _ _ | assumption | exact zA _ _ | exact zS _ | exact Zr_not (hs.zA _ _) | exact hs.1.1 _ _ | exact ⟨by omega, by omega⟩) (fun h hs => ?_)
    refine Z_go (f2 := (28, [(2, .int (Zi z9)), (0, .ref g), (1, .int (Zi f))], [.int (Zi z9)])) (fun _ => rfl) ?_
    refine Z_iret rfl rfl (by first | rfl | decide | exact narrow_b01 (by omega)) ⟨_, hs, ?_⟩
    try dsimp only
    refine ⟨by omega, q1, q2, z9, rfl, ?_⟩
    rcases hz9 with h | ⟨h1, X, h2, h3, h4⟩
    · exfalso; omega
    · exact .inr ⟨h1, X, h2, h3, w1, rfl, w1f, q3, q4, hg1, h4⟩
