/-! the class: Row, what makes room, looks up and puts in -/
theorem C_copyI (d : Nat) {s : C_S} {o k : Nat} {m : Int} {t : List Nat} (ok : C_K s o = (0, k)) (m0 : (k : Int) < m) (m1 : m ≤ 67108864) : C_ok (d + 1) 294 [.ref o, .int (Zi m)] s (fun x s2 n => x = some (.ref (C_n s)) ∧ n = m.toNat ∧ ∃ g : Int → Int, s2 = C_sAf (C_new s (0, m.toNat) t) (C_n s) g ∧ ∀ j : Int, 0 ≤ j → j < k → g j = C_A s o j) := by
  refine C_enter (M := E_m294) rfl (Nat.le_of_ble_eq_true rfl) (fun h0 h hs => ?_)
  show B_R (d + 0) _ (0, [(0, .ref o), (1, .int (Zi m))], []) _ _ _
  have zk := hs.len (by decide) ok
  have zm : Zr m := ⟨by omega, by omega⟩
  have w := hs.1
  refine Z_go (f2 := (1, [(0, .ref o), (1, .int (Zi m))], [.int (Zi m)])) (fun _ => rfl) ?_
  refine Z_go (f2 := (2, [(0, .ref o), (1, .int (Zi m))], [.ref o, .int (Zi m)])) (fun _ => rfl) ?_
  refine C_al rfl hs ok (by decide) ?_
  show B_R _ _ (3, [(0, .ref o), (1, .int (Zi m))], [.int (Zi ((k : Int))), .int (Zi m)]) _ _ _
  refine Z_cne rfl rfl (by first | exact hs.zF _ _ | exact Zor_r _ _ | exact hs.zA _ _ | assumption | exact zA _ _ | exact zS _ | exact Zr_not (hs.zA _ _) | exact hs.1.1 _ _ | exact ⟨by omega, by omega⟩) (by first | exact hs.zF _ _ | exact Zor_r _ _ | exact hs.zA _ _ | assumption | exact zA _ _ | exact zS _ | exact Zr_not (hs.zA _ _) | exact hs.1.1 _ _ | exact ⟨by omega, by omega⟩) (fun c1 => ?_) (fun c1 => ?_)
  · refine Z_go (f2 := (15, [(0, .ref o), (1, .int (Zi m))], [.int (Zi m)])) (fun _ => rfl) ?_
    refine C_na (t := t) rfl hs (by decide) (by decide) (by omega) (by omega) (fun h hs => ?_)
    have hkn : C_K (C_new s (0, m.toNat) t) (C_n s) = (0, m.toNat) := if_pos rfl
    have ok : C_K (C_new s (0, m.toNat) t) o = (0, k) := (if_neg (show ¬ o = C_n s by omega)).trans ok
    show B_R _ _ (17, [(0, .ref o), (1, .int (Zi m))], [.ref (C_n s)]) _ _ _
    refine Z_go (f2 := (18, [(2, .ref (C_n s)), (0, .ref o), (1, .int (Zi m))], [])) (fun _ => rfl) ?_
    refine Z_go (f2 := (19, [(2, .ref (C_n s)), (0, .ref o), (1, .int (Zi m))], [.ref o])) (fun _ => rfl) ?_
    refine Z_go (f2 := (20, [(2, .ref (C_n s)), (0, .ref o), (1, .int (Zi m))], [.int (Zi 0), .ref o])) (fun _ => rfl) ?_
    refine Z_go (f2 := (21, [(2, .ref (C_n s)), (0, .ref o), (1, .int (Zi m))], [.ref (C_n s), .int (Zi 0), .ref o])) (fun _ => rfl) ?_
    refine Z_go (f2 := (22, [(2, .ref (C_n s)), (0, .ref o), (1, .int (Zi m))], [.int (Zi 0), .ref (C_n s), .int (Zi 0), .ref o])) (fun _ => rfl) ?_
    refine Z_go (f2 := (23, [(2, .ref (C_n s)), (0, .ref o), (1, .int (Zi m))], [.ref o, .int (Zi 0), .ref (C_n s), .int (Zi 0), .ref o])) (fun _ => rfl) ?_
    refine C_al rfl hs ok (by decide) ?_
    show B_R _ _ (24, [(2, .ref (C_n s)), (0, .ref o), (1, .int (Zi m))], [.int (Zi ((k : Int))), .int (Zi 0), .ref (C_n s), .int (Zi 0), .ref o]) _ _ _
    refine Z_go (f2 := (25, [(2, .ref (C_n s)), (0, .ref o), (1, .int (Zi m))], [.int (Zi m), .int (Zi ((k : Int))), .int (Zi 0), .ref (C_n s), .int (Zi 0), .ref o])) (fun _ => rfl) ?_
    refine C_min rfl (by first | exact hs.zF _ _ | exact Zor_r _ _ | exact hs.zA _ _ | assumption | exact zA _ _ | exact zS _ | exact Zr_not (hs.zA _ _) | exact hs.1.1 _ _ | exact ⟨by omega, by omega⟩) (by first | exact hs.zF _ _ | exact Zor_r _ _ | exact hs.zA _ _ | assumption | exact zA _ _ | exact zS _ | exact Zr_not (hs.zA _ _) | exact hs.1.1 _ _ | exact ⟨by omega, by omega⟩) (Nat.le_of_ble_eq_true rfl) ?_
    generalize ec0 : (if m < (k : Int) then m else (k : Int)) = c0
    have zc0 : Zr c0 := ⟨by omega, by omega⟩
    show B_R _ _ (28, [(2, .ref (C_n s)), (0, .ref o), (1, .int (Zi m))], [.int (Zi c0), .int (Zi 0), .ref (C_n s), .int (Zi 0), .ref o]) _ _ _
    refine C_cp rfl hs ok hkn (by decide) (by omega) (by omega) (by omega) (by omega) (by omega) (Nat.le_of_ble_eq_true rfl) (fun h hs => ?_)
    show B_R _ _ (31, [(2, .ref (C_n s)), (0, .ref o), (1, .int (Zi m))], []) _ _ _
    refine Z_go (f2 := (32, [(2, .ref (C_n s)), (0, .ref o), (1, .int (Zi m))], [.ref (C_n s)])) (fun _ => rfl) ?_
    refine C_aret rfl (by first | exact .inl ⟨_, rfl⟩ | exact .inr ⟨_, rfl⟩) ⟨_, hs, ?_⟩
    try dsimp only
    refine ⟨rfl, by omega, _, rfl, fun j j0 j1 => ?_⟩
    rw [if_pos (by omega)]
    show (if o = C_n s then fun _ => 0 else C_A s o) (0 + (j - 0)) = _
    rw [if_neg (by omega), show (0 : Int) + (j - 0) = j by omega]
  · exfalso; omega
theorem D_Row_room {s : C_S} {p : List Nat} {o a cap : Nat} {xs : List Int} {m : Nat} {g : Int → Int} (w : C_wf s) (hr : D_Row s p o a cap xs) (hm : cap ≤ m) (hg : ∀ j : Int, 0 ≤ j → j < cap → g j = C_A s a j) : D_Row (C_sP (C_sAf (C_new s (0, m) p) (C_n s) g) o 0 (some (C_n s))) p o (C_n s) m xs := by
  obtain ⟨rk, rt, rp, ra, rs, rm, rl, r8, ri⟩ := hr
  have lo := C_lt w rk (show 15 < 20 by decide)
  refine ⟨(if_neg (by omega)).trans rk, (if_neg (by omega)).trans rt, if_pos ⟨rfl, rfl⟩, if_pos rfl, if_pos rfl, ?_, by omega, by omega, fun i i0 i1 => ?_⟩
  · show (if o = C_n s then fun _ => 0 else C_F s o) 1 = _
    rw [if_neg (by omega)]
    exact rm
  · show (if C_n s = C_n s then g else _) i = _
    rw [if_pos rfl, hg i i0 (by omega)]
    exact ri i i0 i1
theorem C_room (d : Nat) {s : C_S} {p : List Nat} {o a cap : Nat} {xs : List Int} {m : Int} (hr : D_Row s p o a cap xs) (zm : Zr m) (m1 : m ≤ 33554432) : C_ok (d + 2) 99 [.ref o, .int (Zi m)] s (fun x s2 n => x = none ∧ D_rw p o cap xs m s s2 n ∧ ∀ a2 cap2 ys, D_Row s2 p o a2 cap2 ys → m ≤ cap2) := by
  refine C_enter (M := E_m99) rfl (Nat.le_of_ble_eq_true rfl) (fun h0 h hs => ?_)
  show B_R (d + 1) _ (0, [(0, .ref o), (1, .int (Zi m))], []) _ _ _
  have hr0 := hr
  obtain ⟨rk, rt, rp, ra, rs, rm, rl, r8, ri⟩ := hr
  have z := D_Row.zr hs ⟨rk, rt, rp, ra, rs, rm, rl, r8, ri⟩
  have w := hs.1
  refine Z_go (f2 := (1, [(0, .ref o), (1, .int (Zi m))], [.int (Zi m)])) (fun _ => rfl) ?_
  refine Z_go (f2 := (2, [(0, .ref o), (1, .int (Zi m))], [.ref o, .int (Zi m)])) (fun _ => rfl) ?_
  refine C_gr rfl hs rk (by decide) (Nat.le_of_ble_eq_true rfl) rfl rp ?_
  refine C_al rfl hs ra (by decide) ?_
  show B_R _ _ (6, [(0, .ref o), (1, .int (Zi m))], [.int (Zi ((cap : Int))), .int (Zi m)]) _ _ _
  refine Z_cle rfl rfl (by first | exact hs.zF _ _ | exact Zor_r _ _ | exact hs.zA _ _ | assumption | exact zA _ _ | exact zS _ | exact Zr_not (hs.zA _ _) | exact hs.1.1 _ _ | exact ⟨by omega, by omega⟩) (by first | exact hs.zF _ _ | exact Zor_r _ _ | exact hs.zA _ _ | assumption | exact zA _ _ | exact zS _ | exact Zr_not (hs.zA _ _) | exact hs.1.1 _ _ | exact ⟨by omega, by omega⟩) (fun c1 => ?_) (fun c1 => ?_)
  · refine Z_ret rfl rfl ⟨_, hs, ?_⟩
    try dsimp only
    refine ⟨rfl, ⟨_, _, hr0, C_fr.refl _ _, by omega, by omega, .inl (Int.le_refl _)⟩, fun a2 cap2 ys h2 => ?_⟩
    obtain ⟨_, _, h3, h4, _⟩ := h2
    have e : a2 = a := Option.some.inj (h3.symm.trans rp)
    subst e
    have := congrArg Prod.snd (h4.symm.trans ra)
    have : cap2 = cap := this
    omega
  · refine Z_go (f2 := (10, [(0, .ref o), (1, .int (Zi m))], [.ref o])) (fun _ => rfl) ?_
    refine Z_go (f2 := (11, [(0, .ref o), (1, .int (Zi m))], [.ref o, .ref o])) (fun _ => rfl) ?_
    refine C_gr rfl hs rk (by decide) (Nat.le_of_ble_eq_true rfl) rfl rp ?_
    refine Z_go (f2 := (15, [(0, .ref o), (1, .int (Zi m))], [.int (Zi m), .ref a, .ref o])) (fun _ => rfl) ?_
    refine Z_go (f2 := (16, [(0, .ref o), (1, .int (Zi m))], [.int (Zi 2), .int (Zi m), .ref a, .ref o])) (fun _ => rfl) ?_
    refine Z_go (f2 := (17, [(0, .ref o), (1, .int (Zi m))], [.ref o, .int (Zi 2), .int (Zi m), .ref a, .ref o])) (fun _ => rfl) ?_
    refine C_gr rfl hs rk (by decide) (Nat.le_of_ble_eq_true rfl) rfl rp ?_
    refine C_al rfl hs ra (by decide) ?_
    show B_R _ _ (21, [(0, .ref o), (1, .int (Zi m))], [.int (Zi ((cap : Int))), .int (Zi 2), .int (Zi m), .ref a, .ref o]) _ _ _
    refine Z_imul rfl ?_
    refine C_max rfl (by first | exact hs.zF _ _ | exact Zor_r _ _ | exact hs.zA _ _ | assumption | exact zA _ _ | exact zS _ | exact Zr_not (hs.zA _ _) | exact hs.1.1 _ _ | exact ⟨by omega, by omega⟩) (by first | exact hs.zF _ _ | exact Zor_r _ _ | exact hs.zA _ _ | assumption | exact zA _ _ | exact zS _ | exact Zr_not (hs.zA _ _) | exact hs.1.1 _ _ | exact ⟨by omega, by omega⟩) (Nat.le_of_ble_eq_true rfl) ?_
    generalize ec0 : (if m < (2 * (cap : Int)) then 2 * (cap : Int) else m) = c0
    have zc0 : Zr c0 := ⟨by omega, by omega⟩
    show B_R _ _ (25, [(0, .ref o), (1, .int (Zi m))], [.int (Zi c0), .ref a, .ref o]) _ _ _
    refine C_callJ (vs := [.ref a, .int (Zi c0)]) (rest := [.ref o]) rfl (by decide) (by decide) rfl rfl rfl (Nat.le_of_ble_eq_true rfl) hs (C_copyI _ (t := p) ra (m := c0) (by omega) (by omega)) (fun x h u n hs q => ?_)
    obtain ⟨rfl, rfl, g, rfl, hg⟩ := q
    have rk : C_K (C_sAf (C_new s (0, c0.toNat) p) (C_n s) g) o = (15, 0) := (if_neg (show ¬ o = C_n s by have := C_lt w rk (show 15 < 20 by decide); omega)).trans rk
    show B_R _ _ (28, [(0, .ref o), (1, .int (Zi m))], [.ref (C_n s), .ref o]) _ _ _
    refine C_pr rfl hs (r := some (C_n s)) rfl rk (by decide) (Nat.le_of_ble_eq_true rfl) (.inl rfl) rfl (fun h hs => ?_)
    refine Z_ret rfl rfl ⟨_, hs, ?_⟩
    try dsimp only
    have hr2 := D_Row_room w hr0 (m := c0.toNat) (by omega) hg
    refine ⟨rfl, ⟨_, _, hr2, ?_, by omega, ?_, .inr (by omega)⟩, fun a2 cap2 ys h2 => ?_⟩
    · have tO : C_T (C_sAf (C_new s (0, c0.toNat) p) (C_n s) g) o = p := (if_neg (show ¬ o = C_n s by have := C_lt w hr0.1 (show 15 < 20 by decide); omega)).trans rt
      have tA : C_T (C_new s (0, c0.toNat) p) (C_n s) = p := if_pos rfl
      exact (((C_fr.refl (fun t => t = p) s).new (t := p) rfl).sAf tA).sP tO
    · show 8 * (C_n s + 1) + cap ≤ _
      omega
    · obtain ⟨_, _, h3, h4, _⟩ := h2
      have e : a2 = C_n s := Option.some.inj (h3.symm.trans hr2.2.2.1)
      subst e
      have := congrArg Prod.snd (h4.symm.trans hr2.2.2.2.1)
      have : cap2 = c0.toNat := this
      omega
theorem D_Row_uniq {s : C_S} {p : List Nat} {o a cap a2 cap2 : Nat} {xs ys : List Int} (h : D_Row s p o a cap xs) (g : D_Row s p o a2 cap2 ys) : a = a2 ∧ cap = cap2 := by
  have e : a = a2 := Option.some.inj (h.2.2.1.symm.trans g.2.2.1)
  subst e
  exact ⟨rfl, congrArg Prod.snd (h.2.2.2.1.symm.trans g.2.2.2.1)⟩
theorem D_Row_push {s : C_S} {p : List Nat} {o a cap : Nat} {xs : List Int} {v : Int} (hr : D_Row s p o a cap xs) (hl : xs.length < cap) : D_Row (C_sF (C_sA s a xs.length v) o 1 (xs.length + 1)) p o a cap (xs ++ [v]) := by
  obtain ⟨rk, rt, rp, ra, rs, rm, rl, r8, ri⟩ := hr
  refine ⟨rk, rt, rp, ra, rs, ?_, by rw [List.length_append]; exact hl, r8, fun i i0 i1 => ?_⟩
  · rw [List.length_append]
    exact if_pos ⟨rfl, rfl⟩
  · rw [List.length_append] at i1
    have i1 : i < ((xs.length + 1 : Nat) : Int) := i1
    show (if a = a ∧ i = xs.length then v else C_A s a i) = _
    by_cases c : i = xs.length
    · rw [if_pos ⟨rfl, c⟩, c, L_at_app2 (Int.le_refl _), Int.sub_self]
      rfl
    · rw [if_neg (fun e => c e.2), ri i i0 (by omega), L_at_app (by omega)]
theorem C_push (d : Nat) {s : C_S} {p : List Nat} {o a cap : Nat} {xs : List Int} {v : Int} (hr : D_Row s p o a cap xs) (zv : Zr v) (m1 : xs.length < 33554432) : C_ok (d + 3) 90 [.ref o, .int (Zi v)] s (fun x s2 n => x = none ∧ D_rw p o cap (xs ++ [v]) (xs.length + 1) s s2 n) := by
  refine C_enter (M := E_m90) rfl (Nat.le_of_ble_eq_true rfl) (fun h0 h hs => ?_)
  show B_R (d + 2) _ (0, [(0, .ref o), (1, .int (Zi v))], []) _ _ _
  have hr0 := hr
  obtain ⟨rk, rt, rp, ra, rs, rm, rl, r8, ri⟩ := hr
  have z := D_Row.zr hs ⟨rk, rt, rp, ra, rs, rm, rl, r8, ri⟩
  refine Z_go (f2 := (1, [(0, .ref o), (1, .int (Zi v))], [.ref o])) (fun _ => rfl) ?_
  refine Z_go (f2 := (2, [(0, .ref o), (1, .int (Zi v))], [.ref o, .ref o])) (fun _ => rfl) ?_
  refine C_gi rfl hs rk (by decide) (Nat.le_of_ble_eq_true rfl) rfl ?_
  rw [show C_F (s) o 1 = (xs.length : Int) from (by first | exact rm | exact (if_neg (fun e => absurd e.1 (by assumption))).trans rm)]
  show B_R _ _ (5, [(0, .ref o), (1, .int (Zi v))], [.int (Zi ((xs.length : Int))), .ref o]) _ _ _
  refine Z_go (f2 := (6, [(0, .ref o), (1, .int (Zi v))], [.int (Zi 1), .int (Zi ((xs.length : Int))), .ref o])) (fun _ => rfl) ?_
  refine Z_iadd rfl ?_
  refine C_callV (As := [.int (Zi ((xs.length : Int) + 1))]) (rest := []) rfl (by decide) rfl (by decide) rfl rfl (by decide +kernel) (Nat.le_of_ble_eq_true rfl) hs rk (C_room _ hr0 (m := (xs.length : Int) + 1) ⟨by omega, by omega⟩ (by omega)) (fun x h u n hs q => ?_)
  obtain ⟨rfl, ⟨a2, cap2, hr2, fr, g1, g2, g3⟩, hc⟩ := q
  have hc := hc a2 cap2 _ hr2
  have hru := hr2
  obtain ⟨rk, rt, rp, ra, rs, rm, rl, r8, ri⟩ := hr2
  have z := D_Row.zr hs ⟨rk, rt, rp, ra, rs, rm, rl, r8, ri⟩
  show B_R _ _ (10, [(0, .ref o), (1, .int (Zi v))], []) _ _ _
  refine Z_go (f2 := (11, [(0, .ref o), (1, .int (Zi v))], [.ref o])) (fun _ => rfl) ?_
  refine C_gi rfl hs rk (by decide) (Nat.le_of_ble_eq_true rfl) rfl ?_
  rw [show C_F (u) o 1 = (xs.length : Int) from (by first | exact rm | exact (if_neg (fun e => absurd e.1 (by assumption))).trans rm)]
  show B_R _ _ (14, [(0, .ref o), (1, .int (Zi v))], [.int (Zi ((xs.length : Int)))]) _ _ _
  refine Z_ilt rfl rfl (by first | exact hs.zF _ _ | exact Zor_r _ _ | exact hs.zA _ _ | assumption | exact zA _ _ | exact zS _ | exact Zr_not (hs.zA _ _) | exact hs.1.1 _ _ | exact ⟨by omega, by omega⟩) (fun c1 => ?_) (fun c1 => ?_)
  · refine Z_ret rfl rfl ⟨_, hs, ?_⟩
    try dsimp only
    exfalso; omega
  · refine Z_go (f2 := (18, [(0, .ref o), (1, .int (Zi v))], [.ref o])) (fun _ => rfl) ?_
    refine C_gi rfl hs rk (by decide) (Nat.le_of_ble_eq_true rfl) rfl ?_
    rw [show C_F (u) o 1 = (xs.length : Int) from (by first | exact rm | exact (if_neg (fun e => absurd e.1 (by assumption))).trans rm)]
    show B_R _ _ (21, [(0, .ref o), (1, .int (Zi v))], [.int (Zi ((xs.length : Int)))]) _ _ _
    refine Z_go (f2 := (22, [(0, .ref o), (1, .int (Zi v))], [.ref o, .int (Zi ((xs.length : Int)))])) (fun _ => rfl) ?_
    refine C_gr rfl hs rk (by decide) (Nat.le_of_ble_eq_true rfl) rfl rp ?_
    refine C_al rfl hs ra (by decide) ?_
    show B_R _ _ (26, [(0, .ref o), (1, .int (Zi v))], [.int (Zi ((cap2 : Int))), .int (Zi ((xs.length : Int)))]) _ _ _
    refine Z_cge rfl rfl (by first | exact hs.zF _ _ | exact Zor_r _ _ | exact hs.zA _ _ | assumption | exact zA _ _ | exact zS _ | exact Zr_not (hs.zA _ _) | exact hs.1.1 _ _ | exact ⟨by omega, by omega⟩) (by first | exact hs.zF _ _ | exact Zor_r _ _ | exact hs.zA _ _ | assumption | exact zA _ _ | exact zS _ | exact Zr_not (hs.zA _ _) | exact hs.1.1 _ _ | exact ⟨by omega, by omega⟩) (fun c2 => ?_) (fun c2 => ?_)
    · refine Z_ret rfl rfl ⟨_, hs, ?_⟩
      try dsimp only
      exfalso; omega
    · refine Z_go (f2 := (30, [(0, .ref o), (1, .int (Zi v))], [.ref o])) (fun _ => rfl) ?_
      refine C_gr rfl hs rk (by decide) (Nat.le_of_ble_eq_true rfl) rfl rp ?_
      refine Z_go (f2 := (34, [(0, .ref o), (1, .int (Zi v))], [.ref o, .ref a2])) (fun _ => rfl) ?_
      refine C_gi rfl hs rk (by decide) (Nat.le_of_ble_eq_true rfl) rfl ?_
      rw [show C_F (u) o 1 = (xs.length : Int) from (by first | exact rm | exact (if_neg (fun e => absurd e.1 (by assumption))).trans rm)]
      show B_R _ _ (37, [(0, .ref o), (1, .int (Zi v))], [.int (Zi ((xs.length : Int))), .ref a2]) _ _ _
      refine Z_go (f2 := (38, [(0, .ref o), (1, .int (Zi v))], [.int (Zi v), .int (Zi ((xs.length : Int))), .ref a2])) (fun _ => rfl) ?_
      refine C_is_ rfl hs ra (by omega) (by omega) (by first | exact hs.zF _ _ | exact Zor_r _ _ | exact hs.zA _ _ | assumption | exact zA _ _ | exact zS _ | exact Zr_not (hs.zA _ _) | exact hs.1.1 _ _ | exact ⟨by omega, by omega⟩) (fun h hs => ?_)
      refine Z_go (f2 := (40, [(0, .ref o), (1, .int (Zi v))], [.ref o])) (fun _ => rfl) ?_
      refine Z_go (f2 := (41, [(0, .ref o), (1, .int (Zi v))], [.ref o, .ref o])) (fun _ => rfl) ?_
      refine C_gi rfl hs rk (by decide) (Nat.le_of_ble_eq_true rfl) rfl ?_
      rw [show C_F (C_sA u a2 (xs.length : Int) v) o 1 = (xs.length : Int) from (by first | exact rm | exact (if_neg (fun e => absurd e.1 (by assumption))).trans rm)]
      show B_R _ _ (44, [(0, .ref o), (1, .int (Zi v))], [.int (Zi ((xs.length : Int))), .ref o]) _ _ _
      refine Z_go (f2 := (45, [(0, .ref o), (1, .int (Zi v))], [.int (Zi 1), .int (Zi ((xs.length : Int))), .ref o])) (fun _ => rfl) ?_
      refine Z_iadd rfl ?_
      refine C_pi rfl hs rk (by decide) (Nat.le_of_ble_eq_true rfl) (.inl rfl) rfl rfl rfl (by first | exact hs.zF _ _ | exact Zor_r _ _ | exact hs.zA _ _ | assumption | exact zA _ _ | exact zS _ | exact Zr_not (hs.zA _ _) | exact hs.1.1 _ _ | exact ⟨by omega, by omega⟩) (fun h hs => ?_)
      refine Z_ret rfl rfl ⟨_, hs, ?_⟩
      try dsimp only
      exact ⟨rfl, a2, cap2, D_Row_push hru (by omega), (fr.sA rs).sF rt, by omega, g2, by omega⟩
theorem C_place_lp {d : Nat} {h0 h : E_H} {s : C_S} {sl : Nat} {Φ : E_R → Prop} {p : List Nat} {o a cap : Nat} {xs : List Int} {v : Int} (hs : C_is h0 h s) (hr : D_Row s p o a cap xs) (so : L_srt xs) (zv : Zr v) (kont : ∀ turn hi lo : Int, 0 ≤ lo → lo ≤ xs.length → (∀ i : Int, 0 ≤ i → i < lo → L_at xs i < v) → (lo < xs.length → v ≤ L_at xs lo) → B_R (d) E_m98 (67, [(4, .int (Zi turn)), (3, .int (Zi hi)), (2, .int (Zi lo)), (0, .ref o), (1, .int (Zi v))], []) h sl Φ) : ∀ (k : Nat) (turn hi lo : Int), turn + k = 32 → 0 ≤ turn → hi - lo < (2 : Int) ^ k → 0 ≤ lo → lo ≤ hi → hi ≤ xs.length → (∀ i : Int, 0 ≤ i → i < lo → L_at xs i < v) → (∀ i : Int, hi ≤ i → i < xs.length → v ≤ L_at xs i) → B_R d E_m98 (10, [(4, .int (Zi turn)), (3, .int (Zi hi)), (2, .int (Zi lo)), (0, .ref o), (1, .int (Zi v))], []) h sl Φ := by
  obtain ⟨rk, rt, rp, ra, rs, rm, rl, r8, ri⟩ := hr
  have z := D_Row.zr hs ⟨rk, rt, rp, ra, rs, rm, rl, r8, ri⟩
  have sr := L_at_srt so
  intro k
  induction k with
  | zero =>
    intro turn hi lo tk t0 hk l0 l1 l2 i1 i2
    have hk : hi - lo < 1 := hk
    refine Z_go (f2 := (12, [(4, .int (Zi turn)), (3, .int (Zi hi)), (2, .int (Zi lo)), (0, .ref o), (1, .int (Zi v))], [.int (Zi turn)])) (fun _ => rfl) ?_
    refine Z_go (f2 := (14, [(4, .int (Zi turn)), (3, .int (Zi hi)), (2, .int (Zi lo)), (0, .ref o), (1, .int (Zi v))], [.int (Zi 32), .int (Zi turn)])) (fun _ => rfl) ?_
    refine Z_cge rfl rfl (by first | exact hs.zF _ _ | exact Zor_r _ _ | exact hs.zA _ _ | assumption | exact zA _ _ | exact zS _ | exact Zr_not (hs.zA _ _) | exact hs.1.1 _ _ | exact ⟨by omega, by omega⟩) (by first | exact hs.zF _ _ | exact Zor_r _ _ | exact hs.zA _ _ | assumption | exact zA _ _ | exact zS _ | exact Zr_not (hs.zA _ _) | exact hs.1.1 _ _ | exact ⟨by omega, by omega⟩) (fun c1 => ?_) (fun c1 => ?_)
    · exact kont turn hi lo l0 (by omega) i1 (fun c => i2 lo (by omega) c)
    · refine Z_go (f2 := (18, [(4, .int (Zi turn)), (3, .int (Zi hi)), (2, .int (Zi lo)), (0, .ref o), (1, .int (Zi v))], [.int (Zi lo)])) (fun _ => rfl) ?_
      refine Z_go (f2 := (19, [(4, .int (Zi turn)), (3, .int (Zi hi)), (2, .int (Zi lo)), (0, .ref o), (1, .int (Zi v))], [.int (Zi hi), .int (Zi lo)])) (fun _ => rfl) ?_
      refine Z_cge rfl rfl (by first | exact hs.zF _ _ | exact Zor_r _ _ | exact hs.zA _ _ | assumption | exact zA _ _ | exact zS _ | exact Zr_not (hs.zA _ _) | exact hs.1.1 _ _ | exact ⟨by omega, by omega⟩) (by first | exact hs.zF _ _ | exact Zor_r _ _ | exact hs.zA _ _ | assumption | exact zA _ _ | exact zS _ | exact Zr_not (hs.zA _ _) | exact hs.1.1 _ _ | exact ⟨by omega, by omega⟩) (fun c2 => ?_) (fun c2 => ?_)
      · exact kont turn hi lo l0 (by omega) i1 (fun c => i2 lo (by omega) c)
      · refine Z_go (f2 := (23, [(4, .int (Zi turn)), (3, .int (Zi hi)), (2, .int (Zi lo)), (0, .ref o), (1, .int (Zi v))], [.int (Zi lo)])) (fun _ => rfl) ?_
        refine Z_go (f2 := (24, [(4, .int (Zi turn)), (3, .int (Zi hi)), (2, .int (Zi lo)), (0, .ref o), (1, .int (Zi v))], [.int (Zi hi), .int (Zi lo)])) (fun _ => rfl) ?_
        refine Z_iadd rfl ?_
        refine Z_go (f2 := (26, [(4, .int (Zi turn)), (3, .int (Zi hi)), (2, .int (Zi lo)), (0, .ref o), (1, .int (Zi v))], [.int (Zi 1), .int (Zi (lo + hi))])) (fun _ => rfl) ?_
        refine Z_iushr rfl (by omega) (by omega) (p := 2) (by rfl) ?_
        refine Z_go (f2 := (29, [(5, .int (Zi ((lo + hi) % 4294967296 / 2))), (4, .int (Zi turn)), (3, .int (Zi hi)), (2, .int (Zi lo)), (0, .ref o), (1, .int (Zi v))], [])) (fun _ => rfl) ?_
        refine Z_go (f2 := (31, [(5, .int (Zi ((lo + hi) % 4294967296 / 2))), (4, .int (Zi turn)), (3, .int (Zi hi)), (2, .int (Zi lo)), (0, .ref o), (1, .int (Zi v))], [.int (Zi ((lo + hi) % 4294967296 / 2))])) (fun _ => rfl) ?_
        refine Z_go (f2 := (32, [(5, .int (Zi ((lo + hi) % 4294967296 / 2))), (4, .int (Zi turn)), (3, .int (Zi hi)), (2, .int (Zi lo)), (0, .ref o), (1, .int (Zi v))], [.ref o, .int (Zi ((lo + hi) % 4294967296 / 2))])) (fun _ => rfl) ?_
        refine C_gr rfl hs rk (by decide) (Nat.le_of_ble_eq_true rfl) rfl rp ?_
        refine C_al rfl hs ra (by decide) ?_
        show B_R _ _ (36, [(5, .int (Zi ((lo + hi) % 4294967296 / 2))), (4, .int (Zi turn)), (3, .int (Zi hi)), (2, .int (Zi lo)), (0, .ref o), (1, .int (Zi v))], [.int (Zi ((cap : Int))), .int (Zi ((lo + hi) % 4294967296 / 2))]) _ _ _
        refine Z_cge rfl rfl (by first | exact hs.zF _ _ | exact Zor_r _ _ | exact hs.zA _ _ | assumption | exact zA _ _ | exact zS _ | exact Zr_not (hs.zA _ _) | exact hs.1.1 _ _ | exact ⟨by omega, by omega⟩) (by first | exact hs.zF _ _ | exact Zor_r _ _ | exact hs.zA _ _ | assumption | exact zA _ _ | exact zS _ | exact Zr_not (hs.zA _ _) | exact hs.1.1 _ _ | exact ⟨by omega, by omega⟩) (fun c3 => ?_) (fun c3 => ?_)
        · refine Z_go (f2 := (60, [(5, .int (Zi ((lo + hi) % 4294967296 / 2))), (4, .int (Zi turn)), (3, .int (Zi hi)), (2, .int (Zi lo)), (0, .ref o), (1, .int (Zi v))], [.int (Zi ((lo + hi) % 4294967296 / 2))])) (fun _ => rfl) ?_
          refine Z_go (f2 := (61, [(3, .int (Zi ((lo + hi) % 4294967296 / 2))), (5, .int (Zi ((lo + hi) % 4294967296 / 2))), (4, .int (Zi turn)), (2, .int (Zi lo)), (0, .ref o), (1, .int (Zi v))], [])) (fun _ => rfl) ?_
          refine Z_iinc (L2 := [(4, .int (Zi (turn + 1))), (3, .int (Zi ((lo + hi) % 4294967296 / 2))), (5, .int (Zi ((lo + hi) % 4294967296 / 2))), (2, .int (Zi lo)), (0, .ref o), (1, .int (Zi v))]) rfl rfl (by decide) rfl ?_
          refine Z_go (f2 := (10, [(4, .int (Zi (turn + 1))), (3, .int (Zi ((lo + hi) % 4294967296 / 2))), (5, .int (Zi ((lo + hi) % 4294967296 / 2))), (2, .int (Zi lo)), (0, .ref o), (1, .int (Zi v))], [])) (fun _ => rfl) ?_
          exfalso; omega
        · refine Z_go (f2 := (40, [(5, .int (Zi ((lo + hi) % 4294967296 / 2))), (4, .int (Zi turn)), (3, .int (Zi hi)), (2, .int (Zi lo)), (0, .ref o), (1, .int (Zi v))], [.ref o])) (fun _ => rfl) ?_
          refine C_gr rfl hs rk (by decide) (Nat.le_of_ble_eq_true rfl) rfl rp ?_
          refine Z_go (f2 := (45, [(5, .int (Zi ((lo + hi) % 4294967296 / 2))), (4, .int (Zi turn)), (3, .int (Zi hi)), (2, .int (Zi lo)), (0, .ref o), (1, .int (Zi v))], [.int (Zi ((lo + hi) % 4294967296 / 2)), .ref a])) (fun _ => rfl) ?_
          refine C_ia rfl hs ra (by omega) (by omega) ?_
          show B_R _ _ (46, [(5, .int (Zi ((lo + hi) % 4294967296 / 2))), (4, .int (Zi turn)), (3, .int (Zi hi)), (2, .int (Zi lo)), (0, .ref o), (1, .int (Zi v))], [.int (Zi (C_A s a ((lo + hi) % 4294967296 / 2)))]) _ _ _
          refine Z_go (f2 := (47, [(5, .int (Zi ((lo + hi) % 4294967296 / 2))), (4, .int (Zi turn)), (3, .int (Zi hi)), (2, .int (Zi lo)), (0, .ref o), (1, .int (Zi v))], [.int (Zi v), .int (Zi (C_A s a ((lo + hi) % 4294967296 / 2)))])) (fun _ => rfl) ?_
          refine Z_cge rfl rfl (by first | exact hs.zF _ _ | exact Zor_r _ _ | exact hs.zA _ _ | assumption | exact zA _ _ | exact zS _ | exact Zr_not (hs.zA _ _) | exact hs.1.1 _ _ | exact ⟨by omega, by omega⟩) (by first | exact hs.zF _ _ | exact Zor_r _ _ | exact hs.zA _ _ | assumption | exact zA _ _ | exact zS _ | exact Zr_not (hs.zA _ _) | exact hs.1.1 _ _ | exact ⟨by omega, by omega⟩) (fun c4 => ?_) (fun c4 => ?_)
          · refine Z_go (f2 := (60, [(5, .int (Zi ((lo + hi) % 4294967296 / 2))), (4, .int (Zi turn)), (3, .int (Zi hi)), (2, .int (Zi lo)), (0, .ref o), (1, .int (Zi v))], [.int (Zi ((lo + hi) % 4294967296 / 2))])) (fun _ => rfl) ?_
            refine Z_go (f2 := (61, [(3, .int (Zi ((lo + hi) % 4294967296 / 2))), (5, .int (Zi ((lo + hi) % 4294967296 / 2))), (4, .int (Zi turn)), (2, .int (Zi lo)), (0, .ref o), (1, .int (Zi v))], [])) (fun _ => rfl) ?_
            refine Z_iinc (L2 := [(4, .int (Zi (turn + 1))), (3, .int (Zi ((lo + hi) % 4294967296 / 2))), (5, .int (Zi ((lo + hi) % 4294967296 / 2))), (2, .int (Zi lo)), (0, .ref o), (1, .int (Zi v))]) rfl rfl (by decide) rfl ?_
            refine Z_go (f2 := (10, [(4, .int (Zi (turn + 1))), (3, .int (Zi ((lo + hi) % 4294967296 / 2))), (5, .int (Zi ((lo + hi) % 4294967296 / 2))), (2, .int (Zi lo)), (0, .ref o), (1, .int (Zi v))], [])) (fun _ => rfl) ?_
            exfalso; omega
          · refine Z_go (f2 := (52, [(5, .int (Zi ((lo + hi) % 4294967296 / 2))), (4, .int (Zi turn)), (3, .int (Zi hi)), (2, .int (Zi lo)), (0, .ref o), (1, .int (Zi v))], [.int (Zi ((lo + hi) % 4294967296 / 2))])) (fun _ => rfl) ?_
            refine Z_go (f2 := (53, [(5, .int (Zi ((lo + hi) % 4294967296 / 2))), (4, .int (Zi turn)), (3, .int (Zi hi)), (2, .int (Zi lo)), (0, .ref o), (1, .int (Zi v))], [.int (Zi 1), .int (Zi ((lo + hi) % 4294967296 / 2))])) (fun _ => rfl) ?_
            refine Z_iadd rfl ?_
            refine Z_go (f2 := (55, [(2, .int (Zi ((lo + hi) % 4294967296 / 2 + 1))), (5, .int (Zi ((lo + hi) % 4294967296 / 2))), (4, .int (Zi turn)), (3, .int (Zi hi)), (0, .ref o), (1, .int (Zi v))], [])) (fun _ => rfl) ?_
            refine Z_go (f2 := (61, [(2, .int (Zi ((lo + hi) % 4294967296 / 2 + 1))), (5, .int (Zi ((lo + hi) % 4294967296 / 2))), (4, .int (Zi turn)), (3, .int (Zi hi)), (0, .ref o), (1, .int (Zi v))], [])) (fun _ => rfl) ?_
            refine Z_iinc (L2 := [(4, .int (Zi (turn + 1))), (2, .int (Zi ((lo + hi) % 4294967296 / 2 + 1))), (5, .int (Zi ((lo + hi) % 4294967296 / 2))), (3, .int (Zi hi)), (0, .ref o), (1, .int (Zi v))]) rfl rfl (by decide) rfl ?_
            refine Z_go (f2 := (10, [(4, .int (Zi (turn + 1))), (2, .int (Zi ((lo + hi) % 4294967296 / 2 + 1))), (5, .int (Zi ((lo + hi) % 4294967296 / 2))), (3, .int (Zi hi)), (0, .ref o), (1, .int (Zi v))], [])) (fun _ => rfl) ?_
            exfalso; omega
  | succ k ih =>
    intro turn hi lo tk t0 hk l0 l1 l2 i1 i2
    have hk : hi - lo < (2 : Int) ^ k * 2 := hk
    generalize (2 : Int) ^ k = P at hk ih
    refine Z_go (f2 := (12, [(4, .int (Zi turn)), (3, .int (Zi hi)), (2, .int (Zi lo)), (0, .ref o), (1, .int (Zi v))], [.int (Zi turn)])) (fun _ => rfl) ?_
    refine Z_go (f2 := (14, [(4, .int (Zi turn)), (3, .int (Zi hi)), (2, .int (Zi lo)), (0, .ref o), (1, .int (Zi v))], [.int (Zi 32), .int (Zi turn)])) (fun _ => rfl) ?_
    refine Z_cge rfl rfl (by first | exact hs.zF _ _ | exact Zor_r _ _ | exact hs.zA _ _ | assumption | exact zA _ _ | exact zS _ | exact Zr_not (hs.zA _ _) | exact hs.1.1 _ _ | exact ⟨by omega, by omega⟩) (by first | exact hs.zF _ _ | exact Zor_r _ _ | exact hs.zA _ _ | assumption | exact zA _ _ | exact zS _ | exact Zr_not (hs.zA _ _) | exact hs.1.1 _ _ | exact ⟨by omega, by omega⟩) (fun c1 => ?_) (fun c1 => ?_)
    · exact kont turn hi lo l0 (by omega) i1 (fun c => i2 lo (by omega) c)
    · refine Z_go (f2 := (18, [(4, .int (Zi turn)), (3, .int (Zi hi)), (2, .int (Zi lo)), (0, .ref o), (1, .int (Zi v))], [.int (Zi lo)])) (fun _ => rfl) ?_
      refine Z_go (f2 := (19, [(4, .int (Zi turn)), (3, .int (Zi hi)), (2, .int (Zi lo)), (0, .ref o), (1, .int (Zi v))], [.int (Zi hi), .int (Zi lo)])) (fun _ => rfl) ?_
      refine Z_cge rfl rfl (by first | exact hs.zF _ _ | exact Zor_r _ _ | exact hs.zA _ _ | assumption | exact zA _ _ | exact zS _ | exact Zr_not (hs.zA _ _) | exact hs.1.1 _ _ | exact ⟨by omega, by omega⟩) (by first | exact hs.zF _ _ | exact Zor_r _ _ | exact hs.zA _ _ | assumption | exact zA _ _ | exact zS _ | exact Zr_not (hs.zA _ _) | exact hs.1.1 _ _ | exact ⟨by omega, by omega⟩) (fun c2 => ?_) (fun c2 => ?_)
      · exact kont turn hi lo l0 (by omega) i1 (fun c => i2 lo (by omega) c)
      · refine Z_go (f2 := (23, [(4, .int (Zi turn)), (3, .int (Zi hi)), (2, .int (Zi lo)), (0, .ref o), (1, .int (Zi v))], [.int (Zi lo)])) (fun _ => rfl) ?_
        refine Z_go (f2 := (24, [(4, .int (Zi turn)), (3, .int (Zi hi)), (2, .int (Zi lo)), (0, .ref o), (1, .int (Zi v))], [.int (Zi hi), .int (Zi lo)])) (fun _ => rfl) ?_
        refine Z_iadd rfl ?_
        refine Z_go (f2 := (26, [(4, .int (Zi turn)), (3, .int (Zi hi)), (2, .int (Zi lo)), (0, .ref o), (1, .int (Zi v))], [.int (Zi 1), .int (Zi (lo + hi))])) (fun _ => rfl) ?_
        refine Z_iushr rfl (by omega) (by omega) (p := 2) (by rfl) ?_
        refine Z_go (f2 := (29, [(5, .int (Zi ((lo + hi) % 4294967296 / 2))), (4, .int (Zi turn)), (3, .int (Zi hi)), (2, .int (Zi lo)), (0, .ref o), (1, .int (Zi v))], [])) (fun _ => rfl) ?_
        refine Z_go (f2 := (31, [(5, .int (Zi ((lo + hi) % 4294967296 / 2))), (4, .int (Zi turn)), (3, .int (Zi hi)), (2, .int (Zi lo)), (0, .ref o), (1, .int (Zi v))], [.int (Zi ((lo + hi) % 4294967296 / 2))])) (fun _ => rfl) ?_
        refine Z_go (f2 := (32, [(5, .int (Zi ((lo + hi) % 4294967296 / 2))), (4, .int (Zi turn)), (3, .int (Zi hi)), (2, .int (Zi lo)), (0, .ref o), (1, .int (Zi v))], [.ref o, .int (Zi ((lo + hi) % 4294967296 / 2))])) (fun _ => rfl) ?_
        refine C_gr rfl hs rk (by decide) (Nat.le_of_ble_eq_true rfl) rfl rp ?_
        refine C_al rfl hs ra (by decide) ?_
        show B_R _ _ (36, [(5, .int (Zi ((lo + hi) % 4294967296 / 2))), (4, .int (Zi turn)), (3, .int (Zi hi)), (2, .int (Zi lo)), (0, .ref o), (1, .int (Zi v))], [.int (Zi ((cap : Int))), .int (Zi ((lo + hi) % 4294967296 / 2))]) _ _ _
        refine Z_cge rfl rfl (by first | exact hs.zF _ _ | exact Zor_r _ _ | exact hs.zA _ _ | assumption | exact zA _ _ | exact zS _ | exact Zr_not (hs.zA _ _) | exact hs.1.1 _ _ | exact ⟨by omega, by omega⟩) (by first | exact hs.zF _ _ | exact Zor_r _ _ | exact hs.zA _ _ | assumption | exact zA _ _ | exact zS _ | exact Zr_not (hs.zA _ _) | exact hs.1.1 _ _ | exact ⟨by omega, by omega⟩) (fun c3 => ?_) (fun c3 => ?_)
        · refine Z_go (f2 := (60, [(5, .int (Zi ((lo + hi) % 4294967296 / 2))), (4, .int (Zi turn)), (3, .int (Zi hi)), (2, .int (Zi lo)), (0, .ref o), (1, .int (Zi v))], [.int (Zi ((lo + hi) % 4294967296 / 2))])) (fun _ => rfl) ?_
          refine Z_go (f2 := (61, [(3, .int (Zi ((lo + hi) % 4294967296 / 2))), (5, .int (Zi ((lo + hi) % 4294967296 / 2))), (4, .int (Zi turn)), (2, .int (Zi lo)), (0, .ref o), (1, .int (Zi v))], [])) (fun _ => rfl) ?_
          refine Z_iinc (L2 := [(4, .int (Zi (turn + 1))), (3, .int (Zi ((lo + hi) % 4294967296 / 2))), (5, .int (Zi ((lo + hi) % 4294967296 / 2))), (2, .int (Zi lo)), (0, .ref o), (1, .int (Zi v))]) rfl rfl (by decide) rfl ?_
          refine Z_go (f2 := (10, [(4, .int (Zi (turn + 1))), (3, .int (Zi ((lo + hi) % 4294967296 / 2))), (5, .int (Zi ((lo + hi) % 4294967296 / 2))), (2, .int (Zi lo)), (0, .ref o), (1, .int (Zi v))], [])) (fun _ => rfl) ?_
          first
          | (exfalso; omega)
          | (refine B_loc (K := [(4, .int (Zi (turn + 1))), (3, .int (Zi ((lo + hi) % 4294967296 / 2))), (2, .int (Zi lo)), (0, .ref o), (1, .int (Zi v))]) (N_all_sub ⟨rfl, rfl, rfl, rfl, rfl, trivial⟩) (show ([4, 3, 2, 0, 1] : List Nat).Nodup by decide) ?_
             rw [ri _ (by omega) (by omega)] at c3
             exact ih _ _ _ (by omega) (by omega) (by omega) (by omega) (by omega) (by omega) i1 (fun i a b => by by_cases e : i = (lo + hi) % 4294967296 / 2; subst e; omega; have := sr ((lo + hi) % 4294967296 / 2) i (by omega) (by omega) b; omega))
        · refine Z_go (f2 := (40, [(5, .int (Zi ((lo + hi) % 4294967296 / 2))), (4, .int (Zi turn)), (3, .int (Zi hi)), (2, .int (Zi lo)), (0, .ref o), (1, .int (Zi v))], [.ref o])) (fun _ => rfl) ?_
          refine C_gr rfl hs rk (by decide) (Nat.le_of_ble_eq_true rfl) rfl rp ?_
          refine Z_go (f2 := (45, [(5, .int (Zi ((lo + hi) % 4294967296 / 2))), (4, .int (Zi turn)), (3, .int (Zi hi)), (2, .int (Zi lo)), (0, .ref o), (1, .int (Zi v))], [.int (Zi ((lo + hi) % 4294967296 / 2)), .ref a])) (fun _ => rfl) ?_
          refine C_ia rfl hs ra (by omega) (by omega) ?_
          show B_R _ _ (46, [(5, .int (Zi ((lo + hi) % 4294967296 / 2))), (4, .int (Zi turn)), (3, .int (Zi hi)), (2, .int (Zi lo)), (0, .ref o), (1, .int (Zi v))], [.int (Zi (C_A s a ((lo + hi) % 4294967296 / 2)))]) _ _ _
          refine Z_go (f2 := (47, [(5, .int (Zi ((lo + hi) % 4294967296 / 2))), (4, .int (Zi turn)), (3, .int (Zi hi)), (2, .int (Zi lo)), (0, .ref o), (1, .int (Zi v))], [.int (Zi v), .int (Zi (C_A s a ((lo + hi) % 4294967296 / 2)))])) (fun _ => rfl) ?_
          refine Z_cge rfl rfl (by first | exact hs.zF _ _ | exact Zor_r _ _ | exact hs.zA _ _ | assumption | exact zA _ _ | exact zS _ | exact Zr_not (hs.zA _ _) | exact hs.1.1 _ _ | exact ⟨by omega, by omega⟩) (by first | exact hs.zF _ _ | exact Zor_r _ _ | exact hs.zA _ _ | assumption | exact zA _ _ | exact zS _ | exact Zr_not (hs.zA _ _) | exact hs.1.1 _ _ | exact ⟨by omega, by omega⟩) (fun c4 => ?_) (fun c4 => ?_)
          · refine Z_go (f2 := (60, [(5, .int (Zi ((lo + hi) % 4294967296 / 2))), (4, .int (Zi turn)), (3, .int (Zi hi)), (2, .int (Zi lo)), (0, .ref o), (1, .int (Zi v))], [.int (Zi ((lo + hi) % 4294967296 / 2))])) (fun _ => rfl) ?_
            refine Z_go (f2 := (61, [(3, .int (Zi ((lo + hi) % 4294967296 / 2))), (5, .int (Zi ((lo + hi) % 4294967296 / 2))), (4, .int (Zi turn)), (2, .int (Zi lo)), (0, .ref o), (1, .int (Zi v))], [])) (fun _ => rfl) ?_
            refine Z_iinc (L2 := [(4, .int (Zi (turn + 1))), (3, .int (Zi ((lo + hi) % 4294967296 / 2))), (5, .int (Zi ((lo + hi) % 4294967296 / 2))), (2, .int (Zi lo)), (0, .ref o), (1, .int (Zi v))]) rfl rfl (by decide) rfl ?_
            refine Z_go (f2 := (10, [(4, .int (Zi (turn + 1))), (3, .int (Zi ((lo + hi) % 4294967296 / 2))), (5, .int (Zi ((lo + hi) % 4294967296 / 2))), (2, .int (Zi lo)), (0, .ref o), (1, .int (Zi v))], [])) (fun _ => rfl) ?_
            first
            | (exfalso; omega)
            | (refine B_loc (K := [(4, .int (Zi (turn + 1))), (3, .int (Zi ((lo + hi) % 4294967296 / 2))), (2, .int (Zi lo)), (0, .ref o), (1, .int (Zi v))]) (N_all_sub ⟨rfl, rfl, rfl, rfl, rfl, trivial⟩) (show ([4, 3, 2, 0, 1] : List Nat).Nodup by decide) ?_
               rw [ri _ (by omega) (by omega)] at c4
               exact ih _ _ _ (by omega) (by omega) (by omega) (by omega) (by omega) (by omega) i1 (fun i a b => by by_cases e : i = (lo + hi) % 4294967296 / 2; subst e; omega; have := sr ((lo + hi) % 4294967296 / 2) i (by omega) (by omega) b; omega))
          · refine Z_go (f2 := (52, [(5, .int (Zi ((lo + hi) % 4294967296 / 2))), (4, .int (Zi turn)), (3, .int (Zi hi)), (2, .int (Zi lo)), (0, .ref o), (1, .int (Zi v))], [.int (Zi ((lo + hi) % 4294967296 / 2))])) (fun _ => rfl) ?_
            refine Z_go (f2 := (53, [(5, .int (Zi ((lo + hi) % 4294967296 / 2))), (4, .int (Zi turn)), (3, .int (Zi hi)), (2, .int (Zi lo)), (0, .ref o), (1, .int (Zi v))], [.int (Zi 1), .int (Zi ((lo + hi) % 4294967296 / 2))])) (fun _ => rfl) ?_
            refine Z_iadd rfl ?_
            refine Z_go (f2 := (55, [(2, .int (Zi ((lo + hi) % 4294967296 / 2 + 1))), (5, .int (Zi ((lo + hi) % 4294967296 / 2))), (4, .int (Zi turn)), (3, .int (Zi hi)), (0, .ref o), (1, .int (Zi v))], [])) (fun _ => rfl) ?_
            refine Z_go (f2 := (61, [(2, .int (Zi ((lo + hi) % 4294967296 / 2 + 1))), (5, .int (Zi ((lo + hi) % 4294967296 / 2))), (4, .int (Zi turn)), (3, .int (Zi hi)), (0, .ref o), (1, .int (Zi v))], [])) (fun _ => rfl) ?_
            refine Z_iinc (L2 := [(4, .int (Zi (turn + 1))), (2, .int (Zi ((lo + hi) % 4294967296 / 2 + 1))), (5, .int (Zi ((lo + hi) % 4294967296 / 2))), (3, .int (Zi hi)), (0, .ref o), (1, .int (Zi v))]) rfl rfl (by decide) rfl ?_
            refine Z_go (f2 := (10, [(4, .int (Zi (turn + 1))), (2, .int (Zi ((lo + hi) % 4294967296 / 2 + 1))), (5, .int (Zi ((lo + hi) % 4294967296 / 2))), (3, .int (Zi hi)), (0, .ref o), (1, .int (Zi v))], [])) (fun _ => rfl) ?_
            refine B_loc (K := [(4, .int (Zi (turn + 1))), (3, .int (Zi hi)), (2, .int (Zi ((lo + hi) % 4294967296 / 2 + 1))), (0, .ref o), (1, .int (Zi v))]) (N_all_sub ⟨rfl, rfl, rfl, rfl, rfl, trivial⟩) (show ([4, 3, 2, 0, 1] : List Nat).Nodup by decide) ?_
            rw [ri _ (by omega) (by omega)] at c4
            exact ih _ _ _ (by omega) (by omega) (by omega) (by omega) (by omega) l2 (fun i a b => by by_cases e : i = (lo + hi) % 4294967296 / 2; subst e; omega; have := sr i ((lo + hi) % 4294967296 / 2) a (by omega) (by omega); omega) i2
theorem C_place (d : Nat) {s : C_S} {p : List Nat} {o a cap : Nat} {xs : List Int} {v : Int} (hr : D_Row s p o a cap xs) (so : L_srt xs) (zv : Zr v) : C_rd (d + 1) 98 [.ref o, .int (Zi v)] s (fun x => x = some (.int (Zi (L_pl xs v)))) := by
  refine C_enterR (M := E_m98) rfl (Nat.le_of_ble_eq_true rfl) (fun h0 h hs => ?_)
  show B_R (d + 0) _ (0, [(0, .ref o), (1, .int (Zi v))], []) _ _ _
  have hr0 := hr
  obtain ⟨rk, rt, rp, ra, rs, rm, rl, r8, ri⟩ := hr
  have z := D_Row.zr hs ⟨rk, rt, rp, ra, rs, rm, rl, r8, ri⟩
  refine Z_go (f2 := (1, [(0, .ref o), (1, .int (Zi v))], [.int (Zi 0)])) (fun _ => rfl) ?_
  refine Z_go (f2 := (2, [(2, .int (Zi 0)), (0, .ref o), (1, .int (Zi v))], [])) (fun _ => rfl) ?_
  refine Z_go (f2 := (3, [(2, .int (Zi 0)), (0, .ref o), (1, .int (Zi v))], [.ref o])) (fun _ => rfl) ?_
  refine C_gi rfl hs rk (by decide) (Nat.le_of_ble_eq_true rfl) rfl ?_
  rw [show C_F (s) o 1 = (xs.length : Int) from (by first | exact rm | exact (if_neg (fun e => absurd e.1 (by assumption))).trans rm)]
  show B_R _ _ (6, [(2, .int (Zi 0)), (0, .ref o), (1, .int (Zi v))], [.int (Zi ((xs.length : Int)))]) _ _ _
  refine Z_go (f2 := (7, [(3, .int (Zi ((xs.length : Int)))), (2, .int (Zi 0)), (0, .ref o), (1, .int (Zi v))], [])) (fun _ => rfl) ?_
  refine Z_go (f2 := (8, [(3, .int (Zi ((xs.length : Int)))), (2, .int (Zi 0)), (0, .ref o), (1, .int (Zi v))], [.int (Zi 0)])) (fun _ => rfl) ?_
  refine Z_go (f2 := (10, [(4, .int (Zi 0)), (3, .int (Zi ((xs.length : Int)))), (2, .int (Zi 0)), (0, .ref o), (1, .int (Zi v))], [])) (fun _ => rfl) ?_
  refine B_loc (K := [(4, .int (Zi 0)), (3, .int (Zi ((xs.length : Int)))), (2, .int (Zi 0)), (0, .ref o), (1, .int (Zi v))]) (N_all_sub ⟨rfl, rfl, rfl, rfl, rfl, trivial⟩) (show ([4, 3, 2, 0, 1] : List Nat).Nodup by decide) ?_
  refine C_place_lp hs hr0 so zv (fun turn hi lo l0 l1 i1 i2 => ?_) 32 _ _ _ (by omega) (by omega) (by have : (2 : Int) ^ 32 = 4294967296 := rfl; omega) (by omega) (by omega) (by omega) (fun i a b => by omega) (fun i a b => by omega)
  refine Z_go (f2 := (68, [(4, .int (Zi turn)), (3, .int (Zi hi)), (2, .int (Zi lo)), (0, .ref o), (1, .int (Zi v))], [.int (Zi lo)])) (fun _ => rfl) ?_
  refine Z_iret rfl rfl (by first | rfl | decide | exact narrow_b01 (by omega)) ⟨rfl, rfl, ?_⟩
  try dsimp only
  have e := L_pl_eq l0 l1 i1 i2
  rw [e]
