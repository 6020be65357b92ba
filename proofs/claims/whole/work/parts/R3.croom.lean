/-! the class: a file taken in: the room by its length -/
theorem C_exch9 (d : Nat) {s : C_S} {p : List Nat} {o ea u v : Nat} {fs : Int → Option (List Int)} {ca th tg : Int} {fb N : Nat} {X2 : List Int} {f : Int} (hd : D_Sh s p o ea u v fs ca th tg) (t0 : 0 ≤ th) (t1 : th ≤ 40) (b0 : 0 ≤ tg) (b1 : tg ≤ 16000) (hb : D_by s fb N X2) (hx2 : X2.length ≤ 1000) (hN : N ≤ 67108864) (nt : ¬ p <+: C_T s fb) (zf : Zr f) : C_ok (d + 5) 103 [.ref o, .int (Zi f), .ref fb, .int (Zi ((X2.length : Int)))] s (fun x s2 n => (n : Int) ≤ 5 * (X2.length : Int) + 40 ∧ C_n s ≤ C_n s2 ∧ C_n s2 ≤ C_n s + 270 ∧ C_fr (fun t => p <+: t) s s2 ∧ D_ps s2 o = D_ps s o ∧ ∃ z : Int, x = some (.int (Zi z)) ∧ (z = -1 ∧ n = 0 ∧ s2 = s ∧ (∀ X, D_isf fs ca f X → 16000 < tg - X.length + X2.length) ∨ z = X2.length ∧ ∃ X, D_isf fs ca f X ∧ tg - X.length + X2.length ≤ 16000 ∧ D_Sh s2 p o ea u v (fun i => if i = f then some X2 else fs i) ca th (tg + (X2.length - X.length)))) := by
  refine C_enter (M := E_m103) rfl (Nat.le_of_ble_eq_true rfl) (fun h0 h hs => ?_)
  show B_R (d + 4) _ (0, [(0, .ref o), (1, .int (Zi f)), (2, .ref fb), (3, .int (Zi ((X2.length : Int))))], []) _ _ _
  have hd0 := hd
  have w := hs.1
  obtain ⟨⟨ok, ot, oe, ou, ov, ek, et, oc, oh, og, ca0, ca1, uv⟩, g1, g2, g3, g4⟩ := hd
  have hb0 := hb
  have zN := hs.len (show 1 < 20 by decide) hb.1
  rcases hd0.one f with ⟨e, ba, g, a, cap, X, hi, hq, he, hx, hcap⟩ | ⟨hn, hno⟩
  · have i0 := hi.1
    have i1 := hi.2.1
    have zX : (X.length : Int) ≤ 1000 := by omega
    have lE := C_lt w he.1 (show 8 < 20 by decide)
    refine Z_go (f2 := (1, [(0, .ref o), (1, .int (Zi f)), (2, .ref fb), (3, .int (Zi ((X2.length : Int))))], [.ref o])) (fun _ => rfl) ?_
    refine Z_go (f2 := (2, [(0, .ref o), (1, .int (Zi f)), (2, .ref fb), (3, .int (Zi ((X2.length : Int))))], [.int (Zi f), .ref o])) (fun _ => rfl) ?_
    refine C_callVR (As := [.int (Zi f)]) (rest := []) rfl (by decide) rfl (by decide) rfl rfl (by decide +kernel) (Nat.le_of_ble_eq_true rfl) hs ok (C_find1 _ hd0 (by omega) (by omega) hq) (fun x q => ?_)
    obtain rfl := q
    show B_R _ _ (5, [(0, .ref o), (1, .int (Zi f)), (2, .ref fb), (3, .int (Zi ((X2.length : Int))))], [.ref e]) _ _ _
    refine Z_go (f2 := (7, [(4, .ref e), (0, .ref o), (1, .int (Zi f)), (2, .ref fb), (3, .int (Zi ((X2.length : Int))))], [])) (fun _ => rfl) ?_
    refine Z_go (f2 := (9, [(4, .ref e), (0, .ref o), (1, .int (Zi f)), (2, .ref fb), (3, .int (Zi ((X2.length : Int))))], [.ref e])) (fun _ => rfl) ?_
    refine Z_go (f2 := (12, [(4, .ref e), (0, .ref o), (1, .int (Zi f)), (2, .ref fb), (3, .int (Zi ((X2.length : Int))))], [])) (fun _ => rfl) ?_
    refine Z_go (f2 := (13, [(4, .ref e), (0, .ref o), (1, .int (Zi f)), (2, .ref fb), (3, .int (Zi ((X2.length : Int))))], [.ref o])) (fun _ => rfl) ?_
    refine C_gi rfl hs ok (by decide) (Nat.le_of_ble_eq_true rfl) rfl ?_
    rw [show C_F (s) o 5 = tg from (by first | exact og | exact (if_neg (fun e => absurd e.1 (by assumption))).trans og | exact (if_neg (fun e => absurd e.2 (by decide))).trans og | exact (if_neg (fun e => absurd e.2 (by decide))).trans ((if_neg (fun e => absurd e.2 (by decide))).trans og) | exact (if_neg (fun e => absurd e.2 (by decide))).trans ((if_neg (fun e => absurd e.2 (by decide))).trans ((if_neg (fun e => absurd e.2 (by decide))).trans og)))]
    show B_R _ _ (16, [(4, .ref e), (0, .ref o), (1, .int (Zi f)), (2, .ref fb), (3, .int (Zi ((X2.length : Int))))], [.int (Zi tg)]) _ _ _
    refine Z_go (f2 := (18, [(4, .ref e), (0, .ref o), (1, .int (Zi f)), (2, .ref fb), (3, .int (Zi ((X2.length : Int))))], [.ref e, .int (Zi tg)])) (fun _ => rfl) ?_
    refine C_gr rfl hs he.1 (by decide) (Nat.le_of_ble_eq_true rfl) rfl he.2.2.1 ?_
    refine C_al rfl hs he.2.2.2.2.1 (by decide) ?_
    show B_R _ _ (22, [(4, .ref e), (0, .ref o), (1, .int (Zi f)), (2, .ref fb), (3, .int (Zi ((X2.length : Int))))], [.int (Zi ((X.length : Int))), .int (Zi tg)]) _ _ _
    refine Z_isub rfl ?_
    refine Z_go (f2 := (24, [(4, .ref e), (0, .ref o), (1, .int (Zi f)), (2, .ref fb), (3, .int (Zi ((X2.length : Int))))], [.int (Zi ((X2.length : Int))), .int (Zi (tg - (X.length : Int)))])) (fun _ => rfl) ?_
    refine Z_iadd rfl ?_
    refine Z_go (f2 := (28, [(4, .ref e), (0, .ref o), (1, .int (Zi f)), (2, .ref fb), (3, .int (Zi ((X2.length : Int))))], [.int (Zi 16000), .int (Zi (tg - (X.length : Int) + (X2.length : Int)))])) (fun _ => rfl) ?_
    refine Z_cle rfl rfl (by first | exact hs.zF _ _ | exact Zor_r _ _ | exact hs.zA _ _ | assumption | exact zA _ _ | exact zS _ | exact Zr_not (hs.zA _ _) | exact hs.1.1 _ _ | exact ⟨by omega, by omega⟩) (by first | exact hs.zF _ _ | exact Zor_r _ _ | exact hs.zA _ _ | assumption | exact zA _ _ | exact zS _ | exact Zr_not (hs.zA _ _) | exact hs.1.1 _ _ | exact ⟨by omega, by omega⟩) (fun c1 => ?_) (fun c1 => ?_)
    · refine Z_go (f2 := (34, [(4, .ref e), (0, .ref o), (1, .int (Zi f)), (2, .ref fb), (3, .int (Zi ((X2.length : Int))))], [.ref o])) (fun _ => rfl) ?_
      refine Z_go (f2 := (35, [(4, .ref e), (0, .ref o), (1, .int (Zi f)), (2, .ref fb), (3, .int (Zi ((X2.length : Int))))], [.ref o, .ref o])) (fun _ => rfl) ?_
      refine C_gi rfl hs ok (by decide) (Nat.le_of_ble_eq_true rfl) rfl ?_
      rw [show C_F (s) o 5 = tg from (by first | exact og | exact (if_neg (fun e => absurd e.1 (by assumption))).trans og | exact (if_neg (fun e => absurd e.2 (by decide))).trans og | exact (if_neg (fun e => absurd e.2 (by decide))).trans ((if_neg (fun e => absurd e.2 (by decide))).trans og) | exact (if_neg (fun e => absurd e.2 (by decide))).trans ((if_neg (fun e => absurd e.2 (by decide))).trans ((if_neg (fun e => absurd e.2 (by decide))).trans og)))]
      show B_R _ _ (38, [(4, .ref e), (0, .ref o), (1, .int (Zi f)), (2, .ref fb), (3, .int (Zi ((X2.length : Int))))], [.int (Zi tg), .ref o]) _ _ _
      refine Z_go (f2 := (39, [(4, .ref e), (0, .ref o), (1, .int (Zi f)), (2, .ref fb), (3, .int (Zi ((X2.length : Int))))], [.int (Zi ((X2.length : Int))), .int (Zi tg), .ref o])) (fun _ => rfl) ?_
      refine Z_go (f2 := (41, [(4, .ref e), (0, .ref o), (1, .int (Zi f)), (2, .ref fb), (3, .int (Zi ((X2.length : Int))))], [.ref e, .int (Zi ((X2.length : Int))), .int (Zi tg), .ref o])) (fun _ => rfl) ?_
      refine C_gr rfl hs he.1 (by decide) (Nat.le_of_ble_eq_true rfl) rfl he.2.2.1 ?_
      refine C_al rfl hs he.2.2.2.2.1 (by decide) ?_
      show B_R _ _ (45, [(4, .ref e), (0, .ref o), (1, .int (Zi f)), (2, .ref fb), (3, .int (Zi ((X2.length : Int))))], [.int (Zi ((X.length : Int))), .int (Zi ((X2.length : Int))), .int (Zi tg), .ref o]) _ _ _
      refine Z_isub rfl ?_
      refine Z_iadd rfl ?_
      refine C_pi rfl hs ok (by decide) (Nat.le_of_ble_eq_true rfl) (.inl rfl) rfl rfl rfl (by first | exact hs.zF _ _ | exact Zor_r _ _ | exact hs.zA _ _ | assumption | exact zA _ _ | exact zS _ | exact Zr_not (hs.zA _ _) | exact hs.1.1 _ _ | exact ⟨by omega, by omega⟩) (fun h hs => ?_)
      have w1 := hs.1
      have hfr : C_fr (fun t => t = p) s (C_sF s o 5 (tg + ((X2.length : Int) - (X.length : Int)))) := (C_fr.refl _ s).sF ot
      have he2 := he.fr (Z := fun t => t = p) w hfr (fun t ht e => by subst e; have := L_pre_len ht; omega)
      obtain ⟨es2, er2⟩ := he2.es
      have hb2 := hb0.fr w hfr (fun e => nt (by rw [e]; exact L_pre_self p))
      have nt2 : ¬ p ++ [e] <+: C_T (C_sF s o 5 (tg + ((X2.length : Int) - (X.length : Int)))) fb := fun h => nt (L_pre_p h)
      refine Z_go (f2 := (52, [(4, .ref e), (0, .ref o), (1, .int (Zi f)), (2, .ref fb), (3, .int (Zi ((X2.length : Int))))], [.ref e])) (fun _ => rfl) ?_
      refine Z_go (f2 := (53, [(4, .ref e), (0, .ref o), (1, .int (Zi f)), (2, .ref fb), (3, .int (Zi ((X2.length : Int))))], [.ref fb, .ref e])) (fun _ => rfl) ?_
      refine Z_go (f2 := (54, [(4, .ref e), (0, .ref o), (1, .int (Zi f)), (2, .ref fb), (3, .int (Zi ((X2.length : Int))))], [.int (Zi ((X2.length : Int))), .ref fb, .ref e])) (fun _ => rfl) ?_
      refine C_callV (As := [.ref fb, .int (Zi ((X2.length : Int)))]) (rest := []) rfl (by decide) rfl (by decide) rfl rfl (by decide +kernel) (Nat.le_of_ble_eq_true rfl) hs he.1 (C_fillE _ (X := X2) es2 er2 hb2 hx2 hN nt2) (fun x h u2 n hs q => ?_)
      obtain ⟨rfl, hn1, ba2, a2, cap2, y1, y2, y3, y4, y5⟩ := q
      show B_R _ _ (57, [(4, .ref e), (0, .ref o), (1, .int (Zi f)), (2, .ref fb), (3, .int (Zi ((X2.length : Int))))], []) _ _ _
      refine Z_go (f2 := (58, [(4, .ref e), (0, .ref o), (1, .int (Zi f)), (2, .ref fb), (3, .int (Zi ((X2.length : Int))))], [.int (Zi ((X2.length : Int)))])) (fun _ => rfl) ?_
      refine Z_iret rfl rfl (by first | rfl | decide | exact narrow_b01 (by omega)) ⟨_, hs, ?_⟩
      try dsimp only
      have hfr2 : C_fr (fun t => t = p ∨ p ++ [e] <+: t) s u2 := hfr.trans y2 (fun t h => .inl h) (fun t h => .inr h)
      have hq2 : ∀ i, C_Q u2 ea i = C_Q s ea i := fun i => congrFun (y2.2.2.1 ea (C_lt w1 ek (show 6 < 20 by decide)) (fun h => by have h : p ++ [e] <+: C_T s ea := h; rw [et] at h; have := L_pre_len h; omega)).2.2.2.2 i
      have hle := C_lt w1 (o := o) ok (show 16 < 20 by decide)
      obtain ⟨x1, x2, x3, x4, x5⟩ := y2.2.2.1 o hle (fun h => by have h : p ++ [e] <+: C_T s o := h; rw [ot] at h; have := L_pre_len h; omega)
      have kk : ∀ j k, C_K s j = k → k.1 < 20 → C_K u2 j = k := fun j k hk hk2 => y2.K w1 (show C_K (C_sF s o 5 (tg + ((X2.length : Int) - (X.length : Int)))) j = k from hk) hk2
      have tt : ∀ j k, C_K s j = k → k.1 < 20 → C_T u2 j = C_T s j := fun j k hk hk2 => (y2.2.1 j (C_lt w1 (show C_K (C_sF s o 5 (tg + ((X2.length : Int) - (X.length : Int)))) j = k from hk) hk2)).2
      have q3 := g3.fr w hfr2 (fun h => by rcases h with h | h; exact L_app_ne p u h.symm; exact L_pre_no (show u ≠ e from fun z => by obtain ⟨_, _, _, hr, _⟩ := g3; have := hr.1; rw [z] at this; have h9 := he.1; rw [this] at h9; cases h9) (L_pre_self _) h)
      have q4 := g4.fr w hfr2 (fun h => by rcases h with h | h; exact L_app_ne p v h.symm; exact L_pre_no (show v ≠ e from fun z => by obtain ⟨_, _, _, hr, _⟩ := g4; have := hr.1; rw [z] at this; have h9 := he.1; rw [this] at h9; cases h9) (L_pre_self _) h)
      refine ⟨by omega, by have : C_n (C_sF s o 5 (tg + ((X2.length : Int) - (X.length : Int)))) = C_n s := rfl; omega, by have : C_n (C_sF s o 5 (tg + ((X2.length : Int) - (X.length : Int)))) = C_n s := rfl; omega, hfr2.weak (fun t h => by rcases h with h | h; rw [h]; exact L_pre_self p; exact L_pre_p h), ?_, _, rfl, .inr ⟨rfl, X, hi, by omega, ?_⟩⟩
      · unfold D_ps
        rw [show C_P u2 o = C_P s o from x2, ou, ov, q3.2, q4.2]
      refine ⟨⟨kk o _ ok (by decide), by rw [tt o _ ok (by decide)]; exact ot, by rw [x2]; exact oe, by rw [x2]; exact ou, by rw [x2]; exact ov, kk ea _ ek (by decide), by rw [tt ea _ ek (by decide)]; exact et, by rw [x1]; exact (if_neg (by omega)).trans oc, by rw [x1]; exact (if_neg (by omega)).trans oh, by rw [x1]; exact if_pos ⟨rfl, rfl⟩, ca0, ca1, uv⟩, fun i j0 j1 => ?_, fun i j a1 a2 b1 b2 e2 q1 q2 => ?_, q3.1, q4.1⟩
      · by_cases c : i = f
        · subst c
          exact .inr ⟨e, ba2, g, a2, cap2, X2, by rw [hq2]; exact hq, if_pos rfl, y1, hx2, by omega⟩
        · have := (g1 i j0 j1).fr (s2 := u2) w hfr2 (fun e3 he3 t ht h => ?_) (hq2 i)
          · rcases this with ⟨h1, h2⟩ | ⟨e, ba, g, a, cap, X, h1, h2, h3⟩
            · exact .inl ⟨h1, (if_neg c).trans h2⟩
            · exact .inr ⟨e, ba, g, a, cap, X, h1, (if_neg c).trans h2, h3⟩
          · rcases h with h | h
            · exact L_pre_ne ht h
            · exact L_pre_no (show e ≠ e3 from fun z => c (g2 i f j0 j1 i0 i1 e3 he3 (by rw [← z]; exact hq))) h ht
      · rw [hq2] at q1 q2
        exact g2 i j a1 a2 b1 b2 e2 q1 q2
    · refine Z_go (f2 := (32, [(4, .ref e), (0, .ref o), (1, .int (Zi f)), (2, .ref fb), (3, .int (Zi ((X2.length : Int))))], [.int (Zi (-1))])) (fun _ => rfl) ?_
      refine Z_iret rfl rfl (by first | rfl | decide | exact narrow_b01 (by omega)) ⟨_, hs, ?_⟩
      try dsimp only
      first
      | (exfalso; omega)
      | exact ⟨by omega, by omega, by omega, C_fr.refl _ _, rfl, -1, rfl, .inl ⟨rfl, rfl, rfl, fun Y hY => by rw [← hi.inj hY]; omega⟩⟩
  · refine Z_go (f2 := (1, [(0, .ref o), (1, .int (Zi f)), (2, .ref fb), (3, .int (Zi ((X2.length : Int))))], [.ref o])) (fun _ => rfl) ?_
    refine Z_go (f2 := (2, [(0, .ref o), (1, .int (Zi f)), (2, .ref fb), (3, .int (Zi ((X2.length : Int))))], [.int (Zi f), .ref o])) (fun _ => rfl) ?_
    refine C_callVR (As := [.int (Zi f)]) (rest := []) rfl (by decide) rfl (by decide) rfl rfl (by decide +kernel) (Nat.le_of_ble_eq_true rfl) hs ok (C_find0 _ hd0 hn zf) (fun x q => ?_)
    obtain rfl := q
    show B_R _ _ (5, [(0, .ref o), (1, .int (Zi f)), (2, .ref fb), (3, .int (Zi ((X2.length : Int))))], [.null]) _ _ _
    refine Z_go (f2 := (7, [(4, .null), (0, .ref o), (1, .int (Zi f)), (2, .ref fb), (3, .int (Zi ((X2.length : Int))))], [])) (fun _ => rfl) ?_
    refine Z_go (f2 := (9, [(4, .null), (0, .ref o), (1, .int (Zi f)), (2, .ref fb), (3, .int (Zi ((X2.length : Int))))], [.null])) (fun _ => rfl) ?_
    refine Z_go (f2 := (31, [(4, .null), (0, .ref o), (1, .int (Zi f)), (2, .ref fb), (3, .int (Zi ((X2.length : Int))))], [])) (fun _ => rfl) ?_
    refine Z_go (f2 := (32, [(4, .null), (0, .ref o), (1, .int (Zi f)), (2, .ref fb), (3, .int (Zi ((X2.length : Int))))], [.int (Zi (-1))])) (fun _ => rfl) ?_
    refine Z_iret rfl rfl (by first | rfl | decide | exact narrow_b01 (by omega)) ⟨_, hs, ?_⟩
    try dsimp only
    exact ⟨by omega, by omega, by omega, C_fr.refl _ _, rfl, -1, rfl, .inl ⟨rfl, rfl, rfl, fun Y hY => absurd hY (hno Y)⟩⟩
theorem C_take9 (d : Nat) {s : C_S} {p : List Nat} {o ea u v : Nat} {fs : Int → Option (List Int)} {ca th tg : Int} {fb N : Nat} {X2 : List Int} (hd : D_Sh s p o ea u v fs ca th tg) (t0 : 0 ≤ th) (t1 : th ≤ 40) (b0 : 0 ≤ tg) (b1 : tg ≤ 16000) (hb : D_by s fb N X2) (hx2 : X2.length ≤ 1000) (hN : N ≤ 67108864) (nt : ¬ p <+: C_T s fb) : C_ok (d + 5) 102 [.ref o, .ref fb, .int (Zi ((X2.length : Int)))] s (fun x s2 n => (n : Int) ≤ 5 * (X2.length : Int) + 40 ∧ C_n s ≤ C_n s2 ∧ C_n s2 ≤ C_n s + 270 ∧ C_fr (fun t => p <+: t) s s2 ∧ D_ps s2 o = D_ps s o ∧ ∃ z : Int, x = some (.int (Zi z)) ∧ (z = -1 ∧ n = 0 ∧ s2 = s ∧ (40 ≤ th ∨ 200 ≤ ca ∨ 16000 < tg + X2.length) ∨ z = ca ∧ ¬ (40 ≤ th ∨ 200 ≤ ca ∨ 16000 < tg + X2.length) ∧ D_Sh s2 p o ea u v (fun i => if i = ca then some X2 else fs i) (ca + 1) (th + 1) (tg + X2.length))) := by
  refine C_enter (M := E_m102) rfl (Nat.le_of_ble_eq_true rfl) (fun h0 h hs => ?_)
  show B_R (d + 4) _ (0, [(0, .ref o), (1, .ref fb), (2, .int (Zi ((X2.length : Int))))], []) _ _ _
  have hd0 := hd
  have w := hs.1
  obtain ⟨⟨ok, ot, oe, ou, ov, ek, et, oc, oh, og, ca0, ca1, uv⟩, g1, g2, g3, g4⟩ := hd
  have hb0 := hb
  have zN := hs.len (show 1 < 20 by decide) hb.1
  have zc : Zr ca := ⟨by omega, by omega⟩
  have lo := C_lt w ok (show 16 < 20 by decide)
  have lea := C_lt w ek (show 6 < 20 by decide)
  refine Z_go (f2 := (1, [(0, .ref o), (1, .ref fb), (2, .int (Zi ((X2.length : Int))))], [.ref o])) (fun _ => rfl) ?_
  refine C_gi rfl hs ok (by decide) (Nat.le_of_ble_eq_true rfl) rfl ?_
  rw [show C_F (s) o 4 = th from (by first | exact oh | exact (if_neg (fun e => absurd e.1 (by assumption))).trans oh | exact (if_neg (fun e => absurd e.2 (by decide))).trans oh | exact (if_neg (fun e => absurd e.2 (by decide))).trans ((if_neg (fun e => absurd e.2 (by decide))).trans oh) | exact (if_neg (fun e => absurd e.2 (by decide))).trans ((if_neg (fun e => absurd e.2 (by decide))).trans ((if_neg (fun e => absurd e.2 (by decide))).trans oh)))]
  show B_R _ _ (4, [(0, .ref o), (1, .ref fb), (2, .int (Zi ((X2.length : Int))))], [.int (Zi th)]) _ _ _
  refine Z_go (f2 := (6, [(0, .ref o), (1, .ref fb), (2, .int (Zi ((X2.length : Int))))], [.int (Zi 40), .int (Zi th)])) (fun _ => rfl) ?_
  refine Z_cge rfl rfl (by first | exact hs.zF _ _ | exact Zor_r _ _ | exact hs.zA _ _ | assumption | exact zA _ _ | exact zS _ | exact Zr_not (hs.zA _ _) | exact hs.1.1 _ _ | exact ⟨by omega, by omega⟩) (by first | exact hs.zF _ _ | exact Zor_r _ _ | exact hs.zA _ _ | assumption | exact zA _ _ | exact zS _ | exact Zr_not (hs.zA _ _) | exact hs.1.1 _ _ | exact ⟨by omega, by omega⟩) (fun c1 => ?_) (fun c1 => ?_)
  · refine Z_go (f2 := (32, [(0, .ref o), (1, .ref fb), (2, .int (Zi ((X2.length : Int))))], [.int (Zi (-1))])) (fun _ => rfl) ?_
    refine Z_iret rfl rfl (by first | rfl | decide | exact narrow_b01 (by omega)) ⟨_, hs, ?_⟩
    try dsimp only
    exact ⟨by omega, by omega, by omega, C_fr.refl _ _, rfl, -1, rfl, .inl ⟨rfl, rfl, rfl, by omega⟩⟩
  · refine Z_go (f2 := (10, [(0, .ref o), (1, .ref fb), (2, .int (Zi ((X2.length : Int))))], [.ref o])) (fun _ => rfl) ?_
    refine C_gi rfl hs ok (by decide) (Nat.le_of_ble_eq_true rfl) rfl ?_
    rw [show C_F (s) o 3 = ca from (by first | exact oc | exact (if_neg (fun e => absurd e.1 (by assumption))).trans oc | exact (if_neg (fun e => absurd e.2 (by decide))).trans oc | exact (if_neg (fun e => absurd e.2 (by decide))).trans ((if_neg (fun e => absurd e.2 (by decide))).trans oc) | exact (if_neg (fun e => absurd e.2 (by decide))).trans ((if_neg (fun e => absurd e.2 (by decide))).trans ((if_neg (fun e => absurd e.2 (by decide))).trans oc)))]
    show B_R _ _ (13, [(0, .ref o), (1, .ref fb), (2, .int (Zi ((X2.length : Int))))], [.int (Zi ca)]) _ _ _
    refine Z_go (f2 := (16, [(0, .ref o), (1, .ref fb), (2, .int (Zi ((X2.length : Int))))], [.int (Zi 200), .int (Zi ca)])) (fun _ => rfl) ?_
    refine Z_cge rfl rfl (by first | exact hs.zF _ _ | exact Zor_r _ _ | exact hs.zA _ _ | assumption | exact zA _ _ | exact zS _ | exact Zr_not (hs.zA _ _) | exact hs.1.1 _ _ | exact ⟨by omega, by omega⟩) (by first | exact hs.zF _ _ | exact Zor_r _ _ | exact hs.zA _ _ | assumption | exact zA _ _ | exact zS _ | exact Zr_not (hs.zA _ _) | exact hs.1.1 _ _ | exact ⟨by omega, by omega⟩) (fun c2 => ?_) (fun c2 => ?_)
    · refine Z_go (f2 := (32, [(0, .ref o), (1, .ref fb), (2, .int (Zi ((X2.length : Int))))], [.int (Zi (-1))])) (fun _ => rfl) ?_
      refine Z_iret rfl rfl (by first | rfl | decide | exact narrow_b01 (by omega)) ⟨_, hs, ?_⟩
      try dsimp only
      exact ⟨by omega, by omega, by omega, C_fr.refl _ _, rfl, -1, rfl, .inl ⟨rfl, rfl, rfl, by omega⟩⟩
    · refine Z_go (f2 := (20, [(0, .ref o), (1, .ref fb), (2, .int (Zi ((X2.length : Int))))], [.ref o])) (fun _ => rfl) ?_
      refine C_gi rfl hs ok (by decide) (Nat.le_of_ble_eq_true rfl) rfl ?_
      rw [show C_F (s) o 5 = tg from (by first | exact og | exact (if_neg (fun e => absurd e.1 (by assumption))).trans og | exact (if_neg (fun e => absurd e.2 (by decide))).trans og | exact (if_neg (fun e => absurd e.2 (by decide))).trans ((if_neg (fun e => absurd e.2 (by decide))).trans og) | exact (if_neg (fun e => absurd e.2 (by decide))).trans ((if_neg (fun e => absurd e.2 (by decide))).trans ((if_neg (fun e => absurd e.2 (by decide))).trans og)))]
      show B_R _ _ (23, [(0, .ref o), (1, .ref fb), (2, .int (Zi ((X2.length : Int))))], [.int (Zi tg)]) _ _ _
      refine Z_go (f2 := (24, [(0, .ref o), (1, .ref fb), (2, .int (Zi ((X2.length : Int))))], [.int (Zi ((X2.length : Int))), .int (Zi tg)])) (fun _ => rfl) ?_
      refine Z_iadd rfl ?_
      refine Z_go (f2 := (28, [(0, .ref o), (1, .ref fb), (2, .int (Zi ((X2.length : Int))))], [.int (Zi 16000), .int (Zi (tg + (X2.length : Int)))])) (fun _ => rfl) ?_
      refine Z_cle rfl rfl (by first | exact hs.zF _ _ | exact Zor_r _ _ | exact hs.zA _ _ | assumption | exact zA _ _ | exact zS _ | exact Zr_not (hs.zA _ _) | exact hs.1.1 _ _ | exact ⟨by omega, by omega⟩) (by first | exact hs.zF _ _ | exact Zor_r _ _ | exact hs.zA _ _ | assumption | exact zA _ _ | exact zS _ | exact Zr_not (hs.zA _ _) | exact hs.1.1 _ _ | exact ⟨by omega, by omega⟩) (fun c3 => ?_) (fun c3 => ?_)
      · refine C_nw (t := p ++ [C_n s]) rfl hs (by decide) (fun h hs => ?_)
        have hkn : C_K (C_new s (8, 0) (p ++ [C_n s])) (C_n s) = (8, 0) := if_pos rfl
        have htn : C_T (C_new s (8, 0) (p ++ [C_n s])) (C_n s) = p ++ [C_n s] := if_pos rfl
        show B_R _ _ (36, [(0, .ref o), (1, .ref fb), (2, .int (Zi ((X2.length : Int))))], [.ref (C_n s)]) _ _ _
        refine Z_go (f2 := (37, [(0, .ref o), (1, .ref fb), (2, .int (Zi ((X2.length : Int))))], [.ref (C_n s), .ref (C_n s)])) (fun _ => rfl) ?_
        refine C_callI (As := []) (rest := [.ref (C_n s)]) rfl (by decide) rfl rfl rfl (by decide +kernel) rfl (Nat.le_of_ble_eq_true rfl) hs (C_enInit _ hkn htn) (fun x h u1 n1 hs q => ?_)
        obtain ⟨rfl, hn1, en1, fr1, es1, er1⟩ := q
        have frA : C_fr (fun t => p ++ [C_n s] <+: t) s u1 := ((C_fr.refl _ s).new (L_pre_self _)).tr fr1
        have hb2 := hb0.fr w frA (fun h => nt (L_pre_p h))
        have ntb : ¬ p ++ [C_n s] <+: C_T u1 fb := fun h => nt (by rw [(frA.2.1 fb (C_lt w hb0.1 (show 1 < 20 by decide))).2] at h; exact L_pre_p h)
        show B_R _ _ (40, [(0, .ref o), (1, .ref fb), (2, .int (Zi ((X2.length : Int))))], [.ref (C_n s)]) _ _ _
        refine Z_go (f2 := (41, [(3, .ref (C_n s)), (0, .ref o), (1, .ref fb), (2, .int (Zi ((X2.length : Int))))], [])) (fun _ => rfl) ?_
        refine Z_go (f2 := (42, [(3, .ref (C_n s)), (0, .ref o), (1, .ref fb), (2, .int (Zi ((X2.length : Int))))], [.ref (C_n s)])) (fun _ => rfl) ?_
        refine Z_go (f2 := (43, [(3, .ref (C_n s)), (0, .ref o), (1, .ref fb), (2, .int (Zi ((X2.length : Int))))], [.ref fb, .ref (C_n s)])) (fun _ => rfl) ?_
        refine Z_go (f2 := (44, [(3, .ref (C_n s)), (0, .ref o), (1, .ref fb), (2, .int (Zi ((X2.length : Int))))], [.int (Zi ((X2.length : Int))), .ref fb, .ref (C_n s)])) (fun _ => rfl) ?_
        refine C_callV (As := [.ref fb, .int (Zi ((X2.length : Int)))]) (rest := []) rfl (by decide) rfl (by decide) rfl rfl (by decide +kernel) (Nat.le_of_ble_eq_true rfl) hs (by first | exact es1.1 | exact y1.1) (C_fillE _ (X := X2) es1 er1 hb2 hx2 hN ntb) (fun x h u2 n2 hs q => ?_)
        obtain ⟨rfl, hn2, ba2, a2, cap2, y1, y2, y3, y4, y5⟩ := q
        have frB := frA.tr y2
        have no : ¬ p ++ [C_n s] <+: C_T s o := fun h => by rw [ot] at h; have := L_pre_len h; omega
        have nea : ¬ p ++ [C_n s] <+: C_T s ea := fun h => by rw [et] at h; have := L_pre_len h; omega
        obtain ⟨x1, x2, x3, x4, x5⟩ := frB.2.2.1 o lo no
        have ok2 := (frB.2.1 o lo).1.trans ok
        have ek2 := (frB.2.1 ea lea).1.trans ek
        have oe2 := (congrFun x2 0).trans oe
        have oc2 := (congrFun x1 3).trans oc
        have oh2 := (congrFun x1 4).trans oh
        have og2 := (congrFun x1 5).trans og
        show B_R _ _ (47, [(3, .ref (C_n s)), (0, .ref o), (1, .ref fb), (2, .int (Zi ((X2.length : Int))))], []) _ _ _
        have hs0 := hs.1
        refine Z_go (f2 := (48, [(3, .ref (C_n s)), (0, .ref o), (1, .ref fb), (2, .int (Zi ((X2.length : Int))))], [.ref o])) (fun _ => rfl) ?_
        refine C_gi rfl hs ok2 (by decide) (Nat.le_of_ble_eq_true rfl) rfl ?_
        rw [show C_F (u2) o 3 = ca from (by first | exact oc2 | exact (if_neg (fun e => absurd e.1 (by assumption))).trans oc2 | exact (if_neg (fun e => absurd e.2 (by decide))).trans oc2 | exact (if_neg (fun e => absurd e.2 (by decide))).trans ((if_neg (fun e => absurd e.2 (by decide))).trans oc2) | exact (if_neg (fun e => absurd e.2 (by decide))).trans ((if_neg (fun e => absurd e.2 (by decide))).trans ((if_neg (fun e => absurd e.2 (by decide))).trans oc2)))]
        show B_R _ _ (51, [(3, .ref (C_n s)), (0, .ref o), (1, .ref fb), (2, .int (Zi ((X2.length : Int))))], [.int (Zi ca)]) _ _ _
        refine Z_go (f2 := (53, [(4, .int (Zi ca)), (3, .ref (C_n s)), (0, .ref o), (1, .ref fb), (2, .int (Zi ((X2.length : Int))))], [])) (fun _ => rfl) ?_
        refine Z_go (f2 := (55, [(4, .int (Zi ca)), (3, .ref (C_n s)), (0, .ref o), (1, .ref fb), (2, .int (Zi ((X2.length : Int))))], [.int (Zi ca)])) (fun _ => rfl) ?_
        refine Z_ilt rfl rfl (by first | exact hs.zF _ _ | exact Zor_r _ _ | exact hs.zA _ _ | assumption | exact zA _ _ | exact zS _ | exact Zr_not (hs.zA _ _) | exact hs.1.1 _ _ | exact ⟨by omega, by omega⟩) (fun c4 => ?_) (fun c4 => ?_)
        · refine Z_go (f2 := (77, [(4, .int (Zi ca)), (3, .ref (C_n s)), (0, .ref o), (1, .ref fb), (2, .int (Zi ((X2.length : Int))))], [.ref o])) (fun _ => rfl) ?_
          refine Z_go (f2 := (78, [(4, .int (Zi ca)), (3, .ref (C_n s)), (0, .ref o), (1, .ref fb), (2, .int (Zi ((X2.length : Int))))], [.ref o, .ref o])) (fun _ => rfl) ?_
          refine C_gi rfl hs ok2 (by decide) (Nat.le_of_ble_eq_true rfl) rfl ?_
          rw [show C_F (u2) o 3 = ca from (by first | exact oc2 | exact (if_neg (fun e => absurd e.1 (by assumption))).trans oc2 | exact (if_neg (fun e => absurd e.2 (by decide))).trans oc2 | exact (if_neg (fun e => absurd e.2 (by decide))).trans ((if_neg (fun e => absurd e.2 (by decide))).trans oc2) | exact (if_neg (fun e => absurd e.2 (by decide))).trans ((if_neg (fun e => absurd e.2 (by decide))).trans ((if_neg (fun e => absurd e.2 (by decide))).trans oc2)))]
          show B_R _ _ (81, [(4, .int (Zi ca)), (3, .ref (C_n s)), (0, .ref o), (1, .ref fb), (2, .int (Zi ((X2.length : Int))))], [.int (Zi ca), .ref o]) _ _ _
          refine Z_go (f2 := (82, [(4, .int (Zi ca)), (3, .ref (C_n s)), (0, .ref o), (1, .ref fb), (2, .int (Zi ((X2.length : Int))))], [.int (Zi 1), .int (Zi ca), .ref o])) (fun _ => rfl) ?_
          refine Z_iadd rfl ?_
          refine C_pi rfl hs ok2 (by decide) (Nat.le_of_ble_eq_true rfl) (.inl rfl) rfl rfl rfl (by first | exact hs.zF _ _ | exact Zor_r _ _ | exact hs.zA _ _ | assumption | exact zA _ _ | exact zS _ | exact Zr_not (hs.zA _ _) | exact hs.1.1 _ _ | exact ⟨by omega, by omega⟩) (fun h hs => ?_)
          refine Z_go (f2 := (87, [(4, .int (Zi ca)), (3, .ref (C_n s)), (0, .ref o), (1, .ref fb), (2, .int (Zi ((X2.length : Int))))], [.ref o])) (fun _ => rfl) ?_
          refine Z_go (f2 := (88, [(4, .int (Zi ca)), (3, .ref (C_n s)), (0, .ref o), (1, .ref fb), (2, .int (Zi ((X2.length : Int))))], [.ref o, .ref o])) (fun _ => rfl) ?_
          refine C_gi rfl hs ok2 (by decide) (Nat.le_of_ble_eq_true rfl) rfl ?_
          rw [show C_F (C_sF u2 o 3 (ca + 1)) o 4 = th from (by first | exact oh2 | exact (if_neg (fun e => absurd e.1 (by assumption))).trans oh2 | exact (if_neg (fun e => absurd e.2 (by decide))).trans oh2 | exact (if_neg (fun e => absurd e.2 (by decide))).trans ((if_neg (fun e => absurd e.2 (by decide))).trans oh2) | exact (if_neg (fun e => absurd e.2 (by decide))).trans ((if_neg (fun e => absurd e.2 (by decide))).trans ((if_neg (fun e => absurd e.2 (by decide))).trans oh2)))]
          show B_R _ _ (91, [(4, .int (Zi ca)), (3, .ref (C_n s)), (0, .ref o), (1, .ref fb), (2, .int (Zi ((X2.length : Int))))], [.int (Zi th), .ref o]) _ _ _
          refine Z_go (f2 := (92, [(4, .int (Zi ca)), (3, .ref (C_n s)), (0, .ref o), (1, .ref fb), (2, .int (Zi ((X2.length : Int))))], [.int (Zi 1), .int (Zi th), .ref o])) (fun _ => rfl) ?_
          refine Z_iadd rfl ?_
          refine C_pi rfl hs ok2 (by decide) (Nat.le_of_ble_eq_true rfl) (.inl rfl) rfl rfl rfl (by first | exact hs.zF _ _ | exact Zor_r _ _ | exact hs.zA _ _ | assumption | exact zA _ _ | exact zS _ | exact Zr_not (hs.zA _ _) | exact hs.1.1 _ _ | exact ⟨by omega, by omega⟩) (fun h hs => ?_)
          refine Z_go (f2 := (97, [(4, .int (Zi ca)), (3, .ref (C_n s)), (0, .ref o), (1, .ref fb), (2, .int (Zi ((X2.length : Int))))], [.ref o])) (fun _ => rfl) ?_
          refine Z_go (f2 := (98, [(4, .int (Zi ca)), (3, .ref (C_n s)), (0, .ref o), (1, .ref fb), (2, .int (Zi ((X2.length : Int))))], [.ref o, .ref o])) (fun _ => rfl) ?_
          refine C_gi rfl hs ok2 (by decide) (Nat.le_of_ble_eq_true rfl) rfl ?_
          rw [show C_F (C_sF (C_sF u2 o 3 (ca + 1)) o 4 (th + 1)) o 5 = tg from (by first | exact og2 | exact (if_neg (fun e => absurd e.1 (by assumption))).trans og2 | exact (if_neg (fun e => absurd e.2 (by decide))).trans og2 | exact (if_neg (fun e => absurd e.2 (by decide))).trans ((if_neg (fun e => absurd e.2 (by decide))).trans og2) | exact (if_neg (fun e => absurd e.2 (by decide))).trans ((if_neg (fun e => absurd e.2 (by decide))).trans ((if_neg (fun e => absurd e.2 (by decide))).trans og2)))]
          show B_R _ _ (101, [(4, .int (Zi ca)), (3, .ref (C_n s)), (0, .ref o), (1, .ref fb), (2, .int (Zi ((X2.length : Int))))], [.int (Zi tg), .ref o]) _ _ _
          refine Z_go (f2 := (102, [(4, .int (Zi ca)), (3, .ref (C_n s)), (0, .ref o), (1, .ref fb), (2, .int (Zi ((X2.length : Int))))], [.int (Zi ((X2.length : Int))), .int (Zi tg), .ref o])) (fun _ => rfl) ?_
          refine Z_iadd rfl ?_
          refine C_pi rfl hs ok2 (by decide) (Nat.le_of_ble_eq_true rfl) (.inl rfl) rfl rfl rfl (by first | exact hs.zF _ _ | exact Zor_r _ _ | exact hs.zA _ _ | assumption | exact zA _ _ | exact zS _ | exact Zr_not (hs.zA _ _) | exact hs.1.1 _ _ | exact ⟨by omega, by omega⟩) (fun h hs => ?_)
          refine Z_go (f2 := (108, [(4, .int (Zi ca)), (3, .ref (C_n s)), (0, .ref o), (1, .ref fb), (2, .int (Zi ((X2.length : Int))))], [.int (Zi ca)])) (fun _ => rfl) ?_
          refine Z_iret rfl rfl (by first | rfl | decide | exact narrow_b01 (by omega)) ⟨_, hs, ?_⟩
          try dsimp only
          exfalso; omega
        · refine Z_go (f2 := (60, [(4, .int (Zi ca)), (3, .ref (C_n s)), (0, .ref o), (1, .ref fb), (2, .int (Zi ((X2.length : Int))))], [.int (Zi ca)])) (fun _ => rfl) ?_
          refine Z_go (f2 := (61, [(4, .int (Zi ca)), (3, .ref (C_n s)), (0, .ref o), (1, .ref fb), (2, .int (Zi ((X2.length : Int))))], [.ref o, .int (Zi ca)])) (fun _ => rfl) ?_
          refine C_gr rfl hs ok2 (by decide) (Nat.le_of_ble_eq_true rfl) rfl oe2 ?_
          refine C_al rfl hs ek2 (by decide) ?_
          show B_R _ _ (65, [(4, .int (Zi ca)), (3, .ref (C_n s)), (0, .ref o), (1, .ref fb), (2, .int (Zi ((X2.length : Int))))], [.int (Zi 200), .int (Zi ca)]) _ _ _
          refine Z_cge rfl rfl (by first | exact hs.zF _ _ | exact Zor_r _ _ | exact hs.zA _ _ | assumption | exact zA _ _ | exact zS _ | exact Zr_not (hs.zA _ _) | exact hs.1.1 _ _ | exact ⟨by omega, by omega⟩) (by first | exact hs.zF _ _ | exact Zor_r _ _ | exact hs.zA _ _ | assumption | exact zA _ _ | exact zS _ | exact Zr_not (hs.zA _ _) | exact hs.1.1 _ _ | exact ⟨by omega, by omega⟩) (fun c5 => ?_) (fun c5 => ?_)
          · refine Z_go (f2 := (77, [(4, .int (Zi ca)), (3, .ref (C_n s)), (0, .ref o), (1, .ref fb), (2, .int (Zi ((X2.length : Int))))], [.ref o])) (fun _ => rfl) ?_
            refine Z_go (f2 := (78, [(4, .int (Zi ca)), (3, .ref (C_n s)), (0, .ref o), (1, .ref fb), (2, .int (Zi ((X2.length : Int))))], [.ref o, .ref o])) (fun _ => rfl) ?_
            refine C_gi rfl hs ok2 (by decide) (Nat.le_of_ble_eq_true rfl) rfl ?_
            rw [show C_F (u2) o 3 = ca from (by first | exact oc2 | exact (if_neg (fun e => absurd e.1 (by assumption))).trans oc2 | exact (if_neg (fun e => absurd e.2 (by decide))).trans oc2 | exact (if_neg (fun e => absurd e.2 (by decide))).trans ((if_neg (fun e => absurd e.2 (by decide))).trans oc2) | exact (if_neg (fun e => absurd e.2 (by decide))).trans ((if_neg (fun e => absurd e.2 (by decide))).trans ((if_neg (fun e => absurd e.2 (by decide))).trans oc2)))]
            show B_R _ _ (81, [(4, .int (Zi ca)), (3, .ref (C_n s)), (0, .ref o), (1, .ref fb), (2, .int (Zi ((X2.length : Int))))], [.int (Zi ca), .ref o]) _ _ _
            refine Z_go (f2 := (82, [(4, .int (Zi ca)), (3, .ref (C_n s)), (0, .ref o), (1, .ref fb), (2, .int (Zi ((X2.length : Int))))], [.int (Zi 1), .int (Zi ca), .ref o])) (fun _ => rfl) ?_
            refine Z_iadd rfl ?_
            refine C_pi rfl hs ok2 (by decide) (Nat.le_of_ble_eq_true rfl) (.inl rfl) rfl rfl rfl (by first | exact hs.zF _ _ | exact Zor_r _ _ | exact hs.zA _ _ | assumption | exact zA _ _ | exact zS _ | exact Zr_not (hs.zA _ _) | exact hs.1.1 _ _ | exact ⟨by omega, by omega⟩) (fun h hs => ?_)
            refine Z_go (f2 := (87, [(4, .int (Zi ca)), (3, .ref (C_n s)), (0, .ref o), (1, .ref fb), (2, .int (Zi ((X2.length : Int))))], [.ref o])) (fun _ => rfl) ?_
            refine Z_go (f2 := (88, [(4, .int (Zi ca)), (3, .ref (C_n s)), (0, .ref o), (1, .ref fb), (2, .int (Zi ((X2.length : Int))))], [.ref o, .ref o])) (fun _ => rfl) ?_
            refine C_gi rfl hs ok2 (by decide) (Nat.le_of_ble_eq_true rfl) rfl ?_
            rw [show C_F (C_sF u2 o 3 (ca + 1)) o 4 = th from (by first | exact oh2 | exact (if_neg (fun e => absurd e.1 (by assumption))).trans oh2 | exact (if_neg (fun e => absurd e.2 (by decide))).trans oh2 | exact (if_neg (fun e => absurd e.2 (by decide))).trans ((if_neg (fun e => absurd e.2 (by decide))).trans oh2) | exact (if_neg (fun e => absurd e.2 (by decide))).trans ((if_neg (fun e => absurd e.2 (by decide))).trans ((if_neg (fun e => absurd e.2 (by decide))).trans oh2)))]
            show B_R _ _ (91, [(4, .int (Zi ca)), (3, .ref (C_n s)), (0, .ref o), (1, .ref fb), (2, .int (Zi ((X2.length : Int))))], [.int (Zi th), .ref o]) _ _ _
            refine Z_go (f2 := (92, [(4, .int (Zi ca)), (3, .ref (C_n s)), (0, .ref o), (1, .ref fb), (2, .int (Zi ((X2.length : Int))))], [.int (Zi 1), .int (Zi th), .ref o])) (fun _ => rfl) ?_
            refine Z_iadd rfl ?_
            refine C_pi rfl hs ok2 (by decide) (Nat.le_of_ble_eq_true rfl) (.inl rfl) rfl rfl rfl (by first | exact hs.zF _ _ | exact Zor_r _ _ | exact hs.zA _ _ | assumption | exact zA _ _ | exact zS _ | exact Zr_not (hs.zA _ _) | exact hs.1.1 _ _ | exact ⟨by omega, by omega⟩) (fun h hs => ?_)
            refine Z_go (f2 := (97, [(4, .int (Zi ca)), (3, .ref (C_n s)), (0, .ref o), (1, .ref fb), (2, .int (Zi ((X2.length : Int))))], [.ref o])) (fun _ => rfl) ?_
            refine Z_go (f2 := (98, [(4, .int (Zi ca)), (3, .ref (C_n s)), (0, .ref o), (1, .ref fb), (2, .int (Zi ((X2.length : Int))))], [.ref o, .ref o])) (fun _ => rfl) ?_
            refine C_gi rfl hs ok2 (by decide) (Nat.le_of_ble_eq_true rfl) rfl ?_
            rw [show C_F (C_sF (C_sF u2 o 3 (ca + 1)) o 4 (th + 1)) o 5 = tg from (by first | exact og2 | exact (if_neg (fun e => absurd e.1 (by assumption))).trans og2 | exact (if_neg (fun e => absurd e.2 (by decide))).trans og2 | exact (if_neg (fun e => absurd e.2 (by decide))).trans ((if_neg (fun e => absurd e.2 (by decide))).trans og2) | exact (if_neg (fun e => absurd e.2 (by decide))).trans ((if_neg (fun e => absurd e.2 (by decide))).trans ((if_neg (fun e => absurd e.2 (by decide))).trans og2)))]
            show B_R _ _ (101, [(4, .int (Zi ca)), (3, .ref (C_n s)), (0, .ref o), (1, .ref fb), (2, .int (Zi ((X2.length : Int))))], [.int (Zi tg), .ref o]) _ _ _
            refine Z_go (f2 := (102, [(4, .int (Zi ca)), (3, .ref (C_n s)), (0, .ref o), (1, .ref fb), (2, .int (Zi ((X2.length : Int))))], [.int (Zi ((X2.length : Int))), .int (Zi tg), .ref o])) (fun _ => rfl) ?_
            refine Z_iadd rfl ?_
            refine C_pi rfl hs ok2 (by decide) (Nat.le_of_ble_eq_true rfl) (.inl rfl) rfl rfl rfl (by first | exact hs.zF _ _ | exact Zor_r _ _ | exact hs.zA _ _ | assumption | exact zA _ _ | exact zS _ | exact Zr_not (hs.zA _ _) | exact hs.1.1 _ _ | exact ⟨by omega, by omega⟩) (fun h hs => ?_)
            refine Z_go (f2 := (108, [(4, .int (Zi ca)), (3, .ref (C_n s)), (0, .ref o), (1, .ref fb), (2, .int (Zi ((X2.length : Int))))], [.int (Zi ca)])) (fun _ => rfl) ?_
            refine Z_iret rfl rfl (by first | rfl | decide | exact narrow_b01 (by omega)) ⟨_, hs, ?_⟩
            try dsimp only
            exfalso; omega
          · refine Z_go (f2 := (69, [(4, .int (Zi ca)), (3, .ref (C_n s)), (0, .ref o), (1, .ref fb), (2, .int (Zi ((X2.length : Int))))], [.ref o])) (fun _ => rfl) ?_
            refine C_gr rfl hs ok2 (by decide) (Nat.le_of_ble_eq_true rfl) rfl oe2 ?_
            refine Z_go (f2 := (74, [(4, .int (Zi ca)), (3, .ref (C_n s)), (0, .ref o), (1, .ref fb), (2, .int (Zi ((X2.length : Int))))], [.int (Zi ca), .ref ea])) (fun _ => rfl) ?_
            refine Z_go (f2 := (75, [(4, .int (Zi ca)), (3, .ref (C_n s)), (0, .ref o), (1, .ref fb), (2, .int (Zi ((X2.length : Int))))], [.ref (C_n s), .int (Zi ca), .ref ea])) (fun _ => rfl) ?_
            refine C_as rfl hs ek2 (by decide) (by decide) (by omega) (by omega) (by first | exact es1.1 | exact y1.1) (by decide) ⟨_, _, _, rfl, rfl⟩ (fun h hs => ?_)
            refine Z_go (f2 := (77, [(4, .int (Zi ca)), (3, .ref (C_n s)), (0, .ref o), (1, .ref fb), (2, .int (Zi ((X2.length : Int))))], [.ref o])) (fun _ => rfl) ?_
            refine Z_go (f2 := (78, [(4, .int (Zi ca)), (3, .ref (C_n s)), (0, .ref o), (1, .ref fb), (2, .int (Zi ((X2.length : Int))))], [.ref o, .ref o])) (fun _ => rfl) ?_
            refine C_gi rfl hs ok2 (by decide) (Nat.le_of_ble_eq_true rfl) rfl ?_
            rw [show C_F (C_sQ u2 ea ca (some (C_n s))) o 3 = ca from (by first | exact oc2 | exact (if_neg (fun e => absurd e.1 (by assumption))).trans oc2 | exact (if_neg (fun e => absurd e.2 (by decide))).trans oc2 | exact (if_neg (fun e => absurd e.2 (by decide))).trans ((if_neg (fun e => absurd e.2 (by decide))).trans oc2) | exact (if_neg (fun e => absurd e.2 (by decide))).trans ((if_neg (fun e => absurd e.2 (by decide))).trans ((if_neg (fun e => absurd e.2 (by decide))).trans oc2)))]
            show B_R _ _ (81, [(4, .int (Zi ca)), (3, .ref (C_n s)), (0, .ref o), (1, .ref fb), (2, .int (Zi ((X2.length : Int))))], [.int (Zi ca), .ref o]) _ _ _
            refine Z_go (f2 := (82, [(4, .int (Zi ca)), (3, .ref (C_n s)), (0, .ref o), (1, .ref fb), (2, .int (Zi ((X2.length : Int))))], [.int (Zi 1), .int (Zi ca), .ref o])) (fun _ => rfl) ?_
            refine Z_iadd rfl ?_
            refine C_pi rfl hs ok2 (by decide) (Nat.le_of_ble_eq_true rfl) (.inl rfl) rfl rfl rfl (by first | exact hs.zF _ _ | exact Zor_r _ _ | exact hs.zA _ _ | assumption | exact zA _ _ | exact zS _ | exact Zr_not (hs.zA _ _) | exact hs.1.1 _ _ | exact ⟨by omega, by omega⟩) (fun h hs => ?_)
            refine Z_go (f2 := (87, [(4, .int (Zi ca)), (3, .ref (C_n s)), (0, .ref o), (1, .ref fb), (2, .int (Zi ((X2.length : Int))))], [.ref o])) (fun _ => rfl) ?_
            refine Z_go (f2 := (88, [(4, .int (Zi ca)), (3, .ref (C_n s)), (0, .ref o), (1, .ref fb), (2, .int (Zi ((X2.length : Int))))], [.ref o, .ref o])) (fun _ => rfl) ?_
            refine C_gi rfl hs ok2 (by decide) (Nat.le_of_ble_eq_true rfl) rfl ?_
            rw [show C_F (C_sF (C_sQ u2 ea ca (some (C_n s))) o 3 (ca + 1)) o 4 = th from (by first | exact oh2 | exact (if_neg (fun e => absurd e.1 (by assumption))).trans oh2 | exact (if_neg (fun e => absurd e.2 (by decide))).trans oh2 | exact (if_neg (fun e => absurd e.2 (by decide))).trans ((if_neg (fun e => absurd e.2 (by decide))).trans oh2) | exact (if_neg (fun e => absurd e.2 (by decide))).trans ((if_neg (fun e => absurd e.2 (by decide))).trans ((if_neg (fun e => absurd e.2 (by decide))).trans oh2)))]
            show B_R _ _ (91, [(4, .int (Zi ca)), (3, .ref (C_n s)), (0, .ref o), (1, .ref fb), (2, .int (Zi ((X2.length : Int))))], [.int (Zi th), .ref o]) _ _ _
            refine Z_go (f2 := (92, [(4, .int (Zi ca)), (3, .ref (C_n s)), (0, .ref o), (1, .ref fb), (2, .int (Zi ((X2.length : Int))))], [.int (Zi 1), .int (Zi th), .ref o])) (fun _ => rfl) ?_
            refine Z_iadd rfl ?_
            refine C_pi rfl hs ok2 (by decide) (Nat.le_of_ble_eq_true rfl) (.inl rfl) rfl rfl rfl (by first | exact hs.zF _ _ | exact Zor_r _ _ | exact hs.zA _ _ | assumption | exact zA _ _ | exact zS _ | exact Zr_not (hs.zA _ _) | exact hs.1.1 _ _ | exact ⟨by omega, by omega⟩) (fun h hs => ?_)
            refine Z_go (f2 := (97, [(4, .int (Zi ca)), (3, .ref (C_n s)), (0, .ref o), (1, .ref fb), (2, .int (Zi ((X2.length : Int))))], [.ref o])) (fun _ => rfl) ?_
            refine Z_go (f2 := (98, [(4, .int (Zi ca)), (3, .ref (C_n s)), (0, .ref o), (1, .ref fb), (2, .int (Zi ((X2.length : Int))))], [.ref o, .ref o])) (fun _ => rfl) ?_
            refine C_gi rfl hs ok2 (by decide) (Nat.le_of_ble_eq_true rfl) rfl ?_
            rw [show C_F (C_sF (C_sF (C_sQ u2 ea ca (some (C_n s))) o 3 (ca + 1)) o 4 (th + 1)) o 5 = tg from (by first | exact og2 | exact (if_neg (fun e => absurd e.1 (by assumption))).trans og2 | exact (if_neg (fun e => absurd e.2 (by decide))).trans og2 | exact (if_neg (fun e => absurd e.2 (by decide))).trans ((if_neg (fun e => absurd e.2 (by decide))).trans og2) | exact (if_neg (fun e => absurd e.2 (by decide))).trans ((if_neg (fun e => absurd e.2 (by decide))).trans ((if_neg (fun e => absurd e.2 (by decide))).trans og2)))]
            show B_R _ _ (101, [(4, .int (Zi ca)), (3, .ref (C_n s)), (0, .ref o), (1, .ref fb), (2, .int (Zi ((X2.length : Int))))], [.int (Zi tg), .ref o]) _ _ _
            refine Z_go (f2 := (102, [(4, .int (Zi ca)), (3, .ref (C_n s)), (0, .ref o), (1, .ref fb), (2, .int (Zi ((X2.length : Int))))], [.int (Zi ((X2.length : Int))), .int (Zi tg), .ref o])) (fun _ => rfl) ?_
            refine Z_iadd rfl ?_
            refine C_pi rfl hs ok2 (by decide) (Nat.le_of_ble_eq_true rfl) (.inl rfl) rfl rfl rfl (by first | exact hs.zF _ _ | exact Zor_r _ _ | exact hs.zA _ _ | assumption | exact zA _ _ | exact zS _ | exact Zr_not (hs.zA _ _) | exact hs.1.1 _ _ | exact ⟨by omega, by omega⟩) (fun h hs => ?_)
            refine Z_go (f2 := (108, [(4, .int (Zi ca)), (3, .ref (C_n s)), (0, .ref o), (1, .ref fb), (2, .int (Zi ((X2.length : Int))))], [.int (Zi ca)])) (fun _ => rfl) ?_
            refine Z_iret rfl rfl (by first | rfl | decide | exact narrow_b01 (by omega)) ⟨_, hs, ?_⟩
            try dsimp only
            have hA := hd0.add (L := X2.length) w hs0 frB y1 hx2 (by omega) (Nat.le_refl _) (by omega) (y3 := ca + 1) (y4 := th + 1) (y5 := tg + X2.length) rfl rfl rfl
            have en2 : C_n (C_new s (8, 0) (p ++ [C_n s])) = C_n s + 1 := rfl
            have en3 : C_n (C_new s (0 + 8, 0) (p ++ [C_n s])) = C_n s + 1 := rfl
            refine ⟨by show ((0 + 2 + n1 + n2 : Nat) : Int) ≤ 5 * (X2.length : Int) + 40; omega, by show C_n s ≤ C_n u2; omega, by show C_n u2 ≤ _; omega, ?_, hA.2, ca, rfl, .inr ⟨rfl, by omega, hA.1⟩⟩
            have tO : C_T u2 o = p := (frB.2.1 o lo).2.trans ot
            exact ((((frB.weak (Y := fun t => p <+: t) (fun t h => L_pre_p h)).sQ (by rw [(frB.2.1 ea lea).2, et]; exact L_pre_self p)).sF (by show p <+: C_T u2 o; rw [tO]; exact L_pre_self p)).sF (by show p <+: C_T u2 o; rw [tO]; exact L_pre_self p)).sF (by show p <+: C_T u2 o; rw [tO]; exact L_pre_self p)
      · refine Z_go (f2 := (32, [(0, .ref o), (1, .ref fb), (2, .int (Zi ((X2.length : Int))))], [.int (Zi (-1))])) (fun _ => rfl) ?_
        refine Z_iret rfl rfl (by first | rfl | decide | exact narrow_b01 (by omega)) ⟨_, hs, ?_⟩
        try dsimp only
        exact ⟨by omega, by omega, by omega, C_fr.refl _ _, rfl, -1, rfl, .inl ⟨rfl, rfl, rfl, by omega⟩⟩
theorem C_add9 (d : Nat) {s : C_S} {g tb sh pa pl ma re : Nat} {m : Int} {p : List Nat} {ea u v : Nat} {fs : Int → Option (List Int)} {ca th tg : Int} {X2 : List Int} (hg : D_G s g tb sh pa pl ma re m) (hd : D_Sh s p sh ea u v fs ca th tg) (pn : p ≠ []) (t0 : 0 ≤ th) (t1 : th ≤ 40) (b0 : 0 ≤ tg) (b1 : tg ≤ 16000) (hx : D_by s tb 1000 X2) (em : m = X2.length) : C_ok (d + 6) 147 [.ref g] s (fun x s2 n => (n : Int) ≤ 5 * (X2.length : Int) + 40 ∧ C_n s ≤ C_n s2 ∧ C_n s2 ≤ C_n s + 270 ∧ ∃ z : Int, x = some (.int (Zi z)) ∧ (z = -1 ∧ n = 0 ∧ s2 = s ∧ (40 ≤ th ∨ 200 ≤ ca ∨ 16000 < tg + X2.length) ∨ z = ca ∧ ¬ (40 ≤ th ∨ 200 ≤ ca ∨ 16000 < tg + X2.length) ∧ ∃ s1, s2 = C_sF s1 g 1 0 ∧ C_wf s1 ∧ C_fr (fun t => p <+: t) s s1 ∧ D_ps s1 sh = D_ps s sh ∧ D_G s1 g tb sh pa pl ma re m ∧ D_Sh s1 p sh ea u v (fun i => if i = ca then some X2 else fs i) (ca + 1) (th + 1) (tg + X2.length))) := by
  refine C_enter (M := E_m147) rfl (Nat.le_of_ble_eq_true rfl) (fun h0 h hs => ?_)
  show B_R (d + 5) _ (0, [(0, .ref g)], []) _ _ _
  have w := hs.1
  obtain ⟨gk, gt, g0, tk, tt, g2, g3, g4, g5, g6, gm, m0, m1⟩ := id hg
  have pn0 : ¬ p <+: ([] : List Nat) := fun e => pn (List.prefix_nil.mp e)
  have zm : Zr m := ⟨by omega, by omega⟩
  have c0 := hd.1.2.2.2.2.2.2.2.2.2.2.1
  have c1 := hd.1.2.2.2.2.2.2.2.2.2.2.2.1
  refine Z_go (f2 := (1, [(0, .ref g)], [.ref g])) (fun _ => rfl) ?_
  refine C_gr rfl hs gk (by decide) (Nat.le_of_ble_eq_true rfl) rfl g2 ?_
  refine Z_go (f2 := (5, [(0, .ref g)], [.ref g, .ref sh])) (fun _ => rfl) ?_
  refine C_gr rfl hs gk (by decide) (Nat.le_of_ble_eq_true rfl) rfl g0 ?_
  refine Z_go (f2 := (9, [(0, .ref g)], [.ref g, .ref tb, .ref sh])) (fun _ => rfl) ?_
  refine C_gi rfl hs gk (by decide) (Nat.le_of_ble_eq_true rfl) rfl ?_
  rw [show C_F (s) g 1 = m from (by first | exact gm | exact (if_neg (fun e => absurd e.1 (by assumption))).trans gm | exact (if_neg (fun e => absurd e.2 (by decide))).trans gm | exact (if_neg (fun e => absurd e.2 (by decide))).trans ((if_neg (fun e => absurd e.2 (by decide))).trans gm) | exact (if_neg (fun e => absurd e.2 (by decide))).trans ((if_neg (fun e => absurd e.2 (by decide))).trans ((if_neg (fun e => absurd e.2 (by decide))).trans gm)))]
  show B_R _ _ (12, [(0, .ref g)], [.int (Zi m), .ref tb, .ref sh]) _ _ _
  refine C_callV (As := [.ref tb, .int (Zi m)]) (rest := []) rfl (by decide) rfl (by decide) rfl rfl (by decide +kernel) (Nat.le_of_ble_eq_true rfl) hs hd.1.1 (em ▸ C_take9 _ hd t0 t1 b0 b1 hx (by omega) (by omega) (by rw [tt]; exact pn0)) (fun x h w1 m9 hs q => ?_)
  obtain ⟨q0, q1, q2, q3, q4, z9, rfl, hz9⟩ := q
  rw [em] at hz9
  have hg1 := hg.fr w q3 pn0
  have w1f := hs.1
  have z01 : Zr z9 := by rcases hz9 with ⟨e, _⟩ | ⟨e, _⟩ <;> exact ⟨by omega, by omega⟩
  show B_R _ _ (15, [(0, .ref g)], [.int (Zi z9)]) _ _ _
  refine Z_go (f2 := (16, [(1, .int (Zi z9)), (0, .ref g)], [])) (fun _ => rfl) ?_
  refine Z_go (f2 := (17, [(1, .int (Zi z9)), (0, .ref g)], [.int (Zi z9)])) (fun _ => rfl) ?_
  refine Z_go (f2 := (18, [(1, .int (Zi z9)), (0, .ref g)], [.int (Zi (-1)), .int (Zi z9)])) (fun _ => rfl) ?_
  refine Z_ceq rfl rfl (by first | exact hs.zF _ _ | exact Zor_r _ _ | exact hs.zA _ _ | assumption | exact zA _ _ | exact zS _ | exact Zr_not (hs.zA _ _) | exact hs.1.1 _ _ | exact ⟨by omega, by omega⟩) (by first | exact hs.zF _ _ | exact Zor_r _ _ | exact hs.zA _ _ | assumption | exact zA _ _ | exact zS _ | exact Zr_not (hs.zA _ _) | exact hs.1.1 _ _ | exact ⟨by omega, by omega⟩) (fun y1 => ?_) (fun y1 => ?_)
  · refine Z_go (f2 := (27, [(1, .int (Zi z9)), (0, .ref g)], [.int (Zi z9)])) (fun _ => rfl) ?_
    refine Z_iret rfl rfl (by first | rfl | decide | exact narrow_b01 (by omega)) ⟨_, hs, ?_⟩
    try dsimp only
    refine ⟨by omega, q1, q2, z9, rfl, ?_⟩
    rcases hz9 with h | ⟨h1, h2, h3⟩
    · exact .inl ⟨h.1, by have := h.2.1; omega, h.2.2⟩
    · exfalso; omega
  · refine Z_go (f2 := (22, [(1, .int (Zi z9)), (0, .ref g)], [.ref g])) (fun _ => rfl) ?_
    refine Z_go (f2 := (23, [(1, .int (Zi z9)), (0, .ref g)], [.int (Zi 0), .ref g])) (fun _ => rfl) ?_
    refine C_pi rfl hs hg1.1 (by decide) (Nat.le_of_ble_eq_true rfl) (.inl rfl) rfl rfl rfl (by first | exact hs.zF _ _ | exact Zor_r _ _ | exact hs.zA _ _ | assumption | exact zA _ _ | exact zS _ | exact Zr_not (hs.zA _ _) | exact hs.1.1 _ _ | exact ⟨by omega, by omega⟩) (fun h hs => ?_)
    refine Z_go (f2 := (27, [(1, .int (Zi z9)), (0, .ref g)], [.int (Zi z9)])) (fun _ => rfl) ?_
    refine Z_iret rfl rfl (by first | rfl | decide | exact narrow_b01 (by omega)) ⟨_, hs, ?_⟩
    try dsimp only
    refine ⟨by omega, q1, q2, z9, rfl, ?_⟩
    rcases hz9 with h | ⟨h1, h2, h3⟩
    · exfalso; omega
    · exact .inr ⟨h1, h2, w1, rfl, w1f, q3, q4, hg1, h3⟩
theorem C_change9 (d : Nat) {s : C_S} {g tb sh pa pl ma re : Nat} {m : Int} {p : List Nat} {ea u v : Nat} {fs : Int → Option (List Int)} {ca th tg : Int} {X2 : List Int} {f : Int} (hg : D_G s g tb sh pa pl ma re m) (hd : D_Sh s p sh ea u v fs ca th tg) (pn : p ≠ []) (t0 : 0 ≤ th) (t1 : th ≤ 40) (b0 : 0 ≤ tg) (b1 : tg ≤ 16000) (hx : D_by s tb 1000 X2) (em : m = X2.length) (zf : Zr f) : C_ok (d + 6) 148 [.ref g, .int (Zi f)] s (fun x s2 n => (n : Int) ≤ 5 * (X2.length : Int) + 40 ∧ C_n s ≤ C_n s2 ∧ C_n s2 ≤ C_n s + 270 ∧ ∃ z : Int, x = some (.int (Zi z)) ∧ (z = -1 ∧ n = 0 ∧ s2 = s ∧ (∀ X, D_isf fs ca f X → 16000 < tg - X.length + X2.length) ∨ z = X2.length ∧ ∃ X, D_isf fs ca f X ∧ tg - X.length + X2.length ≤ 16000 ∧ ∃ s1, s2 = C_sF s1 g 1 0 ∧ C_wf s1 ∧ C_fr (fun t => p <+: t) s s1 ∧ D_ps s1 sh = D_ps s sh ∧ D_G s1 g tb sh pa pl ma re m ∧ D_Sh s1 p sh ea u v (fun i => if i = f then some X2 else fs i) ca th (tg + (X2.length - X.length)))) := by
  refine C_enter (M := E_m148) rfl (Nat.le_of_ble_eq_true rfl) (fun h0 h hs => ?_)
  show B_R (d + 5) _ (0, [(0, .ref g), (1, .int (Zi f))], []) _ _ _
  have w := hs.1
  obtain ⟨gk, gt, g0, tk, tt, g2, g3, g4, g5, g6, gm, m0, m1⟩ := id hg
  have pn0 : ¬ p <+: ([] : List Nat) := fun e => pn (List.prefix_nil.mp e)
  have zm : Zr m := ⟨by omega, by omega⟩
  refine Z_go (f2 := (1, [(0, .ref g), (1, .int (Zi f))], [.ref g])) (fun _ => rfl) ?_
  refine C_gr rfl hs gk (by decide) (Nat.le_of_ble_eq_true rfl) rfl g2 ?_
  refine Z_go (f2 := (5, [(0, .ref g), (1, .int (Zi f))], [.int (Zi f), .ref sh])) (fun _ => rfl) ?_
  refine Z_go (f2 := (6, [(0, .ref g), (1, .int (Zi f))], [.ref g, .int (Zi f), .ref sh])) (fun _ => rfl) ?_
  refine C_gr rfl hs gk (by decide) (Nat.le_of_ble_eq_true rfl) rfl g0 ?_
  refine Z_go (f2 := (10, [(0, .ref g), (1, .int (Zi f))], [.ref g, .ref tb, .int (Zi f), .ref sh])) (fun _ => rfl) ?_
  refine C_gi rfl hs gk (by decide) (Nat.le_of_ble_eq_true rfl) rfl ?_
  rw [show C_F (s) g 1 = m from (by first | exact gm | exact (if_neg (fun e => absurd e.1 (by assumption))).trans gm | exact (if_neg (fun e => absurd e.2 (by decide))).trans gm | exact (if_neg (fun e => absurd e.2 (by decide))).trans ((if_neg (fun e => absurd e.2 (by decide))).trans gm) | exact (if_neg (fun e => absurd e.2 (by decide))).trans ((if_neg (fun e => absurd e.2 (by decide))).trans ((if_neg (fun e => absurd e.2 (by decide))).trans gm)))]
  show B_R _ _ (13, [(0, .ref g), (1, .int (Zi f))], [.int (Zi m), .ref tb, .int (Zi f), .ref sh]) _ _ _
  refine C_callV (As := [.int (Zi f), .ref tb, .int (Zi m)]) (rest := []) rfl (by decide) rfl (by decide) rfl rfl (by decide +kernel) (Nat.le_of_ble_eq_true rfl) hs hd.1.1 (em ▸ C_exch9 _ hd t0 t1 b0 b1 hx (by omega) (by omega) (by rw [tt]; exact pn0) zf) (fun x h w1 m9 hs q => ?_)
  obtain ⟨q0, q1, q2, q3, q4, z9, rfl, hz9⟩ := q
  rw [em] at hz9
  have hg1 := hg.fr w q3 pn0
  have w1f := hs.1
  have z01 : Zr z9 := by rcases hz9 with ⟨e, _⟩ | ⟨e, _⟩ <;> exact ⟨by omega, by omega⟩
  show B_R _ _ (16, [(0, .ref g), (1, .int (Zi f))], [.int (Zi z9)]) _ _ _
  refine Z_go (f2 := (17, [(2, .int (Zi z9)), (0, .ref g), (1, .int (Zi f))], [])) (fun _ => rfl) ?_
  refine Z_go (f2 := (18, [(2, .int (Zi z9)), (0, .ref g), (1, .int (Zi f))], [.int (Zi z9)])) (fun _ => rfl) ?_
  refine Z_go (f2 := (19, [(2, .int (Zi z9)), (0, .ref g), (1, .int (Zi f))], [.int (Zi (-1)), .int (Zi z9)])) (fun _ => rfl) ?_
  refine Z_ceq rfl rfl (by first | exact hs.zF _ _ | exact Zor_r _ _ | exact hs.zA _ _ | assumption | exact zA _ _ | exact zS _ | exact Zr_not (hs.zA _ _) | exact hs.1.1 _ _ | exact ⟨by omega, by omega⟩) (by first | exact hs.zF _ _ | exact Zor_r _ _ | exact hs.zA _ _ | assumption | exact zA _ _ | exact zS _ | exact Zr_not (hs.zA _ _) | exact hs.1.1 _ _ | exact ⟨by omega, by omega⟩) (fun y1 => ?_) (fun y1 => ?_)
  · refine Z_go (f2 := (28, [(2, .int (Zi z9)), (0, .ref g), (1, .int (Zi f))], [.int (Zi z9)])) (fun _ => rfl) ?_
    refine Z_iret rfl rfl (by first | rfl | decide | exact narrow_b01 (by omega)) ⟨_, hs, ?_⟩
    try dsimp only
    refine ⟨by omega, q1, q2, z9, rfl, ?_⟩
    rcases hz9 with h | ⟨h1, h2⟩
    · exact .inl ⟨h.1, by have := h.2.1; omega, h.2.2⟩
    · exfalso; omega
  · refine Z_go (f2 := (23, [(2, .int (Zi z9)), (0, .ref g), (1, .int (Zi f))], [.ref g])) (fun _ => rfl) ?_
    refine Z_go (f2 := (24, [(2, .int (Zi z9)), (0, .ref g), (1, .int (Zi f))], [.int (Zi 0), .ref g])) (fun _ => rfl) ?_
    refine C_pi rfl hs hg1.1 (by decide) (Nat.le_of_ble_eq_true rfl) (.inl rfl) rfl rfl rfl (by first | exact hs.zF _ _ | exact Zor_r _ _ | exact hs.zA _ _ | assumption | exact zA _ _ | exact zS _ | exact Zr_not (hs.zA _ _) | exact hs.1.1 _ _ | exact ⟨by omega, by omega⟩) (fun h hs => ?_)
    refine Z_go (f2 := (28, [(2, .int (Zi z9)), (0, .ref g), (1, .int (Zi f))], [.int (Zi z9)])) (fun _ => rfl) ?_
    refine Z_iret rfl rfl (by first | rfl | decide | exact narrow_b01 (by omega)) ⟨_, hs, ?_⟩
    try dsimp only
    refine ⟨by omega, q1, q2, z9, rfl, ?_⟩
    rcases hz9 with h | ⟨h1, X, h2, h3, h4⟩
    · exfalso; omega
    · exact .inr ⟨h1, X, h2, h3, w1, rfl, w1f, q3, q4, hg1, h4⟩
