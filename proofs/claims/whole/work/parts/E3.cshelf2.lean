/-! the class: Shelf: exchange, take -/
theorem D_isf.inj {fs : Int → Option (List Int)} {ca f : Int} {X Y : List Int} (h : D_isf fs ca f X) (g : D_isf fs ca f Y) : X = Y := Option.some.inj (h.2.2.symm.trans g.2.2)
theorem L_pre_len {p t : List Nat} {e : Nat} (h : p ++ [e] <+: t) : p.length < t.length := by
  obtain ⟨a, rfl⟩ := h
  simp
theorem C_exch (d : Nat) {s : C_S} {p : List Nat} {o ea u v : Nat} {fs : Int → Option (List Int)} {ca th tg : Int} {fb N : Nat} {X2 : List Int} {f : Int} (hd : D_Sh s p o ea u v fs ca th tg) (t0 : 0 ≤ th) (t1 : th ≤ 40) (b0 : 0 ≤ tg) (b1 : tg ≤ 16000) (hb : D_by s fb N X2) (hx2 : X2.length ≤ 1000) (hN : N ≤ 67108864) (nt : ¬ p <+: C_T s fb) (zf : Zr f) : C_ok (d + 5) 103 [.ref o, .int (Zi f), .ref fb, .int (Zi ((X2.length : Int)))] s (fun x s2 n => n ≤ 6000 ∧ C_n s ≤ C_n s2 ∧ C_n s2 ≤ C_n s + 270 ∧ C_fr (fun t => p <+: t) s s2 ∧ D_ps s2 o = D_ps s o ∧ ∃ z : Int, x = some (.int (Zi z)) ∧ (z = -1 ∧ s2 = s ∧ (∀ X, D_isf fs ca f X → 16000 < tg - X.length + X2.length) ∨ z = X2.length ∧ ∃ X, D_isf fs ca f X ∧ tg - X.length + X2.length ≤ 16000 ∧ D_Sh s2 p o ea u v (fun i => if i = f then some X2 else fs i) ca th (tg + (X2.length - X.length)))) := by
  refine C_enter (M := E_m103) rfl (Nat.le_of_ble_eq_true rfl) (fun h0 h hs => ?_)
  show B_R (d + 4) _ (0, [(0, .ref o), (1, .int (Zi f)), (2, .ref fb), (3, .int (Zi ((X2.length : Int))))], []) _ _ _
  have hd0 := hd
  have w := hs.1
  obtain ⟨⟨ok, ot, oe, ou, ov, ek, et, oc, oh, og, ca0, ca1, uv⟩, g1, g2, g3, g4⟩ := hd
  have hb0 := hb
  have zN := hs.len (show 1 < 20 by decide) hb.1
  rcases hd0.one f with ⟨e, ba, g, a, cap, X, hi, hq, he, hx, hcap⟩ | ⟨hn, hno⟩
  · have i0 := hi.1
    have i1 := hi.2.1
    have zX : (X.length : Int) ≤ 1000 := by omega
    have lE := C_lt w he.1 (show 8 < 20 by decide)
    refine Z_go (f2 := (1, [(0, .ref o), (1, .int (Zi f)), (2, .ref fb), (3, .int (Zi ((X2.length : Int))))], [.ref o])) (fun _ => rfl) ?_
    refine Z_go (f2 := (2, [(0, .ref o), (1, .int (Zi f)), (2, .ref fb), (3, .int (Zi ((X2.length : Int))))], [.int (Zi f), .ref o])) (fun _ => rfl) ?_
    refine C_callVR (As := [.int (Zi f)]) (rest := []) rfl (by decide) rfl (by decide) rfl rfl (by decide +kernel) (Nat.le_of_ble_eq_true rfl) hs ok (C_find1 _ hd0 (by omega) (by omega) hq) (fun x q => ?_)
    obtain rfl := q
    show B_R _ _ (5, [(0, .ref o), (1, .int (Zi f)), (2, .ref fb), (3, .int (Zi ((X2.length : Int))))], [.ref e]) _ _ _
    refine Z_go (f2 := (7, [(4, .ref e), (0, .ref o), (1, .int (Zi f)), (2, .ref fb), (3, .int (Zi ((X2.length : Int))))], [])) (fun _ => rfl) ?_
    refine Z_go (f2 := (9, [(4, .ref e), (0, .ref o), (1, .int (Zi f)), (2, .ref fb), (3, .int (Zi ((X2.length : Int))))], [.ref e])) (fun _ => rfl) ?_
    refine Z_go (f2 := (12, [(4, .ref e), (0, .ref o), (1, .int (Zi f)), (2, .ref fb), (3, .int (Zi ((X2.length : Int))))], [])) (fun _ => rfl) ?_
    refine Z_go (f2 := (13, [(4, .ref e), (0, .ref o), (1, .int (Zi f)), (2, .ref fb), (3, .int (Zi ((X2.length : Int))))], [.ref o])) (fun _ => rfl) ?_
    refine C_gi rfl hs ok (by decide) (Nat.le_of_ble_eq_true rfl) rfl ?_
    rw [show C_F (s) o 5 = tg from (by first | exact og | exact (if_neg (fun e => absurd e.1 (by assumption))).trans og | exact (if_neg (fun e => absurd e.2 (by decide))).trans og | exact (if_neg (fun e => absurd e.2 (by decide))).trans ((if_neg (fun e => absurd e.2 (by decide))).trans og) | exact (if_neg (fun e => absurd e.2 (by decide))).trans ((if_neg (fun e => absurd e.2 (by decide))).trans ((if_neg (fun e => absurd e.2 (by decide))).trans og)))]
    show B_R _ _ (16, [(4, .ref e), (0, .ref o), (1, .int (Zi f)), (2, .ref fb), (3, .int (Zi ((X2.length : Int))))], [.int (Zi tg)]) _ _ _
    refine Z_go (f2 := (18, [(4, .ref e), (0, .ref o), (1, .int (Zi f)), (2, .ref fb), (3, .int (Zi ((X2.length : Int))))], [.ref e, .int (Zi tg)])) (fun _ => rfl) ?_
    refine C_gr rfl hs he.1 (by decide) (Nat.le_of_ble_eq_true rfl) rfl he.2.2.1 ?_
    refine C_al rfl hs he.2.2.2.2.1 (by decide) ?_
    show B_R _ _ (22, [(4, .ref e), (0, .ref o), (1, .int (Zi f)), (2, .ref fb), (3, .int (Zi ((X2.length : Int))))], [.int (Zi ((X.length : Int))), .int (Zi tg)]) _ _ _
    refine Z_isub rfl ?_
    refine Z_go (f2 := (24, [(4, .ref e), (0, .ref o), (1, .int (Zi f)), (2, .ref fb), (3, .int (Zi ((X2.length : Int))))], [.int (Zi ((X2.length : Int))), .int (Zi (tg - (X.length : Int)))])) (fun _ => rfl) ?_
    refine Z_iadd rfl ?_
    refine Z_go (f2 := (28, [(4, .ref e), (0, .ref o), (1, .int (Zi f)), (2, .ref fb), (3, .int (Zi ((X2.length : Int))))], [.int (Zi 16000), .int (Zi (tg - (X.length : Int) + (X2.length : Int)))])) (fun _ => rfl) ?_
    refine Z_cle rfl rfl (by first | exact hs.zF _ _ | exact Zor_r _ _ | exact hs.zA _ _ | assumption | exact zA _ _ | exact zS _ | exact Zr_not (hs.zA _ _) | exact hs.1.1 _ _ | exact ⟨by omega, by omega⟩) (by first | exact hs.zF _ _ | exact Zor_r _ _ | exact hs.zA _ _ | assumption | exact zA _ _ | exact zS _ | exact Zr_not (hs.zA _ _) | exact hs.1.1 _ _ | exact ⟨by omega, by omega⟩) (fun c1 => ?_) (fun c1 => ?_)
    · refine Z_go (f2 := (34, [(4, .ref e), (0, .ref o), (1, .int (Zi f)), (2, .ref fb), (3, .int (Zi ((X2.length : Int))))], [.ref o])) (fun _ => rfl) ?_
      refine Z_go (f2 := (35, [(4, .ref e), (0, .ref o), (1, .int (Zi f)), (2, .ref fb), (3, .int (Zi ((X2.length : Int))))], [.ref o, .ref o])) (fun _ => rfl) ?_
      refine C_gi rfl hs ok (by decide) (Nat.le_of_ble_eq_true rfl) rfl ?_
      rw [show C_F (s) o 5 = tg from (by first | exact og | exact (if_neg (fun e => absurd e.1 (by assumption))).trans og | exact (if_neg (fun e => absurd e.2 (by decide))).trans og | exact (if_neg (fun e => absurd e.2 (by decide))).trans ((if_neg (fun e => absurd e.2 (by decide))).trans og) | exact (if_neg (fun e => absurd e.2 (by decide))).trans ((if_neg (fun e => absurd e.2 (by decide))).trans ((if_neg (fun e => absurd e.2 (by decide))).trans og)))]
      show B_R _ _ (38, [(4, .ref e), (0, .ref o), (1, .int (Zi f)), (2, .ref fb), (3, .int (Zi ((X2.length : Int))))], [.int (Zi tg), .ref o]) _ _ _
      refine Z_go (f2 := (39, [(4, .ref e), (0, .ref o), (1, .int (Zi f)), (2, .ref fb), (3, .int (Zi ((X2.length : Int))))], [.int (Zi ((X2.length : Int))), .int (Zi tg), .ref o])) (fun _ => rfl) ?_
      refine Z_go (f2 := (41, [(4, .ref e), (0, .ref o), (1, .int (Zi f)), (2, .ref fb), (3, .int (Zi ((X2.length : Int))))], [.ref e, .int (Zi ((X2.length : Int))), .int (Zi tg), .ref o])) (fun _ => rfl) ?_
      refine C_gr rfl hs he.1 (by decide) (Nat.le_of_ble_eq_true rfl) rfl he.2.2.1 ?_
      refine C_al rfl hs he.2.2.2.2.1 (by decide) ?_
      show B_R _ _ (45, [(4, .ref e), (0, .ref o), (1, .int (Zi f)), (2, .ref fb), (3, .int (Zi ((X2.length : Int))))], [.int (Zi ((X.length : Int))), .int (Zi ((X2.length : Int))), .int (Zi tg), .ref o]) _ _ _
      refine Z_isub rfl ?_
      refine Z_iadd rfl ?_
      refine C_pi rfl hs ok (by decide) (Nat.le_of_ble_eq_true rfl) (.inl rfl) rfl rfl rfl (by first | exact hs.zF _ _ | exact Zor_r _ _ | exact hs.zA _ _ | assumption | exact zA _ _ | exact zS _ | exact Zr_not (hs.zA _ _) | exact hs.1.1 _ _ | exact ⟨by omega, by omega⟩) (fun h hs => ?_)
      have w1 := hs.1
      have hfr : C_fr (fun t => t = p) s (C_sF s o 5 (tg + ((X2.length : Int) - (X.length : Int)))) := (C_fr.refl _ s).sF ot
      have he2 := he.fr (Z := fun t => t = p) w hfr (fun t ht e => by subst e; have := L_pre_len ht; omega)
      obtain ⟨es2, er2⟩ := he2.es
      have hb2 := hb0.fr w hfr (fun e => nt (by rw [e]; exact L_pre_self p))
      have nt2 : ¬ p ++ [e] <+: C_T (C_sF s o 5 (tg + ((X2.length : Int) - (X.length : Int)))) fb := fun h => nt (L_pre_p h)
      refine Z_go (f2 := (52, [(4, .ref e), (0, .ref o), (1, .int (Zi f)), (2, .ref fb), (3, .int (Zi ((X2.length : Int))))], [.ref e])) (fun _ => rfl) ?_
      refine Z_go (f2 := (53, [(4, .ref e), (0, .ref o), (1, .int (Zi f)), (2, .ref fb), (3, .int (Zi ((X2.length : Int))))], [.ref fb, .ref e])) (fun _ => rfl) ?_
      refine Z_go (f2 := (54, [(4, .ref e), (0, .ref o), (1, .int (Zi f)), (2, .ref fb), (3, .int (Zi ((X2.length : Int))))], [.int (Zi ((X2.length : Int))), .ref fb, .ref e])) (fun _ => rfl) ?_
      refine C_callV (As := [.ref fb, .int (Zi ((X2.length : Int)))]) (rest := []) rfl (by decide) rfl (by decide) rfl rfl (by decide +kernel) (Nat.le_of_ble_eq_true rfl) hs he.1 (C_fillE _ (X := X2) es2 er2 hb2 hx2 hN nt2) (fun x h u2 n hs q => ?_)
      obtain ⟨rfl, hn1, ba2, a2, cap2, y1, y2, y3, y4, y5⟩ := q
      show B_R _ _ (57, [(4, .ref e), (0, .ref o), (1, .int (Zi f)), (2, .ref fb), (3, .int (Zi ((X2.length : Int))))], []) _ _ _
      refine Z_go (f2 := (58, [(4, .ref e), (0, .ref o), (1, .int (Zi f)), (2, .ref fb), (3, .int (Zi ((X2.length : Int))))], [.int (Zi ((X2.length : Int)))])) (fun _ => rfl) ?_
      refine Z_iret rfl rfl (by first | rfl | decide | exact narrow_b01 (by omega)) ⟨_, hs, ?_⟩
      try dsimp only
      have hfr2 : C_fr (fun t => t = p ∨ p ++ [e] <+: t) s u2 := hfr.trans y2 (fun t h => .inl h) (fun t h => .inr h)
      have hq2 : ∀ i, C_Q u2 ea i = C_Q s ea i := fun i => congrFun (y2.2.2.1 ea (C_lt w1 ek (show 6 < 20 by decide)) (fun h => by have h : p ++ [e] <+: C_T s ea := h; rw [et] at h; have := L_pre_len h; omega)).2.2.2.2 i
      have hle := C_lt w1 (o := o) ok (show 16 < 20 by decide)
      obtain ⟨x1, x2, x3, x4, x5⟩ := y2.2.2.1 o hle (fun h => by have h : p ++ [e] <+: C_T s o := h; rw [ot] at h; have := L_pre_len h; omega)
      have kk : ∀ j k, C_K s j = k → k.1 < 20 → C_K u2 j = k := fun j k hk hk2 => y2.K w1 (show C_K (C_sF s o 5 (tg + ((X2.length : Int) - (X.length : Int)))) j = k from hk) hk2
      have tt : ∀ j k, C_K s j = k → k.1 < 20 → C_T u2 j = C_T s j := fun j k hk hk2 => (y2.2.1 j (C_lt w1 (show C_K (C_sF s o 5 (tg + ((X2.length : Int) - (X.length : Int)))) j = k from hk) hk2)).2
      have q3 := g3.fr w hfr2 (fun h => by rcases h with h | h; exact L_app_ne p u h.symm; exact L_pre_no (show u ≠ e from fun z => by obtain ⟨_, _, _, hr, _⟩ := g3; have := hr.1; rw [z] at this; have h9 := he.1; rw [this] at h9; cases h9) (L_pre_self _) h)
      have q4 := g4.fr w hfr2 (fun h => by rcases h with h | h; exact L_app_ne p v h.symm; exact L_pre_no (show v ≠ e from fun z => by obtain ⟨_, _, _, hr, _⟩ := g4; have := hr.1; rw [z] at this; have h9 := he.1; rw [this] at h9; cases h9) (L_pre_self _) h)
      refine ⟨by omega, by have : C_n (C_sF s o 5 (tg + ((X2.length : Int) - (X.length : Int)))) = C_n s := rfl; omega, by have : C_n (C_sF s o 5 (tg + ((X2.length : Int) - (X.length : Int)))) = C_n s := rfl; omega, hfr2.weak (fun t h => by rcases h with h | h; rw [h]; exact L_pre_self p; exact L_pre_p h), ?_, _, rfl, .inr ⟨rfl, X, hi, by omega, ?_⟩⟩
      · unfold D_ps
        rw [show C_P u2 o = C_P s o from x2, ou, ov, q3.2, q4.2]
      refine ⟨⟨kk o _ ok (by decide), by rw [tt o _ ok (by decide)]; exact ot, by rw [x2]; exact oe, by rw [x2]; exact ou, by rw [x2]; exact ov, kk ea _ ek (by decide), by rw [tt ea _ ek (by decide)]; exact et, by rw [x1]; exact (if_neg (by omega)).trans oc, by rw [x1]; exact (if_neg (by omega)).trans oh, by rw [x1]; exact if_pos ⟨rfl, rfl⟩, ca0, ca1, uv⟩, fun i j0 j1 => ?_, fun i j a1 a2 b1 b2 e2 q1 q2 => ?_, q3.1, q4.1⟩
      · by_cases c : i = f
        · subst c
          exact .inr ⟨e, ba2, g, a2, cap2, X2, by rw [hq2]; exact hq, if_pos rfl, y1, hx2, by omega⟩
        · have := (g1 i j0 j1).fr (s2 := u2) w hfr2 (fun e3 he3 t ht h => ?_) (hq2 i)
          · rcases this with ⟨h1, h2⟩ | ⟨e, ba, g, a, cap, X, h1, h2, h3⟩
            · exact .inl ⟨h1, (if_neg c).trans h2⟩
            · exact .inr ⟨e, ba, g, a, cap, X, h1, (if_neg c).trans h2, h3⟩
          · rcases h with h | h
            · exact L_pre_ne ht h
            · exact L_pre_no (show e ≠ e3 from fun z => c (g2 i f j0 j1 i0 i1 e3 he3 (by rw [← z]; exact hq))) h ht
      · rw [hq2] at q1 q2
        exact g2 i j a1 a2 b1 b2 e2 q1 q2
    · refine Z_go (f2 := (32, [(4, .ref e), (0, .ref o), (1, .int (Zi f)), (2, .ref fb), (3, .int (Zi ((X2.length : Int))))], [.int (Zi (-1))])) (fun _ => rfl) ?_
      refine Z_iret rfl rfl (by first | rfl | decide | exact narrow_b01 (by omega)) ⟨_, hs, ?_⟩
      try dsimp only
      first
      | (exfalso; omega)
      | exact ⟨by omega, by omega, by omega, C_fr.refl _ _, rfl, -1, rfl, .inl ⟨rfl, rfl, fun Y hY => by rw [← hi.inj hY]; omega⟩⟩
  · refine Z_go (f2 := (1, [(0, .ref o), (1, .int (Zi f)), (2, .ref fb), (3, .int (Zi ((X2.length : Int))))], [.ref o])) (fun _ => rfl) ?_
    refine Z_go (f2 := (2, [(0, .ref o), (1, .int (Zi f)), (2, .ref fb), (3, .int (Zi ((X2.length : Int))))], [.int (Zi f), .ref o])) (fun _ => rfl) ?_
    refine C_callVR (As := [.int (Zi f)]) (rest := []) rfl (by decide) rfl (by decide) rfl rfl (by decide +kernel) (Nat.le_of_ble_eq_true rfl) hs ok (C_find0 _ hd0 hn zf) (fun x q => ?_)
    obtain rfl := q
    show B_R _ _ (5, [(0, .ref o), (1, .int (Zi f)), (2, .ref fb), (3, .int (Zi ((X2.length : Int))))], [.null]) _ _ _
    refine Z_go (f2 := (7, [(4, .null), (0, .ref o), (1, .int (Zi f)), (2, .ref fb), (3, .int (Zi ((X2.length : Int))))], [])) (fun _ => rfl) ?_
    refine Z_go (f2 := (9, [(4, .null), (0, .ref o), (1, .int (Zi f)), (2, .ref fb), (3, .int (Zi ((X2.length : Int))))], [.null])) (fun _ => rfl) ?_
    refine Z_go (f2 := (31, [(4, .null), (0, .ref o), (1, .int (Zi f)), (2, .ref fb), (3, .int (Zi ((X2.length : Int))))], [])) (fun _ => rfl) ?_
    refine Z_go (f2 := (32, [(4, .null), (0, .ref o), (1, .int (Zi f)), (2, .ref fb), (3, .int (Zi ((X2.length : Int))))], [.int (Zi (-1))])) (fun _ => rfl) ?_
    refine Z_iret rfl rfl (by first | rfl | decide | exact narrow_b01 (by omega)) ⟨_, hs, ?_⟩
    try dsimp only
    exact ⟨by omega, by omega, by omega, C_fr.refl _ _, rfl, -1, rfl, .inl ⟨rfl, rfl, fun Y hY => absurd hY (hno Y)⟩⟩
