/-! the class: Entry made; Shelf: take -/
theorem C_enInit (d : Nat) {s : C_S} {q : List Nat} {e : Nat} (ok : C_K s e = (8, 0)) (ot : C_T s e = q) : C_ok (d + 2) 0 [.ref e] s (fun x s2 n => x = none ∧ n ≤ 20 ∧ C_n s2 = C_n s + 3 ∧ C_fr (fun t => q <+: t) s s2 ∧ D_Es s2 q e (C_n s) (C_n s + 1) [] ∧ D_Row s2 (q ++ [C_n s + 1]) (C_n s + 1) (C_n s + 2) 8 []) := by
  refine C_enter (M := E_m0) rfl (Nat.le_of_ble_eq_true rfl) (fun h0 h hs => ?_)
  show B_R (d + 1) _ (0, [(0, .ref e)], []) _ _ _
  have w := hs.1
  have le := C_lt w ok (show 8 < 20 by decide)
  have ok0 := ok
  refine Z_go (f2 := (1, [(0, .ref e)], [.ref e])) (fun _ => rfl) ?_
  refine C_obj rfl (Nat.le_of_ble_eq_true rfl) ?_
  show B_R _ _ (4, [(0, .ref e)], []) _ _ _
  refine Z_go (f2 := (5, [(0, .ref e)], [.ref e])) (fun _ => rfl) ?_
  refine Z_go (f2 := (6, [(0, .ref e)], [.int (Zi 0), .ref e])) (fun _ => rfl) ?_
  refine C_na (t := q) rfl hs (by decide) (by decide) (by omega) (by omega) (fun h hs => ?_)
  have hkn : C_K (C_new s (1, (0 : Int).toNat) q) (C_n s) = (1, 0) := if_pos rfl
  have ok : C_K (C_new s (1, (0 : Int).toNat) q) e = (8, 0) := (if_neg (by omega)).trans ok
  show B_R _ _ (8, [(0, .ref e)], [.ref (C_n s), .ref e]) _ _ _
  refine C_pr rfl hs (r := some (C_n s)) rfl ok (by decide) (Nat.le_of_ble_eq_true rfl) (by first | exact .inl rfl | exact .inr ⟨rfl, rfl⟩) rfl (fun h hs => ?_)
  refine Z_go (f2 := (12, [(0, .ref e)], [.ref e])) (fun _ => rfl) ?_
  refine C_nw (t := q ++ [C_n s + 1]) rfl hs (by decide) (fun h hs => ?_)
  have hs2 := hs
  have hkr : C_K (C_new (C_sP (C_new s (1, (0 : Int).toNat) q) e 0 (some (C_n s))) (15, 0) (q ++ [C_n s + 1])) (C_n s + 1) = (15, 0) := if_pos rfl
  have htr : C_T (C_new (C_sP (C_new s (1, (0 : Int).toNat) q) e 0 (some (C_n s))) (15, 0) (q ++ [C_n s + 1])) (C_n s + 1) = q ++ [C_n s + 1] := if_pos rfl
  have ok : C_K (C_new (C_sP (C_new s (1, (0 : Int).toNat) q) e 0 (some (C_n s))) (15, 0) (q ++ [C_n s + 1])) e = (8, 0) := (if_neg (show ¬ e = C_n s + 1 by omega)).trans ok
  show B_R _ _ (15, [(0, .ref e)], [.ref (C_n s + 1), .ref e]) _ _ _
  refine Z_go (f2 := (16, [(0, .ref e)], [.ref (C_n s + 1), .ref (C_n s + 1), .ref e])) (fun _ => rfl) ?_
  refine C_callI (As := []) (rest := [.ref (C_n s + 1), .ref e]) rfl (by decide) rfl rfl rfl (by decide +kernel) rfl (Nat.le_of_ble_eq_true rfl) hs (C_rowInit _ hkr htr) (fun x h s9 n hs q => ?_)
  obtain ⟨rfl, rfl, rfl⟩ := q
  show B_R _ _ (19, [(0, .ref e)], [.ref (C_n s + 1), .ref e]) _ _ _
  have ok : C_K (C_sP (C_new (C_new (C_sP (C_new s (1, (0 : Int).toNat) q) e 0 (some (C_n s))) (15, 0) (q ++ [C_n s + 1])) (0, 8) (q ++ [C_n s + 1])) (C_n s + 1) 0 (some (C_n (C_new (C_sP (C_new s (1, (0 : Int).toNat) q) e 0 (some (C_n s))) (15, 0) (q ++ [C_n s + 1]))))) e = (8, 0) := (if_neg (show ¬ e = C_n s + 1 + 1 by omega)).trans ok
  refine C_pr rfl hs (r := some (C_n s + 1)) rfl ok (by decide) (Nat.le_of_ble_eq_true rfl) (by first | exact .inl rfl | exact .inr ⟨rfl, rfl⟩) rfl (fun h hs => ?_)
  have hs3 := hs
  refine Z_ret rfl rfl ⟨_, hs, ?_⟩
  try dsimp only
  have n1 : C_n (C_sP (C_new s (1, (0 : Int).toNat) q) e 0 (some (C_n s))) = C_n s + 1 := rfl
  have n2 : C_n (C_new (C_sP (C_new s (1, (0 : Int).toNat) q) e 0 (some (C_n s))) (15, 0) (q ++ [C_n s + 1])) = C_n s + 1 + 1 := rfl
  have t1 : ∀ j, C_T (C_new (C_sP (C_new s (1, (0 : Int).toNat) q) e 0 (some (C_n s))) (15, 0) (q ++ [C_n s + 1])) j = if j = C_n s + 1 then q ++ [C_n s + 1] else if j = C_n s then q else C_T s j := fun j => rfl
  have hr := D_Row_new hs2.1 hkr htr (congrFun (if_pos rfl) 1)
  have fe : C_fr (fun t => t = q) (C_sP (C_new (C_new (C_sP (C_new s (1, (0 : Int).toNat) q) e 0 (some (C_n s))) (15, 0) (q ++ [C_n s + 1])) (0, 8) (q ++ [C_n s + 1])) (C_n s + 1) 0 (some (C_n (C_new (C_sP (C_new s (1, (0 : Int).toNat) q) e 0 (some (C_n s))) (15, 0) (q ++ [C_n s + 1]))))) (C_sP (C_sP (C_new (C_new (C_sP (C_new s (1, (0 : Int).toNat) q) e 0 (some (C_n s))) (15, 0) (q ++ [C_n s + 1])) (0, 8) (q ++ [C_n s + 1])) (C_n s + 1) 0 (some (C_n (C_new (C_sP (C_new s (1, (0 : Int).toNat) q) e 0 (some (C_n s))) (15, 0) (q ++ [C_n s + 1]))))) e 1 (some (C_n s + 1))) := (C_fr.refl _ _).sP (by show (if e = C_n s + 1 + 1 then _ else if e = C_n s + 1 then _ else if e = C_n s then q else C_T s e) = q; rw [if_neg (by omega), if_neg (by omega), if_neg (by omega)]; exact ot)
  have eN : E_N 7 = 2 := rfl
  refine ⟨rfl, by omega, rfl, ?_, ⟨?_, ?_, ?_, if_pos ⟨rfl, rfl⟩, ?_, ?_, fun x hx => absurd hx List.not_mem_nil, fun k k0 k1 => by have k1 : k < 0 := k1; omega⟩, hr.fr hs3.1 fe (fun e => L_app_ne q _ e.symm)⟩
  · exact ((((((C_fr.refl (fun t => q <+: t) s).new (L_pre_self q)).sP (by show q <+: (if e = C_n s then q else C_T s e); rw [if_neg (by omega), ot]; exact L_pre_self q)).new (L_pre_one q _)).new (L_pre_one q _)).sP (by show q <+: (if C_n s + 1 = C_n s + 1 + 1 then _ else if C_n s + 1 = C_n s + 1 then q ++ [C_n s + 1] else _); rw [if_neg (by omega), if_pos rfl]; exact L_pre_one q _)).sP (by show q <+: (if e = C_n s + 1 + 1 then _ else if e = C_n s + 1 then _ else if e = C_n s then q else C_T s e); rw [if_neg (by omega), if_neg (by omega), if_neg (by omega), ot]; exact L_pre_self q)
  · show (if e = C_n s + 1 + 1 then _ else if e = C_n s + 1 then _ else if e = C_n s then _ else C_K s e) = _
    rw [if_neg (by omega), if_neg (by omega), if_neg (by omega)]; exact ok0
  · show (if e = C_n s + 1 + 1 then _ else if e = C_n s + 1 then _ else if e = C_n s then _ else C_T s e) = _
    rw [if_neg (by omega), if_neg (by omega), if_neg (by omega)]; exact ot
  · show (if e = e ∧ 0 = 1 then _ else if e = C_n s + 1 ∧ 0 = 0 then _ else (if e = C_n s + 1 + 1 then _ else (if e = C_n s + 1 then _ else (fun j c => if j = e ∧ c = 0 then some (C_n s) else (if j = C_n s then _ else C_P s j) c) e)) 0) = _
    rw [if_neg (by omega), if_neg (by omega), if_neg (by omega), if_neg (by omega)]
    exact if_pos ⟨rfl, rfl⟩
  · show (if C_n s = C_n s + 1 + 1 then _ else if C_n s = C_n s + 1 then _ else if C_n s = C_n s then _ else C_K s (C_n s)) = _
    rw [if_neg (by omega), if_neg (by omega), if_pos rfl]; rfl
  · show (if C_n s = C_n s + 1 + 1 then _ else if C_n s = C_n s + 1 then _ else if C_n s = C_n s then q else C_T s (C_n s)) = _
    rw [if_neg (by omega), if_neg (by omega), if_pos rfl]
theorem D_Sh.add {s w2 : C_S} {p : List Nat} {o ea u v : Nat} {fs : Int → Option (List Int)} {ca th tg : Int} {e ba g a cap L : Nat} {X : List Int} (hd : D_Sh s p o ea u v fs ca th tg) (w : C_wf s) (wf2 : C_wf w2) (k : C_fr (fun t => p ++ [e] <+: t) s w2) (he : D_En w2 (p ++ [e]) e ba g a cap X) (hx : X.length ≤ 1000) (hcap : cap ≤ 2008) (en : C_n s ≤ e) (hc : ca < 200) {y3 y4 y5 : Int} (e3 : y3 = ca + 1) (e4 : y4 = th + 1) (e5 : y5 = tg + X.length) : D_Sh (C_sF (C_sF (C_sF (C_sQ w2 ea ca (some e)) o 3 y3) o 4 y4) o 5 y5) p o ea u v (fun i => if i = ca then some X else fs i) y3 y4 y5 ∧ D_ps (C_sF (C_sF (C_sF (C_sQ w2 ea ca (some e)) o 3 y3) o 4 y4) o 5 y5) o = D_ps s o := by
  have hd0 := hd
  obtain ⟨⟨ok, ot, oe, ou, ov, ek, et, oc, oh, og, ca0, ca1, uv⟩, g1, g2, g3, g4⟩ := hd
  have lo := C_lt w ok (show 16 < 20 by decide)
  have le := C_lt w ek (show 6 < 20 by decide)
  have no : ¬ p ++ [e] <+: C_T s o := fun h => by rw [ot] at h; have := L_pre_len h; omega
  have ne : ¬ p ++ [e] <+: C_T s ea := fun h => by rw [et] at h; have := L_pre_len h; omega
  obtain ⟨x1, x2, x3, x4, x5⟩ := k.2.2.1 o lo no
  obtain ⟨b1, b2, b3, b4, b5⟩ := k.2.2.1 ea le ne
  have lt_ : ∀ {u : Nat}, D_s2 s p u → u ≠ e := fun {u} h z => by
    obtain ⟨_, _, _, hr, _⟩ := h
    have := C_lt w hr.1 (show 15 < 20 by decide)
    omega
  have tO : C_T w2 o = p := (k.2.1 o lo).2.trans ot
  have tE : C_T w2 ea = p := (k.2.1 ea le).2.trans et
  have kF : C_fr (fun t => t = p) w2 (C_sF (C_sF (C_sF (C_sQ w2 ea ca (some e)) o 3 y3) o 4 y4) o 5 y5) := ((((C_fr.refl (fun t => t = p) w2).sQ tE).sF tO).sF tO).sF tO
  have kk : C_fr (fun t => p ++ [e] <+: t ∨ t = p) s (C_sF (C_sF (C_sF (C_sQ w2 ea ca (some e)) o 3 y3) o 4 y4) o 5 y5) := k.trans kF (fun _ e => .inl e) (fun _ e => .inr e)
  have heF := he.fr wf2 kF (fun t ht e => L_pre_ne ht e)
  have q3 := g3.fr w kk (fun h => h.elim (fun h => L_pre_no (lt_ g3) (L_pre_self _) h) (fun h => L_app_ne p u h.symm))
  have q4 := g4.fr w kk (fun h => h.elim (fun h => L_pre_no (lt_ g4) (L_pre_self _) h) (fun h => L_app_ne p v h.symm))
  have hq : ∀ i, C_Q (C_sF (C_sF (C_sF (C_sQ w2 ea ca (some e)) o 3 y3) o 4 y4) o 5 y5) ea i = if i = ca then some e else C_Q s ea i := fun i => by
    show (if ea = ea ∧ i = ca then some e else C_Q w2 ea i) = _
    rw [b5]
    by_cases c : i = ca
    · rw [if_pos ⟨rfl, c⟩, if_pos c]
    · rw [if_neg (fun h => c h.2), if_neg c]
  refine ⟨⟨⟨by rw [← ok]; exact (k.2.1 o lo).1, by rw [← ot]; exact (k.2.1 o lo).2, by rw [← oe]; exact congrFun x2 0, by rw [← ou]; exact congrFun x2 1, by rw [← ov]; exact congrFun x2 2, by rw [← ek]; exact (k.2.1 ea le).1, by rw [← et]; exact (k.2.1 ea le).2, ?_, ?_, if_pos ⟨rfl, rfl⟩, by omega, by omega, uv⟩, fun i j0 j1 => ?_, fun i j a1 a2 b1 b2 e2 q1 q2 => ?_, q3.1, q4.1⟩, ?_⟩
  · show (if o = o ∧ 3 = 5 then _ else if o = o ∧ 3 = 4 then _ else if o = o ∧ 3 = 3 then y3 else _) = y3
    rw [if_neg (by omega), if_neg (by omega), if_pos ⟨rfl, rfl⟩]
  · show (if o = o ∧ 4 = 5 then _ else if o = o ∧ 4 = 4 then y4 else _) = y4
    rw [if_neg (by omega), if_pos ⟨rfl, rfl⟩]
  · by_cases c : i = ca
    · exact .inr ⟨e, ba, g, a, cap, X, by rw [hq, if_pos c], if_pos c, heF, hx, hcap⟩
    · rcases g1 i j0 (by omega) with ⟨h1, h2⟩ | ⟨e2, ba2, g2, a2, cap2, X2, h1, h2, h3, h4⟩
      · exact .inl ⟨by rw [hq, if_neg c]; exact h1, (if_neg c).trans h2⟩
      · refine .inr ⟨e2, ba2, g2, a2, cap2, X2, by rw [hq, if_neg c]; exact h1, (if_neg c).trans h2, ?_, h4⟩
        exact h3.fr w kk (fun t ht h => h.elim (fun h => L_pre_no (show e ≠ e2 from fun z => by have := C_lt w h3.1 (show 8 < 20 by decide); omega) h ht) (fun h => L_pre_ne ht h))
  · rw [hq] at q1 q2
    have lq : ∀ i, 0 ≤ i → i < ca → C_Q s ea i ≠ some e := fun i i0 i1 h => by
      rcases g1 i i0 i1 with ⟨h1, _⟩ | ⟨e2, ba2, g2, a2, cap2, X2, h1, h2, h3, h4⟩
      · rw [h1] at h; cases h
      · have := Option.some.inj (h1.symm.trans h)
        have := C_lt w h3.1 (show 8 < 20 by decide)
        omega
    by_cases c : i = ca
    · by_cases c2 : j = ca
      · omega
      · rw [if_pos c] at q1
        rw [if_neg c2, ← q1] at q2
        exact absurd q2 (lq j (by omega) (by omega))
    · rw [if_neg c] at q1
      by_cases c2 : j = ca
      · rw [if_pos c2, ← q1] at q2
        exact absurd q2.symm (lq i (by omega) (by omega))
      · rw [if_neg c2] at q2
        exact g2 i j a1 (by omega) b1 (by omega) e2 q1 q2
  · unfold D_ps
    rw [show C_P (C_sF (C_sF (C_sF (C_sQ w2 ea ca (some e)) o 3 y3) o 4 y4) o 5 y5) o = C_P s o from x2, ou, ov, q3.2, q4.2]
theorem C_take (d : Nat) {s : C_S} {p : List Nat} {o ea u v : Nat} {fs : Int → Option (List Int)} {ca th tg : Int} {fb N : Nat} {X2 : List Int} (hd : D_Sh s p o ea u v fs ca th tg) (t0 : 0 ≤ th) (t1 : th ≤ 40) (b0 : 0 ≤ tg) (b1 : tg ≤ 16000) (hb : D_by s fb N X2) (hx2 : X2.length ≤ 1000) (hN : N ≤ 67108864) (nt : ¬ p <+: C_T s fb) : C_ok (d + 5) 102 [.ref o, .ref fb, .int (Zi ((X2.length : Int)))] s (fun x s2 n => n ≤ 6000 ∧ C_n s ≤ C_n s2 ∧ C_n s2 ≤ C_n s + 270 ∧ C_fr (fun t => p <+: t) s s2 ∧ D_ps s2 o = D_ps s o ∧ ∃ z : Int, x = some (.int (Zi z)) ∧ (z = -1 ∧ s2 = s ∧ (40 ≤ th ∨ 200 ≤ ca ∨ 16000 < tg + X2.length) ∨ z = ca ∧ ¬ (40 ≤ th ∨ 200 ≤ ca ∨ 16000 < tg + X2.length) ∧ D_Sh s2 p o ea u v (fun i => if i = ca then some X2 else fs i) (ca + 1) (th + 1) (tg + X2.length))) := by
  refine C_enter (M := E_m102) rfl (Nat.le_of_ble_eq_true rfl) (fun h0 h hs => ?_)
  show B_R (d + 4) _ (0, [(0, .ref o), (1, .ref fb), (2, .int (Zi ((X2.length : Int))))], []) _ _ _
  have hd0 := hd
  have w := hs.1
  obtain ⟨⟨ok, ot, oe, ou, ov, ek, et, oc, oh, og, ca0, ca1, uv⟩, g1, g2, g3, g4⟩ := hd
  have hb0 := hb
  have zN := hs.len (show 1 < 20 by decide) hb.1
  have zc : Zr ca := ⟨by omega, by omega⟩
  have lo := C_lt w ok (show 16 < 20 by decide)
  have lea := C_lt w ek (show 6 < 20 by decide)
  refine Z_go (f2 := (1, [(0, .ref o), (1, .ref fb), (2, .int (Zi ((X2.length : Int))))], [.ref o])) (fun _ => rfl) ?_
  refine C_gi rfl hs ok (by decide) (Nat.le_of_ble_eq_true rfl) rfl ?_
  rw [show C_F (s) o 4 = th from (by first | exact oh | exact (if_neg (fun e => absurd e.1 (by assumption))).trans oh | exact (if_neg (fun e => absurd e.2 (by decide))).trans oh | exact (if_neg (fun e => absurd e.2 (by decide))).trans ((if_neg (fun e => absurd e.2 (by decide))).trans oh) | exact (if_neg (fun e => absurd e.2 (by decide))).trans ((if_neg (fun e => absurd e.2 (by decide))).trans ((if_neg (fun e => absurd e.2 (by decide))).trans oh)))]
  show B_R _ _ (4, [(0, .ref o), (1, .ref fb), (2, .int (Zi ((X2.length : Int))))], [.int (Zi th)]) _ _ _
  refine Z_go (f2 := (6, [(0, .ref o), (1, .ref fb), (2, .int (Zi ((X2.length : Int))))], [.int (Zi 40), .int (Zi th)])) (fun _ => rfl) ?_
  refine Z_cge rfl rfl (by first | exact hs.zF _ _ | exact Zor_r _ _ | exact hs.zA _ _ | assumption | exact zA _ _ | exact zS _ | exact Zr_not (hs.zA _ _) | exact hs.1.1 _ _ | exact ⟨by omega, by omega⟩) (by first | exact hs.zF _ _ | exact Zor_r _ _ | exact hs.zA _ _ | assumption | exact zA _ _ | exact zS _ | exact Zr_not (hs.zA _ _) | exact hs.1.1 _ _ | exact ⟨by omega, by omega⟩) (fun c1 => ?_) (fun c1 => ?_)
  · refine Z_go (f2 := (32, [(0, .ref o), (1, .ref fb), (2, .int (Zi ((X2.length : Int))))], [.int (Zi (-1))])) (fun _ => rfl) ?_
    refine Z_iret rfl rfl (by first | rfl | decide | exact narrow_b01 (by omega)) ⟨_, hs, ?_⟩
    try dsimp only
    exact ⟨by omega, by omega, by omega, C_fr.refl _ _, rfl, -1, rfl, .inl ⟨rfl, rfl, by omega⟩⟩
  · refine Z_go (f2 := (10, [(0, .ref o), (1, .ref fb), (2, .int (Zi ((X2.length : Int))))], [.ref o])) (fun _ => rfl) ?_
    refine C_gi rfl hs ok (by decide) (Nat.le_of_ble_eq_true rfl) rfl ?_
    rw [show C_F (s) o 3 = ca from (by first | exact oc | exact (if_neg (fun e => absurd e.1 (by assumption))).trans oc | exact (if_neg (fun e => absurd e.2 (by decide))).trans oc | exact (if_neg (fun e => absurd e.2 (by decide))).trans ((if_neg (fun e => absurd e.2 (by decide))).trans oc) | exact (if_neg (fun e => absurd e.2 (by decide))).trans ((if_neg (fun e => absurd e.2 (by decide))).trans ((if_neg (fun e => absurd e.2 (by decide))).trans oc)))]
    show B_R _ _ (13, [(0, .ref o), (1, .ref fb), (2, .int (Zi ((X2.length : Int))))], [.int (Zi ca)]) _ _ _
    refine Z_go (f2 := (16, [(0, .ref o), (1, .ref fb), (2, .int (Zi ((X2.length : Int))))], [.int (Zi 200), .int (Zi ca)])) (fun _ => rfl) ?_
    refine Z_cge rfl rfl (by first | exact hs.zF _ _ | exact Zor_r _ _ | exact hs.zA _ _ | assumption | exact zA _ _ | exact zS _ | exact Zr_not (hs.zA _ _) | exact hs.1.1 _ _ | exact ⟨by omega, by omega⟩) (by first | exact hs.zF _ _ | exact Zor_r _ _ | exact hs.zA _ _ | assumption | exact zA _ _ | exact zS _ | exact Zr_not (hs.zA _ _) | exact hs.1.1 _ _ | exact ⟨by omega, by omega⟩) (fun c2 => ?_) (fun c2 => ?_)
    · refine Z_go (f2 := (32, [(0, .ref o), (1, .ref fb), (2, .int (Zi ((X2.length : Int))))], [.int (Zi (-1))])) (fun _ => rfl) ?_
      refine Z_iret rfl rfl (by first | rfl | decide | exact narrow_b01 (by omega)) ⟨_, hs, ?_⟩
      try dsimp only
      exact ⟨by omega, by omega, by omega, C_fr.refl _ _, rfl, -1, rfl, .inl ⟨rfl, rfl, by omega⟩⟩
    · refine Z_go (f2 := (20, [(0, .ref o), (1, .ref fb), (2, .int (Zi ((X2.length : Int))))], [.ref o])) (fun _ => rfl) ?_
      refine C_gi rfl hs ok (by decide) (Nat.le_of_ble_eq_true rfl) rfl ?_
      rw [show C_F (s) o 5 = tg from (by first | exact og | exact (if_neg (fun e => absurd e.1 (by assumption))).trans og | exact (if_neg (fun e => absurd e.2 (by decide))).trans og | exact (if_neg (fun e => absurd e.2 (by decide))).trans ((if_neg (fun e => absurd e.2 (by decide))).trans og) | exact (if_neg (fun e => absurd e.2 (by decide))).trans ((if_neg (fun e => absurd e.2 (by decide))).trans ((if_neg (fun e => absurd e.2 (by decide))).trans og)))]
      show B_R _ _ (23, [(0, .ref o), (1, .ref fb), (2, .int (Zi ((X2.length : Int))))], [.int (Zi tg)]) _ _ _
      refine Z_go (f2 := (24, [(0, .ref o), (1, .ref fb), (2, .int (Zi ((X2.length : Int))))], [.int (Zi ((X2.length : Int))), .int (Zi tg)])) (fun _ => rfl) ?_
      refine Z_iadd rfl ?_
      refine Z_go (f2 := (28, [(0, .ref o), (1, .ref fb), (2, .int (Zi ((X2.length : Int))))], [.int (Zi 16000), .int (Zi (tg + (X2.length : Int)))])) (fun _ => rfl) ?_
      refine Z_cle rfl rfl (by first | exact hs.zF _ _ | exact Zor_r _ _ | exact hs.zA _ _ | assumption | exact zA _ _ | exact zS _ | exact Zr_not (hs.zA _ _) | exact hs.1.1 _ _ | exact ⟨by omega, by omega⟩) (by first | exact hs.zF _ _ | exact Zor_r _ _ | exact hs.zA _ _ | assumption | exact zA _ _ | exact zS _ | exact Zr_not (hs.zA _ _) | exact hs.1.1 _ _ | exact ⟨by omega, by omega⟩) (fun c3 => ?_) (fun c3 => ?_)
      · refine C_nw (t := p ++ [C_n s]) rfl hs (by decide) (fun h hs => ?_)
        have hkn : C_K (C_new s (8, 0) (p ++ [C_n s])) (C_n s) = (8, 0) := if_pos rfl
        have htn : C_T (C_new s (8, 0) (p ++ [C_n s])) (C_n s) = p ++ [C_n s] := if_pos rfl
        show B_R _ _ (36, [(0, .ref o), (1, .ref fb), (2, .int (Zi ((X2.length : Int))))], [.ref (C_n s)]) _ _ _
        refine Z_go (f2 := (37, [(0, .ref o), (1, .ref fb), (2, .int (Zi ((X2.length : Int))))], [.ref (C_n s), .ref (C_n s)])) (fun _ => rfl) ?_
        refine C_callI (As := []) (rest := [.ref (C_n s)]) rfl (by decide) rfl rfl rfl (by decide +kernel) rfl (Nat.le_of_ble_eq_true rfl) hs (C_enInit _ hkn htn) (fun x h u1 n1 hs q => ?_)
        obtain ⟨rfl, hn1, en1, fr1, es1, er1⟩ := q
        have frA : C_fr (fun t => p ++ [C_n s] <+: t) s u1 := ((C_fr.refl _ s).new (L_pre_self _)).tr fr1
        have hb2 := hb0.fr w frA (fun h => nt (L_pre_p h))
        have ntb : ¬ p ++ [C_n s] <+: C_T u1 fb := fun h => nt (by rw [(frA.2.1 fb (C_lt w hb0.1 (show 1 < 20 by decide))).2] at h; exact L_pre_p h)
        show B_R _ _ (40, [(0, .ref o), (1, .ref fb), (2, .int (Zi ((X2.length : Int))))], [.ref (C_n s)]) _ _ _
        refine Z_go (f2 := (41, [(3, .ref (C_n s)), (0, .ref o), (1, .ref fb), (2, .int (Zi ((X2.length : Int))))], [])) (fun _ => rfl) ?_
        refine Z_go (f2 := (42, [(3, .ref (C_n s)), (0, .ref o), (1, .ref fb), (2, .int (Zi ((X2.length : Int))))], [.ref (C_n s)])) (fun _ => rfl) ?_
        refine Z_go (f2 := (43, [(3, .ref (C_n s)), (0, .ref o), (1, .ref fb), (2, .int (Zi ((X2.length : Int))))], [.ref fb, .ref (C_n s)])) (fun _ => rfl) ?_
        refine Z_go (f2 := (44, [(3, .ref (C_n s)), (0, .ref o), (1, .ref fb), (2, .int (Zi ((X2.length : Int))))], [.int (Zi ((X2.length : Int))), .ref fb, .ref (C_n s)])) (fun _ => rfl) ?_
        refine C_callV (As := [.ref fb, .int (Zi ((X2.length : Int)))]) (rest := []) rfl (by decide) rfl (by decide) rfl rfl (by decide +kernel) (Nat.le_of_ble_eq_true rfl) hs (by first | exact es1.1 | exact y1.1) (C_fillE _ (X := X2) es1 er1 hb2 hx2 hN ntb) (fun x h u2 n2 hs q => ?_)
        obtain ⟨rfl, hn2, ba2, a2, cap2, y1, y2, y3, y4, y5⟩ := q
        have frB := frA.tr y2
        have no : ¬ p ++ [C_n s] <+: C_T s o := fun h => by rw [ot] at h; have := L_pre_len h; omega
        have nea : ¬ p ++ [C_n s] <+: C_T s ea := fun h => by rw [et] at h; have := L_pre_len h; omega
        obtain ⟨x1, x2, x3, x4, x5⟩ := frB.2.2.1 o lo no
        have ok2 := (frB.2.1 o lo).1.trans ok
        have ek2 := (frB.2.1 ea lea).1.trans ek
        have oe2 := (congrFun x2 0).trans oe
        have oc2 := (congrFun x1 3).trans oc
        have oh2 := (congrFun x1 4).trans oh
        have og2 := (congrFun x1 5).trans og
        show B_R _ _ (47, [(3, .ref (C_n s)), (0, .ref o), (1, .ref fb), (2, .int (Zi ((X2.length : Int))))], []) _ _ _
        have hs0 := hs.1
        refine Z_go (f2 := (48, [(3, .ref (C_n s)), (0, .ref o), (1, .ref fb), (2, .int (Zi ((X2.length : Int))))], [.ref o])) (fun _ => rfl) ?_
        refine C_gi rfl hs ok2 (by decide) (Nat.le_of_ble_eq_true rfl) rfl ?_
        rw [show C_F (u2) o 3 = ca from (by first | exact oc2 | exact (if_neg (fun e => absurd e.1 (by assumption))).trans oc2 | exact (if_neg (fun e => absurd e.2 (by decide))).trans oc2 | exact (if_neg (fun e => absurd e.2 (by decide))).trans ((if_neg (fun e => absurd e.2 (by decide))).trans oc2) | exact (if_neg (fun e => absurd e.2 (by decide))).trans ((if_neg (fun e => absurd e.2 (by decide))).trans ((if_neg (fun e => absurd e.2 (by decide))).trans oc2)))]
        show B_R _ _ (51, [(3, .ref (C_n s)), (0, .ref o), (1, .ref fb), (2, .int (Zi ((X2.length : Int))))], [.int (Zi ca)]) _ _ _
        refine Z_go (f2 := (53, [(4, .int (Zi ca)), (3, .ref (C_n s)), (0, .ref o), (1, .ref fb), (2, .int (Zi ((X2.length : Int))))], [])) (fun _ => rfl) ?_
        refine Z_go (f2 := (55, [(4, .int (Zi ca)), (3, .ref (C_n s)), (0, .ref o), (1, .ref fb), (2, .int (Zi ((X2.length : Int))))], [.int (Zi ca)])) (fun _ => rfl) ?_
        refine Z_ilt rfl rfl (by first | exact hs.zF _ _ | exact Zor_r _ _ | exact hs.zA _ _ | assumption | exact zA _ _ | exact zS _ | exact Zr_not (hs.zA _ _) | exact hs.1.1 _ _ | exact ⟨by omega, by omega⟩) (fun c4 => ?_) (fun c4 => ?_)
        · refine Z_go (f2 := (77, [(4, .int (Zi ca)), (3, .ref (C_n s)), (0, .ref o), (1, .ref fb), (2, .int (Zi ((X2.length : Int))))], [.ref o])) (fun _ => rfl) ?_
          refine Z_go (f2 := (78, [(4, .int (Zi ca)), (3, .ref (C_n s)), (0, .ref o), (1, .ref fb), (2, .int (Zi ((X2.length : Int))))], [.ref o, .ref o])) (fun _ => rfl) ?_
          refine C_gi rfl hs ok2 (by decide) (Nat.le_of_ble_eq_true rfl) rfl ?_
          rw [show C_F (u2) o 3 = ca from (by first | exact oc2 | exact (if_neg (fun e => absurd e.1 (by assumption))).trans oc2 | exact (if_neg (fun e => absurd e.2 (by decide))).trans oc2 | exact (if_neg (fun e => absurd e.2 (by decide))).trans ((if_neg (fun e => absurd e.2 (by decide))).trans oc2) | exact (if_neg (fun e => absurd e.2 (by decide))).trans ((if_neg (fun e => absurd e.2 (by decide))).trans ((if_neg (fun e => absurd e.2 (by decide))).trans oc2)))]
          show B_R _ _ (81, [(4, .int (Zi ca)), (3, .ref (C_n s)), (0, .ref o), (1, .ref fb), (2, .int (Zi ((X2.length : Int))))], [.int (Zi ca), .ref o]) _ _ _
          refine Z_go (f2 := (82, [(4, .int (Zi ca)), (3, .ref (C_n s)), (0, .ref o), (1, .ref fb), (2, .int (Zi ((X2.length : Int))))], [.int (Zi 1), .int (Zi ca), .ref o])) (fun _ => rfl) ?_
          refine Z_iadd rfl ?_
          refine C_pi rfl hs ok2 (by decide) (Nat.le_of_ble_eq_true rfl) (.inl rfl) rfl rfl rfl (by first | exact hs.zF _ _ | exact Zor_r _ _ | exact hs.zA _ _ | assumption | exact zA _ _ | exact zS _ | exact Zr_not (hs.zA _ _) | exact hs.1.1 _ _ | exact ⟨by omega, by omega⟩) (fun h hs => ?_)
          refine Z_go (f2 := (87, [(4, .int (Zi ca)), (3, .ref (C_n s)), (0, .ref o), (1, .ref fb), (2, .int (Zi ((X2.length : Int))))], [.ref o])) (fun _ => rfl) ?_
          refine Z_go (f2 := (88, [(4, .int (Zi ca)), (3, .ref (C_n s)), (0, .ref o), (1, .ref fb), (2, .int (Zi ((X2.length : Int))))], [.ref o, .ref o])) (fun _ => rfl) ?_
          refine C_gi rfl hs ok2 (by decide) (Nat.le_of_ble_eq_true rfl) rfl ?_
          rw [show C_F (C_sF u2 o 3 (ca + 1)) o 4 = th from (by first | exact oh2 | exact (if_neg (fun e => absurd e.1 (by assumption))).trans oh2 | exact (if_neg (fun e => absurd e.2 (by decide))).trans oh2 | exact (if_neg (fun e => absurd e.2 (by decide))).trans ((if_neg (fun e => absurd e.2 (by decide))).trans oh2) | exact (if_neg (fun e => absurd e.2 (by decide))).trans ((if_neg (fun e => absurd e.2 (by decide))).trans ((if_neg (fun e => absurd e.2 (by decide))).trans oh2)))]
          show B_R _ _ (91, [(4, .int (Zi ca)), (3, .ref (C_n s)), (0, .ref o), (1, .ref fb), (2, .int (Zi ((X2.length : Int))))], [.int (Zi th), .ref o]) _ _ _
          refine Z_go (f2 := (92, [(4, .int (Zi ca)), (3, .ref (C_n s)), (0, .ref o), (1, .ref fb), (2, .int (Zi ((X2.length : Int))))], [.int (Zi 1), .int (Zi th), .ref o])) (fun _ => rfl) ?_
          refine Z_iadd rfl ?_
          refine C_pi rfl hs ok2 (by decide) (Nat.le_of_ble_eq_true rfl) (.inl rfl) rfl rfl rfl (by first | exact hs.zF _ _ | exact Zor_r _ _ | exact hs.zA _ _ | assumption | exact zA _ _ | exact zS _ | exact Zr_not (hs.zA _ _) | exact hs.1.1 _ _ | exact ⟨by omega, by omega⟩) (fun h hs => ?_)
          refine Z_go (f2 := (97, [(4, .int (Zi ca)), (3, .ref (C_n s)), (0, .ref o), (1, .ref fb), (2, .int (Zi ((X2.length : Int))))], [.ref o])) (fun _ => rfl) ?_
          refine Z_go (f2 := (98, [(4, .int (Zi ca)), (3, .ref (C_n s)), (0, .ref o), (1, .ref fb), (2, .int (Zi ((X2.length : Int))))], [.ref o, .ref o])) (fun _ => rfl) ?_
          refine C_gi rfl hs ok2 (by decide) (Nat.le_of_ble_eq_true rfl) rfl ?_
          rw [show C_F (C_sF (C_sF u2 o 3 (ca + 1)) o 4 (th + 1)) o 5 = tg from (by first | exact og2 | exact (if_neg (fun e => absurd e.1 (by assumption))).trans og2 | exact (if_neg (fun e => absurd e.2 (by decide))).trans og2 | exact (if_neg (fun e => absurd e.2 (by decide))).trans ((if_neg (fun e => absurd e.2 (by decide))).trans og2) | exact (if_neg (fun e => absurd e.2 (by decide))).trans ((if_neg (fun e => absurd e.2 (by decide))).trans ((if_neg (fun e => absurd e.2 (by decide))).trans og2)))]
          show B_R _ _ (101, [(4, .int (Zi ca)), (3, .ref (C_n s)), (0, .ref o), (1, .ref fb), (2, .int (Zi ((X2.length : Int))))], [.int (Zi tg), .ref o]) _ _ _
          refine Z_go (f2 := (102, [(4, .int (Zi ca)), (3, .ref (C_n s)), (0, .ref o), (1, .ref fb), (2, .int (Zi ((X2.length : Int))))], [.int (Zi ((X2.length : Int))), .int (Zi tg), .ref o])) (fun _ => rfl) ?_
          refine Z_iadd rfl ?_
          refine C_pi rfl hs ok2 (by decide) (Nat.le_of_ble_eq_true rfl) (.inl rfl) rfl rfl rfl (by first | exact hs.zF _ _ | exact Zor_r _ _ | exact hs.zA _ _ | assumption | exact zA _ _ | exact zS _ | exact Zr_not (hs.zA _ _) | exact hs.1.1 _ _ | exact ⟨by omega, by omega⟩) (fun h hs => ?_)
          refine Z_go (f2 := (108, [(4, .int (Zi ca)), (3, .ref (C_n s)), (0, .ref o), (1, .ref fb), (2, .int (Zi ((X2.length : Int))))], [.int (Zi ca)])) (fun _ => rfl) ?_
          refine Z_iret rfl rfl (by first | rfl | decide | exact narrow_b01 (by omega)) ⟨_, hs, ?_⟩
          try dsimp only
          exfalso; omega
        · refine Z_go (f2 := (60, [(4, .int (Zi ca)), (3, .ref (C_n s)), (0, .ref o), (1, .ref fb), (2, .int (Zi ((X2.length : Int))))], [.int (Zi ca)])) (fun _ => rfl) ?_
          refine Z_go (f2 := (61, [(4, .int (Zi ca)), (3, .ref (C_n s)), (0, .ref o), (1, .ref fb), (2, .int (Zi ((X2.length : Int))))], [.ref o, .int (Zi ca)])) (fun _ => rfl) ?_
          refine C_gr rfl hs ok2 (by decide) (Nat.le_of_ble_eq_true rfl) rfl oe2 ?_
          refine C_al rfl hs ek2 (by decide) ?_
          show B_R _ _ (65, [(4, .int (Zi ca)), (3, .ref (C_n s)), (0, .ref o), (1, .ref fb), (2, .int (Zi ((X2.length : Int))))], [.int (Zi 200), .int (Zi ca)]) _ _ _
          refine Z_cge rfl rfl (by first | exact hs.zF _ _ | exact Zor_r _ _ | exact hs.zA _ _ | assumption | exact zA _ _ | exact zS _ | exact Zr_not (hs.zA _ _) | exact hs.1.1 _ _ | exact ⟨by omega, by omega⟩) (by first | exact hs.zF _ _ | exact Zor_r _ _ | exact hs.zA _ _ | assumption | exact zA _ _ | exact zS _ | exact Zr_not (hs.zA _ _) | exact hs.1.1 _ _ | exact ⟨by omega, by omega⟩) (fun c5 => ?_) (fun c5 => ?_)
          · refine Z_go (f2 := (77, [(4, .int (Zi ca)), (3, .ref (C_n s)), (0, .ref o), (1, .ref fb), (2, .int (Zi ((X2.length : Int))))], [.ref o])) (fun _ => rfl) ?_
            refine Z_go (f2 := (78, [(4, .int (Zi ca)), (3, .ref (C_n s)), (0, .ref o), (1, .ref fb), (2, .int (Zi ((X2.length : Int))))], [.ref o, .ref o])) (fun _ => rfl) ?_
            refine C_gi rfl hs ok2 (by decide) (Nat.le_of_ble_eq_true rfl) rfl ?_
            rw [show C_F (u2) o 3 = ca from (by first | exact oc2 | exact (if_neg (fun e => absurd e.1 (by assumption))).trans oc2 | exact (if_neg (fun e => absurd e.2 (by decide))).trans oc2 | exact (if_neg (fun e => absurd e.2 (by decide))).trans ((if_neg (fun e => absurd e.2 (by decide))).trans oc2) | exact (if_neg (fun e => absurd e.2 (by decide))).trans ((if_neg (fun e => absurd e.2 (by decide))).trans ((if_neg (fun e => absurd e.2 (by decide))).trans oc2)))]
            show B_R _ _ (81, [(4, .int (Zi ca)), (3, .ref (C_n s)), (0, .ref o), (1, .ref fb), (2, .int (Zi ((X2.length : Int))))], [.int (Zi ca), .ref o]) _ _ _
            refine Z_go (f2 := (82, [(4, .int (Zi ca)), (3, .ref (C_n s)), (0, .ref o), (1, .ref fb), (2, .int (Zi ((X2.length : Int))))], [.int (Zi 1), .int (Zi ca), .ref o])) (fun _ => rfl) ?_
            refine Z_iadd rfl ?_
            refine C_pi rfl hs ok2 (by decide) (Nat.le_of_ble_eq_true rfl) (.inl rfl) rfl rfl rfl (by first | exact hs.zF _ _ | exact Zor_r _ _ | exact hs.zA _ _ | assumption | exact zA _ _ | exact zS _ | exact Zr_not (hs.zA _ _) | exact hs.1.1 _ _ | exact ⟨by omega, by omega⟩) (fun h hs => ?_)
            refine Z_go (f2 := (87, [(4, .int (Zi ca)), (3, .ref (C_n s)), (0, .ref o), (1, .ref fb), (2, .int (Zi ((X2.length : Int))))], [.ref o])) (fun _ => rfl) ?_
            refine Z_go (f2 := (88, [(4, .int (Zi ca)), (3, .ref (C_n s)), (0, .ref o), (1, .ref fb), (2, .int (Zi ((X2.length : Int))))], [.ref o, .ref o])) (fun _ => rfl) ?_
            refine C_gi rfl hs ok2 (by decide) (Nat.le_of_ble_eq_true rfl) rfl ?_
            rw [show C_F (C_sF u2 o 3 (ca + 1)) o 4 = th from (by first | exact oh2 | exact (if_neg (fun e => absurd e.1 (by assumption))).trans oh2 | exact (if_neg (fun e => absurd e.2 (by decide))).trans oh2 | exact (if_neg (fun e => absurd e.2 (by decide))).trans ((if_neg (fun e => absurd e.2 (by decide))).trans oh2) | exact (if_neg (fun e => absurd e.2 (by decide))).trans ((if_neg (fun e => absurd e.2 (by decide))).trans ((if_neg (fun e => absurd e.2 (by decide))).trans oh2)))]
            show B_R _ _ (91, [(4, .int (Zi ca)), (3, .ref (C_n s)), (0, .ref o), (1, .ref fb), (2, .int (Zi ((X2.length : Int))))], [.int (Zi th), .ref o]) _ _ _
            refine Z_go (f2 := (92, [(4, .int (Zi ca)), (3, .ref (C_n s)), (0, .ref o), (1, .ref fb), (2, .int (Zi ((X2.length : Int))))], [.int (Zi 1), .int (Zi th), .ref o])) (fun _ => rfl) ?_
            refine Z_iadd rfl ?_
            refine C_pi rfl hs ok2 (by decide) (Nat.le_of_ble_eq_true rfl) (.inl rfl) rfl rfl rfl (by first | exact hs.zF _ _ | exact Zor_r _ _ | exact hs.zA _ _ | assumption | exact zA _ _ | exact zS _ | exact Zr_not (hs.zA _ _) | exact hs.1.1 _ _ | exact ⟨by omega, by omega⟩) (fun h hs => ?_)
            refine Z_go (f2 := (97, [(4, .int (Zi ca)), (3, .ref (C_n s)), (0, .ref o), (1, .ref fb), (2, .int (Zi ((X2.length : Int))))], [.ref o])) (fun _ => rfl) ?_
            refine Z_go (f2 := (98, [(4, .int (Zi ca)), (3, .ref (C_n s)), (0, .ref o), (1, .ref fb), (2, .int (Zi ((X2.length : Int))))], [.ref o, .ref o])) (fun _ => rfl) ?_
            refine C_gi rfl hs ok2 (by decide) (Nat.le_of_ble_eq_true rfl) rfl ?_
            rw [show C_F (C_sF (C_sF u2 o 3 (ca + 1)) o 4 (th + 1)) o 5 = tg from (by first | exact og2 | exact (if_neg (fun e => absurd e.1 (by assumption))).trans og2 | exact (if_neg (fun e => absurd e.2 (by decide))).trans og2 | exact (if_neg (fun e => absurd e.2 (by decide))).trans ((if_neg (fun e => absurd e.2 (by decide))).trans og2) | exact (if_neg (fun e => absurd e.2 (by decide))).trans ((if_neg (fun e => absurd e.2 (by decide))).trans ((if_neg (fun e => absurd e.2 (by decide))).trans og2)))]
            show B_R _ _ (101, [(4, .int (Zi ca)), (3, .ref (C_n s)), (0, .ref o), (1, .ref fb), (2, .int (Zi ((X2.length : Int))))], [.int (Zi tg), .ref o]) _ _ _
            refine Z_go (f2 := (102, [(4, .int (Zi ca)), (3, .ref (C_n s)), (0, .ref o), (1, .ref fb), (2, .int (Zi ((X2.length : Int))))], [.int (Zi ((X2.length : Int))), .int (Zi tg), .ref o])) (fun _ => rfl) ?_
            refine Z_iadd rfl ?_
            refine C_pi rfl hs ok2 (by decide) (Nat.le_of_ble_eq_true rfl) (.inl rfl) rfl rfl rfl (by first | exact hs.zF _ _ | exact Zor_r _ _ | exact hs.zA _ _ | assumption | exact zA _ _ | exact zS _ | exact Zr_not (hs.zA _ _) | exact hs.1.1 _ _ | exact ⟨by omega, by omega⟩) (fun h hs => ?_)
            refine Z_go (f2 := (108, [(4, .int (Zi ca)), (3, .ref (C_n s)), (0, .ref o), (1, .ref fb), (2, .int (Zi ((X2.length : Int))))], [.int (Zi ca)])) (fun _ => rfl) ?_
            refine Z_iret rfl rfl (by first | rfl | decide | exact narrow_b01 (by omega)) ⟨_, hs, ?_⟩
            try dsimp only
            exfalso; omega
          · refine Z_go (f2 := (69, [(4, .int (Zi ca)), (3, .ref (C_n s)), (0, .ref o), (1, .ref fb), (2, .int (Zi ((X2.length : Int))))], [.ref o])) (fun _ => rfl) ?_
            refine C_gr rfl hs ok2 (by decide) (Nat.le_of_ble_eq_true rfl) rfl oe2 ?_
            refine Z_go (f2 := (74, [(4, .int (Zi ca)), (3, .ref (C_n s)), (0, .ref o), (1, .ref fb), (2, .int (Zi ((X2.length : Int))))], [.int (Zi ca), .ref ea])) (fun _ => rfl) ?_
            refine Z_go (f2 := (75, [(4, .int (Zi ca)), (3, .ref (C_n s)), (0, .ref o), (1, .ref fb), (2, .int (Zi ((X2.length : Int))))], [.ref (C_n s), .int (Zi ca), .ref ea])) (fun _ => rfl) ?_
            refine C_as rfl hs ek2 (by decide) (by decide) (by omega) (by omega) (by first | exact es1.1 | exact y1.1) (by decide) ⟨_, _, _, rfl, rfl⟩ (fun h hs => ?_)
            refine Z_go (f2 := (77, [(4, .int (Zi ca)), (3, .ref (C_n s)), (0, .ref o), (1, .ref fb), (2, .int (Zi ((X2.length : Int))))], [.ref o])) (fun _ => rfl) ?_
            refine Z_go (f2 := (78, [(4, .int (Zi ca)), (3, .ref (C_n s)), (0, .ref o), (1, .ref fb), (2, .int (Zi ((X2.length : Int))))], [.ref o, .ref o])) (fun _ => rfl) ?_
            refine C_gi rfl hs ok2 (by decide) (Nat.le_of_ble_eq_true rfl) rfl ?_
            rw [show C_F (C_sQ u2 ea ca (some (C_n s))) o 3 = ca from (by first | exact oc2 | exact (if_neg (fun e => absurd e.1 (by assumption))).trans oc2 | exact (if_neg (fun e => absurd e.2 (by decide))).trans oc2 | exact (if_neg (fun e => absurd e.2 (by decide))).trans ((if_neg (fun e => absurd e.2 (by decide))).trans oc2) | exact (if_neg (fun e => absurd e.2 (by decide))).trans ((if_neg (fun e => absurd e.2 (by decide))).trans ((if_neg (fun e => absurd e.2 (by decide))).trans oc2)))]
            show B_R _ _ (81, [(4, .int (Zi ca)), (3, .ref (C_n s)), (0, .ref o), (1, .ref fb), (2, .int (Zi ((X2.length : Int))))], [.int (Zi ca), .ref o]) _ _ _
            refine Z_go (f2 := (82, [(4, .int (Zi ca)), (3, .ref (C_n s)), (0, .ref o), (1, .ref fb), (2, .int (Zi ((X2.length : Int))))], [.int (Zi 1), .int (Zi ca), .ref o])) (fun _ => rfl) ?_
            refine Z_iadd rfl ?_
            refine C_pi rfl hs ok2 (by decide) (Nat.le_of_ble_eq_true rfl) (.inl rfl) rfl rfl rfl (by first | exact hs.zF _ _ | exact Zor_r _ _ | exact hs.zA _ _ | assumption | exact zA _ _ | exact zS _ | exact Zr_not (hs.zA _ _) | exact hs.1.1 _ _ | exact ⟨by omega, by omega⟩) (fun h hs => ?_)
            refine Z_go (f2 := (87, [(4, .int (Zi ca)), (3, .ref (C_n s)), (0, .ref o), (1, .ref fb), (2, .int (Zi ((X2.length : Int))))], [.ref o])) (fun _ => rfl) ?_
            refine Z_go (f2 := (88, [(4, .int (Zi ca)), (3, .ref (C_n s)), (0, .ref o), (1, .ref fb), (2, .int (Zi ((X2.length : Int))))], [.ref o, .ref o])) (fun _ => rfl) ?_
            refine C_gi rfl hs ok2 (by decide) (Nat.le_of_ble_eq_true rfl) rfl ?_
            rw [show C_F (C_sF (C_sQ u2 ea ca (some (C_n s))) o 3 (ca + 1)) o 4 = th from (by first | exact oh2 | exact (if_neg (fun e => absurd e.1 (by assumption))).trans oh2 | exact (if_neg (fun e => absurd e.2 (by decide))).trans oh2 | exact (if_neg (fun e => absurd e.2 (by decide))).trans ((if_neg (fun e => absurd e.2 (by decide))).trans oh2) | exact (if_neg (fun e => absurd e.2 (by decide))).trans ((if_neg (fun e => absurd e.2 (by decide))).trans ((if_neg (fun e => absurd e.2 (by decide))).trans oh2)))]
            show B_R _ _ (91, [(4, .int (Zi ca)), (3, .ref (C_n s)), (0, .ref o), (1, .ref fb), (2, .int (Zi ((X2.length : Int))))], [.int (Zi th), .ref o]) _ _ _
            refine Z_go (f2 := (92, [(4, .int (Zi ca)), (3, .ref (C_n s)), (0, .ref o), (1, .ref fb), (2, .int (Zi ((X2.length : Int))))], [.int (Zi 1), .int (Zi th), .ref o])) (fun _ => rfl) ?_
            refine Z_iadd rfl ?_
            refine C_pi rfl hs ok2 (by decide) (Nat.le_of_ble_eq_true rfl) (.inl rfl) rfl rfl rfl (by first | exact hs.zF _ _ | exact Zor_r _ _ | exact hs.zA _ _ | assumption | exact zA _ _ | exact zS _ | exact Zr_not (hs.zA _ _) | exact hs.1.1 _ _ | exact ⟨by omega, by omega⟩) (fun h hs => ?_)
            refine Z_go (f2 := (97, [(4, .int (Zi ca)), (3, .ref (C_n s)), (0, .ref o), (1, .ref fb), (2, .int (Zi ((X2.length : Int))))], [.ref o])) (fun _ => rfl) ?_
            refine Z_go (f2 := (98, [(4, .int (Zi ca)), (3, .ref (C_n s)), (0, .ref o), (1, .ref fb), (2, .int (Zi ((X2.length : Int))))], [.ref o, .ref o])) (fun _ => rfl) ?_
            refine C_gi rfl hs ok2 (by decide) (Nat.le_of_ble_eq_true rfl) rfl ?_
            rw [show C_F (C_sF (C_sF (C_sQ u2 ea ca (some (C_n s))) o 3 (ca + 1)) o 4 (th + 1)) o 5 = tg from (by first | exact og2 | exact (if_neg (fun e => absurd e.1 (by assumption))).trans og2 | exact (if_neg (fun e => absurd e.2 (by decide))).trans og2 | exact (if_neg (fun e => absurd e.2 (by decide))).trans ((if_neg (fun e => absurd e.2 (by decide))).trans og2) | exact (if_neg (fun e => absurd e.2 (by decide))).trans ((if_neg (fun e => absurd e.2 (by decide))).trans ((if_neg (fun e => absurd e.2 (by decide))).trans og2)))]
            show B_R _ _ (101, [(4, .int (Zi ca)), (3, .ref (C_n s)), (0, .ref o), (1, .ref fb), (2, .int (Zi ((X2.length : Int))))], [.int (Zi tg), .ref o]) _ _ _
            refine Z_go (f2 := (102, [(4, .int (Zi ca)), (3, .ref (C_n s)), (0, .ref o), (1, .ref fb), (2, .int (Zi ((X2.length : Int))))], [.int (Zi ((X2.length : Int))), .int (Zi tg), .ref o])) (fun _ => rfl) ?_
            refine Z_iadd rfl ?_
            refine C_pi rfl hs ok2 (by decide) (Nat.le_of_ble_eq_true rfl) (.inl rfl) rfl rfl rfl (by first | exact hs.zF _ _ | exact Zor_r _ _ | exact hs.zA _ _ | assumption | exact zA _ _ | exact zS _ | exact Zr_not (hs.zA _ _) | exact hs.1.1 _ _ | exact ⟨by omega, by omega⟩) (fun h hs => ?_)
            refine Z_go (f2 := (108, [(4, .int (Zi ca)), (3, .ref (C_n s)), (0, .ref o), (1, .ref fb), (2, .int (Zi ((X2.length : Int))))], [.int (Zi ca)])) (fun _ => rfl) ?_
            refine Z_iret rfl rfl (by first | rfl | decide | exact narrow_b01 (by omega)) ⟨_, hs, ?_⟩
            try dsimp only
            have hA := hd0.add (L := X2.length) w hs0 frB y1 hx2 (by omega) (Nat.le_refl _) (by omega) (y3 := ca + 1) (y4 := th + 1) (y5 := tg + X2.length) rfl rfl rfl
            have en2 : C_n (C_new s (8, 0) (p ++ [C_n s])) = C_n s + 1 := rfl
            have en3 : C_n (C_new s (0 + 8, 0) (p ++ [C_n s])) = C_n s + 1 := rfl
            refine ⟨by show 0 + 2 + n1 + n2 ≤ 6000; omega, by show C_n s ≤ C_n u2; omega, by show C_n u2 ≤ _; omega, ?_, hA.2, ca, rfl, .inr ⟨rfl, by omega, hA.1⟩⟩
            have tO : C_T u2 o = p := (frB.2.1 o lo).2.trans ot
            exact ((((frB.weak (Y := fun t => p <+: t) (fun t h => L_pre_p h)).sQ (by rw [(frB.2.1 ea lea).2, et]; exact L_pre_self p)).sF (by show p <+: C_T u2 o; rw [tO]; exact L_pre_self p)).sF (by show p <+: C_T u2 o; rw [tO]; exact L_pre_self p)).sF (by show p <+: C_T u2 o; rw [tO]; exact L_pre_self p)
      · refine Z_go (f2 := (32, [(0, .ref o), (1, .ref fb), (2, .int (Zi ((X2.length : Int))))], [.int (Zi (-1))])) (fun _ => rfl) ?_
        refine Z_iret rfl rfl (by first | rfl | decide | exact narrow_b01 (by omega)) ⟨_, hs, ?_⟩
        try dsimp only
        exact ⟨by omega, by omega, by omega, C_fr.refl _ _, rfl, -1, rfl, .inl ⟨rfl, rfl, by omega⟩⟩
