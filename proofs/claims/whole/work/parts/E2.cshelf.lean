/-! the class: Shelf: its files; find, exchange, drop -/
def D_s0 (s : C_S) (p : List Nat) (o ea u v : Nat) (ca th tg : Int) : Prop := C_K s o = (16, 0) ∧ C_T s o = p ∧ C_P s o 0 = some ea ∧ C_P s o 1 = some u ∧ C_P s o 2 = some v ∧ C_K s ea = (6, 200) ∧ C_T s ea = p ∧ C_F s o 3 = ca ∧ C_F s o 4 = th ∧ C_F s o 5 = tg ∧ 0 ≤ ca ∧ ca ≤ 200 ∧ u ≠ v
def D_s1 (s : C_S) (p : List Nat) (ea : Nat) (fs : Int → Option (List Int)) (i : Int) : Prop := (C_Q s ea i = none ∧ fs i = none) ∨ ∃ e ba g a cap X, C_Q s ea i = some e ∧ fs i = some X ∧ D_En s (p ++ [e]) e ba g a cap X ∧ X.length ≤ 1000 ∧ cap ≤ 2008
def D_s2 (s : C_S) (p : List Nat) (u : Nat) : Prop := ∃ a c xs, D_Row s (p ++ [u]) u a c xs ∧ c ≤ 33000
/-- the shelf at o -/
def D_Sh (s : C_S) (p : List Nat) (o ea u v : Nat) (fs : Int → Option (List Int)) (ca th tg : Int) : Prop := D_s0 s p o ea u v ca th tg ∧ (∀ i : Int, 0 ≤ i → i < ca → D_s1 s p ea fs i) ∧ (∀ i j : Int, 0 ≤ i → i < ca → 0 ≤ j → j < ca → ∀ e, C_Q s ea i = some e → C_Q s ea j = some e → i = j) ∧ D_s2 s p u ∧ D_s2 s p v
def D_ps (s : C_S) (o : Nat) : Nat := C_rw s (C_P s o 1) + C_rw s (C_P s o 2)
theorem D_s2.fr {Z : List Nat → Prop} {s s2 : C_S} {p : List Nat} {u : Nat} (h : D_s2 s p u) (w : C_wf s) (k : C_fr Z s s2) (hZ : ¬ Z (p ++ [u])) : D_s2 s2 p u ∧ C_rw s2 (some u) = C_rw s (some u) := by
  obtain ⟨a, c, xs, h1, h2⟩ := h
  exact ⟨⟨a, c, xs, h1.fr w k hZ, h2⟩, by rw [(h1.fr w k hZ).rw, h1.rw]⟩
theorem D_s1.fr {Z : List Nat → Prop} {s s2 : C_S} {p : List Nat} {ea : Nat} {fs : Int → Option (List Int)} {i : Int} (h : D_s1 s p ea fs i) (w : C_wf s) (k : C_fr Z s s2) (hZ : ∀ e, C_Q s ea i = some e → ∀ t, p ++ [e] <+: t → ¬ Z t) (hq : C_Q s2 ea i = C_Q s ea i) : D_s1 s2 p ea fs i := by
  rcases h with ⟨h1, h2⟩ | ⟨e, ba, g, a, cap, X, h1, h2, h3, h4⟩
  · exact .inl ⟨by rw [hq]; exact h1, h2⟩
  · exact .inr ⟨e, ba, g, a, cap, X, by rw [hq]; exact h1, h2, h3.fr w k (hZ e h1), h4⟩
theorem L_pre_no {p t : List Nat} {e f : Nat} (h : e ≠ f) (h1 : p ++ [e] <+: t) : ¬ p ++ [f] <+: t := by
  rintro ⟨b, h2⟩
  obtain ⟨a, rfl⟩ := h1
  rw [List.append_assoc, List.append_assoc] at h2
  have := List.append_cancel_left h2
  exact h (List.cons.inj this).1.symm
theorem L_pre_p {p t : List Nat} {e : Nat} (h1 : p ++ [e] <+: t) : p <+: t := (L_pre_one p e).trans h1
theorem L_pre_ne {p t : List Nat} {e : Nat} (h1 : p ++ [e] <+: t) : t ≠ p := by
  rintro rfl
  obtain ⟨a, h⟩ := h1
  have := congrArg List.length h
  simp at this
theorem D_Sh.fr {Z : List Nat → Prop} {s s2 : C_S} {p : List Nat} {o ea u v : Nat} {fs : Int → Option (List Int)} {ca th tg : Int} (h : D_Sh s p o ea u v fs ca th tg) (w : C_wf s) (k : C_fr Z s s2) (hZ : ∀ t, p <+: t → ¬ Z t) : D_Sh s2 p o ea u v fs ca th tg ∧ D_ps s2 o = D_ps s o := by
  obtain ⟨⟨h1, h2, h3, h4, h5, h6, h7, h8, h9, h10, h11⟩, g1, g2, g3, g4⟩ := h
  have lo := C_lt w h1 (show 16 < 20 by decide)
  have le := C_lt w h6 (show 6 < 20 by decide)
  have nz := hZ p (L_pre_self p)
  obtain ⟨e1, e2, e3, e4, e5⟩ := k.2.2.1 o lo (by rw [h2]; exact nz)
  obtain ⟨b1, b2, b3, b4, b5⟩ := k.2.2.1 ea le (by rw [h7]; exact nz)
  have g3 := g3.fr w k (hZ _ (L_pre_one p u))
  have g4 := g4.fr w k (hZ _ (L_pre_one p v))
  refine ⟨⟨⟨by rw [(k.2.1 o lo).1]; exact h1, by rw [(k.2.1 o lo).2]; exact h2, by rw [e2]; exact h3, by rw [e2]; exact h4, by rw [e2]; exact h5, by rw [(k.2.1 ea le).1]; exact h6, by rw [(k.2.1 ea le).2]; exact h7, by rw [e1]; exact h8, by rw [e1]; exact h9, by rw [e1]; exact h10, h11⟩, fun i i0 i1 => (g1 i i0 i1).fr w k (fun e _ t ht => hZ t (L_pre_p ht)) (by rw [b5]), fun i j i0 i1 j0 j1 e q1 q2 => ?_, g3.1, g4.1⟩, ?_⟩
  · rw [b5] at q1 q2
    exact g2 i j i0 i1 j0 j1 e q1 q2
  · unfold D_ps
    rw [e2, h4, h5, g3.2, g4.2]
def D_isf (fs : Int → Option (List Int)) (ca f : Int) (X : List Int) : Prop := 0 ≤ f ∧ f < ca ∧ fs f = some X
theorem D_Sh.one {s : C_S} {p : List Nat} {o ea u v : Nat} {fs : Int → Option (List Int)} {ca th tg : Int} (hd : D_Sh s p o ea u v fs ca th tg) (f : Int) : (∃ e ba g a cap X, D_isf fs ca f X ∧ C_Q s ea f = some e ∧ D_En s (p ++ [e]) e ba g a cap X ∧ X.length ≤ 1000 ∧ cap ≤ 2008) ∨ ((f < 0 ∨ ca ≤ f ∨ C_Q s ea f = none) ∧ ∀ X, ¬ D_isf fs ca f X) := by
  by_cases c : 0 ≤ f ∧ f < ca
  · rcases hd.2.1 f c.1 c.2 with ⟨h1, h2⟩ | ⟨e, ba, g, a, cap, X, h1, h2, h3, h4, h5⟩
    · refine .inr ⟨.inr (.inr h1), fun X h => ?_⟩
      rw [h.2.2] at h2
      cases h2
    · exact .inl ⟨e, ba, g, a, cap, X, ⟨c.1, c.2, h2⟩, h1, h3, h4, h5⟩
  · exact .inr ⟨by omega, fun X h => c ⟨h.1, h.2.1⟩⟩
theorem C_find1 (d : Nat) {s : C_S} {p : List Nat} {o ea u v : Nat} {fs : Int → Option (List Int)} {ca th tg : Int} {f : Int} {e : Nat} (hd : D_Sh s p o ea u v fs ca th tg) (f0 : 0 ≤ f) (f1 : f < ca) (hq : C_Q s ea f = some e) : C_rd (d + 1) 101 [.ref o, .int (Zi f)] s (fun x => x = some (.ref e)) := by
  refine C_enterR (M := E_m101) rfl (Nat.le_of_ble_eq_true rfl) (fun h0 h hs => ?_)
  show B_R (d + 0) _ (0, [(0, .ref o), (1, .int (Zi f))], []) _ _ _
  have hd0 := hd
  have w := hs.1
  obtain ⟨⟨ok, ot, oe, ou, ov, ek, et, oc, oh, og, ca0, ca1, uv⟩, g1, g2, g3, g4⟩ := hd
  have zc : Zr ca := ⟨by omega, by omega⟩
  have zf : Zr f := ⟨by omega, by omega⟩
  refine Z_go (f2 := (1, [(0, .ref o), (1, .int (Zi f))], [.int (Zi f)])) (fun _ => rfl) ?_
  refine Z_ilt rfl rfl (by first | exact hs.zF _ _ | exact Zor_r _ _ | exact hs.zA _ _ | assumption | exact zA _ _ | exact zS _ | exact Zr_not (hs.zA _ _) | exact hs.1.1 _ _ | exact ⟨by omega, by omega⟩) (fun c1 => ?_) (fun c1 => ?_)
  · refine Z_go (f2 := (31, [(0, .ref o), (1, .int (Zi f))], [.null])) (fun _ => rfl) ?_
    refine C_nret rfl rfl ⟨rfl, rfl, ?_⟩
    try dsimp only
    exfalso; omega
  · refine Z_go (f2 := (5, [(0, .ref o), (1, .int (Zi f))], [.int (Zi f)])) (fun _ => rfl) ?_
    refine Z_go (f2 := (6, [(0, .ref o), (1, .int (Zi f))], [.ref o, .int (Zi f)])) (fun _ => rfl) ?_
    refine C_gi rfl hs ok (by decide) (Nat.le_of_ble_eq_true rfl) rfl ?_
    rw [show C_F (s) o 3 = ca from (by first | exact oc | exact (if_neg (fun e => absurd e.1 (by assumption))).trans oc | exact (if_neg (fun e => absurd e.2 (by decide))).trans oc | exact (if_neg (fun e => absurd e.2 (by decide))).trans ((if_neg (fun e => absurd e.2 (by decide))).trans oc) | exact (if_neg (fun e => absurd e.2 (by decide))).trans ((if_neg (fun e => absurd e.2 (by decide))).trans ((if_neg (fun e => absurd e.2 (by decide))).trans oc)))]
    show B_R _ _ (9, [(0, .ref o), (1, .int (Zi f))], [.int (Zi ca), .int (Zi f)]) _ _ _
    refine Z_cge rfl rfl (by first | exact hs.zF _ _ | exact Zor_r _ _ | exact hs.zA _ _ | assumption | exact zA _ _ | exact zS _ | exact Zr_not (hs.zA _ _) | exact hs.1.1 _ _ | exact ⟨by omega, by omega⟩) (by first | exact hs.zF _ _ | exact Zor_r _ _ | exact hs.zA _ _ | assumption | exact zA _ _ | exact zS _ | exact Zr_not (hs.zA _ _) | exact hs.1.1 _ _ | exact ⟨by omega, by omega⟩) (fun c2 => ?_) (fun c2 => ?_)
    · refine Z_go (f2 := (31, [(0, .ref o), (1, .int (Zi f))], [.null])) (fun _ => rfl) ?_
      refine C_nret rfl rfl ⟨rfl, rfl, ?_⟩
      try dsimp only
      exfalso; omega
    · refine Z_go (f2 := (13, [(0, .ref o), (1, .int (Zi f))], [.int (Zi f)])) (fun _ => rfl) ?_
      refine Z_go (f2 := (14, [(0, .ref o), (1, .int (Zi f))], [.ref o, .int (Zi f)])) (fun _ => rfl) ?_
      refine C_gr rfl hs ok (by decide) (Nat.le_of_ble_eq_true rfl) rfl oe ?_
      refine C_al rfl hs ek (by decide) ?_
      show B_R _ _ (18, [(0, .ref o), (1, .int (Zi f))], [.int (Zi 200), .int (Zi f)]) _ _ _
      refine Z_cge rfl rfl (by first | exact hs.zF _ _ | exact Zor_r _ _ | exact hs.zA _ _ | assumption | exact zA _ _ | exact zS _ | exact Zr_not (hs.zA _ _) | exact hs.1.1 _ _ | exact ⟨by omega, by omega⟩) (by first | exact hs.zF _ _ | exact Zor_r _ _ | exact hs.zA _ _ | assumption | exact zA _ _ | exact zS _ | exact Zr_not (hs.zA _ _) | exact hs.1.1 _ _ | exact ⟨by omega, by omega⟩) (fun c3 => ?_) (fun c3 => ?_)
      · refine Z_go (f2 := (31, [(0, .ref o), (1, .int (Zi f))], [.null])) (fun _ => rfl) ?_
        refine C_nret rfl rfl ⟨rfl, rfl, ?_⟩
        try dsimp only
        exfalso; omega
      · refine Z_go (f2 := (22, [(0, .ref o), (1, .int (Zi f))], [.ref o])) (fun _ => rfl) ?_
        refine C_gr rfl hs ok (by decide) (Nat.le_of_ble_eq_true rfl) rfl oe ?_
        refine Z_go (f2 := (26, [(0, .ref o), (1, .int (Zi f))], [.int (Zi f), .ref ea])) (fun _ => rfl) ?_
        refine C_aq rfl hs ek (by decide) (by decide) (by omega) (by omega) hq ?_
        show B_R _ _ (27, [(0, .ref o), (1, .int (Zi f))], [.ref e]) _ _ _
        refine Z_go (f2 := (31, [(0, .ref o), (1, .int (Zi f))], [.ref e])) (fun _ => rfl) ?_
        refine C_aret rfl (by first | exact .inl ⟨_, rfl⟩ | exact .inr ⟨_, rfl⟩) ⟨rfl, rfl, ?_⟩
        try dsimp only
        try rfl
theorem C_find0 (d : Nat) {s : C_S} {p : List Nat} {o ea u v : Nat} {fs : Int → Option (List Int)} {ca th tg : Int} {f : Int} (hd : D_Sh s p o ea u v fs ca th tg) (hn : f < 0 ∨ ca ≤ f ∨ C_Q s ea f = none) (zf : Zr f) : C_rd (d + 1) 101 [.ref o, .int (Zi f)] s (fun x => x = some .null) := by
  refine C_enterR (M := E_m101) rfl (Nat.le_of_ble_eq_true rfl) (fun h0 h hs => ?_)
  show B_R (d + 0) _ (0, [(0, .ref o), (1, .int (Zi f))], []) _ _ _
  have hd0 := hd
  have w := hs.1
  obtain ⟨⟨ok, ot, oe, ou, ov, ek, et, oc, oh, og, ca0, ca1, uv⟩, g1, g2, g3, g4⟩ := hd
  have zc : Zr ca := ⟨by omega, by omega⟩
  refine Z_go (f2 := (1, [(0, .ref o), (1, .int (Zi f))], [.int (Zi f)])) (fun _ => rfl) ?_
  refine Z_ilt rfl rfl (by first | exact hs.zF _ _ | exact Zor_r _ _ | exact hs.zA _ _ | assumption | exact zA _ _ | exact zS _ | exact Zr_not (hs.zA _ _) | exact hs.1.1 _ _ | exact ⟨by omega, by omega⟩) (fun c1 => ?_) (fun c1 => ?_)
  · refine Z_go (f2 := (31, [(0, .ref o), (1, .int (Zi f))], [.null])) (fun _ => rfl) ?_
    refine C_nret rfl rfl ⟨rfl, rfl, ?_⟩
    try dsimp only
    try rfl
  · refine Z_go (f2 := (5, [(0, .ref o), (1, .int (Zi f))], [.int (Zi f)])) (fun _ => rfl) ?_
    refine Z_go (f2 := (6, [(0, .ref o), (1, .int (Zi f))], [.ref o, .int (Zi f)])) (fun _ => rfl) ?_
    refine C_gi rfl hs ok (by decide) (Nat.le_of_ble_eq_true rfl) rfl ?_
    rw [show C_F (s) o 3 = ca from (by first | exact oc | exact (if_neg (fun e => absurd e.1 (by assumption))).trans oc | exact (if_neg (fun e => absurd e.2 (by decide))).trans oc | exact (if_neg (fun e => absurd e.2 (by decide))).trans ((if_neg (fun e => absurd e.2 (by decide))).trans oc) | exact (if_neg (fun e => absurd e.2 (by decide))).trans ((if_neg (fun e => absurd e.2 (by decide))).trans ((if_neg (fun e => absurd e.2 (by decide))).trans oc)))]
    show B_R _ _ (9, [(0, .ref o), (1, .int (Zi f))], [.int (Zi ca), .int (Zi f)]) _ _ _
    refine Z_cge rfl rfl (by first | exact hs.zF _ _ | exact Zor_r _ _ | exact hs.zA _ _ | assumption | exact zA _ _ | exact zS _ | exact Zr_not (hs.zA _ _) | exact hs.1.1 _ _ | exact ⟨by omega, by omega⟩) (by first | exact hs.zF _ _ | exact Zor_r _ _ | exact hs.zA _ _ | assumption | exact zA _ _ | exact zS _ | exact Zr_not (hs.zA _ _) | exact hs.1.1 _ _ | exact ⟨by omega, by omega⟩) (fun c2 => ?_) (fun c2 => ?_)
    · refine Z_go (f2 := (31, [(0, .ref o), (1, .int (Zi f))], [.null])) (fun _ => rfl) ?_
      refine C_nret rfl rfl ⟨rfl, rfl, ?_⟩
      try dsimp only
      try rfl
    · refine Z_go (f2 := (13, [(0, .ref o), (1, .int (Zi f))], [.int (Zi f)])) (fun _ => rfl) ?_
      refine Z_go (f2 := (14, [(0, .ref o), (1, .int (Zi f))], [.ref o, .int (Zi f)])) (fun _ => rfl) ?_
      refine C_gr rfl hs ok (by decide) (Nat.le_of_ble_eq_true rfl) rfl oe ?_
      refine C_al rfl hs ek (by decide) ?_
      show B_R _ _ (18, [(0, .ref o), (1, .int (Zi f))], [.int (Zi 200), .int (Zi f)]) _ _ _
      refine Z_cge rfl rfl (by first | exact hs.zF _ _ | exact Zor_r _ _ | exact hs.zA _ _ | assumption | exact zA _ _ | exact zS _ | exact Zr_not (hs.zA _ _) | exact hs.1.1 _ _ | exact ⟨by omega, by omega⟩) (by first | exact hs.zF _ _ | exact Zor_r _ _ | exact hs.zA _ _ | assumption | exact zA _ _ | exact zS _ | exact Zr_not (hs.zA _ _) | exact hs.1.1 _ _ | exact ⟨by omega, by omega⟩) (fun c3 => ?_) (fun c3 => ?_)
      · refine Z_go (f2 := (31, [(0, .ref o), (1, .int (Zi f))], [.null])) (fun _ => rfl) ?_
        refine C_nret rfl rfl ⟨rfl, rfl, ?_⟩
        try dsimp only
        try rfl
      · have hq : C_Q s ea f = none := by
            rcases hn with hn | hn | hn
            · exfalso; omega
            · exfalso; omega
            · exact hn
        refine Z_go (f2 := (22, [(0, .ref o), (1, .int (Zi f))], [.ref o])) (fun _ => rfl) ?_
        refine C_gr rfl hs ok (by decide) (Nat.le_of_ble_eq_true rfl) rfl oe ?_
        refine Z_go (f2 := (26, [(0, .ref o), (1, .int (Zi f))], [.int (Zi f), .ref ea])) (fun _ => rfl) ?_
        refine C_aq rfl hs ek (by decide) (by decide) (by omega) (by omega) hq ?_
        show B_R _ _ (27, [(0, .ref o), (1, .int (Zi f))], [.null]) _ _ _
        refine Z_go (f2 := (31, [(0, .ref o), (1, .int (Zi f))], [.null])) (fun _ => rfl) ?_
        refine C_nret rfl rfl ⟨rfl, rfl, ?_⟩
        try dsimp only
        try rfl
theorem C_drop (d : Nat) {s : C_S} {p : List Nat} {o ea u v : Nat} {fs : Int → Option (List Int)} {ca th tg : Int} {f : Int} (hd : D_Sh s p o ea u v fs ca th tg) (t0 : 0 ≤ th) (t1 : th ≤ 40) (b0 : 0 ≤ tg) (b1 : tg ≤ 16000) (zf : Zr f) : C_ok (d + 2) 104 [.ref o, .int (Zi f)] s (fun x s2 n => n = 0 ∧ C_n s2 = C_n s ∧ C_fr (fun t => p <+: t) s s2 ∧ D_ps s2 o = D_ps s o ∧ ∃ z : Int, x = some (.int (Zi z)) ∧ (z = 0 ∧ s2 = s ∧ (∀ X, ¬ D_isf fs ca f X) ∨ z = 1 ∧ ∃ X, D_isf fs ca f X ∧ D_Sh s2 p o ea u v (fun i => if i = f then none else fs i) ca (th - 1) (tg - X.length))) := by
  refine C_enter (M := E_m104) rfl (Nat.le_of_ble_eq_true rfl) (fun h0 h hs => ?_)
  show B_R (d + 1) _ (0, [(0, .ref o), (1, .int (Zi f))], []) _ _ _
  have hd0 := hd
  have w := hs.1
  obtain ⟨⟨ok, ot, oe, ou, ov, ek, et, oc, oh, og, ca0, ca1, uv⟩, g1, g2, g3, g4⟩ := hd
  rcases hd0.one f with ⟨e, ba, g, a, cap, X, hi, hq, he, hx, hcap⟩ | ⟨hn, hno⟩
  · have i0 := hi.1
    have i1 := hi.2.1
    have zX : (X.length : Int) ≤ 1000 := by omega
    have lE := C_lt w he.1 (show 8 < 20 by decide)
    refine Z_go (f2 := (1, [(0, .ref o), (1, .int (Zi f))], [.ref o])) (fun _ => rfl) ?_
    refine Z_go (f2 := (2, [(0, .ref o), (1, .int (Zi f))], [.int (Zi f), .ref o])) (fun _ => rfl) ?_
    refine C_callVR (As := [.int (Zi f)]) (rest := []) rfl (by decide) rfl (by decide) rfl rfl (by decide +kernel) (Nat.le_of_ble_eq_true rfl) hs ok (C_find1 _ hd0 (by omega) (by omega) hq) (fun x q => ?_)
    obtain rfl := q
    show B_R _ _ (5, [(0, .ref o), (1, .int (Zi f))], [.ref e]) _ _ _
    refine Z_go (f2 := (6, [(2, .ref e), (0, .ref o), (1, .int (Zi f))], [])) (fun _ => rfl) ?_
    refine Z_go (f2 := (7, [(2, .ref e), (0, .ref o), (1, .int (Zi f))], [.ref e])) (fun _ => rfl) ?_
    refine Z_go (f2 := (10, [(2, .ref e), (0, .ref o), (1, .int (Zi f))], [])) (fun _ => rfl) ?_
    refine Z_go (f2 := (11, [(2, .ref e), (0, .ref o), (1, .int (Zi f))], [.int (Zi f)])) (fun _ => rfl) ?_
    refine Z_ilt rfl rfl (by first | exact hs.zF _ _ | exact Zor_r _ _ | exact hs.zA _ _ | assumption | exact zA _ _ | exact zS _ | exact Zr_not (hs.zA _ _) | exact hs.1.1 _ _ | exact ⟨by omega, by omega⟩) (fun c1 => ?_) (fun c1 => ?_)
    · refine Z_go (f2 := (24, [(2, .ref e), (0, .ref o), (1, .int (Zi f))], [.int (Zi 0)])) (fun _ => rfl) ?_
      refine Z_iret rfl rfl (by first | rfl | decide | exact narrow_b01 (by omega)) ⟨_, hs, ?_⟩
      try dsimp only
      exfalso; omega
    · refine Z_go (f2 := (15, [(2, .ref e), (0, .ref o), (1, .int (Zi f))], [.int (Zi f)])) (fun _ => rfl) ?_
      refine Z_go (f2 := (16, [(2, .ref e), (0, .ref o), (1, .int (Zi f))], [.ref o, .int (Zi f)])) (fun _ => rfl) ?_
      refine C_gr rfl hs ok (by decide) (Nat.le_of_ble_eq_true rfl) rfl oe ?_
      refine C_al rfl hs ek (by decide) ?_
      show B_R _ _ (20, [(2, .ref e), (0, .ref o), (1, .int (Zi f))], [.int (Zi 200), .int (Zi f)]) _ _ _
      refine Z_clt rfl rfl (by first | exact hs.zF _ _ | exact Zor_r _ _ | exact hs.zA _ _ | assumption | exact zA _ _ | exact zS _ | exact Zr_not (hs.zA _ _) | exact hs.1.1 _ _ | exact ⟨by omega, by omega⟩) (by first | exact hs.zF _ _ | exact Zor_r _ _ | exact hs.zA _ _ | assumption | exact zA _ _ | exact zS _ | exact Zr_not (hs.zA _ _) | exact hs.1.1 _ _ | exact ⟨by omega, by omega⟩) (fun c2 => ?_) (fun c2 => ?_)
      · refine Z_go (f2 := (26, [(2, .ref e), (0, .ref o), (1, .int (Zi f))], [.ref o])) (fun _ => rfl) ?_
        refine Z_go (f2 := (27, [(2, .ref e), (0, .ref o), (1, .int (Zi f))], [.ref o, .ref o])) (fun _ => rfl) ?_
        refine C_gi rfl hs ok (by decide) (Nat.le_of_ble_eq_true rfl) rfl ?_
        rw [show C_F (s) o 5 = tg from (by first | exact og | exact (if_neg (fun e => absurd e.1 (by assumption))).trans og | exact (if_neg (fun e => absurd e.2 (by decide))).trans og | exact (if_neg (fun e => absurd e.2 (by decide))).trans ((if_neg (fun e => absurd e.2 (by decide))).trans og) | exact (if_neg (fun e => absurd e.2 (by decide))).trans ((if_neg (fun e => absurd e.2 (by decide))).trans ((if_neg (fun e => absurd e.2 (by decide))).trans og)))]
        show B_R _ _ (30, [(2, .ref e), (0, .ref o), (1, .int (Zi f))], [.int (Zi tg), .ref o]) _ _ _
        refine Z_go (f2 := (31, [(2, .ref e), (0, .ref o), (1, .int (Zi f))], [.ref e, .int (Zi tg), .ref o])) (fun _ => rfl) ?_
        refine C_gr rfl hs he.1 (by decide) (Nat.le_of_ble_eq_true rfl) rfl he.2.2.1 ?_
        refine C_al rfl hs he.2.2.2.2.1 (by decide) ?_
        show B_R _ _ (35, [(2, .ref e), (0, .ref o), (1, .int (Zi f))], [.int (Zi ((X.length : Int))), .int (Zi tg), .ref o]) _ _ _
        refine Z_isub rfl ?_
        refine C_pi rfl hs ok (by decide) (Nat.le_of_ble_eq_true rfl) (.inl rfl) rfl rfl rfl (by first | exact hs.zF _ _ | exact Zor_r _ _ | exact hs.zA _ _ | assumption | exact zA _ _ | exact zS _ | exact Zr_not (hs.zA _ _) | exact hs.1.1 _ _ | exact ⟨by omega, by omega⟩) (fun h hs => ?_)
        refine Z_go (f2 := (40, [(2, .ref e), (0, .ref o), (1, .int (Zi f))], [.ref o])) (fun _ => rfl) ?_
        refine Z_go (f2 := (41, [(2, .ref e), (0, .ref o), (1, .int (Zi f))], [.ref o, .ref o])) (fun _ => rfl) ?_
        refine C_gi rfl hs ok (by decide) (Nat.le_of_ble_eq_true rfl) rfl ?_
        rw [show C_F (C_sF s o 5 (tg - (X.length : Int))) o 4 = th from (by first | exact oh | exact (if_neg (fun e => absurd e.1 (by assumption))).trans oh | exact (if_neg (fun e => absurd e.2 (by decide))).trans oh | exact (if_neg (fun e => absurd e.2 (by decide))).trans ((if_neg (fun e => absurd e.2 (by decide))).trans oh) | exact (if_neg (fun e => absurd e.2 (by decide))).trans ((if_neg (fun e => absurd e.2 (by decide))).trans ((if_neg (fun e => absurd e.2 (by decide))).trans oh)))]
        show B_R _ _ (44, [(2, .ref e), (0, .ref o), (1, .int (Zi f))], [.int (Zi th), .ref o]) _ _ _
        refine Z_go (f2 := (45, [(2, .ref e), (0, .ref o), (1, .int (Zi f))], [.int (Zi 1), .int (Zi th), .ref o])) (fun _ => rfl) ?_
        refine Z_isub rfl ?_
        refine C_pi rfl hs ok (by decide) (Nat.le_of_ble_eq_true rfl) (.inl rfl) rfl rfl rfl (by first | exact hs.zF _ _ | exact Zor_r _ _ | exact hs.zA _ _ | assumption | exact zA _ _ | exact zS _ | exact Zr_not (hs.zA _ _) | exact hs.1.1 _ _ | exact ⟨by omega, by omega⟩) (fun h hs => ?_)
        refine Z_go (f2 := (50, [(2, .ref e), (0, .ref o), (1, .int (Zi f))], [.ref o])) (fun _ => rfl) ?_
        refine C_gr rfl hs ok (by decide) (Nat.le_of_ble_eq_true rfl) rfl oe ?_
        refine Z_go (f2 := (54, [(2, .ref e), (0, .ref o), (1, .int (Zi f))], [.int (Zi f), .ref ea])) (fun _ => rfl) ?_
        refine Z_go (f2 := (55, [(2, .ref e), (0, .ref o), (1, .int (Zi f))], [.null, .int (Zi f), .ref ea])) (fun _ => rfl) ?_
        refine C_an rfl hs ek (by decide) (by decide) (by omega) (by omega) (fun h hs => ?_)
        refine Z_go (f2 := (57, [(2, .ref e), (0, .ref o), (1, .int (Zi f))], [.int (Zi 1)])) (fun _ => rfl) ?_
        refine Z_iret rfl rfl (by first | rfl | decide | exact narrow_b01 (by omega)) ⟨_, hs, ?_⟩
        try dsimp only
        have hfr : C_fr (fun t => t = p) s (C_sQ (C_sF (C_sF s o 5 (tg - X.length)) o 4 (th - 1)) ea f none) := (((C_fr.refl _ s).sF ot).sF ot).sQ et
        refine ⟨rfl, rfl, hfr.weak (fun t e => by rw [e]; exact L_pre_self p), rfl, 1, rfl, .inr ⟨rfl, X, hi, ?_⟩⟩
        refine ⟨⟨ok, ot, oe, ou, ov, ek, et, (if_neg (by omega)).trans ((if_neg (by omega)).trans oc), ?_, ?_, ca0, ca1, uv⟩, fun i j0 j1 => ?_, fun i j a1 a2 b1 b2 e2 q1 q2 => ?_, (g3.fr w hfr (fun e => L_app_ne p u e.symm)).1, (g4.fr w hfr (fun e => L_app_ne p v e.symm)).1⟩
        · exact if_pos ⟨rfl, rfl⟩
        · exact (if_neg (by omega)).trans (if_pos ⟨rfl, rfl⟩)
        · by_cases c : i = f
          · exact .inl ⟨if_pos ⟨rfl, c⟩, if_pos c⟩
          · have := (g1 i j0 j1).fr (s2 := C_sQ (C_sF (C_sF s o 5 (tg - X.length)) o 4 (th - 1)) ea f none) w hfr (fun e _ t ht => L_pre_ne ht) (if_neg (fun e => c e.2))
            rcases this with ⟨h1, h2⟩ | ⟨e, ba, g, a, cap, X, h1, h2, h3⟩
            · exact .inl ⟨h1, (if_neg c).trans h2⟩
            · exact .inr ⟨e, ba, g, a, cap, X, h1, (if_neg c).trans h2, h3⟩
        · have q1 : (if ea = ea ∧ i = f then none else C_Q s ea i) = some e2 := q1
          have q2 : (if ea = ea ∧ j = f then none else C_Q s ea j) = some e2 := q2
          by_cases c : i = f
          · rw [if_pos ⟨rfl, c⟩] at q1; cases q1
          · by_cases c2 : j = f
            · rw [if_pos ⟨rfl, c2⟩] at q2; cases q2
            · rw [if_neg (fun e => c e.2)] at q1
              rw [if_neg (fun e => c2 e.2)] at q2
              exact g2 i j a1 a2 b1 b2 e2 q1 q2
      · refine Z_go (f2 := (24, [(2, .ref e), (0, .ref o), (1, .int (Zi f))], [.int (Zi 0)])) (fun _ => rfl) ?_
        refine Z_iret rfl rfl (by first | rfl | decide | exact narrow_b01 (by omega)) ⟨_, hs, ?_⟩
        try dsimp only
        exfalso; omega
  · refine Z_go (f2 := (1, [(0, .ref o), (1, .int (Zi f))], [.ref o])) (fun _ => rfl) ?_
    refine Z_go (f2 := (2, [(0, .ref o), (1, .int (Zi f))], [.int (Zi f), .ref o])) (fun _ => rfl) ?_
    refine C_callVR (As := [.int (Zi f)]) (rest := []) rfl (by decide) rfl (by decide) rfl rfl (by decide +kernel) (Nat.le_of_ble_eq_true rfl) hs ok (C_find0 _ hd0 hn zf) (fun x q => ?_)
    obtain rfl := q
    show B_R _ _ (5, [(0, .ref o), (1, .int (Zi f))], [.null]) _ _ _
    refine Z_go (f2 := (6, [(2, .null), (0, .ref o), (1, .int (Zi f))], [])) (fun _ => rfl) ?_
    refine Z_go (f2 := (7, [(2, .null), (0, .ref o), (1, .int (Zi f))], [.null])) (fun _ => rfl) ?_
    refine Z_go (f2 := (23, [(2, .null), (0, .ref o), (1, .int (Zi f))], [])) (fun _ => rfl) ?_
    refine Z_go (f2 := (24, [(2, .null), (0, .ref o), (1, .int (Zi f))], [.int (Zi 0)])) (fun _ => rfl) ?_
    refine Z_iret rfl rfl (by first | rfl | decide | exact narrow_b01 (by omega)) ⟨_, hs, ?_⟩
    try dsimp only
    exact ⟨rfl, rfl, C_fr.refl _ _, rfl, 0, rfl, .inl ⟨rfl, rfl, hno⟩⟩
