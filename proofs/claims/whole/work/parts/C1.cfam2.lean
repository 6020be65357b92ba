/-! the class: Family: made, cleared, its rows, its marks -/
theorem C_rowInit (d : Nat) {s : C_S} {o : Nat} {q : List Nat} (ok : C_K s o = (15, 0)) (ot : C_T s o = q) : C_ok (d + 1) 87 [.ref o] s (fun x s2 n => x = none ∧ n = 8 ∧ s2 = C_sP (C_new s (0, 8) q) o 0 (some (C_n s))) := by
  refine C_enter (M := E_m87) rfl (Nat.le_of_ble_eq_true rfl) (fun h0 h hs => ?_)
  show B_R (d + 0) _ (0, [(0, .ref o)], []) _ _ _
  have w := hs.1
  have lo := C_lt w ok (show 15 < 20 by decide)
  refine Z_go (f2 := (1, [(0, .ref o)], [.ref o])) (fun _ => rfl) ?_
  refine C_obj rfl (Nat.le_of_ble_eq_true rfl) ?_
  show B_R _ _ (4, [(0, .ref o)], []) _ _ _
  refine Z_go (f2 := (5, [(0, .ref o)], [.ref o])) (fun _ => rfl) ?_
  refine Z_go (f2 := (7, [(0, .ref o)], [.int (Zi 8), .ref o])) (fun _ => rfl) ?_
  refine C_na (t := q) rfl hs (by decide) (by decide) (by omega) (by omega) (fun h hs => ?_)
  have hkn : C_K (C_new s (0, (8 : Int).toNat) q) (C_n s) = (0, 8) := if_pos rfl
  have ok : C_K (C_new s (0, (8 : Int).toNat) q) o = (15, 0) := (if_neg (by omega)).trans ok
  show B_R _ _ (9, [(0, .ref o)], [.ref (C_n s), .ref o]) _ _ _
  refine C_pr rfl hs (r := some (C_n s)) rfl ok (by decide) (Nat.le_of_ble_eq_true rfl) (.inl rfl) rfl (fun h hs => ?_)
  refine Z_ret rfl rfl ⟨_, hs, ?_⟩
  try dsimp only
  exact ⟨rfl, rfl, rfl⟩
theorem D_Row_new {s : C_S} (w : C_wf s) {o : Nat} {q : List Nat} (ok : C_K s o = (15, 0)) (ot : C_T s o = q) (of_ : C_F s o 1 = 0) : D_Row (C_sP (C_new s (0, 8) q) o 0 (some (C_n s))) q o (C_n s) 8 [] := by
  have lo := C_lt w ok (show 15 < 20 by decide)
  refine ⟨(if_neg (by omega)).trans ok, (if_neg (by omega)).trans ot, if_pos ⟨rfl, rfl⟩, if_pos rfl, if_pos rfl, ?_, by decide, by decide, fun i i0 i1 => absurd i1 (by show ¬ i < ((0 : Nat) : Int); omega)⟩
  show (if o = C_n s then fun _ => 0 else C_F s o) 1 = ((0 : Nat) : Int)
  rw [if_neg (by omega)]
  exact of_
/-- a slot gets its row -/
theorem D_Fm.newrow {s : C_S} {p : List Nat} {f qa ma R B m : Nat} {φ : Int → List Int} (h : D_Fm s p f qa ma R B m φ) (w : C_wf s) (hB : 8 ≤ B) {i : Int} (i0 : 0 ≤ i) (i1 : i < R) (hq : C_Q s qa i = none) {u : C_S} (hu : u = C_sQ (C_sP (C_new (C_new s (15, 0) (p ++ [C_n s])) (0, 8) (p ++ [C_n s])) (C_n s) 0 (some (C_n s + 1))) qa i (some (C_n s))) : D_Fm u p f qa ma R B m φ ∧ C_Q u qa i = some (C_n s) ∧ D_Row u (p ++ [C_n s]) (C_n s) (C_n s + 1) 8 [] ∧ C_fr (fun t => p <+: t) s u ∧ C_n u = C_n s + 2 ∧ C_fw u qa R = C_fw s qa R + 24 := by
  obtain ⟨⟨h1, h2, h3, h4, h5, h6, h7, h8, h9, h10, h11⟩, g1, g2, g3⟩ := id h
  have lf := C_lt w h1 (show 9 < 20 by decide)
  have lq := C_lt w h5 (show 4 < 20 by decide)
  have lm := C_lt w h7 (show 3 < 20 by decide)
  have hmi : m ≤ i := by
    rcases g1 i i0 i1 with ⟨_, e⟩ | ⟨r, a, cap, xs, e, _⟩
    · exact e
    · rw [hq] at e; cases e
  have w1 : C_wf (C_new s (15, 0) (p ++ [C_n s])) := w.new (by show 0 < 2147483648; decide)
  have k1 : C_K (C_new s (15, 0) (p ++ [C_n s])) (C_n s) = (15, 0) := if_pos rfl
  have t1 : C_T (C_new s (15, 0) (p ++ [C_n s])) (C_n s) = p ++ [C_n s] := if_pos rfl
  have f1 : C_F (C_new s (15, 0) (p ++ [C_n s])) (C_n s) 1 = 0 := by
    show (if C_n s = C_n s then fun _ => 0 else C_F s (C_n s)) 1 = 0
    rw [if_pos rfl]
  have r1 := D_Row_new w1 k1 t1 f1
  have r2 : D_Row u (p ++ [C_n s]) (C_n s) (C_n s + 1) 8 [] := by
    subst hu
    exact r1
  have tq : C_T (C_sP (C_new (C_new s (15, 0) (p ++ [C_n s])) (0, 8) (p ++ [C_n s])) (C_n s) 0 (some (C_n s + 1))) qa = p := by
    show (if qa = C_n s + 1 then _ else if qa = C_n s then _ else C_T s qa) = p
    rw [if_neg (by omega), if_neg (by omega)]
    exact h6
  have tn : C_T (C_new (C_new s (15, 0) (p ++ [C_n s])) (0, 8) (p ++ [C_n s])) (C_n s) = p ++ [C_n s] := by
    show (if C_n s = C_n s + 1 then _ else if C_n s = C_n s then p ++ [C_n s] else C_T s (C_n s)) = _
    rw [if_neg (by omega), if_pos rfl]
  have fr : C_fr (fun t => t = p ∨ t = p ++ [C_n s]) s u := by
    subst hu
    exact (((((C_fr.refl (fun t => t = p ∨ t = p ++ [C_n s]) s).new (t := p ++ [C_n s]) (.inr rfl)).new (t := p ++ [C_n s]) (.inr rfl)).sP (.inr tn)).sQ (.inl tq))
  have eQ : ∀ j, C_Q u qa j = if j = i then some (C_n s) else C_Q s qa j := fun j => by
    subst hu
    show (if qa = qa ∧ j = i then some (C_n s) else (if qa = C_n s + 1 then fun _ => none else (if qa = C_n s then fun _ => none else C_Q s qa)) j) = _
    by_cases e : j = i
    · rw [if_pos ⟨rfl, e⟩, if_pos e]
    · rw [if_neg (fun x => e x.2), if_neg e, if_neg (by omega), if_neg (by omega)]
  have eF : C_F u f = C_F s f := by
    subst hu
    show (if f = C_n s + 1 then fun _ => 0 else if f = C_n s then fun _ => 0 else C_F s f) = _
    rw [if_neg (by omega), if_neg (by omega)]
  have eP : C_P u f = C_P s f := by
    subst hu
    funext c
    show (if f = C_n s ∧ c = 0 then some (C_n s + 1) else (if f = C_n s + 1 then fun _ => none else if f = C_n s then fun _ => none else C_P s f) c) = _
    rw [if_neg (by omega), if_neg (by omega), if_neg (by omega)]
  have eL : C_L u ma = C_L s ma := by
    subst hu
    show (if ma = C_n s + 1 then fun _ => 0 else if ma = C_n s then fun _ => 0 else C_L s ma) = _
    rw [if_neg (by omega), if_neg (by omega)]
  have hrow : ∀ j : Int, 0 ≤ j → j < R → j ≠ i → D_sl u p qa B m φ j ∧ C_rw u (C_Q u qa j) = C_rw s (C_Q s qa j) := fun j j0 j1 ne => by
    rcases g1 j j0 j1 with ⟨e1, e2⟩ | ⟨r, a, cap, xs, e1, e2, e3, e4⟩
    · exact ⟨.inl ⟨by rw [eQ, if_neg ne]; exact e1, e2⟩, by rw [eQ, if_neg ne, e1]; rfl⟩
    · have lr := C_lt w e2.1 (show 15 < 20 by decide)
      have hr := e2.fr w fr (fun e => e.elim (fun e => L_app_ne p r e.symm) (fun e => L_app_ne2 (by omega) e))
      exact ⟨.inr ⟨r, a, cap, xs, by rw [eQ, if_neg ne]; exact e1, hr, e3, e4⟩, by rw [eQ, if_neg ne, e1, hr.rw, e2.rw]⟩
  have kf := fr.2.1 f lf
  have kq := fr.2.1 qa lq
  have km := fr.2.1 ma lm
  refine ⟨⟨⟨by rw [kf.1]; exact h1, by rw [kf.2]; exact h2, by rw [eP]; exact h3, by rw [eP]; exact h4, by rw [kq.1]; exact h5, by rw [kq.2]; exact h6, by rw [km.1]; exact h7, by rw [km.2]; exact h8, by rw [eF]; exact h9, h10, h11⟩, fun j j0 j1 => ?_, fun a b a0 a1 b0 b1 r q1 q2 => ?_, fun j j0 j1 => ?_⟩, by rw [eQ, if_pos rfl], r2, fr.weak (fun t e => e.elim (fun e => e ▸ L_pre_self p) (fun e => e ▸ L_pre_one p _)), by subst hu; rfl, ?_⟩
  · by_cases e : j = i
    · exact .inr ⟨C_n s, C_n s + 1, 8, [], by rw [eQ, if_pos e], r2, hB, fun c => by omega⟩
    · exact (hrow j j0 j1 e).1
  · have old : ∀ (c : Int) (x : Nat), 0 ≤ c → c < R → c ≠ i → C_Q s qa c = some x → x ≠ C_n s := fun c x c0 c1 ne e => by
      rcases g1 c c0 c1 with ⟨e1, _⟩ | ⟨r, a, cap, xs, e1, e2, _⟩
      · rw [e] at e1; cases e1
      · have := C_lt w e2.1 (show 15 < 20 by decide)
        rw [e] at e1
        injection e1 with e1
        omega
    rw [eQ] at q1 q2
    by_cases e1 : a = i <;> by_cases e2 : b = i
    · rw [e1, e2]
    · rw [if_pos e1] at q1
      rw [if_neg e2] at q2
      injection q1 with q1
      exact absurd q1.symm (old b r b0 b1 e2 q2)
    · rw [if_neg e1] at q1
      rw [if_pos e2] at q2
      injection q2 with q2
      exact absurd q2.symm (old a r a0 a1 e1 q1)
    · rw [if_neg e1] at q1
      rw [if_neg e2] at q2
      exact g2 a b a0 a1 b0 b1 r q1 q2
  · rw [eL]
    exact g3 j j0 j1
  · have := C_fw_upd (fun j j0 j1 ne => (hrow j j0 j1 ne).2) i0 i1
    rw [hq, eQ, if_pos rfl, r2.rw] at this
    have e : C_rw s none = 0 := rfl
    omega
theorem C_fclear (d : Nat) {s : C_S} {p : List Nat} {f qa ma R B m : Nat} {φ : Int → List Int} (hf : D_Fm s p f qa ma R B m φ) : C_ok (d + 1) 4 [.ref f] s (fun x s2 n => x = none ∧ n = 0 ∧ D_Fm s2 p f qa ma R B 0 φ ∧ C_fr (fun t => p <+: t) s s2 ∧ C_n s2 = C_n s ∧ C_fw s2 qa R = C_fw s qa R) := by
  refine C_enter (M := E_m4) rfl (Nat.le_of_ble_eq_true rfl) (fun h0 h hs => ?_)
  show B_R (d + 0) _ (0, [(0, .ref f)], []) _ _ _
  have hf0 := hf
  have w := hs.1
  obtain ⟨⟨fk, ft, fp, fq, qk, qt, mk, mt, fn, fl, f1⟩, g1, g2, g3⟩ := hf
  have zR := (hs.len (by decide) qk).1
  have neF := hf0.ne
  refine Z_go (f2 := (1, [(0, .ref f)], [.ref f])) (fun _ => rfl) ?_
  refine Z_go (f2 := (2, [(0, .ref f)], [.int (Zi 0), .ref f])) (fun _ => rfl) ?_
  refine C_pi rfl hs fk (by decide) (Nat.le_of_ble_eq_true rfl) (.inl rfl) rfl rfl rfl (by first | exact hs.zF _ _ | exact Zor_r _ _ | exact hs.zA _ _ | assumption | exact zA _ _ | exact zS _ | exact Zr_not (hs.zA _ _) | exact hs.1.1 _ _ | exact ⟨by omega, by omega⟩) (fun h hs => ?_)
  refine Z_ret rfl rfl ⟨_, hs, ?_⟩
  try dsimp only
  exact ⟨rfl, rfl, hf0.shrink (Nat.zero_le _) rfl, (C_fr.refl _ _).sF (by rw [ft]; exact L_pre_self p), rfl, rfl⟩
theorem C_row_rd (d : Nat) {s : C_S} {p : List Nat} {f qa ma R B m : Nat} {φ : Int → List Int} {i : Int} (hf : D_Fm s p f qa ma R B m φ) (i0 : 0 ≤ i) (i1 : i < m) : C_rd (d + 1) 5 [.ref f, .int (Zi i)] s (fun x => ∃ r a cap, x = some (.ref r) ∧ C_Q s qa i = some r ∧ D_Row s (p ++ [r]) r a cap (φ i) ∧ cap ≤ B) := by
  refine C_enterR (M := E_m5) rfl (Nat.le_of_ble_eq_true rfl) (fun h0 h hs => ?_)
  show B_R (d + 0) _ (0, [(0, .ref f), (1, .int (Zi i))], []) _ _ _
  have hf0 := hf
  have w := hs.1
  obtain ⟨⟨fk, ft, fp, fq, qk, qt, mk, mt, fn, fl, f1⟩, g1, g2, g3⟩ := hf
  have zR := (hs.len (by decide) qk).1
  have neF := hf0.ne
  have zi : Zr i := ⟨by omega, by omega⟩
  refine Z_go (f2 := (1, [(0, .ref f), (1, .int (Zi i))], [.int (Zi 0)])) (fun _ => rfl) ?_
  refine Z_go (f2 := (2, [(0, .ref f), (1, .int (Zi i))], [.int (Zi i), .int (Zi 0)])) (fun _ => rfl) ?_
  refine Z_go (f2 := (3, [(0, .ref f), (1, .int (Zi i))], [.ref f, .int (Zi i), .int (Zi 0)])) (fun _ => rfl) ?_
  refine C_gr rfl hs fk (by decide) (Nat.le_of_ble_eq_true rfl) rfl fp ?_
  refine C_al rfl hs qk (by decide) ?_
  show B_R _ _ (7, [(0, .ref f), (1, .int (Zi i))], [.int (Zi ((R : Int))), .int (Zi i), .int (Zi 0)]) _ _ _
  refine Z_go (f2 := (8, [(0, .ref f), (1, .int (Zi i))], [.int (Zi 1), .int (Zi ((R : Int))), .int (Zi i), .int (Zi 0)])) (fun _ => rfl) ?_
  refine Z_isub rfl ?_
  refine C_min rfl (by first | exact hs.zF _ _ | exact Zor_r _ _ | exact hs.zA _ _ | assumption | exact zA _ _ | exact zS _ | exact Zr_not (hs.zA _ _) | exact hs.1.1 _ _ | exact ⟨by omega, by omega⟩) (by first | exact hs.zF _ _ | exact Zor_r _ _ | exact hs.zA _ _ | assumption | exact zA _ _ | exact zS _ | exact Zr_not (hs.zA _ _) | exact hs.1.1 _ _ | exact ⟨by omega, by omega⟩) (Nat.le_of_ble_eq_true rfl) ?_
  generalize ec0 : (if (R : Int) - 1 < i then (R : Int) - 1 else i) = c0
  have zc0 : Zr c0 := ⟨by omega, by omega⟩
  show B_R _ _ (12, [(0, .ref f), (1, .int (Zi i))], [.int (Zi c0), .int (Zi 0)]) _ _ _
  refine C_max rfl (by first | exact hs.zF _ _ | exact Zor_r _ _ | exact hs.zA _ _ | assumption | exact zA _ _ | exact zS _ | exact Zr_not (hs.zA _ _) | exact hs.1.1 _ _ | exact ⟨by omega, by omega⟩) (by first | exact hs.zF _ _ | exact Zor_r _ _ | exact hs.zA _ _ | assumption | exact zA _ _ | exact zS _ | exact Zr_not (hs.zA _ _) | exact hs.1.1 _ _ | exact ⟨by omega, by omega⟩) (Nat.le_of_ble_eq_true rfl) ?_
  generalize ec1 : (if 0 < c0 then c0 else 0) = c1
  have zc1 : Zr c1 := ⟨by omega, by omega⟩
  show B_R _ _ (15, [(0, .ref f), (1, .int (Zi i))], [.int (Zi c1)]) _ _ _
  rw [show c1 = i by omega]
  obtain ⟨r, a, cap, hq, hr, hB⟩ := hf0.rd i0 i1
  show B_R _ _ (15, [(0, .ref f), (1, .int (Zi i))], [.int (Zi i)]) _ _ _
  refine Z_go (f2 := (16, [(2, .int (Zi i)), (0, .ref f), (1, .int (Zi i))], [])) (fun _ => rfl) ?_
  refine Z_go (f2 := (17, [(2, .int (Zi i)), (0, .ref f), (1, .int (Zi i))], [.ref f])) (fun _ => rfl) ?_
  refine C_gr rfl hs fk (by decide) (Nat.le_of_ble_eq_true rfl) rfl fp ?_
  refine Z_go (f2 := (21, [(2, .int (Zi i)), (0, .ref f), (1, .int (Zi i))], [.int (Zi i), .ref qa])) (fun _ => rfl) ?_
  refine C_aq rfl hs qk (by decide) (by decide) (by omega) (by omega) hq ?_
  show B_R _ _ (22, [(2, .int (Zi i)), (0, .ref f), (1, .int (Zi i))], [.ref r]) _ _ _
  refine Z_go (f2 := (38, [(2, .int (Zi i)), (0, .ref f), (1, .int (Zi i))], [])) (fun _ => rfl) ?_
  refine Z_go (f2 := (39, [(2, .int (Zi i)), (0, .ref f), (1, .int (Zi i))], [.ref f])) (fun _ => rfl) ?_
  refine C_gr rfl hs fk (by decide) (Nat.le_of_ble_eq_true rfl) rfl fp ?_
  refine Z_go (f2 := (43, [(2, .int (Zi i)), (0, .ref f), (1, .int (Zi i))], [.int (Zi i), .ref qa])) (fun _ => rfl) ?_
  refine C_aq rfl hs qk (by decide) (by decide) (by omega) (by omega) hq ?_
  show B_R _ _ (44, [(2, .int (Zi i)), (0, .ref f), (1, .int (Zi i))], [.ref r]) _ _ _
  refine C_aret rfl (by first | exact .inl ⟨_, rfl⟩ | exact .inr ⟨_, rfl⟩) ⟨rfl, rfl, ?_⟩
  try dsimp only
  exact ⟨r, a, cap, rfl, hq, hr, hB⟩
theorem C_row_nw (d : Nat) {s : C_S} {p : List Nat} {f qa ma R B m : Nat} {φ : Int → List Int} {i : Int} (hf : D_Fm s p f qa ma R B m φ) (i0 : 0 ≤ i) (i1 : i < R) (hB : 8 ≤ B) : C_ok (d + 2) 5 [.ref f, .int (Zi i)] s (fun x s2 n => ∃ r a cap xs, x = some (.ref r) ∧ C_Q s2 qa i = some r ∧ D_Row s2 (p ++ [r]) r a cap xs ∧ cap ≤ B ∧ D_Fm s2 p f qa ma R B m φ ∧ C_fr (fun t => p <+: t) s s2 ∧ n + 2 * C_fw s qa R ≤ 2 * C_fw s2 qa R ∧ 8 * C_n s2 + C_fw s qa R ≤ 8 * C_n s + C_fw s2 qa R) := by
  refine C_enter (M := E_m5) rfl (Nat.le_of_ble_eq_true rfl) (fun h0 h hs => ?_)
  show B_R (d + 1) _ (0, [(0, .ref f), (1, .int (Zi i))], []) _ _ _
  have hf0 := hf
  have w := hs.1
  obtain ⟨⟨fk, ft, fp, fq, qk, qt, mk, mt, fn, fl, f1⟩, g1, g2, g3⟩ := hf
  have zR := (hs.len (by decide) qk).1
  have neF := hf0.ne
  have zi : Zr i := ⟨by omega, by omega⟩
  rcases g1 i i0 i1 with ⟨hq, hmi⟩ | ⟨r, a, cap, xs, hq, hr, hcap, _⟩
  · refine Z_go (f2 := (1, [(0, .ref f), (1, .int (Zi i))], [.int (Zi 0)])) (fun _ => rfl) ?_
    refine Z_go (f2 := (2, [(0, .ref f), (1, .int (Zi i))], [.int (Zi i), .int (Zi 0)])) (fun _ => rfl) ?_
    refine Z_go (f2 := (3, [(0, .ref f), (1, .int (Zi i))], [.ref f, .int (Zi i), .int (Zi 0)])) (fun _ => rfl) ?_
    refine C_gr rfl hs fk (by decide) (Nat.le_of_ble_eq_true rfl) rfl fp ?_
    refine C_al rfl hs qk (by decide) ?_
    show B_R _ _ (7, [(0, .ref f), (1, .int (Zi i))], [.int (Zi ((R : Int))), .int (Zi i), .int (Zi 0)]) _ _ _
    refine Z_go (f2 := (8, [(0, .ref f), (1, .int (Zi i))], [.int (Zi 1), .int (Zi ((R : Int))), .int (Zi i), .int (Zi 0)])) (fun _ => rfl) ?_
    refine Z_isub rfl ?_
    refine C_min rfl (by first | exact hs.zF _ _ | exact Zor_r _ _ | exact hs.zA _ _ | assumption | exact zA _ _ | exact zS _ | exact Zr_not (hs.zA _ _) | exact hs.1.1 _ _ | exact ⟨by omega, by omega⟩) (by first | exact hs.zF _ _ | exact Zor_r _ _ | exact hs.zA _ _ | assumption | exact zA _ _ | exact zS _ | exact Zr_not (hs.zA _ _) | exact hs.1.1 _ _ | exact ⟨by omega, by omega⟩) (Nat.le_of_ble_eq_true rfl) ?_
    generalize ec0 : (if (R : Int) - 1 < i then (R : Int) - 1 else i) = c0
    have zc0 : Zr c0 := ⟨by omega, by omega⟩
    show B_R _ _ (12, [(0, .ref f), (1, .int (Zi i))], [.int (Zi c0), .int (Zi 0)]) _ _ _
    refine C_max rfl (by first | exact hs.zF _ _ | exact Zor_r _ _ | exact hs.zA _ _ | assumption | exact zA _ _ | exact zS _ | exact Zr_not (hs.zA _ _) | exact hs.1.1 _ _ | exact ⟨by omega, by omega⟩) (by first | exact hs.zF _ _ | exact Zor_r _ _ | exact hs.zA _ _ | assumption | exact zA _ _ | exact zS _ | exact Zr_not (hs.zA _ _) | exact hs.1.1 _ _ | exact ⟨by omega, by omega⟩) (Nat.le_of_ble_eq_true rfl) ?_
    generalize ec1 : (if 0 < c0 then c0 else 0) = c1
    have zc1 : Zr c1 := ⟨by omega, by omega⟩
    show B_R _ _ (15, [(0, .ref f), (1, .int (Zi i))], [.int (Zi c1)]) _ _ _
    rw [show c1 = i by omega]
    have lq := C_lt w qk (show 4 < 20 by decide)
    have lf := C_lt w fk (show 9 < 20 by decide)
    show B_R _ _ (15, [(0, .ref f), (1, .int (Zi i))], [.int (Zi i)]) _ _ _
    refine Z_go (f2 := (16, [(2, .int (Zi i)), (0, .ref f), (1, .int (Zi i))], [])) (fun _ => rfl) ?_
    refine Z_go (f2 := (17, [(2, .int (Zi i)), (0, .ref f), (1, .int (Zi i))], [.ref f])) (fun _ => rfl) ?_
    refine C_gr rfl hs fk (by decide) (Nat.le_of_ble_eq_true rfl) rfl fp ?_
    refine Z_go (f2 := (21, [(2, .int (Zi i)), (0, .ref f), (1, .int (Zi i))], [.int (Zi i), .ref qa])) (fun _ => rfl) ?_
    refine C_aq rfl hs qk (by decide) (by decide) (by omega) (by omega) hq ?_
    show B_R _ _ (22, [(2, .int (Zi i)), (0, .ref f), (1, .int (Zi i))], [.null]) _ _ _
    refine Z_go (f2 := (25, [(2, .int (Zi i)), (0, .ref f), (1, .int (Zi i))], [])) (fun _ => rfl) ?_
    refine Z_go (f2 := (26, [(2, .int (Zi i)), (0, .ref f), (1, .int (Zi i))], [.ref f])) (fun _ => rfl) ?_
    refine C_gr rfl hs fk (by decide) (Nat.le_of_ble_eq_true rfl) rfl fp ?_
    refine Z_go (f2 := (30, [(2, .int (Zi i)), (0, .ref f), (1, .int (Zi i))], [.int (Zi i), .ref qa])) (fun _ => rfl) ?_
    refine C_nw (t := p ++ [C_n s]) rfl hs (by decide) (fun h hs => ?_)
    have hkn : C_K (C_new s (15, 0) (p ++ [C_n s])) (C_n s) = (15, 0) := if_pos rfl
    have htn : C_T (C_new s (15, 0) (p ++ [C_n s])) (C_n s) = p ++ [C_n s] := if_pos rfl
    have lnn : C_n (C_new s (15, 0) (p ++ [C_n s])) = C_n s + 1 := rfl
    show B_R _ _ (33, [(2, .int (Zi i)), (0, .ref f), (1, .int (Zi i))], [.ref (C_n s), .int (Zi i), .ref qa]) _ _ _
    refine Z_go (f2 := (34, [(2, .int (Zi i)), (0, .ref f), (1, .int (Zi i))], [.ref (C_n s), .ref (C_n s), .int (Zi i), .ref qa])) (fun _ => rfl) ?_
    refine C_callI (As := []) (rest := [.ref (C_n s), .int (Zi i), .ref qa]) rfl (by decide) rfl rfl rfl (by decide +kernel) rfl (Nat.le_of_ble_eq_true rfl) hs (C_rowInit _ hkn htn) (fun x h u n2 hs q => ?_)
    obtain ⟨rfl, rfl, hu⟩ := q
    have hu : u = C_sP (C_new (C_new s (15, 0) (p ++ [C_n s])) (0, 8) (p ++ [C_n s])) (C_n s) 0 (some (C_n s + 1)) := hu
    subst hu
    have hkn : C_K (C_sP (C_new (C_new s (15, 0) (p ++ [C_n s])) (0, 8) (p ++ [C_n s])) (C_n s) 0 (some (C_n s + 1))) (C_n s) = (15, 0) := (if_neg (by omega)).trans hkn
    have qk : C_K (C_sP (C_new (C_new s (15, 0) (p ++ [C_n s])) (0, 8) (p ++ [C_n s])) (C_n s) 0 (some (C_n s + 1))) qa = (4, R) := (if_neg (show ¬ qa = C_n s + 1 by omega)).trans ((if_neg (show ¬ qa = C_n s by omega)).trans qk)
    have fk : C_K (C_sP (C_new (C_new s (15, 0) (p ++ [C_n s])) (0, 8) (p ++ [C_n s])) (C_n s) 0 (some (C_n s + 1))) f = (9, 0) := (if_neg (show ¬ f = C_n s + 1 by omega)).trans ((if_neg (show ¬ f = C_n s by omega)).trans fk)
    have fp : C_P (C_sP (C_new (C_new s (15, 0) (p ++ [C_n s])) (0, 8) (p ++ [C_n s])) (C_n s) 0 (some (C_n s + 1))) f 0 = some qa := by show (if f = C_n s ∧ 0 = 0 then some (C_n s + 1) else (if f = C_n s + 1 then fun _ => none else (if f = C_n s then fun _ => none else C_P s f)) 0) = some qa; rw [if_neg (by omega), if_neg (by omega), if_neg (by omega)]; exact fp
    show B_R _ _ (37, [(2, .int (Zi i)), (0, .ref f), (1, .int (Zi i))], [.ref (C_n s), .int (Zi i), .ref qa]) _ _ _
    refine C_as rfl hs qk (by decide) (by decide) (by omega) (by omega) hkn (by decide) ⟨_, _, _, rfl, rfl⟩ (fun h hs => ?_)
    refine Z_go (f2 := (39, [(2, .int (Zi i)), (0, .ref f), (1, .int (Zi i))], [.ref f])) (fun _ => rfl) ?_
    refine C_gr rfl hs fk (by decide) (Nat.le_of_ble_eq_true rfl) rfl fp ?_
    refine Z_go (f2 := (43, [(2, .int (Zi i)), (0, .ref f), (1, .int (Zi i))], [.int (Zi i), .ref qa])) (fun _ => rfl) ?_
    refine C_aq rfl hs qk (by decide) (by decide) (by omega) (by omega) (if_pos ⟨rfl, rfl⟩ : C_Q (C_sQ (C_sP (C_new (C_new s (15, 0) (p ++ [C_n s])) (0, 8) (p ++ [C_n s])) (C_n s) 0 (some (C_n s + 1))) qa i (some (C_n s))) qa i = some (C_n s)) ?_
    show B_R _ _ (44, [(2, .int (Zi i)), (0, .ref f), (1, .int (Zi i))], [.ref (C_n s)]) _ _ _
    refine C_aret rfl (by first | exact .inl ⟨_, rfl⟩ | exact .inr ⟨_, rfl⟩) ⟨_, hs, ?_⟩
    try dsimp only
    have hx := hf0.newrow w hB i0 i1 hq rfl
    obtain ⟨x1, x2, x3, x4, x5, x6⟩ := hx
    exact ⟨C_n s, C_n s + 1, 8, [], rfl, x2, x3, hB, x1, x4, by rw [x6]; show 0 + 2 + 8 + _ ≤ _; omega, by rw [x6, x5]; omega⟩
  · refine Z_go (f2 := (1, [(0, .ref f), (1, .int (Zi i))], [.int (Zi 0)])) (fun _ => rfl) ?_
    refine Z_go (f2 := (2, [(0, .ref f), (1, .int (Zi i))], [.int (Zi i), .int (Zi 0)])) (fun _ => rfl) ?_
    refine Z_go (f2 := (3, [(0, .ref f), (1, .int (Zi i))], [.ref f, .int (Zi i), .int (Zi 0)])) (fun _ => rfl) ?_
    refine C_gr rfl hs fk (by decide) (Nat.le_of_ble_eq_true rfl) rfl fp ?_
    refine C_al rfl hs qk (by decide) ?_
    show B_R _ _ (7, [(0, .ref f), (1, .int (Zi i))], [.int (Zi ((R : Int))), .int (Zi i), .int (Zi 0)]) _ _ _
    refine Z_go (f2 := (8, [(0, .ref f), (1, .int (Zi i))], [.int (Zi 1), .int (Zi ((R : Int))), .int (Zi i), .int (Zi 0)])) (fun _ => rfl) ?_
    refine Z_isub rfl ?_
    refine C_min rfl (by first | exact hs.zF _ _ | exact Zor_r _ _ | exact hs.zA _ _ | assumption | exact zA _ _ | exact zS _ | exact Zr_not (hs.zA _ _) | exact hs.1.1 _ _ | exact ⟨by omega, by omega⟩) (by first | exact hs.zF _ _ | exact Zor_r _ _ | exact hs.zA _ _ | assumption | exact zA _ _ | exact zS _ | exact Zr_not (hs.zA _ _) | exact hs.1.1 _ _ | exact ⟨by omega, by omega⟩) (Nat.le_of_ble_eq_true rfl) ?_
    generalize ec0 : (if (R : Int) - 1 < i then (R : Int) - 1 else i) = c0
    have zc0 : Zr c0 := ⟨by omega, by omega⟩
    show B_R _ _ (12, [(0, .ref f), (1, .int (Zi i))], [.int (Zi c0), .int (Zi 0)]) _ _ _
    refine C_max rfl (by first | exact hs.zF _ _ | exact Zor_r _ _ | exact hs.zA _ _ | assumption | exact zA _ _ | exact zS _ | exact Zr_not (hs.zA _ _) | exact hs.1.1 _ _ | exact ⟨by omega, by omega⟩) (by first | exact hs.zF _ _ | exact Zor_r _ _ | exact hs.zA _ _ | assumption | exact zA _ _ | exact zS _ | exact Zr_not (hs.zA _ _) | exact hs.1.1 _ _ | exact ⟨by omega, by omega⟩) (Nat.le_of_ble_eq_true rfl) ?_
    generalize ec1 : (if 0 < c0 then c0 else 0) = c1
    have zc1 : Zr c1 := ⟨by omega, by omega⟩
    show B_R _ _ (15, [(0, .ref f), (1, .int (Zi i))], [.int (Zi c1)]) _ _ _
    rw [show c1 = i by omega]
    show B_R _ _ (15, [(0, .ref f), (1, .int (Zi i))], [.int (Zi i)]) _ _ _
    refine Z_go (f2 := (16, [(2, .int (Zi i)), (0, .ref f), (1, .int (Zi i))], [])) (fun _ => rfl) ?_
    refine Z_go (f2 := (17, [(2, .int (Zi i)), (0, .ref f), (1, .int (Zi i))], [.ref f])) (fun _ => rfl) ?_
    refine C_gr rfl hs fk (by decide) (Nat.le_of_ble_eq_true rfl) rfl fp ?_
    refine Z_go (f2 := (21, [(2, .int (Zi i)), (0, .ref f), (1, .int (Zi i))], [.int (Zi i), .ref qa])) (fun _ => rfl) ?_
    refine C_aq rfl hs qk (by decide) (by decide) (by omega) (by omega) hq ?_
    show B_R _ _ (22, [(2, .int (Zi i)), (0, .ref f), (1, .int (Zi i))], [.ref r]) _ _ _
    refine Z_go (f2 := (38, [(2, .int (Zi i)), (0, .ref f), (1, .int (Zi i))], [])) (fun _ => rfl) ?_
    refine Z_go (f2 := (39, [(2, .int (Zi i)), (0, .ref f), (1, .int (Zi i))], [.ref f])) (fun _ => rfl) ?_
    refine C_gr rfl hs fk (by decide) (Nat.le_of_ble_eq_true rfl) rfl fp ?_
    refine Z_go (f2 := (43, [(2, .int (Zi i)), (0, .ref f), (1, .int (Zi i))], [.int (Zi i), .ref qa])) (fun _ => rfl) ?_
    refine C_aq rfl hs qk (by decide) (by decide) (by omega) (by omega) hq ?_
    show B_R _ _ (44, [(2, .int (Zi i)), (0, .ref f), (1, .int (Zi i))], [.ref r]) _ _ _
    refine C_aret rfl (by first | exact .inl ⟨_, rfl⟩ | exact .inr ⟨_, rfl⟩) ⟨_, hs, ?_⟩
    try dsimp only
    exact ⟨r, a, cap, xs, rfl, hq, hr, hcap, hf0, C_fr.refl _ _, by omega, by omega⟩
theorem C_markOf (d : Nat) {s : C_S} {p : List Nat} {f qa ma R B m : Nat} {φ : Int → List Int} {i : Int} (hf : D_Fm s p f qa ma R B m φ) (i0 : 0 ≤ i) (i1 : i < R) : C_rd (d + 1) 14 [.ref f, .int (Zi i)] s (fun x => x = some (.long (C_L s ma i))) := by
  refine C_enterR (M := E_m14) rfl (Nat.le_of_ble_eq_true rfl) (fun h0 h hs => ?_)
  show B_R (d + 0) _ (0, [(0, .ref f), (1, .int (Zi i))], []) _ _ _
  have hf0 := hf
  have w := hs.1
  obtain ⟨⟨fk, ft, fp, fq, qk, qt, mk, mt, fn, fl, f1⟩, g1, g2, g3⟩ := hf
  have zR := (hs.len (by decide) qk).1
  have neF := hf0.ne
  have zi : Zr i := ⟨by omega, by omega⟩
  refine Z_go (f2 := (1, [(0, .ref f), (1, .int (Zi i))], [.int (Zi i)])) (fun _ => rfl) ?_
  refine Z_ilt rfl rfl (by first | exact hs.zF _ _ | exact Zor_r _ _ | exact hs.zA _ _ | assumption | exact zA _ _ | exact zS _ | exact Zr_not (hs.zA _ _) | exact hs.1.1 _ _ | exact ⟨by omega, by omega⟩) (fun c1 => ?_) (fun c1 => ?_)
  · refine Z_go (f2 := (23, [(0, .ref f), (1, .int (Zi i))], [.long (0)])) (fun _ => rfl) ?_
    refine Z_lret rfl rfl ⟨rfl, rfl, ?_⟩
    try dsimp only
    exfalso; omega
  · refine Z_go (f2 := (5, [(0, .ref f), (1, .int (Zi i))], [.int (Zi i)])) (fun _ => rfl) ?_
    refine Z_go (f2 := (6, [(0, .ref f), (1, .int (Zi i))], [.ref f, .int (Zi i)])) (fun _ => rfl) ?_
    refine C_gr rfl hs fk (by decide) (Nat.le_of_ble_eq_true rfl) rfl fq ?_
    refine C_al rfl hs mk (by decide) ?_
    show B_R _ _ (10, [(0, .ref f), (1, .int (Zi i))], [.int (Zi ((R : Int))), .int (Zi i)]) _ _ _
    refine Z_cge rfl rfl (by first | exact hs.zF _ _ | exact Zor_r _ _ | exact hs.zA _ _ | assumption | exact zA _ _ | exact zS _ | exact Zr_not (hs.zA _ _) | exact hs.1.1 _ _ | exact ⟨by omega, by omega⟩) (by first | exact hs.zF _ _ | exact Zor_r _ _ | exact hs.zA _ _ | assumption | exact zA _ _ | exact zS _ | exact Zr_not (hs.zA _ _) | exact hs.1.1 _ _ | exact ⟨by omega, by omega⟩) (fun c2 => ?_) (fun c2 => ?_)
    · refine Z_go (f2 := (23, [(0, .ref f), (1, .int (Zi i))], [.long (0)])) (fun _ => rfl) ?_
      refine Z_lret rfl rfl ⟨rfl, rfl, ?_⟩
      try dsimp only
      exfalso; omega
    · refine Z_go (f2 := (14, [(0, .ref f), (1, .int (Zi i))], [.ref f])) (fun _ => rfl) ?_
      refine C_gr rfl hs fk (by decide) (Nat.le_of_ble_eq_true rfl) rfl fq ?_
      refine Z_go (f2 := (18, [(0, .ref f), (1, .int (Zi i))], [.int (Zi i), .ref ma])) (fun _ => rfl) ?_
      refine C_la rfl hs mk (by omega) (by omega) ?_
      show B_R _ _ (19, [(0, .ref f), (1, .int (Zi i))], [.long (C_L s ma i)]) _ _ _
      refine Z_go (f2 := (23, [(0, .ref f), (1, .int (Zi i))], [.long (C_L s ma i)])) (fun _ => rfl) ?_
      refine Z_lret rfl rfl ⟨rfl, rfl, ?_⟩
      try dsimp only
      
theorem C_swap (d : Nat) {s : C_S} {p : List Nat} {f qa ma R B m : Nat} {φ : Int → List Int} {i k : Int} (hf : D_Fm s p f qa ma R B m φ) (i0 : 0 ≤ i) (i1 : i < m) (k0 : 0 ≤ k) (k1 : k < m) : C_ok (d + 1) 15 [.ref f, .int (Zi i), .int (Zi k)] s (fun x s2 n => x = none ∧ n = 0 ∧ D_Fm s2 p f qa ma R B m (F_sw φ i k) ∧ C_fr (fun t => p <+: t) s s2 ∧ C_n s2 = C_n s ∧ C_fw s2 qa R = C_fw s qa R) := by
  refine C_enter (M := E_m15) rfl (Nat.le_of_ble_eq_true rfl) (fun h0 h hs => ?_)
  show B_R (d + 0) _ (0, [(0, .ref f), (1, .int (Zi i)), (2, .int (Zi k))], []) _ _ _
  have hf0 := hf
  have w := hs.1
  obtain ⟨⟨fk, ft, fp, fq, qk, qt, mk, mt, fn, fl, f1⟩, g1, g2, g3⟩ := hf
  have zR := (hs.len (by decide) qk).1
  have neF := hf0.ne
  have zi : Zr i := ⟨by omega, by omega⟩
  have zk : Zr k := ⟨by omega, by omega⟩
  obtain ⟨ri, ai, capi, hqi, hri, _⟩ := hf0.rd i0 i1
  obtain ⟨rk, ak, capk, hqk, hrk, _⟩ := hf0.rd k0 k1
  have hsame : i = k → F_sw φ i k = φ := fun e => by
    subst e
    funext j
    unfold F_sw
    by_cases c : j = i
    · rw [if_pos c, c]
    · rw [if_neg c, if_neg c]
  refine Z_go (f2 := (1, [(0, .ref f), (1, .int (Zi i)), (2, .int (Zi k))], [.int (Zi i)])) (fun _ => rfl) ?_
  refine Z_ilt rfl rfl (by first | exact hs.zF _ _ | exact Zor_r _ _ | exact hs.zA _ _ | assumption | exact zA _ _ | exact zS _ | exact Zr_not (hs.zA _ _) | exact hs.1.1 _ _ | exact ⟨by omega, by omega⟩) (fun c1 => ?_) (fun c1 => ?_)
  · refine Z_go (f2 := (31, [(0, .ref f), (1, .int (Zi i)), (2, .int (Zi k))], [.int (Zi 0)])) (fun _ => rfl) ?_
    refine Z_go (f2 := (32, [(3, .int (Zi 0)), (0, .ref f), (1, .int (Zi i)), (2, .int (Zi k))], [])) (fun _ => rfl) ?_
    refine Z_go (f2 := (33, [(3, .int (Zi 0)), (0, .ref f), (1, .int (Zi i)), (2, .int (Zi k))], [.int (Zi i)])) (fun _ => rfl) ?_
    refine Z_go (f2 := (34, [(3, .int (Zi 0)), (0, .ref f), (1, .int (Zi i)), (2, .int (Zi k))], [.int (Zi k), .int (Zi i)])) (fun _ => rfl) ?_
    refine Z_ceq rfl rfl (by first | exact hs.zF _ _ | exact Zor_r _ _ | exact hs.zA _ _ | assumption | exact zA _ _ | exact zS _ | exact Zr_not (hs.zA _ _) | exact hs.1.1 _ _ | exact ⟨by omega, by omega⟩) (by first | exact hs.zF _ _ | exact Zor_r _ _ | exact hs.zA _ _ | assumption | exact zA _ _ | exact zS _ | exact Zr_not (hs.zA _ _) | exact hs.1.1 _ _ | exact ⟨by omega, by omega⟩) (fun c2 => ?_) (fun c2 => ?_)
    · refine Z_ret rfl rfl ⟨_, hs, ?_⟩
      try dsimp only
      first
      | (exfalso; omega)
      | (have e : i = k := by omega
         rw [hsame e]
         exact ⟨rfl, rfl, hf0, C_fr.refl _ _, rfl, rfl⟩)
    · refine Z_go (f2 := (38, [(3, .int (Zi 0)), (0, .ref f), (1, .int (Zi i)), (2, .int (Zi k))], [.int (Zi 0)])) (fun _ => rfl) ?_
      refine Z_ieq rfl rfl (by first | exact hs.zF _ _ | exact Zor_r _ _ | exact hs.zA _ _ | assumption | exact zA _ _ | exact zS _ | exact Zr_not (hs.zA _ _) | exact hs.1.1 _ _ | exact ⟨by omega, by omega⟩) (fun c3 => ?_) (fun c3 => ?_)
      · refine Z_ret rfl rfl ⟨_, hs, ?_⟩
        try dsimp only
        first
        | (exfalso; omega)
        | (have e : i = k := by omega
           rw [hsame e]
           exact ⟨rfl, rfl, hf0, C_fr.refl _ _, rfl, rfl⟩)
      · exfalso; omega
  · refine Z_go (f2 := (5, [(0, .ref f), (1, .int (Zi i)), (2, .int (Zi k))], [.int (Zi i)])) (fun _ => rfl) ?_
    refine Z_go (f2 := (6, [(0, .ref f), (1, .int (Zi i)), (2, .int (Zi k))], [.ref f, .int (Zi i)])) (fun _ => rfl) ?_
    refine C_gr rfl hs fk (by decide) (Nat.le_of_ble_eq_true rfl) rfl fp ?_
    refine C_al rfl hs qk (by decide) ?_
    show B_R _ _ (10, [(0, .ref f), (1, .int (Zi i)), (2, .int (Zi k))], [.int (Zi ((R : Int))), .int (Zi i)]) _ _ _
    refine Z_cge rfl rfl (by first | exact hs.zF _ _ | exact Zor_r _ _ | exact hs.zA _ _ | assumption | exact zA _ _ | exact zS _ | exact Zr_not (hs.zA _ _) | exact hs.1.1 _ _ | exact ⟨by omega, by omega⟩) (by first | exact hs.zF _ _ | exact Zor_r _ _ | exact hs.zA _ _ | assumption | exact zA _ _ | exact zS _ | exact Zr_not (hs.zA _ _) | exact hs.1.1 _ _ | exact ⟨by omega, by omega⟩) (fun c4 => ?_) (fun c4 => ?_)
    · refine Z_go (f2 := (31, [(0, .ref f), (1, .int (Zi i)), (2, .int (Zi k))], [.int (Zi 0)])) (fun _ => rfl) ?_
      refine Z_go (f2 := (32, [(3, .int (Zi 0)), (0, .ref f), (1, .int (Zi i)), (2, .int (Zi k))], [])) (fun _ => rfl) ?_
      refine Z_go (f2 := (33, [(3, .int (Zi 0)), (0, .ref f), (1, .int (Zi i)), (2, .int (Zi k))], [.int (Zi i)])) (fun _ => rfl) ?_
      refine Z_go (f2 := (34, [(3, .int (Zi 0)), (0, .ref f), (1, .int (Zi i)), (2, .int (Zi k))], [.int (Zi k), .int (Zi i)])) (fun _ => rfl) ?_
      refine Z_ceq rfl rfl (by first | exact hs.zF _ _ | exact Zor_r _ _ | exact hs.zA _ _ | assumption | exact zA _ _ | exact zS _ | exact Zr_not (hs.zA _ _) | exact hs.1.1 _ _ | exact ⟨by omega, by omega⟩) (by first | exact hs.zF _ _ | exact Zor_r _ _ | exact hs.zA _ _ | assumption | exact zA _ _ | exact zS _ | exact Zr_not (hs.zA _ _) | exact hs.1.1 _ _ | exact ⟨by omega, by omega⟩) (fun c5 => ?_) (fun c5 => ?_)
      · refine Z_ret rfl rfl ⟨_, hs, ?_⟩
        try dsimp only
        first
        | (exfalso; omega)
        | (have e : i = k := by omega
           rw [hsame e]
           exact ⟨rfl, rfl, hf0, C_fr.refl _ _, rfl, rfl⟩)
      · refine Z_go (f2 := (38, [(3, .int (Zi 0)), (0, .ref f), (1, .int (Zi i)), (2, .int (Zi k))], [.int (Zi 0)])) (fun _ => rfl) ?_
        refine Z_ieq rfl rfl (by first | exact hs.zF _ _ | exact Zor_r _ _ | exact hs.zA _ _ | assumption | exact zA _ _ | exact zS _ | exact Zr_not (hs.zA _ _) | exact hs.1.1 _ _ | exact ⟨by omega, by omega⟩) (fun c6 => ?_) (fun c6 => ?_)
        · refine Z_ret rfl rfl ⟨_, hs, ?_⟩
          try dsimp only
          first
          | (exfalso; omega)
          | (have e : i = k := by omega
             rw [hsame e]
             exact ⟨rfl, rfl, hf0, C_fr.refl _ _, rfl, rfl⟩)
        · exfalso; omega
    · refine Z_go (f2 := (14, [(0, .ref f), (1, .int (Zi i)), (2, .int (Zi k))], [.int (Zi k)])) (fun _ => rfl) ?_
      refine Z_ilt rfl rfl (by first | exact hs.zF _ _ | exact Zor_r _ _ | exact hs.zA _ _ | assumption | exact zA _ _ | exact zS _ | exact Zr_not (hs.zA _ _) | exact hs.1.1 _ _ | exact ⟨by omega, by omega⟩) (fun c7 => ?_) (fun c7 => ?_)
      · refine Z_go (f2 := (31, [(0, .ref f), (1, .int (Zi i)), (2, .int (Zi k))], [.int (Zi 0)])) (fun _ => rfl) ?_
        refine Z_go (f2 := (32, [(3, .int (Zi 0)), (0, .ref f), (1, .int (Zi i)), (2, .int (Zi k))], [])) (fun _ => rfl) ?_
        refine Z_go (f2 := (33, [(3, .int (Zi 0)), (0, .ref f), (1, .int (Zi i)), (2, .int (Zi k))], [.int (Zi i)])) (fun _ => rfl) ?_
        refine Z_go (f2 := (34, [(3, .int (Zi 0)), (0, .ref f), (1, .int (Zi i)), (2, .int (Zi k))], [.int (Zi k), .int (Zi i)])) (fun _ => rfl) ?_
        refine Z_ceq rfl rfl (by first | exact hs.zF _ _ | exact Zor_r _ _ | exact hs.zA _ _ | assumption | exact zA _ _ | exact zS _ | exact Zr_not (hs.zA _ _) | exact hs.1.1 _ _ | exact ⟨by omega, by omega⟩) (by first | exact hs.zF _ _ | exact Zor_r _ _ | exact hs.zA _ _ | assumption | exact zA _ _ | exact zS _ | exact Zr_not (hs.zA _ _) | exact hs.1.1 _ _ | exact ⟨by omega, by omega⟩) (fun c8 => ?_) (fun c8 => ?_)
        · refine Z_ret rfl rfl ⟨_, hs, ?_⟩
          try dsimp only
          first
          | (exfalso; omega)
          | (have e : i = k := by omega
             rw [hsame e]
             exact ⟨rfl, rfl, hf0, C_fr.refl _ _, rfl, rfl⟩)
        · refine Z_go (f2 := (38, [(3, .int (Zi 0)), (0, .ref f), (1, .int (Zi i)), (2, .int (Zi k))], [.int (Zi 0)])) (fun _ => rfl) ?_
          refine Z_ieq rfl rfl (by first | exact hs.zF _ _ | exact Zor_r _ _ | exact hs.zA _ _ | assumption | exact zA _ _ | exact zS _ | exact Zr_not (hs.zA _ _) | exact hs.1.1 _ _ | exact ⟨by omega, by omega⟩) (fun c9 => ?_) (fun c9 => ?_)
          · refine Z_ret rfl rfl ⟨_, hs, ?_⟩
            try dsimp only
            first
            | (exfalso; omega)
            | (have e : i = k := by omega
               rw [hsame e]
               exact ⟨rfl, rfl, hf0, C_fr.refl _ _, rfl, rfl⟩)
          · exfalso; omega
      · refine Z_go (f2 := (18, [(0, .ref f), (1, .int (Zi i)), (2, .int (Zi k))], [.int (Zi k)])) (fun _ => rfl) ?_
        refine Z_go (f2 := (19, [(0, .ref f), (1, .int (Zi i)), (2, .int (Zi k))], [.ref f, .int (Zi k)])) (fun _ => rfl) ?_
        refine C_gr rfl hs fk (by decide) (Nat.le_of_ble_eq_true rfl) rfl fp ?_
        refine C_al rfl hs qk (by decide) ?_
        show B_R _ _ (23, [(0, .ref f), (1, .int (Zi i)), (2, .int (Zi k))], [.int (Zi ((R : Int))), .int (Zi k)]) _ _ _
        refine Z_cge rfl rfl (by first | exact hs.zF _ _ | exact Zor_r _ _ | exact hs.zA _ _ | assumption | exact zA _ _ | exact zS _ | exact Zr_not (hs.zA _ _) | exact hs.1.1 _ _ | exact ⟨by omega, by omega⟩) (by first | exact hs.zF _ _ | exact Zor_r _ _ | exact hs.zA _ _ | assumption | exact zA _ _ | exact zS _ | exact Zr_not (hs.zA _ _) | exact hs.1.1 _ _ | exact ⟨by omega, by omega⟩) (fun c10 => ?_) (fun c10 => ?_)
        · refine Z_go (f2 := (31, [(0, .ref f), (1, .int (Zi i)), (2, .int (Zi k))], [.int (Zi 0)])) (fun _ => rfl) ?_
          refine Z_go (f2 := (32, [(3, .int (Zi 0)), (0, .ref f), (1, .int (Zi i)), (2, .int (Zi k))], [])) (fun _ => rfl) ?_
          refine Z_go (f2 := (33, [(3, .int (Zi 0)), (0, .ref f), (1, .int (Zi i)), (2, .int (Zi k))], [.int (Zi i)])) (fun _ => rfl) ?_
          refine Z_go (f2 := (34, [(3, .int (Zi 0)), (0, .ref f), (1, .int (Zi i)), (2, .int (Zi k))], [.int (Zi k), .int (Zi i)])) (fun _ => rfl) ?_
          refine Z_ceq rfl rfl (by first | exact hs.zF _ _ | exact Zor_r _ _ | exact hs.zA _ _ | assumption | exact zA _ _ | exact zS _ | exact Zr_not (hs.zA _ _) | exact hs.1.1 _ _ | exact ⟨by omega, by omega⟩) (by first | exact hs.zF _ _ | exact Zor_r _ _ | exact hs.zA _ _ | assumption | exact zA _ _ | exact zS _ | exact Zr_not (hs.zA _ _) | exact hs.1.1 _ _ | exact ⟨by omega, by omega⟩) (fun c11 => ?_) (fun c11 => ?_)
          · refine Z_ret rfl rfl ⟨_, hs, ?_⟩
            try dsimp only
            first
            | (exfalso; omega)
            | (have e : i = k := by omega
               rw [hsame e]
               exact ⟨rfl, rfl, hf0, C_fr.refl _ _, rfl, rfl⟩)
          · refine Z_go (f2 := (38, [(3, .int (Zi 0)), (0, .ref f), (1, .int (Zi i)), (2, .int (Zi k))], [.int (Zi 0)])) (fun _ => rfl) ?_
            refine Z_ieq rfl rfl (by first | exact hs.zF _ _ | exact Zor_r _ _ | exact hs.zA _ _ | assumption | exact zA _ _ | exact zS _ | exact Zr_not (hs.zA _ _) | exact hs.1.1 _ _ | exact ⟨by omega, by omega⟩) (fun c12 => ?_) (fun c12 => ?_)
            · refine Z_ret rfl rfl ⟨_, hs, ?_⟩
              try dsimp only
              first
              | (exfalso; omega)
              | (have e : i = k := by omega
                 rw [hsame e]
                 exact ⟨rfl, rfl, hf0, C_fr.refl _ _, rfl, rfl⟩)
            · exfalso; omega
        · refine Z_go (f2 := (27, [(0, .ref f), (1, .int (Zi i)), (2, .int (Zi k))], [.int (Zi 1)])) (fun _ => rfl) ?_
          refine Z_go (f2 := (31, [(0, .ref f), (1, .int (Zi i)), (2, .int (Zi k))], [.int (Zi 1)])) (fun _ => rfl) ?_
          refine Z_go (f2 := (32, [(3, .int (Zi 1)), (0, .ref f), (1, .int (Zi i)), (2, .int (Zi k))], [])) (fun _ => rfl) ?_
          refine Z_go (f2 := (33, [(3, .int (Zi 1)), (0, .ref f), (1, .int (Zi i)), (2, .int (Zi k))], [.int (Zi i)])) (fun _ => rfl) ?_
          refine Z_go (f2 := (34, [(3, .int (Zi 1)), (0, .ref f), (1, .int (Zi i)), (2, .int (Zi k))], [.int (Zi k), .int (Zi i)])) (fun _ => rfl) ?_
          refine Z_ceq rfl rfl (by first | exact hs.zF _ _ | exact Zor_r _ _ | exact hs.zA _ _ | assumption | exact zA _ _ | exact zS _ | exact Zr_not (hs.zA _ _) | exact hs.1.1 _ _ | exact ⟨by omega, by omega⟩) (by first | exact hs.zF _ _ | exact Zor_r _ _ | exact hs.zA _ _ | assumption | exact zA _ _ | exact zS _ | exact Zr_not (hs.zA _ _) | exact hs.1.1 _ _ | exact ⟨by omega, by omega⟩) (fun c13 => ?_) (fun c13 => ?_)
          · refine Z_ret rfl rfl ⟨_, hs, ?_⟩
            try dsimp only
            first
            | (exfalso; omega)
            | (have e : i = k := by omega
               rw [hsame e]
               exact ⟨rfl, rfl, hf0, C_fr.refl _ _, rfl, rfl⟩)
          · refine Z_go (f2 := (38, [(3, .int (Zi 1)), (0, .ref f), (1, .int (Zi i)), (2, .int (Zi k))], [.int (Zi 1)])) (fun _ => rfl) ?_
            refine Z_ieq rfl rfl (by first | exact hs.zF _ _ | exact Zor_r _ _ | exact hs.zA _ _ | assumption | exact zA _ _ | exact zS _ | exact Zr_not (hs.zA _ _) | exact hs.1.1 _ _ | exact ⟨by omega, by omega⟩) (fun c14 => ?_) (fun c14 => ?_)
            · exfalso; omega
            · refine Z_go (f2 := (42, [(3, .int (Zi 1)), (0, .ref f), (1, .int (Zi i)), (2, .int (Zi k))], [.int (Zi i)])) (fun _ => rfl) ?_
              refine Z_go (f2 := (43, [(3, .int (Zi 1)), (0, .ref f), (1, .int (Zi i)), (2, .int (Zi k))], [.ref f, .int (Zi i)])) (fun _ => rfl) ?_
              refine C_gr rfl hs fk (by decide) (Nat.le_of_ble_eq_true rfl) rfl fq ?_
              refine C_al rfl hs mk (by decide) ?_
              show B_R _ _ (47, [(3, .int (Zi 1)), (0, .ref f), (1, .int (Zi i)), (2, .int (Zi k))], [.int (Zi ((R : Int))), .int (Zi i)]) _ _ _
              refine Z_cge rfl rfl (by first | exact hs.zF _ _ | exact Zor_r _ _ | exact hs.zA _ _ | assumption | exact zA _ _ | exact zS _ | exact Zr_not (hs.zA _ _) | exact hs.1.1 _ _ | exact ⟨by omega, by omega⟩) (by first | exact hs.zF _ _ | exact Zor_r _ _ | exact hs.zA _ _ | assumption | exact zA _ _ | exact zS _ | exact Zr_not (hs.zA _ _) | exact hs.1.1 _ _ | exact ⟨by omega, by omega⟩) (fun c15 => ?_) (fun c15 => ?_)
              · refine Z_ret rfl rfl ⟨_, hs, ?_⟩
                try dsimp only
                first
                | (exfalso; omega)
                | (have e : i = k := by omega
                   rw [hsame e]
                   exact ⟨rfl, rfl, hf0, C_fr.refl _ _, rfl, rfl⟩)
              · refine Z_go (f2 := (51, [(3, .int (Zi 1)), (0, .ref f), (1, .int (Zi i)), (2, .int (Zi k))], [.int (Zi k)])) (fun _ => rfl) ?_
                refine Z_go (f2 := (52, [(3, .int (Zi 1)), (0, .ref f), (1, .int (Zi i)), (2, .int (Zi k))], [.ref f, .int (Zi k)])) (fun _ => rfl) ?_
                refine C_gr rfl hs fk (by decide) (Nat.le_of_ble_eq_true rfl) rfl fq ?_
                refine C_al rfl hs mk (by decide) ?_
                show B_R _ _ (56, [(3, .int (Zi 1)), (0, .ref f), (1, .int (Zi i)), (2, .int (Zi k))], [.int (Zi ((R : Int))), .int (Zi k)]) _ _ _
                refine Z_cge rfl rfl (by first | exact hs.zF _ _ | exact Zor_r _ _ | exact hs.zA _ _ | assumption | exact zA _ _ | exact zS _ | exact Zr_not (hs.zA _ _) | exact hs.1.1 _ _ | exact ⟨by omega, by omega⟩) (by first | exact hs.zF _ _ | exact Zor_r _ _ | exact hs.zA _ _ | assumption | exact zA _ _ | exact zS _ | exact Zr_not (hs.zA _ _) | exact hs.1.1 _ _ | exact ⟨by omega, by omega⟩) (fun c16 => ?_) (fun c16 => ?_)
                · refine Z_ret rfl rfl ⟨_, hs, ?_⟩
                  try dsimp only
                  first
                  | (exfalso; omega)
                  | (have e : i = k := by omega
                     rw [hsame e]
                     exact ⟨rfl, rfl, hf0, C_fr.refl _ _, rfl, rfl⟩)
                · refine Z_go (f2 := (60, [(3, .int (Zi 1)), (0, .ref f), (1, .int (Zi i)), (2, .int (Zi k))], [.ref f])) (fun _ => rfl) ?_
                  refine C_gr rfl hs fk (by decide) (Nat.le_of_ble_eq_true rfl) rfl fp ?_
                  refine Z_go (f2 := (64, [(3, .int (Zi 1)), (0, .ref f), (1, .int (Zi i)), (2, .int (Zi k))], [.int (Zi i), .ref qa])) (fun _ => rfl) ?_
                  refine C_aq rfl hs qk (by decide) (by decide) (by omega) (by omega) hqi ?_
                  show B_R _ _ (65, [(3, .int (Zi 1)), (0, .ref f), (1, .int (Zi i)), (2, .int (Zi k))], [.ref ri]) _ _ _
                  refine Z_go (f2 := (67, [(4, .ref ri), (3, .int (Zi 1)), (0, .ref f), (1, .int (Zi i)), (2, .int (Zi k))], [])) (fun _ => rfl) ?_
                  refine Z_go (f2 := (68, [(4, .ref ri), (3, .int (Zi 1)), (0, .ref f), (1, .int (Zi i)), (2, .int (Zi k))], [.ref f])) (fun _ => rfl) ?_
                  refine C_gr rfl hs fk (by decide) (Nat.le_of_ble_eq_true rfl) rfl fp ?_
                  refine Z_go (f2 := (72, [(4, .ref ri), (3, .int (Zi 1)), (0, .ref f), (1, .int (Zi i)), (2, .int (Zi k))], [.int (Zi i), .ref qa])) (fun _ => rfl) ?_
                  refine Z_go (f2 := (73, [(4, .ref ri), (3, .int (Zi 1)), (0, .ref f), (1, .int (Zi i)), (2, .int (Zi k))], [.ref f, .int (Zi i), .ref qa])) (fun _ => rfl) ?_
                  refine C_gr rfl hs fk (by decide) (Nat.le_of_ble_eq_true rfl) rfl fp ?_
                  refine Z_go (f2 := (77, [(4, .ref ri), (3, .int (Zi 1)), (0, .ref f), (1, .int (Zi i)), (2, .int (Zi k))], [.int (Zi k), .ref qa, .int (Zi i), .ref qa])) (fun _ => rfl) ?_
                  refine C_aq rfl hs qk (by decide) (by decide) (by omega) (by omega) hqk ?_
                  show B_R _ _ (78, [(4, .ref ri), (3, .int (Zi 1)), (0, .ref f), (1, .int (Zi i)), (2, .int (Zi k))], [.ref rk, .int (Zi i), .ref qa]) _ _ _
                  refine C_as rfl hs qk (by decide) (by decide) (by omega) (by omega) hrk.1 (by decide) ⟨_, _, _, rfl, rfl⟩ (fun h hs => ?_)
                  refine Z_go (f2 := (80, [(4, .ref ri), (3, .int (Zi 1)), (0, .ref f), (1, .int (Zi i)), (2, .int (Zi k))], [.ref f])) (fun _ => rfl) ?_
                  refine C_gr rfl hs fk (by decide) (Nat.le_of_ble_eq_true rfl) rfl fp ?_
                  refine Z_go (f2 := (84, [(4, .ref ri), (3, .int (Zi 1)), (0, .ref f), (1, .int (Zi i)), (2, .int (Zi k))], [.int (Zi k), .ref qa])) (fun _ => rfl) ?_
                  refine Z_go (f2 := (86, [(4, .ref ri), (3, .int (Zi 1)), (0, .ref f), (1, .int (Zi i)), (2, .int (Zi k))], [.ref ri, .int (Zi k), .ref qa])) (fun _ => rfl) ?_
                  refine C_as rfl hs qk (by decide) (by decide) (by omega) (by omega) hri.1 (by decide) ⟨_, _, _, rfl, rfl⟩ (fun h hs => ?_)
                  refine Z_go (f2 := (88, [(4, .ref ri), (3, .int (Zi 1)), (0, .ref f), (1, .int (Zi i)), (2, .int (Zi k))], [.ref f])) (fun _ => rfl) ?_
                  refine C_gr rfl hs fk (by decide) (Nat.le_of_ble_eq_true rfl) rfl fq ?_
                  refine Z_go (f2 := (92, [(4, .ref ri), (3, .int (Zi 1)), (0, .ref f), (1, .int (Zi i)), (2, .int (Zi k))], [.int (Zi i), .ref ma])) (fun _ => rfl) ?_
                  refine C_la rfl hs mk (by omega) (by omega) ?_
                  rw [show C_L (C_sQ (C_sQ s qa i (some rk)) qa k (some ri)) ma i = C_L s ma i from (by first | rfl | (simp only [C_F, C_P, C_A, C_L, C_Q, C_K, C_T, C_n, C_sF, C_sP, C_sA, C_sL, C_sQ, C_sAf, C_sQf]; simp [*]; done) | (simp only [C_F, C_P, C_A, C_L, C_Q, C_K, C_T, C_n, C_sF, C_sP, C_sA, C_sL, C_sQ, C_sAf, C_sQf]; simp; omega))]
                  show B_R _ _ (93, [(4, .ref ri), (3, .int (Zi 1)), (0, .ref f), (1, .int (Zi i)), (2, .int (Zi k))], [.long (C_L s ma i)]) _ _ _
                  refine Z_go (f2 := (95, [(5, .long (C_L s ma i)), (4, .ref ri), (3, .int (Zi 1)), (0, .ref f), (1, .int (Zi i)), (2, .int (Zi k))], [])) (fun _ => rfl) ?_
                  refine Z_go (f2 := (96, [(5, .long (C_L s ma i)), (4, .ref ri), (3, .int (Zi 1)), (0, .ref f), (1, .int (Zi i)), (2, .int (Zi k))], [.ref f])) (fun _ => rfl) ?_
                  refine C_gr rfl hs fk (by decide) (Nat.le_of_ble_eq_true rfl) rfl fq ?_
                  refine Z_go (f2 := (100, [(5, .long (C_L s ma i)), (4, .ref ri), (3, .int (Zi 1)), (0, .ref f), (1, .int (Zi i)), (2, .int (Zi k))], [.int (Zi i), .ref ma])) (fun _ => rfl) ?_
                  refine Z_go (f2 := (101, [(5, .long (C_L s ma i)), (4, .ref ri), (3, .int (Zi 1)), (0, .ref f), (1, .int (Zi i)), (2, .int (Zi k))], [.ref f, .int (Zi i), .ref ma])) (fun _ => rfl) ?_
                  refine C_gr rfl hs fk (by decide) (Nat.le_of_ble_eq_true rfl) rfl fq ?_
                  refine Z_go (f2 := (105, [(5, .long (C_L s ma i)), (4, .ref ri), (3, .int (Zi 1)), (0, .ref f), (1, .int (Zi i)), (2, .int (Zi k))], [.int (Zi k), .ref ma, .int (Zi i), .ref ma])) (fun _ => rfl) ?_
                  refine C_la rfl hs mk (by omega) (by omega) ?_
                  rw [show C_L (C_sQ (C_sQ s qa i (some rk)) qa k (some ri)) ma k = C_L s ma k from (by first | rfl | (simp only [C_F, C_P, C_A, C_L, C_Q, C_K, C_T, C_n, C_sF, C_sP, C_sA, C_sL, C_sQ, C_sAf, C_sQf]; simp [*]; done) | (simp only [C_F, C_P, C_A, C_L, C_Q, C_K, C_T, C_n, C_sF, C_sP, C_sA, C_sL, C_sQ, C_sAf, C_sQf]; simp; omega))]
                  show B_R _ _ (106, [(5, .long (C_L s ma i)), (4, .ref ri), (3, .int (Zi 1)), (0, .ref f), (1, .int (Zi i)), (2, .int (Zi k))], [.long (C_L s ma k), .int (Zi i), .ref ma]) _ _ _
                  refine C_ls rfl hs mk (by omega) (by omega) (fun h hs => ?_)
                  refine Z_go (f2 := (108, [(5, .long (C_L s ma i)), (4, .ref ri), (3, .int (Zi 1)), (0, .ref f), (1, .int (Zi i)), (2, .int (Zi k))], [.ref f])) (fun _ => rfl) ?_
                  refine C_gr rfl hs fk (by decide) (Nat.le_of_ble_eq_true rfl) rfl fq ?_
                  refine Z_go (f2 := (112, [(5, .long (C_L s ma i)), (4, .ref ri), (3, .int (Zi 1)), (0, .ref f), (1, .int (Zi i)), (2, .int (Zi k))], [.int (Zi k), .ref ma])) (fun _ => rfl) ?_
                  refine Z_go (f2 := (114, [(5, .long (C_L s ma i)), (4, .ref ri), (3, .int (Zi 1)), (0, .ref f), (1, .int (Zi i)), (2, .int (Zi k))], [.long (C_L s ma i), .int (Zi k), .ref ma])) (fun _ => rfl) ?_
                  refine C_ls rfl hs mk (by omega) (by omega) (fun h hs => ?_)
                  refine Z_ret rfl rfl ⟨_, hs, ?_⟩
                  try dsimp only
                  have hne : i ≠ k := by omega
                  obtain ⟨x1, x2⟩ := hf0.swap i0 i1 k0 k1 hne hqi hqk rfl rfl
                  exact ⟨rfl, rfl, x1, ((((C_fr.refl (fun t => p <+: t) s).sQ (by rw [qt]; exact L_pre_self p)).sQ (by show p <+: C_T s qa; rw [qt]; exact L_pre_self p)).sL (by show p <+: C_T s ma; rw [mt]; exact L_pre_self p)).sL (by show p <+: C_T s ma; rw [mt]; exact L_pre_self p), rfl, x2⟩
