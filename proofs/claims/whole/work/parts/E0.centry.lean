/-! the class: Entry -/
theorem Zor_add {x y : Int} {k : Nat} {a : Int} (hx : x = 2 ^ k * a) (a0 : 0 ≤ a) (x1 : x < 2147483648) (y0 : 0 ≤ y) (y1 : y < 2 ^ k) (y2 : y < 2147483648) : Zi x ||| Zi y = Zi (x + y) := by
  apply Zi_ofBv
  obtain ⟨n, rfl⟩ := Int.eq_ofNat_of_zero_le a0
  obtain ⟨m, rfl⟩ := Int.eq_ofNat_of_zero_le y0
  have e2 : ((2 ^ k : Nat) : Int) = 2 ^ k := by rw [Int.natCast_pow]; rfl
  have hy : m < 2 ^ k := by
    have : (m : Int) < ((2 ^ k : Nat) : Int) := by rw [e2]; exact y1
    omega
  have hx2 : x = ((2 ^ k * n : Nat) : Int) := by rw [hx, ← e2, Int.natCast_mul]
  subst hx2
  have h0 : 0 ≤ ((2 ^ k * n : Nat) : Int) := by omega
  generalize hN : 2 ^ k * n = N at *
  have b1 : (Zi (N : Int)).toBitVec.toNat = N := by have := Zi_bvN (N : Int); omega
  have b2 : (Zi (m : Int)).toBitVec.toNat = m := by have := Zi_bvN (m : Int); omega
  rw [Int32.toBitVec_or, BitVec.toNat_or, b1, b2, ← hN, ← Nat.two_pow_add_eq_or_of_lt hy, hN]
  omega
theorem Zor_add2 {x y : Int} {k : Nat} {a : Int} (hx : x = 2 ^ k * a) (a0 : 0 ≤ a) (x1 : x < 2147483648) (y0 : 0 ≤ y) (y1 : y < 2 ^ k) (y2 : y < 2147483648) (s : x + y < 2147483648) (x0 : 0 ≤ x) : Zor x y = x + y := by
  unfold Zor
  rw [Zor_add hx a0 x1 y0 y1 y2, Zi_to (by omega) s]
theorem C_gramOf (d : Nat) {a b c : Int} (a0 : 0 ≤ a) (a1 : a < 256) (b0 : 0 ≤ b) (b1 : b < 256) (c0 : 0 ≤ c) (c1 : c < 256) : Q_ok (d + 1) 170 [.int (Zi a), .int (Zi b), .int (Zi c)] (fun x => x = some (.int (Zi (65536 * a + 256 * b + c)))) := by
  refine Q_enter (M := E_m170) rfl (Nat.le_of_ble_eq_true rfl) (fun h => ?_)
  show B_R d _ (0, [(0, .int (Zi a)), (1, .int (Zi b)), (2, .int (Zi c))], []) _ _ _
  refine Z_go (f2 := (1, [(0, .int (Zi a)), (1, .int (Zi b)), (2, .int (Zi c))], [.int (Zi a)])) (fun _ => rfl) ?_
  refine Z_go (f2 := (3, [(0, .int (Zi a)), (1, .int (Zi b)), (2, .int (Zi c))], [.int (Zi 16), .int (Zi a)])) (fun _ => rfl) ?_
  refine Z_ishl rfl (by omega) (by omega) (p := 65536) (by rfl) ?_
  refine Z_go (f2 := (5, [(0, .int (Zi a)), (1, .int (Zi b)), (2, .int (Zi c))], [.int (Zi b), .int (Zi (a * 65536))])) (fun _ => rfl) ?_
  refine Z_go (f2 := (7, [(0, .int (Zi a)), (1, .int (Zi b)), (2, .int (Zi c))], [.int (Zi 8), .int (Zi b), .int (Zi (a * 65536))])) (fun _ => rfl) ?_
  refine Z_ishl rfl (by omega) (by omega) (p := 256) (by rfl) ?_
  refine Z_ior rfl ?_
  refine Z_go (f2 := (10, [(0, .int (Zi a)), (1, .int (Zi b)), (2, .int (Zi c))], [.int (Zi c), .int (Zi (Zor (a * 65536) (b * 256)))])) (fun _ => rfl) ?_
  refine Z_ior rfl ?_
  refine Z_iret rfl rfl (by first | rfl | decide | exact narrow_b01 (by omega)) ⟨rfl, rfl, ?_⟩
  try dsimp only
  have e1 : Zor (a * 65536) (b * 256) = a * 65536 + b * 256 := Zor_add2 (k := 16) (a := a) (by omega) a0 (by omega) (by omega) (by show b * 256 < 65536; omega) (by omega) (by omega) (by omega)
  have e2 : Zor (a * 65536 + b * 256) c = a * 65536 + b * 256 + c := Zor_add2 (k := 8) (a := a * 256 + b) (by omega) (by omega) (by omega) c0 (by show c < 256; omega) (by omega) (by omega) (by omega)
  rw [e1, e2, show a * 65536 + b * 256 + c = 65536 * a + 256 * b + c by omega]
theorem C_copyB (d : Nat) {s : C_S} {o k : Nat} {m : Int} {t : List Nat} (ok : C_K s o = (1, k)) (m0 : 0 ≤ m) (m1 : m ≤ k) (k1 : k ≤ 67108864) : C_ok (d + 1) 293 [.ref o, .int (Zi m)] s (fun x s2 n => x = some (.ref (C_n s)) ∧ n = m.toNat ∧ ∃ g : Int → Int, s2 = C_sAf (C_new s (1, m.toNat) t) (C_n s) g ∧ ∀ j : Int, 0 ≤ j → j < m → g j = C_A s o j) := by
  refine C_enter (M := E_m293) rfl (Nat.le_of_ble_eq_true rfl) (fun h0 h hs => ?_)
  show B_R (d + 0) _ (0, [(0, .ref o), (1, .int (Zi m))], []) _ _ _
  have zk := hs.len (by decide) ok
  have zm : Zr m := ⟨by omega, by omega⟩
  have w := hs.1
  refine Z_go (f2 := (1, [(0, .ref o), (1, .int (Zi m))], [.int (Zi m)])) (fun _ => rfl) ?_
  refine Z_go (f2 := (2, [(0, .ref o), (1, .int (Zi m))], [.ref o, .int (Zi m)])) (fun _ => rfl) ?_
  refine C_al rfl hs ok (by decide) ?_
  show B_R _ _ (3, [(0, .ref o), (1, .int (Zi m))], [.int (Zi ((k : Int))), .int (Zi m)]) _ _ _
  refine Z_cne rfl rfl (by first | exact hs.zF _ _ | exact Zor_r _ _ | exact hs.zA _ _ | assumption | exact zA _ _ | exact zS _ | exact Zr_not (hs.zA _ _) | exact hs.1.1 _ _ | exact ⟨by omega, by omega⟩) (by first | exact hs.zF _ _ | exact Zor_r _ _ | exact hs.zA _ _ | assumption | exact zA _ _ | exact zS _ | exact Zr_not (hs.zA _ _) | exact hs.1.1 _ _ | exact ⟨by omega, by omega⟩) (fun c1 => ?_) (fun c1 => ?_)
  · refine Z_go (f2 := (15, [(0, .ref o), (1, .int (Zi m))], [.int (Zi m)])) (fun _ => rfl) ?_
    refine C_na (t := t) rfl hs (by decide) (by decide) (by omega) (by omega) (fun h hs => ?_)
    have hkn : C_K (C_new s (1, m.toNat) t) (C_n s) = (1, m.toNat) := if_pos rfl
    have ok : C_K (C_new s (1, m.toNat) t) o = (1, k) := (if_neg (show ¬ o = C_n s by omega)).trans ok
    show B_R _ _ (17, [(0, .ref o), (1, .int (Zi m))], [.ref (C_n s)]) _ _ _
    refine Z_go (f2 := (18, [(2, .ref (C_n s)), (0, .ref o), (1, .int (Zi m))], [])) (fun _ => rfl) ?_
    refine Z_go (f2 := (19, [(2, .ref (C_n s)), (0, .ref o), (1, .int (Zi m))], [.ref o])) (fun _ => rfl) ?_
    refine Z_go (f2 := (20, [(2, .ref (C_n s)), (0, .ref o), (1, .int (Zi m))], [.int (Zi 0), .ref o])) (fun _ => rfl) ?_
    refine Z_go (f2 := (21, [(2, .ref (C_n s)), (0, .ref o), (1, .int (Zi m))], [.ref (C_n s), .int (Zi 0), .ref o])) (fun _ => rfl) ?_
    refine Z_go (f2 := (22, [(2, .ref (C_n s)), (0, .ref o), (1, .int (Zi m))], [.int (Zi 0), .ref (C_n s), .int (Zi 0), .ref o])) (fun _ => rfl) ?_
    refine Z_go (f2 := (23, [(2, .ref (C_n s)), (0, .ref o), (1, .int (Zi m))], [.ref o, .int (Zi 0), .ref (C_n s), .int (Zi 0), .ref o])) (fun _ => rfl) ?_
    refine C_al rfl hs ok (by decide) ?_
    show B_R _ _ (24, [(2, .ref (C_n s)), (0, .ref o), (1, .int (Zi m))], [.int (Zi ((k : Int))), .int (Zi 0), .ref (C_n s), .int (Zi 0), .ref o]) _ _ _
    refine Z_go (f2 := (25, [(2, .ref (C_n s)), (0, .ref o), (1, .int (Zi m))], [.int (Zi m), .int (Zi ((k : Int))), .int (Zi 0), .ref (C_n s), .int (Zi 0), .ref o])) (fun _ => rfl) ?_
    refine C_min rfl (by first | exact hs.zF _ _ | exact Zor_r _ _ | exact hs.zA _ _ | assumption | exact zA _ _ | exact zS _ | exact Zr_not (hs.zA _ _) | exact hs.1.1 _ _ | exact ⟨by omega, by omega⟩) (by first | exact hs.zF _ _ | exact Zor_r _ _ | exact hs.zA _ _ | assumption | exact zA _ _ | exact zS _ | exact Zr_not (hs.zA _ _) | exact hs.1.1 _ _ | exact ⟨by omega, by omega⟩) (Nat.le_of_ble_eq_true rfl) ?_
    generalize ec0 : (if m < (k : Int) then m else (k : Int)) = c0
    have zc0 : Zr c0 := ⟨by omega, by omega⟩
    show B_R _ _ (28, [(2, .ref (C_n s)), (0, .ref o), (1, .int (Zi m))], [.int (Zi c0), .int (Zi 0), .ref (C_n s), .int (Zi 0), .ref o]) _ _ _
    refine C_cp rfl hs ok hkn (by decide) (by omega) (by omega) (by omega) (by omega) (by omega) (Nat.le_of_ble_eq_true rfl) (fun h hs => ?_)
    show B_R _ _ (31, [(2, .ref (C_n s)), (0, .ref o), (1, .int (Zi m))], []) _ _ _
    refine Z_go (f2 := (32, [(2, .ref (C_n s)), (0, .ref o), (1, .int (Zi m))], [.ref (C_n s)])) (fun _ => rfl) ?_
    refine C_aret rfl (by first | exact .inl ⟨_, rfl⟩ | exact .inr ⟨_, rfl⟩) ⟨_, hs, ?_⟩
    try dsimp only
    refine ⟨rfl, by omega, _, rfl, fun j j0 j1 => ?_⟩
    rw [if_pos (by omega)]
    show (if o = C_n s then fun _ => 0 else C_A s o) (0 + (j - 0)) = _
    rw [if_neg (by omega), show (0 : Int) + (j - 0) = j by omega]
  · refine Z_go (f2 := (7, [(0, .ref o), (1, .int (Zi m))], [.ref o])) (fun _ => rfl) ?_
    refine C_cl (t := t) rfl hs rfl rfl ok (Nat.le_of_ble_eq_true rfl) (fun h hs => ?_)
    have hkn : C_K (C_sAf (C_new s (1, k) t) (C_n s) (C_A s o)) (C_n s) = (1, k) := if_pos rfl
    refine C_cc rfl hs rfl rfl hkn ?_
    refine C_aret rfl (by first | exact .inl ⟨_, rfl⟩ | exact .inr ⟨_, rfl⟩) ⟨_, hs, ?_⟩
    have e : m.toNat = k := by omega
    refine ⟨rfl, ?_, C_A s o, by rw [e], fun j j0 j1 => rfl⟩
    show 0 + k = m.toNat
    omega
/-- a file at e, its bytes X -/
def D_En (s : C_S) (p : List Nat) (e ba g a cap : Nat) (X : List Int) : Prop := C_K s e = (8, 0) ∧ C_T s e = p ∧ C_P s e 0 = some ba ∧ C_P s e 1 = some g ∧ C_K s ba = (1, X.length) ∧ C_T s ba = p ∧ (∀ x ∈ X, 0 ≤ x ∧ x < 256) ∧ (∀ k : Int, 0 ≤ k → k < X.length → C_A s ba k % 256 = L_at X k) ∧ D_Row s (p ++ [g]) g a cap (L_gr X)
theorem D_En.fr {Z : List Nat → Prop} {s s2 : C_S} {p : List Nat} {e ba g a cap : Nat} {X : List Int} (h : D_En s p e ba g a cap X) (w : C_wf s) (k : C_fr Z s s2) (hZ : ∀ t, p <+: t → ¬ Z t) : D_En s2 p e ba g a cap X := by
  obtain ⟨h1, h2, h3, h4, h5, h6, h7, h8, h9⟩ := h
  have le := C_lt w h1 (show 8 < 20 by decide)
  have lb := C_lt w h5 (show 1 < 20 by decide)
  have nz := hZ p (L_pre_self p)
  obtain ⟨e1, e2, e3, e4, e5⟩ := k.2.2.1 e le (by rw [h2]; exact nz)
  obtain ⟨b1, b2, b3, b4, b5⟩ := k.2.2.1 ba lb (by rw [h6]; exact nz)
  exact ⟨by rw [(k.2.1 e le).1]; exact h1, by rw [(k.2.1 e le).2]; exact h2, by rw [e2]; exact h3, by rw [e2]; exact h4, by rw [(k.2.1 ba lb).1]; exact h5, by rw [(k.2.1 ba lb).2]; exact h6, h7, fun j j0 j1 => by rw [b3]; exact h8 j j0 j1, h9.fr w k (hZ _ (L_pre_one p g))⟩
def L_cnt (X : List Int) (i : Int) : Nat := ((X.take i.toNat).filter (fun x => decide (x = 10))).length
theorem C_line_lp {d : Nat} {h0 h : E_H} {s : C_S} {p : List Nat} {e ba g a cap : Nat} {X : List Int} {pl : Int} (hs : C_is h0 h s) (he : D_En s p e ba g a cap X) (zp : Zr pl) : ∀ (t : Nat) (i : Int), (X.length : Int) - i < t → 0 ≤ i → i ≤ X.length → (i ≤ pl ∨ i = 0) → B_R d E_m2 (4, [(3, .int (Zi i)), (2, .int (Zi (1 + (L_cnt X i : Int)))), (0, .ref e), (1, .int (Zi pl))], []) h 0 (fun r => r.2.1 = h ∧ r.2.2 = 0 ∧ (fun x => x = some (.int (Zi (1 + (L_cnt X pl : Int))))) r.1) := by
  have he0 := he
  have w := hs.1
  obtain ⟨ek, et, ep, eg, bk, bt, xb, xa, hr⟩ := he
  have zb := (hs.len (by decide) bk).1
  intro t
  induction t with
  | zero => intro i ht i0 i1 i2; omega
  | succ t ih =>
    intro i ht i0 i1 i2
    have hc0 : L_cnt X i ≤ X.length := by
      unfold L_cnt
      have := List.length_filter_le (fun x => decide (x = 10)) (X.take i.toNat)
      have := List.length_take_le' i.toNat X
      omega
    refine Z_go (f2 := (5, [(3, .int (Zi i)), (2, .int (Zi (1 + (L_cnt X i : Int)))), (0, .ref e), (1, .int (Zi pl))], [.int (Zi i)])) (fun _ => rfl) ?_
    refine Z_go (f2 := (6, [(3, .int (Zi i)), (2, .int (Zi (1 + (L_cnt X i : Int)))), (0, .ref e), (1, .int (Zi pl))], [.int (Zi pl), .int (Zi i)])) (fun _ => rfl) ?_
    refine Z_cge rfl rfl (by first | exact hs.zF _ _ | exact Zor_r _ _ | exact hs.zA _ _ | assumption | exact zA _ _ | exact zS _ | exact Zr_not (hs.zA _ _) | exact hs.1.1 _ _ | exact ⟨by omega, by omega⟩) (by first | exact hs.zF _ _ | exact Zor_r _ _ | exact hs.zA _ _ | assumption | exact zA _ _ | exact zS _ | exact Zr_not (hs.zA _ _) | exact hs.1.1 _ _ | exact ⟨by omega, by omega⟩) (fun c1 => ?_) (fun c1 => ?_)
    · refine Z_go (f2 := (44, [(3, .int (Zi i)), (2, .int (Zi (1 + (L_cnt X i : Int)))), (0, .ref e), (1, .int (Zi pl))], [.int (Zi (1 + (L_cnt X i : Int)))])) (fun _ => rfl) ?_
      refine Z_iret rfl rfl (by first | rfl | decide | exact narrow_b01 (by omega)) ⟨rfl, rfl, ?_⟩
      try dsimp only
      have e : L_cnt X pl = L_cnt X i := by
        unfold L_cnt
        by_cases c : i = X.length
        · rw [List.take_of_length_le (by omega), List.take_of_length_le (by omega)]
        · rcases i2 with i2 | i2
          · rw [show pl.toNat = i.toNat by omega]
          · rw [show pl.toNat = i.toNat by omega]
      rw [e]
    · refine Z_go (f2 := (10, [(3, .int (Zi i)), (2, .int (Zi (1 + (L_cnt X i : Int)))), (0, .ref e), (1, .int (Zi pl))], [.int (Zi i)])) (fun _ => rfl) ?_
      refine Z_go (f2 := (11, [(3, .int (Zi i)), (2, .int (Zi (1 + (L_cnt X i : Int)))), (0, .ref e), (1, .int (Zi pl))], [.ref e, .int (Zi i)])) (fun _ => rfl) ?_
      refine C_gr rfl hs ek (by decide) (Nat.le_of_ble_eq_true rfl) rfl ep ?_
      refine C_al rfl hs bk (by decide) ?_
      show B_R _ _ (15, [(3, .int (Zi i)), (2, .int (Zi (1 + (L_cnt X i : Int)))), (0, .ref e), (1, .int (Zi pl))], [.int (Zi ((X.length : Int))), .int (Zi i)]) _ _ _
      refine Z_cge rfl rfl (by first | exact hs.zF _ _ | exact Zor_r _ _ | exact hs.zA _ _ | assumption | exact zA _ _ | exact zS _ | exact Zr_not (hs.zA _ _) | exact hs.1.1 _ _ | exact ⟨by omega, by omega⟩) (by first | exact hs.zF _ _ | exact Zor_r _ _ | exact hs.zA _ _ | assumption | exact zA _ _ | exact zS _ | exact Zr_not (hs.zA _ _) | exact hs.1.1 _ _ | exact ⟨by omega, by omega⟩) (fun c2 => ?_) (fun c2 => ?_)
      · refine Z_go (f2 := (44, [(3, .int (Zi i)), (2, .int (Zi (1 + (L_cnt X i : Int)))), (0, .ref e), (1, .int (Zi pl))], [.int (Zi (1 + (L_cnt X i : Int)))])) (fun _ => rfl) ?_
        refine Z_iret rfl rfl (by first | rfl | decide | exact narrow_b01 (by omega)) ⟨rfl, rfl, ?_⟩
        try dsimp only
        have e : L_cnt X pl = L_cnt X i := by
          unfold L_cnt
          by_cases c : i = X.length
          · rw [List.take_of_length_le (by omega), List.take_of_length_le (by omega)]
          · rcases i2 with i2 | i2
            · rw [show pl.toNat = i.toNat by omega]
            · rw [show pl.toNat = i.toNat by omega]
        rw [e]
      · refine Z_go (f2 := (19, [(3, .int (Zi i)), (2, .int (Zi (1 + (L_cnt X i : Int)))), (0, .ref e), (1, .int (Zi pl))], [.int (Zi (1 + (L_cnt X i : Int)))])) (fun _ => rfl) ?_
        refine Z_go (f2 := (20, [(3, .int (Zi i)), (2, .int (Zi (1 + (L_cnt X i : Int)))), (0, .ref e), (1, .int (Zi pl))], [.ref e, .int (Zi (1 + (L_cnt X i : Int)))])) (fun _ => rfl) ?_
        refine C_gr rfl hs ek (by decide) (Nat.le_of_ble_eq_true rfl) rfl ep ?_
        refine Z_go (f2 := (24, [(3, .int (Zi i)), (2, .int (Zi (1 + (L_cnt X i : Int)))), (0, .ref e), (1, .int (Zi pl))], [.int (Zi i), .ref ba, .int (Zi (1 + (L_cnt X i : Int)))])) (fun _ => rfl) ?_
        refine C_ba rfl hs bk (by omega) (by omega) ?_
        show B_R _ _ (25, [(3, .int (Zi i)), (2, .int (Zi (1 + (L_cnt X i : Int)))), (0, .ref e), (1, .int (Zi pl))], [.int (Zi (C_A s ba i)), .int (Zi (1 + (L_cnt X i : Int)))]) _ _ _
        refine Z_go (f2 := (27, [(3, .int (Zi i)), (2, .int (Zi (1 + (L_cnt X i : Int)))), (0, .ref e), (1, .int (Zi pl))], [.int (Zi 10), .int (Zi (C_A s ba i)), .int (Zi (1 + (L_cnt X i : Int)))])) (fun _ => rfl) ?_
        refine Z_cne rfl rfl (by first | exact hs.zF _ _ | exact Zor_r _ _ | exact hs.zA _ _ | assumption | exact zA _ _ | exact zS _ | exact Zr_not (hs.zA _ _) | exact hs.1.1 _ _ | exact ⟨by omega, by omega⟩) (by first | exact hs.zF _ _ | exact Zor_r _ _ | exact hs.zA _ _ | assumption | exact zA _ _ | exact zS _ | exact Zr_not (hs.zA _ _) | exact hs.1.1 _ _ | exact ⟨by omega, by omega⟩) (fun c3 => ?_) (fun c3 => ?_)
        · refine Z_go (f2 := (35, [(3, .int (Zi i)), (2, .int (Zi (1 + (L_cnt X i : Int)))), (0, .ref e), (1, .int (Zi pl))], [.int (Zi 0), .int (Zi (1 + (L_cnt X i : Int)))])) (fun _ => rfl) ?_
          refine Z_iadd rfl ?_
          refine Z_go (f2 := (37, [(2, .int (Zi (1 + (L_cnt X i : Int) + 0))), (3, .int (Zi i)), (0, .ref e), (1, .int (Zi pl))], [])) (fun _ => rfl) ?_
          refine Z_iinc (L2 := [(3, .int (Zi (i + 1))), (2, .int (Zi (1 + (L_cnt X i : Int) + 0))), (0, .ref e), (1, .int (Zi pl))]) rfl rfl (by decide) rfl ?_
          refine Z_go (f2 := (4, [(3, .int (Zi (i + 1))), (2, .int (Zi (1 + (L_cnt X i : Int) + 0))), (0, .ref e), (1, .int (Zi pl))], [])) (fun _ => rfl) ?_
          have hx := xa i i0 (by omega)
          have hb := hs.1.2.2.1 ba i (by rw [bk])
          have ec : L_cnt X (i + 1) = L_cnt X i + 0 := by
            unfold L_cnt
            rw [L_take_s i0 (by omega), List.filter_append, List.length_append, List.filter_cons, if_neg (by rw [decide_eq_true_iff]; omega)]
            rfl
          refine B_loc (K := [(3, .int (Zi (i + 1))), (2, .int (Zi (1 + (L_cnt X i : Int) + 0))), (0, .ref e), (1, .int (Zi pl))]) (N_all_sub ⟨rfl, rfl, rfl, rfl, trivial⟩) (show ([3, 2, 0, 1] : List Nat).Nodup by decide) ?_
          have ih2 := ih (i + 1) (by omega) (by omega) (by omega) (by omega)
          rw [show 1 + (L_cnt X (i + 1) : Int) = 1 + (L_cnt X i : Int) + 0 by omega] at ih2
          exact ih2
        · refine Z_go (f2 := (31, [(3, .int (Zi i)), (2, .int (Zi (1 + (L_cnt X i : Int)))), (0, .ref e), (1, .int (Zi pl))], [.int (Zi 1), .int (Zi (1 + (L_cnt X i : Int)))])) (fun _ => rfl) ?_
          refine Z_go (f2 := (35, [(3, .int (Zi i)), (2, .int (Zi (1 + (L_cnt X i : Int)))), (0, .ref e), (1, .int (Zi pl))], [.int (Zi 1), .int (Zi (1 + (L_cnt X i : Int)))])) (fun _ => rfl) ?_
          refine Z_iadd rfl ?_
          refine Z_go (f2 := (37, [(2, .int (Zi (1 + (L_cnt X i : Int) + 1))), (3, .int (Zi i)), (0, .ref e), (1, .int (Zi pl))], [])) (fun _ => rfl) ?_
          refine Z_iinc (L2 := [(3, .int (Zi (i + 1))), (2, .int (Zi (1 + (L_cnt X i : Int) + 1))), (0, .ref e), (1, .int (Zi pl))]) rfl rfl (by decide) rfl ?_
          refine Z_go (f2 := (4, [(3, .int (Zi (i + 1))), (2, .int (Zi (1 + (L_cnt X i : Int) + 1))), (0, .ref e), (1, .int (Zi pl))], [])) (fun _ => rfl) ?_
          have hx := xa i i0 (by omega)
          have hb := hs.1.2.2.1 ba i (by rw [bk])
          have ec : L_cnt X (i + 1) = L_cnt X i + 1 := by
            unfold L_cnt
            rw [L_take_s i0 (by omega), List.filter_append, List.length_append, List.filter_cons, if_pos (by rw [decide_eq_true_iff]; omega)]
            rfl
          refine B_loc (K := [(3, .int (Zi (i + 1))), (2, .int (Zi (1 + (L_cnt X i : Int) + 1))), (0, .ref e), (1, .int (Zi pl))]) (N_all_sub ⟨rfl, rfl, rfl, rfl, trivial⟩) (show ([3, 2, 0, 1] : List Nat).Nodup by decide) ?_
          have ih2 := ih (i + 1) (by omega) (by omega) (by omega) (by omega)
          rw [show 1 + (L_cnt X (i + 1) : Int) = 1 + (L_cnt X i : Int) + 1 by omega] at ih2
          exact ih2
theorem C_line (d : Nat) {s : C_S} {p : List Nat} {e ba g a cap : Nat} {X : List Int} {pl : Int} (he : D_En s p e ba g a cap X) (zp : Zr pl) : C_rd (d + 1) 2 [.ref e, .int (Zi pl)] s (fun x => x = some (.int (Zi (1 + (L_cnt X pl : Int))))) := by
  refine C_enterR (M := E_m2) rfl (Nat.le_of_ble_eq_true rfl) (fun h0 h hs => ?_)
  show B_R (d + 0) _ (0, [(0, .ref e), (1, .int (Zi pl))], []) _ _ _
  refine Z_go (f2 := (1, [(0, .ref e), (1, .int (Zi pl))], [.int (Zi 1)])) (fun _ => rfl) ?_
  refine Z_go (f2 := (2, [(2, .int (Zi 1)), (0, .ref e), (1, .int (Zi pl))], [])) (fun _ => rfl) ?_
  refine Z_go (f2 := (3, [(2, .int (Zi 1)), (0, .ref e), (1, .int (Zi pl))], [.int (Zi 0)])) (fun _ => rfl) ?_
  refine Z_go (f2 := (4, [(3, .int (Zi 0)), (2, .int (Zi 1)), (0, .ref e), (1, .int (Zi pl))], [])) (fun _ => rfl) ?_
  have hl := C_line_lp (d := d) hs he zp (X.length + 1) 0 (by omega) (by omega) (by omega) (.inr rfl)
  refine B_loc (K := [(3, .int (Zi 0)), (2, .int (Zi 1)), (0, .ref e), (1, .int (Zi pl))]) (N_all_sub ⟨rfl, rfl, rfl, rfl, trivial⟩) (show ([3, 2, 0, 1] : List Nat).Nodup by decide) ?_
  exact hl
