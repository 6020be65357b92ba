/-! the joining: feed; files that go, come, change -/
def Y_w (v : Int) : List Int := [v / 16777216 % 256, v / 65536 % 256, v / 256 % 256, v % 256]
theorem Y_w_fb (a b c d e k : Int) (k0 : 0 ≤ k) (k1 : k < 20) : D_fb a b c d e k = L_at (Y_w a ++ (Y_w b ++ (Y_w c ++ (Y_w d ++ Y_w e)))) k := by
  obtain rfl | rfl | rfl | rfl | rfl | rfl | rfl | rfl | rfl | rfl | rfl | rfl | rfl | rfl | rfl | rfl | rfl | rfl | rfl | rfl : k = 0 ∨ k = 1 ∨ k = 2 ∨ k = 3 ∨ k = 4 ∨ k = 5 ∨ k = 6 ∨ k = 7 ∨ k = 8 ∨ k = 9 ∨ k = 10 ∨ k = 11 ∨ k = 12 ∨ k = 13 ∨ k = 14 ∨ k = 15 ∨ k = 16 ∨ k = 17 ∨ k = 18 ∨ k = 19 := by omega
  all_goals simp [D_fb, L_at, Y_w]
theorem L_at_app3 {X Y : List Int} {k : Int} (k0 : 0 ≤ k) : L_at (X ++ Y) k = if k < X.length then L_at X k else L_at Y (k - X.length) := by
  unfold L_at
  rw [if_pos k0]
  by_cases c : k < X.length
  · rw [if_pos c, if_pos k0, List.getD_eq_getElem?_getD, List.getD_eq_getElem?_getD, List.getElem?_append_left (by omega)]
  · rw [if_neg c, if_pos (by omega), List.getD_eq_getElem?_getD, List.getD_eq_getElem?_getD, List.getElem?_append_right (by omega), show k.toNat - X.length = (k - X.length).toNat by omega]
theorem C_wn_fr2 {s u : C_S} {tb : Nat} {m v : Int} (h : C_fr (fun q => q = []) s u ∧ C_T u 0 = [] ∧ C_T u tb = [] ∧ C_n u = C_n s) : C_fr (fun q => q = []) s (C_wn u 0 tb m v) ∧ C_T (C_wn u 0 tb m v) 0 = [] ∧ C_T (C_wn u 0 tb m v) tb = [] ∧ C_n (C_wn u 0 tb m v) = C_n s := ⟨C_wn_fr h.1 h.2.1 h.2.2.1, h.2.1, h.2.2.1, h.2.2.2⟩
theorem D_fb_r (a b c d e k : Int) : 0 ≤ D_fb a b c d e k ∧ D_fb a b c d e k < 256 := by
  unfold D_fb
  omega
theorem J_0 {z t : Nat} {h : E_H} {sl : Nat} {s : C_S} {u : R_S} {tb sh pa pl ma re : Nat} {X : List Int} {fs : Int → Option (List Int)} {ca th tg f pq : Int} {Q : Option P_T} {O : List Int} {H : List (List Int)} {n3 n4 n5 n6 : Int} {W RC RS : Nat} {a b9 c d9 e9 : Int} (hc : C_is h h s) (hr : R_is h h u) (jc : J_c s 0 tb sh pa pl ma re X fs ca th tg f pq Q O H n3 n4 n5 n6 W) (jr : J_r u X fs ca th tg f pq Q O H n3 n4 n5 n6) (ji : J_in fs ca th tg Q O H n3 n4 n5 n6 t) (r1 : sl + 5 * X.length ≤ z + 2 * W + 150 * t) (r2 : 8 * C_n s ≤ 2000 + W + 2160 * t) (t5 : t ≤ 512) (b : J_bd z t RC RS) (z_a : Zr a) (z_b : Zr b9) (z_c : Zr c) (z_d : Zr d9) (z_e : Zr e9) : L_two 300 145 175 RC RS [Zi a, Zi b9, Zi c, Zi d9, Zi e9] h sl (J_st z (t + 1)) := by
  obtain ⟨ea, u0, v0, tr, A2, m2, sm, τ, β, G, P, ω, Am, ru, rv, hg, hby, hd, hq, htr, hzb, hp, hQ, hm, e0, hrp, eW⟩ := id jc
  obtain ⟨w, hf, e8, e7, e3, e1, e84, e20, e21, hol, hhl, e70, e71, e72, e73, hto⟩ := id jr
  obtain ⟨i1, i2, i3, i4, i5, i6, i7, i8, i9, i10, i11, i12, i13, i14, i15, i16, i17, i18, i19, i20⟩ := id ji
  have w0 := hc.1
  have bb := b _ tb sh pa pl ma re _ _ _ _ _ _ _ _ _ _ _ _ _ _ _ jc
  refine J_go (as := [a, b9, c, d9, e9]) hc hr hg.1 (C_feed 298 hg z_a z_b z_c z_d z_e) (R_feed 299 u z_a z_b z_c z_d z_e w.t0 w.t1) (fun x s2 n y u2 p q => ?_)
  rw [e1] at q
  obtain ⟨rfl, p⟩ := p
  rcases p with ⟨p1, rfl, rfl⟩ | ⟨p1, rfl, p3⟩
  · rcases q with ⟨_, rfl, rfl⟩ | ⟨q1, _⟩
    · exact ⟨-1, rfl, rfl, by omega, by omega, fun h2 hc2 hr2 => ⟨s2, u2, tb, sh, pa, pl, ma, re, X, fs, ca, th, tg, f, pq, Q, O, H, n3, n4, n5, n6, W, hc2, hr2, jc, jr, ji.up, by omega, by omega⟩⟩
    · omega
  · rcases q with ⟨q1, _⟩ | ⟨_, q2, rfl⟩
    · omega
    · have g0 : C_T s 0 = [] := hg.2.1
      have t0 : C_T s tb = [] := hg.2.2.2.2.1
      have lw : ∀ (L : List Int) (v : Int), ((L ++ Y_w v).length : Int) = L.length + 4 := fun L v => by rw [List.length_append]; rfl
      have y1 := C_wn_by (g := 0) (v := a) hby (by omega)
      have y2 := C_wn_by (g := 0) (v := b9) (X := X ++ Y_w a) y1 (by have := lw X a; omega)
      have y3 := C_wn_by (g := 0) (v := c) (X := X ++ Y_w a ++ Y_w b9) y2 (by have := lw X a; have := lw (X ++ Y_w a) b9; omega)
      have y4 := C_wn_by (g := 0) (v := d9) (X := X ++ Y_w a ++ Y_w b9 ++ Y_w c) y3 (by have := lw X a; have := lw (X ++ Y_w a) b9; have := lw (X ++ Y_w a ++ Y_w b9) c; omega)
      have y5 := C_wn_by (g := 0) (v := e9) (X := X ++ Y_w a ++ Y_w b9 ++ Y_w c ++ Y_w d9) y4 (by have := lw X a; have := lw (X ++ Y_w a) b9; have := lw (X ++ Y_w a ++ Y_w b9) c; have := lw (X ++ Y_w a ++ Y_w b9 ++ Y_w c) d9; omega)
      simp only [lw] at y5
      have eX : X ++ Y_w a ++ Y_w b9 ++ Y_w c ++ Y_w d9 ++ [e9 / 16777216 % 256, e9 / 65536 % 256, e9 / 256 % 256, e9 % 256] = X ++ (Y_w a ++ (Y_w b9 ++ (Y_w c ++ (Y_w d9 ++ Y_w e9)))) := by
        rw [List.append_assoc, List.append_assoc, List.append_assoc, List.append_assoc]; rfl
      rw [eX] at y5
      have l20 : (Y_w a ++ (Y_w b9 ++ (Y_w c ++ (Y_w d9 ++ Y_w e9)))).length = 20 := rfl
      have hl : ((X ++ (Y_w a ++ (Y_w b9 ++ (Y_w c ++ (Y_w d9 ++ Y_w e9))))).length : Int) = X.length + 20 := by rw [List.length_append, l20]; omega
      have gA := C_wn_G (C_wn_G (C_wn_G (C_wn_G (C_wn_G hg (by omega) a) (by omega) b9) (by omega) c) (by omega) d9) (by omega) e9
      have k := (C_wn_fr2 (v := e9) (m := X.length + 4 + 4 + 4 + 4) (C_wn_fr2 (v := d9) (m := X.length + 4 + 4 + 4) (C_wn_fr2 (v := c) (m := X.length + 4 + 4) (C_wn_fr2 (v := b9) (m := X.length + 4) (C_wn_fr2 (v := a) (m := X.length) ⟨C_fr.refl _ s, g0, t0, rfl⟩)))))
      obtain ⟨k, _, _, en⟩ := k
      rw [show (X.length : Int) + 8 = X.length + 4 + 4 by omega, show (X.length : Int) + 12 = X.length + 4 + 4 + 4 by omega, show (X.length : Int) + 16 = X.length + 4 + 4 + 4 + 4 by omega] at p3
      rw [← p3] at y5 gA k en
      have jc2 := jc.tape w0 k (X2 := X ++ (Y_w a ++ (Y_w b9 ++ (Y_w c ++ (Y_w d9 ++ Y_w e9))))) (by rw [hl, show (X.length : Int) + 20 = X.length + 4 + 4 + 4 + 4 + 4 by omega]; exact gA) y5
      obtain ⟨f1, f2, f3⟩ := q2
      have jr2 : J_r u2 (X ++ (Y_w a ++ (Y_w b9 ++ (Y_w c ++ (Y_w d9 ++ Y_w e9))))) fs ca th tg f pq Q O H n3 n4 n5 n6 := by
        refine jr.tape (fun b hb => by rw [f1]; exact R_up_n _ _ hb) (fun q hq j => by rw [f2, if_neg (fun e => hq e.1)]) f3 (by rw [f1, R_up_s, e1, hl]) (by omega) (fun j => ?_) (fun i i0 i1 => ?_)
        · rw [f2]
          split
          · exact D_fb_r _ _ _ _ _ _
          · exact w.tb j
        · rw [f2, e1, L_at_app3 i0]
          by_cases ci : i < X.length
          · rw [if_neg (by omega), if_pos ci]; exact e84 i i0 ci
          · rw [if_pos ⟨rfl, by omega, by omega⟩, if_neg ci]; exact Y_w_fb _ _ _ _ _ _ (by omega) (by omega)
      exact ⟨_, rfl, rfl, by omega, by omega, fun h2 hc2 hr2 => ⟨_, _, tb, sh, pa, pl, ma, re, _, fs, ca, th, tg, f, pq, Q, O, H, n3, n4, n5, n6, W, hc2, hr2, jc2, jr2, ji.up, by omega, by omega⟩⟩
