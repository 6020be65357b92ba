/-! the joining: search -/
theorem P_srch_sz {S : Int → Int} {fold : Prop} {n b : Int} {t : P_T} (h : P_srch S fold n = .inr (t, b)) : T_sz t ≤ 200 ∧ P_reads S fold n = .inr (t, b) := by
  cases e : P_reads S fold n with
  | inl q => rw [P_srch_bad e] at h; cases h
  | inr q =>
    obtain ⟨t2, b2⟩ := q
    by_cases c : 200 < T_sz t2
    · rw [P_srch_big e c] at h; cases h
    · rw [P_srch_ok e c] at h
      injection h with h
      injection h with h1 h2
      subst h1 h2
      exact ⟨by omega, rfl⟩
theorem M_hit_un {W : Int → Int} {n : Int} {t : P_T} {b e b2 e2 : Int} (h : M_hit W n t b e) (g : M_hit W n t b2 e2) : b = b2 ∧ e = e2 := by
  obtain ⟨h1, h2, h3⟩ := h
  obtain ⟨g1, g2, g3⟩ := g
  have a1 := h2 _ _ g1
  have a2 := g2 _ _ h1
  obtain rfl : b = b2 := by omega
  have a3 := h3 _ g1
  have a4 := g3 _ h1
  exact ⟨rfl, by omega⟩
theorem Y_Q_fn {fs : Int → Option (List Int)} {t : P_T} : ∀ k x y, Y_Q fs t k x → Y_Q fs t k y → x = y := by
  rintro k x y ⟨X, h1, b, e, h2, rfl⟩ ⟨Z, g1, b2, e2, g2, rfl⟩
  rw [h1] at g1
  injection g1 with g1
  subst g1
  obtain ⟨rfl, rfl⟩ := M_hit_un h2 g2
  rfl
theorem R_fs.D {u : R_S} {fs : Int → Option (List Int)} (hf : R_fs u fs) {L : List (List Int)} {g : Int} (g0 : 0 ≤ g) (g1 : g < u.1 8) : X_D u L g ↔ Y_D fs L g := by
  constructor
  · rintro ⟨h1, h2⟩
    obtain ⟨X, hX⟩ := hf.yes g0 g1 (by omega)
    obtain ⟨k1, k2, k3⟩ := hf.one g0 g1 hX
    rw [k3, ← k2] at h2
    exact ⟨X, hX, h2⟩
  · rintro ⟨X, hX, h2⟩
    obtain ⟨k1, k2, k3⟩ := hf.one g0 g1 hX
    refine ⟨k1, ?_⟩
    rw [k3, ← k2]
    exact h2
theorem R_fs.Q {u : R_S} {fs : Int → Option (List Int)} (hf : R_fs u fs) {L : List (List Int)} {t : P_T} {g : Int} {x : List Int} (g0 : 0 ≤ g) (g1 : g < u.1 8) (hD : X_D u L g) : X_Q u t g x ↔ Y_Q fs t g x := by
  obtain ⟨X, hX⟩ := hf.yes g0 g1 (by have := hD.1; omega)
  obtain ⟨k1, k2, k3⟩ := hf.one g0 g1 hX
  unfold X_Q Y_Q
  rw [k3, ← k2]
  constructor
  · rintro ⟨b, e, h1, h2⟩
    exact ⟨X, hX, b, e, h1, h2⟩
  · rintro ⟨Z, hZ, b, e, h1, h2⟩
    rw [hX] at hZ
    injection hZ with hZ
    subst hZ
    exact ⟨b, e, h1, h2⟩
theorem R_fs.cn {u : R_S} {fs : Int → Option (List Int)} (hf : R_fs u fs) {m : Int} (h : D_cn (fun f => ∃ X, fs f = some X) (u.1 8) m) : D_cn (fun f => u.2.1 88 f = 1) (u.1 8) m := D_cn_iff h (fun j j0 j1 => ⟨fun ⟨X, hX⟩ => (hf.one j0 j1 hX).1, fun e => hf.yes j0 j1 (by omega)⟩)
theorem R_fs.same {u u2 : R_S} {fs : Int → Option (List Int)} (hf : R_fs u fs) (e8 : u2.1 8 = u.1 8) (q : ∀ q, 85 ≤ q → q ≤ 88 → ∀ j, u2.2.1 q j = u.2.1 q j) : R_fs u2 fs := fun g g0 g1 => by
  unfold R_by
  simp only [q 88 (by decide) (by decide), q 87 (by decide) (by decide), q 86 (by decide) (by decide), q 85 (by decide) (by decide)]
  exact hf g g0 (by omega)
theorem J_8 {z t : Nat} {h : E_H} {sl : Nat} {s : C_S} {u : R_S} {tb sh pa pl ma re : Nat} {X : List Int} {fs : Int → Option (List Int)} {ca th tg f pq : Int} {Q : Option P_T} {O : List Int} {H : List (List Int)} {n3 n4 n5 n6 : Int} {W RC RS : Nat} {fo : Int} (hc : C_is h h s) (hr : R_is h h u) (jc : J_c s 0 tb sh pa pl ma re X fs ca th tg f pq Q O H n3 n4 n5 n6 W) (jr : J_r u X fs ca th tg f pq Q O H n3 n4 n5 n6) (ji : J_in fs ca th tg Q O H n3 n4 n5 n6 t) (r1 : sl + 5 * X.length ≤ z + 2 * W + 150 * t) (r2 : 8 * C_n s ≤ 2000 + W + 2160 * t) (t5 : t ≤ 512) (b : J_bd z t RC RS) (f01 : fo = 0 ∨ fo = 1) : L_two 300 153 276 RC RS [Zi fo] h sl (J_st z (t + 1)) := by
  obtain ⟨ea, u0, v0, tr, A2, m2, sm, τ, β, G, P, ω, Am, ru, rv, hg, hby, hd, hq, htr, hzb, hp, hQ, hm, e0, hrp, eW⟩ := id jc
  obtain ⟨w, hf, e8, e7, e3, e1, e84, e20, e21, hol, hhl, e70, e71, e72, e73, hto⟩ := id jr
  obtain ⟨i1, i2, i3, i4, i5, i6, i7, i8, i9, i10, i11, i12, i13, i14, i15, i16, i17, i18, i19, i20⟩ := id ji
  have hS0 : ∀ k : Int, 0 ≤ k → k < X.length → D_see u k = L_at X k := fun k k0 k1 => by
    unfold D_see
    rw [if_pos (by omega)]
    exact e84 k k0 k1
  have hS1 : ∀ k : Int, (X.length : Int) ≤ k → D_see u k = -1 := fun k k1 => D_see_n u k (by omega)
  refine J_go (as := [fo]) hc hr hg.1 (C_search (S := D_see u) 99 jc f01 i1 i3 ⟨i13, by omega⟩ ⟨i15, by omega⟩ ⟨i17, by omega⟩ hS0 hS1) (R_srch 288 u f01 w (hf.cn (by rw [e8, e7]; exact i1)) (by omega) (by omega) (by omega) (by omega)) (fun x s2 n y u2 p q => ?_)
  obtain ⟨f5, u1, q⟩ := q
  rw [e1] at q
  have F8 : u2.1 8 = u.1 8 := f5.1 8 (by simp)
  have A8 : ∀ q, 84 ≤ q → q ≤ 88 → ∀ j, u2.2.1 q j = u.2.1 q j := fun q q0 q1 => f5.2.1 q (by simp; omega)
  have w2 : R_fw u2 (-1) := w.cong F8 (f5.1 3 (by simp)) (by omega) (by omega) A8
  have hf2 : R_fs u2 fs := hf.same F8 (fun q q0 q1 => A8 q (by omega) q1)
  have l0 : (([] : List Int).length) = 0 := rfl
  have h84 : ∀ i : Int, 0 ≤ i → i < (([] : List Int).length : Int) → u2.2.1 84 i = L_at [] i := fun i i0 i1 => by have i1 : i < ((0 : Nat) : Int) := i1; omega
  cases eS : P_srch (D_see u) (fo ≠ 0) X.length with
  | inl kw =>
    obtain ⟨k, wh⟩ := kw
    rw [eS] at p q
    obtain ⟨rfl, rfl, en, jc2⟩ := p
    obtain ⟨rfl, g5, g73, g20, g21, _⟩ := q
    have bb := b _ tb sh pa pl ma re _ _ _ _ _ _ _ _ _ _ _ _ _ _ _ jc2
    have F : ∀ b, 22 < b → u2.1 b = u.1 b := fun b hb => g5.1 b (by simp; omega)
    have A : ∀ q, 94 < q → ∀ j, u2.2.1 q j = u.2.1 q j := fun q hq => g5.2.1 q (by simp; omega)
    have jr2 : J_r u2 [] fs ca th tg k wh Q O H n3 n4 n5 n6 := by
      refine ⟨w2, hf2, by omega, (f5.1 7 (by simp)).trans e7, (f5.1 3 (by simp)).trans e3, u1, h84, g20, g21, ⟨(F 68 (by decide)).trans hol.1, fun i hi => (A 131 (by decide) i).trans (hol.2 i hi)⟩, ⟨(F 63 (by decide)).trans hhl.1, hhl.2.1, fun i hi q hq => (A (127 + q) (by omega) i).trans (hhl.2.2 i hi q hq)⟩, (F 70 (by decide)).trans e70, (F 71 (by decide)).trans e71, (F 72 (by decide)).trans e72, (g73 73).trans e73, ?_⟩
      cases Q with
      | none => trivial
      | some t =>
        obtain ⟨t1, t2, t3, t4⟩ := hto
        exact ⟨t1.keep (F 56 (by decide)) (A 122 (by decide)) (A 123 (by decide)), t2.keep (A 124 (by decide) _) (fun j _ _ => A 125 (by decide) j) (fun j _ _ => A 126 (by decide) j), t3.keep (A 124 (by decide) _) (fun j _ _ => A 125 (by decide) j) (fun j _ _ => A 126 (by decide) j), t4.keep (A 124 (by decide) _) (fun j _ _ => A 125 (by decide) j) (fun j _ _ => A 126 (by decide) j)⟩
    exact ⟨-1, rfl, rfl, by omega, by omega, fun h2 hc2 hr2 => ⟨_, _, tb, sh, pa, pl, ma, re, [], fs, ca, th, tg, k, wh, Q, O, H, n3, n4, n5, n6, W, hc2, hr2, jc2, jr2, ji.up, by omega, by omega⟩⟩
  | inr tw =>
    obtain ⟨t9, bw⟩ := tw
    rw [eS] at p q
    obtain ⟨L, O2, H2, W2, rfl, hL, hY, k1, k2, jc2⟩ := p
    obtain ⟨rfl, g73, _, g20, g21, hto2, L2, O3, H3, hL2, hO3, hH3, ol3, hl3, ho3, ht3, g70, g71, g72⟩ := q
    have bb := b _ tb sh pa pl ma re _ _ _ _ _ _ _ _ _ _ _ _ _ _ _ jc2
    obtain rfl := X_srt_lt hL hL2
    obtain ⟨sz1, sz2⟩ := P_srch_sz eS
    obtain ⟨y1, y2, y3, y4, mm, y5, y6⟩ := hY
    have ym := D_cn_fn y5 i1
    have szp : 0 ≤ T_sz t9 := by
      have ok := P_reads_ok hS1 (by omega) sz2
      have := T_sz_pos ok.1.wf
      omega
    rw [e8] at hO3 hH3
    have hO4 := X_hs_cong (E := Y_D fs L) (P := fun f x => x = f) ca.toNat O3 (fun j j0 j1 => hf.D j0 (by omega)) (fun j x _ _ _ => Iff.rfl) hO3
    have hH4 := X_hs_cong (E := Y_D fs L) (P := Y_Q fs t9) ca.toNat H3 (fun j j0 j1 => hf.D j0 (by omega)) (fun j x j0 j1 hD => hf.Q j0 (by omega) hD) hH3
    obtain rfl := X_hs_fn (fun k x y (h : x = k) (g : y = k) => h.trans g.symm) _ _ _ y1 hO4
    obtain rfl := X_hs_fn Y_Q_fn _ _ _ y2 hH4
    have jr2 : J_r u2 [] fs ca th tg 0 (-1) (some t9) O2 H2 (n3 + 1) (n4 + O2.length) (n5 + H2.length) (T_sz t9) := ⟨w2, hf2, by omega, (f5.1 7 (by simp)).trans e7, (f5.1 3 (by simp)).trans e3, u1, h84, g20, g21, ol3, hl3, by omega, by omega, by omega, g73, hto2⟩
    have ji2 : J_in fs ca th tg (some t9) O2 H2 (n3 + 1) (n4 + O2.length) (n5 + H2.length) (T_sz t9) (t + 1) := ⟨i1, i2, i3, i4, i5, i6, i7, i8, ⟨fun e => (by cases e), fun e => by omega⟩, by omega, by omega, y3, by omega, by omega, by omega, by omega, by omega, by omega, szp, sz1⟩
    exact ⟨H2.length, rfl, by rw [hl3.1], by omega, by omega, fun h2 hc2 hr2 => ⟨_, _, tb, sh, pa, pl, ma, re, [], fs, ca, th, tg, 0, -1, some t9, O2, H2, _, _, _, _, W2, hc2, hr2, jc2, jr2, ji2, by omega, by omega⟩⟩
