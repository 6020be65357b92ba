/-! the joining: cases that only tell -/
def J_bd (z t RC RS : Nat) : Prop := ∀ (s2 : C_S) (tb sh pa pl ma re : Nat) (X2 : List Int) (fs2 : Int → Option (List Int)) (ca2 th2 tg2 f2 pq2 : Int) (Q2 : Option P_T) (O2 : List Int) (H2 : List (List Int)) (k3 k4 k5 k6 : Int) (W2 : Nat), J_c s2 0 tb sh pa pl ma re X2 fs2 ca2 th2 tg2 f2 pq2 Q2 O2 H2 k3 k4 k5 k6 W2 → 2000 + W2 + 2160 * (t + 1) ≤ 8 * RC ∧ z + 2 * W2 + 150 * (t + 1) ≤ RS
theorem C_rd.jk {s : C_S} {tb sh pa pl ma re : Nat} {X : List Int} {fs : Int → Option (List Int)} {ca th tg f pq : Int} {Q : Option P_T} {O : List Int} {H : List (List Int)} {n3 n4 n5 n6 : Int} {W d a : Nat} {vs : List Value} {post : Option Value → Prop} (k : C_rd d a vs s post) (jc : J_c s 0 tb sh pa pl ma re X fs ca th tg f pq Q O H n3 n4 n5 n6 W) : C_ok d a vs s (fun x s2 n => (∃ W2, n + 2 * W ≤ 2 * W2 ∧ 8 * C_n s2 + W ≤ 8 * C_n s + W2 ∧ J_c s2 0 tb sh pa pl ma re X fs ca th tg f pq Q O H n3 n4 n5 n6 W2) ∧ post x) := k.ok.weak (fun x s2 n q => by
  obtain ⟨rfl, rfl, q⟩ := q
  exact ⟨⟨W, by omega, by omega, jc⟩, q⟩)
theorem R_ok.jk {u : R_S} {X : List Int} {fs : Int → Option (List Int)} {ca th tg f pq : Int} {Q : Option P_T} {O : List Int} {H : List (List Int)} {n3 n4 n5 n6 : Int} {d a : Nat} {vs : List Value} {post : Option Value → Prop} (k : R_ok d a vs u (fun x u2 => u2 = u ∧ post x)) (jr : J_r u X fs ca th tg f pq Q O H n3 n4 n5 n6) : R_ok d a vs u (fun y u2 => J_r u2 X fs ca th tg f pq Q O H n3 n4 n5 n6 ∧ post y) := k.weak (fun x u2 q => by
  obtain ⟨rfl, q⟩ := q
  exact ⟨jr, q⟩)
theorem J_r.isF {u : R_S} {X : List Int} {fs : Int → Option (List Int)} {ca th tg f pq : Int} {Q : Option P_T} {O : List Int} {H : List (List Int)} {n3 n4 n5 n6 : Int} (jr : J_r u X fs ca th tg f pq Q O H n3 n4 n5 n6) (g : Int) : (∃ Y, D_isf fs ca g Y ∧ R_isF u g ∧ u.2.1 87 g = Y.length ∧ ∀ i : Int, 0 ≤ i → i < Y.length → R_by u g i = L_at Y i) ∨ (∀ Y, ¬ D_isf fs ca g Y) ∧ ¬ R_isF u g := by
  obtain ⟨w, hf, e8, _⟩ := jr
  by_cases c : 0 ≤ g ∧ g < ca
  · rcases hf g c.1 (by omega) with ⟨h1, h2⟩ | ⟨h1, Y, h2, h3, h4⟩
    · exact .inr ⟨fun Y hY => (by rw [hY.2.2] at h2; cases h2), fun e => by have := e.2.2; omega⟩
    · exact .inl ⟨Y, ⟨c.1, c.2, h2⟩, ⟨c.1, by omega, h1⟩, h3.symm, fun i i0 i1 => (h4 i i0 i1).symm⟩
  · exact .inr ⟨fun Y hY => c ⟨hY.1, hY.2.1⟩, fun e => c ⟨e.1, by have := e.2.1; omega⟩⟩
theorem D_isf.un {fs : Int → Option (List Int)} {ca g : Int} {Y Z : List Int} (h : D_isf fs ca g Y) (k : D_isf fs ca g Z) : Y = Z := by
  have e := h.2.2.symm.trans k.2.2
  injection e
theorem D_ct_lt {P : Int → Prop} {z : Int} (z0 : 0 ≤ z) (hz : P z) : ∀ (m : Nat), z < m → D_ct P z.toNat + 1 ≤ D_ct P m
  | 0, h => by omega
  | m + 1, h => by
    by_cases e : z = m
    · subst e
      have := D_ct_s1 z0 hz
      rw [show ((m : Nat) : Int).toNat = m by omega, show (((m : Nat) : Int) + 1).toNat = m + 1 by omega] at this
      rw [show ((m : Nat) : Int).toNat = m by omega]
      omega
    · have ih := D_ct_lt z0 hz m (by omega)
      by_cases c : P (m : Int)
      · have := D_ct_s1 (i := (m : Int)) (by omega) c
        rw [show ((m : Nat) : Int).toNat = m by omega, show (((m : Nat) : Int) + 1).toNat = m + 1 by omega] at this
        omega
      · have := D_ct_s0 (i := (m : Int)) (by omega) c
        rw [show ((m : Nat) : Int).toNat = m by omega, show (((m : Nat) : Int) + 1).toNat = m + 1 by omega] at this
        omega
theorem L_at_fl : ∀ (H : List (List Int)), (∀ x ∈ H, x.length = 4) → ∀ (i : Nat) (hi : i < H.length) (q : Nat), q < 4 → L_at H.flatten (4 * (i : Int) + q) = (H[i])[q]?.getD 0
  | [], _, i, hi, _, _ => absurd hi (Nat.not_lt_zero _)
  | a :: H, hH, 0, hi, q, hq => by
    have ha := hH a (List.mem_cons_self ..)
    unfold L_at
    rw [if_pos (by omega), List.flatten_cons, show (4 * ((0 : Nat) : Int) + (q : Int)).toNat = q by omega, List.getD_eq_getElem?_getD, List.getElem?_append_left (by omega), List.getElem_cons_zero, List.getElem?_eq_getElem (by omega)]
    rfl
  | a :: H, hH, i + 1, hi, q, hq => by
    have ha := hH a (List.mem_cons_self ..)
    have ih := L_at_fl H (fun x hx => hH x (List.mem_cons_of_mem _ hx)) i (by rw [List.length_cons] at hi; omega) q hq
    rw [List.getElem_cons_succ, ← ih]
    unfold L_at
    rw [if_pos (by omega), if_pos (by omega), List.flatten_cons, List.getD_eq_getElem?_getD, List.getD_eq_getElem?_getD, List.getElem?_append_right (by omega), show (4 * ((i + 1 : Nat) : Int) + (q : Int)).toNat - a.length = (4 * (i : Int) + (q : Int)).toNat by omega]
theorem J_5 {z t : Nat} {h : E_H} {sl : Nat} {s : C_S} {u : R_S} {tb sh pa pl ma re : Nat} {X : List Int} {fs : Int → Option (List Int)} {ca th tg f pq : Int} {Q : Option P_T} {O : List Int} {H : List (List Int)} {n3 n4 n5 n6 : Int} {W RC RS : Nat} {a : Int} (hc : C_is h h s) (hr : R_is h h u) (jc : J_c s 0 tb sh pa pl ma re X fs ca th tg f pq Q O H n3 n4 n5 n6 W) (jr : J_r u X fs ca th tg f pq Q O H n3 n4 n5 n6) (ji : J_in fs ca th tg Q O H n3 n4 n5 n6 t) (r1 : sl + 5 * X.length ≤ z + 2 * W + 150 * t) (r2 : 8 * C_n s ≤ 2000 + W + 2160 * t) (t5 : t ≤ 512) (b : J_bd z t RC RS) (z_a : Zr a) : L_two 300 150 183 RC RS [Zi a] h sl (J_st z (t + 1)) := by
  obtain ⟨ea, u0, v0, tr, A2, m2, sm, τ, β, G, P, ω, Am, ru, rv, hg, hby, hd, hq, htr, hzb, hp, hQ, hm, e0, hrp, eW⟩ := id jc
  obtain ⟨w, hf, e8, e7, e3, e1, e84, e20, e21, hol, hhl, e70, e71, e72, e73, hto⟩ := id jr
  obtain ⟨i1, i2, i3, i4, i5, i6, i7, i8, i9, i10, i11, i12, i13, i14, i15, i16, i17, i18, i19, i20⟩ := id ji
  refine J_keep (as := [a]) hc hr jc jr ji r1 r2 (b · tb sh pa pl ma re) ((C_size 297 hg hd z_a).jk jc) ((R_size 298 u z_a w.w1).jk jr) (fun x y p q => ?_)
  obtain ⟨v1, rfl, p⟩ := p
  obtain ⟨v2, rfl, q⟩ := q
  obtain rfl : v1 = v2 := by
    rcases jr.isF a with ⟨Y, y1, y2, y3, _⟩ | ⟨y1, y2⟩
    · rcases p with ⟨Z, g1, g2⟩ | ⟨g1, _⟩
      · rcases q with ⟨k1, _⟩ | ⟨_, k2⟩
        · rw [g2, k1, y3, g1.un y1]
        · exact absurd y2 k2
      · exact absurd y1 (g1 Y)
    · rcases p with ⟨Z, g1, g2⟩ | ⟨_, g1⟩
      · exact absurd g1 (y1 Z)
      · rcases q with ⟨_, k2⟩ | ⟨k1, _⟩
        · exact absurd k2 y2
        · rw [g1, k1]
  exact ⟨v1, rfl, rfl⟩
theorem J_6 {z t : Nat} {h : E_H} {sl : Nat} {s : C_S} {u : R_S} {tb sh pa pl ma re : Nat} {X : List Int} {fs : Int → Option (List Int)} {ca th tg f pq : Int} {Q : Option P_T} {O : List Int} {H : List (List Int)} {n3 n4 n5 n6 : Int} {W RC RS : Nat} {a : Int} {c : Int} (hc : C_is h h s) (hr : R_is h h u) (jc : J_c s 0 tb sh pa pl ma re X fs ca th tg f pq Q O H n3 n4 n5 n6 W) (jr : J_r u X fs ca th tg f pq Q O H n3 n4 n5 n6) (ji : J_in fs ca th tg Q O H n3 n4 n5 n6 t) (r1 : sl + 5 * X.length ≤ z + 2 * W + 150 * t) (r2 : 8 * C_n s ≤ 2000 + W + 2160 * t) (t5 : t ≤ 512) (b : J_bd z t RC RS) (z_a : Zr a) (z_c : Zr c) : L_two 300 151 184 RC RS [Zi a, Zi c] h sl (J_st z (t + 1)) := by
  obtain ⟨ea, u0, v0, tr, A2, m2, sm, τ, β, G, P, ω, Am, ru, rv, hg, hby, hd, hq, htr, hzb, hp, hQ, hm, e0, hrp, eW⟩ := id jc
  obtain ⟨w, hf, e8, e7, e3, e1, e84, e20, e21, hol, hhl, e70, e71, e72, e73, hto⟩ := id jr
  obtain ⟨i1, i2, i3, i4, i5, i6, i7, i8, i9, i10, i11, i12, i13, i14, i15, i16, i17, i18, i19, i20⟩ := id ji
  have wl : R_isF u a → 0 ≤ u.2.1 86 a ∧ u.2.1 86 a + u.2.1 87 a ≤ 16000 := fun hF => by
    obtain ⟨l1, l2, l3, l4, _⟩ := w.2.2.2.2.2.1 a hF (by have := hF.1; omega)
    omega
  refine J_keep (as := [a, c]) hc hr jc jr ji r1 r2 (b · tb sh pa pl ma re) ((C_byteAt 297 hg hd z_a z_c).jk jc) ((R_byteAt 298 u z_a z_c w.w1 wl).jk jr) (fun x y p q => ?_)
  obtain ⟨v1, rfl, p⟩ := p
  obtain ⟨v2, rfl, q⟩ := q
  obtain rfl : v1 = v2 := by
    rcases jr.isF a with ⟨Y, y1, y2, y3, y4⟩ | ⟨y1, y2⟩
    · rcases p with ⟨Z, g1, g2⟩ | ⟨g1, _⟩
      · rw [g2, g1.un y1]
        rcases q with ⟨k1, _, k2, k3⟩ | ⟨k1, k2⟩
        · rw [k1]
          exact (y4 c k2 (by omega)).symm
        · rw [k1]
          by_cases cc : 0 ≤ c
          · exact L_at_end (by by_cases c2 : c < Y.length; exact absurd ⟨y2, cc, by omega⟩ k2; omega)
          · unfold L_at; rw [if_neg cc]
      · exact absurd y1 (g1 Y)
    · rcases p with ⟨Z, g1, g2⟩ | ⟨_, g1⟩
      · exact absurd g1 (y1 Z)
      · rcases q with ⟨_, k2, _⟩ | ⟨k1, _⟩
        · exact absurd k2 y2
        · rw [g1, k1]
  exact ⟨v1, rfl, rfl⟩
theorem J_7 {z t : Nat} {h : E_H} {sl : Nat} {s : C_S} {u : R_S} {tb sh pa pl ma re : Nat} {X : List Int} {fs : Int → Option (List Int)} {ca th tg f pq : Int} {Q : Option P_T} {O : List Int} {H : List (List Int)} {n3 n4 n5 n6 : Int} {W RC RS : Nat} {a : Int} {c : Int} (hc : C_is h h s) (hr : R_is h h u) (jc : J_c s 0 tb sh pa pl ma re X fs ca th tg f pq Q O H n3 n4 n5 n6 W) (jr : J_r u X fs ca th tg f pq Q O H n3 n4 n5 n6) (ji : J_in fs ca th tg Q O H n3 n4 n5 n6 t) (r1 : sl + 5 * X.length ≤ z + 2 * W + 150 * t) (r2 : 8 * C_n s ≤ 2000 + W + 2160 * t) (t5 : t ≤ 512) (b : J_bd z t RC RS) (z_a : Zr a) (z_c : Zr c) : L_two 300 152 186 RC RS [Zi a, Zi c] h sl (J_st z (t + 1)) := by
  obtain ⟨ea, u0, v0, tr, A2, m2, sm, τ, β, G, P, ω, Am, ru, rv, hg, hby, hd, hq, htr, hzb, hp, hQ, hm, e0, hrp, eW⟩ := id jc
  obtain ⟨w, hf, e8, e7, e3, e1, e84, e20, e21, hol, hhl, e70, e71, e72, e73, hto⟩ := id jr
  obtain ⟨i1, i2, i3, i4, i5, i6, i7, i8, i9, i10, i11, i12, i13, i14, i15, i16, i17, i18, i19, i20⟩ := id ji
  refine J_keep (as := [a, c]) hc hr jc jr ji r1 r2 (b · tb sh pa pl ma re) ((C_posting 296 hg hd z_a z_c).jk jc) ((R_posting 298 u z_a z_c w hf).jk jr) (fun x y p q => ?_)
  obtain ⟨v1, rfl, p⟩ := p
  obtain ⟨v2, rfl, q⟩ := q
  rw [e8] at q
  have ne : ∀ z1 z2 : Int, 0 ≤ z1 → z1 < z2 → D_hg fs ca a z1 → (D_ct (D_hg fs ca a) z1.toNat : Int) = c → (D_ct (D_hg fs ca a) z2.toNat : Int) = c → False := fun z1 z2 a0 a1 a2 a3 a4 => by
    have := D_ct_lt (P := D_hg fs ca a) a0 a2 z2.toNat (by omega)
    omega
  have nc : ∀ z1 : Int, 0 ≤ z1 → z1 < ca → D_hg fs ca a z1 → (D_ct (D_hg fs ca a) z1.toNat : Int) = c → (D_ct (D_hg fs ca a) ca.toNat : Int) ≤ c → False := fun z1 a0 a1 a2 a3 a4 => by
    have := D_ct_lt (P := D_hg fs ca a) a0 a2 ca.toNat (by omega)
    omega
  obtain rfl : v1 = v2 := by
    rcases p with ⟨p1, p2⟩ | ⟨p1, p2, p3, p4, p5⟩
    · rcases q with ⟨q1, q2⟩ | ⟨q1, q2, q3, q4, q5⟩
      · omega
      · rcases p2 with p2 | p2
        · omega
        · exact (nc v2 q2 q3 q4 q5 p2).elim
    · rcases q with ⟨q1, q2⟩ | ⟨q1, q2, q3, q4, q5⟩
      · rcases q2 with q2 | q2
        · omega
        · exact (nc v1 p2 p3 p4 p5 q2).elim
      · rcases Int.lt_trichotomy v1 v2 with e | e | e
        · exact (ne v1 v2 p2 e p4 p5 q5).elim
        · exact e
        · exact (ne v2 v1 q2 e q4 q5 p5).elim
  exact ⟨v1, rfl, rfl⟩
theorem J_9 {z t : Nat} {h : E_H} {sl : Nat} {s : C_S} {u : R_S} {tb sh pa pl ma re : Nat} {X : List Int} {fs : Int → Option (List Int)} {ca th tg f pq : Int} {Q : Option P_T} {O : List Int} {H : List (List Int)} {n3 n4 n5 n6 : Int} {W RC RS : Nat} {a : Int} (hc : C_is h h s) (hr : R_is h h u) (jc : J_c s 0 tb sh pa pl ma re X fs ca th tg f pq Q O H n3 n4 n5 n6 W) (jr : J_r u X fs ca th tg f pq Q O H n3 n4 n5 n6) (ji : J_in fs ca th tg Q O H n3 n4 n5 n6 t) (r1 : sl + 5 * X.length ≤ z + 2 * W + 150 * t) (r2 : 8 * C_n s ≤ 2000 + W + 2160 * t) (t5 : t ≤ 512) (b : J_bd z t RC RS) (z_a : Zr a) : L_two 300 154 277 RC RS [Zi a] h sl (J_st z (t + 1)) := by
  obtain ⟨ea, u0, v0, tr, A2, m2, sm, τ, β, G, P, ω, Am, ru, rv, hg, hby, hd, hq, htr, hzb, hp, hQ, hm, e0, hrp, eW⟩ := id jc
  obtain ⟨w, hf, e8, e7, e3, e1, e84, e20, e21, hol, hhl, e70, e71, e72, e73, hto⟩ := id jr
  obtain ⟨i1, i2, i3, i4, i5, i6, i7, i8, i9, i10, i11, i12, i13, i14, i15, i16, i17, i18, i19, i20⟩ := id ji
  refine J_keep (as := [a]) hc hr jc jr ji r1 r2 (b · tb sh pa pl ma re) ((C_fault 299 hg hq.1 z_a).jk jc) ((R_fault 299 u z_a).jk jr) (fun x y p q => ?_)
  obtain ⟨v2, rfl, q⟩ := q
  refine ⟨v2, ?_, rfl⟩
  rw [p, hq.2.2.2.1, hq.2.2.2.2]
  rcases q with ⟨q1, rfl⟩ | ⟨q1, rfl⟩ | ⟨q1, q2, q3⟩
  · rw [if_pos rfl, q1, e20]
  · rw [if_neg (by decide), if_pos rfl, q1, e21]
  · rw [if_neg q2, if_neg q3, q1]
theorem J_10 {z t : Nat} {h : E_H} {sl : Nat} {s : C_S} {u : R_S} {tb sh pa pl ma re : Nat} {X : List Int} {fs : Int → Option (List Int)} {ca th tg f pq : Int} {Q : Option P_T} {O : List Int} {H : List (List Int)} {n3 n4 n5 n6 : Int} {W RC RS : Nat} {a : Int} {c : Int} (hc : C_is h h s) (hr : R_is h h u) (jc : J_c s 0 tb sh pa pl ma re X fs ca th tg f pq Q O H n3 n4 n5 n6 W) (jr : J_r u X fs ca th tg f pq Q O H n3 n4 n5 n6) (ji : J_in fs ca th tg Q O H n3 n4 n5 n6 t) (r1 : sl + 5 * X.length ≤ z + 2 * W + 150 * t) (r2 : 8 * C_n s ≤ 2000 + W + 2160 * t) (t5 : t ≤ 512) (b : J_bd z t RC RS) (z_a : Zr a) (z_c : Zr c) : L_two 300 155 278 RC RS [Zi a, Zi c] h sl (J_st z (t + 1)) := by
  obtain ⟨ea, u0, v0, tr, A2, m2, sm, τ, β, G, P, ω, Am, ru, rv, hg, hby, hd, hq, htr, hzb, hp, hQ, hm, e0, hrp, eW⟩ := id jc
  obtain ⟨w, hf, e8, e7, e3, e1, e84, e20, e21, hol, hhl, e70, e71, e72, e73, hto⟩ := id jr
  obtain ⟨i1, i2, i3, i4, i5, i6, i7, i8, i9, i10, i11, i12, i13, i14, i15, i16, i17, i18, i19, i20⟩ := id ji
  refine J_keep (as := [a, c]) hc hr jc jr ji r1 r2 (b · tb sh pa pl ma re) ((C_hit 297 hg hrp z_a z_c (by omega)).jk jc) ((R_hit 299 u z_a z_c (by rw [hhl.1]; omega)).jk jr) (fun x y p q => ?_)
  obtain ⟨v2, rfl, q⟩ := q
  refine ⟨v2, ?_, rfl⟩
  rw [p]
  rw [hhl.1] at q
  rcases q with ⟨q1, q2, q3⟩ | ⟨q1, q2⟩
  · obtain ⟨n, rfl⟩ := Int.eq_ofNat_of_zero_le q1
    have hn : n < H.length := by omega
    rcases q3 with ⟨q3, rfl⟩ | ⟨q3, rfl⟩ | ⟨q3, rfl⟩ | ⟨q3, rfl⟩
    · rw [if_pos (by omega), q3, show (0 : Int) = ((0 : Nat) : Int) from rfl, L_at_fl H i12 n hn 0 (by decide), ← hhl.2.2 n hn 0 (by decide)]
    · rw [if_pos (by omega), q3, show (1 : Int) = ((1 : Nat) : Int) from rfl, L_at_fl H i12 n hn 1 (by decide), ← hhl.2.2 n hn 1 (by decide)]
    · rw [if_pos (by omega), q3, show (2 : Int) = ((2 : Nat) : Int) from rfl, L_at_fl H i12 n hn 2 (by decide), ← hhl.2.2 n hn 2 (by decide)]
    · rw [if_pos (by omega), q3, show (3 : Int) = ((3 : Nat) : Int) from rfl, L_at_fl H i12 n hn 3 (by decide), ← hhl.2.2 n hn 3 (by decide)]
  · rw [q1, if_neg q2]
theorem J_11 {z t : Nat} {h : E_H} {sl : Nat} {s : C_S} {u : R_S} {tb sh pa pl ma re : Nat} {X : List Int} {fs : Int → Option (List Int)} {ca th tg f pq : Int} {Q : Option P_T} {O : List Int} {H : List (List Int)} {n3 n4 n5 n6 : Int} {W RC RS : Nat} {a : Int} (hc : C_is h h s) (hr : R_is h h u) (jc : J_c s 0 tb sh pa pl ma re X fs ca th tg f pq Q O H n3 n4 n5 n6 W) (jr : J_r u X fs ca th tg f pq Q O H n3 n4 n5 n6) (ji : J_in fs ca th tg Q O H n3 n4 n5 n6 t) (r1 : sl + 5 * X.length ≤ z + 2 * W + 150 * t) (r2 : 8 * C_n s ≤ 2000 + W + 2160 * t) (t5 : t ≤ 512) (b : J_bd z t RC RS) (z_a : Zr a) : L_two 300 156 279 RC RS [Zi a] h sl (J_st z (t + 1)) := by
  obtain ⟨ea, u0, v0, tr, A2, m2, sm, τ, β, G, P, ω, Am, ru, rv, hg, hby, hd, hq, htr, hzb, hp, hQ, hm, e0, hrp, eW⟩ := id jc
  obtain ⟨w, hf, e8, e7, e3, e1, e84, e20, e21, hol, hhl, e70, e71, e72, e73, hto⟩ := id jr
  obtain ⟨i1, i2, i3, i4, i5, i6, i7, i8, i9, i10, i11, i12, i13, i14, i15, i16, i17, i18, i19, i20⟩ := id ji
  refine J_keep (as := [a]) hc hr jc jr ji r1 r2 (b · tb sh pa pl ma re) ((C_opened 297 hg hrp z_a).jk jc) ((R_opened 299 u z_a (by rw [hol.1]; omega)).jk jr) (fun x y p q => ?_)
  obtain ⟨v2, rfl, q⟩ := q
  refine ⟨v2, ?_, rfl⟩
  rw [p]
  rw [hol.1] at q
  rcases q with ⟨q1, q2, q3⟩ | ⟨q1, q2⟩
  · obtain ⟨n, rfl⟩ := Int.eq_ofNat_of_zero_le q2
    have hn : n < O.length := by omega
    rw [q1, L_at_get hn, hol.2 n hn]
  · rw [q1]
    by_cases cc : 0 ≤ a
    · rw [L_at_end (by omega)]
    · unfold L_at; rw [if_neg cc]
