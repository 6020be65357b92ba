/-! the joining: counts, the tape -/
theorem J_c.tape {s : C_S} {tb sh pa pl ma re : Nat} {X : List Int} {fs : Int → Option (List Int)} {ca th tg f pq : Int} {Q : Option P_T} {O : List Int} {H : List (List Int)} {n3 n4 n5 n6 : Int} {W : Nat} {s2 : C_S} {X2 : List Int} (jc : J_c s 0 tb sh pa pl ma re X fs ca th tg f pq Q O H n3 n4 n5 n6 W) (w : C_wf s) (k : C_fr (fun q => q = []) s s2) (hg2 : D_G s2 0 tb sh pa pl ma re X2.length) (hb2 : D_by s2 tb 1000 X2) : J_c s2 0 tb sh pa pl ma re X2 fs ca th tg f pq Q O H n3 n4 n5 n6 W := by
  obtain ⟨ea, u0, v0, tr, A2, m2, sm, τ, β, G, P, ω, Am, ru, rv, hg, hby, hd, hq, htr, hzb, hp, hQ, hm, e0, hrp, eW⟩ := jc
  obtain ⟨hd, e1⟩ := hd.fr w k (fun t h e => by rw [e] at h; exact L_pr0 h)
  obtain ⟨hrp, e2⟩ := hrp.fr w k (fun t h e => by rw [e] at h; exact L_pr0 h)
  have hp := hp.fr w k (fun t h e => by rw [e] at h; exact L_pr0 h)
  have hq := hq.fr w k (fun e => by cases e)
  have htr := htr.fr w k (fun e => by cases e)
  have e0 : C_P s2 ma 0 = some tr := (D_M0.p0 hm w k (fun e => by cases e)).trans e0
  have hm := hm.fr w k (fun e => by cases e)
  exact ⟨ea, u0, v0, tr, A2, m2, sm, τ, β, G, P, ω, Am, ru, rv, hg2, hb2, hd, hq, htr, hzb, hp, hQ, hm, e0, hrp, by omega⟩
theorem J_r.tape {u : R_S} {X : List Int} {fs : Int → Option (List Int)} {ca th tg f pq : Int} {Q : Option P_T} {O : List Int} {H : List (List Int)} {n3 n4 n5 n6 : Int} {u2 : R_S} {X2 : List Int} (jr : J_r u X fs ca th tg f pq Q O H n3 n4 n5 n6) (F : ∀ b, b ≠ 1 → u2.1 b = u.1 b) (A : ∀ q, q ≠ 84 → ∀ j, u2.2.1 q j = u.2.1 q j) (k : u2.2.2 = u.2.2) (e1 : u2.1 1 = X2.length) (l : X2.length ≤ 1000) (hb : ∀ j, 0 ≤ u2.2.1 84 j ∧ u2.2.1 84 j < 256) (h84 : ∀ i : Int, 0 ≤ i → i < X2.length → u2.2.1 84 i = L_at X2 i) : J_r u2 X2 fs ca th tg f pq Q O H n3 n4 n5 n6 := by
  obtain ⟨w, hf, e8, e7, e3, _, _, e20, e21, hol, hhl, e70, e71, e72, e73, hto⟩ := jr
  obtain ⟨⟨a1, a2, a3⟩, b1, b2, b3, b4, b5, b6, b7⟩ := w
  have iF : ∀ g, R_isF u2 g ↔ R_isF u g := fun g => by unfold R_isF; rw [F 8 (by decide), A 88 (by decide)]
  refine ⟨⟨⟨by rw [F 8 (by decide)]; exact a1, by rw [F 8 (by decide)]; exact a2, fun g => by rw [A 88 (by decide)]; exact a3 g⟩, by omega, by omega, by rw [F 3 (by decide)]; exact b3, by rw [F 3 (by decide)]; exact b4, fun g hg hx => ?_, fun j => by rw [A 85 (by decide)]; exact b6 j, hb⟩, fun g g0 g1 => ?_, (F 8 (by decide)).trans e8, (F 7 (by decide)).trans e7, (F 3 (by decide)).trans e3, e1, h84, (F 20 (by decide)).trans e20, (F 21 (by decide)).trans e21, ⟨(F 68 (by decide)).trans hol.1, fun i hi => (A 131 (by decide) i).trans (hol.2 i hi)⟩, ⟨(F 63 (by decide)).trans hhl.1, hhl.2.1, fun i hi q hq => (A (127 + q) (by omega) i).trans (hhl.2.2 i hi q hq)⟩, (F 70 (by decide)).trans e70, (F 71 (by decide)).trans e71, (F 72 (by decide)).trans e72, by rw [k]; exact e73, ?_⟩
  · obtain ⟨c1, c2, c3, c4, c5⟩ := b5 g ((iF g).mp hg) hx
    unfold R_lie
    simp only [A 86 (by decide), A 87 (by decide), F 3 (by decide)]
    exact ⟨c1, c2, c3, c4, fun g2 h2 h3 h4 => c5 g2 ((iF g2).mp h2) h3 h4⟩
  · unfold R_by
    simp only [A 88 (by decide), A 87 (by decide), A 86 (by decide), A 85 (by decide)]
    exact hf g g0 (by rw [← F 8 (by decide)]; exact g1)
  · cases Q with
    | none => trivial
    | some t =>
      obtain ⟨t1, t2, t3, t4⟩ := hto
      exact ⟨t1.keep (F 56 (by decide)) (A 122 (by decide)) (A 123 (by decide)), t2.keep (A 124 (by decide) _) (fun j _ _ => A 125 (by decide) j) (fun j _ _ => A 126 (by decide) j), t3.keep (A 124 (by decide) _) (fun j _ _ => A 125 (by decide) j) (fun j _ _ => A 126 (by decide) j), t4.keep (A 124 (by decide) _) (fun j _ _ => A 125 (by decide) j) (fun j _ _ => A 126 (by decide) j)⟩
theorem J_16 {z t : Nat} {h : E_H} {sl : Nat} {s : C_S} {u : R_S} {tb sh pa pl ma re : Nat} {X : List Int} {fs : Int → Option (List Int)} {ca th tg f pq : Int} {Q : Option P_T} {O : List Int} {H : List (List Int)} {n3 n4 n5 n6 : Int} {W RC RS : Nat} {a : Int} (hc : C_is h h s) (hr : R_is h h u) (jc : J_c s 0 tb sh pa pl ma re X fs ca th tg f pq Q O H n3 n4 n5 n6 W) (jr : J_r u X fs ca th tg f pq Q O H n3 n4 n5 n6) (ji : J_in fs ca th tg Q O H n3 n4 n5 n6 t) (r1 : sl + 5 * X.length ≤ z + 2 * W + 150 * t) (r2 : 8 * C_n s ≤ 2000 + W + 2160 * t) (t5 : t ≤ 512) (b : J_bd z t RC RS) (z_a : Zr a) : L_two 300 161 284 RC RS [Zi a] h sl (J_st z (t + 1)) := by
  obtain ⟨ea, u0, v0, tr, A2, m2, sm, τ, β, G, P, ω, Am, ru, rv, hg, hby, hd, hq, htr, hzb, hp, hQ, hm, e0, hrp, eW⟩ := id jc
  obtain ⟨w, hf, e8, e7, e3, e1, e84, e20, e21, hol, hhl, e70, e71, e72, e73, hto⟩ := id jr
  obtain ⟨i1, i2, i3, i4, i5, i6, i7, i8, i9, i10, i11, i12, i13, i14, i15, i16, i17, i18, i19, i20⟩ := id ji
  have hsm : D_sm (D_ln fs) ca.toNat ≤ 16000 := by omega
  have t6 : (Int64.ofInt n6).toInt = n6 := Int64.toInt_ofInt_of_le (by omega) (by omega)
  have c : C_ok 300 161 [.ref 0, .int (Zi a)] s (fun x s2 n => (∃ W2, n + 2 * W ≤ 2 * W2 ∧ 8 * C_n s2 + W ≤ 8 * C_n s + W2 ∧ J_c s2 0 tb sh pa pl ma re X fs ca th tg f pq Q O H n3 n4 n5 n6 W2) ∧ x = some (.int (Zi (R_cq u fs a)))) := by
    refine (C_count 294 hg hd hrp hsm z_a).weak (fun x s2 n q => ?_)
    rcases q with ⟨rfl, rfl, ⟨u9, v9, q3⟩, q4, q5, q6⟩ | ⟨q1, rfl, rfl, rfl⟩
    · refine ⟨?_, ?_⟩
      · skip
        have hr := hrp
        have hps : D_ps s sh = D_ps s sh := rfl
        have hpr : D_pr s re = D_pr s re := rfl
        have hby := hby.fr hc.1 q6 (by rw [hg.2.2.2.2.1]; exact L_pr0)
        have hg := hg.fr hc.1 q6 L_pr0
        have hq := hq.fr hc.1 q6 (fun e => by have := L_pr1 (a := 2) (L_pre_self _) e; omega)
        have htr := htr.fr hc.1 q6 (fun e => by have := L_pr1 (a := 2) ⟨[tr], rfl⟩ e; omega)
        have hp := hp.fr hc.1 q6 (fun t h e => by have := L_pr1 h e; omega)
        have e0 : C_P _ ma 0 = some tr := (D_M0.p0 hm hc.1 q6 (fun e => by have := L_pr1 (a := 4) (L_pre_self _) e; omega)).trans e0
        have hm := hm.fr hc.1 q6 (fun e => by have := L_pr1 (a := 4) (L_pre_self _) e; omega)
        have hrx := hr.fr hc.1 q6 (fun t h e => by have := L_pr1 h e; omega)
        obtain ⟨hr, epr⟩ := hrx
        have hpr := epr.trans hpr
        exact ⟨Pl_w ω + D_ps s2 sh + D_pr s re, by omega, by omega, ea, u9, v9, tr, A2, m2, sm, τ, β, G, P, ω, Am, ru, rv, hg, hby, q3, hq, htr, hzb, hp, hQ, hm, e0, hr, by omega⟩
      · unfold R_cq R_goq
        rw [if_neg (by decide), if_neg (by decide), if_neg (by decide), if_pos rfl, if_neg (by decide), e8]
    · refine ⟨⟨W, by omega, by omega, jc⟩, ?_⟩
      unfold R_cq R_goq
      rw [e7, e3, e8, e1, e70, e71, e72, e73, t6]
      by_cases c3 : a = 3
      · exact absurd c3 q1
      · rw [if_neg c3, if_pos rfl]
  refine J_keep (as := [a]) (P2 := fun y => y = some (.int (Zi (R_cq u fs a)))) hc hr jc jr ji r1 r2 (b · tb sh pa pl ma re) c ((R_count 296 u z_a w hf (by rw [e8]; exact hsm) (by rw [e73, t6]; exact ⟨by omega, by omega⟩)).weak (fun y u2 q => ⟨jr.f4 q.1, q.2⟩)) (fun x y p q => ⟨_, p, q⟩)
theorem C_sF_same (s : C_S) (o b : Nat) (z : Int) : C_F (C_sF s o b z) o b = z := if_pos ⟨rfl, rfl⟩
theorem C_w1_fr {s u : C_S} {tb : Nat} {m w : Int} (h : C_fr (fun q => q = []) s u) (g0 : C_T u 0 = []) (t0 : C_T u tb = []) : C_fr (fun q => q = []) s (C_w1 u 0 tb m w) := (h.sA t0).sF g0
theorem C_wn_fr {s u : C_S} {tb : Nat} {m v : Int} (h : C_fr (fun q => q = []) s u) (g0 : C_T u 0 = []) (t0 : C_T u tb = []) : C_fr (fun q => q = []) s (C_wn u 0 tb m v) := C_w1_fr (C_w1_fr (C_w1_fr (C_w1_fr h g0 t0) g0 t0) g0 t0) g0 t0
theorem L_at_take {X : List Int} {n : Nat} {k : Int} (k1 : k < n) : L_at (X.take n) k = L_at X k := by
  unfold L_at
  by_cases c : 0 ≤ k
  · rw [if_pos c, if_pos c, List.getD_eq_getElem?_getD, List.getD_eq_getElem?_getD, List.getElem?_take_of_lt (by omega)]
  · rw [if_neg c, if_neg c]
theorem J_1 {z t : Nat} {h : E_H} {sl : Nat} {s : C_S} {u : R_S} {tb sh pa pl ma re : Nat} {X : List Int} {fs : Int → Option (List Int)} {ca th tg f pq : Int} {Q : Option P_T} {O : List Int} {H : List (List Int)} {n3 n4 n5 n6 : Int} {W RC RS : Nat} {a : Int} (hc : C_is h h s) (hr : R_is h h u) (jc : J_c s 0 tb sh pa pl ma re X fs ca th tg f pq Q O H n3 n4 n5 n6 W) (jr : J_r u X fs ca th tg f pq Q O H n3 n4 n5 n6) (ji : J_in fs ca th tg Q O H n3 n4 n5 n6 t) (r1 : sl + 5 * X.length ≤ z + 2 * W + 150 * t) (r2 : 8 * C_n s ≤ 2000 + W + 2160 * t) (t5 : t ≤ 512) (b : J_bd z t RC RS) (z_a : Zr a) : L_two 300 146 176 RC RS [Zi a] h sl (J_st z (t + 1)) := by
  obtain ⟨ea, u0, v0, tr, A2, m2, sm, τ, β, G, P, ω, Am, ru, rv, hg, hby, hd, hq, htr, hzb, hp, hQ, hm, e0, hrp, eW⟩ := id jc
  obtain ⟨w, hf, e8, e7, e3, e1, e84, e20, e21, hol, hhl, e70, e71, e72, e73, hto⟩ := id jr
  obtain ⟨i1, i2, i3, i4, i5, i6, i7, i8, i9, i10, i11, i12, i13, i14, i15, i16, i17, i18, i19, i20⟩ := id ji
  have w0 := hc.1
  have bb := b _ tb sh pa pl ma re _ _ _ _ _ _ _ _ _ _ _ _ _ _ _ jc
  refine J_go (as := [a]) hc hr hg.1 (C_end 299 hg z_a) (R_end 299 u z_a) (fun x s2 n y u2 p q => ?_)
  obtain ⟨rfl, v1, rfl, p⟩ := p
  obtain ⟨v2, rfl, q⟩ := q
  rw [e1] at q
  rcases p with ⟨rfl, rfl, p⟩ | ⟨rfl, rfl, p1, p2⟩
  · rcases q with ⟨rfl, rfl, q⟩ | ⟨_, _, q1, q2⟩
    · exact ⟨0, rfl, rfl, by omega, by omega, fun h2 hc2 hr2 => ⟨s2, u2, tb, sh, pa, pl, ma, re, X, fs, ca, th, tg, f, pq, Q, O, H, n3, n4, n5, n6, W, hc2, hr2, jc, jr, ji.up, by omega, by omega⟩⟩
    · exact absurd ⟨q1, q2⟩ p
  · rcases q with ⟨_, _, q⟩ | ⟨rfl, rfl, q1, q2⟩
    · exact absurd ⟨p1, p2⟩ q
    · have el : ((X.take a.toNat).length : Int) = a := by rw [List.length_take]; omega
      have hl : (X.take a.toNat).length ≤ X.length := by rw [List.length_take]; omega
      have g0 : C_T s 0 = [] := hg.2.1
      have k : C_fr (fun q => q = []) s (C_sF s 0 1 a) := (C_fr.refl _ _).sF g0
      have m1 := hg.2.2.2.2.2.2.2.2.2.2.2.2
      have jc2 : J_c (C_sF s 0 1 a) 0 tb sh pa pl ma re (X.take a.toNat) fs ca th tg f pq Q O H n3 n4 n5 n6 W := by
        refine jc.tape w0 k ?_ ?_
        · obtain ⟨x1, x2, x3, x4, x5, x6, x7, x8, x9, x10, x11, x12, x13⟩ := hg
          rw [el]
          exact ⟨x1, x2, x3, x4, x5, x6, x7, x8, x9, x10, C_sF_same s 0 1 a, by omega, by omega⟩
        · obtain ⟨y1, y2, y3, y4⟩ := hby
          exact ⟨y1, by omega, fun x hx => y3 x (List.mem_of_mem_take hx), fun k k0 k1 => by rw [L_at_take (by omega)]; exact y4 k k0 (by omega)⟩
      have jr2 : J_r (R_sF u 1 a) (X.take a.toNat) fs ca th tg f pq Q O H n3 n4 n5 n6 := by
        refine jr.tape (fun b hb => R_sF_n _ _ hb) (fun _ _ _ => rfl) rfl (by rw [R_sF_s]; exact el.symm) (by omega) w.tb (fun i i0 i1 => ?_)
        rw [L_at_take (by omega)]
        exact e84 i i0 (by omega)
      have en : C_n (C_sF s 0 1 a) = C_n s := rfl
      exact ⟨1, rfl, rfl, by omega, by omega, fun h2 hc2 hr2 => ⟨_, _, tb, sh, pa, pl, ma, re, _, fs, ca, th, tg, f, pq, Q, O, H, n3, n4, n5, n6, W, hc2, hr2, jc2, jr2, ji.up, by omega, by omega⟩⟩
