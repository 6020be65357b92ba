/-! the joining: files that come, change -/
theorem J_c.clr {s : C_S} {tb sh pa pl ma re : Nat} {X : List Int} {fs : Int → Option (List Int)} {ca th tg f pq : Int} {Q : Option P_T} {O : List Int} {H : List (List Int)} {n3 n4 n5 n6 : Int} {W : Nat} (jc : J_c s 0 tb sh pa pl ma re X fs ca th tg f pq Q O H n3 n4 n5 n6 W) (w : C_wf s) : J_c (C_sF s 0 1 0) 0 tb sh pa pl ma re [] fs ca th tg f pq Q O H n3 n4 n5 n6 W := by
  have hg : ∃ m, D_G s 0 tb sh pa pl ma re m := by obtain ⟨ea, u0, v0, tr, A2, m2, sm, τ, β, G, P, ω, Am, ru, rv, hg, _⟩ := jc; exact ⟨_, hg⟩
  obtain ⟨m, hg⟩ := hg
  obtain ⟨x1, x2, x3, x4, x5, x6, x7, x8, x9, x10, x11, x12, x13⟩ := hg
  have hg2 : D_G (C_sF s 0 1 0) 0 tb sh pa pl ma re 0 := ⟨x1, x2, x3, x4, x5, x6, x7, x8, x9, x10, C_sF_same s 0 1 0, by omega, by omega⟩
  exact jc.tape w ((C_fr.refl _ _).sF x2) hg2 (J_by0 hg2)
theorem J_2 {z t : Nat} {h : E_H} {sl : Nat} {s : C_S} {u : R_S} {tb sh pa pl ma re : Nat} {X : List Int} {fs : Int → Option (List Int)} {ca th tg f pq : Int} {Q : Option P_T} {O : List Int} {H : List (List Int)} {n3 n4 n5 n6 : Int} {W RC RS : Nat} (hc : C_is h h s) (hr : R_is h h u) (jc : J_c s 0 tb sh pa pl ma re X fs ca th tg f pq Q O H n3 n4 n5 n6 W) (jr : J_r u X fs ca th tg f pq Q O H n3 n4 n5 n6) (ji : J_in fs ca th tg Q O H n3 n4 n5 n6 t) (r1 : sl + 5 * X.length ≤ z + 2 * W + 150 * t) (r2 : 8 * C_n s ≤ 2000 + W + 2160 * t) (t5 : t ≤ 512) (b : J_bd z t RC RS) : L_two 300 147 180 RC RS [] h sl (J_st z (t + 1)) := by
  obtain ⟨ea, u0, v0, tr, A2, m2, sm, τ, β, G, P, ω, Am, ru, rv, hg, hby, hd, hq, htr, hzb, hp, hQ, hm, e0, hrp, eW⟩ := id jc
  obtain ⟨w, hf, e8, e7, e3, e1, e84, e20, e21, hol, hhl, e70, e71, e72, e73, hto⟩ := id jr
  obtain ⟨i1, i2, i3, i4, i5, i6, i7, i8, i9, i10, i11, i12, i13, i14, i15, i16, i17, i18, i19, i20⟩ := id ji
  have w0 := hc.1
  have bb := b _ tb sh pa pl ma re _ _ _ _ _ _ _ _ _ _ _ _ _ _ _ jc
  refine J_go (as := []) hc hr hg.1 (C_add9 294 hg hd (by decide) i2 i3 i4 i5 hby rfl) (R_add 298 u w (by omega) (by omega)) (fun x s2 n y u2 p q => ?_)
  obtain ⟨p1, p2, p3, v1, rfl, p⟩ := p
  rcases p with ⟨rfl, rfl, rfl, p⟩ | ⟨rfl, p4, s1, rfl, w1, kf, eps, hg1, hd1⟩
  · rcases q with ⟨rfl, rfl, q⟩ | ⟨_, q, _⟩
    · exact ⟨-1, rfl, rfl, by omega, by omega, fun h2 hc2 hr2 => ⟨s2, u2, tb, sh, pa, pl, ma, re, X, fs, ca, th, tg, f, pq, Q, O, H, n3, n4, n5, n6, W, hc2, hr2, jc, jr, ji.up, by omega, by omega⟩⟩
    · exact absurd (by omega) q
  · rcases q with ⟨_, _, q⟩ | ⟨rfl, _, q2, q3, q4, q5, q6, q7, q8, q9, q10, q11⟩
    · exact absurd (by omega) p4
    · have hr := hrp
      have hps : D_ps s sh = D_ps s sh := rfl
      have hpr : D_pr s re = D_pr s re := rfl
      have hby1 := hby.fr w0 kf (by rw [hg.2.2.2.2.1]; exact L_pr0)
      have hq := hq.fr w0 kf (fun e => by have := L_pr1 (a := 2) (L_pre_self _) e; omega)
      have htr := htr.fr w0 kf (fun e => by have := L_pr1 (a := 2) ⟨[tr], rfl⟩ e; omega)
      have hp := hp.fr w0 kf (fun t h e => by have := L_pr1 h e; omega)
      have e0 : C_P _ ma 0 = some tr := (D_M0.p0 hm w0 kf (fun e => by have := L_pr1 (a := 4) (L_pre_self _) e; omega)).trans e0
      have hm := hm.fr w0 kf (fun e => by have := L_pr1 (a := 4) (L_pre_self _) e; omega)
      have hrx := hr.fr w0 kf (fun t h e => by have := L_pr1 h e; omega)
      obtain ⟨hr, epr⟩ := hrx
      have hpr := epr.trans hpr
      have jc1 : J_c s1 0 tb sh pa pl ma re X (fun i => if i = v1 then some X else fs i) (v1 + 1) (th + 1) (tg + X.length) f pq Q O H n3 n4 n5 n6 W := ⟨ea, u0, v0, tr, A2, m2, sm, τ, β, G, P, ω, Am, ru, rv, hg1, hby1, hd1, hq, htr, hzb, hp, hQ, hm, e0, hr, by omega⟩
      have jc2 := jc1.clr w1
      have hf3 : R_fs u2 (fun i => if i = v1 then some X else fs i) := hf.upd (f := v1) q2.w1 (fun g hg => q11 g (by omega)) (fun g hg => if_neg hg) (fun g g1 _ h => by omega) (fun a0 a1 => .inr ⟨by rw [← e8]; exact q8.2.2, X, if_pos rfl, by rw [← e8, q9, e1], fun i i0 i1 => by rw [← e8, q10 i i0 (by omega)]; exact (e84 i i0 i1).symm⟩)
      have jr2 : J_r u2 [] (fun i => if i = v1 then some X else fs i) (v1 + 1) (th + 1) (tg + X.length) f pq Q O H n3 n4 n5 n6 := jr.files q2 (fun b h1 h3 h7 h8 => q3.1 b (by simp; omega)) (fun q hq => q3.2.1 q (by simp; omega)) q3.2.2 hf3 (by omega) (by omega) (by omega) q4 (fun i i0 i1 => by have i1 : i < ((0 : Nat) : Int) := i1; omega)
      have hcn : D_cn (fun g => ∃ Y, (fun i => if i = v1 then some X else fs i) g = some Y) (v1 + 1) (th + 1) := D_cn_yes (D_cn_iff i1 (fun j _ hj => by dsimp only; rw [if_neg (by omega)])) i7 ⟨X, if_pos rfl⟩
      have hs1 := D_sm_s (φ := D_ln (fun i => if i = v1 then some X else fs i)) i7
      have hs2 := D_sm_eq (φ := D_ln (fun i => if i = v1 then some X else fs i)) (ψ := D_ln fs) v1.toNat (fun j _ hj => by unfold D_ln; dsimp only; rw [if_neg (by omega)])
      have hs3 : D_ln (fun i => if i = v1 then some X else fs i) v1 = X.length := by unfold D_ln; dsimp only; rw [if_pos rfl]
      have ji2 : J_in (fun i => if i = v1 then some X else fs i) (v1 + 1) (th + 1) (tg + X.length) Q O H n3 n4 n5 n6 t := ⟨hcn, by omega, by omega, by omega, by omega, by omega, by omega, by omega, i9, i10, i11, i12, i13, i14, i15, i16, i17, i18, i19, i20⟩
      have l0 : (([] : List Int).length) = 0 := rfl
      exact ⟨v1, rfl, by rw [e8], by omega, by omega, fun h2 hc2 hr2 => ⟨_, _, tb, sh, pa, pl, ma, re, [], _, _, _, _, f, pq, Q, O, H, n3, n4, n5, n6, W, hc2, hr2, jc2, jr2, ji2.up, by omega, by omega⟩⟩
theorem J_3 {z t : Nat} {h : E_H} {sl : Nat} {s : C_S} {u : R_S} {tb sh pa pl ma re : Nat} {X : List Int} {fs : Int → Option (List Int)} {ca th tg f pq : Int} {Q : Option P_T} {O : List Int} {H : List (List Int)} {n3 n4 n5 n6 : Int} {W RC RS : Nat} {a : Int} (hc : C_is h h s) (hr : R_is h h u) (jc : J_c s 0 tb sh pa pl ma re X fs ca th tg f pq Q O H n3 n4 n5 n6 W) (jr : J_r u X fs ca th tg f pq Q O H n3 n4 n5 n6) (ji : J_in fs ca th tg Q O H n3 n4 n5 n6 t) (r1 : sl + 5 * X.length ≤ z + 2 * W + 150 * t) (r2 : 8 * C_n s ≤ 2000 + W + 2160 * t) (t5 : t ≤ 512) (b : J_bd z t RC RS) (z_a : Zr a) : L_two 300 148 181 RC RS [Zi a] h sl (J_st z (t + 1)) := by
  obtain ⟨ea, u0, v0, tr, A2, m2, sm, τ, β, G, P, ω, Am, ru, rv, hg, hby, hd, hq, htr, hzb, hp, hQ, hm, e0, hrp, eW⟩ := id jc
  obtain ⟨w, hf, e8, e7, e3, e1, e84, e20, e21, hol, hhl, e70, e71, e72, e73, hto⟩ := id jr
  obtain ⟨i1, i2, i3, i4, i5, i6, i7, i8, i9, i10, i11, i12, i13, i14, i15, i16, i17, i18, i19, i20⟩ := id ji
  have w0 := hc.1
  have bb := b _ tb sh pa pl ma re _ _ _ _ _ _ _ _ _ _ _ _ _ _ _ jc
  refine J_go (as := [a]) hc hr hg.1 (C_change9 294 hg hd (by decide) i2 i3 i4 i5 hby rfl z_a) (R_change 298 u z_a w) (fun x s2 n y u2 p q => ?_)
  obtain ⟨p1, p2, p3, v1, rfl, p⟩ := p
  rcases jr.isF a with ⟨Y, y1, y2, y3, _⟩ | ⟨y1, y2⟩
  · rcases p with ⟨rfl, rfl, rfl, p⟩ | ⟨rfl, Z, pz, p4, s1, rfl, w1, kf, eps, hg1, hd1⟩
    · have := p Y y1
      rcases q with ⟨rfl, rfl, q⟩ | ⟨_, _, q, _⟩
      · exact ⟨-1, rfl, rfl, by omega, by omega, fun h2 hc2 hr2 => ⟨s2, u2, tb, sh, pa, pl, ma, re, X, fs, ca, th, tg, f, pq, Q, O, H, n3, n4, n5, n6, W, hc2, hr2, jc, jr, ji.up, by omega, by omega⟩⟩
      · omega
    · obtain rfl := y1.un pz
      rcases q with ⟨_, _, q⟩ | ⟨rfl, q1, q12, q2, q3, q4, q5, q6, q7, q8, q9⟩
      · rcases q with q | q
        · exact absurd y2 q
        · omega
      · have hr := hrp
        have hps : D_ps s sh = D_ps s sh := rfl
        have hpr : D_pr s re = D_pr s re := rfl
        have hby1 := hby.fr w0 kf (by rw [hg.2.2.2.2.1]; exact L_pr0)
        have hq := hq.fr w0 kf (fun e => by have := L_pr1 (a := 2) (L_pre_self _) e; omega)
        have htr := htr.fr w0 kf (fun e => by have := L_pr1 (a := 2) ⟨[tr], rfl⟩ e; omega)
        have hp := hp.fr w0 kf (fun t h e => by have := L_pr1 h e; omega)
        have e0 : C_P _ ma 0 = some tr := (D_M0.p0 hm w0 kf (fun e => by have := L_pr1 (a := 4) (L_pre_self _) e; omega)).trans e0
        have hm := hm.fr w0 kf (fun e => by have := L_pr1 (a := 4) (L_pre_self _) e; omega)
        have hrx := hr.fr w0 kf (fun t h e => by have := L_pr1 h e; omega)
        obtain ⟨hr, epr⟩ := hrx
        have hpr := epr.trans hpr
        have jc1 : J_c s1 0 tb sh pa pl ma re X (fun i => if i = a then some X else fs i) ca th (tg + (X.length - Y.length)) f pq Q O H n3 n4 n5 n6 W := ⟨ea, u0, v0, tr, A2, m2, sm, τ, β, G, P, ω, Am, ru, rv, hg1, hby1, hd1, hq, htr, hzb, hp, hQ, hm, e0, hr, by omega⟩
        have jc2 := jc1.clr w1
        have e8' : u2.1 8 = u.1 8 := q3.1 8 (by simp)
        have hf3 : R_fs u2 (fun i => if i = a then some X else fs i) := hf.upd (f := a) q2.w1 q9 (fun g hg => if_neg hg) (fun g _ _ h => by omega) (fun a0 a1 => .inr ⟨q6.2.2, X, if_pos rfl, by rw [q7, e1], fun i i0 i1 => by rw [q8 i i0 (by omega)]; exact (e84 i i0 i1).symm⟩)
        have jr2 : J_r u2 [] (fun i => if i = a then some X else fs i) ca th (tg + (X.length - Y.length)) f pq Q O H n3 n4 n5 n6 := jr.files q2 (fun b h1 h3 h7 h8 => q3.1 b (by simp; omega)) (fun q hq => q3.2.1 q (by simp; omega)) q3.2.2 hf3 (by omega) (by rw [q3.1 7 (by simp)]; exact e7) (by omega) q4 (fun i i0 i1 => by have i1 : i < ((0 : Nat) : Int) := i1; omega)
        have hln : D_ln fs a = Y.length := by unfold D_ln; rw [y1.2.2]
        have hln2 : D_ln (fun i => if i = a then some X else fs i) a = X.length := by unfold D_ln; dsimp only; rw [if_pos rfl]
        have hsm := D_sm_upd (φ := D_ln (fun i => if i = a then some X else fs i)) (ψ := D_ln fs) y1.1 (fun j hj => by unfold D_ln; dsimp only; rw [if_neg hj]) ca.toNat (by have := y1.2.1; omega)
        have hcn : D_cn (fun g => ∃ Y, (fun i => if i = a then some X else fs i) g = some Y) ca th := D_cn_iff i1 (fun j _ _ => by
          dsimp only
          by_cases e : j = a
          · rw [if_pos e, e]; exact ⟨fun _ => ⟨X, rfl⟩, fun _ => ⟨Y, y1.2.2⟩⟩
          · rw [if_neg e])
        have ji2 : J_in (fun i => if i = a then some X else fs i) ca th (tg + (X.length - Y.length)) Q O H n3 n4 n5 n6 t := ⟨hcn, i2, i3, by omega, by omega, by omega, i7, i8, i9, i10, i11, i12, i13, i14, i15, i16, i17, i18, i19, i20⟩
        have l0 : (([] : List Int).length) = 0 := rfl
        exact ⟨X.length, rfl, by rw [e1], by omega, by omega, fun h2 hc2 hr2 => ⟨_, _, tb, sh, pa, pl, ma, re, [], _, _, _, _, f, pq, Q, O, H, n3, n4, n5, n6, W, hc2, hr2, jc2, jr2, ji2.up, by omega, by omega⟩⟩
  · rcases p with ⟨rfl, rfl, rfl, p⟩ | ⟨_, Z, pz, _⟩
    · rcases q with ⟨rfl, rfl, q⟩ | ⟨_, q1, _⟩
      · exact ⟨-1, rfl, rfl, by omega, by omega, fun h2 hc2 hr2 => ⟨s2, u2, tb, sh, pa, pl, ma, re, X, fs, ca, th, tg, f, pq, Q, O, H, n3, n4, n5, n6, W, hc2, hr2, jc, jr, ji.up, by omega, by omega⟩⟩
      · exact absurd q1 y2
    · exact absurd pz (y1 Z)
