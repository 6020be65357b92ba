/-! the joining: files that go, come, change -/
theorem D_cn_del {P : Int → Prop} {k m f : Int} (h : D_cn P k m) (f0 : 0 ≤ f) (f1 : f < k) (hf : P f) : D_cn (fun g => P g ∧ g ≠ f) k (m - 1) := by
  obtain ⟨l, l1, l2, l3⟩ := h
  have hm : f ∈ l := (l3 f).mpr ⟨f0, f1, hf⟩
  refine ⟨l.erase f, l1.erase f, by rw [List.length_erase_of_mem hm]; have := List.length_pos_of_mem hm; omega, fun j => ?_⟩
  rw [l1.mem_erase_iff, l3]
  exact ⟨fun ⟨a, b, c, d⟩ => ⟨b, c, d, a⟩, fun ⟨b, c, d, a⟩ => ⟨a, b, c, d⟩⟩
theorem D_cn_iff {P R : Int → Prop} {k m : Int} (h : D_cn P k m) (e : ∀ j, 0 ≤ j → j < k → (P j ↔ R j)) : D_cn R k m := by
  obtain ⟨l, l1, l2, l3⟩ := h
  exact ⟨l, l1, l2, fun j => (l3 j).trans ⟨fun ⟨a, b, c⟩ => ⟨a, b, (e j a b).mp c⟩, fun ⟨a, b, c⟩ => ⟨a, b, (e j a b).mpr c⟩⟩⟩
theorem D_sm_eq {φ ψ : Int → Nat} : ∀ (k : Nat), (∀ j : Int, 0 ≤ j → j < k → φ j = ψ j) → D_sm φ k = D_sm ψ k
  | 0, _ => rfl
  | k + 1, h => by
    show D_sm φ k + φ (k : Int) = D_sm ψ k + ψ (k : Int)
    rw [D_sm_eq k (fun j j0 j1 => h j j0 (by omega)), h k (by omega) (by omega)]
theorem D_sm_upd {φ ψ : Int → Nat} {f : Int} (f0 : 0 ≤ f) (h : ∀ j, j ≠ f → φ j = ψ j) : ∀ (k : Nat), f < k → D_sm φ k + ψ f = D_sm ψ k + φ f
  | 0, e => by omega
  | k + 1, e => by
    show D_sm φ k + φ (k : Int) + ψ f = D_sm ψ k + ψ (k : Int) + φ f
    by_cases c : f = k
    · subst c
      rw [D_sm_eq k (fun j j0 j1 => h j (by omega))]
      omega
    · have := D_sm_upd f0 h k (by omega)
      rw [h k (fun e => c e.symm)]
      omega
theorem R_fs.upd {u u3 : R_S} {fs fs3 : Int → Option (List Int)} {f : Int} (w : R_w1 u3) (hf : R_fs u fs) (hk : ∀ g, g ≠ f → R_kept u u3 g) (ho : ∀ g, g ≠ f → fs3 g = fs g) (h8 : ∀ g, g ≠ f → 0 ≤ g → g < u3.1 8 → g < u.1 8) (h1 : 0 ≤ f → f < u3.1 8 → (u3.2.1 88 f = 0 ∧ fs3 f = none ∨ u3.2.1 88 f = 1 ∧ ∃ X, fs3 f = some X ∧ (X.length : Int) = u3.2.1 87 f ∧ ∀ i : Int, 0 ≤ i → i < X.length → L_at X i = R_by u3 f i)) : R_fs u3 fs3 := by
  intro g g0 g1
  by_cases c : g = f
  · subst c; exact h1 g0 g1
  · obtain ⟨k1, k2⟩ := hk g c
    rw [ho g c]
    rcases hf g g0 (h8 g c g0 g1) with ⟨a1, a2⟩ | ⟨a1, X, a2, a3, a4⟩
    · refine .inl ⟨?_, a2⟩
      rcases w.2.2 g with e | e
      · exact e
      · have := (k1.mp ⟨g0, g1, e⟩).2.2
        omega
    · have iF : R_isF u g := ⟨g0, h8 g c g0 g1, a1⟩
      obtain ⟨b1, b2⟩ := k2 iF
      exact .inr ⟨(k1.mpr iF).2.2, X, a2, by rw [b1]; exact a3, fun i i0 i1 => by rw [b2 i i0 (by omega)]; exact a4 i i0 i1⟩
theorem J_r.files {u : R_S} {X : List Int} {fs : Int → Option (List Int)} {ca th tg f pq : Int} {Q : Option P_T} {O : List Int} {H : List (List Int)} {n3 n4 n5 n6 : Int} {u3 : R_S} {X3 : List Int} {fs3 : Int → Option (List Int)} {ca3 th3 tg3 : Int} (jr : J_r u X fs ca th tg f pq Q O H n3 n4 n5 n6) (w3 : R_fw u3 (-1)) (F : ∀ b, b ≠ 1 → b ≠ 3 → b ≠ 7 → b ≠ 8 → u3.1 b = u.1 b) (A : ∀ q, q < 85 ∨ 88 < q → ∀ j, u3.2.1 q j = u.2.1 q j) (k : u3.2.2 = u.2.2) (hf3 : R_fs u3 fs3) (e8 : u3.1 8 = ca3) (e7 : u3.1 7 = th3) (e3 : u3.1 3 = tg3) (e1 : u3.1 1 = X3.length) (h84 : ∀ i : Int, 0 ≤ i → i < X3.length → u.2.1 84 i = L_at X3 i) : J_r u3 X3 fs3 ca3 th3 tg3 f pq Q O H n3 n4 n5 n6 := by
  obtain ⟨w, hf, _, _, _, _, _, e20, e21, hol, hhl, e70, e71, e72, e73, hto⟩ := jr
  have F : ∀ b, 8 < b → u3.1 b = u.1 b := fun b hb => F b (by omega) (by omega) (by omega) (by omega)
  have A9 : ∀ q, 88 < q → ∀ j, u3.2.1 q j = u.2.1 q j := fun q hq => A q (.inr hq)
  refine ⟨w3, hf3, e8, e7, e3, e1, fun i i0 i1 => (A 84 (.inl (by decide)) i).trans (h84 i i0 i1), (F 20 (by decide)).trans e20, (F 21 (by decide)).trans e21, ⟨(F 68 (by decide)).trans hol.1, fun i hi => (A9 131 (by decide) i).trans (hol.2 i hi)⟩, ⟨(F 63 (by decide)).trans hhl.1, hhl.2.1, fun i hi q hq => (A9 (127 + q) (by omega) i).trans (hhl.2.2 i hi q hq)⟩, (F 70 (by decide)).trans e70, (F 71 (by decide)).trans e71, (F 72 (by decide)).trans e72, by rw [k]; exact e73, ?_⟩
  cases Q with
  | none => trivial
  | some t =>
    obtain ⟨t1, t2, t3, t4⟩ := hto
    exact ⟨t1.keep (F 56 (by decide)) (A9 122 (by decide)) (A9 123 (by decide)), t2.keep (A9 124 (by decide) _) (fun j _ _ => A9 125 (by decide) j) (fun j _ _ => A9 126 (by decide) j), t3.keep (A9 124 (by decide) _) (fun j _ _ => A9 125 (by decide) j) (fun j _ _ => A9 126 (by decide) j), t4.keep (A9 124 (by decide) _) (fun j _ _ => A9 125 (by decide) j) (fun j _ _ => A9 126 (by decide) j)⟩
theorem J_4 {z t : Nat} {h : E_H} {sl : Nat} {s : C_S} {u : R_S} {tb sh pa pl ma re : Nat} {X : List Int} {fs : Int → Option (List Int)} {ca th tg f pq : Int} {Q : Option P_T} {O : List Int} {H : List (List Int)} {n3 n4 n5 n6 : Int} {W RC RS : Nat} {a : Int} (hc : C_is h h s) (hr : R_is h h u) (jc : J_c s 0 tb sh pa pl ma re X fs ca th tg f pq Q O H n3 n4 n5 n6 W) (jr : J_r u X fs ca th tg f pq Q O H n3 n4 n5 n6) (ji : J_in fs ca th tg Q O H n3 n4 n5 n6 t) (r1 : sl + 5 * X.length ≤ z + 2 * W + 150 * t) (r2 : 8 * C_n s ≤ 2000 + W + 2160 * t) (t5 : t ≤ 512) (b : J_bd z t RC RS) (z_a : Zr a) : L_two 300 149 182 RC RS [Zi a] h sl (J_st z (t + 1)) := by
  obtain ⟨ea, u0, v0, tr, A2, m2, sm, τ, β, G, P, ω, Am, ru, rv, hg, hby, hd, hq, htr, hzb, hp, hQ, hm, e0, hrp, eW⟩ := id jc
  obtain ⟨w, hf, e8, e7, e3, e1, e84, e20, e21, hol, hhl, e70, e71, e72, e73, hto⟩ := id jr
  obtain ⟨i1, i2, i3, i4, i5, i6, i7, i8, i9, i10, i11, i12, i13, i14, i15, i16, i17, i18, i19, i20⟩ := id ji
  have w0 := hc.1
  have bb := b _ tb sh pa pl ma re _ _ _ _ _ _ _ _ _ _ _ _ _ _ _ jc
  refine J_go (as := [a]) hc hr hg.1 (C_remove 297 hg hd (by decide) i2 i3 i4 i5 z_a) (R_remove 298 u z_a w (by omega) (by omega)) (fun x s2 n y u2 p q => ?_)
  obtain ⟨rfl, en, kf, eps, v1, rfl, p⟩ := p
  rcases jr.isF a with ⟨Y, y1, y2, y3, _⟩ | ⟨y1, y2⟩
  · rcases p with ⟨_, _, p⟩ | ⟨rfl, Z, p1, p2⟩
    · exact absurd y1 (p Y)
    · obtain rfl := y1.un p1
      rcases q with ⟨_, _, q⟩ | ⟨rfl, q1, q2, q3, q4, q5, q6, q7⟩
      · exact absurd y2 q
      · have hr := hrp
        have hps : D_ps s sh = D_ps s sh := rfl
        have hpr : D_pr s re = D_pr s re := rfl
        have hby := hby.fr w0 kf (by rw [hg.2.2.2.2.1]; exact L_pr0)
        have hg := hg.fr w0 kf L_pr0
        have hq := hq.fr w0 kf (fun e => by have := L_pr1 (a := 2) (L_pre_self _) e; omega)
        have htr := htr.fr w0 kf (fun e => by have := L_pr1 (a := 2) ⟨[tr], rfl⟩ e; omega)
        have hp := hp.fr w0 kf (fun t h e => by have := L_pr1 h e; omega)
        have e0 : C_P _ ma 0 = some tr := (D_M0.p0 hm w0 kf (fun e => by have := L_pr1 (a := 4) (L_pre_self _) e; omega)).trans e0
        have hm := hm.fr w0 kf (fun e => by have := L_pr1 (a := 4) (L_pre_self _) e; omega)
        have hrx := hr.fr w0 kf (fun t h e => by have := L_pr1 h e; omega)
        obtain ⟨hr, epr⟩ := hrx
        have hpr := epr.trans hpr
        have jc2 : J_c s2 0 tb sh pa pl ma re X (fun i => if i = a then none else fs i) ca (th - 1) (tg - Y.length) f pq Q O H n3 n4 n5 n6 W := ⟨ea, u0, v0, tr, A2, m2, sm, τ, β, G, P, ω, Am, ru, rv, hg, hby, p2, hq, htr, hzb, hp, hQ, hm, e0, hr, by omega⟩
        have e8' : u2.1 8 = u.1 8 := q3.1 8 (by simp)
        have hf3 : R_fs u2 (fun i => if i = a then none else fs i) := hf.upd q2.w1 q7 (fun g hg => if_neg hg) (fun g _ _ h => by omega) (fun a0 a1 => .inl ⟨by
          rcases q2.w1.2.2 a with e | e
          · exact e
          · exact absurd ⟨a0, a1, e⟩ q6, if_pos rfl⟩)
        have jr2 : J_r u2 X (fun i => if i = a then none else fs i) ca (th - 1) (tg - Y.length) f pq Q O H n3 n4 n5 n6 := jr.files q2 (fun b h1 h3 h7 h8 => q3.1 b (by simp; omega)) (fun q hq => q3.2.1 q (by simp; omega)) q3.2.2 hf3 (by omega) (by omega) (by omega) (by rw [q3.1 1 (by simp)]; exact e1) e84
        have hdel := D_cn_del i1 y1.1 y1.2.1 ⟨Y, y1.2.2⟩
        have hpos : 1 ≤ th := by have := D_cn_le hdel i7; omega
        have hln : D_ln fs a = Y.length := by unfold D_ln; rw [y1.2.2]
        have hln2 : D_ln (fun i => if i = a then none else fs i) a = 0 := by unfold D_ln; dsimp only; rw [if_pos rfl]
        have hsm := D_sm_upd (φ := D_ln (fun i => if i = a then none else fs i)) (ψ := D_ln fs) y1.1 (fun j hj => by unfold D_ln; dsimp only; rw [if_neg hj]) ca.toNat (by have := y1.2.1; omega)
        have ji2 : J_in (fun i => if i = a then none else fs i) ca (th - 1) (tg - Y.length) Q O H n3 n4 n5 n6 t := ⟨D_cn_iff hdel (fun j _ _ => by
          by_cases e : j = a
          · dsimp only; rw [if_pos e]; exact ⟨fun q => absurd e q.2, fun ⟨_, q⟩ => by cases q⟩
          · dsimp only; rw [if_neg e]; exact ⟨fun q => q.1, fun q => ⟨q, e⟩⟩), by omega, by omega, by omega, by omega, by omega, i7, i8, i9, i10, i11, i12, i13, i14, i15, i16, i17, i18, i19, i20⟩
        exact ⟨1, rfl, rfl, by omega, by omega, fun h2 hc2 hr2 => ⟨_, _, tb, sh, pa, pl, ma, re, _, _, ca, _, _, f, pq, Q, O, H, n3, n4, n5, n6, W, hc2, hr2, jc2, jr2, ji2.up, by omega, by omega⟩⟩
  · rcases p with ⟨rfl, rfl, p⟩ | ⟨_, Z, p1, _⟩
    · rcases q with ⟨rfl, rfl, q⟩ | ⟨_, q1, _⟩
      · exact ⟨0, rfl, rfl, by omega, by omega, fun h2 hc2 hr2 => ⟨s2, u2, tb, sh, pa, pl, ma, re, X, fs, ca, th, tg, f, pq, Q, O, H, n3, n4, n5, n6, W, hc2, hr2, jc, jr, ji.up, by omega, by omega⟩⟩
      · exact absurd q1 y2
    · exact absurd p1 (y1 Z)
