/-! the joining: one heap, the class's state and the reference's; a call of each -/
theorem J_go {d x y RC RS : Nat} {as : List Int} {h : E_H} {sl : Nat} {s : C_S} {u : R_S} {P1 : Option Value → C_S → Nat → Prop} {P2 : Option Value → R_S → Prop} {J : E_H → Nat → Prop} (hc : C_is h h s) (hr : R_is h h u) (k0 : C_K s 0 = (19, 0)) (c : C_ok d x (.ref 0 :: as.map (fun a => .int (Zi a))) s P1) (r : R_ok d y (as.map (fun a => .int (Zi a))) u P2) (gl : ∀ x s2 n y u2, P1 x s2 n → P2 y u2 → ∃ z : Int, x = some (.int (Zi z)) ∧ y = some (.int (Zi z)) ∧ C_n s2 ≤ RC ∧ sl + n ≤ RS ∧ ∀ h2 : E_H, C_is h2 h2 s2 → R_is h2 h2 u2 → J h2 (sl + n)) : L_two d x y RC RS (as.map Zi) h sl J := by
  obtain ⟨m1, ⟨x1, h1, n1⟩, e1, s2, q1, q2⟩ := c h h hc
  have q1 : C_is h h1 s2 := q1
  have q2 : P1 x1 s2 n1 := q2
  have l1 : h1.length = C_n s2 := q1.2.1
  have b1 : 132 ≤ C_n s2 := q1.1.2.2.2.2
  have hr1 : R_is h1 h1 u := by
    obtain ⟨r1, r2, r3, r4, r5, r6⟩ := hr
    refine ⟨r1, rfl, by omega, by rw [q1.2.2.2 83 (by omega) (by omega)]; exact r4, fun k hk => by rw [q1.2.2.2 (k + 84) (by omega) (by omega)]; exact r5 k hk, fun _ _ => rfl⟩
  obtain ⟨m2, ⟨x2, h2, n2⟩, e2, u2, p1, p2, p3⟩ := r h1 h1 hr1
  have p1 : R_is h1 h2 u2 := p1
  have p2 : P2 x2 u2 := p2
  have p3 : n2 = 0 := p3
  obtain ⟨z, rfl, rfl, g1, g2, g3⟩ := gl x1 s2 n1 x2 u2 q2 p2
  have hc2 : C_is h2 h2 s2 := by
    refine ⟨q1.1, by rw [p1.2.1]; exact l1, fun j hj => ?_, fun _ _ _ => rfl⟩
    rw [p1.2.2.2.2.2 j (q1.1.2.2.2.1 j hj).2.1]
    exact q1.2.2.1 j hj
  have hr2 : R_is h2 h2 u2 := ⟨p1.1, rfl, p1.2.2.1, p1.2.2.2.1, p1.2.2.2.2.1, fun _ _ => rfl⟩
  have ea : (as.map Zi).map Value.int = as.map (fun a => .int (Zi a)) := by rw [List.map_map]; rfl
  refine ⟨m1, m2, Zi z, h1, n1, h2, n2, (List.range (E_N ((C_K s 0).1 - 8))).map (C_fv s 0 ((C_K s 0).1 - 8)), (List.range 74).map (R_fv u), by rw [ea]; exact e1, by rw [ea]; exact e2, ?_, hr1.o, by omega, by rw [p1.2.1]; omega, by omega, by have e : n2 = 0 := p3; rw [e]; exact g3 h2 hc2 hr2⟩
  rw [hc.2.2.1 0 (by rw [k0]; decide)]
  unfold C_cell
  rw [k0]
  rfl
/-- the reference between calls, by the same parameters -/
def J_r (u : R_S) (X : List Int) (fs : Int → Option (List Int)) (ca th tg f pq : Int) (Q : Option P_T) (O : List Int) (H : List (List Int)) (n3 n4 n5 n6 : Int) : Prop := R_fw u (-1) ∧ R_fs u fs ∧ u.1 8 = ca ∧ u.1 7 = th ∧ u.1 3 = tg ∧ u.1 1 = X.length ∧ (∀ i : Int, 0 ≤ i → i < X.length → u.2.1 84 i = L_at X i) ∧ u.1 20 = f ∧ u.1 21 = pq ∧ R_ol u O ∧ R_hl u H ∧ u.1 70 = n3 ∧ u.1 71 = n4 ∧ u.1 72 = n5 ∧ u.2.2.1 73 = Int64.ofInt n6 ∧ match Q with | none => True | some t => R_told u (P_plan t)
/-- what holds of the parameters after t turns -/
def J_in (fs : Int → Option (List Int)) (ca th tg : Int) (Q : Option P_T) (O : List Int) (H : List (List Int)) (n3 n4 n5 n6 : Int) (t : Nat) : Prop := D_cn (fun f => ∃ X, fs f = some X) ca th ∧ 0 ≤ th ∧ th ≤ 40 ∧ 0 ≤ tg ∧ tg ≤ 16000 ∧ tg = (D_sm (D_ln fs) ca.toNat : Nat) ∧ 0 ≤ ca ∧ ca ≤ 200 ∧ (Q = none ↔ n3 = 0) ∧ O.length ≤ 40 ∧ H.length ≤ 40 ∧ (∀ x ∈ H, x.length = 4) ∧ 0 ≤ n3 ∧ n3 ≤ t ∧ 0 ≤ n4 ∧ n4 ≤ 40 * (t : Int) ∧ 0 ≤ n5 ∧ n5 ≤ 40 * (t : Int) ∧ 0 ≤ n6 ∧ n6 ≤ 200
/-- all that holds after t turns; z: base of the room -/
def J_st (z : Nat) (t : Nat) (h : E_H) (sl : Nat) : Prop := ∃ (s : C_S) (u : R_S) (tb sh pa pl ma re : Nat) (X : List Int) (fs : Int → Option (List Int)) (ca th tg f pq : Int) (Q : Option P_T) (O : List Int) (H : List (List Int)) (n3 n4 n5 n6 : Int) (W : Nat), C_is h h s ∧ R_is h h u ∧ J_c s 0 tb sh pa pl ma re X fs ca th tg f pq Q O H n3 n4 n5 n6 W ∧ J_r u X fs ca th tg f pq Q O H n3 n4 n5 n6 ∧ J_in fs ca th tg Q O H n3 n4 n5 n6 t ∧ sl + 5 * X.length ≤ z + 2 * W + 150 * t ∧ 8 * C_n s ≤ 2000 + W + 2160 * t
theorem J_in.up {fs : Int → Option (List Int)} {ca th tg : Int} {Q : Option P_T} {O : List Int} {H : List (List Int)} {n3 n4 n5 n6 : Int} {t : Nat} (h : J_in fs ca th tg Q O H n3 n4 n5 n6 t) : J_in fs ca th tg Q O H n3 n4 n5 n6 (t + 1) := by
  obtain ⟨h1, h2, h3, h4, h5, h6, h7, h8, h9, h10, h11, h12, h13, h14, h15, h16, h17, h18, h19⟩ := h
  exact ⟨h1, h2, h3, h4, h5, h6, h7, h8, h9, h10, h11, h12, h13, by omega, h15, by omega, h17, by omega, h19⟩
/-- a case that leaves the parameters -/
theorem J_keep {d x y z t : Nat} {as : List Int} {h : E_H} {sl : Nat} {s : C_S} {u : R_S} {tb sh pa pl ma re : Nat} {X : List Int} {fs : Int → Option (List Int)} {ca th tg f pq : Int} {Q : Option P_T} {O : List Int} {H : List (List Int)} {n3 n4 n5 n6 : Int} {W : Nat} {P1 P2 : Option Value → Prop} {RC RS : Nat} (hc : C_is h h s) (hr : R_is h h u) (jc : J_c s 0 tb sh pa pl ma re X fs ca th tg f pq Q O H n3 n4 n5 n6 W) (jr : J_r u X fs ca th tg f pq Q O H n3 n4 n5 n6) (ji : J_in fs ca th tg Q O H n3 n4 n5 n6 t) (r1 : sl + 5 * X.length ≤ z + 2 * W + 150 * t) (r2 : 8 * C_n s ≤ 2000 + W + 2160 * t) (b : ∀ (s2 : C_S) (X2 : List Int) (fs2 : Int → Option (List Int)) (ca2 th2 tg2 f2 pq2 : Int) (Q2 : Option P_T) (O2 : List Int) (H2 : List (List Int)) (k3 k4 k5 k6 : Int) (W2 : Nat), J_c s2 0 tb sh pa pl ma re X2 fs2 ca2 th2 tg2 f2 pq2 Q2 O2 H2 k3 k4 k5 k6 W2 → 2000 + W2 + 2160 * (t + 1) ≤ 8 * RC ∧ z + 2 * W2 + 150 * (t + 1) ≤ RS) (c : C_ok d x (.ref 0 :: as.map (fun a => .int (Zi a))) s (fun x s2 n => (∃ W2, n + 2 * W ≤ 2 * W2 ∧ 8 * C_n s2 + W ≤ 8 * C_n s + W2 ∧ J_c s2 0 tb sh pa pl ma re X fs ca th tg f pq Q O H n3 n4 n5 n6 W2) ∧ P1 x)) (r : R_ok d y (as.map (fun a => .int (Zi a))) u (fun y u2 => J_r u2 X fs ca th tg f pq Q O H n3 n4 n5 n6 ∧ P2 y)) (gl : ∀ x y, P1 x → P2 y → ∃ v : Int, x = some (.int (Zi v)) ∧ y = some (.int (Zi v))) : L_two d x y RC RS (as.map Zi) h sl (J_st z (t + 1)) := by
  refine J_go hc hr (by obtain ⟨_, _, _, _, _, _, _, _, _, _, _, _, _, _, _, hg, _⟩ := jc; exact hg.1) c r (fun x s2 n y u2 q p => ?_)
  obtain ⟨⟨W2, w1, w2, w3⟩, q⟩ := q
  obtain ⟨jr2, p⟩ := p
  obtain ⟨v, e1, e2⟩ := gl x y q p
  have bb := b _ _ _ _ _ _ _ _ _ _ _ _ _ _ _ _ w3
  refine ⟨v, e1, e2, by omega, by omega, fun h2 hc2 hr2 => ?_⟩
  exact ⟨s2, u2, tb, sh, pa, pl, ma, re, X, fs, ca, th, tg, f, pq, Q, O, H, n3, n4, n5, n6, W2, hc2, hr2, w3, jr2, ji.up, by omega, by omega⟩
