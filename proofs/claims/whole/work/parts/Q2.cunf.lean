/-! the class: Planner: grams of texts; unfold -/
theorem L_at_get {t : List Int} {i : Nat} (h : i < t.length) : L_at t i = t[i] := by
  unfold L_at
  rw [if_pos (by omega), Int.toNat_natCast, List.getD_eq_getElem?_getD, List.getElem?_eq_getElem h]
  rfl
def L_gk (y : List Int) (k : Int) (J : List Int) : Prop := L_srt J ∧ (∀ x, x ∈ J ↔ ∃ a : Int, 0 ≤ a ∧ a < k ∧ x = 65536 * L_at y a + 256 * L_at y (a + 1) + L_at y (a + 2)) ∧ (J.length : Int) ≤ k
theorem L_gk.nil {y : List Int} : L_gk y 0 [] := ⟨trivial, fun x => ⟨fun e => absurd e List.not_mem_nil, fun ⟨a, h1, h2, _⟩ => by omega⟩, Int.le_refl _⟩
theorem L_gk.s {y J : List Int} {k : Int} (h : L_gk y k J) (k0 : 0 ≤ k) {v : Int} (hv : v = 65536 * L_at y k + 256 * L_at y (k + 1) + L_at y (k + 2)) : L_gk y (k + 1) (L_ins v J) := by
  obtain ⟨h1, h2, h3⟩ := h
  have := L_ins_lq v J
  refine ⟨L_ins_srt h1, fun x => ?_, by omega⟩
  rw [L_ins_mem, h2]
  constructor
  · rintro (rfl | ⟨a, a0, a1, e⟩)
    · exact ⟨k, k0, by omega, hv⟩
    · exact ⟨a, a0, by omega, e⟩
  · rintro ⟨a, a0, a1, e⟩
    by_cases c : a = k
    · left; rw [hv, e, c]
    · exact .inr ⟨a, a0, by omega, e⟩
theorem L_gk.e {y J : List Int} {k : Int} (h : L_gk y k J) (hk : k + 2 = y.length ∨ (k = 0 ∧ y.length ≤ 2)) : J = L_gr y := by
  refine L_srt_ext h.1 (L_gr_srt y) (fun x => ?_)
  rw [h.2.1, L_gr_mem]
  constructor
  · rintro ⟨a, a0, a1, rfl⟩
    refine ⟨a.toNat, by omega, ?_⟩
    rw [← L_at_get (show a.toNat < y.length by omega), ← L_at_get (show a.toNat + 1 < y.length by omega), ← L_at_get (show a.toNat + 2 < y.length by omega), show ((a.toNat : Nat) : Int) = a by omega, show ((a.toNat + 1 : Nat) : Int) = a + 1 by omega, show ((a.toNat + 2 : Nat) : Int) = a + 2 by omega]
  · rintro ⟨i, hi, rfl⟩
    refine ⟨i, by omega, by omega, ?_⟩
    rw [← L_at_get (show i < y.length by omega), ← L_at_get (show i + 1 < y.length by omega), ← L_at_get (show i + 2 < y.length by omega)]
    rfl
/-- the part j is the same in both -/
def G_oth (j : Nat) (G G2 : G_t) : Prop := G2.1 (4 + 2 * j) = G.1 (4 + 2 * j) ∧ G2.1 (5 + 2 * j) = G.1 (5 + 2 * j) ∧ G2.2.1 (2 + j) = G.2.1 (2 + j) ∧ G2.2.2.1 (1 + j) = G.2.2.1 (1 + j) ∧ G2.2.2.2.1 j = G.2.2.2.1 j ∧ G2.2.2.2.2 j = G.2.2.2.2 j
theorem G_oth.tr {j : Nat} {G G2 G3 : G_t} (h : G_oth j G G2) (g : G_oth j G2 G3) : G_oth j G G3 := ⟨g.1.trans h.1, g.2.1.trans h.2.1, g.2.2.1.trans h.2.2.1, g.2.2.2.1.trans h.2.2.2.1, g.2.2.2.2.1.trans h.2.2.2.2.1, g.2.2.2.2.2.trans h.2.2.2.2.2⟩
theorem G_oth.refl (j : Nat) (G : G_t) : G_oth j G G := ⟨rfl, rfl, rfl, rfl, rfl, rfl⟩
/-- heads, tails and choices stand -/
def D_pu (B : Nat) (G : G_t) (j : Nat) (v : P_V) : Prop := K_is (V_H v) (G.1 (4 + 2 * j)) ∧ (G.1 (4 + 2 * j)).length ≤ 12 ∧ K_is (V_T v) (G.1 (5 + 2 * j)) ∧ (G.1 (5 + 2 * j)).length ≤ 12 ∧ F_tel (V_C v) (G.2.1 (2 + j)) ∧ (G.2.1 (2 + j)).length ≤ 24 ∧ ∀ c ∈ G.2.1 (2 + j), 2 * c.length ≤ B
/-- the part j holds the value v -/
def D_pv (B : Nat) (G : G_t) (j : Nat) (v : P_V) : Prop := match v with
  | .inl A => G.2.2.2.1 j = 1 ∧ X_so (G.2.2.1 (1 + j)) ∧ T_tel A (G.2.2.1 (1 + j)) ∧ (G.2.2.2.2 j = 0 ∨ G.2.2.2.2 j = 1 ∧ D_pu B G j (.inl A))
  | .inr q => G.2.2.2.1 j = 0 ∧ G.2.2.2.2 j = 1 ∧ D_pu B G j (.inr q)
theorem D_pu.congr {B j : Nat} {G G2 : G_t} {v : P_V} (h : D_pu B G j v) (e : G_oth j G G2) : D_pu B G2 j v := by
  obtain ⟨e1, e2, e3, e4, e5, e6⟩ := e
  unfold D_pu
  rw [e1, e2, e3]
  exact h
theorem D_pv.congr {B j : Nat} {G G2 : G_t} {v : P_V} (h : D_pv B G j v) (e : G_oth j G G2) : D_pv B G2 j v := by
  obtain ⟨e1, e2, e3, e4, e5, e6⟩ := e
  match v, h with
  | .inl A, h =>
    refine ⟨by rw [e5]; exact h.1, by rw [e4]; exact h.2.1, by rw [e4]; exact h.2.2.1, ?_⟩
    rw [e6]
    rcases h.2.2.2 with q | ⟨q, r⟩
    · exact .inl q
    · exact .inr ⟨q, r.congr ⟨e1, e2, e3, e4, e5, e6⟩⟩
  | .inr q, h => exact ⟨by rw [e5]; exact h.1, by rw [e6]; exact h.2.1, h.2.2.congr ⟨e1, e2, e3, e4, e5, e6⟩⟩
theorem D_pv.u {B j : Nat} {G : G_t} {v : P_V} (h : D_pv B G j v) (e : G.2.2.2.2 j = 1) : D_pu B G j v := by
  match v, h with
  | .inl A, h =>
    rcases h.2.2.2 with q | ⟨q, r⟩
    · omega
    · exact r
  | .inr q, h => exact h.2.2
theorem D_pu.of {B j : Nat} {G : G_t} {v : P_V} {a b : List Int} {c : List (List Int)} (e1 : G.1 (4 + 2 * j) = a) (e2 : G.1 (5 + 2 * j) = b) (e3 : G.2.1 (2 + j) = c) (h : K_is (V_H v) a ∧ a.length ≤ 12 ∧ K_is (V_T v) b ∧ b.length ≤ 12 ∧ F_tel (V_C v) c ∧ c.length ≤ 24 ∧ ∀ x ∈ c, 2 * x.length ≤ B) : D_pu B G j v := by
  unfold D_pu
  rw [e1, e2, e3]
  exact h
theorem D_pv.ofx {B j : Nat} {G : G_t} {A : P_X} {xs : List (List Int)} (h1 : G.2.2.2.1 j = 1) (h2 : G.2.2.1 (1 + j) = xs) (h3 : X_so xs) (h4 : T_tel A xs) (h5 : G.2.2.2.2 j = 1) (h6 : D_pu B G j (.inl A)) : D_pv B G j (.inl A) := ⟨h1, by rw [h2]; exact h3, by rw [h2]; exact h4, .inr ⟨h5, h6⟩⟩
theorem D_cs.flag {pp : List Nat} {s : C_S} {ω : Nat → Nat} {o j b : Nat} {z : Int} (h : C_T s o = pp ++ [4, j]) : D_cs pp s (C_sF s o b z) ω ω 0 := ⟨by omega, Nat.le_refl _, (C_fr.refl _ _).sF (by show pp <+: C_T s o; rw [h]; exact L_tw_p)⟩
theorem V_C_x {A : P_X} {fam : List (List Int)} (h : F_fam (F_im L_gr A) fam) (hl : fam.length ≤ 24) : V_C (.inl A) = F_min (F_im L_gr A) := by
  show F_least _ = _
  unfold F_least
  rw [c_pos ((h.card 24).mpr hl)]

theorem C_offG1 {d : Nat} {h0 : E_H} {s : C_S} {pp : List Nat} {pl tr B : Nat} {G : G_t} {P : G_p} {ω : Nat → Nat} {tx : Nat} {xs : List (List Int)} {i : Int} {xf : List (List Int)} (B0 : 1280 ≤ B) (B1 : B ≤ 20000) (ht : Pl_ht P tx) (et : G.2.2.1 tx = xs) (i0 : 0 ≤ i) (i1 : i < xs.length) (ef : G.2.1 0 = xf) (hm : xf.length < 576) : ∀ (t : Nat) (k : Int) (u : C_S) (h : E_H) (sl : Nat) (ω2 : Nat → Nat) (J : List Int), 62 - k < t → 0 ≤ k → (k + 2 ≤ (X_at xs i).length ∨ k = 0) → C_is h0 h u → D_Pl u pp pl tr B (g_sr G 0 J) P ω2 → D_cs pp s u ω ω2 sl → L_gk (X_at xs i) k J → B_R (d + 4) E_m70 (9, [(3, .int (Zi k)), (0, .ref pl), (1, .ref (P.2.2.1 tx)), (2, .int (Zi i))], []) h sl (fun x => ∃ s2 : C_S, C_is h0 x.2.1 s2 ∧ x.1 = none ∧ D_ch pp pl tr B s P ω (g_sf (g_sr G 0 (L_gr (X_at xs i))) 0 (F_off xf (L_gr (X_at xs i)))) s2 x.2.2) := by
  intro t
  induction t with
  | zero =>
    intro k u h sl ω2 J ht9 k0 k1 hs hp cs hJ
    have hl8 := (hp.tL ht)
    rw [show (g_sr G 0 J).2.2.1 tx = xs from et] at hl8
    have hy := (hl8.2 _ (X_at_mem i0 i1)).1
    omega
  | succ t ih =>
    intro k u h sl ω2 J ht9 k0 k1 hs hp cs hJ
    have et2 : (g_sr G 0 J).2.2.1 tx = xs := et
    have hl8 := (hp.tL ht)
    rw [et2] at hl8
    obtain ⟨hl8, hbt⟩ := hl8
    obtain ⟨hyl, hyb⟩ := hbt _ (X_at_mem i0 i1)
    have zi : Zr i := ⟨by omega, by omega⟩
    have zk : Zr k := ⟨by omega, by omega⟩
    have zl : Zr ((X_at xs i).length : Int) := ⟨by omega, by omega⟩
    have hin : ∀ c : Int, 0 ≤ c → c < (X_at xs i).length → 0 ≤ L_at (X_at xs i) c ∧ L_at (X_at xs i) c < 256 := fun c c0 c1 => hyb _ (L_at_mem.mpr ⟨c, c0, c1, rfl⟩)
    have hJl := hJ.2.2
    refine Z_go (f2 := (10, [(3, .int (Zi k)), (0, .ref pl), (1, .ref (P.2.2.1 tx)), (2, .int (Zi i))], [.int (Zi k)])) (fun _ => rfl) ?_
    refine Z_go (f2 := (11, [(3, .int (Zi k)), (0, .ref pl), (1, .ref (P.2.2.1 tx)), (2, .int (Zi i))], [.int (Zi 2), .int (Zi k)])) (fun _ => rfl) ?_
    refine Z_iadd rfl ?_
    refine Z_go (f2 := (13, [(3, .int (Zi k)), (0, .ref pl), (1, .ref (P.2.2.1 tx)), (2, .int (Zi i))], [.ref (P.2.2.1 tx), .int (Zi (k + 2))])) (fun _ => rfl) ?_
    refine Z_go (f2 := (14, [(3, .int (Zi k)), (0, .ref pl), (1, .ref (P.2.2.1 tx)), (2, .int (Zi i))], [.int (Zi i), .ref (P.2.2.1 tx), .int (Zi (k + 2))])) (fun _ => rfl) ?_
    refine C_callVR (As := [.int (Zi i)]) (rest := [.int (Zi (k + 2))]) rfl (by decide) rfl (by decide) rfl rfl (by decide +kernel) (Nat.le_of_ble_eq_true rfl) hs (hp.tK ht) ((by have := o_len (i := i) (d + 3) hp ht i0 (by rw [et2]; exact i1); rw [et2] at this; exact this)) (fun x q => ?_)
    obtain rfl := q
    show B_R _ _ (17, [(3, .int (Zi k)), (0, .ref pl), (1, .ref (P.2.2.1 tx)), (2, .int (Zi i))], [.int (Zi (((X_at xs i).length : Int))), .int (Zi (k + 2))]) _ _ _
    refine Z_cge rfl rfl (by first | exact hs.zF _ _ | exact Zor_r _ _ | exact hs.zA _ _ | assumption | exact zA _ _ | exact zS _ | exact Zr_not (hs.zA _ _) | exact hs.1.1 _ _ | exact ⟨by omega, by omega⟩) (by first | exact hs.zF _ _ | exact Zor_r _ _ | exact hs.zA _ _ | assumption | exact zA _ _ | exact zS _ | exact Zr_not (hs.zA _ _) | exact hs.1.1 _ _ | exact ⟨by omega, by omega⟩) (fun y1 => ?_) (fun y1 => ?_)
    · have hJe := hJ.e (by omega)
      refine Z_go (f2 := (59, [(3, .int (Zi k)), (0, .ref pl), (1, .ref (P.2.2.1 tx)), (2, .int (Zi i))], [.ref pl])) (fun _ => rfl) ?_
      refine C_gr rfl hs hp.1.1.1 (by decide) (Nat.le_of_ble_eq_true rfl) rfl hp.1.1.2.2.2.2.1 ?_
      refine Z_go (f2 := (63, [(3, .int (Zi k)), (0, .ref pl), (1, .ref (P.2.2.1 tx)), (2, .int (Zi i))], [.ref pl, .ref (P.2.1 0)])) (fun _ => rfl) ?_
      refine C_gr rfl hs hp.1.1.1 (by decide) (Nat.le_of_ble_eq_true rfl) rfl hp.1.1.2.2.2.2.2.2.1 ?_
      refine C_callV (As := [.ref (P.1 0)]) (rest := []) rfl (by decide) rfl (by decide) rfl rfl (by decide +kernel) (Nat.le_of_ble_eq_true rfl) hs (hp.fK (.inl (by omega))) (o_offerR' _ hp (f := 0) (.inl (by omega)) (r := 0) (.inl (by omega)) (xf := xf) (xs := L_gr (X_at xs i)) ef (by rw [← hJe]; show g_up G.1 0 J 0 = J; exact g_up_s) hs.1 (L_gr_srt _) hm B0 B1 (by rw [← hJe]; omega)) (fun x h v9 n9 hs q => ?_)
      obtain ⟨rfl, ω9, hp, cq⟩ := q
      have cs := cs.tr cq
      rw [hJe] at hp
      show B_R _ _ (69, [(3, .int (Zi k)), (0, .ref pl), (1, .ref (P.2.2.1 tx)), (2, .int (Zi i))], []) _ _ _
      refine Z_ret rfl rfl ?_
      try dsimp only
      exact ⟨_, hs, rfl, _, hp, cs⟩
    · refine Z_go (f2 := (21, [(3, .int (Zi k)), (0, .ref pl), (1, .ref (P.2.2.1 tx)), (2, .int (Zi i))], [.ref pl])) (fun _ => rfl) ?_
      refine C_gr rfl hs hp.1.1.1 (by decide) (Nat.le_of_ble_eq_true rfl) rfl hp.1.1.2.2.2.2.2.2.1 ?_
      refine Z_go (f2 := (25, [(3, .int (Zi k)), (0, .ref pl), (1, .ref (P.2.2.1 tx)), (2, .int (Zi i))], [.ref (P.2.2.1 tx), .ref (P.1 0)])) (fun _ => rfl) ?_
      refine Z_go (f2 := (26, [(3, .int (Zi k)), (0, .ref pl), (1, .ref (P.2.2.1 tx)), (2, .int (Zi i))], [.int (Zi i), .ref (P.2.2.1 tx), .ref (P.1 0)])) (fun _ => rfl) ?_
      refine Z_go (f2 := (27, [(3, .int (Zi k)), (0, .ref pl), (1, .ref (P.2.2.1 tx)), (2, .int (Zi i))], [.int (Zi k), .int (Zi i), .ref (P.2.2.1 tx), .ref (P.1 0)])) (fun _ => rfl) ?_
      refine C_callVR (As := [.int (Zi i), .int (Zi k)]) (rest := [.ref (P.1 0)]) rfl (by decide) rfl (by decide) rfl rfl (by decide +kernel) (Nat.le_of_ble_eq_true rfl) hs (hp.tK ht) ((by have := o_sgn (i := i) (k := k) (d + 2) hp ht i0 (by rw [et2]; exact i1) ⟨by omega, by omega⟩; rw [et2] at this; exact this)) (fun x q => ?_)
      obtain rfl := q
      have hin81 := hin k (by omega) (by omega)
      show B_R _ _ (30, [(3, .int (Zi k)), (0, .ref pl), (1, .ref (P.2.2.1 tx)), (2, .int (Zi i))], [.int (Zi (L_at (X_at xs i) k)), .ref (P.1 0)]) _ _ _
      refine Z_go (f2 := (31, [(3, .int (Zi k)), (0, .ref pl), (1, .ref (P.2.2.1 tx)), (2, .int (Zi i))], [.ref (P.2.2.1 tx), .int (Zi (L_at (X_at xs i) k)), .ref (P.1 0)])) (fun _ => rfl) ?_
      refine Z_go (f2 := (32, [(3, .int (Zi k)), (0, .ref pl), (1, .ref (P.2.2.1 tx)), (2, .int (Zi i))], [.int (Zi i), .ref (P.2.2.1 tx), .int (Zi (L_at (X_at xs i) k)), .ref (P.1 0)])) (fun _ => rfl) ?_
      refine Z_go (f2 := (33, [(3, .int (Zi k)), (0, .ref pl), (1, .ref (P.2.2.1 tx)), (2, .int (Zi i))], [.int (Zi k), .int (Zi i), .ref (P.2.2.1 tx), .int (Zi (L_at (X_at xs i) k)), .ref (P.1 0)])) (fun _ => rfl) ?_
      refine Z_go (f2 := (34, [(3, .int (Zi k)), (0, .ref pl), (1, .ref (P.2.2.1 tx)), (2, .int (Zi i))], [.int (Zi 1), .int (Zi k), .int (Zi i), .ref (P.2.2.1 tx), .int (Zi (L_at (X_at xs i) k)), .ref (P.1 0)])) (fun _ => rfl) ?_
      refine Z_iadd rfl ?_
      refine C_callVR (As := [.int (Zi i), .int (Zi (k + 1))]) (rest := [.int (Zi (L_at (X_at xs i) k)), .ref (P.1 0)]) rfl (by decide) rfl (by decide) rfl rfl (by decide +kernel) (Nat.le_of_ble_eq_true rfl) hs (hp.tK ht) ((by have := o_sgn (i := i) (k := k + 1) (d + 2) hp ht i0 (by rw [et2]; exact i1) ⟨by omega, by omega⟩; rw [et2] at this; exact this)) (fun x q => ?_)
      obtain rfl := q
      have hin82 := hin (k + 1) (by omega) (by omega)
      show B_R _ _ (38, [(3, .int (Zi k)), (0, .ref pl), (1, .ref (P.2.2.1 tx)), (2, .int (Zi i))], [.int (Zi (L_at (X_at xs i) (k + 1))), .int (Zi (L_at (X_at xs i) k)), .ref (P.1 0)]) _ _ _
      refine Z_go (f2 := (39, [(3, .int (Zi k)), (0, .ref pl), (1, .ref (P.2.2.1 tx)), (2, .int (Zi i))], [.ref (P.2.2.1 tx), .int (Zi (L_at (X_at xs i) (k + 1))), .int (Zi (L_at (X_at xs i) k)), .ref (P.1 0)])) (fun _ => rfl) ?_
      refine Z_go (f2 := (40, [(3, .int (Zi k)), (0, .ref pl), (1, .ref (P.2.2.1 tx)), (2, .int (Zi i))], [.int (Zi i), .ref (P.2.2.1 tx), .int (Zi (L_at (X_at xs i) (k + 1))), .int (Zi (L_at (X_at xs i) k)), .ref (P.1 0)])) (fun _ => rfl) ?_
      refine Z_go (f2 := (41, [(3, .int (Zi k)), (0, .ref pl), (1, .ref (P.2.2.1 tx)), (2, .int (Zi i))], [.int (Zi k), .int (Zi i), .ref (P.2.2.1 tx), .int (Zi (L_at (X_at xs i) (k + 1))), .int (Zi (L_at (X_at xs i) k)), .ref (P.1 0)])) (fun _ => rfl) ?_
      refine Z_go (f2 := (42, [(3, .int (Zi k)), (0, .ref pl), (1, .ref (P.2.2.1 tx)), (2, .int (Zi i))], [.int (Zi 2), .int (Zi k), .int (Zi i), .ref (P.2.2.1 tx), .int (Zi (L_at (X_at xs i) (k + 1))), .int (Zi (L_at (X_at xs i) k)), .ref (P.1 0)])) (fun _ => rfl) ?_
      refine Z_iadd rfl ?_
      refine C_callVR (As := [.int (Zi i), .int (Zi (k + 2))]) (rest := [.int (Zi (L_at (X_at xs i) (k + 1))), .int (Zi (L_at (X_at xs i) k)), .ref (P.1 0)]) rfl (by decide) rfl (by decide) rfl rfl (by decide +kernel) (Nat.le_of_ble_eq_true rfl) hs (hp.tK ht) ((by have := o_sgn (i := i) (k := k + 2) (d + 2) hp ht i0 (by rw [et2]; exact i1) ⟨by omega, by omega⟩; rw [et2] at this; exact this)) (fun x q => ?_)
      obtain rfl := q
      have hin83 := hin (k + 2) (by omega) (by omega)
      show B_R _ _ (46, [(3, .int (Zi k)), (0, .ref pl), (1, .ref (P.2.2.1 tx)), (2, .int (Zi i))], [.int (Zi (L_at (X_at xs i) (k + 2))), .int (Zi (L_at (X_at xs i) (k + 1))), .int (Zi (L_at (X_at xs i) k)), .ref (P.1 0)]) _ _ _
      refine Z_callQ (vs := [.int (Zi (L_at (X_at xs i) k)), .int (Zi (L_at (X_at xs i) (k + 1))), .int (Zi (L_at (X_at xs i) (k + 2)))]) (rest := [.ref (P.1 0)]) rfl (by decide) rfl rfl rfl (Nat.le_of_ble_eq_true rfl) (C_gramOf _ (a := L_at (X_at xs i) k) (b := L_at (X_at xs i) (k + 1)) (c := L_at (X_at xs i) (k + 2)) (by omega) (by omega) (by omega) (by omega) (by omega) (by omega)) (fun x q => ?_)
      obtain rfl := q
      show B_R _ _ (49, [(3, .int (Zi k)), (0, .ref pl), (1, .ref (P.2.2.1 tx)), (2, .int (Zi i))], [.int (Zi (65536 * (L_at (X_at xs i) k) + 256 * (L_at (X_at xs i) (k + 1)) + (L_at (X_at xs i) (k + 2)))), .ref (P.1 0)]) _ _ _
      refine C_callV (As := [.int (Zi (65536 * (L_at (X_at xs i) k) + 256 * (L_at (X_at xs i) (k + 1)) + (L_at (X_at xs i) (k + 2))))]) (rest := []) rfl (by decide) rfl (by decide) rfl rfl (by decide +kernel) (Nat.le_of_ble_eq_true rfl) hs (hp.rK (.inl (by omega))) (o_insert' _ hp (r := 0) (.inl (by omega)) (xs := J) (by simp only [g_sr, g_sf, g_st, g_se, g_su]; repeat (first | rw [g_up_s] | rw [g_up_o (by omega)])) hs.1 (v := 65536 * (L_at (X_at xs i) k) + 256 * (L_at (X_at xs i) (k + 1)) + (L_at (X_at xs i) (k + 2))) hJ.1 ⟨by omega, by omega⟩ (by omega) B1) (fun x h v1 n1 hs q => ?_)
      obtain ⟨rfl, ω4, hp, cq⟩ := q
      have cs := cs.tr cq
      rw [g_sr_i] at hp
      show B_R _ _ (52, [(3, .int (Zi k)), (0, .ref pl), (1, .ref (P.2.2.1 tx)), (2, .int (Zi i))], []) _ _ _
      refine Z_iinc (L2 := [(3, .int (Zi (k + 1))), (0, .ref pl), (1, .ref (P.2.2.1 tx)), (2, .int (Zi i))]) rfl rfl (by decide) rfl ?_
      refine Z_go (f2 := (9, [(3, .int (Zi (k + 1))), (0, .ref pl), (1, .ref (P.2.2.1 tx)), (2, .int (Zi i))], [])) (fun _ => rfl) ?_
      refine B_loc (K := [(3, .int (Zi (k + 1))), (0, .ref pl), (1, .ref (P.2.2.1 tx)), (2, .int (Zi i))]) (N_all_sub ⟨rfl, rfl, rfl, rfl, trivial⟩) (show ([3, 0, 1, 2] : List Nat).Nodup by decide) ?_
      exact ih _ _ h _ _ _ (by omega) (by omega) (by omega) hs hp cs (hJ.s k0 rfl)
theorem C_offG (d : Nat) {s : C_S} {pp : List Nat} {pl tr B : Nat} {G : G_t} {P : G_p} {ω : Nat → Nat} {tx : Nat} {xs : List (List Int)} {i : Int} {xf : List (List Int)} (hp : D_Pl s pp pl tr B G P ω) (B0 : 1280 ≤ B) (B1 : B ≤ 20000) (ht : Pl_ht P tx) (et : G.2.2.1 tx = xs) (i0 : 0 ≤ i) (i1 : i < xs.length) (ef : G.2.1 0 = xf) (hm : xf.length < 576) : C_ok (d + 5) 70 [.ref pl, .ref (P.2.2.1 tx), .int (Zi i)] s (fun x s2 n => x = none ∧ D_ch pp pl tr B s P ω (g_sf (g_sr G 0 (L_gr (X_at xs i))) 0 (F_off xf (L_gr (X_at xs i)))) s2 n) := by
  refine C_enter (M := E_m70) rfl (Nat.le_of_ble_eq_true rfl) (fun h0 h hs => ?_)
  show B_R (d + 4) _ (0, [(0, .ref pl), (1, .ref (P.2.2.1 tx)), (2, .int (Zi i))], []) _ _ _
  have cs := D_cs.refl pp s ω
  refine Z_go (f2 := (1, [(0, .ref pl), (1, .ref (P.2.2.1 tx)), (2, .int (Zi i))], [.ref pl])) (fun _ => rfl) ?_
  refine C_gr rfl hs hp.1.1.1 (by decide) (Nat.le_of_ble_eq_true rfl) rfl hp.1.1.2.2.2.2.2.2.1 ?_
  refine C_callV (As := []) (rest := []) rfl (by decide) rfl (by decide) rfl rfl (by decide +kernel) (Nat.le_of_ble_eq_true rfl) hs (hp.rK (.inl (by omega))) (o_clear _ hp (r := 0) (.inl (by omega)) hs.1) (fun x h v2 n2 hs q => ?_)
  obtain ⟨rfl, ω2, hp, cq⟩ := q
  have cs := cs.tr cq
  show B_R _ _ (7, [(0, .ref pl), (1, .ref (P.2.2.1 tx)), (2, .int (Zi i))], []) _ _ _
  refine Z_go (f2 := (8, [(0, .ref pl), (1, .ref (P.2.2.1 tx)), (2, .int (Zi i))], [.int (Zi 0)])) (fun _ => rfl) ?_
  refine Z_go (f2 := (9, [(3, .int (Zi 0)), (0, .ref pl), (1, .ref (P.2.2.1 tx)), (2, .int (Zi i))], [])) (fun _ => rfl) ?_
  refine B_loc (K := [(3, .int (Zi 0)), (0, .ref pl), (1, .ref (P.2.2.1 tx)), (2, .int (Zi i))]) (N_all_sub ⟨rfl, rfl, rfl, rfl, trivial⟩) (show ([3, 0, 1, 2] : List Nat).Nodup by decide) ?_
  exact C_offG1 B0 B1 ht et i0 i1 ef hm 64 0 _ h _ _ [] (by omega) (by omega) (.inr rfl) hs hp cs L_gk.nil
theorem C_unf1 {d : Nat} {h0 : E_H} {s : C_S} {Φ : E_R → Prop} {pp : List Nat} {pl tr B : Nat} {G : G_t} {P : G_p} {ω : Nat → Nat} {j : Nat} {xs : List (List Int)} (B0 : 1280 ≤ B) (B1 : B ≤ 20000) (hj : j ≤ 38) (hT : P.2.2.2.2.1 j = true) (et : G.2.2.1 (1 + j) = xs) (x8 : xs.length ≤ 8) (ret : ∀ (u : C_S) (h : E_H) (sl : Nat) (ω2 : Nat → Nat) (kk : List Int), C_is h0 h u → D_Pl u pp pl tr B (g_sr G 2 kk) P ω2 → D_cs pp s u ω ω2 sl → K_is (X_f1 (fun a => E_hd (X_at xs a)) xs.length) kk → (kk.length : Int) ≤ xs.length → B_R (d + 5) E_m69 (58, [(0, .ref pl), (1, .ref (P.2.2.2.1 j)), (2, .ref (P.2.2.1 (1 + j)))], []) h sl Φ) : ∀ (t : Nat) (i : Int) (u : C_S) (h : E_H) (sl : Nat) (ω2 : Nat → Nat) (kk : List Int), (xs.length : Int) + 1 - i < t → 0 ≤ i → i ≤ xs.length → C_is h0 h u → D_Pl u pp pl tr B (g_sr G 2 kk) P ω2 → D_cs pp s u ω ω2 sl → K_is (X_f1 (fun a => E_hd (X_at xs a)) i) kk → (kk.length : Int) ≤ i → B_R (d + 5) E_m69 (22, [(3, .int (Zi i)), (0, .ref pl), (1, .ref (P.2.2.2.1 j)), (2, .ref (P.2.2.1 (1 + j)))], []) h sl Φ := by
  intro t
  induction t with
  | zero => intro i u h sl ω2 kk ht9 i0 i1 hs hp cs hF hl; omega
  | succ t ih =>
    intro i u h sl ω2 kk ht9 i0 i1 hs hp cs hF hl
    have ht := Pl_h1 (P := P) hj hT
    have et2 : (g_sr G 2 kk).2.2.1 (1 + j) = xs := et
    have ft := hp.tF' ht et2
    have hbt := (hp.tL ht).2
    rw [et2] at hbt
    have zi : Zr i := ⟨by omega, by omega⟩
    have zlt : Zr (xs.length : Int) := ⟨by omega, by omega⟩
    refine Z_go (f2 := (23, [(3, .int (Zi i)), (0, .ref pl), (1, .ref (P.2.2.2.1 j)), (2, .ref (P.2.2.1 (1 + j)))], [.int (Zi i)])) (fun _ => rfl) ?_
    refine Z_go (f2 := (24, [(3, .int (Zi i)), (0, .ref pl), (1, .ref (P.2.2.2.1 j)), (2, .ref (P.2.2.1 (1 + j)))], [.ref (P.2.2.1 (1 + j)), .int (Zi i)])) (fun _ => rfl) ?_
    refine C_gi rfl hs (hp.tK (Pl_h1 hj hT)) (by decide) (Nat.le_of_ble_eq_true rfl) rfl ?_
    rw [show C_F (u) (P.2.2.1 (1 + j)) 2 = (xs.length : Int) from (by first | exact ft | exact (if_neg (fun e => absurd e.1 (by assumption))).trans ft | exact (if_neg (fun e => absurd e.2 (by decide))).trans ft | exact (if_neg (fun e => absurd e.2 (by decide))).trans ((if_neg (fun e => absurd e.2 (by decide))).trans ft) | exact (if_neg (fun e => absurd e.2 (by decide))).trans ((if_neg (fun e => absurd e.2 (by decide))).trans ((if_neg (fun e => absurd e.2 (by decide))).trans ft)))]
    show B_R _ _ (27, [(3, .int (Zi i)), (0, .ref pl), (1, .ref (P.2.2.2.1 j)), (2, .ref (P.2.2.1 (1 + j)))], [.int (Zi ((xs.length : Int))), .int (Zi i)]) _ _ _
    refine Z_cge rfl rfl (by first | exact hs.zF _ _ | exact Zor_r _ _ | exact hs.zA _ _ | assumption | exact zA _ _ | exact zS _ | exact Zr_not (hs.zA _ _) | exact hs.1.1 _ _ | exact ⟨by omega, by omega⟩) (by first | exact hs.zF _ _ | exact Zor_r _ _ | exact hs.zA _ _ | assumption | exact zA _ _ | exact zS _ | exact Zr_not (hs.zA _ _) | exact hs.1.1 _ _ | exact ⟨by omega, by omega⟩) (fun y1 => ?_) (fun y1 => ?_)
    · refine B_loc (K := [(0, .ref pl), (1, .ref (P.2.2.2.1 j)), (2, .ref (P.2.2.1 (1 + j)))]) (N_all_sub ⟨rfl, rfl, rfl, trivial⟩) (show ([0, 1, 2] : List Nat).Nodup by decide) ?_
      obtain rfl : i = xs.length := by omega
      exact ret u h sl ω2 kk hs hp cs hF hl
    · refine Z_go (f2 := (31, [(3, .int (Zi i)), (0, .ref pl), (1, .ref (P.2.2.2.1 j)), (2, .ref (P.2.2.1 (1 + j)))], [.ref pl])) (fun _ => rfl) ?_
      refine C_gr rfl hs hp.1.1.1 (by decide) (Nat.le_of_ble_eq_true rfl) rfl hp.1.1.2.2.2.2.2.2.2.2.1 ?_
      refine Z_go (f2 := (35, [(3, .int (Zi i)), (0, .ref pl), (1, .ref (P.2.2.2.1 j)), (2, .ref (P.2.2.1 (1 + j)))], [.ref (P.2.2.1 (1 + j)), .ref (P.1 2)])) (fun _ => rfl) ?_
      refine Z_go (f2 := (36, [(3, .int (Zi i)), (0, .ref pl), (1, .ref (P.2.2.2.1 j)), (2, .ref (P.2.2.1 (1 + j)))], [.int (Zi i), .ref (P.2.2.1 (1 + j)), .ref (P.1 2)])) (fun _ => rfl) ?_
      refine Z_go (f2 := (37, [(3, .int (Zi i)), (0, .ref pl), (1, .ref (P.2.2.2.1 j)), (2, .ref (P.2.2.1 (1 + j)))], [.int (Zi 0), .int (Zi i), .ref (P.2.2.1 (1 + j)), .ref (P.1 2)])) (fun _ => rfl) ?_
      refine C_callVR (As := [.int (Zi i), .int (Zi 0)]) (rest := [.ref (P.1 2)]) rfl (by decide) rfl (by decide) rfl rfl (by decide +kernel) (Nat.le_of_ble_eq_true rfl) hs (hp.tK (Pl_h1 hj hT)) ((by have := o_sgn (i := i) (k := 0) (d + 3) hp ht i0 (by rw [et2]; omega) ⟨by omega, by omega⟩; rw [et2] at this; exact this)) (fun x q => ?_)
      obtain rfl := q
      have hyb := (hbt _ (X_at_mem i0 (show i < (xs.length : Int) by omega))).2
      have hr0 := T_at_r hyb 0
      show B_R _ _ (40, [(3, .int (Zi i)), (0, .ref pl), (1, .ref (P.2.2.2.1 j)), (2, .ref (P.2.2.1 (1 + j)))], [.int (Zi (L_at (X_at xs i) 0)), .ref (P.1 2)]) _ _ _
      refine Z_go (f2 := (41, [(3, .int (Zi i)), (0, .ref pl), (1, .ref (P.2.2.2.1 j)), (2, .ref (P.2.2.1 (1 + j)))], [.ref (P.2.2.1 (1 + j)), .int (Zi (L_at (X_at xs i) 0)), .ref (P.1 2)])) (fun _ => rfl) ?_
      refine Z_go (f2 := (42, [(3, .int (Zi i)), (0, .ref pl), (1, .ref (P.2.2.2.1 j)), (2, .ref (P.2.2.1 (1 + j)))], [.int (Zi i), .ref (P.2.2.1 (1 + j)), .int (Zi (L_at (X_at xs i) 0)), .ref (P.1 2)])) (fun _ => rfl) ?_
      refine Z_go (f2 := (43, [(3, .int (Zi i)), (0, .ref pl), (1, .ref (P.2.2.2.1 j)), (2, .ref (P.2.2.1 (1 + j)))], [.int (Zi 1), .int (Zi i), .ref (P.2.2.1 (1 + j)), .int (Zi (L_at (X_at xs i) 0)), .ref (P.1 2)])) (fun _ => rfl) ?_
      refine C_callVR (As := [.int (Zi i), .int (Zi 1)]) (rest := [.int (Zi (L_at (X_at xs i) 0)), .ref (P.1 2)]) rfl (by decide) rfl (by decide) rfl rfl (by decide +kernel) (Nat.le_of_ble_eq_true rfl) hs (hp.tK (Pl_h1 hj hT)) ((by have := o_sgn (i := i) (k := 1) (d + 3) hp ht i0 (by rw [et2]; omega) ⟨by omega, by omega⟩; rw [et2] at this; exact this)) (fun x q => ?_)
      obtain rfl := q
      have hyb := (hbt _ (X_at_mem i0 (show i < (xs.length : Int) by omega))).2
      have hr1 := T_at_r hyb 1
      show B_R _ _ (46, [(3, .int (Zi i)), (0, .ref pl), (1, .ref (P.2.2.2.1 j)), (2, .ref (P.2.2.1 (1 + j)))], [.int (Zi (L_at (X_at xs i) 1)), .int (Zi (L_at (X_at xs i) 0)), .ref (P.1 2)]) _ _ _
      refine Z_callQ (vs := [.int (Zi (L_at (X_at xs i) 0)), .int (Zi (L_at (X_at xs i) 1))]) (rest := [.ref (P.1 2)]) rfl (by decide) rfl rfl rfl (Nat.le_of_ble_eq_true rfl) (C_keyOf _ (a := L_at (X_at xs i) 0) (b := L_at (X_at xs i) 1) ⟨by omega, by omega⟩ ⟨by omega, by omega⟩) (fun x q => ?_)
      obtain rfl := q
      have hby : L_by2 (E_hd (X_at xs i)) := E_hd_by hyb
      obtain ⟨kb1, kb2⟩ := K_ky_r hby
      rw [show (L_at (X_at xs i) 0 + 1) * 257 + L_at (X_at xs i) 1 + 1 = K_ky (E_hd (X_at xs i)) from by rw [K_hd]; unfold K_ky; omega]
      show B_R _ _ (49, [(3, .int (Zi i)), (0, .ref pl), (1, .ref (P.2.2.2.1 j)), (2, .ref (P.2.2.1 (1 + j)))], [.int (Zi ((K_ky (E_hd (X_at xs i))))), .ref (P.1 2)]) _ _ _
      refine C_callV (As := [.int (Zi ((K_ky (E_hd (X_at xs i)))))]) (rest := []) rfl (by decide) rfl (by decide) rfl rfl (by decide +kernel) (Nat.le_of_ble_eq_true rfl) hs (hp.rK (.inl (by omega))) (o_insert' _ hp (r := 2) (.inl (by omega)) (xs := kk) (by simp only [g_sr, g_sf, g_st, g_se, g_su]; repeat (first | rw [g_up_s] | rw [g_up_o (by omega)])) hs.1 (v := (K_ky (E_hd (X_at xs i)))) hF.1 ⟨by omega, by omega⟩ (by omega) B1) (fun x h v1 n1 hs q => ?_)
      obtain ⟨rfl, ω4, hp, cq⟩ := q
      have cs := cs.tr cq
      rw [g_sr_i] at hp
      show B_R _ _ (52, [(3, .int (Zi i)), (0, .ref pl), (1, .ref (P.2.2.2.1 j)), (2, .ref (P.2.2.1 (1 + j)))], []) _ _ _
      refine Z_iinc (L2 := [(3, .int (Zi (i + 1))), (0, .ref pl), (1, .ref (P.2.2.2.1 j)), (2, .ref (P.2.2.1 (1 + j)))]) rfl rfl (by decide) rfl ?_
      refine Z_go (f2 := (22, [(3, .int (Zi (i + 1))), (0, .ref pl), (1, .ref (P.2.2.2.1 j)), (2, .ref (P.2.2.1 (1 + j)))], [])) (fun _ => rfl) ?_
      refine B_loc (K := [(3, .int (Zi (i + 1))), (0, .ref pl), (1, .ref (P.2.2.2.1 j)), (2, .ref (P.2.2.1 (1 + j)))]) (N_all_sub ⟨rfl, rfl, rfl, rfl, trivial⟩) (show ([3, 0, 1, 2] : List Nat).Nodup by decide) ?_
      have hF2 := (hF.ins hby).ext (X_f1_s (f := fun a => E_hd (X_at xs a)) i0)
      have hl2 := L_ins_lq (K_ky (E_hd (X_at xs i))) kk
      exact ih _ _ h _ _ _ (by omega) (by omega) (by omega) hs hp cs hF2 (by omega)
theorem C_unf2 {d : Nat} {h0 : E_H} {s : C_S} {Φ : E_R → Prop} {pp : List Nat} {pl tr B : Nat} {G : G_t} {P : G_p} {ω : Nat → Nat} {j : Nat} {xs : List (List Int)} (B0 : 1280 ≤ B) (B1 : B ≤ 20000) (hj : j ≤ 38) (hT : P.2.2.2.2.1 j = true) (et : G.2.2.1 (1 + j) = xs) (x8 : xs.length ≤ 8) (ret : ∀ (u : C_S) (h : E_H) (sl : Nat) (ω2 : Nat → Nat) (kk : List Int), C_is h0 h u → D_Pl u pp pl tr B (g_sr G 2 kk) P ω2 → D_cs pp s u ω ω2 sl → K_is (X_f1 (fun a => E_tl (X_at xs a)) xs.length) kk → (kk.length : Int) ≤ xs.length → B_R (d + 5) E_m69 (103, [(0, .ref pl), (1, .ref (P.2.2.2.1 j)), (2, .ref (P.2.2.1 (1 + j)))], []) h sl Φ) : ∀ (t : Nat) (i : Int) (u : C_S) (h : E_H) (sl : Nat) (ω2 : Nat → Nat) (kk : List Int), (xs.length : Int) + 1 - i < t → 0 ≤ i → i ≤ xs.length → C_is h0 h u → D_Pl u pp pl tr B (g_sr G 2 kk) P ω2 → D_cs pp s u ω ω2 sl → K_is (X_f1 (fun a => E_tl (X_at xs a)) i) kk → (kk.length : Int) ≤ i → B_R (d + 5) E_m69 (76, [(3, .int (Zi i)), (0, .ref pl), (1, .ref (P.2.2.2.1 j)), (2, .ref (P.2.2.1 (1 + j)))], []) h sl Φ := by
  intro t
  induction t with
  | zero => intro i u h sl ω2 kk ht9 i0 i1 hs hp cs hF hl; omega
  | succ t ih =>
    intro i u h sl ω2 kk ht9 i0 i1 hs hp cs hF hl
    have ht := Pl_h1 (P := P) hj hT
    have et2 : (g_sr G 2 kk).2.2.1 (1 + j) = xs := et
    have ft := hp.tF' ht et2
    have hbt := (hp.tL ht).2
    rw [et2] at hbt
    have zi : Zr i := ⟨by omega, by omega⟩
    have zlt : Zr (xs.length : Int) := ⟨by omega, by omega⟩
    refine Z_go (f2 := (77, [(3, .int (Zi i)), (0, .ref pl), (1, .ref (P.2.2.2.1 j)), (2, .ref (P.2.2.1 (1 + j)))], [.int (Zi i)])) (fun _ => rfl) ?_
    refine Z_go (f2 := (78, [(3, .int (Zi i)), (0, .ref pl), (1, .ref (P.2.2.2.1 j)), (2, .ref (P.2.2.1 (1 + j)))], [.ref (P.2.2.1 (1 + j)), .int (Zi i)])) (fun _ => rfl) ?_
    refine C_gi rfl hs (hp.tK (Pl_h1 hj hT)) (by decide) (Nat.le_of_ble_eq_true rfl) rfl ?_
    rw [show C_F (u) (P.2.2.1 (1 + j)) 2 = (xs.length : Int) from (by first | exact ft | exact (if_neg (fun e => absurd e.1 (by assumption))).trans ft | exact (if_neg (fun e => absurd e.2 (by decide))).trans ft | exact (if_neg (fun e => absurd e.2 (by decide))).trans ((if_neg (fun e => absurd e.2 (by decide))).trans ft) | exact (if_neg (fun e => absurd e.2 (by decide))).trans ((if_neg (fun e => absurd e.2 (by decide))).trans ((if_neg (fun e => absurd e.2 (by decide))).trans ft)))]
    show B_R _ _ (81, [(3, .int (Zi i)), (0, .ref pl), (1, .ref (P.2.2.2.1 j)), (2, .ref (P.2.2.1 (1 + j)))], [.int (Zi ((xs.length : Int))), .int (Zi i)]) _ _ _
    refine Z_cge rfl rfl (by first | exact hs.zF _ _ | exact Zor_r _ _ | exact hs.zA _ _ | assumption | exact zA _ _ | exact zS _ | exact Zr_not (hs.zA _ _) | exact hs.1.1 _ _ | exact ⟨by omega, by omega⟩) (by first | exact hs.zF _ _ | exact Zor_r _ _ | exact hs.zA _ _ | assumption | exact zA _ _ | exact zS _ | exact Zr_not (hs.zA _ _) | exact hs.1.1 _ _ | exact ⟨by omega, by omega⟩) (fun y1 => ?_) (fun y1 => ?_)
    · refine B_loc (K := [(0, .ref pl), (1, .ref (P.2.2.2.1 j)), (2, .ref (P.2.2.1 (1 + j)))]) (N_all_sub ⟨rfl, rfl, rfl, trivial⟩) (show ([0, 1, 2] : List Nat).Nodup by decide) ?_
      obtain rfl : i = xs.length := by omega
      exact ret u h sl ω2 kk hs hp cs hF hl
    · refine Z_go (f2 := (85, [(3, .int (Zi i)), (0, .ref pl), (1, .ref (P.2.2.2.1 j)), (2, .ref (P.2.2.1 (1 + j)))], [.ref pl])) (fun _ => rfl) ?_
      refine C_gr rfl hs hp.1.1.1 (by decide) (Nat.le_of_ble_eq_true rfl) rfl hp.1.1.2.2.2.2.2.2.2.2.1 ?_
      refine Z_go (f2 := (89, [(3, .int (Zi i)), (0, .ref pl), (1, .ref (P.2.2.2.1 j)), (2, .ref (P.2.2.1 (1 + j)))], [.ref (P.2.2.1 (1 + j)), .ref (P.1 2)])) (fun _ => rfl) ?_
      refine Z_go (f2 := (90, [(3, .int (Zi i)), (0, .ref pl), (1, .ref (P.2.2.2.1 j)), (2, .ref (P.2.2.1 (1 + j)))], [.int (Zi i), .ref (P.2.2.1 (1 + j)), .ref (P.1 2)])) (fun _ => rfl) ?_
      refine Z_go (f2 := (91, [(3, .int (Zi i)), (0, .ref pl), (1, .ref (P.2.2.2.1 j)), (2, .ref (P.2.2.1 (1 + j)))], [.int (Zi 0), .int (Zi i), .ref (P.2.2.1 (1 + j)), .ref (P.1 2)])) (fun _ => rfl) ?_
      refine C_callSR (vs := [.ref (P.2.2.1 (1 + j)), .int (Zi i), .int (Zi 0)]) (rest := [.ref (P.1 2)]) rfl (by decide) rfl rfl rfl (Nat.le_of_ble_eq_true rfl) hs ((by have := C_tkey (d + 2) (t := 1 + j) (xs := xs) (i := i) (u := []) hp B0 B1 ht et2 i0 (by omega) ⟨Nat.zero_le _, fun x hx => absurd hx List.not_mem_nil⟩; rw [K_ky0, List.nil_append] at this; exact this)) (fun x q => ?_)
      obtain rfl := q
      have hyb := (hbt _ (X_at_mem i0 (show i < (xs.length : Int) by omega))).2
      have hby : L_by2 (E_tl (X_at xs i)) := E_tl_by hyb
      obtain ⟨kb1, kb2⟩ := K_ky_r hby
      show B_R _ _ (94, [(3, .int (Zi i)), (0, .ref pl), (1, .ref (P.2.2.2.1 j)), (2, .ref (P.2.2.1 (1 + j)))], [.int (Zi ((K_ky (E_tl (X_at xs i))))), .ref (P.1 2)]) _ _ _
      refine C_callV (As := [.int (Zi ((K_ky (E_tl (X_at xs i)))))]) (rest := []) rfl (by decide) rfl (by decide) rfl rfl (by decide +kernel) (Nat.le_of_ble_eq_true rfl) hs (hp.rK (.inl (by omega))) (o_insert' _ hp (r := 2) (.inl (by omega)) (xs := kk) (by simp only [g_sr, g_sf, g_st, g_se, g_su]; repeat (first | rw [g_up_s] | rw [g_up_o (by omega)])) hs.1 (v := (K_ky (E_tl (X_at xs i)))) hF.1 ⟨by omega, by omega⟩ (by omega) B1) (fun x h v1 n1 hs q => ?_)
      obtain ⟨rfl, ω4, hp, cq⟩ := q
      have cs := cs.tr cq
      rw [g_sr_i] at hp
      show B_R _ _ (97, [(3, .int (Zi i)), (0, .ref pl), (1, .ref (P.2.2.2.1 j)), (2, .ref (P.2.2.1 (1 + j)))], []) _ _ _
      refine Z_iinc (L2 := [(3, .int (Zi (i + 1))), (0, .ref pl), (1, .ref (P.2.2.2.1 j)), (2, .ref (P.2.2.1 (1 + j)))]) rfl rfl (by decide) rfl ?_
      refine Z_go (f2 := (76, [(3, .int (Zi (i + 1))), (0, .ref pl), (1, .ref (P.2.2.2.1 j)), (2, .ref (P.2.2.1 (1 + j)))], [])) (fun _ => rfl) ?_
      refine B_loc (K := [(3, .int (Zi (i + 1))), (0, .ref pl), (1, .ref (P.2.2.2.1 j)), (2, .ref (P.2.2.1 (1 + j)))]) (N_all_sub ⟨rfl, rfl, rfl, rfl, trivial⟩) (show ([3, 0, 1, 2] : List Nat).Nodup by decide) ?_
      have hF2 := (hF.ins hby).ext (X_f1_s (f := fun a => E_tl (X_at xs a)) i0)
      have hl2 := L_ins_lq (K_ky (E_tl (X_at xs i))) kk
      exact ih _ _ h _ _ _ (by omega) (by omega) (by omega) hs hp cs hF2 (by omega)
theorem C_unf3 {d : Nat} {h0 : E_H} {s : C_S} {Φ : E_R → Prop} {pp : List Nat} {pl tr B : Nat} {G : G_t} {P : G_p} {ω : Nat → Nat} {j : Nat} {xs : List (List Int)} (B0 : 1280 ≤ B) (B1 : B ≤ 20000) (hj : j ≤ 38) (hT : P.2.2.2.2.1 j = true) (et : G.2.2.1 (1 + j) = xs) (x8 : xs.length ≤ 8) (ret : ∀ (u : C_S) (h : E_H) (sl : Nat) (ω2 : Nat → Nat) (zf : List (List Int)) (j9 : List Int), C_is h0 h u → D_Pl u pp pl tr B (g_sf (g_sr G 0 j9) 0 zf) P ω2 → D_cs pp s u ω ω2 sl → F_fam (X_f1 (fun a => L_gr (X_at xs a)) xs.length) zf → (zf.length : Int) ≤ xs.length → B_R (d + 5) E_m69 (141, [(0, .ref pl), (1, .ref (P.2.2.2.1 j)), (2, .ref (P.2.2.1 (1 + j)))], []) h sl Φ) : ∀ (t : Nat) (i : Int) (u : C_S) (h : E_H) (sl : Nat) (ω2 : Nat → Nat) (zf : List (List Int)) (j9 : List Int), (xs.length : Int) + 1 - i < t → 0 ≤ i → i ≤ xs.length → C_is h0 h u → D_Pl u pp pl tr B (g_sf (g_sr G 0 j9) 0 zf) P ω2 → D_cs pp s u ω ω2 sl → F_fam (X_f1 (fun a => L_gr (X_at xs a)) i) zf → (zf.length : Int) ≤ i → B_R (d + 5) E_m69 (121, [(3, .int (Zi i)), (0, .ref pl), (1, .ref (P.2.2.2.1 j)), (2, .ref (P.2.2.1 (1 + j)))], []) h sl Φ := by
  intro t
  induction t with
  | zero => intro i u h sl ω2 zf j9 ht9 i0 i1 hs hp cs hF hl; omega
  | succ t ih =>
    intro i u h sl ω2 zf j9 ht9 i0 i1 hs hp cs hF hl
    have ht := Pl_h1 (P := P) hj hT
    have et2 : (g_sf (g_sr G 0 j9) 0 zf).2.2.1 (1 + j) = xs := et
    have ft := hp.tF' ht et2
    have hbt := (hp.tL ht).2
    rw [et2] at hbt
    have zi : Zr i := ⟨by omega, by omega⟩
    have zlt : Zr (xs.length : Int) := ⟨by omega, by omega⟩
    refine Z_go (f2 := (122, [(3, .int (Zi i)), (0, .ref pl), (1, .ref (P.2.2.2.1 j)), (2, .ref (P.2.2.1 (1 + j)))], [.int (Zi i)])) (fun _ => rfl) ?_
    refine Z_go (f2 := (123, [(3, .int (Zi i)), (0, .ref pl), (1, .ref (P.2.2.2.1 j)), (2, .ref (P.2.2.1 (1 + j)))], [.ref (P.2.2.1 (1 + j)), .int (Zi i)])) (fun _ => rfl) ?_
    refine C_gi rfl hs (hp.tK (Pl_h1 hj hT)) (by decide) (Nat.le_of_ble_eq_true rfl) rfl ?_
    rw [show C_F (u) (P.2.2.1 (1 + j)) 2 = (xs.length : Int) from (by first | exact ft | exact (if_neg (fun e => absurd e.1 (by assumption))).trans ft | exact (if_neg (fun e => absurd e.2 (by decide))).trans ft | exact (if_neg (fun e => absurd e.2 (by decide))).trans ((if_neg (fun e => absurd e.2 (by decide))).trans ft) | exact (if_neg (fun e => absurd e.2 (by decide))).trans ((if_neg (fun e => absurd e.2 (by decide))).trans ((if_neg (fun e => absurd e.2 (by decide))).trans ft)))]
    show B_R _ _ (126, [(3, .int (Zi i)), (0, .ref pl), (1, .ref (P.2.2.2.1 j)), (2, .ref (P.2.2.1 (1 + j)))], [.int (Zi ((xs.length : Int))), .int (Zi i)]) _ _ _
    refine Z_cge rfl rfl (by first | exact hs.zF _ _ | exact Zor_r _ _ | exact hs.zA _ _ | assumption | exact zA _ _ | exact zS _ | exact Zr_not (hs.zA _ _) | exact hs.1.1 _ _ | exact ⟨by omega, by omega⟩) (by first | exact hs.zF _ _ | exact Zor_r _ _ | exact hs.zA _ _ | assumption | exact zA _ _ | exact zS _ | exact Zr_not (hs.zA _ _) | exact hs.1.1 _ _ | exact ⟨by omega, by omega⟩) (fun y1 => ?_) (fun y1 => ?_)
    · refine B_loc (K := [(0, .ref pl), (1, .ref (P.2.2.2.1 j)), (2, .ref (P.2.2.1 (1 + j)))]) (N_all_sub ⟨rfl, rfl, rfl, trivial⟩) (show ([0, 1, 2] : List Nat).Nodup by decide) ?_
      obtain rfl : i = xs.length := by omega
      exact ret u h sl ω2 zf j9 hs hp cs hF hl
    · refine Z_go (f2 := (130, [(3, .int (Zi i)), (0, .ref pl), (1, .ref (P.2.2.2.1 j)), (2, .ref (P.2.2.1 (1 + j)))], [.ref pl])) (fun _ => rfl) ?_
      refine Z_go (f2 := (131, [(3, .int (Zi i)), (0, .ref pl), (1, .ref (P.2.2.2.1 j)), (2, .ref (P.2.2.1 (1 + j)))], [.ref (P.2.2.1 (1 + j)), .ref pl])) (fun _ => rfl) ?_
      refine Z_go (f2 := (132, [(3, .int (Zi i)), (0, .ref pl), (1, .ref (P.2.2.2.1 j)), (2, .ref (P.2.2.1 (1 + j)))], [.int (Zi i), .ref (P.2.2.1 (1 + j)), .ref pl])) (fun _ => rfl) ?_
      refine C_callV (As := [.ref (P.2.2.1 (1 + j)), .int (Zi i)]) (rest := []) rfl (by decide) rfl (by decide) rfl rfl (by decide +kernel) (Nat.le_of_ble_eq_true rfl) hs hp.1.1.1 (C_offG _ hp B0 B1 ht et2 i0 (by omega) (xf := zf) (by simp only [g_sr, g_sf, g_st, g_se, g_su]; repeat (first | rw [g_up_s] | rw [g_up_o (by omega)])) (by omega)) (fun x h v1 n1 hs q => ?_)
      obtain ⟨rfl, ω4, hp, cq⟩ := q
      have cs := cs.tr cq
      rw [g_sr_sf, g_sf_i, g_sr_i] at hp
      show B_R _ _ (135, [(3, .int (Zi i)), (0, .ref pl), (1, .ref (P.2.2.2.1 j)), (2, .ref (P.2.2.1 (1 + j)))], []) _ _ _
      refine Z_iinc (L2 := [(3, .int (Zi (i + 1))), (0, .ref pl), (1, .ref (P.2.2.2.1 j)), (2, .ref (P.2.2.1 (1 + j)))]) rfl rfl (by decide) rfl ?_
      refine Z_go (f2 := (121, [(3, .int (Zi (i + 1))), (0, .ref pl), (1, .ref (P.2.2.2.1 j)), (2, .ref (P.2.2.1 (1 + j)))], [])) (fun _ => rfl) ?_
      refine B_loc (K := [(3, .int (Zi (i + 1))), (0, .ref pl), (1, .ref (P.2.2.2.1 j)), (2, .ref (P.2.2.1 (1 + j)))]) (N_all_sub ⟨rfl, rfl, rfl, rfl, trivial⟩) (show ([3, 0, 1, 2] : List Nat).Nodup by decide) ?_
      have hF2 := (hF.off (xs := L_gr (X_at xs i)) (L_gr_srt _)).ext (X_f1_s (f := fun a => L_gr (X_at xs a)) i0)
      have hl2 := F_off_len zf (L_gr (X_at xs i))
      exact ih _ _ h _ _ _ _ (by omega) (by omega) (by omega) hs hp cs hF2 (by omega)
theorem X_f1_e {A : P_X} {xs : List (List Int)} (hA : T_tel A xs) (g : List Int → List Int) (z : List Int) : F_im g A z ↔ X_f1 (fun a => g (X_at xs a)) xs.length z := by
  constructor
  · rintro ⟨t, ht, rfl⟩
    obtain ⟨i, i0, i1, ei⟩ := X_mem_at ((hA t).mpr ht)
    exact ⟨i, i0, i1, by show g t = g (X_at xs i); rw [ei]⟩
  · rintro ⟨a, h1, h2, rfl⟩
    exact ⟨_, (hA _).mp (X_at_mem h1 h2), rfl⟩
theorem C_unf (d : Nat) {s : C_S} {pp : List Nat} {pl tr B : Nat} {G : G_t} {P : G_p} {ω : Nat → Nat} {j : Nat} {v : P_V} (hp : D_Pl s pp pl tr B G P ω) (B0 : 1280 ≤ B) (B1 : B ≤ 20000) (hj : j ≤ 38) (hT : P.2.2.2.2.1 j = true) (hv : D_pv B G j v) : C_ok (d + 6) 69 [.ref pl, .ref (P.2.2.2.1 j)] s (fun x s2 n => x = none ∧ ∃ G2, D_ch pp pl tr B s P ω G2 s2 n ∧ D_pv B G2 j v ∧ G2.2.2.2.2 j = 1 ∧ G2.2.2.2.1 j = G.2.2.2.1 j ∧ G2.2.2.1 (1 + j) = G.2.2.1 (1 + j) ∧ ∀ k, k ≠ j → G_oth k G G2) := by
  refine C_enter (M := E_m69) rfl (Nat.le_of_ble_eq_true rfl) (fun h0 h hs => ?_)
  show B_R (d + 5) _ (0, [(0, .ref pl), (1, .ref (P.2.2.2.1 j))], []) _ _ _
  have cs := D_cs.refl pp s ω
  have hpj := hp.2.1 j hj hT
  have fu := hpj.2.2.2.2.2.2.2.1
  have fu2 := hpj.2.2.2.2.2.2.2.2.2
  have zu : Zr (G.2.2.2.2 j) := ⟨by omega, by omega⟩
  have hp0 := hp
  refine Z_go (f2 := (1, [(0, .ref pl), (1, .ref (P.2.2.2.1 j))], [.ref (P.2.2.2.1 j)])) (fun _ => rfl) ?_
  refine C_gi rfl hs (hp.2.1 j hj hT).1 (by decide) (Nat.le_of_ble_eq_true rfl) rfl ?_
  rw [show C_F (s) (P.2.2.2.1 j) 1 = G.2.2.2.2 j from (by first | exact fu | exact (if_neg (fun e => absurd e.1 (by assumption))).trans fu | exact (if_neg (fun e => absurd e.2 (by decide))).trans fu | exact (if_neg (fun e => absurd e.2 (by decide))).trans ((if_neg (fun e => absurd e.2 (by decide))).trans fu) | exact (if_neg (fun e => absurd e.2 (by decide))).trans ((if_neg (fun e => absurd e.2 (by decide))).trans ((if_neg (fun e => absurd e.2 (by decide))).trans fu)))]
  show B_R _ _ (4, [(0, .ref pl), (1, .ref (P.2.2.2.1 j))], [.int (Zi (G.2.2.2.2 j))]) _ _ _
  refine Z_ieq rfl rfl (by first | exact hs.zF _ _ | exact Zor_r _ _ | exact hs.zA _ _ | assumption | exact zA _ _ | exact zS _ | exact Zr_not (hs.zA _ _) | exact hs.1.1 _ _ | exact ⟨by omega, by omega⟩) (fun y1 => ?_) (fun y1 => ?_)
  · refine Z_go (f2 := (9, [(0, .ref pl), (1, .ref (P.2.2.2.1 j))], [.ref (P.2.2.2.1 j)])) (fun _ => rfl) ?_
    refine C_gr rfl hs (hp.2.1 j hj hT).1 (by decide) (Nat.le_of_ble_eq_true rfl) rfl (hp.2.1 j hj hT).2.2.1 ?_
    refine Z_go (f2 := (13, [(2, .ref (P.2.2.1 (1 + j))), (0, .ref pl), (1, .ref (P.2.2.2.1 j))], [])) (fun _ => rfl) ?_
    refine Z_go (f2 := (14, [(2, .ref (P.2.2.1 (1 + j))), (0, .ref pl), (1, .ref (P.2.2.2.1 j))], [.ref pl])) (fun _ => rfl) ?_
    refine C_gr rfl hs hp.1.1.1 (by decide) (Nat.le_of_ble_eq_true rfl) rfl hp.1.1.2.2.2.2.2.2.2.2.1 ?_
    refine C_callV (As := []) (rest := []) rfl (by decide) rfl (by decide) rfl rfl (by decide +kernel) (Nat.le_of_ble_eq_true rfl) hs (hp.rK (.inl (by omega))) (o_clear _ hp (r := 2) (.inl (by omega)) hs.1) (fun x h v2 n2 hs q => ?_)
    obtain ⟨rfl, ω2, hp, cq⟩ := q
    have cs := cs.tr cq
    show B_R _ _ (20, [(2, .ref (P.2.2.1 (1 + j))), (0, .ref pl), (1, .ref (P.2.2.2.1 j))], []) _ _ _
    refine Z_go (f2 := (21, [(2, .ref (P.2.2.1 (1 + j))), (0, .ref pl), (1, .ref (P.2.2.2.1 j))], [.int (Zi 0)])) (fun _ => rfl) ?_
    refine Z_go (f2 := (22, [(3, .int (Zi 0)), (2, .ref (P.2.2.1 (1 + j))), (0, .ref pl), (1, .ref (P.2.2.2.1 j))], [])) (fun _ => rfl) ?_
    obtain ⟨A, rfl⟩ : ∃ A, v = .inl A := by
      match v, hv with
      | .inl A, _ => exact ⟨A, rfl⟩
      | .inr q, hv => have := hv.2.1; omega
    obtain ⟨xs, et⟩ : ∃ xs, G.2.2.1 (1 + j) = xs := ⟨_, rfl⟩
    have hA : T_tel A xs := by rw [← et]; exact hv.2.2.1
    have hso : X_so xs := by rw [← et]; exact hv.2.1
    have hl8 := hp0.tL (Pl_h1 hj hT)
    rw [et] at hl8
    obtain ⟨x8, hbt⟩ := hl8
    refine B_loc (K := [(3, .int (Zi 0)), (0, .ref pl), (1, .ref (P.2.2.2.1 j)), (2, .ref (P.2.2.1 (1 + j)))]) (N_all_sub ⟨rfl, rfl, rfl, rfl, trivial⟩) (show ([3, 0, 1, 2] : List Nat).Nodup by decide) ?_
    refine C_unf1 (s := s) (ω := ω) B0 B1 hj hT (xs := xs) et x8 (fun u h sl ω3 kk hs hp cs hF hl => ?_) (xs.length + 2) 0 _ h _ _ [] (by omega) (by omega) (by omega) hs hp cs (K_is.nil.ext X_f1_0) (by show (0 : Int) ≤ _; omega)
    refine Z_go (f2 := (59, [(0, .ref pl), (1, .ref (P.2.2.2.1 j)), (2, .ref (P.2.2.1 (1 + j)))], [.ref pl])) (fun _ => rfl) ?_
    refine Z_go (f2 := (60, [(0, .ref pl), (1, .ref (P.2.2.2.1 j)), (2, .ref (P.2.2.1 (1 + j)))], [.ref (P.2.2.2.1 j), .ref pl])) (fun _ => rfl) ?_
    refine C_gr rfl hs (hp.2.1 j hj hT).1 (by decide) (Nat.le_of_ble_eq_true rfl) rfl (hp.2.1 j hj hT).2.2.2.1 ?_
    refine Z_go (f2 := (64, [(0, .ref pl), (1, .ref (P.2.2.2.1 j)), (2, .ref (P.2.2.1 (1 + j)))], [.int (Zi 0), .ref (P.1 (4 + 2 * j)), .ref pl])) (fun _ => rfl) ?_
    refine C_callV (As := [.ref (P.1 (4 + 2 * j)), .int (Zi 0)]) (rest := []) rfl (by decide) rfl (by decide) rfl rfl (by decide +kernel) (Nat.le_of_ble_eq_true rfl) hs hp.1.1.1 (C_short _ (r := (4 + 2 * j)) (b := 0) (ks := kk) (S := F_im E_hd A) hp B0 B1 (Pl_h4 hj hT) (by omega) (.inl rfl) (by simp only [g_sr, g_sf, g_st, g_se, g_su]; repeat (first | rw [g_up_s] | rw [g_up_o (by omega)])) (hF.ext (fun z => X_f1_e hA E_hd z)) (by omega)) (fun x h v3 n3 hs q => ?_)
    obtain ⟨rfl, ys0, sk, qa0, qb0, ω3, hp, cq⟩ := q
    have cs := cs.tr cq
    rw [E_bb0] at qa0
    show B_R _ _ (67, [(0, .ref pl), (1, .ref (P.2.2.2.1 j)), (2, .ref (P.2.2.1 (1 + j)))], []) _ _ _
    refine Z_go (f2 := (68, [(0, .ref pl), (1, .ref (P.2.2.2.1 j)), (2, .ref (P.2.2.1 (1 + j)))], [.ref pl])) (fun _ => rfl) ?_
    refine C_gr rfl hs hp.1.1.1 (by decide) (Nat.le_of_ble_eq_true rfl) rfl hp.1.1.2.2.2.2.2.2.2.2.1 ?_
    refine C_callV (As := []) (rest := []) rfl (by decide) rfl (by decide) rfl rfl (by decide +kernel) (Nat.le_of_ble_eq_true rfl) hs (hp.rK (.inl (by omega))) (o_clear _ hp (r := 2) (.inl (by omega)) hs.1) (fun x h v4 n4 hs q => ?_)
    obtain ⟨rfl, ω4, hp, cq⟩ := q
    have cs := cs.tr cq
    show B_R _ _ (74, [(0, .ref pl), (1, .ref (P.2.2.2.1 j)), (2, .ref (P.2.2.1 (1 + j)))], []) _ _ _
    refine Z_go (f2 := (75, [(0, .ref pl), (1, .ref (P.2.2.2.1 j)), (2, .ref (P.2.2.1 (1 + j)))], [.int (Zi 0)])) (fun _ => rfl) ?_
    refine Z_go (f2 := (76, [(3, .int (Zi 0)), (0, .ref pl), (1, .ref (P.2.2.2.1 j)), (2, .ref (P.2.2.1 (1 + j)))], [])) (fun _ => rfl) ?_
    refine B_loc (K := [(3, .int (Zi 0)), (0, .ref pl), (1, .ref (P.2.2.2.1 j)), (2, .ref (P.2.2.1 (1 + j)))]) (N_all_sub ⟨rfl, rfl, rfl, rfl, trivial⟩) (show ([3, 0, 1, 2] : List Nat).Nodup by decide) ?_
    refine C_unf2 (s := s) (ω := ω) B0 B1 hj hT (xs := xs) (by exact et) x8 (fun u h sl ω5 kk hs hp cs hF hl => ?_) (xs.length + 2) 0 _ h _ _ [] (by omega) (by omega) (by omega) hs hp cs (K_is.nil.ext X_f1_0) (by show (0 : Int) ≤ _; omega)
    refine Z_go (f2 := (104, [(0, .ref pl), (1, .ref (P.2.2.2.1 j)), (2, .ref (P.2.2.1 (1 + j)))], [.ref pl])) (fun _ => rfl) ?_
    refine Z_go (f2 := (105, [(0, .ref pl), (1, .ref (P.2.2.2.1 j)), (2, .ref (P.2.2.1 (1 + j)))], [.ref (P.2.2.2.1 j), .ref pl])) (fun _ => rfl) ?_
    refine C_gr rfl hs (hp.2.1 j hj hT).1 (by decide) (Nat.le_of_ble_eq_true rfl) rfl (hp.2.1 j hj hT).2.2.2.2.1 ?_
    refine Z_go (f2 := (109, [(0, .ref pl), (1, .ref (P.2.2.2.1 j)), (2, .ref (P.2.2.1 (1 + j)))], [.int (Zi 1), .ref (P.1 (5 + 2 * j)), .ref pl])) (fun _ => rfl) ?_
    refine C_callV (As := [.ref (P.1 (5 + 2 * j)), .int (Zi 1)]) (rest := []) rfl (by decide) rfl (by decide) rfl rfl (by decide +kernel) (Nat.le_of_ble_eq_true rfl) hs hp.1.1.1 (C_short _ (r := (5 + 2 * j)) (b := 1) (ks := kk) (S := F_im E_tl A) hp B0 B1 (Pl_h5 hj hT) (by omega) (.inr rfl) (by simp only [g_sr, g_sf, g_st, g_se, g_su]; repeat (first | rw [g_up_s] | rw [g_up_o (by omega)])) (hF.ext (fun z => X_f1_e hA E_tl z)) (by omega)) (fun x h v5 n3 hs q => ?_)
    obtain ⟨rfl, ys1, sk, qa1, qb1, ω3, hp, cq⟩ := q
    have cs := cs.tr cq
    rw [E_bb1] at qa1
    show B_R _ _ (112, [(0, .ref pl), (1, .ref (P.2.2.2.1 j)), (2, .ref (P.2.2.1 (1 + j)))], []) _ _ _
    refine Z_go (f2 := (113, [(0, .ref pl), (1, .ref (P.2.2.2.1 j)), (2, .ref (P.2.2.1 (1 + j)))], [.ref pl])) (fun _ => rfl) ?_
    refine C_gr rfl hs hp.1.1.1 (by decide) (Nat.le_of_ble_eq_true rfl) rfl hp.1.1.2.2.2.2.1 ?_
    refine C_callV (As := []) (rest := []) rfl (by decide) rfl (by decide) rfl rfl (by decide +kernel) (Nat.le_of_ble_eq_true rfl) hs (hp.fK (.inl (by omega))) (o_fclear _ hp (f := 0) (.inl (by omega)) hs.1) (fun x h v6 n6 hs q => ?_)
    obtain ⟨rfl, ω6, hp, cq⟩ := q
    have cs := cs.tr cq
    rw [← g_sr_n (g_sr _ 3 _) 0] at hp
    show B_R _ _ (119, [(0, .ref pl), (1, .ref (P.2.2.2.1 j)), (2, .ref (P.2.2.1 (1 + j)))], []) _ _ _
    refine Z_go (f2 := (120, [(0, .ref pl), (1, .ref (P.2.2.2.1 j)), (2, .ref (P.2.2.1 (1 + j)))], [.int (Zi 0)])) (fun _ => rfl) ?_
    refine Z_go (f2 := (121, [(3, .int (Zi 0)), (0, .ref pl), (1, .ref (P.2.2.2.1 j)), (2, .ref (P.2.2.1 (1 + j)))], [])) (fun _ => rfl) ?_
    refine B_loc (K := [(3, .int (Zi 0)), (0, .ref pl), (1, .ref (P.2.2.2.1 j)), (2, .ref (P.2.2.1 (1 + j)))]) (N_all_sub ⟨rfl, rfl, rfl, rfl, trivial⟩) (show ([3, 0, 1, 2] : List Nat).Nodup by decide) ?_
    refine C_unf3 (s := s) (ω := ω) B0 B1 hj hT (xs := xs) (by exact et) x8 (fun u h sl ω7 zf j9 hs hp cs hF hl => ?_) (xs.length + 2) 0 _ h _ _ [] _ (by omega) (by omega) (by omega) hs hp cs (F_fam.nil.ext X_f1_0) (by show (0 : Int) ≤ _; omega)
    have hzl : ∀ c ∈ zf, 2 * c.length ≤ B := fun c hc => by
      obtain ⟨a, a0, a1, rfl⟩ := hF.2.1 c hc
      have h60 := ((hbt _ (X_at_mem a0 a1)).1)
      have := L_gr_len (X_at xs a)
      show 2 * (L_gr (X_at xs a)).length ≤ B
      omega
    have hF3 : F_fam (F_im L_gr A) zf := hF.ext (fun z => X_f1_e hA L_gr z)
    refine Z_go (f2 := (142, [(0, .ref pl), (1, .ref (P.2.2.2.1 j)), (2, .ref (P.2.2.1 (1 + j)))], [.ref (P.2.2.2.1 j)])) (fun _ => rfl) ?_
    refine C_gr rfl hs (hp.2.1 j hj hT).1 (by decide) (Nat.le_of_ble_eq_true rfl) rfl (hp.2.1 j hj hT).2.2.2.2.2.1 ?_
    refine Z_go (f2 := (146, [(0, .ref pl), (1, .ref (P.2.2.2.1 j)), (2, .ref (P.2.2.1 (1 + j)))], [.ref pl, .ref (P.2.1 (2 + j))])) (fun _ => rfl) ?_
    refine C_gr rfl hs hp.1.1.1 (by decide) (Nat.le_of_ble_eq_true rfl) rfl hp.1.1.2.2.2.2.1 ?_
    refine C_callV (As := [.ref (P.2.1 0)]) (rest := []) rfl (by decide) rfl (by decide) rfl rfl (by decide +kernel) (Nat.le_of_ble_eq_true rfl) hs (hp.fK (Pl_h2 hj hT)) (o_fcopy' _ hp (f := 2 + j) (f2 := 0) (Pl_h2 hj hT) (.inl (by omega)) (yf := zf) (by simp only [g_sr, g_sf, g_st, g_se, g_su]; repeat (first | rw [g_up_s] | rw [g_up_o (by omega)])) (by omega) hs.1 (by unfold Pl_R; rw [if_neg (by omega)]; omega) B0 B1 hzl) (fun x h v8 n8 hs q => ?_)
    obtain ⟨rfl, ω8, hp, cq⟩ := q
    have cs := cs.tr cq
    have hwf := hs.1
    show B_R _ _ (152, [(0, .ref pl), (1, .ref (P.2.2.2.1 j)), (2, .ref (P.2.2.1 (1 + j)))], []) _ _ _
    refine Z_go (f2 := (153, [(0, .ref pl), (1, .ref (P.2.2.2.1 j)), (2, .ref (P.2.2.1 (1 + j)))], [.ref (P.2.2.2.1 j)])) (fun _ => rfl) ?_
    refine Z_go (f2 := (154, [(0, .ref pl), (1, .ref (P.2.2.2.1 j)), (2, .ref (P.2.2.1 (1 + j)))], [.int (Zi 1), .ref (P.2.2.2.1 j)])) (fun _ => rfl) ?_
    refine C_pi rfl hs (hp.2.1 j hj hT).1 (by decide) (Nat.le_of_ble_eq_true rfl) (.inl rfl) rfl (by first | rfl | exact narrow_b01 (by omega)) (by first | rfl | exact fits_b01 (by omega)) (by first | exact hs.zF _ _ | exact Zor_r _ _ | exact hs.zA _ _ | assumption | exact zA _ _ | exact zS _ | exact Zr_not (hs.zA _ _) | exact hs.1.1 _ _ | exact ⟨by omega, by omega⟩) (fun h hs => ?_)
    refine Z_ret rfl rfl ⟨_, hs, ?_⟩
    try dsimp only
    have hT8 := (hp.2.1 j hj hT).2.1
    have hp := hp.upU hwf hj hT (v := 1) (.inr rfl)
    have cs := cs.tr (D_cs.flag (ω := ω8) (z := 1) (b := 1) hT8)
    refine ⟨rfl, _, ⟨_, hp, cs⟩, D_pv.ofx hv.1 et hso hA (by simp only [g_sr, g_sf, g_st, g_se, g_su]; repeat (first | rw [g_up_s] | rw [g_up_o (by omega)])) (D_pu.of (by simp only [g_sr, g_sf, g_st, g_se, g_su]; repeat (first | rw [g_up_s] | rw [g_up_o (by omega)])) (by simp only [g_sr, g_sf, g_st, g_se, g_su]; repeat (first | rw [g_up_s] | rw [g_up_o (by omega)])) (by simp only [g_sr, g_sf, g_st, g_se, g_su]; repeat (first | rw [g_up_s] | rw [g_up_o (by omega)])) ⟨qa0, qb0, qa1, qb1, ?_, ?_, hzl⟩), (by simp only [g_sr, g_sf, g_st, g_se, g_su]; repeat (first | rw [g_up_s] | rw [g_up_o (by omega)])), rfl, rfl, fun k hk => ⟨(by simp only [g_sr, g_sf, g_st, g_se, g_su]; repeat (first | rw [g_up_s] | rw [g_up_o (by omega)])), (by simp only [g_sr, g_sf, g_st, g_se, g_su]; repeat (first | rw [g_up_s] | rw [g_up_o (by omega)])), (by simp only [g_sr, g_sf, g_st, g_se, g_su]; repeat (first | rw [g_up_s] | rw [g_up_o (by omega)])), rfl, rfl, (by simp only [g_sr, g_sf, g_st, g_se, g_su]; repeat (first | rw [g_up_s] | rw [g_up_o (by omega)]))⟩⟩
    · have htel := hF3.tel
      rw [V_C_x hF3 (by omega)]
      exact htel
    · omega
  · refine Z_ret rfl rfl ⟨_, hs, ?_⟩
    try dsimp only
    refine ⟨rfl, G, ⟨ω, hp, cs⟩, hv, by omega, rfl, rfl, fun k _ => G_oth.refl k G⟩
