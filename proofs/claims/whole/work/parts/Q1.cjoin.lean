/-! the class: Planner: heads and tails joined with texts -/
theorem Pl_h1 {P : G_p} {j : Nat} (hj : j ≤ 38) (hT : P.2.2.2.2.1 j = true) : Pl_ht P (1 + j) := .inr ⟨by omega, by rw [show 1 + j - 1 = j by omega]; exact hT⟩
theorem Pl_h2 {P : G_p} {j : Nat} (hj : j ≤ 38) (hT : P.2.2.2.2.1 j = true) : Pl_hf P (2 + j) := .inr ⟨by omega, by rw [show 2 + j - 2 = j by omega]; exact hT⟩
theorem Pl_h4 {P : G_p} {j : Nat} (hj : j ≤ 38) (hT : P.2.2.2.2.1 j = true) : Pl_hr P (4 + 2 * j) := .inr ⟨by omega, by rw [show (4 + 2 * j - 4) / 2 = j by omega]; exact hT⟩
theorem Pl_h5 {P : G_p} {j : Nat} (hj : j ≤ 38) (hT : P.2.2.2.2.1 j = true) : Pl_hr P (5 + 2 * j) := .inr ⟨by omega, by rw [show (5 + 2 * j - 4) / 2 = j by omega]; exact hT⟩
/-- what the first so many pairs give -/
def X_ff (f : Int → Int → List Int) (N M i k : Int) : P_X := fun z => ∃ a b : Int, 0 ≤ a ∧ 0 ≤ b ∧ b < M ∧ (a < i ∨ a = i ∧ b < k) ∧ a < N ∧ z = f a b
theorem X_ff_s {f : Int → Int → List Int} {N M i k : Int} (i0 : 0 ≤ i) (i1 : i < N) (k0 : 0 ≤ k) (k1 : k < M) (z : List Int) : X_ff f N M i (k + 1) z ↔ X_ff f N M i k z ∨ z = f i k := by
  constructor
  · rintro ⟨a, b, h1, h2, h3, h4, h5, rfl⟩
    by_cases c : a = i ∧ b = k
    · obtain ⟨rfl, rfl⟩ := c; exact .inr rfl
    · exact .inl ⟨a, b, h1, h2, h3, by omega, h5, rfl⟩
  · rintro (⟨a, b, h1, h2, h3, h4, h5, rfl⟩ | rfl)
    · exact ⟨a, b, h1, h2, h3, by omega, h5, rfl⟩
    · exact ⟨i, k, i0, k0, k1, .inr ⟨rfl, by omega⟩, i1, rfl⟩
theorem X_ff_n {f : Int → Int → List Int} {N M i : Int} (z : List Int) : X_ff f N M (i + 1) 0 z ↔ X_ff f N M i M z := by
  constructor
  · rintro ⟨a, b, h1, h2, h3, h4, h5, rfl⟩; exact ⟨a, b, h1, h2, h3, by omega, h5, rfl⟩
  · rintro ⟨a, b, h1, h2, h3, h4, h5, rfl⟩; exact ⟨a, b, h1, h2, h3, by omega, h5, rfl⟩
theorem X_ff_0 {f : Int → Int → List Int} {N M : Int} (z : List Int) : X_ff f N M 0 0 z ↔ False := ⟨fun ⟨a, b, h1, h2, h3, h4, h5, _⟩ => by omega, fun h => h.elim⟩
def X_f1 (f : Int → List Int) (i : Int) : P_X := fun z => ∃ a : Int, 0 ≤ a ∧ a < i ∧ z = f a
theorem X_f1_s {f : Int → List Int} {i : Int} (i0 : 0 ≤ i) (z : List Int) : X_f1 f (i + 1) z ↔ X_f1 f i z ∨ z = f i := by
  constructor
  · rintro ⟨a, h1, h2, rfl⟩
    by_cases c : a = i
    · exact .inr (by rw [c])
    · exact .inl ⟨a, h1, by omega, rfl⟩
  · rintro (⟨a, h1, h2, rfl⟩ | rfl)
    · exact ⟨a, h1, by omega, rfl⟩
    · exact ⟨i, i0, by omega, rfl⟩
theorem X_f1_0 {f : Int → List Int} (z : List Int) : X_f1 f 0 z ↔ False := ⟨fun ⟨a, h1, h2, _⟩ => by omega, fun h => h.elim⟩
theorem K_is.nil : K_is (fun _ => False) [] := ⟨trivial, fun x => ⟨fun e => absurd e List.not_mem_nil, fun ⟨_, e, _⟩ => e.elim⟩, fun t e => e.elim⟩
theorem K_is.ins {S : P_X} {ks : List Int} (h : K_is S ks) {t : List Int} (ht : L_by2 t) : K_is (fun y => S y ∨ y = t) (L_ins (K_ky t) ks) := by
  refine ⟨L_ins_srt h.1, fun x => ?_, fun y hy => ?_⟩
  · rw [L_ins_mem, h.2.1]
    constructor
    · rintro (rfl | ⟨u, hu, rfl⟩)
      · exact ⟨t, .inr rfl, rfl⟩
      · exact ⟨u, .inl hu, rfl⟩
    · rintro ⟨u, hu | rfl, rfl⟩
      · exact .inr ⟨u, hu, rfl⟩
      · exact .inl rfl
  · rcases hy with hy | rfl
    · exact h.2.2 y hy
    · exact ht
/-- texts tell a set -/
def T_tel (A : P_X) (xs : List (List Int)) : Prop := ∀ x, x ∈ xs ↔ A x
theorem X_ff_A {A H : P_X} {xs : List (List Int)} {hs : List Int} (hA : T_tel A xs) (hH : K_is H hs) (g : List Int → List Int → List Int) (z : List Int) : F_im2 g A H z ↔ X_ff (fun a b => g (X_at xs a) (K_tx (L_at hs b))) xs.length hs.length xs.length 0 z := by
  constructor
  · rintro ⟨t, h, ht, hh, rfl⟩
    obtain ⟨b1, b2⟩ := hH.of hh
    obtain ⟨i, i0, i1, ei⟩ := X_mem_at ((hA t).mpr ht)
    obtain ⟨k, k0, k1, ek⟩ := L_at_mem.mp b1
    exact ⟨i, k, i0, k0, k1, .inl i1, i1, by show g t h = g (X_at xs i) (K_tx (L_at hs k)); rw [ei, ek, b2]⟩
  · rintro ⟨a, b, h1, h2, h3, h4, h5, rfl⟩
    exact ⟨_, _, (hA _).mp (X_at_mem h1 h5), (hH.at (L_at_mem.mpr ⟨b, h2, h3, rfl⟩)).1, rfl⟩
theorem C_jheads2 {d : Nat} {h0 : E_H} {s : C_S} {Φ : E_R → Prop} {pp : List Nat} {pl tr B : Nat} {G : G_t} {P : G_p} {ω : Nat → Nat} {j rr : Nat} {xs : List (List Int)} {hd : List Int} {A H : P_X} (B0 : 1280 ≤ B) (B1 : B ≤ 20000) (hj : j ≤ 38) (hT : P.2.2.2.2.1 j = true) (h2 : Pl_hr P rr) (g2 : 4 ≤ rr) (et : G.2.2.1 (1 + j) = xs) (e2 : G.1 rr = hd) (hA : T_tel A xs) (hH : K_is H hd) (lh : hd.length ≤ 12) {i : Int} (i0 : 0 ≤ i) (i1 : i < xs.length) (x8 : xs.length ≤ 8) (ret : ∀ (u : C_S) (h : E_H) (sl : Nat) (ω2 : Nat → Nat) (kk : List Int), C_is h0 h u → D_Pl u pp pl tr B (g_sr G 2 kk) P ω2 → D_cs pp s u ω ω2 sl → K_is (X_ff (fun a b => (fun t h => E_hd (t ++ h)) (X_at xs a) (K_tx (L_at hd b))) xs.length hd.length i hd.length) kk → (kk.length : Int) ≤ 12 * i + 12 → B_R (d + 4) E_m73 (59, [(3, .int (Zi i)), (0, .ref pl), (1, .ref (P.2.2.2.1 j)), (2, .ref (P.1 rr))], []) h sl Φ) : ∀ (t : Nat) (k : Int) (u : C_S) (h : E_H) (sl : Nat) (ω2 : Nat → Nat) (kk : List Int), (hd.length : Int) + 1 - k < t → 0 ≤ k → k ≤ hd.length → C_is h0 h u → D_Pl u pp pl tr B (g_sr G 2 kk) P ω2 → D_cs pp s u ω ω2 sl → K_is (X_ff (fun a b => (fun t h => E_hd (t ++ h)) (X_at xs a) (K_tx (L_at hd b))) xs.length hd.length i k) kk → (kk.length : Int) ≤ 12 * i + k → B_R (d + 4) E_m73 (23, [(4, .int (Zi k)), (3, .int (Zi i)), (0, .ref pl), (1, .ref (P.2.2.2.1 j)), (2, .ref (P.1 rr))], []) h sl Φ := by
  intro t
  induction t with
  | zero => intro k u h sl ω2 kk ht9 k0 k1 hs hp cs hF hl; omega
  | succ t ih =>
    intro k u h sl ω2 kk ht9 k0 k1 hs hp cs hF hl
    have zk : Zr k := ⟨by omega, by omega⟩
    have et2 : (g_sr G 2 kk).2.2.1 (1 + j) = xs := et
    have e22 : (g_sr G 2 kk).1 rr = hd := by
      show g_up G.1 2 kk rr = hd
      rw [g_up_o (by omega)]; exact e2
    have ft := hp.tF' (Pl_h1 hj hT) et2
    have fh := hp.rF' h2 e22
    have hl8 := (hp.tL (Pl_h1 hj hT))
    rw [et2] at hl8
    obtain ⟨hl8, hbt⟩ := hl8
    have zlt : Zr (xs.length : Int) := ⟨by omega, by omega⟩
    have zlh : Zr (hd.length : Int) := ⟨by omega, by omega⟩
    have zi : Zr i := ⟨by omega, by omega⟩
    refine Z_go (f2 := (25, [(4, .int (Zi k)), (3, .int (Zi i)), (0, .ref pl), (1, .ref (P.2.2.2.1 j)), (2, .ref (P.1 rr))], [.int (Zi k)])) (fun _ => rfl) ?_
    refine Z_go (f2 := (26, [(4, .int (Zi k)), (3, .int (Zi i)), (0, .ref pl), (1, .ref (P.2.2.2.1 j)), (2, .ref (P.1 rr))], [.ref (P.1 rr), .int (Zi k)])) (fun _ => rfl) ?_
    refine C_gi rfl hs (hp.rK h2) (by decide) (Nat.le_of_ble_eq_true rfl) rfl ?_
    rw [show C_F (u) (P.1 rr) 1 = (hd.length : Int) from (by first | exact fh | exact (if_neg (fun e => absurd e.1 (by assumption))).trans fh | exact (if_neg (fun e => absurd e.2 (by decide))).trans fh | exact (if_neg (fun e => absurd e.2 (by decide))).trans ((if_neg (fun e => absurd e.2 (by decide))).trans fh) | exact (if_neg (fun e => absurd e.2 (by decide))).trans ((if_neg (fun e => absurd e.2 (by decide))).trans ((if_neg (fun e => absurd e.2 (by decide))).trans fh)))]
    show B_R _ _ (29, [(4, .int (Zi k)), (3, .int (Zi i)), (0, .ref pl), (1, .ref (P.2.2.2.1 j)), (2, .ref (P.1 rr))], [.int (Zi ((hd.length : Int))), .int (Zi k)]) _ _ _
    refine Z_cge rfl rfl (by first | exact hs.zF _ _ | exact Zor_r _ _ | exact hs.zA _ _ | assumption | exact zA _ _ | exact zS _ | exact Zr_not (hs.zA _ _) | exact hs.1.1 _ _ | exact ⟨by omega, by omega⟩) (by first | exact hs.zF _ _ | exact Zor_r _ _ | exact hs.zA _ _ | assumption | exact zA _ _ | exact zS _ | exact Zr_not (hs.zA _ _) | exact hs.1.1 _ _ | exact ⟨by omega, by omega⟩) (fun y1 => ?_) (fun y1 => ?_)
    · refine B_loc (K := [(3, .int (Zi i)), (0, .ref pl), (1, .ref (P.2.2.2.1 j)), (2, .ref (P.1 rr))]) (N_all_sub ⟨rfl, rfl, rfl, rfl, trivial⟩) (show ([3, 0, 1, 2] : List Nat).Nodup by decide) ?_
      obtain rfl : k = hd.length := by omega
      exact ret u h sl ω2 kk hs hp cs hF (by omega)
    · refine Z_go (f2 := (33, [(4, .int (Zi k)), (3, .int (Zi i)), (0, .ref pl), (1, .ref (P.2.2.2.1 j)), (2, .ref (P.1 rr))], [.ref pl])) (fun _ => rfl) ?_
      refine C_gr rfl hs hp.1.1.1 (by decide) (Nat.le_of_ble_eq_true rfl) rfl hp.1.1.2.2.2.2.2.2.2.2.1 ?_
      refine Z_go (f2 := (37, [(4, .int (Zi k)), (3, .int (Zi i)), (0, .ref pl), (1, .ref (P.2.2.2.1 j)), (2, .ref (P.1 rr))], [.ref (P.2.2.2.1 j), .ref (P.1 2)])) (fun _ => rfl) ?_
      refine C_gr rfl hs (hp.2.1 j hj hT).1 (by decide) (Nat.le_of_ble_eq_true rfl) rfl (hp.2.1 j hj hT).2.2.1 ?_
      refine Z_go (f2 := (41, [(4, .int (Zi k)), (3, .int (Zi i)), (0, .ref pl), (1, .ref (P.2.2.2.1 j)), (2, .ref (P.1 rr))], [.int (Zi i), .ref (P.2.2.1 (1 + j)), .ref (P.1 2)])) (fun _ => rfl) ?_
      refine Z_go (f2 := (42, [(4, .int (Zi k)), (3, .int (Zi i)), (0, .ref pl), (1, .ref (P.2.2.2.1 j)), (2, .ref (P.1 rr))], [.ref (P.1 rr), .int (Zi i), .ref (P.2.2.1 (1 + j)), .ref (P.1 2)])) (fun _ => rfl) ?_
      refine Z_go (f2 := (44, [(4, .int (Zi k)), (3, .int (Zi i)), (0, .ref pl), (1, .ref (P.2.2.2.1 j)), (2, .ref (P.1 rr))], [.int (Zi k), .ref (P.1 rr), .int (Zi i), .ref (P.2.2.1 (1 + j)), .ref (P.1 2)])) (fun _ => rfl) ?_
      refine C_callVR (As := [.int (Zi k)]) (rest := [.int (Zi i), .ref (P.2.2.1 (1 + j)), .ref (P.1 2)]) rfl (by decide) rfl (by decide) rfl rfl (by decide +kernel) (Nat.le_of_ble_eq_true rfl) hs (hp.rK h2) (o_at' _ hp h2 e22 (i := k) zk) (fun x q => ?_)
      obtain rfl := q
      obtain ⟨ka1, ka2, ka3⟩ := hH.at (L_at_mem.mpr ⟨k, k0, by omega, rfl⟩ : L_at hd k ∈ hd)
      rw [← ka3]
      show B_R _ _ (47, [(4, .int (Zi k)), (3, .int (Zi i)), (0, .ref pl), (1, .ref (P.2.2.2.1 j)), (2, .ref (P.1 rr))], [.int (Zi ((K_ky (K_tx (L_at hd k))))), .int (Zi i), .ref (P.2.2.1 (1 + j)), .ref (P.1 2)]) _ _ _
      refine C_callSR (vs := [.ref (P.2.2.1 (1 + j)), .int (Zi i), .int (Zi ((K_ky (K_tx (L_at hd k)))))]) (rest := [.ref (P.1 2)]) rfl (by decide) rfl rfl rfl (Nat.le_of_ble_eq_true rfl) hs (C_hkey _ hp B0 B1 (Pl_h1 hj hT) et2 i0 i1 ka2) (fun x q => ?_)
      obtain rfl := q
      have hby : L_by2 (E_hd (X_at xs i ++ K_tx (L_at hd k))) := E_hd_by (fun x hx => by rcases List.mem_append.mp hx with e | e; exact (hbt _ (X_at_mem i0 i1)).2 x e; exact ka2.2 x e)
      obtain ⟨kb1, kb2⟩ := K_ky_r hby
      show B_R _ _ (50, [(4, .int (Zi k)), (3, .int (Zi i)), (0, .ref pl), (1, .ref (P.2.2.2.1 j)), (2, .ref (P.1 rr))], [.int (Zi ((K_ky (E_hd (X_at xs i ++ K_tx (L_at hd k)))))), .ref (P.1 2)]) _ _ _
      refine C_callV (As := [.int (Zi ((K_ky (E_hd (X_at xs i ++ K_tx (L_at hd k))))))]) (rest := []) rfl (by decide) rfl (by decide) rfl rfl (by decide +kernel) (Nat.le_of_ble_eq_true rfl) hs (hp.rK (.inl (by omega))) (o_insert' _ hp (r := 2) (.inl (by omega)) (xs := kk) (by simp only [g_sr, g_sf, g_st, g_se, g_su]; repeat (first | rw [g_up_s] | rw [g_up_o (by omega)])) hs.1 (v := K_ky (E_hd (X_at xs i ++ K_tx (L_at hd k)))) hF.1 ⟨by omega, by omega⟩ (by omega) B1) (fun x h v1 n1 hs q => ?_)
      obtain ⟨rfl, ω4, hp, cq⟩ := q
      have cs := cs.tr cq
      rw [g_sr_i] at hp
      show B_R _ _ (53, [(4, .int (Zi k)), (3, .int (Zi i)), (0, .ref pl), (1, .ref (P.2.2.2.1 j)), (2, .ref (P.1 rr))], []) _ _ _
      refine Z_iinc (L2 := [(4, .int (Zi (k + 1))), (3, .int (Zi i)), (0, .ref pl), (1, .ref (P.2.2.2.1 j)), (2, .ref (P.1 rr))]) rfl rfl (by decide) rfl ?_
      refine Z_go (f2 := (23, [(4, .int (Zi (k + 1))), (3, .int (Zi i)), (0, .ref pl), (1, .ref (P.2.2.2.1 j)), (2, .ref (P.1 rr))], [])) (fun _ => rfl) ?_
      refine B_loc (K := [(4, .int (Zi (k + 1))), (3, .int (Zi i)), (0, .ref pl), (1, .ref (P.2.2.2.1 j)), (2, .ref (P.1 rr))]) (N_all_sub ⟨rfl, rfl, rfl, rfl, rfl, trivial⟩) (show ([4, 3, 0, 1, 2] : List Nat).Nodup by decide) ?_
      have hF2 := (hF.ins hby).ext (X_ff_s (f := (fun a b => (fun t h => E_hd (t ++ h)) (X_at xs a) (K_tx (L_at hd b)))) i0 i1 k0 (show k < (hd.length : Int) by omega))
      have hl2 := L_ins_lq (K_ky (E_hd (X_at xs i ++ K_tx (L_at hd k)))) kk
      exact ih _ _ h _ _ _ (by omega) (by omega) (by omega) hs hp cs hF2 (by omega)
theorem C_jheads1 {d : Nat} {h0 : E_H} {s : C_S} {pp : List Nat} {pl tr B : Nat} {G : G_t} {P : G_p} {ω : Nat → Nat} {j rr : Nat} {xs : List (List Int)} {hd : List Int} {A H : P_X} (B0 : 1280 ≤ B) (B1 : B ≤ 20000) (hj : j ≤ 38) (hT : P.2.2.2.2.1 j = true) (h2 : Pl_hr P rr) (g2 : 4 ≤ rr) (et : G.2.2.1 (1 + j) = xs) (e2 : G.1 rr = hd) (hA : T_tel A xs) (hH : K_is H hd) (lh : hd.length ≤ 12) : ∀ (t : Nat) (i : Int) (u : C_S) (h : E_H) (sl : Nat) (ω2 : Nat → Nat) (kk : List Int), (xs.length : Int) + 1 - i < t → 0 ≤ i → i ≤ xs.length → C_is h0 h u → D_Pl u pp pl tr B (g_sr G 2 kk) P ω2 → D_cs pp s u ω ω2 sl → K_is (X_ff (fun a b => (fun t h => E_hd (t ++ h)) (X_at xs a) (K_tx (L_at hd b))) xs.length hd.length i 0) kk → (kk.length : Int) ≤ 12 * i → B_R (d + 4) E_m73 (9, [(3, .int (Zi i)), (0, .ref pl), (1, .ref (P.2.2.2.1 j)), (2, .ref (P.1 rr))], []) h sl (fun x => ∃ s2 : C_S, C_is h0 x.2.1 s2 ∧ x.1 = none ∧ ∃ ys k2 sk, K_is (E_hs (F_im2 (fun t h => E_hd (t ++ h)) A H)) ys ∧ ys.length ≤ 12 ∧ D_ch pp pl tr B s P ω (g_sr (g_sr (g_sr G 2 k2) (4 + 2 * j) ys) 3 sk) s2 x.2.2) := by
  intro t
  induction t with
  | zero => intro i u h sl ω2 kk ht9 i0 i1 hs hp cs hF hl; omega
  | succ t ih =>
    intro i u h sl ω2 kk ht9 i0 i1 hs hp cs hF hl
    have et2 : (g_sr G 2 kk).2.2.1 (1 + j) = xs := et
    have e22 : (g_sr G 2 kk).1 rr = hd := by
      show g_up G.1 2 kk rr = hd
      rw [g_up_o (by omega)]; exact e2
    have ft := hp.tF' (Pl_h1 hj hT) et2
    have fh := hp.rF' h2 e22
    have hl8 := (hp.tL (Pl_h1 hj hT))
    rw [et2] at hl8
    obtain ⟨hl8, hbt⟩ := hl8
    have zlt : Zr (xs.length : Int) := ⟨by omega, by omega⟩
    have zlh : Zr (hd.length : Int) := ⟨by omega, by omega⟩
    have zi : Zr i := ⟨by omega, by omega⟩
    refine Z_go (f2 := (10, [(3, .int (Zi i)), (0, .ref pl), (1, .ref (P.2.2.2.1 j)), (2, .ref (P.1 rr))], [.int (Zi i)])) (fun _ => rfl) ?_
    refine Z_go (f2 := (11, [(3, .int (Zi i)), (0, .ref pl), (1, .ref (P.2.2.2.1 j)), (2, .ref (P.1 rr))], [.ref (P.2.2.2.1 j), .int (Zi i)])) (fun _ => rfl) ?_
    refine C_gr rfl hs (hp.2.1 j hj hT).1 (by decide) (Nat.le_of_ble_eq_true rfl) rfl (hp.2.1 j hj hT).2.2.1 ?_
    refine C_gi rfl hs (hp.tK (Pl_h1 hj hT)) (by decide) (Nat.le_of_ble_eq_true rfl) rfl ?_
    rw [show C_F (u) (P.2.2.1 (1 + j)) 2 = (xs.length : Int) from (by first | exact ft | exact (if_neg (fun e => absurd e.1 (by assumption))).trans ft | exact (if_neg (fun e => absurd e.2 (by decide))).trans ft | exact (if_neg (fun e => absurd e.2 (by decide))).trans ((if_neg (fun e => absurd e.2 (by decide))).trans ft) | exact (if_neg (fun e => absurd e.2 (by decide))).trans ((if_neg (fun e => absurd e.2 (by decide))).trans ((if_neg (fun e => absurd e.2 (by decide))).trans ft)))]
    show B_R _ _ (17, [(3, .int (Zi i)), (0, .ref pl), (1, .ref (P.2.2.2.1 j)), (2, .ref (P.1 rr))], [.int (Zi ((xs.length : Int))), .int (Zi i)]) _ _ _
    refine Z_cge rfl rfl (by first | exact hs.zF _ _ | exact Zor_r _ _ | exact hs.zA _ _ | assumption | exact zA _ _ | exact zS _ | exact Zr_not (hs.zA _ _) | exact hs.1.1 _ _ | exact ⟨by omega, by omega⟩) (by first | exact hs.zF _ _ | exact Zor_r _ _ | exact hs.zA _ _ | assumption | exact zA _ _ | exact zS _ | exact Zr_not (hs.zA _ _) | exact hs.1.1 _ _ | exact ⟨by omega, by omega⟩) (fun y1 => ?_) (fun y1 => ?_)
    · have ei : i = xs.length := by omega
      refine Z_go (f2 := (66, [(3, .int (Zi i)), (0, .ref pl), (1, .ref (P.2.2.2.1 j)), (2, .ref (P.1 rr))], [.ref pl])) (fun _ => rfl) ?_
      refine Z_go (f2 := (67, [(3, .int (Zi i)), (0, .ref pl), (1, .ref (P.2.2.2.1 j)), (2, .ref (P.1 rr))], [.ref (P.2.2.2.1 j), .ref pl])) (fun _ => rfl) ?_
      refine C_gr rfl hs (hp.2.1 j hj hT).1 (by decide) (Nat.le_of_ble_eq_true rfl) rfl (hp.2.1 j hj hT).2.2.2.1 ?_
      refine Z_go (f2 := (71, [(3, .int (Zi i)), (0, .ref pl), (1, .ref (P.2.2.2.1 j)), (2, .ref (P.1 rr))], [.int (Zi 0), .ref (P.1 (4 + 2 * j)), .ref pl])) (fun _ => rfl) ?_
      refine C_callV (As := [.ref (P.1 (4 + 2 * j)), .int (Zi 0)]) (rest := []) rfl (by decide) rfl (by decide) rfl rfl (by decide +kernel) (Nat.le_of_ble_eq_true rfl) hs hp.1.1.1 (C_short _ (r := (4 + 2 * j)) (b := 0) (ks := kk) (S := F_im2 (fun t h => E_hd (t ++ h)) A H) hp B0 B1 (Pl_h4 hj hT) (by omega) (.inl rfl) (by simp only [g_sr, g_sf, g_st, g_se, g_su]; repeat (first | rw [g_up_s] | rw [g_up_o (by omega)])) (hF.ext (fun z => by rw [X_ff_A hA hH (fun t h => E_hd (t ++ h)) z, ei])) (by omega)) (fun x h v1 n1 hs q => ?_)
      obtain ⟨rfl, ys, sk, q1, q2, ω3, hp, cq⟩ := q
      have cs := cs.tr cq
      rw [E_bb0] at q1
      show B_R _ _ (74, [(3, .int (Zi i)), (0, .ref pl), (1, .ref (P.2.2.2.1 j)), (2, .ref (P.1 rr))], []) _ _ _
      refine Z_ret rfl rfl ?_
      try dsimp only
      exact ⟨_, hs, rfl, ys, kk, sk, q1, q2, _, hp, cs⟩
    · refine Z_go (f2 := (21, [(3, .int (Zi i)), (0, .ref pl), (1, .ref (P.2.2.2.1 j)), (2, .ref (P.1 rr))], [.int (Zi 0)])) (fun _ => rfl) ?_
      refine Z_go (f2 := (23, [(4, .int (Zi 0)), (3, .int (Zi i)), (0, .ref pl), (1, .ref (P.2.2.2.1 j)), (2, .ref (P.1 rr))], [])) (fun _ => rfl) ?_
      refine B_loc (K := [(4, .int (Zi 0)), (3, .int (Zi i)), (0, .ref pl), (1, .ref (P.2.2.2.1 j)), (2, .ref (P.1 rr))]) (N_all_sub ⟨rfl, rfl, rfl, rfl, rfl, trivial⟩) (show ([4, 3, 0, 1, 2] : List Nat).Nodup by decide) ?_
      refine C_jheads2 B0 B1 hj hT h2 g2 et e2 hA hH lh i0 (by omega) hl8 (fun u h sl ω2 kk hs hp cs hF hl => ?_) (hd.length + 2) 0 u h _ _ _ (by omega) (by omega) (by omega) hs hp cs hF (by omega)
      refine Z_iinc (L2 := [(3, .int (Zi (i + 1))), (0, .ref pl), (1, .ref (P.2.2.2.1 j)), (2, .ref (P.1 rr))]) rfl rfl (by decide) rfl ?_
      refine Z_go (f2 := (9, [(3, .int (Zi (i + 1))), (0, .ref pl), (1, .ref (P.2.2.2.1 j)), (2, .ref (P.1 rr))], [])) (fun _ => rfl) ?_
      exact ih _ u h _ _ _ (by omega) (by omega) (by omega) hs hp cs (hF.ext X_ff_n) (by omega)
theorem C_jheads (d : Nat) {s : C_S} {pp : List Nat} {pl tr B : Nat} {G : G_t} {P : G_p} {ω : Nat → Nat} {j rr : Nat} {xs : List (List Int)} {hd : List Int} {A H : P_X} (hp : D_Pl s pp pl tr B G P ω) (B0 : 1280 ≤ B) (B1 : B ≤ 20000) (hj : j ≤ 38) (hT : P.2.2.2.2.1 j = true) (h2 : Pl_hr P rr) (g2 : 4 ≤ rr) (et : G.2.2.1 (1 + j) = xs) (e2 : G.1 rr = hd) (hA : T_tel A xs) (hH : K_is H hd) (lh : hd.length ≤ 12) : C_ok (d + 5) 73 [.ref pl, .ref (P.2.2.2.1 j), .ref (P.1 rr)] s (fun x s2 n => x = none ∧ ∃ ys k2 sk, K_is (E_hs (F_im2 (fun t h => E_hd (t ++ h)) A H)) ys ∧ ys.length ≤ 12 ∧ D_ch pp pl tr B s P ω (g_sr (g_sr (g_sr G 2 k2) (4 + 2 * j) ys) 3 sk) s2 n) := by
  refine C_enter (M := E_m73) rfl (Nat.le_of_ble_eq_true rfl) (fun h0 h hs => ?_)
  show B_R (d + 4) _ (0, [(0, .ref pl), (1, .ref (P.2.2.2.1 j)), (2, .ref (P.1 rr))], []) _ _ _
  have cs := D_cs.refl pp s ω
  refine Z_go (f2 := (1, [(0, .ref pl), (1, .ref (P.2.2.2.1 j)), (2, .ref (P.1 rr))], [.ref pl])) (fun _ => rfl) ?_
  refine C_gr rfl hs hp.1.1.1 (by decide) (Nat.le_of_ble_eq_true rfl) rfl hp.1.1.2.2.2.2.2.2.2.2.1 ?_
  refine C_callV (As := []) (rest := []) rfl (by decide) rfl (by decide) rfl rfl (by decide +kernel) (Nat.le_of_ble_eq_true rfl) hs (hp.rK (.inl (by omega))) (o_clear _ hp (r := 2) (.inl (by omega)) hs.1) (fun x h v2 n2 hs q => ?_)
  obtain ⟨rfl, ω2, hp, cq⟩ := q
  have cs := cs.tr cq
  show B_R _ _ (7, [(0, .ref pl), (1, .ref (P.2.2.2.1 j)), (2, .ref (P.1 rr))], []) _ _ _
  refine Z_go (f2 := (8, [(0, .ref pl), (1, .ref (P.2.2.2.1 j)), (2, .ref (P.1 rr))], [.int (Zi 0)])) (fun _ => rfl) ?_
  refine Z_go (f2 := (9, [(3, .int (Zi 0)), (0, .ref pl), (1, .ref (P.2.2.2.1 j)), (2, .ref (P.1 rr))], [])) (fun _ => rfl) ?_
  refine B_loc (K := [(3, .int (Zi 0)), (0, .ref pl), (1, .ref (P.2.2.2.1 j)), (2, .ref (P.1 rr))]) (N_all_sub ⟨rfl, rfl, rfl, rfl, trivial⟩) (show ([3, 0, 1, 2] : List Nat).Nodup by decide) ?_
  exact C_jheads1 B0 B1 hj hT h2 g2 et e2 hA hH lh (xs.length + 2) 0 _ h _ _ [] (by omega) (by omega) (by omega) hs hp cs (K_is.nil.ext X_ff_0) (by show (0 : Int) ≤ _; omega)
theorem C_jtails2 {d : Nat} {h0 : E_H} {s : C_S} {Φ : E_R → Prop} {pp : List Nat} {pl tr B : Nat} {G : G_t} {P : G_p} {ω : Nat → Nat} {j tx : Nat} {xs : List (List Int)} {hd : List Int} {A H : P_X} (B0 : 1280 ≤ B) (B1 : B ≤ 20000) (hj : j ≤ 38) (hT : P.2.2.2.2.1 j = true) (ht : Pl_ht P tx) (et : G.2.2.1 tx = xs) (e2 : G.1 (5 + 2 * j) = hd) (hA : T_tel A xs) (hH : K_is H hd) (lh : hd.length ≤ 12) {i : Int} (i0 : 0 ≤ i) (i1 : i < xs.length) (x8 : xs.length ≤ 8) (ret : ∀ (u : C_S) (h : E_H) (sl : Nat) (ω2 : Nat → Nat) (kk : List Int), C_is h0 h u → D_Pl u pp pl tr B (g_sr G 2 kk) P ω2 → D_cs pp s u ω ω2 sl → K_is (X_ff (fun a b => (fun t u => E_tl (u ++ t)) (X_at xs a) (K_tx (L_at hd b))) xs.length hd.length i hd.length) kk → (kk.length : Int) ≤ 12 * i + 12 → B_R (d + 4) E_m74 (59, [(3, .int (Zi i)), (0, .ref pl), (1, .ref (P.2.2.2.1 j)), (2, .ref (P.2.2.1 tx))], []) h sl Φ) : ∀ (t : Nat) (k : Int) (u : C_S) (h : E_H) (sl : Nat) (ω2 : Nat → Nat) (kk : List Int), (hd.length : Int) + 1 - k < t → 0 ≤ k → k ≤ hd.length → C_is h0 h u → D_Pl u pp pl tr B (g_sr G 2 kk) P ω2 → D_cs pp s u ω ω2 sl → K_is (X_ff (fun a b => (fun t u => E_tl (u ++ t)) (X_at xs a) (K_tx (L_at hd b))) xs.length hd.length i k) kk → (kk.length : Int) ≤ 12 * i + k → B_R (d + 4) E_m74 (20, [(4, .int (Zi k)), (3, .int (Zi i)), (0, .ref pl), (1, .ref (P.2.2.2.1 j)), (2, .ref (P.2.2.1 tx))], []) h sl Φ := by
  intro t
  induction t with
  | zero => intro k u h sl ω2 kk ht9 k0 k1 hs hp cs hF hl; omega
  | succ t ih =>
    intro k u h sl ω2 kk ht9 k0 k1 hs hp cs hF hl
    have zk : Zr k := ⟨by omega, by omega⟩
    have g2 : 4 ≤ 5 + 2 * j := by omega
    have et2 : (g_sr G 2 kk).2.2.1 tx = xs := et
    have e22 : (g_sr G 2 kk).1 (5 + 2 * j) = hd := by
      show g_up G.1 2 kk (5 + 2 * j) = hd
      rw [g_up_o (by omega)]; exact e2
    have ft := hp.tF' ht et2
    have fh := hp.rF' (Pl_h5 hj hT) e22
    have hl8 := (hp.tL ht)
    rw [et2] at hl8
    obtain ⟨hl8, hbt⟩ := hl8
    have zlt : Zr (xs.length : Int) := ⟨by omega, by omega⟩
    have zlh : Zr (hd.length : Int) := ⟨by omega, by omega⟩
    have zi : Zr i := ⟨by omega, by omega⟩
    refine Z_go (f2 := (22, [(4, .int (Zi k)), (3, .int (Zi i)), (0, .ref pl), (1, .ref (P.2.2.2.1 j)), (2, .ref (P.2.2.1 tx))], [.int (Zi k)])) (fun _ => rfl) ?_
    refine Z_go (f2 := (23, [(4, .int (Zi k)), (3, .int (Zi i)), (0, .ref pl), (1, .ref (P.2.2.2.1 j)), (2, .ref (P.2.2.1 tx))], [.ref (P.2.2.2.1 j), .int (Zi k)])) (fun _ => rfl) ?_
    refine C_gr rfl hs (hp.2.1 j hj hT).1 (by decide) (Nat.le_of_ble_eq_true rfl) rfl (hp.2.1 j hj hT).2.2.2.2.1 ?_
    refine C_gi rfl hs (hp.rK (Pl_h5 hj hT)) (by decide) (Nat.le_of_ble_eq_true rfl) rfl ?_
    rw [show C_F (u) (P.1 (5 + 2 * j)) 1 = (hd.length : Int) from (by first | exact fh | exact (if_neg (fun e => absurd e.1 (by assumption))).trans fh | exact (if_neg (fun e => absurd e.2 (by decide))).trans fh | exact (if_neg (fun e => absurd e.2 (by decide))).trans ((if_neg (fun e => absurd e.2 (by decide))).trans fh) | exact (if_neg (fun e => absurd e.2 (by decide))).trans ((if_neg (fun e => absurd e.2 (by decide))).trans ((if_neg (fun e => absurd e.2 (by decide))).trans fh)))]
    show B_R _ _ (29, [(4, .int (Zi k)), (3, .int (Zi i)), (0, .ref pl), (1, .ref (P.2.2.2.1 j)), (2, .ref (P.2.2.1 tx))], [.int (Zi ((hd.length : Int))), .int (Zi k)]) _ _ _
    refine Z_cge rfl rfl (by first | exact hs.zF _ _ | exact Zor_r _ _ | exact hs.zA _ _ | assumption | exact zA _ _ | exact zS _ | exact Zr_not (hs.zA _ _) | exact hs.1.1 _ _ | exact ⟨by omega, by omega⟩) (by first | exact hs.zF _ _ | exact Zor_r _ _ | exact hs.zA _ _ | assumption | exact zA _ _ | exact zS _ | exact Zr_not (hs.zA _ _) | exact hs.1.1 _ _ | exact ⟨by omega, by omega⟩) (fun y1 => ?_) (fun y1 => ?_)
    · refine B_loc (K := [(3, .int (Zi i)), (0, .ref pl), (1, .ref (P.2.2.2.1 j)), (2, .ref (P.2.2.1 tx))]) (N_all_sub ⟨rfl, rfl, rfl, rfl, trivial⟩) (show ([3, 0, 1, 2] : List Nat).Nodup by decide) ?_
      obtain rfl : k = hd.length := by omega
      exact ret u h sl ω2 kk hs hp cs hF (by omega)
    · refine Z_go (f2 := (33, [(4, .int (Zi k)), (3, .int (Zi i)), (0, .ref pl), (1, .ref (P.2.2.2.1 j)), (2, .ref (P.2.2.1 tx))], [.ref pl])) (fun _ => rfl) ?_
      refine C_gr rfl hs hp.1.1.1 (by decide) (Nat.le_of_ble_eq_true rfl) rfl hp.1.1.2.2.2.2.2.2.2.2.1 ?_
      refine Z_go (f2 := (37, [(4, .int (Zi k)), (3, .int (Zi i)), (0, .ref pl), (1, .ref (P.2.2.2.1 j)), (2, .ref (P.2.2.1 tx))], [.ref (P.2.2.1 tx), .ref (P.1 2)])) (fun _ => rfl) ?_
      refine Z_go (f2 := (38, [(4, .int (Zi k)), (3, .int (Zi i)), (0, .ref pl), (1, .ref (P.2.2.2.1 j)), (2, .ref (P.2.2.1 tx))], [.int (Zi i), .ref (P.2.2.1 tx), .ref (P.1 2)])) (fun _ => rfl) ?_
      refine Z_go (f2 := (39, [(4, .int (Zi k)), (3, .int (Zi i)), (0, .ref pl), (1, .ref (P.2.2.2.1 j)), (2, .ref (P.2.2.1 tx))], [.ref (P.2.2.2.1 j), .int (Zi i), .ref (P.2.2.1 tx), .ref (P.1 2)])) (fun _ => rfl) ?_
      refine C_gr rfl hs (hp.2.1 j hj hT).1 (by decide) (Nat.le_of_ble_eq_true rfl) rfl (hp.2.1 j hj hT).2.2.2.2.1 ?_
      refine Z_go (f2 := (44, [(4, .int (Zi k)), (3, .int (Zi i)), (0, .ref pl), (1, .ref (P.2.2.2.1 j)), (2, .ref (P.2.2.1 tx))], [.int (Zi k), .ref (P.1 (5 + 2 * j)), .int (Zi i), .ref (P.2.2.1 tx), .ref (P.1 2)])) (fun _ => rfl) ?_
      refine C_callVR (As := [.int (Zi k)]) (rest := [.int (Zi i), .ref (P.2.2.1 tx), .ref (P.1 2)]) rfl (by decide) rfl (by decide) rfl rfl (by decide +kernel) (Nat.le_of_ble_eq_true rfl) hs (hp.rK (Pl_h5 hj hT)) (o_at' _ hp (Pl_h5 hj hT) e22 (i := k) zk) (fun x q => ?_)
      obtain rfl := q
      obtain ⟨ka1, ka2, ka3⟩ := hH.at (L_at_mem.mpr ⟨k, k0, by omega, rfl⟩ : L_at hd k ∈ hd)
      rw [← ka3]
      show B_R _ _ (47, [(4, .int (Zi k)), (3, .int (Zi i)), (0, .ref pl), (1, .ref (P.2.2.2.1 j)), (2, .ref (P.2.2.1 tx))], [.int (Zi ((K_ky (K_tx (L_at hd k))))), .int (Zi i), .ref (P.2.2.1 tx), .ref (P.1 2)]) _ _ _
      refine C_callSR (vs := [.ref (P.2.2.1 tx), .int (Zi i), .int (Zi ((K_ky (K_tx (L_at hd k)))))]) (rest := [.ref (P.1 2)]) rfl (by decide) rfl rfl rfl (Nat.le_of_ble_eq_true rfl) hs (C_tkey _ hp B0 B1 ht et2 i0 i1 ka2) (fun x q => ?_)
      obtain rfl := q
      have hby : L_by2 (E_tl (K_tx (L_at hd k) ++ X_at xs i)) := E_tl_by (fun x hx => by rcases List.mem_append.mp hx with e | e; exact ka2.2 x e; exact (hbt _ (X_at_mem i0 i1)).2 x e)
      obtain ⟨kb1, kb2⟩ := K_ky_r hby
      show B_R _ _ (50, [(4, .int (Zi k)), (3, .int (Zi i)), (0, .ref pl), (1, .ref (P.2.2.2.1 j)), (2, .ref (P.2.2.1 tx))], [.int (Zi ((K_ky (E_tl (K_tx (L_at hd k) ++ X_at xs i))))), .ref (P.1 2)]) _ _ _
      refine C_callV (As := [.int (Zi ((K_ky (E_tl (K_tx (L_at hd k) ++ X_at xs i)))))]) (rest := []) rfl (by decide) rfl (by decide) rfl rfl (by decide +kernel) (Nat.le_of_ble_eq_true rfl) hs (hp.rK (.inl (by omega))) (o_insert' _ hp (r := 2) (.inl (by omega)) (xs := kk) (by simp only [g_sr, g_sf, g_st, g_se, g_su]; repeat (first | rw [g_up_s] | rw [g_up_o (by omega)])) hs.1 (v := K_ky (E_tl (K_tx (L_at hd k) ++ X_at xs i))) hF.1 ⟨by omega, by omega⟩ (by omega) B1) (fun x h v1 n1 hs q => ?_)
      obtain ⟨rfl, ω4, hp, cq⟩ := q
      have cs := cs.tr cq
      rw [g_sr_i] at hp
      show B_R _ _ (53, [(4, .int (Zi k)), (3, .int (Zi i)), (0, .ref pl), (1, .ref (P.2.2.2.1 j)), (2, .ref (P.2.2.1 tx))], []) _ _ _
      refine Z_iinc (L2 := [(4, .int (Zi (k + 1))), (3, .int (Zi i)), (0, .ref pl), (1, .ref (P.2.2.2.1 j)), (2, .ref (P.2.2.1 tx))]) rfl rfl (by decide) rfl ?_
      refine Z_go (f2 := (20, [(4, .int (Zi (k + 1))), (3, .int (Zi i)), (0, .ref pl), (1, .ref (P.2.2.2.1 j)), (2, .ref (P.2.2.1 tx))], [])) (fun _ => rfl) ?_
      refine B_loc (K := [(4, .int (Zi (k + 1))), (3, .int (Zi i)), (0, .ref pl), (1, .ref (P.2.2.2.1 j)), (2, .ref (P.2.2.1 tx))]) (N_all_sub ⟨rfl, rfl, rfl, rfl, rfl, trivial⟩) (show ([4, 3, 0, 1, 2] : List Nat).Nodup by decide) ?_
      have hF2 := (hF.ins hby).ext (X_ff_s (f := (fun a b => (fun t u => E_tl (u ++ t)) (X_at xs a) (K_tx (L_at hd b)))) i0 i1 k0 (show k < (hd.length : Int) by omega))
      have hl2 := L_ins_lq (K_ky (E_tl (K_tx (L_at hd k) ++ X_at xs i))) kk
      exact ih _ _ h _ _ _ (by omega) (by omega) (by omega) hs hp cs hF2 (by omega)
theorem C_jtails1 {d : Nat} {h0 : E_H} {s : C_S} {pp : List Nat} {pl tr B : Nat} {G : G_t} {P : G_p} {ω : Nat → Nat} {j tx : Nat} {xs : List (List Int)} {hd : List Int} {A H : P_X} (B0 : 1280 ≤ B) (B1 : B ≤ 20000) (hj : j ≤ 38) (hT : P.2.2.2.2.1 j = true) (ht : Pl_ht P tx) (et : G.2.2.1 tx = xs) (e2 : G.1 (5 + 2 * j) = hd) (hA : T_tel A xs) (hH : K_is H hd) (lh : hd.length ≤ 12) : ∀ (t : Nat) (i : Int) (u : C_S) (h : E_H) (sl : Nat) (ω2 : Nat → Nat) (kk : List Int), (xs.length : Int) + 1 - i < t → 0 ≤ i → i ≤ xs.length → C_is h0 h u → D_Pl u pp pl tr B (g_sr G 2 kk) P ω2 → D_cs pp s u ω ω2 sl → K_is (X_ff (fun a b => (fun t u => E_tl (u ++ t)) (X_at xs a) (K_tx (L_at hd b))) xs.length hd.length i 0) kk → (kk.length : Int) ≤ 12 * i → B_R (d + 4) E_m74 (9, [(3, .int (Zi i)), (0, .ref pl), (1, .ref (P.2.2.2.1 j)), (2, .ref (P.2.2.1 tx))], []) h sl (fun x => ∃ s2 : C_S, C_is h0 x.2.1 s2 ∧ x.1 = none ∧ ∃ ys k2 sk, K_is (E_ts (F_im2 (fun t u => E_tl (u ++ t)) A H)) ys ∧ ys.length ≤ 12 ∧ D_ch pp pl tr B s P ω (g_sr (g_sr (g_sr G 2 k2) (5 + 2 * j) ys) 3 sk) s2 x.2.2) := by
  intro t
  induction t with
  | zero => intro i u h sl ω2 kk ht9 i0 i1 hs hp cs hF hl; omega
  | succ t ih =>
    intro i u h sl ω2 kk ht9 i0 i1 hs hp cs hF hl
    have g2 : 4 ≤ 5 + 2 * j := by omega
    have et2 : (g_sr G 2 kk).2.2.1 tx = xs := et
    have e22 : (g_sr G 2 kk).1 (5 + 2 * j) = hd := by
      show g_up G.1 2 kk (5 + 2 * j) = hd
      rw [g_up_o (by omega)]; exact e2
    have ft := hp.tF' ht et2
    have fh := hp.rF' (Pl_h5 hj hT) e22
    have hl8 := (hp.tL ht)
    rw [et2] at hl8
    obtain ⟨hl8, hbt⟩ := hl8
    have zlt : Zr (xs.length : Int) := ⟨by omega, by omega⟩
    have zlh : Zr (hd.length : Int) := ⟨by omega, by omega⟩
    have zi : Zr i := ⟨by omega, by omega⟩
    refine Z_go (f2 := (10, [(3, .int (Zi i)), (0, .ref pl), (1, .ref (P.2.2.2.1 j)), (2, .ref (P.2.2.1 tx))], [.int (Zi i)])) (fun _ => rfl) ?_
    refine Z_go (f2 := (11, [(3, .int (Zi i)), (0, .ref pl), (1, .ref (P.2.2.2.1 j)), (2, .ref (P.2.2.1 tx))], [.ref (P.2.2.1 tx), .int (Zi i)])) (fun _ => rfl) ?_
    refine C_gi rfl hs (hp.tK ht) (by decide) (Nat.le_of_ble_eq_true rfl) rfl ?_
    rw [show C_F (u) (P.2.2.1 tx) 2 = (xs.length : Int) from (by first | exact ft | exact (if_neg (fun e => absurd e.1 (by assumption))).trans ft | exact (if_neg (fun e => absurd e.2 (by decide))).trans ft | exact (if_neg (fun e => absurd e.2 (by decide))).trans ((if_neg (fun e => absurd e.2 (by decide))).trans ft) | exact (if_neg (fun e => absurd e.2 (by decide))).trans ((if_neg (fun e => absurd e.2 (by decide))).trans ((if_neg (fun e => absurd e.2 (by decide))).trans ft)))]
    show B_R _ _ (14, [(3, .int (Zi i)), (0, .ref pl), (1, .ref (P.2.2.2.1 j)), (2, .ref (P.2.2.1 tx))], [.int (Zi ((xs.length : Int))), .int (Zi i)]) _ _ _
    refine Z_cge rfl rfl (by first | exact hs.zF _ _ | exact Zor_r _ _ | exact hs.zA _ _ | assumption | exact zA _ _ | exact zS _ | exact Zr_not (hs.zA _ _) | exact hs.1.1 _ _ | exact ⟨by omega, by omega⟩) (by first | exact hs.zF _ _ | exact Zor_r _ _ | exact hs.zA _ _ | assumption | exact zA _ _ | exact zS _ | exact Zr_not (hs.zA _ _) | exact hs.1.1 _ _ | exact ⟨by omega, by omega⟩) (fun y1 => ?_) (fun y1 => ?_)
    · have ei : i = xs.length := by omega
      refine Z_go (f2 := (66, [(3, .int (Zi i)), (0, .ref pl), (1, .ref (P.2.2.2.1 j)), (2, .ref (P.2.2.1 tx))], [.ref pl])) (fun _ => rfl) ?_
      refine Z_go (f2 := (67, [(3, .int (Zi i)), (0, .ref pl), (1, .ref (P.2.2.2.1 j)), (2, .ref (P.2.2.1 tx))], [.ref (P.2.2.2.1 j), .ref pl])) (fun _ => rfl) ?_
      refine C_gr rfl hs (hp.2.1 j hj hT).1 (by decide) (Nat.le_of_ble_eq_true rfl) rfl (hp.2.1 j hj hT).2.2.2.2.1 ?_
      refine Z_go (f2 := (71, [(3, .int (Zi i)), (0, .ref pl), (1, .ref (P.2.2.2.1 j)), (2, .ref (P.2.2.1 tx))], [.int (Zi 1), .ref (P.1 (5 + 2 * j)), .ref pl])) (fun _ => rfl) ?_
      refine C_callV (As := [.ref (P.1 (5 + 2 * j)), .int (Zi 1)]) (rest := []) rfl (by decide) rfl (by decide) rfl rfl (by decide +kernel) (Nat.le_of_ble_eq_true rfl) hs hp.1.1.1 (C_short _ (r := (5 + 2 * j)) (b := 1) (ks := kk) (S := F_im2 (fun t u => E_tl (u ++ t)) A H) hp B0 B1 (Pl_h5 hj hT) (by omega) (.inr rfl) (by simp only [g_sr, g_sf, g_st, g_se, g_su]; repeat (first | rw [g_up_s] | rw [g_up_o (by omega)])) (hF.ext (fun z => by rw [X_ff_A hA hH (fun t u => E_tl (u ++ t)) z, ei])) (by omega)) (fun x h v1 n1 hs q => ?_)
      obtain ⟨rfl, ys, sk, q1, q2, ω3, hp, cq⟩ := q
      have cs := cs.tr cq
      rw [E_bb1] at q1
      show B_R _ _ (74, [(3, .int (Zi i)), (0, .ref pl), (1, .ref (P.2.2.2.1 j)), (2, .ref (P.2.2.1 tx))], []) _ _ _
      refine Z_ret rfl rfl ?_
      try dsimp only
      exact ⟨_, hs, rfl, ys, kk, sk, q1, q2, _, hp, cs⟩
    · refine Z_go (f2 := (18, [(3, .int (Zi i)), (0, .ref pl), (1, .ref (P.2.2.2.1 j)), (2, .ref (P.2.2.1 tx))], [.int (Zi 0)])) (fun _ => rfl) ?_
      refine Z_go (f2 := (20, [(4, .int (Zi 0)), (3, .int (Zi i)), (0, .ref pl), (1, .ref (P.2.2.2.1 j)), (2, .ref (P.2.2.1 tx))], [])) (fun _ => rfl) ?_
      refine B_loc (K := [(4, .int (Zi 0)), (3, .int (Zi i)), (0, .ref pl), (1, .ref (P.2.2.2.1 j)), (2, .ref (P.2.2.1 tx))]) (N_all_sub ⟨rfl, rfl, rfl, rfl, rfl, trivial⟩) (show ([4, 3, 0, 1, 2] : List Nat).Nodup by decide) ?_
      refine C_jtails2 B0 B1 hj hT ht et e2 hA hH lh i0 (by omega) hl8 (fun u h sl ω2 kk hs hp cs hF hl => ?_) (hd.length + 2) 0 u h _ _ _ (by omega) (by omega) (by omega) hs hp cs hF (by omega)
      refine Z_iinc (L2 := [(3, .int (Zi (i + 1))), (0, .ref pl), (1, .ref (P.2.2.2.1 j)), (2, .ref (P.2.2.1 tx))]) rfl rfl (by decide) rfl ?_
      refine Z_go (f2 := (9, [(3, .int (Zi (i + 1))), (0, .ref pl), (1, .ref (P.2.2.2.1 j)), (2, .ref (P.2.2.1 tx))], [])) (fun _ => rfl) ?_
      exact ih _ u h _ _ _ (by omega) (by omega) (by omega) hs hp cs (hF.ext X_ff_n) (by omega)
theorem C_jtails (d : Nat) {s : C_S} {pp : List Nat} {pl tr B : Nat} {G : G_t} {P : G_p} {ω : Nat → Nat} {j tx : Nat} {xs : List (List Int)} {hd : List Int} {A H : P_X} (hp : D_Pl s pp pl tr B G P ω) (B0 : 1280 ≤ B) (B1 : B ≤ 20000) (hj : j ≤ 38) (hT : P.2.2.2.2.1 j = true) (ht : Pl_ht P tx) (et : G.2.2.1 tx = xs) (e2 : G.1 (5 + 2 * j) = hd) (hA : T_tel A xs) (hH : K_is H hd) (lh : hd.length ≤ 12) : C_ok (d + 5) 74 [.ref pl, .ref (P.2.2.2.1 j), .ref (P.2.2.1 tx)] s (fun x s2 n => x = none ∧ ∃ ys k2 sk, K_is (E_ts (F_im2 (fun t u => E_tl (u ++ t)) A H)) ys ∧ ys.length ≤ 12 ∧ D_ch pp pl tr B s P ω (g_sr (g_sr (g_sr G 2 k2) (5 + 2 * j) ys) 3 sk) s2 n) := by
  refine C_enter (M := E_m74) rfl (Nat.le_of_ble_eq_true rfl) (fun h0 h hs => ?_)
  show B_R (d + 4) _ (0, [(0, .ref pl), (1, .ref (P.2.2.2.1 j)), (2, .ref (P.2.2.1 tx))], []) _ _ _
  have cs := D_cs.refl pp s ω
  refine Z_go (f2 := (1, [(0, .ref pl), (1, .ref (P.2.2.2.1 j)), (2, .ref (P.2.2.1 tx))], [.ref pl])) (fun _ => rfl) ?_
  refine C_gr rfl hs hp.1.1.1 (by decide) (Nat.le_of_ble_eq_true rfl) rfl hp.1.1.2.2.2.2.2.2.2.2.1 ?_
  refine C_callV (As := []) (rest := []) rfl (by decide) rfl (by decide) rfl rfl (by decide +kernel) (Nat.le_of_ble_eq_true rfl) hs (hp.rK (.inl (by omega))) (o_clear _ hp (r := 2) (.inl (by omega)) hs.1) (fun x h v2 n2 hs q => ?_)
  obtain ⟨rfl, ω2, hp, cq⟩ := q
  have cs := cs.tr cq
  show B_R _ _ (7, [(0, .ref pl), (1, .ref (P.2.2.2.1 j)), (2, .ref (P.2.2.1 tx))], []) _ _ _
  refine Z_go (f2 := (8, [(0, .ref pl), (1, .ref (P.2.2.2.1 j)), (2, .ref (P.2.2.1 tx))], [.int (Zi 0)])) (fun _ => rfl) ?_
  refine Z_go (f2 := (9, [(3, .int (Zi 0)), (0, .ref pl), (1, .ref (P.2.2.2.1 j)), (2, .ref (P.2.2.1 tx))], [])) (fun _ => rfl) ?_
  refine B_loc (K := [(3, .int (Zi 0)), (0, .ref pl), (1, .ref (P.2.2.2.1 j)), (2, .ref (P.2.2.1 tx))]) (N_all_sub ⟨rfl, rfl, rfl, rfl, trivial⟩) (show ([3, 0, 1, 2] : List Nat).Nodup by decide) ?_
  exact C_jtails1 B0 B1 hj hT ht et e2 hA hH lh (xs.length + 2) 0 _ h _ _ [] (by omega) (by omega) (by omega) hs hp cs (K_is.nil.ext X_ff_0) (by show (0 : Int) ≤ _; omega)
