/-! the reference: its code, turned and counted -/
/-- k pairs from p on are set aside -/
def R_tA (s u : R_S) (p k : Int) : Prop := R_xf s u ∧ u.1 48 = s.1 48 ∧ (∀ i, u.2.1 113 i = s.2.1 113 i) ∧ (∀ i, u.2.1 114 i = s.2.1 114 i) ∧ ∀ i, 0 ≤ i → i < k → u.2.1 116 (2 * i) = s.2.1 113 (p + i) ∧ u.2.1 116 (2 * i + 1) = s.2.1 114 (p + i)
theorem R_tA_0 (s : R_S) (p : Int) : R_tA s s p 0 := ⟨⟨fun _ _ => rfl, fun _ _ _ => rfl, rfl⟩, rfl, fun _ => rfl, fun _ => rfl, fun i i0 i1 => by omega⟩
theorem R_tA.st {s u : R_S} {p k x y v w : Int} (h : R_tA s u p k) (hx : x = 2 * k) (hy : y = 2 * k + 1) (hv : v = s.2.1 113 (p + k)) (hw : w = s.2.1 114 (p + k)) : R_tA s (R_sA (R_sA u 116 x v) 116 y w) p (k + 1) := by
  obtain ⟨h1, h2, h3, h4, h5⟩ := h
  refine ⟨h1.tr ⟨fun _ _ => rfl, fun q hq j => by rw [R_sA_n _ _ _ _ (fun e => hq (by rw [e]; decide)), R_sA_n _ _ _ _ (fun e => hq (by rw [e]; decide))], rfl⟩, h2, fun i => by rw [R_sA_n _ _ _ _ (by decide), R_sA_n _ _ _ _ (by decide)]; exact h3 i, fun i => by rw [R_sA_n _ _ _ _ (by decide), R_sA_n _ _ _ _ (by decide)]; exact h4 i, fun i i0 i1 => ?_⟩
  by_cases c : i = k
  · subst c
    rw [R_sA_m _ _ _ _ (show 2 * i ≠ y by omega), hx, R_sA_s, hy, R_sA_s]
    exact ⟨hv, hw⟩
  · rw [R_sA_m _ _ _ _ (show 2 * i ≠ y by omega), R_sA_m _ _ _ _ (show 2 * i ≠ x by omega), R_sA_m _ _ _ _ (show 2 * i + 1 ≠ y by omega), R_sA_m _ _ _ _ (show 2 * i + 1 ≠ x by omega)]
    exact h5 i i0 (by omega)
theorem R_tA.xs {s u : R_S} {p k : Int} {B : X_L} (h : R_tA s u p k) (hk : k = B.length) (hB : R_xl s p B) : R_xs u B := fun i hi => by
  obtain ⟨h1, h2⟩ := h.2.2.2.2 i (by omega) (by omega)
  rw [h1, h2]
  exact hB i hi
/-- n places ahead, from p on, as far as k -/
def R_tB (s u : R_S) (p n k : Int) : Prop := R_xf s u ∧ u.1 48 = s.1 48 ∧ (∀ i, u.2.1 113 i = if p ≤ i ∧ i < k - n then s.2.1 113 (i + n) else s.2.1 113 i) ∧ (∀ i, u.2.1 114 i = if p ≤ i ∧ i < k - n then s.2.1 114 (i + n) else s.2.1 114 i) ∧ ∀ i, u.2.1 116 i = s.2.1 116 i
theorem R_tB_0 {s : R_S} {p n k : Int} (h : k - n = p) : R_tB s s p n k := ⟨⟨fun _ _ => rfl, fun _ _ _ => rfl, rfl⟩, rfl, fun i => by rw [if_neg (by omega)], fun i => by rw [if_neg (by omega)], fun _ => rfl⟩
theorem R_tB.st {s u : R_S} {p n k : Int} (h : R_tB s u p n k) (hn : 0 ≤ n) (hp : p ≤ k - n) : R_tB s (R_sA (R_sA u 113 (k - n) (u.2.1 113 k)) 114 (k - n) ((R_sA u 113 (k - n) (u.2.1 113 k)).2.1 114 k)) p n (k + 1) := by
  obtain ⟨h1, h2, h3, h4, h5⟩ := h
  refine ⟨h1.tr ⟨fun _ _ => rfl, fun q hq j => by rw [R_sA_n _ _ _ _ (fun e => hq (by rw [e]; decide)), R_sA_n _ _ _ _ (fun e => hq (by rw [e]; decide))], rfl⟩, h2, fun i => ?_, fun i => ?_, fun i => by rw [R_sA_n _ _ _ _ (by decide), R_sA_n _ _ _ _ (by decide)]; exact h5 i⟩
  · rw [R_sA_n _ _ _ _ (by decide)]
    by_cases c : i = k - n
    · rw [c, R_sA_s, h3, if_neg (by omega), if_pos (by omega), show k - n + n = k by omega]
    · rw [R_sA_m _ _ _ _ c, h3]
      by_cases c2 : p ≤ i ∧ i < k - n
      · rw [if_pos c2, if_pos (by omega)]
      · rw [if_neg c2, if_neg (by omega)]
  · by_cases c : i = k - n
    · rw [c, R_sA_s, R_sA_n _ _ _ _ (by decide), h4, if_neg (by omega), if_pos (by omega), show k - n + n = k by omega]
    · rw [R_sA_m _ _ _ _ c, R_sA_n _ _ _ _ (by decide), h4]
      by_cases c2 : p ≤ i ∧ i < k - n
      · rw [if_pos c2, if_pos (by omega)]
      · rw [if_neg c2, if_neg (by omega)]
/-- what was set aside, from c on, k pairs -/
def R_tC (s u : R_S) (c k : Int) : Prop := R_xf s u ∧ u.1 48 = s.1 48 ∧ (∀ i, u.2.1 113 i = if c ≤ i ∧ i < c + k then s.2.1 116 (2 * (i - c)) else s.2.1 113 i) ∧ (∀ i, u.2.1 114 i = if c ≤ i ∧ i < c + k then s.2.1 116 (2 * (i - c) + 1) else s.2.1 114 i) ∧ ∀ i, u.2.1 116 i = s.2.1 116 i
theorem R_tC_0 (s : R_S) (c : Int) : R_tC s s c 0 := ⟨⟨fun _ _ => rfl, fun _ _ _ => rfl, rfl⟩, rfl, fun i => by rw [if_neg (by omega)], fun i => by rw [if_neg (by omega)], fun _ => rfl⟩
theorem R_tC.st {s u : R_S} {c k x : Int} (h : R_tC s u c k) (k0 : 0 ≤ k) (hx : x = c + k) : R_tC s (R_sA (R_sA u 113 x (u.2.1 116 (2 * k))) 114 x ((R_sA u 113 x (u.2.1 116 (2 * k))).2.1 116 (2 * k + 1))) c (k + 1) := by
  obtain ⟨h1, h2, h3, h4, h5⟩ := h
  refine ⟨h1.tr ⟨fun _ _ => rfl, fun q hq j => by rw [R_sA_n _ _ _ _ (fun e => hq (by rw [e]; decide)), R_sA_n _ _ _ _ (fun e => hq (by rw [e]; decide))], rfl⟩, h2, fun i => ?_, fun i => ?_, fun i => by rw [R_sA_n _ _ _ _ (by decide), R_sA_n _ _ _ _ (by decide)]; exact h5 i⟩
  · rw [R_sA_n _ _ _ _ (by decide)]
    by_cases e : i = x
    · rw [e, R_sA_s, h5, if_pos (by omega), show x - c = k by omega]
    · rw [R_sA_m _ _ _ _ e, h3]
      by_cases c2 : c ≤ i ∧ i < c + k
      · rw [if_pos c2, if_pos (by omega)]
      · rw [if_neg c2, if_neg (by omega)]
  · by_cases e : i = x
    · rw [e, R_sA_s, R_sA_n _ _ _ _ (by decide), h5, if_pos (by omega), show x - c = k by omega]
    · rw [R_sA_m _ _ _ _ e, R_sA_n _ _ _ _ (by decide), h4]
      by_cases c2 : c ≤ i ∧ i < c + k
      · rw [if_pos c2, if_pos (by omega)]
      · rw [if_neg c2, if_neg (by omega)]
theorem R_turned {s u w v : R_S} {K B1 B2 : X_L} {p n c : Int} (hp : p = K.length) (hn : n = B1.length) (hc : c = (K ++ B1 ++ B2).length) (hx : R_xc s (K ++ B1 ++ B2)) (ha : R_tA s u p n) (hb : R_tB u w p n c) (hd : R_tC w v (c - n) n) : R_xc v (K ++ B2 ++ B1) ∧ R_xf s v := by
  obtain ⟨a1, a2, a3, a4, a5⟩ := ha
  obtain ⟨b1, b2, b3, b4, b5⟩ := hb
  obtain ⟨d1, d2, d3, d4, d5⟩ := hd
  obtain ⟨h1, h2⟩ := hx
  obtain ⟨h3, h6⟩ := h2.app
  obtain ⟨h4, h5⟩ := h3.app
  simp only [List.length_append] at hc h1 h6
  refine ⟨⟨by rw [d2, b2, a2, h1]; simp only [List.length_append]; omega, R_xl.of (R_xl.of (h4.at (fun i i0 i1 => ?_)) (h6.at (fun i i0 i1 => ?_))) (h5.at (fun i i0 i1 => ?_))⟩, (a1.tr b1).tr d1⟩
  · rw [d3, d4, if_neg (by omega), if_neg (by omega), b3, b4, if_neg (by omega), if_neg (by omega), a3, a4]
    exact ⟨rfl, rfl⟩
  · rw [d3, d4, if_neg (by omega), if_neg (by omega), b3, b4, if_pos (by omega), if_pos (by omega), a3, a4, show (0 : Int) + K.length + i + n = 0 + ((K.length + B1.length : Nat) : Int) + i by omega]
    exact ⟨rfl, rfl⟩
  · simp only [List.length_append]
    obtain ⟨e1, e2⟩ := a5 i i0 (by omega)
    rw [d3, d4, if_pos (by omega), if_pos (by omega), b5, b5, show (0 : Int) + ((K.length + B2.length : Nat) : Int) + i - (c - n) = i by omega, e1, e2, show (0 : Int) + K.length + i = p + i by omega]
    exact ⟨rfl, rfl⟩
theorem R_tn_A {d : Nat} {h0 : E_H} {s : R_S} {sl : Nat} {Φ : E_R → Prop} {p n a b : Int} (p0 : 0 ≤ p) (n1 : p + n < 3000) (zn : Zr n) (kont : ∀ (u : R_S) (h : E_H), R_is h0 h u → R_tA s u p n → B_R d E_m252 (57, [(3, .int (Zi n)), (0, .ref 83), (1, .int (Zi p)), (2, .int (Zi b))], []) h sl Φ) : ∀ (t : Nat) (k : Int) (u : R_S) (h : E_H), n - k < t → R_is h0 h u → R_tA s u p k → 0 ≤ k → k ≤ n → B_R d E_m252 (7, [(4, .int (Zi k)), (3, .int (Zi n)), (0, .ref 83), (1, .int (Zi p)), (2, .int (Zi b))], []) h sl Φ := by
  intro t
  induction t with
  | zero => intro k u h ht hs hu k0 k1; omega
  | succ t ih =>
    intro k u h ht hs hu k0 k1
    have zA : ∀ q j, Zr (u.2.1 q j) := fun q j => hs.zA q j
    refine Z_go (f2 := (9, [(4, .int (Zi k)), (3, .int (Zi n)), (0, .ref 83), (1, .int (Zi p)), (2, .int (Zi b))], [.int (Zi k)])) (fun _ => rfl) ?_
    refine Z_go (f2 := (10, [(4, .int (Zi k)), (3, .int (Zi n)), (0, .ref 83), (1, .int (Zi p)), (2, .int (Zi b))], [.int (Zi n), .int (Zi k)])) (fun _ => rfl) ?_
    refine Z_cge rfl rfl (by first | exact hs.zF _ | exact Zor_r _ _ | exact hs.zA _ _ | assumption | exact zA _ _ | exact zS _ | exact Zr_not (hs.zA _ _) | exact ⟨by omega, by omega⟩) (by first | exact hs.zF _ | exact Zor_r _ _ | exact hs.zA _ _ | assumption | exact zA _ _ | exact zS _ | exact Zr_not (hs.zA _ _) | exact ⟨by omega, by omega⟩) (fun c1 => ?_) (fun c1 => ?_)
    · refine B_loc (K := [(3, .int (Zi n)), (0, .ref 83), (1, .int (Zi p)), (2, .int (Zi b))]) (N_all_sub ⟨rfl, rfl, rfl, rfl, trivial⟩) (show ([3, 0, 1, 2] : List Nat).Nodup by decide) ?_
      obtain rfl : k = n := by omega
      exact kont u h hs hu
    · refine Z_go (f2 := (14, [(4, .int (Zi k)), (3, .int (Zi n)), (0, .ref 83), (1, .int (Zi p)), (2, .int (Zi b))], [.ref 83])) (fun _ => rfl) ?_
      refine R_gr (q := 114) rfl hs rfl ?_
      show B_R _ _ (17, [(4, .int (Zi k)), (3, .int (Zi n)), (0, .ref 83), (1, .int (Zi p)), (2, .int (Zi b))], [.ref 116]) _ _ _
      refine Z_go (f2 := (18, [(4, .int (Zi k)), (3, .int (Zi n)), (0, .ref 83), (1, .int (Zi p)), (2, .int (Zi b))], [.int (Zi 2), .ref 116])) (fun _ => rfl) ?_
      refine Z_go (f2 := (20, [(4, .int (Zi k)), (3, .int (Zi n)), (0, .ref 83), (1, .int (Zi p)), (2, .int (Zi b))], [.int (Zi k), .int (Zi 2), .ref 116])) (fun _ => rfl) ?_
      refine Z_imul rfl ?_
      refine Z_go (f2 := (22, [(4, .int (Zi k)), (3, .int (Zi n)), (0, .ref 83), (1, .int (Zi p)), (2, .int (Zi b))], [.ref 83, .int (Zi (2 * k)), .ref 116])) (fun _ => rfl) ?_
      refine R_gr (q := 111) rfl hs rfl ?_
      show B_R _ _ (25, [(4, .int (Zi k)), (3, .int (Zi n)), (0, .ref 83), (1, .int (Zi p)), (2, .int (Zi b))], [.ref 113, .int (Zi (2 * k)), .ref 116]) _ _ _
      refine Z_go (f2 := (26, [(4, .int (Zi k)), (3, .int (Zi n)), (0, .ref 83), (1, .int (Zi p)), (2, .int (Zi b))], [.int (Zi p), .ref 113, .int (Zi (2 * k)), .ref 116])) (fun _ => rfl) ?_
      refine Z_go (f2 := (28, [(4, .int (Zi k)), (3, .int (Zi n)), (0, .ref 83), (1, .int (Zi p)), (2, .int (Zi b))], [.int (Zi k), .int (Zi p), .ref 113, .int (Zi (2 * k)), .ref 116])) (fun _ => rfl) ?_
      refine Z_iadd rfl ?_
      refine R_ia (q := 29) rfl hs rfl rfl (by omega) (by omega) (by decide) ?_
      refine R_is_ (q := 32) rfl hs rfl rfl (by omega) (by omega) (by decide) (by first | exact hs.zF _ | exact Zor_r _ _ | exact hs.zA _ _ | assumption | exact zA _ _ | exact zS _ | exact Zr_not (hs.zA _ _) | exact ⟨by omega, by omega⟩) (fun h hs => ?_)
      refine Z_go (f2 := (32, [(4, .int (Zi k)), (3, .int (Zi n)), (0, .ref 83), (1, .int (Zi p)), (2, .int (Zi b))], [.ref 83])) (fun _ => rfl) ?_
      refine R_gr (q := 114) rfl hs rfl ?_
      show B_R _ _ (35, [(4, .int (Zi k)), (3, .int (Zi n)), (0, .ref 83), (1, .int (Zi p)), (2, .int (Zi b))], [.ref 116]) _ _ _
      refine Z_go (f2 := (36, [(4, .int (Zi k)), (3, .int (Zi n)), (0, .ref 83), (1, .int (Zi p)), (2, .int (Zi b))], [.int (Zi 2), .ref 116])) (fun _ => rfl) ?_
      refine Z_go (f2 := (38, [(4, .int (Zi k)), (3, .int (Zi n)), (0, .ref 83), (1, .int (Zi p)), (2, .int (Zi b))], [.int (Zi k), .int (Zi 2), .ref 116])) (fun _ => rfl) ?_
      refine Z_imul rfl ?_
      refine Z_go (f2 := (40, [(4, .int (Zi k)), (3, .int (Zi n)), (0, .ref 83), (1, .int (Zi p)), (2, .int (Zi b))], [.int (Zi 1), .int (Zi (2 * k)), .ref 116])) (fun _ => rfl) ?_
      refine Z_iadd rfl ?_
      refine Z_go (f2 := (42, [(4, .int (Zi k)), (3, .int (Zi n)), (0, .ref 83), (1, .int (Zi p)), (2, .int (Zi b))], [.ref 83, .int (Zi (2 * k + 1)), .ref 116])) (fun _ => rfl) ?_
      refine R_gr (q := 112) rfl hs rfl ?_
      show B_R _ _ (45, [(4, .int (Zi k)), (3, .int (Zi n)), (0, .ref 83), (1, .int (Zi p)), (2, .int (Zi b))], [.ref 114, .int (Zi (2 * k + 1)), .ref 116]) _ _ _
      refine Z_go (f2 := (46, [(4, .int (Zi k)), (3, .int (Zi n)), (0, .ref 83), (1, .int (Zi p)), (2, .int (Zi b))], [.int (Zi p), .ref 114, .int (Zi (2 * k + 1)), .ref 116])) (fun _ => rfl) ?_
      refine Z_go (f2 := (48, [(4, .int (Zi k)), (3, .int (Zi n)), (0, .ref 83), (1, .int (Zi p)), (2, .int (Zi b))], [.int (Zi k), .int (Zi p), .ref 114, .int (Zi (2 * k + 1)), .ref 116])) (fun _ => rfl) ?_
      refine Z_iadd rfl ?_
      refine R_ia (q := 30) rfl hs rfl rfl (by omega) (by omega) (by decide) ?_
      rw [show (R_sA u 116 (2 * k) (u.2.1 113 (p + k))).2.1 114 (p + k) = u.2.1 114 (p + k) by first | rfl | simp [R_sA, R_sF, R_up2, R_fl, R_fL, R_sM, R_sL, R_p3, R_em]]; show B_R _ _ (50, [(4, .int (Zi k)), (3, .int (Zi n)), (0, .ref 83), (1, .int (Zi p)), (2, .int (Zi b))], [.int (Zi (u.2.1 114 (p + k))), .int (Zi (2 * k + 1)), .ref 116]) _ _ _
      refine R_is_ (q := 32) rfl hs rfl rfl (by omega) (by omega) (by decide) (by first | exact hs.zF _ | exact Zor_r _ _ | exact hs.zA _ _ | assumption | exact zA _ _ | exact zS _ | exact Zr_not (hs.zA _ _) | exact ⟨by omega, by omega⟩) (fun h hs => ?_)
      refine Z_iinc (L2 := [(4, .int (Zi (k + 1))), (3, .int (Zi n)), (0, .ref 83), (1, .int (Zi p)), (2, .int (Zi b))]) rfl rfl (by decide) rfl ?_
      refine Z_go (f2 := (7, [(4, .int (Zi (k + 1))), (3, .int (Zi n)), (0, .ref 83), (1, .int (Zi p)), (2, .int (Zi b))], [])) (fun _ => rfl) ?_
      refine B_loc (K := [(4, .int (Zi (k + 1))), (3, .int (Zi n)), (0, .ref 83), (1, .int (Zi p)), (2, .int (Zi b))]) (N_all_sub ⟨rfl, rfl, rfl, rfl, rfl, trivial⟩) (show ([4, 3, 0, 1, 2] : List Nat).Nodup by decide) ?_
      refine ih (k + 1) _ h (by omega) hs (hu.st (by omega) (by omega) ?_ ?_) (by omega) (by omega)
      · exact hu.2.2.1 _
      · first | exact hu.2.2.2.1 _ | (rw [R_sA_n _ _ _ _ (by decide)]; exact hu.2.2.2.1 _)
theorem R_tn_B {d : Nat} {h0 : E_H} {s : R_S} {sl : Nat} {Φ : E_R → Prop} {p n b c : Int} (p0 : 0 ≤ p) (n0 : 0 ≤ n) (hc : c = s.1 48) (c1 : c < 3000) (kont : ∀ (u : R_S) (h : E_H), R_is h0 h u → R_tB s u p n c → B_R d E_m252 (107, [(3, .int (Zi n)), (0, .ref 83), (1, .int (Zi p)), (2, .int (Zi b))], []) h sl Φ) : ∀ (t : Nat) (k : Int) (u : R_S) (h : E_H), c - k < t → R_is h0 h u → R_tB s u p n k → p + n ≤ k → k ≤ c → B_R d E_m252 (60, [(4, .int (Zi k)), (3, .int (Zi n)), (0, .ref 83), (1, .int (Zi p)), (2, .int (Zi b))], []) h sl Φ := by
  intro t
  induction t with
  | zero => intro k u h ht hs hu k0 k1; omega
  | succ t ih =>
    intro k u h ht hs hu k0 k1
    have zA : ∀ q j, Zr (u.2.1 q j) := fun q j => hs.zA q j
    have e48 := hu.2.1
    refine Z_go (f2 := (62, [(4, .int (Zi k)), (3, .int (Zi n)), (0, .ref 83), (1, .int (Zi p)), (2, .int (Zi b))], [.int (Zi k)])) (fun _ => rfl) ?_
    refine Z_go (f2 := (63, [(4, .int (Zi k)), (3, .int (Zi n)), (0, .ref 83), (1, .int (Zi p)), (2, .int (Zi b))], [.ref 83, .int (Zi k)])) (fun _ => rfl) ?_
    refine R_gi rfl hs rfl ?_
    show B_R _ _ (66, [(4, .int (Zi k)), (3, .int (Zi n)), (0, .ref 83), (1, .int (Zi p)), (2, .int (Zi b))], [.int (Zi (u.1 48)), .int (Zi k)]) _ _ _
    refine Z_cge rfl rfl (by first | exact hs.zF _ | exact Zor_r _ _ | exact hs.zA _ _ | assumption | exact zA _ _ | exact zS _ | exact Zr_not (hs.zA _ _) | exact ⟨by omega, by omega⟩) (by first | exact hs.zF _ | exact Zor_r _ _ | exact hs.zA _ _ | assumption | exact zA _ _ | exact zS _ | exact Zr_not (hs.zA _ _) | exact ⟨by omega, by omega⟩) (fun c1 => ?_) (fun c1 => ?_)
    · refine B_loc (K := [(3, .int (Zi n)), (0, .ref 83), (1, .int (Zi p)), (2, .int (Zi b))]) (N_all_sub ⟨rfl, rfl, rfl, rfl, trivial⟩) (show ([3, 0, 1, 2] : List Nat).Nodup by decide) ?_
      obtain rfl : k = c := by omega
      exact kont u h hs hu
    · refine Z_go (f2 := (70, [(4, .int (Zi k)), (3, .int (Zi n)), (0, .ref 83), (1, .int (Zi p)), (2, .int (Zi b))], [.ref 83])) (fun _ => rfl) ?_
      refine R_gr (q := 111) rfl hs rfl ?_
      show B_R _ _ (73, [(4, .int (Zi k)), (3, .int (Zi n)), (0, .ref 83), (1, .int (Zi p)), (2, .int (Zi b))], [.ref 113]) _ _ _
      refine Z_go (f2 := (75, [(4, .int (Zi k)), (3, .int (Zi n)), (0, .ref 83), (1, .int (Zi p)), (2, .int (Zi b))], [.int (Zi k), .ref 113])) (fun _ => rfl) ?_
      refine Z_go (f2 := (76, [(4, .int (Zi k)), (3, .int (Zi n)), (0, .ref 83), (1, .int (Zi p)), (2, .int (Zi b))], [.int (Zi n), .int (Zi k), .ref 113])) (fun _ => rfl) ?_
      refine Z_isub rfl ?_
      refine Z_go (f2 := (78, [(4, .int (Zi k)), (3, .int (Zi n)), (0, .ref 83), (1, .int (Zi p)), (2, .int (Zi b))], [.ref 83, .int (Zi (k - n)), .ref 113])) (fun _ => rfl) ?_
      refine R_gr (q := 111) rfl hs rfl ?_
      show B_R _ _ (81, [(4, .int (Zi k)), (3, .int (Zi n)), (0, .ref 83), (1, .int (Zi p)), (2, .int (Zi b))], [.ref 113, .int (Zi (k - n)), .ref 113]) _ _ _
      refine Z_go (f2 := (83, [(4, .int (Zi k)), (3, .int (Zi n)), (0, .ref 83), (1, .int (Zi p)), (2, .int (Zi b))], [.int (Zi k), .ref 113, .int (Zi (k - n)), .ref 113])) (fun _ => rfl) ?_
      refine R_ia (q := 29) rfl hs rfl rfl (by omega) (by omega) (by decide) ?_
      refine R_is_ (q := 29) rfl hs rfl rfl (by omega) (by omega) (by decide) (by first | exact hs.zF _ | exact Zor_r _ _ | exact hs.zA _ _ | assumption | exact zA _ _ | exact zS _ | exact Zr_not (hs.zA _ _) | exact ⟨by omega, by omega⟩) (fun h hs => ?_)
      refine Z_go (f2 := (86, [(4, .int (Zi k)), (3, .int (Zi n)), (0, .ref 83), (1, .int (Zi p)), (2, .int (Zi b))], [.ref 83])) (fun _ => rfl) ?_
      refine R_gr (q := 112) rfl hs rfl ?_
      show B_R _ _ (89, [(4, .int (Zi k)), (3, .int (Zi n)), (0, .ref 83), (1, .int (Zi p)), (2, .int (Zi b))], [.ref 114]) _ _ _
      refine Z_go (f2 := (91, [(4, .int (Zi k)), (3, .int (Zi n)), (0, .ref 83), (1, .int (Zi p)), (2, .int (Zi b))], [.int (Zi k), .ref 114])) (fun _ => rfl) ?_
      refine Z_go (f2 := (92, [(4, .int (Zi k)), (3, .int (Zi n)), (0, .ref 83), (1, .int (Zi p)), (2, .int (Zi b))], [.int (Zi n), .int (Zi k), .ref 114])) (fun _ => rfl) ?_
      refine Z_isub rfl ?_
      refine Z_go (f2 := (94, [(4, .int (Zi k)), (3, .int (Zi n)), (0, .ref 83), (1, .int (Zi p)), (2, .int (Zi b))], [.ref 83, .int (Zi (k - n)), .ref 114])) (fun _ => rfl) ?_
      refine R_gr (q := 112) rfl hs rfl ?_
      show B_R _ _ (97, [(4, .int (Zi k)), (3, .int (Zi n)), (0, .ref 83), (1, .int (Zi p)), (2, .int (Zi b))], [.ref 114, .int (Zi (k - n)), .ref 114]) _ _ _
      refine Z_go (f2 := (99, [(4, .int (Zi k)), (3, .int (Zi n)), (0, .ref 83), (1, .int (Zi p)), (2, .int (Zi b))], [.int (Zi k), .ref 114, .int (Zi (k - n)), .ref 114])) (fun _ => rfl) ?_
      refine R_ia (q := 30) rfl hs rfl rfl (by omega) (by omega) (by decide) ?_
      rw [show (R_sA u 113 (k - n) (u.2.1 113 k)).2.1 114 k = u.2.1 114 k by first | rfl | simp [R_sA, R_sF, R_up2, R_fl, R_fL, R_sM, R_sL, R_p3, R_em]]; show B_R _ _ (100, [(4, .int (Zi k)), (3, .int (Zi n)), (0, .ref 83), (1, .int (Zi p)), (2, .int (Zi b))], [.int (Zi (u.2.1 114 k)), .int (Zi (k - n)), .ref 114]) _ _ _
      refine R_is_ (q := 30) rfl hs rfl rfl (by omega) (by omega) (by decide) (by first | exact hs.zF _ | exact Zor_r _ _ | exact hs.zA _ _ | assumption | exact zA _ _ | exact zS _ | exact Zr_not (hs.zA _ _) | exact ⟨by omega, by omega⟩) (fun h hs => ?_)
      refine Z_iinc (L2 := [(4, .int (Zi (k + 1))), (3, .int (Zi n)), (0, .ref 83), (1, .int (Zi p)), (2, .int (Zi b))]) rfl rfl (by decide) rfl ?_
      refine Z_go (f2 := (60, [(4, .int (Zi (k + 1))), (3, .int (Zi n)), (0, .ref 83), (1, .int (Zi p)), (2, .int (Zi b))], [])) (fun _ => rfl) ?_
      refine B_loc (K := [(4, .int (Zi (k + 1))), (3, .int (Zi n)), (0, .ref 83), (1, .int (Zi p)), (2, .int (Zi b))]) (N_all_sub ⟨rfl, rfl, rfl, rfl, rfl, trivial⟩) (show ([4, 3, 0, 1, 2] : List Nat).Nodup by decide) ?_
      exact ih (k + 1) _ h (by omega) hs (hu.st n0 (by omega)) (by omega) (by omega)
theorem R_tn_C {d : Nat} {h0 : E_H} {s : R_S} {sl : Nat} {Φ : E_R → Prop} {p n b c : Int} (n0 : 0 ≤ n) (c0 : 0 ≤ c) (hc : c = s.1 48 - n) (c1 : c + n < 3000) (kont : ∀ (u : R_S) (h : E_H), R_is h0 h u → R_tC s u c n → B_R d E_m252 (170, [(3, .int (Zi n)), (0, .ref 83), (1, .int (Zi p)), (2, .int (Zi b))], []) h sl Φ) : ∀ (t : Nat) (k : Int) (u : R_S) (h : E_H), n - k < t → R_is h0 h u → R_tC s u c k → 0 ≤ k → k ≤ n → B_R d E_m252 (110, [(4, .int (Zi k)), (3, .int (Zi n)), (0, .ref 83), (1, .int (Zi p)), (2, .int (Zi b))], []) h sl Φ := by
  intro t
  induction t with
  | zero => intro k u h ht hs hu k0 k1; omega
  | succ t ih =>
    intro k u h ht hs hu k0 k1
    have zA : ∀ q j, Zr (u.2.1 q j) := fun q j => hs.zA q j
    have e48 := hu.2.1
    have zn : Zr n := ⟨by omega, by omega⟩
    refine Z_go (f2 := (112, [(4, .int (Zi k)), (3, .int (Zi n)), (0, .ref 83), (1, .int (Zi p)), (2, .int (Zi b))], [.int (Zi k)])) (fun _ => rfl) ?_
    refine Z_go (f2 := (113, [(4, .int (Zi k)), (3, .int (Zi n)), (0, .ref 83), (1, .int (Zi p)), (2, .int (Zi b))], [.int (Zi n), .int (Zi k)])) (fun _ => rfl) ?_
    refine Z_cge rfl rfl (by first | exact hs.zF _ | exact Zor_r _ _ | exact hs.zA _ _ | assumption | exact zA _ _ | exact zS _ | exact Zr_not (hs.zA _ _) | exact ⟨by omega, by omega⟩) (by first | exact hs.zF _ | exact Zor_r _ _ | exact hs.zA _ _ | assumption | exact zA _ _ | exact zS _ | exact Zr_not (hs.zA _ _) | exact ⟨by omega, by omega⟩) (fun c1 => ?_) (fun c1 => ?_)
    · refine B_loc (K := [(3, .int (Zi n)), (0, .ref 83), (1, .int (Zi p)), (2, .int (Zi b))]) (N_all_sub ⟨rfl, rfl, rfl, rfl, trivial⟩) (show ([3, 0, 1, 2] : List Nat).Nodup by decide) ?_
      obtain rfl : k = n := by omega
      exact kont u h hs hu
    · refine Z_go (f2 := (117, [(4, .int (Zi k)), (3, .int (Zi n)), (0, .ref 83), (1, .int (Zi p)), (2, .int (Zi b))], [.ref 83])) (fun _ => rfl) ?_
      refine R_gr (q := 111) rfl hs rfl ?_
      show B_R _ _ (120, [(4, .int (Zi k)), (3, .int (Zi n)), (0, .ref 83), (1, .int (Zi p)), (2, .int (Zi b))], [.ref 113]) _ _ _
      refine Z_go (f2 := (121, [(4, .int (Zi k)), (3, .int (Zi n)), (0, .ref 83), (1, .int (Zi p)), (2, .int (Zi b))], [.ref 83, .ref 113])) (fun _ => rfl) ?_
      refine R_gi rfl hs rfl ?_
      show B_R _ _ (124, [(4, .int (Zi k)), (3, .int (Zi n)), (0, .ref 83), (1, .int (Zi p)), (2, .int (Zi b))], [.int (Zi (u.1 48)), .ref 113]) _ _ _
      refine Z_go (f2 := (125, [(4, .int (Zi k)), (3, .int (Zi n)), (0, .ref 83), (1, .int (Zi p)), (2, .int (Zi b))], [.int (Zi n), .int (Zi (u.1 48)), .ref 113])) (fun _ => rfl) ?_
      refine Z_isub rfl ?_
      refine Z_go (f2 := (128, [(4, .int (Zi k)), (3, .int (Zi n)), (0, .ref 83), (1, .int (Zi p)), (2, .int (Zi b))], [.int (Zi k), .int (Zi (u.1 48 - n)), .ref 113])) (fun _ => rfl) ?_
      refine Z_iadd rfl ?_
      refine Z_go (f2 := (130, [(4, .int (Zi k)), (3, .int (Zi n)), (0, .ref 83), (1, .int (Zi p)), (2, .int (Zi b))], [.ref 83, .int (Zi (u.1 48 - n + k)), .ref 113])) (fun _ => rfl) ?_
      refine R_gr (q := 114) rfl hs rfl ?_
      show B_R _ _ (133, [(4, .int (Zi k)), (3, .int (Zi n)), (0, .ref 83), (1, .int (Zi p)), (2, .int (Zi b))], [.ref 116, .int (Zi (u.1 48 - n + k)), .ref 113]) _ _ _
      refine Z_go (f2 := (134, [(4, .int (Zi k)), (3, .int (Zi n)), (0, .ref 83), (1, .int (Zi p)), (2, .int (Zi b))], [.int (Zi 2), .ref 116, .int (Zi (u.1 48 - n + k)), .ref 113])) (fun _ => rfl) ?_
      refine Z_go (f2 := (136, [(4, .int (Zi k)), (3, .int (Zi n)), (0, .ref 83), (1, .int (Zi p)), (2, .int (Zi b))], [.int (Zi k), .int (Zi 2), .ref 116, .int (Zi (u.1 48 - n + k)), .ref 113])) (fun _ => rfl) ?_
      refine Z_imul rfl ?_
      refine R_ia (q := 32) rfl hs rfl rfl (by omega) (by omega) (by decide) ?_
      refine R_is_ (q := 29) rfl hs rfl rfl (by omega) (by omega) (by decide) (by first | exact hs.zF _ | exact Zor_r _ _ | exact hs.zA _ _ | assumption | exact zA _ _ | exact zS _ | exact Zr_not (hs.zA _ _) | exact ⟨by omega, by omega⟩) (fun h hs => ?_)
      refine Z_go (f2 := (140, [(4, .int (Zi k)), (3, .int (Zi n)), (0, .ref 83), (1, .int (Zi p)), (2, .int (Zi b))], [.ref 83])) (fun _ => rfl) ?_
      refine R_gr (q := 112) rfl hs rfl ?_
      show B_R _ _ (143, [(4, .int (Zi k)), (3, .int (Zi n)), (0, .ref 83), (1, .int (Zi p)), (2, .int (Zi b))], [.ref 114]) _ _ _
      refine Z_go (f2 := (144, [(4, .int (Zi k)), (3, .int (Zi n)), (0, .ref 83), (1, .int (Zi p)), (2, .int (Zi b))], [.ref 83, .ref 114])) (fun _ => rfl) ?_
      refine R_gi rfl hs rfl ?_
      show B_R _ _ (147, [(4, .int (Zi k)), (3, .int (Zi n)), (0, .ref 83), (1, .int (Zi p)), (2, .int (Zi b))], [.int (Zi (u.1 48)), .ref 114]) _ _ _
      refine Z_go (f2 := (148, [(4, .int (Zi k)), (3, .int (Zi n)), (0, .ref 83), (1, .int (Zi p)), (2, .int (Zi b))], [.int (Zi n), .int (Zi (u.1 48)), .ref 114])) (fun _ => rfl) ?_
      refine Z_isub rfl ?_
      refine Z_go (f2 := (151, [(4, .int (Zi k)), (3, .int (Zi n)), (0, .ref 83), (1, .int (Zi p)), (2, .int (Zi b))], [.int (Zi k), .int (Zi (u.1 48 - n)), .ref 114])) (fun _ => rfl) ?_
      refine Z_iadd rfl ?_
      refine Z_go (f2 := (153, [(4, .int (Zi k)), (3, .int (Zi n)), (0, .ref 83), (1, .int (Zi p)), (2, .int (Zi b))], [.ref 83, .int (Zi (u.1 48 - n + k)), .ref 114])) (fun _ => rfl) ?_
      refine R_gr (q := 114) rfl hs rfl ?_
      show B_R _ _ (156, [(4, .int (Zi k)), (3, .int (Zi n)), (0, .ref 83), (1, .int (Zi p)), (2, .int (Zi b))], [.ref 116, .int (Zi (u.1 48 - n + k)), .ref 114]) _ _ _
      refine Z_go (f2 := (157, [(4, .int (Zi k)), (3, .int (Zi n)), (0, .ref 83), (1, .int (Zi p)), (2, .int (Zi b))], [.int (Zi 2), .ref 116, .int (Zi (u.1 48 - n + k)), .ref 114])) (fun _ => rfl) ?_
      refine Z_go (f2 := (159, [(4, .int (Zi k)), (3, .int (Zi n)), (0, .ref 83), (1, .int (Zi p)), (2, .int (Zi b))], [.int (Zi k), .int (Zi 2), .ref 116, .int (Zi (u.1 48 - n + k)), .ref 114])) (fun _ => rfl) ?_
      refine Z_imul rfl ?_
      refine Z_go (f2 := (161, [(4, .int (Zi k)), (3, .int (Zi n)), (0, .ref 83), (1, .int (Zi p)), (2, .int (Zi b))], [.int (Zi 1), .int (Zi (2 * k)), .ref 116, .int (Zi (u.1 48 - n + k)), .ref 114])) (fun _ => rfl) ?_
      refine Z_iadd rfl ?_
      refine R_ia (q := 32) rfl hs rfl rfl (by omega) (by omega) (by decide) ?_
      rw [show (R_sA u 113 (u.1 48 - n + k) (u.2.1 116 (2 * k))).2.1 116 (2 * k + 1) = u.2.1 116 (2 * k + 1) by first | rfl | simp [R_sA, R_sF, R_up2, R_fl, R_fL, R_sM, R_sL, R_p3, R_em]]; show B_R _ _ (163, [(4, .int (Zi k)), (3, .int (Zi n)), (0, .ref 83), (1, .int (Zi p)), (2, .int (Zi b))], [.int (Zi (u.2.1 116 (2 * k + 1))), .int (Zi (u.1 48 - n + k)), .ref 114]) _ _ _
      refine R_is_ (q := 30) rfl hs rfl rfl (by omega) (by omega) (by decide) (by first | exact hs.zF _ | exact Zor_r _ _ | exact hs.zA _ _ | assumption | exact zA _ _ | exact zS _ | exact Zr_not (hs.zA _ _) | exact ⟨by omega, by omega⟩) (fun h hs => ?_)
      refine Z_iinc (L2 := [(4, .int (Zi (k + 1))), (3, .int (Zi n)), (0, .ref 83), (1, .int (Zi p)), (2, .int (Zi b))]) rfl rfl (by decide) rfl ?_
      refine Z_go (f2 := (110, [(4, .int (Zi (k + 1))), (3, .int (Zi n)), (0, .ref 83), (1, .int (Zi p)), (2, .int (Zi b))], [])) (fun _ => rfl) ?_
      refine B_loc (K := [(4, .int (Zi (k + 1))), (3, .int (Zi n)), (0, .ref 83), (1, .int (Zi p)), (2, .int (Zi b))]) (N_all_sub ⟨rfl, rfl, rfl, rfl, rfl, trivial⟩) (show ([4, 3, 0, 1, 2] : List Nat).Nodup by decide) ?_
      exact ih (k + 1) _ h (by omega) hs (hu.st k0 (by omega)) (by omega) (by omega)
theorem R_turns (d : Nat) (s : R_S) {p b : Int} {K B1 B2 : X_L} (zp : Zr p) (zb : Zr b) (hp : p = K.length) (hb : b = (K ++ B1).length) (hx : R_xc s (K ++ B1 ++ B2)) (hl : (K ++ B1 ++ B2).length < 3000) : R_ok (d + 1) 252 [.int (Zi p), .int (Zi b)] s (fun x s2 => x = none ∧ R_xc s2 (K ++ B2 ++ B1) ∧ R_xf s s2) := by
  refine R_enter (M := E_m252) rfl (Nat.le_of_ble_eq_true rfl) (fun h0 h_ hs => ?_)
  show B_R d _ (0, [(0, .ref 83), (1, .int (Zi p)), (2, .int (Zi b))], []) _ _ _
  have hc := hx.1
  have hl2 := hl
  simp only [List.length_append] at hb hc hl2
  refine Z_go (f2 := (1, [(0, .ref 83), (1, .int (Zi p)), (2, .int (Zi b))], [.int (Zi b)])) (fun _ => rfl) ?_
  refine Z_go (f2 := (2, [(0, .ref 83), (1, .int (Zi p)), (2, .int (Zi b))], [.int (Zi p), .int (Zi b)])) (fun _ => rfl) ?_
  refine Z_isub rfl ?_
  refine Z_go (f2 := (4, [(3, .int (Zi (b - p))), (0, .ref 83), (1, .int (Zi p)), (2, .int (Zi b))], [])) (fun _ => rfl) ?_
  refine Z_go (f2 := (5, [(3, .int (Zi (b - p))), (0, .ref 83), (1, .int (Zi p)), (2, .int (Zi b))], [.int (Zi 0)])) (fun _ => rfl) ?_
  refine Z_go (f2 := (7, [(4, .int (Zi 0)), (3, .int (Zi (b - p))), (0, .ref 83), (1, .int (Zi p)), (2, .int (Zi b))], [])) (fun _ => rfl) ?_
  obtain ⟨n, hn⟩ : ∃ n, b - p = n := ⟨_, rfl⟩
  rw [hn]
  refine R_tn_A (s := s) (a := 0) (by omega) (by omega) ⟨by omega, by omega⟩ (fun u h hs hu => ?_) (n.toNat + 1) 0 s _ (by omega) hs (R_tA_0 s p) (by omega) (by omega)
  refine Z_go (f2 := (58, [(3, .int (Zi n)), (0, .ref 83), (1, .int (Zi p)), (2, .int (Zi b))], [.int (Zi b)])) (fun _ => rfl) ?_
  refine Z_go (f2 := (60, [(4, .int (Zi b)), (3, .int (Zi n)), (0, .ref 83), (1, .int (Zi p)), (2, .int (Zi b))], [])) (fun _ => rfl) ?_
  refine B_loc (K := [(4, .int (Zi b)), (3, .int (Zi n)), (0, .ref 83), (1, .int (Zi p)), (2, .int (Zi b))]) (N_all_sub ⟨rfl, rfl, rfl, rfl, rfl, trivial⟩) (show ([4, 3, 0, 1, 2] : List Nat).Nodup by decide) ?_
  refine R_tn_B (s := u) (c := s.1 48) (by omega) (by omega) hu.2.1.symm (by omega) (fun w h hs hw => ?_) ((s.1 48 - b).toNat + 1) b u _ (by omega) hs (R_tB_0 (by omega)) (by omega) (by omega)
  refine Z_go (f2 := (108, [(3, .int (Zi n)), (0, .ref 83), (1, .int (Zi p)), (2, .int (Zi b))], [.int (Zi 0)])) (fun _ => rfl) ?_
  refine Z_go (f2 := (110, [(4, .int (Zi 0)), (3, .int (Zi n)), (0, .ref 83), (1, .int (Zi p)), (2, .int (Zi b))], [])) (fun _ => rfl) ?_
  refine B_loc (K := [(4, .int (Zi 0)), (3, .int (Zi n)), (0, .ref 83), (1, .int (Zi p)), (2, .int (Zi b))]) (N_all_sub ⟨rfl, rfl, rfl, rfl, rfl, trivial⟩) (show ([4, 3, 0, 1, 2] : List Nat).Nodup by decide) ?_
  refine R_tn_C (s := w) (c := s.1 48 - n) (by omega) (by omega) (by rw [hw.2.1, hu.2.1]) (by omega) (fun v h hs hv => ?_) (n.toNat + 1) 0 w _ (by omega) hs (R_tC_0 w _) (by omega) (by omega)
  obtain ⟨r1, r2⟩ := R_turned hp (by omega) (by rw [hx.1]) hx hu hw hv
  refine Z_ret rfl rfl ⟨_, hs, ⟨rfl, r1, r2⟩, rfl⟩
theorem R_ct_A {d : Nat} {h0 : E_H} {s : R_S} {sl : Nat} {Φ : E_R → Prop} {p n a b : Int} (p0 : 0 ≤ p) (n1 : p + n < 3000) (zn : Zr n) (kont : ∀ (u : R_S) (h : E_H), R_is h0 h u → R_tA s u p n → B_R d E_m255 (62, [(4, .int (Zi n)), (0, .ref 83), (1, .int (Zi p)), (2, .int (Zi a)), (3, .int (Zi b))], []) h sl Φ) : ∀ (t : Nat) (k : Int) (u : R_S) (h : E_H), n - k < t → R_is h0 h u → R_tA s u p k → 0 ≤ k → k ≤ n → B_R d E_m255 (11, [(5, .int (Zi k)), (4, .int (Zi n)), (0, .ref 83), (1, .int (Zi p)), (2, .int (Zi a)), (3, .int (Zi b))], []) h sl Φ := by
  intro t
  induction t with
  | zero => intro k u h ht hs hu k0 k1; omega
  | succ t ih =>
    intro k u h ht hs hu k0 k1
    have zA : ∀ q j, Zr (u.2.1 q j) := fun q j => hs.zA q j
    refine Z_go (f2 := (13, [(5, .int (Zi k)), (4, .int (Zi n)), (0, .ref 83), (1, .int (Zi p)), (2, .int (Zi a)), (3, .int (Zi b))], [.int (Zi k)])) (fun _ => rfl) ?_
    refine Z_go (f2 := (15, [(5, .int (Zi k)), (4, .int (Zi n)), (0, .ref 83), (1, .int (Zi p)), (2, .int (Zi a)), (3, .int (Zi b))], [.int (Zi n), .int (Zi k)])) (fun _ => rfl) ?_
    refine Z_cge rfl rfl (by first | exact hs.zF _ | exact Zor_r _ _ | exact hs.zA _ _ | assumption | exact zA _ _ | exact zS _ | exact Zr_not (hs.zA _ _) | exact ⟨by omega, by omega⟩) (by first | exact hs.zF _ | exact Zor_r _ _ | exact hs.zA _ _ | assumption | exact zA _ _ | exact zS _ | exact Zr_not (hs.zA _ _) | exact ⟨by omega, by omega⟩) (fun c1 => ?_) (fun c1 => ?_)
    · refine B_loc (K := [(4, .int (Zi n)), (0, .ref 83), (1, .int (Zi p)), (2, .int (Zi a)), (3, .int (Zi b))]) (N_all_sub ⟨rfl, rfl, rfl, rfl, rfl, trivial⟩) (show ([4, 0, 1, 2, 3] : List Nat).Nodup by decide) ?_
      obtain rfl : k = n := by omega
      exact kont u h hs hu
    · refine Z_go (f2 := (19, [(5, .int (Zi k)), (4, .int (Zi n)), (0, .ref 83), (1, .int (Zi p)), (2, .int (Zi a)), (3, .int (Zi b))], [.ref 83])) (fun _ => rfl) ?_
      refine R_gr (q := 114) rfl hs rfl ?_
      show B_R _ _ (22, [(5, .int (Zi k)), (4, .int (Zi n)), (0, .ref 83), (1, .int (Zi p)), (2, .int (Zi a)), (3, .int (Zi b))], [.ref 116]) _ _ _
      refine Z_go (f2 := (23, [(5, .int (Zi k)), (4, .int (Zi n)), (0, .ref 83), (1, .int (Zi p)), (2, .int (Zi a)), (3, .int (Zi b))], [.int (Zi 2), .ref 116])) (fun _ => rfl) ?_
      refine Z_go (f2 := (25, [(5, .int (Zi k)), (4, .int (Zi n)), (0, .ref 83), (1, .int (Zi p)), (2, .int (Zi a)), (3, .int (Zi b))], [.int (Zi k), .int (Zi 2), .ref 116])) (fun _ => rfl) ?_
      refine Z_imul rfl ?_
      refine Z_go (f2 := (27, [(5, .int (Zi k)), (4, .int (Zi n)), (0, .ref 83), (1, .int (Zi p)), (2, .int (Zi a)), (3, .int (Zi b))], [.ref 83, .int (Zi (2 * k)), .ref 116])) (fun _ => rfl) ?_
      refine R_gr (q := 111) rfl hs rfl ?_
      show B_R _ _ (30, [(5, .int (Zi k)), (4, .int (Zi n)), (0, .ref 83), (1, .int (Zi p)), (2, .int (Zi a)), (3, .int (Zi b))], [.ref 113, .int (Zi (2 * k)), .ref 116]) _ _ _
      refine Z_go (f2 := (31, [(5, .int (Zi k)), (4, .int (Zi n)), (0, .ref 83), (1, .int (Zi p)), (2, .int (Zi a)), (3, .int (Zi b))], [.int (Zi p), .ref 113, .int (Zi (2 * k)), .ref 116])) (fun _ => rfl) ?_
      refine Z_go (f2 := (33, [(5, .int (Zi k)), (4, .int (Zi n)), (0, .ref 83), (1, .int (Zi p)), (2, .int (Zi a)), (3, .int (Zi b))], [.int (Zi k), .int (Zi p), .ref 113, .int (Zi (2 * k)), .ref 116])) (fun _ => rfl) ?_
      refine Z_iadd rfl ?_
      refine R_ia (q := 29) rfl hs rfl rfl (by omega) (by omega) (by decide) ?_
      refine R_is_ (q := 32) rfl hs rfl rfl (by omega) (by omega) (by decide) (by first | exact hs.zF _ | exact Zor_r _ _ | exact hs.zA _ _ | assumption | exact zA _ _ | exact zS _ | exact Zr_not (hs.zA _ _) | exact ⟨by omega, by omega⟩) (fun h hs => ?_)
      refine Z_go (f2 := (37, [(5, .int (Zi k)), (4, .int (Zi n)), (0, .ref 83), (1, .int (Zi p)), (2, .int (Zi a)), (3, .int (Zi b))], [.ref 83])) (fun _ => rfl) ?_
      refine R_gr (q := 114) rfl hs rfl ?_
      show B_R _ _ (40, [(5, .int (Zi k)), (4, .int (Zi n)), (0, .ref 83), (1, .int (Zi p)), (2, .int (Zi a)), (3, .int (Zi b))], [.ref 116]) _ _ _
      refine Z_go (f2 := (41, [(5, .int (Zi k)), (4, .int (Zi n)), (0, .ref 83), (1, .int (Zi p)), (2, .int (Zi a)), (3, .int (Zi b))], [.int (Zi 2), .ref 116])) (fun _ => rfl) ?_
      refine Z_go (f2 := (43, [(5, .int (Zi k)), (4, .int (Zi n)), (0, .ref 83), (1, .int (Zi p)), (2, .int (Zi a)), (3, .int (Zi b))], [.int (Zi k), .int (Zi 2), .ref 116])) (fun _ => rfl) ?_
      refine Z_imul rfl ?_
      refine Z_go (f2 := (45, [(5, .int (Zi k)), (4, .int (Zi n)), (0, .ref 83), (1, .int (Zi p)), (2, .int (Zi a)), (3, .int (Zi b))], [.int (Zi 1), .int (Zi (2 * k)), .ref 116])) (fun _ => rfl) ?_
      refine Z_iadd rfl ?_
      refine Z_go (f2 := (47, [(5, .int (Zi k)), (4, .int (Zi n)), (0, .ref 83), (1, .int (Zi p)), (2, .int (Zi a)), (3, .int (Zi b))], [.ref 83, .int (Zi (2 * k + 1)), .ref 116])) (fun _ => rfl) ?_
      refine R_gr (q := 112) rfl hs rfl ?_
      show B_R _ _ (50, [(5, .int (Zi k)), (4, .int (Zi n)), (0, .ref 83), (1, .int (Zi p)), (2, .int (Zi a)), (3, .int (Zi b))], [.ref 114, .int (Zi (2 * k + 1)), .ref 116]) _ _ _
      refine Z_go (f2 := (51, [(5, .int (Zi k)), (4, .int (Zi n)), (0, .ref 83), (1, .int (Zi p)), (2, .int (Zi a)), (3, .int (Zi b))], [.int (Zi p), .ref 114, .int (Zi (2 * k + 1)), .ref 116])) (fun _ => rfl) ?_
      refine Z_go (f2 := (53, [(5, .int (Zi k)), (4, .int (Zi n)), (0, .ref 83), (1, .int (Zi p)), (2, .int (Zi a)), (3, .int (Zi b))], [.int (Zi k), .int (Zi p), .ref 114, .int (Zi (2 * k + 1)), .ref 116])) (fun _ => rfl) ?_
      refine Z_iadd rfl ?_
      refine R_ia (q := 30) rfl hs rfl rfl (by omega) (by omega) (by decide) ?_
      rw [show (R_sA u 116 (2 * k) (u.2.1 113 (p + k))).2.1 114 (p + k) = u.2.1 114 (p + k) by first | rfl | simp [R_sA, R_sF, R_up2, R_fl, R_fL, R_sM, R_sL, R_p3, R_em]]; show B_R _ _ (55, [(5, .int (Zi k)), (4, .int (Zi n)), (0, .ref 83), (1, .int (Zi p)), (2, .int (Zi a)), (3, .int (Zi b))], [.int (Zi (u.2.1 114 (p + k))), .int (Zi (2 * k + 1)), .ref 116]) _ _ _
      refine R_is_ (q := 32) rfl hs rfl rfl (by omega) (by omega) (by decide) (by first | exact hs.zF _ | exact Zor_r _ _ | exact hs.zA _ _ | assumption | exact zA _ _ | exact zS _ | exact Zr_not (hs.zA _ _) | exact ⟨by omega, by omega⟩) (fun h hs => ?_)
      refine Z_iinc (L2 := [(5, .int (Zi (k + 1))), (4, .int (Zi n)), (0, .ref 83), (1, .int (Zi p)), (2, .int (Zi a)), (3, .int (Zi b))]) rfl rfl (by decide) rfl ?_
      refine Z_go (f2 := (11, [(5, .int (Zi (k + 1))), (4, .int (Zi n)), (0, .ref 83), (1, .int (Zi p)), (2, .int (Zi a)), (3, .int (Zi b))], [])) (fun _ => rfl) ?_
      refine B_loc (K := [(5, .int (Zi (k + 1))), (4, .int (Zi n)), (0, .ref 83), (1, .int (Zi p)), (2, .int (Zi a)), (3, .int (Zi b))]) (N_all_sub ⟨rfl, rfl, rfl, rfl, rfl, rfl, trivial⟩) (show ([5, 4, 0, 1, 2, 3] : List Nat).Nodup by decide) ?_
      refine ih (k + 1) _ h (by omega) hs (hu.st (by omega) (by omega) ?_ ?_) (by omega) (by omega)
      · exact hu.2.2.1 _
      · first | exact hu.2.2.2.1 _ | (rw [R_sA_n _ _ _ _ (by decide)]; exact hu.2.2.2.1 _)
def X_rep (k : Nat) (B : X_L) : X_L := (List.replicate k B).flatten
theorem X_rep_s (k : Nat) (B : X_L) : X_rep (k + 1) B = X_rep k B ++ B := by
  unfold X_rep
  rw [List.replicate_succ', List.flatten_append]
  simp
theorem X_rep_0 (B : X_L) : X_rep 0 B = [] := rfl
theorem X_rep_len (k : Nat) (B : X_L) : (X_rep k B).length = k * B.length := by
  induction k with
  | zero => simp [X_rep]
  | succ k ih => rw [X_rep_s, List.length_append, ih, Nat.add_mul, Nat.one_mul]
def X_more (hi : Int) (B : X_L) : X_L := if hi = -1 then (6, 0) :: B ++ [(8, (B.length : Int))] else (3, 0) :: B ++ [(5, 0)]
theorem X_more_len (hi : Int) (B : X_L) : (X_more hi B).length = B.length + 2 := by
  unfold X_more
  split <;> simp
def X_times (lo hi : Int) (B : X_L) : X_L := X_rep lo.toNat B ++ X_rep (if hi = -1 then 1 else (hi - lo).toNat) (X_more hi B)
def R_cta (s u : R_S) (K B : X_L) : Prop := R_xc u K ∧ R_xs u B ∧ R_xf s u
theorem R_ct_1 {d : Nat} {h0 : E_H} {s : R_S} {sl : Nat} {Φ : E_R → Prop} {p n a b : Int} {K B : X_L} (hn : n = B.length) (a0 : 0 ≤ a) (a1 : a ≤ 20) (hl : K.length + a.toNat * B.length < 3000) (kont : ∀ (u : R_S) (h : E_H), R_is h0 h u → R_cta s u (K ++ X_rep a.toNat B) B → B_R (d + 3) E_m255 (88, [(4, .int (Zi n)), (0, .ref 83), (1, .int (Zi p)), (2, .int (Zi a)), (3, .int (Zi b))], []) h sl Φ) : ∀ (t : Nat) (k : Int) (u : R_S) (h : E_H), a - k < t → R_is h0 h u → R_cta s u (K ++ X_rep k.toNat B) B → 0 ≤ k → k ≤ a → B_R (d + 3) E_m255 (70, [(5, .int (Zi k)), (4, .int (Zi n)), (0, .ref 83), (1, .int (Zi p)), (2, .int (Zi a)), (3, .int (Zi b))], []) h sl Φ := by
  intro t
  induction t with
  | zero => intro k u h ht hs hu k0 k1; omega
  | succ t ih =>
    intro k u h ht hs hu k0 k1
    obtain ⟨g1, g2, g3⟩ := id hu
    have za : Zr a := ⟨by omega, by omega⟩
    refine Z_go (f2 := (72, [(5, .int (Zi k)), (4, .int (Zi n)), (0, .ref 83), (1, .int (Zi p)), (2, .int (Zi a)), (3, .int (Zi b))], [.int (Zi k)])) (fun _ => rfl) ?_
    refine Z_go (f2 := (73, [(5, .int (Zi k)), (4, .int (Zi n)), (0, .ref 83), (1, .int (Zi p)), (2, .int (Zi a)), (3, .int (Zi b))], [.int (Zi a), .int (Zi k)])) (fun _ => rfl) ?_
    refine Z_cge rfl rfl (by first | exact hs.zF _ | exact Zor_r _ _ | exact hs.zA _ _ | assumption | exact zA _ _ | exact zS _ | exact Zr_not (hs.zA _ _) | exact ⟨by omega, by omega⟩) (by first | exact hs.zF _ | exact Zor_r _ _ | exact hs.zA _ _ | assumption | exact zA _ _ | exact zS _ | exact Zr_not (hs.zA _ _) | exact ⟨by omega, by omega⟩) (fun c1 => ?_) (fun c1 => ?_)
    · refine B_loc (K := [(4, .int (Zi n)), (0, .ref 83), (1, .int (Zi p)), (2, .int (Zi a)), (3, .int (Zi b))]) (N_all_sub ⟨rfl, rfl, rfl, rfl, rfl, trivial⟩) (show ([4, 0, 1, 2, 3] : List Nat).Nodup by decide) ?_
      obtain rfl : k = a := by omega
      exact kont u h hs hu
    · have hlen : (K ++ X_rep k.toNat B).length + B.length < 3000 := by
        rw [List.length_append, X_rep_len]
        have h1 : (k.toNat + 1) * B.length ≤ a.toNat * B.length := Nat.mul_le_mul_right _ (by omega)
        rw [Nat.add_mul, Nat.one_mul] at h1
        omega
      refine Z_go (f2 := (77, [(5, .int (Zi k)), (4, .int (Zi n)), (0, .ref 83), (1, .int (Zi p)), (2, .int (Zi a)), (3, .int (Zi b))], [.ref 83])) (fun _ => rfl) ?_
      refine Z_go (f2 := (79, [(5, .int (Zi k)), (4, .int (Zi n)), (0, .ref 83), (1, .int (Zi p)), (2, .int (Zi a)), (3, .int (Zi b))], [.int (Zi n), .ref 83])) (fun _ => rfl) ?_
      refine R_call (As := [.int (Zi n)]) (rest := []) rfl (by decide) rfl rfl rfl rfl (by decide +kernel) (Nat.le_of_ble_eq_true rfl) hs (R_again _ u (K := K ++ X_rep k.toNat B) (L := B) ⟨by omega, by have := hlen; omega⟩ hn hlen g2 g1) (fun x h w hs q => ?_)
      obtain ⟨rfl, b1, b2, b3⟩ := q
      show B_R _ _ (82, [(5, .int (Zi k)), (4, .int (Zi n)), (0, .ref 83), (1, .int (Zi p)), (2, .int (Zi a)), (3, .int (Zi b))], []) _ _ _
      refine Z_iinc (L2 := [(5, .int (Zi (k + 1))), (4, .int (Zi n)), (0, .ref 83), (1, .int (Zi p)), (2, .int (Zi a)), (3, .int (Zi b))]) rfl rfl (by decide) rfl ?_
      refine Z_go (f2 := (70, [(5, .int (Zi (k + 1))), (4, .int (Zi n)), (0, .ref 83), (1, .int (Zi p)), (2, .int (Zi a)), (3, .int (Zi b))], [])) (fun _ => rfl) ?_
      refine B_loc (K := [(5, .int (Zi (k + 1))), (4, .int (Zi n)), (0, .ref 83), (1, .int (Zi p)), (2, .int (Zi a)), (3, .int (Zi b))]) (N_all_sub ⟨rfl, rfl, rfl, rfl, rfl, rfl, trivial⟩) (show ([5, 4, 0, 1, 2, 3] : List Nat).Nodup by decide) ?_
      refine ih (k + 1) w h (by omega) hs ⟨?_, fun i hi => by rw [b3, b3]; exact g2 i hi, g3.tr b2⟩ (by omega) (by omega)
      rw [show (k + 1).toNat = k.toNat + 1 by omega, X_rep_s, ← List.append_assoc]
      exact b1
theorem R_ct_2 {d : Nat} {h0 : E_H} {s : R_S} {sl : Nat} {Φ : E_R → Prop} {p n a b m : Int} {K B : X_L} (hn : n = B.length) (zb : Zr b) (m0 : 0 ≤ m) (m1 : m ≤ 20) (hl : K.length + m.toNat * (B.length + 2) < 3000) (kont : ∀ (u : R_S) (h : E_H), R_is h0 h u → R_cta s u (K ++ X_rep m.toNat (X_more b B)) B → B_R (d + 3) E_m255 (152, [(5, .int (Zi m)), (4, .int (Zi n)), (0, .ref 83), (1, .int (Zi p)), (2, .int (Zi a)), (3, .int (Zi b))], []) h sl Φ) : ∀ (t : Nat) (k : Int) (u : R_S) (h : E_H), m - k < t → R_is h0 h u → R_cta s u (K ++ X_rep k.toNat (X_more b B)) B → 0 ≤ k → k ≤ m → B_R (d + 3) E_m255 (105, [(6, .int (Zi k)), (5, .int (Zi m)), (4, .int (Zi n)), (0, .ref 83), (1, .int (Zi p)), (2, .int (Zi a)), (3, .int (Zi b))], []) h sl Φ := by
  intro t
  induction t with
  | zero => intro k u h ht hs hu k0 k1; omega
  | succ t ih =>
    intro k u h ht hs hu k0 k1
    obtain ⟨g1, g2, g3⟩ := id hu
    have zm : Zr m := ⟨by omega, by omega⟩
    refine Z_go (f2 := (107, [(6, .int (Zi k)), (5, .int (Zi m)), (4, .int (Zi n)), (0, .ref 83), (1, .int (Zi p)), (2, .int (Zi a)), (3, .int (Zi b))], [.int (Zi k)])) (fun _ => rfl) ?_
    refine Z_go (f2 := (109, [(6, .int (Zi k)), (5, .int (Zi m)), (4, .int (Zi n)), (0, .ref 83), (1, .int (Zi p)), (2, .int (Zi a)), (3, .int (Zi b))], [.int (Zi m), .int (Zi k)])) (fun _ => rfl) ?_
    refine Z_cge rfl rfl (by first | exact hs.zF _ | exact Zor_r _ _ | exact hs.zA _ _ | assumption | exact zA _ _ | exact zS _ | exact Zr_not (hs.zA _ _) | exact ⟨by omega, by omega⟩) (by first | exact hs.zF _ | exact Zor_r _ _ | exact hs.zA _ _ | assumption | exact zA _ _ | exact zS _ | exact Zr_not (hs.zA _ _) | exact ⟨by omega, by omega⟩) (fun c1 => ?_) (fun c1 => ?_)
    · refine B_loc (K := [(5, .int (Zi m)), (4, .int (Zi n)), (0, .ref 83), (1, .int (Zi p)), (2, .int (Zi a)), (3, .int (Zi b))]) (N_all_sub ⟨rfl, rfl, rfl, rfl, rfl, rfl, trivial⟩) (show ([5, 4, 0, 1, 2, 3] : List Nat).Nodup by decide) ?_
      obtain rfl : k = m := by omega
      exact kont u h hs hu
    · have hlen : (K ++ X_rep k.toNat (X_more b B)).length + B.length + 1 < 3000 := by
        rw [List.length_append, X_rep_len, X_more_len]
        have h1 : (k.toNat + 1) * (B.length + 2) ≤ m.toNat * (B.length + 2) := Nat.mul_le_mul_right _ (by omega)
        rw [Nat.add_mul, Nat.one_mul] at h1
        omega
      have g48 := g1.1
      refine Z_go (f2 := (113, [(6, .int (Zi k)), (5, .int (Zi m)), (4, .int (Zi n)), (0, .ref 83), (1, .int (Zi p)), (2, .int (Zi a)), (3, .int (Zi b))], [.ref 83])) (fun _ => rfl) ?_
      refine R_gi rfl hs rfl ?_
      show B_R _ _ (116, [(6, .int (Zi k)), (5, .int (Zi m)), (4, .int (Zi n)), (0, .ref 83), (1, .int (Zi p)), (2, .int (Zi a)), (3, .int (Zi b))], [.int (Zi (u.1 48))]) _ _ _
      refine Z_go (f2 := (118, [(7, .int (Zi (u.1 48))), (6, .int (Zi k)), (5, .int (Zi m)), (4, .int (Zi n)), (0, .ref 83), (1, .int (Zi p)), (2, .int (Zi a)), (3, .int (Zi b))], [])) (fun _ => rfl) ?_
      refine Z_go (f2 := (119, [(7, .int (Zi (u.1 48))), (6, .int (Zi k)), (5, .int (Zi m)), (4, .int (Zi n)), (0, .ref 83), (1, .int (Zi p)), (2, .int (Zi a)), (3, .int (Zi b))], [.ref 83])) (fun _ => rfl) ?_
      refine Z_go (f2 := (121, [(7, .int (Zi (u.1 48))), (6, .int (Zi k)), (5, .int (Zi m)), (4, .int (Zi n)), (0, .ref 83), (1, .int (Zi p)), (2, .int (Zi a)), (3, .int (Zi b))], [.int (Zi n), .ref 83])) (fun _ => rfl) ?_
      refine R_call (As := [.int (Zi n)]) (rest := []) rfl (by decide) rfl rfl rfl rfl (by decide +kernel) (Nat.le_of_ble_eq_true rfl) hs (R_again _ u (K := K ++ X_rep k.toNat (X_more b B)) (L := B) ⟨by omega, by omega⟩ hn (by omega) g2 g1) (fun x h w hs q => ?_)
      obtain ⟨rfl, b1, b2, b3⟩ := q
      show B_R _ _ (124, [(7, .int (Zi (u.1 48))), (6, .int (Zi k)), (5, .int (Zi m)), (4, .int (Zi n)), (0, .ref 83), (1, .int (Zi p)), (2, .int (Zi a)), (3, .int (Zi b))], []) _ _ _
      refine Z_go (f2 := (125, [(7, .int (Zi (u.1 48))), (6, .int (Zi k)), (5, .int (Zi m)), (4, .int (Zi n)), (0, .ref 83), (1, .int (Zi p)), (2, .int (Zi a)), (3, .int (Zi b))], [.int (Zi b)])) (fun _ => rfl) ?_
      refine Z_go (f2 := (126, [(7, .int (Zi (u.1 48))), (6, .int (Zi k)), (5, .int (Zi m)), (4, .int (Zi n)), (0, .ref 83), (1, .int (Zi p)), (2, .int (Zi a)), (3, .int (Zi b))], [.int (Zi (-1)), .int (Zi b)])) (fun _ => rfl) ?_
      refine Z_cne rfl rfl (by first | exact hs.zF _ | exact Zor_r _ _ | exact hs.zA _ _ | assumption | exact zA _ _ | exact zS _ | exact Zr_not (hs.zA _ _) | exact ⟨by omega, by omega⟩) (by first | exact hs.zF _ | exact Zor_r _ _ | exact hs.zA _ _ | assumption | exact zA _ _ | exact zS _ | exact Zr_not (hs.zA _ _) | exact ⟨by omega, by omega⟩) (fun c2 => ?_) (fun c2 => ?_)
      · refine Z_go (f2 := (141, [(7, .int (Zi (u.1 48))), (6, .int (Zi k)), (5, .int (Zi m)), (4, .int (Zi n)), (0, .ref 83), (1, .int (Zi p)), (2, .int (Zi a)), (3, .int (Zi b))], [.ref 83])) (fun _ => rfl) ?_
        refine Z_go (f2 := (143, [(7, .int (Zi (u.1 48))), (6, .int (Zi k)), (5, .int (Zi m)), (4, .int (Zi n)), (0, .ref 83), (1, .int (Zi p)), (2, .int (Zi a)), (3, .int (Zi b))], [.int (Zi (u.1 48)), .ref 83])) (fun _ => rfl) ?_
        refine R_call (As := [.int (Zi (u.1 48))]) (rest := []) rfl (by decide) rfl rfl rfl rfl (by decide +kernel) (Nat.le_of_ble_eq_true rfl) hs (R_mays _ w (K := K ++ X_rep k.toNat (X_more b B)) (B := B) (hs.zF 48 |> fun _ => ⟨by omega, by omega⟩) g48 b1 hlen) (fun x h v hs q => ?_)
        obtain ⟨rfl, c1, c2, c3⟩ := q
        show B_R _ _ (146, [(7, .int (Zi (u.1 48))), (6, .int (Zi k)), (5, .int (Zi m)), (4, .int (Zi n)), (0, .ref 83), (1, .int (Zi p)), (2, .int (Zi a)), (3, .int (Zi b))], []) _ _ _
        refine Z_iinc (L2 := [(6, .int (Zi (k + 1))), (7, .int (Zi (u.1 48))), (5, .int (Zi m)), (4, .int (Zi n)), (0, .ref 83), (1, .int (Zi p)), (2, .int (Zi a)), (3, .int (Zi b))]) rfl rfl (by decide) rfl ?_
        refine Z_go (f2 := (105, [(6, .int (Zi (k + 1))), (7, .int (Zi (u.1 48))), (5, .int (Zi m)), (4, .int (Zi n)), (0, .ref 83), (1, .int (Zi p)), (2, .int (Zi a)), (3, .int (Zi b))], [])) (fun _ => rfl) ?_
        refine B_loc (K := [(6, .int (Zi (k + 1))), (5, .int (Zi m)), (4, .int (Zi n)), (0, .ref 83), (1, .int (Zi p)), (2, .int (Zi a)), (3, .int (Zi b))]) (N_all_sub ⟨rfl, rfl, rfl, rfl, rfl, rfl, rfl, trivial⟩) (show ([6, 5, 4, 0, 1, 2, 3] : List Nat).Nodup by decide) ?_
        refine ih (k + 1) v h (by omega) hs ⟨?_, fun i hi => by rw [c3, c3, b3, b3]; exact g2 i hi, (g3.tr b2).tr c2⟩ (by omega) (by omega)
        rw [show (k + 1).toNat = k.toNat + 1 by omega, X_rep_s, ← List.append_assoc]
        have e : X_more b B = (3, 0) :: B ++ [(5, 0)] := if_neg (by omega)
        rw [show (K ++ X_rep k.toNat (X_more b B) ++ X_more b B) = (K ++ X_rep k.toNat (X_more b B) ++ ((3, 0) :: B ++ [(5, 0)])) from congrArg (fun z => K ++ X_rep k.toNat (X_more b B) ++ z) e]
        exact c1
      · refine Z_go (f2 := (130, [(7, .int (Zi (u.1 48))), (6, .int (Zi k)), (5, .int (Zi m)), (4, .int (Zi n)), (0, .ref 83), (1, .int (Zi p)), (2, .int (Zi a)), (3, .int (Zi b))], [.ref 83])) (fun _ => rfl) ?_
        refine Z_go (f2 := (132, [(7, .int (Zi (u.1 48))), (6, .int (Zi k)), (5, .int (Zi m)), (4, .int (Zi n)), (0, .ref 83), (1, .int (Zi p)), (2, .int (Zi a)), (3, .int (Zi b))], [.int (Zi (u.1 48)), .ref 83])) (fun _ => rfl) ?_
        refine Z_go (f2 := (134, [(7, .int (Zi (u.1 48))), (6, .int (Zi k)), (5, .int (Zi m)), (4, .int (Zi n)), (0, .ref 83), (1, .int (Zi p)), (2, .int (Zi a)), (3, .int (Zi b))], [.int (Zi 6), .int (Zi (u.1 48)), .ref 83])) (fun _ => rfl) ?_
        refine R_call (As := [.int (Zi (u.1 48)), .int (Zi 6)]) (rest := []) rfl (by decide) rfl rfl rfl rfl (by decide +kernel) (Nat.le_of_ble_eq_true rfl) hs (R_rounds _ w (K := K ++ X_rep k.toNat (X_more b B)) (B := B) (hs.zF 48 |> fun _ => ⟨by omega, by omega⟩) ⟨by omega, by omega⟩ g48 b1 hlen) (fun x h v hs q => ?_)
        obtain ⟨rfl, c1, c2, c3⟩ := q
        show B_R _ _ (137, [(7, .int (Zi (u.1 48))), (6, .int (Zi k)), (5, .int (Zi m)), (4, .int (Zi n)), (0, .ref 83), (1, .int (Zi p)), (2, .int (Zi a)), (3, .int (Zi b))], []) _ _ _
        refine Z_go (f2 := (146, [(7, .int (Zi (u.1 48))), (6, .int (Zi k)), (5, .int (Zi m)), (4, .int (Zi n)), (0, .ref 83), (1, .int (Zi p)), (2, .int (Zi a)), (3, .int (Zi b))], [])) (fun _ => rfl) ?_
        refine Z_iinc (L2 := [(6, .int (Zi (k + 1))), (7, .int (Zi (u.1 48))), (5, .int (Zi m)), (4, .int (Zi n)), (0, .ref 83), (1, .int (Zi p)), (2, .int (Zi a)), (3, .int (Zi b))]) rfl rfl (by decide) rfl ?_
        refine Z_go (f2 := (105, [(6, .int (Zi (k + 1))), (7, .int (Zi (u.1 48))), (5, .int (Zi m)), (4, .int (Zi n)), (0, .ref 83), (1, .int (Zi p)), (2, .int (Zi a)), (3, .int (Zi b))], [])) (fun _ => rfl) ?_
        refine B_loc (K := [(6, .int (Zi (k + 1))), (5, .int (Zi m)), (4, .int (Zi n)), (0, .ref 83), (1, .int (Zi p)), (2, .int (Zi a)), (3, .int (Zi b))]) (N_all_sub ⟨rfl, rfl, rfl, rfl, rfl, rfl, rfl, trivial⟩) (show ([6, 5, 4, 0, 1, 2, 3] : List Nat).Nodup by decide) ?_
        refine ih (k + 1) v h (by omega) hs ⟨?_, fun i hi => by rw [c3, c3, b3, b3]; exact g2 i hi, (g3.tr b2).tr c2⟩ (by omega) (by omega)
        rw [show (k + 1).toNat = k.toNat + 1 by omega, X_rep_s, ← List.append_assoc]
        have e : X_more b B = (6, 0) :: B ++ [(8, (B.length : Int))] := if_pos (by omega)
        rw [show (K ++ X_rep k.toNat (X_more b B) ++ X_more b B) = (K ++ X_rep k.toNat (X_more b B) ++ ((6, 0) :: B ++ [(8, (B.length : Int))])) from congrArg (fun z => K ++ X_rep k.toNat (X_more b B) ++ z) e]
        exact c1
theorem R_codesTimes (d : Nat) (s : R_S) {p a b : Int} {K B : X_L} (zp : Zr p) (hp : p = K.length) (a0 : 0 ≤ a) (a1 : a ≤ 20) (hb : b = -1 ∨ a ≤ b ∧ b ≤ 20) (hx : R_xc s (K ++ B)) (hl0 : (K ++ B).length < 3000) (hl : (K ++ X_times a b B).length < 3000) : R_ok (d + 4) 255 [.int (Zi p), .int (Zi a), .int (Zi b)] s (fun x s2 => x = none ∧ R_xc s2 (K ++ X_times a b B) ∧ R_xf s s2) := by
  refine R_enter (M := E_m255) rfl (Nat.le_of_ble_eq_true rfl) (fun h0 h_ hs => ?_)
  show B_R (d + 3) _ (0, [(0, .ref 83), (1, .int (Zi p)), (2, .int (Zi a)), (3, .int (Zi b))], []) _ _ _
  have hc := hx.1
  have zb : Zr b := ⟨by omega, by omega⟩
  simp only [List.length_append] at hc hl0
  unfold X_times at hl
  simp only [List.length_append, X_rep_len, X_more_len] at hl
  obtain ⟨hK, hB⟩ := hx.2.app
  refine Z_go (f2 := (1, [(0, .ref 83), (1, .int (Zi p)), (2, .int (Zi a)), (3, .int (Zi b))], [.ref 83])) (fun _ => rfl) ?_
  refine R_gi rfl hs rfl ?_
  show B_R _ _ (4, [(0, .ref 83), (1, .int (Zi p)), (2, .int (Zi a)), (3, .int (Zi b))], [.int (Zi (s.1 48))]) _ _ _
  refine Z_go (f2 := (5, [(0, .ref 83), (1, .int (Zi p)), (2, .int (Zi a)), (3, .int (Zi b))], [.int (Zi p), .int (Zi (s.1 48))])) (fun _ => rfl) ?_
  refine Z_isub rfl ?_
  refine Z_go (f2 := (8, [(4, .int (Zi (s.1 48 - p))), (0, .ref 83), (1, .int (Zi p)), (2, .int (Zi a)), (3, .int (Zi b))], [])) (fun _ => rfl) ?_
  refine Z_go (f2 := (9, [(4, .int (Zi (s.1 48 - p))), (0, .ref 83), (1, .int (Zi p)), (2, .int (Zi a)), (3, .int (Zi b))], [.int (Zi 0)])) (fun _ => rfl) ?_
  refine Z_go (f2 := (11, [(5, .int (Zi 0)), (4, .int (Zi (s.1 48 - p))), (0, .ref 83), (1, .int (Zi p)), (2, .int (Zi a)), (3, .int (Zi b))], [])) (fun _ => rfl) ?_
  obtain ⟨n, hn⟩ : ∃ n, s.1 48 - p = n := ⟨_, rfl⟩
  rw [hn]
  refine B_loc (K := [(5, .int (Zi 0)), (4, .int (Zi n)), (0, .ref 83), (1, .int (Zi p)), (2, .int (Zi a)), (3, .int (Zi b))]) (N_all_sub ⟨rfl, rfl, rfl, rfl, rfl, rfl, trivial⟩) (show ([5, 4, 0, 1, 2, 3] : List Nat).Nodup by decide) ?_
  refine R_ct_A (s := s) (by omega) (by omega) ⟨by omega, by omega⟩ (fun u h hs hu => ?_) (n.toNat + 1) 0 s _ (by omega) hs (R_tA_0 s p) (by omega) (by omega)
  have hxs := hu.xs (B := B) (by omega) (by rw [show p = 0 + (K.length : Int) by omega]; exact hB)
  refine Z_go (f2 := (63, [(4, .int (Zi n)), (0, .ref 83), (1, .int (Zi p)), (2, .int (Zi a)), (3, .int (Zi b))], [.ref 83])) (fun _ => rfl) ?_
  refine Z_go (f2 := (64, [(4, .int (Zi n)), (0, .ref 83), (1, .int (Zi p)), (2, .int (Zi a)), (3, .int (Zi b))], [.int (Zi p), .ref 83])) (fun _ => rfl) ?_
  refine R_pf rfl hs rfl (by first | exact hs.zF _ | exact Zor_r _ _ | exact hs.zA _ _ | assumption | exact zA _ _ | exact zS _ | exact Zr_not (hs.zA _ _) | exact ⟨by omega, by omega⟩) ⟨rfl, rfl, rfl⟩ (fun h hs => ?_)
  refine Z_go (f2 := (68, [(4, .int (Zi n)), (0, .ref 83), (1, .int (Zi p)), (2, .int (Zi a)), (3, .int (Zi b))], [.int (Zi 0)])) (fun _ => rfl) ?_
  refine Z_go (f2 := (70, [(5, .int (Zi 0)), (4, .int (Zi n)), (0, .ref 83), (1, .int (Zi p)), (2, .int (Zi a)), (3, .int (Zi b))], [])) (fun _ => rfl) ?_
  refine B_loc (K := [(5, .int (Zi 0)), (4, .int (Zi n)), (0, .ref 83), (1, .int (Zi p)), (2, .int (Zi a)), (3, .int (Zi b))]) (N_all_sub ⟨rfl, rfl, rfl, rfl, rfl, rfl, trivial⟩) (show ([5, 4, 0, 1, 2, 3] : List Nat).Nodup by decide) ?_
  have hu0 : R_cta s (R_sF u 48 p) (K ++ X_rep (0 : Int).toNat B) B := by
    refine ⟨?_, fun i hi => hxs i hi, hu.1.tr ⟨fun b hb => R_sF_n _ _ (fun e => hb (by rw [e]; decide)), fun _ _ _ => rfl, rfl⟩⟩
    rw [show (0 : Int).toNat = 0 from rfl, X_rep_0, List.append_nil]
    exact ⟨by rw [R_sF_s, hp], hK.at (fun i i0 i1 => ⟨hu.2.2.1 _, hu.2.2.2.1 _⟩)⟩
  refine R_ct_1 (s := s) (K := K) (by omega) a0 a1 (by omega) (fun w h hs hw => ?_) (a.toNat + 1) 0 _ _ (by omega) hs hu0 (by omega) (by omega)
  refine Z_go (f2 := (89, [(4, .int (Zi n)), (0, .ref 83), (1, .int (Zi p)), (2, .int (Zi a)), (3, .int (Zi b))], [.int (Zi b)])) (fun _ => rfl) ?_
  refine Z_go (f2 := (90, [(4, .int (Zi n)), (0, .ref 83), (1, .int (Zi p)), (2, .int (Zi a)), (3, .int (Zi b))], [.int (Zi (-1)), .int (Zi b)])) (fun _ => rfl) ?_
  refine Z_cne rfl rfl (by first | exact hs.zF _ | exact Zor_r _ _ | exact hs.zA _ _ | assumption | exact zA _ _ | exact zS _ | exact Zr_not (hs.zA _ _) | exact ⟨by omega, by omega⟩) (by first | exact hs.zF _ | exact Zor_r _ _ | exact hs.zA _ _ | assumption | exact zA _ _ | exact zS _ | exact Zr_not (hs.zA _ _) | exact ⟨by omega, by omega⟩) (fun c1 => ?_) (fun c1 => ?_)
  · refine Z_go (f2 := (98, [(4, .int (Zi n)), (0, .ref 83), (1, .int (Zi p)), (2, .int (Zi a)), (3, .int (Zi b))], [.int (Zi b)])) (fun _ => rfl) ?_
    refine Z_go (f2 := (99, [(4, .int (Zi n)), (0, .ref 83), (1, .int (Zi p)), (2, .int (Zi a)), (3, .int (Zi b))], [.int (Zi a), .int (Zi b)])) (fun _ => rfl) ?_
    refine Z_isub rfl ?_
    refine Z_go (f2 := (102, [(5, .int (Zi (b - a))), (4, .int (Zi n)), (0, .ref 83), (1, .int (Zi p)), (2, .int (Zi a)), (3, .int (Zi b))], [])) (fun _ => rfl) ?_
    refine Z_go (f2 := (103, [(5, .int (Zi (b - a))), (4, .int (Zi n)), (0, .ref 83), (1, .int (Zi p)), (2, .int (Zi a)), (3, .int (Zi b))], [.int (Zi 0)])) (fun _ => rfl) ?_
    refine Z_go (f2 := (105, [(6, .int (Zi 0)), (5, .int (Zi (b - a))), (4, .int (Zi n)), (0, .ref 83), (1, .int (Zi p)), (2, .int (Zi a)), (3, .int (Zi b))], [])) (fun _ => rfl) ?_
    refine B_loc (K := [(6, .int (Zi 0)), (5, .int (Zi (b - a))), (4, .int (Zi n)), (0, .ref 83), (1, .int (Zi p)), (2, .int (Zi a)), (3, .int (Zi b))]) (N_all_sub ⟨rfl, rfl, rfl, rfl, rfl, rfl, rfl, trivial⟩) (show ([6, 5, 4, 0, 1, 2, 3] : List Nat).Nodup by decide) ?_
    rw [if_neg (by omega)] at hl
    refine R_ct_2 (s := s) (K := K ++ X_rep a.toNat B) (B := B) (m := b - a) (by omega) zb (by omega) (by omega) (by rw [List.length_append, X_rep_len]; omega) (fun v h hs hv => ?_) ((b - a : Int).toNat + 1) 0 w _ (by omega) hs (by rw [show (0 : Int).toNat = 0 from rfl, X_rep_0, List.append_nil]; exact hw) (by omega) (by omega)
    refine Z_ret rfl rfl ⟨_, hs, ⟨rfl, ?_, hv.2.2⟩, rfl⟩
    unfold X_times
    rw [if_neg (by omega), ← List.append_assoc]
    exact hv.1
  · refine Z_go (f2 := (94, [(4, .int (Zi n)), (0, .ref 83), (1, .int (Zi p)), (2, .int (Zi a)), (3, .int (Zi b))], [.int (Zi 1)])) (fun _ => rfl) ?_
    refine Z_go (f2 := (100, [(4, .int (Zi n)), (0, .ref 83), (1, .int (Zi p)), (2, .int (Zi a)), (3, .int (Zi b))], [.int (Zi 1)])) (fun _ => rfl) ?_
    refine Z_go (f2 := (102, [(5, .int (Zi 1)), (4, .int (Zi n)), (0, .ref 83), (1, .int (Zi p)), (2, .int (Zi a)), (3, .int (Zi b))], [])) (fun _ => rfl) ?_
    refine Z_go (f2 := (103, [(5, .int (Zi 1)), (4, .int (Zi n)), (0, .ref 83), (1, .int (Zi p)), (2, .int (Zi a)), (3, .int (Zi b))], [.int (Zi 0)])) (fun _ => rfl) ?_
    refine Z_go (f2 := (105, [(6, .int (Zi 0)), (5, .int (Zi 1)), (4, .int (Zi n)), (0, .ref 83), (1, .int (Zi p)), (2, .int (Zi a)), (3, .int (Zi b))], [])) (fun _ => rfl) ?_
    refine B_loc (K := [(6, .int (Zi 0)), (5, .int (Zi 1)), (4, .int (Zi n)), (0, .ref 83), (1, .int (Zi p)), (2, .int (Zi a)), (3, .int (Zi b))]) (N_all_sub ⟨rfl, rfl, rfl, rfl, rfl, rfl, rfl, trivial⟩) (show ([6, 5, 4, 0, 1, 2, 3] : List Nat).Nodup by decide) ?_
    rw [if_pos (by omega)] at hl
    refine R_ct_2 (s := s) (K := K ++ X_rep a.toNat B) (B := B) (m := 1) (by omega) zb (by omega) (by omega) (by rw [List.length_append, X_rep_len]; rw [show (1 : Int).toNat = 1 from rfl]; omega) (fun v h hs hv => ?_) ((1 : Int).toNat + 1) 0 w _ (by omega) hs (by rw [show (0 : Int).toNat = 0 from rfl, X_rep_0, List.append_nil]; exact hw) (by omega) (by omega)
    refine Z_ret rfl rfl ⟨_, hs, ⟨rfl, ?_, hv.2.2⟩, rfl⟩
    unfold X_times
    rw [if_pos (by omega), ← List.append_assoc]
    exact hv.1
