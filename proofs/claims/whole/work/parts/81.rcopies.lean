/-! the reference: copies -/
set_option maxRecDepth 4000 in
theorem R_cp_n {d : Nat} {h0 : E_H} {u : R_S} {sl : Nat} {Φ : E_R → Prop} {e k : Int} (e0 : 0 ≤ e) (e1 : e < 44) (k0 : 0 ≤ k) (k1 : k < 44) (ne : e ≠ k) (ex : u.2.1 96 e = 0) (kont : ∀ (h : E_H), R_is h0 h u → B_R (d + 1) E_m239 (123, [(0, .ref 83), (1, .int (Zi e)), (2, .int (Zi k))], []) h sl Φ) : ∀ (f : Nat) (t : Int) (h : E_H), u.2.1 97 e - t < f → R_is h0 h u → 0 ≤ t → t = 0 ∨ t ≤ u.2.1 97 e → B_R (d + 1) E_m239 (26, [(3, .int (Zi t)), (0, .ref 83), (1, .int (Zi e)), (2, .int (Zi k))], []) h sl Φ := by
  intro f
  induction f with
  | zero =>
    intro t h ht hs t0 t1
    have zz := hs.zA 97 e
    have zt : Zr t := by rcases t1 with q | q <;> exact ⟨by omega, by have := zz.2; omega⟩
    refine Z_go (f2 := (27, [(3, .int (Zi t)), (0, .ref 83), (1, .int (Zi e)), (2, .int (Zi k))], [.int (Zi t)])) (fun _ => rfl) ?_
    refine Z_go (f2 := (28, [(3, .int (Zi t)), (0, .ref 83), (1, .int (Zi e)), (2, .int (Zi k))], [.ref 83, .int (Zi t)])) (fun _ => rfl) ?_
    refine R_gr (q := 95) rfl hs rfl ?_
    show B_R _ _ (31, [(3, .int (Zi t)), (0, .ref 83), (1, .int (Zi e)), (2, .int (Zi k))], [.ref 97, .int (Zi t)]) _ _ _
    refine Z_go (f2 := (32, [(3, .int (Zi t)), (0, .ref 83), (1, .int (Zi e)), (2, .int (Zi k))], [.int (Zi e), .ref 97, .int (Zi t)])) (fun _ => rfl) ?_
    refine R_ia (q := 13) rfl hs rfl rfl (by omega) (by omega) (by decide) ?_
    refine Z_cge rfl rfl (by first | exact hs.zF _ | exact Zor_r _ _ | exact hs.zA _ _ | assumption | exact zA _ _ | exact zS _ | exact Zr_not (hs.zA _ _) | exact ⟨by omega, by omega⟩) (by first | exact hs.zF _ | exact Zor_r _ _ | exact hs.zA _ _ | assumption | exact zA _ _ | exact zS _ | exact Zr_not (hs.zA _ _) | exact ⟨by omega, by omega⟩) (fun c1 => ?_) (fun c1 => ?_)
    · refine B_loc (K := [(0, .ref 83), (1, .int (Zi e)), (2, .int (Zi k))]) (N_all_sub ⟨rfl, rfl, rfl, trivial⟩) (show ([0, 1, 2] : List Nat).Nodup by decide) ?_
      exact kont h hs
    · exfalso; omega
  | succ f ih =>
    intro t h ht hs t0 t1
    have zz := hs.zA 97 e
    have zt : Zr t := by rcases t1 with q | q <;> exact ⟨by omega, by have := zz.2; omega⟩
    refine Z_go (f2 := (27, [(3, .int (Zi t)), (0, .ref 83), (1, .int (Zi e)), (2, .int (Zi k))], [.int (Zi t)])) (fun _ => rfl) ?_
    refine Z_go (f2 := (28, [(3, .int (Zi t)), (0, .ref 83), (1, .int (Zi e)), (2, .int (Zi k))], [.ref 83, .int (Zi t)])) (fun _ => rfl) ?_
    refine R_gr (q := 95) rfl hs rfl ?_
    show B_R _ _ (31, [(3, .int (Zi t)), (0, .ref 83), (1, .int (Zi e)), (2, .int (Zi k))], [.ref 97, .int (Zi t)]) _ _ _
    refine Z_go (f2 := (32, [(3, .int (Zi t)), (0, .ref 83), (1, .int (Zi e)), (2, .int (Zi k))], [.int (Zi e), .ref 97, .int (Zi t)])) (fun _ => rfl) ?_
    refine R_ia (q := 13) rfl hs rfl rfl (by omega) (by omega) (by decide) ?_
    refine Z_cge rfl rfl (by first | exact hs.zF _ | exact Zor_r _ _ | exact hs.zA _ _ | assumption | exact zA _ _ | exact zS _ | exact Zr_not (hs.zA _ _) | exact ⟨by omega, by omega⟩) (by first | exact hs.zF _ | exact Zor_r _ _ | exact hs.zA _ _ | assumption | exact zA _ _ | exact zS _ | exact Zr_not (hs.zA _ _) | exact ⟨by omega, by omega⟩) (fun c1 => ?_) (fun c1 => ?_)
    · refine B_loc (K := [(0, .ref 83), (1, .int (Zi e)), (2, .int (Zi k))]) (N_all_sub ⟨rfl, rfl, rfl, trivial⟩) (show ([0, 1, 2] : List Nat).Nodup by decide) ?_
      exact kont h hs
    · refine Z_go (f2 := (37, [(3, .int (Zi t)), (0, .ref 83), (1, .int (Zi e)), (2, .int (Zi k))], [.ref 83])) (fun _ => rfl) ?_
      refine R_gr (q := 94) rfl hs rfl ?_
      show B_R _ _ (40, [(3, .int (Zi t)), (0, .ref 83), (1, .int (Zi e)), (2, .int (Zi k))], [.ref 96]) _ _ _
      refine Z_go (f2 := (41, [(3, .int (Zi t)), (0, .ref 83), (1, .int (Zi e)), (2, .int (Zi k))], [.int (Zi e), .ref 96])) (fun _ => rfl) ?_
      refine R_ba (q := 12) rfl hs rfl rfl (by omega) (by omega) (by decide) ?_
      refine Z_ieq rfl rfl (by first | exact hs.zF _ | exact Zor_r _ _ | exact hs.zA _ _ | assumption | exact zA _ _ | exact zS _ | exact Zr_not (hs.zA _ _) | exact ⟨by omega, by omega⟩) (fun c2 => ?_) (fun c2 => ?_)
      · refine B_loc (K := [(0, .ref 83), (1, .int (Zi e)), (2, .int (Zi k))]) (N_all_sub ⟨rfl, rfl, rfl, trivial⟩) (show ([0, 1, 2] : List Nat).Nodup by decide) ?_
        exact kont h hs
      · omega
def R_cpe (s u : R_S) (e k j : Int) : Prop := R_vk s u (fun x => x = k) ∧ u.2.1 96 k = s.2.1 96 e ∧ u.2.1 100 k = s.2.1 100 e ∧ u.2.1 102 k = s.2.1 102 e ∧ (∀ c, 0 ≤ c → c < j → u.2.1 101 (12 * k + c) = s.2.1 101 (12 * e + c)) ∧ (∀ c, 0 ≤ c → c < j → u.2.1 103 (12 * k + c) = s.2.1 103 (12 * e + c))
set_option maxRecDepth 4000 in
theorem R_cpe_0 {s u : R_S} {e k : Int} (h : R_vk s u (fun x => x = k)) (h96 : u.2.1 96 k = s.2.1 96 e) (ne : e ≠ k) : R_cpe s (R_sA (R_sA u 100 k (u.2.1 100 e)) 102 k (u.2.1 102 e)) e k 0 :=
  ⟨(h.st (q := 100) (by decide) (by decide) (Int.ediv_one k)).st (q := 102) (by decide) (by decide) (Int.ediv_one k), by rw [R_sA_n _ _ _ _ (by decide), R_sA_n _ _ _ _ (by decide)]; exact h96, by rw [R_sA_n _ _ _ _ (by decide), R_sA_s]; exact h.at ne (by decide) (by decide) (Int.ediv_one e), by rw [R_sA_s]; exact h.at ne (by decide) (by decide) (Int.ediv_one e), fun c c0 c1 => by omega, fun c c0 c1 => by omega⟩
set_option maxRecDepth 4000 in
theorem R_cpe_st {s u : R_S} {e k j : Int} (h : R_cpe s u e k j) (ne : e ≠ k) (j0 : 0 ≤ j) (j1 : j < 12) : R_cpe s (R_sA (R_sA u 101 (12 * k + j) (u.2.1 101 (12 * e + j))) 103 (12 * k + j) (u.2.1 103 (12 * e + j))) e k (j + 1) := by
  obtain ⟨h1, h2, h3, h4, h5, h6⟩ := h
  have e1 : u.2.1 101 (12 * e + j) = s.2.1 101 (12 * e + j) := h1.at ne (by decide) (by decide) (by show _ / (12 : Int) = e; omega)
  have e3 : u.2.1 103 (12 * e + j) = s.2.1 103 (12 * e + j) := h1.at ne (by decide) (by decide) (by show _ / (12 : Int) = e; omega)
  refine ⟨(h1.st (q := 101) (by decide) (by decide) (by show _ / (12 : Int) = k; omega)).st (q := 103) (by decide) (by decide) (by show _ / (12 : Int) = k; omega), by rw [R_sA_n _ _ _ _ (by decide), R_sA_n _ _ _ _ (by decide)]; exact h2, by rw [R_sA_n _ _ _ _ (by decide), R_sA_n _ _ _ _ (by decide)]; exact h3, by rw [R_sA_n _ _ _ _ (by decide), R_sA_n _ _ _ _ (by decide)]; exact h4, fun c c0 c1 => ?_, fun c c0 c1 => ?_⟩
  · rw [R_sA_n _ _ _ _ (by decide)]
    by_cases q : c = j
    · rw [q, R_sA_s]; exact e1
    · rw [R_sA_m _ _ _ _ (by omega)]; exact h5 c c0 (by omega)
  · by_cases q : c = j
    · rw [q, R_sA_s]; exact e3
    · rw [R_sA_m _ _ _ _ (by omega), R_sA_n _ _ _ _ (by decide)]; exact h6 c c0 (by omega)
def R_cpc (s u : R_S) (e k c : Int) : Prop := R_cpe s u e k 12 ∧ u.2.1 104 k = s.2.1 104 e ∧ (∀ t, 0 ≤ t → t < c → u.2.1 105 (24 * k + t) = s.2.1 105 (24 * e + t)) ∧ (∀ t, 0 ≤ t → t < c → ∀ i, 0 ≤ i → i < s.2.1 105 (24 * e + t) → u.2.1 106 (640 * (24 * k + t) + i) = s.2.1 106 (640 * (24 * e + t) + i))
set_option maxRecDepth 4000 in
theorem R_cpc_0 {s u : R_S} {e k : Int} (h : R_cpe s u e k 12) (ne : e ≠ k) : R_cpc s (R_sA u 104 k (u.2.1 104 e)) e k 0 := by
  obtain ⟨h1, h2, h3, h4, h5, h6⟩ := h
  refine ⟨⟨h1.st (q := 104) (by decide) (by decide) (Int.ediv_one k), by rw [R_sA_n _ _ _ _ (by decide)]; exact h2, by rw [R_sA_n _ _ _ _ (by decide)]; exact h3, by rw [R_sA_n _ _ _ _ (by decide)]; exact h4, fun c c0 c1 => by rw [R_sA_n _ _ _ _ (by decide)]; exact h5 c c0 c1, fun c c0 c1 => by rw [R_sA_n _ _ _ _ (by decide)]; exact h6 c c0 c1⟩, by rw [R_sA_s]; exact h1.at ne (by decide) (by decide) (Int.ediv_one e), fun c c0 c1 => by omega, fun c c0 c1 => by omega⟩
def R_cpS (u : R_S) (e k c : Int) : R_S := R_fl (R_sA u 105 (24 * k + c) (u.2.1 105 (24 * e + c))) 106 (640 * (24 * k + c)) (640 * (24 * k + c) + u.2.1 105 (24 * e + c)) (fun x => (R_sA u 105 (24 * k + c) (u.2.1 105 (24 * e + c))).2.1 106 (640 * (24 * e + c) + (x - 640 * (24 * k + c))))
set_option maxRecDepth 4000 in
theorem R_cpc_st {s u : R_S} {e k c : Int} (h : R_cpc s u e k c) (ne : e ≠ k) (c0 : 0 ≤ c) (c1 : c < 24) (hn : 0 ≤ s.2.1 105 (24 * e + c)) (hn2 : s.2.1 105 (24 * e + c) ≤ 640) (hb : ∀ t, 0 ≤ t → t < c → s.2.1 105 (24 * e + t) ≤ 640) : R_cpc s (R_cpS u e k c) e k (c + 1) := by
  obtain ⟨⟨h1, h2, h3, h4, h5, h6⟩, h7, h8, h9⟩ := h
  have e5 : u.2.1 105 (24 * e + c) = s.2.1 105 (24 * e + c) := h1.at ne (by decide) (by decide) (by show _ / (24 : Int) = e; omega)
  have e6 : ∀ i, 0 ≤ i → i < 640 → u.2.1 106 (640 * (24 * e + c) + i) = s.2.1 106 (640 * (24 * e + c) + i) := fun i i0 i1 => h1.at ne (by decide) (by decide) (by show _ / (15360 : Int) = e; omega)
  have en : ∀ q j, q ≠ 105 → q ≠ 106 → (R_cpS u e k c).2.1 q j = u.2.1 q j := fun q j n5 n6 => by unfold R_cpS; rw [R_fl_n n6, R_sA_n _ _ _ _ n5]
  refine ⟨⟨(h1.st (q := 105) (by decide) (by decide) (by show _ / (24 : Int) = k; omega)).fl (q := 106) (by decide) (by decide) (fun j j0 j1 => by show _ / (15360 : Int) = k; omega), by rw [en _ _ (by decide) (by decide)]; exact h2, by rw [en _ _ (by decide) (by decide)]; exact h3, by rw [en _ _ (by decide) (by decide)]; exact h4, fun c c0 c1 => by rw [en _ _ (by decide) (by decide)]; exact h5 c c0 c1, fun c c0 c1 => by rw [en _ _ (by decide) (by decide)]; exact h6 c c0 c1⟩, by rw [en _ _ (by decide) (by decide)]; exact h7, fun t t0 t1 => ?_, fun t t0 t1 i i0 i1 => ?_⟩
  · unfold R_cpS
    rw [R_fl_n (by decide)]
    by_cases q : t = c
    · rw [q, R_sA_s]; exact e5
    · rw [R_sA_m _ _ _ _ (by omega)]; exact h8 t t0 (by omega)
  · unfold R_cpS
    by_cases q : t = c
    · subst q
      rw [R_fl_i (by omega) (by omega), R_sA_n _ _ _ _ (by decide), show 640 * (24 * k + t) + i - 640 * (24 * k + t) = i by omega]
      exact e6 i i0 (by omega)
    · have := hb t t0 (by omega)
      rw [R_fl_o (by omega), R_sA_n _ _ _ _ (by decide)]
      exact h9 t t0 (by omega) i i0 i1
set_option maxRecDepth 4000 in
theorem R_cpc.V {s u : R_S} {e k : Int} {q : P_X × P_X × P_X} (h : R_cpc s u e k (s.2.1 104 e)) (hv : R_V s e (.inr q)) : R_V u k (.inr q) := by
  obtain ⟨⟨h1, h2, h3, h4, h5, h6⟩, h7, h8, h9⟩ := h
  obtain ⟨a1, a2, a3, a4⟩ := hv
  exact ⟨by rw [h2]; exact a1, R_EN_at h3 (fun j j0 j1 => h5 j j0 (by have := a2.2.1; omega)) a2, R_EN_at h4 (fun j j0 j1 => h6 j j0 (by have := a3.2.1; omega)) a3, R_CC_at h7 h8 h9 a4⟩
set_option maxRecDepth 4000 in
theorem R_cp_e {d : Nat} {h0 : E_H} {s : R_S} {sl : Nat} {Φ : E_R → Prop} {e k : Int} (e0 : 0 ≤ e) (e1 : e < 44) (k0 : 0 ≤ k) (k1 : k < 44) (ne : e ≠ k) (kont : ∀ (u : R_S) (h : E_H), R_is h0 h u → R_cpe s u e k 12 → B_R (d + 1) E_m239 (215, [(0, .ref 83), (1, .int (Zi e)), (2, .int (Zi k))], []) h sl Φ) : ∀ (f : Nat) (j : Int) (u : R_S) (h : E_H), 12 - j < f → R_is h0 h u → R_cpe s u e k j → 0 ≤ j → j ≤ 12 → B_R (d + 1) E_m239 (159, [(3, .int (Zi j)), (0, .ref 83), (1, .int (Zi e)), (2, .int (Zi k))], []) h sl Φ := by
  intro f
  induction f with
  | zero => intro j u h ht hs hc j0 j1; omega
  | succ f ih =>
    intro j u h ht hs hc j0 j1
    have zA : ∀ q j, Zr (u.2.1 q j) := fun q j => hs.zA q j
    refine Z_go (f2 := (160, [(3, .int (Zi j)), (0, .ref 83), (1, .int (Zi e)), (2, .int (Zi k))], [.int (Zi j)])) (fun _ => rfl) ?_
    refine Z_go (f2 := (162, [(3, .int (Zi j)), (0, .ref 83), (1, .int (Zi e)), (2, .int (Zi k))], [.int (Zi 12), .int (Zi j)])) (fun _ => rfl) ?_
    refine Z_cge rfl rfl (by first | exact hs.zF _ | exact Zor_r _ _ | exact hs.zA _ _ | assumption | exact zA _ _ | exact zS _ | exact Zr_not (hs.zA _ _) | exact ⟨by omega, by omega⟩) (by first | exact hs.zF _ | exact Zor_r _ _ | exact hs.zA _ _ | assumption | exact zA _ _ | exact zS _ | exact Zr_not (hs.zA _ _) | exact ⟨by omega, by omega⟩) (fun c1 => ?_) (fun c1 => ?_)
    · refine B_loc (K := [(0, .ref 83), (1, .int (Zi e)), (2, .int (Zi k))]) (N_all_sub ⟨rfl, rfl, rfl, trivial⟩) (show ([0, 1, 2] : List Nat).Nodup by decide) ?_
      obtain rfl : j = 12 := by omega
      exact kont u h hs hc
    · refine Z_go (f2 := (166, [(3, .int (Zi j)), (0, .ref 83), (1, .int (Zi e)), (2, .int (Zi k))], [.ref 83])) (fun _ => rfl) ?_
      refine R_gr (q := 99) rfl hs rfl ?_
      show B_R _ _ (169, [(3, .int (Zi j)), (0, .ref 83), (1, .int (Zi e)), (2, .int (Zi k))], [.ref 101]) _ _ _
      refine Z_go (f2 := (171, [(3, .int (Zi j)), (0, .ref 83), (1, .int (Zi e)), (2, .int (Zi k))], [.int (Zi 12), .ref 101])) (fun _ => rfl) ?_
      refine Z_go (f2 := (172, [(3, .int (Zi j)), (0, .ref 83), (1, .int (Zi e)), (2, .int (Zi k))], [.int (Zi k), .int (Zi 12), .ref 101])) (fun _ => rfl) ?_
      refine Z_imul rfl ?_
      refine Z_go (f2 := (174, [(3, .int (Zi j)), (0, .ref 83), (1, .int (Zi e)), (2, .int (Zi k))], [.int (Zi j), .int (Zi (12 * k)), .ref 101])) (fun _ => rfl) ?_
      refine Z_iadd rfl ?_
      refine Z_go (f2 := (176, [(3, .int (Zi j)), (0, .ref 83), (1, .int (Zi e)), (2, .int (Zi k))], [.ref 83, .int (Zi (12 * k + j)), .ref 101])) (fun _ => rfl) ?_
      refine R_gr (q := 99) rfl hs rfl ?_
      show B_R _ _ (179, [(3, .int (Zi j)), (0, .ref 83), (1, .int (Zi e)), (2, .int (Zi k))], [.ref 101, .int (Zi (12 * k + j)), .ref 101]) _ _ _
      refine Z_go (f2 := (181, [(3, .int (Zi j)), (0, .ref 83), (1, .int (Zi e)), (2, .int (Zi k))], [.int (Zi 12), .ref 101, .int (Zi (12 * k + j)), .ref 101])) (fun _ => rfl) ?_
      refine Z_go (f2 := (182, [(3, .int (Zi j)), (0, .ref 83), (1, .int (Zi e)), (2, .int (Zi k))], [.int (Zi e), .int (Zi 12), .ref 101, .int (Zi (12 * k + j)), .ref 101])) (fun _ => rfl) ?_
      refine Z_imul rfl ?_
      refine Z_go (f2 := (184, [(3, .int (Zi j)), (0, .ref 83), (1, .int (Zi e)), (2, .int (Zi k))], [.int (Zi j), .int (Zi (12 * e)), .ref 101, .int (Zi (12 * k + j)), .ref 101])) (fun _ => rfl) ?_
      refine Z_iadd rfl ?_
      refine R_ia (q := 17) rfl hs rfl rfl (by omega) (by omega) (by decide) ?_
      refine R_is_ (q := 17) rfl hs rfl rfl (by omega) (by omega) (by decide) (by first | exact hs.zF _ | exact Zor_r _ _ | exact hs.zA _ _ | assumption | exact zA _ _ | exact zS _ | exact Zr_not (hs.zA _ _) | exact ⟨by omega, by omega⟩) (fun h hs => ?_)
      refine Z_go (f2 := (188, [(3, .int (Zi j)), (0, .ref 83), (1, .int (Zi e)), (2, .int (Zi k))], [.ref 83])) (fun _ => rfl) ?_
      refine R_gr (q := 101) rfl hs rfl ?_
      show B_R _ _ (191, [(3, .int (Zi j)), (0, .ref 83), (1, .int (Zi e)), (2, .int (Zi k))], [.ref 103]) _ _ _
      refine Z_go (f2 := (193, [(3, .int (Zi j)), (0, .ref 83), (1, .int (Zi e)), (2, .int (Zi k))], [.int (Zi 12), .ref 103])) (fun _ => rfl) ?_
      refine Z_go (f2 := (194, [(3, .int (Zi j)), (0, .ref 83), (1, .int (Zi e)), (2, .int (Zi k))], [.int (Zi k), .int (Zi 12), .ref 103])) (fun _ => rfl) ?_
      refine Z_imul rfl ?_
      refine Z_go (f2 := (196, [(3, .int (Zi j)), (0, .ref 83), (1, .int (Zi e)), (2, .int (Zi k))], [.int (Zi j), .int (Zi (12 * k)), .ref 103])) (fun _ => rfl) ?_
      refine Z_iadd rfl ?_
      refine Z_go (f2 := (198, [(3, .int (Zi j)), (0, .ref 83), (1, .int (Zi e)), (2, .int (Zi k))], [.ref 83, .int (Zi (12 * k + j)), .ref 103])) (fun _ => rfl) ?_
      refine R_gr (q := 101) rfl hs rfl ?_
      show B_R _ _ (201, [(3, .int (Zi j)), (0, .ref 83), (1, .int (Zi e)), (2, .int (Zi k))], [.ref 103, .int (Zi (12 * k + j)), .ref 103]) _ _ _
      refine Z_go (f2 := (203, [(3, .int (Zi j)), (0, .ref 83), (1, .int (Zi e)), (2, .int (Zi k))], [.int (Zi 12), .ref 103, .int (Zi (12 * k + j)), .ref 103])) (fun _ => rfl) ?_
      refine Z_go (f2 := (204, [(3, .int (Zi j)), (0, .ref 83), (1, .int (Zi e)), (2, .int (Zi k))], [.int (Zi e), .int (Zi 12), .ref 103, .int (Zi (12 * k + j)), .ref 103])) (fun _ => rfl) ?_
      refine Z_imul rfl ?_
      refine Z_go (f2 := (206, [(3, .int (Zi j)), (0, .ref 83), (1, .int (Zi e)), (2, .int (Zi k))], [.int (Zi j), .int (Zi (12 * e)), .ref 103, .int (Zi (12 * k + j)), .ref 103])) (fun _ => rfl) ?_
      refine Z_iadd rfl ?_
      refine R_ia (q := 19) rfl hs rfl rfl (by omega) (by omega) (by decide) ?_
      rw [show (R_sA u 101 (12 * k + j) (u.2.1 101 (12 * e + j))).2.1 103 (12 * e + j) = u.2.1 103 (12 * e + j) by first | rfl | simp [R_sA, R_sF, R_up2, R_fl, R_fL, R_sM, R_sL, R_p3, R_em]]; show B_R _ _ (208, [(3, .int (Zi j)), (0, .ref 83), (1, .int (Zi e)), (2, .int (Zi k))], [.int (Zi (u.2.1 103 (12 * e + j))), .int (Zi (12 * k + j)), .ref 103]) _ _ _
      refine R_is_ (q := 19) rfl hs rfl rfl (by omega) (by omega) (by decide) (by first | exact hs.zF _ | exact Zor_r _ _ | exact hs.zA _ _ | assumption | exact zA _ _ | exact zS _ | exact Zr_not (hs.zA _ _) | exact ⟨by omega, by omega⟩) (fun h hs => ?_)
      refine Z_iinc (L2 := [(3, .int (Zi (j + 1))), (0, .ref 83), (1, .int (Zi e)), (2, .int (Zi k))]) rfl rfl (by decide) rfl ?_
      refine Z_go (f2 := (159, [(3, .int (Zi (j + 1))), (0, .ref 83), (1, .int (Zi e)), (2, .int (Zi k))], [])) (fun _ => rfl) ?_
      refine B_loc (K := [(3, .int (Zi (j + 1))), (0, .ref 83), (1, .int (Zi e)), (2, .int (Zi k))]) (N_all_sub ⟨rfl, rfl, rfl, rfl, trivial⟩) (show ([3, 0, 1, 2] : List Nat).Nodup by decide) ?_
      exact ih (j + 1) _ h (by omega) hs (R_cpe_st hc ne j0 (by omega)) (by omega) (by omega)
set_option maxRecDepth 4000 in
theorem R_cp_x {d : Nat} {h0 : E_H} {s : R_S} {sl : Nat} {Φ : E_R → Prop} {e k c n : Int} (e0 : 0 ≤ e) (e1 : e < 44) (k0 : 0 ≤ k) (k1 : k < 44) (ne : e ≠ k) (c0 : 0 ≤ c) (c9 : c < 24) (n1 : n ≤ 640) (hn : n = s.2.1 105 (24 * e + c)) (zA : ∀ q j, Zr (s.2.1 q j)) (kont : ∀ (h : E_H), R_is h0 h (R_fl s 106 (640 * (24 * k + c)) (640 * (24 * k + c) + n) (fun y => s.2.1 106 (640 * (24 * e + c) + (y - 640 * (24 * k + c))))) → B_R (d + 1) E_m239 (322, [(4, .int (Zi n)), (3, .int (Zi c)), (0, .ref 83), (1, .int (Zi e)), (2, .int (Zi k))], []) h sl Φ) : ∀ (t : Nat) (x : Int) (h : E_H), n - x < t → R_is h0 h (R_fl s 106 (640 * (24 * k + c)) (640 * (24 * k + c) + x) (fun y => s.2.1 106 (640 * (24 * e + c) + (y - 640 * (24 * k + c))))) → 0 ≤ x → x ≤ n → B_R (d + 1) E_m239 (264, [(4, .int (Zi x)), (3, .int (Zi c)), (0, .ref 83), (1, .int (Zi e)), (2, .int (Zi k))], []) h sl Φ := by
  intro t
  induction t with
  | zero => intro x h ht hs x0 x1; omega
  | succ t ih =>
    intro x h ht hs x0 x1
    refine Z_go (f2 := (266, [(4, .int (Zi x)), (3, .int (Zi c)), (0, .ref 83), (1, .int (Zi e)), (2, .int (Zi k))], [.int (Zi x)])) (fun _ => rfl) ?_
    refine Z_go (f2 := (267, [(4, .int (Zi x)), (3, .int (Zi c)), (0, .ref 83), (1, .int (Zi e)), (2, .int (Zi k))], [.ref 83, .int (Zi x)])) (fun _ => rfl) ?_
    refine R_gr (q := 103) rfl hs rfl ?_
    show B_R _ _ (270, [(4, .int (Zi x)), (3, .int (Zi c)), (0, .ref 83), (1, .int (Zi e)), (2, .int (Zi k))], [.ref 105, .int (Zi x)]) _ _ _
    refine Z_go (f2 := (272, [(4, .int (Zi x)), (3, .int (Zi c)), (0, .ref 83), (1, .int (Zi e)), (2, .int (Zi k))], [.int (Zi 24), .ref 105, .int (Zi x)])) (fun _ => rfl) ?_
    refine Z_go (f2 := (273, [(4, .int (Zi x)), (3, .int (Zi c)), (0, .ref 83), (1, .int (Zi e)), (2, .int (Zi k))], [.int (Zi e), .int (Zi 24), .ref 105, .int (Zi x)])) (fun _ => rfl) ?_
    refine Z_imul rfl ?_
    refine Z_go (f2 := (275, [(4, .int (Zi x)), (3, .int (Zi c)), (0, .ref 83), (1, .int (Zi e)), (2, .int (Zi k))], [.int (Zi c), .int (Zi (24 * e)), .ref 105, .int (Zi x)])) (fun _ => rfl) ?_
    refine Z_iadd rfl ?_
    refine R_ia (q := 21) rfl hs rfl rfl (by omega) (by omega) (by decide) ?_
    rw [show (R_fl s 106 (640 * (24 * k + c)) (640 * (24 * k + c) + x) (fun y => s.2.1 106 (640 * (24 * e + c) + (y - 640 * (24 * k + c))))).2.1 105 (24 * e + c) = s.2.1 105 (24 * e + c) by first | rfl | simp [R_sA, R_sF, R_up2, R_fl, R_fL, R_sM, R_sL, R_p3, R_em]]; show B_R _ _ (277, [(4, .int (Zi x)), (3, .int (Zi c)), (0, .ref 83), (1, .int (Zi e)), (2, .int (Zi k))], [.int (Zi (s.2.1 105 (24 * e + c))), .int (Zi x)]) _ _ _
    refine Z_cge rfl rfl (by first | exact hs.zF _ | exact Zor_r _ _ | exact hs.zA _ _ | assumption | exact zA _ _ | exact zS _ | exact Zr_not (hs.zA _ _) | exact ⟨by omega, by omega⟩) (by first | exact hs.zF _ | exact Zor_r _ _ | exact hs.zA _ _ | assumption | exact zA _ _ | exact zS _ | exact Zr_not (hs.zA _ _) | exact ⟨by omega, by omega⟩) (fun c1 => ?_) (fun c1 => ?_)
    · obtain rfl : x = n := by omega
      exact kont h hs 
    · refine Z_go (f2 := (281, [(4, .int (Zi x)), (3, .int (Zi c)), (0, .ref 83), (1, .int (Zi e)), (2, .int (Zi k))], [.ref 83])) (fun _ => rfl) ?_
      refine R_gr (q := 104) rfl hs rfl ?_
      show B_R _ _ (284, [(4, .int (Zi x)), (3, .int (Zi c)), (0, .ref 83), (1, .int (Zi e)), (2, .int (Zi k))], [.ref 106]) _ _ _
      refine Z_go (f2 := (287, [(4, .int (Zi x)), (3, .int (Zi c)), (0, .ref 83), (1, .int (Zi e)), (2, .int (Zi k))], [.int (Zi 640), .ref 106])) (fun _ => rfl) ?_
      refine Z_go (f2 := (289, [(4, .int (Zi x)), (3, .int (Zi c)), (0, .ref 83), (1, .int (Zi e)), (2, .int (Zi k))], [.int (Zi 24), .int (Zi 640), .ref 106])) (fun _ => rfl) ?_
      refine Z_go (f2 := (290, [(4, .int (Zi x)), (3, .int (Zi c)), (0, .ref 83), (1, .int (Zi e)), (2, .int (Zi k))], [.int (Zi k), .int (Zi 24), .int (Zi 640), .ref 106])) (fun _ => rfl) ?_
      refine Z_imul rfl ?_
      refine Z_go (f2 := (292, [(4, .int (Zi x)), (3, .int (Zi c)), (0, .ref 83), (1, .int (Zi e)), (2, .int (Zi k))], [.int (Zi c), .int (Zi (24 * k)), .int (Zi 640), .ref 106])) (fun _ => rfl) ?_
      refine Z_iadd rfl ?_
      refine Z_imul rfl ?_
      refine Z_go (f2 := (296, [(4, .int (Zi x)), (3, .int (Zi c)), (0, .ref 83), (1, .int (Zi e)), (2, .int (Zi k))], [.int (Zi x), .int (Zi (640 * (24 * k + c))), .ref 106])) (fun _ => rfl) ?_
      refine Z_iadd rfl ?_
      refine Z_go (f2 := (298, [(4, .int (Zi x)), (3, .int (Zi c)), (0, .ref 83), (1, .int (Zi e)), (2, .int (Zi k))], [.ref 83, .int (Zi (640 * (24 * k + c) + x)), .ref 106])) (fun _ => rfl) ?_
      refine R_gr (q := 104) rfl hs rfl ?_
      show B_R _ _ (301, [(4, .int (Zi x)), (3, .int (Zi c)), (0, .ref 83), (1, .int (Zi e)), (2, .int (Zi k))], [.ref 106, .int (Zi (640 * (24 * k + c) + x)), .ref 106]) _ _ _
      refine Z_go (f2 := (304, [(4, .int (Zi x)), (3, .int (Zi c)), (0, .ref 83), (1, .int (Zi e)), (2, .int (Zi k))], [.int (Zi 640), .ref 106, .int (Zi (640 * (24 * k + c) + x)), .ref 106])) (fun _ => rfl) ?_
      refine Z_go (f2 := (306, [(4, .int (Zi x)), (3, .int (Zi c)), (0, .ref 83), (1, .int (Zi e)), (2, .int (Zi k))], [.int (Zi 24), .int (Zi 640), .ref 106, .int (Zi (640 * (24 * k + c) + x)), .ref 106])) (fun _ => rfl) ?_
      refine Z_go (f2 := (307, [(4, .int (Zi x)), (3, .int (Zi c)), (0, .ref 83), (1, .int (Zi e)), (2, .int (Zi k))], [.int (Zi e), .int (Zi 24), .int (Zi 640), .ref 106, .int (Zi (640 * (24 * k + c) + x)), .ref 106])) (fun _ => rfl) ?_
      refine Z_imul rfl ?_
      refine Z_go (f2 := (309, [(4, .int (Zi x)), (3, .int (Zi c)), (0, .ref 83), (1, .int (Zi e)), (2, .int (Zi k))], [.int (Zi c), .int (Zi (24 * e)), .int (Zi 640), .ref 106, .int (Zi (640 * (24 * k + c) + x)), .ref 106])) (fun _ => rfl) ?_
      refine Z_iadd rfl ?_
      refine Z_imul rfl ?_
      refine Z_go (f2 := (313, [(4, .int (Zi x)), (3, .int (Zi c)), (0, .ref 83), (1, .int (Zi e)), (2, .int (Zi k))], [.int (Zi x), .int (Zi (640 * (24 * e + c))), .ref 106, .int (Zi (640 * (24 * k + c) + x)), .ref 106])) (fun _ => rfl) ?_
      refine Z_iadd rfl ?_
      refine R_ia (q := 22) rfl hs rfl rfl (by omega) (by omega) (by decide) ?_
      refine R_is_ (q := 22) rfl hs rfl rfl (by omega) (by omega) (by decide) (by first | exact hs.zF _ | exact Zor_r _ _ | exact hs.zA _ _ | assumption | exact zA _ _ | exact zS _ | exact Zr_not (hs.zA _ _) | exact ⟨by omega, by omega⟩) (fun h hs => ?_)
      refine Z_iinc (L2 := [(4, .int (Zi (x + 1))), (3, .int (Zi c)), (0, .ref 83), (1, .int (Zi e)), (2, .int (Zi k))]) rfl rfl (by decide) rfl ?_
      refine Z_go (f2 := (264, [(4, .int (Zi (x + 1))), (3, .int (Zi c)), (0, .ref 83), (1, .int (Zi e)), (2, .int (Zi k))], [])) (fun _ => rfl) ?_
      refine B_loc (K := [(4, .int (Zi (x + 1))), (3, .int (Zi c)), (0, .ref 83), (1, .int (Zi e)), (2, .int (Zi k))]) (N_all_sub ⟨rfl, rfl, rfl, rfl, rfl, trivial⟩) (show ([4, 3, 0, 1, 2] : List Nat).Nodup by decide) ?_
      rw [R_fl_st (by omega) rfl (by rw [R_fl_o (by omega)]; exact congrArg (s.2.1 106) (by omega))] at hs
      exact ih _ _ (by omega) (by rw [← Int.add_assoc]; exact hs) (by omega) (by omega)
set_option maxRecDepth 4000 in
theorem R_cp_c {d : Nat} {h0 : E_H} {s : R_S} {sl : Nat} {Φ : E_R → Prop} {e k : Int} (e0 : 0 ≤ e) (e1 : e < 44) (k0 : 0 ≤ k) (k1 : k < 44) (ne : e ≠ k) (cv : R_cv s e) (kont : ∀ (u : R_S) (h : E_H), R_is h0 h u → R_cpc s u e k (s.2.1 104 e) → B_R (d + 1) E_m239 (328, [(0, .ref 83), (1, .int (Zi e)), (2, .int (Zi k))], []) h sl Φ) : ∀ (f : Nat) (c : Int) (u : R_S) (h : E_H), s.2.1 104 e - c < f → R_is h0 h u → R_cpc s u e k c → 0 ≤ c → c ≤ s.2.1 104 e → B_R (d + 1) E_m239 (229, [(3, .int (Zi c)), (0, .ref 83), (1, .int (Zi e)), (2, .int (Zi k))], []) h sl Φ := by
  intro f
  induction f with
  | zero => intro c u h ht hs hc c0 c9; omega
  | succ f ih =>
    intro c u h ht hs hc c0 c9
    have e104 : u.2.1 104 e = s.2.1 104 e := hc.1.1.at ne (by decide) (by decide) (Int.ediv_one e)
    have cv2 := cv.2.1
    have zA : ∀ q j, Zr (u.2.1 q j) := fun q j => hs.zA q j
    refine Z_go (f2 := (230, [(3, .int (Zi c)), (0, .ref 83), (1, .int (Zi e)), (2, .int (Zi k))], [.int (Zi c)])) (fun _ => rfl) ?_
    refine Z_go (f2 := (231, [(3, .int (Zi c)), (0, .ref 83), (1, .int (Zi e)), (2, .int (Zi k))], [.ref 83, .int (Zi c)])) (fun _ => rfl) ?_
    refine R_gr (q := 102) rfl hs rfl ?_
    show B_R _ _ (234, [(3, .int (Zi c)), (0, .ref 83), (1, .int (Zi e)), (2, .int (Zi k))], [.ref 104, .int (Zi c)]) _ _ _
    refine Z_go (f2 := (235, [(3, .int (Zi c)), (0, .ref 83), (1, .int (Zi e)), (2, .int (Zi k))], [.int (Zi e), .ref 104, .int (Zi c)])) (fun _ => rfl) ?_
    refine R_ia (q := 20) rfl hs rfl rfl (by omega) (by omega) (by decide) ?_
    refine Z_cge rfl rfl (by first | exact hs.zF _ | exact Zor_r _ _ | exact hs.zA _ _ | assumption | exact zA _ _ | exact zS _ | exact Zr_not (hs.zA _ _) | exact ⟨by omega, by omega⟩) (by first | exact hs.zF _ | exact Zor_r _ _ | exact hs.zA _ _ | assumption | exact zA _ _ | exact zS _ | exact Zr_not (hs.zA _ _) | exact ⟨by omega, by omega⟩) (fun c1 => ?_) (fun c1 => ?_)
    · refine B_loc (K := [(0, .ref 83), (1, .int (Zi e)), (2, .int (Zi k))]) (N_all_sub ⟨rfl, rfl, rfl, trivial⟩) (show ([0, 1, 2] : List Nat).Nodup by decide) ?_
      obtain rfl : c = s.2.1 104 e := by omega
      exact kont u h hs hc
    · refine Z_go (f2 := (240, [(3, .int (Zi c)), (0, .ref 83), (1, .int (Zi e)), (2, .int (Zi k))], [.ref 83])) (fun _ => rfl) ?_
      refine R_gr (q := 103) rfl hs rfl ?_
      show B_R _ _ (243, [(3, .int (Zi c)), (0, .ref 83), (1, .int (Zi e)), (2, .int (Zi k))], [.ref 105]) _ _ _
      refine Z_go (f2 := (245, [(3, .int (Zi c)), (0, .ref 83), (1, .int (Zi e)), (2, .int (Zi k))], [.int (Zi 24), .ref 105])) (fun _ => rfl) ?_
      refine Z_go (f2 := (246, [(3, .int (Zi c)), (0, .ref 83), (1, .int (Zi e)), (2, .int (Zi k))], [.int (Zi k), .int (Zi 24), .ref 105])) (fun _ => rfl) ?_
      refine Z_imul rfl ?_
      refine Z_go (f2 := (248, [(3, .int (Zi c)), (0, .ref 83), (1, .int (Zi e)), (2, .int (Zi k))], [.int (Zi c), .int (Zi (24 * k)), .ref 105])) (fun _ => rfl) ?_
      refine Z_iadd rfl ?_
      refine Z_go (f2 := (250, [(3, .int (Zi c)), (0, .ref 83), (1, .int (Zi e)), (2, .int (Zi k))], [.ref 83, .int (Zi (24 * k + c)), .ref 105])) (fun _ => rfl) ?_
      refine R_gr (q := 103) rfl hs rfl ?_
      show B_R _ _ (253, [(3, .int (Zi c)), (0, .ref 83), (1, .int (Zi e)), (2, .int (Zi k))], [.ref 105, .int (Zi (24 * k + c)), .ref 105]) _ _ _
      refine Z_go (f2 := (255, [(3, .int (Zi c)), (0, .ref 83), (1, .int (Zi e)), (2, .int (Zi k))], [.int (Zi 24), .ref 105, .int (Zi (24 * k + c)), .ref 105])) (fun _ => rfl) ?_
      refine Z_go (f2 := (256, [(3, .int (Zi c)), (0, .ref 83), (1, .int (Zi e)), (2, .int (Zi k))], [.int (Zi e), .int (Zi 24), .ref 105, .int (Zi (24 * k + c)), .ref 105])) (fun _ => rfl) ?_
      refine Z_imul rfl ?_
      refine Z_go (f2 := (258, [(3, .int (Zi c)), (0, .ref 83), (1, .int (Zi e)), (2, .int (Zi k))], [.int (Zi c), .int (Zi (24 * e)), .ref 105, .int (Zi (24 * k + c)), .ref 105])) (fun _ => rfl) ?_
      refine Z_iadd rfl ?_
      refine R_ia (q := 21) rfl hs rfl rfl (by omega) (by omega) (by decide) ?_
      refine R_is_ (q := 21) rfl hs rfl rfl (by omega) (by omega) (by decide) (by first | exact hs.zF _ | exact Zor_r _ _ | exact hs.zA _ _ | assumption | exact zA _ _ | exact zS _ | exact Zr_not (hs.zA _ _) | exact ⟨by omega, by omega⟩) (fun h hs => ?_)
      refine Z_go (f2 := (262, [(3, .int (Zi c)), (0, .ref 83), (1, .int (Zi e)), (2, .int (Zi k))], [.int (Zi 0)])) (fun _ => rfl) ?_
      refine Z_go (f2 := (264, [(4, .int (Zi 0)), (3, .int (Zi c)), (0, .ref 83), (1, .int (Zi e)), (2, .int (Zi k))], [])) (fun _ => rfl) ?_
      refine B_loc (K := [(4, .int (Zi 0)), (3, .int (Zi c)), (0, .ref 83), (1, .int (Zi e)), (2, .int (Zi k))]) (N_all_sub ⟨rfl, rfl, rfl, rfl, rfl, trivial⟩) (show ([4, 3, 0, 1, 2] : List Nat).Nodup by decide) ?_
      have hr := cv.2.2 c c0 (by omega)
      have e105 : u.2.1 105 (24 * e + c) = s.2.1 105 (24 * e + c) := hc.1.1.at ne (by decide) (by decide) (by show _ / (24 : Int) = e; omega)
      refine R_cp_x (s := R_sA u 105 (24 * k + c) (u.2.1 105 (24 * e + c))) (e := e) (k := k) (c := c) (n := u.2.1 105 (24 * e + c)) e0 e1 k0 k1 ne c0 (by omega) (by omega) (by rw [R_sA_m _ _ _ _ (by omega)]) (fun q j => hs.zA q j) (fun h hs => ?_) ((u.2.1 105 (24 * e + c)).toNat + 1) 0 h (by omega) (by rw [Int.add_zero, R_fl_0]; exact hs) (by omega) (by omega)
      refine Z_iinc (L2 := [(3, .int (Zi (c + 1))), (4, .int (Zi (u.2.1 105 (24 * e + c)))), (0, .ref 83), (1, .int (Zi e)), (2, .int (Zi k))]) rfl rfl (by decide) rfl ?_
      refine Z_go (f2 := (229, [(3, .int (Zi (c + 1))), (4, .int (Zi (u.2.1 105 (24 * e + c)))), (0, .ref 83), (1, .int (Zi e)), (2, .int (Zi k))], [])) (fun _ => rfl) ?_
      refine B_loc (K := [(3, .int (Zi (c + 1))), (0, .ref 83), (1, .int (Zi e)), (2, .int (Zi k))]) (N_all_sub ⟨rfl, rfl, rfl, rfl, trivial⟩) (show ([3, 0, 1, 2] : List Nat).Nodup by decide) ?_
      exact ih (c + 1) _ h (by omega) hs (R_cpc_st hc ne c0 (by omega) hr.1 hr.2.1 (fun t t0 t1 => (cv.2.2 t t0 (by omega)).2.1)) (by omega) (by omega)
set_option maxRecDepth 4000 in
theorem R_copies (d : Nat) (s : R_S) {e k : Int} (ze : Zr e) (zk : Zr k) (e0 : 0 ≤ e) (e1 : e < 44) (k0 : 0 ≤ k) (k1 : k < 44) (ne : e ≠ k) {v : P_V} (hv : R_V s e v) : R_ok (d + 2) 239 [.int (Zi e), .int (Zi k)] s (fun x s2 => x = none ∧ R_V s2 k v ∧ R_vk s s2 (fun x => x = k)) := by
  refine R_enter (M := E_m239) rfl (Nat.le_of_ble_eq_true rfl) (fun h0 h hs => ?_)
  show B_R (d + 1) _ (0, [(0, .ref 83), (1, .int (Zi e)), (2, .int (Zi k))], []) _ _ _
  have zA : ∀ q j, Zr (s.2.1 q j) := fun q j => hs.zA q j
  have b96 : s.2.1 96 e = 0 ∨ s.2.1 96 e = 1 := by
    match v, hv with
    | .inl A, hv => exact .inr hv.1
    | .inr q, hv => exact .inl hv.1
  refine Z_go (f2 := (1, [(0, .ref 83), (1, .int (Zi e)), (2, .int (Zi k))], [.ref 83])) (fun _ => rfl) ?_
  refine R_gr (q := 94) rfl hs rfl ?_
  show B_R _ _ (4, [(0, .ref 83), (1, .int (Zi e)), (2, .int (Zi k))], [.ref 96]) _ _ _
  refine Z_go (f2 := (5, [(0, .ref 83), (1, .int (Zi e)), (2, .int (Zi k))], [.int (Zi k), .ref 96])) (fun _ => rfl) ?_
  refine Z_go (f2 := (6, [(0, .ref 83), (1, .int (Zi e)), (2, .int (Zi k))], [.ref 83, .int (Zi k), .ref 96])) (fun _ => rfl) ?_
  refine R_gr (q := 94) rfl hs rfl ?_
  show B_R _ _ (9, [(0, .ref 83), (1, .int (Zi e)), (2, .int (Zi k))], [.ref 96, .int (Zi k), .ref 96]) _ _ _
  refine Z_go (f2 := (10, [(0, .ref 83), (1, .int (Zi e)), (2, .int (Zi k))], [.int (Zi e), .ref 96, .int (Zi k), .ref 96])) (fun _ => rfl) ?_
  refine R_ba (q := 12) rfl hs rfl rfl (by omega) (by omega) (by decide) ?_
  refine R_bs (q := 12) rfl hs rfl rfl (by omega) (by omega) (by decide) (by first | exact .inl rfl | exact .inr rfl | assumption) (fun h hs => ?_)
  refine Z_go (f2 := (13, [(0, .ref 83), (1, .int (Zi e)), (2, .int (Zi k))], [.ref 83])) (fun _ => rfl) ?_
  refine R_gr (q := 95) rfl hs rfl ?_
  show B_R _ _ (16, [(0, .ref 83), (1, .int (Zi e)), (2, .int (Zi k))], [.ref 97]) _ _ _
  refine Z_go (f2 := (17, [(0, .ref 83), (1, .int (Zi e)), (2, .int (Zi k))], [.int (Zi k), .ref 97])) (fun _ => rfl) ?_
  refine Z_go (f2 := (18, [(0, .ref 83), (1, .int (Zi e)), (2, .int (Zi k))], [.ref 83, .int (Zi k), .ref 97])) (fun _ => rfl) ?_
  refine R_gr (q := 95) rfl hs rfl ?_
  show B_R _ _ (21, [(0, .ref 83), (1, .int (Zi e)), (2, .int (Zi k))], [.ref 97, .int (Zi k), .ref 97]) _ _ _
  refine Z_go (f2 := (22, [(0, .ref 83), (1, .int (Zi e)), (2, .int (Zi k))], [.int (Zi e), .ref 97, .int (Zi k), .ref 97])) (fun _ => rfl) ?_
  refine R_ia (q := 13) rfl hs rfl rfl (by omega) (by omega) (by decide) ?_
  rw [show (R_sA s 96 k (s.2.1 96 e)).2.1 97 e = s.2.1 97 e by first | rfl | simp [R_sA, R_sF, R_up2, R_fl, R_fL, R_sM, R_sL, R_p3, R_em]]; show B_R _ _ (23, [(0, .ref 83), (1, .int (Zi e)), (2, .int (Zi k))], [.int (Zi (s.2.1 97 e)), .int (Zi k), .ref 97]) _ _ _
  refine R_is_ (q := 13) rfl hs rfl rfl (by omega) (by omega) (by decide) (by first | exact hs.zF _ | exact Zor_r _ _ | exact hs.zA _ _ | assumption | exact zA _ _ | exact zS _ | exact Zr_not (hs.zA _ _) | exact ⟨by omega, by omega⟩) (fun h hs => ?_)
  refine Z_go (f2 := (25, [(0, .ref 83), (1, .int (Zi e)), (2, .int (Zi k))], [.int (Zi 0)])) (fun _ => rfl) ?_
  refine Z_go (f2 := (26, [(3, .int (Zi 0)), (0, .ref 83), (1, .int (Zi e)), (2, .int (Zi k))], [])) (fun _ => rfl) ?_
  refine B_loc (K := [(3, .int (Zi 0)), (0, .ref 83), (1, .int (Zi e)), (2, .int (Zi k))]) (N_all_sub ⟨rfl, rfl, rfl, rfl, trivial⟩) (show ([3, 0, 1, 2] : List Nat).Nodup by decide) ?_
  match v, hv with
  | .inl A, hv =>
    refine R_cp_t (s := s) e0 e1 k0 k1 ne hv.1 hv.2.1 (fun u h hs hc => ?_) ((s.2.1 97 e).toNat + 1) 0 _ h (by omega) hs (R_cpd_0 ne) (by omega) hv.2.1.1
    have e96 : u.2.1 96 e = s.2.1 96 e := hc.1.at ne (by decide) (by decide) (Int.ediv_one e)
    have f96 := hv.1
    refine Z_go (f2 := (124, [(0, .ref 83), (1, .int (Zi e)), (2, .int (Zi k))], [.ref 83])) (fun _ => rfl) ?_
    refine R_gr (q := 94) rfl hs rfl ?_
    show B_R _ _ (127, [(0, .ref 83), (1, .int (Zi e)), (2, .int (Zi k))], [.ref 96]) _ _ _
    refine Z_go (f2 := (128, [(0, .ref 83), (1, .int (Zi e)), (2, .int (Zi k))], [.int (Zi e), .ref 96])) (fun _ => rfl) ?_
    refine R_ba (q := 12) rfl hs rfl rfl (by omega) (by omega) (by decide) ?_
    refine Z_ieq rfl rfl (by first | exact hs.zF _ | exact Zor_r _ _ | exact hs.zA _ _ | assumption | exact zA _ _ | exact zS _ | exact Zr_not (hs.zA _ _) | exact ⟨by omega, by omega⟩) (fun c1 => ?_) (fun c1 => ?_)
    · refine Z_go (f2 := (134, [(0, .ref 83), (1, .int (Zi e)), (2, .int (Zi k))], [.ref 83])) (fun _ => rfl) ?_
      refine R_gr (q := 98) rfl hs rfl ?_
      show B_R _ _ (137, [(0, .ref 83), (1, .int (Zi e)), (2, .int (Zi k))], [.ref 100]) _ _ _
      refine Z_go (f2 := (138, [(0, .ref 83), (1, .int (Zi e)), (2, .int (Zi k))], [.int (Zi k), .ref 100])) (fun _ => rfl) ?_
      refine Z_go (f2 := (139, [(0, .ref 83), (1, .int (Zi e)), (2, .int (Zi k))], [.ref 83, .int (Zi k), .ref 100])) (fun _ => rfl) ?_
      refine R_gr (q := 98) rfl hs rfl ?_
      show B_R _ _ (142, [(0, .ref 83), (1, .int (Zi e)), (2, .int (Zi k))], [.ref 100, .int (Zi k), .ref 100]) _ _ _
      refine Z_go (f2 := (143, [(0, .ref 83), (1, .int (Zi e)), (2, .int (Zi k))], [.int (Zi e), .ref 100, .int (Zi k), .ref 100])) (fun _ => rfl) ?_
      refine R_ia (q := 16) rfl hs rfl rfl (by omega) (by omega) (by decide) ?_
      refine R_is_ (q := 16) rfl hs rfl rfl (by omega) (by omega) (by decide) (by first | exact hs.zF _ | exact Zor_r _ _ | exact hs.zA _ _ | assumption | exact zA _ _ | exact zS _ | exact Zr_not (hs.zA _ _) | exact ⟨by omega, by omega⟩) (fun h hs => ?_)
      refine Z_go (f2 := (146, [(0, .ref 83), (1, .int (Zi e)), (2, .int (Zi k))], [.ref 83])) (fun _ => rfl) ?_
      refine R_gr (q := 100) rfl hs rfl ?_
      show B_R _ _ (149, [(0, .ref 83), (1, .int (Zi e)), (2, .int (Zi k))], [.ref 102]) _ _ _
      refine Z_go (f2 := (150, [(0, .ref 83), (1, .int (Zi e)), (2, .int (Zi k))], [.int (Zi k), .ref 102])) (fun _ => rfl) ?_
      refine Z_go (f2 := (151, [(0, .ref 83), (1, .int (Zi e)), (2, .int (Zi k))], [.ref 83, .int (Zi k), .ref 102])) (fun _ => rfl) ?_
      refine R_gr (q := 100) rfl hs rfl ?_
      show B_R _ _ (154, [(0, .ref 83), (1, .int (Zi e)), (2, .int (Zi k))], [.ref 102, .int (Zi k), .ref 102]) _ _ _
      refine Z_go (f2 := (155, [(0, .ref 83), (1, .int (Zi e)), (2, .int (Zi k))], [.int (Zi e), .ref 102, .int (Zi k), .ref 102])) (fun _ => rfl) ?_
      refine R_ia (q := 18) rfl hs rfl rfl (by omega) (by omega) (by decide) ?_
      rw [show (R_sA u 100 k (u.2.1 100 e)).2.1 102 e = u.2.1 102 e by first | rfl | simp [R_sA, R_sF, R_up2, R_fl, R_fL, R_sM, R_sL, R_p3, R_em]]; show B_R _ _ (156, [(0, .ref 83), (1, .int (Zi e)), (2, .int (Zi k))], [.int (Zi (u.2.1 102 e)), .int (Zi k), .ref 102]) _ _ _
      refine R_is_ (q := 18) rfl hs rfl rfl (by omega) (by omega) (by decide) (by first | exact hs.zF _ | exact Zor_r _ _ | exact hs.zA _ _ | assumption | exact zA _ _ | exact zS _ | exact Zr_not (hs.zA _ _) | exact ⟨by omega, by omega⟩) (fun h hs => ?_)
      refine Z_go (f2 := (158, [(0, .ref 83), (1, .int (Zi e)), (2, .int (Zi k))], [.int (Zi 0)])) (fun _ => rfl) ?_
      refine Z_go (f2 := (159, [(3, .int (Zi 0)), (0, .ref 83), (1, .int (Zi e)), (2, .int (Zi k))], [])) (fun _ => rfl) ?_
      exfalso; omega
    · refine Z_ret rfl rfl ⟨_, hs, ?_, rfl⟩
      exact ⟨rfl, ⟨by rw [hc.2.1]; exact f96, hc.EX hv.2⟩, hc.1⟩
  | .inr q, hv =>
    have k0v := R_cpd_0 (s := s) ne
    have e96 : (R_sA (R_sA s 96 k (s.2.1 96 e)) 97 k (s.2.1 97 e)).2.1 96 e = s.2.1 96 e := k0v.1.at ne (by decide) (by decide) (Int.ediv_one e)
    have f96 := hv.1
    refine R_cp_n (u := R_sA (R_sA s 96 k (s.2.1 96 e)) 97 k (s.2.1 97 e)) e0 e1 k0 k1 ne (by rw [e96]; exact f96) (fun h hs => ?_) (((R_sA (R_sA s 96 k (s.2.1 96 e)) 97 k (s.2.1 97 e)).2.1 97 e).toNat + 1) 0 h (by omega) hs (by omega) (.inl rfl)
    have key : ∃ u, u = R_sA (R_sA s 96 k (s.2.1 96 e)) 97 k (s.2.1 97 e) := ⟨_, rfl⟩
    obtain ⟨u, hu⟩ := key
    rw [← hu] at hs k0v e96
    have zA : ∀ q j, Zr (u.2.1 q j) := fun q j => hs.zA q j
    refine Z_go (f2 := (124, [(0, .ref 83), (1, .int (Zi e)), (2, .int (Zi k))], [.ref 83])) (fun _ => rfl) ?_
    refine R_gr (q := 94) rfl hs rfl ?_
    show B_R _ _ (127, [(0, .ref 83), (1, .int (Zi e)), (2, .int (Zi k))], [.ref 96]) _ _ _
    refine Z_go (f2 := (128, [(0, .ref 83), (1, .int (Zi e)), (2, .int (Zi k))], [.int (Zi e), .ref 96])) (fun _ => rfl) ?_
    refine R_ba (q := 12) rfl hs rfl rfl (by omega) (by omega) (by decide) ?_
    refine Z_ieq rfl rfl (by first | exact hs.zF _ | exact Zor_r _ _ | exact hs.zA _ _ | assumption | exact zA _ _ | exact zS _ | exact Zr_not (hs.zA _ _) | exact ⟨by omega, by omega⟩) (fun c1 => ?_) (fun c1 => ?_)
    · refine Z_go (f2 := (134, [(0, .ref 83), (1, .int (Zi e)), (2, .int (Zi k))], [.ref 83])) (fun _ => rfl) ?_
      refine R_gr (q := 98) rfl hs rfl ?_
      show B_R _ _ (137, [(0, .ref 83), (1, .int (Zi e)), (2, .int (Zi k))], [.ref 100]) _ _ _
      refine Z_go (f2 := (138, [(0, .ref 83), (1, .int (Zi e)), (2, .int (Zi k))], [.int (Zi k), .ref 100])) (fun _ => rfl) ?_
      refine Z_go (f2 := (139, [(0, .ref 83), (1, .int (Zi e)), (2, .int (Zi k))], [.ref 83, .int (Zi k), .ref 100])) (fun _ => rfl) ?_
      refine R_gr (q := 98) rfl hs rfl ?_
      show B_R _ _ (142, [(0, .ref 83), (1, .int (Zi e)), (2, .int (Zi k))], [.ref 100, .int (Zi k), .ref 100]) _ _ _
      refine Z_go (f2 := (143, [(0, .ref 83), (1, .int (Zi e)), (2, .int (Zi k))], [.int (Zi e), .ref 100, .int (Zi k), .ref 100])) (fun _ => rfl) ?_
      refine R_ia (q := 16) rfl hs rfl rfl (by omega) (by omega) (by decide) ?_
      refine R_is_ (q := 16) rfl hs rfl rfl (by omega) (by omega) (by decide) (by first | exact hs.zF _ | exact Zor_r _ _ | exact hs.zA _ _ | assumption | exact zA _ _ | exact zS _ | exact Zr_not (hs.zA _ _) | exact ⟨by omega, by omega⟩) (fun h hs => ?_)
      refine Z_go (f2 := (146, [(0, .ref 83), (1, .int (Zi e)), (2, .int (Zi k))], [.ref 83])) (fun _ => rfl) ?_
      refine R_gr (q := 100) rfl hs rfl ?_
      show B_R _ _ (149, [(0, .ref 83), (1, .int (Zi e)), (2, .int (Zi k))], [.ref 102]) _ _ _
      refine Z_go (f2 := (150, [(0, .ref 83), (1, .int (Zi e)), (2, .int (Zi k))], [.int (Zi k), .ref 102])) (fun _ => rfl) ?_
      refine Z_go (f2 := (151, [(0, .ref 83), (1, .int (Zi e)), (2, .int (Zi k))], [.ref 83, .int (Zi k), .ref 102])) (fun _ => rfl) ?_
      refine R_gr (q := 100) rfl hs rfl ?_
      show B_R _ _ (154, [(0, .ref 83), (1, .int (Zi e)), (2, .int (Zi k))], [.ref 102, .int (Zi k), .ref 102]) _ _ _
      refine Z_go (f2 := (155, [(0, .ref 83), (1, .int (Zi e)), (2, .int (Zi k))], [.int (Zi e), .ref 102, .int (Zi k), .ref 102])) (fun _ => rfl) ?_
      refine R_ia (q := 18) rfl hs rfl rfl (by omega) (by omega) (by decide) ?_
      rw [show (R_sA u 100 k (u.2.1 100 e)).2.1 102 e = u.2.1 102 e by first | rfl | simp [R_sA, R_sF, R_up2, R_fl, R_fL, R_sM, R_sL, R_p3, R_em]]; show B_R _ _ (156, [(0, .ref 83), (1, .int (Zi e)), (2, .int (Zi k))], [.int (Zi (u.2.1 102 e)), .int (Zi k), .ref 102]) _ _ _
      refine R_is_ (q := 18) rfl hs rfl rfl (by omega) (by omega) (by decide) (by first | exact hs.zF _ | exact Zor_r _ _ | exact hs.zA _ _ | assumption | exact zA _ _ | exact zS _ | exact Zr_not (hs.zA _ _) | exact ⟨by omega, by omega⟩) (fun h hs => ?_)
      refine Z_go (f2 := (158, [(0, .ref 83), (1, .int (Zi e)), (2, .int (Zi k))], [.int (Zi 0)])) (fun _ => rfl) ?_
      refine Z_go (f2 := (159, [(3, .int (Zi 0)), (0, .ref 83), (1, .int (Zi e)), (2, .int (Zi k))], [])) (fun _ => rfl) ?_
      refine B_loc (K := [(3, .int (Zi 0)), (0, .ref 83), (1, .int (Zi e)), (2, .int (Zi k))]) (N_all_sub ⟨rfl, rfl, rfl, rfl, trivial⟩) (show ([3, 0, 1, 2] : List Nat).Nodup by decide) ?_
      refine R_cp_e (s := s) e0 e1 k0 k1 ne (fun u h hs hc => ?_) 13 0 _ h (by omega) hs (R_cpe_0 k0v.1 k0v.2.1 ne) (by omega) (by omega)
      have zA : ∀ q j, Zr (u.2.1 q j) := fun q j => hs.zA q j
      refine Z_go (f2 := (216, [(0, .ref 83), (1, .int (Zi e)), (2, .int (Zi k))], [.ref 83])) (fun _ => rfl) ?_
      refine R_gr (q := 102) rfl hs rfl ?_
      show B_R _ _ (219, [(0, .ref 83), (1, .int (Zi e)), (2, .int (Zi k))], [.ref 104]) _ _ _
      refine Z_go (f2 := (220, [(0, .ref 83), (1, .int (Zi e)), (2, .int (Zi k))], [.int (Zi k), .ref 104])) (fun _ => rfl) ?_
      refine Z_go (f2 := (221, [(0, .ref 83), (1, .int (Zi e)), (2, .int (Zi k))], [.ref 83, .int (Zi k), .ref 104])) (fun _ => rfl) ?_
      refine R_gr (q := 102) rfl hs rfl ?_
      show B_R _ _ (224, [(0, .ref 83), (1, .int (Zi e)), (2, .int (Zi k))], [.ref 104, .int (Zi k), .ref 104]) _ _ _
      refine Z_go (f2 := (225, [(0, .ref 83), (1, .int (Zi e)), (2, .int (Zi k))], [.int (Zi e), .ref 104, .int (Zi k), .ref 104])) (fun _ => rfl) ?_
      refine R_ia (q := 20) rfl hs rfl rfl (by omega) (by omega) (by decide) ?_
      refine R_is_ (q := 20) rfl hs rfl rfl (by omega) (by omega) (by decide) (by first | exact hs.zF _ | exact Zor_r _ _ | exact hs.zA _ _ | assumption | exact zA _ _ | exact zS _ | exact Zr_not (hs.zA _ _) | exact ⟨by omega, by omega⟩) (fun h hs => ?_)
      refine Z_go (f2 := (228, [(0, .ref 83), (1, .int (Zi e)), (2, .int (Zi k))], [.int (Zi 0)])) (fun _ => rfl) ?_
      refine Z_go (f2 := (229, [(3, .int (Zi 0)), (0, .ref 83), (1, .int (Zi e)), (2, .int (Zi k))], [])) (fun _ => rfl) ?_
      refine B_loc (K := [(3, .int (Zi 0)), (0, .ref 83), (1, .int (Zi e)), (2, .int (Zi k))]) (N_all_sub ⟨rfl, rfl, rfl, rfl, trivial⟩) (show ([3, 0, 1, 2] : List Nat).Nodup by decide) ?_
      refine R_cp_c (s := s) e0 e1 k0 k1 ne hv.2.2.2.cv (fun u h hs hc => ?_) ((s.2.1 104 e).toNat + 1) 0 _ h (by omega) hs (R_cpc_0 hc ne) (by omega) hv.2.2.2.1
      refine Z_ret rfl rfl ⟨_, hs, ?_, rfl⟩
      exact ⟨rfl, hc.V hv, hc.1.1⟩
    · refine Z_ret rfl rfl ⟨_, hs, ?_, rfl⟩
      exfalso; omega
