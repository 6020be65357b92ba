/-! the reference: copies of texts -/
theorem R_cp_i {d : Nat} {h0 : E_H} {s : R_S} {sl : Nat} {Φ : E_R → Prop} {e k r n : Int} (e0 : 0 ≤ e) (e1 : e < 44) (k0 : 0 ≤ k) (k1 : k < 44) (ne : e ≠ k) (r0 : 0 ≤ r) (r1 : r < 8) (n1 : n ≤ 60) (hn : n = s.2.1 98 (8 * e + r)) (zA : ∀ q j, Zr (s.2.1 q j)) (kont : ∀ (h : E_H), R_is h0 h (R_fl s 99 (60 * (8 * k + r)) (60 * (8 * k + r) + n) (fun x => s.2.1 99 (60 * (8 * e + r) + (x - 60 * (8 * k + r))))) → B_R (d + 1) E_m239 (117, [(4, .int (Zi n)), (3, .int (Zi r)), (0, .ref 83), (1, .int (Zi e)), (2, .int (Zi k))], []) h sl Φ) : ∀ (t : Nat) (i : Int) (h : E_H), n - i < t → R_is h0 h (R_fl s 99 (60 * (8 * k + r)) (60 * (8 * k + r) + i) (fun x => s.2.1 99 (60 * (8 * e + r) + (x - 60 * (8 * k + r))))) → 0 ≤ i → i ≤ n → B_R (d + 1) E_m239 (70, [(4, .int (Zi i)), (3, .int (Zi r)), (0, .ref 83), (1, .int (Zi e)), (2, .int (Zi k))], []) h sl Φ := by
  intro t
  induction t with
  | zero => intro i h ht hs i0 i1; omega
  | succ t ih =>
    intro i h ht hs i0 i1
    refine Z_go (f2 := (72, [(4, .int (Zi i)), (3, .int (Zi r)), (0, .ref 83), (1, .int (Zi e)), (2, .int (Zi k))], [.int (Zi i)])) (fun _ => rfl) ?_
    refine Z_go (f2 := (73, [(4, .int (Zi i)), (3, .int (Zi r)), (0, .ref 83), (1, .int (Zi e)), (2, .int (Zi k))], [.ref 83, .int (Zi i)])) (fun _ => rfl) ?_
    refine R_gr (q := 96) rfl hs rfl ?_
    show B_R _ _ (76, [(4, .int (Zi i)), (3, .int (Zi r)), (0, .ref 83), (1, .int (Zi e)), (2, .int (Zi k))], [.ref 98, .int (Zi i)]) _ _ _
    refine Z_go (f2 := (78, [(4, .int (Zi i)), (3, .int (Zi r)), (0, .ref 83), (1, .int (Zi e)), (2, .int (Zi k))], [.int (Zi 8), .ref 98, .int (Zi i)])) (fun _ => rfl) ?_
    refine Z_go (f2 := (79, [(4, .int (Zi i)), (3, .int (Zi r)), (0, .ref 83), (1, .int (Zi e)), (2, .int (Zi k))], [.int (Zi e), .int (Zi 8), .ref 98, .int (Zi i)])) (fun _ => rfl) ?_
    refine Z_imul rfl ?_
    refine Z_go (f2 := (81, [(4, .int (Zi i)), (3, .int (Zi r)), (0, .ref 83), (1, .int (Zi e)), (2, .int (Zi k))], [.int (Zi r), .int (Zi (8 * e)), .ref 98, .int (Zi i)])) (fun _ => rfl) ?_
    refine Z_iadd rfl ?_
    refine R_ia (q := 14) rfl hs rfl rfl (by omega) (by omega) (by decide) ?_
    rw [show (R_fl s 99 (60 * (8 * k + r)) (60 * (8 * k + r) + i) (fun x => s.2.1 99 (60 * (8 * e + r) + (x - 60 * (8 * k + r))))).2.1 98 (8 * e + r) = s.2.1 98 (8 * e + r) by first | rfl | simp [R_sA, R_sF, R_up2, R_fl, R_fL, R_sM, R_sL, R_p3, R_em]]; show B_R _ _ (83, [(4, .int (Zi i)), (3, .int (Zi r)), (0, .ref 83), (1, .int (Zi e)), (2, .int (Zi k))], [.int (Zi (s.2.1 98 (8 * e + r))), .int (Zi i)]) _ _ _
    refine Z_cge rfl rfl (by first | exact hs.zF _ | exact Zor_r _ _ | exact hs.zA _ _ | assumption | exact zA _ _ | exact zS _ | exact Zr_not (hs.zA _ _) | exact ⟨by omega, by omega⟩) (by first | exact hs.zF _ | exact Zor_r _ _ | exact hs.zA _ _ | assumption | exact zA _ _ | exact zS _ | exact Zr_not (hs.zA _ _) | exact ⟨by omega, by omega⟩) (fun c1 => ?_) (fun c1 => ?_)
    · obtain rfl : i = n := by omega
      exact kont h hs 
    · refine Z_go (f2 := (87, [(4, .int (Zi i)), (3, .int (Zi r)), (0, .ref 83), (1, .int (Zi e)), (2, .int (Zi k))], [.ref 83])) (fun _ => rfl) ?_
      refine R_gr (q := 97) rfl hs rfl ?_
      show B_R _ _ (90, [(4, .int (Zi i)), (3, .int (Zi r)), (0, .ref 83), (1, .int (Zi e)), (2, .int (Zi k))], [.ref 99]) _ _ _
      refine Z_go (f2 := (92, [(4, .int (Zi i)), (3, .int (Zi r)), (0, .ref 83), (1, .int (Zi e)), (2, .int (Zi k))], [.int (Zi 60), .ref 99])) (fun _ => rfl) ?_
      refine Z_go (f2 := (94, [(4, .int (Zi i)), (3, .int (Zi r)), (0, .ref 83), (1, .int (Zi e)), (2, .int (Zi k))], [.int (Zi 8), .int (Zi 60), .ref 99])) (fun _ => rfl) ?_
      refine Z_go (f2 := (95, [(4, .int (Zi i)), (3, .int (Zi r)), (0, .ref 83), (1, .int (Zi e)), (2, .int (Zi k))], [.int (Zi k), .int (Zi 8), .int (Zi 60), .ref 99])) (fun _ => rfl) ?_
      refine Z_imul rfl ?_
      refine Z_go (f2 := (97, [(4, .int (Zi i)), (3, .int (Zi r)), (0, .ref 83), (1, .int (Zi e)), (2, .int (Zi k))], [.int (Zi r), .int (Zi (8 * k)), .int (Zi 60), .ref 99])) (fun _ => rfl) ?_
      refine Z_iadd rfl ?_
      refine Z_imul rfl ?_
      refine Z_go (f2 := (101, [(4, .int (Zi i)), (3, .int (Zi r)), (0, .ref 83), (1, .int (Zi e)), (2, .int (Zi k))], [.int (Zi i), .int (Zi (60 * (8 * k + r))), .ref 99])) (fun _ => rfl) ?_
      refine Z_iadd rfl ?_
      refine Z_go (f2 := (103, [(4, .int (Zi i)), (3, .int (Zi r)), (0, .ref 83), (1, .int (Zi e)), (2, .int (Zi k))], [.ref 83, .int (Zi (60 * (8 * k + r) + i)), .ref 99])) (fun _ => rfl) ?_
      refine Z_go (f2 := (104, [(4, .int (Zi i)), (3, .int (Zi r)), (0, .ref 83), (1, .int (Zi e)), (2, .int (Zi k))], [.int (Zi e), .ref 83, .int (Zi (60 * (8 * k + r) + i)), .ref 99])) (fun _ => rfl) ?_
      refine Z_go (f2 := (105, [(4, .int (Zi i)), (3, .int (Zi r)), (0, .ref 83), (1, .int (Zi e)), (2, .int (Zi k))], [.int (Zi r), .int (Zi e), .ref 83, .int (Zi (60 * (8 * k + r) + i)), .ref 99])) (fun _ => rfl) ?_
      refine Z_go (f2 := (107, [(4, .int (Zi i)), (3, .int (Zi r)), (0, .ref 83), (1, .int (Zi e)), (2, .int (Zi k))], [.int (Zi i), .int (Zi r), .int (Zi e), .ref 83, .int (Zi (60 * (8 * k + r) + i)), .ref 99])) (fun _ => rfl) ?_
      refine R_call (As := [.int (Zi e), .int (Zi r), .int (Zi i)]) (rest := [.int (Zi (60 * (8 * k + r) + i)), .ref 99]) rfl (by decide) rfl rfl rfl rfl (by decide +kernel) (Nat.le_of_ble_eq_true rfl) hs (R_textByte _ (R_fl s 99 (60 * (8 * k + r)) (60 * (8 * k + r) + i) (fun x => s.2.1 99 (60 * (8 * e + r) + (x - 60 * (8 * k + r))))) (by first | assumption | exact hs.zA _ _ | exact zA _ _ | exact ⟨by omega, by omega⟩) (by first | assumption | exact hs.zA _ _ | exact zA _ _ | exact ⟨by omega, by omega⟩) (by first | assumption | exact hs.zA _ _ | exact zA _ _ | exact ⟨by omega, by omega⟩) (by omega) (by omega)) (fun x h s2 hs q => ?_)
      obtain ⟨q0, v, rfl, q2⟩ := q
      rw [q0] at hs
      rw [q2, R_fl_o (by omega)]
      show B_R _ _ (110, [(4, .int (Zi i)), (3, .int (Zi r)), (0, .ref 83), (1, .int (Zi e)), (2, .int (Zi k))], [.int (Zi (s.2.1 99 (60 * (8 * e + r) + i))), .int (Zi (60 * (8 * k + r) + i)), .ref 99]) _ _ _
      refine R_is_ (q := 15) rfl hs rfl rfl (by omega) (by omega) (by decide) (by first | exact hs.zF _ | exact Zor_r _ _ | exact hs.zA _ _ | assumption | exact zA _ _ | exact zS _ | exact Zr_not (hs.zA _ _) | exact ⟨by omega, by omega⟩) (fun h hs => ?_)
      refine Z_iinc (L2 := [(4, .int (Zi (i + 1))), (3, .int (Zi r)), (0, .ref 83), (1, .int (Zi e)), (2, .int (Zi k))]) rfl rfl (by decide) rfl ?_
      refine Z_go (f2 := (70, [(4, .int (Zi (i + 1))), (3, .int (Zi r)), (0, .ref 83), (1, .int (Zi e)), (2, .int (Zi k))], [])) (fun _ => rfl) ?_
      refine B_loc (K := [(4, .int (Zi (i + 1))), (3, .int (Zi r)), (0, .ref 83), (1, .int (Zi e)), (2, .int (Zi k))]) (N_all_sub ⟨rfl, rfl, rfl, rfl, rfl, trivial⟩) (show ([4, 3, 0, 1, 2] : List Nat).Nodup by decide) ?_
      rw [R_fl_st (by omega) rfl (by show _ = s.2.1 99 _; exact congrArg (s.2.1 99) (by omega))] at hs
      exact ih _ _ (by omega) (by rw [← Int.add_assoc]; exact hs) (by omega) (by omega)
/-- the texts before t are copied -/
def R_cpd (s u : R_S) (e k t : Int) : Prop := R_vk s u (fun x => x = k) ∧ u.2.1 96 k = s.2.1 96 e ∧ u.2.1 97 k = s.2.1 97 e ∧ (∀ c, 0 ≤ c → c < t → u.2.1 98 (8 * k + c) = s.2.1 98 (8 * e + c)) ∧ (∀ c, 0 ≤ c → c < t → ∀ i, 0 ≤ i → i < s.2.1 98 (8 * e + c) → u.2.1 99 (60 * (8 * k + c) + i) = s.2.1 99 (60 * (8 * e + c) + i))
theorem R_cpd_0 {s : R_S} {e k : Int} (ne : e ≠ k) : R_cpd s (R_sA (R_sA s 96 k (s.2.1 96 e)) 97 k (s.2.1 97 e)) e k 0 :=
  ⟨((R_vk_0 s _).st (q := 96) (by decide) (by decide) (Int.ediv_one k)).st (q := 97) (by decide) (by decide) (Int.ediv_one k), by rw [R_sA_n _ _ _ _ (by decide), R_sA_s], R_sA_s _ _ _ _, fun c c0 c1 => by omega, fun c c0 c1 => by omega⟩
theorem R_vk.at {s u : R_S} {e k : Int} (h : R_vk s u (fun x => x = k)) (ne : e ≠ k) {q : Nat} (q0 : 96 ≤ q) (q1 : q ≤ 106) {j : Int} (hj : j / R_wd q = e) : u.2.1 q j = s.2.1 q j := h.2 q q0 q1 j (by rw [hj]; exact ne)
theorem R_cpd_st {s u : R_S} {e k t : Int} (h : R_cpd s u e k t) (ne : e ≠ k) (t0 : 0 ≤ t) (t1 : t < 8) (hn : 0 ≤ s.2.1 98 (8 * e + t)) (hn2 : s.2.1 98 (8 * e + t) ≤ 60) (hb : ∀ c, 0 ≤ c → c < t → s.2.1 98 (8 * e + c) ≤ 60) : R_cpd s (R_fl (R_sA u 98 (8 * k + t) (u.2.1 98 (8 * e + t))) 99 (60 * (8 * k + t)) (60 * (8 * k + t) + u.2.1 98 (8 * e + t)) (fun x => (R_sA u 98 (8 * k + t) (u.2.1 98 (8 * e + t))).2.1 99 (60 * (8 * e + t) + (x - 60 * (8 * k + t))))) e k (t + 1) := by
  obtain ⟨h1, h2, h3, h4, h5⟩ := h
  have e98 : u.2.1 98 (8 * e + t) = s.2.1 98 (8 * e + t) := h1.at ne (by decide) (by decide) (by show _ / (8 : Int) = e; omega)
  have e99 : ∀ i, 0 ≤ i → i < 60 → u.2.1 99 (60 * (8 * e + t) + i) = s.2.1 99 (60 * (8 * e + t) + i) := fun i i0 i1 => h1.at ne (by decide) (by decide) (by show _ / (480 : Int) = e; omega)
  refine ⟨(h1.st (q := 98) (by decide) (by decide) (by show _ / (8 : Int) = k; omega)).fl (q := 99) (by decide) (by decide) (fun j j0 j1 => by show _ / (480 : Int) = k; omega), by rw [R_fl_n (by decide), R_sA_n _ _ _ _ (by decide)]; exact h2, by rw [R_fl_n (by decide), R_sA_n _ _ _ _ (by decide)]; exact h3, fun c c0 c1 => ?_, fun c c0 c1 i i0 i1 => ?_⟩
  · rw [R_fl_n (by decide)]
    by_cases q : c = t
    · rw [q, R_sA_s]; exact e98
    · rw [R_sA_m _ _ _ _ (by omega)]; exact h4 c c0 (by omega)
  · by_cases q : c = t
    · subst q
      rw [R_fl_i (by omega) (by omega), R_sA_n _ _ _ _ (by decide), show 60 * (8 * k + c) + i - 60 * (8 * k + c) = i by omega]
      exact e99 i i0 (by omega)
    · have := hb c c0 (by omega)
      rw [R_fl_o (by omega), R_sA_n _ _ _ _ (by decide)]
      exact h5 c c0 (by omega) i i0 i1
theorem R_cpd.EX {s u : R_S} {e k : Int} {A : P_X} (h : R_cpd s u e k (s.2.1 97 e)) (hA : R_EX s e A) : R_EX u k A := R_EX_at h.2.2.1 h.2.2.2.1 h.2.2.2.2 hA
theorem R_cp_t {d : Nat} {h0 : E_H} {s : R_S} {sl : Nat} {Φ : E_R → Prop} {e k : Int} (e0 : 0 ≤ e) (e1 : e < 44) (k0 : 0 ≤ k) (k1 : k < 44) (ne : e ≠ k) (ex : s.2.1 96 e = 1) (tv : R_tv s e) (kont : ∀ (u : R_S) (h : E_H), R_is h0 h u → R_cpd s u e k (s.2.1 97 e) → B_R (d + 1) E_m239 (123, [(0, .ref 83), (1, .int (Zi e)), (2, .int (Zi k))], []) h sl Φ) : ∀ (f : Nat) (t : Int) (u : R_S) (h : E_H), s.2.1 97 e - t < f → R_is h0 h u → R_cpd s u e k t → 0 ≤ t → t ≤ s.2.1 97 e → B_R (d + 1) E_m239 (26, [(3, .int (Zi t)), (0, .ref 83), (1, .int (Zi e)), (2, .int (Zi k))], []) h sl Φ := by
  intro f
  induction f with
  | zero => intro t u h ht hs hc t0 t1; omega
  | succ f ih =>
    intro t u h ht hs hc t0 t1
    have e96 : u.2.1 96 e = s.2.1 96 e := hc.1.at ne (by decide) (by decide) (Int.ediv_one e)
    have e97 : u.2.1 97 e = s.2.1 97 e := hc.1.at ne (by decide) (by decide) (Int.ediv_one e)
    have t8 := tv.2.1
    refine Z_go (f2 := (27, [(3, .int (Zi t)), (0, .ref 83), (1, .int (Zi e)), (2, .int (Zi k))], [.int (Zi t)])) (fun _ => rfl) ?_
    refine Z_go (f2 := (28, [(3, .int (Zi t)), (0, .ref 83), (1, .int (Zi e)), (2, .int (Zi k))], [.ref 83, .int (Zi t)])) (fun _ => rfl) ?_
    refine R_gr (q := 95) rfl hs rfl ?_
    show B_R _ _ (31, [(3, .int (Zi t)), (0, .ref 83), (1, .int (Zi e)), (2, .int (Zi k))], [.ref 97, .int (Zi t)]) _ _ _
    refine Z_go (f2 := (32, [(3, .int (Zi t)), (0, .ref 83), (1, .int (Zi e)), (2, .int (Zi k))], [.int (Zi e), .ref 97, .int (Zi t)])) (fun _ => rfl) ?_
    refine R_ia (q := 13) rfl hs rfl rfl (by omega) (by omega) (by decide) ?_
    refine Z_cge rfl rfl (by first | exact hs.zF _ | exact Zor_r _ _ | exact hs.zA _ _ | assumption | exact zA _ _ | exact zS _ | exact Zr_not (hs.zA _ _) | exact ⟨by omega, by omega⟩) (by first | exact hs.zF _ | exact Zor_r _ _ | exact hs.zA _ _ | assumption | exact zA _ _ | exact zS _ | exact Zr_not (hs.zA _ _) | exact ⟨by omega, by omega⟩) (fun c1 => ?_) (fun c1 => ?_)
    · refine B_loc (K := [(0, .ref 83), (1, .int (Zi e)), (2, .int (Zi k))]) (N_all_sub ⟨rfl, rfl, rfl, trivial⟩) (show ([0, 1, 2] : List Nat).Nodup by decide) ?_
      obtain rfl : t = s.2.1 97 e := by omega
      exact kont u h hs hc
    · refine Z_go (f2 := (37, [(3, .int (Zi t)), (0, .ref 83), (1, .int (Zi e)), (2, .int (Zi k))], [.ref 83])) (fun _ => rfl) ?_
      refine R_gr (q := 94) rfl hs rfl ?_
      show B_R _ _ (40, [(3, .int (Zi t)), (0, .ref 83), (1, .int (Zi e)), (2, .int (Zi k))], [.ref 96]) _ _ _
      refine Z_go (f2 := (41, [(3, .int (Zi t)), (0, .ref 83), (1, .int (Zi e)), (2, .int (Zi k))], [.int (Zi e), .ref 96])) (fun _ => rfl) ?_
      refine R_ba (q := 12) rfl hs rfl rfl (by omega) (by omega) (by decide) ?_
      refine Z_ieq rfl rfl (by first | exact hs.zF _ | exact Zor_r _ _ | exact hs.zA _ _ | assumption | exact zA _ _ | exact zS _ | exact Zr_not (hs.zA _ _) | exact ⟨by omega, by omega⟩) (fun c2 => ?_) (fun c2 => ?_)
      · refine B_loc (K := [(0, .ref 83), (1, .int (Zi e)), (2, .int (Zi k))]) (N_all_sub ⟨rfl, rfl, rfl, trivial⟩) (show ([0, 1, 2] : List Nat).Nodup by decide) ?_
        obtain rfl : t = s.2.1 97 e := by omega
        exact kont u h hs hc
      · refine Z_go (f2 := (46, [(3, .int (Zi t)), (0, .ref 83), (1, .int (Zi e)), (2, .int (Zi k))], [.ref 83])) (fun _ => rfl) ?_
        refine R_gr (q := 96) rfl hs rfl ?_
        show B_R _ _ (49, [(3, .int (Zi t)), (0, .ref 83), (1, .int (Zi e)), (2, .int (Zi k))], [.ref 98]) _ _ _
        refine Z_go (f2 := (51, [(3, .int (Zi t)), (0, .ref 83), (1, .int (Zi e)), (2, .int (Zi k))], [.int (Zi 8), .ref 98])) (fun _ => rfl) ?_
        refine Z_go (f2 := (52, [(3, .int (Zi t)), (0, .ref 83), (1, .int (Zi e)), (2, .int (Zi k))], [.int (Zi k), .int (Zi 8), .ref 98])) (fun _ => rfl) ?_
        refine Z_imul rfl ?_
        refine Z_go (f2 := (54, [(3, .int (Zi t)), (0, .ref 83), (1, .int (Zi e)), (2, .int (Zi k))], [.int (Zi t), .int (Zi (8 * k)), .ref 98])) (fun _ => rfl) ?_
        refine Z_iadd rfl ?_
        refine Z_go (f2 := (56, [(3, .int (Zi t)), (0, .ref 83), (1, .int (Zi e)), (2, .int (Zi k))], [.ref 83, .int (Zi (8 * k + t)), .ref 98])) (fun _ => rfl) ?_
        refine R_gr (q := 96) rfl hs rfl ?_
        show B_R _ _ (59, [(3, .int (Zi t)), (0, .ref 83), (1, .int (Zi e)), (2, .int (Zi k))], [.ref 98, .int (Zi (8 * k + t)), .ref 98]) _ _ _
        refine Z_go (f2 := (61, [(3, .int (Zi t)), (0, .ref 83), (1, .int (Zi e)), (2, .int (Zi k))], [.int (Zi 8), .ref 98, .int (Zi (8 * k + t)), .ref 98])) (fun _ => rfl) ?_
        refine Z_go (f2 := (62, [(3, .int (Zi t)), (0, .ref 83), (1, .int (Zi e)), (2, .int (Zi k))], [.int (Zi e), .int (Zi 8), .ref 98, .int (Zi (8 * k + t)), .ref 98])) (fun _ => rfl) ?_
        refine Z_imul rfl ?_
        refine Z_go (f2 := (64, [(3, .int (Zi t)), (0, .ref 83), (1, .int (Zi e)), (2, .int (Zi k))], [.int (Zi t), .int (Zi (8 * e)), .ref 98, .int (Zi (8 * k + t)), .ref 98])) (fun _ => rfl) ?_
        refine Z_iadd rfl ?_
        refine R_ia (q := 14) rfl hs rfl rfl (by omega) (by omega) (by decide) ?_
        refine R_is_ (q := 14) rfl hs rfl rfl (by omega) (by omega) (by decide) (by first | exact hs.zF _ | exact Zor_r _ _ | exact hs.zA _ _ | assumption | exact zA _ _ | exact zS _ | exact Zr_not (hs.zA _ _) | exact ⟨by omega, by omega⟩) (fun h hs => ?_)
        refine Z_go (f2 := (68, [(3, .int (Zi t)), (0, .ref 83), (1, .int (Zi e)), (2, .int (Zi k))], [.int (Zi 0)])) (fun _ => rfl) ?_
        refine Z_go (f2 := (70, [(4, .int (Zi 0)), (3, .int (Zi t)), (0, .ref 83), (1, .int (Zi e)), (2, .int (Zi k))], [])) (fun _ => rfl) ?_
        refine B_loc (K := [(4, .int (Zi 0)), (3, .int (Zi t)), (0, .ref 83), (1, .int (Zi e)), (2, .int (Zi k))]) (N_all_sub ⟨rfl, rfl, rfl, rfl, rfl, trivial⟩) (show ([4, 3, 0, 1, 2] : List Nat).Nodup by decide) ?_
        have hr := tv.2.2 t t0 (by omega)
        have e98 : u.2.1 98 (8 * e + t) = s.2.1 98 (8 * e + t) := hc.1.at ne (by decide) (by decide) (by show _ / (8 : Int) = e; omega)
        refine R_cp_i (s := R_sA u 98 (8 * k + t) (u.2.1 98 (8 * e + t))) (e := e) (k := k) (r := t) (n := u.2.1 98 (8 * e + t)) e0 e1 k0 k1 ne t0 (by omega) (by omega) (by rw [R_sA_m _ _ _ _ (by omega)]) (fun q j => hs.zA q j) (fun h hs => ?_) ((u.2.1 98 (8 * e + t)).toNat + 1) 0 h (by omega) (by rw [Int.add_zero, R_fl_0]; exact hs) (by omega) (by omega)
        refine Z_iinc (L2 := [(3, .int (Zi (t + 1))), (4, .int (Zi (u.2.1 98 (8 * e + t)))), (0, .ref 83), (1, .int (Zi e)), (2, .int (Zi k))]) rfl rfl (by decide) rfl ?_
        refine Z_go (f2 := (26, [(3, .int (Zi (t + 1))), (4, .int (Zi (u.2.1 98 (8 * e + t)))), (0, .ref 83), (1, .int (Zi e)), (2, .int (Zi k))], [])) (fun _ => rfl) ?_
        refine B_loc (K := [(3, .int (Zi (t + 1))), (0, .ref 83), (1, .int (Zi e)), (2, .int (Zi k))]) (N_all_sub ⟨rfl, rfl, rfl, rfl, trivial⟩) (show ([3, 0, 1, 2] : List Nat).Nodup by decide) ?_
        exact ih (t + 1) _ h (by omega) hs (R_cpd_st hc ne t0 (by omega) hr.1 hr.2.1 (fun c c0 c1 => (tv.2.2 c c0 (by omega)).2.1)) (by omega) (by omega)
