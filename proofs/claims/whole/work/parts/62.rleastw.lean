/-! the reference: least -/
theorem R_le_i {d : Nat} {h0 : E_H} {s : R_S} {sl : Nat} {Φ : E_R → Prop} {k n m sl_ : Int} (s0 : 0 ≤ sl_) (s1 : sl_ < 44) (n0 : 0 ≤ n) (n1 : n < 24) (k0 : 0 ≤ k) (k1 : k < 580) (b1 : s.2.1 107 k ≤ 640) (zA : ∀ q j, Zr (s.2.1 q j)) (kont : ∀ (h : E_H), R_is h0 h (R_fl s 106 (640 * (24 * sl_ + n)) (640 * (24 * sl_ + n) + (s.2.1 107 k)) (fun j => s.2.1 108 (640 * k + (j - 640 * (24 * sl_ + n))))) → B_R (d) E_m227 (115, [(5, .int (Zi (s.2.1 107 k))), (4, .int (Zi k)), (3, .int (Zi n)), (2, .int (Zi m)), (0, .ref 83), (1, .int (Zi sl_))], []) h sl Φ) : ∀ (t : Nat) (i : Int) (h : E_H), s.2.1 107 k - i < t → R_is h0 h (R_fl s 106 (640 * (24 * sl_ + n)) (640 * (24 * sl_ + n) + i) (fun j => s.2.1 108 (640 * k + (j - 640 * (24 * sl_ + n))))) → 0 ≤ i → i ≤ s.2.1 107 k → B_R (d) E_m227 (65, [(5, .int (Zi i)), (4, .int (Zi k)), (3, .int (Zi n)), (2, .int (Zi m)), (0, .ref 83), (1, .int (Zi sl_))], []) h sl Φ := by
  intro t
  induction t with
  | zero => intro i h ht hs i0 i1; omega
  | succ t ih =>
    intro i h ht hs i0 i1
    refine Z_go (f2 := (67, [(5, .int (Zi i)), (4, .int (Zi k)), (3, .int (Zi n)), (2, .int (Zi m)), (0, .ref 83), (1, .int (Zi sl_))], [.int (Zi i)])) (fun _ => rfl) ?_
    refine Z_go (f2 := (68, [(5, .int (Zi i)), (4, .int (Zi k)), (3, .int (Zi n)), (2, .int (Zi m)), (0, .ref 83), (1, .int (Zi sl_))], [.ref 83, .int (Zi i)])) (fun _ => rfl) ?_
    refine R_gr (q := 105) rfl hs rfl ?_
    show B_R _ _ (71, [(5, .int (Zi i)), (4, .int (Zi k)), (3, .int (Zi n)), (2, .int (Zi m)), (0, .ref 83), (1, .int (Zi sl_))], [.ref 107, .int (Zi i)]) _ _ _
    refine Z_go (f2 := (73, [(5, .int (Zi i)), (4, .int (Zi k)), (3, .int (Zi n)), (2, .int (Zi m)), (0, .ref 83), (1, .int (Zi sl_))], [.int (Zi k), .ref 107, .int (Zi i)])) (fun _ => rfl) ?_
    refine R_ia (q := 23) rfl hs rfl rfl (by omega) (by omega) (by decide) ?_
    rw [show (R_fl s 106 (640 * (24 * sl_ + n)) (640 * (24 * sl_ + n) + i) (fun j => s.2.1 108 (640 * k + (j - 640 * (24 * sl_ + n))))).2.1 107 k = s.2.1 107 k by first | rfl | simp [R_sA, R_sF, R_up2, R_fl, R_fL, R_sM, R_sL, R_p3, R_em]]; show B_R _ _ (74, [(5, .int (Zi i)), (4, .int (Zi k)), (3, .int (Zi n)), (2, .int (Zi m)), (0, .ref 83), (1, .int (Zi sl_))], [.int (Zi (s.2.1 107 k)), .int (Zi i)]) _ _ _
    refine Z_cge rfl rfl (by first | exact hs.zF _ | exact Zor_r _ _ | exact hs.zA _ _ | assumption | exact zA _ _ | exact zS _ | exact Zr_not (hs.zA _ _) | exact ⟨by omega, by omega⟩) (by first | exact hs.zF _ | exact Zor_r _ _ | exact hs.zA _ _ | assumption | exact zA _ _ | exact zS _ | exact Zr_not (hs.zA _ _) | exact ⟨by omega, by omega⟩) (fun c1 => ?_) (fun c1 => ?_)
    · obtain rfl : i = s.2.1 107 k := by omega
      exact kont h hs 
    · refine Z_go (f2 := (78, [(5, .int (Zi i)), (4, .int (Zi k)), (3, .int (Zi n)), (2, .int (Zi m)), (0, .ref 83), (1, .int (Zi sl_))], [.ref 83])) (fun _ => rfl) ?_
      refine R_gr (q := 104) rfl hs rfl ?_
      show B_R _ _ (81, [(5, .int (Zi i)), (4, .int (Zi k)), (3, .int (Zi n)), (2, .int (Zi m)), (0, .ref 83), (1, .int (Zi sl_))], [.ref 106]) _ _ _
      refine Z_go (f2 := (84, [(5, .int (Zi i)), (4, .int (Zi k)), (3, .int (Zi n)), (2, .int (Zi m)), (0, .ref 83), (1, .int (Zi sl_))], [.int (Zi 640), .ref 106])) (fun _ => rfl) ?_
      refine Z_go (f2 := (86, [(5, .int (Zi i)), (4, .int (Zi k)), (3, .int (Zi n)), (2, .int (Zi m)), (0, .ref 83), (1, .int (Zi sl_))], [.int (Zi 24), .int (Zi 640), .ref 106])) (fun _ => rfl) ?_
      refine Z_go (f2 := (87, [(5, .int (Zi i)), (4, .int (Zi k)), (3, .int (Zi n)), (2, .int (Zi m)), (0, .ref 83), (1, .int (Zi sl_))], [.int (Zi sl_), .int (Zi 24), .int (Zi 640), .ref 106])) (fun _ => rfl) ?_
      refine Z_imul rfl ?_
      refine Z_go (f2 := (89, [(5, .int (Zi i)), (4, .int (Zi k)), (3, .int (Zi n)), (2, .int (Zi m)), (0, .ref 83), (1, .int (Zi sl_))], [.int (Zi n), .int (Zi (24 * sl_)), .int (Zi 640), .ref 106])) (fun _ => rfl) ?_
      refine Z_iadd rfl ?_
      refine Z_imul rfl ?_
      refine Z_go (f2 := (93, [(5, .int (Zi i)), (4, .int (Zi k)), (3, .int (Zi n)), (2, .int (Zi m)), (0, .ref 83), (1, .int (Zi sl_))], [.int (Zi i), .int (Zi (640 * (24 * sl_ + n))), .ref 106])) (fun _ => rfl) ?_
      refine Z_iadd rfl ?_
      refine Z_go (f2 := (95, [(5, .int (Zi i)), (4, .int (Zi k)), (3, .int (Zi n)), (2, .int (Zi m)), (0, .ref 83), (1, .int (Zi sl_))], [.ref 83, .int (Zi (640 * (24 * sl_ + n) + i)), .ref 106])) (fun _ => rfl) ?_
      refine R_gr (q := 106) rfl hs rfl ?_
      show B_R _ _ (98, [(5, .int (Zi i)), (4, .int (Zi k)), (3, .int (Zi n)), (2, .int (Zi m)), (0, .ref 83), (1, .int (Zi sl_))], [.ref 108, .int (Zi (640 * (24 * sl_ + n) + i)), .ref 106]) _ _ _
      refine Z_go (f2 := (101, [(5, .int (Zi i)), (4, .int (Zi k)), (3, .int (Zi n)), (2, .int (Zi m)), (0, .ref 83), (1, .int (Zi sl_))], [.int (Zi 640), .ref 108, .int (Zi (640 * (24 * sl_ + n) + i)), .ref 106])) (fun _ => rfl) ?_
      refine Z_go (f2 := (103, [(5, .int (Zi i)), (4, .int (Zi k)), (3, .int (Zi n)), (2, .int (Zi m)), (0, .ref 83), (1, .int (Zi sl_))], [.int (Zi k), .int (Zi 640), .ref 108, .int (Zi (640 * (24 * sl_ + n) + i)), .ref 106])) (fun _ => rfl) ?_
      refine Z_imul rfl ?_
      refine Z_go (f2 := (106, [(5, .int (Zi i)), (4, .int (Zi k)), (3, .int (Zi n)), (2, .int (Zi m)), (0, .ref 83), (1, .int (Zi sl_))], [.int (Zi i), .int (Zi (640 * k)), .ref 108, .int (Zi (640 * (24 * sl_ + n) + i)), .ref 106])) (fun _ => rfl) ?_
      refine Z_iadd rfl ?_
      refine R_ia (q := 24) rfl hs rfl rfl (by omega) (by omega) (by decide) ?_
      rw [show (R_fl s 106 (640 * (24 * sl_ + n)) (640 * (24 * sl_ + n) + i) (fun j => s.2.1 108 (640 * k + (j - 640 * (24 * sl_ + n))))).2.1 108 (640 * k + i) = s.2.1 108 (640 * k + i) by first | rfl | simp [R_sA, R_sF, R_up2, R_fl, R_fL, R_sM, R_sL, R_p3, R_em]]; show B_R _ _ (108, [(5, .int (Zi i)), (4, .int (Zi k)), (3, .int (Zi n)), (2, .int (Zi m)), (0, .ref 83), (1, .int (Zi sl_))], [.int (Zi (s.2.1 108 (640 * k + i))), .int (Zi (640 * (24 * sl_ + n) + i)), .ref 106]) _ _ _
      refine R_is_ (q := 22) rfl hs rfl rfl (by omega) (by omega) (by decide) (by first | exact hs.zF _ | exact Zor_r _ _ | exact hs.zA _ _ | assumption | exact zA _ _ | exact zS _ | exact Zr_not (hs.zA _ _) | exact ⟨by omega, by omega⟩) (fun h hs => ?_)
      refine Z_iinc (L2 := [(5, .int (Zi (i + 1))), (4, .int (Zi k)), (3, .int (Zi n)), (2, .int (Zi m)), (0, .ref 83), (1, .int (Zi sl_))]) rfl rfl (by decide) rfl ?_
      refine Z_go (f2 := (65, [(5, .int (Zi (i + 1))), (4, .int (Zi k)), (3, .int (Zi n)), (2, .int (Zi m)), (0, .ref 83), (1, .int (Zi sl_))], [])) (fun _ => rfl) ?_
      refine B_loc (K := [(5, .int (Zi (i + 1))), (4, .int (Zi k)), (3, .int (Zi n)), (2, .int (Zi m)), (0, .ref 83), (1, .int (Zi sl_))]) (N_all_sub ⟨rfl, rfl, rfl, rfl, rfl, rfl, trivial⟩) (show ([5, 4, 3, 2, 0, 1] : List Nat).Nodup by decide) ?_
      rw [R_fl_st (by omega) rfl (by rw [show 640 * (24 * sl_ + n) + i - (640 * (24 * sl_ + n)) = i by omega])] at hs
      exact ih _ _ (by omega) (by rw [← Int.add_assoc]; exact hs) (by omega) (by omega)
/-- the first n of those that stay, of the first k, lie in the slot -/
def R_lsq (s u : R_S) (e n k : Int) : Prop := R_slf s u e ∧ (∀ j, u.2.1 104 j = s.2.1 104 j) ∧ (∀ j, u.2.1 109 j = s.2.1 109 j) ∧ ∃ ks : List Int, ks.Nodup ∧ (ks.length : Int) = n ∧ (∀ j, j ∈ ks ↔ 0 ≤ j ∧ j < k ∧ ¬ R_go s j) ∧ (∀ (c : Nat) (h : c < ks.length), u.2.1 105 (24 * e + c) = s.2.1 107 ks[c] ∧ ∀ j, 0 ≤ j → j < s.2.1 107 ks[c] → u.2.1 106 (640 * (24 * e + c) + j) = s.2.1 108 (640 * ks[c] + j))
theorem R_lsq_0 (s : R_S) (e : Int) : R_lsq s s e 0 0 := ⟨⟨R_only_0 _ _, fun _ _ => rfl, fun _ _ => rfl, fun _ _ => rfl⟩, fun _ => rfl, fun _ => rfl, [], List.nodup_nil, rfl, fun j => ⟨fun h => absurd h List.not_mem_nil, fun h => by omega⟩, fun c h => absurd h (Nat.not_lt_zero _)⟩
theorem R_lsq.skip {s u : R_S} {e n k : Int} (h : R_lsq s u e n k) (g : R_go s k) : R_lsq s u e n (k + 1) := by
  obtain ⟨h1, h2, h3, ks, h4, h5, h6, h7⟩ := h
  refine ⟨h1, h2, h3, ks, h4, h5, fun j => (h6 j).trans ⟨fun q => ⟨q.1, by omega, q.2.2⟩, fun q => ⟨q.1, ?_, q.2.2⟩⟩, h7⟩
  have : j ≠ k := fun z => q.2.2 (z ▸ g)
  omega
theorem R_lsq.lt {s u : R_S} {e n k m : Int} (h : R_lsq s u e n k) (k0 : 0 ≤ k) (k1 : k < s.1 37) (g : ¬ R_go s k) (hm : D_cn (fun j => ¬ R_go s j) (s.1 37) m) : n < m := by
  obtain ⟨h1, h2, h3, ks, h4, h5, h6, h7⟩ := h
  obtain ⟨l, l1, l2, l3⟩ := hm
  have nd : (k :: ks).Nodup := List.nodup_cons.mpr ⟨fun q => by have := (h6 k).mp q; omega, h4⟩
  have := (S_card_of nd (A := fun j => j ∈ k :: ks) (fun _ => Iff.rfl) l.length).mp ⟨l, Nat.le_refl _, fun x hx => (l3 x).mpr ?_⟩
  · simp only [List.length_cons] at this
    omega
  · rcases List.mem_cons.mp hx with rfl | hx
    · exact ⟨k0, k1, g⟩
    · have := (h6 x).mp hx
      exact ⟨this.1, by omega, this.2.2⟩
theorem R_lsq.add {s u : R_S} {e n k : Int} (h : R_lsq s u e n k) (e0 : 0 ≤ e) (n1 : n < 24) (k0 : 0 ≤ k) (g : ¬ R_go s k) (z0 : 0 ≤ s.2.1 107 k) (z1 : s.2.1 107 k ≤ 640) (pv : R_pv s) (kb : k < s.1 37) : R_lsq s (R_fl (R_sA u 105 (24 * e + n) (s.2.1 107 k)) 106 (640 * (24 * e + n)) (640 * (24 * e + n) + s.2.1 107 k) (fun j => s.2.1 108 (640 * k + (j - 640 * (24 * e + n))))) e (n + 1) (k + 1) := by
  obtain ⟨h1, h2, h3, ks, h4, h5, h6, h7⟩ := h
  have a : ∀ q j, q ≠ 105 → q ≠ 106 → (R_fl (R_sA u 105 (24 * e + n) (s.2.1 107 k)) 106 (640 * (24 * e + n)) (640 * (24 * e + n) + s.2.1 107 k) (fun j => s.2.1 108 (640 * k + (j - 640 * (24 * e + n))))).2.1 q j = u.2.1 q j := fun q j q1 q2 => by rw [R_fl_n q2, R_sA_n _ _ _ _ q1]
  have b : ∀ j, (R_fl (R_sA u 105 (24 * e + n) (s.2.1 107 k)) 106 (640 * (24 * e + n)) (640 * (24 * e + n) + s.2.1 107 k) (fun j => s.2.1 108 (640 * k + (j - 640 * (24 * e + n))))).2.1 105 j = if j = 24 * e + n then s.2.1 107 k else u.2.1 105 j := fun j => by
    rw [R_fl_n (by decide)]
    by_cases c : j = 24 * e + n
    · rw [if_pos c, c, R_sA_s]
    · rw [if_neg c, R_sA_m _ _ _ _ c]
  have c : ∀ j, ¬ (640 * (24 * e + n) ≤ j ∧ j < 640 * (24 * e + n) + s.2.1 107 k) → (R_fl (R_sA u 105 (24 * e + n) (s.2.1 107 k)) 106 (640 * (24 * e + n)) (640 * (24 * e + n) + s.2.1 107 k) (fun j => s.2.1 108 (640 * k + (j - 640 * (24 * e + n))))).2.1 106 j = u.2.1 106 j := fun j hj => by rw [R_fl_o hj, R_sA_n _ _ _ _ (by decide)]
  have d : ∀ j, 640 * (24 * e + n) ≤ j → j < 640 * (24 * e + n) + s.2.1 107 k → (R_fl (R_sA u 105 (24 * e + n) (s.2.1 107 k)) 106 (640 * (24 * e + n)) (640 * (24 * e + n) + s.2.1 107 k) (fun j => s.2.1 108 (640 * k + (j - 640 * (24 * e + n))))).2.1 106 j = s.2.1 108 (640 * k + (j - 640 * (24 * e + n))) := fun j j0 j1 => R_fl_i j0 j1
  have f1 : (R_fl (R_sA u 105 (24 * e + n) (s.2.1 107 k)) 106 (640 * (24 * e + n)) (640 * (24 * e + n) + s.2.1 107 k) (fun j => s.2.1 108 (640 * k + (j - 640 * (24 * e + n))))).1 = u.1 := rfl
  have f2 : (R_fl (R_sA u 105 (24 * e + n) (s.2.1 107 k)) 106 (640 * (24 * e + n)) (640 * (24 * e + n) + s.2.1 107 k) (fun j => s.2.1 108 (640 * k + (j - 640 * (24 * e + n))))).2.2 = u.2.2 := rfl
  generalize R_fl (R_sA u 105 (24 * e + n) (s.2.1 107 k)) 106 (640 * (24 * e + n)) (640 * (24 * e + n) + s.2.1 107 k) (fun j => s.2.1 108 (640 * k + (j - 640 * (24 * e + n)))) = w at a b c d f1 f2
  have n0 : 0 ≤ n := by omega
  obtain ⟨g1, g2, g3, g4⟩ := h1
  refine ⟨⟨⟨by rw [f1, g1.1], fun q j hq => ?_, by rw [f2, g1.2.2]⟩, fun j hj => ?_, fun j hj => ?_, fun j hj => ?_⟩, fun j => by rw [a 104 j (by decide) (by decide), h2], fun j => by rw [a 109 j (by decide) (by decide), h3], ks ++ [k], ?_, ?_, fun j => ?_, fun x hx => ?_⟩
  · rw [a q j (fun z => hq (by rw [z]; simp)) (fun z => hq (by rw [z]; simp))]
    exact g1.2.1 q j hq
  · rw [a 104 j (by decide) (by decide)]
    exact g2 j hj
  · rw [b, if_neg (by omega)]
    exact g3 j hj
  · rw [c j (by omega)]
    exact g4 j hj
  · refine List.nodup_append.mpr ⟨h4, List.nodup_cons.mpr ⟨List.not_mem_nil, List.nodup_nil⟩, fun x hx y hy => ?_⟩
    rw [List.mem_singleton] at hy
    have := (h6 x).mp hx
    omega
  · simp only [List.length_append, List.length_cons, List.length_nil]
    omega
  · rw [List.mem_append, List.mem_singleton, h6]
    constructor
    · rintro (q | rfl)
      · exact ⟨q.1, by omega, q.2.2⟩
      · exact ⟨k0, by omega, g⟩
    · intro q
      by_cases z : j = k
      · exact .inr z
      · exact .inl ⟨q.1, by omega, q.2.2⟩
  · by_cases z : x < ks.length
    · rw [List.getElem_append_left z]
      obtain ⟨p1, p2⟩ := h7 x z
      refine ⟨by rw [b, if_neg (by omega)]; exact p1, fun j j0 j1 => ?_⟩
      have hk := (h6 ks[x]).mp (List.getElem_mem z)
      have := (pv.2.2 ks[x] hk.1 (by omega)).2.1
      rw [c _ (by omega)]
      exact p2 j j0 j1
    · simp only [List.length_append, List.length_cons, List.length_nil] at hx
      have hx : x = ks.length := by omega
      subst hx
      rw [List.getElem_append_right (Nat.le_refl _)]
      simp only [Nat.sub_self, List.getElem_cons_zero]
      refine ⟨by rw [b, if_pos (by omega)], fun j j0 j1 => ?_⟩
      rw [show ((ks.length : Nat) : Int) = n by omega, d _ (by omega) (by omega)]
      exact congrArg (s.2.1 108) (by omega)
theorem R_lsq.CC {s u : R_S} {e n : Int} (pv : R_pv s) (h : R_lsq s u e n (s.1 37)) (n1 : n ≤ 24) : R_CC (R_sA u 104 e n) e (F_min (R_PF s)) ∧ R_slf s (R_sA u 104 e n) e := by
  obtain ⟨h1, h2, h3, ks, h4, h5, h6, h7⟩ := h
  have e104 : (R_sA u 104 e n).2.1 104 e = n := R_sA_s _ _ _ _
  have e105 : ∀ j, (R_sA u 104 e n).2.1 105 j = u.2.1 105 j := fun j => R_sA_n _ _ _ _ (by decide)
  have e106 : ∀ j, (R_sA u 104 e n).2.1 106 j = u.2.1 106 j := fun j => R_sA_n _ _ _ _ (by decide)
  have er : ∀ (c : Nat) (hc : c < ks.length), R_crow (R_sA u 104 e n) e c = R_prow s ks[c] := fun c hc => D_row_eq (by rw [e105]; exact (h7 c hc).1) (fun j j0 j1 => by rw [e106]; exact (h7 c hc).2 j j0 (by rw [e105, (h7 c hc).1] at j1; exact j1))
  have nat : ∀ c : Int, 0 ≤ c → c < n → ∃ (x : Nat) (hx : x < ks.length), c = x := fun c a b => ⟨c.toNat, by omega, by omega⟩
  refine ⟨⟨by rw [e104]; omega, by rw [e104]; exact n1, fun c a b => ?_, fun c q a b d => ?_, fun x => ?_⟩, ⟨h1.1.st (by simp) _ _, fun j hj => by rw [R_sA_m _ _ _ _ hj]; exact h2 j, fun j hj => by rw [e105]; exact h1.2.2.1 j hj, fun j hj => by rw [e106]; exact h1.2.2.2 j hj⟩⟩
  · rw [e104] at b
    obtain ⟨x, hx, rfl⟩ := nat c a b
    have hk := (h6 ks[x]).mp (List.getElem_mem hx)
    have hp := pv.2.2 ks[x] hk.1 hk.2.1
    rw [e105, (h7 x hx).1]
    refine ⟨hp.1, hp.2.1, fun i j i0 ij jn => ?_⟩
    show (R_sA u 104 e n).2.1 106 _ < (R_sA u 104 e n).2.1 106 _
    rw [e106, e106, (h7 x hx).2 i i0 (by omega), (h7 x hx).2 j (by omega) jn]
    exact hp.2.2 i j i0 ij jn
  · rw [e104] at d
    obtain ⟨x, hx, rfl⟩ := nat c a (by omega)
    obtain ⟨y, hy, rfl⟩ := nat q (by omega) d
    rw [er x hx, er y hy]
    have k1 := (h6 ks[x]).mp (List.getElem_mem hx)
    have k2 := (h6 ks[y]).mp (List.getElem_mem hy)
    have ne : ks[x] ≠ ks[y] := (List.pairwise_iff_getElem.mp h4) x y hx hy (by omega)
    rcases Int.lt_or_gt_of_ne ne with z | z
    · exact R_stay_ne k1.1 z k2.2.1 k2.2.2
    · exact (R_stay_ne k2.1 z k1.2.1 k1.2.2).symm
  · rw [e104]
    constructor
    · intro hx
      obtain ⟨k, k0, k1, k2, k3⟩ := R_min_stay hx
      obtain ⟨c, hc, hk⟩ := List.getElem_of_mem ((h6 k).mpr ⟨k0, k1, k2⟩)
      exact ⟨c, by omega, by omega, by rw [er c hc, hk]; exact k3⟩
    · rintro ⟨c, a, b, rfl⟩
      obtain ⟨x, hx, rfl⟩ := nat c a b
      rw [er x hx]
      have hk := (h6 ks[x]).mp (List.getElem_mem hx)
      exact R_stay_min pv hk.1 hk.2.1 hk.2.2
theorem R_le_out {d : Nat} {h0 : E_H} {s : R_S} {sl : Nat} {Φ : E_R → Prop} {m sl_ : Int} (pv : R_pv s) (s0 : 0 ≤ sl_) (s1 : sl_ < 44) (fl : (∀ j, 0 ≤ j → j < s.1 37 → (s.2.1 109 j = 1 ∧ ¬ R_go s j ∨ s.2.1 109 j = 0 ∧ R_go s j))) (hm : D_cn (fun j => ¬ R_go s j) (s.1 37) m) (m1 : m ≤ 24) (kont : ∀ (u : R_S) (h : E_H) (n : Int), R_is h0 h u → R_lsq s u sl_ n (s.1 37) → B_R d E_m227 (124, [(3, .int (Zi n)), (0, .ref 83), (1, .int (Zi sl_))], []) h sl Φ) : ∀ (t : Nat) (k n : Int) (u : R_S) (h : E_H), s.1 37 - k < t → R_is h0 h u → R_lsq s u sl_ n k → 0 ≤ k → k ≤ s.1 37 → B_R d E_m227 (22, [(4, .int (Zi k)), (3, .int (Zi n)), (2, .int (Zi m)), (0, .ref 83), (1, .int (Zi sl_))], []) h sl Φ := by
  intro t
  induction t with
  | zero => intro k n u h ht hs hu k0 k1; omega
  | succ t ih =>
    intro k n u h ht hs hu k0 k1
    have e37 : u.1 37 = s.1 37 := by rw [hu.1.1.1]
    have e109 : u.2.1 109 k = s.2.1 109 k := hu.2.2.1 k
    have e107 : ∀ j, u.2.1 107 j = s.2.1 107 j := fun j => hu.1.1.2.1 107 j (by simp)
    have e108 : ∀ j, u.2.1 108 j = s.2.1 108 j := fun j => hu.1.1.2.1 108 j (by simp)
    obtain ⟨hp0, hp1, hp⟩ := id pv
    have n0 : 0 ≤ n := by obtain ⟨_, _, _, ks, _, h5, _⟩ := hu; omega
    have e107k := e107 k
    have hnm : k < s.1 37 → ¬ R_go s k → n < m := fun a b => hu.lt k0 a b hm
    have hflk : k < s.1 37 → (s.2.1 109 k = 1 ∧ ¬ R_go s k ∨ s.2.1 109 k = 0 ∧ R_go s k) := fun a => fl k k0 a
    have hpk : k < s.1 37 → 0 ≤ s.2.1 107 k ∧ s.2.1 107 k ≤ 640 := fun a => ⟨(hp k k0 a).1, (hp k k0 a).2.1⟩
    refine Z_go (f2 := (24, [(4, .int (Zi k)), (3, .int (Zi n)), (2, .int (Zi m)), (0, .ref 83), (1, .int (Zi sl_))], [.int (Zi k)])) (fun _ => rfl) ?_
    refine Z_go (f2 := (25, [(4, .int (Zi k)), (3, .int (Zi n)), (2, .int (Zi m)), (0, .ref 83), (1, .int (Zi sl_))], [.ref 83, .int (Zi k)])) (fun _ => rfl) ?_
    refine R_gi rfl hs rfl ?_
    show B_R _ _ (28, [(4, .int (Zi k)), (3, .int (Zi n)), (2, .int (Zi m)), (0, .ref 83), (1, .int (Zi sl_))], [.int (Zi (u.1 37)), .int (Zi k)]) _ _ _
    refine Z_cge rfl rfl (by first | exact hs.zF _ | exact Zor_r _ _ | exact hs.zA _ _ | assumption | exact zA _ _ | exact zS _ | exact Zr_not (hs.zA _ _) | exact ⟨by omega, by omega⟩) (by first | exact hs.zF _ | exact Zor_r _ _ | exact hs.zA _ _ | assumption | exact zA _ _ | exact zS _ | exact Zr_not (hs.zA _ _) | exact ⟨by omega, by omega⟩) (fun c1 => ?_) (fun c1 => ?_)
    · refine B_loc (K := [(3, .int (Zi n)), (0, .ref 83), (1, .int (Zi sl_))]) (N_all_sub ⟨rfl, rfl, rfl, trivial⟩) (show ([3, 0, 1] : List Nat).Nodup by decide) ?_
      have e : k = s.1 37 := by omega
      rw [e] at hu
      exact kont u h n hs hu
    · refine Z_go (f2 := (32, [(4, .int (Zi k)), (3, .int (Zi n)), (2, .int (Zi m)), (0, .ref 83), (1, .int (Zi sl_))], [.ref 83])) (fun _ => rfl) ?_
      refine R_gr (q := 107) rfl hs rfl ?_
      show B_R _ _ (35, [(4, .int (Zi k)), (3, .int (Zi n)), (2, .int (Zi m)), (0, .ref 83), (1, .int (Zi sl_))], [.ref 109]) _ _ _
      refine Z_go (f2 := (37, [(4, .int (Zi k)), (3, .int (Zi n)), (2, .int (Zi m)), (0, .ref 83), (1, .int (Zi sl_))], [.int (Zi k), .ref 109])) (fun _ => rfl) ?_
      refine R_ba (q := 25) rfl hs rfl rfl (by omega) (by omega) (by decide) ?_
      refine Z_ine rfl rfl (by first | exact hs.zF _ | exact Zor_r _ _ | exact hs.zA _ _ | assumption | exact zA _ _ | exact zS _ | exact Zr_not (hs.zA _ _) | exact ⟨by omega, by omega⟩) (fun c2 => ?_) (fun c2 => ?_)
      · have hg : ¬ R_go s k := by
          rcases hflk (by omega) with q | q
          · exact q.2
          · omega
        have hnm2 := hnm (by omega) hg
        have hpk2 := hpk (by omega)
        refine Z_go (f2 := (45, [(4, .int (Zi k)), (3, .int (Zi n)), (2, .int (Zi m)), (0, .ref 83), (1, .int (Zi sl_))], [.ref 83])) (fun _ => rfl) ?_
        refine R_gr (q := 103) rfl hs rfl ?_
        show B_R _ _ (48, [(4, .int (Zi k)), (3, .int (Zi n)), (2, .int (Zi m)), (0, .ref 83), (1, .int (Zi sl_))], [.ref 105]) _ _ _
        refine Z_go (f2 := (50, [(4, .int (Zi k)), (3, .int (Zi n)), (2, .int (Zi m)), (0, .ref 83), (1, .int (Zi sl_))], [.int (Zi 24), .ref 105])) (fun _ => rfl) ?_
        refine Z_go (f2 := (51, [(4, .int (Zi k)), (3, .int (Zi n)), (2, .int (Zi m)), (0, .ref 83), (1, .int (Zi sl_))], [.int (Zi sl_), .int (Zi 24), .ref 105])) (fun _ => rfl) ?_
        refine Z_imul rfl ?_
        refine Z_go (f2 := (53, [(4, .int (Zi k)), (3, .int (Zi n)), (2, .int (Zi m)), (0, .ref 83), (1, .int (Zi sl_))], [.int (Zi n), .int (Zi (24 * sl_)), .ref 105])) (fun _ => rfl) ?_
        refine Z_iadd rfl ?_
        refine Z_go (f2 := (55, [(4, .int (Zi k)), (3, .int (Zi n)), (2, .int (Zi m)), (0, .ref 83), (1, .int (Zi sl_))], [.ref 83, .int (Zi (24 * sl_ + n)), .ref 105])) (fun _ => rfl) ?_
        refine R_gr (q := 105) rfl hs rfl ?_
        show B_R _ _ (58, [(4, .int (Zi k)), (3, .int (Zi n)), (2, .int (Zi m)), (0, .ref 83), (1, .int (Zi sl_))], [.ref 107, .int (Zi (24 * sl_ + n)), .ref 105]) _ _ _
        refine Z_go (f2 := (60, [(4, .int (Zi k)), (3, .int (Zi n)), (2, .int (Zi m)), (0, .ref 83), (1, .int (Zi sl_))], [.int (Zi k), .ref 107, .int (Zi (24 * sl_ + n)), .ref 105])) (fun _ => rfl) ?_
        refine R_ia (q := 23) rfl hs rfl rfl (by omega) (by omega) (by decide) ?_
        refine R_is_ (q := 21) rfl hs rfl rfl (by omega) (by omega) (by decide) (by first | exact hs.zF _ | exact Zor_r _ _ | exact hs.zA _ _ | assumption | exact zA _ _ | exact zS _ | exact Zr_not (hs.zA _ _) | exact ⟨by omega, by omega⟩) (fun h hs => ?_)
        refine Z_go (f2 := (63, [(4, .int (Zi k)), (3, .int (Zi n)), (2, .int (Zi m)), (0, .ref 83), (1, .int (Zi sl_))], [.int (Zi 0)])) (fun _ => rfl) ?_
        refine Z_go (f2 := (65, [(5, .int (Zi 0)), (4, .int (Zi k)), (3, .int (Zi n)), (2, .int (Zi m)), (0, .ref 83), (1, .int (Zi sl_))], [])) (fun _ => rfl) ?_
        refine B_loc (K := [(5, .int (Zi 0)), (4, .int (Zi k)), (3, .int (Zi n)), (2, .int (Zi m)), (0, .ref 83), (1, .int (Zi sl_))]) (N_all_sub ⟨rfl, rfl, rfl, rfl, rfl, rfl, trivial⟩) (show ([5, 4, 3, 2, 0, 1] : List Nat).Nodup by decide) ?_
        refine R_le_i (s := R_sA u 105 (24 * sl_ + n) (u.2.1 107 k)) s0 s1 n0 (by omega) k0 (by omega) (by show u.2.1 107 k ≤ 640; omega) (fun q j => hs.zA q j) (fun h hs => ?_) ((u.2.1 107 k).toNat + 1) 0 h (by show u.2.1 107 k - 0 < _; omega) (by rw [Int.add_zero, R_fl_0]; exact hs) (by omega) (by show 0 ≤ u.2.1 107 k; omega)
        show B_R _ _ (115, [(5, .int (Zi (u.2.1 107 k))), (4, .int (Zi k)), (3, .int (Zi n)), (2, .int (Zi m)), (0, .ref 83), (1, .int (Zi sl_))], []) _ _ _
        have hs : R_is h0 h (R_fl (R_sA u 105 (24 * sl_ + n) (u.2.1 107 k)) 106 (640 * (24 * sl_ + n)) (640 * (24 * sl_ + n) + u.2.1 107 k) (fun j => u.2.1 108 (640 * k + (j - 640 * (24 * sl_ + n))))) := hs
        rw [e107k, show (fun j => u.2.1 108 (640 * k + (j - 640 * (24 * sl_ + n)))) = fun j => s.2.1 108 (640 * k + (j - 640 * (24 * sl_ + n))) from funext (fun j => e108 _)] at hs
        refine Z_iinc (L2 := [(3, .int (Zi (n + 1))), (5, .int (Zi (u.2.1 107 k))), (4, .int (Zi k)), (2, .int (Zi m)), (0, .ref 83), (1, .int (Zi sl_))]) rfl rfl (by decide) rfl ?_
        refine Z_iinc (L2 := [(4, .int (Zi (k + 1))), (3, .int (Zi (n + 1))), (5, .int (Zi (u.2.1 107 k))), (2, .int (Zi m)), (0, .ref 83), (1, .int (Zi sl_))]) rfl rfl (by decide) rfl ?_
        refine Z_go (f2 := (22, [(4, .int (Zi (k + 1))), (3, .int (Zi (n + 1))), (5, .int (Zi (u.2.1 107 k))), (2, .int (Zi m)), (0, .ref 83), (1, .int (Zi sl_))], [])) (fun _ => rfl) ?_
        refine B_loc (K := [(4, .int (Zi (k + 1))), (3, .int (Zi (n + 1))), (2, .int (Zi m)), (0, .ref 83), (1, .int (Zi sl_))]) (N_all_sub ⟨rfl, rfl, rfl, rfl, rfl, trivial⟩) (show ([4, 3, 2, 0, 1] : List Nat).Nodup by decide) ?_
        exact ih (k + 1) (n + 1) _ h (by omega) hs (hu.add s0 (by omega) k0 hg hpk2.1 hpk2.2 pv (by omega)) (by omega) (by omega)
      · refine Z_go (f2 := (118, [(4, .int (Zi k)), (3, .int (Zi n)), (2, .int (Zi m)), (0, .ref 83), (1, .int (Zi sl_))], [])) (fun _ => rfl) ?_
        refine Z_iinc (L2 := [(4, .int (Zi (k + 1))), (3, .int (Zi n)), (2, .int (Zi m)), (0, .ref 83), (1, .int (Zi sl_))]) rfl rfl (by decide) rfl ?_
        refine Z_go (f2 := (22, [(4, .int (Zi (k + 1))), (3, .int (Zi n)), (2, .int (Zi m)), (0, .ref 83), (1, .int (Zi sl_))], [])) (fun _ => rfl) ?_
        refine B_loc (K := [(4, .int (Zi (k + 1))), (3, .int (Zi n)), (2, .int (Zi m)), (0, .ref 83), (1, .int (Zi sl_))]) (N_all_sub ⟨rfl, rfl, rfl, rfl, rfl, trivial⟩) (show ([4, 3, 2, 0, 1] : List Nat).Nodup by decide) ?_
        exact ih (k + 1) n u h (by omega) hs (hu.skip (by rcases hflk (by omega) with q | q; omega; exact q.2)) (by omega) (by omega)
