/-! the reference: search, its files -/
/-- a list: of those below k that D holds of, in turn, what Q tells of it, if there is one -/
def X_hs {α : Type} (D : Int → Prop) (Q : Int → α → Prop) : Nat → List α → Prop
  | 0, H => H = []
  | k + 1, H => ∃ H0 r, X_hs D Q k H0 ∧ H = H0 ++ r ∧ ((D (k : Int) ∧ ∃ x, Q (k : Int) x ∧ r = [x]) ∨ (¬ (D (k : Int) ∧ ∃ x, Q (k : Int) x) ∧ r = []))
theorem X_hs_fn {α : Type} {D : Int → Prop} {Q : Int → α → Prop} (hQ : ∀ k x y, Q k x → Q k y → x = y) : ∀ (k : Nat) (H K : List α), X_hs D Q k H → X_hs D Q k K → H = K
  | 0, H, K, h, g => by rw [show H = [] from h, show K = [] from g]
  | k + 1, H, K, ⟨H0, r, h1, h2, h3⟩, ⟨K0, q, g1, g2, g3⟩ => by
    have e := X_hs_fn hQ k H0 K0 h1 g1
    rw [h2, g2, e]
    congr 1
    rcases h3 with ⟨h3, x, h4, h5⟩ | ⟨h3, h5⟩
    · rcases g3 with ⟨g3, y, g4, g5⟩ | ⟨g3, g5⟩
      · rw [h5, g5, hQ _ _ _ h4 g4]
      · exact absurd ⟨h3, x, h4⟩ g3
    · rcases g3 with ⟨g3, y, g4, g5⟩ | ⟨g3, g5⟩
      · exact absurd ⟨g3, y, g4⟩ h3
      · rw [h5, g5]
theorem X_hs_cong {α : Type} {D E : Int → Prop} {Q P : Int → α → Prop} : ∀ (k : Nat) (H : List α), (∀ j : Int, 0 ≤ j → j < k → (D j ↔ E j)) → (∀ (j : Int) (x : α), 0 ≤ j → j < k → D j → (Q j x ↔ P j x)) → X_hs D Q k H → X_hs E P k H
  | 0, _, _, _, h => h
  | k + 1, H, hD, hQ, ⟨H0, r, h1, h2, h3⟩ => by
    have hk := hD k (by omega) (by omega)
    refine ⟨H0, r, X_hs_cong k H0 (fun j j0 j1 => hD j j0 (by omega)) (fun j x j0 j1 => hQ j x j0 (by omega)) h1, h2, ?_⟩
    rcases h3 with ⟨h3, x, h4, h5⟩ | ⟨h3, h5⟩
    · exact .inl ⟨hk.mp h3, x, (hQ k x (by omega) (by omega) h3).mp h4, h5⟩
    · exact .inr ⟨fun ⟨a, x, b⟩ => h3 ⟨hk.mpr a, x, (hQ k x (by omega) (by omega) (hk.mpr a)).mpr b⟩, h5⟩
theorem X_hs_yes {α : Type} {D : Int → Prop} {Q : Int → α → Prop} {k : Nat} {H : List α} (h : X_hs D Q k H) (hD : D (k : Int)) {x : α} (hx : Q (k : Int) x) : X_hs D Q (k + 1) (H ++ [x]) := ⟨H, [x], h, rfl, .inl ⟨hD, x, hx, rfl⟩⟩
theorem X_hs_no {α : Type} {D : Int → Prop} {Q : Int → α → Prop} {k : Nat} {H : List α} (h : X_hs D Q k H) (hn : ¬ (D (k : Int) ∧ ∃ x, Q (k : Int) x)) : X_hs D Q (k + 1) H := ⟨H, [], h, (List.append_nil H).symm, .inr ⟨hn, rfl⟩⟩
theorem D_cn_up {P : Int → Prop} {k m K M : Int} (h : D_cn P k m) (g : D_cn P K M) (k0 : 0 ≤ k) (kK : k < K) (hk : P k) : m + 1 ≤ M := by
  obtain ⟨l, l1, l2, l3⟩ := h
  obtain ⟨r, r1, r2, r3⟩ := g
  have nd : (k :: l).Nodup := List.nodup_cons.mpr ⟨fun q => by have := ((l3 k).mp q).2.1; omega, l1⟩
  have := (S_card_of (A := fun j => j ∈ k :: l) nd (fun x => Iff.rfl) r.length).mp ⟨r, Nat.le_refl _, fun x hx => by
    rcases List.mem_cons.mp hx with rfl | hx
    · exact (r3 x).mpr ⟨k0, kK, hk⟩
    · obtain ⟨a, b, c⟩ := (l3 x).mp hx
      exact (r3 x).mpr ⟨a, by omega, c⟩⟩
  rw [List.length_cons] at this
  omega
/-- which files are opened, what is told of a hit -/
def X_D (s : R_S) (L : List (List Int)) (f : Int) : Prop := s.2.1 88 f = 1 ∧ X_me L (X_G (R_wb s f) (s.2.1 87 f))
def X_Q (s : R_S) (t : P_T) (f : Int) (x : List Int) : Prop := ∃ b e : Int, M_hit (R_wb s f) (s.2.1 87 f) t b e ∧ x = [f, b, e, X_lin (R_wb s f) b.toNat]
def R_ol (u : R_S) (O : List Int) : Prop := u.1 68 = O.length ∧ ∀ (i : Nat) (h : i < O.length), u.2.1 131 i = O[i]
def R_hl (u : R_S) (H : List (List Int)) : Prop := u.1 63 = H.length ∧ (∀ x ∈ H, x.length = 4) ∧ ∀ (i : Nat) (h : i < H.length) (q : Nat) (hq : q < 4), u.2.1 (127 + q) i = (H[i])[q]?.getD 0
def R_sl (s u : R_S) (t : P_T) (L : List (List Int)) (k : Int) : Prop := R_f4 [48, 63, 68] [89, 113, 114, 115, 116, 127, 128, 129, 130, 131] [119, 120, 121] s u ∧ ∃ O H, X_hs (X_D s L) (fun f x => x = f) k.toNat O ∧ X_hs (X_D s L) (X_Q s t) k.toNat H ∧ R_ol u O ∧ R_hl u H ∧ H.length ≤ O.length ∧ ∃ m, D_cn (fun f => s.2.1 88 f = 1) k m ∧ (O.length : Int) ≤ m
theorem R_sl.no {s u v : R_S} {t : P_T} {L : List (List Int)} {k : Int} (h : R_sl s u t L k) (k0 : 0 ≤ k) (hn : ¬ X_D s L k) (fr : R_f4 [] [89] [] u v) : R_sl s v t L (k + 1) := by
  obtain ⟨h1, O, H, h2, h3, ⟨h4, h5⟩, ⟨h6, h7, h8⟩, h9, m, h10, h11⟩ := h
  have ek : ((k.toNat : Nat) : Int) = k := by omega
  refine ⟨h1.tr fr (by simp) (by simp) (by simp), O, H, ?_, ?_, ⟨by rw [fr.1 68 (by simp)]; exact h4, fun i hi => by rw [fr.2.1 131 (by simp)]; exact h5 i hi⟩, ⟨by rw [fr.1 63 (by simp)]; exact h6, h7, fun i hi q hq => by rw [fr.2.1 (127 + q) (by simp; omega)]; exact h8 i hi q hq⟩, h9, ?_⟩
  · rw [show (k + 1).toNat = k.toNat + 1 by omega]
    exact X_hs_no h2 (fun q => hn (by rw [← ek]; exact q.1))
  · rw [show (k + 1).toNat = k.toNat + 1 by omega]
    exact X_hs_no h3 (fun q => hn (by rw [← ek]; exact q.1))
  · by_cases c : s.2.1 88 k = 1
    · exact ⟨m + 1, D_cn_yes h10 k0 c, by omega⟩
    · exact ⟨m, D_cn_no h10 c, h11⟩
theorem R_sl.yes {s u v w : R_S} {t : P_T} {L : List (List Int)} {k : Int} (h : R_sl s u t L k) (k0 : 0 ≤ k) (hy : X_D s L k) (fr : R_f4 [] [89] [] u v) (fw : R_f4 [48, 63, 68] [113, 114, 115, 116, 127, 128, 129, 130, 131] [119, 120, 121] v w) (hl : R_lkd v w k t) : R_sl s w t L (k + 1) := by
  obtain ⟨h1, O, H, h2, h3, ⟨h4, h5⟩, ⟨h6, h7, h8⟩, h9, m, h10, h11⟩ := h
  have ek : ((k.toNat : Nat) : Int) = k := by omega
  have eW : R_wb v k = R_wb s k := by
    funext i
    unfold R_wb R_by
    rw [fr.2.1 87 (by simp), fr.2.1 86 (by simp), fr.2.1 85 (by simp), h1.2.1 87 (by simp), h1.2.1 86 (by simp), h1.2.1 85 (by simp)]
  have e87 : v.2.1 87 k = s.2.1 87 k := by rw [fr.2.1 87 (by simp), h1.2.1 87 (by simp)]
  have v68 : v.1 68 = O.length := by rw [fr.1 68 (by simp)]; exact h4
  have v63 : v.1 63 = H.length := by rw [fr.1 63 (by simp)]; exact h6
  obtain ⟨l1, l2, l3⟩ := hl
  rw [eW, e87] at l3
  have hO : R_ol w (O ++ [k]) := by
    refine ⟨by rw [l1, v68, List.length_append]; rfl, fun i hi => ?_⟩
    rw [l2, v68]
    by_cases c : i < O.length
    · rw [if_neg (by omega), List.getElem_append_left c, fr.2.1 131 (by simp)]
      exact h5 i c
    · rw [List.length_append, List.length_cons, List.length_nil] at hi
      have : i = O.length := by omega
      subst this
      rw [if_pos rfl]
      simp
  have e1 : (k + 1).toNat = k.toNat + 1 := by omega
  have hD : D_cn (fun f => s.2.1 88 f = 1) (k + 1) (m + 1) := D_cn_yes h10 k0 hy.1
  have hyk : X_D s L ((k.toNat : Nat) : Int) := by rw [ek]; exact hy
  have h2' : X_hs (X_D s L) (fun f x => x = f) (k + 1).toNat (O ++ [k]) := by
    rw [e1]
    exact X_hs_yes h2 hyk (x := k) ek.symm
  have fA : R_f4 [48, 63, 68] [89, 113, 114, 115, 116, 127, 128, 129, 130, 131] [119, 120, 121] s w := (h1.tr fr (by simp) (by simp) (by simp)).tr fw (by simp) (by simp) (by simp)
  rcases l3 with ⟨n1, n2, n3⟩ | ⟨b, e, n1, n2, n3⟩
  · refine ⟨fA, O ++ [k], H, h2', ?_, hO, ⟨by rw [n2]; exact v63, h7, fun i hi q hq => by rw [n3 (127 + q) i (by omega) (by omega), fr.2.1 (127 + q) (by simp; omega)]; exact h8 i hi q hq⟩, by rw [List.length_append]; omega, m + 1, hD, by rw [List.length_append, List.length_cons, List.length_nil]; push_cast; omega⟩
    rw [e1]
    refine X_hs_no h3 ?_
    rintro ⟨_, x, b, e, q, _⟩
    rw [ek] at q
    exact n1 b e q.1
  · refine ⟨fA, O ++ [k], H ++ [[k, b, e, X_lin (R_wb s k) b.toNat]], h2', ?_, hO, ⟨by rw [n2, v63, List.length_append]; rfl, fun x hx => ?_, fun i hi q hq => ?_⟩, by simp only [List.length_append, List.length_cons, List.length_nil]; omega, m + 1, hD, by rw [List.length_append, List.length_cons, List.length_nil]; push_cast; omega⟩
    · rw [e1]
      exact X_hs_yes h3 hyk ⟨b, e, by rw [ek]; exact n1, by rw [ek]⟩
    · rcases List.mem_append.mp hx with hx | hx
      · exact h7 x hx
      · rw [List.mem_singleton.mp hx]; rfl
    · rw [n3 (127 + q) i (by omega) (by omega), v63]
      by_cases c : i < H.length
      · rw [if_neg (by omega), List.getElem_append_left c, fr.2.1 (127 + q) (by simp; omega)]
        exact h8 i c q hq
      · rw [List.length_append, List.length_cons, List.length_nil] at hi
        have : i = H.length := by omega
        subst this
        rw [if_pos rfl, List.getElem_append_right (Nat.le_refl _)]
        simp only [Nat.sub_self, List.getElem_cons_zero]
        obtain rfl | rfl | rfl | rfl : q = 0 ∨ q = 1 ∨ q = 2 ∨ q = 3 := by omega
        · rw [if_pos rfl]; rfl
        · rw [if_neg (by decide), if_pos rfl]; rfl
        · rw [if_neg (by decide), if_neg (by decide), if_pos rfl]; rfl
        · rw [if_neg (by decide), if_neg (by decide), if_neg (by decide)]; rfl
theorem R_se_lp {d : Nat} {h0 : E_H} {s : R_S} {sl : Nat} {Φ : E_R → Prop} {fo : Int} {tl : Int64} {t : P_T} {L : List (List Int)} (ht : T_is t) (hd : T_dp t ≤ 23) (hz : T_sz t ≤ 200) (hH : T_hh t ≤ 250) (p1 : s.1 13 ≤ 400) (p15 : s.1 15 ≤ 90) (w : R_fw s (-1)) (tl0 : R_tl s t) (dd : R_dd s 0 (X_dd t)) (hL : R_td s 122 123 0 640 L) (hr : ∀ r ∈ L, r.length ≤ 640) (l24 : L.length ≤ 24) (h56 : s.1 56 = L.length) (hc : D_cn (fun f => s.2.1 88 f = 1) (s.1 8) (s.1 7)) (h7 : s.1 7 ≤ 40) (kont : ∀ (u : R_S) (h : E_H), R_is h0 h u → R_sl s u t L (s.1 8) → B_R (d + 7) E_m276 (153, [(2, .long (tl)), (0, .ref 83), (1, .int (Zi fo))], []) h sl Φ) : ∀ (n : Nat) (k : Int) (u : R_S) (h : E_H), s.1 8 - k < n → R_is h0 h u → R_sl s u t L k → 0 ≤ k → k ≤ s.1 8 → B_R (d + 7) E_m276 (113, [(4, .int (Zi k)), (2, .long (tl)), (0, .ref 83), (1, .int (Zi fo))], []) h sl Φ := by
  intro n
  induction n with
  | zero => intro k u h hn hs hu k0 k1; omega
  | succ n ih =>
    intro k u h hn hs hu k0 k1
    obtain ⟨w1, w2, w3⟩ := w.w1
    have zk : Zr k := ⟨by omega, by omega⟩
    have f1 := hu.1
    have e8 : u.1 8 = s.1 8 := f1.1 8 (by decide)
    have e88 : u.2.1 88 k = s.2.1 88 k := f1.2.1 88 (by decide) k
    have z88 := w3 k
    refine Z_go (f2 := (115, [(4, .int (Zi k)), (2, .long (tl)), (0, .ref 83), (1, .int (Zi fo))], [.int (Zi k)])) (fun _ => rfl) ?_
    refine Z_go (f2 := (116, [(4, .int (Zi k)), (2, .long (tl)), (0, .ref 83), (1, .int (Zi fo))], [.ref 83, .int (Zi k)])) (fun _ => rfl) ?_
    refine R_gi rfl hs rfl ?_
    show B_R _ _ (119, [(4, .int (Zi k)), (2, .long (tl)), (0, .ref 83), (1, .int (Zi fo))], [.int (Zi (u.1 8)), .int (Zi k)]) _ _ _
    refine Z_cge rfl rfl (by first | exact hs.zF _ | exact Zor_r _ _ | exact hs.zA _ _ | assumption | exact zA _ _ | exact zS _ | exact Zr_not (hs.zA _ _) | exact ⟨by omega, by omega⟩) (by first | exact hs.zF _ | exact Zor_r _ _ | exact hs.zA _ _ | assumption | exact zA _ _ | exact zS _ | exact Zr_not (hs.zA _ _) | exact ⟨by omega, by omega⟩) (fun y1 => ?_) (fun y1 => ?_)
    · refine B_loc (K := [(2, .long (tl)), (0, .ref 83), (1, .int (Zi fo))]) (N_all_sub ⟨rfl, rfl, rfl, trivial⟩) (show ([2, 0, 1] : List Nat).Nodup by decide) ?_
      obtain rfl : k = s.1 8 := by omega
      exact kont u h hs hu
    · refine Z_go (f2 := (123, [(4, .int (Zi k)), (2, .long (tl)), (0, .ref 83), (1, .int (Zi fo))], [.ref 83])) (fun _ => rfl) ?_
      refine R_gr (q := 86) rfl hs rfl ?_
      show B_R _ _ (126, [(4, .int (Zi k)), (2, .long (tl)), (0, .ref 83), (1, .int (Zi fo))], [.ref 88]) _ _ _
      refine Z_go (f2 := (128, [(4, .int (Zi k)), (2, .long (tl)), (0, .ref 83), (1, .int (Zi fo))], [.int (Zi k), .ref 88])) (fun _ => rfl) ?_
      refine R_ba (q := 4) rfl hs rfl rfl (by omega) (by omega) (by decide) ?_
      refine Z_ieq rfl rfl (by first | exact hs.zF _ | exact Zor_r _ _ | exact hs.zA _ _ | assumption | exact zA _ _ | exact zS _ | exact Zr_not (hs.zA _ _) | exact ⟨by omega, by omega⟩) (fun y2 => ?_) (fun y2 => ?_)
      · refine Z_iinc (L2 := [(4, .int (Zi (k + 1))), (2, .long (tl)), (0, .ref 83), (1, .int (Zi fo))]) rfl rfl (by decide) rfl ?_
        refine Z_go (f2 := (113, [(4, .int (Zi (k + 1))), (2, .long (tl)), (0, .ref 83), (1, .int (Zi fo))], [])) (fun _ => rfl) ?_
        refine B_loc (K := [(4, .int (Zi (k + 1))), (2, .long (tl)), (0, .ref 83), (1, .int (Zi fo))]) (N_all_sub ⟨rfl, rfl, rfl, rfl, trivial⟩) (show ([4, 2, 0, 1] : List Nat).Nodup by decide) ?_
        exact ih (k + 1) u h (by omega) hs (hu.no k0 (fun q => by have := q.1; omega) (R_f4.rf _ _ _ _)) (by omega) (by omega)
      · have fin : R_isF s k := ⟨k0, by omega, by omega⟩
        have hlie := w.fl k fin (by omega)
        have hin : R_in s k := ⟨k0, by omega, hlie.1, hlie.2.1, hlie.2.2.1, by have := w.p1; have := hlie.2.2.2.1; omega, w.by_⟩
        have hinu : R_in u k := by unfold R_in; rw [f1.2.1 86 (by decide), f1.2.1 87 (by decide), show u.2.1 85 = s.2.1 85 from funext (fun j => f1.2.1 85 (by decide) j)]; exact hin
        refine Z_go (f2 := (133, [(4, .int (Zi k)), (2, .long (tl)), (0, .ref 83), (1, .int (Zi fo))], [.ref 83])) (fun _ => rfl) ?_
        refine Z_go (f2 := (135, [(4, .int (Zi k)), (2, .long (tl)), (0, .ref 83), (1, .int (Zi fo))], [.int (Zi k), .ref 83])) (fun _ => rfl) ?_
        refine R_call (As := [.int (Zi k)]) (rest := []) rfl (by decide) rfl rfl rfl rfl (by decide +kernel) (Nat.le_of_ble_eq_true rfl) hs (R_meetsWant _ u (L := L) zk hinu (fun p hp => by rw [f1.2.1 122 (by decide)]; refine ⟨(hL p hp).1, fun x hx => ?_⟩; rw [f1.2.1 123 (by decide)]; exact (hL p hp).2 x hx) hr l24 (by rw [f1.1 56 (by decide)]; exact h56)) (fun x h v hs q => ?_)
        obtain ⟨fv, a, rfl, ha⟩ := q
        have eWu : R_wb u k = R_wb s k := by
          funext i
          unfold R_wb R_by
          rw [f1.2.1 87 (by decide), f1.2.1 86 (by decide), f1.2.1 85 (by decide)]
        rw [eWu, f1.2.1 87 (by decide)] at ha
        show B_R _ _ (138, [(4, .int (Zi k)), (2, .long (tl)), (0, .ref 83), (1, .int (Zi fo))], [.int (Zi a)]) _ _ _
        refine Z_ieq rfl rfl (by first | exact hs.zF _ | exact Zor_r _ _ | exact hs.zA _ _ | assumption | exact zA _ _ | exact zS _ | exact Zr_not (hs.zA _ _) | exact ⟨by omega, by omega⟩) (fun y3 => ?_) (fun y3 => ?_)
        · refine Z_iinc (L2 := [(4, .int (Zi (k + 1))), (2, .long (tl)), (0, .ref 83), (1, .int (Zi fo))]) rfl rfl (by decide) rfl ?_
          refine Z_go (f2 := (113, [(4, .int (Zi (k + 1))), (2, .long (tl)), (0, .ref 83), (1, .int (Zi fo))], [])) (fun _ => rfl) ?_
          refine B_loc (K := [(4, .int (Zi (k + 1))), (2, .long (tl)), (0, .ref 83), (1, .int (Zi fo))]) (N_all_sub ⟨rfl, rfl, rfl, rfl, trivial⟩) (show ([4, 2, 0, 1] : List Nat).Nodup by decide) ?_
          exact ih (k + 1) v h (by omega) hs (hu.no k0 (fun q => by rcases ha with z | z; omega; exact z.2 q.2) fv) (by omega) (by omega)
        · have hyes : X_D s L k := ⟨by omega, by rcases ha with z | z; exact z.2; omega⟩
          obtain ⟨O, H, q2, q3, ⟨q4, q5⟩, ⟨q6, q7, q8⟩, q9, m, q10, q11⟩ := hu.2
          have hmm := D_cn_up q10 hc k0 (by omega) hyes.1
          have v68 : v.1 68 = u.1 68 := fv.1 68 (by decide)
          have v63 : v.1 63 = u.1 63 := fv.1 63 (by decide)
          have p13 : v.1 13 ≤ 400 := by rw [fv.1 13 (by decide), f1.1 13 (by decide)]; exact p1
          have p15v : v.1 15 ≤ 90 := by rw [fv.1 15 (by decide), f1.1 15 (by decide)]; exact p15
          have hinv : R_in v k := by unfold R_in; rw [fv.2.1 86 (by decide), fv.2.1 87 (by decide), show v.2.1 85 = u.2.1 85 from funext (fun j => fv.2.1 85 (by decide) j)]; exact hinu
          have tlv : R_tl v t := tl0.cong (by rw [fv.1 13 (by decide), f1.1 13 (by decide)]) (by rw [fv.1 15 (by decide), f1.1 15 (by decide)]) (fun q j hq => by rw [fv.2.1 q (by rcases hq with rfl | rfl | rfl | rfl <;> decide), f1.2.1 q (by rcases hq with rfl | rfl | rfl | rfl <;> decide)])
          have ddv : R_dd v 0 (X_dd t) := dd.at (fun i _ _ => by rw [fv.2.1 117 (by decide), f1.2.1 117 (by decide)])
          have o0 : 0 ≤ v.1 68 := by omega
          have o1 : v.1 68 < 40 := by omega
          have i0 : 0 ≤ v.1 63 := by omega
          have i1 : v.1 63 < 40 := by omega
          refine Z_go (f2 := (142, [(4, .int (Zi k)), (2, .long (tl)), (0, .ref 83), (1, .int (Zi fo))], [.ref 83])) (fun _ => rfl) ?_
          refine Z_go (f2 := (144, [(4, .int (Zi k)), (2, .long (tl)), (0, .ref 83), (1, .int (Zi fo))], [.int (Zi k), .ref 83])) (fun _ => rfl) ?_
          refine R_call (As := [.int (Zi k)]) (rest := []) rfl (by decide) rfl rfl rfl rfl (by decide +kernel) (Nat.le_of_ble_eq_true rfl) hs (R_looks _ v (t := t) zk ht hd hz hH p13 p15v hinv tlv ddv o0 o1 i0 i1) (fun x h x9 hs q => ?_)
          obtain ⟨rfl, g1, g2⟩ := q
          show B_R _ _ (147, [(4, .int (Zi k)), (2, .long (tl)), (0, .ref 83), (1, .int (Zi fo))], []) _ _ _
          refine Z_iinc (L2 := [(4, .int (Zi (k + 1))), (2, .long (tl)), (0, .ref 83), (1, .int (Zi fo))]) rfl rfl (by decide) rfl ?_
          refine Z_go (f2 := (113, [(4, .int (Zi (k + 1))), (2, .long (tl)), (0, .ref 83), (1, .int (Zi fo))], [])) (fun _ => rfl) ?_
          refine B_loc (K := [(4, .int (Zi (k + 1))), (2, .long (tl)), (0, .ref 83), (1, .int (Zi fo))]) (N_all_sub ⟨rfl, rfl, rfl, rfl, trivial⟩) (show ([4, 2, 0, 1] : List Nat).Nodup by decide) ?_
          exact ih (k + 1) x9 h (by omega) hs (hu.yes k0 hyes fv g1 g2) (by omega) (by omega)
