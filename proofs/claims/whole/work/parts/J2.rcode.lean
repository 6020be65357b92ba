/-! the reference: its code, piece by piece -/
abbrev X_L : Type := List (Int × Int)
/-- the list L stands in the arrays q, q + 1 from p on -/
def R_xl (s : R_S) (p : Int) (L : X_L) : Prop := ∀ (i : Nat) (h : i < L.length), s.2.1 113 (p + i) = L[i].1 ∧ s.2.1 114 (p + i) = L[i].2
/-- the code is L -/
def R_xc (s : R_S) (L : X_L) : Prop := s.1 48 = L.length ∧ R_xl s 0 L
/-- what is set aside is L -/
def R_xs (s : R_S) (L : X_L) : Prop := ∀ (i : Nat) (h : i < L.length), s.2.1 116 (2 * i) = L[i].1 ∧ s.2.1 116 (2 * i + 1) = L[i].2
def R_xf (s u : R_S) : Prop := R_fr [48] [113, 114, 116] s u
theorem R_xl.app {s : R_S} {p : Int} {K L : X_L} (h : R_xl s p (K ++ L)) : R_xl s p K ∧ R_xl s (p + K.length) L := by
  refine ⟨fun i hi => ?_, fun i hi => ?_⟩
  · have := h i (by rw [List.length_append]; omega)
    rw [List.getElem_append_left hi] at this
    exact this
  · have := h (K.length + i) (by rw [List.length_append]; omega)
    rw [List.getElem_append_right (by omega)] at this
    simp only [Nat.add_sub_cancel_left] at this
    rw [show p + (K.length : Int) + (i : Int) = p + ((K.length + i : Nat) : Int) by omega]
    exact this
theorem R_xl.of {s : R_S} {p : Int} {K L : X_L} (h : R_xl s p K) (g : R_xl s (p + K.length) L) : R_xl s p (K ++ L) := by
  intro i hi
  by_cases c : i < K.length
  · rw [List.getElem_append_left c]
    exact h i c
  · rw [List.getElem_append_right (by omega)]
    rw [List.length_append] at hi
    have := g (i - K.length) (by omega)
    rw [show p + (K.length : Int) + ((i - K.length : Nat) : Int) = p + (i : Int) by omega] at this
    exact this
theorem R_xl.at {s u : R_S} {p q : Int} {L : X_L} (h : R_xl s p L) (g : ∀ i : Int, 0 ≤ i → i < L.length → u.2.1 113 (q + i) = s.2.1 113 (p + i) ∧ u.2.1 114 (q + i) = s.2.1 114 (p + i)) : R_xl u q L := fun i hi => by
  obtain ⟨h1, h2⟩ := h i hi
  obtain ⟨g1, g2⟩ := g i (by omega) (by omega)
  exact ⟨g1.trans h1, g2.trans h2⟩
theorem R_xl.one {s : R_S} {p x y : Int} (h1 : s.2.1 113 p = x) (h2 : s.2.1 114 p = y) : R_xl s p [(x, y)] := fun i hi => by
  have : i = 0 := by simp only [List.length_cons, List.length_nil] at hi; omega
  subst this
  rw [show p + ((0 : Nat) : Int) = p by omega]
  exact ⟨h1, h2⟩
theorem R_code (d : Nat) (s : R_S) {op p : Int}  (zop : Zr op) (zp : Zr p) (w0 : 0 ≤ s.1 48) (w : s.1 48 < 3000) : R_ok (d + 1) 250 [.int (Zi op), .int (Zi p)] s (fun x s2 => x = none ∧ s2 = R_sF (R_sA (R_sA s 113 (s.1 48) op) 114 (s.1 48) p) 48 (s.1 48 + 1)) := by
  refine R_enter (M := E_m250) rfl (Nat.le_of_ble_eq_true rfl) (fun h0 h hs => ?_)
  show B_R d _ (0, [(0, .ref 83), (1, .int (Zi op)), (2, .int (Zi p))], []) _ _ _
  refine Z_go (f2 := (1, [(0, .ref 83), (1, .int (Zi op)), (2, .int (Zi p))], [.ref 83])) (fun _ => rfl) ?_
  refine R_gr (q := 111) rfl hs rfl ?_
  show B_R _ _ (4, [(0, .ref 83), (1, .int (Zi op)), (2, .int (Zi p))], [.ref 113]) _ _ _
  refine Z_go (f2 := (5, [(0, .ref 83), (1, .int (Zi op)), (2, .int (Zi p))], [.ref 83, .ref 113])) (fun _ => rfl) ?_
  refine R_gi rfl hs rfl ?_
  show B_R _ _ (8, [(0, .ref 83), (1, .int (Zi op)), (2, .int (Zi p))], [.int (Zi (s.1 48)), .ref 113]) _ _ _
  refine Z_go (f2 := (9, [(0, .ref 83), (1, .int (Zi op)), (2, .int (Zi p))], [.int (Zi op), .int (Zi (s.1 48)), .ref 113])) (fun _ => rfl) ?_
  refine R_is_ (q := 29) rfl hs rfl rfl (by omega) (by omega) (by decide) (by first | exact hs.zF _ | exact Zor_r _ _ | exact hs.zA _ _ | assumption | exact zA _ _ | exact zS _ | exact Zr_not (hs.zA _ _) | exact ⟨by omega, by omega⟩) (fun h hs => ?_)
  refine Z_go (f2 := (11, [(0, .ref 83), (1, .int (Zi op)), (2, .int (Zi p))], [.ref 83])) (fun _ => rfl) ?_
  refine R_gr (q := 112) rfl hs rfl ?_
  show B_R _ _ (14, [(0, .ref 83), (1, .int (Zi op)), (2, .int (Zi p))], [.ref 114]) _ _ _
  refine Z_go (f2 := (15, [(0, .ref 83), (1, .int (Zi op)), (2, .int (Zi p))], [.ref 83, .ref 114])) (fun _ => rfl) ?_
  refine R_gi rfl hs rfl ?_
  show B_R _ _ (18, [(0, .ref 83), (1, .int (Zi op)), (2, .int (Zi p))], [.int (Zi (s.1 48)), .ref 114]) _ _ _
  refine Z_go (f2 := (19, [(0, .ref 83), (1, .int (Zi op)), (2, .int (Zi p))], [.int (Zi p), .int (Zi (s.1 48)), .ref 114])) (fun _ => rfl) ?_
  refine R_is_ (q := 30) rfl hs rfl rfl (by omega) (by omega) (by decide) (by first | exact hs.zF _ | exact Zor_r _ _ | exact hs.zA _ _ | assumption | exact zA _ _ | exact zS _ | exact Zr_not (hs.zA _ _) | exact ⟨by omega, by omega⟩) (fun h hs => ?_)
  refine Z_go (f2 := (21, [(0, .ref 83), (1, .int (Zi op)), (2, .int (Zi p))], [.ref 83])) (fun _ => rfl) ?_
  refine Z_go (f2 := (22, [(0, .ref 83), (1, .int (Zi op)), (2, .int (Zi p))], [.ref 83, .ref 83])) (fun _ => rfl) ?_
  refine R_gi rfl hs rfl ?_
  show B_R _ _ (25, [(0, .ref 83), (1, .int (Zi op)), (2, .int (Zi p))], [.int (Zi (s.1 48)), .ref 83]) _ _ _
  refine Z_go (f2 := (26, [(0, .ref 83), (1, .int (Zi op)), (2, .int (Zi p))], [.int (Zi 1), .int (Zi (s.1 48)), .ref 83])) (fun _ => rfl) ?_
  refine Z_iadd rfl ?_
  refine R_pf rfl hs rfl (by first | exact hs.zF _ | exact Zor_r _ _ | exact hs.zA _ _ | assumption | exact zA _ _ | exact zS _ | exact Zr_not (hs.zA _ _) | exact ⟨by omega, by omega⟩) ⟨rfl, rfl, rfl⟩ (fun h hs => ?_)
  refine Z_ret rfl rfl ⟨_, hs, ?_, rfl⟩
  exact ⟨rfl, rfl⟩
theorem R_xcode {s : R_S} {L : X_L} (h : R_xc s L) (op p : Int) : R_xc (R_sF (R_sA (R_sA s 113 (s.1 48) op) 114 (s.1 48) p) 48 (s.1 48 + 1)) (L ++ [(op, p)]) ∧ R_xf s (R_sF (R_sA (R_sA s 113 (s.1 48) op) 114 (s.1 48) p) 48 (s.1 48 + 1)) ∧ ∀ i, (R_sF (R_sA (R_sA s 113 (s.1 48) op) 114 (s.1 48) p) 48 (s.1 48 + 1)).2.1 116 i = s.2.1 116 i := by
  have h1 := h.1
  have e113 : ∀ i, (R_sF (R_sA (R_sA s 113 (s.1 48) op) 114 (s.1 48) p) 48 (s.1 48 + 1)).2.1 113 i = if i = s.1 48 then op else s.2.1 113 i := fun i => by
    rw [R_sF_a, R_sA_n _ _ _ _ (by decide)]
    by_cases c : i = s.1 48
    · rw [if_pos c, c, R_sA_s]
    · rw [if_neg c, R_sA_m _ _ _ _ c]
  have e114 : ∀ i, (R_sF (R_sA (R_sA s 113 (s.1 48) op) 114 (s.1 48) p) 48 (s.1 48 + 1)).2.1 114 i = if i = s.1 48 then p else s.2.1 114 i := fun i => by
    rw [R_sF_a]
    by_cases c : i = s.1 48
    · rw [if_pos c, c, R_sA_s]
    · rw [if_neg c, R_sA_m _ _ _ _ c, R_sA_n _ _ _ _ (by decide)]
  refine ⟨⟨?_, R_xl.of (h.2.at (fun i i0 i1 => by rw [e113, e114, if_neg (by omega), if_neg (by omega)]; exact ⟨rfl, rfl⟩)) (R_xl.one (by rw [e113, if_pos (by omega)]) (by rw [e114, if_pos (by omega)]))⟩, ⟨fun b hb => R_sF_n _ _ (fun e => hb (by rw [e]; decide)), fun q hq j => ?_, rfl⟩, fun i => ?_⟩
  · rw [R_sF_s, List.length_append, h1]
    rfl
  · rw [R_sF_a, R_sA_n _ _ _ _ (fun e => hq (by rw [e]; decide)), R_sA_n _ _ _ _ (fun e => hq (by rw [e]; decide))]
  · rw [R_sF_a, R_sA_n _ _ _ _ (by decide), R_sA_n _ _ _ _ (by decide)]
theorem R_code2 (d : Nat) (s : R_S) {L : X_L} {op p : Int} (zo : Zr op) (zp : Zr p) (h : R_xc s L) (hl : L.length < 3000) : R_ok (d + 1) 250 [.int (Zi op), .int (Zi p)] s (fun x s2 => x = none ∧ R_xc s2 (L ++ [(op, p)]) ∧ R_xf s s2 ∧ ∀ i, s2.2.1 116 i = s.2.1 116 i) := by
  have h1 := h.1
  exact (R_code d s zo zp (by omega) (by omega)).weak (fun x s2 ⟨e1, e2⟩ => ⟨e1, by rw [e2]; exact R_xcode h op p⟩)
/-- one place on, behind k -/
def R_ins (s u : R_S) (c k : Int) : Prop := R_fr [48] [113, 114, 116] s u ∧ u.1 48 = s.1 48 ∧ (∀ i, u.2.1 116 i = s.2.1 116 i) ∧ (∀ i, u.2.1 113 i = if k < i ∧ i ≤ c then s.2.1 113 (i - 1) else s.2.1 113 i) ∧ (∀ i, u.2.1 114 i = if k < i ∧ i ≤ c then s.2.1 114 (i - 1) else s.2.1 114 i)
theorem R_ins.st {s u : R_S} {c k : Int} (h : R_ins s u c k) (hk : k ≤ c) : R_ins s (R_sA (R_sA u 113 k (u.2.1 113 (k - 1))) 114 k ((R_sA u 113 k (u.2.1 113 (k - 1))).2.1 114 (k - 1))) c (k - 1) := by
  obtain ⟨h1, h2, h3, h4, h5⟩ := h
  refine ⟨h1.tr ⟨fun _ _ => rfl, fun q hq j => by rw [R_sA_n _ _ _ _ (fun e => hq (by rw [e]; decide)), R_sA_n _ _ _ _ (fun e => hq (by rw [e]; decide))], rfl⟩, h2, fun i => by rw [R_sA_n _ _ _ _ (by decide), R_sA_n _ _ _ _ (by decide)]; exact h3 i, fun i => ?_, fun i => ?_⟩
  · rw [R_sA_n _ _ _ _ (by decide)]
    by_cases e : i = k
    · rw [e, R_sA_s, h4, if_neg (by omega), if_pos (by omega)]
    · rw [R_sA_m _ _ _ _ e, h4]
      by_cases e2 : k < i ∧ i ≤ c
      · rw [if_pos e2, if_pos (by omega)]
      · rw [if_neg e2, if_neg (by omega)]
  · by_cases e : i = k
    · rw [e, R_sA_s, R_sA_n _ _ _ _ (by decide), h5, if_neg (by omega), if_pos (by omega)]
    · rw [R_sA_m _ _ _ _ e, R_sA_n _ _ _ _ (by decide), h5]
      by_cases e2 : k < i ∧ i ≤ c
      · rw [if_pos e2, if_pos (by omega)]
      · rw [if_neg e2, if_neg (by omega)]
theorem R_ins_0 (s : R_S) (c : Int) : R_ins s s c c := ⟨⟨fun _ _ => rfl, fun _ _ _ => rfl, rfl⟩, rfl, fun _ => rfl, fun i => by rw [if_neg (by omega)], fun i => by rw [if_neg (by omega)]⟩
theorem R_ins_lp {d : Nat} {h0 : E_H} {s : R_S} {sl : Nat} {Φ : E_R → Prop} {p op c : Int} (p0 : 0 ≤ p) (c1 : c < 3000) (zo : Zr op) (hc : c = s.1 48) (kont : ∀ (u : R_S) (h : E_H), R_is h0 h u → R_ins s u c p → B_R d E_m251 (44, [(0, .ref 83), (1, .int (Zi p)), (2, .int (Zi op))], []) h sl Φ) : ∀ (t : Nat) (k : Int) (u : R_S) (h : E_H), k - p < t → R_is h0 h u → R_ins s u c k → p ≤ k → k ≤ c → B_R d E_m251 (5, [(3, .int (Zi k)), (0, .ref 83), (1, .int (Zi p)), (2, .int (Zi op))], []) h sl Φ := by
  intro t
  induction t with
  | zero => intro k u h ht hs hu k0 k1; omega
  | succ t ih =>
    intro k u h ht hs hu k0 k1
    have zA : ∀ q j, Zr (u.2.1 q j) := fun q j => hs.zA q j
    refine Z_go (f2 := (6, [(3, .int (Zi k)), (0, .ref 83), (1, .int (Zi p)), (2, .int (Zi op))], [.int (Zi k)])) (fun _ => rfl) ?_
    refine Z_go (f2 := (7, [(3, .int (Zi k)), (0, .ref 83), (1, .int (Zi p)), (2, .int (Zi op))], [.int (Zi p), .int (Zi k)])) (fun _ => rfl) ?_
    refine Z_cle rfl rfl (by first | exact hs.zF _ | exact Zor_r _ _ | exact hs.zA _ _ | assumption | exact zA _ _ | exact zS _ | exact Zr_not (hs.zA _ _) | exact ⟨by omega, by omega⟩) (by first | exact hs.zF _ | exact Zor_r _ _ | exact hs.zA _ _ | assumption | exact zA _ _ | exact zS _ | exact Zr_not (hs.zA _ _) | exact ⟨by omega, by omega⟩) (fun c1 => ?_) (fun c1 => ?_)
    · refine B_loc (K := [(0, .ref 83), (1, .int (Zi p)), (2, .int (Zi op))]) (N_all_sub ⟨rfl, rfl, rfl, trivial⟩) (show ([0, 1, 2] : List Nat).Nodup by decide) ?_
      obtain rfl : k = p := by omega
      exact kont u h hs hu
    · refine Z_go (f2 := (11, [(3, .int (Zi k)), (0, .ref 83), (1, .int (Zi p)), (2, .int (Zi op))], [.ref 83])) (fun _ => rfl) ?_
      refine R_gr (q := 111) rfl hs rfl ?_
      show B_R _ _ (14, [(3, .int (Zi k)), (0, .ref 83), (1, .int (Zi p)), (2, .int (Zi op))], [.ref 113]) _ _ _
      refine Z_go (f2 := (15, [(3, .int (Zi k)), (0, .ref 83), (1, .int (Zi p)), (2, .int (Zi op))], [.int (Zi k), .ref 113])) (fun _ => rfl) ?_
      refine Z_go (f2 := (16, [(3, .int (Zi k)), (0, .ref 83), (1, .int (Zi p)), (2, .int (Zi op))], [.ref 83, .int (Zi k), .ref 113])) (fun _ => rfl) ?_
      refine R_gr (q := 111) rfl hs rfl ?_
      show B_R _ _ (19, [(3, .int (Zi k)), (0, .ref 83), (1, .int (Zi p)), (2, .int (Zi op))], [.ref 113, .int (Zi k), .ref 113]) _ _ _
      refine Z_go (f2 := (20, [(3, .int (Zi k)), (0, .ref 83), (1, .int (Zi p)), (2, .int (Zi op))], [.int (Zi k), .ref 113, .int (Zi k), .ref 113])) (fun _ => rfl) ?_
      refine Z_go (f2 := (21, [(3, .int (Zi k)), (0, .ref 83), (1, .int (Zi p)), (2, .int (Zi op))], [.int (Zi 1), .int (Zi k), .ref 113, .int (Zi k), .ref 113])) (fun _ => rfl) ?_
      refine Z_isub rfl ?_
      refine R_ia (q := 29) rfl hs rfl rfl (by omega) (by omega) (by decide) ?_
      refine R_is_ (q := 29) rfl hs rfl rfl (by omega) (by omega) (by decide) (by first | exact hs.zF _ | exact Zor_r _ _ | exact hs.zA _ _ | assumption | exact zA _ _ | exact zS _ | exact Zr_not (hs.zA _ _) | exact ⟨by omega, by omega⟩) (fun h hs => ?_)
      refine Z_go (f2 := (25, [(3, .int (Zi k)), (0, .ref 83), (1, .int (Zi p)), (2, .int (Zi op))], [.ref 83])) (fun _ => rfl) ?_
      refine R_gr (q := 112) rfl hs rfl ?_
      show B_R _ _ (28, [(3, .int (Zi k)), (0, .ref 83), (1, .int (Zi p)), (2, .int (Zi op))], [.ref 114]) _ _ _
      refine Z_go (f2 := (29, [(3, .int (Zi k)), (0, .ref 83), (1, .int (Zi p)), (2, .int (Zi op))], [.int (Zi k), .ref 114])) (fun _ => rfl) ?_
      refine Z_go (f2 := (30, [(3, .int (Zi k)), (0, .ref 83), (1, .int (Zi p)), (2, .int (Zi op))], [.ref 83, .int (Zi k), .ref 114])) (fun _ => rfl) ?_
      refine R_gr (q := 112) rfl hs rfl ?_
      show B_R _ _ (33, [(3, .int (Zi k)), (0, .ref 83), (1, .int (Zi p)), (2, .int (Zi op))], [.ref 114, .int (Zi k), .ref 114]) _ _ _
      refine Z_go (f2 := (34, [(3, .int (Zi k)), (0, .ref 83), (1, .int (Zi p)), (2, .int (Zi op))], [.int (Zi k), .ref 114, .int (Zi k), .ref 114])) (fun _ => rfl) ?_
      refine Z_go (f2 := (35, [(3, .int (Zi k)), (0, .ref 83), (1, .int (Zi p)), (2, .int (Zi op))], [.int (Zi 1), .int (Zi k), .ref 114, .int (Zi k), .ref 114])) (fun _ => rfl) ?_
      refine Z_isub rfl ?_
      refine R_ia (q := 30) rfl hs rfl rfl (by omega) (by omega) (by decide) ?_
      rw [show (R_sA u 113 k (u.2.1 113 (k - 1))).2.1 114 (k - 1) = u.2.1 114 (k - 1) by first | rfl | simp [R_sA, R_sF, R_up2, R_fl, R_fL, R_sM, R_sL, R_p3, R_em]]; show B_R _ _ (37, [(3, .int (Zi k)), (0, .ref 83), (1, .int (Zi p)), (2, .int (Zi op))], [.int (Zi (u.2.1 114 (k - 1))), .int (Zi k), .ref 114]) _ _ _
      refine R_is_ (q := 30) rfl hs rfl rfl (by omega) (by omega) (by decide) (by first | exact hs.zF _ | exact Zor_r _ _ | exact hs.zA _ _ | assumption | exact zA _ _ | exact zS _ | exact Zr_not (hs.zA _ _) | exact ⟨by omega, by omega⟩) (fun h hs => ?_)
      refine Z_iinc (L2 := [(3, .int (Zi (k + (-1)))), (0, .ref 83), (1, .int (Zi p)), (2, .int (Zi op))]) rfl rfl (by decide) rfl ?_
      refine Z_go (f2 := (5, [(3, .int (Zi (k + (-1)))), (0, .ref 83), (1, .int (Zi p)), (2, .int (Zi op))], [])) (fun _ => rfl) ?_
      refine B_loc (K := [(3, .int (Zi (k + (-1)))), (0, .ref 83), (1, .int (Zi p)), (2, .int (Zi op))]) (N_all_sub ⟨rfl, rfl, rfl, rfl, trivial⟩) (show ([3, 0, 1, 2] : List Nat).Nodup by decide) ?_
      rw [show k + (-1) = k - 1 by omega]
      exact ih (k - 1) _ h (by omega) hs (hu.st k1) (by omega) (by omega)
theorem R_inserts (d : Nat) (s : R_S) {p op : Int} {K B : X_L} (zp : Zr p) (zo : Zr op) (hp : p = K.length) (hx : R_xc s (K ++ B)) (hl : K.length + B.length < 3000) : R_ok (d + 1) 251 [.int (Zi p), .int (Zi op)] s (fun x s2 => x = none ∧ R_xc s2 (K ++ (op, 0) :: B) ∧ R_xf s s2 ∧ ∀ i, s2.2.1 116 i = s.2.1 116 i) := by
  refine R_enter (M := E_m251) rfl (Nat.le_of_ble_eq_true rfl) (fun h0 h_ hs => ?_)
  show B_R d _ (0, [(0, .ref 83), (1, .int (Zi p)), (2, .int (Zi op))], []) _ _ _
  have hc := hx.1
  rw [List.length_append] at hc
  refine Z_go (f2 := (1, [(0, .ref 83), (1, .int (Zi p)), (2, .int (Zi op))], [.ref 83])) (fun _ => rfl) ?_
  refine R_gi rfl hs rfl ?_
  show B_R _ _ (4, [(0, .ref 83), (1, .int (Zi p)), (2, .int (Zi op))], [.int (Zi (s.1 48))]) _ _ _
  refine Z_go (f2 := (5, [(3, .int (Zi (s.1 48))), (0, .ref 83), (1, .int (Zi p)), (2, .int (Zi op))], [])) (fun _ => rfl) ?_
  refine B_loc (K := [(3, .int (Zi (s.1 48))), (0, .ref 83), (1, .int (Zi p)), (2, .int (Zi op))]) (N_all_sub ⟨rfl, rfl, rfl, rfl, trivial⟩) (show ([3, 0, 1, 2] : List Nat).Nodup by decide) ?_
  refine R_ins_lp (c := s.1 48) (by omega) (by omega) zo rfl (fun u h2 hs hu => ?_) (B.length + 1) (s.1 48) s _ (by omega) hs (R_ins_0 s _) (by omega) (by omega)
  obtain ⟨u1, u2, u3, u4, u5⟩ := hu
  refine Z_go (f2 := (45, [(0, .ref 83), (1, .int (Zi p)), (2, .int (Zi op))], [.ref 83])) (fun _ => rfl) ?_
  refine R_gr (q := 111) rfl hs rfl ?_
  show B_R _ _ (48, [(0, .ref 83), (1, .int (Zi p)), (2, .int (Zi op))], [.ref 113]) _ _ _
  refine Z_go (f2 := (49, [(0, .ref 83), (1, .int (Zi p)), (2, .int (Zi op))], [.int (Zi p), .ref 113])) (fun _ => rfl) ?_
  refine Z_go (f2 := (50, [(0, .ref 83), (1, .int (Zi p)), (2, .int (Zi op))], [.int (Zi op), .int (Zi p), .ref 113])) (fun _ => rfl) ?_
  refine R_is_ (q := 29) rfl hs rfl rfl (by omega) (by omega) (by decide) (by first | exact hs.zF _ | exact Zor_r _ _ | exact hs.zA _ _ | assumption | exact zA _ _ | exact zS _ | exact Zr_not (hs.zA _ _) | exact ⟨by omega, by omega⟩) (fun h hs => ?_)
  refine Z_go (f2 := (52, [(0, .ref 83), (1, .int (Zi p)), (2, .int (Zi op))], [.ref 83])) (fun _ => rfl) ?_
  refine R_gr (q := 112) rfl hs rfl ?_
  show B_R _ _ (55, [(0, .ref 83), (1, .int (Zi p)), (2, .int (Zi op))], [.ref 114]) _ _ _
  refine Z_go (f2 := (56, [(0, .ref 83), (1, .int (Zi p)), (2, .int (Zi op))], [.int (Zi p), .ref 114])) (fun _ => rfl) ?_
  refine Z_go (f2 := (57, [(0, .ref 83), (1, .int (Zi p)), (2, .int (Zi op))], [.int (Zi 0), .int (Zi p), .ref 114])) (fun _ => rfl) ?_
  refine R_is_ (q := 30) rfl hs rfl rfl (by omega) (by omega) (by decide) (by first | exact hs.zF _ | exact Zor_r _ _ | exact hs.zA _ _ | assumption | exact zA _ _ | exact zS _ | exact Zr_not (hs.zA _ _) | exact ⟨by omega, by omega⟩) (fun h hs => ?_)
  refine Z_go (f2 := (59, [(0, .ref 83), (1, .int (Zi p)), (2, .int (Zi op))], [.ref 83])) (fun _ => rfl) ?_
  refine Z_go (f2 := (60, [(0, .ref 83), (1, .int (Zi p)), (2, .int (Zi op))], [.ref 83, .ref 83])) (fun _ => rfl) ?_
  refine R_gi rfl hs rfl ?_
  show B_R _ _ (63, [(0, .ref 83), (1, .int (Zi p)), (2, .int (Zi op))], [.int (Zi (u.1 48)), .ref 83]) _ _ _
  refine Z_go (f2 := (64, [(0, .ref 83), (1, .int (Zi p)), (2, .int (Zi op))], [.int (Zi 1), .int (Zi (u.1 48)), .ref 83])) (fun _ => rfl) ?_
  refine Z_iadd rfl ?_
  refine R_pf rfl hs rfl (by first | exact hs.zF _ | exact Zor_r _ _ | exact hs.zA _ _ | assumption | exact zA _ _ | exact zS _ | exact Zr_not (hs.zA _ _) | exact ⟨by omega, by omega⟩) ⟨rfl, rfl, rfl⟩ (fun h hs => ?_)
  refine Z_ret rfl rfl ⟨_, hs, ?_, rfl⟩
  obtain ⟨hK, hB⟩ := hx.2.app
  have e113 : ∀ i, (R_sF (R_sA (R_sA u 113 p op) 114 p 0) 48 (u.1 48 + 1)).2.1 113 i = if i = p then op else u.2.1 113 i := fun i => by
    rw [R_sF_a, R_sA_n _ _ _ _ (by decide)]
    by_cases c : i = p
    · rw [if_pos c, c, R_sA_s]
    · rw [if_neg c, R_sA_m _ _ _ _ c]
  have e114 : ∀ i, (R_sF (R_sA (R_sA u 113 p op) 114 p 0) 48 (u.1 48 + 1)).2.1 114 i = if i = p then 0 else u.2.1 114 i := fun i => by
    rw [R_sF_a]
    by_cases c : i = p
    · rw [if_pos c, c, R_sA_s]
    · rw [if_neg c, R_sA_m _ _ _ _ c, R_sA_n _ _ _ _ (by decide)]
  refine ⟨rfl, ⟨?_, R_xl.of (hK.at (fun i i0 i1 => ?_)) ?_⟩, u1.tr ⟨fun b hb => R_sF_n _ _ (fun e => hb (by rw [e]; decide)), fun q hq j => ?_, rfl⟩, fun i => ?_⟩
  · rw [R_sF_s, List.length_append, List.length_cons]
    omega
  · rw [e113, e114, if_neg (by omega), if_neg (by omega), u4, u5, if_neg (by omega), if_neg (by omega)]
    exact ⟨rfl, rfl⟩
  · show R_xl _ _ ([(op, 0)] ++ B)
    refine R_xl.of (R_xl.one (by rw [e113, if_pos (by omega)]) (by rw [e114, if_pos (by omega)])) (hB.at (fun i i0 i1 => ?_))
    simp only [List.length_cons, List.length_nil]
    rw [e113, e114, if_neg (by omega), if_neg (by omega), u4, u5, if_pos (by omega), if_pos (by omega), show (0 : Int) + (K.length : Int) + ((0 + 1 : Nat) : Int) + i - 1 = 0 + (K.length : Int) + i by omega]
    exact ⟨rfl, rfl⟩
  · rw [R_sF_a, R_sA_n _ _ _ _ (fun e => hq (by rw [e]; decide)), R_sA_n _ _ _ _ (fun e => hq (by rw [e]; decide))]
  · rw [R_sF_a, R_sA_n _ _ _ _ (by decide), R_sA_n _ _ _ _ (by decide)]
    exact u3 i
theorem R_rounds (d : Nat) (s : R_S) {p op : Int} {K B : X_L} (zp : Zr p) (zo : Zr op) (hp : p = K.length) (hx : R_xc s (K ++ B)) (hl : K.length + B.length + 1 < 3000) : R_ok (d + 2) 253 [.int (Zi p), .int (Zi op)] s (fun x s2 => x = none ∧ R_xc s2 (K ++ ((op, 0) :: B ++ [(8, (B.length : Int))])) ∧ R_xf s s2 ∧ ∀ i, s2.2.1 116 i = s.2.1 116 i) := by
  refine R_enter (M := E_m253) rfl (Nat.le_of_ble_eq_true rfl) (fun h0 h_ hs => ?_)
  show B_R (d + 1) _ (0, [(0, .ref 83), (1, .int (Zi p)), (2, .int (Zi op))], []) _ _ _
  refine Z_go (f2 := (1, [(0, .ref 83), (1, .int (Zi p)), (2, .int (Zi op))], [.ref 83])) (fun _ => rfl) ?_
  refine Z_go (f2 := (2, [(0, .ref 83), (1, .int (Zi p)), (2, .int (Zi op))], [.int (Zi p), .ref 83])) (fun _ => rfl) ?_
  refine Z_go (f2 := (3, [(0, .ref 83), (1, .int (Zi p)), (2, .int (Zi op))], [.int (Zi op), .int (Zi p), .ref 83])) (fun _ => rfl) ?_
  refine R_call (As := [.int (Zi p), .int (Zi op)]) (rest := []) rfl (by decide) rfl rfl rfl rfl (by decide +kernel) (Nat.le_of_ble_eq_true rfl) hs (R_inserts _ s (by first | exact hs.zF _ | exact Zor_r _ _ | exact hs.zA _ _ | assumption | exact zA _ _ | exact zS _ | exact Zr_not (hs.zA _ _) | exact ⟨by omega, by omega⟩) (by first | exact hs.zF _ | exact Zor_r _ _ | exact hs.zA _ _ | assumption | exact zA _ _ | exact zS _ | exact Zr_not (hs.zA _ _) | exact ⟨by omega, by omega⟩) hp hx (by omega)) (fun x h s1 hs q => ?_)
  obtain ⟨rfl, a1, a2, a3⟩ := q
  have a48 : s1.1 48 = K.length + (B.length + 1) := by have := a1.1; rw [List.length_append, List.length_cons] at this; omega
  show B_R _ _ (6, [(0, .ref 83), (1, .int (Zi p)), (2, .int (Zi op))], []) _ _ _
  refine Z_go (f2 := (7, [(0, .ref 83), (1, .int (Zi p)), (2, .int (Zi op))], [.ref 83])) (fun _ => rfl) ?_
  refine Z_go (f2 := (9, [(0, .ref 83), (1, .int (Zi p)), (2, .int (Zi op))], [.int (Zi 8), .ref 83])) (fun _ => rfl) ?_
  refine Z_go (f2 := (10, [(0, .ref 83), (1, .int (Zi p)), (2, .int (Zi op))], [.ref 83, .int (Zi 8), .ref 83])) (fun _ => rfl) ?_
  refine R_gi rfl hs rfl ?_
  show B_R _ _ (13, [(0, .ref 83), (1, .int (Zi p)), (2, .int (Zi op))], [.int (Zi (s1.1 48)), .int (Zi 8), .ref 83]) _ _ _
  refine Z_go (f2 := (14, [(0, .ref 83), (1, .int (Zi p)), (2, .int (Zi op))], [.int (Zi p), .int (Zi (s1.1 48)), .int (Zi 8), .ref 83])) (fun _ => rfl) ?_
  refine Z_isub rfl ?_
  refine Z_go (f2 := (16, [(0, .ref 83), (1, .int (Zi p)), (2, .int (Zi op))], [.int (Zi 1), .int (Zi (s1.1 48 - p)), .int (Zi 8), .ref 83])) (fun _ => rfl) ?_
  refine Z_isub rfl ?_
  refine R_call (As := [.int (Zi 8), .int (Zi (s1.1 48 - p - 1))]) (rest := []) rfl (by decide) rfl rfl rfl rfl (by decide +kernel) (Nat.le_of_ble_eq_true rfl) hs (R_code2 _ s1 (by first | exact hs.zF _ | exact Zor_r _ _ | exact hs.zA _ _ | assumption | exact zA _ _ | exact zS _ | exact Zr_not (hs.zA _ _) | exact ⟨by omega, by omega⟩) (by first | exact hs.zF _ | exact Zor_r _ _ | exact hs.zA _ _ | assumption | exact zA _ _ | exact zS _ | exact Zr_not (hs.zA _ _) | exact ⟨by omega, by omega⟩) a1 (by rw [List.length_append, List.length_cons]; omega)) (fun x h s2 hs q => ?_)
  obtain ⟨rfl, b1, b2, b3⟩ := q
  show B_R _ _ (20, [(0, .ref 83), (1, .int (Zi p)), (2, .int (Zi op))], []) _ _ _
  refine Z_ret rfl rfl ⟨_, hs, ?_, rfl⟩
  rw [show s1.1 48 - p - 1 = (B.length : Int) by omega, List.append_assoc] at b1
  exact ⟨rfl, b1, a2.tr b2, fun i => (b3 i).trans (a3 i)⟩
theorem R_mays (d : Nat) (s : R_S) {p : Int} {K B : X_L} (zp : Zr p) (hp : p = K.length) (hx : R_xc s (K ++ B)) (hl : K.length + B.length + 1 < 3000) : R_ok (d + 2) 254 [.int (Zi p)] s (fun x s2 => x = none ∧ R_xc s2 (K ++ ((3, 0) :: B ++ [(5, 0)])) ∧ R_xf s s2 ∧ ∀ i, s2.2.1 116 i = s.2.1 116 i) := by
  refine R_enter (M := E_m254) rfl (Nat.le_of_ble_eq_true rfl) (fun h0 h_ hs => ?_)
  show B_R (d + 1) _ (0, [(0, .ref 83), (1, .int (Zi p))], []) _ _ _
  refine Z_go (f2 := (1, [(0, .ref 83), (1, .int (Zi p))], [.ref 83])) (fun _ => rfl) ?_
  refine Z_go (f2 := (2, [(0, .ref 83), (1, .int (Zi p))], [.int (Zi p), .ref 83])) (fun _ => rfl) ?_
  refine Z_go (f2 := (3, [(0, .ref 83), (1, .int (Zi p))], [.int (Zi 3), .int (Zi p), .ref 83])) (fun _ => rfl) ?_
  refine R_call (As := [.int (Zi p), .int (Zi 3)]) (rest := []) rfl (by decide) rfl rfl rfl rfl (by decide +kernel) (Nat.le_of_ble_eq_true rfl) hs (R_inserts _ s (by first | exact hs.zF _ | exact Zor_r _ _ | exact hs.zA _ _ | assumption | exact zA _ _ | exact zS _ | exact Zr_not (hs.zA _ _) | exact ⟨by omega, by omega⟩) (by first | exact hs.zF _ | exact Zor_r _ _ | exact hs.zA _ _ | assumption | exact zA _ _ | exact zS _ | exact Zr_not (hs.zA _ _) | exact ⟨by omega, by omega⟩) hp hx (by omega)) (fun x h s1 hs q => ?_)
  obtain ⟨rfl, a1, a2, a3⟩ := q
  have a48 : s1.1 48 = K.length + (B.length + 1) := by have := a1.1; rw [List.length_append, List.length_cons] at this; omega
  show B_R _ _ (6, [(0, .ref 83), (1, .int (Zi p))], []) _ _ _
  refine Z_go (f2 := (7, [(0, .ref 83), (1, .int (Zi p))], [.ref 83])) (fun _ => rfl) ?_
  refine Z_go (f2 := (8, [(0, .ref 83), (1, .int (Zi p))], [.int (Zi 5), .ref 83])) (fun _ => rfl) ?_
  refine Z_go (f2 := (9, [(0, .ref 83), (1, .int (Zi p))], [.int (Zi 0), .int (Zi 5), .ref 83])) (fun _ => rfl) ?_
  refine R_call (As := [.int (Zi 5), .int (Zi 0)]) (rest := []) rfl (by decide) rfl rfl rfl rfl (by decide +kernel) (Nat.le_of_ble_eq_true rfl) hs (R_code2 _ s1 (by first | exact hs.zF _ | exact Zor_r _ _ | exact hs.zA _ _ | assumption | exact zA _ _ | exact zS _ | exact Zr_not (hs.zA _ _) | exact ⟨by omega, by omega⟩) (by first | exact hs.zF _ | exact Zor_r _ _ | exact hs.zA _ _ | assumption | exact zA _ _ | exact zS _ | exact Zr_not (hs.zA _ _) | exact ⟨by omega, by omega⟩) a1 (by rw [List.length_append, List.length_cons]; omega)) (fun x h s2 hs q => ?_)
  obtain ⟨rfl, b1, b2, b3⟩ := q
  show B_R _ _ (12, [(0, .ref 83), (1, .int (Zi p))], []) _ _ _
  refine Z_ret rfl rfl ⟨_, hs, ?_, rfl⟩
  rw [List.append_assoc] at b1
  exact ⟨rfl, b1, a2.tr b2, fun i => (b3 i).trans (a3 i)⟩
/-- L is set aside, and of it k more are code -/
def R_agn (s u : R_S) (K L : X_L) (k : Int) : Prop := R_xc u (K ++ L.take k.toNat) ∧ R_xf s u ∧ ∀ i, u.2.1 116 i = s.2.1 116 i
theorem R_ag_lp {d : Nat} {h0 : E_H} {s : R_S} {sl : Nat} {Φ : E_R → Prop} {n : Int} {K L : X_L} (hn : n = L.length) (hl : K.length + L.length < 3000) (hL : R_xs s L) (kont : ∀ (u : R_S) (h : E_H), R_is h0 h u → R_agn s u K L n → B_R (d + 1) E_m256 (35, [(0, .ref 83), (1, .int (Zi n))], []) h sl Φ) : ∀ (t : Nat) (k : Int) (u : R_S) (h : E_H), n - k < t → R_is h0 h u → R_agn s u K L k → 0 ≤ k → k ≤ n → B_R (d + 1) E_m256 (2, [(2, .int (Zi k)), (0, .ref 83), (1, .int (Zi n))], []) h sl Φ := by
  intro t
  induction t with
  | zero => intro k u h ht hs hu k0 k1; omega
  | succ t ih =>
    intro k u h ht hs hu k0 k1
    obtain ⟨g1, g2, g3⟩ := id hu
    refine Z_go (f2 := (3, [(2, .int (Zi k)), (0, .ref 83), (1, .int (Zi n))], [.int (Zi k)])) (fun _ => rfl) ?_
    refine Z_go (f2 := (4, [(2, .int (Zi k)), (0, .ref 83), (1, .int (Zi n))], [.int (Zi n), .int (Zi k)])) (fun _ => rfl) ?_
    refine Z_cge rfl rfl (by first | exact hs.zF _ | exact Zor_r _ _ | exact hs.zA _ _ | assumption | exact zA _ _ | exact zS _ | exact Zr_not (hs.zA _ _) | exact ⟨by omega, by omega⟩) (by first | exact hs.zF _ | exact Zor_r _ _ | exact hs.zA _ _ | assumption | exact zA _ _ | exact zS _ | exact Zr_not (hs.zA _ _) | exact ⟨by omega, by omega⟩) (fun c1 => ?_) (fun c1 => ?_)
    · refine B_loc (K := [(0, .ref 83), (1, .int (Zi n))]) (N_all_sub ⟨rfl, rfl, trivial⟩) (show ([0, 1] : List Nat).Nodup by decide) ?_
      obtain rfl : k = n := by omega
      exact kont u h hs hu
    · refine Z_go (f2 := (8, [(2, .int (Zi k)), (0, .ref 83), (1, .int (Zi n))], [.ref 83])) (fun _ => rfl) ?_
      refine Z_go (f2 := (9, [(2, .int (Zi k)), (0, .ref 83), (1, .int (Zi n))], [.ref 83, .ref 83])) (fun _ => rfl) ?_
      refine R_gr (q := 114) rfl hs rfl ?_
      show B_R _ _ (12, [(2, .int (Zi k)), (0, .ref 83), (1, .int (Zi n))], [.ref 116, .ref 83]) _ _ _
      refine Z_go (f2 := (13, [(2, .int (Zi k)), (0, .ref 83), (1, .int (Zi n))], [.int (Zi 2), .ref 116, .ref 83])) (fun _ => rfl) ?_
      refine Z_go (f2 := (14, [(2, .int (Zi k)), (0, .ref 83), (1, .int (Zi n))], [.int (Zi k), .int (Zi 2), .ref 116, .ref 83])) (fun _ => rfl) ?_
      refine Z_imul rfl ?_
      refine R_ia (q := 32) rfl hs rfl rfl (by omega) (by omega) (by decide) ?_
      refine Z_go (f2 := (17, [(2, .int (Zi k)), (0, .ref 83), (1, .int (Zi n))], [.ref 83, .int (Zi (u.2.1 116 (2 * k))), .ref 83])) (fun _ => rfl) ?_
      refine R_gr (q := 114) rfl hs rfl ?_
      show B_R _ _ (20, [(2, .int (Zi k)), (0, .ref 83), (1, .int (Zi n))], [.ref 116, .int (Zi (u.2.1 116 (2 * k))), .ref 83]) _ _ _
      refine Z_go (f2 := (21, [(2, .int (Zi k)), (0, .ref 83), (1, .int (Zi n))], [.int (Zi 2), .ref 116, .int (Zi (u.2.1 116 (2 * k))), .ref 83])) (fun _ => rfl) ?_
      refine Z_go (f2 := (22, [(2, .int (Zi k)), (0, .ref 83), (1, .int (Zi n))], [.int (Zi k), .int (Zi 2), .ref 116, .int (Zi (u.2.1 116 (2 * k))), .ref 83])) (fun _ => rfl) ?_
      refine Z_imul rfl ?_
      refine Z_go (f2 := (24, [(2, .int (Zi k)), (0, .ref 83), (1, .int (Zi n))], [.int (Zi 1), .int (Zi (2 * k)), .ref 116, .int (Zi (u.2.1 116 (2 * k))), .ref 83])) (fun _ => rfl) ?_
      refine Z_iadd rfl ?_
      refine R_ia (q := 32) rfl hs rfl rfl (by omega) (by omega) (by decide) ?_
      refine R_call (As := [.int (Zi (u.2.1 116 (2 * k))), .int (Zi (u.2.1 116 (2 * k + 1)))]) (rest := []) rfl (by decide) rfl rfl rfl rfl (by decide +kernel) (Nat.le_of_ble_eq_true rfl) hs (R_code2 _ u (hs.zA 116 _) (hs.zA 116 _) g1 (by rw [List.length_append, List.length_take]; omega)) (fun x h w hs q => ?_)
      obtain ⟨rfl, b1, b2, b3⟩ := q
      show B_R _ _ (29, [(2, .int (Zi k)), (0, .ref 83), (1, .int (Zi n))], []) _ _ _
      refine Z_iinc (L2 := [(2, .int (Zi (k + 1))), (0, .ref 83), (1, .int (Zi n))]) rfl rfl (by decide) rfl ?_
      refine Z_go (f2 := (2, [(2, .int (Zi (k + 1))), (0, .ref 83), (1, .int (Zi n))], [])) (fun _ => rfl) ?_
      refine B_loc (K := [(2, .int (Zi (k + 1))), (0, .ref 83), (1, .int (Zi n))]) (N_all_sub ⟨rfl, rfl, rfl, trivial⟩) (show ([2, 0, 1] : List Nat).Nodup by decide) ?_
      refine ih (k + 1) w h (by omega) hs ⟨?_, g2.tr b2, fun i => (b3 i).trans (g3 i)⟩ (by omega) (by omega)
      have hk : k.toNat < L.length := by omega
      obtain ⟨l1, l2⟩ := hL k.toNat hk
      rw [show ((k.toNat : Nat) : Int) = k by omega] at l1 l2
      rw [g3, g3, l1, l2, List.append_assoc] at b1
      rw [show (k + 1).toNat = k.toNat + 1 by omega, List.take_succ_eq_append_getElem hk]
      exact b1
theorem R_again (d : Nat) (s : R_S) {n : Int} {K L : X_L} (zn : Zr n) (hn : n = L.length) (hl : K.length + L.length < 3000) (hL : R_xs s L) (hK : R_xc s K) : R_ok (d + 2) 256 [.int (Zi n)] s (fun x s2 => x = none ∧ R_xc s2 (K ++ L) ∧ R_xf s s2 ∧ ∀ i, s2.2.1 116 i = s.2.1 116 i) := by
  refine R_enter (M := E_m256) rfl (Nat.le_of_ble_eq_true rfl) (fun h0 h_ hs => ?_)
  show B_R (d + 1) _ (0, [(0, .ref 83), (1, .int (Zi n))], []) _ _ _
  refine Z_go (f2 := (1, [(0, .ref 83), (1, .int (Zi n))], [.int (Zi 0)])) (fun _ => rfl) ?_
  refine Z_go (f2 := (2, [(2, .int (Zi 0)), (0, .ref 83), (1, .int (Zi n))], [])) (fun _ => rfl) ?_
  refine R_ag_lp (s := s) (K := K) hn hl hL (fun u h hs hu => ?_) (L.length + 1) 0 s _ (by omega) hs ⟨by rw [show (0 : Int).toNat = 0 from rfl, List.take_zero, List.append_nil]; exact hK, ⟨fun _ _ => rfl, fun _ _ _ => rfl, rfl⟩, fun _ => rfl⟩ (by omega) (by omega)
  obtain ⟨g1, g2, g3⟩ := hu
  rw [show n.toNat = L.length by omega, List.take_length] at g1
  refine Z_ret rfl rfl ⟨_, hs, ?_, rfl⟩
  exact ⟨rfl, g1, g2, g3⟩
