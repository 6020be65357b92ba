/-! the reference: looks -/
theorem T_bit_one {b : Int64} {k : Int} (k0 : 0 ≤ k) (k1 : k < 64) : ((b.toUInt64 >>> ((Zi k).toInt64.toUInt64 &&& Int64.toUInt64 63)).toInt64 &&& 1 = 1) ↔ T_bit b k.toNat := by
  have h01 : ∀ y : Int64, y &&& 1 = 0 ∨ y &&& 1 = 1 := fun y => by
    have e : (y &&& 1).toBitVec.toNat = y.toBitVec.toNat % 2 := by
      rw [Int64.toBitVec_and, show (1 : Int64).toBitVec = 1#64 from rfl, BitVec.toNat_and]
      exact Nat.and_one_is_mod _
    rcases Nat.mod_two_eq_zero_or_one y.toBitVec.toNat with h | h
    · left
      apply Int64.toBitVec_inj.mp
      apply BitVec.eq_of_toNat_eq
      rw [e, h]
      rfl
    · right
      apply Int64.toBitVec_inj.mp
      apply BitVec.eq_of_toNat_eq
      rw [e, h]
      rfl
  have h2 := T_bit_and (b := b) k0 k1
  rcases h01 (b.toUInt64 >>> ((Zi k).toInt64.toUInt64 &&& Int64.toUInt64 63)).toInt64 with h | h
  · rw [h]
    exact ⟨fun e => absurd e (by decide), fun e => absurd e (h2.mp h)⟩
  · rw [h]
    refine ⟨fun _ => Classical.byContradiction (fun q => ?_), fun _ => rfl⟩
    have := h2.mpr q
    rw [h] at this
    exact absurd this (by decide)
theorem R_isAt (d : Nat) (s : R_S) {i : Int}  (zi : Zr i) {X : Int → Prop} (i0 : 0 ≤ i) (i1 : i < 1024) (hX : R_bs_ s 119 0 X) : R_ok (d + 1) 267 [.int (Zi i)] s (fun x s2 => s2 = s ∧ ∃ v : Int, x = some (.int (Zi v)) ∧ (v = 1 ∧ X i ∨ v = 0 ∧ ¬ X i)) := by
  refine R_enter (M := E_m267) rfl (Nat.le_of_ble_eq_true rfl) (fun h0 h hs => ?_)
  show B_R d _ (0, [(0, .ref 83), (1, .int (Zi i))], []) _ _ _
  have hb := hX i i0 i1
  rw [Int.zero_add] at hb
  refine Z_go (f2 := (1, [(0, .ref 83), (1, .int (Zi i))], [.ref 83])) (fun _ => rfl) ?_
  refine R_gr (q := 117) rfl hs rfl ?_
  show B_R _ _ (4, [(0, .ref 83), (1, .int (Zi i))], [.ref 119]) _ _ _
  refine Z_go (f2 := (5, [(0, .ref 83), (1, .int (Zi i))], [.int (Zi i), .ref 119])) (fun _ => rfl) ?_
  refine Z_go (f2 := (7, [(0, .ref 83), (1, .int (Zi i))], [.int (Zi 64), .int (Zi i), .ref 119])) (fun _ => rfl) ?_
  refine Z_idiv rfl (by omega) (by omega) (by omega) (by omega) ?_
  refine R_la (q := 35) rfl hs rfl rfl (by omega) (by omega) (by decide) ?_
  refine Z_go (f2 := (10, [(0, .ref 83), (1, .int (Zi i))], [.int (Zi i), .long (s.2.2.2 119 (i / 64))])) (fun _ => rfl) ?_
  refine Z_go (f2 := (12, [(0, .ref 83), (1, .int (Zi i))], [.int (Zi 64), .int (Zi i), .long (s.2.2.2 119 (i / 64))])) (fun _ => rfl) ?_
  refine Z_irem rfl (by omega) (by omega) (by omega) (by omega) ?_
  refine Z_go (f2 := (14, [(0, .ref 83), (1, .int (Zi i))], [.long (((s.2.2.2 119 (i / 64) : Int64).toUInt64 >>> ((Zi (i % 64)).toInt64.toUInt64 &&& Int64.toUInt64 63)).toInt64)])) (fun _ => rfl) ?_
  refine Z_go (f2 := (15, [(0, .ref 83), (1, .int (Zi i))], [.long (1), .long (((s.2.2.2 119 (i / 64) : Int64).toUInt64 >>> ((Zi (i % 64)).toInt64.toUInt64 &&& Int64.toUInt64 63)).toInt64)])) (fun _ => rfl) ?_
  refine Z_go (f2 := (16, [(0, .ref 83), (1, .int (Zi i))], [.long ((((s.2.2.2 119 (i / 64) : Int64).toUInt64 >>> ((Zi (i % 64)).toInt64.toUInt64 &&& Int64.toUInt64 63)).toInt64) &&& 1)])) (fun _ => rfl) ?_
  refine Z_go (f2 := (17, [(0, .ref 83), (1, .int (Zi i))], [.long (1), .long ((((s.2.2.2 119 (i / 64) : Int64).toUInt64 >>> ((Zi (i % 64)).toInt64.toUInt64 &&& Int64.toUInt64 63)).toInt64) &&& 1)])) (fun _ => rfl) ?_
  refine Z_lcmp rfl ?_
  obtain ⟨zl1, ezl1, hzl1, rzl1⟩ := Zl_ex ((((s.2.2.2 119 (i / 64) : Int64).toUInt64 >>> ((Zi (i % 64)).toInt64.toUInt64 &&& Int64.toUInt64 63)).toInt64) &&& 1) (1)
  rw [ezl1]
  show B_R _ _ (18, [(0, .ref 83), (1, .int (Zi i))], [.int (Zi zl1)]) _ _ _
  refine Z_ine rfl rfl (by first | exact hs.zF _ | exact Zor_r _ _ | exact hs.zA _ _ | assumption | exact zA _ _ | exact zS _ | exact Zr_not (hs.zA _ _) | exact ⟨by omega, by omega⟩) (fun c1 => ?_) (fun c1 => ?_)
  · refine Z_go (f2 := (26, [(0, .ref 83), (1, .int (Zi i))], [.int (Zi 0)])) (fun _ => rfl) ?_
    refine Z_iret rfl rfl (by first | rfl | decide | exact narrow_b01 (by omega)) ⟨_, hs, ?_, rfl⟩
    exact ⟨rfl, _, rfl, .inr ⟨rfl, fun q => by have := hzl1.mpr ((T_bit_one (by omega) (by omega)).mpr (hb.mpr q)); omega⟩⟩
  · refine Z_go (f2 := (22, [(0, .ref 83), (1, .int (Zi i))], [.int (Zi 1)])) (fun _ => rfl) ?_
    refine Z_go (f2 := (26, [(0, .ref 83), (1, .int (Zi i))], [.int (Zi 1)])) (fun _ => rfl) ?_
    refine Z_iret rfl rfl (by first | rfl | decide | exact narrow_b01 (by omega)) ⟨_, hs, ?_, rfl⟩
    exact ⟨rfl, _, rfl, .inl ⟨rfl, hb.mp ((T_bit_one (by omega) (by omega)).mp (hzl1.mp (by assumption)))⟩⟩
/-- u is s, but these fields, arrays, arrays of longs -/
def R_f4 (bs qs ps : List Nat) (s u : R_S) : Prop := (∀ b, b ∉ bs → u.1 b = s.1 b) ∧ (∀ q, q ∉ qs → ∀ j, u.2.1 q j = s.2.1 q j) ∧ u.2.2.1 = s.2.2.1 ∧ ∀ p, p ∉ ps → ∀ j, u.2.2.2 p j = s.2.2.2 p j
theorem R_f4.rf (bs qs ps : List Nat) (s : R_S) : R_f4 bs qs ps s s := ⟨fun _ _ => rfl, fun _ _ _ => rfl, rfl, fun _ _ _ => rfl⟩
theorem R_f4.tr {bs qs ps bs2 qs2 ps2 : List Nat} {s u w : R_S} (h : R_f4 bs qs ps s u) (g : R_f4 bs2 qs2 ps2 u w) (h1 : ∀ b, b ∈ bs2 → b ∈ bs) (h2 : ∀ b, b ∈ qs2 → b ∈ qs) (h3 : ∀ b, b ∈ ps2 → b ∈ ps) : R_f4 bs qs ps s w := ⟨fun b hb => (g.1 b (fun e => hb (h1 b e))).trans (h.1 b hb), fun q hq j => (g.2.1 q (fun e => hq (h2 q e)) j).trans (h.2.1 q hq j), g.2.2.1.trans h.2.2.1, fun p hp j => (g.2.2.2 p (fun e => hp (h3 p e)) j).trans (h.2.2.2 p hp j)⟩
theorem R_f4.up {bs qs ps bs2 qs2 ps2 : List Nat} {s u : R_S} (g : R_f4 bs2 qs2 ps2 s u) (h1 : ∀ b, b ∈ bs2 → b ∈ bs) (h2 : ∀ b, b ∈ qs2 → b ∈ qs) (h3 : ∀ b, b ∈ ps2 → b ∈ ps) : R_f4 bs qs ps s u := (R_f4.rf bs qs ps s).tr g h1 h2 h3
theorem R_f4.sF {bs qs ps : List Nat} {s u : R_S} (h : R_f4 bs qs ps s u) {b : Nat} {z : Int} (hb : b ∈ bs) : R_f4 bs qs ps s (R_sF u b z) := ⟨fun c hc => (R_sF_n (b := b) (c := c) u z (fun e => hc (by rw [e]; exact hb))).trans (h.1 c hc), h.2⟩
theorem R_f4.sA {bs qs ps : List Nat} {s u : R_S} (h : R_f4 bs qs ps s u) {q : Nat} {i z : Int} (hq : q ∈ qs) : R_f4 bs qs ps s (R_sA u q i z) := ⟨h.1, fun p hp j => (R_sA_n (q := q) (p := p) u _ _ _ (fun e => hp (by rw [e]; exact hq))).trans (h.2.1 p hp j), h.2.2⟩
theorem R_lq.f4 {q : Nat} {s u : R_S} (h : R_lq q s u) : R_f4 [] [] [q] s u := ⟨fun b _ => congrFun h.1 b, fun q _ j => congrFun (congrFun h.2.1 q) j, h.2.2.1, fun p hp j => h.2.2.2 p j (fun e => hp (e ▸ List.mem_singleton.mpr rfl))⟩
theorem R_l2.f4 {s u : R_S} (h : R_l2 s u) : R_f4 [] [] [120, 121] s u := ⟨fun b _ => congrFun h.1 b, fun q _ j => congrFun (congrFun h.2.1 q) j, h.2.2.1, fun p hp j => h.2.2.2 p j (fun e => hp (by rw [e]; decide)) (fun e => hp (by rw [e]; decide))⟩
theorem R_fr.f4 {bs qs : List Nat} {s u : R_S} (h : R_fr bs qs s u) : R_f4 bs qs [] s u := ⟨h.1, h.2.1, congrArg Prod.fst h.2.2, fun p _ j => congrFun (congrFun (congrArg Prod.snd h.2.2) p) j⟩
/-- the line of a place -/
def X_lin (W : Int → Int) : Nat → Int
  | 0 => 1
  | k + 1 => X_lin W k + (if W (k : Int) = 10 then 1 else 0)
theorem X_lin_b (W : Int → Int) : ∀ k : Nat, 1 ≤ X_lin W k ∧ X_lin W k ≤ k + 1
  | 0 => ⟨Int.le_refl _, Int.le_refl _⟩
  | k + 1 => by
    have := X_lin_b W k
    show 1 ≤ X_lin W k + _ ∧ X_lin W k + _ ≤ _
    split <;> (push_cast; omega)
/-- from b on a match is found that ends at e -/
def M_hit (W : Int → Int) (n : Int) (t : P_T) (b e : Int) : Prop := M_of W n t b e ∧ (∀ b2 e2, M_of W n t b2 e2 → b ≤ b2) ∧ ∀ e2, M_of W n t b e2 → e2 ≤ e
/-- what a look leaves: the file is opened; if there is a match, a hit more -/
def R_lkd (s u : R_S) (f : Int) (t : P_T) : Prop := u.1 68 = s.1 68 + 1 ∧ (∀ j, u.2.1 131 j = if j = s.1 68 then f else s.2.1 131 j) ∧ ((∀ b e, ¬ M_of (R_wb s f) (s.2.1 87 f) t b e) ∧ u.1 63 = s.1 63 ∧ (∀ q j, 127 ≤ q → q ≤ 130 → u.2.1 q j = s.2.1 q j) ∨ ∃ b e : Int, M_hit (R_wb s f) (s.2.1 87 f) t b e ∧ u.1 63 = s.1 63 + 1 ∧ ∀ q j, 127 ≤ q → q ≤ 130 → u.2.1 q j = if j = s.1 63 then (if q = 127 then f else if q = 128 then b else if q = 129 then e else X_lin (R_wb s f) b.toNat) else s.2.1 q j)
/-- what stands ready for leads -/
def R_lkw (s u : R_S) (f : Int) (t : P_T) : Prop := R_f4 [48, 68] [113, 114, 115, 116, 131] [119, 120, 121] s u ∧ (∀ k, k = 2 ∨ k = 3 ∨ k = 4 → R_bs_ u 121 (16 * k) (fun i => 0 ≤ i ∧ i ≤ s.2.1 87 f ∧ M_hold (R_wb s f) (s.2.1 87 f) k i)) ∧ R_sb u (R_wb s f) (s.2.1 87 f) 0 (T_sets t) ∧ u.1 68 = s.1 68 + 1 ∧ (∀ j, u.2.1 131 j = if j = s.1 68 then f else s.2.1 131 j) ∧ R_tl u t ∧ R_dd u 0 (X_dd t)
theorem R_lkw.lq {s u w : R_S} {f : Int} {t : P_T} (h : R_lkw s u f t) (g : R_lq 119 u w) : R_lkw s w f t := by
  obtain ⟨h1, h2, h3, h4, h5, h6, h7⟩ := h
  refine ⟨h1.tr g.f4 (by simp) (by simp) (by simp), fun k hk => (h2 k hk).at (fun x _ _ => g.2.2.2 121 _ (by decide)), ⟨h3.1, fun i hi => (h3.2 i hi).at (fun x _ _ => g.2.2.2 120 _ (by decide))⟩, by rw [g.1]; exact h4, fun j => by rw [g.2.1]; exact h5 j, h6.cong (by rw [g.1]) (by rw [g.1]) (fun q j _ => by rw [g.2.1]), h7.at (fun i _ _ => by rw [g.2.1])⟩
theorem R_lkw.co {s u w : R_S} {f : Int} {t : P_T} (h : R_lkw s u f t) (g : R_fr [48] [113, 114, 115, 116] u w) : R_lkw s w f t := by
  obtain ⟨h1, h2, h3, h4, h5, h6, h7⟩ := h
  have e3 : ∀ p j, w.2.2.2 p j = u.2.2.2 p j := fun p j => g.f4.2.2.2 p (by simp) j
  refine ⟨h1.tr g.f4 (by simp) (by simp) (by simp), fun k hk => (h2 k hk).at (fun x _ _ => e3 _ _), ⟨h3.1, fun i hi => (h3.2 i hi).at (fun x _ _ => e3 _ _)⟩, by rw [g.1 68 (by decide)]; exact h4, fun j => by rw [g.2.1 131 (by decide)]; exact h5 j, h6.cong (g.1 13 (by decide)) (g.1 15 (by decide)) (fun q j hq => g.2.1 q (by rcases hq with rfl | rfl | rfl | rfl <;> decide) j), h7.at (fun i _ _ => g.2.1 117 (by decide) _)⟩
theorem R_lk_z1 {d : Nat} {h0 : E_H} {u : R_S} {sl : Nat} {Φ : E_R → Prop} {n f b : Int} (kont : ∀ (h : E_H), R_is h0 h (R_fL u 119 0 16 (fun _ => 0)) → B_R (d + 6) E_m268 (58, [(2, .int (Zi n)), (0, .ref 83), (1, .int (Zi f))], []) h sl Φ) : ∀ (t : Nat) (k : Int) (h : E_H), 16 - k < t → R_is h0 h (R_fL u 119 0 k (fun _ => 0)) → 0 ≤ k → k ≤ 16 → B_R (d + 6) E_m268 (39, [(3, .int (Zi k)), (2, .int (Zi n)), (0, .ref 83), (1, .int (Zi f))], []) h sl Φ := by
  intro t
  induction t with
  | zero => intro k h ht hs k0 k1; omega
  | succ t ih =>
    intro k h ht hs k0 k1
    refine Z_go (f2 := (40, [(3, .int (Zi k)), (2, .int (Zi n)), (0, .ref 83), (1, .int (Zi f))], [.int (Zi k)])) (fun _ => rfl) ?_
    refine Z_go (f2 := (42, [(3, .int (Zi k)), (2, .int (Zi n)), (0, .ref 83), (1, .int (Zi f))], [.int (Zi 16), .int (Zi k)])) (fun _ => rfl) ?_
    refine Z_cge rfl rfl (by first | exact hs.zF _ | exact Zor_r _ _ | exact hs.zA _ _ | assumption | exact zA _ _ | exact zS _ | exact Zr_not (hs.zA _ _) | exact ⟨by omega, by omega⟩) (by first | exact hs.zF _ | exact Zor_r _ _ | exact hs.zA _ _ | assumption | exact zA _ _ | exact zS _ | exact Zr_not (hs.zA _ _) | exact ⟨by omega, by omega⟩) (fun c1 => ?_) (fun c1 => ?_)
    · refine B_loc (K := [(2, .int (Zi n)), (0, .ref 83), (1, .int (Zi f))]) (N_all_sub ⟨rfl, rfl, rfl, trivial⟩) (show ([2, 0, 1] : List Nat).Nodup by decide) ?_
      obtain rfl : k = 16 := by omega
      exact kont h hs
    · refine Z_go (f2 := (46, [(3, .int (Zi k)), (2, .int (Zi n)), (0, .ref 83), (1, .int (Zi f))], [.ref 83])) (fun _ => rfl) ?_
      refine R_gr (q := 117) rfl hs rfl ?_
      show B_R _ _ (49, [(3, .int (Zi k)), (2, .int (Zi n)), (0, .ref 83), (1, .int (Zi f))], [.ref 119]) _ _ _
      refine Z_go (f2 := (50, [(3, .int (Zi k)), (2, .int (Zi n)), (0, .ref 83), (1, .int (Zi f))], [.int (Zi k), .ref 119])) (fun _ => rfl) ?_
      refine Z_go (f2 := (51, [(3, .int (Zi k)), (2, .int (Zi n)), (0, .ref 83), (1, .int (Zi f))], [.long (0), .int (Zi k), .ref 119])) (fun _ => rfl) ?_
      refine R_ls (q := 35) rfl hs rfl rfl (by omega) (by omega) (by decide) (fun h hs => ?_)
      refine Z_iinc (L2 := [(3, .int (Zi (k + 1))), (2, .int (Zi n)), (0, .ref 83), (1, .int (Zi f))]) rfl rfl (by decide) rfl ?_
      refine Z_go (f2 := (39, [(3, .int (Zi (k + 1))), (2, .int (Zi n)), (0, .ref 83), (1, .int (Zi f))], [])) (fun _ => rfl) ?_
      refine B_loc (K := [(3, .int (Zi (k + 1))), (2, .int (Zi n)), (0, .ref 83), (1, .int (Zi f))]) (N_all_sub ⟨rfl, rfl, rfl, rfl, trivial⟩) (show ([3, 2, 0, 1] : List Nat).Nodup by decide) ?_
      rw [R_fL_st k0 rfl rfl] at hs
      exact ih (k + 1) h (by omega) hs (by omega) (by omega)
theorem R_lk_z2 {d : Nat} {h0 : E_H} {u : R_S} {sl : Nat} {Φ : E_R → Prop} {n f b : Int} (kont : ∀ (h : E_H), R_is h0 h (R_fL u 119 0 16 (fun _ => 0)) → B_R (d + 6) E_m268 (142, [(3, .int (Zi b)), (2, .int (Zi n)), (0, .ref 83), (1, .int (Zi f))], []) h sl Φ) : ∀ (t : Nat) (k : Int) (h : E_H), 16 - k < t → R_is h0 h (R_fL u 119 0 k (fun _ => 0)) → 0 ≤ k → k ≤ 16 → B_R (d + 6) E_m268 (121, [(4, .int (Zi k)), (3, .int (Zi b)), (2, .int (Zi n)), (0, .ref 83), (1, .int (Zi f))], []) h sl Φ := by
  intro t
  induction t with
  | zero => intro k h ht hs k0 k1; omega
  | succ t ih =>
    intro k h ht hs k0 k1
    refine Z_go (f2 := (123, [(4, .int (Zi k)), (3, .int (Zi b)), (2, .int (Zi n)), (0, .ref 83), (1, .int (Zi f))], [.int (Zi k)])) (fun _ => rfl) ?_
    refine Z_go (f2 := (125, [(4, .int (Zi k)), (3, .int (Zi b)), (2, .int (Zi n)), (0, .ref 83), (1, .int (Zi f))], [.int (Zi 16), .int (Zi k)])) (fun _ => rfl) ?_
    refine Z_cge rfl rfl (by first | exact hs.zF _ | exact Zor_r _ _ | exact hs.zA _ _ | assumption | exact zA _ _ | exact zS _ | exact Zr_not (hs.zA _ _) | exact ⟨by omega, by omega⟩) (by first | exact hs.zF _ | exact Zor_r _ _ | exact hs.zA _ _ | assumption | exact zA _ _ | exact zS _ | exact Zr_not (hs.zA _ _) | exact ⟨by omega, by omega⟩) (fun c1 => ?_) (fun c1 => ?_)
    · refine B_loc (K := [(3, .int (Zi b)), (2, .int (Zi n)), (0, .ref 83), (1, .int (Zi f))]) (N_all_sub ⟨rfl, rfl, rfl, rfl, trivial⟩) (show ([3, 2, 0, 1] : List Nat).Nodup by decide) ?_
      obtain rfl : k = 16 := by omega
      exact kont h hs
    · refine Z_go (f2 := (129, [(4, .int (Zi k)), (3, .int (Zi b)), (2, .int (Zi n)), (0, .ref 83), (1, .int (Zi f))], [.ref 83])) (fun _ => rfl) ?_
      refine R_gr (q := 117) rfl hs rfl ?_
      show B_R _ _ (132, [(4, .int (Zi k)), (3, .int (Zi b)), (2, .int (Zi n)), (0, .ref 83), (1, .int (Zi f))], [.ref 119]) _ _ _
      refine Z_go (f2 := (134, [(4, .int (Zi k)), (3, .int (Zi b)), (2, .int (Zi n)), (0, .ref 83), (1, .int (Zi f))], [.int (Zi k), .ref 119])) (fun _ => rfl) ?_
      refine Z_go (f2 := (135, [(4, .int (Zi k)), (3, .int (Zi b)), (2, .int (Zi n)), (0, .ref 83), (1, .int (Zi f))], [.long (0), .int (Zi k), .ref 119])) (fun _ => rfl) ?_
      refine R_ls (q := 35) rfl hs rfl rfl (by omega) (by omega) (by decide) (fun h hs => ?_)
      refine Z_iinc (L2 := [(4, .int (Zi (k + 1))), (3, .int (Zi b)), (2, .int (Zi n)), (0, .ref 83), (1, .int (Zi f))]) rfl rfl (by decide) rfl ?_
      refine Z_go (f2 := (121, [(4, .int (Zi (k + 1))), (3, .int (Zi b)), (2, .int (Zi n)), (0, .ref 83), (1, .int (Zi f))], [])) (fun _ => rfl) ?_
      refine B_loc (K := [(4, .int (Zi (k + 1))), (3, .int (Zi b)), (2, .int (Zi n)), (0, .ref 83), (1, .int (Zi f))]) (N_all_sub ⟨rfl, rfl, rfl, rfl, rfl, trivial⟩) (show ([4, 3, 2, 0, 1] : List Nat).Nodup by decide) ?_
      rw [R_fL_st k0 rfl rfl] at hs
      exact ih (k + 1) h (by omega) hs (by omega) (by omega)
theorem R_bs_0 (u : R_S) : R_bs_ (R_fL u 119 0 16 (fun _ => 0)) 119 0 (fun _ => False) := R_bs_.mk (fun w b w0 w1 hb => by
  rw [R_fL_i (by omega) (by omega)]
  exact ⟨fun e => absurd e (T_bit_0 _), False.elim⟩)
theorem R_lk_m {d : Nat} {h0 : E_H} {u : R_S} {sl : Nat} {Φ : E_R → Prop} {n f : Int} (n0 : 0 ≤ n) (n1 : n ≤ 1000) (kont : ∀ (v : R_S) (h : E_H), R_is h0 h v → R_lq 119 u v → R_bs_ v 119 0 (fun j => 0 ≤ j ∧ j ≤ n) → B_R (d + 6) E_m268 (81, [(2, .int (Zi n)), (0, .ref 83), (1, .int (Zi f))], []) h sl Φ) : ∀ (t : Nat) (k : Int) (v : R_S) (h : E_H), n + 1 - k < t → R_is h0 h v → R_lq 119 u v → R_bs_ v 119 0 (fun j => 0 ≤ j ∧ j < k) → 0 ≤ k → k ≤ n + 1 → B_R (d + 6) E_m268 (60, [(3, .int (Zi k)), (2, .int (Zi n)), (0, .ref 83), (1, .int (Zi f))], []) h sl Φ := by
  intro t
  induction t with
  | zero => intro k v h ht hs hv hb k0 k1; omega
  | succ t ih =>
    intro k v h ht hs hv hb k0 k1
    have zk : Zr k := ⟨by omega, by omega⟩
    have zn : Zr n := ⟨by omega, by omega⟩
    refine Z_go (f2 := (61, [(3, .int (Zi k)), (2, .int (Zi n)), (0, .ref 83), (1, .int (Zi f))], [.int (Zi k)])) (fun _ => rfl) ?_
    refine Z_go (f2 := (62, [(3, .int (Zi k)), (2, .int (Zi n)), (0, .ref 83), (1, .int (Zi f))], [.int (Zi n), .int (Zi k)])) (fun _ => rfl) ?_
    refine Z_cgt rfl rfl (by first | exact hs.zF _ | exact Zor_r _ _ | exact hs.zA _ _ | assumption | exact zA _ _ | exact zS _ | exact Zr_not (hs.zA _ _) | exact ⟨by omega, by omega⟩) (by first | exact hs.zF _ | exact Zor_r _ _ | exact hs.zA _ _ | assumption | exact zA _ _ | exact zS _ | exact Zr_not (hs.zA _ _) | exact ⟨by omega, by omega⟩) (fun c1 => ?_) (fun c1 => ?_)
    · refine B_loc (K := [(2, .int (Zi n)), (0, .ref 83), (1, .int (Zi f))]) (N_all_sub ⟨rfl, rfl, rfl, trivial⟩) (show ([2, 0, 1] : List Nat).Nodup by decide) ?_
      obtain rfl : k = n + 1 := by omega
      exact kont v h hs hv (hb.weak (fun j j0 j1 => by omega))
    · refine Z_go (f2 := (66, [(3, .int (Zi k)), (2, .int (Zi n)), (0, .ref 83), (1, .int (Zi f))], [.ref 83])) (fun _ => rfl) ?_
      refine Z_go (f2 := (67, [(3, .int (Zi k)), (2, .int (Zi n)), (0, .ref 83), (1, .int (Zi f))], [.ref 83, .ref 83])) (fun _ => rfl) ?_
      refine R_gr (q := 117) rfl hs rfl ?_
      show B_R _ _ (70, [(3, .int (Zi k)), (2, .int (Zi n)), (0, .ref 83), (1, .int (Zi f))], [.ref 119, .ref 83]) _ _ _
      refine Z_go (f2 := (71, [(3, .int (Zi k)), (2, .int (Zi n)), (0, .ref 83), (1, .int (Zi f))], [.int (Zi 0), .ref 119, .ref 83])) (fun _ => rfl) ?_
      refine Z_go (f2 := (72, [(3, .int (Zi k)), (2, .int (Zi n)), (0, .ref 83), (1, .int (Zi f))], [.int (Zi k), .int (Zi 0), .ref 119, .ref 83])) (fun _ => rfl) ?_
      refine R_call (As := [.ref 119, .int (Zi 0), .int (Zi k)]) (rest := []) rfl (by decide) rfl rfl rfl rfl (by decide +kernel) (Nat.le_of_ble_eq_true rfl) hs (R_mark119 _ v ⟨by omega, by omega⟩ ⟨by omega, by omega⟩ k0 (by omega) (by omega) (by omega)) (fun x h w1 hs q => ?_)
      obtain ⟨rfl, e9⟩ := q
      show B_R _ _ (75, [(3, .int (Zi k)), (2, .int (Zi n)), (0, .ref 83), (1, .int (Zi f))], []) _ _ _
      refine Z_iinc (L2 := [(3, .int (Zi (k + 1))), (2, .int (Zi n)), (0, .ref 83), (1, .int (Zi f))]) rfl rfl (by decide) rfl ?_
      refine Z_go (f2 := (60, [(3, .int (Zi (k + 1))), (2, .int (Zi n)), (0, .ref 83), (1, .int (Zi f))], [])) (fun _ => rfl) ?_
      refine B_loc (K := [(3, .int (Zi (k + 1))), (2, .int (Zi n)), (0, .ref 83), (1, .int (Zi f))]) (N_all_sub ⟨rfl, rfl, rfl, rfl, trivial⟩) (show ([3, 2, 0, 1] : List Nat).Nodup by decide) ?_
      rw [e9] at hs
      exact ih (k + 1) _ h (by omega) hs (hv.tr (R_lq.st _ _ _ _)) ((R_bs_mark k0 rfl hb).weak (fun j j0 j1 => by omega)) (by omega) (by omega)
theorem R_lk_b {d : Nat} {h0 : E_H} {v : R_S} {sl : Nat} {Φ : E_R → Prop} {n f : Int} {X : Int → Prop} (n0 : 0 ≤ n) (n1 : n ≤ 1000) (hb : R_bs_ v 119 0 X) (kont : ∀ (k : Int) (h : E_H), R_is h0 h v → 0 ≤ k → k ≤ n + 1 → (∀ j, 0 ≤ j → j < k → ¬ X j) → (k ≤ n → X k) → B_R (d + 6) E_m268 (107, [(3, .int (Zi k)), (2, .int (Zi n)), (0, .ref 83), (1, .int (Zi f))], []) h sl Φ) : ∀ (t : Nat) (k : Int) (h : E_H), n + 1 - k < t → R_is h0 h v → 0 ≤ k → k ≤ n + 1 → (∀ j, 0 ≤ j → j < k → ¬ X j) → B_R (d + 6) E_m268 (88, [(3, .int (Zi k)), (2, .int (Zi n)), (0, .ref 83), (1, .int (Zi f))], []) h sl Φ := by
  intro t
  induction t with
  | zero => intro k h ht hs k0 k1 hk; omega
  | succ t ih =>
    intro k h ht hs k0 k1 hk
    have zk : Zr k := ⟨by omega, by omega⟩
    have zn : Zr n := ⟨by omega, by omega⟩
    refine Z_go (f2 := (89, [(3, .int (Zi k)), (2, .int (Zi n)), (0, .ref 83), (1, .int (Zi f))], [.int (Zi k)])) (fun _ => rfl) ?_
    refine Z_go (f2 := (90, [(3, .int (Zi k)), (2, .int (Zi n)), (0, .ref 83), (1, .int (Zi f))], [.int (Zi n), .int (Zi k)])) (fun _ => rfl) ?_
    refine Z_cgt rfl rfl (by first | exact hs.zF _ | exact Zor_r _ _ | exact hs.zA _ _ | assumption | exact zA _ _ | exact zS _ | exact Zr_not (hs.zA _ _) | exact ⟨by omega, by omega⟩) (by first | exact hs.zF _ | exact Zor_r _ _ | exact hs.zA _ _ | assumption | exact zA _ _ | exact zS _ | exact Zr_not (hs.zA _ _) | exact ⟨by omega, by omega⟩) (fun c1 => ?_) (fun c1 => ?_)
    · refine B_loc (K := [(3, .int (Zi k)), (2, .int (Zi n)), (0, .ref 83), (1, .int (Zi f))]) (N_all_sub ⟨rfl, rfl, rfl, rfl, trivial⟩) (show ([3, 2, 0, 1] : List Nat).Nodup by decide) ?_
      exact kont k h hs k0 k1 hk (fun q => by first | omega | (rcases hv9 with hv9 | hv9; exact hv9.2; omega))
    · refine Z_go (f2 := (94, [(3, .int (Zi k)), (2, .int (Zi n)), (0, .ref 83), (1, .int (Zi f))], [.ref 83])) (fun _ => rfl) ?_
      refine Z_go (f2 := (95, [(3, .int (Zi k)), (2, .int (Zi n)), (0, .ref 83), (1, .int (Zi f))], [.int (Zi k), .ref 83])) (fun _ => rfl) ?_
      refine R_call (As := [.int (Zi k)]) (rest := []) rfl (by decide) rfl rfl rfl rfl (by decide +kernel) (Nat.le_of_ble_eq_true rfl) hs (R_isAt _ v (X := X) ⟨by omega, by omega⟩ k0 (by omega) hb) (fun x h s2 hs q => ?_)
      obtain ⟨q0, v9, rfl, hv9⟩ := q
      rw [q0] at hs
      show B_R _ _ (98, [(3, .int (Zi k)), (2, .int (Zi n)), (0, .ref 83), (1, .int (Zi f))], [.int (Zi v9)]) _ _ _
      refine Z_ine rfl rfl (by first | exact hs.zF _ | exact Zor_r _ _ | exact hs.zA _ _ | assumption | exact zA _ _ | exact zS _ | exact Zr_not (hs.zA _ _) | exact ⟨by omega, by omega⟩) (fun c2 => ?_) (fun c2 => ?_)
      · refine B_loc (K := [(3, .int (Zi k)), (2, .int (Zi n)), (0, .ref 83), (1, .int (Zi f))]) (N_all_sub ⟨rfl, rfl, rfl, rfl, trivial⟩) (show ([3, 2, 0, 1] : List Nat).Nodup by decide) ?_
        exact kont k h hs k0 k1 hk (fun q => by first | omega | (rcases hv9 with hv9 | hv9; exact hv9.2; omega))
      · refine Z_iinc (L2 := [(3, .int (Zi (k + 1))), (2, .int (Zi n)), (0, .ref 83), (1, .int (Zi f))]) rfl rfl (by decide) rfl ?_
        refine Z_go (f2 := (88, [(3, .int (Zi (k + 1))), (2, .int (Zi n)), (0, .ref 83), (1, .int (Zi f))], [])) (fun _ => rfl) ?_
        refine B_loc (K := [(3, .int (Zi (k + 1))), (2, .int (Zi n)), (0, .ref 83), (1, .int (Zi f))]) (N_all_sub ⟨rfl, rfl, rfl, rfl, trivial⟩) (show ([3, 2, 0, 1] : List Nat).Nodup by decide) ?_
        exact ih (k + 1) h (by omega) hs (by omega) (by omega) (fun j j0 j1 => by
          by_cases c : j = k
          · rw [c]; rcases hv9 with hv9 | hv9; omega; exact hv9.2
          · exact hk j j0 (by omega))
theorem R_lk_e {d : Nat} {h0 : E_H} {v : R_S} {sl : Nat} {Φ : E_R → Prop} {n f b : Int} {X : Int → Prop} (b0 : 0 ≤ b) (n1 : n ≤ 1000) (hb : R_bs_ v 119 0 X) (kont : ∀ (k : Int) (h : E_H), R_is h0 h v → b ≤ k → k ≤ n → (∀ j, k < j → j ≤ n → ¬ X j) → (X k ∨ k = b) → B_R (d + 6) E_m268 (181, [(4, .int (Zi k)), (3, .int (Zi b)), (2, .int (Zi n)), (0, .ref 83), (1, .int (Zi f))], []) h sl Φ) : ∀ (t : Nat) (k : Int) (h : E_H), k - b < t → R_is h0 h v → b ≤ k → k ≤ n → (∀ j, k < j → j ≤ n → ¬ X j) → B_R (d + 6) E_m268 (160, [(4, .int (Zi k)), (3, .int (Zi b)), (2, .int (Zi n)), (0, .ref 83), (1, .int (Zi f))], []) h sl Φ := by
  intro t
  induction t with
  | zero => intro k h ht hs k0 k1 hk; omega
  | succ t ih =>
    intro k h ht hs k0b k1 hk
    have k0 : 0 ≤ k := by omega
    have zk : Zr k := ⟨by omega, by omega⟩
    have zb : Zr b := ⟨by omega, by omega⟩
    refine Z_go (f2 := (162, [(4, .int (Zi k)), (3, .int (Zi b)), (2, .int (Zi n)), (0, .ref 83), (1, .int (Zi f))], [.int (Zi k)])) (fun _ => rfl) ?_
    refine Z_go (f2 := (163, [(4, .int (Zi k)), (3, .int (Zi b)), (2, .int (Zi n)), (0, .ref 83), (1, .int (Zi f))], [.int (Zi b), .int (Zi k)])) (fun _ => rfl) ?_
    refine Z_cle rfl rfl (by first | exact hs.zF _ | exact Zor_r _ _ | exact hs.zA _ _ | assumption | exact zA _ _ | exact zS _ | exact Zr_not (hs.zA _ _) | exact ⟨by omega, by omega⟩) (by first | exact hs.zF _ | exact Zor_r _ _ | exact hs.zA _ _ | assumption | exact zA _ _ | exact zS _ | exact Zr_not (hs.zA _ _) | exact ⟨by omega, by omega⟩) (fun c1 => ?_) (fun c1 => ?_)
    · refine B_loc (K := [(4, .int (Zi k)), (3, .int (Zi b)), (2, .int (Zi n)), (0, .ref 83), (1, .int (Zi f))]) (N_all_sub ⟨rfl, rfl, rfl, rfl, rfl, trivial⟩) (show ([4, 3, 2, 0, 1] : List Nat).Nodup by decide) ?_
      exact kont k h hs k0b k1 hk (by first | (rcases hv9 with hv9 | hv9; exact .inl hv9.2; omega) | exact .inr (by omega))
    · refine Z_go (f2 := (167, [(4, .int (Zi k)), (3, .int (Zi b)), (2, .int (Zi n)), (0, .ref 83), (1, .int (Zi f))], [.ref 83])) (fun _ => rfl) ?_
      refine Z_go (f2 := (169, [(4, .int (Zi k)), (3, .int (Zi b)), (2, .int (Zi n)), (0, .ref 83), (1, .int (Zi f))], [.int (Zi k), .ref 83])) (fun _ => rfl) ?_
      refine R_call (As := [.int (Zi k)]) (rest := []) rfl (by decide) rfl rfl rfl rfl (by decide +kernel) (Nat.le_of_ble_eq_true rfl) hs (R_isAt _ v (X := X) ⟨by omega, by omega⟩ k0 (by omega) hb) (fun x h s2 hs q => ?_)
      obtain ⟨q0, v9, rfl, hv9⟩ := q
      rw [q0] at hs
      show B_R _ _ (172, [(4, .int (Zi k)), (3, .int (Zi b)), (2, .int (Zi n)), (0, .ref 83), (1, .int (Zi f))], [.int (Zi v9)]) _ _ _
      refine Z_ine rfl rfl (by first | exact hs.zF _ | exact Zor_r _ _ | exact hs.zA _ _ | assumption | exact zA _ _ | exact zS _ | exact Zr_not (hs.zA _ _) | exact ⟨by omega, by omega⟩) (fun c2 => ?_) (fun c2 => ?_)
      · refine B_loc (K := [(4, .int (Zi k)), (3, .int (Zi b)), (2, .int (Zi n)), (0, .ref 83), (1, .int (Zi f))]) (N_all_sub ⟨rfl, rfl, rfl, rfl, rfl, trivial⟩) (show ([4, 3, 2, 0, 1] : List Nat).Nodup by decide) ?_
        exact kont k h hs k0b k1 hk (by first | (rcases hv9 with hv9 | hv9; exact .inl hv9.2; omega) | exact .inr (by omega))
      · refine Z_iinc (L2 := [(4, .int (Zi (k + (-1)))), (3, .int (Zi b)), (2, .int (Zi n)), (0, .ref 83), (1, .int (Zi f))]) rfl rfl (by decide) rfl ?_
        refine Z_go (f2 := (160, [(4, .int (Zi (k + (-1)))), (3, .int (Zi b)), (2, .int (Zi n)), (0, .ref 83), (1, .int (Zi f))], [])) (fun _ => rfl) ?_
        refine B_loc (K := [(4, .int (Zi (k + (-1)))), (3, .int (Zi b)), (2, .int (Zi n)), (0, .ref 83), (1, .int (Zi f))]) (N_all_sub ⟨rfl, rfl, rfl, rfl, rfl, trivial⟩) (show ([4, 3, 2, 0, 1] : List Nat).Nodup by decide) ?_
        rw [show k + (-1) = k - 1 by omega]
        exact ih (k - 1) h (by omega) hs (by omega) (by omega) (fun j j0 j1 => by
          by_cases c : j = k
          · rw [c]; rcases hv9 with hv9 | hv9; omega; exact hv9.2
          · exact hk j (by omega) j1)
theorem R_lk_l {d : Nat} {h0 : E_H} {s v : R_S} {sl : Nat} {Φ : E_R → Prop} {n f b e : Int} (hf : R_in s f) (hn : n = s.2.1 87 f) (b0 : 0 ≤ b) (b1 : b ≤ n) (e85 : ∀ q j, q = 85 ∨ q = 86 → v.2.1 q j = s.2.1 q j) (kont : ∀ (h : E_H), R_is h0 h v → B_R (d + 6) E_m268 (228, [(5, .int (Zi (X_lin (R_wb s f) b.toNat))), (4, .int (Zi e)), (3, .int (Zi b)), (2, .int (Zi n)), (0, .ref 83), (1, .int (Zi f))], []) h sl Φ) : ∀ (t : Nat) (k l : Int) (h : E_H), b - k < t → R_is h0 h v → 0 ≤ k → k ≤ b → l = X_lin (R_wb s f) k.toNat → B_R (d + 6) E_m268 (187, [(6, .int (Zi k)), (5, .int (Zi l)), (4, .int (Zi e)), (3, .int (Zi b)), (2, .int (Zi n)), (0, .ref 83), (1, .int (Zi f))], []) h sl Φ := by
  intro t
  induction t with
  | zero => intro k l h ht hs k0 k1 hl; omega
  | succ t ih =>
    intro k l h ht hs k0 k1 hl
    obtain ⟨f0, f1, f2, f3, f4, f5, f6⟩ := id hf
    have zk : Zr k := ⟨by omega, by omega⟩
    have zb : Zr b := ⟨by omega, by omega⟩
    have x85 := fun j => e85 85 j (.inl rfl)
    have x86 := fun j => e85 86 j (.inr rfl)
    have y86 := x86 f
    refine Z_go (f2 := (189, [(6, .int (Zi k)), (5, .int (Zi l)), (4, .int (Zi e)), (3, .int (Zi b)), (2, .int (Zi n)), (0, .ref 83), (1, .int (Zi f))], [.int (Zi k)])) (fun _ => rfl) ?_
    refine Z_go (f2 := (190, [(6, .int (Zi k)), (5, .int (Zi l)), (4, .int (Zi e)), (3, .int (Zi b)), (2, .int (Zi n)), (0, .ref 83), (1, .int (Zi f))], [.int (Zi b), .int (Zi k)])) (fun _ => rfl) ?_
    refine Z_cge rfl rfl (by first | exact hs.zF _ | exact Zor_r _ _ | exact hs.zA _ _ | assumption | exact zA _ _ | exact zS _ | exact Zr_not (hs.zA _ _) | exact ⟨by omega, by omega⟩) (by first | exact hs.zF _ | exact Zor_r _ _ | exact hs.zA _ _ | assumption | exact zA _ _ | exact zS _ | exact Zr_not (hs.zA _ _) | exact ⟨by omega, by omega⟩) (fun c1 => ?_) (fun c1 => ?_)
    · refine B_loc (K := [(5, .int (Zi l)), (4, .int (Zi e)), (3, .int (Zi b)), (2, .int (Zi n)), (0, .ref 83), (1, .int (Zi f))]) (N_all_sub ⟨rfl, rfl, rfl, rfl, rfl, rfl, trivial⟩) (show ([5, 4, 3, 2, 0, 1] : List Nat).Nodup by decide) ?_
      obtain rfl : k = b := by omega
      subst hl
      exact kont h hs
    · refine Z_go (f2 := (195, [(6, .int (Zi k)), (5, .int (Zi l)), (4, .int (Zi e)), (3, .int (Zi b)), (2, .int (Zi n)), (0, .ref 83), (1, .int (Zi f))], [.int (Zi l)])) (fun _ => rfl) ?_
      refine Z_go (f2 := (196, [(6, .int (Zi k)), (5, .int (Zi l)), (4, .int (Zi e)), (3, .int (Zi b)), (2, .int (Zi n)), (0, .ref 83), (1, .int (Zi f))], [.ref 83, .int (Zi l)])) (fun _ => rfl) ?_
      refine R_gr (q := 83) rfl hs rfl ?_
      show B_R _ _ (199, [(6, .int (Zi k)), (5, .int (Zi l)), (4, .int (Zi e)), (3, .int (Zi b)), (2, .int (Zi n)), (0, .ref 83), (1, .int (Zi f))], [.ref 85, .int (Zi l)]) _ _ _
      refine Z_go (f2 := (200, [(6, .int (Zi k)), (5, .int (Zi l)), (4, .int (Zi e)), (3, .int (Zi b)), (2, .int (Zi n)), (0, .ref 83), (1, .int (Zi f))], [.ref 83, .ref 85, .int (Zi l)])) (fun _ => rfl) ?_
      refine R_gr (q := 84) rfl hs rfl ?_
      show B_R _ _ (203, [(6, .int (Zi k)), (5, .int (Zi l)), (4, .int (Zi e)), (3, .int (Zi b)), (2, .int (Zi n)), (0, .ref 83), (1, .int (Zi f))], [.ref 86, .ref 85, .int (Zi l)]) _ _ _
      refine Z_go (f2 := (204, [(6, .int (Zi k)), (5, .int (Zi l)), (4, .int (Zi e)), (3, .int (Zi b)), (2, .int (Zi n)), (0, .ref 83), (1, .int (Zi f))], [.int (Zi f), .ref 86, .ref 85, .int (Zi l)])) (fun _ => rfl) ?_
      refine R_ia (q := 2) rfl hs rfl rfl (by omega) (by omega) (by decide) ?_
      refine Z_go (f2 := (207, [(6, .int (Zi k)), (5, .int (Zi l)), (4, .int (Zi e)), (3, .int (Zi b)), (2, .int (Zi n)), (0, .ref 83), (1, .int (Zi f))], [.int (Zi k), .int (Zi (v.2.1 86 f)), .ref 85, .int (Zi l)])) (fun _ => rfl) ?_
      refine Z_iadd rfl ?_
      refine R_ia (q := 1) rfl hs rfl rfl (by omega) (by omega) (by decide) ?_
      refine Z_go (f2 := (211, [(6, .int (Zi k)), (5, .int (Zi l)), (4, .int (Zi e)), (3, .int (Zi b)), (2, .int (Zi n)), (0, .ref 83), (1, .int (Zi f))], [.int (Zi 10), .int (Zi (v.2.1 85 (v.2.1 86 f + k))), .int (Zi l)])) (fun _ => rfl) ?_
      refine Z_cne rfl rfl (by first | exact hs.zF _ | exact Zor_r _ _ | exact hs.zA _ _ | assumption | exact zA _ _ | exact zS _ | exact Zr_not (hs.zA _ _) | exact ⟨by omega, by omega⟩) (by first | exact hs.zF _ | exact Zor_r _ _ | exact hs.zA _ _ | assumption | exact zA _ _ | exact zS _ | exact Zr_not (hs.zA _ _) | exact ⟨by omega, by omega⟩) (fun c2 => ?_) (fun c2 => ?_)
      · refine Z_go (f2 := (219, [(6, .int (Zi k)), (5, .int (Zi l)), (4, .int (Zi e)), (3, .int (Zi b)), (2, .int (Zi n)), (0, .ref 83), (1, .int (Zi f))], [.int (Zi 0), .int (Zi l)])) (fun _ => rfl) ?_
        refine Z_iadd rfl ?_
        refine Z_go (f2 := (222, [(5, .int (Zi (l + 0))), (6, .int (Zi k)), (4, .int (Zi e)), (3, .int (Zi b)), (2, .int (Zi n)), (0, .ref 83), (1, .int (Zi f))], [])) (fun _ => rfl) ?_
        refine Z_iinc (L2 := [(6, .int (Zi (k + 1))), (5, .int (Zi (l + 0))), (4, .int (Zi e)), (3, .int (Zi b)), (2, .int (Zi n)), (0, .ref 83), (1, .int (Zi f))]) rfl rfl (by decide) rfl ?_
        refine Z_go (f2 := (187, [(6, .int (Zi (k + 1))), (5, .int (Zi (l + 0))), (4, .int (Zi e)), (3, .int (Zi b)), (2, .int (Zi n)), (0, .ref 83), (1, .int (Zi f))], [])) (fun _ => rfl) ?_
        refine B_loc (K := [(6, .int (Zi (k + 1))), (5, .int (Zi (l + 0))), (4, .int (Zi e)), (3, .int (Zi b)), (2, .int (Zi n)), (0, .ref 83), (1, .int (Zi f))]) (N_all_sub ⟨rfl, rfl, rfl, rfl, rfl, rfl, rfl, trivial⟩) (show ([6, 5, 4, 3, 2, 0, 1] : List Nat).Nodup by decide) ?_
        refine ih (k + 1) _ h (by omega) hs (by omega) (by omega) ?_
        rw [show (k + 1).toNat = k.toNat + 1 by omega]
        show _ = X_lin (R_wb s f) k.toNat + (if R_wb s f (k.toNat : Int) = 10 then 1 else 0)
        rw [show ((k.toNat : Nat) : Int) = k by omega, R_wb_in (by omega), ← x85, ← x86, ← hl]
        first | (rw [if_pos (by omega)]; done) | (rw [if_neg (by omega)]; done)
      · refine Z_go (f2 := (215, [(6, .int (Zi k)), (5, .int (Zi l)), (4, .int (Zi e)), (3, .int (Zi b)), (2, .int (Zi n)), (0, .ref 83), (1, .int (Zi f))], [.int (Zi 1), .int (Zi l)])) (fun _ => rfl) ?_
        refine Z_go (f2 := (219, [(6, .int (Zi k)), (5, .int (Zi l)), (4, .int (Zi e)), (3, .int (Zi b)), (2, .int (Zi n)), (0, .ref 83), (1, .int (Zi f))], [.int (Zi 1), .int (Zi l)])) (fun _ => rfl) ?_
        refine Z_iadd rfl ?_
        refine Z_go (f2 := (222, [(5, .int (Zi (l + 1))), (6, .int (Zi k)), (4, .int (Zi e)), (3, .int (Zi b)), (2, .int (Zi n)), (0, .ref 83), (1, .int (Zi f))], [])) (fun _ => rfl) ?_
        refine Z_iinc (L2 := [(6, .int (Zi (k + 1))), (5, .int (Zi (l + 1))), (4, .int (Zi e)), (3, .int (Zi b)), (2, .int (Zi n)), (0, .ref 83), (1, .int (Zi f))]) rfl rfl (by decide) rfl ?_
        refine Z_go (f2 := (187, [(6, .int (Zi (k + 1))), (5, .int (Zi (l + 1))), (4, .int (Zi e)), (3, .int (Zi b)), (2, .int (Zi n)), (0, .ref 83), (1, .int (Zi f))], [])) (fun _ => rfl) ?_
        refine B_loc (K := [(6, .int (Zi (k + 1))), (5, .int (Zi (l + 1))), (4, .int (Zi e)), (3, .int (Zi b)), (2, .int (Zi n)), (0, .ref 83), (1, .int (Zi f))]) (N_all_sub ⟨rfl, rfl, rfl, rfl, rfl, rfl, rfl, trivial⟩) (show ([6, 5, 4, 3, 2, 0, 1] : List Nat).Nodup by decide) ?_
        refine ih (k + 1) _ h (by omega) hs (by omega) (by omega) ?_
        rw [show (k + 1).toNat = k.toNat + 1 by omega]
        show _ = X_lin (R_wb s f) k.toNat + (if R_wb s f (k.toNat : Int) = 10 then 1 else 0)
        rw [show ((k.toNat : Nat) : Int) = k by omega, R_wb_in (by omega), ← x85, ← x86, ← hl]
        first | (rw [if_pos (by omega)]; done) | (rw [if_neg (by omega)]; done)
theorem R_sA_at (s : R_S) (q : Nat) (i j v : Int) : (R_sA s q i v).2.1 q j = if j = i then v else s.2.1 q j := by
  by_cases c : j = i
  · rw [if_pos c, c, R_sA_s]
  · rw [if_neg c, R_sA_m _ _ _ _ c]
theorem R_lk_A {d : Nat} {h0 : E_H} {s : R_S} {sl : Nat} {Φ : E_R → Prop} {n f : Int} {t : P_T} (ht : T_is t) (hd : T_dp t ≤ 23) (hz : T_sz t ≤ 200) (hH : T_hh t ≤ 250) (p1 : s.1 13 ≤ 400) (hf : R_in s f) (hn : n = s.2.1 87 f) (zf : Zr f) (p15 : s.1 15 ≤ 90) (o0 : 0 ≤ s.1 68) (o1 : s.1 68 < 40) (tl : R_tl s t) (dd : R_dd s 0 (X_dd t)) (kont : ∀ (u : R_S) (h : E_H), R_is h0 h u → R_lkw s u f t → R_xc u (T_cod true 0 t) → R_bs_ u 119 0 (fun j => 0 ≤ j ∧ j ≤ n) → B_R (d + 6) E_m268 (81, [(2, .int (Zi n)), (0, .ref 83), (1, .int (Zi f))], []) h sl Φ) (h : E_H) (hs : R_is h0 h s) : B_R (d + 6) E_m268 (0, [(0, .ref 83), (1, .int (Zi f))], []) h sl Φ := by
  obtain ⟨f0, f1, f2, f3, f4, f5, f6⟩ := id hf
  subst hn
  refine Z_go (f2 := (1, [(0, .ref 83), (1, .int (Zi f))], [.ref 83])) (fun _ => rfl) ?_
  refine R_gr (q := 129) rfl hs rfl ?_
  show B_R _ _ (4, [(0, .ref 83), (1, .int (Zi f))], [.ref 131]) _ _ _
  refine Z_go (f2 := (5, [(0, .ref 83), (1, .int (Zi f))], [.ref 83, .ref 131])) (fun _ => rfl) ?_
  refine R_gi rfl hs rfl ?_
  show B_R _ _ (8, [(0, .ref 83), (1, .int (Zi f))], [.int (Zi (s.1 68)), .ref 131]) _ _ _
  refine Z_go (f2 := (9, [(0, .ref 83), (1, .int (Zi f))], [.int (Zi f), .int (Zi (s.1 68)), .ref 131])) (fun _ => rfl) ?_
  refine R_is_ (q := 47) rfl hs rfl rfl (by omega) (by omega) (by decide) (by first | exact hs.zF _ | exact Zor_r _ _ | exact hs.zA _ _ | assumption | exact zA _ _ | exact zS _ | exact Zr_not (hs.zA _ _) | exact ⟨by omega, by omega⟩) (fun h hs => ?_)
  refine Z_go (f2 := (11, [(0, .ref 83), (1, .int (Zi f))], [.ref 83])) (fun _ => rfl) ?_
  refine Z_go (f2 := (12, [(0, .ref 83), (1, .int (Zi f))], [.ref 83, .ref 83])) (fun _ => rfl) ?_
  refine R_gi rfl hs rfl ?_
  show B_R _ _ (15, [(0, .ref 83), (1, .int (Zi f))], [.int (Zi (s.1 68)), .ref 83]) _ _ _
  refine Z_go (f2 := (16, [(0, .ref 83), (1, .int (Zi f))], [.int (Zi 1), .int (Zi (s.1 68)), .ref 83])) (fun _ => rfl) ?_
  refine Z_iadd rfl ?_
  refine R_pf rfl hs rfl (by first | exact hs.zF _ | exact Zor_r _ _ | exact hs.zA _ _ | assumption | exact zA _ _ | exact zS _ | exact Zr_not (hs.zA _ _) | exact ⟨by omega, by omega⟩) ⟨rfl, rfl, rfl⟩ (fun h hs => ?_)
  refine Z_go (f2 := (21, [(0, .ref 83), (1, .int (Zi f))], [.ref 83])) (fun _ => rfl) ?_
  refine R_gr (q := 85) rfl hs rfl ?_
  show B_R _ _ (24, [(0, .ref 83), (1, .int (Zi f))], [.ref 87]) _ _ _
  refine Z_go (f2 := (25, [(0, .ref 83), (1, .int (Zi f))], [.int (Zi f), .ref 87])) (fun _ => rfl) ?_
  refine R_ia (q := 3) rfl hs rfl rfl (by omega) (by omega) (by decide) ?_
  rw [show (R_sF (R_sA s 131 (s.1 68) f) 68 (s.1 68 + 1)).2.1 87 f = s.2.1 87 f by first | rfl | simp [R_sA, R_sF, R_up2, R_fl, R_fL, R_sM, R_sL, R_p3, R_em]]; show B_R _ _ (26, [(0, .ref 83), (1, .int (Zi f))], [.int (Zi (s.2.1 87 f))]) _ _ _
  refine Z_go (f2 := (27, [(2, .int (Zi (s.2.1 87 f))), (0, .ref 83), (1, .int (Zi f))], [])) (fun _ => rfl) ?_
  have hf1 : R_in (R_sF (R_sA s 131 (s.1 68) f) 68 (s.1 68 + 1)) f := hf
  have hWb : ∀ j, 0 ≤ j ∧ j < s.2.1 87 f → 0 ≤ R_wb s f j ∧ R_wb s f j < 256 := fun j hj => by rw [R_wb_in hj]; exact f6 _
  refine Z_go (f2 := (28, [(2, .int (Zi (s.2.1 87 f))), (0, .ref 83), (1, .int (Zi f))], [.ref 83])) (fun _ => rfl) ?_
  refine Z_go (f2 := (29, [(2, .int (Zi (s.2.1 87 f))), (0, .ref 83), (1, .int (Zi f))], [.int (Zi f), .ref 83])) (fun _ => rfl) ?_
  refine R_call (As := [.int (Zi f)]) (rest := []) rfl (by decide) rfl rfl rfl rfl (by decide +kernel) (Nat.le_of_ble_eq_true rfl) hs (R_marks _ (R_sF (R_sA s 131 (s.1 68) f) 68 (s.1 68 + 1)) zf hf1 (show 0 ≤ s.1 15 by have := tl.n15; omega) p15) (fun x h u1 hs q => ?_)
  obtain ⟨rfl, a1, a2, a3⟩ := q
  show B_R _ _ (32, [(2, .int (Zi (s.2.1 87 f))), (0, .ref 83), (1, .int (Zi f))], []) _ _ _
  have tl1 : R_tl u1 t := tl.cong (by rw [a1.1]; rfl) (by rw [a1.1]; rfl) (fun q j hq => by rw [a1.2.1]; exact R_sA_n _ _ _ _ (by rcases hq with rfl | rfl | rfl | rfl <;> decide))
  have p11 : u1.1 13 ≤ 400 := by rw [a1.1]; exact p1
  have dd1 : R_dd u1 0 (X_dd t) := dd.at (fun i _ _ => by rw [a1.2.1]; exact R_sA_n _ _ _ _ (by decide))
  refine Z_go (f2 := (33, [(2, .int (Zi (s.2.1 87 f))), (0, .ref 83), (1, .int (Zi f))], [.ref 83])) (fun _ => rfl) ?_
  refine Z_go (f2 := (34, [(2, .int (Zi (s.2.1 87 f))), (0, .ref 83), (1, .int (Zi f))], [.int (Zi 1), .ref 83])) (fun _ => rfl) ?_
  refine R_call (As := [.int (Zi 1)]) (rest := []) rfl (by decide) rfl rfl rfl rfl (by decide +kernel) (Nat.le_of_ble_eq_true rfl) hs (R_codes _ u1 ⟨by omega, by omega⟩ ht hd tl1 p11 dd1 hz) (fun x h u2 hs q => ?_)
  obtain ⟨rfl, b1, b2⟩ := q
  show B_R _ _ (37, [(2, .int (Zi (s.2.1 87 f))), (0, .ref 83), (1, .int (Zi f))], []) _ _ _
  refine Z_go (f2 := (38, [(2, .int (Zi (s.2.1 87 f))), (0, .ref 83), (1, .int (Zi f))], [.int (Zi 0)])) (fun _ => rfl) ?_
  refine Z_go (f2 := (39, [(3, .int (Zi 0)), (2, .int (Zi (s.2.1 87 f))), (0, .ref 83), (1, .int (Zi f))], [])) (fun _ => rfl) ?_
  have hw : R_lkw s u2 f t := by
    have e3 : ∀ p j, u2.2.2.2 p j = u1.2.2.2 p j := fun p j => b1.f4.2.2.2 p (by simp) j
    refine ⟨((R_f4.rf [48, 68] [113, 114, 115, 116, 131] [119, 120, 121] s).sA (q := 131) (i := s.1 68) (z := f) (by simp) |>.sF (b := 68) (z := s.1 68 + 1) (by simp) |>.tr a1.f4 (by simp) (by simp) (by simp)).tr b1.f4 (by simp) (by simp) (by simp), fun k hk => ((a3 k hk).at (fun x _ _ => e3 _ _)), ⟨by have := tl.n15; omega, fun i hi => ?_⟩, by rw [b1.1 68 (by decide), a1.1]; exact R_sF_s _ _ _, fun j => by rw [b1.2.1 131 (by decide), a1.2.1]; show (R_sA s 131 (s.1 68) f).2.1 131 j = _; exact R_sA_at s 131 (s.1 68) j f, tl1.cong (b1.1 13 (by decide)) (b1.1 15 (by decide)) (fun q j hq => b1.2.1 q (by rcases hq with rfl | rfl | rfl | rfl <;> decide) j), dd1.at (fun i _ _ => b1.2.1 117 (by decide) _)⟩
    have e15 := tl.n15
    refine (((a2 ((0 + i : Nat) : Int) (by omega) (show ((0 + i : Nat) : Int) < s.1 15 by omega)).at (fun x _ _ => e3 _ _))).weak (fun j j0 j1 => ?_)
    refine and_congr Iff.rfl ⟨fun e => ⟨e.1, ?_⟩, fun e => ⟨e.1, ?_⟩⟩
    · have hj := hWb j ⟨j0, e.1⟩
      have := (tl.h i hi (R_wb s f j) hj.1 hj.2).mp (by rw [show ((i : Nat) : Int) = ((0 + i : Nat) : Int) by omega]; exact e.2)
      exact this
    · have hj := hWb j ⟨j0, e.1⟩
      have := (tl.h i hi (R_wb s f j) hj.1 hj.2).mpr e.2
      rw [show ((i : Nat) : Int) = ((0 + i : Nat) : Int) by omega] at this
      exact this
  refine B_loc (K := [(3, .int (Zi 0)), (2, .int (Zi (s.2.1 87 f))), (0, .ref 83), (1, .int (Zi f))]) (N_all_sub ⟨rfl, rfl, rfl, rfl, trivial⟩) (show ([3, 2, 0, 1] : List Nat).Nodup by decide) ?_
  refine R_lk_z1 (u := u2) (b := 0) (fun h hs => ?_) 17 0 h (by omega) (by rw [R_fL_0]; exact hs) (by omega) (by omega)
  refine Z_go (f2 := (59, [(2, .int (Zi (s.2.1 87 f))), (0, .ref 83), (1, .int (Zi f))], [.int (Zi 0)])) (fun _ => rfl) ?_
  refine Z_go (f2 := (60, [(3, .int (Zi 0)), (2, .int (Zi (s.2.1 87 f))), (0, .ref 83), (1, .int (Zi f))], [])) (fun _ => rfl) ?_
  refine R_lk_m (u := R_fL u2 119 0 16 (fun _ => 0)) f3 f4 (fun v h hs hv hb => kont v h hs ((hw.lq (R_lq.fl _ _ _ _ _)).lq hv) ?_ hb) ((s.2.1 87 f).toNat + 2) 0 _ h (by omega) hs (R_lq.rf _ _) ((R_bs_0 u2).weak (fun j j0 j1 => ⟨False.elim, fun e => by omega⟩)) (by omega) (by omega)
  have b2 : R_xc u2 (T_cod true 0 t) := b2
  exact ⟨by rw [hv.1]; exact b2.1, b2.2.at (fun i _ _ => by rw [hv.2.1]; exact ⟨rfl, rfl⟩)⟩
theorem R_lk_C {d : Nat} {h0 : E_H} {s : R_S} {sl : Nat} {Φ : E_R → Prop} {n f : Int} {t : P_T} {b : Int} (ht : T_is t) (hd : T_dp t ≤ 23) (hz : T_sz t ≤ 200) (hH : T_hh t ≤ 250) (p1 : s.1 13 ≤ 400) (hf : R_in s f) (hn : n = s.2.1 87 f) (i0 : 0 ≤ s.1 63) (i1 : s.1 63 < 40) (b0 : 0 ≤ b) (b1 : b ≤ n) (hb1 : ∃ e, M_of (R_wb s f) (s.2.1 87 f) t b e) (hb2 : ∀ j, 0 ≤ j → j < b → ¬ ∃ e, M_of (R_wb s f) (s.2.1 87 f) t j e) (kont : ∀ (u : R_S) (h : E_H), R_is h0 h u → R_f4 [48, 63, 68] [113, 114, 115, 116, 127, 128, 129, 130, 131] [119, 120, 121] s u → R_lkd s u f t → Φ (none, h, sl)) (u : R_S) (h : E_H) (hs : R_is h0 h u) (hu : R_lkw s u f t) : B_R (d + 6) E_m268 (113, [(3, .int (Zi b)), (2, .int (Zi n)), (0, .ref 83), (1, .int (Zi f))], []) h sl Φ := by
  obtain ⟨f0, f1, f2, f3, f4, f5, f6⟩ := id hf
  subst hn
  have p11 : u.1 13 ≤ 400 := by rw [hu.1.1 13 (by decide)]; exact p1
  refine Z_go (f2 := (114, [(3, .int (Zi b)), (2, .int (Zi (s.2.1 87 f))), (0, .ref 83), (1, .int (Zi f))], [.ref 83])) (fun _ => rfl) ?_
  refine Z_go (f2 := (115, [(3, .int (Zi b)), (2, .int (Zi (s.2.1 87 f))), (0, .ref 83), (1, .int (Zi f))], [.int (Zi 0), .ref 83])) (fun _ => rfl) ?_
  refine R_call (As := [.int (Zi 0)]) (rest := []) rfl (by decide) rfl rfl rfl rfl (by decide +kernel) (Nat.le_of_ble_eq_true rfl) hs (R_codes _ u ⟨by omega, by omega⟩ ht hd hu.2.2.2.2.2.1 p11 hu.2.2.2.2.2.2 hz) (fun x h u2 hs q => ?_)
  obtain ⟨rfl, c1, c2⟩ := q
  show B_R _ _ (118, [(3, .int (Zi b)), (2, .int (Zi (s.2.1 87 f))), (0, .ref 83), (1, .int (Zi f))], []) _ _ _
  refine Z_go (f2 := (119, [(3, .int (Zi b)), (2, .int (Zi (s.2.1 87 f))), (0, .ref 83), (1, .int (Zi f))], [.int (Zi 0)])) (fun _ => rfl) ?_
  refine Z_go (f2 := (121, [(4, .int (Zi 0)), (3, .int (Zi b)), (2, .int (Zi (s.2.1 87 f))), (0, .ref 83), (1, .int (Zi f))], [])) (fun _ => rfl) ?_
  refine B_loc (K := [(4, .int (Zi 0)), (3, .int (Zi b)), (2, .int (Zi (s.2.1 87 f))), (0, .ref 83), (1, .int (Zi f))]) (N_all_sub ⟨rfl, rfl, rfl, rfl, rfl, trivial⟩) (show ([4, 3, 2, 0, 1] : List Nat).Nodup by decide) ?_
  refine R_lk_z2 (u := u2) (fun h hs => ?_) 17 0 h (by omega) (by rw [R_fL_0]; exact hs) (by omega) (by omega)
  refine Z_go (f2 := (143, [(3, .int (Zi b)), (2, .int (Zi (s.2.1 87 f))), (0, .ref 83), (1, .int (Zi f))], [.ref 83])) (fun _ => rfl) ?_
  refine Z_go (f2 := (144, [(3, .int (Zi b)), (2, .int (Zi (s.2.1 87 f))), (0, .ref 83), (1, .int (Zi f))], [.ref 83, .ref 83])) (fun _ => rfl) ?_
  refine R_gr (q := 117) rfl hs rfl ?_
  show B_R _ _ (147, [(3, .int (Zi b)), (2, .int (Zi (s.2.1 87 f))), (0, .ref 83), (1, .int (Zi f))], [.ref 119, .ref 83]) _ _ _
  refine Z_go (f2 := (148, [(3, .int (Zi b)), (2, .int (Zi (s.2.1 87 f))), (0, .ref 83), (1, .int (Zi f))], [.int (Zi 0), .ref 119, .ref 83])) (fun _ => rfl) ?_
  refine Z_go (f2 := (149, [(3, .int (Zi b)), (2, .int (Zi (s.2.1 87 f))), (0, .ref 83), (1, .int (Zi f))], [.int (Zi b), .int (Zi 0), .ref 119, .ref 83])) (fun _ => rfl) ?_
  refine R_call (As := [.ref 119, .int (Zi 0), .int (Zi b)]) (rest := []) rfl (by decide) rfl rfl rfl rfl (by decide +kernel) (Nat.le_of_ble_eq_true rfl) hs (R_mark119 _ (R_fL u2 119 0 16 (fun _ => 0)) ⟨by omega, by omega⟩ ⟨by omega, by omega⟩ b0 (by omega) (by omega) (by omega)) (fun x h w1 hs q => ?_)
  obtain ⟨rfl, e9⟩ := q
  show B_R _ _ (152, [(3, .int (Zi b)), (2, .int (Zi (s.2.1 87 f))), (0, .ref 83), (1, .int (Zi f))], []) _ _ _
  have hz0 := hu.co c1
  have hw1 : R_lkw s w1 f t := by rw [e9]; exact (hz0.lq (R_lq.fl u2 119 0 16 (fun _ => 0))).lq (R_lq.st _ _ _ _)
  have hl1 : R_lq 119 u2 w1 := by rw [e9]; exact (R_lq.fl u2 119 0 16 (fun _ => 0)).tr (R_lq.st _ _ _ _)
  have hx1 : R_xc w1 (T_cod (decide ((0 : Int) ≠ 0)) 0 t) := ⟨by rw [hl1.1]; exact c2.1, c2.2.at (fun i _ _ => by rw [hl1.2.1]; exact ⟨rfl, rfl⟩)⟩
  have hbb : R_bs_ w1 119 0 (fun j => j = b) := by rw [e9]; exact (R_bs_mark b0 rfl (R_bs_0 u2)).weak (fun j j0 j1 => ⟨fun e => e.elim False.elim id, .inr⟩)
  refine Z_go (f2 := (153, [(3, .int (Zi b)), (2, .int (Zi (s.2.1 87 f))), (0, .ref 83), (1, .int (Zi f))], [.ref 83])) (fun _ => rfl) ?_
  refine Z_go (f2 := (154, [(3, .int (Zi b)), (2, .int (Zi (s.2.1 87 f))), (0, .ref 83), (1, .int (Zi f))], [.int (Zi 0), .ref 83])) (fun _ => rfl) ?_
  refine R_call (As := [.int (Zi 0)]) (rest := []) rfl (by decide) rfl rfl rfl rfl (by decide +kernel) (Nat.le_of_ble_eq_true rfl) hs (R_leads _ w1 (W := R_wb s f) (n := s.2.1 87 f) (t := t) (X := fun j => j = b) ⟨by omega, by omega⟩ ht hH f3 f4 hx1 (by have := hx1.1; have := T_cod_len (back := false) ht 0; rw [show (decide ((0 : Int) ≠ 0)) = false from rfl] at *; omega) hw1.2.1 hw1.2.2.1 (fun i e => by have e : i = b := e; omega) hbb) (fun x h w2 hs q => ?_)
  obtain ⟨rfl, g1, g2⟩ := q
  show B_R _ _ (157, [(3, .int (Zi b)), (2, .int (Zi (s.2.1 87 f))), (0, .ref 83), (1, .int (Zi f))], []) _ _ _
  refine Z_go (f2 := (158, [(3, .int (Zi b)), (2, .int (Zi (s.2.1 87 f))), (0, .ref 83), (1, .int (Zi f))], [.int (Zi (s.2.1 87 f))])) (fun _ => rfl) ?_
  refine Z_go (f2 := (160, [(4, .int (Zi (s.2.1 87 f))), (3, .int (Zi b)), (2, .int (Zi (s.2.1 87 f))), (0, .ref 83), (1, .int (Zi f))], [])) (fun _ => rfl) ?_
  refine B_loc (K := [(4, .int (Zi (s.2.1 87 f))), (3, .int (Zi b)), (2, .int (Zi (s.2.1 87 f))), (0, .ref 83), (1, .int (Zi f))]) (N_all_sub ⟨rfl, rfl, rfl, rfl, rfl, trivial⟩) (show ([4, 3, 2, 0, 1] : List Nat).Nodup by decide) ?_
  have hw2 : R_lkw s w2 f t := hw1.lq g1
  have hXf : ∀ j, M_im 0 (M_of (R_wb s f) (s.2.1 87 f) t) (fun j => j = b) j ↔ M_of (R_wb s f) (s.2.1 87 f) t b j := fun j => by
    unfold M_im
    rw [if_pos rfl]
    exact ⟨fun ⟨i, e1, e2⟩ => by rw [← e1]; exact e2, fun e => ⟨b, rfl, e⟩⟩
  refine R_lk_e (v := w2) b0 f4 (g2.weak (fun j _ _ => hXf j)) (fun e h hs e0 e1 k1 k2 => ?_) ((s.2.1 87 f).toNat + 2) _ h (by omega) hs b1 (Int.le_refl _) (fun j j0 j1 => by omega)
  have hit : M_hit (R_wb s f) (s.2.1 87 f) t b e := by
    obtain ⟨e2, he2⟩ := hb1
    have r2 := M_of_rg ht b e2 he2
    refine ⟨?_, fun b2 e3 q => ?_, fun e3 q => ?_⟩
    · rcases k2 with k2 | k2
      · exact k2
      · by_cases c : e2 = e
        · rw [← c]; exact he2
        · exact absurd he2 (k1 e2 (by omega) (by omega))
    · have r3 := M_of_rg ht b2 e3 q
      exact Classical.byContradiction (fun c => hb2 b2 (by omega) (by omega) ⟨e3, q⟩)
    · have r3 := M_of_rg ht b e3 q
      exact Classical.byContradiction (fun c => k1 e3 (by omega) (by omega) q)
  refine Z_go (f2 := (182, [(4, .int (Zi e)), (3, .int (Zi b)), (2, .int (Zi (s.2.1 87 f))), (0, .ref 83), (1, .int (Zi f))], [.int (Zi 1)])) (fun _ => rfl) ?_
  refine Z_go (f2 := (184, [(5, .int (Zi 1)), (4, .int (Zi e)), (3, .int (Zi b)), (2, .int (Zi (s.2.1 87 f))), (0, .ref 83), (1, .int (Zi f))], [])) (fun _ => rfl) ?_
  refine Z_go (f2 := (185, [(5, .int (Zi 1)), (4, .int (Zi e)), (3, .int (Zi b)), (2, .int (Zi (s.2.1 87 f))), (0, .ref 83), (1, .int (Zi f))], [.int (Zi 0)])) (fun _ => rfl) ?_
  refine Z_go (f2 := (187, [(6, .int (Zi 0)), (5, .int (Zi 1)), (4, .int (Zi e)), (3, .int (Zi b)), (2, .int (Zi (s.2.1 87 f))), (0, .ref 83), (1, .int (Zi f))], [])) (fun _ => rfl) ?_
  refine B_loc (K := [(6, .int (Zi 0)), (5, .int (Zi 1)), (4, .int (Zi e)), (3, .int (Zi b)), (2, .int (Zi (s.2.1 87 f))), (0, .ref 83), (1, .int (Zi f))]) (N_all_sub ⟨rfl, rfl, rfl, rfl, rfl, rfl, rfl, trivial⟩) (show ([6, 5, 4, 3, 2, 0, 1] : List Nat).Nodup by decide) ?_
  refine R_lk_l (s := s) (v := w2) hf rfl b0 b1 (fun q j hq => hw2.1.2.1 q (by rcases hq with rfl | rfl <;> decide) j) (fun h hs => ?_) (b.toNat + 1) 0 1 h (by omega) hs (by omega) b0 rfl
  have zl : Zr (X_lin (R_wb s f) b.toNat) := by have := X_lin_b (R_wb s f) b.toNat; exact ⟨by omega, by omega⟩
  have i63 : w2.1 63 = s.1 63 := hw2.1.1 63 (by decide)
  have ze : Zr e := ⟨by omega, by omega⟩
  have zb : Zr b := ⟨by omega, by omega⟩
  have zf : Zr f := ⟨by omega, by omega⟩
  refine Z_go (f2 := (229, [(5, .int (Zi (X_lin (R_wb s f) b.toNat))), (4, .int (Zi e)), (3, .int (Zi b)), (2, .int (Zi (s.2.1 87 f))), (0, .ref 83), (1, .int (Zi f))], [.ref 83])) (fun _ => rfl) ?_
  refine R_gr (q := 125) rfl hs rfl ?_
  show B_R _ _ (232, [(5, .int (Zi (X_lin (R_wb s f) b.toNat))), (4, .int (Zi e)), (3, .int (Zi b)), (2, .int (Zi (s.2.1 87 f))), (0, .ref 83), (1, .int (Zi f))], [.ref 127]) _ _ _
  refine Z_go (f2 := (233, [(5, .int (Zi (X_lin (R_wb s f) b.toNat))), (4, .int (Zi e)), (3, .int (Zi b)), (2, .int (Zi (s.2.1 87 f))), (0, .ref 83), (1, .int (Zi f))], [.ref 83, .ref 127])) (fun _ => rfl) ?_
  refine R_gi rfl hs rfl ?_
  show B_R _ _ (236, [(5, .int (Zi (X_lin (R_wb s f) b.toNat))), (4, .int (Zi e)), (3, .int (Zi b)), (2, .int (Zi (s.2.1 87 f))), (0, .ref 83), (1, .int (Zi f))], [.int (Zi (w2.1 63)), .ref 127]) _ _ _
  refine Z_go (f2 := (237, [(5, .int (Zi (X_lin (R_wb s f) b.toNat))), (4, .int (Zi e)), (3, .int (Zi b)), (2, .int (Zi (s.2.1 87 f))), (0, .ref 83), (1, .int (Zi f))], [.int (Zi f), .int (Zi (w2.1 63)), .ref 127])) (fun _ => rfl) ?_
  refine R_is_ (q := 43) rfl hs rfl rfl (by omega) (by omega) (by decide) (by first | exact hs.zF _ | exact Zor_r _ _ | exact hs.zA _ _ | assumption | exact zA _ _ | exact zS _ | exact Zr_not (hs.zA _ _) | exact ⟨by omega, by omega⟩) (fun h hs => ?_)
  refine Z_go (f2 := (239, [(5, .int (Zi (X_lin (R_wb s f) b.toNat))), (4, .int (Zi e)), (3, .int (Zi b)), (2, .int (Zi (s.2.1 87 f))), (0, .ref 83), (1, .int (Zi f))], [.ref 83])) (fun _ => rfl) ?_
  refine R_gr (q := 126) rfl hs rfl ?_
  show B_R _ _ (242, [(5, .int (Zi (X_lin (R_wb s f) b.toNat))), (4, .int (Zi e)), (3, .int (Zi b)), (2, .int (Zi (s.2.1 87 f))), (0, .ref 83), (1, .int (Zi f))], [.ref 128]) _ _ _
  refine Z_go (f2 := (243, [(5, .int (Zi (X_lin (R_wb s f) b.toNat))), (4, .int (Zi e)), (3, .int (Zi b)), (2, .int (Zi (s.2.1 87 f))), (0, .ref 83), (1, .int (Zi f))], [.ref 83, .ref 128])) (fun _ => rfl) ?_
  refine R_gi rfl hs rfl ?_
  show B_R _ _ (246, [(5, .int (Zi (X_lin (R_wb s f) b.toNat))), (4, .int (Zi e)), (3, .int (Zi b)), (2, .int (Zi (s.2.1 87 f))), (0, .ref 83), (1, .int (Zi f))], [.int (Zi (w2.1 63)), .ref 128]) _ _ _
  refine Z_go (f2 := (247, [(5, .int (Zi (X_lin (R_wb s f) b.toNat))), (4, .int (Zi e)), (3, .int (Zi b)), (2, .int (Zi (s.2.1 87 f))), (0, .ref 83), (1, .int (Zi f))], [.int (Zi b), .int (Zi (w2.1 63)), .ref 128])) (fun _ => rfl) ?_
  refine R_is_ (q := 44) rfl hs rfl rfl (by omega) (by omega) (by decide) (by first | exact hs.zF _ | exact Zor_r _ _ | exact hs.zA _ _ | assumption | exact zA _ _ | exact zS _ | exact Zr_not (hs.zA _ _) | exact ⟨by omega, by omega⟩) (fun h hs => ?_)
  refine Z_go (f2 := (249, [(5, .int (Zi (X_lin (R_wb s f) b.toNat))), (4, .int (Zi e)), (3, .int (Zi b)), (2, .int (Zi (s.2.1 87 f))), (0, .ref 83), (1, .int (Zi f))], [.ref 83])) (fun _ => rfl) ?_
  refine R_gr (q := 127) rfl hs rfl ?_
  show B_R _ _ (252, [(5, .int (Zi (X_lin (R_wb s f) b.toNat))), (4, .int (Zi e)), (3, .int (Zi b)), (2, .int (Zi (s.2.1 87 f))), (0, .ref 83), (1, .int (Zi f))], [.ref 129]) _ _ _
  refine Z_go (f2 := (253, [(5, .int (Zi (X_lin (R_wb s f) b.toNat))), (4, .int (Zi e)), (3, .int (Zi b)), (2, .int (Zi (s.2.1 87 f))), (0, .ref 83), (1, .int (Zi f))], [.ref 83, .ref 129])) (fun _ => rfl) ?_
  refine R_gi rfl hs rfl ?_
  show B_R _ _ (256, [(5, .int (Zi (X_lin (R_wb s f) b.toNat))), (4, .int (Zi e)), (3, .int (Zi b)), (2, .int (Zi (s.2.1 87 f))), (0, .ref 83), (1, .int (Zi f))], [.int (Zi (w2.1 63)), .ref 129]) _ _ _
  refine Z_go (f2 := (258, [(5, .int (Zi (X_lin (R_wb s f) b.toNat))), (4, .int (Zi e)), (3, .int (Zi b)), (2, .int (Zi (s.2.1 87 f))), (0, .ref 83), (1, .int (Zi f))], [.int (Zi e), .int (Zi (w2.1 63)), .ref 129])) (fun _ => rfl) ?_
  refine R_is_ (q := 45) rfl hs rfl rfl (by omega) (by omega) (by decide) (by first | exact hs.zF _ | exact Zor_r _ _ | exact hs.zA _ _ | assumption | exact zA _ _ | exact zS _ | exact Zr_not (hs.zA _ _) | exact ⟨by omega, by omega⟩) (fun h hs => ?_)
  refine Z_go (f2 := (260, [(5, .int (Zi (X_lin (R_wb s f) b.toNat))), (4, .int (Zi e)), (3, .int (Zi b)), (2, .int (Zi (s.2.1 87 f))), (0, .ref 83), (1, .int (Zi f))], [.ref 83])) (fun _ => rfl) ?_
  refine R_gr (q := 128) rfl hs rfl ?_
  show B_R _ _ (263, [(5, .int (Zi (X_lin (R_wb s f) b.toNat))), (4, .int (Zi e)), (3, .int (Zi b)), (2, .int (Zi (s.2.1 87 f))), (0, .ref 83), (1, .int (Zi f))], [.ref 130]) _ _ _
  refine Z_go (f2 := (264, [(5, .int (Zi (X_lin (R_wb s f) b.toNat))), (4, .int (Zi e)), (3, .int (Zi b)), (2, .int (Zi (s.2.1 87 f))), (0, .ref 83), (1, .int (Zi f))], [.ref 83, .ref 130])) (fun _ => rfl) ?_
  refine R_gi rfl hs rfl ?_
  show B_R _ _ (267, [(5, .int (Zi (X_lin (R_wb s f) b.toNat))), (4, .int (Zi e)), (3, .int (Zi b)), (2, .int (Zi (s.2.1 87 f))), (0, .ref 83), (1, .int (Zi f))], [.int (Zi (w2.1 63)), .ref 130]) _ _ _
  refine Z_go (f2 := (269, [(5, .int (Zi (X_lin (R_wb s f) b.toNat))), (4, .int (Zi e)), (3, .int (Zi b)), (2, .int (Zi (s.2.1 87 f))), (0, .ref 83), (1, .int (Zi f))], [.int (Zi (X_lin (R_wb s f) b.toNat)), .int (Zi (w2.1 63)), .ref 130])) (fun _ => rfl) ?_
  refine R_is_ (q := 46) rfl hs rfl rfl (by omega) (by omega) (by decide) (by first | exact hs.zF _ | exact Zor_r _ _ | exact hs.zA _ _ | assumption | exact zA _ _ | exact zS _ | exact Zr_not (hs.zA _ _) | exact ⟨by omega, by omega⟩) (fun h hs => ?_)
  refine Z_go (f2 := (271, [(5, .int (Zi (X_lin (R_wb s f) b.toNat))), (4, .int (Zi e)), (3, .int (Zi b)), (2, .int (Zi (s.2.1 87 f))), (0, .ref 83), (1, .int (Zi f))], [.ref 83])) (fun _ => rfl) ?_
  refine Z_go (f2 := (272, [(5, .int (Zi (X_lin (R_wb s f) b.toNat))), (4, .int (Zi e)), (3, .int (Zi b)), (2, .int (Zi (s.2.1 87 f))), (0, .ref 83), (1, .int (Zi f))], [.ref 83, .ref 83])) (fun _ => rfl) ?_
  refine R_gi rfl hs rfl ?_
  show B_R _ _ (275, [(5, .int (Zi (X_lin (R_wb s f) b.toNat))), (4, .int (Zi e)), (3, .int (Zi b)), (2, .int (Zi (s.2.1 87 f))), (0, .ref 83), (1, .int (Zi f))], [.int (Zi (w2.1 63)), .ref 83]) _ _ _
  refine Z_go (f2 := (276, [(5, .int (Zi (X_lin (R_wb s f) b.toNat))), (4, .int (Zi e)), (3, .int (Zi b)), (2, .int (Zi (s.2.1 87 f))), (0, .ref 83), (1, .int (Zi f))], [.int (Zi 1), .int (Zi (w2.1 63)), .ref 83])) (fun _ => rfl) ?_
  refine Z_iadd rfl ?_
  refine R_pf rfl hs rfl (by first | exact hs.zF _ | exact Zor_r _ _ | exact hs.zA _ _ | assumption | exact zA _ _ | exact zS _ | exact Zr_not (hs.zA _ _) | exact ⟨by omega, by omega⟩) ⟨rfl, rfl, rfl⟩ (fun h hs => ?_)
  refine Z_ret rfl rfl ?_
  refine kont _ _ hs (((((((hw2.1.up (by simp) (by simp) (by simp)).sA (by simp)).sA (by simp)).sA (by simp)).sA (by simp)).sF (by simp))) ⟨?_, fun j => ?_, .inr ⟨b, e, hit, ?_, fun q j q0 q1 => ?_⟩⟩
  · rw [R_sF_n _ _ (by decide)]
    exact hw2.2.2.2.1
  · rw [R_sF_a, R_sA_n _ _ _ _ (by decide), R_sA_n _ _ _ _ (by decide), R_sA_n _ _ _ _ (by decide), R_sA_n _ _ _ _ (by decide)]
    exact hw2.2.2.2.2.1 j
  · rw [R_sF_s]
    show w2.1 63 + 1 = _
    rw [i63]
  · have eo := hw2.1.2.1 q (by simp; omega) j
    rw [R_sF_a]
    obtain rfl | rfl | rfl | rfl : q = 127 ∨ q = 128 ∨ q = 129 ∨ q = 130 := by omega
    · rw [R_sA_n _ _ _ _ (by decide), R_sA_n _ _ _ _ (by decide), R_sA_n _ _ _ _ (by decide), R_sA_at, i63, eo, if_pos rfl]
    · rw [R_sA_n _ _ _ _ (by decide), R_sA_n _ _ _ _ (by decide), R_sA_at]
      show (if j = w2.1 63 then b else (R_sA w2 127 (w2.1 63) f).2.1 128 j) = _
      rw [R_sA_n _ _ _ _ (by decide), i63, eo, if_neg (show ¬ (128 = 127) by decide), if_pos rfl]
    · rw [R_sA_n _ _ _ _ (by decide), R_sA_at]
      show (if j = w2.1 63 then e else _) = _
      rw [R_sA_n _ _ _ _ (by decide), R_sA_n _ _ _ _ (by decide), i63, eo, if_neg (show ¬ (129 = 127) by decide), if_neg (show ¬ (129 = 128) by decide), if_pos rfl]
    · rw [R_sA_at]
      show (if j = w2.1 63 then X_lin (R_wb s f) b.toNat else _) = _
      rw [R_sA_n _ _ _ _ (by decide), R_sA_n _ _ _ _ (by decide), R_sA_n _ _ _ _ (by decide), i63, eo, if_neg (show ¬ (130 = 127) by decide), if_neg (show ¬ (130 = 128) by decide), if_neg (show ¬ (130 = 129) by decide)]
theorem R_looks (d : Nat) (s : R_S) {f : Int} {t : P_T} (zf : Zr f) (ht : T_is t) (hd : T_dp t ≤ 23) (hz : T_sz t ≤ 200) (hH : T_hh t ≤ 250) (p1 : s.1 13 ≤ 400) (p15 : s.1 15 ≤ 90) (hf : R_in s f) (tl : R_tl s t) (dd : R_dd s 0 (X_dd t)) (o0 : 0 ≤ s.1 68) (o1 : s.1 68 < 40) (i0 : 0 ≤ s.1 63) (i1 : s.1 63 < 40) : R_ok (d + 7) 268 [.int (Zi f)] s (fun x u => x = none ∧ R_f4 [48, 63, 68] [113, 114, 115, 116, 127, 128, 129, 130, 131] [119, 120, 121] s u ∧ R_lkd s u f t) := by
  refine R_enter (M := E_m268) rfl (Nat.le_of_ble_eq_true rfl) (fun h0 h hs => ?_)
  show B_R (d + 6) _ (0, [(0, .ref 83), (1, .int (Zi f))], []) _ _ _
  obtain ⟨f0, f1, f2, f3, f4, f5, f6⟩ := id hf
  refine R_lk_A ht hd hz hH p1 hf rfl zf p15 o0 o1 tl dd (fun u h hs hu hx hb => ?_) h hs
  refine Z_go (f2 := (82, [(2, .int (Zi (s.2.1 87 f))), (0, .ref 83), (1, .int (Zi f))], [.ref 83])) (fun _ => rfl) ?_
  refine Z_go (f2 := (83, [(2, .int (Zi (s.2.1 87 f))), (0, .ref 83), (1, .int (Zi f))], [.int (Zi 1), .ref 83])) (fun _ => rfl) ?_
  refine R_call (As := [.int (Zi 1)]) (rest := []) rfl (by decide) rfl rfl rfl rfl (by decide +kernel) (Nat.le_of_ble_eq_true rfl) hs (R_leads _ u (W := R_wb s f) (n := s.2.1 87 f) (t := t) (X := fun j => 0 ≤ j ∧ j ≤ s.2.1 87 f) ⟨by omega, by omega⟩ ht hH f3 f4 hx (by have := hx.1; have := T_cod_len (back := true) ht 0; omega) hu.2.1 hu.2.2.1 (fun i e => e) hb) (fun x h w2 hs q => ?_)
  obtain ⟨rfl, g1, g2⟩ := q
  show B_R _ _ (86, [(2, .int (Zi (s.2.1 87 f))), (0, .ref 83), (1, .int (Zi f))], []) _ _ _
  refine Z_go (f2 := (87, [(2, .int (Zi (s.2.1 87 f))), (0, .ref 83), (1, .int (Zi f))], [.int (Zi 0)])) (fun _ => rfl) ?_
  refine Z_go (f2 := (88, [(3, .int (Zi 0)), (2, .int (Zi (s.2.1 87 f))), (0, .ref 83), (1, .int (Zi f))], [])) (fun _ => rfl) ?_
  refine B_loc (K := [(3, .int (Zi 0)), (2, .int (Zi (s.2.1 87 f))), (0, .ref 83), (1, .int (Zi f))]) (N_all_sub ⟨rfl, rfl, rfl, rfl, trivial⟩) (show ([3, 2, 0, 1] : List Nat).Nodup by decide) ?_
  have hw2 := hu.lq g1
  have hXb : ∀ j, M_im 1 (M_of (R_wb s f) (s.2.1 87 f) t) (fun j => 0 ≤ j ∧ j ≤ s.2.1 87 f) j ↔ ∃ e, M_of (R_wb s f) (s.2.1 87 f) t j e := fun j => by
    unfold M_im
    rw [if_neg (by decide)]
    exact ⟨fun ⟨i, e1, e2⟩ => ⟨i, e2⟩, fun ⟨i, e2⟩ => ⟨i, by have := M_of_rg ht _ _ e2; omega, e2⟩⟩
  refine R_lk_b (v := w2) f3 f4 (g2.weak (fun j _ _ => hXb j)) (fun b h hs b0 b1 k1 k2 => ?_) ((s.2.1 87 f).toNat + 2) 0 h (by omega) hs (by omega) (by omega) (fun j j0 j1 => by omega)
  have zb : Zr b := ⟨by omega, by omega⟩
  have zn : Zr (s.2.1 87 f) := ⟨by omega, by omega⟩
  refine Z_go (f2 := (108, [(3, .int (Zi b)), (2, .int (Zi (s.2.1 87 f))), (0, .ref 83), (1, .int (Zi f))], [.int (Zi b)])) (fun _ => rfl) ?_
  refine Z_go (f2 := (109, [(3, .int (Zi b)), (2, .int (Zi (s.2.1 87 f))), (0, .ref 83), (1, .int (Zi f))], [.int (Zi (s.2.1 87 f)), .int (Zi b)])) (fun _ => rfl) ?_
  refine Z_cle rfl rfl (by first | exact hs.zF _ | exact Zor_r _ _ | exact hs.zA _ _ | assumption | exact zA _ _ | exact zS _ | exact Zr_not (hs.zA _ _) | exact ⟨by omega, by omega⟩) (by first | exact hs.zF _ | exact Zor_r _ _ | exact hs.zA _ _ | assumption | exact zA _ _ | exact zS _ | exact Zr_not (hs.zA _ _) | exact ⟨by omega, by omega⟩) (fun c1 => ?_) (fun c1 => ?_)
  · exact R_lk_C ht hd hz hH p1 hf rfl i0 i1 b0 (by omega) (k2 (by omega)) k1 (fun u h hs q1 q2 => ⟨_, hs, ⟨rfl, q1, q2⟩, rfl⟩) w2 h hs hw2
  · refine Z_ret rfl rfl ⟨_, hs, ?_, rfl⟩
    refine ⟨rfl, hw2.1.up (by simp) (by simp) (by simp), hw2.2.2.2.1, hw2.2.2.2.2.1, .inl ⟨fun b2 e q => ?_, hw2.1.1 63 (by decide), fun q j q0 q1 => hw2.1.2.1 q (by simp; omega) j⟩⟩
    have := M_of_rg ht _ _ q
    exact k1 b2 (by omega) (by omega) ⟨e, q⟩
