/-! the reference: sets of bytes -/
def R_has (s : R_S) (m b : Int) : Prop := D_bit (s.2.1 93 (8 * m + b / 32)) (b % 32)
/-- s2 is s, but the set m is H -/
def R_ss (s s2 : R_S) (m : Int) (H : Int → Prop) : Prop := s2.1 = s.1 ∧ (∀ q j, q ≠ 93 → s2.2.1 q j = s.2.1 q j) ∧ s2.2.2 = s.2.2 ∧ (∀ k b, 0 ≤ k → k ≠ m → 0 ≤ b → b < 256 → (R_has s2 k b ↔ R_has s k b)) ∧ (∀ b, 0 ≤ b → b < 256 → (R_has s2 m b ↔ H b))
theorem R_ss.trans {s s2 s3 : R_S} {m : Int} {H G : Int → Prop} (h : R_ss s s2 m H) (k : R_ss s2 s3 m G) : R_ss s s3 m G := by
  refine ⟨by rw [k.1, h.1], fun q j hq => by rw [k.2.1 q j hq, h.2.1 q j hq], by rw [k.2.2.1, h.2.2.1], fun c b c0 c1 b0 b1 => (k.2.2.2.1 c b c0 c1 b0 b1).trans (h.2.2.2.1 c b c0 c1 b0 b1), k.2.2.2.2⟩
theorem R_ss.weak {s s2 : R_S} {m : Int} {H G : Int → Prop} (h : R_ss s s2 m H) (k : ∀ b, 0 ≤ b → b < 256 → (H b ↔ G b)) : R_ss s s2 m G := ⟨h.1, h.2.1, h.2.2.1, h.2.2.2.1, fun b b0 b1 => (h.2.2.2.2 b b0 b1).trans (k b b0 b1)⟩
theorem R_ss_0 (s : R_S) (m : Int) : R_ss s s m (R_has s m) := ⟨rfl, fun _ _ _ => rfl, rfl, fun _ _ _ _ _ _ => Iff.rfl, fun _ _ _ => Iff.rfl⟩
theorem R_ss_put {s : R_S} {m b z v : Int} (m0 : 0 ≤ m) (b0 : 0 ≤ b) (b1 : b < 256) (hz : z = 8 * m + b / 32) (hv : v = Zor (s.2.1 93 z) (2 ^ (b % 32).toNat)) : R_ss s (R_sA s 93 z v) m (fun x => R_has s m x ∨ x = b) := by
  subst hz
  refine ⟨rfl, fun q j hq => R_sA_n s _ _ _ hq, rfl, fun k x k0 k1 x0 x1 => ?_, fun x x0 x1 => ?_⟩
  · unfold R_has
    rw [R_sA_m s _ _ _ (by omega)]
  · show R_has _ _ _ ↔ (R_has s m x ∨ x = b)
    unfold R_has
    by_cases c : x / 32 = b / 32
    · rw [c, R_sA_s, hv, D_bit_or (by omega) (by omega), D_bit_pow (by omega) (by omega) (by omega) (by omega)]
      have : x % 32 = b % 32 ↔ x = b := by omega
      rw [this]
    · rw [R_sA_m s _ _ _ (by omega)]
      constructor
      · exact .inl
      · intro h
        rcases h with h | h
        · exact h
        · exact absurd (by rw [h]) c
def R_b01 (s : R_S) : Prop := ∀ q j, s.2.1 q j = 0
theorem R_has0 (d : Nat) (s : R_S) {m b : Int}  (zm : Zr m) (zb : Zr b) (m0 : 0 ≤ m) (m1 : m < 90) (b0 : 0 ≤ b) (b1 : b < 256) : R_ok (d + 1) 200 [.int (Zi m), .int (Zi b)] s (fun x s2 => s2 = s ∧ ∃ v : Int, x = some (.int (Zi v)) ∧ (v = 1 ∧ R_has s m b ∨ v = 0 ∧ ¬ R_has s m b)) := by
  refine R_enter (M := E_m200) rfl (Nat.le_of_ble_eq_true rfl) (fun h0 h hs => ?_)
  show B_R d _ (0, [(0, .ref 83), (1, .int (Zi m)), (2, .int (Zi b))], []) _ _ _
  refine Z_go (f2 := (1, [(0, .ref 83), (1, .int (Zi m)), (2, .int (Zi b))], [.ref 83])) (fun _ => rfl) ?_
  refine R_gr (q := 91) rfl hs rfl ?_
  show B_R _ _ (4, [(0, .ref 83), (1, .int (Zi m)), (2, .int (Zi b))], [.ref 93]) _ _ _
  refine Z_go (f2 := (6, [(0, .ref 83), (1, .int (Zi m)), (2, .int (Zi b))], [.int (Zi 8), .ref 93])) (fun _ => rfl) ?_
  refine Z_go (f2 := (7, [(0, .ref 83), (1, .int (Zi m)), (2, .int (Zi b))], [.int (Zi m), .int (Zi 8), .ref 93])) (fun _ => rfl) ?_
  refine Z_imul rfl ?_
  refine Z_go (f2 := (9, [(0, .ref 83), (1, .int (Zi m)), (2, .int (Zi b))], [.int (Zi b), .int (Zi (8 * m)), .ref 93])) (fun _ => rfl) ?_
  refine Z_go (f2 := (11, [(0, .ref 83), (1, .int (Zi m)), (2, .int (Zi b))], [.int (Zi 32), .int (Zi b), .int (Zi (8 * m)), .ref 93])) (fun _ => rfl) ?_
  refine Z_idiv rfl (by omega) (by omega) (by omega) (by omega) ?_
  refine Z_iadd rfl ?_
  refine R_ia (q := 9) rfl hs rfl rfl (by omega) (by omega) (by decide) ?_
  refine Z_go (f2 := (15, [(0, .ref 83), (1, .int (Zi m)), (2, .int (Zi b))], [.int (Zi b), .int (Zi (s.2.1 93 (8 * m + (b / 32))))])) (fun _ => rfl) ?_
  refine Z_go (f2 := (17, [(0, .ref 83), (1, .int (Zi m)), (2, .int (Zi b))], [.int (Zi 32), .int (Zi b), .int (Zi (s.2.1 93 (8 * m + (b / 32))))])) (fun _ => rfl) ?_
  refine Z_irem rfl (by omega) (by omega) (by omega) (by omega) ?_
  refine Z_iushr rfl (by omega) (by omega) (p := 2 ^ (b % 32).toNat) (by rfl) ?_
  refine Z_go (f2 := (20, [(0, .ref 83), (1, .int (Zi m)), (2, .int (Zi b))], [.int (Zi 1), .int (Zi ((s.2.1 93 (8 * m + (b / 32))) % 4294967296 / (2 ^ (b % 32).toNat)))])) (fun _ => rfl) ?_
  refine Z_and1 rfl ?_
  refine Z_go (f2 := (22, [(0, .ref 83), (1, .int (Zi m)), (2, .int (Zi b))], [.int (Zi 1), .int (Zi (((s.2.1 93 (8 * m + (b / 32))) % 4294967296 / (2 ^ (b % 32).toNat)) % 2))])) (fun _ => rfl) ?_
  refine Z_cne rfl rfl (by first | exact hs.zF _ | exact Zor_r _ _ | exact hs.zA _ _ | assumption | exact zS _ | exact Zr_not (hs.zA _ _) | exact ⟨by omega, by omega⟩) (by first | exact hs.zF _ | exact Zor_r _ _ | exact hs.zA _ _ | assumption | exact zS _ | exact Zr_not (hs.zA _ _) | exact ⟨by omega, by omega⟩) (fun c1 => ?_) (fun c1 => ?_)
  · refine Z_go (f2 := (30, [(0, .ref 83), (1, .int (Zi m)), (2, .int (Zi b))], [.int (Zi 0)])) (fun _ => rfl) ?_
    refine Z_iret rfl rfl (by first | rfl | decide | exact narrow_b01 (by omega)) ⟨_, hs, ?_, rfl⟩
    exact ⟨rfl, _, rfl, by unfold R_has D_bit; rw [← D_bit_m (by omega)]; omega⟩
  · refine Z_go (f2 := (26, [(0, .ref 83), (1, .int (Zi m)), (2, .int (Zi b))], [.int (Zi 1)])) (fun _ => rfl) ?_
    refine Z_go (f2 := (30, [(0, .ref 83), (1, .int (Zi m)), (2, .int (Zi b))], [.int (Zi 1)])) (fun _ => rfl) ?_
    refine Z_iret rfl rfl (by first | rfl | decide | exact narrow_b01 (by omega)) ⟨_, hs, ?_, rfl⟩
    exact ⟨rfl, _, rfl, by unfold R_has D_bit; rw [← D_bit_m (by omega)]; omega⟩
theorem R_put (d : Nat) (s : R_S) {b : Int}  (zb : Zr b) (m0 : 1 ≤ s.1 15) (m1 : s.1 15 ≤ 90) (b0 : 0 ≤ b) (b1 : b < 256) : R_ok (d + 1) 199 [.int (Zi b)] s (fun x s2 => x = none ∧ R_ss s s2 (s.1 15 - 1) (fun y => R_has s (s.1 15 - 1) y ∨ y = b)) := by
  refine R_enter (M := E_m199) rfl (Nat.le_of_ble_eq_true rfl) (fun h0 h hs => ?_)
  show B_R d _ (0, [(0, .ref 83), (1, .int (Zi b))], []) _ _ _
  refine Z_go (f2 := (1, [(0, .ref 83), (1, .int (Zi b))], [.ref 83])) (fun _ => rfl) ?_
  refine R_gr (q := 91) rfl hs rfl ?_
  show B_R _ _ (4, [(0, .ref 83), (1, .int (Zi b))], [.ref 93]) _ _ _
  refine Z_go (f2 := (6, [(0, .ref 83), (1, .int (Zi b))], [.int (Zi 8), .ref 93])) (fun _ => rfl) ?_
  refine Z_go (f2 := (7, [(0, .ref 83), (1, .int (Zi b))], [.ref 83, .int (Zi 8), .ref 93])) (fun _ => rfl) ?_
  refine R_gi rfl hs rfl ?_
  show B_R _ _ (10, [(0, .ref 83), (1, .int (Zi b))], [.int (Zi (s.1 15)), .int (Zi 8), .ref 93]) _ _ _
  refine Z_go (f2 := (11, [(0, .ref 83), (1, .int (Zi b))], [.int (Zi 1), .int (Zi (s.1 15)), .int (Zi 8), .ref 93])) (fun _ => rfl) ?_
  refine Z_isub rfl ?_
  refine Z_imul rfl ?_
  refine Z_go (f2 := (14, [(0, .ref 83), (1, .int (Zi b))], [.int (Zi b), .int (Zi (8 * (s.1 15 - 1))), .ref 93])) (fun _ => rfl) ?_
  refine Z_go (f2 := (16, [(0, .ref 83), (1, .int (Zi b))], [.int (Zi 32), .int (Zi b), .int (Zi (8 * (s.1 15 - 1))), .ref 93])) (fun _ => rfl) ?_
  refine Z_idiv rfl (by omega) (by omega) (by omega) (by omega) ?_
  refine Z_iadd rfl ?_
  refine Z_go (f2 := (19, [(0, .ref 83), (1, .int (Zi b))], [.int (Zi (8 * (s.1 15 - 1) + (b / 32))), .ref 93, .int (Zi (8 * (s.1 15 - 1) + (b / 32))), .ref 93])) (fun _ => rfl) ?_
  refine R_ia (q := 9) rfl hs rfl rfl (by omega) (by omega) (by decide) ?_
  refine Z_go (f2 := (21, [(0, .ref 83), (1, .int (Zi b))], [.int (Zi 1), .int (Zi (s.2.1 93 (8 * (s.1 15 - 1) + (b / 32)))), .int (Zi (8 * (s.1 15 - 1) + (b / 32))), .ref 93])) (fun _ => rfl) ?_
  refine Z_go (f2 := (22, [(0, .ref 83), (1, .int (Zi b))], [.int (Zi b), .int (Zi 1), .int (Zi (s.2.1 93 (8 * (s.1 15 - 1) + (b / 32)))), .int (Zi (8 * (s.1 15 - 1) + (b / 32))), .ref 93])) (fun _ => rfl) ?_
  refine Z_go (f2 := (24, [(0, .ref 83), (1, .int (Zi b))], [.int (Zi 32), .int (Zi b), .int (Zi 1), .int (Zi (s.2.1 93 (8 * (s.1 15 - 1) + (b / 32)))), .int (Zi (8 * (s.1 15 - 1) + (b / 32))), .ref 93])) (fun _ => rfl) ?_
  refine Z_irem rfl (by omega) (by omega) (by omega) (by omega) ?_
  refine Z_ishl rfl (by omega) (by omega) (p := 2 ^ (b % 32).toNat) (by rfl) ?_
  refine Z_ior rfl ?_
  refine R_is_ (q := 9) rfl hs rfl rfl (by omega) (by omega) (by decide) (by first | exact hs.zF _ | exact Zor_r _ _ | exact hs.zA _ _ | assumption | exact zS _ | exact Zr_not (hs.zA _ _) | exact ⟨by omega, by omega⟩) (fun h hs => ?_)
  refine Z_ret rfl rfl ⟨_, hs, ?_, rfl⟩
  exact ⟨rfl, R_ss_put (by omega) b0 b1 (by omega) (by rw [Int.one_mul])⟩
theorem R_newSet_lp {d : Nat} {h0 : E_H} {s : R_S} {sl : Nat} {Φ : E_R → Prop} (m0 : 0 ≤ s.1 15) (m1 : s.1 15 < 90) (kont : ∀ (h : E_H), R_is h0 h (R_fl s 93 (8 * s.1 15) (8 * s.1 15 + 8) (fun _ => 0)) → B_R (d) E_m198 (29, [(1, .int (Zi 8)), (0, .ref 83)], []) h sl Φ) : ∀ (t : Nat) (k : Int) (h : E_H), 8 - k < t → R_is h0 h (R_fl s 93 (8 * s.1 15) (8 * s.1 15 + k) (fun _ => 0)) → 0 ≤ k → k ≤ 8 → B_R (d) E_m198 (2, [(1, .int (Zi k)), (0, .ref 83)], []) h sl Φ := by
  intro t
  induction t with
  | zero => intro k h ht hs k0 k1; omega
  | succ t ih =>
    intro k h ht hs k0 k1
    refine Z_go (f2 := (3, [(1, .int (Zi k)), (0, .ref 83)], [.int (Zi k)])) (fun _ => rfl) ?_
    refine Z_go (f2 := (5, [(1, .int (Zi k)), (0, .ref 83)], [.int (Zi 8), .int (Zi k)])) (fun _ => rfl) ?_
    refine Z_cge rfl rfl (by first | exact hs.zF _ | exact Zor_r _ _ | exact hs.zA _ _ | assumption | exact zS _ | exact Zr_not (hs.zA _ _) | exact ⟨by omega, by omega⟩) (by first | exact hs.zF _ | exact Zor_r _ _ | exact hs.zA _ _ | assumption | exact zS _ | exact Zr_not (hs.zA _ _) | exact ⟨by omega, by omega⟩) (fun c1 => ?_) (fun c1 => ?_)
    · obtain rfl : k = 8 := by omega
      exact kont h hs 
    · refine Z_go (f2 := (9, [(1, .int (Zi k)), (0, .ref 83)], [.ref 83])) (fun _ => rfl) ?_
      refine R_gr (q := 91) rfl hs rfl ?_
      show B_R _ _ (12, [(1, .int (Zi k)), (0, .ref 83)], [.ref 93]) _ _ _
      refine Z_go (f2 := (14, [(1, .int (Zi k)), (0, .ref 83)], [.int (Zi 8), .ref 93])) (fun _ => rfl) ?_
      refine Z_go (f2 := (15, [(1, .int (Zi k)), (0, .ref 83)], [.ref 83, .int (Zi 8), .ref 93])) (fun _ => rfl) ?_
      refine R_gi rfl hs rfl ?_
      show B_R _ _ (18, [(1, .int (Zi k)), (0, .ref 83)], [.int (Zi (s.1 15)), .int (Zi 8), .ref 93]) _ _ _
      refine Z_imul rfl ?_
      refine Z_go (f2 := (20, [(1, .int (Zi k)), (0, .ref 83)], [.int (Zi k), .int (Zi (8 * (s.1 15))), .ref 93])) (fun _ => rfl) ?_
      refine Z_iadd rfl ?_
      refine Z_go (f2 := (22, [(1, .int (Zi k)), (0, .ref 83)], [.int (Zi 0), .int (Zi (8 * (s.1 15) + k)), .ref 93])) (fun _ => rfl) ?_
      refine R_is_ (q := 9) rfl hs rfl rfl (by omega) (by omega) (by decide) (by first | exact hs.zF _ | exact Zor_r _ _ | exact hs.zA _ _ | assumption | exact zS _ | exact Zr_not (hs.zA _ _) | exact ⟨by omega, by omega⟩) (fun h hs => ?_)
      refine Z_iinc (L2 := [(1, .int (Zi (k + 1))), (0, .ref 83)]) rfl rfl (by decide) rfl ?_
      refine Z_go (f2 := (2, [(1, .int (Zi (k + 1))), (0, .ref 83)], [])) (fun _ => rfl) ?_
      refine B_loc (K := [(1, .int (Zi (k + 1))), (0, .ref 83)]) (N_all_sub ⟨rfl, rfl, trivial⟩) (show ([1, 0] : List Nat).Nodup by decide) ?_
      rw [R_fl_st (by omega) (by rfl) rfl] at hs
      exact ih _ _ (by omega) (by rw [← Int.add_assoc]; exact hs) (by omega) (by omega)
theorem R_newSet (d : Nat) (s : R_S)   (m0 : 0 ≤ s.1 15) (m1 : s.1 15 < 90) : R_ok (d + 1) 198 [] s (fun x s2 => x = none ∧ s2 = R_sF (R_fl s 93 (8 * s.1 15) (8 * s.1 15 + 8) (fun _ => 0)) 15 (s.1 15 + 1)) := by
  refine R_enter (M := E_m198) rfl (Nat.le_of_ble_eq_true rfl) (fun h0 h hs => ?_)
  show B_R d _ (0, [(0, .ref 83)], []) _ _ _
  refine Z_go (f2 := (1, [(0, .ref 83)], [.int (Zi 0)])) (fun _ => rfl) ?_
  refine Z_go (f2 := (2, [(1, .int (Zi 0)), (0, .ref 83)], [])) (fun _ => rfl) ?_
  refine R_newSet_lp m0 m1 (fun h hs => ?_) 9 0 h (by omega) (by rw [Int.add_zero, R_fl_0]; exact hs) (by omega) (by omega)
  refine Z_go (f2 := (30, [(1, .int (Zi 8)), (0, .ref 83)], [.ref 83])) (fun _ => rfl) ?_
  refine Z_go (f2 := (31, [(1, .int (Zi 8)), (0, .ref 83)], [.ref 83, .ref 83])) (fun _ => rfl) ?_
  refine R_gi rfl hs rfl ?_
  show B_R _ _ (34, [(1, .int (Zi 8)), (0, .ref 83)], [.int (Zi (s.1 15)), .ref 83]) _ _ _
  refine Z_go (f2 := (35, [(1, .int (Zi 8)), (0, .ref 83)], [.int (Zi 1), .int (Zi (s.1 15)), .ref 83])) (fun _ => rfl) ?_
  refine Z_iadd rfl ?_
  refine R_pf rfl hs rfl (by first | exact hs.zF _ | exact Zor_r _ _ | exact hs.zA _ _ | assumption | exact zS _ | exact Zr_not (hs.zA _ _) | exact ⟨by omega, by omega⟩) ⟨rfl, rfl, rfl⟩ (fun h hs => ?_)
  refine Z_ret rfl rfl ⟨_, hs, ?_, rfl⟩
  exact ⟨rfl, rfl⟩
theorem R_ss_skip {s u : R_S} {m k : Int} {A B : Int → Prop} (h : R_ss s u m (fun x => A x ∨ x < k ∧ B x)) (nb : ¬ B k) : R_ss s u m (fun x => A x ∨ x < k + 1 ∧ B x) := by
  refine h.weak (fun x x0 x1 => ?_)
  constructor
  · intro e
    rcases e with e | e
    · exact .inl e
    · exact .inr ⟨by omega, e.2⟩
  · intro e
    rcases e with e | e
    · exact .inl e
    · by_cases c : x = k
      · exact absurd (by rw [← c]; exact e.2) nb
      · exact .inr ⟨by omega, e.2⟩
theorem R_ss_add {s u w : R_S} {m k : Int} {A B : Int → Prop} (h : R_ss s u m (fun x => A x ∨ x < k ∧ B x)) (hb : B k) (h2 : R_ss u w m (fun y => R_has u m y ∨ y = k)) : R_ss s w m (fun x => A x ∨ x < k + 1 ∧ B x) := by
  refine (h.trans h2).weak (fun x x0 x1 => ?_)
  rw [h.2.2.2.2 x x0 x1]
  constructor
  · intro e
    rcases e with (e | e) | e
    · exact .inl e
    · exact .inr ⟨by omega, e.2⟩
    · exact .inr ⟨by omega, by rw [e]; exact hb⟩
  · intro e
    rcases e with e | e
    · exact .inl (.inl e)
    · by_cases c : x = k
      · exact .inr c
      · exact .inl (.inr ⟨by omega, e.2⟩)
theorem R_ss_1 (s : R_S) (m lo : Int) {B : Int → Prop} (h : ∀ x, 0 ≤ x → x < lo → ¬ B x) : R_ss s s m (fun x => R_has s m x ∨ x < lo ∧ B x) := by
  refine (R_ss_0 s m).weak (fun x x0 x1 => ?_)
  constructor
  · exact .inl
  · intro e
    rcases e with e | e
    · exact e
    · exact absurd e.2 (h x x0 e.1)
theorem R_ss.f15 {s u : R_S} {m : Int} {H : Int → Prop} (h : R_ss s u m H) (b : Nat) : u.1 b = s.1 b := by rw [h.1]
/-- a name's bytes -/
def D_kd (c x : Int) : Prop := c = 100 ∧ D_dig x ∨ c ≠ 100 ∧ c = 119 ∧ D_wrd x ∨ c ≠ 100 ∧ c ≠ 119 ∧ (x = 9 ∨ x = 10 ∨ x = 32)
theorem R_putKind_lp {d : Nat} {h0 : E_H} {s : R_S} {sl : Nat} {Φ : E_R → Prop} {c : Int} (zc : Zr c) (m0 : 1 ≤ s.1 15) (m1 : s.1 15 ≤ 90) (kont : ∀ (u : R_S) (h : E_H), R_is h0 h (u) → R_ss s u (s.1 15 - 1) (fun x => R_has s (s.1 15 - 1) x ∨ x < 256 ∧ D_kd c x) → B_R (d + 2) E_m201 (74, [(2, .int (Zi 256)), (0, .ref 83), (1, .int (Zi c))], []) h sl Φ) : ∀ (t : Nat) (k : Int) (u : R_S) (h : E_H), 256 - k < t → R_is h0 h (u) → R_ss s u (s.1 15 - 1) (fun x => R_has s (s.1 15 - 1) x ∨ x < k ∧ D_kd c x) → 0 ≤ k → k ≤ 256 → B_R (d + 2) E_m201 (2, [(2, .int (Zi k)), (0, .ref 83), (1, .int (Zi c))], []) h sl Φ := by
  intro t
  induction t with
  | zero => intro k u h ht hs hu k0 k1; omega
  | succ t ih =>
    intro k u h ht hs hu k0 k1
    have e15 : u.1 15 = s.1 15 := hu.f15 15
    refine Z_go (f2 := (3, [(2, .int (Zi k)), (0, .ref 83), (1, .int (Zi c))], [.int (Zi k)])) (fun _ => rfl) ?_
    refine Z_go (f2 := (6, [(2, .int (Zi k)), (0, .ref 83), (1, .int (Zi c))], [.int (Zi 256), .int (Zi k)])) (fun _ => rfl) ?_
    refine Z_cge rfl rfl (by first | exact hs.zF _ | exact Zor_r _ _ | exact hs.zA _ _ | assumption | exact zS _ | exact Zr_not (hs.zA _ _) | exact ⟨by omega, by omega⟩) (by first | exact hs.zF _ | exact Zor_r _ _ | exact hs.zA _ _ | assumption | exact zS _ | exact Zr_not (hs.zA _ _) | exact ⟨by omega, by omega⟩) (fun c1 => ?_) (fun c1 => ?_)
    · obtain rfl : k = 256 := by omega
      exact kont u h hs hu 
    · refine Z_go (f2 := (10, [(2, .int (Zi k)), (0, .ref 83), (1, .int (Zi c))], [.int (Zi c)])) (fun _ => rfl) ?_
      refine Z_go (f2 := (12, [(2, .int (Zi k)), (0, .ref 83), (1, .int (Zi c))], [.int (Zi 100), .int (Zi c)])) (fun _ => rfl) ?_
      refine Z_cne rfl rfl (by first | exact hs.zF _ | exact Zor_r _ _ | exact hs.zA _ _ | assumption | exact zS _ | exact Zr_not (hs.zA _ _) | exact ⟨by omega, by omega⟩) (by first | exact hs.zF _ | exact Zor_r _ _ | exact hs.zA _ _ | assumption | exact zS _ | exact Zr_not (hs.zA _ _) | exact ⟨by omega, by omega⟩) (fun c2 => ?_) (fun c2 => ?_)
      · refine Z_go (f2 := (23, [(2, .int (Zi k)), (0, .ref 83), (1, .int (Zi c))], [.int (Zi c)])) (fun _ => rfl) ?_
        refine Z_go (f2 := (25, [(2, .int (Zi k)), (0, .ref 83), (1, .int (Zi c))], [.int (Zi 119), .int (Zi c)])) (fun _ => rfl) ?_
        refine Z_cne rfl rfl (by first | exact hs.zF _ | exact Zor_r _ _ | exact hs.zA _ _ | assumption | exact zS _ | exact Zr_not (hs.zA _ _) | exact ⟨by omega, by omega⟩) (by first | exact hs.zF _ | exact Zor_r _ _ | exact hs.zA _ _ | assumption | exact zS _ | exact Zr_not (hs.zA _ _) | exact ⟨by omega, by omega⟩) (fun c3 => ?_) (fun c3 => ?_)
        · refine Z_go (f2 := (36, [(2, .int (Zi k)), (0, .ref 83), (1, .int (Zi c))], [.int (Zi k)])) (fun _ => rfl) ?_
          refine Z_go (f2 := (38, [(2, .int (Zi k)), (0, .ref 83), (1, .int (Zi c))], [.int (Zi 9), .int (Zi k)])) (fun _ => rfl) ?_
          refine Z_ceq rfl rfl (by first | exact hs.zF _ | exact Zor_r _ _ | exact hs.zA _ _ | assumption | exact zS _ | exact Zr_not (hs.zA _ _) | exact ⟨by omega, by omega⟩) (by first | exact hs.zF _ | exact Zor_r _ _ | exact hs.zA _ _ | assumption | exact zS _ | exact Zr_not (hs.zA _ _) | exact ⟨by omega, by omega⟩) (fun c4 => ?_) (fun c4 => ?_)
          · refine Z_go (f2 := (54, [(2, .int (Zi k)), (0, .ref 83), (1, .int (Zi c))], [.int (Zi 1)])) (fun _ => rfl) ?_
            refine Z_go (f2 := (58, [(2, .int (Zi k)), (0, .ref 83), (1, .int (Zi c))], [.int (Zi 1)])) (fun _ => rfl) ?_
            refine Z_go (f2 := (59, [(3, .int (Zi 1)), (2, .int (Zi k)), (0, .ref 83), (1, .int (Zi c))], [])) (fun _ => rfl) ?_
            refine Z_go (f2 := (60, [(3, .int (Zi 1)), (2, .int (Zi k)), (0, .ref 83), (1, .int (Zi c))], [.int (Zi 1)])) (fun _ => rfl) ?_
            refine Z_ieq rfl rfl (by first | exact hs.zF _ | exact Zor_r _ _ | exact hs.zA _ _ | assumption | exact zS _ | exact Zr_not (hs.zA _ _) | exact ⟨by omega, by omega⟩) (fun c5 => ?_) (fun c5 => ?_)
            · exfalso; omega
            · refine Z_go (f2 := (64, [(3, .int (Zi 1)), (2, .int (Zi k)), (0, .ref 83), (1, .int (Zi c))], [.ref 83])) (fun _ => rfl) ?_
              refine Z_go (f2 := (65, [(3, .int (Zi 1)), (2, .int (Zi k)), (0, .ref 83), (1, .int (Zi c))], [.int (Zi k), .ref 83])) (fun _ => rfl) ?_
              refine R_call (As := [.int (Zi k)]) (rest := []) rfl (by decide) rfl rfl rfl rfl (by decide +kernel) (Nat.le_of_ble_eq_true rfl) hs (R_put _ _ (by first | assumption | exact hs.zF _ | exact hs.zA _ _ | exact ⟨by omega, by omega⟩ | omega) (by first | assumption | exact hs.zF _ | exact hs.zA _ _ | exact ⟨by omega, by omega⟩ | omega) (by first | assumption | exact hs.zF _ | exact hs.zA _ _ | exact ⟨by omega, by omega⟩ | omega) (by first | assumption | exact hs.zF _ | exact hs.zA _ _ | exact ⟨by omega, by omega⟩ | omega) (by first | assumption | exact hs.zF _ | exact hs.zA _ _ | exact ⟨by omega, by omega⟩ | omega)) (fun x h w hs q => ?_)
              obtain ⟨rfl, q1⟩ := q
              rw [e15] at q1
              show B_R _ _ (68, [(3, .int (Zi 1)), (2, .int (Zi k)), (0, .ref 83), (1, .int (Zi c))], []) _ _ _
              refine Z_iinc (L2 := [(2, .int (Zi (k + 1))), (3, .int (Zi 1)), (0, .ref 83), (1, .int (Zi c))]) rfl rfl (by decide) rfl ?_
              refine Z_go (f2 := (2, [(2, .int (Zi (k + 1))), (3, .int (Zi 1)), (0, .ref 83), (1, .int (Zi c))], [])) (fun _ => rfl) ?_
              first
              | (refine B_loc (K := [(2, .int (Zi (k + 1))), (0, .ref 83), (1, .int (Zi c))]) (N_all_sub ⟨rfl, rfl, rfl, trivial⟩) (show ([2, 0, 1] : List Nat).Nodup by decide) ?_; exact ih _ _ _ (by omega) hs (R_ss_skip hu (by unfold D_kd D_wrd D_let D_dig; omega)) (by omega) (by omega))
              | (refine B_loc (K := [(2, .int (Zi (k + 1))), (0, .ref 83), (1, .int (Zi c))]) (N_all_sub ⟨rfl, rfl, rfl, trivial⟩) (show ([2, 0, 1] : List Nat).Nodup by decide) ?_; exact ih _ _ _ (by omega) hs (R_ss_add hu (by unfold D_kd D_wrd D_let D_dig; omega) q1) (by omega) (by omega))
          · refine Z_go (f2 := (42, [(2, .int (Zi k)), (0, .ref 83), (1, .int (Zi c))], [.int (Zi k)])) (fun _ => rfl) ?_
            refine Z_go (f2 := (44, [(2, .int (Zi k)), (0, .ref 83), (1, .int (Zi c))], [.int (Zi 10), .int (Zi k)])) (fun _ => rfl) ?_
            refine Z_ceq rfl rfl (by first | exact hs.zF _ | exact Zor_r _ _ | exact hs.zA _ _ | assumption | exact zS _ | exact Zr_not (hs.zA _ _) | exact ⟨by omega, by omega⟩) (by first | exact hs.zF _ | exact Zor_r _ _ | exact hs.zA _ _ | assumption | exact zS _ | exact Zr_not (hs.zA _ _) | exact ⟨by omega, by omega⟩) (fun c6 => ?_) (fun c6 => ?_)
            · refine Z_go (f2 := (54, [(2, .int (Zi k)), (0, .ref 83), (1, .int (Zi c))], [.int (Zi 1)])) (fun _ => rfl) ?_
              refine Z_go (f2 := (58, [(2, .int (Zi k)), (0, .ref 83), (1, .int (Zi c))], [.int (Zi 1)])) (fun _ => rfl) ?_
              refine Z_go (f2 := (59, [(3, .int (Zi 1)), (2, .int (Zi k)), (0, .ref 83), (1, .int (Zi c))], [])) (fun _ => rfl) ?_
              refine Z_go (f2 := (60, [(3, .int (Zi 1)), (2, .int (Zi k)), (0, .ref 83), (1, .int (Zi c))], [.int (Zi 1)])) (fun _ => rfl) ?_
              refine Z_ieq rfl rfl (by first | exact hs.zF _ | exact Zor_r _ _ | exact hs.zA _ _ | assumption | exact zS _ | exact Zr_not (hs.zA _ _) | exact ⟨by omega, by omega⟩) (fun c7 => ?_) (fun c7 => ?_)
              · exfalso; omega
              · refine Z_go (f2 := (64, [(3, .int (Zi 1)), (2, .int (Zi k)), (0, .ref 83), (1, .int (Zi c))], [.ref 83])) (fun _ => rfl) ?_
                refine Z_go (f2 := (65, [(3, .int (Zi 1)), (2, .int (Zi k)), (0, .ref 83), (1, .int (Zi c))], [.int (Zi k), .ref 83])) (fun _ => rfl) ?_
                refine R_call (As := [.int (Zi k)]) (rest := []) rfl (by decide) rfl rfl rfl rfl (by decide +kernel) (Nat.le_of_ble_eq_true rfl) hs (R_put _ _ (by first | assumption | exact hs.zF _ | exact hs.zA _ _ | exact ⟨by omega, by omega⟩ | omega) (by first | assumption | exact hs.zF _ | exact hs.zA _ _ | exact ⟨by omega, by omega⟩ | omega) (by first | assumption | exact hs.zF _ | exact hs.zA _ _ | exact ⟨by omega, by omega⟩ | omega) (by first | assumption | exact hs.zF _ | exact hs.zA _ _ | exact ⟨by omega, by omega⟩ | omega) (by first | assumption | exact hs.zF _ | exact hs.zA _ _ | exact ⟨by omega, by omega⟩ | omega)) (fun x h w hs q => ?_)
                obtain ⟨rfl, q1⟩ := q
                rw [e15] at q1
                show B_R _ _ (68, [(3, .int (Zi 1)), (2, .int (Zi k)), (0, .ref 83), (1, .int (Zi c))], []) _ _ _
                refine Z_iinc (L2 := [(2, .int (Zi (k + 1))), (3, .int (Zi 1)), (0, .ref 83), (1, .int (Zi c))]) rfl rfl (by decide) rfl ?_
                refine Z_go (f2 := (2, [(2, .int (Zi (k + 1))), (3, .int (Zi 1)), (0, .ref 83), (1, .int (Zi c))], [])) (fun _ => rfl) ?_
                first
                | (refine B_loc (K := [(2, .int (Zi (k + 1))), (0, .ref 83), (1, .int (Zi c))]) (N_all_sub ⟨rfl, rfl, rfl, trivial⟩) (show ([2, 0, 1] : List Nat).Nodup by decide) ?_; exact ih _ _ _ (by omega) hs (R_ss_skip hu (by unfold D_kd D_wrd D_let D_dig; omega)) (by omega) (by omega))
                | (refine B_loc (K := [(2, .int (Zi (k + 1))), (0, .ref 83), (1, .int (Zi c))]) (N_all_sub ⟨rfl, rfl, rfl, trivial⟩) (show ([2, 0, 1] : List Nat).Nodup by decide) ?_; exact ih _ _ _ (by omega) hs (R_ss_add hu (by unfold D_kd D_wrd D_let D_dig; omega) q1) (by omega) (by omega))
            · refine Z_go (f2 := (48, [(2, .int (Zi k)), (0, .ref 83), (1, .int (Zi c))], [.int (Zi k)])) (fun _ => rfl) ?_
              refine Z_go (f2 := (50, [(2, .int (Zi k)), (0, .ref 83), (1, .int (Zi c))], [.int (Zi 32), .int (Zi k)])) (fun _ => rfl) ?_
              refine Z_cne rfl rfl (by first | exact hs.zF _ | exact Zor_r _ _ | exact hs.zA _ _ | assumption | exact zS _ | exact Zr_not (hs.zA _ _) | exact ⟨by omega, by omega⟩) (by first | exact hs.zF _ | exact Zor_r _ _ | exact hs.zA _ _ | assumption | exact zS _ | exact Zr_not (hs.zA _ _) | exact ⟨by omega, by omega⟩) (fun c8 => ?_) (fun c8 => ?_)
              · refine Z_go (f2 := (58, [(2, .int (Zi k)), (0, .ref 83), (1, .int (Zi c))], [.int (Zi 0)])) (fun _ => rfl) ?_
                refine Z_go (f2 := (59, [(3, .int (Zi 0)), (2, .int (Zi k)), (0, .ref 83), (1, .int (Zi c))], [])) (fun _ => rfl) ?_
                refine Z_go (f2 := (60, [(3, .int (Zi 0)), (2, .int (Zi k)), (0, .ref 83), (1, .int (Zi c))], [.int (Zi 0)])) (fun _ => rfl) ?_
                refine Z_ieq rfl rfl (by first | exact hs.zF _ | exact Zor_r _ _ | exact hs.zA _ _ | assumption | exact zS _ | exact Zr_not (hs.zA _ _) | exact ⟨by omega, by omega⟩) (fun c9 => ?_) (fun c9 => ?_)
                · refine Z_iinc (L2 := [(2, .int (Zi (k + 1))), (3, .int (Zi 0)), (0, .ref 83), (1, .int (Zi c))]) rfl rfl (by decide) rfl ?_
                  refine Z_go (f2 := (2, [(2, .int (Zi (k + 1))), (3, .int (Zi 0)), (0, .ref 83), (1, .int (Zi c))], [])) (fun _ => rfl) ?_
                  first
                  | (refine B_loc (K := [(2, .int (Zi (k + 1))), (0, .ref 83), (1, .int (Zi c))]) (N_all_sub ⟨rfl, rfl, rfl, trivial⟩) (show ([2, 0, 1] : List Nat).Nodup by decide) ?_; exact ih _ _ _ (by omega) hs (R_ss_skip hu (by unfold D_kd D_wrd D_let D_dig; omega)) (by omega) (by omega))
                  | (refine B_loc (K := [(2, .int (Zi (k + 1))), (0, .ref 83), (1, .int (Zi c))]) (N_all_sub ⟨rfl, rfl, rfl, trivial⟩) (show ([2, 0, 1] : List Nat).Nodup by decide) ?_; exact ih _ _ _ (by omega) hs (R_ss_add hu (by unfold D_kd D_wrd D_let D_dig; omega) q1) (by omega) (by omega))
                · exfalso; omega
              · refine Z_go (f2 := (54, [(2, .int (Zi k)), (0, .ref 83), (1, .int (Zi c))], [.int (Zi 1)])) (fun _ => rfl) ?_
                refine Z_go (f2 := (58, [(2, .int (Zi k)), (0, .ref 83), (1, .int (Zi c))], [.int (Zi 1)])) (fun _ => rfl) ?_
                refine Z_go (f2 := (59, [(3, .int (Zi 1)), (2, .int (Zi k)), (0, .ref 83), (1, .int (Zi c))], [])) (fun _ => rfl) ?_
                refine Z_go (f2 := (60, [(3, .int (Zi 1)), (2, .int (Zi k)), (0, .ref 83), (1, .int (Zi c))], [.int (Zi 1)])) (fun _ => rfl) ?_
                refine Z_ieq rfl rfl (by first | exact hs.zF _ | exact Zor_r _ _ | exact hs.zA _ _ | assumption | exact zS _ | exact Zr_not (hs.zA _ _) | exact ⟨by omega, by omega⟩) (fun c10 => ?_) (fun c10 => ?_)
                · exfalso; omega
                · refine Z_go (f2 := (64, [(3, .int (Zi 1)), (2, .int (Zi k)), (0, .ref 83), (1, .int (Zi c))], [.ref 83])) (fun _ => rfl) ?_
                  refine Z_go (f2 := (65, [(3, .int (Zi 1)), (2, .int (Zi k)), (0, .ref 83), (1, .int (Zi c))], [.int (Zi k), .ref 83])) (fun _ => rfl) ?_
                  refine R_call (As := [.int (Zi k)]) (rest := []) rfl (by decide) rfl rfl rfl rfl (by decide +kernel) (Nat.le_of_ble_eq_true rfl) hs (R_put _ _ (by first | assumption | exact hs.zF _ | exact hs.zA _ _ | exact ⟨by omega, by omega⟩ | omega) (by first | assumption | exact hs.zF _ | exact hs.zA _ _ | exact ⟨by omega, by omega⟩ | omega) (by first | assumption | exact hs.zF _ | exact hs.zA _ _ | exact ⟨by omega, by omega⟩ | omega) (by first | assumption | exact hs.zF _ | exact hs.zA _ _ | exact ⟨by omega, by omega⟩ | omega) (by first | assumption | exact hs.zF _ | exact hs.zA _ _ | exact ⟨by omega, by omega⟩ | omega)) (fun x h w hs q => ?_)
                  obtain ⟨rfl, q1⟩ := q
                  rw [e15] at q1
                  show B_R _ _ (68, [(3, .int (Zi 1)), (2, .int (Zi k)), (0, .ref 83), (1, .int (Zi c))], []) _ _ _
                  refine Z_iinc (L2 := [(2, .int (Zi (k + 1))), (3, .int (Zi 1)), (0, .ref 83), (1, .int (Zi c))]) rfl rfl (by decide) rfl ?_
                  refine Z_go (f2 := (2, [(2, .int (Zi (k + 1))), (3, .int (Zi 1)), (0, .ref 83), (1, .int (Zi c))], [])) (fun _ => rfl) ?_
                  first
                  | (refine B_loc (K := [(2, .int (Zi (k + 1))), (0, .ref 83), (1, .int (Zi c))]) (N_all_sub ⟨rfl, rfl, rfl, trivial⟩) (show ([2, 0, 1] : List Nat).Nodup by decide) ?_; exact ih _ _ _ (by omega) hs (R_ss_skip hu (by unfold D_kd D_wrd D_let D_dig; omega)) (by omega) (by omega))
                  | (refine B_loc (K := [(2, .int (Zi (k + 1))), (0, .ref 83), (1, .int (Zi c))]) (N_all_sub ⟨rfl, rfl, rfl, trivial⟩) (show ([2, 0, 1] : List Nat).Nodup by decide) ?_; exact ih _ _ _ (by omega) hs (R_ss_add hu (by unfold D_kd D_wrd D_let D_dig; omega) q1) (by omega) (by omega))
        · refine Z_go (f2 := (29, [(2, .int (Zi k)), (0, .ref 83), (1, .int (Zi c))], [.int (Zi k)])) (fun _ => rfl) ?_
          refine Z_callQ (vs := [.int (Zi k)]) (rest := []) rfl (by decide) rfl rfl rfl (Nat.le_of_ble_eq_true rfl) (R_isWordByte _ (by first | assumption | exact hs.zF _ | exact hs.zA _ _ | exact ⟨by omega, by omega⟩)) (fun x q => ?_)
          obtain ⟨v, rfl, hv⟩ := q
          unfold D_wrd D_let D_dig at hv
          show B_R _ _ (32, [(2, .int (Zi k)), (0, .ref 83), (1, .int (Zi c))], [.int (Zi v)]) _ _ _
          refine Z_go (f2 := (58, [(2, .int (Zi k)), (0, .ref 83), (1, .int (Zi c))], [.int (Zi v)])) (fun _ => rfl) ?_
          refine Z_go (f2 := (59, [(3, .int (Zi v)), (2, .int (Zi k)), (0, .ref 83), (1, .int (Zi c))], [])) (fun _ => rfl) ?_
          refine Z_go (f2 := (60, [(3, .int (Zi v)), (2, .int (Zi k)), (0, .ref 83), (1, .int (Zi c))], [.int (Zi v)])) (fun _ => rfl) ?_
          refine Z_ieq rfl rfl (by first | exact hs.zF _ | exact Zor_r _ _ | exact hs.zA _ _ | assumption | exact zS _ | exact Zr_not (hs.zA _ _) | exact ⟨by omega, by omega⟩) (fun c11 => ?_) (fun c11 => ?_)
          · refine Z_iinc (L2 := [(2, .int (Zi (k + 1))), (3, .int (Zi v)), (0, .ref 83), (1, .int (Zi c))]) rfl rfl (by decide) rfl ?_
            refine Z_go (f2 := (2, [(2, .int (Zi (k + 1))), (3, .int (Zi v)), (0, .ref 83), (1, .int (Zi c))], [])) (fun _ => rfl) ?_
            first
            | (refine B_loc (K := [(2, .int (Zi (k + 1))), (0, .ref 83), (1, .int (Zi c))]) (N_all_sub ⟨rfl, rfl, rfl, trivial⟩) (show ([2, 0, 1] : List Nat).Nodup by decide) ?_; exact ih _ _ _ (by omega) hs (R_ss_skip hu (by unfold D_kd D_wrd D_let D_dig; omega)) (by omega) (by omega))
            | (refine B_loc (K := [(2, .int (Zi (k + 1))), (0, .ref 83), (1, .int (Zi c))]) (N_all_sub ⟨rfl, rfl, rfl, trivial⟩) (show ([2, 0, 1] : List Nat).Nodup by decide) ?_; exact ih _ _ _ (by omega) hs (R_ss_add hu (by unfold D_kd D_wrd D_let D_dig; omega) q1) (by omega) (by omega))
          · refine Z_go (f2 := (64, [(3, .int (Zi v)), (2, .int (Zi k)), (0, .ref 83), (1, .int (Zi c))], [.ref 83])) (fun _ => rfl) ?_
            refine Z_go (f2 := (65, [(3, .int (Zi v)), (2, .int (Zi k)), (0, .ref 83), (1, .int (Zi c))], [.int (Zi k), .ref 83])) (fun _ => rfl) ?_
            refine R_call (As := [.int (Zi k)]) (rest := []) rfl (by decide) rfl rfl rfl rfl (by decide +kernel) (Nat.le_of_ble_eq_true rfl) hs (R_put _ _ (by first | assumption | exact hs.zF _ | exact hs.zA _ _ | exact ⟨by omega, by omega⟩ | omega) (by first | assumption | exact hs.zF _ | exact hs.zA _ _ | exact ⟨by omega, by omega⟩ | omega) (by first | assumption | exact hs.zF _ | exact hs.zA _ _ | exact ⟨by omega, by omega⟩ | omega) (by first | assumption | exact hs.zF _ | exact hs.zA _ _ | exact ⟨by omega, by omega⟩ | omega) (by first | assumption | exact hs.zF _ | exact hs.zA _ _ | exact ⟨by omega, by omega⟩ | omega)) (fun x h w hs q => ?_)
            obtain ⟨rfl, q1⟩ := q
            rw [e15] at q1
            show B_R _ _ (68, [(3, .int (Zi v)), (2, .int (Zi k)), (0, .ref 83), (1, .int (Zi c))], []) _ _ _
            refine Z_iinc (L2 := [(2, .int (Zi (k + 1))), (3, .int (Zi v)), (0, .ref 83), (1, .int (Zi c))]) rfl rfl (by decide) rfl ?_
            refine Z_go (f2 := (2, [(2, .int (Zi (k + 1))), (3, .int (Zi v)), (0, .ref 83), (1, .int (Zi c))], [])) (fun _ => rfl) ?_
            first
            | (refine B_loc (K := [(2, .int (Zi (k + 1))), (0, .ref 83), (1, .int (Zi c))]) (N_all_sub ⟨rfl, rfl, rfl, trivial⟩) (show ([2, 0, 1] : List Nat).Nodup by decide) ?_; exact ih _ _ _ (by omega) hs (R_ss_skip hu (by unfold D_kd D_wrd D_let D_dig; omega)) (by omega) (by omega))
            | (refine B_loc (K := [(2, .int (Zi (k + 1))), (0, .ref 83), (1, .int (Zi c))]) (N_all_sub ⟨rfl, rfl, rfl, trivial⟩) (show ([2, 0, 1] : List Nat).Nodup by decide) ?_; exact ih _ _ _ (by omega) hs (R_ss_add hu (by unfold D_kd D_wrd D_let D_dig; omega) q1) (by omega) (by omega))
      · refine Z_go (f2 := (16, [(2, .int (Zi k)), (0, .ref 83), (1, .int (Zi c))], [.int (Zi k)])) (fun _ => rfl) ?_
        refine Z_callQ (vs := [.int (Zi k)]) (rest := []) rfl (by decide) rfl rfl rfl (Nat.le_of_ble_eq_true rfl) (R_isDigit _ (by first | assumption | exact hs.zF _ | exact hs.zA _ _ | exact ⟨by omega, by omega⟩)) (fun x q => ?_)
        obtain ⟨v, rfl, hv⟩ := q
        unfold D_dig at hv
        show B_R _ _ (19, [(2, .int (Zi k)), (0, .ref 83), (1, .int (Zi c))], [.int (Zi v)]) _ _ _
        refine Z_go (f2 := (58, [(2, .int (Zi k)), (0, .ref 83), (1, .int (Zi c))], [.int (Zi v)])) (fun _ => rfl) ?_
        refine Z_go (f2 := (59, [(3, .int (Zi v)), (2, .int (Zi k)), (0, .ref 83), (1, .int (Zi c))], [])) (fun _ => rfl) ?_
        refine Z_go (f2 := (60, [(3, .int (Zi v)), (2, .int (Zi k)), (0, .ref 83), (1, .int (Zi c))], [.int (Zi v)])) (fun _ => rfl) ?_
        refine Z_ieq rfl rfl (by first | exact hs.zF _ | exact Zor_r _ _ | exact hs.zA _ _ | assumption | exact zS _ | exact Zr_not (hs.zA _ _) | exact ⟨by omega, by omega⟩) (fun c12 => ?_) (fun c12 => ?_)
        · refine Z_iinc (L2 := [(2, .int (Zi (k + 1))), (3, .int (Zi v)), (0, .ref 83), (1, .int (Zi c))]) rfl rfl (by decide) rfl ?_
          refine Z_go (f2 := (2, [(2, .int (Zi (k + 1))), (3, .int (Zi v)), (0, .ref 83), (1, .int (Zi c))], [])) (fun _ => rfl) ?_
          first
          | (refine B_loc (K := [(2, .int (Zi (k + 1))), (0, .ref 83), (1, .int (Zi c))]) (N_all_sub ⟨rfl, rfl, rfl, trivial⟩) (show ([2, 0, 1] : List Nat).Nodup by decide) ?_; exact ih _ _ _ (by omega) hs (R_ss_skip hu (by unfold D_kd D_wrd D_let D_dig; omega)) (by omega) (by omega))
          | (refine B_loc (K := [(2, .int (Zi (k + 1))), (0, .ref 83), (1, .int (Zi c))]) (N_all_sub ⟨rfl, rfl, rfl, trivial⟩) (show ([2, 0, 1] : List Nat).Nodup by decide) ?_; exact ih _ _ _ (by omega) hs (R_ss_add hu (by unfold D_kd D_wrd D_let D_dig; omega) q1) (by omega) (by omega))
        · refine Z_go (f2 := (64, [(3, .int (Zi v)), (2, .int (Zi k)), (0, .ref 83), (1, .int (Zi c))], [.ref 83])) (fun _ => rfl) ?_
          refine Z_go (f2 := (65, [(3, .int (Zi v)), (2, .int (Zi k)), (0, .ref 83), (1, .int (Zi c))], [.int (Zi k), .ref 83])) (fun _ => rfl) ?_
          refine R_call (As := [.int (Zi k)]) (rest := []) rfl (by decide) rfl rfl rfl rfl (by decide +kernel) (Nat.le_of_ble_eq_true rfl) hs (R_put _ _ (by first | assumption | exact hs.zF _ | exact hs.zA _ _ | exact ⟨by omega, by omega⟩ | omega) (by first | assumption | exact hs.zF _ | exact hs.zA _ _ | exact ⟨by omega, by omega⟩ | omega) (by first | assumption | exact hs.zF _ | exact hs.zA _ _ | exact ⟨by omega, by omega⟩ | omega) (by first | assumption | exact hs.zF _ | exact hs.zA _ _ | exact ⟨by omega, by omega⟩ | omega) (by first | assumption | exact hs.zF _ | exact hs.zA _ _ | exact ⟨by omega, by omega⟩ | omega)) (fun x h w hs q => ?_)
          obtain ⟨rfl, q1⟩ := q
          rw [e15] at q1
          show B_R _ _ (68, [(3, .int (Zi v)), (2, .int (Zi k)), (0, .ref 83), (1, .int (Zi c))], []) _ _ _
          refine Z_iinc (L2 := [(2, .int (Zi (k + 1))), (3, .int (Zi v)), (0, .ref 83), (1, .int (Zi c))]) rfl rfl (by decide) rfl ?_
          refine Z_go (f2 := (2, [(2, .int (Zi (k + 1))), (3, .int (Zi v)), (0, .ref 83), (1, .int (Zi c))], [])) (fun _ => rfl) ?_
          first
          | (refine B_loc (K := [(2, .int (Zi (k + 1))), (0, .ref 83), (1, .int (Zi c))]) (N_all_sub ⟨rfl, rfl, rfl, trivial⟩) (show ([2, 0, 1] : List Nat).Nodup by decide) ?_; exact ih _ _ _ (by omega) hs (R_ss_skip hu (by unfold D_kd D_wrd D_let D_dig; omega)) (by omega) (by omega))
          | (refine B_loc (K := [(2, .int (Zi (k + 1))), (0, .ref 83), (1, .int (Zi c))]) (N_all_sub ⟨rfl, rfl, rfl, trivial⟩) (show ([2, 0, 1] : List Nat).Nodup by decide) ?_; exact ih _ _ _ (by omega) hs (R_ss_add hu (by unfold D_kd D_wrd D_let D_dig; omega) q1) (by omega) (by omega))
theorem R_putKind (d : Nat) (s : R_S) {c : Int}  (zc : Zr c) (m0 : 1 ≤ s.1 15) (m1 : s.1 15 ≤ 90) : R_ok (d + 3) 201 [.int (Zi c)] s (fun x s2 => x = none ∧ R_ss s s2 (s.1 15 - 1) (fun y => R_has s (s.1 15 - 1) y ∨ D_kd c y)) := by
  refine R_enter (M := E_m201) rfl (Nat.le_of_ble_eq_true rfl) (fun h0 h hs => ?_)
  show B_R (d + 2) _ (0, [(0, .ref 83), (1, .int (Zi c))], []) _ _ _
  refine Z_go (f2 := (1, [(0, .ref 83), (1, .int (Zi c))], [.int (Zi 0)])) (fun _ => rfl) ?_
  refine Z_go (f2 := (2, [(2, .int (Zi 0)), (0, .ref 83), (1, .int (Zi c))], [])) (fun _ => rfl) ?_
  refine R_putKind_lp zc m0 m1 (fun u h hs hu => ?_) 257 0 s h (by omega) hs (R_ss_1 _ _ _ (by omega)) (by omega) (by omega)
  refine Z_ret rfl rfl ⟨_, hs, ?_, rfl⟩
  refine ⟨rfl, hu.weak (fun y y0 y1 => ?_)⟩
  constructor
  · exact fun e => e.elim .inl (fun e => .inr e.2)
  · exact fun e => e.elim .inl (fun e => .inr ⟨y1, e⟩)
/-- what folding adds, of the letters below k -/
def D_fd (A : Int → Prop) (k x : Int) : Prop := ∃ l : Int, 97 ≤ l ∧ l ≤ 122 ∧ l < k ∧ (A l ∨ A (l - 32)) ∧ (x = l ∨ x = l - 32)
theorem D_fd_no {A : Int → Prop} {k x : Int} (k0 : 97 ≤ k) (k1 : k ≤ 122) (h : x = k ∨ x = k - 32) : ¬ D_fd A k x := by
  rintro ⟨l, l0, l1, l2, _, l3⟩
  omega
theorem D_fd_up {A : Int → Prop} {k x : Int} (h : D_fd A k x) : D_fd A (k + 1) x := by
  obtain ⟨l, l0, l1, l2, l3, l4⟩ := h
  exact ⟨l, l0, l1, by omega, l3, l4⟩
theorem D_fd_st {A : Int → Prop} {k x : Int} (h : D_fd A (k + 1) x) : D_fd A k x ∨ (A k ∨ A (k - 32)) ∧ (x = k ∨ x = k - 32) := by
  obtain ⟨l, l0, l1, l2, l3, l4⟩ := h
  by_cases c : l = k
  · subst c
    exact .inr ⟨l3, l4⟩
  · exact .inl ⟨l, l0, l1, by omega, l3, l4⟩
theorem R_fd_skip {s u : R_S} {m k : Int} {A : Int → Prop} (h : R_ss s u m (fun x => A x ∨ D_fd A k x)) (k0 : 97 ≤ k) (k1 : k ≤ 122) (n1 : ¬ R_has u m k) (n2 : ¬ R_has u m (k - 32)) : R_ss s u m (fun x => A x ∨ D_fd A (k + 1) x) := by
  have a1 := (not_congr (h.2.2.2.2 k (by omega) (by omega))).mp n1
  have a2 := (not_congr (h.2.2.2.2 (k - 32) (by omega) (by omega))).mp n2
  refine h.weak (fun x x0 x1 => ?_)
  constructor
  · exact fun e => e.elim .inl (fun e => .inr (D_fd_up e))
  · intro e
    rcases e with e | e
    · exact .inl e
    · rcases D_fd_st e with e | e
      · exact .inr e
      · exact absurd e.1 (fun e => e.elim (fun e => a1 (.inl e)) (fun e => a2 (.inl e)))
theorem R_fd_add {s u v w : R_S} {m k : Int} {A : Int → Prop} (h : R_ss s u m (fun x => A x ∨ D_fd A k x)) (k0 : 97 ≤ k) (k1 : k ≤ 122) (n : R_has u m k ∨ R_has u m (k - 32)) (h2 : R_ss u v m (fun y => R_has u m y ∨ y = k)) (h3 : R_ss v w m (fun y => R_has v m y ∨ y = k - 32)) : R_ss s w m (fun x => A x ∨ D_fd A (k + 1) x) := by
  have a1 := h.2.2.2.2 k (by omega) (by omega)
  have a2 := h.2.2.2.2 (k - 32) (by omega) (by omega)
  have a : A k ∨ A (k - 32) := by
    rcases n with n | n
    · exact (a1.mp n).elim .inl (fun e => absurd e (D_fd_no k0 k1 (.inl rfl)))
    · exact (a2.mp n).elim .inr (fun e => absurd e (D_fd_no k0 k1 (.inr rfl)))
  refine ((h.trans h2).trans h3).weak (fun x x0 x1 => ?_)
  rw [h2.2.2.2.2 x x0 x1]
  show (R_has u m x ∨ x = k) ∨ x = k - 32 ↔ _
  rw [h.2.2.2.2 x x0 x1]
  constructor
  · intro e
    rcases e with ((e | e) | e) | e
    · exact .inl e
    · exact .inr (D_fd_up e)
    · exact .inr ⟨k, k0, k1, by omega, a, .inl e⟩
    · exact .inr ⟨k, k0, k1, by omega, a, .inr e⟩
  · intro e
    rcases e with e | e
    · exact .inl (.inl (.inl e))
    · rcases D_fd_st e with e | e
      · exact .inl (.inl (.inr e))
      · rcases e.2 with e | e
        · exact .inl (.inr e)
        · exact .inr e
theorem R_folds_lp {d : Nat} {h0 : E_H} {s : R_S} {sl : Nat} {Φ : E_R → Prop} (m0 : 1 ≤ s.1 15) (m1 : s.1 15 ≤ 90) (kont : ∀ (u : R_S) (h : E_H), R_is h0 h u → (s.1 17 = 0 ∧ u = s ∨ s.1 17 ≠ 0 ∧ (R_ss s u (s.1 15 - 1) (fun x => R_has s (s.1 15 - 1) x ∨ D_fd (R_has s (s.1 15 - 1)) 123 x))) → B_R (d + 1) E_m202 (66, [(0, .ref 83)], []) h sl Φ) : ∀ (t : Nat) (k : Int) (u : R_S) (h : E_H), 123 - k < t → R_is h0 h u → 97 ≤ k → k ≤ 123 → (s.1 17 = 0 → u = s) → (R_ss s u (s.1 15 - 1) (fun x => R_has s (s.1 15 - 1) x ∨ D_fd (R_has s (s.1 15 - 1)) k x)) → B_R (d + 1) E_m202 (3, [(1, .int (Zi k)), (0, .ref 83)], []) h sl Φ := by
  intro t
  induction t with
  | zero => intro k u h ht hs k0 k1 hz hu; omega
  | succ t ih =>
    intro k u h ht hs k0 k1 hz hu
    have e15 : u.1 15 = s.1 15 := hu.f15 15
    have e17 : u.1 17 = s.1 17 := hu.f15 17
    refine Z_go (f2 := (4, [(1, .int (Zi k)), (0, .ref 83)], [.int (Zi k)])) (fun _ => rfl) ?_
    refine Z_go (f2 := (6, [(1, .int (Zi k)), (0, .ref 83)], [.int (Zi 122), .int (Zi k)])) (fun _ => rfl) ?_
    refine Z_cgt rfl rfl (by first | exact hs.zF _ | exact Zor_r _ _ | exact hs.zA _ _ | assumption | exact zS _ | exact Zr_not (hs.zA _ _) | exact ⟨by omega, by omega⟩) (by first | exact hs.zF _ | exact Zor_r _ _ | exact hs.zA _ _ | assumption | exact zS _ | exact Zr_not (hs.zA _ _) | exact ⟨by omega, by omega⟩) (fun c1 => ?_) (fun c1 => ?_)
    · refine B_loc (K := [(0, .ref 83)]) (N_all_sub ⟨rfl, trivial⟩) (show ([0] : List Nat).Nodup by decide) ?_
      have e : k = 123 := by omega
      rw [e] at hu
      exact kont u h hs ((Classical.em (s.1 17 = 0)).elim (fun e => .inl ⟨e, hz e⟩) (fun e => .inr ⟨e, hu⟩))
    · refine Z_go (f2 := (10, [(1, .int (Zi k)), (0, .ref 83)], [.ref 83])) (fun _ => rfl) ?_
      refine R_gi rfl hs rfl ?_
      show B_R _ _ (13, [(1, .int (Zi k)), (0, .ref 83)], [.int (Zi (u.1 17))]) _ _ _
      refine Z_ieq rfl rfl (by first | exact hs.zF _ | exact Zor_r _ _ | exact hs.zA _ _ | assumption | exact zS _ | exact Zr_not (hs.zA _ _) | exact ⟨by omega, by omega⟩) (fun c2 => ?_) (fun c2 => ?_)
      · refine B_loc (K := [(0, .ref 83)]) (N_all_sub ⟨rfl, trivial⟩) (show ([0] : List Nat).Nodup by decide) ?_
        exact kont u h hs (.inl ⟨by omega, hz (by omega)⟩)
      · refine Z_go (f2 := (17, [(1, .int (Zi k)), (0, .ref 83)], [.ref 83])) (fun _ => rfl) ?_
        refine Z_go (f2 := (18, [(1, .int (Zi k)), (0, .ref 83)], [.ref 83, .ref 83])) (fun _ => rfl) ?_
        refine R_gi rfl hs rfl ?_
        show B_R _ _ (21, [(1, .int (Zi k)), (0, .ref 83)], [.int (Zi (u.1 15)), .ref 83]) _ _ _
        refine Z_go (f2 := (22, [(1, .int (Zi k)), (0, .ref 83)], [.int (Zi 1), .int (Zi (u.1 15)), .ref 83])) (fun _ => rfl) ?_
        refine Z_isub rfl ?_
        refine Z_go (f2 := (24, [(1, .int (Zi k)), (0, .ref 83)], [.int (Zi k), .int (Zi (u.1 15 - 1)), .ref 83])) (fun _ => rfl) ?_
        refine R_call (As := [.int (Zi (u.1 15 - 1)), .int (Zi k)]) (rest := []) rfl (by decide) rfl rfl rfl rfl (by decide +kernel) (Nat.le_of_ble_eq_true rfl) hs (R_has0 _ _ (by first | assumption | exact hs.zF _ | exact hs.zA _ _ | exact ⟨by omega, by omega⟩ | omega) (by first | assumption | exact hs.zF _ | exact hs.zA _ _ | exact ⟨by omega, by omega⟩ | omega) (by first | assumption | exact hs.zF _ | exact hs.zA _ _ | exact ⟨by omega, by omega⟩ | omega) (by first | assumption | exact hs.zF _ | exact hs.zA _ _ | exact ⟨by omega, by omega⟩ | omega) (by first | assumption | exact hs.zF _ | exact hs.zA _ _ | exact ⟨by omega, by omega⟩ | omega) (by first | assumption | exact hs.zF _ | exact hs.zA _ _ | exact ⟨by omega, by omega⟩ | omega)) (fun x h s2 hs q => ?_)
        obtain ⟨q0, va, rfl, hva⟩ := q
        rw [q0] at hs
        rw [e15] at hva
        show B_R _ _ (27, [(1, .int (Zi k)), (0, .ref 83)], [.int (Zi va)]) _ _ _
        refine Z_ine rfl rfl (by first | exact hs.zF _ | exact Zor_r _ _ | exact hs.zA _ _ | assumption | exact zS _ | exact Zr_not (hs.zA _ _) | exact ⟨by omega, by omega⟩) (fun c3 => ?_) (fun c3 => ?_)
        · refine Z_go (f2 := (48, [(1, .int (Zi k)), (0, .ref 83)], [.ref 83])) (fun _ => rfl) ?_
          refine Z_go (f2 := (49, [(1, .int (Zi k)), (0, .ref 83)], [.int (Zi k), .ref 83])) (fun _ => rfl) ?_
          refine R_call (As := [.int (Zi k)]) (rest := []) rfl (by decide) rfl rfl rfl rfl (by decide +kernel) (Nat.le_of_ble_eq_true rfl) hs (R_put _ _ (by first | assumption | exact hs.zF _ | exact hs.zA _ _ | exact ⟨by omega, by omega⟩ | omega) (by first | assumption | exact hs.zF _ | exact hs.zA _ _ | exact ⟨by omega, by omega⟩ | omega) (by first | assumption | exact hs.zF _ | exact hs.zA _ _ | exact ⟨by omega, by omega⟩ | omega) (by first | assumption | exact hs.zF _ | exact hs.zA _ _ | exact ⟨by omega, by omega⟩ | omega) (by first | assumption | exact hs.zF _ | exact hs.zA _ _ | exact ⟨by omega, by omega⟩ | omega)) (fun x h v1 hs q => ?_)
          obtain ⟨rfl, q1⟩ := q
          rw [e15] at q1
          have e15v : v1.1 15 = s.1 15 := by rw [q1.1, e15]
          show B_R _ _ (52, [(1, .int (Zi k)), (0, .ref 83)], []) _ _ _
          refine Z_go (f2 := (53, [(1, .int (Zi k)), (0, .ref 83)], [.ref 83])) (fun _ => rfl) ?_
          refine Z_go (f2 := (54, [(1, .int (Zi k)), (0, .ref 83)], [.int (Zi k), .ref 83])) (fun _ => rfl) ?_
          refine Z_go (f2 := (56, [(1, .int (Zi k)), (0, .ref 83)], [.int (Zi 32), .int (Zi k), .ref 83])) (fun _ => rfl) ?_
          refine Z_isub rfl ?_
          refine R_call (As := [.int (Zi (k - 32))]) (rest := []) rfl (by decide) rfl rfl rfl rfl (by decide +kernel) (Nat.le_of_ble_eq_true rfl) hs (R_put _ _ (by first | assumption | exact hs.zF _ | exact hs.zA _ _ | exact ⟨by omega, by omega⟩ | omega) (by first | assumption | exact hs.zF _ | exact hs.zA _ _ | exact ⟨by omega, by omega⟩ | omega) (by first | assumption | exact hs.zF _ | exact hs.zA _ _ | exact ⟨by omega, by omega⟩ | omega) (by first | assumption | exact hs.zF _ | exact hs.zA _ _ | exact ⟨by omega, by omega⟩ | omega) (by first | assumption | exact hs.zF _ | exact hs.zA _ _ | exact ⟨by omega, by omega⟩ | omega)) (fun x h v2 hs q => ?_)
          obtain ⟨rfl, q2⟩ := q
          rw [e15v] at q2
          show B_R _ _ (60, [(1, .int (Zi k)), (0, .ref 83)], []) _ _ _
          refine Z_iinc (L2 := [(1, .int (Zi (k + 1))), (0, .ref 83)]) rfl rfl (by decide) rfl ?_
          refine Z_go (f2 := (3, [(1, .int (Zi (k + 1))), (0, .ref 83)], [])) (fun _ => rfl) ?_
          refine B_loc (K := [(1, .int (Zi (k + 1))), (0, .ref 83)]) (N_all_sub ⟨rfl, rfl, trivial⟩) (show ([1, 0] : List Nat).Nodup by decide) ?_
          exact ih _ _ _ (by omega) hs (by omega) (by omega) (fun e => absurd e (by omega)) (R_fd_add hu k0 (by omega) (.inl (by rcases hva with q | q; exact q.2; omega)) q1 q2)
        · refine Z_go (f2 := (31, [(1, .int (Zi k)), (0, .ref 83)], [.ref 83])) (fun _ => rfl) ?_
          refine Z_go (f2 := (32, [(1, .int (Zi k)), (0, .ref 83)], [.ref 83, .ref 83])) (fun _ => rfl) ?_
          refine R_gi rfl hs rfl ?_
          show B_R _ _ (35, [(1, .int (Zi k)), (0, .ref 83)], [.int (Zi (u.1 15)), .ref 83]) _ _ _
          refine Z_go (f2 := (36, [(1, .int (Zi k)), (0, .ref 83)], [.int (Zi 1), .int (Zi (u.1 15)), .ref 83])) (fun _ => rfl) ?_
          refine Z_isub rfl ?_
          refine Z_go (f2 := (38, [(1, .int (Zi k)), (0, .ref 83)], [.int (Zi k), .int (Zi (u.1 15 - 1)), .ref 83])) (fun _ => rfl) ?_
          refine Z_go (f2 := (40, [(1, .int (Zi k)), (0, .ref 83)], [.int (Zi 32), .int (Zi k), .int (Zi (u.1 15 - 1)), .ref 83])) (fun _ => rfl) ?_
          refine Z_isub rfl ?_
          refine R_call (As := [.int (Zi (u.1 15 - 1)), .int (Zi (k - 32))]) (rest := []) rfl (by decide) rfl rfl rfl rfl (by decide +kernel) (Nat.le_of_ble_eq_true rfl) hs (R_has0 _ _ (by first | assumption | exact hs.zF _ | exact hs.zA _ _ | exact ⟨by omega, by omega⟩ | omega) (by first | assumption | exact hs.zF _ | exact hs.zA _ _ | exact ⟨by omega, by omega⟩ | omega) (by first | assumption | exact hs.zF _ | exact hs.zA _ _ | exact ⟨by omega, by omega⟩ | omega) (by first | assumption | exact hs.zF _ | exact hs.zA _ _ | exact ⟨by omega, by omega⟩ | omega) (by first | assumption | exact hs.zF _ | exact hs.zA _ _ | exact ⟨by omega, by omega⟩ | omega) (by first | assumption | exact hs.zF _ | exact hs.zA _ _ | exact ⟨by omega, by omega⟩ | omega)) (fun x h s2 hs q => ?_)
          obtain ⟨q0, vb, rfl, hvb⟩ := q
          rw [q0] at hs
          rw [e15] at hvb
          show B_R _ _ (44, [(1, .int (Zi k)), (0, .ref 83)], [.int (Zi vb)]) _ _ _
          refine Z_ieq rfl rfl (by first | exact hs.zF _ | exact Zor_r _ _ | exact hs.zA _ _ | assumption | exact zS _ | exact Zr_not (hs.zA _ _) | exact ⟨by omega, by omega⟩) (fun c4 => ?_) (fun c4 => ?_)
          · refine Z_iinc (L2 := [(1, .int (Zi (k + 1))), (0, .ref 83)]) rfl rfl (by decide) rfl ?_
            refine Z_go (f2 := (3, [(1, .int (Zi (k + 1))), (0, .ref 83)], [])) (fun _ => rfl) ?_
            refine B_loc (K := [(1, .int (Zi (k + 1))), (0, .ref 83)]) (N_all_sub ⟨rfl, rfl, trivial⟩) (show ([1, 0] : List Nat).Nodup by decide) ?_
            exact ih _ _ _ (by omega) hs (by omega) (by omega) (fun e => absurd e (by omega)) (R_fd_skip hu k0 (by omega) (by rcases hva with q | q; omega; exact q.2) (by rcases hvb with q | q; omega; exact q.2))
          · refine Z_go (f2 := (48, [(1, .int (Zi k)), (0, .ref 83)], [.ref 83])) (fun _ => rfl) ?_
            refine Z_go (f2 := (49, [(1, .int (Zi k)), (0, .ref 83)], [.int (Zi k), .ref 83])) (fun _ => rfl) ?_
            refine R_call (As := [.int (Zi k)]) (rest := []) rfl (by decide) rfl rfl rfl rfl (by decide +kernel) (Nat.le_of_ble_eq_true rfl) hs (R_put _ _ (by first | assumption | exact hs.zF _ | exact hs.zA _ _ | exact ⟨by omega, by omega⟩ | omega) (by first | assumption | exact hs.zF _ | exact hs.zA _ _ | exact ⟨by omega, by omega⟩ | omega) (by first | assumption | exact hs.zF _ | exact hs.zA _ _ | exact ⟨by omega, by omega⟩ | omega) (by first | assumption | exact hs.zF _ | exact hs.zA _ _ | exact ⟨by omega, by omega⟩ | omega) (by first | assumption | exact hs.zF _ | exact hs.zA _ _ | exact ⟨by omega, by omega⟩ | omega)) (fun x h v1 hs q => ?_)
            obtain ⟨rfl, q1⟩ := q
            rw [e15] at q1
            have e15v : v1.1 15 = s.1 15 := by rw [q1.1, e15]
            show B_R _ _ (52, [(1, .int (Zi k)), (0, .ref 83)], []) _ _ _
            refine Z_go (f2 := (53, [(1, .int (Zi k)), (0, .ref 83)], [.ref 83])) (fun _ => rfl) ?_
            refine Z_go (f2 := (54, [(1, .int (Zi k)), (0, .ref 83)], [.int (Zi k), .ref 83])) (fun _ => rfl) ?_
            refine Z_go (f2 := (56, [(1, .int (Zi k)), (0, .ref 83)], [.int (Zi 32), .int (Zi k), .ref 83])) (fun _ => rfl) ?_
            refine Z_isub rfl ?_
            refine R_call (As := [.int (Zi (k - 32))]) (rest := []) rfl (by decide) rfl rfl rfl rfl (by decide +kernel) (Nat.le_of_ble_eq_true rfl) hs (R_put _ _ (by first | assumption | exact hs.zF _ | exact hs.zA _ _ | exact ⟨by omega, by omega⟩ | omega) (by first | assumption | exact hs.zF _ | exact hs.zA _ _ | exact ⟨by omega, by omega⟩ | omega) (by first | assumption | exact hs.zF _ | exact hs.zA _ _ | exact ⟨by omega, by omega⟩ | omega) (by first | assumption | exact hs.zF _ | exact hs.zA _ _ | exact ⟨by omega, by omega⟩ | omega) (by first | assumption | exact hs.zF _ | exact hs.zA _ _ | exact ⟨by omega, by omega⟩ | omega)) (fun x h v2 hs q => ?_)
            obtain ⟨rfl, q2⟩ := q
            rw [e15v] at q2
            show B_R _ _ (60, [(1, .int (Zi k)), (0, .ref 83)], []) _ _ _
            refine Z_iinc (L2 := [(1, .int (Zi (k + 1))), (0, .ref 83)]) rfl rfl (by decide) rfl ?_
            refine Z_go (f2 := (3, [(1, .int (Zi (k + 1))), (0, .ref 83)], [])) (fun _ => rfl) ?_
            refine B_loc (K := [(1, .int (Zi (k + 1))), (0, .ref 83)]) (N_all_sub ⟨rfl, rfl, trivial⟩) (show ([1, 0] : List Nat).Nodup by decide) ?_
            exact ih _ _ _ (by omega) hs (by omega) (by omega) (fun e => absurd e (by omega)) (R_fd_add hu k0 (by omega) (.inr (by rcases hvb with q | q; exact q.2; omega)) q1 q2)
theorem R_folds (d : Nat) (s : R_S)   (m0 : 1 ≤ s.1 15) (m1 : s.1 15 ≤ 90) : R_ok (d + 2) 202 [] s (fun x s2 => x = none ∧ (s.1 17 = 0 ∧ s2 = s ∨ s.1 17 ≠ 0 ∧ R_ss s s2 (s.1 15 - 1) (fun x => R_has s (s.1 15 - 1) x ∨ D_fd (R_has s (s.1 15 - 1)) 123 x))) := by
  refine R_enter (M := E_m202) rfl (Nat.le_of_ble_eq_true rfl) (fun h0 h hs => ?_)
  show B_R (d + 1) _ (0, [(0, .ref 83)], []) _ _ _
  refine Z_go (f2 := (2, [(0, .ref 83)], [.int (Zi 97)])) (fun _ => rfl) ?_
  refine Z_go (f2 := (3, [(1, .int (Zi 97)), (0, .ref 83)], [])) (fun _ => rfl) ?_
  refine R_folds_lp m0 m1 (fun u h hs hu => ?_) 27 97 s h (by omega) hs (by omega) (by omega) (fun _ => rfl) ((R_ss_0 _ _).weak (fun x _ _ => ⟨.inl, fun e => e.elim id (fun ⟨l, l0, l1, l2, _⟩ => by omega)⟩))
  refine Z_ret rfl rfl ⟨_, hs, ?_, rfl⟩
  exact ⟨rfl, hu⟩
