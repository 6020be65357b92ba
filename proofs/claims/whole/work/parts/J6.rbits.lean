/-! the reference: sets of places as bits -/
theorem Zi_sm64 (k : Nat) (h : k < 64) : ((((Zi (k : Int)).toInt64 &&& 63).toBitVec.smod 64).toNat) = k := by
  have : ∀ k : Fin 64, ((((Zi (k.val : Int)).toInt64 &&& 63).toBitVec.smod 64).toNat) = k.val := by decide +kernel
  exact this ⟨k, h⟩
theorem T_shl (b : Int64) {k : Int} (k0 : 0 ≤ k) (k1 : k < 64) : (b <<< ((Zi k).toInt64 &&& 63)).toBitVec = b.toBitVec <<< k.toNat := by
  obtain ⟨n, rfl⟩ := Int.eq_ofNat_of_zero_le k0
  rw [Int64.toBitVec_shiftLeft, BitVec.shiftLeft_eq', Zi_sm64 n (by omega)]
  rfl
theorem T_bit_shl (b : Int64) {k : Int} (k0 : 0 ≤ k) (k1 : k < 64) (j : Nat) : T_bit (b <<< ((Zi k).toInt64 &&& 63)) j ↔ j < 64 ∧ k.toNat ≤ j ∧ T_bit b (j - k.toNat) := by
  unfold T_bit
  rw [T_shl b k0 k1, BitVec.getLsbD_shiftLeft]
  simp only [Bool.and_eq_true, decide_eq_true_iff, Bool.not_eq_true', decide_eq_false_iff_not, Nat.not_lt, and_assoc]
theorem T_bit_ushr (b : Int64) {k : Int} (k0 : 0 ≤ k) (k1 : k < 64) (j : Nat) : T_bit ((b.toUInt64 >>> ((Zi k).toInt64.toUInt64 &&& Int64.toUInt64 63)).toInt64) j ↔ T_bit b (k.toNat + j) := by
  unfold T_bit
  rw [T_ushr b k0 k1, BitVec.getLsbD_ushiftRight]
theorem T_bit_lor (a b : Int64) (j : Nat) : T_bit (a ||| b) j ↔ T_bit a j ∨ T_bit b j := by
  unfold T_bit
  rw [Int64.toBitVec_or, BitVec.getLsbD_or, Bool.or_eq_true]
theorem T_bit_land (a b : Int64) (j : Nat) : T_bit (a &&& b) j ↔ T_bit a j ∧ T_bit b j := by
  unfold T_bit
  rw [Int64.toBitVec_and, BitVec.getLsbD_and, Bool.and_eq_true]
theorem T_bit_hi {a : Int64} {j : Nat} (h : 64 ≤ j) : ¬ T_bit a j := by
  unfold T_bit
  rw [BitVec.getLsbD_of_ge _ _ h]
  exact Bool.false_ne_true
theorem T_bit_ne {a : Int64} : a ≠ 0 ↔ ∃ j, j < 64 ∧ T_bit a j := by
  constructor
  · intro h
    refine Classical.byContradiction (fun q => h ?_)
    apply Int64.toBitVec_inj.mp
    apply BitVec.eq_of_getLsbD_eq
    intro i hi
    have : ¬ T_bit a i := fun e => q ⟨i, hi, e⟩
    unfold T_bit at this
    rw [show (0 : Int64).toBitVec = 0#64 from rfl, BitVec.getLsbD_zero]
    cases e : a.toBitVec.getLsbD i with
    | false => rfl
    | true => exact absurd e this
  · rintro ⟨j, _, h⟩ e
    rw [e] at h
    exact T_bit_0 j h
/-- only the longs of the array q changed -/
def R_lq (q : Nat) (s u : R_S) : Prop := u.1 = s.1 ∧ u.2.1 = s.2.1 ∧ u.2.2.1 = s.2.2.1 ∧ ∀ p j, p ≠ q → u.2.2.2 p j = s.2.2.2 p j
theorem R_lq.rf (q : Nat) (s : R_S) : R_lq q s s := ⟨rfl, rfl, rfl, fun _ _ _ => rfl⟩
theorem R_lq.tr {q : Nat} {s u w : R_S} (h : R_lq q s u) (g : R_lq q u w) : R_lq q s w := ⟨g.1.trans h.1, g.2.1.trans h.2.1, g.2.2.1.trans h.2.2.1, fun p j hp => (g.2.2.2 p j hp).trans (h.2.2.2 p j hp)⟩
theorem R_lq.st (s : R_S) (q : Nat) (i : Int) (v : Int64) : R_lq q s (R_sM s q i v) := ⟨rfl, rfl, rfl, fun p j hp => by
  show R_upL2 s.2.2.2 q i v p j = _
  unfold R_upL2
  rw [if_neg (fun e => hp e.1)]⟩
theorem R_lq.fl (s : R_S) (q : Nat) (lo hi : Int) (g : Int → Int64) : R_lq q s (R_fL s q lo hi g) := ⟨rfl, rfl, rfl, fun p j hp => if_neg (fun e => hp e.1)⟩
theorem R_sM_m (s : R_S) (q : Nat) {i j : Int} (v : Int64) (h : j ≠ i) : (R_sM s q i v).2.2.2 q j = s.2.2.2 q j := by
  show R_upL2 s.2.2.2 q i v q j = _
  unfold R_upL2
  rw [if_neg (fun e => h e.2)]
/-- the places of X, as bits from f on -/
def R_bs_ (s : R_S) (q : Nat) (f : Int) (X : Int → Prop) : Prop := ∀ i, 0 ≤ i → i < 1024 → (T_bit (s.2.2.2 q (f + i / 64)) (i % 64).toNat ↔ X i)
theorem R_bs_.weak {s : R_S} {q : Nat} {f : Int} {X Y : Int → Prop} (h : R_bs_ s q f X) (g : ∀ i, 0 ≤ i → i < 1024 → (X i ↔ Y i)) : R_bs_ s q f Y := fun i i0 i1 => (h i i0 i1).trans (g i i0 i1)
theorem R_bs_.at {s u : R_S} {q : Nat} {f : Int} {X : Int → Prop} (h : R_bs_ s q f X) (g : ∀ w, 0 ≤ w → w < 16 → u.2.2.2 q (f + w) = s.2.2.2 q (f + w)) : R_bs_ u q f X := fun i i0 i1 => by rw [g (i / 64) (by omega) (by omega)]; exact h i i0 i1
theorem R_bs_.of (s : R_S) (q : Nat) (f : Int) : R_bs_ s q f (fun i => T_bit (s.2.2.2 q (f + i / 64)) (i % 64).toNat) := fun _ _ _ => Iff.rfl
theorem R_bs_.bit {s : R_S} {q : Nat} {f : Int} {X : Int → Prop} (h : R_bs_ s q f X) {w : Int} {b : Nat} (w0 : 0 ≤ w) (w1 : w < 16) (hb : b < 64) : T_bit (s.2.2.2 q (f + w)) b ↔ X (64 * w + b) := by
  have := h (64 * w + b) (by omega) (by omega)
  rw [show (64 * w + (b : Int)) / 64 = w by omega, show ((64 * w + (b : Int)) % 64).toNat = b by omega] at this
  exact this
theorem R_bs_.mk {s : R_S} {q : Nat} {f : Int} {X : Int → Prop} (h : ∀ (w : Int) (b : Nat), 0 ≤ w → w < 16 → b < 64 → (T_bit (s.2.2.2 q (f + w)) b ↔ X (64 * w + b))) : R_bs_ s q f X := fun i i0 i1 => by
  have := h (i / 64) (i % 64).toNat (by omega) (by omega) (by omega)
  rw [show 64 * (i / 64) + (((i % 64).toNat : Nat) : Int) = i by omega] at this
  exact this
/-- a place more -/
theorem R_bs_mark {s : R_S} {q : Nat} {f i : Int} {v : Int64} (i0 : 0 ≤ i) (hv : v = s.2.2.2 q (f + i / 64) ||| (1 <<< ((Zi (i % 64)).toInt64 &&& 63))) {X : Int → Prop} (h : R_bs_ s q f X) : R_bs_ (R_sM s q (f + i / 64) v) q f (fun j => X j ∨ j = i) := by
  refine R_bs_.mk (fun w b w0 w1 hb => ?_)
  by_cases c : w = i / 64
  · subst c
    rw [R_sM_s, hv, T_bit_or (by omega) (by omega) hb, h.bit w0 w1 hb]
    refine or_congr Iff.rfl ⟨fun e => by omega, fun e => by omega⟩
  · rw [R_sM_m _ _ _ (by omega), h.bit w0 w1 hb]
    exact ⟨.inl, fun e => e.elim id (fun e => by omega)⟩
theorem R_mark119 (d : Nat) (s : R_S) {f i : Int} (zf : Zr f) (zi : Zr i) (i0 : 0 ≤ i) (i1 : i < 1024) (f0 : 0 ≤ f) (f1 : f + 16 ≤ 4160) : R_ok (d + 1) 260 [.ref 119, .int (Zi f), .int (Zi i)] s (fun x s2 => x = none ∧ s2 = R_sM s 119 (f + i / 64) (s.2.2.2 119 (f + i / 64) ||| (1 <<< ((Zi (i % 64)).toInt64 &&& 63)))) := by
  refine R_enter (M := E_m260) rfl (Nat.le_of_ble_eq_true rfl) (fun h0 h hs => ?_)
  show B_R d _ (0, [(0, .ref 83), (1, .ref 119), (2, .int (Zi f)), (3, .int (Zi i))], []) _ _ _
  refine Z_go (f2 := (1, [(0, .ref 83), (1, .ref 119), (2, .int (Zi f)), (3, .int (Zi i))], [.ref 119])) (fun _ => rfl) ?_
  refine Z_go (f2 := (2, [(0, .ref 83), (1, .ref 119), (2, .int (Zi f)), (3, .int (Zi i))], [.int (Zi f), .ref 119])) (fun _ => rfl) ?_
  refine Z_go (f2 := (3, [(0, .ref 83), (1, .ref 119), (2, .int (Zi f)), (3, .int (Zi i))], [.int (Zi i), .int (Zi f), .ref 119])) (fun _ => rfl) ?_
  refine Z_go (f2 := (5, [(0, .ref 83), (1, .ref 119), (2, .int (Zi f)), (3, .int (Zi i))], [.int (Zi 64), .int (Zi i), .int (Zi f), .ref 119])) (fun _ => rfl) ?_
  refine Z_idiv rfl (by omega) (by omega) (by omega) (by omega) ?_
  refine Z_iadd rfl ?_
  refine Z_go (f2 := (8, [(0, .ref 83), (1, .ref 119), (2, .int (Zi f)), (3, .int (Zi i))], [.int (Zi (f + (i / 64))), .ref 119, .int (Zi (f + (i / 64))), .ref 119])) (fun _ => rfl) ?_
  refine R_la (q := 35) rfl hs rfl rfl (by omega) (by omega) (by decide) ?_
  refine Z_go (f2 := (10, [(0, .ref 83), (1, .ref 119), (2, .int (Zi f)), (3, .int (Zi i))], [.long (1), .long (s.2.2.2 119 (f + (i / 64))), .int (Zi (f + (i / 64))), .ref 119])) (fun _ => rfl) ?_
  refine Z_go (f2 := (11, [(0, .ref 83), (1, .ref 119), (2, .int (Zi f)), (3, .int (Zi i))], [.int (Zi i), .long (1), .long (s.2.2.2 119 (f + (i / 64))), .int (Zi (f + (i / 64))), .ref 119])) (fun _ => rfl) ?_
  refine Z_go (f2 := (13, [(0, .ref 83), (1, .ref 119), (2, .int (Zi f)), (3, .int (Zi i))], [.int (Zi 64), .int (Zi i), .long (1), .long (s.2.2.2 119 (f + (i / 64))), .int (Zi (f + (i / 64))), .ref 119])) (fun _ => rfl) ?_
  refine Z_irem rfl (by omega) (by omega) (by omega) (by omega) ?_
  refine Z_go (f2 := (15, [(0, .ref 83), (1, .ref 119), (2, .int (Zi f)), (3, .int (Zi i))], [.long (1 <<< ((Zi (i % 64)).toInt64 &&& 63)), .long (s.2.2.2 119 (f + (i / 64))), .int (Zi (f + (i / 64))), .ref 119])) (fun _ => rfl) ?_
  refine Z_go (f2 := (16, [(0, .ref 83), (1, .ref 119), (2, .int (Zi f)), (3, .int (Zi i))], [.long ((s.2.2.2 119 (f + (i / 64))) ||| (1 <<< ((Zi (i % 64)).toInt64 &&& 63))), .int (Zi (f + (i / 64))), .ref 119])) (fun _ => rfl) ?_
  refine R_ls (q := 35) rfl hs rfl rfl (by omega) (by omega) (by decide) (fun h hs => ?_)
  refine Z_ret rfl rfl ⟨_, hs, ?_, rfl⟩
  exact ⟨rfl, rfl⟩
theorem R_mark120 (d : Nat) (s : R_S) {f i : Int} (zf : Zr f) (zi : Zr i) (i0 : 0 ≤ i) (i1 : i < 1024) (f0 : 0 ≤ f) (f1 : f + 16 ≤ 1440) : R_ok (d + 1) 260 [.ref 120, .int (Zi f), .int (Zi i)] s (fun x s2 => x = none ∧ s2 = R_sM s 120 (f + i / 64) (s.2.2.2 120 (f + i / 64) ||| (1 <<< ((Zi (i % 64)).toInt64 &&& 63)))) := by
  refine R_enter (M := E_m260) rfl (Nat.le_of_ble_eq_true rfl) (fun h0 h hs => ?_)
  show B_R d _ (0, [(0, .ref 83), (1, .ref 120), (2, .int (Zi f)), (3, .int (Zi i))], []) _ _ _
  refine Z_go (f2 := (1, [(0, .ref 83), (1, .ref 120), (2, .int (Zi f)), (3, .int (Zi i))], [.ref 120])) (fun _ => rfl) ?_
  refine Z_go (f2 := (2, [(0, .ref 83), (1, .ref 120), (2, .int (Zi f)), (3, .int (Zi i))], [.int (Zi f), .ref 120])) (fun _ => rfl) ?_
  refine Z_go (f2 := (3, [(0, .ref 83), (1, .ref 120), (2, .int (Zi f)), (3, .int (Zi i))], [.int (Zi i), .int (Zi f), .ref 120])) (fun _ => rfl) ?_
  refine Z_go (f2 := (5, [(0, .ref 83), (1, .ref 120), (2, .int (Zi f)), (3, .int (Zi i))], [.int (Zi 64), .int (Zi i), .int (Zi f), .ref 120])) (fun _ => rfl) ?_
  refine Z_idiv rfl (by omega) (by omega) (by omega) (by omega) ?_
  refine Z_iadd rfl ?_
  refine Z_go (f2 := (8, [(0, .ref 83), (1, .ref 120), (2, .int (Zi f)), (3, .int (Zi i))], [.int (Zi (f + (i / 64))), .ref 120, .int (Zi (f + (i / 64))), .ref 120])) (fun _ => rfl) ?_
  refine R_la (q := 36) rfl hs rfl rfl (by omega) (by omega) (by decide) ?_
  refine Z_go (f2 := (10, [(0, .ref 83), (1, .ref 120), (2, .int (Zi f)), (3, .int (Zi i))], [.long (1), .long (s.2.2.2 120 (f + (i / 64))), .int (Zi (f + (i / 64))), .ref 120])) (fun _ => rfl) ?_
  refine Z_go (f2 := (11, [(0, .ref 83), (1, .ref 120), (2, .int (Zi f)), (3, .int (Zi i))], [.int (Zi i), .long (1), .long (s.2.2.2 120 (f + (i / 64))), .int (Zi (f + (i / 64))), .ref 120])) (fun _ => rfl) ?_
  refine Z_go (f2 := (13, [(0, .ref 83), (1, .ref 120), (2, .int (Zi f)), (3, .int (Zi i))], [.int (Zi 64), .int (Zi i), .long (1), .long (s.2.2.2 120 (f + (i / 64))), .int (Zi (f + (i / 64))), .ref 120])) (fun _ => rfl) ?_
  refine Z_irem rfl (by omega) (by omega) (by omega) (by omega) ?_
  refine Z_go (f2 := (15, [(0, .ref 83), (1, .ref 120), (2, .int (Zi f)), (3, .int (Zi i))], [.long (1 <<< ((Zi (i % 64)).toInt64 &&& 63)), .long (s.2.2.2 120 (f + (i / 64))), .int (Zi (f + (i / 64))), .ref 120])) (fun _ => rfl) ?_
  refine Z_go (f2 := (16, [(0, .ref 83), (1, .ref 120), (2, .int (Zi f)), (3, .int (Zi i))], [.long ((s.2.2.2 120 (f + (i / 64))) ||| (1 <<< ((Zi (i % 64)).toInt64 &&& 63))), .int (Zi (f + (i / 64))), .ref 120])) (fun _ => rfl) ?_
  refine R_ls (q := 36) rfl hs rfl rfl (by omega) (by omega) (by decide) (fun h hs => ?_)
  refine Z_ret rfl rfl ⟨_, hs, ?_, rfl⟩
  exact ⟨rfl, rfl⟩
theorem R_mark121 (d : Nat) (s : R_S) {f i : Int} (zf : Zr f) (zi : Zr i) (i0 : 0 ≤ i) (i1 : i < 1024) (f0 : 0 ≤ f) (f1 : f + 16 ≤ 80) : R_ok (d + 1) 260 [.ref 121, .int (Zi f), .int (Zi i)] s (fun x s2 => x = none ∧ s2 = R_sM s 121 (f + i / 64) (s.2.2.2 121 (f + i / 64) ||| (1 <<< ((Zi (i % 64)).toInt64 &&& 63)))) := by
  refine R_enter (M := E_m260) rfl (Nat.le_of_ble_eq_true rfl) (fun h0 h hs => ?_)
  show B_R d _ (0, [(0, .ref 83), (1, .ref 121), (2, .int (Zi f)), (3, .int (Zi i))], []) _ _ _
  refine Z_go (f2 := (1, [(0, .ref 83), (1, .ref 121), (2, .int (Zi f)), (3, .int (Zi i))], [.ref 121])) (fun _ => rfl) ?_
  refine Z_go (f2 := (2, [(0, .ref 83), (1, .ref 121), (2, .int (Zi f)), (3, .int (Zi i))], [.int (Zi f), .ref 121])) (fun _ => rfl) ?_
  refine Z_go (f2 := (3, [(0, .ref 83), (1, .ref 121), (2, .int (Zi f)), (3, .int (Zi i))], [.int (Zi i), .int (Zi f), .ref 121])) (fun _ => rfl) ?_
  refine Z_go (f2 := (5, [(0, .ref 83), (1, .ref 121), (2, .int (Zi f)), (3, .int (Zi i))], [.int (Zi 64), .int (Zi i), .int (Zi f), .ref 121])) (fun _ => rfl) ?_
  refine Z_idiv rfl (by omega) (by omega) (by omega) (by omega) ?_
  refine Z_iadd rfl ?_
  refine Z_go (f2 := (8, [(0, .ref 83), (1, .ref 121), (2, .int (Zi f)), (3, .int (Zi i))], [.int (Zi (f + (i / 64))), .ref 121, .int (Zi (f + (i / 64))), .ref 121])) (fun _ => rfl) ?_
  refine R_la (q := 37) rfl hs rfl rfl (by omega) (by omega) (by decide) ?_
  refine Z_go (f2 := (10, [(0, .ref 83), (1, .ref 121), (2, .int (Zi f)), (3, .int (Zi i))], [.long (1), .long (s.2.2.2 121 (f + (i / 64))), .int (Zi (f + (i / 64))), .ref 121])) (fun _ => rfl) ?_
  refine Z_go (f2 := (11, [(0, .ref 83), (1, .ref 121), (2, .int (Zi f)), (3, .int (Zi i))], [.int (Zi i), .long (1), .long (s.2.2.2 121 (f + (i / 64))), .int (Zi (f + (i / 64))), .ref 121])) (fun _ => rfl) ?_
  refine Z_go (f2 := (13, [(0, .ref 83), (1, .ref 121), (2, .int (Zi f)), (3, .int (Zi i))], [.int (Zi 64), .int (Zi i), .long (1), .long (s.2.2.2 121 (f + (i / 64))), .int (Zi (f + (i / 64))), .ref 121])) (fun _ => rfl) ?_
  refine Z_irem rfl (by omega) (by omega) (by omega) (by omega) ?_
  refine Z_go (f2 := (15, [(0, .ref 83), (1, .ref 121), (2, .int (Zi f)), (3, .int (Zi i))], [.long (1 <<< ((Zi (i % 64)).toInt64 &&& 63)), .long (s.2.2.2 121 (f + (i / 64))), .int (Zi (f + (i / 64))), .ref 121])) (fun _ => rfl) ?_
  refine Z_go (f2 := (16, [(0, .ref 83), (1, .ref 121), (2, .int (Zi f)), (3, .int (Zi i))], [.long ((s.2.2.2 121 (f + (i / 64))) ||| (1 <<< ((Zi (i % 64)).toInt64 &&& 63))), .int (Zi (f + (i / 64))), .ref 121])) (fun _ => rfl) ?_
  refine R_ls (q := 37) rfl hs rfl rfl (by omega) (by omega) (by decide) (fun h hs => ?_)
  refine Z_ret rfl rfl ⟨_, hs, ?_, rfl⟩
  exact ⟨rfl, rfl⟩
def X_fw (V : Int → Int64) (w : Int) : Int64 := (V w <<< ((Zi 1).toInt64 &&& 63)) ||| (if w = 0 then 0 else ((V (w - 1)).toUInt64 >>> ((Zi 63).toInt64.toUInt64 &&& Int64.toUInt64 63)).toInt64)
def X_bw (V S : Int → Int64) (w : Int) : Int64 := ((((V w).toUInt64 >>> ((Zi 1).toInt64.toUInt64 &&& Int64.toUInt64 63)).toInt64) ||| (if w = 15 then 0 else V (w + 1) <<< ((Zi 63).toInt64 &&& 63))) &&& S w
theorem X_fw_bit {V : Int → Int64} {w : Int} {b : Nat} (hb : b < 64) : T_bit (X_fw V w) b ↔ (1 ≤ b ∧ T_bit (V w) (b - 1)) ∨ (b = 0 ∧ w ≠ 0 ∧ T_bit (V (w - 1)) 63) := by
  unfold X_fw
  rw [T_bit_lor, T_bit_shl _ (by decide) (by decide)]
  refine or_congr ⟨fun e => ⟨e.2.1, e.2.2⟩, fun e => ⟨hb, e.1, e.2⟩⟩ ?_
  by_cases c : w = 0
  · rw [if_pos c]
    exact ⟨fun e => absurd e (T_bit_0 _), fun e => absurd c e.2.1⟩
  · rw [if_neg c, T_bit_ushr _ (by decide) (by decide)]
    show T_bit (V (w - 1)) (63 + b) ↔ _
    by_cases c2 : b = 0
    · subst c2
      exact ⟨fun e => ⟨rfl, c, e⟩, fun e => e.2.2⟩
    · exact ⟨fun e => absurd e (T_bit_hi (by omega)), fun e => absurd e.1 c2⟩
theorem X_bw_bit {V S : Int → Int64} {w : Int} {b : Nat} (hb : b < 64) : T_bit (X_bw V S w) b ↔ ((b < 63 ∧ T_bit (V w) (b + 1)) ∨ (b = 63 ∧ w ≠ 15 ∧ T_bit (V (w + 1)) 0)) ∧ T_bit (S w) b := by
  unfold X_bw
  rw [T_bit_land, T_bit_lor, T_bit_ushr _ (by decide) (by decide)]
  refine and_congr (or_congr ?_ ?_) Iff.rfl
  · show T_bit (V w) (1 + b) ↔ _
    rw [Nat.add_comm]
    by_cases c : b < 63
    · exact ⟨fun e => ⟨c, e⟩, fun e => e.2⟩
    · exact ⟨fun e => absurd e (T_bit_hi (by omega)), fun e => absurd e.1 c⟩
  · by_cases c : w = 15
    · rw [if_pos c]
      exact ⟨fun e => absurd e (T_bit_0 _), fun e => absurd c e.2.1⟩
    · rw [if_neg c, T_bit_shl _ (by decide) (by decide)]
      constructor
      · rintro ⟨e1, e2, e3⟩
        have e2 : 63 ≤ b := e2
        obtain rfl : b = 63 := by omega
        exact ⟨rfl, c, e3⟩
      · rintro ⟨rfl, e2, e3⟩
        exact ⟨by decide, Nat.le_refl _, e3⟩
theorem X_fL_dn {s : R_S} {q : Nat} {lo hi z : Int} {v : Int64} {g : Int → Int64} (h : lo ≤ hi) (hz : z + 1 = lo) (hv : v = g z) : R_sM (R_fL s q lo hi g) q z v = R_fL s q z hi g := by
  refine Prod.ext rfl (Prod.ext rfl (Prod.ext rfl ?_))
  funext p j
  show R_upL2 (fun p j => if p = q ∧ lo ≤ j ∧ j < hi then g j else s.2.2.2 p j) q z v p j = if p = q ∧ z ≤ j ∧ j < hi then g j else s.2.2.2 p j
  unfold R_upL2
  by_cases c : p = q ∧ j = z
  · rw [if_pos c, if_pos ⟨c.1, by omega, by omega⟩, c.2, hv]
  · rw [if_neg c]
    show (if p = q ∧ lo ≤ j ∧ j < hi then g j else s.2.2.2 p j) = _
    by_cases c2 : p = q ∧ lo ≤ j ∧ j < hi
    · rw [if_pos c2, if_pos ⟨c2.1, by omega, by omega⟩]
    · rw [if_neg c2, if_neg (fun e => c2 ⟨e.1, by have := fun e2 => c ⟨e.1, e2⟩; omega, by omega⟩)]
theorem R_mv_f {d : Nat} {h0 : E_H} {s : R_S} {sl : Nat} {Φ : E_R → Prop} {top set bk : Int} (t0 : 0 ≤ top) (t1 : top < 260) (s0 : 0 ≤ set) (s1 : set < 90) (zb : Zr bk) (hb : bk = 0) (kont : ∀ (h : E_H), R_is h0 h (R_fL s 119 (16 * top) (16 * top + 16) (fun j => X_fw (fun k => s.2.2.2 119 (16 * top + k) &&& s.2.2.2 120 (16 * set + k)) (j - 16 * top))) → Φ (none, h, sl)) : ∀ (t : Nat) (w : Int) (ov : Int64) (h : E_H), 16 - w < t → R_is h0 h (R_fL s 119 (16 * top) (16 * top + w) (fun j => X_fw (fun k => s.2.2.2 119 (16 * top + k) &&& s.2.2.2 120 (16 * set + k)) (j - 16 * top))) → ov = (if w = 0 then 0 else ((((fun k => s.2.2.2 119 (16 * top + k) &&& s.2.2.2 120 (16 * set + k))) (w - 1)).toUInt64 >>> ((Zi 63).toInt64.toUInt64 &&& Int64.toUInt64 63)).toInt64 : Int64) → 0 ≤ w → w ≤ 16 → B_R d E_m263 (12, [(7, .int (Zi w)), (5, .long (ov)), (4, .int (Zi (16 * top))), (0, .ref 83), (1, .int (Zi top)), (2, .int (Zi set)), (3, .int (Zi bk))], []) h sl Φ := by
  intro t
  induction t with
  | zero => intro w ov h ht hs ho w0 w1; omega
  | succ t ih =>
    intro w ov h ht hs ho w0 w1
    refine Z_go (f2 := (14, [(7, .int (Zi w)), (5, .long (ov)), (4, .int (Zi (16 * top))), (0, .ref 83), (1, .int (Zi top)), (2, .int (Zi set)), (3, .int (Zi bk))], [.int (Zi w)])) (fun _ => rfl) ?_
    refine Z_go (f2 := (16, [(7, .int (Zi w)), (5, .long (ov)), (4, .int (Zi (16 * top))), (0, .ref 83), (1, .int (Zi top)), (2, .int (Zi set)), (3, .int (Zi bk))], [.int (Zi 16), .int (Zi w)])) (fun _ => rfl) ?_
    refine Z_cge rfl rfl (by first | exact hs.zF _ | exact Zor_r _ _ | exact hs.zA _ _ | assumption | exact zA _ _ | exact zS _ | exact Zr_not (hs.zA _ _) | exact ⟨by omega, by omega⟩) (by first | exact hs.zF _ | exact Zor_r _ _ | exact hs.zA _ _ | assumption | exact zA _ _ | exact zS _ | exact Zr_not (hs.zA _ _) | exact ⟨by omega, by omega⟩) (fun c1 => ?_) (fun c1 => ?_)
    · refine Z_ret rfl rfl ?_
      obtain rfl : w = 16 := by omega
      exact kont h hs
    · refine Z_go (f2 := (20, [(7, .int (Zi w)), (5, .long (ov)), (4, .int (Zi (16 * top))), (0, .ref 83), (1, .int (Zi top)), (2, .int (Zi set)), (3, .int (Zi bk))], [.int (Zi bk)])) (fun _ => rfl) ?_
      refine Z_ieq rfl rfl (by first | exact hs.zF _ | exact Zor_r _ _ | exact hs.zA _ _ | assumption | exact zA _ _ | exact zS _ | exact Zr_not (hs.zA _ _) | exact ⟨by omega, by omega⟩) (fun c2 => ?_) (fun c2 => ?_)
      · refine Z_go (f2 := (33, [(7, .int (Zi w)), (5, .long (ov)), (4, .int (Zi (16 * top))), (0, .ref 83), (1, .int (Zi top)), (2, .int (Zi set)), (3, .int (Zi bk))], [.int (Zi w)])) (fun _ => rfl) ?_
        refine Z_go (f2 := (35, [(8, .int (Zi w)), (7, .int (Zi w)), (5, .long (ov)), (4, .int (Zi (16 * top))), (0, .ref 83), (1, .int (Zi top)), (2, .int (Zi set)), (3, .int (Zi bk))], [])) (fun _ => rfl) ?_
        refine Z_go (f2 := (36, [(8, .int (Zi w)), (7, .int (Zi w)), (5, .long (ov)), (4, .int (Zi (16 * top))), (0, .ref 83), (1, .int (Zi top)), (2, .int (Zi set)), (3, .int (Zi bk))], [.ref 83])) (fun _ => rfl) ?_
        refine R_gr (q := 117) rfl hs rfl ?_
        show B_R _ _ (39, [(8, .int (Zi w)), (7, .int (Zi w)), (5, .long (ov)), (4, .int (Zi (16 * top))), (0, .ref 83), (1, .int (Zi top)), (2, .int (Zi set)), (3, .int (Zi bk))], [.ref 119]) _ _ _
        refine Z_go (f2 := (41, [(8, .int (Zi w)), (7, .int (Zi w)), (5, .long (ov)), (4, .int (Zi (16 * top))), (0, .ref 83), (1, .int (Zi top)), (2, .int (Zi set)), (3, .int (Zi bk))], [.int (Zi (16 * top)), .ref 119])) (fun _ => rfl) ?_
        refine Z_go (f2 := (43, [(8, .int (Zi w)), (7, .int (Zi w)), (5, .long (ov)), (4, .int (Zi (16 * top))), (0, .ref 83), (1, .int (Zi top)), (2, .int (Zi set)), (3, .int (Zi bk))], [.int (Zi w), .int (Zi (16 * top)), .ref 119])) (fun _ => rfl) ?_
        refine Z_iadd rfl ?_
        refine R_la (q := 35) rfl hs rfl rfl (by omega) (by omega) (by decide) ?_
        refine Z_go (f2 := (47, [(9, .long ((R_fL s 119 (16 * top) (16 * top + w) (fun j => X_fw (fun k => s.2.2.2 119 (16 * top + k) &&& s.2.2.2 120 (16 * set + k)) (j - 16 * top))).2.2.2 119 (16 * top + w))), (8, .int (Zi w)), (7, .int (Zi w)), (5, .long (ov)), (4, .int (Zi (16 * top))), (0, .ref 83), (1, .int (Zi top)), (2, .int (Zi set)), (3, .int (Zi bk))], [])) (fun _ => rfl) ?_
        have hv9 : (R_fL s 119 (16 * top) (16 * top + w) (fun j => X_fw (fun k => s.2.2.2 119 (16 * top + k) &&& s.2.2.2 120 (16 * set + k)) (j - 16 * top))).2.2.2 119 (16 * top + w) = s.2.2.2 119 (16 * top + w) := R_fL_o (by omega)
        rw [hv9]
        show B_R _ _ (47, [(9, .long (s.2.2.2 119 (16 * top + w))), (8, .int (Zi w)), (7, .int (Zi w)), (5, .long (ov)), (4, .int (Zi (16 * top))), (0, .ref 83), (1, .int (Zi top)), (2, .int (Zi set)), (3, .int (Zi bk))], []) _ _ _
        refine Z_go (f2 := (48, [(9, .long (s.2.2.2 119 (16 * top + w))), (8, .int (Zi w)), (7, .int (Zi w)), (5, .long (ov)), (4, .int (Zi (16 * top))), (0, .ref 83), (1, .int (Zi top)), (2, .int (Zi set)), (3, .int (Zi bk))], [.int (Zi bk)])) (fun _ => rfl) ?_
        refine Z_ieq rfl rfl (by first | exact hs.zF _ | exact Zor_r _ _ | exact hs.zA _ _ | assumption | exact zA _ _ | exact zS _ | exact Zr_not (hs.zA _ _) | exact ⟨by omega, by omega⟩) (fun c3 => ?_) (fun c3 => ?_)
        · refine Z_go (f2 := (93, [(9, .long (s.2.2.2 119 (16 * top + w))), (8, .int (Zi w)), (7, .int (Zi w)), (5, .long (ov)), (4, .int (Zi (16 * top))), (0, .ref 83), (1, .int (Zi top)), (2, .int (Zi set)), (3, .int (Zi bk))], [.long (s.2.2.2 119 (16 * top + w))])) (fun _ => rfl) ?_
          refine Z_go (f2 := (94, [(9, .long (s.2.2.2 119 (16 * top + w))), (8, .int (Zi w)), (7, .int (Zi w)), (5, .long (ov)), (4, .int (Zi (16 * top))), (0, .ref 83), (1, .int (Zi top)), (2, .int (Zi set)), (3, .int (Zi bk))], [.ref 83, .long (s.2.2.2 119 (16 * top + w))])) (fun _ => rfl) ?_
          refine R_gr (q := 118) rfl hs rfl ?_
          show B_R _ _ (97, [(9, .long (s.2.2.2 119 (16 * top + w))), (8, .int (Zi w)), (7, .int (Zi w)), (5, .long (ov)), (4, .int (Zi (16 * top))), (0, .ref 83), (1, .int (Zi top)), (2, .int (Zi set)), (3, .int (Zi bk))], [.ref 120, .long (s.2.2.2 119 (16 * top + w))]) _ _ _
          refine Z_go (f2 := (99, [(9, .long (s.2.2.2 119 (16 * top + w))), (8, .int (Zi w)), (7, .int (Zi w)), (5, .long (ov)), (4, .int (Zi (16 * top))), (0, .ref 83), (1, .int (Zi top)), (2, .int (Zi set)), (3, .int (Zi bk))], [.int (Zi 16), .ref 120, .long (s.2.2.2 119 (16 * top + w))])) (fun _ => rfl) ?_
          refine Z_go (f2 := (100, [(9, .long (s.2.2.2 119 (16 * top + w))), (8, .int (Zi w)), (7, .int (Zi w)), (5, .long (ov)), (4, .int (Zi (16 * top))), (0, .ref 83), (1, .int (Zi top)), (2, .int (Zi set)), (3, .int (Zi bk))], [.int (Zi set), .int (Zi 16), .ref 120, .long (s.2.2.2 119 (16 * top + w))])) (fun _ => rfl) ?_
          refine Z_imul rfl ?_
          refine Z_go (f2 := (103, [(9, .long (s.2.2.2 119 (16 * top + w))), (8, .int (Zi w)), (7, .int (Zi w)), (5, .long (ov)), (4, .int (Zi (16 * top))), (0, .ref 83), (1, .int (Zi top)), (2, .int (Zi set)), (3, .int (Zi bk))], [.int (Zi w), .int (Zi (16 * set)), .ref 120, .long (s.2.2.2 119 (16 * top + w))])) (fun _ => rfl) ?_
          refine Z_iadd rfl ?_
          refine R_la (q := 36) rfl hs rfl rfl (by omega) (by omega) (by decide) ?_
          rw [show (R_fL s 119 (16 * top) (16 * top + w) (fun j => X_fw (fun k => s.2.2.2 119 (16 * top + k) &&& s.2.2.2 120 (16 * set + k)) (j - 16 * top))).2.2.2 120 (16 * set + w) = s.2.2.2 120 (16 * set + w) by simp [R_sA, R_sF, R_sL, R_sM, R_upL2, R_fl, R_fL]]; show B_R _ _ (105, [(9, .long (s.2.2.2 119 (16 * top + w))), (8, .int (Zi w)), (7, .int (Zi w)), (5, .long (ov)), (4, .int (Zi (16 * top))), (0, .ref 83), (1, .int (Zi top)), (2, .int (Zi set)), (3, .int (Zi bk))], [.long (s.2.2.2 120 (16 * set + w)), .long (s.2.2.2 119 (16 * top + w))]) _ _ _
          refine Z_go (f2 := (106, [(9, .long (s.2.2.2 119 (16 * top + w))), (8, .int (Zi w)), (7, .int (Zi w)), (5, .long (ov)), (4, .int (Zi (16 * top))), (0, .ref 83), (1, .int (Zi top)), (2, .int (Zi set)), (3, .int (Zi bk))], [.long ((s.2.2.2 119 (16 * top + w)) &&& (s.2.2.2 120 (16 * set + w)))])) (fun _ => rfl) ?_
          refine Z_go (f2 := (108, [(9, .long ((s.2.2.2 119 (16 * top + w)) &&& (s.2.2.2 120 (16 * set + w)))), (8, .int (Zi w)), (7, .int (Zi w)), (5, .long (ov)), (4, .int (Zi (16 * top))), (0, .ref 83), (1, .int (Zi top)), (2, .int (Zi set)), (3, .int (Zi bk))], [])) (fun _ => rfl) ?_
          refine Z_go (f2 := (109, [(9, .long ((s.2.2.2 119 (16 * top + w)) &&& (s.2.2.2 120 (16 * set + w)))), (8, .int (Zi w)), (7, .int (Zi w)), (5, .long (ov)), (4, .int (Zi (16 * top))), (0, .ref 83), (1, .int (Zi top)), (2, .int (Zi set)), (3, .int (Zi bk))], [.ref 83])) (fun _ => rfl) ?_
          refine R_gr (q := 117) rfl hs rfl ?_
          show B_R _ _ (112, [(9, .long ((s.2.2.2 119 (16 * top + w)) &&& (s.2.2.2 120 (16 * set + w)))), (8, .int (Zi w)), (7, .int (Zi w)), (5, .long (ov)), (4, .int (Zi (16 * top))), (0, .ref 83), (1, .int (Zi top)), (2, .int (Zi set)), (3, .int (Zi bk))], [.ref 119]) _ _ _
          refine Z_go (f2 := (114, [(9, .long ((s.2.2.2 119 (16 * top + w)) &&& (s.2.2.2 120 (16 * set + w)))), (8, .int (Zi w)), (7, .int (Zi w)), (5, .long (ov)), (4, .int (Zi (16 * top))), (0, .ref 83), (1, .int (Zi top)), (2, .int (Zi set)), (3, .int (Zi bk))], [.int (Zi (16 * top)), .ref 119])) (fun _ => rfl) ?_
          refine Z_go (f2 := (116, [(9, .long ((s.2.2.2 119 (16 * top + w)) &&& (s.2.2.2 120 (16 * set + w)))), (8, .int (Zi w)), (7, .int (Zi w)), (5, .long (ov)), (4, .int (Zi (16 * top))), (0, .ref 83), (1, .int (Zi top)), (2, .int (Zi set)), (3, .int (Zi bk))], [.int (Zi w), .int (Zi (16 * top)), .ref 119])) (fun _ => rfl) ?_
          refine Z_iadd rfl ?_
          refine Z_go (f2 := (119, [(9, .long ((s.2.2.2 119 (16 * top + w)) &&& (s.2.2.2 120 (16 * set + w)))), (8, .int (Zi w)), (7, .int (Zi w)), (5, .long (ov)), (4, .int (Zi (16 * top))), (0, .ref 83), (1, .int (Zi top)), (2, .int (Zi set)), (3, .int (Zi bk))], [.long ((s.2.2.2 119 (16 * top + w)) &&& (s.2.2.2 120 (16 * set + w))), .int (Zi (16 * top + w)), .ref 119])) (fun _ => rfl) ?_
          refine Z_go (f2 := (120, [(9, .long ((s.2.2.2 119 (16 * top + w)) &&& (s.2.2.2 120 (16 * set + w)))), (8, .int (Zi w)), (7, .int (Zi w)), (5, .long (ov)), (4, .int (Zi (16 * top))), (0, .ref 83), (1, .int (Zi top)), (2, .int (Zi set)), (3, .int (Zi bk))], [.int (Zi 1), .long ((s.2.2.2 119 (16 * top + w)) &&& (s.2.2.2 120 (16 * set + w))), .int (Zi (16 * top + w)), .ref 119])) (fun _ => rfl) ?_
          refine Z_go (f2 := (121, [(9, .long ((s.2.2.2 119 (16 * top + w)) &&& (s.2.2.2 120 (16 * set + w)))), (8, .int (Zi w)), (7, .int (Zi w)), (5, .long (ov)), (4, .int (Zi (16 * top))), (0, .ref 83), (1, .int (Zi top)), (2, .int (Zi set)), (3, .int (Zi bk))], [.long (((s.2.2.2 119 (16 * top + w)) &&& (s.2.2.2 120 (16 * set + w))) <<< ((Zi 1).toInt64 &&& 63)), .int (Zi (16 * top + w)), .ref 119])) (fun _ => rfl) ?_
          refine Z_go (f2 := (123, [(9, .long ((s.2.2.2 119 (16 * top + w)) &&& (s.2.2.2 120 (16 * set + w)))), (8, .int (Zi w)), (7, .int (Zi w)), (5, .long (ov)), (4, .int (Zi (16 * top))), (0, .ref 83), (1, .int (Zi top)), (2, .int (Zi set)), (3, .int (Zi bk))], [.long (ov), .long (((s.2.2.2 119 (16 * top + w)) &&& (s.2.2.2 120 (16 * set + w))) <<< ((Zi 1).toInt64 &&& 63)), .int (Zi (16 * top + w)), .ref 119])) (fun _ => rfl) ?_
          refine Z_go (f2 := (124, [(9, .long ((s.2.2.2 119 (16 * top + w)) &&& (s.2.2.2 120 (16 * set + w)))), (8, .int (Zi w)), (7, .int (Zi w)), (5, .long (ov)), (4, .int (Zi (16 * top))), (0, .ref 83), (1, .int (Zi top)), (2, .int (Zi set)), (3, .int (Zi bk))], [.long ((((s.2.2.2 119 (16 * top + w)) &&& (s.2.2.2 120 (16 * set + w))) <<< ((Zi 1).toInt64 &&& 63)) ||| ov), .int (Zi (16 * top + w)), .ref 119])) (fun _ => rfl) ?_
          refine R_ls (q := 35) rfl hs rfl rfl (by omega) (by omega) (by decide) (fun h hs => ?_)
          refine Z_go (f2 := (127, [(9, .long ((s.2.2.2 119 (16 * top + w)) &&& (s.2.2.2 120 (16 * set + w)))), (8, .int (Zi w)), (7, .int (Zi w)), (5, .long (ov)), (4, .int (Zi (16 * top))), (0, .ref 83), (1, .int (Zi top)), (2, .int (Zi set)), (3, .int (Zi bk))], [.long ((s.2.2.2 119 (16 * top + w)) &&& (s.2.2.2 120 (16 * set + w)))])) (fun _ => rfl) ?_
          refine Z_go (f2 := (129, [(9, .long ((s.2.2.2 119 (16 * top + w)) &&& (s.2.2.2 120 (16 * set + w)))), (8, .int (Zi w)), (7, .int (Zi w)), (5, .long (ov)), (4, .int (Zi (16 * top))), (0, .ref 83), (1, .int (Zi top)), (2, .int (Zi set)), (3, .int (Zi bk))], [.int (Zi 63), .long ((s.2.2.2 119 (16 * top + w)) &&& (s.2.2.2 120 (16 * set + w)))])) (fun _ => rfl) ?_
          refine Z_go (f2 := (130, [(9, .long ((s.2.2.2 119 (16 * top + w)) &&& (s.2.2.2 120 (16 * set + w)))), (8, .int (Zi w)), (7, .int (Zi w)), (5, .long (ov)), (4, .int (Zi (16 * top))), (0, .ref 83), (1, .int (Zi top)), (2, .int (Zi set)), (3, .int (Zi bk))], [.long ((((s.2.2.2 119 (16 * top + w)) &&& (s.2.2.2 120 (16 * set + w)) : Int64).toUInt64 >>> ((Zi 63).toInt64.toUInt64 &&& Int64.toUInt64 63)).toInt64)])) (fun _ => rfl) ?_
          refine Z_go (f2 := (132, [(5, .long ((((s.2.2.2 119 (16 * top + w)) &&& (s.2.2.2 120 (16 * set + w)) : Int64).toUInt64 >>> ((Zi 63).toInt64.toUInt64 &&& Int64.toUInt64 63)).toInt64)), (9, .long ((s.2.2.2 119 (16 * top + w)) &&& (s.2.2.2 120 (16 * set + w)))), (8, .int (Zi w)), (7, .int (Zi w)), (4, .int (Zi (16 * top))), (0, .ref 83), (1, .int (Zi top)), (2, .int (Zi set)), (3, .int (Zi bk))], [])) (fun _ => rfl) ?_
          refine Z_iinc (L2 := [(7, .int (Zi (w + 1))), (5, .long ((((s.2.2.2 119 (16 * top + w)) &&& (s.2.2.2 120 (16 * set + w)) : Int64).toUInt64 >>> ((Zi 63).toInt64.toUInt64 &&& Int64.toUInt64 63)).toInt64)), (9, .long ((s.2.2.2 119 (16 * top + w)) &&& (s.2.2.2 120 (16 * set + w)))), (8, .int (Zi w)), (4, .int (Zi (16 * top))), (0, .ref 83), (1, .int (Zi top)), (2, .int (Zi set)), (3, .int (Zi bk))]) rfl rfl (by decide) rfl ?_
          refine Z_goto (p2 := 12) rfl (by decide +kernel) (by decide +kernel) ?_
          have ho2 : (((s.2.2.2 119 (16 * top + w)) &&& (s.2.2.2 120 (16 * set + w)) : Int64).toUInt64 >>> ((Zi 63).toInt64.toUInt64 &&& Int64.toUInt64 63)).toInt64 = (if (w + 1) = 0 then 0 else ((((fun k => s.2.2.2 119 (16 * top + k) &&& s.2.2.2 120 (16 * set + k))) ((w + 1) - 1)).toUInt64 >>> ((Zi 63).toInt64.toUInt64 &&& Int64.toUInt64 63)).toInt64 : Int64) := by
            rw [if_neg (by omega)]
            rw [show w + 1 - 1 = w by omega]
          refine B_loc (K := [(7, .int (Zi (w + 1))), (5, .long ((((s.2.2.2 119 (16 * top + w)) &&& (s.2.2.2 120 (16 * set + w)) : Int64).toUInt64 >>> ((Zi 63).toInt64.toUInt64 &&& Int64.toUInt64 63)).toInt64)), (4, .int (Zi (16 * top))), (0, .ref 83), (1, .int (Zi top)), (2, .int (Zi set)), (3, .int (Zi bk))]) (N_all_sub ⟨rfl, rfl, rfl, rfl, rfl, rfl, rfl, trivial⟩) (show ([7, 5, 4, 0, 1, 2, 3] : List Nat).Nodup by decide) ?_
          refine ih (w + 1) _ h (by omega) ?_ ho2 (by omega) (by omega)
          rw [R_fL_st (by omega) rfl (by
            show _ = X_fw _ (16 * top + w - 16 * top)
            unfold X_fw
            rw [show 16 * top + w - 16 * top = w by omega, ho])] at hs
          rw [← Int.add_assoc]
          exact hs
        · exfalso; omega
      · exfalso; omega
theorem R_mv_b {d : Nat} {h0 : E_H} {s : R_S} {sl : Nat} {Φ : E_R → Prop} {top set bk : Int} (t0 : 0 ≤ top) (t1 : top < 260) (s0 : 0 ≤ set) (s1 : set < 90) (zb : Zr bk) (hb : bk ≠ 0) (kont : ∀ (h : E_H), R_is h0 h (R_fL s 119 (16 * top + (16 - 16)) (16 * top + 16) (fun j => X_bw (fun k => s.2.2.2 119 (16 * top + k)) (fun k => s.2.2.2 120 (16 * set + k)) (j - 16 * top))) → Φ (none, h, sl)) : ∀ (t : Nat) (w : Int) (ov : Int64) (h : E_H), 16 - w < t → R_is h0 h (R_fL s 119 (16 * top + (16 - w)) (16 * top + 16) (fun j => X_bw (fun k => s.2.2.2 119 (16 * top + k)) (fun k => s.2.2.2 120 (16 * set + k)) (j - 16 * top))) → ov = (if w = 0 then 0 else ((fun k => s.2.2.2 119 (16 * top + k))) (15 - w + 1) <<< ((Zi 63).toInt64 &&& 63) : Int64) → 0 ≤ w → w ≤ 16 → B_R d E_m263 (12, [(7, .int (Zi w)), (5, .long (ov)), (4, .int (Zi (16 * top))), (0, .ref 83), (1, .int (Zi top)), (2, .int (Zi set)), (3, .int (Zi bk))], []) h sl Φ := by
  intro t
  induction t with
  | zero => intro w ov h ht hs ho w0 w1; omega
  | succ t ih =>
    intro w ov h ht hs ho w0 w1
    refine Z_go (f2 := (14, [(7, .int (Zi w)), (5, .long (ov)), (4, .int (Zi (16 * top))), (0, .ref 83), (1, .int (Zi top)), (2, .int (Zi set)), (3, .int (Zi bk))], [.int (Zi w)])) (fun _ => rfl) ?_
    refine Z_go (f2 := (16, [(7, .int (Zi w)), (5, .long (ov)), (4, .int (Zi (16 * top))), (0, .ref 83), (1, .int (Zi top)), (2, .int (Zi set)), (3, .int (Zi bk))], [.int (Zi 16), .int (Zi w)])) (fun _ => rfl) ?_
    refine Z_cge rfl rfl (by first | exact hs.zF _ | exact Zor_r _ _ | exact hs.zA _ _ | assumption | exact zA _ _ | exact zS _ | exact Zr_not (hs.zA _ _) | exact ⟨by omega, by omega⟩) (by first | exact hs.zF _ | exact Zor_r _ _ | exact hs.zA _ _ | assumption | exact zA _ _ | exact zS _ | exact Zr_not (hs.zA _ _) | exact ⟨by omega, by omega⟩) (fun c1 => ?_) (fun c1 => ?_)
    · refine Z_ret rfl rfl ?_
      obtain rfl : w = 16 := by omega
      exact kont h hs
    · refine Z_go (f2 := (20, [(7, .int (Zi w)), (5, .long (ov)), (4, .int (Zi (16 * top))), (0, .ref 83), (1, .int (Zi top)), (2, .int (Zi set)), (3, .int (Zi bk))], [.int (Zi bk)])) (fun _ => rfl) ?_
      refine Z_ieq rfl rfl (by first | exact hs.zF _ | exact Zor_r _ _ | exact hs.zA _ _ | assumption | exact zA _ _ | exact zS _ | exact Zr_not (hs.zA _ _) | exact ⟨by omega, by omega⟩) (fun c2 => ?_) (fun c2 => ?_)
      · exfalso; omega
      · refine Z_go (f2 := (25, [(7, .int (Zi w)), (5, .long (ov)), (4, .int (Zi (16 * top))), (0, .ref 83), (1, .int (Zi top)), (2, .int (Zi set)), (3, .int (Zi bk))], [.int (Zi 15)])) (fun _ => rfl) ?_
        refine Z_go (f2 := (27, [(7, .int (Zi w)), (5, .long (ov)), (4, .int (Zi (16 * top))), (0, .ref 83), (1, .int (Zi top)), (2, .int (Zi set)), (3, .int (Zi bk))], [.int (Zi w), .int (Zi 15)])) (fun _ => rfl) ?_
        refine Z_isub rfl ?_
        refine Z_go (f2 := (33, [(7, .int (Zi w)), (5, .long (ov)), (4, .int (Zi (16 * top))), (0, .ref 83), (1, .int (Zi top)), (2, .int (Zi set)), (3, .int (Zi bk))], [.int (Zi (15 - w))])) (fun _ => rfl) ?_
        refine Z_go (f2 := (35, [(8, .int (Zi (15 - w))), (7, .int (Zi w)), (5, .long (ov)), (4, .int (Zi (16 * top))), (0, .ref 83), (1, .int (Zi top)), (2, .int (Zi set)), (3, .int (Zi bk))], [])) (fun _ => rfl) ?_
        refine Z_go (f2 := (36, [(8, .int (Zi (15 - w))), (7, .int (Zi w)), (5, .long (ov)), (4, .int (Zi (16 * top))), (0, .ref 83), (1, .int (Zi top)), (2, .int (Zi set)), (3, .int (Zi bk))], [.ref 83])) (fun _ => rfl) ?_
        refine R_gr (q := 117) rfl hs rfl ?_
        show B_R _ _ (39, [(8, .int (Zi (15 - w))), (7, .int (Zi w)), (5, .long (ov)), (4, .int (Zi (16 * top))), (0, .ref 83), (1, .int (Zi top)), (2, .int (Zi set)), (3, .int (Zi bk))], [.ref 119]) _ _ _
        refine Z_go (f2 := (41, [(8, .int (Zi (15 - w))), (7, .int (Zi w)), (5, .long (ov)), (4, .int (Zi (16 * top))), (0, .ref 83), (1, .int (Zi top)), (2, .int (Zi set)), (3, .int (Zi bk))], [.int (Zi (16 * top)), .ref 119])) (fun _ => rfl) ?_
        refine Z_go (f2 := (43, [(8, .int (Zi (15 - w))), (7, .int (Zi w)), (5, .long (ov)), (4, .int (Zi (16 * top))), (0, .ref 83), (1, .int (Zi top)), (2, .int (Zi set)), (3, .int (Zi bk))], [.int (Zi (15 - w)), .int (Zi (16 * top)), .ref 119])) (fun _ => rfl) ?_
        refine Z_iadd rfl ?_
        refine R_la (q := 35) rfl hs rfl rfl (by omega) (by omega) (by decide) ?_
        refine Z_go (f2 := (47, [(9, .long ((R_fL s 119 (16 * top + (16 - w)) (16 * top + 16) (fun j => X_bw (fun k => s.2.2.2 119 (16 * top + k)) (fun k => s.2.2.2 120 (16 * set + k)) (j - 16 * top))).2.2.2 119 (16 * top + (15 - w)))), (8, .int (Zi (15 - w))), (7, .int (Zi w)), (5, .long (ov)), (4, .int (Zi (16 * top))), (0, .ref 83), (1, .int (Zi top)), (2, .int (Zi set)), (3, .int (Zi bk))], [])) (fun _ => rfl) ?_
        have hv9 : (R_fL s 119 (16 * top + (16 - w)) (16 * top + 16) (fun j => X_bw (fun k => s.2.2.2 119 (16 * top + k)) (fun k => s.2.2.2 120 (16 * set + k)) (j - 16 * top))).2.2.2 119 (16 * top + (15 - w)) = s.2.2.2 119 (16 * top + (15 - w)) := R_fL_o (by omega)
        rw [hv9]
        show B_R _ _ (47, [(9, .long (s.2.2.2 119 (16 * top + (15 - w)))), (8, .int (Zi (15 - w))), (7, .int (Zi w)), (5, .long (ov)), (4, .int (Zi (16 * top))), (0, .ref 83), (1, .int (Zi top)), (2, .int (Zi set)), (3, .int (Zi bk))], []) _ _ _
        refine Z_go (f2 := (48, [(9, .long (s.2.2.2 119 (16 * top + (15 - w)))), (8, .int (Zi (15 - w))), (7, .int (Zi w)), (5, .long (ov)), (4, .int (Zi (16 * top))), (0, .ref 83), (1, .int (Zi top)), (2, .int (Zi set)), (3, .int (Zi bk))], [.int (Zi bk)])) (fun _ => rfl) ?_
        refine Z_ieq rfl rfl (by first | exact hs.zF _ | exact Zor_r _ _ | exact hs.zA _ _ | assumption | exact zA _ _ | exact zS _ | exact Zr_not (hs.zA _ _) | exact ⟨by omega, by omega⟩) (fun c3 => ?_) (fun c3 => ?_)
        · exfalso; omega
        · refine Z_go (f2 := (52, [(9, .long (s.2.2.2 119 (16 * top + (15 - w)))), (8, .int (Zi (15 - w))), (7, .int (Zi w)), (5, .long (ov)), (4, .int (Zi (16 * top))), (0, .ref 83), (1, .int (Zi top)), (2, .int (Zi set)), (3, .int (Zi bk))], [.ref 83])) (fun _ => rfl) ?_
          refine R_gr (q := 117) rfl hs rfl ?_
          show B_R _ _ (55, [(9, .long (s.2.2.2 119 (16 * top + (15 - w)))), (8, .int (Zi (15 - w))), (7, .int (Zi w)), (5, .long (ov)), (4, .int (Zi (16 * top))), (0, .ref 83), (1, .int (Zi top)), (2, .int (Zi set)), (3, .int (Zi bk))], [.ref 119]) _ _ _
          refine Z_go (f2 := (57, [(9, .long (s.2.2.2 119 (16 * top + (15 - w)))), (8, .int (Zi (15 - w))), (7, .int (Zi w)), (5, .long (ov)), (4, .int (Zi (16 * top))), (0, .ref 83), (1, .int (Zi top)), (2, .int (Zi set)), (3, .int (Zi bk))], [.int (Zi (16 * top)), .ref 119])) (fun _ => rfl) ?_
          refine Z_go (f2 := (59, [(9, .long (s.2.2.2 119 (16 * top + (15 - w)))), (8, .int (Zi (15 - w))), (7, .int (Zi w)), (5, .long (ov)), (4, .int (Zi (16 * top))), (0, .ref 83), (1, .int (Zi top)), (2, .int (Zi set)), (3, .int (Zi bk))], [.int (Zi (15 - w)), .int (Zi (16 * top)), .ref 119])) (fun _ => rfl) ?_
          refine Z_iadd rfl ?_
          refine Z_go (f2 := (62, [(9, .long (s.2.2.2 119 (16 * top + (15 - w)))), (8, .int (Zi (15 - w))), (7, .int (Zi w)), (5, .long (ov)), (4, .int (Zi (16 * top))), (0, .ref 83), (1, .int (Zi top)), (2, .int (Zi set)), (3, .int (Zi bk))], [.long (s.2.2.2 119 (16 * top + (15 - w))), .int (Zi (16 * top + (15 - w))), .ref 119])) (fun _ => rfl) ?_
          refine Z_go (f2 := (63, [(9, .long (s.2.2.2 119 (16 * top + (15 - w)))), (8, .int (Zi (15 - w))), (7, .int (Zi w)), (5, .long (ov)), (4, .int (Zi (16 * top))), (0, .ref 83), (1, .int (Zi top)), (2, .int (Zi set)), (3, .int (Zi bk))], [.int (Zi 1), .long (s.2.2.2 119 (16 * top + (15 - w))), .int (Zi (16 * top + (15 - w))), .ref 119])) (fun _ => rfl) ?_
          refine Z_go (f2 := (64, [(9, .long (s.2.2.2 119 (16 * top + (15 - w)))), (8, .int (Zi (15 - w))), (7, .int (Zi w)), (5, .long (ov)), (4, .int (Zi (16 * top))), (0, .ref 83), (1, .int (Zi top)), (2, .int (Zi set)), (3, .int (Zi bk))], [.long (((s.2.2.2 119 (16 * top + (15 - w)) : Int64).toUInt64 >>> ((Zi 1).toInt64.toUInt64 &&& Int64.toUInt64 63)).toInt64), .int (Zi (16 * top + (15 - w))), .ref 119])) (fun _ => rfl) ?_
          refine Z_go (f2 := (66, [(9, .long (s.2.2.2 119 (16 * top + (15 - w)))), (8, .int (Zi (15 - w))), (7, .int (Zi w)), (5, .long (ov)), (4, .int (Zi (16 * top))), (0, .ref 83), (1, .int (Zi top)), (2, .int (Zi set)), (3, .int (Zi bk))], [.long (ov), .long (((s.2.2.2 119 (16 * top + (15 - w)) : Int64).toUInt64 >>> ((Zi 1).toInt64.toUInt64 &&& Int64.toUInt64 63)).toInt64), .int (Zi (16 * top + (15 - w))), .ref 119])) (fun _ => rfl) ?_
          refine Z_go (f2 := (67, [(9, .long (s.2.2.2 119 (16 * top + (15 - w)))), (8, .int (Zi (15 - w))), (7, .int (Zi w)), (5, .long (ov)), (4, .int (Zi (16 * top))), (0, .ref 83), (1, .int (Zi top)), (2, .int (Zi set)), (3, .int (Zi bk))], [.long ((((s.2.2.2 119 (16 * top + (15 - w)) : Int64).toUInt64 >>> ((Zi 1).toInt64.toUInt64 &&& Int64.toUInt64 63)).toInt64) ||| ov), .int (Zi (16 * top + (15 - w))), .ref 119])) (fun _ => rfl) ?_
          refine Z_go (f2 := (68, [(9, .long (s.2.2.2 119 (16 * top + (15 - w)))), (8, .int (Zi (15 - w))), (7, .int (Zi w)), (5, .long (ov)), (4, .int (Zi (16 * top))), (0, .ref 83), (1, .int (Zi top)), (2, .int (Zi set)), (3, .int (Zi bk))], [.ref 83, .long ((((s.2.2.2 119 (16 * top + (15 - w)) : Int64).toUInt64 >>> ((Zi 1).toInt64.toUInt64 &&& Int64.toUInt64 63)).toInt64) ||| ov), .int (Zi (16 * top + (15 - w))), .ref 119])) (fun _ => rfl) ?_
          refine R_gr (q := 118) rfl hs rfl ?_
          show B_R _ _ (71, [(9, .long (s.2.2.2 119 (16 * top + (15 - w)))), (8, .int (Zi (15 - w))), (7, .int (Zi w)), (5, .long (ov)), (4, .int (Zi (16 * top))), (0, .ref 83), (1, .int (Zi top)), (2, .int (Zi set)), (3, .int (Zi bk))], [.ref 120, .long ((((s.2.2.2 119 (16 * top + (15 - w)) : Int64).toUInt64 >>> ((Zi 1).toInt64.toUInt64 &&& Int64.toUInt64 63)).toInt64) ||| ov), .int (Zi (16 * top + (15 - w))), .ref 119]) _ _ _
          refine Z_go (f2 := (73, [(9, .long (s.2.2.2 119 (16 * top + (15 - w)))), (8, .int (Zi (15 - w))), (7, .int (Zi w)), (5, .long (ov)), (4, .int (Zi (16 * top))), (0, .ref 83), (1, .int (Zi top)), (2, .int (Zi set)), (3, .int (Zi bk))], [.int (Zi 16), .ref 120, .long ((((s.2.2.2 119 (16 * top + (15 - w)) : Int64).toUInt64 >>> ((Zi 1).toInt64.toUInt64 &&& Int64.toUInt64 63)).toInt64) ||| ov), .int (Zi (16 * top + (15 - w))), .ref 119])) (fun _ => rfl) ?_
          refine Z_go (f2 := (74, [(9, .long (s.2.2.2 119 (16 * top + (15 - w)))), (8, .int (Zi (15 - w))), (7, .int (Zi w)), (5, .long (ov)), (4, .int (Zi (16 * top))), (0, .ref 83), (1, .int (Zi top)), (2, .int (Zi set)), (3, .int (Zi bk))], [.int (Zi set), .int (Zi 16), .ref 120, .long ((((s.2.2.2 119 (16 * top + (15 - w)) : Int64).toUInt64 >>> ((Zi 1).toInt64.toUInt64 &&& Int64.toUInt64 63)).toInt64) ||| ov), .int (Zi (16 * top + (15 - w))), .ref 119])) (fun _ => rfl) ?_
          refine Z_imul rfl ?_
          refine Z_go (f2 := (77, [(9, .long (s.2.2.2 119 (16 * top + (15 - w)))), (8, .int (Zi (15 - w))), (7, .int (Zi w)), (5, .long (ov)), (4, .int (Zi (16 * top))), (0, .ref 83), (1, .int (Zi top)), (2, .int (Zi set)), (3, .int (Zi bk))], [.int (Zi (15 - w)), .int (Zi (16 * set)), .ref 120, .long ((((s.2.2.2 119 (16 * top + (15 - w)) : Int64).toUInt64 >>> ((Zi 1).toInt64.toUInt64 &&& Int64.toUInt64 63)).toInt64) ||| ov), .int (Zi (16 * top + (15 - w))), .ref 119])) (fun _ => rfl) ?_
          refine Z_iadd rfl ?_
          refine R_la (q := 36) rfl hs rfl rfl (by omega) (by omega) (by decide) ?_
          rw [show (R_fL s 119 (16 * top + (16 - w)) (16 * top + 16) (fun j => X_bw (fun k => s.2.2.2 119 (16 * top + k)) (fun k => s.2.2.2 120 (16 * set + k)) (j - 16 * top))).2.2.2 120 (16 * set + (15 - w)) = s.2.2.2 120 (16 * set + (15 - w)) by simp [R_sA, R_sF, R_sL, R_sM, R_upL2, R_fl, R_fL]]; show B_R _ _ (79, [(9, .long (s.2.2.2 119 (16 * top + (15 - w)))), (8, .int (Zi (15 - w))), (7, .int (Zi w)), (5, .long (ov)), (4, .int (Zi (16 * top))), (0, .ref 83), (1, .int (Zi top)), (2, .int (Zi set)), (3, .int (Zi bk))], [.long (s.2.2.2 120 (16 * set + (15 - w))), .long ((((s.2.2.2 119 (16 * top + (15 - w)) : Int64).toUInt64 >>> ((Zi 1).toInt64.toUInt64 &&& Int64.toUInt64 63)).toInt64) ||| ov), .int (Zi (16 * top + (15 - w))), .ref 119]) _ _ _
          refine Z_go (f2 := (80, [(9, .long (s.2.2.2 119 (16 * top + (15 - w)))), (8, .int (Zi (15 - w))), (7, .int (Zi w)), (5, .long (ov)), (4, .int (Zi (16 * top))), (0, .ref 83), (1, .int (Zi top)), (2, .int (Zi set)), (3, .int (Zi bk))], [.long (((((s.2.2.2 119 (16 * top + (15 - w)) : Int64).toUInt64 >>> ((Zi 1).toInt64.toUInt64 &&& Int64.toUInt64 63)).toInt64) ||| ov) &&& (s.2.2.2 120 (16 * set + (15 - w)))), .int (Zi (16 * top + (15 - w))), .ref 119])) (fun _ => rfl) ?_
          refine R_ls (q := 35) rfl hs rfl rfl (by omega) (by omega) (by decide) (fun h hs => ?_)
          refine Z_go (f2 := (83, [(9, .long (s.2.2.2 119 (16 * top + (15 - w)))), (8, .int (Zi (15 - w))), (7, .int (Zi w)), (5, .long (ov)), (4, .int (Zi (16 * top))), (0, .ref 83), (1, .int (Zi top)), (2, .int (Zi set)), (3, .int (Zi bk))], [.long (s.2.2.2 119 (16 * top + (15 - w)))])) (fun _ => rfl) ?_
          refine Z_go (f2 := (85, [(9, .long (s.2.2.2 119 (16 * top + (15 - w)))), (8, .int (Zi (15 - w))), (7, .int (Zi w)), (5, .long (ov)), (4, .int (Zi (16 * top))), (0, .ref 83), (1, .int (Zi top)), (2, .int (Zi set)), (3, .int (Zi bk))], [.int (Zi 63), .long (s.2.2.2 119 (16 * top + (15 - w)))])) (fun _ => rfl) ?_
          refine Z_go (f2 := (86, [(9, .long (s.2.2.2 119 (16 * top + (15 - w)))), (8, .int (Zi (15 - w))), (7, .int (Zi w)), (5, .long (ov)), (4, .int (Zi (16 * top))), (0, .ref 83), (1, .int (Zi top)), (2, .int (Zi set)), (3, .int (Zi bk))], [.long ((s.2.2.2 119 (16 * top + (15 - w))) <<< ((Zi 63).toInt64 &&& 63))])) (fun _ => rfl) ?_
          refine Z_go (f2 := (88, [(5, .long ((s.2.2.2 119 (16 * top + (15 - w))) <<< ((Zi 63).toInt64 &&& 63))), (9, .long (s.2.2.2 119 (16 * top + (15 - w)))), (8, .int (Zi (15 - w))), (7, .int (Zi w)), (4, .int (Zi (16 * top))), (0, .ref 83), (1, .int (Zi top)), (2, .int (Zi set)), (3, .int (Zi bk))], [])) (fun _ => rfl) ?_
          refine Z_go (f2 := (132, [(5, .long ((s.2.2.2 119 (16 * top + (15 - w))) <<< ((Zi 63).toInt64 &&& 63))), (9, .long (s.2.2.2 119 (16 * top + (15 - w)))), (8, .int (Zi (15 - w))), (7, .int (Zi w)), (4, .int (Zi (16 * top))), (0, .ref 83), (1, .int (Zi top)), (2, .int (Zi set)), (3, .int (Zi bk))], [])) (fun _ => rfl) ?_
          refine Z_iinc (L2 := [(7, .int (Zi (w + 1))), (5, .long ((s.2.2.2 119 (16 * top + (15 - w))) <<< ((Zi 63).toInt64 &&& 63))), (9, .long (s.2.2.2 119 (16 * top + (15 - w)))), (8, .int (Zi (15 - w))), (4, .int (Zi (16 * top))), (0, .ref 83), (1, .int (Zi top)), (2, .int (Zi set)), (3, .int (Zi bk))]) rfl rfl (by decide) rfl ?_
          refine Z_goto (p2 := 12) rfl (by decide +kernel) (by decide +kernel) ?_
          have ho2 : (s.2.2.2 119 (16 * top + (15 - w))) <<< ((Zi 63).toInt64 &&& 63) = (if (w + 1) = 0 then 0 else ((fun k => s.2.2.2 119 (16 * top + k))) (15 - (w + 1) + 1) <<< ((Zi 63).toInt64 &&& 63) : Int64) := by
            rw [if_neg (by omega)]
            rw [show 15 - (w + 1) + 1 = 15 - w by omega]
          refine B_loc (K := [(7, .int (Zi (w + 1))), (5, .long ((s.2.2.2 119 (16 * top + (15 - w))) <<< ((Zi 63).toInt64 &&& 63))), (4, .int (Zi (16 * top))), (0, .ref 83), (1, .int (Zi top)), (2, .int (Zi set)), (3, .int (Zi bk))]) (N_all_sub ⟨rfl, rfl, rfl, rfl, rfl, rfl, rfl, trivial⟩) (show ([7, 5, 4, 0, 1, 2, 3] : List Nat).Nodup by decide) ?_
          refine ih (w + 1) _ h (by omega) ?_ ho2 (by omega) (by omega)
          rw [X_fL_dn (q := 119) (lo := 16 * top + (16 - w)) (z := 16 * top + (15 - w)) (by omega) (by omega) (by
            show _ = X_bw _ _ (16 * top + (15 - w) - 16 * top)
            unfold X_bw
            rw [show 16 * top + (15 - w) - 16 * top = 15 - w by omega, ho]
            by_cases c0 : w = 0
            · rw [if_pos c0, if_pos (show 15 - w = 15 by omega)]
            · rw [if_neg c0, if_neg (show ¬ 15 - w = 15 by omega)])] at hs
          rw [show 16 * top + (16 - (w + 1)) = 16 * top + (15 - w) by omega]
          exact hs
/-- what a step leads to -/
def X_mv (bk : Int) (S X : Int → Prop) : Int → Prop := fun i => if bk = 0 then 1 ≤ i ∧ X (i - 1) ∧ S (i - 1) else i < 1023 ∧ X (i + 1) ∧ S i
theorem R_moves (d : Nat) (s : R_S) {top set bk : Int} {S X : Int → Prop} (zt : Zr top) (zs : Zr set) (zb : Zr bk) (t0 : 0 ≤ top) (t1 : top < 260) (s0 : 0 ≤ set) (s1 : set < 90) (hX : R_bs_ s 119 (16 * top) X) (hS : R_bs_ s 120 (16 * set) S) : R_ok (d + 1) 263 [.int (Zi top), .int (Zi set), .int (Zi bk)] s (fun x s2 => x = none ∧ R_lq 119 s s2 ∧ (∀ j, ¬ (16 * top ≤ j ∧ j < 16 * top + 16) → s2.2.2.2 119 j = s.2.2.2 119 j) ∧ R_bs_ s2 119 (16 * top) (X_mv bk S X)) := by
  refine R_enter (M := E_m263) rfl (Nat.le_of_ble_eq_true rfl) (fun h0 h hs => ?_)
  show B_R d _ (0, [(0, .ref 83), (1, .int (Zi top)), (2, .int (Zi set)), (3, .int (Zi bk))], []) _ _ _
  refine Z_go (f2 := (2, [(0, .ref 83), (1, .int (Zi top)), (2, .int (Zi set)), (3, .int (Zi bk))], [.int (Zi 16)])) (fun _ => rfl) ?_
  refine Z_go (f2 := (3, [(0, .ref 83), (1, .int (Zi top)), (2, .int (Zi set)), (3, .int (Zi bk))], [.int (Zi top), .int (Zi 16)])) (fun _ => rfl) ?_
  refine Z_imul rfl ?_
  refine Z_go (f2 := (6, [(4, .int (Zi (16 * top))), (0, .ref 83), (1, .int (Zi top)), (2, .int (Zi set)), (3, .int (Zi bk))], [])) (fun _ => rfl) ?_
  refine Z_go (f2 := (7, [(4, .int (Zi (16 * top))), (0, .ref 83), (1, .int (Zi top)), (2, .int (Zi set)), (3, .int (Zi bk))], [.long (0)])) (fun _ => rfl) ?_
  refine Z_go (f2 := (9, [(5, .long (0)), (4, .int (Zi (16 * top))), (0, .ref 83), (1, .int (Zi top)), (2, .int (Zi set)), (3, .int (Zi bk))], [])) (fun _ => rfl) ?_
  refine Z_go (f2 := (10, [(5, .long (0)), (4, .int (Zi (16 * top))), (0, .ref 83), (1, .int (Zi top)), (2, .int (Zi set)), (3, .int (Zi bk))], [.int (Zi 0)])) (fun _ => rfl) ?_
  refine Z_go (f2 := (12, [(7, .int (Zi 0)), (5, .long (0)), (4, .int (Zi (16 * top))), (0, .ref 83), (1, .int (Zi top)), (2, .int (Zi set)), (3, .int (Zi bk))], [])) (fun _ => rfl) ?_
  refine B_loc (K := [(7, .int (Zi 0)), (5, .long (0)), (4, .int (Zi (16 * top))), (0, .ref 83), (1, .int (Zi top)), (2, .int (Zi set)), (3, .int (Zi bk))]) (N_all_sub ⟨rfl, rfl, rfl, rfl, rfl, rfl, rfl, trivial⟩) (show ([7, 5, 4, 0, 1, 2, 3] : List Nat).Nodup by decide) ?_
  by_cases c : bk = 0
  · refine R_mv_f (s := s) t0 t1 s0 s1 zb c (fun h hs => ⟨_, hs, ⟨rfl, R_lq.fl _ _ _ _ _, fun j hj => R_fL_o (by omega), R_bs_.mk (fun w b w0 w1 hb => ?_)⟩, rfl⟩) 17 0 _ h (by omega) (by rw [Int.add_zero, R_fL_0]; exact hs) (if_pos rfl).symm (by omega) (by omega)
    rw [R_fL_i (by omega) (by omega), show 16 * top + w - 16 * top = w by omega, X_fw_bit hb]
    unfold X_mv
    rw [if_pos c]
    try dsimp only
    rw [T_bit_land, T_bit_land]
    constructor
    · rintro (⟨b1, e1, e2⟩ | ⟨b0, wn, e1, e2⟩)
      · rw [hX.bit w0 w1 (by omega)] at e1
        rw [hS.bit w0 w1 (by omega)] at e2
        rw [show 64 * w + (b : Int) - 1 = 64 * w + ((b - 1 : Nat) : Int) by omega]
        exact ⟨by omega, e1, e2⟩
      · rw [hX.bit (by omega) (by omega) (by omega)] at e1
        rw [hS.bit (by omega) (by omega) (by omega)] at e2
        rw [show 64 * w + (b : Int) - 1 = 64 * (w - 1) + ((63 : Nat) : Int) by omega]
        exact ⟨by omega, e1, e2⟩
    · rintro ⟨i1, e1, e2⟩
      by_cases b1 : 1 ≤ b
      · refine .inl ⟨b1, ?_, ?_⟩
        · rw [hX.bit w0 w1 (by omega), show 64 * w + ((b - 1 : Nat) : Int) = 64 * w + (b : Int) - 1 by omega]; exact e1
        · rw [hS.bit w0 w1 (by omega), show 64 * w + ((b - 1 : Nat) : Int) = 64 * w + (b : Int) - 1 by omega]; exact e2
      · refine .inr ⟨by omega, by omega, ?_, ?_⟩
        · rw [hX.bit (by omega) (by omega) (by omega), show 64 * (w - 1) + ((63 : Nat) : Int) = 64 * w + (b : Int) - 1 by omega]; exact e1
        · rw [hS.bit (by omega) (by omega) (by omega), show 64 * (w - 1) + ((63 : Nat) : Int) = 64 * w + (b : Int) - 1 by omega]; exact e2
  · refine R_mv_b (s := s) t0 t1 s0 s1 zb c (fun h hs => ?_) 17 0 _ h (by omega) (by rw [Int.sub_zero, R_fL_0]; exact hs) (if_pos rfl).symm (by omega) (by omega)
    rw [show 16 * top + (16 - 16 : Int) = 16 * top by omega] at hs
    refine ⟨_, hs, ⟨rfl, R_lq.fl _ _ _ _ _, fun j hj => R_fL_o (by omega), R_bs_.mk (fun w b w0 w1 hb => ?_)⟩, rfl⟩
    rw [R_fL_i (by omega) (by omega), show 16 * top + w - 16 * top = w by omega, X_bw_bit hb]
    unfold X_mv
    rw [if_neg c]
    try dsimp only
    rw [hS.bit w0 w1 hb]
    constructor
    · rintro ⟨⟨b1, e1⟩ | ⟨b0, wn, e1⟩, e2⟩
      · rw [hX.bit w0 w1 (by omega)] at e1
        rw [show 64 * w + (b : Int) + 1 = 64 * w + ((b + 1 : Nat) : Int) by omega]
        exact ⟨by omega, e1, e2⟩
      · rw [hX.bit (by omega) (by omega) (by omega)] at e1
        rw [show 64 * w + (b : Int) + 1 = 64 * (w + 1) + ((0 : Nat) : Int) by omega]
        exact ⟨by omega, e1, e2⟩
    · rintro ⟨i1, e1, e2⟩
      refine ⟨?_, e2⟩
      by_cases b1 : b < 63
      · refine .inl ⟨b1, ?_⟩
        rw [hX.bit w0 w1 (by omega), show 64 * w + ((b + 1 : Nat) : Int) = 64 * w + (b : Int) + 1 by omega]; exact e1
      · refine .inr ⟨by omega, by omega, ?_⟩
        rw [hX.bit (by omega) (by omega) (by omega), show 64 * (w + 1) + ((0 : Nat) : Int) = 64 * w + (b : Int) + 1 by omega]; exact e1
