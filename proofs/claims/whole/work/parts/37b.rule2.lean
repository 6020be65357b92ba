/-! more rules: bits, switches, long fields and arrays -/
def Zor (x y : Int) : Int := (Zi x ||| Zi y).toInt
theorem Zi_or (x y : Int) : Zi x ||| Zi y = Zi (Zor x y) := (Zi_of _).symm
theorem Zor_r (x y : Int) : Zr (Zor x y) := ⟨by have := Int32.le_toInt (Zi x ||| Zi y); unfold Zor; omega, by have := Int32.toInt_lt (Zi x ||| Zi y); unfold Zor; omega⟩
/-- the bit j of z -/
def D_bit (z : Int) (j : Int) : Prop := z / 2 ^ j.toNat % 2 = 1
theorem D_bit_m {z : Int} {j : Nat} (j1 : j < 32) : z % 4294967296 / 2 ^ j % 2 = z / 2 ^ j % 2 := by
  have h0 : (0 : Int) < 2 ^ j := Int.pow_pos (by decide)
  have e : (4294967296 : Int) = 2 ^ j * (2 * 2 ^ (31 - j)) := by
    have : (4294967296 : Int) = 2 ^ (j + (1 + (31 - j))) := by
      rw [show j + (1 + (31 - j)) = 32 by omega]; rfl
    rw [this, Int.pow_add, Int.pow_add]
    rfl
  have d : z = z % 4294967296 + 2 ^ j * (2 * 2 ^ (31 - j) * (z / 4294967296)) := by
    rw [← Int.mul_assoc, ← e]
    have := Int.emod_add_mul_ediv z 4294967296
    omega
  have q : z / 2 ^ j = z % 4294967296 / 2 ^ j + 2 * (2 ^ (31 - j) * (z / 4294967296)) := by
    have := congrArg (fun x : Int => x / (2 : Int) ^ j) d
    have this : z / 2 ^ j = (z % 4294967296 + 2 ^ j * (2 * 2 ^ (31 - j) * (z / 4294967296))) / 2 ^ j := this
    rw [Int.add_mul_ediv_left _ _ (by omega), Int.mul_assoc] at this
    exact this
  rw [q]
  omega
theorem D_bit_bv {z j : Int} (j0 : 0 ≤ j) (j1 : j < 32) : D_bit z j ↔ (Zi z).toBitVec.getLsbD j.toNat = true := by
  rw [← BitVec.testBit_toNat, Nat.testBit_eq_decide_div_mod_eq, decide_eq_true_iff]
  unfold D_bit
  rw [← D_bit_m (by omega), ← Zi_bvN]
  have e : ((2 ^ j.toNat : Nat) : Int) = 2 ^ j.toNat := by norm_cast
  rw [← e]
  generalize 2 ^ j.toNat = m
  generalize (Zi z).toBitVec.toNat = n
  norm_cast
theorem D_bit_or {x y j : Int} (j0 : 0 ≤ j) (j1 : j < 32) : D_bit (Zor x y) j ↔ D_bit x j ∨ D_bit y j := by
  rw [D_bit_bv j0 j1, D_bit_bv j0 j1, D_bit_bv j0 j1, ← Zi_or, Int32.toBitVec_or, BitVec.getLsbD_or, Bool.or_eq_true]
theorem D_bit_pow {k j : Int} (k0 : 0 ≤ k) (k1 : k < 32) (j0 : 0 ≤ j) (j1 : j < 32) : D_bit (2 ^ k.toNat) j ↔ j = k := by
  have H : ∀ a b : Fin 32, ((2 : Int) ^ a.val / 2 ^ b.val % 2 = 1) ↔ b = a := by decide +kernel
  have := H ⟨k.toNat, by omega⟩ ⟨j.toNat, by omega⟩
  unfold D_bit
  rw [this]
  constructor
  · intro e; have := congrArg Fin.val e; have : j.toNat = k.toNat := this; omega
  · intro e; subst e; rfl
theorem Zi_not (x : Int) : Zi (-1 - x) = ~~~ (Zi x) := by
  rw [show -1 - x = -x - 1 by omega]
  apply Int32.toBitVec_inj.mp
  rw [Int32.toBitVec_not, BitVec.not_eq_neg_add]
  rw [← Zi_sub]
  have e : Zi (-x) = - Zi x := Int32.ofInt_neg x
  rw [e]
  rfl
theorem D_bit_not {x j : Int} (j0 : 0 ≤ j) (j1 : j < 32) : D_bit (-1 - x) j ↔ ¬ D_bit x j := by
  rw [D_bit_bv j0 j1, D_bit_bv j0 j1, Zi_not, Int32.toBitVec_not, BitVec.getLsbD_not, decide_eq_true (by omega), Bool.true_and]
  cases (Zi x).toBitVec.getLsbD j.toNat <;> simp
theorem Zi_xorm (x : Int) : Zi x ^^^ Zi (-1) = Zi (-1 - x) := by
  rw [Zi_not]
  apply Int32.toBitVec_inj.mp
  rw [Int32.toBitVec_not, Int32.toBitVec_xor]
  show (Zi x).toBitVec ^^^ BitVec.allOnes 32 = _
  rw [BitVec.xor_allOnes]
theorem Zi_ushr {x y : Int} (y0 : 0 ≤ y) (y1 : y < 32) : ((Zi x).toUInt32 >>> ((Zi y).toUInt32 &&& Int32.toUInt32 31)).toInt32 = Zi (x % 4294967296 / 2 ^ y.toNat) := by
  have hy : ((Zi y).toUInt32 &&& Int32.toUInt32 31).toNat = y.toNat := by
    rw [UInt32.toNat_and]
    have : (Zi y).toUInt32.toNat = y.toNat := by
      have := Zi_bvN y
      have h2 : (Zi y).toUInt32.toNat = (Zi y).toBitVec.toNat := rfl
      omega
    rw [this, show (Int32.toUInt32 31).toNat = 2 ^ 5 - 1 from rfl, Nat.and_two_pow_sub_one_eq_mod]
    exact Nat.mod_eq_of_lt (by omega)
  apply Zi_ofBv
  show (((Zi x).toUInt32 >>> ((Zi y).toUInt32 &&& Int32.toUInt32 31)).toNat : Int) = _
  rw [UInt32.toNat_shiftRight, hy, Nat.mod_eq_of_lt (show y.toNat < 32 by omega), Nat.shiftRight_eq_div_pow]
  have h2 : ((Zi x).toUInt32.toNat : Int) = x % 4294967296 := Zi_bvN x
  have h3 : ((2 ^ y.toNat : Nat) : Int) = 2 ^ y.toNat := by norm_cast
  rw [Int.natCast_ediv, h2, h3]
  have h4 : (0 : Int) ≤ x % 4294967296 := Int.emod_nonneg _ (by decide)
  have h5 : x % 4294967296 < 4294967296 := Int.emod_lt_of_pos _ (by decide)
  have h6 : (0 : Int) < 2 ^ y.toNat := Int.pow_pos (by decide)
  have h7 : x % 4294967296 / 2 ^ y.toNat ≤ x % 4294967296 := Int.ediv_le_self _ h4
  exact (Int.emod_eq_of_lt (Int.ediv_nonneg h4 (by omega)) (by omega)).symm
theorem Zi_and1 (a : Int) : Zi a &&& Zi 1 = Zi (a % 2) := Zi_andm a 1 (by decide)
theorem Zi_i2l (z : Int) (h : Zr z) : (Zi z).toInt64 = Int64.ofInt z := by
  apply Int64.toInt_inj.mp
  rw [Int32.toInt_toInt64, Zi_to h.1 h.2, Int64.toInt_ofInt_of_le (by have := h.1; omega) (by have := h.2; omega)]
theorem Zi_l2i (z : Int) : (Int64.ofInt z).toInt32 = Zi z := by
  apply Int32.toInt_inj.mp
  rw [Int64.toInt_toInt32, Int64.toInt_ofInt, Zi_bmod]
  rw [show Int64.size = 18446744073709551616 from rfl, show (2 ^ 32 : Nat) = 4294967296 from rfl]
  unfold Int.bmod
  simp only [show ((4294967296 : Nat) : Int) = 4294967296 from rfl, show ((18446744073709551616 : Nat) : Int) = 18446744073709551616 from rfl]
  split <;> split <;> split <;> omega
-- RULES
theorem Zl_cmp (x y : Int64) : lg_cmp x y = Zi (if x.toInt < y.toInt then -1 else if x.toInt = y.toInt then 0 else 1) := by
  have h1 : x > y ↔ y.toInt < x.toInt := Int64.lt_iff_toInt_lt
  have h2 : x = y ↔ x.toInt = y.toInt := Int64.toInt_inj.symm
  unfold lg_cmp
  by_cases a : x > y
  · rw [if_pos a, if_neg (by have := h1.mp a; omega), if_neg (by have := h1.mp a; omega)]; rfl
  · by_cases b : x = y
    · rw [if_neg a, if_pos b, if_neg (by rw [b]; omega), if_pos (by rw [b])]; rfl
    · rw [if_neg a, if_neg b, if_pos (by have := (not_congr h1).mp a; have := (not_congr h2).mp b; omega)]; rfl
theorem Zr_not {x : Int} (h : Zr x) : Zr (-1 - x) := ⟨by have := h.2; omega, by have := h.1; omega⟩
theorem narrow_b01 {z : Int} (h : z = 0 ∨ z = 1) : narrow .boolean (.int (Zi z)) = .int (Zi z) := by
  rcases h with rfl | rfl <;> rfl
section ZR2
variable {d : Nat} {M : E_MI} {h : E_H} {sl pc a b : Nat} {L : E_L} {st : List Value} {Φ : E_R → Prop}
theorem Z_ior {x y : Int} (hf : E_find M.2.2.2.2.2.2.2 pc = some (.ior, 1, a, b)) (k : B_R d M (pc + 1, L, .int (Zi (Zor x y)) :: st) h sl Φ) : B_R d M (pc, L, .int (Zi y) :: .int (Zi x) :: st) h sl Φ := by
  refine Z_go (f2 := (pc + 1, L, .int (Zi (Zor x y)) :: st)) (fun o => ?_) k
  unfold E_step
  rw [hf, ← Zi_or]
  rfl
theorem Z_and1 {x : Int} (hf : E_find M.2.2.2.2.2.2.2 pc = some (.iand, 1, a, b)) (k : B_R d M (pc + 1, L, .int (Zi (x % 2)) :: st) h sl Φ) : B_R d M (pc, L, .int (Zi 1) :: .int (Zi x) :: st) h sl Φ := by
  refine Z_go (f2 := (pc + 1, L, .int (Zi (x % 2)) :: st)) (fun o => ?_) k
  unfold E_step
  rw [hf, ← Zi_and1]
  rfl
theorem Z_xorm {x : Int} (hf : E_find M.2.2.2.2.2.2.2 pc = some (.ixor, 1, a, b)) (k : B_R d M (pc + 1, L, .int (Zi (-1 - x)) :: st) h sl Φ) : B_R d M (pc, L, .int (Zi (-1)) :: .int (Zi x) :: st) h sl Φ := by
  refine Z_go (f2 := (pc + 1, L, .int (Zi (-1 - x)) :: st)) (fun o => ?_) k
  unfold E_step
  rw [hf, ← Zi_xorm]
  rfl
theorem Z_iushr {x y p : Int} (hf : E_find M.2.2.2.2.2.2.2 pc = some (.iushr, 1, a, b)) (y0 : 0 ≤ y) (y1 : y < 32) (hp : (2 : Int) ^ y.toNat = p) (k : B_R d M (pc + 1, L, .int (Zi (x % 4294967296 / p)) :: st) h sl Φ) : B_R d M (pc, L, .int (Zi y) :: .int (Zi x) :: st) h sl Φ := by
  subst hp
  refine Z_go (f2 := (pc + 1, L, .int (Zi (x % 4294967296 / 2 ^ y.toNat)) :: st)) (fun o => ?_) k
  unfold E_step
  rw [hf, ← Zi_ushr y0 y1]
  rfl
theorem Z_swk {x v : Int} {f2 : E_F} (c : x = v) (hs : ∀ o : E_orc, E_step o M (pc, L, .int (Zi v) :: st) h sl = some (.inl (f2, h, sl))) (k : B_R d M f2 h sl Φ) : B_R d M (pc, L, .int (Zi x) :: st) h sl Φ := by
  subst c
  exact Z_go hs k
theorem Z_tswd {dflt lo hi x : Int} {offs : Array Int} {n : Nat} (hf : E_find M.2.2.2.2.2.2.2 pc = some (.tableswitch dflt lo hi offs, n, a, b)) (hx : Zr x) (c : x < lo ∨ hi < x) (ht : E_tok pc dflt = true) (k : B_R d M (E_tg pc dflt, L, st) h sl Φ) : B_R d M (pc, L, .int (Zi x) :: st) h sl Φ := by
  refine Z_go (f2 := (E_tg pc dflt, L, st)) (fun o => ?_) k
  have e : (decide ((Zi x).toInt < lo) || decide (hi < (Zi x).toInt)) = true := by
    rw [Zi_to hx.1 hx.2, Bool.or_eq_true, decide_eq_true_iff, decide_eq_true_iff]
    exact c
  unfold E_step
  rw [hf]
  dsimp only
  unfold E_heap E_f1 E_pure E_tsw
  dsimp only
  rw [e, cond_true, if_pos ht]
  rfl
theorem Z_lswo {ps : List (Int × Int)} {dflt x : Int} (c : ∀ p ∈ ps, p.1 ≠ x) : Op.lookupswitch.offset ps dflt x = dflt := by
  induction ps with
  | nil => rfl
  | cons p t ih =>
    obtain ⟨p1, p2⟩ := p
    rw [Op.lookupswitch.offset_cons, if_neg (c (p1, p2) (List.mem_cons_self ..))]
    exact ih (fun q hq => c q (List.mem_cons_of_mem _ hq))
theorem Z_lswd {dflt x : Int} {ps : Array (Int × Int)} {n : Nat} (hf : E_find M.2.2.2.2.2.2.2 pc = some (.lookupswitch dflt ps, n, a, b)) (hx : Zr x) (hp : (ps.toList.zip (ps.toList.drop 1)).all (fun (a, next) => a.1 < next.1) = true) (c : ∀ p ∈ ps.toList, p.1 ≠ x) (ht : E_tok pc dflt = true) (k : B_R d M (E_tg pc dflt, L, st) h sl Φ) : B_R d M (pc, L, .int (Zi x) :: st) h sl Φ := by
  refine Z_go (f2 := (E_tg pc dflt, L, st)) (fun o => ?_) k
  have e : Op.lookupswitch.offset ps.toList dflt (Zi x).toInt = dflt := by
    rw [Zi_to hx.1 hx.2]
    exact Z_lswo c
  unfold E_step
  rw [hf]
  dsimp only
  unfold E_heap E_f1 E_pure E_lsw
  dsimp only
  rw [e, if_pos ⟨hp, ht⟩]
  rfl
theorem Z_lcmp {x y : Int64} (hf : E_find M.2.2.2.2.2.2.2 pc = some (.lcmp, 1, a, b)) (k : B_R d M (pc + 1, L, .int (Zi (if x.toInt < y.toInt then -1 else if x.toInt = y.toInt then 0 else 1)) :: st) h sl Φ) : B_R d M (pc, L, .long y :: .long x :: st) h sl Φ := by
  rw [← Zl_cmp] at k
  refine Z_go (f2 := (pc + 1, L, .int (lg_cmp x y) :: st)) (fun o => ?_) k
  unfold E_step
  rw [hf]
  rfl
theorem Zl_l2i (x : Int64) : x.toInt32 = Zi x.toInt := by
  have := Zi_l2i x.toInt
  rw [Int64.ofInt_toInt] at this
  exact this
theorem Z_l2i {x : Int64} {z : Int} (hf : E_find M.2.2.2.2.2.2.2 pc = some (.l2i, 1, a, b)) (e : x.toInt32 = Zi z) (k : B_R d M (pc + 1, L, .int (Zi z) :: st) h sl Φ) : B_R d M (pc, L, .long x :: st) h sl Φ := by
  refine Z_go (f2 := (pc + 1, L, .int (Zi z) :: st)) (fun o => ?_) k
  unfold E_step
  rw [hf, ← e]
  rfl
/-- s, but in the array q the places lo .. hi - 1 hold g -/
def R_fl (s : R_S) (q : Nat) (lo hi : Int) (g : Int → Int) : R_S := (s.1, fun p j => if p = q ∧ lo ≤ j ∧ j < hi then g j else s.2.1 p j, s.2.2)
def R_fL (s : R_S) (q : Nat) (lo hi : Int) (g : Int → Int64) : R_S := (s.1, s.2.1, s.2.2.1, fun p j => if p = q ∧ lo ≤ j ∧ j < hi then g j else s.2.2.2 p j)
theorem R_fl_0 (s : R_S) (q : Nat) (lo : Int) (g : Int → Int) : R_fl s q lo lo g = s := by
  have e : (fun (p : Nat) (j : Int) => if p = q ∧ lo ≤ j ∧ j < lo then g j else s.2.1 p j) = s.2.1 := by
    funext p j
    rw [if_neg (by omega)]
  unfold R_fl
  rw [e]
theorem R_fL_0 (s : R_S) (q : Nat) (lo : Int) (g : Int → Int64) : R_fL s q lo lo g = s := by
  have e : (fun (p : Nat) (j : Int) => if p = q ∧ lo ≤ j ∧ j < lo then g j else s.2.2.2 p j) = s.2.2.2 := by
    funext p j
    rw [if_neg (by omega)]
  unfold R_fL
  rw [e]
theorem R_fl_st {s : R_S} {q : Nat} {lo hi z v : Int} {g : Int → Int} (h : lo ≤ hi) (hz : z = hi) (hv : v = g hi) : R_sA (R_fl s q lo hi g) q z v = R_fl s q lo (hi + 1) g := by
  subst hz
  subst hv
  unfold R_sA R_fl
  have e : R_up2 (fun (p : Nat) (j : Int) => if p = q ∧ lo ≤ j ∧ j < z then g j else s.2.1 p j) q z (g z) = fun (p : Nat) (j : Int) => if p = q ∧ lo ≤ j ∧ j < z + 1 then g j else s.2.1 p j := by
    funext p j
    unfold R_up2
    by_cases c : p = q ∧ j = z
    · rw [if_pos c, if_pos ⟨c.1, by omega, by omega⟩, c.2]
    · rw [if_neg c]
      dsimp only
      by_cases c2 : p = q ∧ lo ≤ j ∧ j < z
      · rw [if_pos c2, if_pos ⟨c2.1, c2.2.1, by omega⟩]
      · rw [if_neg c2, if_neg (fun e => c2 ⟨e.1, e.2.1, by have := e.2.2; have : ¬ j = z := fun w => c ⟨e.1, w⟩; omega⟩)]
  exact congrArg (fun x => (s.1, x, s.2.2)) e
theorem R_fL_st {s : R_S} {q : Nat} {lo hi z : Int} {v : Int64} {g : Int → Int64} (h : lo ≤ hi) (hz : z = hi) (hv : v = g hi) : R_sM (R_fL s q lo hi g) q z v = R_fL s q lo (hi + 1) g := by
  subst hz
  subst hv
  unfold R_sM R_fL
  have e : R_upL2 (fun (p : Nat) (j : Int) => if p = q ∧ lo ≤ j ∧ j < z then g j else s.2.2.2 p j) q z (g z) = fun (p : Nat) (j : Int) => if p = q ∧ lo ≤ j ∧ j < z + 1 then g j else s.2.2.2 p j := by
    funext p j
    unfold R_upL2
    by_cases c : p = q ∧ j = z
    · rw [if_pos c, if_pos ⟨c.1, by omega, by omega⟩, c.2]
    · rw [if_neg c]
      dsimp only
      by_cases c2 : p = q ∧ lo ≤ j ∧ j < z
      · rw [if_pos c2, if_pos ⟨c2.1, c2.2.1, by omega⟩]
      · rw [if_neg c2, if_neg (fun e => c2 ⟨e.1, e.2.1, by have := e.2.2; have : ¬ j = z := fun w => c ⟨e.1, w⟩; omega⟩)]
  exact congrArg (fun x => (s.1, s.2.1, s.2.2.1, x)) e
theorem R_fl_n {s : R_S} {q p : Nat} {lo hi : Int} {g : Int → Int} (h : p ≠ q) (j : Int) : (R_fl s q lo hi g).2.1 p j = s.2.1 p j := if_neg (fun e => h e.1)
theorem R_fl_i {s : R_S} {q : Nat} {lo hi j : Int} {g : Int → Int} (h0 : lo ≤ j) (h1 : j < hi) : (R_fl s q lo hi g).2.1 q j = g j := if_pos ⟨rfl, h0, h1⟩
theorem R_fl_o {s : R_S} {q : Nat} {lo hi j : Int} {g : Int → Int} (h : ¬ (lo ≤ j ∧ j < hi)) : (R_fl s q lo hi g).2.1 q j = s.2.1 q j := if_neg (fun e => h e.2)
theorem R_fL_n {s : R_S} {q p : Nat} {lo hi : Int} {g : Int → Int64} (h : p ≠ q) (j : Int) : (R_fL s q lo hi g).2.2.2 p j = s.2.2.2 p j := if_neg (fun e => h e.1)
theorem R_fL_i {s : R_S} {q : Nat} {lo hi j : Int} {g : Int → Int64} (h0 : lo ≤ j) (h1 : j < hi) : (R_fL s q lo hi g).2.2.2 q j = g j := if_pos ⟨rfl, h0, h1⟩
theorem R_fL_o {s : R_S} {q : Nat} {lo hi j : Int} {g : Int → Int64} (h : ¬ (lo ≤ j ∧ j < hi)) : (R_fL s q lo hi g).2.2.2 q j = s.2.2.2 q j := if_neg (fun e => h e.2)
theorem R_up2_n' (f : Nat → Int → Int) {b c : Nat} (i z : Int) (j : Int) (h : c ≠ b ∨ j ≠ i) : R_up2 f b i z c j = f c j := by unfold R_up2; rw [if_neg (fun e => h.elim (fun a => a e.1) (fun a => a e.2))]
theorem R_sA_n (s : R_S) {q p : Nat} (z v j : Int) (h : p ≠ q) : (R_sA s q z v).2.1 p j = s.2.1 p j := R_up2_n' _ _ _ _ (.inl h)
theorem R_sA_m (s : R_S) (q p : Nat) {z j : Int} (v : Int) (h : j ≠ z) : (R_sA s q z v).2.1 p j = s.2.1 p j := R_up2_n' _ _ _ _ (.inr h)
theorem R_sA_s (s : R_S) (q : Nat) (z v : Int) : (R_sA s q z v).2.1 q z = v := by show R_up2 s.2.1 q z v q z = v; unfold R_up2; rw [if_pos ⟨rfl, rfl⟩]
variable {h0 : E_H} {s : R_S}
theorem R_is.putL {h0 h : E_H} {s : R_S} (hs : R_is h0 h s) {b : Nat} {z : Int64} (hb : R_ft[b]? = some 1) : R_is h0 (h.set 83 (.inr (12, ((List.range 74).map (R_fv s)).set b (.long z)))) (R_sL s b z) := by
  obtain ⟨w, l1, l2, o, a, x⟩ := hs
  refine ⟨w, by rw [List.length_set]; exact l1, by rw [List.length_set]; exact l2, ?_, fun k hk => ?_, fun y hy => ?_⟩
  · rw [List.getElem?_set, if_pos rfl, if_pos (by omega)]
    have e : ((List.range 74).map (R_fv s)).set b (.long z) = (List.range 74).map (R_fv (R_sL s b z)) := by
      apply List.ext_getElem?
      intro j
      rw [List.getElem?_set]
      simp only [List.getElem?_map, List.length_map, List.length_range]
      by_cases hj : b = j
      · subst hj
        have hl : b < 74 := (List.getElem?_eq_some_iff.mp hb).1
        rw [if_pos rfl, if_pos hl, List.getElem?_range hl]
        show _ = some (R_fv (R_sL s b z) b)
        unfold R_fv
        rw [hb]
        show _ = some (Value.long (R_upL s.2.2.1 b z b))
        rw [show R_upL s.2.2.1 b z b = z by unfold R_upL; rw [if_pos rfl]]
      · rw [if_neg hj]
        by_cases hl : j < 74
        · rw [List.getElem?_range hl]
          show some (R_fv s j) = some (R_fv (R_sL s b z) j)
          unfold R_fv
          rw [show (R_sL s b z).2.2.1 j = s.2.2.1 j by show R_upL s.2.2.1 b z j = _; unfold R_upL; rw [if_neg (fun e => hj e.symm)]]
          rfl
        · rw [List.getElem?_eq_none (by rw [List.length_range]; omega)]
          rfl
    rw [e]
    rfl
  · rw [List.getElem?_set, if_neg (by omega)]
    exact a k hk
  · rw [List.getElem?_set, if_neg (by omega)]
    exact x y hy
theorem R_is.putM {h0 h : E_H} {s : R_S} (hs : R_is h0 h s) {k n : Nat} {j : Nat} {z : Int64} (hk : R_at[k]? = some (3, n)) : R_is h0 (h.set (k + 84) (.inl (3, n, .inr (.inl (vp_updL (fun i => s.2.2.2 (k + 84) (i : Int)) j z))))) (R_sM s (k + 84) j z) := by
  obtain ⟨w, l1, l2, o, a, x⟩ := hs
  have hk48 : k < 48 := (List.getElem?_eq_some_iff.mp hk).1
  refine ⟨w, by rw [List.length_set]; exact l1, by rw [List.length_set]; exact l2, ?_, fun q hq => ?_, fun y hy => ?_⟩
  · rw [List.getElem?_set, if_neg (by omega)]
    exact o
  · by_cases e : q = k
    · subst e
      rw [List.getElem?_set, if_pos rfl, if_pos (by omega)]
      unfold R_a
      rw [hk]
      have e2 : vp_updL (fun i => s.2.2.2 (q + 84) (i : Int)) j z = fun i : Nat => (R_sM s (q + 84) j z).2.2.2 (q + 84) (i : Int) := by
        funext i
        show _ = R_upL2 s.2.2.2 (q + 84) j z (q + 84) i
        unfold R_upL2 vp_updL
        by_cases hi : i = j
        · rw [if_pos hi, if_pos ⟨rfl, by omega⟩]
        · rw [if_neg hi, if_neg (by omega)]
      rw [e2]
      rfl
    · rw [List.getElem?_set, if_neg (by omega), R_a_neM (by omega)]
      exact a q hq
  · rw [List.getElem?_set, if_neg (by omega)]
    exact x y hy
theorem R_pl {i b : Nat} {z : Int64} (hf : E_find M.2.2.2.2.2.2.2 pc = some (.putfield i, 3, 12, b)) (hs : R_is h0 h s) (hb : R_ft[b]? = some 1) (hN : E_fin 12 b = false ∧ narrow (E_cty 12 b) (.long z) = .long z ∧ fits (E_cty 12 b) (.long z) = true) (k : ∀ h : E_H, R_is h0 h (R_sL s b z) → B_R d M (pc + 3, L, st) h sl Φ) : B_R d M (pc, L, .long z :: .ref 83 :: st) h sl Φ := by
  have hl : b < 74 := (List.getElem?_eq_some_iff.mp hb).1
  obtain ⟨m, n, r, e, q⟩ := k _ (hs.putL hb)
  exact ⟨m, n + 1, r, S_putf hf hs.o ⟨hl, by rw [List.length_map, List.length_range]; exact hl, hN.1, hN.2.1, hN.2.2⟩ e, q⟩
theorem R_la {q n p : Nat} {z : Int} (hf : E_find M.2.2.2.2.2.2.2 pc = some (.laload, 1, a, b)) (hs : R_is h0 h s) (hp : q + 84 = p) (hq : R_at[q]? = some (3, n)) (h1 : 0 ≤ z) (h2 : z < n) (hn : n < 2147483648) (k : B_R d M (pc + 1, L, .long (s.2.2.2 p z) :: st) h sl Φ) : B_R d M (pc, L, .int (Zi z) :: .ref p :: st) h sl Φ := by
  subst hp
  obtain ⟨i, rfl⟩ := Int.eq_ofNat_of_zero_le h1
  have ho := hs.aL hq
  have hin : E_inb (Zi (i : Int)) n = true := Zi_inb h1 h2 hn
  have hcl : (Zi (i : Int)).toNatClampNeg = i := Zi_clamp h1 (by omega)
  obtain ⟨m1, n1, r, e, q1⟩ := k
  refine ⟨m1, n1 + 1, r, S_go (f2 := (pc + 1, L, .long (s.2.2.2 (q + 84) i) :: st)) (s2 := sl) ?_ e, q1⟩
  unfold E_step
  rw [hf]
  try dsimp only
  unfold E_heap E_lald
  try dsimp only
  rw [ho]
  try dsimp only
  rw [if_pos ⟨rfl, rfl, hin⟩, hcl]
  rfl
theorem R_ls {q n p : Nat} {z : Int} {v : Int64} (hf : E_find M.2.2.2.2.2.2.2 pc = some (.lastore, 1, a, b)) (hs : R_is h0 h s) (hp : q + 84 = p) (hq : R_at[q]? = some (3, n)) (h1 : 0 ≤ z) (h2 : z < n) (hn : n < 2147483648) (k : ∀ h : E_H, R_is h0 h (R_sM s p z v) → B_R d M (pc + 1, L, st) h sl Φ) : B_R d M (pc, L, .long v :: .int (Zi z) :: .ref p :: st) h sl Φ := by
  subst hp
  obtain ⟨i, rfl⟩ := Int.eq_ofNat_of_zero_le h1
  have ho := hs.aL hq
  have hin : E_inb (Zi (i : Int)) n = true := Zi_inb h1 h2 hn
  have hcl : (Zi (i : Int)).toNatClampNeg = i := Zi_clamp h1 (by omega)
  obtain ⟨m1, n1, r, e, q1⟩ := k _ (hs.putM hq (j := i))
  refine ⟨m1, n1 + 1, r, S_go (f2 := (pc + 1, L, st)) (s2 := sl) ?_ e, q1⟩
  unfold E_step
  rw [hf]
  try dsimp only
  unfold E_heap E_lst
  try dsimp only
  rw [ho]
  try dsimp only
  rw [if_pos ⟨rfl, rfl, hin⟩, hcl]
  rfl
end ZR2
