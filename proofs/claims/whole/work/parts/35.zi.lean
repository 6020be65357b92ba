/-! whole numbers behind ints -/
def Zi (z : Int) : Int32 := Int32.ofInt z
theorem Zi_to {z : Int} (h1 : -2147483648 ≤ z) (h2 : z < 2147483648) : (Zi z).toInt = z := Int32.toInt_ofInt_of_le (by omega) (by omega)
theorem Zi_of (x : Int32) : Zi x.toInt = x := Int32.ofInt_toInt x
theorem Zi_ex (x : Int32) : ∃ z : Int, x = Zi z ∧ -2147483648 ≤ z ∧ z < 2147483648 := ⟨x.toInt, (Zi_of x).symm, by have := Int32.le_toInt x; omega, by have := Int32.toInt_lt x; omega⟩
theorem Zi_add (a b : Int) : Zi a + Zi b = Zi (a + b) := (Int32.ofInt_add a b).symm
theorem Zi_sub (a b : Int) : Zi a - Zi b = Zi (a - b) := (Int32.ofInt_sub a b).symm
theorem Zi_mul (a b : Int) : Zi a * Zi b = Zi (a * b) := (Int32.ofInt_mul a b).symm
theorem Zi_nI (n : Nat) : nI n = Zi n := Int32.ofInt_eq_ofNat.symm
/-- an int's range -/
def Zr (z : Int) : Prop := -2147483648 ≤ z ∧ z < 2147483648
theorem Zi_lt {a b : Int} (ha : Zr a) (hb : Zr b) : (Zi a < Zi b) ↔ a < b := by
  rw [Int32.lt_iff_toInt_lt, Zi_to ha.1 ha.2, Zi_to hb.1 hb.2]
theorem Zi_le {a b : Int} (ha : Zr a) (hb : Zr b) : (Zi a ≤ Zi b) ↔ a ≤ b := by
  rw [Int32.le_iff_toInt_le, Zi_to ha.1 ha.2, Zi_to hb.1 hb.2]
theorem Zi_eq {a b : Int} (ha : Zr a) (hb : Zr b) : (Zi a = Zi b) ↔ a = b := by
  rw [← Int32.toInt_inj, Zi_to ha.1 ha.2, Zi_to hb.1 hb.2]
theorem Zi_clamp {a : Int} (h0 : 0 ≤ a) (h1 : a < 2147483648) : (Zi a).toNatClampNeg = a.toNat := by
  show (Zi a).toInt.toNat = _
  rw [Zi_to (by omega) h1]
theorem Zi_inb {a : Int} {n : Nat} (h0 : 0 ≤ a) (h1 : a < n) (hn : n < 2147483648) : E_inb (Zi a) n = true := by
  unfold E_inb
  refine decide_eq_true ?_
  rw [Zi_clamp h0 (by omega)]
  have h2 : ¬ Zi a < 0 := by
    rw [show (0 : Int32) = Zi 0 from rfl, Zi_lt ⟨by omega, by omega⟩ ⟨by omega, by omega⟩]
    omega
  exact fun h => h.elim h2 (by omega)
theorem Zi_bmod (z : Int) : (Zi z).toInt = z.bmod 4294967296 := Int32.toInt_ofInt
theorem Zi_congr {a b : Int} (h : a % 4294967296 = b % 4294967296) : Zi a = Zi b := by
  rw [← Int32.toInt_inj, Zi_bmod, Zi_bmod]
  unfold Int.bmod
  rw [show ((4294967296 : Nat) : Int) = 4294967296 from rfl, h]
theorem Zi_div {a b : Int} (ha0 : 0 ≤ a) (ha : a < 2147483648) (hb0 : 0 < b) (hb : b < 2147483648) : Zi a / Zi b = Zi (a / b) := by
  have q0 : 0 ≤ a / b := Int.ediv_nonneg ha0 (by omega)
  have q1 : a / b ≤ a := Int.ediv_le_self _ ha0
  rw [← Int32.toInt_inj, Int32.toInt_div, Zi_to (by omega) ha, Zi_to (by omega) hb, Zi_to (by omega) (by omega), Int.tdiv_eq_ediv_of_nonneg ha0]
  exact Int.bmod_eq_of_le (by omega) (by omega)
theorem Zi_mod {a b : Int} (ha0 : 0 ≤ a) (ha : a < 2147483648) (hb0 : 0 < b) (hb : b < 2147483648) : Zi a - Zi a / Zi b * Zi b = Zi (a % b) := by
  rw [Zi_div ha0 ha hb0 hb, Zi_mul, Zi_sub]
  congr 1
  have := Int.mul_ediv_add_emod a b
  rw [Int.mul_comm] at this
  omega
theorem Zi_bv (z : Int) : (Zi z).toBitVec = BitVec.ofInt 32 z := rfl
theorem Zi_bvN (a : Int) : ((Zi a).toBitVec.toNat : Int) = a % 4294967296 := by
  rw [Zi_bv, BitVec.toNat_ofInt]
  exact Int.toNat_of_nonneg (Int.emod_nonneg _ (by decide))
theorem Zi_ofBv {x : Int32} {z : Int} (h : (x.toBitVec.toNat : Int) = z % 4294967296) : x = Zi z := by
  rw [← Int32.toBitVec_inj]
  apply BitVec.eq_of_toNat_eq
  have := Zi_bvN z
  omega
theorem Zi_andm (a : Int) (k : Nat) (hk : k < 32) : Zi a &&& Zi (2 ^ k - 1) = Zi (a % 2 ^ k) := by
  apply Zi_ofBv
  have h1 := Zi_bvN a
  have h2 : ((Zi (2 ^ k - 1)).toBitVec.toNat : Int) = 2 ^ k - 1 := by
    rw [Zi_bvN]
    have h3 : (2 : Int) ^ k ≤ 2 ^ 31 := by
      have : (2 : Nat) ^ k ≤ 2 ^ 31 := Nat.pow_le_pow_right (by decide) (by omega)
      exact_mod_cast this
    have h4 : (0 : Int) < 2 ^ k := Int.pow_pos (by decide)
    exact Int.emod_eq_of_lt (by omega) (by omega)
  have h5 : (Zi (2 ^ k - 1)).toBitVec.toNat = 2 ^ k - 1 := by
    have : 0 < 2 ^ k := Nat.pow_pos (by decide)
    have h6 : ((2 ^ k : Nat) : Int) = 2 ^ k := by norm_cast
    omega
  rw [Int32.toBitVec_and, BitVec.toNat_and, h5, Nat.and_two_pow_sub_one_eq_mod]
  have hd : (2 : Int) ^ k ∣ 4294967296 := by
    refine ⟨2 ^ (32 - k), ?_⟩
    rw [← Int.pow_add, show k + (32 - k) = 32 by omega]
    rfl
  have h0 : (0 : Int) < 2 ^ k := Int.pow_pos (by decide)
  have hle : (2 : Int) ^ k ≤ 4294967296 := Int.le_of_dvd (by decide) hd
  have e1 : ((((Zi a).toBitVec.toNat) % 2 ^ k : Nat) : Int) = ((Zi a).toBitVec.toNat : Int) % 2 ^ k := by
    rw [Int.natCast_emod]
    norm_cast
  rw [e1, h1, Int.emod_emod_of_dvd _ hd, Int.emod_eq_of_lt (a := a % 2 ^ k) (Int.emod_nonneg _ (by omega)) (by have := Int.emod_lt_of_pos a h0; omega)]
theorem Zi_and255 (a : Int) : Zi a &&& Zi 255 = Zi (a % 256) := Zi_andm a 8 (by decide)
theorem Zi_and31 (a : Int) : Zi a &&& Zi 31 = Zi (a % 32) := Zi_andm a 5 (by decide)
theorem Zi_and63 (a : Int) : Zi a &&& Zi 63 = Zi (a % 64) := Zi_andm a 6 (by decide)
theorem Zi_sm : ∀ n : Fin 32, (((Zi ((n.val : Nat) : Int)).toBitVec.smod 32).toNat) = n.val := by decide +kernel
theorem Zi_shl (a : Int) {k : Int} (h0 : 0 ≤ k) (h1 : k < 32) : Zi a <<< (Zi k &&& 31) = Zi (a * 2 ^ k.toNat) := by
  rw [show (31 : Int32) = Zi 31 from rfl, Zi_and31, Int.emod_eq_of_lt h0 h1]
  obtain ⟨n, rfl⟩ := Int.eq_ofNat_of_zero_le h0
  have hn : n < 32 := by omega
  apply Zi_ofBv
  rw [Int32.toBitVec_shiftLeft, BitVec.shiftLeft_eq', Zi_sm ⟨n, hn⟩, BitVec.toNat_shiftLeft, Nat.shiftLeft_eq]
  have h := Zi_bvN a
  show (((Zi a).toBitVec.toNat * 2 ^ n % 4294967296 : Nat) : Int) = _
  rw [Int.natCast_emod, Int.natCast_mul, h]
  show (a % 4294967296) * ((2 ^ n : Nat) : Int) % 4294967296 = _
  rw [Int.natCast_pow, Int.mul_emod, Int.emod_emod_of_dvd a (Int.dvd_refl _), ← Int.mul_emod]
  rfl
theorem Zi_shr {a : Int} (ha : Zr a) {k : Int} (h0 : 0 ≤ k) (h1 : k < 32) : Zi a >>> (Zi k &&& 31) = Zi (a / 2 ^ k.toNat) := by
  rw [show (31 : Int32) = Zi 31 from rfl, Zi_and31, Int.emod_eq_of_lt h0 h1]
  obtain ⟨n, rfl⟩ := Int.eq_ofNat_of_zero_le h0
  have hn : n < 32 := by omega
  have e : (Zi a >>> Zi (n : Int)).toInt = a / 2 ^ n := by
    show (Zi a >>> Zi (n : Int)).toBitVec.toInt = _
    rw [Int32.toBitVec_shiftRight, BitVec.sshiftRight_eq', Zi_sm ⟨n, hn⟩, BitVec.toInt_sshiftRight, Int.shiftRight_eq_div_pow]
    show (Zi a).toInt / _ = _
    rw [Zi_to ha.1 ha.2, Int.natCast_pow]
    rfl
  rw [← Zi_of (Zi a >>> Zi (n : Int)), e]
  rfl
