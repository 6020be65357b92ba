/-! the class: trailing zeros -/
theorem I_lst (P : Nat → Bool) : ∀ n : Nat, ∃ k, k ≤ n ∧ (∀ j, j < k → P j = false) ∧ (k < n → P k = true) := by
  intro n
  induction n with
  | zero => exact ⟨0, Nat.le_refl _, fun j hj => absurd hj (Nat.not_lt_zero _), fun h => absurd h (Nat.not_lt_zero _)⟩
  | succ n ih =>
    obtain ⟨k, k1, k2, k3⟩ := ih
    by_cases c : k < n
    · exact ⟨k, by omega, k2, fun _ => k3 c⟩
    · have e : k = n := by omega
      subst e
      cases hp : P k with
      | true => exact ⟨k, by omega, k2, fun _ => hp⟩
      | false =>
        refine ⟨k + 1, Nat.le_refl _, fun j hj => ?_, fun h => absurd h (Nat.lt_irrefl _)⟩
        by_cases e : j = k
        · rw [e]; exact hp
        · exact k2 j (by omega)
theorem I_bv (x : BitVec 32) : ~~~x &&& (x - 1#32) = ~~~(x ||| -x) := by
  have e : x - 1#32 = ~~~(-x) := by
    apply BitVec.eq_of_toNat_eq
    rw [BitVec.toNat_not, BitVec.toNat_neg, BitVec.toNat_sub]
    have := x.isLt
    show (2 ^ 32 - 1 + x.toNat) % 2 ^ 32 = _
    omega
  rw [e]
  apply BitVec.eq_of_getLsbD_eq
  intro i hi
  simp only [BitVec.getLsbD_and, BitVec.getLsbD_not, BitVec.getLsbD_or, hi, decide_true, Bool.true_and, Bool.not_or]
theorem I_low (x : BitVec 32) {k : Nat} (k1 : k ≤ 32) (k2 : ∀ j, j < k → x.getLsbD j = false) (k3 : k < 32 → x.getLsbD k = true) : ~~~x &&& (x - 1#32) = BitVec.ofNat 32 (2 ^ k - 1) := by
  rw [I_bv]
  apply BitVec.eq_of_getLsbD_eq
  intro i hi
  rw [BitVec.getLsbD_not, BitVec.getLsbD_or, BitVec.getLsbD_neg, BitVec.getLsbD_ofNat, Nat.testBit_two_pow_sub_one]
  simp only [hi, decide_true, Bool.true_and]
  by_cases c : i < k
  · have h1 : ¬ ∃ j, j < i ∧ x.getLsbD j = true := fun ⟨j, j1, j2⟩ => by rw [k2 j (by omega)] at j2; cases j2
    rw [k2 i c]
    simp [h1, c]
  · have k4 := k3 (by omega)
    by_cases e : i = k
    · rw [e, k4]; simp
    · have h1 : ∃ j, j < i ∧ x.getLsbD j = true := ⟨k, by omega, k4⟩
      simp [h1, c]
def I_ntz (x : BitVec 32) (k : Nat) : Prop := k ≤ 32 ∧ (∀ j, j < k → x.getLsbD j = false) ∧ (k < 32 → x.getLsbD k = true)
theorem I_and (z : Int) : ∃ (k : Nat) (r : Int), (Zi (-1 - z) &&& Zi (z - 1)) = Zi r ∧ I_ntz (Zi z).toBitVec k ∧ (k < 32 ∧ r = 2 ^ k - 1 ∨ k = 32 ∧ r = -1) := by
  obtain ⟨k, k1, k2, k3⟩ := I_lst (fun j => (Zi z).toBitVec.getLsbD j) 32
  have h1 : (Zi (-1 - z)).toBitVec = ~~~(Zi z).toBitVec := by
    show BitVec.ofInt 32 (-1 - z) = ~~~(BitVec.ofInt 32 z)
    apply BitVec.eq_of_toNat_eq
    rw [BitVec.toNat_not, BitVec.toNat_ofInt, BitVec.toNat_ofInt]
    omega
  have h2 : (Zi (z - 1)).toBitVec = (Zi z).toBitVec - 1#32 := by
    show BitVec.ofInt 32 (z - 1) = BitVec.ofInt 32 z - 1#32
    apply BitVec.eq_of_toNat_eq
    rw [BitVec.toNat_sub, BitVec.toNat_ofInt, BitVec.toNat_ofInt]
    show _ = (2 ^ 32 - 1 + _) % 2 ^ 32
    omega
  have h3 : (Zi (-1 - z) &&& Zi (z - 1)).toBitVec = BitVec.ofNat 32 (2 ^ k - 1) := by
    show (Zi (-1 - z)).toBitVec &&& (Zi (z - 1)).toBitVec = _
    rw [h1, h2]
    exact I_low _ k1 k2 k3
  have h4 : ∀ r : Int, BitVec.ofInt 32 r = BitVec.ofNat 32 (2 ^ k - 1) → (Zi (-1 - z) &&& Zi (z - 1)) = Zi r := fun r hr => Int32.toBitVec_inj.mp (h3.trans hr.symm)
  by_cases c : k < 32
  · refine ⟨k, 2 ^ k - 1, h4 _ ?_, ⟨k1, k2, k3⟩, .inl ⟨c, rfl⟩⟩
    have hp : (2 : Int) ^ k - 1 = ((2 ^ k - 1 : Nat) : Int) := by
      have := Nat.one_le_two_pow (n := k)
      push_cast [this]
      rfl
    rw [hp, BitVec.ofInt_natCast]
  · have e : k = 32 := by omega
    subst e
    exact ⟨32, -1, h4 _ (by decide), ⟨k1, k2, k3⟩, .inr ⟨rfl, rfl⟩⟩
theorem J_ntz (d : Nat) (z : Int) : Q_ok (d + 1) 286 [.int (Zi z)] (fun x => ∃ k : Nat, x = some (.int (Zi k)) ∧ I_ntz (Zi z).toBitVec k) := by
  refine Q_enter (M := E_m286) rfl (Nat.le_of_ble_eq_true rfl) (fun h => ?_)
  obtain ⟨k, r, e, hk, hr⟩ := I_and z
  have hK : 0 ≤ r ∧ r < 2147483648 ∧ k < 32 ∨ k = 32 ∧ r = -1 := by
    rcases hr with ⟨c, e⟩ | h
    · refine .inl ⟨?_, ?_, c⟩
      · have h1 := Nat.one_le_two_pow (n := k)
        have h2 : ((2 ^ k : Nat) : Int) = 2 ^ k := by push_cast; rfl
        omega
      · have h1 : 2 ^ k ≤ 2 ^ 31 := Nat.pow_le_pow_right (by decide) (by omega)
        have h2 : ((2 ^ k : Nat) : Int) = 2 ^ k := by push_cast; rfl
        omega
    · exact .inr h
  have zr : Zr r := ⟨by omega, by omega⟩
  show B_R d _ (0, [(0, .int (Zi z))], []) _ _ _
  refine Z_go (f2 := (1, [(0, .int (Zi z))], [.int (Zi z)])) (fun _ => rfl) ?_
  refine Z_go (f2 := (2, [(0, .int (Zi z))], [.int (Zi (-1)), .int (Zi z)])) (fun _ => rfl) ?_
  refine Z_xorm rfl ?_
  refine Z_go (f2 := (4, [(0, .int (Zi z))], [.int (Zi z), .int (Zi (-1 - z))])) (fun _ => rfl) ?_
  refine Z_go (f2 := (5, [(0, .int (Zi z))], [.int (Zi 1), .int (Zi z), .int (Zi (-1 - z))])) (fun _ => rfl) ?_
  refine Z_isub rfl ?_
  refine Z_go (f2 := (7, [(0, .int (Zi z))], [.int (Zi (-1 - z) &&& Zi (z - 1))])) (fun _ => rfl) ?_
  rw [e]
  refine Z_go (f2 := (8, [(0, .int (Zi r))], [])) (fun _ => rfl) ?_
  refine Z_go (f2 := (9, [(0, .int (Zi r))], [.int (Zi r)])) (fun _ => rfl) ?_
  refine Z_igt rfl rfl (by first | exact hs.zF _ | exact Zor_r _ _ | exact hs.zA _ _ | assumption | exact zA _ _ | exact zS _ | exact Zr_not (hs.zA _ _) | exact ⟨by omega, by omega⟩) (fun y1 => ?_) (fun y1 => ?_)
  · refine Z_go (f2 := (18, [(0, .int (Zi r))], [.int (Zi 1)])) (fun _ => rfl) ?_
    refine Z_go (f2 := (19, [(1, .int (Zi 1)), (0, .int (Zi r))], [])) (fun _ => rfl) ?_
    refine Z_go (f2 := (20, [(1, .int (Zi 1)), (0, .int (Zi r))], [.int (Zi r)])) (fun _ => rfl) ?_
    refine Z_go (f2 := (23, [(1, .int (Zi 1)), (0, .int (Zi r))], [.int (Zi 65536), .int (Zi r)])) (fun _ => rfl) ?_
    refine Z_cle rfl rfl (by first | exact hs.zF _ | exact Zor_r _ _ | exact hs.zA _ _ | assumption | exact zA _ _ | exact zS _ | exact Zr_not (hs.zA _ _) | exact ⟨by omega, by omega⟩) (by first | exact hs.zF _ | exact Zor_r _ _ | exact hs.zA _ _ | assumption | exact zA _ _ | exact zS _ | exact Zr_not (hs.zA _ _) | exact ⟨by omega, by omega⟩) (fun y2 => ?_) (fun y2 => ?_)
    · refine Z_go (f2 := (35, [(1, .int (Zi 1)), (0, .int (Zi r))], [.int (Zi r)])) (fun _ => rfl) ?_
      refine Z_go (f2 := (38, [(1, .int (Zi 1)), (0, .int (Zi r))], [.int (Zi 256), .int (Zi r)])) (fun _ => rfl) ?_
      refine Z_cle rfl rfl (by first | exact hs.zF _ | exact Zor_r _ _ | exact hs.zA _ _ | assumption | exact zA _ _ | exact zS _ | exact Zr_not (hs.zA _ _) | exact ⟨by omega, by omega⟩) (by first | exact hs.zF _ | exact Zor_r _ _ | exact hs.zA _ _ | assumption | exact zA _ _ | exact zS _ | exact Zr_not (hs.zA _ _) | exact ⟨by omega, by omega⟩) (fun y3 => ?_) (fun y3 => ?_)
      · refine Z_go (f2 := (50, [(1, .int (Zi 1)), (0, .int (Zi r))], [.int (Zi r)])) (fun _ => rfl) ?_
        refine Z_go (f2 := (52, [(1, .int (Zi 1)), (0, .int (Zi r))], [.int (Zi 16), .int (Zi r)])) (fun _ => rfl) ?_
        refine Z_cle rfl rfl (by first | exact hs.zF _ | exact Zor_r _ _ | exact hs.zA _ _ | assumption | exact zA _ _ | exact zS _ | exact Zr_not (hs.zA _ _) | exact ⟨by omega, by omega⟩) (by first | exact hs.zF _ | exact Zor_r _ _ | exact hs.zA _ _ | assumption | exact zA _ _ | exact zS _ | exact Zr_not (hs.zA _ _) | exact ⟨by omega, by omega⟩) (fun y4 => ?_) (fun y4 => ?_)
        · refine Z_go (f2 := (63, [(1, .int (Zi 1)), (0, .int (Zi r))], [.int (Zi r)])) (fun _ => rfl) ?_
          refine Z_go (f2 := (64, [(1, .int (Zi 1)), (0, .int (Zi r))], [.int (Zi 4), .int (Zi r)])) (fun _ => rfl) ?_
          refine Z_cle rfl rfl (by first | exact hs.zF _ | exact Zor_r _ _ | exact hs.zA _ _ | assumption | exact zA _ _ | exact zS _ | exact Zr_not (hs.zA _ _) | exact ⟨by omega, by omega⟩) (by first | exact hs.zF _ | exact Zor_r _ _ | exact hs.zA _ _ | assumption | exact zA _ _ | exact zS _ | exact Zr_not (hs.zA _ _) | exact ⟨by omega, by omega⟩) (fun y5 => ?_) (fun y5 => ?_)
          · refine Z_go (f2 := (75, [(1, .int (Zi 1)), (0, .int (Zi r))], [.int (Zi 1)])) (fun _ => rfl) ?_
            refine Z_go (f2 := (76, [(1, .int (Zi 1)), (0, .int (Zi r))], [.int (Zi r), .int (Zi 1)])) (fun _ => rfl) ?_
            refine Z_go (f2 := (77, [(1, .int (Zi 1)), (0, .int (Zi r))], [.int (Zi 1), .int (Zi r), .int (Zi 1)])) (fun _ => rfl) ?_
            refine Z_iushr rfl (by omega) (by omega) (p := 2) (by rfl) ?_
            refine Z_iadd rfl ?_
            refine Z_iret rfl rfl (by first | rfl | decide | exact narrow_b01 (by omega)) ⟨rfl, rfl, ?_⟩
            refine ⟨k, ?_, hk⟩
            have e9 : (1 + (r % 4294967296 / 2) : Int) = k := by
              rcases hr with ⟨c, er⟩ | ⟨ek, er⟩
              · rcases (by omega : k = 0 ∨ k = 1 ∨ k = 2 ∨ k = 3 ∨ k = 4 ∨ k = 5 ∨ k = 6 ∨ k = 7 ∨ k = 8 ∨ k = 9 ∨ k = 10 ∨ k = 11 ∨ k = 12 ∨ k = 13 ∨ k = 14 ∨ k = 15 ∨ k = 16 ∨ k = 17 ∨ k = 18 ∨ k = 19 ∨ k = 20 ∨ k = 21 ∨ k = 22 ∨ k = 23 ∨ k = 24 ∨ k = 25 ∨ k = 26 ∨ k = 27 ∨ k = 28 ∨ k = 29 ∨ k = 30 ∨ k = 31) with rfl | rfl | rfl | rfl | rfl | rfl | rfl | rfl | rfl | rfl | rfl | rfl | rfl | rfl | rfl | rfl | rfl | rfl | rfl | rfl | rfl | rfl | rfl | rfl | rfl | rfl | rfl | rfl | rfl | rfl | rfl | rfl <;> (simp only [Int.reducePow, Int.reduceSub] at er; subst er; first | (exfalso; omega) | omega | decide)
              · subst er; subst ek; first | (exfalso; omega) | omega | decide
            rw [e9]
          · refine Z_iinc (L2 := [(1, .int (Zi (1 + 2))), (0, .int (Zi r))]) rfl rfl (by decide) rfl ?_
            refine Z_go (f2 := (71, [(1, .int (Zi (1 + 2))), (0, .int (Zi r))], [.int (Zi r)])) (fun _ => rfl) ?_
            refine Z_go (f2 := (72, [(1, .int (Zi (1 + 2))), (0, .int (Zi r))], [.int (Zi 2), .int (Zi r)])) (fun _ => rfl) ?_
            refine Z_iushr rfl (by omega) (by omega) (p := 4) (by rfl) ?_
            refine Z_go (f2 := (74, [(0, .int (Zi (r % 4294967296 / 4))), (1, .int (Zi (1 + 2)))], [])) (fun _ => rfl) ?_
            refine Z_go (f2 := (75, [(0, .int (Zi (r % 4294967296 / 4))), (1, .int (Zi (1 + 2)))], [.int (Zi (1 + 2))])) (fun _ => rfl) ?_
            refine Z_go (f2 := (76, [(0, .int (Zi (r % 4294967296 / 4))), (1, .int (Zi (1 + 2)))], [.int (Zi (r % 4294967296 / 4)), .int (Zi (1 + 2))])) (fun _ => rfl) ?_
            refine Z_go (f2 := (77, [(0, .int (Zi (r % 4294967296 / 4))), (1, .int (Zi (1 + 2)))], [.int (Zi 1), .int (Zi (r % 4294967296 / 4)), .int (Zi (1 + 2))])) (fun _ => rfl) ?_
            refine Z_iushr rfl (by omega) (by omega) (p := 2) (by rfl) ?_
            refine Z_iadd rfl ?_
            refine Z_iret rfl rfl (by first | rfl | decide | exact narrow_b01 (by omega)) ⟨rfl, rfl, ?_⟩
            refine ⟨k, ?_, hk⟩
            have e9 : (1 + 2 + ((r % 4294967296 / 4) % 4294967296 / 2) : Int) = k := by
              rcases hr with ⟨c, er⟩ | ⟨ek, er⟩
              · rcases (by omega : k = 0 ∨ k = 1 ∨ k = 2 ∨ k = 3 ∨ k = 4 ∨ k = 5 ∨ k = 6 ∨ k = 7 ∨ k = 8 ∨ k = 9 ∨ k = 10 ∨ k = 11 ∨ k = 12 ∨ k = 13 ∨ k = 14 ∨ k = 15 ∨ k = 16 ∨ k = 17 ∨ k = 18 ∨ k = 19 ∨ k = 20 ∨ k = 21 ∨ k = 22 ∨ k = 23 ∨ k = 24 ∨ k = 25 ∨ k = 26 ∨ k = 27 ∨ k = 28 ∨ k = 29 ∨ k = 30 ∨ k = 31) with rfl | rfl | rfl | rfl | rfl | rfl | rfl | rfl | rfl | rfl | rfl | rfl | rfl | rfl | rfl | rfl | rfl | rfl | rfl | rfl | rfl | rfl | rfl | rfl | rfl | rfl | rfl | rfl | rfl | rfl | rfl | rfl <;> (simp only [Int.reducePow, Int.reduceSub] at er; subst er; first | (exfalso; omega) | omega | decide)
              · subst er; subst ek; first | (exfalso; omega) | omega | decide
            rw [e9]
        · refine Z_iinc (L2 := [(1, .int (Zi (1 + 4))), (0, .int (Zi r))]) rfl rfl (by decide) rfl ?_
          refine Z_go (f2 := (59, [(1, .int (Zi (1 + 4))), (0, .int (Zi r))], [.int (Zi r)])) (fun _ => rfl) ?_
          refine Z_go (f2 := (60, [(1, .int (Zi (1 + 4))), (0, .int (Zi r))], [.int (Zi 4), .int (Zi r)])) (fun _ => rfl) ?_
          refine Z_iushr rfl (by omega) (by omega) (p := 16) (by rfl) ?_
          refine Z_go (f2 := (62, [(0, .int (Zi (r % 4294967296 / 16))), (1, .int (Zi (1 + 4)))], [])) (fun _ => rfl) ?_
          refine Z_go (f2 := (63, [(0, .int (Zi (r % 4294967296 / 16))), (1, .int (Zi (1 + 4)))], [.int (Zi (r % 4294967296 / 16))])) (fun _ => rfl) ?_
          refine Z_go (f2 := (64, [(0, .int (Zi (r % 4294967296 / 16))), (1, .int (Zi (1 + 4)))], [.int (Zi 4), .int (Zi (r % 4294967296 / 16))])) (fun _ => rfl) ?_
          refine Z_cle rfl rfl (by first | exact hs.zF _ | exact Zor_r _ _ | exact hs.zA _ _ | assumption | exact zA _ _ | exact zS _ | exact Zr_not (hs.zA _ _) | exact ⟨by omega, by omega⟩) (by first | exact hs.zF _ | exact Zor_r _ _ | exact hs.zA _ _ | assumption | exact zA _ _ | exact zS _ | exact Zr_not (hs.zA _ _) | exact ⟨by omega, by omega⟩) (fun y6 => ?_) (fun y6 => ?_)
          · refine Z_go (f2 := (75, [(0, .int (Zi (r % 4294967296 / 16))), (1, .int (Zi (1 + 4)))], [.int (Zi (1 + 4))])) (fun _ => rfl) ?_
            refine Z_go (f2 := (76, [(0, .int (Zi (r % 4294967296 / 16))), (1, .int (Zi (1 + 4)))], [.int (Zi (r % 4294967296 / 16)), .int (Zi (1 + 4))])) (fun _ => rfl) ?_
            refine Z_go (f2 := (77, [(0, .int (Zi (r % 4294967296 / 16))), (1, .int (Zi (1 + 4)))], [.int (Zi 1), .int (Zi (r % 4294967296 / 16)), .int (Zi (1 + 4))])) (fun _ => rfl) ?_
            refine Z_iushr rfl (by omega) (by omega) (p := 2) (by rfl) ?_
            refine Z_iadd rfl ?_
            refine Z_iret rfl rfl (by first | rfl | decide | exact narrow_b01 (by omega)) ⟨rfl, rfl, ?_⟩
            refine ⟨k, ?_, hk⟩
            have e9 : (1 + 4 + ((r % 4294967296 / 16) % 4294967296 / 2) : Int) = k := by
              rcases hr with ⟨c, er⟩ | ⟨ek, er⟩
              · rcases (by omega : k = 0 ∨ k = 1 ∨ k = 2 ∨ k = 3 ∨ k = 4 ∨ k = 5 ∨ k = 6 ∨ k = 7 ∨ k = 8 ∨ k = 9 ∨ k = 10 ∨ k = 11 ∨ k = 12 ∨ k = 13 ∨ k = 14 ∨ k = 15 ∨ k = 16 ∨ k = 17 ∨ k = 18 ∨ k = 19 ∨ k = 20 ∨ k = 21 ∨ k = 22 ∨ k = 23 ∨ k = 24 ∨ k = 25 ∨ k = 26 ∨ k = 27 ∨ k = 28 ∨ k = 29 ∨ k = 30 ∨ k = 31) with rfl | rfl | rfl | rfl | rfl | rfl | rfl | rfl | rfl | rfl | rfl | rfl | rfl | rfl | rfl | rfl | rfl | rfl | rfl | rfl | rfl | rfl | rfl | rfl | rfl | rfl | rfl | rfl | rfl | rfl | rfl | rfl <;> (simp only [Int.reducePow, Int.reduceSub] at er; subst er; first | (exfalso; omega) | omega | decide)
              · subst er; subst ek; first | (exfalso; omega) | omega | decide
            rw [e9]
          · refine Z_iinc (L2 := [(1, .int (Zi (1 + 4 + 2))), (0, .int (Zi (r % 4294967296 / 16)))]) rfl rfl (by decide) rfl ?_
            refine Z_go (f2 := (71, [(1, .int (Zi (1 + 4 + 2))), (0, .int (Zi (r % 4294967296 / 16)))], [.int (Zi (r % 4294967296 / 16))])) (fun _ => rfl) ?_
            refine Z_go (f2 := (72, [(1, .int (Zi (1 + 4 + 2))), (0, .int (Zi (r % 4294967296 / 16)))], [.int (Zi 2), .int (Zi (r % 4294967296 / 16))])) (fun _ => rfl) ?_
            refine Z_iushr rfl (by omega) (by omega) (p := 4) (by rfl) ?_
            refine Z_go (f2 := (74, [(0, .int (Zi ((r % 4294967296 / 16) % 4294967296 / 4))), (1, .int (Zi (1 + 4 + 2)))], [])) (fun _ => rfl) ?_
            refine Z_go (f2 := (75, [(0, .int (Zi ((r % 4294967296 / 16) % 4294967296 / 4))), (1, .int (Zi (1 + 4 + 2)))], [.int (Zi (1 + 4 + 2))])) (fun _ => rfl) ?_
            refine Z_go (f2 := (76, [(0, .int (Zi ((r % 4294967296 / 16) % 4294967296 / 4))), (1, .int (Zi (1 + 4 + 2)))], [.int (Zi ((r % 4294967296 / 16) % 4294967296 / 4)), .int (Zi (1 + 4 + 2))])) (fun _ => rfl) ?_
            refine Z_go (f2 := (77, [(0, .int (Zi ((r % 4294967296 / 16) % 4294967296 / 4))), (1, .int (Zi (1 + 4 + 2)))], [.int (Zi 1), .int (Zi ((r % 4294967296 / 16) % 4294967296 / 4)), .int (Zi (1 + 4 + 2))])) (fun _ => rfl) ?_
            refine Z_iushr rfl (by omega) (by omega) (p := 2) (by rfl) ?_
            refine Z_iadd rfl ?_
            refine Z_iret rfl rfl (by first | rfl | decide | exact narrow_b01 (by omega)) ⟨rfl, rfl, ?_⟩
            refine ⟨k, ?_, hk⟩
            have e9 : (1 + 4 + 2 + (((r % 4294967296 / 16) % 4294967296 / 4) % 4294967296 / 2) : Int) = k := by
              rcases hr with ⟨c, er⟩ | ⟨ek, er⟩
              · rcases (by omega : k = 0 ∨ k = 1 ∨ k = 2 ∨ k = 3 ∨ k = 4 ∨ k = 5 ∨ k = 6 ∨ k = 7 ∨ k = 8 ∨ k = 9 ∨ k = 10 ∨ k = 11 ∨ k = 12 ∨ k = 13 ∨ k = 14 ∨ k = 15 ∨ k = 16 ∨ k = 17 ∨ k = 18 ∨ k = 19 ∨ k = 20 ∨ k = 21 ∨ k = 22 ∨ k = 23 ∨ k = 24 ∨ k = 25 ∨ k = 26 ∨ k = 27 ∨ k = 28 ∨ k = 29 ∨ k = 30 ∨ k = 31) with rfl | rfl | rfl | rfl | rfl | rfl | rfl | rfl | rfl | rfl | rfl | rfl | rfl | rfl | rfl | rfl | rfl | rfl | rfl | rfl | rfl | rfl | rfl | rfl | rfl | rfl | rfl | rfl | rfl | rfl | rfl | rfl <;> (simp only [Int.reducePow, Int.reduceSub] at er; subst er; first | (exfalso; omega) | omega | decide)
              · subst er; subst ek; first | (exfalso; omega) | omega | decide
            rw [e9]
      · refine Z_iinc (L2 := [(1, .int (Zi (1 + 8))), (0, .int (Zi r))]) rfl rfl (by decide) rfl ?_
        refine Z_go (f2 := (45, [(1, .int (Zi (1 + 8))), (0, .int (Zi r))], [.int (Zi r)])) (fun _ => rfl) ?_
        refine Z_go (f2 := (47, [(1, .int (Zi (1 + 8))), (0, .int (Zi r))], [.int (Zi 8), .int (Zi r)])) (fun _ => rfl) ?_
        refine Z_iushr rfl (by omega) (by omega) (p := 256) (by rfl) ?_
        refine Z_go (f2 := (49, [(0, .int (Zi (r % 4294967296 / 256))), (1, .int (Zi (1 + 8)))], [])) (fun _ => rfl) ?_
        refine Z_go (f2 := (50, [(0, .int (Zi (r % 4294967296 / 256))), (1, .int (Zi (1 + 8)))], [.int (Zi (r % 4294967296 / 256))])) (fun _ => rfl) ?_
        refine Z_go (f2 := (52, [(0, .int (Zi (r % 4294967296 / 256))), (1, .int (Zi (1 + 8)))], [.int (Zi 16), .int (Zi (r % 4294967296 / 256))])) (fun _ => rfl) ?_
        refine Z_cle rfl rfl (by first | exact hs.zF _ | exact Zor_r _ _ | exact hs.zA _ _ | assumption | exact zA _ _ | exact zS _ | exact Zr_not (hs.zA _ _) | exact ⟨by omega, by omega⟩) (by first | exact hs.zF _ | exact Zor_r _ _ | exact hs.zA _ _ | assumption | exact zA _ _ | exact zS _ | exact Zr_not (hs.zA _ _) | exact ⟨by omega, by omega⟩) (fun y7 => ?_) (fun y7 => ?_)
        · refine Z_go (f2 := (63, [(0, .int (Zi (r % 4294967296 / 256))), (1, .int (Zi (1 + 8)))], [.int (Zi (r % 4294967296 / 256))])) (fun _ => rfl) ?_
          refine Z_go (f2 := (64, [(0, .int (Zi (r % 4294967296 / 256))), (1, .int (Zi (1 + 8)))], [.int (Zi 4), .int (Zi (r % 4294967296 / 256))])) (fun _ => rfl) ?_
          refine Z_cle rfl rfl (by first | exact hs.zF _ | exact Zor_r _ _ | exact hs.zA _ _ | assumption | exact zA _ _ | exact zS _ | exact Zr_not (hs.zA _ _) | exact ⟨by omega, by omega⟩) (by first | exact hs.zF _ | exact Zor_r _ _ | exact hs.zA _ _ | assumption | exact zA _ _ | exact zS _ | exact Zr_not (hs.zA _ _) | exact ⟨by omega, by omega⟩) (fun y8 => ?_) (fun y8 => ?_)
          · refine Z_go (f2 := (75, [(0, .int (Zi (r % 4294967296 / 256))), (1, .int (Zi (1 + 8)))], [.int (Zi (1 + 8))])) (fun _ => rfl) ?_
            refine Z_go (f2 := (76, [(0, .int (Zi (r % 4294967296 / 256))), (1, .int (Zi (1 + 8)))], [.int (Zi (r % 4294967296 / 256)), .int (Zi (1 + 8))])) (fun _ => rfl) ?_
            refine Z_go (f2 := (77, [(0, .int (Zi (r % 4294967296 / 256))), (1, .int (Zi (1 + 8)))], [.int (Zi 1), .int (Zi (r % 4294967296 / 256)), .int (Zi (1 + 8))])) (fun _ => rfl) ?_
            refine Z_iushr rfl (by omega) (by omega) (p := 2) (by rfl) ?_
            refine Z_iadd rfl ?_
            refine Z_iret rfl rfl (by first | rfl | decide | exact narrow_b01 (by omega)) ⟨rfl, rfl, ?_⟩
            refine ⟨k, ?_, hk⟩
            have e9 : (1 + 8 + ((r % 4294967296 / 256) % 4294967296 / 2) : Int) = k := by
              rcases hr with ⟨c, er⟩ | ⟨ek, er⟩
              · rcases (by omega : k = 0 ∨ k = 1 ∨ k = 2 ∨ k = 3 ∨ k = 4 ∨ k = 5 ∨ k = 6 ∨ k = 7 ∨ k = 8 ∨ k = 9 ∨ k = 10 ∨ k = 11 ∨ k = 12 ∨ k = 13 ∨ k = 14 ∨ k = 15 ∨ k = 16 ∨ k = 17 ∨ k = 18 ∨ k = 19 ∨ k = 20 ∨ k = 21 ∨ k = 22 ∨ k = 23 ∨ k = 24 ∨ k = 25 ∨ k = 26 ∨ k = 27 ∨ k = 28 ∨ k = 29 ∨ k = 30 ∨ k = 31) with rfl | rfl | rfl | rfl | rfl | rfl | rfl | rfl | rfl | rfl | rfl | rfl | rfl | rfl | rfl | rfl | rfl | rfl | rfl | rfl | rfl | rfl | rfl | rfl | rfl | rfl | rfl | rfl | rfl | rfl | rfl | rfl <;> (simp only [Int.reducePow, Int.reduceSub] at er; subst er; first | (exfalso; omega) | omega | decide)
              · subst er; subst ek; first | (exfalso; omega) | omega | decide
            rw [e9]
          · refine Z_iinc (L2 := [(1, .int (Zi (1 + 8 + 2))), (0, .int (Zi (r % 4294967296 / 256)))]) rfl rfl (by decide) rfl ?_
            refine Z_go (f2 := (71, [(1, .int (Zi (1 + 8 + 2))), (0, .int (Zi (r % 4294967296 / 256)))], [.int (Zi (r % 4294967296 / 256))])) (fun _ => rfl) ?_
            refine Z_go (f2 := (72, [(1, .int (Zi (1 + 8 + 2))), (0, .int (Zi (r % 4294967296 / 256)))], [.int (Zi 2), .int (Zi (r % 4294967296 / 256))])) (fun _ => rfl) ?_
            refine Z_iushr rfl (by omega) (by omega) (p := 4) (by rfl) ?_
            refine Z_go (f2 := (74, [(0, .int (Zi ((r % 4294967296 / 256) % 4294967296 / 4))), (1, .int (Zi (1 + 8 + 2)))], [])) (fun _ => rfl) ?_
            refine Z_go (f2 := (75, [(0, .int (Zi ((r % 4294967296 / 256) % 4294967296 / 4))), (1, .int (Zi (1 + 8 + 2)))], [.int (Zi (1 + 8 + 2))])) (fun _ => rfl) ?_
            refine Z_go (f2 := (76, [(0, .int (Zi ((r % 4294967296 / 256) % 4294967296 / 4))), (1, .int (Zi (1 + 8 + 2)))], [.int (Zi ((r % 4294967296 / 256) % 4294967296 / 4)), .int (Zi (1 + 8 + 2))])) (fun _ => rfl) ?_
            refine Z_go (f2 := (77, [(0, .int (Zi ((r % 4294967296 / 256) % 4294967296 / 4))), (1, .int (Zi (1 + 8 + 2)))], [.int (Zi 1), .int (Zi ((r % 4294967296 / 256) % 4294967296 / 4)), .int (Zi (1 + 8 + 2))])) (fun _ => rfl) ?_
            refine Z_iushr rfl (by omega) (by omega) (p := 2) (by rfl) ?_
            refine Z_iadd rfl ?_
            refine Z_iret rfl rfl (by first | rfl | decide | exact narrow_b01 (by omega)) ⟨rfl, rfl, ?_⟩
            refine ⟨k, ?_, hk⟩
            have e9 : (1 + 8 + 2 + (((r % 4294967296 / 256) % 4294967296 / 4) % 4294967296 / 2) : Int) = k := by
              rcases hr with ⟨c, er⟩ | ⟨ek, er⟩
              · rcases (by omega : k = 0 ∨ k = 1 ∨ k = 2 ∨ k = 3 ∨ k = 4 ∨ k = 5 ∨ k = 6 ∨ k = 7 ∨ k = 8 ∨ k = 9 ∨ k = 10 ∨ k = 11 ∨ k = 12 ∨ k = 13 ∨ k = 14 ∨ k = 15 ∨ k = 16 ∨ k = 17 ∨ k = 18 ∨ k = 19 ∨ k = 20 ∨ k = 21 ∨ k = 22 ∨ k = 23 ∨ k = 24 ∨ k = 25 ∨ k = 26 ∨ k = 27 ∨ k = 28 ∨ k = 29 ∨ k = 30 ∨ k = 31) with rfl | rfl | rfl | rfl | rfl | rfl | rfl | rfl | rfl | rfl | rfl | rfl | rfl | rfl | rfl | rfl | rfl | rfl | rfl | rfl | rfl | rfl | rfl | rfl | rfl | rfl | rfl | rfl | rfl | rfl | rfl | rfl <;> (simp only [Int.reducePow, Int.reduceSub] at er; subst er; first | (exfalso; omega) | omega | decide)
              · subst er; subst ek; first | (exfalso; omega) | omega | decide
            rw [e9]
        · refine Z_iinc (L2 := [(1, .int (Zi (1 + 8 + 4))), (0, .int (Zi (r % 4294967296 / 256)))]) rfl rfl (by decide) rfl ?_
          refine Z_go (f2 := (59, [(1, .int (Zi (1 + 8 + 4))), (0, .int (Zi (r % 4294967296 / 256)))], [.int (Zi (r % 4294967296 / 256))])) (fun _ => rfl) ?_
          refine Z_go (f2 := (60, [(1, .int (Zi (1 + 8 + 4))), (0, .int (Zi (r % 4294967296 / 256)))], [.int (Zi 4), .int (Zi (r % 4294967296 / 256))])) (fun _ => rfl) ?_
          refine Z_iushr rfl (by omega) (by omega) (p := 16) (by rfl) ?_
          refine Z_go (f2 := (62, [(0, .int (Zi ((r % 4294967296 / 256) % 4294967296 / 16))), (1, .int (Zi (1 + 8 + 4)))], [])) (fun _ => rfl) ?_
          refine Z_go (f2 := (63, [(0, .int (Zi ((r % 4294967296 / 256) % 4294967296 / 16))), (1, .int (Zi (1 + 8 + 4)))], [.int (Zi ((r % 4294967296 / 256) % 4294967296 / 16))])) (fun _ => rfl) ?_
          refine Z_go (f2 := (64, [(0, .int (Zi ((r % 4294967296 / 256) % 4294967296 / 16))), (1, .int (Zi (1 + 8 + 4)))], [.int (Zi 4), .int (Zi ((r % 4294967296 / 256) % 4294967296 / 16))])) (fun _ => rfl) ?_
          refine Z_cle rfl rfl (by first | exact hs.zF _ | exact Zor_r _ _ | exact hs.zA _ _ | assumption | exact zA _ _ | exact zS _ | exact Zr_not (hs.zA _ _) | exact ⟨by omega, by omega⟩) (by first | exact hs.zF _ | exact Zor_r _ _ | exact hs.zA _ _ | assumption | exact zA _ _ | exact zS _ | exact Zr_not (hs.zA _ _) | exact ⟨by omega, by omega⟩) (fun y9 => ?_) (fun y9 => ?_)
          · refine Z_go (f2 := (75, [(0, .int (Zi ((r % 4294967296 / 256) % 4294967296 / 16))), (1, .int (Zi (1 + 8 + 4)))], [.int (Zi (1 + 8 + 4))])) (fun _ => rfl) ?_
            refine Z_go (f2 := (76, [(0, .int (Zi ((r % 4294967296 / 256) % 4294967296 / 16))), (1, .int (Zi (1 + 8 + 4)))], [.int (Zi ((r % 4294967296 / 256) % 4294967296 / 16)), .int (Zi (1 + 8 + 4))])) (fun _ => rfl) ?_
            refine Z_go (f2 := (77, [(0, .int (Zi ((r % 4294967296 / 256) % 4294967296 / 16))), (1, .int (Zi (1 + 8 + 4)))], [.int (Zi 1), .int (Zi ((r % 4294967296 / 256) % 4294967296 / 16)), .int (Zi (1 + 8 + 4))])) (fun _ => rfl) ?_
            refine Z_iushr rfl (by omega) (by omega) (p := 2) (by rfl) ?_
            refine Z_iadd rfl ?_
            refine Z_iret rfl rfl (by first | rfl | decide | exact narrow_b01 (by omega)) ⟨rfl, rfl, ?_⟩
            refine ⟨k, ?_, hk⟩
            have e9 : (1 + 8 + 4 + (((r % 4294967296 / 256) % 4294967296 / 16) % 4294967296 / 2) : Int) = k := by
              rcases hr with ⟨c, er⟩ | ⟨ek, er⟩
              · rcases (by omega : k = 0 ∨ k = 1 ∨ k = 2 ∨ k = 3 ∨ k = 4 ∨ k = 5 ∨ k = 6 ∨ k = 7 ∨ k = 8 ∨ k = 9 ∨ k = 10 ∨ k = 11 ∨ k = 12 ∨ k = 13 ∨ k = 14 ∨ k = 15 ∨ k = 16 ∨ k = 17 ∨ k = 18 ∨ k = 19 ∨ k = 20 ∨ k = 21 ∨ k = 22 ∨ k = 23 ∨ k = 24 ∨ k = 25 ∨ k = 26 ∨ k = 27 ∨ k = 28 ∨ k = 29 ∨ k = 30 ∨ k = 31) with rfl | rfl | rfl | rfl | rfl | rfl | rfl | rfl | rfl | rfl | rfl | rfl | rfl | rfl | rfl | rfl | rfl | rfl | rfl | rfl | rfl | rfl | rfl | rfl | rfl | rfl | rfl | rfl | rfl | rfl | rfl | rfl <;> (simp only [Int.reducePow, Int.reduceSub] at er; subst er; first | (exfalso; omega) | omega | decide)
              · subst er; subst ek; first | (exfalso; omega) | omega | decide
            rw [e9]
          · refine Z_iinc (L2 := [(1, .int (Zi (1 + 8 + 4 + 2))), (0, .int (Zi ((r % 4294967296 / 256) % 4294967296 / 16)))]) rfl rfl (by decide) rfl ?_
            refine Z_go (f2 := (71, [(1, .int (Zi (1 + 8 + 4 + 2))), (0, .int (Zi ((r % 4294967296 / 256) % 4294967296 / 16)))], [.int (Zi ((r % 4294967296 / 256) % 4294967296 / 16))])) (fun _ => rfl) ?_
            refine Z_go (f2 := (72, [(1, .int (Zi (1 + 8 + 4 + 2))), (0, .int (Zi ((r % 4294967296 / 256) % 4294967296 / 16)))], [.int (Zi 2), .int (Zi ((r % 4294967296 / 256) % 4294967296 / 16))])) (fun _ => rfl) ?_
            refine Z_iushr rfl (by omega) (by omega) (p := 4) (by rfl) ?_
            refine Z_go (f2 := (74, [(0, .int (Zi (((r % 4294967296 / 256) % 4294967296 / 16) % 4294967296 / 4))), (1, .int (Zi (1 + 8 + 4 + 2)))], [])) (fun _ => rfl) ?_
            refine Z_go (f2 := (75, [(0, .int (Zi (((r % 4294967296 / 256) % 4294967296 / 16) % 4294967296 / 4))), (1, .int (Zi (1 + 8 + 4 + 2)))], [.int (Zi (1 + 8 + 4 + 2))])) (fun _ => rfl) ?_
            refine Z_go (f2 := (76, [(0, .int (Zi (((r % 4294967296 / 256) % 4294967296 / 16) % 4294967296 / 4))), (1, .int (Zi (1 + 8 + 4 + 2)))], [.int (Zi (((r % 4294967296 / 256) % 4294967296 / 16) % 4294967296 / 4)), .int (Zi (1 + 8 + 4 + 2))])) (fun _ => rfl) ?_
            refine Z_go (f2 := (77, [(0, .int (Zi (((r % 4294967296 / 256) % 4294967296 / 16) % 4294967296 / 4))), (1, .int (Zi (1 + 8 + 4 + 2)))], [.int (Zi 1), .int (Zi (((r % 4294967296 / 256) % 4294967296 / 16) % 4294967296 / 4)), .int (Zi (1 + 8 + 4 + 2))])) (fun _ => rfl) ?_
            refine Z_iushr rfl (by omega) (by omega) (p := 2) (by rfl) ?_
            refine Z_iadd rfl ?_
            refine Z_iret rfl rfl (by first | rfl | decide | exact narrow_b01 (by omega)) ⟨rfl, rfl, ?_⟩
            refine ⟨k, ?_, hk⟩
            have e9 : (1 + 8 + 4 + 2 + ((((r % 4294967296 / 256) % 4294967296 / 16) % 4294967296 / 4) % 4294967296 / 2) : Int) = k := by
              rcases hr with ⟨c, er⟩ | ⟨ek, er⟩
              · rcases (by omega : k = 0 ∨ k = 1 ∨ k = 2 ∨ k = 3 ∨ k = 4 ∨ k = 5 ∨ k = 6 ∨ k = 7 ∨ k = 8 ∨ k = 9 ∨ k = 10 ∨ k = 11 ∨ k = 12 ∨ k = 13 ∨ k = 14 ∨ k = 15 ∨ k = 16 ∨ k = 17 ∨ k = 18 ∨ k = 19 ∨ k = 20 ∨ k = 21 ∨ k = 22 ∨ k = 23 ∨ k = 24 ∨ k = 25 ∨ k = 26 ∨ k = 27 ∨ k = 28 ∨ k = 29 ∨ k = 30 ∨ k = 31) with rfl | rfl | rfl | rfl | rfl | rfl | rfl | rfl | rfl | rfl | rfl | rfl | rfl | rfl | rfl | rfl | rfl | rfl | rfl | rfl | rfl | rfl | rfl | rfl | rfl | rfl | rfl | rfl | rfl | rfl | rfl | rfl <;> (simp only [Int.reducePow, Int.reduceSub] at er; subst er; first | (exfalso; omega) | omega | decide)
              · subst er; subst ek; first | (exfalso; omega) | omega | decide
            rw [e9]
    · refine Z_iinc (L2 := [(1, .int (Zi (1 + 16))), (0, .int (Zi r))]) rfl rfl (by decide) rfl ?_
      refine Z_go (f2 := (30, [(1, .int (Zi (1 + 16))), (0, .int (Zi r))], [.int (Zi r)])) (fun _ => rfl) ?_
      refine Z_go (f2 := (32, [(1, .int (Zi (1 + 16))), (0, .int (Zi r))], [.int (Zi 16), .int (Zi r)])) (fun _ => rfl) ?_
      refine Z_iushr rfl (by omega) (by omega) (p := 65536) (by rfl) ?_
      refine Z_go (f2 := (34, [(0, .int (Zi (r % 4294967296 / 65536))), (1, .int (Zi (1 + 16)))], [])) (fun _ => rfl) ?_
      refine Z_go (f2 := (35, [(0, .int (Zi (r % 4294967296 / 65536))), (1, .int (Zi (1 + 16)))], [.int (Zi (r % 4294967296 / 65536))])) (fun _ => rfl) ?_
      refine Z_go (f2 := (38, [(0, .int (Zi (r % 4294967296 / 65536))), (1, .int (Zi (1 + 16)))], [.int (Zi 256), .int (Zi (r % 4294967296 / 65536))])) (fun _ => rfl) ?_
      refine Z_cle rfl rfl (by first | exact hs.zF _ | exact Zor_r _ _ | exact hs.zA _ _ | assumption | exact zA _ _ | exact zS _ | exact Zr_not (hs.zA _ _) | exact ⟨by omega, by omega⟩) (by first | exact hs.zF _ | exact Zor_r _ _ | exact hs.zA _ _ | assumption | exact zA _ _ | exact zS _ | exact Zr_not (hs.zA _ _) | exact ⟨by omega, by omega⟩) (fun y10 => ?_) (fun y10 => ?_)
      · refine Z_go (f2 := (50, [(0, .int (Zi (r % 4294967296 / 65536))), (1, .int (Zi (1 + 16)))], [.int (Zi (r % 4294967296 / 65536))])) (fun _ => rfl) ?_
        refine Z_go (f2 := (52, [(0, .int (Zi (r % 4294967296 / 65536))), (1, .int (Zi (1 + 16)))], [.int (Zi 16), .int (Zi (r % 4294967296 / 65536))])) (fun _ => rfl) ?_
        refine Z_cle rfl rfl (by first | exact hs.zF _ | exact Zor_r _ _ | exact hs.zA _ _ | assumption | exact zA _ _ | exact zS _ | exact Zr_not (hs.zA _ _) | exact ⟨by omega, by omega⟩) (by first | exact hs.zF _ | exact Zor_r _ _ | exact hs.zA _ _ | assumption | exact zA _ _ | exact zS _ | exact Zr_not (hs.zA _ _) | exact ⟨by omega, by omega⟩) (fun y11 => ?_) (fun y11 => ?_)
        · refine Z_go (f2 := (63, [(0, .int (Zi (r % 4294967296 / 65536))), (1, .int (Zi (1 + 16)))], [.int (Zi (r % 4294967296 / 65536))])) (fun _ => rfl) ?_
          refine Z_go (f2 := (64, [(0, .int (Zi (r % 4294967296 / 65536))), (1, .int (Zi (1 + 16)))], [.int (Zi 4), .int (Zi (r % 4294967296 / 65536))])) (fun _ => rfl) ?_
          refine Z_cle rfl rfl (by first | exact hs.zF _ | exact Zor_r _ _ | exact hs.zA _ _ | assumption | exact zA _ _ | exact zS _ | exact Zr_not (hs.zA _ _) | exact ⟨by omega, by omega⟩) (by first | exact hs.zF _ | exact Zor_r _ _ | exact hs.zA _ _ | assumption | exact zA _ _ | exact zS _ | exact Zr_not (hs.zA _ _) | exact ⟨by omega, by omega⟩) (fun y12 => ?_) (fun y12 => ?_)
          · refine Z_go (f2 := (75, [(0, .int (Zi (r % 4294967296 / 65536))), (1, .int (Zi (1 + 16)))], [.int (Zi (1 + 16))])) (fun _ => rfl) ?_
            refine Z_go (f2 := (76, [(0, .int (Zi (r % 4294967296 / 65536))), (1, .int (Zi (1 + 16)))], [.int (Zi (r % 4294967296 / 65536)), .int (Zi (1 + 16))])) (fun _ => rfl) ?_
            refine Z_go (f2 := (77, [(0, .int (Zi (r % 4294967296 / 65536))), (1, .int (Zi (1 + 16)))], [.int (Zi 1), .int (Zi (r % 4294967296 / 65536)), .int (Zi (1 + 16))])) (fun _ => rfl) ?_
            refine Z_iushr rfl (by omega) (by omega) (p := 2) (by rfl) ?_
            refine Z_iadd rfl ?_
            refine Z_iret rfl rfl (by first | rfl | decide | exact narrow_b01 (by omega)) ⟨rfl, rfl, ?_⟩
            refine ⟨k, ?_, hk⟩
            have e9 : (1 + 16 + ((r % 4294967296 / 65536) % 4294967296 / 2) : Int) = k := by
              rcases hr with ⟨c, er⟩ | ⟨ek, er⟩
              · rcases (by omega : k = 0 ∨ k = 1 ∨ k = 2 ∨ k = 3 ∨ k = 4 ∨ k = 5 ∨ k = 6 ∨ k = 7 ∨ k = 8 ∨ k = 9 ∨ k = 10 ∨ k = 11 ∨ k = 12 ∨ k = 13 ∨ k = 14 ∨ k = 15 ∨ k = 16 ∨ k = 17 ∨ k = 18 ∨ k = 19 ∨ k = 20 ∨ k = 21 ∨ k = 22 ∨ k = 23 ∨ k = 24 ∨ k = 25 ∨ k = 26 ∨ k = 27 ∨ k = 28 ∨ k = 29 ∨ k = 30 ∨ k = 31) with rfl | rfl | rfl | rfl | rfl | rfl | rfl | rfl | rfl | rfl | rfl | rfl | rfl | rfl | rfl | rfl | rfl | rfl | rfl | rfl | rfl | rfl | rfl | rfl | rfl | rfl | rfl | rfl | rfl | rfl | rfl | rfl <;> (simp only [Int.reducePow, Int.reduceSub] at er; subst er; first | (exfalso; omega) | omega | decide)
              · subst er; subst ek; first | (exfalso; omega) | omega | decide
            rw [e9]
          · refine Z_iinc (L2 := [(1, .int (Zi (1 + 16 + 2))), (0, .int (Zi (r % 4294967296 / 65536)))]) rfl rfl (by decide) rfl ?_
            refine Z_go (f2 := (71, [(1, .int (Zi (1 + 16 + 2))), (0, .int (Zi (r % 4294967296 / 65536)))], [.int (Zi (r % 4294967296 / 65536))])) (fun _ => rfl) ?_
            refine Z_go (f2 := (72, [(1, .int (Zi (1 + 16 + 2))), (0, .int (Zi (r % 4294967296 / 65536)))], [.int (Zi 2), .int (Zi (r % 4294967296 / 65536))])) (fun _ => rfl) ?_
            refine Z_iushr rfl (by omega) (by omega) (p := 4) (by rfl) ?_
            refine Z_go (f2 := (74, [(0, .int (Zi ((r % 4294967296 / 65536) % 4294967296 / 4))), (1, .int (Zi (1 + 16 + 2)))], [])) (fun _ => rfl) ?_
            refine Z_go (f2 := (75, [(0, .int (Zi ((r % 4294967296 / 65536) % 4294967296 / 4))), (1, .int (Zi (1 + 16 + 2)))], [.int (Zi (1 + 16 + 2))])) (fun _ => rfl) ?_
            refine Z_go (f2 := (76, [(0, .int (Zi ((r % 4294967296 / 65536) % 4294967296 / 4))), (1, .int (Zi (1 + 16 + 2)))], [.int (Zi ((r % 4294967296 / 65536) % 4294967296 / 4)), .int (Zi (1 + 16 + 2))])) (fun _ => rfl) ?_
            refine Z_go (f2 := (77, [(0, .int (Zi ((r % 4294967296 / 65536) % 4294967296 / 4))), (1, .int (Zi (1 + 16 + 2)))], [.int (Zi 1), .int (Zi ((r % 4294967296 / 65536) % 4294967296 / 4)), .int (Zi (1 + 16 + 2))])) (fun _ => rfl) ?_
            refine Z_iushr rfl (by omega) (by omega) (p := 2) (by rfl) ?_
            refine Z_iadd rfl ?_
            refine Z_iret rfl rfl (by first | rfl | decide | exact narrow_b01 (by omega)) ⟨rfl, rfl, ?_⟩
            refine ⟨k, ?_, hk⟩
            have e9 : (1 + 16 + 2 + (((r % 4294967296 / 65536) % 4294967296 / 4) % 4294967296 / 2) : Int) = k := by
              rcases hr with ⟨c, er⟩ | ⟨ek, er⟩
              · rcases (by omega : k = 0 ∨ k = 1 ∨ k = 2 ∨ k = 3 ∨ k = 4 ∨ k = 5 ∨ k = 6 ∨ k = 7 ∨ k = 8 ∨ k = 9 ∨ k = 10 ∨ k = 11 ∨ k = 12 ∨ k = 13 ∨ k = 14 ∨ k = 15 ∨ k = 16 ∨ k = 17 ∨ k = 18 ∨ k = 19 ∨ k = 20 ∨ k = 21 ∨ k = 22 ∨ k = 23 ∨ k = 24 ∨ k = 25 ∨ k = 26 ∨ k = 27 ∨ k = 28 ∨ k = 29 ∨ k = 30 ∨ k = 31) with rfl | rfl | rfl | rfl | rfl | rfl | rfl | rfl | rfl | rfl | rfl | rfl | rfl | rfl | rfl | rfl | rfl | rfl | rfl | rfl | rfl | rfl | rfl | rfl | rfl | rfl | rfl | rfl | rfl | rfl | rfl | rfl <;> (simp only [Int.reducePow, Int.reduceSub] at er; subst er; first | (exfalso; omega) | omega | decide)
              · subst er; subst ek; first | (exfalso; omega) | omega | decide
            rw [e9]
        · refine Z_iinc (L2 := [(1, .int (Zi (1 + 16 + 4))), (0, .int (Zi (r % 4294967296 / 65536)))]) rfl rfl (by decide) rfl ?_
          refine Z_go (f2 := (59, [(1, .int (Zi (1 + 16 + 4))), (0, .int (Zi (r % 4294967296 / 65536)))], [.int (Zi (r % 4294967296 / 65536))])) (fun _ => rfl) ?_
          refine Z_go (f2 := (60, [(1, .int (Zi (1 + 16 + 4))), (0, .int (Zi (r % 4294967296 / 65536)))], [.int (Zi 4), .int (Zi (r % 4294967296 / 65536))])) (fun _ => rfl) ?_
          refine Z_iushr rfl (by omega) (by omega) (p := 16) (by rfl) ?_
          refine Z_go (f2 := (62, [(0, .int (Zi ((r % 4294967296 / 65536) % 4294967296 / 16))), (1, .int (Zi (1 + 16 + 4)))], [])) (fun _ => rfl) ?_
          refine Z_go (f2 := (63, [(0, .int (Zi ((r % 4294967296 / 65536) % 4294967296 / 16))), (1, .int (Zi (1 + 16 + 4)))], [.int (Zi ((r % 4294967296 / 65536) % 4294967296 / 16))])) (fun _ => rfl) ?_
          refine Z_go (f2 := (64, [(0, .int (Zi ((r % 4294967296 / 65536) % 4294967296 / 16))), (1, .int (Zi (1 + 16 + 4)))], [.int (Zi 4), .int (Zi ((r % 4294967296 / 65536) % 4294967296 / 16))])) (fun _ => rfl) ?_
          refine Z_cle rfl rfl (by first | exact hs.zF _ | exact Zor_r _ _ | exact hs.zA _ _ | assumption | exact zA _ _ | exact zS _ | exact Zr_not (hs.zA _ _) | exact ⟨by omega, by omega⟩) (by first | exact hs.zF _ | exact Zor_r _ _ | exact hs.zA _ _ | assumption | exact zA _ _ | exact zS _ | exact Zr_not (hs.zA _ _) | exact ⟨by omega, by omega⟩) (fun y13 => ?_) (fun y13 => ?_)
          · refine Z_go (f2 := (75, [(0, .int (Zi ((r % 4294967296 / 65536) % 4294967296 / 16))), (1, .int (Zi (1 + 16 + 4)))], [.int (Zi (1 + 16 + 4))])) (fun _ => rfl) ?_
            refine Z_go (f2 := (76, [(0, .int (Zi ((r % 4294967296 / 65536) % 4294967296 / 16))), (1, .int (Zi (1 + 16 + 4)))], [.int (Zi ((r % 4294967296 / 65536) % 4294967296 / 16)), .int (Zi (1 + 16 + 4))])) (fun _ => rfl) ?_
            refine Z_go (f2 := (77, [(0, .int (Zi ((r % 4294967296 / 65536) % 4294967296 / 16))), (1, .int (Zi (1 + 16 + 4)))], [.int (Zi 1), .int (Zi ((r % 4294967296 / 65536) % 4294967296 / 16)), .int (Zi (1 + 16 + 4))])) (fun _ => rfl) ?_
            refine Z_iushr rfl (by omega) (by omega) (p := 2) (by rfl) ?_
            refine Z_iadd rfl ?_
            refine Z_iret rfl rfl (by first | rfl | decide | exact narrow_b01 (by omega)) ⟨rfl, rfl, ?_⟩
            refine ⟨k, ?_, hk⟩
            have e9 : (1 + 16 + 4 + (((r % 4294967296 / 65536) % 4294967296 / 16) % 4294967296 / 2) : Int) = k := by
              rcases hr with ⟨c, er⟩ | ⟨ek, er⟩
              · rcases (by omega : k = 0 ∨ k = 1 ∨ k = 2 ∨ k = 3 ∨ k = 4 ∨ k = 5 ∨ k = 6 ∨ k = 7 ∨ k = 8 ∨ k = 9 ∨ k = 10 ∨ k = 11 ∨ k = 12 ∨ k = 13 ∨ k = 14 ∨ k = 15 ∨ k = 16 ∨ k = 17 ∨ k = 18 ∨ k = 19 ∨ k = 20 ∨ k = 21 ∨ k = 22 ∨ k = 23 ∨ k = 24 ∨ k = 25 ∨ k = 26 ∨ k = 27 ∨ k = 28 ∨ k = 29 ∨ k = 30 ∨ k = 31) with rfl | rfl | rfl | rfl | rfl | rfl | rfl | rfl | rfl | rfl | rfl | rfl | rfl | rfl | rfl | rfl | rfl | rfl | rfl | rfl | rfl | rfl | rfl | rfl | rfl | rfl | rfl | rfl | rfl | rfl | rfl | rfl <;> (simp only [Int.reducePow, Int.reduceSub] at er; subst er; first | (exfalso; omega) | omega | decide)
              · subst er; subst ek; first | (exfalso; omega) | omega | decide
            rw [e9]
          · refine Z_iinc (L2 := [(1, .int (Zi (1 + 16 + 4 + 2))), (0, .int (Zi ((r % 4294967296 / 65536) % 4294967296 / 16)))]) rfl rfl (by decide) rfl ?_
            refine Z_go (f2 := (71, [(1, .int (Zi (1 + 16 + 4 + 2))), (0, .int (Zi ((r % 4294967296 / 65536) % 4294967296 / 16)))], [.int (Zi ((r % 4294967296 / 65536) % 4294967296 / 16))])) (fun _ => rfl) ?_
            refine Z_go (f2 := (72, [(1, .int (Zi (1 + 16 + 4 + 2))), (0, .int (Zi ((r % 4294967296 / 65536) % 4294967296 / 16)))], [.int (Zi 2), .int (Zi ((r % 4294967296 / 65536) % 4294967296 / 16))])) (fun _ => rfl) ?_
            refine Z_iushr rfl (by omega) (by omega) (p := 4) (by rfl) ?_
            refine Z_go (f2 := (74, [(0, .int (Zi (((r % 4294967296 / 65536) % 4294967296 / 16) % 4294967296 / 4))), (1, .int (Zi (1 + 16 + 4 + 2)))], [])) (fun _ => rfl) ?_
            refine Z_go (f2 := (75, [(0, .int (Zi (((r % 4294967296 / 65536) % 4294967296 / 16) % 4294967296 / 4))), (1, .int (Zi (1 + 16 + 4 + 2)))], [.int (Zi (1 + 16 + 4 + 2))])) (fun _ => rfl) ?_
            refine Z_go (f2 := (76, [(0, .int (Zi (((r % 4294967296 / 65536) % 4294967296 / 16) % 4294967296 / 4))), (1, .int (Zi (1 + 16 + 4 + 2)))], [.int (Zi (((r % 4294967296 / 65536) % 4294967296 / 16) % 4294967296 / 4)), .int (Zi (1 + 16 + 4 + 2))])) (fun _ => rfl) ?_
            refine Z_go (f2 := (77, [(0, .int (Zi (((r % 4294967296 / 65536) % 4294967296 / 16) % 4294967296 / 4))), (1, .int (Zi (1 + 16 + 4 + 2)))], [.int (Zi 1), .int (Zi (((r % 4294967296 / 65536) % 4294967296 / 16) % 4294967296 / 4)), .int (Zi (1 + 16 + 4 + 2))])) (fun _ => rfl) ?_
            refine Z_iushr rfl (by omega) (by omega) (p := 2) (by rfl) ?_
            refine Z_iadd rfl ?_
            refine Z_iret rfl rfl (by first | rfl | decide | exact narrow_b01 (by omega)) ⟨rfl, rfl, ?_⟩
            refine ⟨k, ?_, hk⟩
            have e9 : (1 + 16 + 4 + 2 + ((((r % 4294967296 / 65536) % 4294967296 / 16) % 4294967296 / 4) % 4294967296 / 2) : Int) = k := by
              rcases hr with ⟨c, er⟩ | ⟨ek, er⟩
              · rcases (by omega : k = 0 ∨ k = 1 ∨ k = 2 ∨ k = 3 ∨ k = 4 ∨ k = 5 ∨ k = 6 ∨ k = 7 ∨ k = 8 ∨ k = 9 ∨ k = 10 ∨ k = 11 ∨ k = 12 ∨ k = 13 ∨ k = 14 ∨ k = 15 ∨ k = 16 ∨ k = 17 ∨ k = 18 ∨ k = 19 ∨ k = 20 ∨ k = 21 ∨ k = 22 ∨ k = 23 ∨ k = 24 ∨ k = 25 ∨ k = 26 ∨ k = 27 ∨ k = 28 ∨ k = 29 ∨ k = 30 ∨ k = 31) with rfl | rfl | rfl | rfl | rfl | rfl | rfl | rfl | rfl | rfl | rfl | rfl | rfl | rfl | rfl | rfl | rfl | rfl | rfl | rfl | rfl | rfl | rfl | rfl | rfl | rfl | rfl | rfl | rfl | rfl | rfl | rfl <;> (simp only [Int.reducePow, Int.reduceSub] at er; subst er; first | (exfalso; omega) | omega | decide)
              · subst er; subst ek; first | (exfalso; omega) | omega | decide
            rw [e9]
      · refine Z_iinc (L2 := [(1, .int (Zi (1 + 16 + 8))), (0, .int (Zi (r % 4294967296 / 65536)))]) rfl rfl (by decide) rfl ?_
        refine Z_go (f2 := (45, [(1, .int (Zi (1 + 16 + 8))), (0, .int (Zi (r % 4294967296 / 65536)))], [.int (Zi (r % 4294967296 / 65536))])) (fun _ => rfl) ?_
        refine Z_go (f2 := (47, [(1, .int (Zi (1 + 16 + 8))), (0, .int (Zi (r % 4294967296 / 65536)))], [.int (Zi 8), .int (Zi (r % 4294967296 / 65536))])) (fun _ => rfl) ?_
        refine Z_iushr rfl (by omega) (by omega) (p := 256) (by rfl) ?_
        refine Z_go (f2 := (49, [(0, .int (Zi ((r % 4294967296 / 65536) % 4294967296 / 256))), (1, .int (Zi (1 + 16 + 8)))], [])) (fun _ => rfl) ?_
        refine Z_go (f2 := (50, [(0, .int (Zi ((r % 4294967296 / 65536) % 4294967296 / 256))), (1, .int (Zi (1 + 16 + 8)))], [.int (Zi ((r % 4294967296 / 65536) % 4294967296 / 256))])) (fun _ => rfl) ?_
        refine Z_go (f2 := (52, [(0, .int (Zi ((r % 4294967296 / 65536) % 4294967296 / 256))), (1, .int (Zi (1 + 16 + 8)))], [.int (Zi 16), .int (Zi ((r % 4294967296 / 65536) % 4294967296 / 256))])) (fun _ => rfl) ?_
        refine Z_cle rfl rfl (by first | exact hs.zF _ | exact Zor_r _ _ | exact hs.zA _ _ | assumption | exact zA _ _ | exact zS _ | exact Zr_not (hs.zA _ _) | exact ⟨by omega, by omega⟩) (by first | exact hs.zF _ | exact Zor_r _ _ | exact hs.zA _ _ | assumption | exact zA _ _ | exact zS _ | exact Zr_not (hs.zA _ _) | exact ⟨by omega, by omega⟩) (fun y14 => ?_) (fun y14 => ?_)
        · refine Z_go (f2 := (63, [(0, .int (Zi ((r % 4294967296 / 65536) % 4294967296 / 256))), (1, .int (Zi (1 + 16 + 8)))], [.int (Zi ((r % 4294967296 / 65536) % 4294967296 / 256))])) (fun _ => rfl) ?_
          refine Z_go (f2 := (64, [(0, .int (Zi ((r % 4294967296 / 65536) % 4294967296 / 256))), (1, .int (Zi (1 + 16 + 8)))], [.int (Zi 4), .int (Zi ((r % 4294967296 / 65536) % 4294967296 / 256))])) (fun _ => rfl) ?_
          refine Z_cle rfl rfl (by first | exact hs.zF _ | exact Zor_r _ _ | exact hs.zA _ _ | assumption | exact zA _ _ | exact zS _ | exact Zr_not (hs.zA _ _) | exact ⟨by omega, by omega⟩) (by first | exact hs.zF _ | exact Zor_r _ _ | exact hs.zA _ _ | assumption | exact zA _ _ | exact zS _ | exact Zr_not (hs.zA _ _) | exact ⟨by omega, by omega⟩) (fun y15 => ?_) (fun y15 => ?_)
          · refine Z_go (f2 := (75, [(0, .int (Zi ((r % 4294967296 / 65536) % 4294967296 / 256))), (1, .int (Zi (1 + 16 + 8)))], [.int (Zi (1 + 16 + 8))])) (fun _ => rfl) ?_
            refine Z_go (f2 := (76, [(0, .int (Zi ((r % 4294967296 / 65536) % 4294967296 / 256))), (1, .int (Zi (1 + 16 + 8)))], [.int (Zi ((r % 4294967296 / 65536) % 4294967296 / 256)), .int (Zi (1 + 16 + 8))])) (fun _ => rfl) ?_
            refine Z_go (f2 := (77, [(0, .int (Zi ((r % 4294967296 / 65536) % 4294967296 / 256))), (1, .int (Zi (1 + 16 + 8)))], [.int (Zi 1), .int (Zi ((r % 4294967296 / 65536) % 4294967296 / 256)), .int (Zi (1 + 16 + 8))])) (fun _ => rfl) ?_
            refine Z_iushr rfl (by omega) (by omega) (p := 2) (by rfl) ?_
            refine Z_iadd rfl ?_
            refine Z_iret rfl rfl (by first | rfl | decide | exact narrow_b01 (by omega)) ⟨rfl, rfl, ?_⟩
            refine ⟨k, ?_, hk⟩
            have e9 : (1 + 16 + 8 + (((r % 4294967296 / 65536) % 4294967296 / 256) % 4294967296 / 2) : Int) = k := by
              rcases hr with ⟨c, er⟩ | ⟨ek, er⟩
              · rcases (by omega : k = 0 ∨ k = 1 ∨ k = 2 ∨ k = 3 ∨ k = 4 ∨ k = 5 ∨ k = 6 ∨ k = 7 ∨ k = 8 ∨ k = 9 ∨ k = 10 ∨ k = 11 ∨ k = 12 ∨ k = 13 ∨ k = 14 ∨ k = 15 ∨ k = 16 ∨ k = 17 ∨ k = 18 ∨ k = 19 ∨ k = 20 ∨ k = 21 ∨ k = 22 ∨ k = 23 ∨ k = 24 ∨ k = 25 ∨ k = 26 ∨ k = 27 ∨ k = 28 ∨ k = 29 ∨ k = 30 ∨ k = 31) with rfl | rfl | rfl | rfl | rfl | rfl | rfl | rfl | rfl | rfl | rfl | rfl | rfl | rfl | rfl | rfl | rfl | rfl | rfl | rfl | rfl | rfl | rfl | rfl | rfl | rfl | rfl | rfl | rfl | rfl | rfl | rfl <;> (simp only [Int.reducePow, Int.reduceSub] at er; subst er; first | (exfalso; omega) | omega | decide)
              · subst er; subst ek; first | (exfalso; omega) | omega | decide
            rw [e9]
          · refine Z_iinc (L2 := [(1, .int (Zi (1 + 16 + 8 + 2))), (0, .int (Zi ((r % 4294967296 / 65536) % 4294967296 / 256)))]) rfl rfl (by decide) rfl ?_
            refine Z_go (f2 := (71, [(1, .int (Zi (1 + 16 + 8 + 2))), (0, .int (Zi ((r % 4294967296 / 65536) % 4294967296 / 256)))], [.int (Zi ((r % 4294967296 / 65536) % 4294967296 / 256))])) (fun _ => rfl) ?_
            refine Z_go (f2 := (72, [(1, .int (Zi (1 + 16 + 8 + 2))), (0, .int (Zi ((r % 4294967296 / 65536) % 4294967296 / 256)))], [.int (Zi 2), .int (Zi ((r % 4294967296 / 65536) % 4294967296 / 256))])) (fun _ => rfl) ?_
            refine Z_iushr rfl (by omega) (by omega) (p := 4) (by rfl) ?_
            refine Z_go (f2 := (74, [(0, .int (Zi (((r % 4294967296 / 65536) % 4294967296 / 256) % 4294967296 / 4))), (1, .int (Zi (1 + 16 + 8 + 2)))], [])) (fun _ => rfl) ?_
            refine Z_go (f2 := (75, [(0, .int (Zi (((r % 4294967296 / 65536) % 4294967296 / 256) % 4294967296 / 4))), (1, .int (Zi (1 + 16 + 8 + 2)))], [.int (Zi (1 + 16 + 8 + 2))])) (fun _ => rfl) ?_
            refine Z_go (f2 := (76, [(0, .int (Zi (((r % 4294967296 / 65536) % 4294967296 / 256) % 4294967296 / 4))), (1, .int (Zi (1 + 16 + 8 + 2)))], [.int (Zi (((r % 4294967296 / 65536) % 4294967296 / 256) % 4294967296 / 4)), .int (Zi (1 + 16 + 8 + 2))])) (fun _ => rfl) ?_
            refine Z_go (f2 := (77, [(0, .int (Zi (((r % 4294967296 / 65536) % 4294967296 / 256) % 4294967296 / 4))), (1, .int (Zi (1 + 16 + 8 + 2)))], [.int (Zi 1), .int (Zi (((r % 4294967296 / 65536) % 4294967296 / 256) % 4294967296 / 4)), .int (Zi (1 + 16 + 8 + 2))])) (fun _ => rfl) ?_
            refine Z_iushr rfl (by omega) (by omega) (p := 2) (by rfl) ?_
            refine Z_iadd rfl ?_
            refine Z_iret rfl rfl (by first | rfl | decide | exact narrow_b01 (by omega)) ⟨rfl, rfl, ?_⟩
            refine ⟨k, ?_, hk⟩
            have e9 : (1 + 16 + 8 + 2 + ((((r % 4294967296 / 65536) % 4294967296 / 256) % 4294967296 / 4) % 4294967296 / 2) : Int) = k := by
              rcases hr with ⟨c, er⟩ | ⟨ek, er⟩
              · rcases (by omega : k = 0 ∨ k = 1 ∨ k = 2 ∨ k = 3 ∨ k = 4 ∨ k = 5 ∨ k = 6 ∨ k = 7 ∨ k = 8 ∨ k = 9 ∨ k = 10 ∨ k = 11 ∨ k = 12 ∨ k = 13 ∨ k = 14 ∨ k = 15 ∨ k = 16 ∨ k = 17 ∨ k = 18 ∨ k = 19 ∨ k = 20 ∨ k = 21 ∨ k = 22 ∨ k = 23 ∨ k = 24 ∨ k = 25 ∨ k = 26 ∨ k = 27 ∨ k = 28 ∨ k = 29 ∨ k = 30 ∨ k = 31) with rfl | rfl | rfl | rfl | rfl | rfl | rfl | rfl | rfl | rfl | rfl | rfl | rfl | rfl | rfl | rfl | rfl | rfl | rfl | rfl | rfl | rfl | rfl | rfl | rfl | rfl | rfl | rfl | rfl | rfl | rfl | rfl <;> (simp only [Int.reducePow, Int.reduceSub] at er; subst er; first | (exfalso; omega) | omega | decide)
              · subst er; subst ek; first | (exfalso; omega) | omega | decide
            rw [e9]
        · refine Z_iinc (L2 := [(1, .int (Zi (1 + 16 + 8 + 4))), (0, .int (Zi ((r % 4294967296 / 65536) % 4294967296 / 256)))]) rfl rfl (by decide) rfl ?_
          refine Z_go (f2 := (59, [(1, .int (Zi (1 + 16 + 8 + 4))), (0, .int (Zi ((r % 4294967296 / 65536) % 4294967296 / 256)))], [.int (Zi ((r % 4294967296 / 65536) % 4294967296 / 256))])) (fun _ => rfl) ?_
          refine Z_go (f2 := (60, [(1, .int (Zi (1 + 16 + 8 + 4))), (0, .int (Zi ((r % 4294967296 / 65536) % 4294967296 / 256)))], [.int (Zi 4), .int (Zi ((r % 4294967296 / 65536) % 4294967296 / 256))])) (fun _ => rfl) ?_
          refine Z_iushr rfl (by omega) (by omega) (p := 16) (by rfl) ?_
          refine Z_go (f2 := (62, [(0, .int (Zi (((r % 4294967296 / 65536) % 4294967296 / 256) % 4294967296 / 16))), (1, .int (Zi (1 + 16 + 8 + 4)))], [])) (fun _ => rfl) ?_
          refine Z_go (f2 := (63, [(0, .int (Zi (((r % 4294967296 / 65536) % 4294967296 / 256) % 4294967296 / 16))), (1, .int (Zi (1 + 16 + 8 + 4)))], [.int (Zi (((r % 4294967296 / 65536) % 4294967296 / 256) % 4294967296 / 16))])) (fun _ => rfl) ?_
          refine Z_go (f2 := (64, [(0, .int (Zi (((r % 4294967296 / 65536) % 4294967296 / 256) % 4294967296 / 16))), (1, .int (Zi (1 + 16 + 8 + 4)))], [.int (Zi 4), .int (Zi (((r % 4294967296 / 65536) % 4294967296 / 256) % 4294967296 / 16))])) (fun _ => rfl) ?_
          refine Z_cle rfl rfl (by first | exact hs.zF _ | exact Zor_r _ _ | exact hs.zA _ _ | assumption | exact zA _ _ | exact zS _ | exact Zr_not (hs.zA _ _) | exact ⟨by omega, by omega⟩) (by first | exact hs.zF _ | exact Zor_r _ _ | exact hs.zA _ _ | assumption | exact zA _ _ | exact zS _ | exact Zr_not (hs.zA _ _) | exact ⟨by omega, by omega⟩) (fun y16 => ?_) (fun y16 => ?_)
          · refine Z_go (f2 := (75, [(0, .int (Zi (((r % 4294967296 / 65536) % 4294967296 / 256) % 4294967296 / 16))), (1, .int (Zi (1 + 16 + 8 + 4)))], [.int (Zi (1 + 16 + 8 + 4))])) (fun _ => rfl) ?_
            refine Z_go (f2 := (76, [(0, .int (Zi (((r % 4294967296 / 65536) % 4294967296 / 256) % 4294967296 / 16))), (1, .int (Zi (1 + 16 + 8 + 4)))], [.int (Zi (((r % 4294967296 / 65536) % 4294967296 / 256) % 4294967296 / 16)), .int (Zi (1 + 16 + 8 + 4))])) (fun _ => rfl) ?_
            refine Z_go (f2 := (77, [(0, .int (Zi (((r % 4294967296 / 65536) % 4294967296 / 256) % 4294967296 / 16))), (1, .int (Zi (1 + 16 + 8 + 4)))], [.int (Zi 1), .int (Zi (((r % 4294967296 / 65536) % 4294967296 / 256) % 4294967296 / 16)), .int (Zi (1 + 16 + 8 + 4))])) (fun _ => rfl) ?_
            refine Z_iushr rfl (by omega) (by omega) (p := 2) (by rfl) ?_
            refine Z_iadd rfl ?_
            refine Z_iret rfl rfl (by first | rfl | decide | exact narrow_b01 (by omega)) ⟨rfl, rfl, ?_⟩
            refine ⟨k, ?_, hk⟩
            have e9 : (1 + 16 + 8 + 4 + ((((r % 4294967296 / 65536) % 4294967296 / 256) % 4294967296 / 16) % 4294967296 / 2) : Int) = k := by
              rcases hr with ⟨c, er⟩ | ⟨ek, er⟩
              · rcases (by omega : k = 0 ∨ k = 1 ∨ k = 2 ∨ k = 3 ∨ k = 4 ∨ k = 5 ∨ k = 6 ∨ k = 7 ∨ k = 8 ∨ k = 9 ∨ k = 10 ∨ k = 11 ∨ k = 12 ∨ k = 13 ∨ k = 14 ∨ k = 15 ∨ k = 16 ∨ k = 17 ∨ k = 18 ∨ k = 19 ∨ k = 20 ∨ k = 21 ∨ k = 22 ∨ k = 23 ∨ k = 24 ∨ k = 25 ∨ k = 26 ∨ k = 27 ∨ k = 28 ∨ k = 29 ∨ k = 30 ∨ k = 31) with rfl | rfl | rfl | rfl | rfl | rfl | rfl | rfl | rfl | rfl | rfl | rfl | rfl | rfl | rfl | rfl | rfl | rfl | rfl | rfl | rfl | rfl | rfl | rfl | rfl | rfl | rfl | rfl | rfl | rfl | rfl | rfl <;> (simp only [Int.reducePow, Int.reduceSub] at er; subst er; first | (exfalso; omega) | omega | decide)
              · subst er; subst ek; first | (exfalso; omega) | omega | decide
            rw [e9]
          · refine Z_iinc (L2 := [(1, .int (Zi (1 + 16 + 8 + 4 + 2))), (0, .int (Zi (((r % 4294967296 / 65536) % 4294967296 / 256) % 4294967296 / 16)))]) rfl rfl (by decide) rfl ?_
            refine Z_go (f2 := (71, [(1, .int (Zi (1 + 16 + 8 + 4 + 2))), (0, .int (Zi (((r % 4294967296 / 65536) % 4294967296 / 256) % 4294967296 / 16)))], [.int (Zi (((r % 4294967296 / 65536) % 4294967296 / 256) % 4294967296 / 16))])) (fun _ => rfl) ?_
            refine Z_go (f2 := (72, [(1, .int (Zi (1 + 16 + 8 + 4 + 2))), (0, .int (Zi (((r % 4294967296 / 65536) % 4294967296 / 256) % 4294967296 / 16)))], [.int (Zi 2), .int (Zi (((r % 4294967296 / 65536) % 4294967296 / 256) % 4294967296 / 16))])) (fun _ => rfl) ?_
            refine Z_iushr rfl (by omega) (by omega) (p := 4) (by rfl) ?_
            refine Z_go (f2 := (74, [(0, .int (Zi ((((r % 4294967296 / 65536) % 4294967296 / 256) % 4294967296 / 16) % 4294967296 / 4))), (1, .int (Zi (1 + 16 + 8 + 4 + 2)))], [])) (fun _ => rfl) ?_
            refine Z_go (f2 := (75, [(0, .int (Zi ((((r % 4294967296 / 65536) % 4294967296 / 256) % 4294967296 / 16) % 4294967296 / 4))), (1, .int (Zi (1 + 16 + 8 + 4 + 2)))], [.int (Zi (1 + 16 + 8 + 4 + 2))])) (fun _ => rfl) ?_
            refine Z_go (f2 := (76, [(0, .int (Zi ((((r % 4294967296 / 65536) % 4294967296 / 256) % 4294967296 / 16) % 4294967296 / 4))), (1, .int (Zi (1 + 16 + 8 + 4 + 2)))], [.int (Zi ((((r % 4294967296 / 65536) % 4294967296 / 256) % 4294967296 / 16) % 4294967296 / 4)), .int (Zi (1 + 16 + 8 + 4 + 2))])) (fun _ => rfl) ?_
            refine Z_go (f2 := (77, [(0, .int (Zi ((((r % 4294967296 / 65536) % 4294967296 / 256) % 4294967296 / 16) % 4294967296 / 4))), (1, .int (Zi (1 + 16 + 8 + 4 + 2)))], [.int (Zi 1), .int (Zi ((((r % 4294967296 / 65536) % 4294967296 / 256) % 4294967296 / 16) % 4294967296 / 4)), .int (Zi (1 + 16 + 8 + 4 + 2))])) (fun _ => rfl) ?_
            refine Z_iushr rfl (by omega) (by omega) (p := 2) (by rfl) ?_
            refine Z_iadd rfl ?_
            refine Z_iret rfl rfl (by first | rfl | decide | exact narrow_b01 (by omega)) ⟨rfl, rfl, ?_⟩
            refine ⟨k, ?_, hk⟩
            have e9 : (1 + 16 + 8 + 4 + 2 + (((((r % 4294967296 / 65536) % 4294967296 / 256) % 4294967296 / 16) % 4294967296 / 4) % 4294967296 / 2) : Int) = k := by
              rcases hr with ⟨c, er⟩ | ⟨ek, er⟩
              · rcases (by omega : k = 0 ∨ k = 1 ∨ k = 2 ∨ k = 3 ∨ k = 4 ∨ k = 5 ∨ k = 6 ∨ k = 7 ∨ k = 8 ∨ k = 9 ∨ k = 10 ∨ k = 11 ∨ k = 12 ∨ k = 13 ∨ k = 14 ∨ k = 15 ∨ k = 16 ∨ k = 17 ∨ k = 18 ∨ k = 19 ∨ k = 20 ∨ k = 21 ∨ k = 22 ∨ k = 23 ∨ k = 24 ∨ k = 25 ∨ k = 26 ∨ k = 27 ∨ k = 28 ∨ k = 29 ∨ k = 30 ∨ k = 31) with rfl | rfl | rfl | rfl | rfl | rfl | rfl | rfl | rfl | rfl | rfl | rfl | rfl | rfl | rfl | rfl | rfl | rfl | rfl | rfl | rfl | rfl | rfl | rfl | rfl | rfl | rfl | rfl | rfl | rfl | rfl | rfl <;> (simp only [Int.reducePow, Int.reduceSub] at er; subst er; first | (exfalso; omega) | omega | decide)
              · subst er; subst ek; first | (exfalso; omega) | omega | decide
            rw [e9]
  · refine Z_go (f2 := (13, [(0, .int (Zi r))], [.int (Zi r)])) (fun _ => rfl) ?_
    refine Z_go (f2 := (15, [(0, .int (Zi r))], [.int (Zi 32), .int (Zi r)])) (fun _ => rfl) ?_
    refine Z_go (f2 := (16, [(0, .int (Zi r))], [.int (Zi r &&& Zi 32)])) (fun _ => rfl) ?_
    rw [show Zi r &&& Zi 32 = Zi (if r = -1 then 32 else 0) by rcases (by omega : r = 0 ∨ r = -1) with q | q <;> (rw [q]; decide)]
    refine Z_iret rfl rfl (by first | rfl | decide | exact narrow_b01 (by omega)) ⟨rfl, rfl, ?_⟩
    refine ⟨k, ?_, hk⟩
    have e9 : (if r = -1 then 32 else 0 : Int) = k := by
      rcases hr with ⟨c, er⟩ | ⟨ek, er⟩
      · rcases (by omega : k = 0 ∨ k = 1 ∨ k = 2 ∨ k = 3 ∨ k = 4 ∨ k = 5 ∨ k = 6 ∨ k = 7 ∨ k = 8 ∨ k = 9 ∨ k = 10 ∨ k = 11 ∨ k = 12 ∨ k = 13 ∨ k = 14 ∨ k = 15 ∨ k = 16 ∨ k = 17 ∨ k = 18 ∨ k = 19 ∨ k = 20 ∨ k = 21 ∨ k = 22 ∨ k = 23 ∨ k = 24 ∨ k = 25 ∨ k = 26 ∨ k = 27 ∨ k = 28 ∨ k = 29 ∨ k = 30 ∨ k = 31) with rfl | rfl | rfl | rfl | rfl | rfl | rfl | rfl | rfl | rfl | rfl | rfl | rfl | rfl | rfl | rfl | rfl | rfl | rfl | rfl | rfl | rfl | rfl | rfl | rfl | rfl | rfl | rfl | rfl | rfl | rfl | rfl <;> (simp only [Int.reducePow, Int.reduceSub] at er; subst er; first | (exfalso; omega) | omega | decide)
      · subst er; subst ek; first | (exfalso; omega) | omega | decide
    rw [e9]
