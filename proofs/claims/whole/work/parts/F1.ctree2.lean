/-! the class: Tree: its sets -/
/-- a bit of a long -/
def T_bit (x : Int64) (j : Nat) : Prop := x.toBitVec.getLsbD j = true
theorem Zi_sh (k : Nat) (h : k < 64) : ((Zi (k : Int)).toInt64.toUInt64 &&& Int64.toUInt64 63).toBitVec.toNat = k := by
  have : ∀ k : Fin 64, ((Zi (k.val : Int)).toInt64.toUInt64 &&& Int64.toUInt64 63).toBitVec.toNat = k.val := by decide +kernel
  exact this ⟨k, h⟩
theorem T_ushr (b : Int64) {k : Int} (k0 : 0 ≤ k) (k1 : k < 64) : ((b.toUInt64 >>> ((Zi k).toInt64.toUInt64 &&& Int64.toUInt64 63)).toInt64).toBitVec = b.toBitVec >>> k.toNat := by
  obtain ⟨n, rfl⟩ := Int.eq_ofNat_of_zero_le k0
  have h := Zi_sh n (by omega)
  show (b.toUInt64 >>> ((Zi (n : Int)).toInt64.toUInt64 &&& Int64.toUInt64 63)).toBitVec = _
  rw [UInt64.toBitVec_shiftRight]
  generalize ((Zi (n : Int)).toInt64.toUInt64 &&& Int64.toUInt64 63) = y at h
  show b.toBitVec >>> (y.toBitVec % 64).toNat = _
  rw [BitVec.toNat_umod, h]
  congr 1
  show n % 64 = n
  omega
theorem Zi_sh2 (k : Nat) (h : k < 64) : ((1 : Int64) <<< ((Zi (k : Int)).toInt64 &&& 63)).toBitVec = BitVec.twoPow 64 k := by
  have : ∀ k : Fin 64, ((1 : Int64) <<< ((Zi (k.val : Int)).toInt64 &&& 63)).toBitVec = BitVec.twoPow 64 k.val := by decide +kernel
  exact this ⟨k, h⟩
theorem T_bit_and {b : Int64} {k : Int} (k0 : 0 ≤ k) (k1 : k < 64) : ((b.toUInt64 >>> ((Zi k).toInt64.toUInt64 &&& Int64.toUInt64 63)).toInt64 &&& 1 = 0) ↔ ¬ T_bit b k.toNat := by
  have h : ((b.toUInt64 >>> ((Zi k).toInt64.toUInt64 &&& Int64.toUInt64 63)).toInt64 &&& 1).toBitVec = (b.toBitVec >>> k.toNat) &&& 1#64 := by
    rw [Int64.toBitVec_and, T_ushr b k0 k1]
    rfl
  unfold T_bit
  constructor
  · intro e hb
    rw [e] at h
    have := congrArg (fun v : BitVec 64 => v.getLsbD 0) h
    simp only [BitVec.getLsbD_and, BitVec.getLsbD_ushiftRight, Nat.add_zero, hb] at this
    exact absurd this (by decide)
  · intro hb
    apply Int64.toBitVec_inj.mp
    rw [h]
    apply BitVec.eq_of_getLsbD_eq
    intro i hi
    rw [BitVec.getLsbD_and, BitVec.getLsbD_ushiftRight]
    by_cases c : i = 0
    · subst c
      have hb : b.toBitVec.getLsbD k.toNat = false := by
        cases e : b.toBitVec.getLsbD k.toNat with
        | false => rfl
        | true => exact absurd e hb
      rw [Nat.add_zero, hb]
      rfl
    · have : (1#64 : BitVec 64).getLsbD i = false := by
        rw [BitVec.getLsbD_one]
        simp [c]
      rw [this, Bool.and_false]
      exact (BitVec.getLsbD_zero ..).symm
theorem T_bit_or {b : Int64} {k : Int} (k0 : 0 ≤ k) (k1 : k < 64) {j : Nat} (hj : j < 64) : T_bit (b ||| (1 <<< ((Zi k).toInt64 &&& 63))) j ↔ T_bit b j ∨ j = k.toNat := by
  obtain ⟨n, rfl⟩ := Int.eq_ofNat_of_zero_le k0
  unfold T_bit
  rw [Int64.toBitVec_or, Zi_sh2 n (by omega), BitVec.getLsbD_or, BitVec.getLsbD_twoPow, Bool.or_eq_true, Bool.and_eq_true, decide_eq_true_iff, decide_eq_true_iff]
  constructor
  · rintro (h | h)
    · exact .inl h
    · exact .inr (by omega)
  · rintro (h | h)
    · exact .inl h
    · exact .inr (by omega)
theorem T_bit_not {b : Int64} {j : Nat} (hj : j < 64) : T_bit (b ^^^ (-1)) j ↔ ¬ T_bit b j := by
  unfold T_bit
  rw [Int64.toBitVec_xor, show (-1 : Int64).toBitVec = BitVec.allOnes 64 by decide, BitVec.getLsbD_xor, BitVec.getLsbD_allOnes]
  simp [hj]
theorem T_bit_0 (j : Nat) : ¬ T_bit 0 j := by
  unfold T_bit
  rw [show (0 : Int64).toBitVec = 0#64 from rfl, BitVec.getLsbD_zero]
  exact Bool.false_ne_true
/-- set c has the sign k -/
def T_has (β : Int → Int64) (c k : Int) : Prop := 0 ≤ c ∧ 0 ≤ k ∧ k ≤ 255 ∧ T_bit (β (4 * c + k / 64)) (k % 64).toNat
def T_wd (c k : Int) : Int := if 0 ≤ c ∧ 0 ≤ k ∧ k ≤ 255 then 4 * c + k / 64 else -1
theorem T_has_up {β : Int → Int64} {c k : Int} (h0 : 0 ≤ c ∧ 0 ≤ k ∧ k ≤ 255) {d j : Int} : T_has (fun i => if i = 4 * c + k / 64 then β (4 * c + k / 64) ||| (1 <<< ((Zi (k % 64)).toInt64 &&& 63)) else β i) d j ↔ T_has β d j ∨ d = c ∧ j = k := by
  unfold T_has
  constructor
  · rintro ⟨h1, h2, h3, h4⟩
    dsimp only at h4
    by_cases e : 4 * d + j / 64 = 4 * c + k / 64
    · rw [if_pos e, T_bit_or (by omega) (by omega) (by omega)] at h4
      rcases h4 with h4 | h4
      · exact .inl ⟨h1, h2, h3, by rw [e]; exact h4⟩
      · exact .inr ⟨by omega, by omega⟩
    · rw [if_neg e] at h4
      exact .inl ⟨h1, h2, h3, h4⟩
  · rintro (⟨h1, h2, h3, h4⟩ | ⟨rfl, rfl⟩)
    · refine ⟨h1, h2, h3, ?_⟩
      dsimp only
      by_cases e : 4 * d + j / 64 = 4 * c + k / 64
      · rw [if_pos e, T_bit_or (by omega) (by omega) (by omega), ← e]
        exact .inl h4
      · rw [if_neg e]
        exact h4
    · refine ⟨h0.1, h0.2.1, h0.2.2, ?_⟩
      dsimp only
      rw [if_pos rfl, T_bit_or (by omega) (by omega) (by omega)]
      exact .inr rfl
theorem C_word (d : Nat) {s : C_S} {p : List Nat} {o : Nat} {A : Nat → Nat} {m sm : Int} {τ : Nat → Int → Int} {β : Int → Int64} {c k : Int} (hd : D_Tr s p o A m sm τ β) (zk : Zr k) (c0 : -1 ≤ c) (c1 : c < 80) : C_rd (d + 1) 143 [.ref o, .int (Zi c), .int (Zi k)] s (fun x => x = some (.int (Zi (T_wd c k)))) := by
  refine C_enterR (M := E_m143) rfl (Nat.le_of_ble_eq_true rfl) (fun h0 h hs => ?_)
  show B_R (d + 0) _ (0, [(0, .ref o), (1, .int (Zi c)), (2, .int (Zi k))], []) _ _ _
  refine Z_go (f2 := (1, [(0, .ref o), (1, .int (Zi c)), (2, .int (Zi k))], [.int (Zi c)])) (fun _ => rfl) ?_
  refine Z_ilt rfl rfl (by first | exact hs.zF _ _ | exact Zor_r _ _ | exact hs.zA _ _ | assumption | exact zA _ _ | exact zS _ | exact Zr_not (hs.zA _ _) | exact hs.1.1 _ _ | exact ⟨by omega, by omega⟩) (fun c1 => ?_) (fun c1 => ?_)
  · refine Z_go (f2 := (16, [(0, .ref o), (1, .int (Zi c)), (2, .int (Zi k))], [.int (Zi (-1))])) (fun _ => rfl) ?_
    refine Z_iret rfl rfl (by first | rfl | decide | exact narrow_b01 (by omega)) ⟨rfl, rfl, ?_⟩
    try dsimp only
    first
    | (exfalso; omega)
    | (unfold T_wd; rw [if_neg (by omega)])
    | (unfold T_wd; rw [if_pos (by omega)])
  · refine Z_go (f2 := (5, [(0, .ref o), (1, .int (Zi c)), (2, .int (Zi k))], [.int (Zi k)])) (fun _ => rfl) ?_
    refine Z_ilt rfl rfl (by first | exact hs.zF _ _ | exact Zor_r _ _ | exact hs.zA _ _ | assumption | exact zA _ _ | exact zS _ | exact Zr_not (hs.zA _ _) | exact hs.1.1 _ _ | exact ⟨by omega, by omega⟩) (fun c2 => ?_) (fun c2 => ?_)
    · refine Z_go (f2 := (16, [(0, .ref o), (1, .int (Zi c)), (2, .int (Zi k))], [.int (Zi (-1))])) (fun _ => rfl) ?_
      refine Z_iret rfl rfl (by first | rfl | decide | exact narrow_b01 (by omega)) ⟨rfl, rfl, ?_⟩
      try dsimp only
      first
      | (exfalso; omega)
      | (unfold T_wd; rw [if_neg (by omega)])
      | (unfold T_wd; rw [if_pos (by omega)])
    · refine Z_go (f2 := (9, [(0, .ref o), (1, .int (Zi c)), (2, .int (Zi k))], [.int (Zi k)])) (fun _ => rfl) ?_
      refine Z_go (f2 := (12, [(0, .ref o), (1, .int (Zi c)), (2, .int (Zi k))], [.int (Zi 255), .int (Zi k)])) (fun _ => rfl) ?_
      refine Z_cle rfl rfl (by first | exact hs.zF _ _ | exact Zor_r _ _ | exact hs.zA _ _ | assumption | exact zA _ _ | exact zS _ | exact Zr_not (hs.zA _ _) | exact hs.1.1 _ _ | exact ⟨by omega, by omega⟩) (by first | exact hs.zF _ _ | exact Zor_r _ _ | exact hs.zA _ _ | assumption | exact zA _ _ | exact zS _ | exact Zr_not (hs.zA _ _) | exact hs.1.1 _ _ | exact ⟨by omega, by omega⟩) (fun c3 => ?_) (fun c3 => ?_)
      · refine Z_go (f2 := (18, [(0, .ref o), (1, .int (Zi c)), (2, .int (Zi k))], [.int (Zi 4)])) (fun _ => rfl) ?_
        refine Z_go (f2 := (19, [(0, .ref o), (1, .int (Zi c)), (2, .int (Zi k))], [.int (Zi c), .int (Zi 4)])) (fun _ => rfl) ?_
        refine Z_imul rfl ?_
        refine Z_go (f2 := (21, [(0, .ref o), (1, .int (Zi c)), (2, .int (Zi k))], [.int (Zi k), .int (Zi (4 * c))])) (fun _ => rfl) ?_
        refine Z_go (f2 := (23, [(0, .ref o), (1, .int (Zi c)), (2, .int (Zi k))], [.int (Zi 6), .int (Zi k), .int (Zi (4 * c))])) (fun _ => rfl) ?_
        refine Z_ishr rfl (by first | exact hs.zF _ _ | exact Zor_r _ _ | exact hs.zA _ _ | assumption | exact zA _ _ | exact zS _ | exact Zr_not (hs.zA _ _) | exact hs.1.1 _ _ | exact ⟨by omega, by omega⟩) (by omega) (by omega) (p := 64) (by rfl) ?_
        refine Z_iadd rfl ?_
        refine Z_go (f2 := (26, [(3, .int (Zi (4 * c + (k / 64)))), (0, .ref o), (1, .int (Zi c)), (2, .int (Zi k))], [])) (fun _ => rfl) ?_
        refine Z_go (f2 := (27, [(3, .int (Zi (4 * c + (k / 64)))), (0, .ref o), (1, .int (Zi c)), (2, .int (Zi k))], [.int (Zi (4 * c + (k / 64)))])) (fun _ => rfl) ?_
        refine Z_ilt rfl rfl (by first | exact hs.zF _ _ | exact Zor_r _ _ | exact hs.zA _ _ | assumption | exact zA _ _ | exact zS _ | exact Zr_not (hs.zA _ _) | exact hs.1.1 _ _ | exact ⟨by omega, by omega⟩) (fun c4 => ?_) (fun c4 => ?_)
        · refine Z_go (f2 := (44, [(3, .int (Zi (4 * c + (k / 64)))), (0, .ref o), (1, .int (Zi c)), (2, .int (Zi k))], [.int (Zi (-1))])) (fun _ => rfl) ?_
          refine Z_iret rfl rfl (by first | rfl | decide | exact narrow_b01 (by omega)) ⟨rfl, rfl, ?_⟩
          try dsimp only
          first
          | (exfalso; omega)
          | (unfold T_wd; rw [if_neg (by omega)])
          | (unfold T_wd; rw [if_pos (by omega)])
        · refine Z_go (f2 := (31, [(3, .int (Zi (4 * c + (k / 64)))), (0, .ref o), (1, .int (Zi c)), (2, .int (Zi k))], [.int (Zi (4 * c + (k / 64)))])) (fun _ => rfl) ?_
          refine Z_go (f2 := (32, [(3, .int (Zi (4 * c + (k / 64)))), (0, .ref o), (1, .int (Zi c)), (2, .int (Zi k))], [.ref o, .int (Zi (4 * c + (k / 64)))])) (fun _ => rfl) ?_
          refine C_gr rfl hs (hd).1.1 (by decide) (Nat.le_of_ble_eq_true rfl) rfl ((hd).2.1 9 (by decide)).1 ?_
          refine C_al rfl hs ((hd).2.1 9 (by decide)).2.2 (by decide) ?_
          show B_R _ _ (36, [(3, .int (Zi (4 * c + (k / 64)))), (0, .ref o), (1, .int (Zi c)), (2, .int (Zi k))], [.int (Zi 320), .int (Zi (4 * c + (k / 64)))]) _ _ _
          refine Z_cge rfl rfl (by first | exact hs.zF _ _ | exact Zor_r _ _ | exact hs.zA _ _ | assumption | exact zA _ _ | exact zS _ | exact Zr_not (hs.zA _ _) | exact hs.1.1 _ _ | exact ⟨by omega, by omega⟩) (by first | exact hs.zF _ _ | exact Zor_r _ _ | exact hs.zA _ _ | assumption | exact zA _ _ | exact zS _ | exact Zr_not (hs.zA _ _) | exact hs.1.1 _ _ | exact ⟨by omega, by omega⟩) (fun c5 => ?_) (fun c5 => ?_)
          · refine Z_go (f2 := (44, [(3, .int (Zi (4 * c + (k / 64)))), (0, .ref o), (1, .int (Zi c)), (2, .int (Zi k))], [.int (Zi (-1))])) (fun _ => rfl) ?_
            refine Z_iret rfl rfl (by first | rfl | decide | exact narrow_b01 (by omega)) ⟨rfl, rfl, ?_⟩
            try dsimp only
            first
            | (exfalso; omega)
            | (unfold T_wd; rw [if_neg (by omega)])
            | (unfold T_wd; rw [if_pos (by omega)])
          · refine Z_go (f2 := (40, [(3, .int (Zi (4 * c + (k / 64)))), (0, .ref o), (1, .int (Zi c)), (2, .int (Zi k))], [.int (Zi (4 * c + (k / 64)))])) (fun _ => rfl) ?_
            refine Z_go (f2 := (44, [(3, .int (Zi (4 * c + (k / 64)))), (0, .ref o), (1, .int (Zi c)), (2, .int (Zi k))], [.int (Zi (4 * c + (k / 64)))])) (fun _ => rfl) ?_
            refine Z_iret rfl rfl (by first | rfl | decide | exact narrow_b01 (by omega)) ⟨rfl, rfl, ?_⟩
            try dsimp only
            first
            | (exfalso; omega)
            | (unfold T_wd; rw [if_neg (by omega)])
            | (unfold T_wd; rw [if_pos (by omega)])
      · refine Z_go (f2 := (16, [(0, .ref o), (1, .int (Zi c)), (2, .int (Zi k))], [.int (Zi (-1))])) (fun _ => rfl) ?_
        refine Z_iret rfl rfl (by first | rfl | decide | exact narrow_b01 (by omega)) ⟨rfl, rfl, ?_⟩
        try dsimp only
        first
        | (exfalso; omega)
        | (unfold T_wd; rw [if_neg (by omega)])
        | (unfold T_wd; rw [if_pos (by omega)])
theorem C_cont (d : Nat) {s : C_S} {p : List Nat} {o : Nat} {A : Nat → Nat} {m sm : Int} {τ : Nat → Int → Int} {β : Int → Int64} {c k : Int} (hd : D_Tr s p o A m sm τ β) (zk : Zr k) (c0 : -1 ≤ c) (c1 : c < 80) : C_rd (d + 2) 136 [.ref o, .int (Zi c), .int (Zi k)] s (fun x => ∃ z : Int, x = some (.int (Zi z)) ∧ (z = 1 ∧ T_has β c k ∨ z = 0 ∧ ¬ T_has β c k)) := by
  refine C_enterR (M := E_m136) rfl (Nat.le_of_ble_eq_true rfl) (fun h0 h hs => ?_)
  show B_R (d + 1) _ (0, [(0, .ref o), (1, .int (Zi c)), (2, .int (Zi k))], []) _ _ _
  refine Z_go (f2 := (1, [(0, .ref o), (1, .int (Zi c)), (2, .int (Zi k))], [.ref o])) (fun _ => rfl) ?_
  refine Z_go (f2 := (2, [(0, .ref o), (1, .int (Zi c)), (2, .int (Zi k))], [.int (Zi c), .ref o])) (fun _ => rfl) ?_
  refine Z_go (f2 := (3, [(0, .ref o), (1, .int (Zi c)), (2, .int (Zi k))], [.int (Zi k), .int (Zi c), .ref o])) (fun _ => rfl) ?_
  refine C_callVR (As := [.int (Zi c), .int (Zi k)]) (rest := []) rfl (by decide) rfl (by decide) rfl rfl (by decide +kernel) (Nat.le_of_ble_eq_true rfl) hs (hd).1.1 (C_word _ hd (c := c) (k := k) (by first | exact hs.zF _ _ | exact Zor_r _ _ | exact hs.zA _ _ | assumption | exact zA _ _ | exact zS _ | exact Zr_not (hs.zA _ _) | exact hs.1.1 _ _ | exact ⟨by omega, by omega⟩) (by omega) (by omega)) (fun x q => ?_)
  obtain ⟨wd99, ewd99⟩ : ∃ z : Int, z = T_wd c k := ⟨_, rfl⟩
  rw [← ewd99] at q
  obtain rfl := q
  have hwd99 : (0 ≤ c ∧ 0 ≤ k ∧ k ≤ 255) ∧ wd99 = 4 * c + k / 64 ∨ ¬ (0 ≤ c ∧ 0 ≤ k ∧ k ≤ 255) ∧ wd99 = -1 := by rw [ewd99]; unfold T_wd; split; exact .inl ⟨by assumption, rfl⟩; exact .inr ⟨by assumption, rfl⟩
  have zwd99 : Zr wd99 := ⟨by omega, by omega⟩
  show B_R _ _ (6, [(0, .ref o), (1, .int (Zi c)), (2, .int (Zi k))], [.int (Zi wd99)]) _ _ _
  refine Z_go (f2 := (7, [(3, .int (Zi wd99)), (0, .ref o), (1, .int (Zi c)), (2, .int (Zi k))], [])) (fun _ => rfl) ?_
  refine Z_go (f2 := (8, [(3, .int (Zi wd99)), (0, .ref o), (1, .int (Zi c)), (2, .int (Zi k))], [.int (Zi wd99)])) (fun _ => rfl) ?_
  refine Z_go (f2 := (9, [(3, .int (Zi wd99)), (0, .ref o), (1, .int (Zi c)), (2, .int (Zi k))], [.int (Zi (-1)), .int (Zi wd99)])) (fun _ => rfl) ?_
  refine Z_ceq rfl rfl (by first | exact hs.zF _ _ | exact Zor_r _ _ | exact hs.zA _ _ | assumption | exact zA _ _ | exact zS _ | exact Zr_not (hs.zA _ _) | exact hs.1.1 _ _ | exact ⟨by omega, by omega⟩) (by first | exact hs.zF _ _ | exact Zor_r _ _ | exact hs.zA _ _ | assumption | exact zA _ _ | exact zS _ | exact Zr_not (hs.zA _ _) | exact hs.1.1 _ _ | exact ⟨by omega, by omega⟩) (fun c1 => ?_) (fun c1 => ?_)
  · refine Z_go (f2 := (35, [(3, .int (Zi wd99)), (0, .ref o), (1, .int (Zi c)), (2, .int (Zi k))], [.int (Zi 0)])) (fun _ => rfl) ?_
    refine Z_iret rfl rfl (by first | rfl | decide | exact narrow_b01 (by omega)) ⟨rfl, rfl, ?_⟩
    try dsimp only
    refine ⟨0, rfl, .inr ⟨rfl, fun e => ?_⟩⟩
    first
    | (obtain ⟨e1, e2, e3, _⟩ := e
       exfalso; omega)
    | (obtain ⟨e1, e2, e3, e4⟩ := e
       have hw : wd99 = 4 * c + k / 64 := by omega
       have hz := hzl1.mp (by omega)
       rw [hw, hd.2.2.2.2, T_bit_and (by omega) (by omega)] at hz
       exact hz e4)
  · refine Z_go (f2 := (13, [(3, .int (Zi wd99)), (0, .ref o), (1, .int (Zi c)), (2, .int (Zi k))], [.ref o])) (fun _ => rfl) ?_
    refine C_gr rfl hs (hd).1.1 (by decide) (Nat.le_of_ble_eq_true rfl) rfl ((hd).2.1 9 (by decide)).1 ?_
    refine Z_go (f2 := (17, [(3, .int (Zi wd99)), (0, .ref o), (1, .int (Zi c)), (2, .int (Zi k))], [.int (Zi wd99), .ref (A 9)])) (fun _ => rfl) ?_
    refine C_la rfl hs ((hd).2.1 9 (by decide)).2.2 (by omega) (by omega) ?_
    show B_R _ _ (18, [(3, .int (Zi wd99)), (0, .ref o), (1, .int (Zi c)), (2, .int (Zi k))], [.long (C_L s (A 9) wd99)]) _ _ _
    refine Z_go (f2 := (19, [(3, .int (Zi wd99)), (0, .ref o), (1, .int (Zi c)), (2, .int (Zi k))], [.int (Zi k), .long (C_L s (A 9) wd99)])) (fun _ => rfl) ?_
    refine Z_go (f2 := (21, [(3, .int (Zi wd99)), (0, .ref o), (1, .int (Zi c)), (2, .int (Zi k))], [.int (Zi 63), .int (Zi k), .long (C_L s (A 9) wd99)])) (fun _ => rfl) ?_
    refine Z_and63 rfl ?_
    refine Z_go (f2 := (23, [(3, .int (Zi wd99)), (0, .ref o), (1, .int (Zi c)), (2, .int (Zi k))], [.long (((C_L s (A 9) wd99 : Int64).toUInt64 >>> ((Zi (k % 64)).toInt64.toUInt64 &&& Int64.toUInt64 63)).toInt64)])) (fun _ => rfl) ?_
    refine Z_go (f2 := (24, [(3, .int (Zi wd99)), (0, .ref o), (1, .int (Zi c)), (2, .int (Zi k))], [.long (1), .long (((C_L s (A 9) wd99 : Int64).toUInt64 >>> ((Zi (k % 64)).toInt64.toUInt64 &&& Int64.toUInt64 63)).toInt64)])) (fun _ => rfl) ?_
    refine Z_go (f2 := (25, [(3, .int (Zi wd99)), (0, .ref o), (1, .int (Zi c)), (2, .int (Zi k))], [.long ((((C_L s (A 9) wd99 : Int64).toUInt64 >>> ((Zi (k % 64)).toInt64.toUInt64 &&& Int64.toUInt64 63)).toInt64) &&& 1)])) (fun _ => rfl) ?_
    refine Z_go (f2 := (26, [(3, .int (Zi wd99)), (0, .ref o), (1, .int (Zi c)), (2, .int (Zi k))], [.long (0), .long ((((C_L s (A 9) wd99 : Int64).toUInt64 >>> ((Zi (k % 64)).toInt64.toUInt64 &&& Int64.toUInt64 63)).toInt64) &&& 1)])) (fun _ => rfl) ?_
    refine Z_lcmp rfl ?_
    obtain ⟨zl1, ezl1, hzl1, rzl1⟩ := Zl_ex ((((C_L s (A 9) wd99 : Int64).toUInt64 >>> ((Zi (k % 64)).toInt64.toUInt64 &&& Int64.toUInt64 63)).toInt64) &&& 1) (0)
    rw [ezl1]
    show B_R _ _ (27, [(3, .int (Zi wd99)), (0, .ref o), (1, .int (Zi c)), (2, .int (Zi k))], [.int (Zi zl1)]) _ _ _
    refine Z_ieq rfl rfl (by first | exact hs.zF _ _ | exact Zor_r _ _ | exact hs.zA _ _ | assumption | exact zA _ _ | exact zS _ | exact Zr_not (hs.zA _ _) | exact hs.1.1 _ _ | exact ⟨by omega, by omega⟩) (fun c2 => ?_) (fun c2 => ?_)
    · refine Z_go (f2 := (35, [(3, .int (Zi wd99)), (0, .ref o), (1, .int (Zi c)), (2, .int (Zi k))], [.int (Zi 0)])) (fun _ => rfl) ?_
      refine Z_iret rfl rfl (by first | rfl | decide | exact narrow_b01 (by omega)) ⟨rfl, rfl, ?_⟩
      try dsimp only
      refine ⟨0, rfl, .inr ⟨rfl, fun e => ?_⟩⟩
      first
      | (obtain ⟨e1, e2, e3, _⟩ := e
         exfalso; omega)
      | (obtain ⟨e1, e2, e3, e4⟩ := e
         have hw : wd99 = 4 * c + k / 64 := by omega
         have hz := hzl1.mp (by omega)
         rw [hw, hd.2.2.2.2, T_bit_and (by omega) (by omega)] at hz
         exact hz e4)
    · refine Z_go (f2 := (31, [(3, .int (Zi wd99)), (0, .ref o), (1, .int (Zi c)), (2, .int (Zi k))], [.int (Zi 1)])) (fun _ => rfl) ?_
      refine Z_go (f2 := (35, [(3, .int (Zi wd99)), (0, .ref o), (1, .int (Zi c)), (2, .int (Zi k))], [.int (Zi 1)])) (fun _ => rfl) ?_
      refine Z_iret rfl rfl (by first | rfl | decide | exact narrow_b01 (by omega)) ⟨rfl, rfl, ?_⟩
      try dsimp only
      have hw : wd99 = 4 * c + k / 64 := by omega
      have hz : ¬ _ := fun e => (show ¬ zl1 = 0 by omega) (hzl1.mpr e)
      rw [hw, hd.2.2.2.2, T_bit_and (by omega) (by omega)] at hz
      refine ⟨1, rfl, .inl ⟨rfl, by omega, by omega, by omega, Classical.not_not.mp hz⟩⟩
theorem C_incl (d : Nat) {s : C_S} {p : List Nat} {o : Nat} {A : Nat → Nat} {m sm : Int} {τ : Nat → Int → Int} {β : Int → Int64} {c k : Int} (hd : D_Tr s p o A m sm τ β) (zk : Zr k) (c0 : -1 ≤ c) (c1 : c < 80) : C_ok (d + 2) 138 [.ref o, .int (Zi c), .int (Zi k)] s (fun x s2 n => x = none ∧ n = 0 ∧ C_fr (fun t => t = p) s s2 ∧ C_n s2 = C_n s ∧ ∃ β2, D_Tr s2 p o A m sm τ β2 ∧ ∀ d j, T_has β2 d j ↔ T_has β d j ∨ (d = c ∧ j = k ∧ 0 ≤ c ∧ 0 ≤ k ∧ k ≤ 255)) := by
  refine C_enter (M := E_m138) rfl (Nat.le_of_ble_eq_true rfl) (fun h0 h hs => ?_)
  show B_R (d + 1) _ (0, [(0, .ref o), (1, .int (Zi c)), (2, .int (Zi k))], []) _ _ _
  refine Z_go (f2 := (1, [(0, .ref o), (1, .int (Zi c)), (2, .int (Zi k))], [.ref o])) (fun _ => rfl) ?_
  refine Z_go (f2 := (2, [(0, .ref o), (1, .int (Zi c)), (2, .int (Zi k))], [.int (Zi c), .ref o])) (fun _ => rfl) ?_
  refine Z_go (f2 := (3, [(0, .ref o), (1, .int (Zi c)), (2, .int (Zi k))], [.int (Zi k), .int (Zi c), .ref o])) (fun _ => rfl) ?_
  refine C_callVR (As := [.int (Zi c), .int (Zi k)]) (rest := []) rfl (by decide) rfl (by decide) rfl rfl (by decide +kernel) (Nat.le_of_ble_eq_true rfl) hs (hd).1.1 (C_word _ hd (c := c) (k := k) (by first | exact hs.zF _ _ | exact Zor_r _ _ | exact hs.zA _ _ | assumption | exact zA _ _ | exact zS _ | exact Zr_not (hs.zA _ _) | exact hs.1.1 _ _ | exact ⟨by omega, by omega⟩) (by omega) (by omega)) (fun x q => ?_)
  obtain ⟨wd100, ewd100⟩ : ∃ z : Int, z = T_wd c k := ⟨_, rfl⟩
  rw [← ewd100] at q
  obtain rfl := q
  have hwd100 : (0 ≤ c ∧ 0 ≤ k ∧ k ≤ 255) ∧ wd100 = 4 * c + k / 64 ∨ ¬ (0 ≤ c ∧ 0 ≤ k ∧ k ≤ 255) ∧ wd100 = -1 := by rw [ewd100]; unfold T_wd; split; exact .inl ⟨by assumption, rfl⟩; exact .inr ⟨by assumption, rfl⟩
  have zwd100 : Zr wd100 := ⟨by omega, by omega⟩
  show B_R _ _ (6, [(0, .ref o), (1, .int (Zi c)), (2, .int (Zi k))], [.int (Zi wd100)]) _ _ _
  refine Z_go (f2 := (7, [(3, .int (Zi wd100)), (0, .ref o), (1, .int (Zi c)), (2, .int (Zi k))], [])) (fun _ => rfl) ?_
  refine Z_go (f2 := (8, [(3, .int (Zi wd100)), (0, .ref o), (1, .int (Zi c)), (2, .int (Zi k))], [.int (Zi wd100)])) (fun _ => rfl) ?_
  refine Z_go (f2 := (9, [(3, .int (Zi wd100)), (0, .ref o), (1, .int (Zi c)), (2, .int (Zi k))], [.int (Zi (-1)), .int (Zi wd100)])) (fun _ => rfl) ?_
  refine Z_ceq rfl rfl (by first | exact hs.zF _ _ | exact Zor_r _ _ | exact hs.zA _ _ | assumption | exact zA _ _ | exact zS _ | exact Zr_not (hs.zA _ _) | exact hs.1.1 _ _ | exact ⟨by omega, by omega⟩) (by first | exact hs.zF _ _ | exact Zor_r _ _ | exact hs.zA _ _ | assumption | exact zA _ _ | exact zS _ | exact Zr_not (hs.zA _ _) | exact hs.1.1 _ _ | exact ⟨by omega, by omega⟩) (fun c1 => ?_) (fun c1 => ?_)
  · refine Z_ret rfl rfl ⟨_, hs, ?_⟩
    try dsimp only
    exact ⟨rfl, rfl, C_fr.refl _ _, rfl, β, hd, fun d j => ⟨.inl, fun h => h.elim id (fun h => by exfalso; omega)⟩⟩
  · refine Z_go (f2 := (13, [(3, .int (Zi wd100)), (0, .ref o), (1, .int (Zi c)), (2, .int (Zi k))], [.ref o])) (fun _ => rfl) ?_
    refine C_gr rfl hs (hd).1.1 (by decide) (Nat.le_of_ble_eq_true rfl) rfl ((hd).2.1 9 (by decide)).1 ?_
    refine Z_go (f2 := (17, [(3, .int (Zi wd100)), (0, .ref o), (1, .int (Zi c)), (2, .int (Zi k))], [.int (Zi wd100), .ref (A 9)])) (fun _ => rfl) ?_
    refine Z_go (f2 := (18, [(3, .int (Zi wd100)), (0, .ref o), (1, .int (Zi c)), (2, .int (Zi k))], [.int (Zi wd100), .ref (A 9), .int (Zi wd100), .ref (A 9)])) (fun _ => rfl) ?_
    refine C_la rfl hs ((hd).2.1 9 (by decide)).2.2 (by omega) (by omega) ?_
    show B_R _ _ (19, [(3, .int (Zi wd100)), (0, .ref o), (1, .int (Zi c)), (2, .int (Zi k))], [.long (C_L s (A 9) wd100), .int (Zi wd100), .ref (A 9)]) _ _ _
    refine Z_go (f2 := (20, [(3, .int (Zi wd100)), (0, .ref o), (1, .int (Zi c)), (2, .int (Zi k))], [.long (1), .long (C_L s (A 9) wd100), .int (Zi wd100), .ref (A 9)])) (fun _ => rfl) ?_
    refine Z_go (f2 := (21, [(3, .int (Zi wd100)), (0, .ref o), (1, .int (Zi c)), (2, .int (Zi k))], [.int (Zi k), .long (1), .long (C_L s (A 9) wd100), .int (Zi wd100), .ref (A 9)])) (fun _ => rfl) ?_
    refine Z_go (f2 := (23, [(3, .int (Zi wd100)), (0, .ref o), (1, .int (Zi c)), (2, .int (Zi k))], [.int (Zi 63), .int (Zi k), .long (1), .long (C_L s (A 9) wd100), .int (Zi wd100), .ref (A 9)])) (fun _ => rfl) ?_
    refine Z_and63 rfl ?_
    refine Z_go (f2 := (25, [(3, .int (Zi wd100)), (0, .ref o), (1, .int (Zi c)), (2, .int (Zi k))], [.long (1 <<< ((Zi (k % 64)).toInt64 &&& 63)), .long (C_L s (A 9) wd100), .int (Zi wd100), .ref (A 9)])) (fun _ => rfl) ?_
    refine Z_go (f2 := (26, [(3, .int (Zi wd100)), (0, .ref o), (1, .int (Zi c)), (2, .int (Zi k))], [.long ((C_L s (A 9) wd100) ||| (1 <<< ((Zi (k % 64)).toInt64 &&& 63))), .int (Zi wd100), .ref (A 9)])) (fun _ => rfl) ?_
    refine C_ls rfl hs ((hd).2.1 9 (by decide)).2.2 (by omega) (by omega) (fun h hs => ?_)
    refine Z_ret rfl rfl ⟨_, hs, ?_⟩
    try dsimp only
    have hw : wd100 = 4 * c + k / 64 := by omega
    refine ⟨rfl, rfl, (C_fr.refl _ _).sL ((hd.2.1 9 (by decide)).2.1), rfl, _, hd.setb _ _, fun d j => ?_⟩
    rw [hw, hd.2.2.2.2, T_has_up (by omega)]
    exact ⟨fun h => h.imp id (fun h => ⟨h.1, h.2, by omega, by omega, by omega⟩), fun h => h.imp id (fun h => ⟨h.1, h.2.1⟩)⟩
