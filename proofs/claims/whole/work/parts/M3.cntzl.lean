/-! the class: trailing zeros of a long -/
def K_ntz (x : BitVec 64) (k : Nat) : Prop := k ≤ 64 ∧ (∀ j, j < k → x.getLsbD j = false) ∧ (k < 64 → x.getLsbD k = true)
theorem I_ntz_0 {x : BitVec 32} (h : I_ntz x 32) : x = 0#32 := by
  apply BitVec.eq_of_getLsbD_eq
  intro i hi
  rw [h.2.1 i hi]
  exact (BitVec.getLsbD_zero ..).symm
theorem I_ntz_z {z : Int} (zz : Zr z) (h : I_ntz (Zi z).toBitVec 32) : z = 0 := by
  have h1 : Zi z = Zi 0 := Int32.toBitVec_inj.mp (I_ntz_0 h)
  exact (Zi_eq zz (show Zr 0 from ⟨by decide, by decide⟩)).mp h1
theorem I_l2i (l : Int64) (j : Nat) (hj : j < 32) : l.toInt32.toBitVec.getLsbD j = l.toBitVec.getLsbD j := by
  show (l.toBitVec.signExtend 32).getLsbD j = _
  rw [BitVec.getLsbD_signExtend]
  simp only [hj, decide_true, Bool.true_and]
  rw [if_pos (by omega)]
theorem K_low {l : Int64} {z : Int} {k : Nat} (ez : l.toInt32 = Zi z) (h : I_ntz (Zi z).toBitVec k) (hk : k < 32) : K_ntz l.toBitVec k := by
  refine ⟨by omega, fun j hj => ?_, fun _ => ?_⟩
  · rw [← I_l2i l j (by omega), ez]; exact h.2.1 j hj
  · rw [← I_l2i l k hk, ez]; exact h.2.2 hk
theorem K_high {l m : Int64} {z y : Int} {k : Nat} (ez : l.toInt32 = Zi z) (z0 : z = 0) (em : m.toBitVec = l.toBitVec >>> 32) (ey : m.toInt32 = Zi y) (h : I_ntz (Zi y).toBitVec k) : K_ntz l.toBitVec (32 + k) := by
  have hm : ∀ j, j < 32 → l.toBitVec.getLsbD (32 + j) = (Zi y).toBitVec.getLsbD j := fun j hj => by
    rw [← ey, I_l2i m j hj, em, BitVec.getLsbD_ushiftRight]
  have h0 : ∀ j, j < 32 → l.toBitVec.getLsbD j = false := fun j hj => by
    rw [← I_l2i l j hj, ez, z0]
    show (0#32).getLsbD j = false
    exact BitVec.getLsbD_zero ..
  refine ⟨by have := h.1; omega, fun j hj => ?_, fun hk => ?_⟩
  · by_cases c : j < 32
    · exact h0 j c
    · have := hm (j - 32) (by have := h.1; omega)
      rw [show 32 + (j - 32) = j by omega] at this
      rw [this]
      exact h.2.1 _ (by omega)
  · rw [hm k (by omega)]
    exact h.2.2 (by omega)
theorem J_ntzL (d : Nat) (l : Int64) : Q_ok (d + 2) 287 [.long l] (fun x => ∃ k : Nat, x = some (.int (Zi k)) ∧ K_ntz l.toBitVec k) := by
  refine Q_enter (M := E_m287) rfl (Nat.le_of_ble_eq_true rfl) (fun h => ?_)
  obtain ⟨z, ez, z1, z2⟩ := Zi_ex l.toInt32
  have zz : Zr z := ⟨z1, z2⟩
  have em := T_ushr l (k := 32) (by decide) (by decide)
  obtain ⟨y, ey, y1, y2⟩ := Zi_ex ((l.toUInt64 >>> ((Zi 32).toInt64.toUInt64 &&& Int64.toUInt64 63)).toInt64).toInt32
  have zy : Zr y := ⟨y1, y2⟩
  show B_R (d + 1) _ (0, [(0, .long l)], []) _ _ _
  refine Z_go (f2 := (1, [(0, .long (l))], [.long (l)])) (fun _ => rfl) ?_
  refine Z_l2i rfl ez ?_
  refine Z_go (f2 := (3, [(2, .int (Zi z)), (0, .long (l))], [])) (fun _ => rfl) ?_
  refine Z_go (f2 := (4, [(2, .int (Zi z)), (0, .long (l))], [.int (Zi z)])) (fun _ => rfl) ?_
  refine Z_ine rfl rfl (by first | exact hs.zF _ | exact Zor_r _ _ | exact hs.zA _ _ | assumption | exact zA _ _ | exact zS _ | exact Zr_not (hs.zA _ _) | exact ⟨by omega, by omega⟩) (fun c1 => ?_) (fun c1 => ?_)
  · refine Z_go (f2 := (22, [(2, .int (Zi z)), (0, .long (l))], [.int (Zi z)])) (fun _ => rfl) ?_
    refine Z_callQ (vs := [.int (Zi z)]) (rest := []) rfl (by decide) rfl rfl rfl (Nat.le_of_ble_eq_true rfl) (J_ntz _ (z)) (fun x q => ?_)
    obtain ⟨k, rfl, hk⟩ := q
    have k32 := hk.1
    show B_R _ _ (25, [(2, .int (Zi z)), (0, .long (l))], [.int (Zi (((k : Nat) : Int)))]) _ _ _
    refine Z_iret rfl rfl (by first | rfl | decide | exact narrow_b01 (by omega)) ⟨rfl, rfl, ?_⟩
    refine ⟨k, rfl, K_low ez hk ?_⟩
    refine Classical.byContradiction (fun c => c1 ?_)
    have : k = 32 := by omega
    subst this
    exact I_ntz_z zz hk
  · refine Z_go (f2 := (9, [(2, .int (Zi z)), (0, .long (l))], [.int (Zi 32)])) (fun _ => rfl) ?_
    refine Z_go (f2 := (10, [(2, .int (Zi z)), (0, .long (l))], [.long (l), .int (Zi 32)])) (fun _ => rfl) ?_
    refine Z_go (f2 := (12, [(2, .int (Zi z)), (0, .long (l))], [.int (Zi 32), .long (l), .int (Zi 32)])) (fun _ => rfl) ?_
    refine Z_go (f2 := (13, [(2, .int (Zi z)), (0, .long (l))], [.long (((l : Int64).toUInt64 >>> ((Zi 32).toInt64.toUInt64 &&& Int64.toUInt64 63)).toInt64), .int (Zi 32)])) (fun _ => rfl) ?_
    refine Z_l2i rfl ey ?_
    refine Z_callQ (vs := [.int (Zi y)]) (rest := [.int (Zi 32)]) rfl (by decide) rfl rfl rfl (Nat.le_of_ble_eq_true rfl) (J_ntz _ (y)) (fun x q => ?_)
    obtain ⟨k, rfl, hk⟩ := q
    have k32 := hk.1
    show B_R _ _ (17, [(2, .int (Zi z)), (0, .long (l))], [.int (Zi (((k : Nat) : Int))), .int (Zi 32)]) _ _ _
    refine Z_iadd rfl ?_
    refine Z_go (f2 := (25, [(2, .int (Zi z)), (0, .long (l))], [.int (Zi (32 + (((k : Nat) : Int))))])) (fun _ => rfl) ?_
    refine Z_iret rfl rfl (by first | rfl | decide | exact narrow_b01 (by omega)) ⟨rfl, rfl, ?_⟩
    refine ⟨32 + k, ?_, K_high ez (by omega) em ey hk⟩
    rw [show ((32 + k : Nat) : Int) = 32 + (k : Int) by omega]
