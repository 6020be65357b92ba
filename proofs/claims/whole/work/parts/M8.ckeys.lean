/-! the class: keys of ends -/
theorem C_keyOf (d : Nat) {a b : Int}  (za : Zr a) (zb : Zr b) : Q_ok (d + 1) 171 [.int (Zi a), .int (Zi b)] (fun x => x = some (.int (Zi ((a + 1) * 257 + b + 1)))) := by
  refine Q_enter (M := E_m171) rfl (Nat.le_of_ble_eq_true rfl) (fun h => ?_)
  show B_R d _ (0, [(0, .int (Zi a)), (1, .int (Zi b))], []) _ _ _
  refine Z_go (f2 := (1, [(0, .int (Zi a)), (1, .int (Zi b))], [.int (Zi a)])) (fun _ => rfl) ?_
  refine Z_go (f2 := (2, [(0, .int (Zi a)), (1, .int (Zi b))], [.int (Zi 1), .int (Zi a)])) (fun _ => rfl) ?_
  refine Z_iadd rfl ?_
  refine Z_go (f2 := (6, [(0, .int (Zi a)), (1, .int (Zi b))], [.int (Zi 257), .int (Zi (a + 1))])) (fun _ => rfl) ?_
  refine Z_imul rfl ?_
  refine Z_go (f2 := (8, [(0, .int (Zi a)), (1, .int (Zi b))], [.int (Zi b), .int (Zi ((a + 1) * 257))])) (fun _ => rfl) ?_
  refine Z_iadd rfl ?_
  refine Z_go (f2 := (10, [(0, .int (Zi a)), (1, .int (Zi b))], [.int (Zi 1), .int (Zi ((a + 1) * 257 + b))])) (fun _ => rfl) ?_
  refine Z_iadd rfl ?_
  refine Z_iret rfl rfl (by first | rfl | decide | exact narrow_b01 (by omega)) ⟨rfl, rfl, ?_⟩
  rfl
/-- the sign k of an end -/
def K_sg (a k : Int) : Int := if k = 0 then a / 257 - 1 else if k = 1 then a % 257 - 1 else -1
def K_ls (a : Int) : Int := if a % 257 = 0 then a / 257 - 1 else a % 257 - 1
theorem C_keySign (d : Nat) {a k : Int}  (za : Zr a) (zk : Zr k) (a0 : 0 ≤ a) (a1 : a < 2147483648) : Q_ok (d + 1) 172 [.int (Zi a), .int (Zi k)] (fun x => x = some (.int (Zi (K_sg a k)))) := by
  refine Q_enter (M := E_m172) rfl (Nat.le_of_ble_eq_true rfl) (fun h => ?_)
  show B_R d _ (0, [(0, .int (Zi a)), (1, .int (Zi k))], []) _ _ _
  refine Z_go (f2 := (1, [(0, .int (Zi a)), (1, .int (Zi k))], [.int (Zi k)])) (fun _ => rfl) ?_
  refine Z_ine rfl rfl (by first | exact hs.zF _ | exact Zor_r _ _ | exact hs.zA _ _ | assumption | exact zA _ _ | exact zS _ | exact Zr_not (hs.zA _ _) | exact ⟨by omega, by omega⟩) (fun c1 => ?_) (fun c1 => ?_)
  · refine Z_go (f2 := (13, [(0, .int (Zi a)), (1, .int (Zi k))], [.int (Zi k)])) (fun _ => rfl) ?_
    refine Z_go (f2 := (14, [(0, .int (Zi a)), (1, .int (Zi k))], [.int (Zi 1), .int (Zi k)])) (fun _ => rfl) ?_
    refine Z_cne rfl rfl (by first | exact hs.zF _ | exact Zor_r _ _ | exact hs.zA _ _ | assumption | exact zA _ _ | exact zS _ | exact Zr_not (hs.zA _ _) | exact ⟨by omega, by omega⟩) (by first | exact hs.zF _ | exact Zor_r _ _ | exact hs.zA _ _ | assumption | exact zA _ _ | exact zS _ | exact Zr_not (hs.zA _ _) | exact ⟨by omega, by omega⟩) (fun c2 => ?_) (fun c2 => ?_)
    · refine Z_go (f2 := (28, [(0, .int (Zi a)), (1, .int (Zi k))], [.int (Zi (-1))])) (fun _ => rfl) ?_
      refine Z_iret rfl rfl (by first | rfl | decide | exact narrow_b01 (by omega)) ⟨rfl, rfl, ?_⟩
      unfold K_sg
      first | rw [if_pos (by omega)] | rw [if_neg (by omega), if_pos (by omega)] | rw [if_neg (by omega), if_neg (by omega)]
    · refine Z_go (f2 := (18, [(0, .int (Zi a)), (1, .int (Zi k))], [.int (Zi a)])) (fun _ => rfl) ?_
      refine Z_go (f2 := (21, [(0, .int (Zi a)), (1, .int (Zi k))], [.int (Zi 257), .int (Zi a)])) (fun _ => rfl) ?_
      refine Z_irem rfl (by omega) (by omega) (by omega) (by omega) ?_
      refine Z_go (f2 := (23, [(0, .int (Zi a)), (1, .int (Zi k))], [.int (Zi 1), .int (Zi (a % 257))])) (fun _ => rfl) ?_
      refine Z_isub rfl ?_
      refine Z_go (f2 := (28, [(0, .int (Zi a)), (1, .int (Zi k))], [.int (Zi (a % 257 - 1))])) (fun _ => rfl) ?_
      refine Z_iret rfl rfl (by first | rfl | decide | exact narrow_b01 (by omega)) ⟨rfl, rfl, ?_⟩
      unfold K_sg
      first | rw [if_pos (by omega)] | rw [if_neg (by omega), if_pos (by omega)] | rw [if_neg (by omega), if_neg (by omega)]
  · refine Z_go (f2 := (5, [(0, .int (Zi a)), (1, .int (Zi k))], [.int (Zi a)])) (fun _ => rfl) ?_
    refine Z_go (f2 := (8, [(0, .int (Zi a)), (1, .int (Zi k))], [.int (Zi 257), .int (Zi a)])) (fun _ => rfl) ?_
    refine Z_idiv rfl (by omega) (by omega) (by omega) (by omega) ?_
    refine Z_go (f2 := (10, [(0, .int (Zi a)), (1, .int (Zi k))], [.int (Zi 1), .int (Zi (a / 257))])) (fun _ => rfl) ?_
    refine Z_isub rfl ?_
    refine Z_iret rfl rfl (by first | rfl | decide | exact narrow_b01 (by omega)) ⟨rfl, rfl, ?_⟩
    unfold K_sg
    first | rw [if_pos (by omega)] | rw [if_neg (by omega), if_pos (by omega)] | rw [if_neg (by omega), if_neg (by omega)]
theorem C_lastSign (d : Nat) {a : Int}  (za : Zr a) (a0 : 0 ≤ a) (a1 : a < 2147483648) : Q_ok (d + 2) 173 [.int (Zi a)] (fun x => x = some (.int (Zi (K_ls a)))) := by
  refine Q_enter (M := E_m173) rfl (Nat.le_of_ble_eq_true rfl) (fun h => ?_)
  show B_R (d + 1) _ (0, [(0, .int (Zi a))], []) _ _ _
  refine Z_go (f2 := (1, [(0, .int (Zi a))], [.int (Zi a)])) (fun _ => rfl) ?_
  refine Z_go (f2 := (4, [(0, .int (Zi a))], [.int (Zi 257), .int (Zi a)])) (fun _ => rfl) ?_
  refine Z_irem rfl (by omega) (by omega) (by omega) (by omega) ?_
  refine Z_ine rfl rfl (by first | exact hs.zF _ | exact Zor_r _ _ | exact hs.zA _ _ | assumption | exact zA _ _ | exact zS _ | exact Zr_not (hs.zA _ _) | exact ⟨by omega, by omega⟩) (fun c1 => ?_) (fun c1 => ?_)
  · refine Z_go (f2 := (17, [(0, .int (Zi a))], [.int (Zi a)])) (fun _ => rfl) ?_
    refine Z_go (f2 := (18, [(0, .int (Zi a))], [.int (Zi 1), .int (Zi a)])) (fun _ => rfl) ?_
    refine Z_callQ (vs := [.int (Zi a), .int (Zi 1)]) (rest := []) rfl (by decide) rfl rfl rfl (Nat.le_of_ble_eq_true rfl) (C_keySign _ (a := a) (k := 1) za ⟨by omega, by omega⟩ a0 a1) (fun x q => ?_)
    obtain rfl := q
    show B_R _ _ (21, [(0, .int (Zi a))], [.int (Zi (K_sg a 1))]) _ _ _
    refine Z_iret rfl rfl (by first | rfl | decide | exact narrow_b01 (by omega)) ⟨rfl, rfl, ?_⟩
    simp [K_ls, K_sg, c1]
  · refine Z_go (f2 := (9, [(0, .int (Zi a))], [.int (Zi a)])) (fun _ => rfl) ?_
    refine Z_go (f2 := (10, [(0, .int (Zi a))], [.int (Zi 0), .int (Zi a)])) (fun _ => rfl) ?_
    refine Z_callQ (vs := [.int (Zi a), .int (Zi 0)]) (rest := []) rfl (by decide) rfl rfl rfl (Nat.le_of_ble_eq_true rfl) (C_keySign _ (a := a) (k := 0) za ⟨by omega, by omega⟩ a0 a1) (fun x q => ?_)
    obtain rfl := q
    show B_R _ _ (13, [(0, .int (Zi a))], [.int (Zi (K_sg a 0))]) _ _ _
    refine Z_go (f2 := (21, [(0, .int (Zi a))], [.int (Zi (K_sg a 0))])) (fun _ => rfl) ?_
    refine Z_iret rfl rfl (by first | rfl | decide | exact narrow_b01 (by omega)) ⟨rfl, rfl, ?_⟩
    simp [K_ls, K_sg, c1]
