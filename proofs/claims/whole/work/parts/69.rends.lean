/-! the reference: ends of texts -/
/-- an end: of no, of one, of two bytes -/
def X_v (e : Int) : Prop := e = 0 ∨ 65536 ≤ e ∧ e < 131072 ∧ e % 256 = 0 ∨ 131072 ≤ e ∧ e < 196608
def X_dec (e : Int) : List Int := if e < 65536 then [] else if e < 131072 then [e / 256 % 256] else [e / 256 % 256, e % 256]
theorem X_dec_inj {a b : Int} (ha : X_v a) (hb : X_v b) (h : X_dec a = X_dec b) : a = b := by
  unfold X_dec at h
  unfold X_v at ha hb
  split at h
  · split at h
    · omega
    · split at h <;> cases h
  · split at h
    · split at h
      · cases h
      · split at h
        · injection h with h1 h2
          omega
        · injection h with h1 h2
          cases h2
    · split at h
      · cases h
      · split at h
        · injection h with h1 h2
          cases h2
        · injection h with h1 h2
          injection h2 with h2 h3
          omega
/-- a lies in b at its begin, or at its end -/
def X_pp (hd a b : Int) : Prop := a = 0 ∨ a = b ∨ a / 65536 = 1 ∧ 1 ≤ b / 65536 ∧ a / 256 % 256 = (if hd ≠ 0 ∨ b / 65536 = 1 then b / 256 % 256 else b % 256)
theorem X_pp_hd {hd a b : Int} (h : hd ≠ 0) (ha : X_v a) (hb : X_v b) : X_pp hd a b ↔ X_dec a <+: X_dec b := by
  unfold X_pp
  rw [if_pos (.inl h)]
  have e : X_dec a = X_dec b ↔ a = b := ⟨X_dec_inj ha hb, fun q => by rw [q]⟩
  unfold X_v at ha hb
  rcases ha with ha | ha | ha
  · subst ha
    exact ⟨fun _ => List.nil_prefix, fun _ => .inl rfl⟩
  · have d1 : X_dec a = [a / 256 % 256] := by unfold X_dec; rw [if_neg (by omega), if_pos (by omega)]
    rcases hb with hb | hb | hb
    · subst hb
      have d2 : X_dec 0 = [] := rfl
      rw [d1, d2]
      exact ⟨fun q => by omega, fun q => by simp at q⟩
    · have d2 : X_dec b = [b / 256 % 256] := by unfold X_dec; rw [if_neg (by omega), if_pos (by omega)]
      rw [d1, d2]
      constructor
      · intro q
        have : a / 256 % 256 = b / 256 % 256 := by omega
        rw [this]
        exact List.prefix_refl _
      · intro q
        have := List.cons_prefix_cons.mp q
        exact .inr (.inl (by omega))
    · have d2 : X_dec b = [b / 256 % 256, b % 256] := by unfold X_dec; rw [if_neg (by omega), if_neg (by omega)]
      rw [d1, d2, List.cons_prefix_cons]
      constructor
      · intro q
        exact ⟨by omega, List.nil_prefix⟩
      · intro q
        exact .inr (.inr ⟨by omega, by omega, q.1⟩)
  · have d1 : X_dec a = [a / 256 % 256, a % 256] := by unfold X_dec; rw [if_neg (by omega), if_neg (by omega)]
    constructor
    · intro q
      have : a = b := by omega
      rw [this]
      exact List.prefix_refl _
    · intro q
      refine .inr (.inl (e.mp ?_))
      rw [d1] at q ⊢
      refine List.IsPrefix.eq_of_length_le q ?_
      unfold X_dec
      split
      · exact Nat.zero_le _
      · split
        · simp
        · simp
theorem X_pp_tl {hd a b : Int} (h : hd = 0) (ha : X_v a) (hb : X_v b) : X_pp hd a b ↔ X_dec a <:+ X_dec b := by
  unfold X_pp
  have e : X_dec a = X_dec b ↔ a = b := ⟨X_dec_inj ha hb, fun q => by rw [q]⟩
  unfold X_v at ha hb
  rcases ha with ha | ha | ha
  · subst ha
    exact ⟨fun _ => List.nil_suffix, fun _ => .inl rfl⟩
  · have d1 : X_dec a = [a / 256 % 256] := by unfold X_dec; rw [if_neg (by omega), if_pos (by omega)]
    rcases hb with hb | hb | hb
    · subst hb
      have d2 : X_dec 0 = [] := rfl
      rw [d1, d2]
      exact ⟨fun q => by omega, fun q => by simp at q⟩
    · have d2 : X_dec b = [b / 256 % 256] := by unfold X_dec; rw [if_neg (by omega), if_pos (by omega)]
      rw [d1, d2, if_pos (.inr (by omega))]
      constructor
      · intro q
        have : a / 256 % 256 = b / 256 % 256 := by omega
        rw [this]
        exact List.suffix_refl _
      · intro q
        have q := List.IsSuffix.eq_of_length q rfl
        injection q with q1 q2
        exact .inr (.inl (by omega))
    · have d2 : X_dec b = [b / 256 % 256, b % 256] := by unfold X_dec; rw [if_neg (by omega), if_neg (by omega)]
      rw [d1, d2, if_neg (by omega)]
      constructor
      · intro q
        have : a / 256 % 256 = b % 256 := by omega
        rw [this]
        exact ⟨[b / 256 % 256], rfl⟩
      · rintro ⟨t, ht⟩
        have := congrArg List.reverse ht
        simp at this
        exact .inr (.inr ⟨by omega, by omega, this.1⟩)
  · have d1 : X_dec a = [a / 256 % 256, a % 256] := by unfold X_dec; rw [if_neg (by omega), if_neg (by omega)]
    constructor
    · intro q
      have : a = b := by
        rcases q with q | q | q
        · omega
        · exact q
        · omega
      rw [this]
      exact List.suffix_refl _
    · intro q
      refine .inr (.inl (e.mp ?_))
      rw [d1] at q ⊢
      refine List.IsSuffix.eq_of_length_le q ?_
      unfold X_dec
      split
      · exact Nat.zero_le _
      · split
        · simp
        · simp
theorem R_sizeOf (d : Nat) {e : Int}  (ze : Zr e) (he : 0 ≤ e) (h1 : e < 2147483648) : Q_ok (d + 1) 213 [.int (Zi e)] (fun x => x = some (.int (Zi (e / 65536)))) := by
  refine Q_enter (M := E_m213) rfl (Nat.le_of_ble_eq_true rfl) (fun h => ?_)
  show B_R d _ (0, [(0, .int (Zi e))], []) _ _ _
  refine Z_go (f2 := (1, [(0, .int (Zi e))], [.int (Zi e)])) (fun _ => rfl) ?_
  refine Z_go (f2 := (3, [(0, .int (Zi e))], [.int (Zi 16), .int (Zi e)])) (fun _ => rfl) ?_
  refine Z_ishr rfl (by first | exact hs.zF _ | exact Zor_r _ _ | exact hs.zA _ _ | assumption | exact zA _ _ | exact zS _ | exact Zr_not (hs.zA _ _) | exact ⟨by omega, by omega⟩) (by omega) (by omega) (p := 65536) (by rfl) ?_
  refine Z_iret rfl rfl (by first | rfl | decide | exact narrow_b01 (by omega)) ⟨rfl, rfl, ?_⟩
  rfl
theorem R_firstOf (d : Nat) {e : Int}  (ze : Zr e) (he : 0 ≤ e) (h1 : e < 2147483648) : Q_ok (d + 1) 214 [.int (Zi e)] (fun x => x = some (.int (Zi (e / 256 % 256)))) := by
  refine Q_enter (M := E_m214) rfl (Nat.le_of_ble_eq_true rfl) (fun h => ?_)
  show B_R d _ (0, [(0, .int (Zi e))], []) _ _ _
  refine Z_go (f2 := (1, [(0, .int (Zi e))], [.int (Zi e)])) (fun _ => rfl) ?_
  refine Z_go (f2 := (3, [(0, .int (Zi e))], [.int (Zi 8), .int (Zi e)])) (fun _ => rfl) ?_
  refine Z_ishr rfl (by first | exact hs.zF _ | exact Zor_r _ _ | exact hs.zA _ _ | assumption | exact zA _ _ | exact zS _ | exact Zr_not (hs.zA _ _) | exact ⟨by omega, by omega⟩) (by omega) (by omega) (p := 256) (by rfl) ?_
  refine Z_go (f2 := (7, [(0, .int (Zi e))], [.int (Zi 255), .int (Zi (e / 256))])) (fun _ => rfl) ?_
  refine Z_and255 rfl ?_
  refine Z_iret rfl rfl (by first | rfl | decide | exact narrow_b01 (by omega)) ⟨rfl, rfl, ?_⟩
  rfl
theorem R_secondOf (d : Nat) {e : Int}  (ze : Zr e) (he : 0 ≤ e) (h1 : e < 2147483648) : Q_ok (d + 1) 215 [.int (Zi e)] (fun x => x = some (.int (Zi (e % 256)))) := by
  refine Q_enter (M := E_m215) rfl (Nat.le_of_ble_eq_true rfl) (fun h => ?_)
  show B_R d _ (0, [(0, .int (Zi e))], []) _ _ _
  refine Z_go (f2 := (1, [(0, .int (Zi e))], [.int (Zi e)])) (fun _ => rfl) ?_
  refine Z_go (f2 := (4, [(0, .int (Zi e))], [.int (Zi 255), .int (Zi e)])) (fun _ => rfl) ?_
  refine Z_and255 rfl ?_
  refine Z_iret rfl rfl (by first | rfl | decide | exact narrow_b01 (by omega)) ⟨rfl, rfl, ?_⟩
  rfl
theorem R_endOf (d : Nat) {n a b : Int}  (zn : Zr n) (za : Zr a) (zb : Zr b) : Q_ok (d + 1) 216 [.int (Zi n), .int (Zi a), .int (Zi b)] (fun x => x = some (.int (Zi (if n = 0 then 0 else if n = 1 then 65536 + 256 * a else 131072 + 256 * a + b)))) := by
  refine Q_enter (M := E_m216) rfl (Nat.le_of_ble_eq_true rfl) (fun h => ?_)
  show B_R d _ (0, [(0, .int (Zi n)), (1, .int (Zi a)), (2, .int (Zi b))], []) _ _ _
  refine Z_go (f2 := (1, [(0, .int (Zi n)), (1, .int (Zi a)), (2, .int (Zi b))], [.int (Zi n)])) (fun _ => rfl) ?_
  refine Z_ine rfl rfl (by first | exact hs.zF _ | exact Zor_r _ _ | exact hs.zA _ _ | assumption | exact zA _ _ | exact zS _ | exact Zr_not (hs.zA _ _) | exact ⟨by omega, by omega⟩) (fun c1 => ?_) (fun c1 => ?_)
  · refine Z_go (f2 := (9, [(0, .int (Zi n)), (1, .int (Zi a)), (2, .int (Zi b))], [.int (Zi n)])) (fun _ => rfl) ?_
    refine Z_go (f2 := (10, [(0, .int (Zi n)), (1, .int (Zi a)), (2, .int (Zi b))], [.int (Zi 1), .int (Zi n)])) (fun _ => rfl) ?_
    refine Z_cne rfl rfl (by first | exact hs.zF _ | exact Zor_r _ _ | exact hs.zA _ _ | assumption | exact zA _ _ | exact zS _ | exact Zr_not (hs.zA _ _) | exact ⟨by omega, by omega⟩) (by first | exact hs.zF _ | exact Zor_r _ _ | exact hs.zA _ _ | assumption | exact zA _ _ | exact zS _ | exact Zr_not (hs.zA _ _) | exact ⟨by omega, by omega⟩) (fun c2 => ?_) (fun c2 => ?_)
    · refine Z_go (f2 := (27, [(0, .int (Zi n)), (1, .int (Zi a)), (2, .int (Zi b))], [.int (Zi 131072)])) (fun _ => rfl) ?_
      refine Z_go (f2 := (30, [(0, .int (Zi n)), (1, .int (Zi a)), (2, .int (Zi b))], [.int (Zi 256), .int (Zi 131072)])) (fun _ => rfl) ?_
      refine Z_go (f2 := (31, [(0, .int (Zi n)), (1, .int (Zi a)), (2, .int (Zi b))], [.int (Zi a), .int (Zi 256), .int (Zi 131072)])) (fun _ => rfl) ?_
      refine Z_imul rfl ?_
      refine Z_iadd rfl ?_
      refine Z_go (f2 := (34, [(0, .int (Zi n)), (1, .int (Zi a)), (2, .int (Zi b))], [.int (Zi b), .int (Zi (131072 + (256 * a)))])) (fun _ => rfl) ?_
      refine Z_iadd rfl ?_
      refine Z_iret rfl rfl (by first | rfl | decide | exact narrow_b01 (by omega)) ⟨rfl, rfl, ?_⟩
      rw [if_neg (by omega), if_neg (by omega)]
    · refine Z_go (f2 := (15, [(0, .int (Zi n)), (1, .int (Zi a)), (2, .int (Zi b))], [.int (Zi 65536)])) (fun _ => rfl) ?_
      refine Z_go (f2 := (18, [(0, .int (Zi n)), (1, .int (Zi a)), (2, .int (Zi b))], [.int (Zi 256), .int (Zi 65536)])) (fun _ => rfl) ?_
      refine Z_go (f2 := (19, [(0, .int (Zi n)), (1, .int (Zi a)), (2, .int (Zi b))], [.int (Zi a), .int (Zi 256), .int (Zi 65536)])) (fun _ => rfl) ?_
      refine Z_imul rfl ?_
      refine Z_iadd rfl ?_
      refine Z_go (f2 := (35, [(0, .int (Zi n)), (1, .int (Zi a)), (2, .int (Zi b))], [.int (Zi (65536 + (256 * a)))])) (fun _ => rfl) ?_
      refine Z_iret rfl rfl (by first | rfl | decide | exact narrow_b01 (by omega)) ⟨rfl, rfl, ?_⟩
      rw [if_neg (by omega), if_pos (by omega)]
  · refine Z_go (f2 := (5, [(0, .int (Zi n)), (1, .int (Zi a)), (2, .int (Zi b))], [.int (Zi 0)])) (fun _ => rfl) ?_
    refine Z_go (f2 := (35, [(0, .int (Zi n)), (1, .int (Zi a)), (2, .int (Zi b))], [.int (Zi 0)])) (fun _ => rfl) ?_
    refine Z_iret rfl rfl (by first | rfl | decide | exact narrow_b01 (by omega)) ⟨rfl, rfl, ?_⟩
    rw [if_pos (by omega)]
theorem R_isPart (d : Nat) {e g hd : Int}  (ze : Zr e) (zg : Zr g) (zhd : Zr hd) (he : X_v e) (hg : X_v g) : Q_ok (d + 2) 217 [.int (Zi e), .int (Zi g), .int (Zi hd)] (fun x => ∃ v : Int, x = some (.int (Zi v)) ∧ (v = 1 ∧ X_pp hd e g ∨ v = 0 ∧ ¬ X_pp hd e g)) := by
  refine Q_enter (M := E_m217) rfl (Nat.le_of_ble_eq_true rfl) (fun h => ?_)
  show B_R (d + 1) _ (0, [(0, .int (Zi e)), (1, .int (Zi g)), (2, .int (Zi hd))], []) _ _ _
  unfold X_v at he hg
  refine Z_go (f2 := (1, [(0, .int (Zi e)), (1, .int (Zi g)), (2, .int (Zi hd))], [.int (Zi e)])) (fun _ => rfl) ?_
  refine Z_callQ (vs := [.int (Zi e)]) (rest := []) rfl (by decide) rfl rfl rfl (Nat.le_of_ble_eq_true rfl) (R_sizeOf _ (by first | assumption | exact ⟨by omega, by omega⟩) (by omega) (by omega)) (fun x q => ?_)
  obtain rfl := q
  show B_R _ _ (4, [(0, .int (Zi e)), (1, .int (Zi g)), (2, .int (Zi hd))], [.int (Zi (e / 65536))]) _ _ _
  refine Z_go (f2 := (5, [(3, .int (Zi (e / 65536))), (0, .int (Zi e)), (1, .int (Zi g)), (2, .int (Zi hd))], [])) (fun _ => rfl) ?_
  refine Z_go (f2 := (6, [(3, .int (Zi (e / 65536))), (0, .int (Zi e)), (1, .int (Zi g)), (2, .int (Zi hd))], [.int (Zi (e / 65536))])) (fun _ => rfl) ?_
  refine Z_ieq rfl rfl (by first | exact hs.zF _ | exact Zor_r _ _ | exact hs.zA _ _ | assumption | exact zA _ _ | exact zS _ | exact Zr_not (hs.zA _ _) | exact ⟨by omega, by omega⟩) (fun c1 => ?_) (fun c1 => ?_)
  · refine Z_go (f2 := (15, [(3, .int (Zi (e / 65536))), (0, .int (Zi e)), (1, .int (Zi g)), (2, .int (Zi hd))], [.int (Zi 1)])) (fun _ => rfl) ?_
    refine Z_iret rfl rfl (by first | rfl | decide | exact narrow_b01 (by omega)) ⟨rfl, rfl, ?_⟩
    refine ⟨_, rfl, .inl ⟨rfl, ?_⟩⟩
    unfold X_pp
    split <;> omega
  · refine Z_go (f2 := (10, [(3, .int (Zi (e / 65536))), (0, .int (Zi e)), (1, .int (Zi g)), (2, .int (Zi hd))], [.int (Zi e)])) (fun _ => rfl) ?_
    refine Z_go (f2 := (11, [(3, .int (Zi (e / 65536))), (0, .int (Zi e)), (1, .int (Zi g)), (2, .int (Zi hd))], [.int (Zi g), .int (Zi e)])) (fun _ => rfl) ?_
    refine Z_cne rfl rfl (by first | exact hs.zF _ | exact Zor_r _ _ | exact hs.zA _ _ | assumption | exact zA _ _ | exact zS _ | exact Zr_not (hs.zA _ _) | exact ⟨by omega, by omega⟩) (by first | exact hs.zF _ | exact Zor_r _ _ | exact hs.zA _ _ | assumption | exact zA _ _ | exact zS _ | exact Zr_not (hs.zA _ _) | exact ⟨by omega, by omega⟩) (fun c2 => ?_) (fun c2 => ?_)
    · refine Z_go (f2 := (17, [(3, .int (Zi (e / 65536))), (0, .int (Zi e)), (1, .int (Zi g)), (2, .int (Zi hd))], [.int (Zi (e / 65536))])) (fun _ => rfl) ?_
      refine Z_go (f2 := (18, [(3, .int (Zi (e / 65536))), (0, .int (Zi e)), (1, .int (Zi g)), (2, .int (Zi hd))], [.int (Zi g), .int (Zi (e / 65536))])) (fun _ => rfl) ?_
      refine Z_callQ (vs := [.int (Zi g)]) (rest := [.int (Zi (e / 65536))]) rfl (by decide) rfl rfl rfl (Nat.le_of_ble_eq_true rfl) (R_sizeOf _ (by first | assumption | exact ⟨by omega, by omega⟩) (by omega) (by omega)) (fun x q => ?_)
      obtain rfl := q
      show B_R _ _ (21, [(3, .int (Zi (e / 65536))), (0, .int (Zi e)), (1, .int (Zi g)), (2, .int (Zi hd))], [.int (Zi (g / 65536)), .int (Zi (e / 65536))]) _ _ _
      refine Z_cgt rfl rfl (by first | exact hs.zF _ | exact Zor_r _ _ | exact hs.zA _ _ | assumption | exact zA _ _ | exact zS _ | exact Zr_not (hs.zA _ _) | exact ⟨by omega, by omega⟩) (by first | exact hs.zF _ | exact Zor_r _ _ | exact hs.zA _ _ | assumption | exact zA _ _ | exact zS _ | exact Zr_not (hs.zA _ _) | exact ⟨by omega, by omega⟩) (fun c3 => ?_) (fun c3 => ?_)
      · refine Z_go (f2 := (30, [(3, .int (Zi (e / 65536))), (0, .int (Zi e)), (1, .int (Zi g)), (2, .int (Zi hd))], [.int (Zi 0)])) (fun _ => rfl) ?_
        refine Z_iret rfl rfl (by first | rfl | decide | exact narrow_b01 (by omega)) ⟨rfl, rfl, ?_⟩
        refine ⟨_, rfl, .inr ⟨rfl, ?_⟩⟩
        unfold X_pp
        split <;> omega
      · refine Z_go (f2 := (25, [(3, .int (Zi (e / 65536))), (0, .int (Zi e)), (1, .int (Zi g)), (2, .int (Zi hd))], [.int (Zi (e / 65536))])) (fun _ => rfl) ?_
        refine Z_go (f2 := (26, [(3, .int (Zi (e / 65536))), (0, .int (Zi e)), (1, .int (Zi g)), (2, .int (Zi hd))], [.int (Zi 2), .int (Zi (e / 65536))])) (fun _ => rfl) ?_
        refine Z_cne rfl rfl (by first | exact hs.zF _ | exact Zor_r _ _ | exact hs.zA _ _ | assumption | exact zA _ _ | exact zS _ | exact Zr_not (hs.zA _ _) | exact ⟨by omega, by omega⟩) (by first | exact hs.zF _ | exact Zor_r _ _ | exact hs.zA _ _ | assumption | exact zA _ _ | exact zS _ | exact Zr_not (hs.zA _ _) | exact ⟨by omega, by omega⟩) (fun c4 => ?_) (fun c4 => ?_)
        · refine Z_go (f2 := (32, [(3, .int (Zi (e / 65536))), (0, .int (Zi e)), (1, .int (Zi g)), (2, .int (Zi hd))], [.int (Zi e)])) (fun _ => rfl) ?_
          refine Z_callQ (vs := [.int (Zi e)]) (rest := []) rfl (by decide) rfl rfl rfl (Nat.le_of_ble_eq_true rfl) (R_firstOf _ (by first | assumption | exact ⟨by omega, by omega⟩) (by omega) (by omega)) (fun x q => ?_)
          obtain rfl := q
          show B_R _ _ (35, [(3, .int (Zi (e / 65536))), (0, .int (Zi e)), (1, .int (Zi g)), (2, .int (Zi hd))], [.int (Zi (e / 256 % 256))]) _ _ _
          refine Z_go (f2 := (36, [(3, .int (Zi (e / 65536))), (0, .int (Zi e)), (1, .int (Zi g)), (2, .int (Zi hd))], [.int (Zi hd), .int (Zi (e / 256 % 256))])) (fun _ => rfl) ?_
          refine Z_ine rfl rfl (by first | exact hs.zF _ | exact Zor_r _ _ | exact hs.zA _ _ | assumption | exact zA _ _ | exact zS _ | exact Zr_not (hs.zA _ _) | exact ⟨by omega, by omega⟩) (fun c5 => ?_) (fun c5 => ?_)
          · refine Z_go (f2 := (48, [(3, .int (Zi (e / 65536))), (0, .int (Zi e)), (1, .int (Zi g)), (2, .int (Zi hd))], [.int (Zi g), .int (Zi (e / 256 % 256))])) (fun _ => rfl) ?_
            refine Z_callQ (vs := [.int (Zi g)]) (rest := [.int (Zi (e / 256 % 256))]) rfl (by decide) rfl rfl rfl (Nat.le_of_ble_eq_true rfl) (R_firstOf _ (by first | assumption | exact ⟨by omega, by omega⟩) (by omega) (by omega)) (fun x q => ?_)
            obtain rfl := q
            show B_R _ _ (51, [(3, .int (Zi (e / 65536))), (0, .int (Zi e)), (1, .int (Zi g)), (2, .int (Zi hd))], [.int (Zi (g / 256 % 256)), .int (Zi (e / 256 % 256))]) _ _ _
            refine Z_go (f2 := (58, [(3, .int (Zi (e / 65536))), (0, .int (Zi e)), (1, .int (Zi g)), (2, .int (Zi hd))], [.int (Zi (g / 256 % 256)), .int (Zi (e / 256 % 256))])) (fun _ => rfl) ?_
            refine Z_cne rfl rfl (by first | exact hs.zF _ | exact Zor_r _ _ | exact hs.zA _ _ | assumption | exact zA _ _ | exact zS _ | exact Zr_not (hs.zA _ _) | exact ⟨by omega, by omega⟩) (by first | exact hs.zF _ | exact Zor_r _ _ | exact hs.zA _ _ | assumption | exact zA _ _ | exact zS _ | exact Zr_not (hs.zA _ _) | exact ⟨by omega, by omega⟩) (fun c6 => ?_) (fun c6 => ?_)
            · refine Z_go (f2 := (66, [(3, .int (Zi (e / 65536))), (0, .int (Zi e)), (1, .int (Zi g)), (2, .int (Zi hd))], [.int (Zi 0)])) (fun _ => rfl) ?_
              refine Z_iret rfl rfl (by first | rfl | decide | exact narrow_b01 (by omega)) ⟨rfl, rfl, ?_⟩
              refine ⟨_, rfl, .inr ⟨rfl, ?_⟩⟩
              unfold X_pp
              split <;> omega
            · refine Z_go (f2 := (62, [(3, .int (Zi (e / 65536))), (0, .int (Zi e)), (1, .int (Zi g)), (2, .int (Zi hd))], [.int (Zi 1)])) (fun _ => rfl) ?_
              refine Z_go (f2 := (66, [(3, .int (Zi (e / 65536))), (0, .int (Zi e)), (1, .int (Zi g)), (2, .int (Zi hd))], [.int (Zi 1)])) (fun _ => rfl) ?_
              refine Z_iret rfl rfl (by first | rfl | decide | exact narrow_b01 (by omega)) ⟨rfl, rfl, ?_⟩
              refine ⟨_, rfl, .inl ⟨rfl, ?_⟩⟩
              unfold X_pp
              split <;> omega
          · refine Z_go (f2 := (40, [(3, .int (Zi (e / 65536))), (0, .int (Zi e)), (1, .int (Zi g)), (2, .int (Zi hd))], [.int (Zi g), .int (Zi (e / 256 % 256))])) (fun _ => rfl) ?_
            refine Z_callQ (vs := [.int (Zi g)]) (rest := [.int (Zi (e / 256 % 256))]) rfl (by decide) rfl rfl rfl (Nat.le_of_ble_eq_true rfl) (R_sizeOf _ (by first | assumption | exact ⟨by omega, by omega⟩) (by omega) (by omega)) (fun x q => ?_)
            obtain rfl := q
            show B_R _ _ (43, [(3, .int (Zi (e / 65536))), (0, .int (Zi e)), (1, .int (Zi g)), (2, .int (Zi hd))], [.int (Zi (g / 65536)), .int (Zi (e / 256 % 256))]) _ _ _
            refine Z_go (f2 := (44, [(3, .int (Zi (e / 65536))), (0, .int (Zi e)), (1, .int (Zi g)), (2, .int (Zi hd))], [.int (Zi 1), .int (Zi (g / 65536)), .int (Zi (e / 256 % 256))])) (fun _ => rfl) ?_
            refine Z_cne rfl rfl (by first | exact hs.zF _ | exact Zor_r _ _ | exact hs.zA _ _ | assumption | exact zA _ _ | exact zS _ | exact Zr_not (hs.zA _ _) | exact ⟨by omega, by omega⟩) (by first | exact hs.zF _ | exact Zor_r _ _ | exact hs.zA _ _ | assumption | exact zA _ _ | exact zS _ | exact Zr_not (hs.zA _ _) | exact ⟨by omega, by omega⟩) (fun c7 => ?_) (fun c7 => ?_)
            · refine Z_go (f2 := (55, [(3, .int (Zi (e / 65536))), (0, .int (Zi e)), (1, .int (Zi g)), (2, .int (Zi hd))], [.int (Zi g), .int (Zi (e / 256 % 256))])) (fun _ => rfl) ?_
              refine Z_callQ (vs := [.int (Zi g)]) (rest := [.int (Zi (e / 256 % 256))]) rfl (by decide) rfl rfl rfl (Nat.le_of_ble_eq_true rfl) (R_secondOf _ (by first | assumption | exact ⟨by omega, by omega⟩) (by omega) (by omega)) (fun x q => ?_)
              obtain rfl := q
              show B_R _ _ (58, [(3, .int (Zi (e / 65536))), (0, .int (Zi e)), (1, .int (Zi g)), (2, .int (Zi hd))], [.int (Zi (g % 256)), .int (Zi (e / 256 % 256))]) _ _ _
              refine Z_cne rfl rfl (by first | exact hs.zF _ | exact Zor_r _ _ | exact hs.zA _ _ | assumption | exact zA _ _ | exact zS _ | exact Zr_not (hs.zA _ _) | exact ⟨by omega, by omega⟩) (by first | exact hs.zF _ | exact Zor_r _ _ | exact hs.zA _ _ | assumption | exact zA _ _ | exact zS _ | exact Zr_not (hs.zA _ _) | exact ⟨by omega, by omega⟩) (fun c8 => ?_) (fun c8 => ?_)
              · refine Z_go (f2 := (66, [(3, .int (Zi (e / 65536))), (0, .int (Zi e)), (1, .int (Zi g)), (2, .int (Zi hd))], [.int (Zi 0)])) (fun _ => rfl) ?_
                refine Z_iret rfl rfl (by first | rfl | decide | exact narrow_b01 (by omega)) ⟨rfl, rfl, ?_⟩
                refine ⟨_, rfl, .inr ⟨rfl, ?_⟩⟩
                unfold X_pp
                split <;> omega
              · refine Z_go (f2 := (62, [(3, .int (Zi (e / 65536))), (0, .int (Zi e)), (1, .int (Zi g)), (2, .int (Zi hd))], [.int (Zi 1)])) (fun _ => rfl) ?_
                refine Z_go (f2 := (66, [(3, .int (Zi (e / 65536))), (0, .int (Zi e)), (1, .int (Zi g)), (2, .int (Zi hd))], [.int (Zi 1)])) (fun _ => rfl) ?_
                refine Z_iret rfl rfl (by first | rfl | decide | exact narrow_b01 (by omega)) ⟨rfl, rfl, ?_⟩
                refine ⟨_, rfl, .inl ⟨rfl, ?_⟩⟩
                unfold X_pp
                split <;> omega
            · refine Z_go (f2 := (48, [(3, .int (Zi (e / 65536))), (0, .int (Zi e)), (1, .int (Zi g)), (2, .int (Zi hd))], [.int (Zi g), .int (Zi (e / 256 % 256))])) (fun _ => rfl) ?_
              refine Z_callQ (vs := [.int (Zi g)]) (rest := [.int (Zi (e / 256 % 256))]) rfl (by decide) rfl rfl rfl (Nat.le_of_ble_eq_true rfl) (R_firstOf _ (by first | assumption | exact ⟨by omega, by omega⟩) (by omega) (by omega)) (fun x q => ?_)
              obtain rfl := q
              show B_R _ _ (51, [(3, .int (Zi (e / 65536))), (0, .int (Zi e)), (1, .int (Zi g)), (2, .int (Zi hd))], [.int (Zi (g / 256 % 256)), .int (Zi (e / 256 % 256))]) _ _ _
              refine Z_go (f2 := (58, [(3, .int (Zi (e / 65536))), (0, .int (Zi e)), (1, .int (Zi g)), (2, .int (Zi hd))], [.int (Zi (g / 256 % 256)), .int (Zi (e / 256 % 256))])) (fun _ => rfl) ?_
              refine Z_cne rfl rfl (by first | exact hs.zF _ | exact Zor_r _ _ | exact hs.zA _ _ | assumption | exact zA _ _ | exact zS _ | exact Zr_not (hs.zA _ _) | exact ⟨by omega, by omega⟩) (by first | exact hs.zF _ | exact Zor_r _ _ | exact hs.zA _ _ | assumption | exact zA _ _ | exact zS _ | exact Zr_not (hs.zA _ _) | exact ⟨by omega, by omega⟩) (fun c9 => ?_) (fun c9 => ?_)
              · refine Z_go (f2 := (66, [(3, .int (Zi (e / 65536))), (0, .int (Zi e)), (1, .int (Zi g)), (2, .int (Zi hd))], [.int (Zi 0)])) (fun _ => rfl) ?_
                refine Z_iret rfl rfl (by first | rfl | decide | exact narrow_b01 (by omega)) ⟨rfl, rfl, ?_⟩
                refine ⟨_, rfl, .inr ⟨rfl, ?_⟩⟩
                unfold X_pp
                split <;> omega
              · refine Z_go (f2 := (62, [(3, .int (Zi (e / 65536))), (0, .int (Zi e)), (1, .int (Zi g)), (2, .int (Zi hd))], [.int (Zi 1)])) (fun _ => rfl) ?_
                refine Z_go (f2 := (66, [(3, .int (Zi (e / 65536))), (0, .int (Zi e)), (1, .int (Zi g)), (2, .int (Zi hd))], [.int (Zi 1)])) (fun _ => rfl) ?_
                refine Z_iret rfl rfl (by first | rfl | decide | exact narrow_b01 (by omega)) ⟨rfl, rfl, ?_⟩
                refine ⟨_, rfl, .inl ⟨rfl, ?_⟩⟩
                unfold X_pp
                split <;> omega
        · refine Z_go (f2 := (30, [(3, .int (Zi (e / 65536))), (0, .int (Zi e)), (1, .int (Zi g)), (2, .int (Zi hd))], [.int (Zi 0)])) (fun _ => rfl) ?_
          refine Z_iret rfl rfl (by first | rfl | decide | exact narrow_b01 (by omega)) ⟨rfl, rfl, ?_⟩
          refine ⟨_, rfl, .inr ⟨rfl, ?_⟩⟩
          unfold X_pp
          split <;> omega
    · refine Z_go (f2 := (15, [(3, .int (Zi (e / 65536))), (0, .int (Zi e)), (1, .int (Zi g)), (2, .int (Zi hd))], [.int (Zi 1)])) (fun _ => rfl) ?_
      refine Z_iret rfl rfl (by first | rfl | decide | exact narrow_b01 (by omega)) ⟨rfl, rfl, ?_⟩
      refine ⟨_, rfl, .inl ⟨rfl, ?_⟩⟩
      unfold X_pp
      split <;> omega
