theorem Z_cnt {x : Int32} (h : ¬ (x.toInt < 0 ∨ 9 < x.toInt)) : ∃ k, k ≤ 9 ∧ x = nI k := by
  have h9 : (9 : Int32).toInt = 9 := by decide
  have h0 : (0 : Int32).toInt = 0 := by decide
  refine nI_of2 (M := 9) h9 (fun q => ?_) ?_
  · rw [Int32.lt_iff_toInt_lt] at q
    omega
  · rw [Int32.le_iff_toInt_le]
    omega
def E_isA (x : Option E_O) (t n : Nat) : Bool := match x with
  | some (.inl (t2, n2, .inl _)) => t2 == t && n2 == n
  | _ => false
theorem E_isA_ok {x : Option E_O} {t n : Nat} (h : E_isA x t n = true) : ∃ g : Nat → Int32, x = some (.inl (t, n, .inl g)) := by
  unfold E_isA at h
  split at h
  · rw [Bool.and_eq_true, beq_iff_eq, beq_iff_eq] at h
    rw [h.1, h.2]
    exact ⟨_, rfl⟩
  · cases h
theorem P_ta : (E_isA P_h[1]? 1 1000 && E_isA P_h[84]? 0 1000) = true := by decide +kernel
theorem P_feed (a b c d e : Int32) : L_two 4000 60 145 175 room_1.cells room_1.slots [a, b, c, d, e] P_h P_sl (P_J 1) := by
  obtain ⟨O0, -, -, -, -, O83, l1, l2⟩ := P_fa
  have hta := P_ta
  rw [Bool.and_eq_true] at hta
  obtain ⟨g1, A1⟩ := E_isA_ok hta.1
  obtain ⟨g2, A2⟩ := E_isA_ok hta.2
  obtain ⟨⟨x, h1, s1⟩, e1, ex, es, -, -, ek, el⟩ := X_feed 58 a b c d e O0 A1
  obtain ⟨⟨y, h2, s2⟩, e2, ey, es2, -, -, ek2, el2⟩ := Y_feed 59 a b c d e ((ek 83 (by decide) (by decide)).trans O83) ((ek 84 (by decide) (by decide)).trans A2)
  subst ex
  subst es
  subst ey
  subst es2
  have r9 : 2000000 ≤ room_1.slots := Nat.le_of_ble_eq_true rfl
  have r0 : 1000 ≤ room_1.cells := Nat.le_of_ble_eq_true rfl
  have r1 : h1.length ≤ room_1.cells := by omega
  have r2 : h2.length ≤ room_1.cells := by omega
  have r3 : P_sl + 0 + 0 ≤ room_1.slots := by omega
  exact ⟨20, h1, 0, h2, 0, _, _, e1, e2, O0, (ek 83 (by decide) (by decide)).trans O83, r1, r2, r3, fun h => absurd h (by decide), r2, r3⟩
theorem P_turns (a : Nat → Int32) (j : Nat) (hj : j < 32) : L_turn 4000 60 room_1.cells room_1.slots j a P_h P_sl (P_J 1) := by
  obtain ⟨O0, O2, O21, O78, O79, O83, l1, l2⟩ := P_fa
  match j, hj with
  | 0, _ => exact P_feed _ _ _ _ _
  | 1, _ =>
    show L_two 4000 60 146 176 room_1.cells room_1.slots [a 1] P_h P_sl (P_J 1)
    by_cases h0 : a 1 = 0
    · rw [h0]
      exact P_chk_two P_z_e0
    · exact P_two (as := [a 1]) (X_end 59 _ h0 O0) (Y_end 59 _ h0 O83)
  | 2, _ => exact P_chk_two P_z_add
  | 3, _ => exact P_two (as := [a 1]) (X_change 57 _ O0 O2) (Y_change 58 _ O83)
  | 4, _ => exact P_two (as := [a 1]) (X_remove 57 _ O0 O2) (Y_remove 58 _ O83)
  | 5, _ => exact P_two (as := [a 1]) (X_size 58 _ O0 O2) (Y_size 58 _ O83)
  | 6, _ => exact P_two (as := [a 1, a 2]) (X_byteAt 58 _ _ O0 O2) (Y_byteAt 58 _ _ O83)
  | 7, _ => exact P_two (as := [a 1, a 2]) (X_posting 58 _ _ O0 O2) (Y_posting 59 _ _ O83)
  | 8, _ =>
    show L_two 4000 60 153 276 room_1.cells room_1.slots [if a 1 = 0 then 0 else 1] P_h P_sl (P_J 1)
    by_cases h0 : a 1 = 0
    · rw [if_pos h0]
      exact P_chk_two P_z_s0
    · rw [if_neg h0]
      exact P_chk_two P_z_s1
  | 9, _ =>
    show L_two 4000 60 154 277 room_1.cells room_1.slots [a 1] P_h P_sl (P_J 1)
    by_cases h0 : a 1 = 0
    · rw [h0]
      exact P_chk_two P_z_f0
    · by_cases h1 : a 1 = 1
      · rw [h1]
        exact P_chk_two P_z_f1
      · exact P_two (as := [a 1]) (X_fault 59 _ h0 h1 O0) (Y_fault 59 _ h0 h1 O83)
  | 10, _ => exact P_two (as := [a 1, a 2]) (X_hit 58 _ _ O0 O78) (Y_hit 59 _ _ O83)
  | 11, _ => exact P_two (as := [a 1]) (X_opened 57 _ O0 O78 O79) (Y_opened 59 _ O83)
  | 12, _ => exact P_two (as := [a 1]) (X_choice 59 _ O0 O78) (Y_choice 59 _ O83)
  | 13, _ => exact P_gram _ _
  | 14, _ => exact P_two (as := [a 1]) (X_texts 59 _ O0 O78) (Y_texts 59 _ O83)
  | 15, _ => exact P_two (as := [a 1, a 2, a 3]) (X_text 58 _ _ _ O0 O78) (Y_text 59 _ _ _ O83)
  | 16, _ =>
    show L_two 4000 60 161 284 room_1.cells room_1.slots [a 1] P_h P_sl (P_J 1)
    by_cases hw : (a 1).toInt < 0 ∨ 9 < (a 1).toInt
    · exact P_two (as := [a 1]) (X_count 59 _ hw O0) (Y_count 59 _ hw O83)
    · obtain ⟨k, hk, e⟩ := Z_cnt hw
      rw [e]
      match k, hk with
      | 0, _ => exact P_chk_two P_z_c0
      | 1, _ => exact P_chk_two P_z_c1
      | 2, _ => exact P_chk_two P_z_c2
      | 3, _ => exact P_chk_two P_z_c3
      | 4, _ => exact P_chk_two P_z_c4
      | 5, _ => exact P_chk_two P_z_c5
      | 6, _ => exact P_chk_two P_z_c6
      | 7, _ => exact P_chk_two P_z_c7
      | 8, _ => exact P_chk_two P_z_c8
      | 9, _ => exact P_chk_two P_z_c9
      | q + 10, hk => exact absurd hk (by omega)
  | k + 17, _ => exact ⟨fun h => absurd h (by decide), Nat.le_trans l1 (Nat.le_of_ble_eq_true rfl), Nat.le_trans l2 (Nat.le_of_ble_eq_true rfl)⟩
/-- the law, from its entry, on every script of one call at most -/
theorem whole_start {p : Program} {e : Env} {s : State} {m : MethodId} {below : List Frame} {meth : Method} {c : Code} (l : Launch) {b L : Nat} {xs : Nat → Int32} (hL : L ≤ 6) (C0 : lw_At p s m meth c b L xs) : W p l e room_1 s m #[Value.ref b] below meth c s.heap [] 0 0 (lw_Z below #[Value.ref b] s) (entryFrame m ([Value.ref b] : List Value).toArray 4) := by
  have k1 := P_opt2 P_k1
  have k2 := P_opt2 P_k2
  have l83 : (P_gh P_r1).length = 83 := by
    have := k1.2
    unfold P_f1 at this
    exact beq_iff_eq.mp this
  obtain ⟨-, -, -, -, -, -, l1, l2⟩ := P_fa
  have r1 : P_h.length ≤ room_1.cells := Nat.le_trans l1 (Nat.le_of_ble_eq_true rfl)
  have r2 : P_sl ≤ room_1.slots := Nat.le_trans l2 (Nat.le_of_ble_eq_true rfl)
  refine L_start l C0 (fuel := 4000) (d := 60) (TT := 1) (h1 := P_gh P_r1) (h2 := P_h) (s1 := P_gs P_r1) (s2 := P_gs P_r2) (J := P_J) (by decide) (by omega) (by decide) k1.1 l83 k2.1 r1 r2 (fun t h sl ht hJ a j hj => ?_) (fun t h sl hJ => hJ.2) ⟨fun _ => ⟨rfl, rfl⟩, r1, r2⟩
  obtain rfl : t = 0 := by omega
  obtain ⟨e1, e2⟩ := hJ.1 rfl
  rw [e1, e2]
  exact P_turns a j hj
