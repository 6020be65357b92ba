/-! the class: Tree: the next sign of a set -/
theorem I_or63 {n : Int} (n0 : 0 ≤ n) (n1 : n < 256) : Zi n ||| Zi 63 = Zi (n / 64 * 64 + 63) := by
  have h : ∀ k : Fin 256, Zi ((k.val : Nat) : Int) ||| Zi 63 = Zi (((k.val : Nat) : Int) / 64 * 64 + 63) := by decide +kernel
  have := h ⟨n.toNat, by omega⟩
  rw [show ((n.toNat : Nat) : Int) = n by omega] at this
  exact this
/-- the least sign of a set from a place on -/
def T_nx (β : Int → Int64) (c f z : Int) : Prop := (0 ≤ z ∧ f ≤ z ∧ T_has β c z ∧ ∀ j, 0 ≤ j → f ≤ j → j < z → ¬ T_has β c j) ∨ z = -1 ∧ ∀ j, 0 ≤ j → f ≤ j → ¬ T_has β c j
theorem T_sh_0 {b : Int64} {n : Int} (n0 : 0 ≤ n) (h : (b.toUInt64 >>> ((Zi (n % 64)).toInt64.toUInt64 &&& Int64.toUInt64 63)).toInt64 = 0) (j : Int) (j0 : n ≤ j) (j1 : j / 64 = n / 64) : ¬ T_bit b (j % 64).toNat := by
  have e := T_ushr b (k := n % 64) (by omega) (by omega)
  rw [h] at e
  unfold T_bit
  have := congrArg (fun v : BitVec 64 => v.getLsbD (j % 64 - n % 64).toNat) e
  simp only [BitVec.getLsbD_ushiftRight] at this
  rw [show (n % 64).toNat + (j % 64 - n % 64).toNat = (j % 64).toNat by omega] at this
  rw [← this]
  show ¬ (0#64).getLsbD _ = true
  rw [BitVec.getLsbD_zero]
  exact Bool.false_ne_true
theorem T_sh_k {b : Int64} {n : Int} {k : Nat} (n0 : 0 ≤ n) (h : ¬ (b.toUInt64 >>> ((Zi (n % 64)).toInt64.toUInt64 &&& Int64.toUInt64 63)).toInt64 = 0) (hk : K_ntz ((b.toUInt64 >>> ((Zi (n % 64)).toInt64.toUInt64 &&& Int64.toUInt64 63)).toInt64).toBitVec k) : (n + k) / 64 = n / 64 ∧ T_bit b ((n + k) % 64).toNat ∧ ∀ j, n ≤ j → j < n + k → ¬ T_bit b (j % 64).toNat := by
  have e := T_ushr b (k := n % 64) (by omega) (by omega)
  obtain ⟨k1, k2, k3⟩ := hk
  have hk64 : k < 64 := by
    refine Classical.byContradiction (fun c => h (Int64.toBitVec_inj.mp ?_))
    apply BitVec.eq_of_getLsbD_eq
    intro i hi
    rw [k2 i (by omega)]
    exact (BitVec.getLsbD_zero ..).symm
  have k4 := k3 hk64
  rw [e, BitVec.getLsbD_ushiftRight] at k4
  have hlt : (n % 64).toNat + k < 64 := by
    refine Classical.byContradiction (fun c => ?_)
    rw [BitVec.getLsbD_of_ge _ _ (by omega)] at k4
    cases k4
  refine ⟨by omega, ?_, fun j j0 j1 => ?_⟩
  · unfold T_bit
    rw [show ((n + k) % 64).toNat = (n % 64).toNat + k by omega]
    exact k4
  · have := k2 (j - n).toNat (by omega)
    rw [e, BitVec.getLsbD_ushiftRight, show (n % 64).toNat + (j - n).toNat = (j % 64).toNat by omega] at this
    unfold T_bit
    rw [this]
    exact Bool.false_ne_true
theorem C_nextIn_lp {d : Nat} {h0 h : E_H} {s : C_S} {p : List Nat} {o : Nat} {A : Nat → Nat} {m sm : Int} {τ : Nat → Int → Int} {β : Int → Int64} {c f : Int} (hs : C_is h0 h s) (hd : D_Tr s p o A m sm τ β) (zf : Zr f) (c0 : -1 ≤ c) (c1 : c < 80) : ∀ (t : Nat) (n : Int), (256 - n).toNat < t → 0 ≤ n → n ≤ 2147483647 → f ≤ n → (∀ j, 0 ≤ j → f ≤ j → j < n → ¬ T_has β c j) → B_R (d + 2) E_m137 (6, [(3, .int (Zi n)), (0, .ref o), (1, .int (Zi c)), (2, .int (Zi f))], []) h 0 (fun r => r.2.1 = h ∧ r.2.2 = 0 ∧ (fun x => ∃ z : Int, x = some (.int (Zi z)) ∧ T_nx β c f z) r.1) := by
  intro t
  induction t with
  | zero =>
    intro n ht n0 n1 fn hn
    exfalso; omega
  | succ t ih =>
    intro n ht n0 n1 fn hn
    have zn : Zr n := ⟨by omega, by omega⟩
    refine Z_go (f2 := (7, [(3, .int (Zi n)), (0, .ref o), (1, .int (Zi c)), (2, .int (Zi f))], [.int (Zi n)])) (fun _ => rfl) ?_
    refine Z_go (f2 := (10, [(3, .int (Zi n)), (0, .ref o), (1, .int (Zi c)), (2, .int (Zi f))], [.int (Zi 256), .int (Zi n)])) (fun _ => rfl) ?_
    refine Z_cge rfl rfl (by first | exact hs.zF _ _ | exact Zor_r _ _ | exact hs.zA _ _ | assumption | exact zA _ _ | exact zS _ | exact Zr_not (hs.zA _ _) | exact hs.1.1 _ _ | exact ⟨by omega, by omega⟩) (by first | exact hs.zF _ _ | exact Zor_r _ _ | exact hs.zA _ _ | assumption | exact zA _ _ | exact zS _ | exact Zr_not (hs.zA _ _) | exact hs.1.1 _ _ | exact ⟨by omega, by omega⟩) (fun c1 => ?_) (fun c1 => ?_)
    · refine Z_go (f2 := (71, [(3, .int (Zi n)), (0, .ref o), (1, .int (Zi c)), (2, .int (Zi f))], [.int (Zi (-1))])) (fun _ => rfl) ?_
      refine Z_iret rfl rfl (by first | rfl | decide | exact narrow_b01 (by omega)) ⟨rfl, rfl, ?_⟩
      try dsimp only
      refine ⟨-1, rfl, .inr ⟨rfl, fun j j0 j1 => ?_⟩⟩
      by_cases jn : j < n
      · exact hn j j0 j1 jn
      · rintro ⟨e1, e2, e3, e4⟩
        omega
    · refine Z_go (f2 := (14, [(3, .int (Zi n)), (0, .ref o), (1, .int (Zi c)), (2, .int (Zi f))], [.ref o])) (fun _ => rfl) ?_
      refine Z_go (f2 := (15, [(3, .int (Zi n)), (0, .ref o), (1, .int (Zi c)), (2, .int (Zi f))], [.int (Zi c), .ref o])) (fun _ => rfl) ?_
      refine Z_go (f2 := (16, [(3, .int (Zi n)), (0, .ref o), (1, .int (Zi c)), (2, .int (Zi f))], [.int (Zi n), .int (Zi c), .ref o])) (fun _ => rfl) ?_
      refine C_callVR (As := [.int (Zi c), .int (Zi n)]) (rest := []) rfl (by decide) rfl (by decide) rfl rfl (by decide +kernel) (Nat.le_of_ble_eq_true rfl) hs (hd).1.1 (C_word _ hd (c := c) (k := n) (by first | exact hs.zF _ _ | exact Zor_r _ _ | exact hs.zA _ _ | assumption | exact zA _ _ | exact zS _ | exact Zr_not (hs.zA _ _) | exact hs.1.1 _ _ | exact ⟨by omega, by omega⟩) (by omega) (by omega)) (fun x q => ?_)
      obtain ⟨wd101, ewd101⟩ : ∃ z : Int, z = T_wd c n := ⟨_, rfl⟩
      rw [← ewd101] at q
      obtain rfl := q
      have hwd101 : (0 ≤ c ∧ 0 ≤ n ∧ n ≤ 255) ∧ wd101 = 4 * c + n / 64 ∨ ¬ (0 ≤ c ∧ 0 ≤ n ∧ n ≤ 255) ∧ wd101 = -1 := by rw [ewd101]; unfold T_wd; split; exact .inl ⟨by assumption, rfl⟩; exact .inr ⟨by assumption, rfl⟩
      have zwd101 : Zr wd101 := ⟨by omega, by omega⟩
      show B_R _ _ (19, [(3, .int (Zi n)), (0, .ref o), (1, .int (Zi c)), (2, .int (Zi f))], [.int (Zi wd101)]) _ _ _
      refine Z_go (f2 := (21, [(4, .int (Zi wd101)), (3, .int (Zi n)), (0, .ref o), (1, .int (Zi c)), (2, .int (Zi f))], [])) (fun _ => rfl) ?_
      refine Z_go (f2 := (23, [(4, .int (Zi wd101)), (3, .int (Zi n)), (0, .ref o), (1, .int (Zi c)), (2, .int (Zi f))], [.int (Zi wd101)])) (fun _ => rfl) ?_
      refine Z_go (f2 := (24, [(4, .int (Zi wd101)), (3, .int (Zi n)), (0, .ref o), (1, .int (Zi c)), (2, .int (Zi f))], [.int (Zi (-1)), .int (Zi wd101)])) (fun _ => rfl) ?_
      refine Z_cne rfl rfl (by first | exact hs.zF _ _ | exact Zor_r _ _ | exact hs.zA _ _ | assumption | exact zA _ _ | exact zS _ | exact Zr_not (hs.zA _ _) | exact hs.1.1 _ _ | exact ⟨by omega, by omega⟩) (by first | exact hs.zF _ _ | exact Zor_r _ _ | exact hs.zA _ _ | assumption | exact zA _ _ | exact zS _ | exact Zr_not (hs.zA _ _) | exact hs.1.1 _ _ | exact ⟨by omega, by omega⟩) (fun c2 => ?_) (fun c2 => ?_)
      · refine Z_go (f2 := (32, [(4, .int (Zi wd101)), (3, .int (Zi n)), (0, .ref o), (1, .int (Zi c)), (2, .int (Zi f))], [.ref o])) (fun _ => rfl) ?_
        refine C_gr rfl hs (hd).1.1 (by decide) (Nat.le_of_ble_eq_true rfl) rfl ((hd).2.1 9 (by decide)).1 ?_
        refine Z_go (f2 := (37, [(4, .int (Zi wd101)), (3, .int (Zi n)), (0, .ref o), (1, .int (Zi c)), (2, .int (Zi f))], [.int (Zi wd101), .ref (A 9)])) (fun _ => rfl) ?_
        refine C_la rfl hs ((hd).2.1 9 (by decide)).2.2 (by omega) (by omega) ?_
        show B_R _ _ (38, [(4, .int (Zi wd101)), (3, .int (Zi n)), (0, .ref o), (1, .int (Zi c)), (2, .int (Zi f))], [.long (C_L s (A 9) wd101)]) _ _ _
        refine Z_go (f2 := (39, [(4, .int (Zi wd101)), (3, .int (Zi n)), (0, .ref o), (1, .int (Zi c)), (2, .int (Zi f))], [.int (Zi n), .long (C_L s (A 9) wd101)])) (fun _ => rfl) ?_
        refine Z_go (f2 := (41, [(4, .int (Zi wd101)), (3, .int (Zi n)), (0, .ref o), (1, .int (Zi c)), (2, .int (Zi f))], [.int (Zi 63), .int (Zi n), .long (C_L s (A 9) wd101)])) (fun _ => rfl) ?_
        refine Z_and63 rfl ?_
        refine Z_go (f2 := (43, [(4, .int (Zi wd101)), (3, .int (Zi n)), (0, .ref o), (1, .int (Zi c)), (2, .int (Zi f))], [.long (((C_L s (A 9) wd101 : Int64).toUInt64 >>> ((Zi (n % 64)).toInt64.toUInt64 &&& Int64.toUInt64 63)).toInt64)])) (fun _ => rfl) ?_
        refine Z_go (f2 := (45, [(5, .long (((C_L s (A 9) wd101 : Int64).toUInt64 >>> ((Zi (n % 64)).toInt64.toUInt64 &&& Int64.toUInt64 63)).toInt64)), (4, .int (Zi wd101)), (3, .int (Zi n)), (0, .ref o), (1, .int (Zi c)), (2, .int (Zi f))], [])) (fun _ => rfl) ?_
        refine Z_go (f2 := (47, [(5, .long (((C_L s (A 9) wd101 : Int64).toUInt64 >>> ((Zi (n % 64)).toInt64.toUInt64 &&& Int64.toUInt64 63)).toInt64)), (4, .int (Zi wd101)), (3, .int (Zi n)), (0, .ref o), (1, .int (Zi c)), (2, .int (Zi f))], [.long (((C_L s (A 9) wd101 : Int64).toUInt64 >>> ((Zi (n % 64)).toInt64.toUInt64 &&& Int64.toUInt64 63)).toInt64)])) (fun _ => rfl) ?_
        refine Z_go (f2 := (48, [(5, .long (((C_L s (A 9) wd101 : Int64).toUInt64 >>> ((Zi (n % 64)).toInt64.toUInt64 &&& Int64.toUInt64 63)).toInt64)), (4, .int (Zi wd101)), (3, .int (Zi n)), (0, .ref o), (1, .int (Zi c)), (2, .int (Zi f))], [.long (0), .long (((C_L s (A 9) wd101 : Int64).toUInt64 >>> ((Zi (n % 64)).toInt64.toUInt64 &&& Int64.toUInt64 63)).toInt64)])) (fun _ => rfl) ?_
        refine Z_lcmp rfl ?_
        obtain ⟨zl1, ezl1, hzl1, rzl1⟩ := Zl_ex (((C_L s (A 9) wd101 : Int64).toUInt64 >>> ((Zi (n % 64)).toInt64.toUInt64 &&& Int64.toUInt64 63)).toInt64) (0)
        rw [ezl1]
        show B_R _ _ (49, [(5, .long (((C_L s (A 9) wd101 : Int64).toUInt64 >>> ((Zi (n % 64)).toInt64.toUInt64 &&& Int64.toUInt64 63)).toInt64)), (4, .int (Zi wd101)), (3, .int (Zi n)), (0, .ref o), (1, .int (Zi c)), (2, .int (Zi f))], [.int (Zi zl1)]) _ _ _
        refine Z_ieq rfl rfl (by first | exact hs.zF _ _ | exact Zor_r _ _ | exact hs.zA _ _ | assumption | exact zA _ _ | exact zS _ | exact Zr_not (hs.zA _ _) | exact hs.1.1 _ _ | exact ⟨by omega, by omega⟩) (fun c3 => ?_) (fun c3 => ?_)
        · refine Z_go (f2 := (61, [(5, .long (((C_L s (A 9) wd101 : Int64).toUInt64 >>> ((Zi (n % 64)).toInt64.toUInt64 &&& Int64.toUInt64 63)).toInt64)), (4, .int (Zi wd101)), (3, .int (Zi n)), (0, .ref o), (1, .int (Zi c)), (2, .int (Zi f))], [.int (Zi n)])) (fun _ => rfl) ?_
          refine Z_go (f2 := (63, [(5, .long (((C_L s (A 9) wd101 : Int64).toUInt64 >>> ((Zi (n % 64)).toInt64.toUInt64 &&& Int64.toUInt64 63)).toInt64)), (4, .int (Zi wd101)), (3, .int (Zi n)), (0, .ref o), (1, .int (Zi c)), (2, .int (Zi f))], [.int (Zi 63), .int (Zi n)])) (fun _ => rfl) ?_
          refine Z_go (f2 := (64, [(5, .long (((C_L s (A 9) wd101 : Int64).toUInt64 >>> ((Zi (n % 64)).toInt64.toUInt64 &&& Int64.toUInt64 63)).toInt64)), (4, .int (Zi wd101)), (3, .int (Zi n)), (0, .ref o), (1, .int (Zi c)), (2, .int (Zi f))], [.int (Zi n ||| Zi 63)])) (fun _ => rfl) ?_
          rw [I_or63 n0 (by omega)]
          refine Z_go (f2 := (65, [(5, .long (((C_L s (A 9) wd101 : Int64).toUInt64 >>> ((Zi (n % 64)).toInt64.toUInt64 &&& Int64.toUInt64 63)).toInt64)), (4, .int (Zi wd101)), (3, .int (Zi n)), (0, .ref o), (1, .int (Zi c)), (2, .int (Zi f))], [.int (Zi 1), .int (Zi (n / 64 * 64 + 63))])) (fun _ => rfl) ?_
          refine Z_iadd rfl ?_
          refine Z_go (f2 := (67, [(3, .int (Zi (n / 64 * 64 + 63 + 1))), (5, .long (((C_L s (A 9) wd101 : Int64).toUInt64 >>> ((Zi (n % 64)).toInt64.toUInt64 &&& Int64.toUInt64 63)).toInt64)), (4, .int (Zi wd101)), (0, .ref o), (1, .int (Zi c)), (2, .int (Zi f))], [])) (fun _ => rfl) ?_
          refine Z_go (f2 := (6, [(3, .int (Zi (n / 64 * 64 + 63 + 1))), (5, .long (((C_L s (A 9) wd101 : Int64).toUInt64 >>> ((Zi (n % 64)).toInt64.toUInt64 &&& Int64.toUInt64 63)).toInt64)), (4, .int (Zi wd101)), (0, .ref o), (1, .int (Zi c)), (2, .int (Zi f))], [])) (fun _ => rfl) ?_
          refine B_loc (K := [(3, .int (Zi (n / 64 * 64 + 63 + 1))), (0, .ref o), (1, .int (Zi c)), (2, .int (Zi f))]) (N_all_sub ⟨rfl, rfl, rfl, rfl, trivial⟩) (show ([3, 0, 1, 2] : List Nat).Nodup by decide) ?_
          refine ih _ (by omega) (by omega) (by omega) (by omega) (fun j j0 j1 j2 => ?_)
          by_cases jn : j < n
          · exact hn j j0 j1 jn
          rintro ⟨e1, e2, e3, e4⟩
          first
          | (have hw : wd101 = 4 * c + n / 64 := by omega
             have hz := hzl1.mp (by omega)
             rw [hw, hd.2.2.2.2] at hz
             rw [show j / 64 = n / 64 by omega] at e4
             exact T_sh_0 n0 hz j (by omega) (by omega) e4)
          | (exfalso; omega)
        · refine Z_go (f2 := (53, [(5, .long (((C_L s (A 9) wd101 : Int64).toUInt64 >>> ((Zi (n % 64)).toInt64.toUInt64 &&& Int64.toUInt64 63)).toInt64)), (4, .int (Zi wd101)), (3, .int (Zi n)), (0, .ref o), (1, .int (Zi c)), (2, .int (Zi f))], [.int (Zi n)])) (fun _ => rfl) ?_
          refine Z_go (f2 := (55, [(5, .long (((C_L s (A 9) wd101 : Int64).toUInt64 >>> ((Zi (n % 64)).toInt64.toUInt64 &&& Int64.toUInt64 63)).toInt64)), (4, .int (Zi wd101)), (3, .int (Zi n)), (0, .ref o), (1, .int (Zi c)), (2, .int (Zi f))], [.long (((C_L s (A 9) wd101 : Int64).toUInt64 >>> ((Zi (n % 64)).toInt64.toUInt64 &&& Int64.toUInt64 63)).toInt64), .int (Zi n)])) (fun _ => rfl) ?_
          refine Z_callQ (vs := [.long (((C_L s (A 9) wd101 : Int64).toUInt64 >>> ((Zi (n % 64)).toInt64.toUInt64 &&& Int64.toUInt64 63)).toInt64)]) (rest := [.int (Zi n)]) rfl (by decide) rfl rfl rfl (Nat.le_of_ble_eq_true rfl) (J_ntzL _ (((C_L s (A 9) wd101 : Int64).toUInt64 >>> ((Zi (n % 64)).toInt64.toUInt64 &&& Int64.toUInt64 63)).toInt64)) (fun x q => ?_)
          obtain ⟨k9, rfl, hk9⟩ := q
          show B_R _ _ (58, [(5, .long (((C_L s (A 9) wd101 : Int64).toUInt64 >>> ((Zi (n % 64)).toInt64.toUInt64 &&& Int64.toUInt64 63)).toInt64)), (4, .int (Zi wd101)), (3, .int (Zi n)), (0, .ref o), (1, .int (Zi c)), (2, .int (Zi f))], [.int (Zi (((k9 : Nat) : Int))), .int (Zi n)]) _ _ _
          refine Z_iadd rfl ?_
          refine Z_iret rfl rfl (by first | rfl | decide | exact narrow_b01 (by omega)) ⟨rfl, rfl, ?_⟩
          try dsimp only
          first
          | (exfalso; have := hzl1.mpr rfl; omega)
          | (have hw : wd101 = 4 * c + n / 64 := by omega
             have hz : ¬ _ := fun e => (show ¬ zl1 = 0 by omega) (hzl1.mpr e)
             rw [hw, hd.2.2.2.2] at hz hk9
             obtain ⟨q1, q2, q3⟩ := T_sh_k n0 hz hk9
             refine ⟨n + k9, rfl, .inl ⟨by omega, by omega, ⟨by omega, by omega, by omega, ?_⟩, fun j j0 j1 j2 => ?_⟩⟩
             · rw [q1]; exact q2
             · by_cases jn : j < n
               · exact hn j j0 j1 jn
               · rintro ⟨e1, e2, e3, e4⟩
                 rw [show j / 64 = n / 64 by omega] at e4
                 exact q3 j (by omega) j2 e4)
      · refine Z_go (f2 := (28, [(4, .int (Zi wd101)), (3, .int (Zi n)), (0, .ref o), (1, .int (Zi c)), (2, .int (Zi f))], [.long (0)])) (fun _ => rfl) ?_
        refine Z_go (f2 := (43, [(4, .int (Zi wd101)), (3, .int (Zi n)), (0, .ref o), (1, .int (Zi c)), (2, .int (Zi f))], [.long (0)])) (fun _ => rfl) ?_
        refine Z_go (f2 := (45, [(5, .long (0)), (4, .int (Zi wd101)), (3, .int (Zi n)), (0, .ref o), (1, .int (Zi c)), (2, .int (Zi f))], [])) (fun _ => rfl) ?_
        refine Z_go (f2 := (47, [(5, .long (0)), (4, .int (Zi wd101)), (3, .int (Zi n)), (0, .ref o), (1, .int (Zi c)), (2, .int (Zi f))], [.long (0)])) (fun _ => rfl) ?_
        refine Z_go (f2 := (48, [(5, .long (0)), (4, .int (Zi wd101)), (3, .int (Zi n)), (0, .ref o), (1, .int (Zi c)), (2, .int (Zi f))], [.long (0), .long (0)])) (fun _ => rfl) ?_
        refine Z_lcmp rfl ?_
        obtain ⟨zl2, ezl2, hzl2, rzl2⟩ := Zl_ex (0) (0)
        rw [ezl2]
        show B_R _ _ (49, [(5, .long (0)), (4, .int (Zi wd101)), (3, .int (Zi n)), (0, .ref o), (1, .int (Zi c)), (2, .int (Zi f))], [.int (Zi zl2)]) _ _ _
        refine Z_ieq rfl rfl (by first | exact hs.zF _ _ | exact Zor_r _ _ | exact hs.zA _ _ | assumption | exact zA _ _ | exact zS _ | exact Zr_not (hs.zA _ _) | exact hs.1.1 _ _ | exact ⟨by omega, by omega⟩) (fun c4 => ?_) (fun c4 => ?_)
        · refine Z_go (f2 := (61, [(5, .long (0)), (4, .int (Zi wd101)), (3, .int (Zi n)), (0, .ref o), (1, .int (Zi c)), (2, .int (Zi f))], [.int (Zi n)])) (fun _ => rfl) ?_
          refine Z_go (f2 := (63, [(5, .long (0)), (4, .int (Zi wd101)), (3, .int (Zi n)), (0, .ref o), (1, .int (Zi c)), (2, .int (Zi f))], [.int (Zi 63), .int (Zi n)])) (fun _ => rfl) ?_
          refine Z_go (f2 := (64, [(5, .long (0)), (4, .int (Zi wd101)), (3, .int (Zi n)), (0, .ref o), (1, .int (Zi c)), (2, .int (Zi f))], [.int (Zi n ||| Zi 63)])) (fun _ => rfl) ?_
          rw [I_or63 n0 (by omega)]
          refine Z_go (f2 := (65, [(5, .long (0)), (4, .int (Zi wd101)), (3, .int (Zi n)), (0, .ref o), (1, .int (Zi c)), (2, .int (Zi f))], [.int (Zi 1), .int (Zi (n / 64 * 64 + 63))])) (fun _ => rfl) ?_
          refine Z_iadd rfl ?_
          refine Z_go (f2 := (67, [(3, .int (Zi (n / 64 * 64 + 63 + 1))), (5, .long (0)), (4, .int (Zi wd101)), (0, .ref o), (1, .int (Zi c)), (2, .int (Zi f))], [])) (fun _ => rfl) ?_
          refine Z_go (f2 := (6, [(3, .int (Zi (n / 64 * 64 + 63 + 1))), (5, .long (0)), (4, .int (Zi wd101)), (0, .ref o), (1, .int (Zi c)), (2, .int (Zi f))], [])) (fun _ => rfl) ?_
          refine B_loc (K := [(3, .int (Zi (n / 64 * 64 + 63 + 1))), (0, .ref o), (1, .int (Zi c)), (2, .int (Zi f))]) (N_all_sub ⟨rfl, rfl, rfl, rfl, trivial⟩) (show ([3, 0, 1, 2] : List Nat).Nodup by decide) ?_
          refine ih _ (by omega) (by omega) (by omega) (by omega) (fun j j0 j1 j2 => ?_)
          by_cases jn : j < n
          · exact hn j j0 j1 jn
          rintro ⟨e1, e2, e3, e4⟩
          first
          | (have hw : wd101 = 4 * c + n / 64 := by omega
             have hz := hzl2.mp (by omega)
             rw [hw, hd.2.2.2.2] at hz
             rw [show j / 64 = n / 64 by omega] at e4
             exact T_sh_0 n0 hz j (by omega) (by omega) e4)
          | (exfalso; omega)
        · refine Z_go (f2 := (53, [(5, .long (0)), (4, .int (Zi wd101)), (3, .int (Zi n)), (0, .ref o), (1, .int (Zi c)), (2, .int (Zi f))], [.int (Zi n)])) (fun _ => rfl) ?_
          refine Z_go (f2 := (55, [(5, .long (0)), (4, .int (Zi wd101)), (3, .int (Zi n)), (0, .ref o), (1, .int (Zi c)), (2, .int (Zi f))], [.long (0), .int (Zi n)])) (fun _ => rfl) ?_
          refine Z_callQ (vs := [.long (0)]) (rest := [.int (Zi n)]) rfl (by decide) rfl rfl rfl (Nat.le_of_ble_eq_true rfl) (J_ntzL _ (0)) (fun x q => ?_)
          obtain ⟨k9, rfl, hk9⟩ := q
          show B_R _ _ (58, [(5, .long (0)), (4, .int (Zi wd101)), (3, .int (Zi n)), (0, .ref o), (1, .int (Zi c)), (2, .int (Zi f))], [.int (Zi (((k9 : Nat) : Int))), .int (Zi n)]) _ _ _
          refine Z_iadd rfl ?_
          refine Z_iret rfl rfl (by first | rfl | decide | exact narrow_b01 (by omega)) ⟨rfl, rfl, ?_⟩
          try dsimp only
          first
          | (exfalso; have := hzl2.mpr rfl; omega)
          | (have hw : wd101 = 4 * c + n / 64 := by omega
             have hz : ¬ _ := fun e => (show ¬ zl2 = 0 by omega) (hzl2.mpr e)
             rw [hw, hd.2.2.2.2] at hz hk9
             obtain ⟨q1, q2, q3⟩ := T_sh_k n0 hz hk9
             refine ⟨n + k9, rfl, .inl ⟨by omega, by omega, ⟨by omega, by omega, by omega, ?_⟩, fun j j0 j1 j2 => ?_⟩⟩
             · rw [q1]; exact q2
             · by_cases jn : j < n
               · exact hn j j0 j1 jn
               · rintro ⟨e1, e2, e3, e4⟩
                 rw [show j / 64 = n / 64 by omega] at e4
                 exact q3 j (by omega) j2 e4)
theorem C_nextIn (d : Nat) {s : C_S} {p : List Nat} {o : Nat} {A : Nat → Nat} {m sm : Int} {τ : Nat → Int → Int} {β : Int → Int64} {c f : Int} (hd : D_Tr s p o A m sm τ β) (zf : Zr f) (c0 : -1 ≤ c) (c1 : c < 80) : C_rd (d + 3) 137 [.ref o, .int (Zi c), .int (Zi f)] s (fun x => ∃ z : Int, x = some (.int (Zi z)) ∧ T_nx β c f z) := by
  refine C_enterR (M := E_m137) rfl (Nat.le_of_ble_eq_true rfl) (fun h0 h hs => ?_)
  show B_R (d + 2) _ (0, [(0, .ref o), (1, .int (Zi c)), (2, .int (Zi f))], []) _ _ _
  obtain ⟨zf1, zf2⟩ := id zf
  refine Z_go (f2 := (1, [(0, .ref o), (1, .int (Zi c)), (2, .int (Zi f))], [.int (Zi 0)])) (fun _ => rfl) ?_
  refine Z_go (f2 := (2, [(0, .ref o), (1, .int (Zi c)), (2, .int (Zi f))], [.int (Zi f), .int (Zi 0)])) (fun _ => rfl) ?_
  refine C_max rfl (by first | exact hs.zF _ _ | exact Zor_r _ _ | exact hs.zA _ _ | assumption | exact zA _ _ | exact zS _ | exact Zr_not (hs.zA _ _) | exact hs.1.1 _ _ | exact ⟨by omega, by omega⟩) (by first | exact hs.zF _ _ | exact Zor_r _ _ | exact hs.zA _ _ | assumption | exact zA _ _ | exact zS _ | exact Zr_not (hs.zA _ _) | exact hs.1.1 _ _ | exact ⟨by omega, by omega⟩) (Nat.le_of_ble_eq_true rfl) ?_
  generalize em9 : (if 0 < f then f else 0) = m9
  have zm9 : Zr m9 := ⟨by omega, by omega⟩
  show B_R _ _ (5, [(0, .ref o), (1, .int (Zi c)), (2, .int (Zi f))], [.int (Zi m9)]) _ _ _
  refine Z_go (f2 := (6, [(3, .int (Zi m9)), (0, .ref o), (1, .int (Zi c)), (2, .int (Zi f))], [])) (fun _ => rfl) ?_
  refine B_loc (K := [(3, .int (Zi m9)), (0, .ref o), (1, .int (Zi c)), (2, .int (Zi f))]) (N_all_sub ⟨rfl, rfl, rfl, rfl, trivial⟩) (show ([3, 0, 1, 2] : List Nat).Nodup by decide) ?_
  exact C_nextIn_lp hs hd zf c0 c1 (257 + m9.natAbs) m9 (by omega) (by omega) (by omega) (by omega) (fun j j0 j1 j2 => by exfalso; omega)
