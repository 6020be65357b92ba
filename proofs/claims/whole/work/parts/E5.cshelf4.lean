/-! the class: Shelf: holder, allGrams -/
/-- how many below k -/
noncomputable def D_ct (P : Int → Prop) (k : Nat) : Nat := match k with
  | 0 => 0
  | k + 1 => D_ct P k + c_if (P (k : Int)) 1 0
theorem D_ct_s1 {P : Int → Prop} {i : Int} (i0 : 0 ≤ i) (h : P i) : D_ct P (i + 1).toNat = D_ct P i.toNat + 1 := by
  rw [show (i + 1).toNat = i.toNat + 1 by omega]
  show D_ct P i.toNat + c_if (P ((i.toNat : Nat) : Int)) 1 0 = _
  rw [show ((i.toNat : Nat) : Int) = i by omega, c_pos h]
theorem D_ct_s0 {P : Int → Prop} {i : Int} (i0 : 0 ≤ i) (h : ¬ P i) : D_ct P (i + 1).toNat = D_ct P i.toNat := by
  rw [show (i + 1).toNat = i.toNat + 1 by omega]
  show D_ct P i.toNat + c_if (P ((i.toNat : Nat) : Int)) 1 0 = _
  rw [show ((i.toNat : Nat) : Int) = i by omega, c_neg h]
  rfl
theorem D_ct_le (P : Int → Prop) : ∀ k, D_ct P k ≤ k
  | 0 => Nat.le_refl _
  | k + 1 => by
    have := D_ct_le P k
    show D_ct P k + c_if (P (k : Int)) 1 0 ≤ k + 1
    by_cases h : P (k : Int)
    · rw [c_pos h]; omega
    · rw [c_neg h]; omega
def D_sm (φ : Int → Nat) (k : Nat) : Nat := match k with
  | 0 => 0
  | k + 1 => D_sm φ k + φ (k : Int)
theorem D_sm_s {φ : Int → Nat} {i : Int} (i0 : 0 ≤ i) : D_sm φ (i + 1).toNat = D_sm φ i.toNat + φ i := by
  rw [show (i + 1).toNat = i.toNat + 1 by omega]
  show D_sm φ i.toNat + φ ((i.toNat : Nat) : Int) = _
  rw [show ((i.toNat : Nat) : Int) = i by omega]
/-- has the gram -/
def D_hg (fs : Int → Option (List Int)) (ca v : Int) : Int → Prop := fun f => ∃ X, D_isf fs ca f X ∧ v ∈ L_gr X
def D_gl (fs : Int → Option (List Int)) (f : Int) : Nat := match fs f with
  | none => 0
  | some X => (L_gr X).length
theorem L_gr_len : ∀ X : List Int, (L_gr X).length ≤ X.length
  | [] => Nat.le_refl _
  | [_] => Nat.zero_le _
  | [_, _] => Nat.zero_le _
  | a :: b :: c :: r => by
    have := L_gr_len (b :: c :: r)
    have h2 := L_ins_le (L_gr (b :: c :: r)) (65536 * a + 256 * b + c)
    show (L_ins _ (L_gr (b :: c :: r))).length ≤ (b :: c :: r).length + 1
    omega
theorem C_holder_lp {d : Nat} {h0 h : E_H} {s : C_S} {p : List Nat} {o ea u v0 : Nat} {fs : Int → Option (List Int)} {ca th tg : Int} {v : Int} {k : Int} (hs : C_is h0 h s) (hd : D_Sh s p o ea u v0 fs ca th tg) (zv : Zr v) (zk : Zr k) : ∀ (t : Nat) (i ah : Int), ca - i < t → 0 ≤ i → i ≤ ca → ah = (D_ct (D_hg fs ca v) i.toNat : Int) → (ah ≤ k ∨ k < 0) → B_R (d + 2) E_m105 (5, [(4, .int (Zi i)), (3, .int (Zi ah)), (0, .ref o), (1, .int (Zi v)), (2, .int (Zi k))], []) h 0 (fun r => r.2.1 = h ∧ r.2.2 = 0 ∧ (fun x => ∃ z : Int, x = some (.int (Zi z)) ∧ (z = -1 ∧ (k < 0 ∨ (D_ct (D_hg fs ca v) ca.toNat : Int) ≤ k) ∨ 0 ≤ k ∧ 0 ≤ z ∧ z < ca ∧ D_hg fs ca v z ∧ (D_ct (D_hg fs ca v) z.toNat : Int) = k)) r.1) := by
  have hd0 := hd
  have w := hs.1
  obtain ⟨⟨ok, ot, oe, ou, ov, ek, et, oc, oh, og, ca0, ca1, uv⟩, g1, g2, g3, g4⟩ := hd
  have zc : Zr ca := ⟨by omega, by omega⟩
  intro t
  induction t with
  | zero => intro i ah ht i0 i1 ha hk; omega
  | succ t ih =>
    intro i ah ht i0 i1 ha hk
    have hle := D_ct_le (D_hg fs ca v) i.toNat
    have zf : Zr i := ⟨by omega, by omega⟩
    have za : Zr ah := ⟨by omega, by omega⟩
    by_cases hi2 : i < ca
    · rcases hd0.one i with ⟨e, ba, g, a, cap, X, hi, hq, he, hx, hcap⟩ | ⟨hn, hno⟩
      · refine Z_go (f2 := (7, [(4, .int (Zi i)), (3, .int (Zi ah)), (0, .ref o), (1, .int (Zi v)), (2, .int (Zi k))], [.int (Zi i)])) (fun _ => rfl) ?_
        refine Z_go (f2 := (8, [(4, .int (Zi i)), (3, .int (Zi ah)), (0, .ref o), (1, .int (Zi v)), (2, .int (Zi k))], [.ref o, .int (Zi i)])) (fun _ => rfl) ?_
        refine C_gi rfl hs ok (by decide) (Nat.le_of_ble_eq_true rfl) rfl ?_
        rw [show C_F (s) o 3 = ca from (by first | exact oc | exact (if_neg (fun e => absurd e.1 (by assumption))).trans oc | exact (if_neg (fun e => absurd e.2 (by decide))).trans oc | exact (if_neg (fun e => absurd e.2 (by decide))).trans ((if_neg (fun e => absurd e.2 (by decide))).trans oc) | exact (if_neg (fun e => absurd e.2 (by decide))).trans ((if_neg (fun e => absurd e.2 (by decide))).trans ((if_neg (fun e => absurd e.2 (by decide))).trans oc)))]
        show B_R _ _ (11, [(4, .int (Zi i)), (3, .int (Zi ah)), (0, .ref o), (1, .int (Zi v)), (2, .int (Zi k))], [.int (Zi ca), .int (Zi i)]) _ _ _
        refine Z_cge rfl rfl (by first | exact hs.zF _ _ | exact Zor_r _ _ | exact hs.zA _ _ | assumption | exact zA _ _ | exact zS _ | exact Zr_not (hs.zA _ _) | exact hs.1.1 _ _ | exact ⟨by omega, by omega⟩) (by first | exact hs.zF _ _ | exact Zor_r _ _ | exact hs.zA _ _ | assumption | exact zA _ _ | exact zS _ | exact Zr_not (hs.zA _ _) | exact hs.1.1 _ _ | exact ⟨by omega, by omega⟩) (fun c1 => ?_) (fun c1 => ?_)
        · refine Z_go (f2 := (61, [(4, .int (Zi i)), (3, .int (Zi ah)), (0, .ref o), (1, .int (Zi v)), (2, .int (Zi k))], [.int (Zi (-1))])) (fun _ => rfl) ?_
          refine Z_iret rfl rfl (by first | rfl | decide | exact narrow_b01 (by omega)) ⟨rfl, rfl, ?_⟩
          try dsimp only
          first
          | (exfalso; omega)
          | exact ⟨-1, rfl, .inl ⟨rfl, .inl (by omega)⟩⟩
        · refine Z_go (f2 := (15, [(4, .int (Zi i)), (3, .int (Zi ah)), (0, .ref o), (1, .int (Zi v)), (2, .int (Zi k))], [.int (Zi k)])) (fun _ => rfl) ?_
          refine Z_ilt rfl rfl (by first | exact hs.zF _ _ | exact Zor_r _ _ | exact hs.zA _ _ | assumption | exact zA _ _ | exact zS _ | exact Zr_not (hs.zA _ _) | exact hs.1.1 _ _ | exact ⟨by omega, by omega⟩) (fun c2 => ?_) (fun c2 => ?_)
          · refine Z_go (f2 := (61, [(4, .int (Zi i)), (3, .int (Zi ah)), (0, .ref o), (1, .int (Zi v)), (2, .int (Zi k))], [.int (Zi (-1))])) (fun _ => rfl) ?_
            refine Z_iret rfl rfl (by first | rfl | decide | exact narrow_b01 (by omega)) ⟨rfl, rfl, ?_⟩
            try dsimp only
            first
            | (exfalso; omega)
            | exact ⟨-1, rfl, .inl ⟨rfl, .inl (by omega)⟩⟩
          · refine Z_go (f2 := (19, [(4, .int (Zi i)), (3, .int (Zi ah)), (0, .ref o), (1, .int (Zi v)), (2, .int (Zi k))], [.ref o])) (fun _ => rfl) ?_
            refine Z_go (f2 := (21, [(4, .int (Zi i)), (3, .int (Zi ah)), (0, .ref o), (1, .int (Zi v)), (2, .int (Zi k))], [.int (Zi i), .ref o])) (fun _ => rfl) ?_
            refine C_callVR (As := [.int (Zi i)]) (rest := []) rfl (by decide) rfl (by decide) rfl rfl (by decide +kernel) (Nat.le_of_ble_eq_true rfl) hs ok (C_find1 _ hd0 (by omega) (by omega) hq) (fun x q => ?_)
            obtain rfl := q
            show B_R _ _ (24, [(4, .int (Zi i)), (3, .int (Zi ah)), (0, .ref o), (1, .int (Zi v)), (2, .int (Zi k))], [.ref e]) _ _ _
            refine Z_go (f2 := (26, [(5, .ref e), (4, .int (Zi i)), (3, .int (Zi ah)), (0, .ref o), (1, .int (Zi v)), (2, .int (Zi k))], [])) (fun _ => rfl) ?_
            refine Z_go (f2 := (28, [(5, .ref e), (4, .int (Zi i)), (3, .int (Zi ah)), (0, .ref o), (1, .int (Zi v)), (2, .int (Zi k))], [.ref e])) (fun _ => rfl) ?_
            refine Z_go (f2 := (31, [(5, .ref e), (4, .int (Zi i)), (3, .int (Zi ah)), (0, .ref o), (1, .int (Zi v)), (2, .int (Zi k))], [])) (fun _ => rfl) ?_
            refine Z_go (f2 := (33, [(5, .ref e), (4, .int (Zi i)), (3, .int (Zi ah)), (0, .ref o), (1, .int (Zi v)), (2, .int (Zi k))], [.ref e])) (fun _ => rfl) ?_
            refine C_gr rfl hs he.1 (by decide) (Nat.le_of_ble_eq_true rfl) rfl he.2.2.2.1 ?_
            refine Z_go (f2 := (37, [(5, .ref e), (4, .int (Zi i)), (3, .int (Zi ah)), (0, .ref o), (1, .int (Zi v)), (2, .int (Zi k))], [.int (Zi v), .ref g])) (fun _ => rfl) ?_
            refine C_callVR (As := [.int (Zi v)]) (rest := []) rfl (by decide) rfl (by decide) rfl rfl (by decide +kernel) (Nat.le_of_ble_eq_true rfl) hs he.2.2.2.2.2.2.2.2.1 (C_holds _ he.2.2.2.2.2.2.2.2 (L_gr_srt X) zv) (fun x q => ?_)
            obtain ⟨hz, rfl, hh⟩ := q
            have zhz : Zr hz := ⟨by omega, by omega⟩
            show B_R _ _ (40, [(5, .ref e), (4, .int (Zi i)), (3, .int (Zi ah)), (0, .ref o), (1, .int (Zi v)), (2, .int (Zi k))], [.int (Zi hz)]) _ _ _
            refine Z_ieq rfl rfl (by first | exact hs.zF _ _ | exact Zor_r _ _ | exact hs.zA _ _ | assumption | exact zA _ _ | exact zS _ | exact Zr_not (hs.zA _ _) | exact hs.1.1 _ _ | exact ⟨by omega, by omega⟩) (fun c3 => ?_) (fun c3 => ?_)
            · refine Z_iinc (L2 := [(4, .int (Zi (i + 1))), (5, .ref e), (3, .int (Zi ah)), (0, .ref o), (1, .int (Zi v)), (2, .int (Zi k))]) rfl rfl (by decide) rfl ?_
              refine Z_go (f2 := (5, [(4, .int (Zi (i + 1))), (5, .ref e), (3, .int (Zi ah)), (0, .ref o), (1, .int (Zi v)), (2, .int (Zi k))], [])) (fun _ => rfl) ?_
              have hP : ¬ D_hg fs ca v i := fun ⟨Y, hY, hm⟩ => by
                rw [hY.inj hi] at hm
                rcases hh with h | h
                · omega
                · exact h.2 hm
              refine B_loc (K := [(4, .int (Zi (i + 1))), (3, .int (Zi ah)), (0, .ref o), (1, .int (Zi v)), (2, .int (Zi k))]) (N_all_sub ⟨rfl, rfl, rfl, rfl, rfl, trivial⟩) (show ([4, 3, 0, 1, 2] : List Nat).Nodup by decide) ?_
              exact ih (i + 1) ah (by omega) (by omega) (by omega) (by rw [D_ct_s0 i0 hP]; omega) (by omega)
            · refine Z_go (f2 := (44, [(5, .ref e), (4, .int (Zi i)), (3, .int (Zi ah)), (0, .ref o), (1, .int (Zi v)), (2, .int (Zi k))], [.int (Zi ah)])) (fun _ => rfl) ?_
              refine Z_go (f2 := (45, [(5, .ref e), (4, .int (Zi i)), (3, .int (Zi ah)), (0, .ref o), (1, .int (Zi v)), (2, .int (Zi k))], [.int (Zi k), .int (Zi ah)])) (fun _ => rfl) ?_
              refine Z_cne rfl rfl (by first | exact hs.zF _ _ | exact Zor_r _ _ | exact hs.zA _ _ | assumption | exact zA _ _ | exact zS _ | exact Zr_not (hs.zA _ _) | exact hs.1.1 _ _ | exact ⟨by omega, by omega⟩) (by first | exact hs.zF _ _ | exact Zor_r _ _ | exact hs.zA _ _ | assumption | exact zA _ _ | exact zS _ | exact Zr_not (hs.zA _ _) | exact hs.1.1 _ _ | exact ⟨by omega, by omega⟩) (fun c4 => ?_) (fun c4 => ?_)
              · refine Z_iinc (L2 := [(3, .int (Zi (ah + 1))), (5, .ref e), (4, .int (Zi i)), (0, .ref o), (1, .int (Zi v)), (2, .int (Zi k))]) rfl rfl (by decide) rfl ?_
                refine Z_iinc (L2 := [(4, .int (Zi (i + 1))), (3, .int (Zi (ah + 1))), (5, .ref e), (0, .ref o), (1, .int (Zi v)), (2, .int (Zi k))]) rfl rfl (by decide) rfl ?_
                refine Z_go (f2 := (5, [(4, .int (Zi (i + 1))), (3, .int (Zi (ah + 1))), (5, .ref e), (0, .ref o), (1, .int (Zi v)), (2, .int (Zi k))], [])) (fun _ => rfl) ?_
                have hP : D_hg fs ca v i := ⟨X, hi, by rcases hh with h | h; exact h.2; exfalso; omega⟩
                refine B_loc (K := [(4, .int (Zi (i + 1))), (3, .int (Zi (ah + 1))), (0, .ref o), (1, .int (Zi v)), (2, .int (Zi k))]) (N_all_sub ⟨rfl, rfl, rfl, rfl, rfl, trivial⟩) (show ([4, 3, 0, 1, 2] : List Nat).Nodup by decide) ?_
                exact ih (i + 1) (ah + 1) (by omega) (by omega) (by omega) (by rw [D_ct_s1 i0 hP]; omega) (by omega)
              · refine Z_go (f2 := (50, [(5, .ref e), (4, .int (Zi i)), (3, .int (Zi ah)), (0, .ref o), (1, .int (Zi v)), (2, .int (Zi k))], [.int (Zi i)])) (fun _ => rfl) ?_
                refine Z_iret rfl rfl (by first | rfl | decide | exact narrow_b01 (by omega)) ⟨rfl, rfl, ?_⟩
                try dsimp only
                have hP : D_hg fs ca v i := ⟨X, hi, by rcases hh with h | h; exact h.2; exfalso; omega⟩
                exact ⟨i, rfl, .inr ⟨by omega, i0, by omega, hP, by omega⟩⟩
      · refine Z_go (f2 := (7, [(4, .int (Zi i)), (3, .int (Zi ah)), (0, .ref o), (1, .int (Zi v)), (2, .int (Zi k))], [.int (Zi i)])) (fun _ => rfl) ?_
        refine Z_go (f2 := (8, [(4, .int (Zi i)), (3, .int (Zi ah)), (0, .ref o), (1, .int (Zi v)), (2, .int (Zi k))], [.ref o, .int (Zi i)])) (fun _ => rfl) ?_
        refine C_gi rfl hs ok (by decide) (Nat.le_of_ble_eq_true rfl) rfl ?_
        rw [show C_F (s) o 3 = ca from (by first | exact oc | exact (if_neg (fun e => absurd e.1 (by assumption))).trans oc | exact (if_neg (fun e => absurd e.2 (by decide))).trans oc | exact (if_neg (fun e => absurd e.2 (by decide))).trans ((if_neg (fun e => absurd e.2 (by decide))).trans oc) | exact (if_neg (fun e => absurd e.2 (by decide))).trans ((if_neg (fun e => absurd e.2 (by decide))).trans ((if_neg (fun e => absurd e.2 (by decide))).trans oc)))]
        show B_R _ _ (11, [(4, .int (Zi i)), (3, .int (Zi ah)), (0, .ref o), (1, .int (Zi v)), (2, .int (Zi k))], [.int (Zi ca), .int (Zi i)]) _ _ _
        refine Z_cge rfl rfl (by first | exact hs.zF _ _ | exact Zor_r _ _ | exact hs.zA _ _ | assumption | exact zA _ _ | exact zS _ | exact Zr_not (hs.zA _ _) | exact hs.1.1 _ _ | exact ⟨by omega, by omega⟩) (by first | exact hs.zF _ _ | exact Zor_r _ _ | exact hs.zA _ _ | assumption | exact zA _ _ | exact zS _ | exact Zr_not (hs.zA _ _) | exact hs.1.1 _ _ | exact ⟨by omega, by omega⟩) (fun c1 => ?_) (fun c1 => ?_)
        · refine Z_go (f2 := (61, [(4, .int (Zi i)), (3, .int (Zi ah)), (0, .ref o), (1, .int (Zi v)), (2, .int (Zi k))], [.int (Zi (-1))])) (fun _ => rfl) ?_
          refine Z_iret rfl rfl (by first | rfl | decide | exact narrow_b01 (by omega)) ⟨rfl, rfl, ?_⟩
          try dsimp only
          first
          | (exfalso; omega)
          | exact ⟨-1, rfl, .inl ⟨rfl, .inl (by omega)⟩⟩
        · refine Z_go (f2 := (15, [(4, .int (Zi i)), (3, .int (Zi ah)), (0, .ref o), (1, .int (Zi v)), (2, .int (Zi k))], [.int (Zi k)])) (fun _ => rfl) ?_
          refine Z_ilt rfl rfl (by first | exact hs.zF _ _ | exact Zor_r _ _ | exact hs.zA _ _ | assumption | exact zA _ _ | exact zS _ | exact Zr_not (hs.zA _ _) | exact hs.1.1 _ _ | exact ⟨by omega, by omega⟩) (fun c2 => ?_) (fun c2 => ?_)
          · refine Z_go (f2 := (61, [(4, .int (Zi i)), (3, .int (Zi ah)), (0, .ref o), (1, .int (Zi v)), (2, .int (Zi k))], [.int (Zi (-1))])) (fun _ => rfl) ?_
            refine Z_iret rfl rfl (by first | rfl | decide | exact narrow_b01 (by omega)) ⟨rfl, rfl, ?_⟩
            try dsimp only
            first
            | (exfalso; omega)
            | exact ⟨-1, rfl, .inl ⟨rfl, .inl (by omega)⟩⟩
          · refine Z_go (f2 := (19, [(4, .int (Zi i)), (3, .int (Zi ah)), (0, .ref o), (1, .int (Zi v)), (2, .int (Zi k))], [.ref o])) (fun _ => rfl) ?_
            refine Z_go (f2 := (21, [(4, .int (Zi i)), (3, .int (Zi ah)), (0, .ref o), (1, .int (Zi v)), (2, .int (Zi k))], [.int (Zi i), .ref o])) (fun _ => rfl) ?_
            refine C_callVR (As := [.int (Zi i)]) (rest := []) rfl (by decide) rfl (by decide) rfl rfl (by decide +kernel) (Nat.le_of_ble_eq_true rfl) hs ok (C_find0 _ hd0 hn zf) (fun x q => ?_)
            obtain rfl := q
            show B_R _ _ (24, [(4, .int (Zi i)), (3, .int (Zi ah)), (0, .ref o), (1, .int (Zi v)), (2, .int (Zi k))], [.null]) _ _ _
            refine Z_go (f2 := (26, [(5, .null), (4, .int (Zi i)), (3, .int (Zi ah)), (0, .ref o), (1, .int (Zi v)), (2, .int (Zi k))], [])) (fun _ => rfl) ?_
            refine Z_go (f2 := (28, [(5, .null), (4, .int (Zi i)), (3, .int (Zi ah)), (0, .ref o), (1, .int (Zi v)), (2, .int (Zi k))], [.null])) (fun _ => rfl) ?_
            refine Z_go (f2 := (54, [(5, .null), (4, .int (Zi i)), (3, .int (Zi ah)), (0, .ref o), (1, .int (Zi v)), (2, .int (Zi k))], [])) (fun _ => rfl) ?_
            refine Z_iinc (L2 := [(4, .int (Zi (i + 1))), (5, .null), (3, .int (Zi ah)), (0, .ref o), (1, .int (Zi v)), (2, .int (Zi k))]) rfl rfl (by decide) rfl ?_
            refine Z_go (f2 := (5, [(4, .int (Zi (i + 1))), (5, .null), (3, .int (Zi ah)), (0, .ref o), (1, .int (Zi v)), (2, .int (Zi k))], [])) (fun _ => rfl) ?_
            have hP : ¬ D_hg fs ca v i := fun ⟨Y, hY, hm⟩ => hno Y hY
            refine B_loc (K := [(4, .int (Zi (i + 1))), (3, .int (Zi ah)), (0, .ref o), (1, .int (Zi v)), (2, .int (Zi k))]) (N_all_sub ⟨rfl, rfl, rfl, rfl, rfl, trivial⟩) (show ([4, 3, 0, 1, 2] : List Nat).Nodup by decide) ?_
            exact ih (i + 1) ah (by omega) (by omega) (by omega) (by rw [D_ct_s0 i0 hP]; omega) (by omega)
    · have hn : i < 0 ∨ ca ≤ i ∨ C_Q s ea i = none := by omega
      refine Z_go (f2 := (7, [(4, .int (Zi i)), (3, .int (Zi ah)), (0, .ref o), (1, .int (Zi v)), (2, .int (Zi k))], [.int (Zi i)])) (fun _ => rfl) ?_
      refine Z_go (f2 := (8, [(4, .int (Zi i)), (3, .int (Zi ah)), (0, .ref o), (1, .int (Zi v)), (2, .int (Zi k))], [.ref o, .int (Zi i)])) (fun _ => rfl) ?_
      refine C_gi rfl hs ok (by decide) (Nat.le_of_ble_eq_true rfl) rfl ?_
      rw [show C_F (s) o 3 = ca from (by first | exact oc | exact (if_neg (fun e => absurd e.1 (by assumption))).trans oc | exact (if_neg (fun e => absurd e.2 (by decide))).trans oc | exact (if_neg (fun e => absurd e.2 (by decide))).trans ((if_neg (fun e => absurd e.2 (by decide))).trans oc) | exact (if_neg (fun e => absurd e.2 (by decide))).trans ((if_neg (fun e => absurd e.2 (by decide))).trans ((if_neg (fun e => absurd e.2 (by decide))).trans oc)))]
      show B_R _ _ (11, [(4, .int (Zi i)), (3, .int (Zi ah)), (0, .ref o), (1, .int (Zi v)), (2, .int (Zi k))], [.int (Zi ca), .int (Zi i)]) _ _ _
      refine Z_cge rfl rfl (by first | exact hs.zF _ _ | exact Zor_r _ _ | exact hs.zA _ _ | assumption | exact zA _ _ | exact zS _ | exact Zr_not (hs.zA _ _) | exact hs.1.1 _ _ | exact ⟨by omega, by omega⟩) (by first | exact hs.zF _ _ | exact Zor_r _ _ | exact hs.zA _ _ | assumption | exact zA _ _ | exact zS _ | exact Zr_not (hs.zA _ _) | exact hs.1.1 _ _ | exact ⟨by omega, by omega⟩) (fun c1 => ?_) (fun c1 => ?_)
      · refine Z_go (f2 := (61, [(4, .int (Zi i)), (3, .int (Zi ah)), (0, .ref o), (1, .int (Zi v)), (2, .int (Zi k))], [.int (Zi (-1))])) (fun _ => rfl) ?_
        refine Z_iret rfl rfl (by first | rfl | decide | exact narrow_b01 (by omega)) ⟨rfl, rfl, ?_⟩
        try dsimp only
        have ei : i = ca := by omega
        subst ei
        exact ⟨-1, rfl, .inl ⟨rfl, by omega⟩⟩
      · refine Z_go (f2 := (15, [(4, .int (Zi i)), (3, .int (Zi ah)), (0, .ref o), (1, .int (Zi v)), (2, .int (Zi k))], [.int (Zi k)])) (fun _ => rfl) ?_
        refine Z_ilt rfl rfl (by first | exact hs.zF _ _ | exact Zor_r _ _ | exact hs.zA _ _ | assumption | exact zA _ _ | exact zS _ | exact Zr_not (hs.zA _ _) | exact hs.1.1 _ _ | exact ⟨by omega, by omega⟩) (fun c2 => ?_) (fun c2 => ?_)
        · refine Z_go (f2 := (61, [(4, .int (Zi i)), (3, .int (Zi ah)), (0, .ref o), (1, .int (Zi v)), (2, .int (Zi k))], [.int (Zi (-1))])) (fun _ => rfl) ?_
          refine Z_iret rfl rfl (by first | rfl | decide | exact narrow_b01 (by omega)) ⟨rfl, rfl, ?_⟩
          try dsimp only
          have ei : i = ca := by omega
          subst ei
          exact ⟨-1, rfl, .inl ⟨rfl, by omega⟩⟩
        · refine Z_go (f2 := (19, [(4, .int (Zi i)), (3, .int (Zi ah)), (0, .ref o), (1, .int (Zi v)), (2, .int (Zi k))], [.ref o])) (fun _ => rfl) ?_
          refine Z_go (f2 := (21, [(4, .int (Zi i)), (3, .int (Zi ah)), (0, .ref o), (1, .int (Zi v)), (2, .int (Zi k))], [.int (Zi i), .ref o])) (fun _ => rfl) ?_
          refine C_callVR (As := [.int (Zi i)]) (rest := []) rfl (by decide) rfl (by decide) rfl rfl (by decide +kernel) (Nat.le_of_ble_eq_true rfl) hs ok (C_find0 _ hd0 hn zf) (fun x q => ?_)
          obtain rfl := q
          show B_R _ _ (24, [(4, .int (Zi i)), (3, .int (Zi ah)), (0, .ref o), (1, .int (Zi v)), (2, .int (Zi k))], [.null]) _ _ _
          refine Z_go (f2 := (26, [(5, .null), (4, .int (Zi i)), (3, .int (Zi ah)), (0, .ref o), (1, .int (Zi v)), (2, .int (Zi k))], [])) (fun _ => rfl) ?_
          refine Z_go (f2 := (28, [(5, .null), (4, .int (Zi i)), (3, .int (Zi ah)), (0, .ref o), (1, .int (Zi v)), (2, .int (Zi k))], [.null])) (fun _ => rfl) ?_
          refine Z_go (f2 := (54, [(5, .null), (4, .int (Zi i)), (3, .int (Zi ah)), (0, .ref o), (1, .int (Zi v)), (2, .int (Zi k))], [])) (fun _ => rfl) ?_
          refine Z_iinc (L2 := [(4, .int (Zi (i + 1))), (5, .null), (3, .int (Zi ah)), (0, .ref o), (1, .int (Zi v)), (2, .int (Zi k))]) rfl rfl (by decide) rfl ?_
          refine Z_go (f2 := (5, [(4, .int (Zi (i + 1))), (5, .null), (3, .int (Zi ah)), (0, .ref o), (1, .int (Zi v)), (2, .int (Zi k))], [])) (fun _ => rfl) ?_
          exfalso; omega
theorem C_holder (d : Nat) {s : C_S} {p : List Nat} {o ea u v0 : Nat} {fs : Int → Option (List Int)} {ca th tg : Int} {v : Int} {k : Int} (hd : D_Sh s p o ea u v0 fs ca th tg) (zv : Zr v) (zk : Zr k) : C_rd (d + 3) 105 [.ref o, .int (Zi v), .int (Zi k)] s (fun x => ∃ z : Int, x = some (.int (Zi z)) ∧ (z = -1 ∧ (k < 0 ∨ (D_ct (D_hg fs ca v) ca.toNat : Int) ≤ k) ∨ 0 ≤ k ∧ 0 ≤ z ∧ z < ca ∧ D_hg fs ca v z ∧ (D_ct (D_hg fs ca v) z.toNat : Int) = k)) := by
  refine C_enterR (M := E_m105) rfl (Nat.le_of_ble_eq_true rfl) (fun h0 h hs => ?_)
  show B_R (d + 2) _ (0, [(0, .ref o), (1, .int (Zi v)), (2, .int (Zi k))], []) _ _ _
  have c0 := hd.1.2.2.2.2.2.2.2.2.2.2.1
  have c1 := hd.1.2.2.2.2.2.2.2.2.2.2.2.1
  refine Z_go (f2 := (1, [(0, .ref o), (1, .int (Zi v)), (2, .int (Zi k))], [.int (Zi 0)])) (fun _ => rfl) ?_
  refine Z_go (f2 := (2, [(3, .int (Zi 0)), (0, .ref o), (1, .int (Zi v)), (2, .int (Zi k))], [])) (fun _ => rfl) ?_
  refine Z_go (f2 := (3, [(3, .int (Zi 0)), (0, .ref o), (1, .int (Zi v)), (2, .int (Zi k))], [.int (Zi 0)])) (fun _ => rfl) ?_
  refine Z_go (f2 := (5, [(4, .int (Zi 0)), (3, .int (Zi 0)), (0, .ref o), (1, .int (Zi v)), (2, .int (Zi k))], [])) (fun _ => rfl) ?_
  refine B_loc (K := [(4, .int (Zi 0)), (3, .int (Zi 0)), (0, .ref o), (1, .int (Zi v)), (2, .int (Zi k))]) (N_all_sub ⟨rfl, rfl, rfl, rfl, rfl, trivial⟩) (show ([4, 3, 0, 1, 2] : List Nat).Nodup by decide) ?_
  exact C_holder_lp hs hd zv zk (ca.toNat + 1) 0 0 (by omega) (by omega) (by omega) rfl (by omega)
theorem C_allG_lp {d : Nat} {h0 h : E_H} {s : C_S} {p : List Nat} {o ea u v : Nat} {fs : Int → Option (List Int)} {ca th tg : Int} (hs : C_is h0 h s) (hd : D_Sh s p o ea u v fs ca th tg) : ∀ (t : Nat) (i al : Int), ca - i < t → 0 ≤ i → i ≤ ca → al = (D_sm (D_gl fs) i.toNat : Int) → al ≤ 1000 * i → B_R (d + 1) E_m106 (4, [(2, .int (Zi i)), (1, .int (Zi al)), (0, .ref o)], []) h 0 (fun r => r.2.1 = h ∧ r.2.2 = 0 ∧ (fun x => x = some (.int (Zi (D_sm (D_gl fs) ca.toNat)))) r.1) := by
  have hd0 := hd
  have w := hs.1
  obtain ⟨⟨ok, ot, oe, ou, ov, ek, et, oc, oh, og, ca0, ca1, uv⟩, g1, g2, g3, g4⟩ := hd
  have zc : Zr ca := ⟨by omega, by omega⟩
  intro t
  induction t with
  | zero => intro i al ht i0 i1 ha hk; omega
  | succ t ih =>
    intro i al ht i0 i1 ha hk
    have zf : Zr i := ⟨by omega, by omega⟩
    have za : Zr al := ⟨by omega, by omega⟩
    by_cases hi2 : i < ca
    · rcases hd0.one i with ⟨e, ba, g, a, cap, X, hi, hq, he, hx, hcap⟩ | ⟨hn, hno⟩
      · refine Z_go (f2 := (5, [(2, .int (Zi i)), (1, .int (Zi al)), (0, .ref o)], [.int (Zi i)])) (fun _ => rfl) ?_
        refine Z_go (f2 := (6, [(2, .int (Zi i)), (1, .int (Zi al)), (0, .ref o)], [.ref o, .int (Zi i)])) (fun _ => rfl) ?_
        refine C_gi rfl hs ok (by decide) (Nat.le_of_ble_eq_true rfl) rfl ?_
        rw [show C_F (s) o 3 = ca from (by first | exact oc | exact (if_neg (fun e => absurd e.1 (by assumption))).trans oc | exact (if_neg (fun e => absurd e.2 (by decide))).trans oc | exact (if_neg (fun e => absurd e.2 (by decide))).trans ((if_neg (fun e => absurd e.2 (by decide))).trans oc) | exact (if_neg (fun e => absurd e.2 (by decide))).trans ((if_neg (fun e => absurd e.2 (by decide))).trans ((if_neg (fun e => absurd e.2 (by decide))).trans oc)))]
        show B_R _ _ (9, [(2, .int (Zi i)), (1, .int (Zi al)), (0, .ref o)], [.int (Zi ca), .int (Zi i)]) _ _ _
        refine Z_cge rfl rfl (by first | exact hs.zF _ _ | exact Zor_r _ _ | exact hs.zA _ _ | assumption | exact zA _ _ | exact zS _ | exact Zr_not (hs.zA _ _) | exact hs.1.1 _ _ | exact ⟨by omega, by omega⟩) (by first | exact hs.zF _ _ | exact Zor_r _ _ | exact hs.zA _ _ | assumption | exact zA _ _ | exact zS _ | exact Zr_not (hs.zA _ _) | exact hs.1.1 _ _ | exact ⟨by omega, by omega⟩) (fun c1 => ?_) (fun c1 => ?_)
        · refine Z_go (f2 := (43, [(2, .int (Zi i)), (1, .int (Zi al)), (0, .ref o)], [.int (Zi al)])) (fun _ => rfl) ?_
          refine Z_iret rfl rfl (by first | rfl | decide | exact narrow_b01 (by omega)) ⟨rfl, rfl, ?_⟩
          try dsimp only
          exfalso; omega
        · refine Z_go (f2 := (13, [(2, .int (Zi i)), (1, .int (Zi al)), (0, .ref o)], [.ref o])) (fun _ => rfl) ?_
          refine Z_go (f2 := (14, [(2, .int (Zi i)), (1, .int (Zi al)), (0, .ref o)], [.int (Zi i), .ref o])) (fun _ => rfl) ?_
          refine C_callVR (As := [.int (Zi i)]) (rest := []) rfl (by decide) rfl (by decide) rfl rfl (by decide +kernel) (Nat.le_of_ble_eq_true rfl) hs ok (C_find1 _ hd0 (by omega) (by omega) hq) (fun x q => ?_)
          obtain rfl := q
          show B_R _ _ (17, [(2, .int (Zi i)), (1, .int (Zi al)), (0, .ref o)], [.ref e]) _ _ _
          refine Z_go (f2 := (18, [(3, .ref e), (2, .int (Zi i)), (1, .int (Zi al)), (0, .ref o)], [])) (fun _ => rfl) ?_
          refine Z_go (f2 := (19, [(3, .ref e), (2, .int (Zi i)), (1, .int (Zi al)), (0, .ref o)], [.int (Zi al)])) (fun _ => rfl) ?_
          refine Z_go (f2 := (20, [(3, .ref e), (2, .int (Zi i)), (1, .int (Zi al)), (0, .ref o)], [.ref e, .int (Zi al)])) (fun _ => rfl) ?_
          refine Z_go (f2 := (27, [(3, .ref e), (2, .int (Zi i)), (1, .int (Zi al)), (0, .ref o)], [.int (Zi al)])) (fun _ => rfl) ?_
          refine Z_go (f2 := (28, [(3, .ref e), (2, .int (Zi i)), (1, .int (Zi al)), (0, .ref o)], [.ref e, .int (Zi al)])) (fun _ => rfl) ?_
          refine C_gr rfl hs he.1 (by decide) (Nat.le_of_ble_eq_true rfl) rfl he.2.2.2.1 ?_
          refine C_gi rfl hs he.2.2.2.2.2.2.2.2.1 (by decide) (Nat.le_of_ble_eq_true rfl) rfl ?_
          rw [show C_F (s) g 1 = ((L_gr X).length : Int) from (by first | exact he.2.2.2.2.2.2.2.2.2.2.2.2.2.1 | exact (if_neg (fun e => absurd e.1 (by assumption))).trans he.2.2.2.2.2.2.2.2.2.2.2.2.2.1 | exact (if_neg (fun e => absurd e.2 (by decide))).trans he.2.2.2.2.2.2.2.2.2.2.2.2.2.1 | exact (if_neg (fun e => absurd e.2 (by decide))).trans ((if_neg (fun e => absurd e.2 (by decide))).trans he.2.2.2.2.2.2.2.2.2.2.2.2.2.1) | exact (if_neg (fun e => absurd e.2 (by decide))).trans ((if_neg (fun e => absurd e.2 (by decide))).trans ((if_neg (fun e => absurd e.2 (by decide))).trans he.2.2.2.2.2.2.2.2.2.2.2.2.2.1)))]
          show B_R _ _ (34, [(3, .ref e), (2, .int (Zi i)), (1, .int (Zi al)), (0, .ref o)], [.int (Zi (((L_gr X).length : Int))), .int (Zi al)]) _ _ _
          refine Z_iadd rfl ?_
          refine Z_go (f2 := (36, [(1, .int (Zi (al + ((L_gr X).length : Int)))), (3, .ref e), (2, .int (Zi i)), (0, .ref o)], [])) (fun _ => rfl) ?_
          refine Z_iinc (L2 := [(2, .int (Zi (i + 1))), (1, .int (Zi (al + ((L_gr X).length : Int)))), (3, .ref e), (0, .ref o)]) rfl rfl (by decide) rfl ?_
          refine Z_go (f2 := (4, [(2, .int (Zi (i + 1))), (1, .int (Zi (al + ((L_gr X).length : Int)))), (3, .ref e), (0, .ref o)], [])) (fun _ => rfl) ?_
          have hP : D_gl fs i = (L_gr X).length := by unfold D_gl; rw [hi.2.2]
          have hl := L_gr_len X
          refine B_loc (K := [(2, .int (Zi (i + 1))), (1, .int (Zi (al + ((L_gr X).length : Int)))), (0, .ref o)]) (N_all_sub ⟨rfl, rfl, rfl, trivial⟩) (show ([2, 1, 0] : List Nat).Nodup by decide) ?_
          exact ih (i + 1) _ (by omega) (by omega) (by omega) (by rw [D_sm_s i0, hP]; omega) (by omega)
      · refine Z_go (f2 := (5, [(2, .int (Zi i)), (1, .int (Zi al)), (0, .ref o)], [.int (Zi i)])) (fun _ => rfl) ?_
        refine Z_go (f2 := (6, [(2, .int (Zi i)), (1, .int (Zi al)), (0, .ref o)], [.ref o, .int (Zi i)])) (fun _ => rfl) ?_
        refine C_gi rfl hs ok (by decide) (Nat.le_of_ble_eq_true rfl) rfl ?_
        rw [show C_F (s) o 3 = ca from (by first | exact oc | exact (if_neg (fun e => absurd e.1 (by assumption))).trans oc | exact (if_neg (fun e => absurd e.2 (by decide))).trans oc | exact (if_neg (fun e => absurd e.2 (by decide))).trans ((if_neg (fun e => absurd e.2 (by decide))).trans oc) | exact (if_neg (fun e => absurd e.2 (by decide))).trans ((if_neg (fun e => absurd e.2 (by decide))).trans ((if_neg (fun e => absurd e.2 (by decide))).trans oc)))]
        show B_R _ _ (9, [(2, .int (Zi i)), (1, .int (Zi al)), (0, .ref o)], [.int (Zi ca), .int (Zi i)]) _ _ _
        refine Z_cge rfl rfl (by first | exact hs.zF _ _ | exact Zor_r _ _ | exact hs.zA _ _ | assumption | exact zA _ _ | exact zS _ | exact Zr_not (hs.zA _ _) | exact hs.1.1 _ _ | exact ⟨by omega, by omega⟩) (by first | exact hs.zF _ _ | exact Zor_r _ _ | exact hs.zA _ _ | assumption | exact zA _ _ | exact zS _ | exact Zr_not (hs.zA _ _) | exact hs.1.1 _ _ | exact ⟨by omega, by omega⟩) (fun c1 => ?_) (fun c1 => ?_)
        · refine Z_go (f2 := (43, [(2, .int (Zi i)), (1, .int (Zi al)), (0, .ref o)], [.int (Zi al)])) (fun _ => rfl) ?_
          refine Z_iret rfl rfl (by first | rfl | decide | exact narrow_b01 (by omega)) ⟨rfl, rfl, ?_⟩
          try dsimp only
          exfalso; omega
        · refine Z_go (f2 := (13, [(2, .int (Zi i)), (1, .int (Zi al)), (0, .ref o)], [.ref o])) (fun _ => rfl) ?_
          refine Z_go (f2 := (14, [(2, .int (Zi i)), (1, .int (Zi al)), (0, .ref o)], [.int (Zi i), .ref o])) (fun _ => rfl) ?_
          refine C_callVR (As := [.int (Zi i)]) (rest := []) rfl (by decide) rfl (by decide) rfl rfl (by decide +kernel) (Nat.le_of_ble_eq_true rfl) hs ok (C_find0 _ hd0 hn zf) (fun x q => ?_)
          obtain rfl := q
          show B_R _ _ (17, [(2, .int (Zi i)), (1, .int (Zi al)), (0, .ref o)], [.null]) _ _ _
          refine Z_go (f2 := (18, [(3, .null), (2, .int (Zi i)), (1, .int (Zi al)), (0, .ref o)], [])) (fun _ => rfl) ?_
          refine Z_go (f2 := (19, [(3, .null), (2, .int (Zi i)), (1, .int (Zi al)), (0, .ref o)], [.int (Zi al)])) (fun _ => rfl) ?_
          refine Z_go (f2 := (20, [(3, .null), (2, .int (Zi i)), (1, .int (Zi al)), (0, .ref o)], [.null, .int (Zi al)])) (fun _ => rfl) ?_
          refine Z_go (f2 := (23, [(3, .null), (2, .int (Zi i)), (1, .int (Zi al)), (0, .ref o)], [.int (Zi al)])) (fun _ => rfl) ?_
          refine Z_go (f2 := (24, [(3, .null), (2, .int (Zi i)), (1, .int (Zi al)), (0, .ref o)], [.int (Zi 0), .int (Zi al)])) (fun _ => rfl) ?_
          refine Z_go (f2 := (34, [(3, .null), (2, .int (Zi i)), (1, .int (Zi al)), (0, .ref o)], [.int (Zi 0), .int (Zi al)])) (fun _ => rfl) ?_
          refine Z_iadd rfl ?_
          refine Z_go (f2 := (36, [(1, .int (Zi (al + 0))), (3, .null), (2, .int (Zi i)), (0, .ref o)], [])) (fun _ => rfl) ?_
          refine Z_iinc (L2 := [(2, .int (Zi (i + 1))), (1, .int (Zi (al + 0))), (3, .null), (0, .ref o)]) rfl rfl (by decide) rfl ?_
          refine Z_go (f2 := (4, [(2, .int (Zi (i + 1))), (1, .int (Zi (al + 0))), (3, .null), (0, .ref o)], [])) (fun _ => rfl) ?_
          have hP : D_gl fs i = 0 := by
            unfold D_gl
            cases e : fs i with
            | none => rfl
            | some X => exact absurd ⟨i0, hi2, e⟩ (hno X)
          refine B_loc (K := [(2, .int (Zi (i + 1))), (1, .int (Zi (al + 0))), (0, .ref o)]) (N_all_sub ⟨rfl, rfl, rfl, trivial⟩) (show ([2, 1, 0] : List Nat).Nodup by decide) ?_
          exact ih (i + 1) _ (by omega) (by omega) (by omega) (by rw [D_sm_s i0, hP]; omega) (by omega)
    · have hn : i < 0 ∨ ca ≤ i ∨ C_Q s ea i = none := by omega
      refine Z_go (f2 := (5, [(2, .int (Zi i)), (1, .int (Zi al)), (0, .ref o)], [.int (Zi i)])) (fun _ => rfl) ?_
      refine Z_go (f2 := (6, [(2, .int (Zi i)), (1, .int (Zi al)), (0, .ref o)], [.ref o, .int (Zi i)])) (fun _ => rfl) ?_
      refine C_gi rfl hs ok (by decide) (Nat.le_of_ble_eq_true rfl) rfl ?_
      rw [show C_F (s) o 3 = ca from (by first | exact oc | exact (if_neg (fun e => absurd e.1 (by assumption))).trans oc | exact (if_neg (fun e => absurd e.2 (by decide))).trans oc | exact (if_neg (fun e => absurd e.2 (by decide))).trans ((if_neg (fun e => absurd e.2 (by decide))).trans oc) | exact (if_neg (fun e => absurd e.2 (by decide))).trans ((if_neg (fun e => absurd e.2 (by decide))).trans ((if_neg (fun e => absurd e.2 (by decide))).trans oc)))]
      show B_R _ _ (9, [(2, .int (Zi i)), (1, .int (Zi al)), (0, .ref o)], [.int (Zi ca), .int (Zi i)]) _ _ _
      refine Z_cge rfl rfl (by first | exact hs.zF _ _ | exact Zor_r _ _ | exact hs.zA _ _ | assumption | exact zA _ _ | exact zS _ | exact Zr_not (hs.zA _ _) | exact hs.1.1 _ _ | exact ⟨by omega, by omega⟩) (by first | exact hs.zF _ _ | exact Zor_r _ _ | exact hs.zA _ _ | assumption | exact zA _ _ | exact zS _ | exact Zr_not (hs.zA _ _) | exact hs.1.1 _ _ | exact ⟨by omega, by omega⟩) (fun c1 => ?_) (fun c1 => ?_)
      · refine Z_go (f2 := (43, [(2, .int (Zi i)), (1, .int (Zi al)), (0, .ref o)], [.int (Zi al)])) (fun _ => rfl) ?_
        refine Z_iret rfl rfl (by first | rfl | decide | exact narrow_b01 (by omega)) ⟨rfl, rfl, ?_⟩
        try dsimp only
        have ei : i = ca := by omega
        subst ei
        rw [ha]
      · refine Z_go (f2 := (13, [(2, .int (Zi i)), (1, .int (Zi al)), (0, .ref o)], [.ref o])) (fun _ => rfl) ?_
        refine Z_go (f2 := (14, [(2, .int (Zi i)), (1, .int (Zi al)), (0, .ref o)], [.int (Zi i), .ref o])) (fun _ => rfl) ?_
        refine C_callVR (As := [.int (Zi i)]) (rest := []) rfl (by decide) rfl (by decide) rfl rfl (by decide +kernel) (Nat.le_of_ble_eq_true rfl) hs ok (C_find0 _ hd0 hn zf) (fun x q => ?_)
        obtain rfl := q
        show B_R _ _ (17, [(2, .int (Zi i)), (1, .int (Zi al)), (0, .ref o)], [.null]) _ _ _
        refine Z_go (f2 := (18, [(3, .null), (2, .int (Zi i)), (1, .int (Zi al)), (0, .ref o)], [])) (fun _ => rfl) ?_
        refine Z_go (f2 := (19, [(3, .null), (2, .int (Zi i)), (1, .int (Zi al)), (0, .ref o)], [.int (Zi al)])) (fun _ => rfl) ?_
        refine Z_go (f2 := (20, [(3, .null), (2, .int (Zi i)), (1, .int (Zi al)), (0, .ref o)], [.null, .int (Zi al)])) (fun _ => rfl) ?_
        refine Z_go (f2 := (23, [(3, .null), (2, .int (Zi i)), (1, .int (Zi al)), (0, .ref o)], [.int (Zi al)])) (fun _ => rfl) ?_
        refine Z_go (f2 := (24, [(3, .null), (2, .int (Zi i)), (1, .int (Zi al)), (0, .ref o)], [.int (Zi 0), .int (Zi al)])) (fun _ => rfl) ?_
        refine Z_go (f2 := (34, [(3, .null), (2, .int (Zi i)), (1, .int (Zi al)), (0, .ref o)], [.int (Zi 0), .int (Zi al)])) (fun _ => rfl) ?_
        refine Z_iadd rfl ?_
        refine Z_go (f2 := (36, [(1, .int (Zi (al + 0))), (3, .null), (2, .int (Zi i)), (0, .ref o)], [])) (fun _ => rfl) ?_
        refine Z_iinc (L2 := [(2, .int (Zi (i + 1))), (1, .int (Zi (al + 0))), (3, .null), (0, .ref o)]) rfl rfl (by decide) rfl ?_
        refine Z_go (f2 := (4, [(2, .int (Zi (i + 1))), (1, .int (Zi (al + 0))), (3, .null), (0, .ref o)], [])) (fun _ => rfl) ?_
        exfalso; omega
theorem C_allG (d : Nat) {s : C_S} {p : List Nat} {o ea u v : Nat} {fs : Int → Option (List Int)} {ca th tg : Int} (hd : D_Sh s p o ea u v fs ca th tg) : C_rd (d + 2) 106 [.ref o] s (fun x => x = some (.int (Zi (D_sm (D_gl fs) ca.toNat)))) := by
  refine C_enterR (M := E_m106) rfl (Nat.le_of_ble_eq_true rfl) (fun h0 h hs => ?_)
  show B_R (d + 1) _ (0, [(0, .ref o)], []) _ _ _
  have c0 := hd.1.2.2.2.2.2.2.2.2.2.2.1
  have c1 := hd.1.2.2.2.2.2.2.2.2.2.2.2.1
  refine Z_go (f2 := (1, [(0, .ref o)], [.int (Zi 0)])) (fun _ => rfl) ?_
  refine Z_go (f2 := (2, [(1, .int (Zi 0)), (0, .ref o)], [])) (fun _ => rfl) ?_
  refine Z_go (f2 := (3, [(1, .int (Zi 0)), (0, .ref o)], [.int (Zi 0)])) (fun _ => rfl) ?_
  refine Z_go (f2 := (4, [(2, .int (Zi 0)), (1, .int (Zi 0)), (0, .ref o)], [])) (fun _ => rfl) ?_
  refine B_loc (K := [(2, .int (Zi 0)), (1, .int (Zi 0)), (0, .ref o)]) (N_all_sub ⟨rfl, rfl, rfl, trivial⟩) (show ([2, 1, 0] : List Nat).Nodup by decide) ?_
  exact C_allG_lp hs hd (ca.toNat + 1) 0 0 (by omega) (by omega) (by omega) rfl (by omega)
