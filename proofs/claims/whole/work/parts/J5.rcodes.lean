/-! the reference: the code of a regex -/
theorem R_xf.fr {s u : R_S} (h : R_xf s u) : R_fr [48] [113, 114, 115, 116] s u := ⟨h.1, fun q hq => h.2.1 q (fun e => hq (by simp at e ⊢; omega)), h.2.2⟩
theorem R_fr_115 (s : R_S) (i z : Int) : R_fr [48] [113, 114, 115, 116] s (R_sA s 115 i z) := ⟨fun _ _ => rfl, fun q hq j => R_sA_n _ _ _ _ (fun e => hq (by rw [e]; decide)), rfl⟩
theorem R_xc_115 {s : R_S} {L : X_L} (h : R_xc s L) (i z : Int) : R_xc (R_sA s 115 i z) L := ⟨h.1, h.2.at (fun j _ _ => ⟨R_sA_n _ _ _ _ (by decide), R_sA_n _ _ _ _ (by decide)⟩)⟩
set_option maxRecDepth 8000 in
theorem R_cs_1 {d : Nat} {h0 h : E_H} {u : R_S} {sl : Nat} {Φ : E_R → Prop} {k n bk : Int} (hs : R_is h0 h u) (zb : Zr bk) (k0 : 0 ≤ k) (k1 : k < u.1 13) (k2 : u.1 13 ≤ 400) (n0 : 0 ≤ n) (n1 : n ≤ 60) (op : 1 ≤ u.2.1 90 k ∧ u.2.1 90 k ≤ 11)
    (gd : u.2.1 117 k ≠ 0 → ∀ h : E_H, R_is h0 h u → B_R (d + 5) E_m259 (9, [(3, .int (Zi (k + 1))), (2, .int (Zi n)), (0, .ref 83), (1, .int (Zi bk))], []) h sl Φ)
    (ge : u.2.1 117 k = 0 → u.2.1 90 k = 5 ∨ R_nev u k → n < 60 ∧ ∀ h : E_H, R_is h0 h (R_sA u 115 n (u.1 48)) → B_R (d + 5) E_m259 (9, [(3, .int (Zi (k + 1))), (2, .int (Zi (n + 1))), (0, .ref 83), (1, .int (Zi bk))], []) h sl Φ)
    (gs : u.2.1 117 k = 0 → u.2.1 90 k < 5 → n < 60 ∧ ∃ K, R_xc u K ∧ K.length < 3000 ∧ ∀ (u2 : R_S) (h : E_H), R_is h0 h u2 → R_xc u2 (K ++ [if u.2.1 90 k = 1 then (1, u.2.1 91 k) else (2, u.2.1 90 k)]) → R_xf (R_sA u 115 n (u.1 48)) u2 → B_R (d + 5) E_m259 (9, [(3, .int (Zi (k + 1))), (2, .int (Zi (n + 1))), (0, .ref 83), (1, .int (Zi bk))], []) h sl Φ)
    (g6 : u.2.1 117 k = 0 → u.2.1 90 k = 6 → 2 ≤ n ∧ (bk = 0 → ∀ h : E_H, R_is h0 h u → B_R (d + 5) E_m259 (9, [(3, .int (Zi (k + 1))), (2, .int (Zi (n - 1))), (0, .ref 83), (1, .int (Zi bk))], []) h sl Φ) ∧ (bk ≠ 0 → ∃ K B1 B2, R_xc u (K ++ B1 ++ B2) ∧ u.2.1 115 (n - 2) = K.length ∧ u.2.1 115 (n - 1) = (K ++ B1).length ∧ (K ++ B1 ++ B2).length < 3000 ∧ ∀ (u2 : R_S) (h : E_H), R_is h0 h u2 → R_xc u2 (K ++ B2 ++ B1) → R_xf u u2 → B_R (d + 5) E_m259 (9, [(3, .int (Zi (k + 1))), (2, .int (Zi (n - 1))), (0, .ref 83), (1, .int (Zi bk))], []) h sl Φ))
    (g7 : u.2.1 117 k = 0 → u.2.1 90 k = 7 → 2 ≤ n ∧ ∃ K B1 B2, R_xc u (K ++ B1 ++ B2) ∧ u.2.1 115 (n - 2) = K.length ∧ u.2.1 115 (n - 1) = (K ++ B1).length ∧ (K ++ B1 ++ B2).length + 3 < 3000 ∧ ∀ (u2 : R_S) (h : E_H), R_is h0 h u2 → R_xc u2 (K ++ ((3, 0) :: B1 ++ (4, 0) :: B2 ++ [(5, 0)])) → R_xf u u2 → B_R (d + 5) E_m259 (9, [(3, .int (Zi (k + 1))), (2, .int (Zi (n - 1))), (0, .ref 83), (1, .int (Zi bk))], []) h sl Φ)
    (g8 : u.2.1 117 k = 0 → 7 < u.2.1 90 k → ¬ R_nev u k → 1 ≤ n ∧ ∃ K B, R_xc u (K ++ B) ∧ u.2.1 115 (n - 1) = K.length ∧ (K ++ B).length + 2 < 3000 ∧ (u.2.1 90 k = 11 → 0 ≤ u.2.1 91 k ∧ u.2.1 91 k ≤ 20 ∧ (u.2.1 92 k = -1 ∨ u.2.1 91 k ≤ u.2.1 92 k ∧ u.2.1 92 k ≤ 20) ∧ (K ++ X_times (u.2.1 91 k) (u.2.1 92 k) B).length < 3000) ∧ ∀ (u2 : R_S) (h : E_H), R_is h0 h u2 → R_xc u2 (K ++ X_cnt B (u.2.1 90 k) (u.2.1 91 k) (u.2.1 92 k)) → R_xf u u2 → B_R (d + 5) E_m259 (9, [(3, .int (Zi (k + 1))), (2, .int (Zi (n))), (0, .ref 83), (1, .int (Zi bk))], []) h sl Φ) : B_R (d + 5) E_m259 (9, [(3, .int (Zi k)), (2, .int (Zi n)), (0, .ref 83), (1, .int (Zi bk))], []) h sl Φ := by
  have zk : Zr k := ⟨by omega, by omega⟩
  have zA : ∀ q j, Zr (u.2.1 q j) := fun q j => hs.zA q j
  refine Z_go (f2 := (10, [(3, .int (Zi k)), (2, .int (Zi n)), (0, .ref 83), (1, .int (Zi bk))], [.int (Zi k)])) (fun _ => rfl) ?_
  refine Z_go (f2 := (11, [(3, .int (Zi k)), (2, .int (Zi n)), (0, .ref 83), (1, .int (Zi bk))], [.ref 83, .int (Zi k)])) (fun _ => rfl) ?_
  refine R_gi rfl hs rfl ?_
  show B_R _ _ (14, [(3, .int (Zi k)), (2, .int (Zi n)), (0, .ref 83), (1, .int (Zi bk))], [.int (Zi (u.1 13)), .int (Zi k)]) _ _ _
  refine Z_cge rfl rfl (by first | exact hs.zF _ | exact Zor_r _ _ | exact hs.zA _ _ | assumption | exact zA _ _ | exact zS _ | exact Zr_not (hs.zA _ _) | exact ⟨by omega, by omega⟩) (by first | exact hs.zF _ | exact Zor_r _ _ | exact hs.zA _ _ | assumption | exact zA _ _ | exact zS _ | exact Zr_not (hs.zA _ _) | exact ⟨by omega, by omega⟩) (fun c1 => ?_) (fun c1 => ?_)
  · exfalso; omega
  · refine Z_go (f2 := (18, [(3, .int (Zi k)), (2, .int (Zi n)), (0, .ref 83), (1, .int (Zi bk))], [.ref 83])) (fun _ => rfl) ?_
    refine Z_go (f2 := (19, [(3, .int (Zi k)), (2, .int (Zi n)), (0, .ref 83), (1, .int (Zi bk))], [.int (Zi k), .ref 83])) (fun _ => rfl) ?_
    refine R_call (As := [.int (Zi k)]) (rest := []) rfl (by decide) rfl rfl rfl rfl (by decide +kernel) (Nat.le_of_ble_eq_true rfl) hs (R_isNever _ u (by first | exact hs.zF _ | exact Zor_r _ _ | exact hs.zA _ _ | assumption | exact zA _ _ | exact zS _ | exact Zr_not (hs.zA _ _) | exact ⟨by omega, by omega⟩) k0 (by omega)) (fun x h s2 hs q => ?_)
    obtain ⟨q0, v, rfl, hv⟩ := q
    rw [q0] at hs
    show B_R _ _ (22, [(3, .int (Zi k)), (2, .int (Zi n)), (0, .ref 83), (1, .int (Zi bk))], [.int (Zi v)]) _ _ _
    refine Z_ieq rfl rfl (by first | exact hs.zF _ | exact Zor_r _ _ | exact hs.zA _ _ | assumption | exact zA _ _ | exact zS _ | exact Zr_not (hs.zA _ _) | exact ⟨by omega, by omega⟩) (fun c2 => ?_) (fun c2 => ?_)
    · refine Z_go (f2 := (30, [(3, .int (Zi k)), (2, .int (Zi n)), (0, .ref 83), (1, .int (Zi bk))], [.ref 83])) (fun _ => rfl) ?_
      refine R_gr (q := 88) rfl hs rfl ?_
      show B_R _ _ (33, [(3, .int (Zi k)), (2, .int (Zi n)), (0, .ref 83), (1, .int (Zi bk))], [.ref 90]) _ _ _
      refine Z_go (f2 := (34, [(3, .int (Zi k)), (2, .int (Zi n)), (0, .ref 83), (1, .int (Zi bk))], [.int (Zi k), .ref 90])) (fun _ => rfl) ?_
      refine R_ia (q := 6) rfl hs rfl rfl (by omega) (by omega) (by decide) ?_
      refine Z_go (f2 := (37, [(4, .int (Zi (u.2.1 90 k))), (3, .int (Zi k)), (2, .int (Zi n)), (0, .ref 83), (1, .int (Zi bk))], [])) (fun _ => rfl) ?_
      refine Z_go (f2 := (38, [(4, .int (Zi (u.2.1 90 k))), (3, .int (Zi k)), (2, .int (Zi n)), (0, .ref 83), (1, .int (Zi bk))], [.ref 83])) (fun _ => rfl) ?_
      refine R_gr (q := 115) rfl hs rfl ?_
      show B_R _ _ (41, [(4, .int (Zi (u.2.1 90 k))), (3, .int (Zi k)), (2, .int (Zi n)), (0, .ref 83), (1, .int (Zi bk))], [.ref 117]) _ _ _
      refine Z_go (f2 := (42, [(4, .int (Zi (u.2.1 90 k))), (3, .int (Zi k)), (2, .int (Zi n)), (0, .ref 83), (1, .int (Zi bk))], [.int (Zi k), .ref 117])) (fun _ => rfl) ?_
      refine R_ba (q := 33) rfl hs rfl rfl (by omega) (by omega) (by decide) ?_
      refine Z_ieq rfl rfl (by first | exact hs.zF _ | exact Zor_r _ _ | exact hs.zA _ _ | assumption | exact zA _ _ | exact zS _ | exact Zr_not (hs.zA _ _) | exact ⟨by omega, by omega⟩) (fun c3 => ?_) (fun c3 => ?_)
      · refine Z_go (f2 := (51, [(4, .int (Zi (u.2.1 90 k))), (3, .int (Zi k)), (2, .int (Zi n)), (0, .ref 83), (1, .int (Zi bk))], [.int (Zi (u.2.1 90 k))])) (fun _ => rfl) ?_
        refine Z_go (f2 := (52, [(4, .int (Zi (u.2.1 90 k))), (3, .int (Zi k)), (2, .int (Zi n)), (0, .ref 83), (1, .int (Zi bk))], [.int (Zi 5), .int (Zi (u.2.1 90 k))])) (fun _ => rfl) ?_
        refine Z_cgt rfl rfl (by first | exact hs.zF _ | exact Zor_r _ _ | exact hs.zA _ _ | assumption | exact zA _ _ | exact zS _ | exact Zr_not (hs.zA _ _) | exact ⟨by omega, by omega⟩) (by first | exact hs.zF _ | exact Zor_r _ _ | exact hs.zA _ _ | assumption | exact zA _ _ | exact zS _ | exact Zr_not (hs.zA _ _) | exact ⟨by omega, by omega⟩) (fun c4 => ?_) (fun c4 => ?_)
        · refine Z_go (f2 := (106, [(4, .int (Zi (u.2.1 90 k))), (3, .int (Zi k)), (2, .int (Zi n)), (0, .ref 83), (1, .int (Zi bk))], [.int (Zi (u.2.1 90 k))])) (fun _ => rfl) ?_
          refine Z_go (f2 := (108, [(4, .int (Zi (u.2.1 90 k))), (3, .int (Zi k)), (2, .int (Zi n)), (0, .ref 83), (1, .int (Zi bk))], [.int (Zi 6), .int (Zi (u.2.1 90 k))])) (fun _ => rfl) ?_
          refine Z_cne rfl rfl (by first | exact hs.zF _ | exact Zor_r _ _ | exact hs.zA _ _ | assumption | exact zA _ _ | exact zS _ | exact Zr_not (hs.zA _ _) | exact ⟨by omega, by omega⟩) (by first | exact hs.zF _ | exact Zor_r _ _ | exact hs.zA _ _ | assumption | exact zA _ _ | exact zS _ | exact Zr_not (hs.zA _ _) | exact ⟨by omega, by omega⟩) (fun c5 => ?_) (fun c5 => ?_)
          · refine Z_go (f2 := (141, [(4, .int (Zi (u.2.1 90 k))), (3, .int (Zi k)), (2, .int (Zi n)), (0, .ref 83), (1, .int (Zi bk))], [.int (Zi (u.2.1 90 k))])) (fun _ => rfl) ?_
            refine Z_go (f2 := (143, [(4, .int (Zi (u.2.1 90 k))), (3, .int (Zi k)), (2, .int (Zi n)), (0, .ref 83), (1, .int (Zi bk))], [.int (Zi 7), .int (Zi (u.2.1 90 k))])) (fun _ => rfl) ?_
            refine Z_cne rfl rfl (by first | exact hs.zF _ | exact Zor_r _ _ | exact hs.zA _ _ | assumption | exact zA _ _ | exact zS _ | exact Zr_not (hs.zA _ _) | exact ⟨by omega, by omega⟩) (by first | exact hs.zF _ | exact Zor_r _ _ | exact hs.zA _ _ | assumption | exact zA _ _ | exact zS _ | exact Zr_not (hs.zA _ _) | exact ⟨by omega, by omega⟩) (fun c6 => ?_) (fun c6 => ?_)
            · refine Z_go (f2 := (184, [(4, .int (Zi (u.2.1 90 k))), (3, .int (Zi k)), (2, .int (Zi n)), (0, .ref 83), (1, .int (Zi bk))], [.int (Zi (u.2.1 90 k))])) (fun _ => rfl) ?_
              refine Z_go (f2 := (186, [(4, .int (Zi (u.2.1 90 k))), (3, .int (Zi k)), (2, .int (Zi n)), (0, .ref 83), (1, .int (Zi bk))], [.int (Zi 8), .int (Zi (u.2.1 90 k))])) (fun _ => rfl) ?_
              refine Z_cne rfl rfl (by first | exact hs.zF _ | exact Zor_r _ _ | exact hs.zA _ _ | assumption | exact zA _ _ | exact zS _ | exact Zr_not (hs.zA _ _) | exact ⟨by omega, by omega⟩) (by first | exact hs.zF _ | exact Zor_r _ _ | exact hs.zA _ _ | assumption | exact zA _ _ | exact zS _ | exact Zr_not (hs.zA _ _) | exact ⟨by omega, by omega⟩) (fun c7 => ?_) (fun c7 => ?_)
              · refine Z_go (f2 := (208, [(4, .int (Zi (u.2.1 90 k))), (3, .int (Zi k)), (2, .int (Zi n)), (0, .ref 83), (1, .int (Zi bk))], [.int (Zi (u.2.1 90 k))])) (fun _ => rfl) ?_
                refine Z_go (f2 := (210, [(4, .int (Zi (u.2.1 90 k))), (3, .int (Zi k)), (2, .int (Zi n)), (0, .ref 83), (1, .int (Zi bk))], [.int (Zi 9), .int (Zi (u.2.1 90 k))])) (fun _ => rfl) ?_
                refine Z_cne rfl rfl (by first | exact hs.zF _ | exact Zor_r _ _ | exact hs.zA _ _ | assumption | exact zA _ _ | exact zS _ | exact Zr_not (hs.zA _ _) | exact ⟨by omega, by omega⟩) (by first | exact hs.zF _ | exact Zor_r _ _ | exact hs.zA _ _ | assumption | exact zA _ _ | exact zS _ | exact Zr_not (hs.zA _ _) | exact ⟨by omega, by omega⟩) (fun c8 => ?_) (fun c8 => ?_)
                · refine Z_go (f2 := (232, [(4, .int (Zi (u.2.1 90 k))), (3, .int (Zi k)), (2, .int (Zi n)), (0, .ref 83), (1, .int (Zi bk))], [.int (Zi (u.2.1 90 k))])) (fun _ => rfl) ?_
                  refine Z_go (f2 := (234, [(4, .int (Zi (u.2.1 90 k))), (3, .int (Zi k)), (2, .int (Zi n)), (0, .ref 83), (1, .int (Zi bk))], [.int (Zi 10), .int (Zi (u.2.1 90 k))])) (fun _ => rfl) ?_
                  refine Z_cne rfl rfl (by first | exact hs.zF _ | exact Zor_r _ _ | exact hs.zA _ _ | assumption | exact zA _ _ | exact zS _ | exact Zr_not (hs.zA _ _) | exact ⟨by omega, by omega⟩) (by first | exact hs.zF _ | exact Zor_r _ _ | exact hs.zA _ _ | assumption | exact zA _ _ | exact zS _ | exact Zr_not (hs.zA _ _) | exact ⟨by omega, by omega⟩) (fun c9 => ?_) (fun c9 => ?_)
                  · obtain ⟨q1, K, B, q2, q3, q5, q6, q7⟩ := g8 (by omega) (by omega) (by rcases hv with hv | hv; omega; exact hv.2)
                    obtain ⟨r1, r2, r3, r4⟩ := q6 (by omega)
                    refine Z_go (f2 := (253, [(4, .int (Zi (u.2.1 90 k))), (3, .int (Zi k)), (2, .int (Zi n)), (0, .ref 83), (1, .int (Zi bk))], [.ref 83])) (fun _ => rfl) ?_
                    refine Z_go (f2 := (254, [(4, .int (Zi (u.2.1 90 k))), (3, .int (Zi k)), (2, .int (Zi n)), (0, .ref 83), (1, .int (Zi bk))], [.ref 83, .ref 83])) (fun _ => rfl) ?_
                    refine R_gr (q := 113) rfl hs rfl ?_
                    show B_R _ _ (257, [(4, .int (Zi (u.2.1 90 k))), (3, .int (Zi k)), (2, .int (Zi n)), (0, .ref 83), (1, .int (Zi bk))], [.ref 115, .ref 83]) _ _ _
                    refine Z_go (f2 := (258, [(4, .int (Zi (u.2.1 90 k))), (3, .int (Zi k)), (2, .int (Zi n)), (0, .ref 83), (1, .int (Zi bk))], [.int (Zi n), .ref 115, .ref 83])) (fun _ => rfl) ?_
                    refine Z_go (f2 := (259, [(4, .int (Zi (u.2.1 90 k))), (3, .int (Zi k)), (2, .int (Zi n)), (0, .ref 83), (1, .int (Zi bk))], [.int (Zi 1), .int (Zi n), .ref 115, .ref 83])) (fun _ => rfl) ?_
                    refine Z_isub rfl ?_
                    refine R_ia (q := 31) rfl hs rfl rfl (by omega) (by omega) (by decide) ?_
                    refine Z_go (f2 := (262, [(4, .int (Zi (u.2.1 90 k))), (3, .int (Zi k)), (2, .int (Zi n)), (0, .ref 83), (1, .int (Zi bk))], [.ref 83, .int (Zi (u.2.1 115 (n - 1))), .ref 83])) (fun _ => rfl) ?_
                    refine R_gr (q := 89) rfl hs rfl ?_
                    show B_R _ _ (265, [(4, .int (Zi (u.2.1 90 k))), (3, .int (Zi k)), (2, .int (Zi n)), (0, .ref 83), (1, .int (Zi bk))], [.ref 91, .int (Zi (u.2.1 115 (n - 1))), .ref 83]) _ _ _
                    refine Z_go (f2 := (266, [(4, .int (Zi (u.2.1 90 k))), (3, .int (Zi k)), (2, .int (Zi n)), (0, .ref 83), (1, .int (Zi bk))], [.int (Zi k), .ref 91, .int (Zi (u.2.1 115 (n - 1))), .ref 83])) (fun _ => rfl) ?_
                    refine R_ia (q := 7) rfl hs rfl rfl (by omega) (by omega) (by decide) ?_
                    refine Z_go (f2 := (268, [(4, .int (Zi (u.2.1 90 k))), (3, .int (Zi k)), (2, .int (Zi n)), (0, .ref 83), (1, .int (Zi bk))], [.ref 83, .int (Zi (u.2.1 91 k)), .int (Zi (u.2.1 115 (n - 1))), .ref 83])) (fun _ => rfl) ?_
                    refine R_gr (q := 90) rfl hs rfl ?_
                    show B_R _ _ (271, [(4, .int (Zi (u.2.1 90 k))), (3, .int (Zi k)), (2, .int (Zi n)), (0, .ref 83), (1, .int (Zi bk))], [.ref 92, .int (Zi (u.2.1 91 k)), .int (Zi (u.2.1 115 (n - 1))), .ref 83]) _ _ _
                    refine Z_go (f2 := (272, [(4, .int (Zi (u.2.1 90 k))), (3, .int (Zi k)), (2, .int (Zi n)), (0, .ref 83), (1, .int (Zi bk))], [.int (Zi k), .ref 92, .int (Zi (u.2.1 91 k)), .int (Zi (u.2.1 115 (n - 1))), .ref 83])) (fun _ => rfl) ?_
                    refine R_ia (q := 8) rfl hs rfl rfl (by omega) (by omega) (by decide) ?_
                    refine R_call (As := [.int (Zi (u.2.1 115 (n - 1))), .int (Zi (u.2.1 91 k)), .int (Zi (u.2.1 92 k))]) (rest := []) rfl (by decide) rfl rfl rfl rfl (by decide +kernel) (Nat.le_of_ble_eq_true rfl) hs (R_codesTimes _ u (K := K) (B := B) (hs.zA 115 _) q3 r1 r2 r3 q2 (by omega) r4) (fun x h u2 hs q => ?_)
                    obtain ⟨rfl, e1, e2⟩ := q
                    show B_R _ _ (276, [(4, .int (Zi (u.2.1 90 k))), (3, .int (Zi k)), (2, .int (Zi n)), (0, .ref 83), (1, .int (Zi bk))], []) _ _ _
                    refine Z_iinc (L2 := [(3, .int (Zi (k + 1))), (4, .int (Zi (u.2.1 90 k))), (2, .int (Zi n)), (0, .ref 83), (1, .int (Zi bk))]) rfl rfl (by decide) rfl ?_
                    refine Z_goto (p2 := 9) rfl (by decide +kernel) (by decide +kernel) ?_
                    refine B_loc (K := [(3, .int (Zi (k + 1))), (2, .int (Zi n)), (0, .ref 83), (1, .int (Zi bk))]) (N_all_sub ⟨rfl, rfl, rfl, rfl, trivial⟩) (show ([3, 2, 0, 1] : List Nat).Nodup by decide) ?_
                    refine q7 u2 h hs ?_ e2
                    unfold X_cnt
                    rw [if_neg (show u.2.1 90 k ≠ 8 by omega), if_neg (show u.2.1 90 k ≠ 9 by omega), if_neg (show u.2.1 90 k ≠ 10 by omega), if_neg (fun q => by have hq : ¬ R_nev u k := (by rcases hv with hv | hv; omega; exact hv.2); exact hq ⟨by omega, q.1, q.2⟩)]
                    exact e1
                  · obtain ⟨q1, K, B, q2, q3, q5, q6, q7⟩ := g8 (by omega) (by omega) (by rcases hv with hv | hv; omega; exact hv.2)
                    refine Z_go (f2 := (238, [(4, .int (Zi (u.2.1 90 k))), (3, .int (Zi k)), (2, .int (Zi n)), (0, .ref 83), (1, .int (Zi bk))], [.ref 83])) (fun _ => rfl) ?_
                    refine Z_go (f2 := (239, [(4, .int (Zi (u.2.1 90 k))), (3, .int (Zi k)), (2, .int (Zi n)), (0, .ref 83), (1, .int (Zi bk))], [.ref 83, .ref 83])) (fun _ => rfl) ?_
                    refine R_gr (q := 113) rfl hs rfl ?_
                    show B_R _ _ (242, [(4, .int (Zi (u.2.1 90 k))), (3, .int (Zi k)), (2, .int (Zi n)), (0, .ref 83), (1, .int (Zi bk))], [.ref 115, .ref 83]) _ _ _
                    refine Z_go (f2 := (243, [(4, .int (Zi (u.2.1 90 k))), (3, .int (Zi k)), (2, .int (Zi n)), (0, .ref 83), (1, .int (Zi bk))], [.int (Zi n), .ref 115, .ref 83])) (fun _ => rfl) ?_
                    refine Z_go (f2 := (244, [(4, .int (Zi (u.2.1 90 k))), (3, .int (Zi k)), (2, .int (Zi n)), (0, .ref 83), (1, .int (Zi bk))], [.int (Zi 1), .int (Zi n), .ref 115, .ref 83])) (fun _ => rfl) ?_
                    refine Z_isub rfl ?_
                    refine R_ia (q := 31) rfl hs rfl rfl (by omega) (by omega) (by decide) ?_
                    refine R_call (As := [.int (Zi (u.2.1 115 (n - 1)))]) (rest := []) rfl (by decide) rfl rfl rfl rfl (by decide +kernel) (Nat.le_of_ble_eq_true rfl) hs (R_mays _ u (K := K) (B := B) (hs.zA 115 _) q3 q2 (by rw [List.length_append] at q5; omega)) (fun x h u2 hs q => ?_)
                    obtain ⟨rfl, e1, e2, e3⟩ := q
                    show B_R _ _ (249, [(4, .int (Zi (u.2.1 90 k))), (3, .int (Zi k)), (2, .int (Zi n)), (0, .ref 83), (1, .int (Zi bk))], []) _ _ _
                    refine Z_go (f2 := (276, [(4, .int (Zi (u.2.1 90 k))), (3, .int (Zi k)), (2, .int (Zi n)), (0, .ref 83), (1, .int (Zi bk))], [])) (fun _ => rfl) ?_
                    refine Z_iinc (L2 := [(3, .int (Zi (k + 1))), (4, .int (Zi (u.2.1 90 k))), (2, .int (Zi n)), (0, .ref 83), (1, .int (Zi bk))]) rfl rfl (by decide) rfl ?_
                    refine Z_goto (p2 := 9) rfl (by decide +kernel) (by decide +kernel) ?_
                    refine B_loc (K := [(3, .int (Zi (k + 1))), (2, .int (Zi n)), (0, .ref 83), (1, .int (Zi bk))]) (N_all_sub ⟨rfl, rfl, rfl, rfl, trivial⟩) (show ([3, 2, 0, 1] : List Nat).Nodup by decide) ?_
                    refine q7 u2 h hs ?_ e2
                    unfold X_cnt
                    rw [if_neg (show u.2.1 90 k ≠ 8 by omega), if_neg (show u.2.1 90 k ≠ 9 by omega), if_pos (show u.2.1 90 k = 10 by omega)]
                    exact e1
                · obtain ⟨q1, K, B, q2, q3, q5, q6, q7⟩ := g8 (by omega) (by omega) (by rcases hv with hv | hv; omega; exact hv.2)
                  refine Z_go (f2 := (214, [(4, .int (Zi (u.2.1 90 k))), (3, .int (Zi k)), (2, .int (Zi n)), (0, .ref 83), (1, .int (Zi bk))], [.ref 83])) (fun _ => rfl) ?_
                  refine Z_go (f2 := (215, [(4, .int (Zi (u.2.1 90 k))), (3, .int (Zi k)), (2, .int (Zi n)), (0, .ref 83), (1, .int (Zi bk))], [.ref 83, .ref 83])) (fun _ => rfl) ?_
                  refine R_gr (q := 113) rfl hs rfl ?_
                  show B_R _ _ (218, [(4, .int (Zi (u.2.1 90 k))), (3, .int (Zi k)), (2, .int (Zi n)), (0, .ref 83), (1, .int (Zi bk))], [.ref 115, .ref 83]) _ _ _
                  refine Z_go (f2 := (219, [(4, .int (Zi (u.2.1 90 k))), (3, .int (Zi k)), (2, .int (Zi n)), (0, .ref 83), (1, .int (Zi bk))], [.int (Zi n), .ref 115, .ref 83])) (fun _ => rfl) ?_
                  refine Z_go (f2 := (220, [(4, .int (Zi (u.2.1 90 k))), (3, .int (Zi k)), (2, .int (Zi n)), (0, .ref 83), (1, .int (Zi bk))], [.int (Zi 1), .int (Zi n), .ref 115, .ref 83])) (fun _ => rfl) ?_
                  refine Z_isub rfl ?_
                  refine R_ia (q := 31) rfl hs rfl rfl (by omega) (by omega) (by decide) ?_
                  refine Z_go (f2 := (224, [(4, .int (Zi (u.2.1 90 k))), (3, .int (Zi k)), (2, .int (Zi n)), (0, .ref 83), (1, .int (Zi bk))], [.int (Zi 7), .int (Zi (u.2.1 115 (n - 1))), .ref 83])) (fun _ => rfl) ?_
                  refine R_call (As := [.int (Zi (u.2.1 115 (n - 1))), .int (Zi 7)]) (rest := []) rfl (by decide) rfl rfl rfl rfl (by decide +kernel) (Nat.le_of_ble_eq_true rfl) hs (R_rounds _ u (K := K) (B := B) (hs.zA 115 _) ⟨by omega, by omega⟩ q3 q2 (by rw [List.length_append] at q5; omega)) (fun x h u2 hs q => ?_)
                  obtain ⟨rfl, e1, e2, e3⟩ := q
                  show B_R _ _ (227, [(4, .int (Zi (u.2.1 90 k))), (3, .int (Zi k)), (2, .int (Zi n)), (0, .ref 83), (1, .int (Zi bk))], []) _ _ _
                  refine Z_go (f2 := (276, [(4, .int (Zi (u.2.1 90 k))), (3, .int (Zi k)), (2, .int (Zi n)), (0, .ref 83), (1, .int (Zi bk))], [])) (fun _ => rfl) ?_
                  refine Z_iinc (L2 := [(3, .int (Zi (k + 1))), (4, .int (Zi (u.2.1 90 k))), (2, .int (Zi n)), (0, .ref 83), (1, .int (Zi bk))]) rfl rfl (by decide) rfl ?_
                  refine Z_goto (p2 := 9) rfl (by decide +kernel) (by decide +kernel) ?_
                  refine B_loc (K := [(3, .int (Zi (k + 1))), (2, .int (Zi n)), (0, .ref 83), (1, .int (Zi bk))]) (N_all_sub ⟨rfl, rfl, rfl, rfl, trivial⟩) (show ([3, 2, 0, 1] : List Nat).Nodup by decide) ?_
                  refine q7 u2 h hs ?_ e2
                  unfold X_cnt
                  rw [if_neg (show u.2.1 90 k ≠ 8 by omega), if_pos (show u.2.1 90 k = 9 by omega)]
                  exact e1
              · obtain ⟨q1, K, B, q2, q3, q5, q6, q7⟩ := g8 (by omega) (by omega) (by rcases hv with hv | hv; omega; exact hv.2)
                refine Z_go (f2 := (190, [(4, .int (Zi (u.2.1 90 k))), (3, .int (Zi k)), (2, .int (Zi n)), (0, .ref 83), (1, .int (Zi bk))], [.ref 83])) (fun _ => rfl) ?_
                refine Z_go (f2 := (191, [(4, .int (Zi (u.2.1 90 k))), (3, .int (Zi k)), (2, .int (Zi n)), (0, .ref 83), (1, .int (Zi bk))], [.ref 83, .ref 83])) (fun _ => rfl) ?_
                refine R_gr (q := 113) rfl hs rfl ?_
                show B_R _ _ (194, [(4, .int (Zi (u.2.1 90 k))), (3, .int (Zi k)), (2, .int (Zi n)), (0, .ref 83), (1, .int (Zi bk))], [.ref 115, .ref 83]) _ _ _
                refine Z_go (f2 := (195, [(4, .int (Zi (u.2.1 90 k))), (3, .int (Zi k)), (2, .int (Zi n)), (0, .ref 83), (1, .int (Zi bk))], [.int (Zi n), .ref 115, .ref 83])) (fun _ => rfl) ?_
                refine Z_go (f2 := (196, [(4, .int (Zi (u.2.1 90 k))), (3, .int (Zi k)), (2, .int (Zi n)), (0, .ref 83), (1, .int (Zi bk))], [.int (Zi 1), .int (Zi n), .ref 115, .ref 83])) (fun _ => rfl) ?_
                refine Z_isub rfl ?_
                refine R_ia (q := 31) rfl hs rfl rfl (by omega) (by omega) (by decide) ?_
                refine Z_go (f2 := (200, [(4, .int (Zi (u.2.1 90 k))), (3, .int (Zi k)), (2, .int (Zi n)), (0, .ref 83), (1, .int (Zi bk))], [.int (Zi 6), .int (Zi (u.2.1 115 (n - 1))), .ref 83])) (fun _ => rfl) ?_
                refine R_call (As := [.int (Zi (u.2.1 115 (n - 1))), .int (Zi 6)]) (rest := []) rfl (by decide) rfl rfl rfl rfl (by decide +kernel) (Nat.le_of_ble_eq_true rfl) hs (R_rounds _ u (K := K) (B := B) (hs.zA 115 _) ⟨by omega, by omega⟩ q3 q2 (by rw [List.length_append] at q5; omega)) (fun x h u2 hs q => ?_)
                obtain ⟨rfl, e1, e2, e3⟩ := q
                show B_R _ _ (203, [(4, .int (Zi (u.2.1 90 k))), (3, .int (Zi k)), (2, .int (Zi n)), (0, .ref 83), (1, .int (Zi bk))], []) _ _ _
                refine Z_go (f2 := (276, [(4, .int (Zi (u.2.1 90 k))), (3, .int (Zi k)), (2, .int (Zi n)), (0, .ref 83), (1, .int (Zi bk))], [])) (fun _ => rfl) ?_
                refine Z_iinc (L2 := [(3, .int (Zi (k + 1))), (4, .int (Zi (u.2.1 90 k))), (2, .int (Zi n)), (0, .ref 83), (1, .int (Zi bk))]) rfl rfl (by decide) rfl ?_
                refine Z_goto (p2 := 9) rfl (by decide +kernel) (by decide +kernel) ?_
                refine B_loc (K := [(3, .int (Zi (k + 1))), (2, .int (Zi n)), (0, .ref 83), (1, .int (Zi bk))]) (N_all_sub ⟨rfl, rfl, rfl, rfl, trivial⟩) (show ([3, 2, 0, 1] : List Nat).Nodup by decide) ?_
                refine q7 u2 h hs ?_ e2
                unfold X_cnt
                rw [if_pos (show u.2.1 90 k = 8 by omega)]
                exact e1
            · obtain ⟨q1, K, B1, B2, q2, q3, q4, q5, q7⟩ := g7 (by omega) (by omega)
              refine Z_iinc (L2 := [(2, .int (Zi (n + (-1)))), (4, .int (Zi (u.2.1 90 k))), (3, .int (Zi k)), (0, .ref 83), (1, .int (Zi bk))]) rfl rfl (by decide) rfl ?_
              refine Z_go (f2 := (150, [(2, .int (Zi (n + (-1)))), (4, .int (Zi (u.2.1 90 k))), (3, .int (Zi k)), (0, .ref 83), (1, .int (Zi bk))], [.ref 83])) (fun _ => rfl) ?_
              refine Z_go (f2 := (151, [(2, .int (Zi (n + (-1)))), (4, .int (Zi (u.2.1 90 k))), (3, .int (Zi k)), (0, .ref 83), (1, .int (Zi bk))], [.ref 83, .ref 83])) (fun _ => rfl) ?_
              refine R_gr (q := 113) rfl hs rfl ?_
              show B_R _ _ (154, [(2, .int (Zi (n + (-1)))), (4, .int (Zi (u.2.1 90 k))), (3, .int (Zi k)), (0, .ref 83), (1, .int (Zi bk))], [.ref 115, .ref 83]) _ _ _
              refine Z_go (f2 := (155, [(2, .int (Zi (n + (-1)))), (4, .int (Zi (u.2.1 90 k))), (3, .int (Zi k)), (0, .ref 83), (1, .int (Zi bk))], [.int (Zi (n + (-1))), .ref 115, .ref 83])) (fun _ => rfl) ?_
              refine R_ia (q := 31) rfl hs rfl rfl (by omega) (by omega) (by decide) ?_
              refine Z_go (f2 := (157, [(2, .int (Zi (n + (-1)))), (4, .int (Zi (u.2.1 90 k))), (3, .int (Zi k)), (0, .ref 83), (1, .int (Zi bk))], [.int (Zi 4), .int (Zi (u.2.1 115 (n + (-1)))), .ref 83])) (fun _ => rfl) ?_
              refine R_call (As := [.int (Zi (u.2.1 115 (n + (-1)))), .int (Zi 4)]) (rest := []) rfl (by decide) rfl rfl rfl rfl (by decide +kernel) (Nat.le_of_ble_eq_true rfl) hs (R_inserts _ u (K := K ++ B1) (B := B2) (hs.zA 115 _) ⟨by omega, by omega⟩ (by rw [show n + (-1) = n - 1 by omega]; exact q4) q2 (by simp only [List.length_append] at q5 ⊢; omega)) (fun x h v1 hs q => ?_)
              obtain ⟨rfl, d1, d2, d3⟩ := q
              have x115 : ∀ j, v1.2.1 115 j = u.2.1 115 j := fun j => d2.2.1 115 (by decide) j
              rw [List.append_assoc] at d1
              show B_R _ _ (160, [(2, .int (Zi (n + (-1)))), (4, .int (Zi (u.2.1 90 k))), (3, .int (Zi k)), (0, .ref 83), (1, .int (Zi bk))], []) _ _ _
              refine Z_go (f2 := (161, [(2, .int (Zi (n + (-1)))), (4, .int (Zi (u.2.1 90 k))), (3, .int (Zi k)), (0, .ref 83), (1, .int (Zi bk))], [.ref 83])) (fun _ => rfl) ?_
              refine Z_go (f2 := (162, [(2, .int (Zi (n + (-1)))), (4, .int (Zi (u.2.1 90 k))), (3, .int (Zi k)), (0, .ref 83), (1, .int (Zi bk))], [.ref 83, .ref 83])) (fun _ => rfl) ?_
              refine R_gr (q := 113) rfl hs rfl ?_
              show B_R _ _ (165, [(2, .int (Zi (n + (-1)))), (4, .int (Zi (u.2.1 90 k))), (3, .int (Zi k)), (0, .ref 83), (1, .int (Zi bk))], [.ref 115, .ref 83]) _ _ _
              refine Z_go (f2 := (166, [(2, .int (Zi (n + (-1)))), (4, .int (Zi (u.2.1 90 k))), (3, .int (Zi k)), (0, .ref 83), (1, .int (Zi bk))], [.int (Zi (n + (-1))), .ref 115, .ref 83])) (fun _ => rfl) ?_
              refine Z_go (f2 := (167, [(2, .int (Zi (n + (-1)))), (4, .int (Zi (u.2.1 90 k))), (3, .int (Zi k)), (0, .ref 83), (1, .int (Zi bk))], [.int (Zi 1), .int (Zi (n + (-1))), .ref 115, .ref 83])) (fun _ => rfl) ?_
              refine Z_isub rfl ?_
              refine R_ia (q := 31) rfl hs rfl rfl (by omega) (by omega) (by decide) ?_
              refine Z_go (f2 := (170, [(2, .int (Zi (n + (-1)))), (4, .int (Zi (u.2.1 90 k))), (3, .int (Zi k)), (0, .ref 83), (1, .int (Zi bk))], [.int (Zi 3), .int (Zi (v1.2.1 115 (n + (-1) - 1))), .ref 83])) (fun _ => rfl) ?_
              refine R_call (As := [.int (Zi (v1.2.1 115 (n + (-1) - 1))), .int (Zi 3)]) (rest := []) rfl (by decide) rfl rfl rfl rfl (by decide +kernel) (Nat.le_of_ble_eq_true rfl) hs (R_inserts _ v1 (K := K) (B := B1 ++ (4, 0) :: B2) (hs.zA 115 _) ⟨by omega, by omega⟩ (by rw [x115, show n + (-1) - 1 = n - 2 by omega]; exact q3) d1 (by simp only [List.length_append, List.length_cons] at q5 ⊢; omega)) (fun x h v2 hs q => ?_)
              obtain ⟨rfl, f1, f2, f3⟩ := q
              have f1 : R_xc v2 (K ++ (3, 0) :: B1 ++ (4, 0) :: B2) := by rw [List.append_assoc]; exact f1
              show B_R _ _ (173, [(2, .int (Zi (n + (-1)))), (4, .int (Zi (u.2.1 90 k))), (3, .int (Zi k)), (0, .ref 83), (1, .int (Zi bk))], []) _ _ _
              refine Z_go (f2 := (174, [(2, .int (Zi (n + (-1)))), (4, .int (Zi (u.2.1 90 k))), (3, .int (Zi k)), (0, .ref 83), (1, .int (Zi bk))], [.ref 83])) (fun _ => rfl) ?_
              refine Z_go (f2 := (175, [(2, .int (Zi (n + (-1)))), (4, .int (Zi (u.2.1 90 k))), (3, .int (Zi k)), (0, .ref 83), (1, .int (Zi bk))], [.int (Zi 5), .ref 83])) (fun _ => rfl) ?_
              refine Z_go (f2 := (176, [(2, .int (Zi (n + (-1)))), (4, .int (Zi (u.2.1 90 k))), (3, .int (Zi k)), (0, .ref 83), (1, .int (Zi bk))], [.int (Zi 0), .int (Zi 5), .ref 83])) (fun _ => rfl) ?_
              refine R_call (As := [.int (Zi 5), .int (Zi 0)]) (rest := []) rfl (by decide) rfl rfl rfl rfl (by decide +kernel) (Nat.le_of_ble_eq_true rfl) hs (R_code2 _ v2 (L := K ++ (3, 0) :: B1 ++ (4, 0) :: B2) ⟨by omega, by omega⟩ ⟨by omega, by omega⟩ f1 (by simp only [List.length_append, List.length_cons] at q5 ⊢; omega)) (fun x h u2 hs q => ?_)
              obtain ⟨rfl, e1, e2, e3⟩ := q
              show B_R _ _ (179, [(2, .int (Zi (n + (-1)))), (4, .int (Zi (u.2.1 90 k))), (3, .int (Zi k)), (0, .ref 83), (1, .int (Zi bk))], []) _ _ _
              refine Z_go (f2 := (276, [(2, .int (Zi (n + (-1)))), (4, .int (Zi (u.2.1 90 k))), (3, .int (Zi k)), (0, .ref 83), (1, .int (Zi bk))], [])) (fun _ => rfl) ?_
              refine Z_iinc (L2 := [(3, .int (Zi (k + 1))), (2, .int (Zi (n + (-1)))), (4, .int (Zi (u.2.1 90 k))), (0, .ref 83), (1, .int (Zi bk))]) rfl rfl (by decide) rfl ?_
              refine Z_goto (p2 := 9) rfl (by decide +kernel) (by decide +kernel) ?_
              refine B_loc (K := [(3, .int (Zi (k + 1))), (2, .int (Zi (n + (-1)))), (0, .ref 83), (1, .int (Zi bk))]) (N_all_sub ⟨rfl, rfl, rfl, rfl, trivial⟩) (show ([3, 2, 0, 1] : List Nat).Nodup by decide) ?_
              rw [show n + (-1) = n - 1 by omega]
              refine q7 u2 h hs ?_ ((d2.tr f2).tr e2)
              have e : K ++ ((3, 0) :: B1 ++ (4, 0) :: B2 ++ [(5, 0)]) = K ++ (3, 0) :: B1 ++ (4, 0) :: B2 ++ [(5, 0)] := by simp
              rw [e]
              exact e1
          · obtain ⟨q1, q6⟩ := g6 (by omega) (by omega)
            refine Z_iinc (L2 := [(2, .int (Zi (n + (-1)))), (4, .int (Zi (u.2.1 90 k))), (3, .int (Zi k)), (0, .ref 83), (1, .int (Zi bk))]) rfl rfl (by decide) rfl ?_
            refine Z_go (f2 := (115, [(2, .int (Zi (n + (-1)))), (4, .int (Zi (u.2.1 90 k))), (3, .int (Zi k)), (0, .ref 83), (1, .int (Zi bk))], [.int (Zi bk)])) (fun _ => rfl) ?_
            refine Z_ieq rfl rfl (by first | exact hs.zF _ | exact Zor_r _ _ | exact hs.zA _ _ | assumption | exact zA _ _ | exact zS _ | exact Zr_not (hs.zA _ _) | exact ⟨by omega, by omega⟩) (fun c10 => ?_) (fun c10 => ?_)
            · refine Z_iinc (L2 := [(3, .int (Zi (k + 1))), (2, .int (Zi (n + (-1)))), (4, .int (Zi (u.2.1 90 k))), (0, .ref 83), (1, .int (Zi bk))]) rfl rfl (by decide) rfl ?_
              refine Z_goto (p2 := 9) rfl (by decide +kernel) (by decide +kernel) ?_
              refine B_loc (K := [(3, .int (Zi (k + 1))), (2, .int (Zi (n + (-1)))), (0, .ref 83), (1, .int (Zi bk))]) (N_all_sub ⟨rfl, rfl, rfl, rfl, trivial⟩) (show ([3, 2, 0, 1] : List Nat).Nodup by decide) ?_
              rw [show n + (-1) = n - 1 by omega]
              exact q6.1 (by omega) h hs
            · obtain ⟨K, B1, B2, q2, q3, q4, q5, q7⟩ := q6.2 (by omega)
              refine Z_go (f2 := (119, [(2, .int (Zi (n + (-1)))), (4, .int (Zi (u.2.1 90 k))), (3, .int (Zi k)), (0, .ref 83), (1, .int (Zi bk))], [.ref 83])) (fun _ => rfl) ?_
              refine Z_go (f2 := (120, [(2, .int (Zi (n + (-1)))), (4, .int (Zi (u.2.1 90 k))), (3, .int (Zi k)), (0, .ref 83), (1, .int (Zi bk))], [.ref 83, .ref 83])) (fun _ => rfl) ?_
              refine R_gr (q := 113) rfl hs rfl ?_
              show B_R _ _ (123, [(2, .int (Zi (n + (-1)))), (4, .int (Zi (u.2.1 90 k))), (3, .int (Zi k)), (0, .ref 83), (1, .int (Zi bk))], [.ref 115, .ref 83]) _ _ _
              refine Z_go (f2 := (124, [(2, .int (Zi (n + (-1)))), (4, .int (Zi (u.2.1 90 k))), (3, .int (Zi k)), (0, .ref 83), (1, .int (Zi bk))], [.int (Zi (n + (-1))), .ref 115, .ref 83])) (fun _ => rfl) ?_
              refine Z_go (f2 := (125, [(2, .int (Zi (n + (-1)))), (4, .int (Zi (u.2.1 90 k))), (3, .int (Zi k)), (0, .ref 83), (1, .int (Zi bk))], [.int (Zi 1), .int (Zi (n + (-1))), .ref 115, .ref 83])) (fun _ => rfl) ?_
              refine Z_isub rfl ?_
              refine R_ia (q := 31) rfl hs rfl rfl (by omega) (by omega) (by decide) ?_
              refine Z_go (f2 := (128, [(2, .int (Zi (n + (-1)))), (4, .int (Zi (u.2.1 90 k))), (3, .int (Zi k)), (0, .ref 83), (1, .int (Zi bk))], [.ref 83, .int (Zi (u.2.1 115 (n + (-1) - 1))), .ref 83])) (fun _ => rfl) ?_
              refine R_gr (q := 113) rfl hs rfl ?_
              show B_R _ _ (131, [(2, .int (Zi (n + (-1)))), (4, .int (Zi (u.2.1 90 k))), (3, .int (Zi k)), (0, .ref 83), (1, .int (Zi bk))], [.ref 115, .int (Zi (u.2.1 115 (n + (-1) - 1))), .ref 83]) _ _ _
              refine Z_go (f2 := (132, [(2, .int (Zi (n + (-1)))), (4, .int (Zi (u.2.1 90 k))), (3, .int (Zi k)), (0, .ref 83), (1, .int (Zi bk))], [.int (Zi (n + (-1))), .ref 115, .int (Zi (u.2.1 115 (n + (-1) - 1))), .ref 83])) (fun _ => rfl) ?_
              refine R_ia (q := 31) rfl hs rfl rfl (by omega) (by omega) (by decide) ?_
              refine R_call (As := [.int (Zi (u.2.1 115 (n + (-1) - 1))), .int (Zi (u.2.1 115 (n + (-1))))]) (rest := []) rfl (by decide) rfl rfl rfl rfl (by decide +kernel) (Nat.le_of_ble_eq_true rfl) hs (R_turns _ u (K := K) (B1 := B1) (B2 := B2) (hs.zA 115 _) (hs.zA 115 _) (by rw [show n + (-1) - 1 = n - 2 by omega]; exact q3) (by rw [show n + (-1) = n - 1 by omega]; exact q4) q2 q5) (fun x h u2 hs q => ?_)
              obtain ⟨rfl, e1, e2⟩ := q
              show B_R _ _ (136, [(2, .int (Zi (n + (-1)))), (4, .int (Zi (u.2.1 90 k))), (3, .int (Zi k)), (0, .ref 83), (1, .int (Zi bk))], []) _ _ _
              refine Z_go (f2 := (276, [(2, .int (Zi (n + (-1)))), (4, .int (Zi (u.2.1 90 k))), (3, .int (Zi k)), (0, .ref 83), (1, .int (Zi bk))], [])) (fun _ => rfl) ?_
              refine Z_iinc (L2 := [(3, .int (Zi (k + 1))), (2, .int (Zi (n + (-1)))), (4, .int (Zi (u.2.1 90 k))), (0, .ref 83), (1, .int (Zi bk))]) rfl rfl (by decide) rfl ?_
              refine Z_goto (p2 := 9) rfl (by decide +kernel) (by decide +kernel) ?_
              refine B_loc (K := [(3, .int (Zi (k + 1))), (2, .int (Zi (n + (-1)))), (0, .ref 83), (1, .int (Zi bk))]) (N_all_sub ⟨rfl, rfl, rfl, rfl, trivial⟩) (show ([3, 2, 0, 1] : List Nat).Nodup by decide) ?_
              rw [show n + (-1) = n - 1 by omega]
              exact q7 u2 h hs e1 e2
        · have hn9 : n < 60 := by
            rcases hv with hv | hv
            · exact (ge (by omega) (.inr hv.2)).1
            · by_cases c9 : u.2.1 90 k = 5
              · exact (ge (by omega) (.inl c9)).1
              · exact (gs (by omega) (by omega)).1
          refine Z_go (f2 := (56, [(4, .int (Zi (u.2.1 90 k))), (3, .int (Zi k)), (2, .int (Zi n)), (0, .ref 83), (1, .int (Zi bk))], [.ref 83])) (fun _ => rfl) ?_
          refine R_gr (q := 113) rfl hs rfl ?_
          show B_R _ _ (59, [(4, .int (Zi (u.2.1 90 k))), (3, .int (Zi k)), (2, .int (Zi n)), (0, .ref 83), (1, .int (Zi bk))], [.ref 115]) _ _ _
          refine Z_go (f2 := (60, [(4, .int (Zi (u.2.1 90 k))), (3, .int (Zi k)), (2, .int (Zi n)), (0, .ref 83), (1, .int (Zi bk))], [.int (Zi n), .ref 115])) (fun _ => rfl) ?_
          refine Z_go (f2 := (61, [(4, .int (Zi (u.2.1 90 k))), (3, .int (Zi k)), (2, .int (Zi n)), (0, .ref 83), (1, .int (Zi bk))], [.ref 83, .int (Zi n), .ref 115])) (fun _ => rfl) ?_
          refine R_gi rfl hs rfl ?_
          show B_R _ _ (64, [(4, .int (Zi (u.2.1 90 k))), (3, .int (Zi k)), (2, .int (Zi n)), (0, .ref 83), (1, .int (Zi bk))], [.int (Zi (u.1 48)), .int (Zi n), .ref 115]) _ _ _
          refine R_is_ (q := 31) rfl hs rfl rfl (by omega) (by omega) (by decide) (by first | exact hs.zF _ | exact Zor_r _ _ | exact hs.zA _ _ | assumption | exact zA _ _ | exact zS _ | exact Zr_not (hs.zA _ _) | exact ⟨by omega, by omega⟩) (fun h hs => ?_)
          refine Z_iinc (L2 := [(2, .int (Zi (n + 1))), (4, .int (Zi (u.2.1 90 k))), (3, .int (Zi k)), (0, .ref 83), (1, .int (Zi bk))]) rfl rfl (by decide) rfl ?_
          refine Z_go (f2 := (70, [(2, .int (Zi (n + 1))), (4, .int (Zi (u.2.1 90 k))), (3, .int (Zi k)), (0, .ref 83), (1, .int (Zi bk))], [.int (Zi (u.2.1 90 k))])) (fun _ => rfl) ?_
          refine Z_go (f2 := (71, [(2, .int (Zi (n + 1))), (4, .int (Zi (u.2.1 90 k))), (3, .int (Zi k)), (0, .ref 83), (1, .int (Zi bk))], [.int (Zi 1), .int (Zi (u.2.1 90 k))])) (fun _ => rfl) ?_
          refine Z_cne rfl rfl (by first | exact hs.zF _ | exact Zor_r _ _ | exact hs.zA _ _ | assumption | exact zA _ _ | exact zS _ | exact Zr_not (hs.zA _ _) | exact ⟨by omega, by omega⟩) (by first | exact hs.zF _ | exact Zor_r _ _ | exact hs.zA _ _ | assumption | exact zA _ _ | exact zS _ | exact Zr_not (hs.zA _ _) | exact ⟨by omega, by omega⟩) (fun c11 => ?_) (fun c11 => ?_)
          · refine Z_go (f2 := (90, [(2, .int (Zi (n + 1))), (4, .int (Zi (u.2.1 90 k))), (3, .int (Zi k)), (0, .ref 83), (1, .int (Zi bk))], [.int (Zi (u.2.1 90 k))])) (fun _ => rfl) ?_
            refine Z_go (f2 := (91, [(2, .int (Zi (n + 1))), (4, .int (Zi (u.2.1 90 k))), (3, .int (Zi k)), (0, .ref 83), (1, .int (Zi bk))], [.int (Zi 5), .int (Zi (u.2.1 90 k))])) (fun _ => rfl) ?_
            refine Z_ceq rfl rfl (by first | exact hs.zF _ | exact Zor_r _ _ | exact hs.zA _ _ | assumption | exact zA _ _ | exact zS _ | exact Zr_not (hs.zA _ _) | exact ⟨by omega, by omega⟩) (by first | exact hs.zF _ | exact Zor_r _ _ | exact hs.zA _ _ | assumption | exact zA _ _ | exact zS _ | exact Zr_not (hs.zA _ _) | exact ⟨by omega, by omega⟩) (fun c12 => ?_) (fun c12 => ?_)
            · refine Z_iinc (L2 := [(3, .int (Zi (k + 1))), (2, .int (Zi (n + 1))), (4, .int (Zi (u.2.1 90 k))), (0, .ref 83), (1, .int (Zi bk))]) rfl rfl (by decide) rfl ?_
              refine Z_goto (p2 := 9) rfl (by decide +kernel) (by decide +kernel) ?_
              refine B_loc (K := [(3, .int (Zi (k + 1))), (2, .int (Zi (n + 1))), (0, .ref 83), (1, .int (Zi bk))]) (N_all_sub ⟨rfl, rfl, rfl, rfl, trivial⟩) (show ([3, 2, 0, 1] : List Nat).Nodup by decide) ?_
              exact (ge (by omega) (by rcases hv with hv | hv; exact .inr hv.2; exact .inl (by omega))).2 h hs
            · obtain ⟨q1, K, q2, q3, q7⟩ := gs (by omega) (by omega)
              refine Z_go (f2 := (95, [(2, .int (Zi (n + 1))), (4, .int (Zi (u.2.1 90 k))), (3, .int (Zi k)), (0, .ref 83), (1, .int (Zi bk))], [.ref 83])) (fun _ => rfl) ?_
              refine Z_go (f2 := (96, [(2, .int (Zi (n + 1))), (4, .int (Zi (u.2.1 90 k))), (3, .int (Zi k)), (0, .ref 83), (1, .int (Zi bk))], [.int (Zi 2), .ref 83])) (fun _ => rfl) ?_
              refine Z_go (f2 := (98, [(2, .int (Zi (n + 1))), (4, .int (Zi (u.2.1 90 k))), (3, .int (Zi k)), (0, .ref 83), (1, .int (Zi bk))], [.int (Zi (u.2.1 90 k)), .int (Zi 2), .ref 83])) (fun _ => rfl) ?_
              refine R_call (As := [.int (Zi 2), .int (Zi (u.2.1 90 k))]) (rest := []) rfl (by decide) rfl rfl rfl rfl (by decide +kernel) (Nat.le_of_ble_eq_true rfl) hs (R_code2 _ (R_sA u 115 n (u.1 48)) (L := K) ⟨by omega, by omega⟩ (zA _ _) (R_xc_115 q2 _ _) q3) (fun x h u2 hs q => ?_)
              obtain ⟨rfl, e1, e2, e3⟩ := q
              show B_R _ _ (101, [(2, .int (Zi (n + 1))), (4, .int (Zi (u.2.1 90 k))), (3, .int (Zi k)), (0, .ref 83), (1, .int (Zi bk))], []) _ _ _
              refine Z_go (f2 := (276, [(2, .int (Zi (n + 1))), (4, .int (Zi (u.2.1 90 k))), (3, .int (Zi k)), (0, .ref 83), (1, .int (Zi bk))], [])) (fun _ => rfl) ?_
              refine Z_iinc (L2 := [(3, .int (Zi (k + 1))), (2, .int (Zi (n + 1))), (4, .int (Zi (u.2.1 90 k))), (0, .ref 83), (1, .int (Zi bk))]) rfl rfl (by decide) rfl ?_
              refine Z_goto (p2 := 9) rfl (by decide +kernel) (by decide +kernel) ?_
              refine B_loc (K := [(3, .int (Zi (k + 1))), (2, .int (Zi (n + 1))), (0, .ref 83), (1, .int (Zi bk))]) (N_all_sub ⟨rfl, rfl, rfl, rfl, trivial⟩) (show ([3, 2, 0, 1] : List Nat).Nodup by decide) ?_
              refine q7 u2 h hs ?_ e2
              rw [if_neg (by omega)]
              exact e1
          · obtain ⟨q1, K, q2, q3, q7⟩ := gs (by omega) (by omega)
            refine Z_go (f2 := (75, [(2, .int (Zi (n + 1))), (4, .int (Zi (u.2.1 90 k))), (3, .int (Zi k)), (0, .ref 83), (1, .int (Zi bk))], [.ref 83])) (fun _ => rfl) ?_
            refine Z_go (f2 := (76, [(2, .int (Zi (n + 1))), (4, .int (Zi (u.2.1 90 k))), (3, .int (Zi k)), (0, .ref 83), (1, .int (Zi bk))], [.int (Zi 1), .ref 83])) (fun _ => rfl) ?_
            refine Z_go (f2 := (77, [(2, .int (Zi (n + 1))), (4, .int (Zi (u.2.1 90 k))), (3, .int (Zi k)), (0, .ref 83), (1, .int (Zi bk))], [.ref 83, .int (Zi 1), .ref 83])) (fun _ => rfl) ?_
            refine R_gr (q := 89) rfl hs rfl ?_
            show B_R _ _ (80, [(2, .int (Zi (n + 1))), (4, .int (Zi (u.2.1 90 k))), (3, .int (Zi k)), (0, .ref 83), (1, .int (Zi bk))], [.ref 91, .int (Zi 1), .ref 83]) _ _ _
            refine Z_go (f2 := (81, [(2, .int (Zi (n + 1))), (4, .int (Zi (u.2.1 90 k))), (3, .int (Zi k)), (0, .ref 83), (1, .int (Zi bk))], [.int (Zi k), .ref 91, .int (Zi 1), .ref 83])) (fun _ => rfl) ?_
            refine R_ia (q := 7) rfl hs rfl rfl (by omega) (by omega) (by decide) ?_
            rw [show (R_sA u 115 n (u.1 48)).2.1 91 k = u.2.1 91 k by first | rfl | simp [R_sA, R_sF, R_up2, R_fl, R_fL, R_sM, R_sL, R_p3, R_em]]; show B_R _ _ (82, [(2, .int (Zi (n + 1))), (4, .int (Zi (u.2.1 90 k))), (3, .int (Zi k)), (0, .ref 83), (1, .int (Zi bk))], [.int (Zi (u.2.1 91 k)), .int (Zi 1), .ref 83]) _ _ _
            refine R_call (As := [.int (Zi 1), .int (Zi (u.2.1 91 k))]) (rest := []) rfl (by decide) rfl rfl rfl rfl (by decide +kernel) (Nat.le_of_ble_eq_true rfl) hs (R_code2 _ (R_sA u 115 n (u.1 48)) (L := K) ⟨by omega, by omega⟩ (zA _ _) (R_xc_115 q2 _ _) q3) (fun x h u2 hs q => ?_)
            obtain ⟨rfl, e1, e2, e3⟩ := q
            show B_R _ _ (85, [(2, .int (Zi (n + 1))), (4, .int (Zi (u.2.1 90 k))), (3, .int (Zi k)), (0, .ref 83), (1, .int (Zi bk))], []) _ _ _
            refine Z_go (f2 := (276, [(2, .int (Zi (n + 1))), (4, .int (Zi (u.2.1 90 k))), (3, .int (Zi k)), (0, .ref 83), (1, .int (Zi bk))], [])) (fun _ => rfl) ?_
            refine Z_iinc (L2 := [(3, .int (Zi (k + 1))), (2, .int (Zi (n + 1))), (4, .int (Zi (u.2.1 90 k))), (0, .ref 83), (1, .int (Zi bk))]) rfl rfl (by decide) rfl ?_
            refine Z_goto (p2 := 9) rfl (by decide +kernel) (by decide +kernel) ?_
            refine B_loc (K := [(3, .int (Zi (k + 1))), (2, .int (Zi (n + 1))), (0, .ref 83), (1, .int (Zi bk))]) (N_all_sub ⟨rfl, rfl, rfl, rfl, trivial⟩) (show ([3, 2, 0, 1] : List Nat).Nodup by decide) ?_
            refine q7 u2 h hs ?_ e2
            rw [if_pos (by omega)]
            exact e1
      · refine Z_go (f2 := (276, [(4, .int (Zi (u.2.1 90 k))), (3, .int (Zi k)), (2, .int (Zi n)), (0, .ref 83), (1, .int (Zi bk))], [])) (fun _ => rfl) ?_
        refine Z_iinc (L2 := [(3, .int (Zi (k + 1))), (4, .int (Zi (u.2.1 90 k))), (2, .int (Zi n)), (0, .ref 83), (1, .int (Zi bk))]) rfl rfl (by decide) rfl ?_
        refine Z_goto (p2 := 9) rfl (by decide +kernel) (by decide +kernel) ?_
        refine B_loc (K := [(3, .int (Zi (k + 1))), (2, .int (Zi n)), (0, .ref 83), (1, .int (Zi bk))]) (N_all_sub ⟨rfl, rfl, rfl, rfl, trivial⟩) (show ([3, 2, 0, 1] : List Nat).Nodup by decide) ?_
        exact gd (by assumption) h hs
    · refine Z_go (f2 := (26, [(3, .int (Zi k)), (2, .int (Zi n)), (0, .ref 83), (1, .int (Zi bk))], [.int (Zi 5)])) (fun _ => rfl) ?_
      refine Z_go (f2 := (35, [(3, .int (Zi k)), (2, .int (Zi n)), (0, .ref 83), (1, .int (Zi bk))], [.int (Zi 5)])) (fun _ => rfl) ?_
      refine Z_go (f2 := (37, [(4, .int (Zi 5)), (3, .int (Zi k)), (2, .int (Zi n)), (0, .ref 83), (1, .int (Zi bk))], [])) (fun _ => rfl) ?_
      refine Z_go (f2 := (38, [(4, .int (Zi 5)), (3, .int (Zi k)), (2, .int (Zi n)), (0, .ref 83), (1, .int (Zi bk))], [.ref 83])) (fun _ => rfl) ?_
      refine R_gr (q := 115) rfl hs rfl ?_
      show B_R _ _ (41, [(4, .int (Zi 5)), (3, .int (Zi k)), (2, .int (Zi n)), (0, .ref 83), (1, .int (Zi bk))], [.ref 117]) _ _ _
      refine Z_go (f2 := (42, [(4, .int (Zi 5)), (3, .int (Zi k)), (2, .int (Zi n)), (0, .ref 83), (1, .int (Zi bk))], [.int (Zi k), .ref 117])) (fun _ => rfl) ?_
      refine R_ba (q := 33) rfl hs rfl rfl (by omega) (by omega) (by decide) ?_
      refine Z_ieq rfl rfl (by first | exact hs.zF _ | exact Zor_r _ _ | exact hs.zA _ _ | assumption | exact zA _ _ | exact zS _ | exact Zr_not (hs.zA _ _) | exact ⟨by omega, by omega⟩) (fun c13 => ?_) (fun c13 => ?_)
      · refine Z_go (f2 := (51, [(4, .int (Zi 5)), (3, .int (Zi k)), (2, .int (Zi n)), (0, .ref 83), (1, .int (Zi bk))], [.int (Zi 5)])) (fun _ => rfl) ?_
        refine Z_go (f2 := (52, [(4, .int (Zi 5)), (3, .int (Zi k)), (2, .int (Zi n)), (0, .ref 83), (1, .int (Zi bk))], [.int (Zi 5), .int (Zi 5)])) (fun _ => rfl) ?_
        refine Z_cgt rfl rfl (by first | exact hs.zF _ | exact Zor_r _ _ | exact hs.zA _ _ | assumption | exact zA _ _ | exact zS _ | exact Zr_not (hs.zA _ _) | exact ⟨by omega, by omega⟩) (by first | exact hs.zF _ | exact Zor_r _ _ | exact hs.zA _ _ | assumption | exact zA _ _ | exact zS _ | exact Zr_not (hs.zA _ _) | exact ⟨by omega, by omega⟩) (fun c14 => ?_) (fun c14 => ?_)
        · exfalso; omega
        · have hn9 : n < 60 := by
            rcases hv with hv | hv
            · exact (ge (by omega) (.inr hv.2)).1
            · by_cases c9 : u.2.1 90 k = 5
              · exact (ge (by omega) (.inl c9)).1
              · exact (gs (by omega) (by omega)).1
          refine Z_go (f2 := (56, [(4, .int (Zi 5)), (3, .int (Zi k)), (2, .int (Zi n)), (0, .ref 83), (1, .int (Zi bk))], [.ref 83])) (fun _ => rfl) ?_
          refine R_gr (q := 113) rfl hs rfl ?_
          show B_R _ _ (59, [(4, .int (Zi 5)), (3, .int (Zi k)), (2, .int (Zi n)), (0, .ref 83), (1, .int (Zi bk))], [.ref 115]) _ _ _
          refine Z_go (f2 := (60, [(4, .int (Zi 5)), (3, .int (Zi k)), (2, .int (Zi n)), (0, .ref 83), (1, .int (Zi bk))], [.int (Zi n), .ref 115])) (fun _ => rfl) ?_
          refine Z_go (f2 := (61, [(4, .int (Zi 5)), (3, .int (Zi k)), (2, .int (Zi n)), (0, .ref 83), (1, .int (Zi bk))], [.ref 83, .int (Zi n), .ref 115])) (fun _ => rfl) ?_
          refine R_gi rfl hs rfl ?_
          show B_R _ _ (64, [(4, .int (Zi 5)), (3, .int (Zi k)), (2, .int (Zi n)), (0, .ref 83), (1, .int (Zi bk))], [.int (Zi (u.1 48)), .int (Zi n), .ref 115]) _ _ _
          refine R_is_ (q := 31) rfl hs rfl rfl (by omega) (by omega) (by decide) (by first | exact hs.zF _ | exact Zor_r _ _ | exact hs.zA _ _ | assumption | exact zA _ _ | exact zS _ | exact Zr_not (hs.zA _ _) | exact ⟨by omega, by omega⟩) (fun h hs => ?_)
          refine Z_iinc (L2 := [(2, .int (Zi (n + 1))), (4, .int (Zi 5)), (3, .int (Zi k)), (0, .ref 83), (1, .int (Zi bk))]) rfl rfl (by decide) rfl ?_
          refine Z_go (f2 := (70, [(2, .int (Zi (n + 1))), (4, .int (Zi 5)), (3, .int (Zi k)), (0, .ref 83), (1, .int (Zi bk))], [.int (Zi 5)])) (fun _ => rfl) ?_
          refine Z_go (f2 := (71, [(2, .int (Zi (n + 1))), (4, .int (Zi 5)), (3, .int (Zi k)), (0, .ref 83), (1, .int (Zi bk))], [.int (Zi 1), .int (Zi 5)])) (fun _ => rfl) ?_
          refine Z_cne rfl rfl (by first | exact hs.zF _ | exact Zor_r _ _ | exact hs.zA _ _ | assumption | exact zA _ _ | exact zS _ | exact Zr_not (hs.zA _ _) | exact ⟨by omega, by omega⟩) (by first | exact hs.zF _ | exact Zor_r _ _ | exact hs.zA _ _ | assumption | exact zA _ _ | exact zS _ | exact Zr_not (hs.zA _ _) | exact ⟨by omega, by omega⟩) (fun c15 => ?_) (fun c15 => ?_)
          · refine Z_go (f2 := (90, [(2, .int (Zi (n + 1))), (4, .int (Zi 5)), (3, .int (Zi k)), (0, .ref 83), (1, .int (Zi bk))], [.int (Zi 5)])) (fun _ => rfl) ?_
            refine Z_go (f2 := (91, [(2, .int (Zi (n + 1))), (4, .int (Zi 5)), (3, .int (Zi k)), (0, .ref 83), (1, .int (Zi bk))], [.int (Zi 5), .int (Zi 5)])) (fun _ => rfl) ?_
            refine Z_ceq rfl rfl (by first | exact hs.zF _ | exact Zor_r _ _ | exact hs.zA _ _ | assumption | exact zA _ _ | exact zS _ | exact Zr_not (hs.zA _ _) | exact ⟨by omega, by omega⟩) (by first | exact hs.zF _ | exact Zor_r _ _ | exact hs.zA _ _ | assumption | exact zA _ _ | exact zS _ | exact Zr_not (hs.zA _ _) | exact ⟨by omega, by omega⟩) (fun c16 => ?_) (fun c16 => ?_)
            · refine Z_iinc (L2 := [(3, .int (Zi (k + 1))), (2, .int (Zi (n + 1))), (4, .int (Zi 5)), (0, .ref 83), (1, .int (Zi bk))]) rfl rfl (by decide) rfl ?_
              refine Z_goto (p2 := 9) rfl (by decide +kernel) (by decide +kernel) ?_
              refine B_loc (K := [(3, .int (Zi (k + 1))), (2, .int (Zi (n + 1))), (0, .ref 83), (1, .int (Zi bk))]) (N_all_sub ⟨rfl, rfl, rfl, rfl, trivial⟩) (show ([3, 2, 0, 1] : List Nat).Nodup by decide) ?_
              exact (ge (by omega) (by rcases hv with hv | hv; exact .inr hv.2; exact .inl (by omega))).2 h hs
            · exfalso; omega
          · exfalso; omega
      · refine Z_go (f2 := (276, [(4, .int (Zi 5)), (3, .int (Zi k)), (2, .int (Zi n)), (0, .ref 83), (1, .int (Zi bk))], [])) (fun _ => rfl) ?_
        refine Z_iinc (L2 := [(3, .int (Zi (k + 1))), (4, .int (Zi 5)), (2, .int (Zi n)), (0, .ref 83), (1, .int (Zi bk))]) rfl rfl (by decide) rfl ?_
        refine Z_goto (p2 := 9) rfl (by decide +kernel) (by decide +kernel) ?_
        refine B_loc (K := [(3, .int (Zi (k + 1))), (2, .int (Zi n)), (0, .ref 83), (1, .int (Zi bk))]) (N_all_sub ⟨rfl, rfl, rfl, rfl, trivial⟩) (show ([3, 2, 0, 1] : List Nat).Nodup by decide) ?_
        exact gd (by assumption) h hs
theorem R_cs_dead {d : Nat} {h0 : E_H} {u : R_S} {sl : Nat} {Φ : E_R → Prop} {n bk : Int} (zb : Zr bk) (k2 : u.1 13 ≤ 400) (n0 : 0 ≤ n) (n1 : n ≤ 60) (op : ∀ j, 0 ≤ j → j < u.1 13 → 1 ≤ u.2.1 90 j ∧ u.2.1 90 j ≤ 11) : ∀ (t : Nat) (k : Int) (h : E_H), 0 ≤ k → k + t ≤ u.1 13 → (∀ j, k ≤ j → j < k + t → u.2.1 117 j = 1) → R_is h0 h u → (∀ h : E_H, R_is h0 h u → B_R (d + 5) E_m259 (9, [(3, .int (Zi (k + t))), (2, .int (Zi n)), (0, .ref 83), (1, .int (Zi bk))], []) h sl Φ) → B_R (d + 5) E_m259 (9, [(3, .int (Zi k)), (2, .int (Zi n)), (0, .ref 83), (1, .int (Zi bk))], []) h sl Φ := by
  intro t
  induction t with
  | zero =>
    intro k h k0 k1 hd hs kont
    have := kont h hs
    rw [show k + ((0 : Nat) : Int) = k by omega] at this
    exact this
  | succ t ih =>
    intro k h k0 k1 hd hs kont
    have e := hd k (by omega) (by omega)
    refine R_cs_1 hs zb k0 (by omega) k2 n0 n1 (op k k0 (by omega)) (fun _ h hs => ih (k + 1) h (by omega) (by omega) (fun j j0 j1 => hd j (by omega) (by omega)) hs (fun h hs => ?_)) (fun c => by omega) (fun c => by omega) (fun c => by omega) (fun c => by omega) (fun c => by omega)
    rw [show k + 1 + (t : Int) = k + ((t + 1 : Nat) : Int) by omega]
    exact kont h hs
set_option maxHeartbeats 4000000 in
theorem R_codes_t {d : Nat} {h0 : E_H} {s : R_S} {sl : Nat} {Φ : E_R → Prop} {bk : Int} (zb : Zr bk) (p1 : s.1 13 ≤ 400) (op : ∀ j, 0 ≤ j → j < s.1 13 → 1 ≤ s.2.1 90 j ∧ s.2.1 90 j ≤ 11) : ∀ (t : P_T), T_is t → ∀ (m : Nat) (k n : Int) (K : X_L) (u : R_S) (h : E_H), R_is h0 h u → R_fr [48] [113, 114, 115, 116] s u → R_at_ s k (T_ops m t) → R_dd s k (X_dd t) → 0 ≤ k → k + t.length ≤ s.1 13 → 0 ≤ n → n + T_dp t ≤ 60 → R_xc u K → (K.length : Int) + 3 * T_sz t < 2990 → (∀ (u2 : R_S) (h2 : E_H), R_is h0 h2 u2 → R_fr [48] [113, 114, 115, 116] u u2 → (∀ j, j < n → u2.2.1 115 j = u.2.1 115 j) → u2.2.1 115 n = K.length → R_xc u2 (K ++ T_cod (decide (bk ≠ 0)) m t) → B_R (d + 5) E_m259 (9, [(3, .int (Zi (k + t.length))), (2, .int (Zi (n + 1))), (0, .ref 83), (1, .int (Zi bk))], []) h2 sl Φ) → B_R (d + 5) E_m259 (9, [(3, .int (Zi k)), (2, .int (Zi n)), (0, .ref 83), (1, .int (Zi bk))], []) h sl Φ := by
  intro t ht
  refine T_ind (P := fun t => ∀ (m : Nat) (k n : Int) (K : X_L) (u : R_S) (h : E_H), R_is h0 h u → R_fr [48] [113, 114, 115, 116] s u → R_at_ s k (T_ops m t) → R_dd s k (X_dd t) → 0 ≤ k → k + t.length ≤ s.1 13 → 0 ≤ n → n + T_dp t ≤ 60 → R_xc u K → (K.length : Int) + 3 * T_sz t < 2990 → (∀ (u2 : R_S) (h2 : E_H), R_is h0 h2 u2 → R_fr [48] [113, 114, 115, 116] u u2 → (∀ j, j < n → u2.2.1 115 j = u.2.1 115 j) → u2.2.1 115 n = K.length → R_xc u2 (K ++ T_cod (decide (bk ≠ 0)) m t) → B_R (d + 5) E_m259 (9, [(3, .int (Zi (k + t.length))), (2, .int (Zi (n + 1))), (0, .ref 83), (1, .int (Zi bk))], []) h2 sl Φ) → B_R (d + 5) E_m259 (9, [(3, .int (Zi k)), (2, .int (Zi n)), (0, .ref 83), (1, .int (Zi bk))], []) h sl Φ) ht ?_ ?_ ?_ ?_ ?_
  · intro m k n K u h hs hu ha hdd k0 k1 n0 n1 hx hl kont
    have e := R_at_.one (ha : R_at_ s k [(5, 0, 0)])
    have e2 := hdd 0 Nat.one_pos
    have e13 : u.1 13 = s.1 13 := hu.1 13 (by decide)
    have ex : ∀ q, q ∉ [113, 114, 115, 116] → ∀ j, u.2.1 q j = s.2.1 q j := hu.2.1
    have e48 := hx.1
    rw [show k + ((0 : Nat) : Int) = k by omega, ← ex 117 (by decide)] at e2
    have e2 : u.2.1 117 k = 0 := e2
    rw [← ex 90 (by decide), ← ex 91 (by decide), ← ex 92 (by decide)] at e
    have k1 : k + ((1 : Nat) : Int) ≤ s.1 13 := k1
    have n1 : n + ((1 : Nat) : Int) ≤ 60 := n1
    refine R_cs_1 hs zb k0 (by omega) (by omega) n0 (by omega) (by omega) (fun c => by omega) (fun _ _ => ⟨by omega, fun h hs => ?_⟩) (fun _ c => by omega) (fun _ c => by omega) (fun _ c => by omega) (fun _ c => by omega)
    exact kont _ h hs (R_fr_115 _ _ _) (fun j hj => R_sA_m _ _ _ _ (by omega)) (by rw [R_sA_s, e48]) (by rw [T_cod_emp, List.append_nil]; exact R_xc_115 hx _ _)
  · intro A hw m k n K u h hs hu ha hdd k0 k1 n0 n1 hx hl kont
    have n1 : n + (T_dp (T_atm A) : Int) ≤ 60 := n1
    rw [T_dp_atm hw] at n1
    rw [T_sz_atm hw] at hl
    rw [X_dd_atm hw] at hdd
    have e2 := hdd 0 Nat.one_pos
    have e13 : u.1 13 = s.1 13 := hu.1 13 (by decide)
    have ex : ∀ q, q ∉ [113, 114, 115, 116] → ∀ j, u.2.1 q j = s.2.1 q j := hu.2.1
    have e48 := hx.1
    rw [show k + ((0 : Nat) : Int) = k by omega, ← ex 117 (by decide)] at e2
    have e2 : u.2.1 117 k = 0 := e2
    have el : (T_atm A).length = 1 := by cases A <;> rfl
    rw [el] at k1 kont
    have ho : (1 ≤ u.2.1 90 k ∧ u.2.1 90 k < 5) ∧ T_cod (decide (bk ≠ 0)) m (T_atm A) = [if u.2.1 90 k = 1 then (1, u.2.1 91 k) else (2, u.2.1 90 k)] := by
      rw [ex 90 (by decide), ex 91 (by decide)]
      cases A with
      | inl op =>
        have hop : op = 2 ∨ op = 3 ∨ op = 4 := hw
        rw [show T_ops m (T_atm (.inl op)) = [(op, 0, 0)] from T_ops_one (q := (op, 0, 0, fun _ => False)) (by show op ≠ 1; omega) m] at ha
        obtain ⟨e, _, _⟩ := R_at_.one ha
        rw [T_cod_in hw, if_neg (by omega), e]
        exact ⟨by omega, rfl⟩
      | inr B =>
        obtain ⟨e, e3, _⟩ := R_at_.one (ha : R_at_ s k [(1, (m : Int), 0)])
        rw [T_cod_by, if_pos e, e3, e]
        exact ⟨by omega, rfl⟩
    refine R_cs_1 hs zb k0 (by omega) (by omega) n0 (by omega) (by omega) (fun c => by omega) (fun _ c => by unfold R_nev at c; omega) (fun _ _ => ⟨by omega, K, hx, by omega, fun u2 h hs q1 q2 => ?_⟩) (fun _ c => by omega) (fun _ c => by omega) (fun _ c => by omega)
    exact kont u2 h hs ((R_fr_115 u n (u.1 48)).tr q2.fr) (fun j hj => by rw [q2.2.1 115 (by decide), R_sA_m _ _ _ _ (by omega)]) (by rw [q2.2.1 115 (by decide), R_sA_s, e48]) (by rw [ho.2]; exact q1)
  · intro l r wl wr ihl ihr m k n K u h hs hu ha hdd k0 k1 n0 n1 hx hl kont
    have eops : T_ops m (T_beh l r) = T_ops m l ++ T_ops (m + (T_sets l).length) r ++ [(6, 0, 0)] := by
      unfold T_beh
      rw [T_ops_app, T_ops_app]
      rfl
    rw [eops] at ha
    have el : (T_beh l r).length = l.length + r.length + 1 := by
      unfold T_beh
      rw [List.length_append, List.length_append]
      rfl
    rw [el] at k1 kont
    rw [T_dp_beh wl wr] at n1
    rw [T_sz_beh wl wr] at hl
    rw [X_dd_beh wl wr] at hdd
    have sl_ := T_sz_pos wl
    have sr_ := T_sz_pos wr
    have ll := T_cod_len (back := decide (bk ≠ 0)) wl m
    have lr := T_cod_len (back := decide (bk ≠ 0)) wr (m + (T_sets l).length)
    obtain ⟨ha, ha3⟩ := ha.app
    obtain ⟨ha1, ha2⟩ := ha.app
    obtain ⟨hdd, hd3⟩ := hdd.app
    obtain ⟨hd1, hd2⟩ := hdd.app
    rw [T_ops_len] at ha2
    rw [List.length_append, T_ops_len, T_ops_len] at ha3
    rw [X_dd_len wl] at hd2
    rw [List.length_append, X_dd_len wl, X_dd_len wr] at hd3
    refine ihl m k n K u h hs hu ha1 hd1 k0 (by omega) n0 (by omega) hx (by omega) (fun u1 h1 hs1 hu1 a1 a2 a3 => ?_)
    refine ihr _ _ (n + 1) _ u1 h1 hs1 (hu.tr hu1) ha2 hd2 (by omega) (by omega) (by omega) (by omega) a3 (by rw [List.length_append]; push_cast; omega) (fun u2 h2 hs2 hu2 c1 c2 c3 => ?_)
    have hu3 := (hu.tr hu1).tr hu2
    have e13 : u2.1 13 = s.1 13 := hu3.1 13 (by decide)
    have e := ha3.one
    have e2 := hd3 0 Nat.one_pos
    have hdr := T_dp_pos wr
    rw [← hu3.2.1 90 (by decide), ← hu3.2.1 91 (by decide), ← hu3.2.1 92 (by decide)] at e
    rw [← hu3.2.1 117 (by decide)] at e2
    rw [show k + ((l.length + r.length : Nat) : Int) + ((0 : Nat) : Int) = k + ((l.length + r.length : Nat) : Int) by omega] at e2
    have e2 : u2.2.1 117 (k + ((l.length + r.length : Nat) : Int)) = 0 := e2
    rw [show k + (l.length : Int) + (r.length : Int) = k + ((l.length + r.length : Nat) : Int) by omega]
    have hlen : (K ++ T_cod (decide (bk ≠ 0)) m l ++ T_cod (decide (bk ≠ 0)) (m + (T_sets l).length) r).length + 3 < 3000 := by
      simp only [List.length_append]
      omega
    have fin : ∀ (v : R_S) (h : E_H), R_is h0 h v → R_fr [48] [113, 114, 115, 116] u2 v → (∀ j, v.2.1 115 j = u2.2.1 115 j) → R_xc v (K ++ T_cod (decide (bk ≠ 0)) m (T_beh l r)) → B_R (d + 5) E_m259 (9, [(3, .int (Zi (k + ((l.length + r.length : Nat) : Int) + 1))), (2, .int (Zi (n + 1 + 1 - 1))), (0, .ref 83), (1, .int (Zi bk))], []) h sl Φ := by
      intro v h hs q1 q2 q3
      have := kont v h hs ((hu1.tr hu2).tr q1) (fun j hj => by rw [q2, c1 j (by omega), a1 j hj]) (by rw [q2, c1 n (by omega), a2]) q3
      rw [show n + 1 + 1 - 1 = n + 1 by omega, show k + ((l.length + r.length : Nat) : Int) + 1 = k + ((l.length + r.length + 1 : Nat) : Int) by omega]
      exact this
    have hlen0 := hlen
    have hlen : (K ++ T_cod (decide (bk ≠ 0)) m l ++ T_cod (decide (bk ≠ 0)) (m + (T_sets l).length) r).length < 3000 := by omega
    refine R_cs_1 hs2 zb (by omega) (by omega) (by omega) (by omega) (by omega) (by omega) (fun c => by omega) (fun _ c => by unfold R_nev at c; omega) (fun _ c => by omega) (fun _ _ => ⟨by omega, fun hb h hs => ?_, fun hb => ⟨K, T_cod (decide (bk ≠ 0)) m l, T_cod (decide (bk ≠ 0)) (m + (T_sets l).length) r, c3, by rw [show n + 1 + 1 - 2 = n by omega, c1 n (by omega)]; exact a2, by rw [show n + 1 + 1 - 1 = n + 1 by omega]; exact c2, hlen, fun u3 h hs q1 q2 => ?_⟩⟩) (fun _ h => by omega) (fun _ c => by omega)
    · refine fin u2 h hs ⟨fun _ _ => rfl, fun _ _ _ => rfl, rfl⟩ (fun _ => rfl) ?_
      rw [T_cod_beh wl wr, show decide (bk ≠ 0) = false from decide_eq_false (by omega)]
      rw [show decide (bk ≠ 0) = false from decide_eq_false (by omega), List.append_assoc] at c3
      exact c3
    · refine fin u3 h hs q2.fr (fun j => q2.2.1 115 (by decide) j) ?_
      rw [T_cod_beh wl wr, show decide (bk ≠ 0) = true from decide_eq_true hb]
      rw [show decide (bk ≠ 0) = true from decide_eq_true hb, List.append_assoc] at q1
      exact q1
  · intro l r wl wr ihl ihr m k n K u h hs hu ha hdd k0 k1 n0 n1 hx hl kont
    have eops : T_ops m (T_or l r) = T_ops m l ++ T_ops (m + (T_sets l).length) r ++ [(7, 0, 0)] := by
      unfold T_or
      rw [T_ops_app, T_ops_app]
      rfl
    rw [eops] at ha
    have el : (T_or l r).length = l.length + r.length + 1 := by
      unfold T_or
      rw [List.length_append, List.length_append]
      rfl
    rw [el] at k1 kont
    rw [T_dp_or wl wr] at n1
    rw [T_sz_or wl wr] at hl
    rw [X_dd_or wl wr] at hdd
    have sl_ := T_sz_pos wl
    have sr_ := T_sz_pos wr
    have ll := T_cod_len (back := decide (bk ≠ 0)) wl m
    have lr := T_cod_len (back := decide (bk ≠ 0)) wr (m + (T_sets l).length)
    obtain ⟨ha, ha3⟩ := ha.app
    obtain ⟨ha1, ha2⟩ := ha.app
    obtain ⟨hdd, hd3⟩ := hdd.app
    obtain ⟨hd1, hd2⟩ := hdd.app
    rw [T_ops_len] at ha2
    rw [List.length_append, T_ops_len, T_ops_len] at ha3
    rw [X_dd_len wl] at hd2
    rw [List.length_append, X_dd_len wl, X_dd_len wr] at hd3
    refine ihl m k n K u h hs hu ha1 hd1 k0 (by omega) n0 (by omega) hx (by omega) (fun u1 h1 hs1 hu1 a1 a2 a3 => ?_)
    refine ihr _ _ (n + 1) _ u1 h1 hs1 (hu.tr hu1) ha2 hd2 (by omega) (by omega) (by omega) (by omega) a3 (by rw [List.length_append]; push_cast; omega) (fun u2 h2 hs2 hu2 c1 c2 c3 => ?_)
    have hu3 := (hu.tr hu1).tr hu2
    have e13 : u2.1 13 = s.1 13 := hu3.1 13 (by decide)
    have e := ha3.one
    have e2 := hd3 0 Nat.one_pos
    have hdr := T_dp_pos wr
    rw [← hu3.2.1 90 (by decide), ← hu3.2.1 91 (by decide), ← hu3.2.1 92 (by decide)] at e
    rw [← hu3.2.1 117 (by decide)] at e2
    rw [show k + ((l.length + r.length : Nat) : Int) + ((0 : Nat) : Int) = k + ((l.length + r.length : Nat) : Int) by omega] at e2
    have e2 : u2.2.1 117 (k + ((l.length + r.length : Nat) : Int)) = 0 := e2
    rw [show k + (l.length : Int) + (r.length : Int) = k + ((l.length + r.length : Nat) : Int) by omega]
    have hlen : (K ++ T_cod (decide (bk ≠ 0)) m l ++ T_cod (decide (bk ≠ 0)) (m + (T_sets l).length) r).length + 3 < 3000 := by
      simp only [List.length_append]
      omega
    have fin : ∀ (v : R_S) (h : E_H), R_is h0 h v → R_fr [48] [113, 114, 115, 116] u2 v → (∀ j, v.2.1 115 j = u2.2.1 115 j) → R_xc v (K ++ T_cod (decide (bk ≠ 0)) m (T_or l r)) → B_R (d + 5) E_m259 (9, [(3, .int (Zi (k + ((l.length + r.length : Nat) : Int) + 1))), (2, .int (Zi (n + 1 + 1 - 1))), (0, .ref 83), (1, .int (Zi bk))], []) h sl Φ := by
      intro v h hs q1 q2 q3
      have := kont v h hs ((hu1.tr hu2).tr q1) (fun j hj => by rw [q2, c1 j (by omega), a1 j hj]) (by rw [q2, c1 n (by omega), a2]) q3
      rw [show n + 1 + 1 - 1 = n + 1 by omega, show k + ((l.length + r.length : Nat) : Int) + 1 = k + ((l.length + r.length + 1 : Nat) : Int) by omega]
      exact this
    have hlen0 := hlen
    have hlen : (K ++ T_cod (decide (bk ≠ 0)) m l ++ T_cod (decide (bk ≠ 0)) (m + (T_sets l).length) r).length < 3000 := by omega
    refine R_cs_1 hs2 zb (by omega) (by omega) (by omega) (by omega) (by omega) (by omega) (fun c => by omega) (fun _ c => by unfold R_nev at c; omega) (fun _ c => by omega) (fun _ h => by omega) (fun _ _ => ⟨by omega, K, T_cod (decide (bk ≠ 0)) m l, T_cod (decide (bk ≠ 0)) (m + (T_sets l).length) r, c3, by rw [show n + 1 + 1 - 2 = n by omega, c1 n (by omega)]; exact a2, by rw [show n + 1 + 1 - 1 = n + 1 by omega]; exact c2, by omega, fun u3 h hs q1 q2 => ?_⟩) (fun _ c => by omega)
    refine fin u3 h hs q2.fr (fun j => q2.2.1 115 (by decide) j) ?_
    rw [T_cod_or wl wr]
    exact q1
  · intro t op_ lo hi hc wt ih m k n K u h hs hu ha hdd k0 k1 n0 n1 hx hl kont
    have hop : op_ ≠ 1 := by unfold T_cok at hc; omega
    have eops : T_ops m (T_cnt t op_ lo hi) = T_ops m t ++ [(op_, lo, hi)] := by
      unfold T_cnt
      rw [T_ops_app, T_ops_one hop]
    rw [eops] at ha
    have el : (T_cnt t op_ lo hi).length = t.length + 1 := by
      unfold T_cnt
      rw [List.length_append]
      rfl
    rw [el] at k1 kont
    rw [T_dp_cnt hc wt] at n1
    have hdt := T_dp_pos wt
    obtain ⟨ha1, ha3⟩ := ha.app
    rw [T_ops_len] at ha3
    have lt := T_cod_len (back := decide (bk ≠ 0)) wt m
    have lc := T_cod_len (back := decide (bk ≠ 0)) (T_is.cnt hc wt) m
    rw [T_cod_cnt hc wt] at lc kont
    have st := T_sz_pos wt
    have hc2 := hc
    by_cases nv : op_ = 11 ∧ lo = 0 ∧ hi = 0
    · rw [X_dd_cnt hc wt, if_pos nv] at hdd
      obtain ⟨hd1, hd3⟩ := hdd.app
      rw [List.length_replicate, X_dd_len wt] at hd3
      have e13 : u.1 13 = s.1 13 := hu.1 13 (by decide)
      have ex : ∀ q, q ∉ [113, 114, 115, 116] → ∀ j, u.2.1 q j = s.2.1 q j := hu.2.1
      have e48 := hx.1
      refine R_cs_dead zb (by omega) n0 (by omega) (fun j j0 j1 => by rw [ex 90 (by decide)]; exact op j j0 (by omega)) t.length k h k0 (by omega) (fun j j0 j1 => ?_) hs (fun h hs => ?_)
      · have := hd1 (j - k).toNat (by rw [List.length_replicate, X_dd_len wt]; omega)
        rw [List.getElem_replicate, show k + (((j - k).toNat : Nat) : Int) = j by omega] at this
        rw [ex 117 (by decide)]
        exact this
      · have e2 := hd3 0 Nat.one_pos
        rw [show k + (t.length : Int) + ((0 : Nat) : Int) = k + t.length by omega, ← ex 117 (by decide)] at e2
        have e2 : u.2.1 117 (k + t.length) = 0 := e2
        have e := ha3.one
        rw [← ex 90 (by decide), ← ex 91 (by decide), ← ex 92 (by decide)] at e
        have hnv : R_nev u (k + t.length) := ⟨by omega, by omega, by omega⟩
        refine R_cs_1 hs zb (by omega) (by omega) (by omega) n0 (by omega) (by omega) (fun c => by omega) (fun _ _ => ⟨by omega, fun h hs => ?_⟩) (fun _ c => by omega) (fun _ c => by omega) (fun _ c => by omega) (fun _ _ c => absurd hnv c)
        have := kont _ h hs (R_fr_115 _ _ _) (fun j hj => R_sA_m _ _ _ _ (by omega)) (by rw [R_sA_s, e48]) (by
          unfold X_cnt
          rw [if_neg (show op_ ≠ 8 by omega), if_neg (show op_ ≠ 9 by omega), if_neg (show op_ ≠ 10 by omega), if_pos nv.2, List.append_nil]
          exact R_xc_115 hx _ _)
        rw [show k + ((t.length + 1 : Nat) : Int) = k + (t.length : Int) + 1 by omega] at this
        exact this
    · rw [X_dd_cnt hc wt, if_neg nv] at hdd
      obtain ⟨hd1, hd3⟩ := hdd.app
      rw [X_dd_len wt] at hd3
      have sz : T_sz t ≤ T_sz (T_cnt t op_ lo hi) := by
        rw [T_sz_cnt hc wt]
        rcases hc with ⟨o1, o2, o3⟩ | ⟨o1, o2, o3, o4⟩
        · rw [if_neg (by omega)]; omega
        · rw [if_pos o1]
          by_cases c : hi = -1
          · rw [if_pos c, Int.add_mul, Int.one_mul]
            have := Int.mul_nonneg o2 st
            omega
          · rw [if_neg c]
            have := Int.mul_le_mul_of_nonneg_right (show 1 ≤ hi by omega) st
            rw [Int.one_mul] at this
            omega
      refine ih m k n K u h hs hu ha1 hd1 k0 (by omega) n0 n1 hx (by omega) (fun u1 h1 hs1 hu1 a1 a2 a3 => ?_)
      have hu3 := hu.tr hu1
      have e := ha3.one
      have e2 := hd3 0 Nat.one_pos
      rw [← hu3.2.1 90 (by decide), ← hu3.2.1 91 (by decide), ← hu3.2.1 92 (by decide)] at e
      rw [← hu3.2.1 117 (by decide), show k + (t.length : Int) + ((0 : Nat) : Int) = k + t.length by omega] at e2
      have e2 : u1.2.1 117 (k + t.length) = 0 := e2
      obtain ⟨e3, e4, e5⟩ := e
      have e13 : u1.1 13 = s.1 13 := hu3.1 13 (by decide)
      have ho : op_ = 8 ∨ op_ = 9 ∨ op_ = 10 ∨ op_ = 11 := by unfold T_cok at hc; omega
      have hnv : ¬ R_nev u1 (k + t.length) := fun q => nv ⟨by have := q.1; omega, by have := q.2.1; omega, by have := q.2.2; omega⟩
      refine R_cs_1 hs1 zb (by omega) (by omega) (by omega) (by omega) (by omega) (by omega) (fun c => by omega) (fun _ c => c.elim (fun c => by omega) (fun c => absurd c hnv)) (fun _ c => by omega) (fun _ c => by omega) (fun _ c => by omega) (fun _ _ _ => ⟨by omega, K, T_cod (decide (bk ≠ 0)) m t, a3, by rw [show n + 1 - 1 = n by omega]; exact a2, by rw [List.length_append]; omega, fun c => ⟨?_, ?_, ?_, ?_⟩, fun u3 h hs q1 q2 => ?_⟩)
      · unfold T_cok at hc; omega
      · unfold T_cok at hc; omega
      · unfold T_cok at hc; omega
      · rw [e4, e5]
        unfold X_cnt at lc
        rw [if_neg (show op_ ≠ 8 by omega), if_neg (show op_ ≠ 9 by omega), if_neg (show op_ ≠ 10 by omega), if_neg (fun q => nv ⟨by omega, q⟩)] at lc
        rw [List.length_append]
        omega
      · rw [e3, e4, e5] at q1
        have := kont u3 h hs (hu1.tr q2.fr) (fun j hj => by rw [q2.2.1 115 (by decide), a1 j hj]) (by rw [q2.2.1 115 (by decide), a2]) q1
        rw [show k + ((t.length + 1 : Nat) : Int) = k + (t.length : Int) + 1 by omega] at this
        exact this
theorem T_ops_op {t : P_T} (h : T_is t) : ∀ (m : Nat) (q : Int × Int × Int), q ∈ T_ops m t → 1 ≤ q.1 ∧ q.1 ≤ 11 := by
  have app : ∀ {a b : P_T}, (∀ m q, q ∈ T_ops m a → 1 ≤ q.1 ∧ q.1 ≤ 11) → (∀ m q, q ∈ T_ops m b → 1 ≤ q.1 ∧ q.1 ≤ 11) → ∀ (m : Nat) (q : Int × Int × Int), q ∈ T_ops m (a ++ b) → 1 ≤ q.1 ∧ q.1 ≤ 11 := fun ha hb m q hq => by
    rw [T_ops_app] at hq
    exact (List.mem_append.mp hq).elim (ha _ _) (hb _ _)
  have one : ∀ {op lo hi : Int} {B : Int → Prop}, 1 ≤ op → op ≤ 11 → ∀ (m : Nat) (q : Int × Int × Int), q ∈ T_ops m [(op, lo, hi, B)] → 1 ≤ q.1 ∧ q.1 ≤ 11 := fun {op lo hi B} h0 h1 m q hq => by
    by_cases c : op = 1
    · have hq : q ∈ (if op = 1 then (1, (m : Int), 0) :: T_ops (m + 1) [] else (op, lo, hi) :: T_ops m []) := hq
      rw [if_pos c] at hq
      rcases List.mem_cons.mp hq with e | e
      · rw [e]; show (1 : Int) ≤ 1 ∧ (1 : Int) ≤ 11; decide
      · cases e
    · rw [T_ops_one (q := (op, lo, hi, B)) c] at hq
      rcases List.mem_cons.mp hq with e | e
      · rw [e]; exact ⟨h0, h1⟩
      · cases e
  refine T_ind (P := fun t => ∀ m q, q ∈ T_ops m t → 1 ≤ q.1 ∧ q.1 ≤ 11) h (one (by decide) (by decide)) (fun A hA => ?_) (fun l r h1 h2 p1 p2 => app (app p1 p2) (one (by decide) (by decide))) (fun l r h1 h2 p1 p2 => app (app p1 p2) (one (by decide) (by decide))) (fun t op lo hi hc h1 p1 => app p1 (one (by unfold T_cok at hc; omega) (by unfold T_cok at hc; omega)))
  cases A with
  | inl op =>
    have hA : op = 2 ∨ op = 3 ∨ op = 4 := hA
    exact one (by omega) (by omega)
  | inr B => exact one (by decide) (by decide)
theorem R_tl.ops {s : R_S} {t : P_T} (tl : R_tl s t) (h : T_is t) : ∀ j, 0 ≤ j → j < s.1 13 → 1 ≤ s.2.1 90 j ∧ s.2.1 90 j ≤ 11 := fun j j0 j1 => by
  have e13 := tl.n13
  have := (tl.e j.toNat (by omega)).1
  rw [show ((j.toNat : Nat) : Int) = j by omega] at this
  rw [this]
  exact T_ops_op h 0 _ (List.getElem_mem _)
theorem R_codes (d : Nat) (s : R_S) {t : P_T} {bk : Int} (zb : Zr bk) (hw : T_is t) (hd : T_dp t ≤ 23) (tl : R_tl s t) (p1 : s.1 13 ≤ 400) (dd : R_dd s 0 (X_dd t)) (sz : T_sz t ≤ 200) : R_ok (d + 6) 259 [.int (Zi bk)] s (fun x s2 => x = none ∧ R_fr [48] [113, 114, 115, 116] s s2 ∧ R_xc s2 (T_cod (decide (bk ≠ 0)) 0 t)) := by
  refine R_enter (M := E_m259) rfl (Nat.le_of_ble_eq_true rfl) (fun h0 h hs => ?_)
  show B_R (d + 5) _ (0, [(0, .ref 83), (1, .int (Zi bk))], []) _ _ _
  refine Z_go (f2 := (1, [(0, .ref 83), (1, .int (Zi bk))], [.ref 83])) (fun _ => rfl) ?_
  refine Z_go (f2 := (2, [(0, .ref 83), (1, .int (Zi bk))], [.int (Zi 0), .ref 83])) (fun _ => rfl) ?_
  refine R_pf rfl hs rfl (by first | exact hs.zF _ | exact Zor_r _ _ | exact hs.zA _ _ | assumption | exact zA _ _ | exact zS _ | exact Zr_not (hs.zA _ _) | exact ⟨by omega, by omega⟩) ⟨rfl, rfl, rfl⟩ (fun h hs => ?_)
  refine Z_go (f2 := (6, [(0, .ref 83), (1, .int (Zi bk))], [.int (Zi 0)])) (fun _ => rfl) ?_
  refine Z_go (f2 := (7, [(2, .int (Zi 0)), (0, .ref 83), (1, .int (Zi bk))], [])) (fun _ => rfl) ?_
  refine Z_go (f2 := (8, [(2, .int (Zi 0)), (0, .ref 83), (1, .int (Zi bk))], [.int (Zi 0)])) (fun _ => rfl) ?_
  refine Z_go (f2 := (9, [(3, .int (Zi 0)), (2, .int (Zi 0)), (0, .ref 83), (1, .int (Zi bk))], [])) (fun _ => rfl) ?_
  have e13 : s.1 13 = ((T_ops 0 t).length : Int) := tl.n13
  have el := T_ops_len t 0
  have ha : R_at_ s 0 (T_ops 0 t) := fun i hi => by
    have := tl.e i hi
    rw [Int.zero_add]
    exact this
  refine B_loc (K := [(3, .int (Zi 0)), (2, .int (Zi 0)), (0, .ref 83), (1, .int (Zi bk))]) (N_all_sub ⟨rfl, rfl, rfl, rfl, trivial⟩) (show ([3, 2, 0, 1] : List Nat).Nodup by decide) ?_
  have fr0 : R_fr [48] [113, 114, 115, 116] s (R_sF s 48 0) := ⟨fun b hb => R_sF_n _ _ (fun e => hb (by rw [e]; decide)), fun _ _ _ => rfl, rfl⟩
  refine R_codes_t zb p1 (tl.ops hw) t hw 0 0 0 [] _ h hs fr0 ha dd (by omega) (by omega) (by omega) (by omega) ⟨R_sF_s _ _ _, fun i hi => absurd hi (Nat.not_lt_zero _)⟩ (by show ((0 : Nat) : Int) + _ < _; omega) (fun u h hs hu q1 q2 q3 => ?_)
  have u13 : u.1 13 = s.1 13 := (fr0.tr hu).1 13 (by decide)
  rw [show (0 : Int) + t.length = u.1 13 by omega, show (0 : Int) + 1 = 1 from rfl]
  refine Z_go (f2 := (10, [(3, .int (Zi (u.1 13))), (2, .int (Zi 1)), (0, .ref 83), (1, .int (Zi bk))], [.int (Zi (u.1 13))])) (fun _ => rfl) ?_
  refine Z_go (f2 := (11, [(3, .int (Zi (u.1 13))), (2, .int (Zi 1)), (0, .ref 83), (1, .int (Zi bk))], [.ref 83, .int (Zi (u.1 13))])) (fun _ => rfl) ?_
  refine R_gi rfl hs rfl ?_
  show B_R _ _ (14, [(3, .int (Zi (u.1 13))), (2, .int (Zi 1)), (0, .ref 83), (1, .int (Zi bk))], [.int (Zi (u.1 13)), .int (Zi (u.1 13))]) _ _ _
  refine Z_cge rfl rfl (by first | exact hs.zF _ | exact Zor_r _ _ | exact hs.zA _ _ | assumption | exact zA _ _ | exact zS _ | exact Zr_not (hs.zA _ _) | exact ⟨by omega, by omega⟩) (by first | exact hs.zF _ | exact Zor_r _ _ | exact hs.zA _ _ | assumption | exact zA _ _ | exact zS _ | exact Zr_not (hs.zA _ _) | exact ⟨by omega, by omega⟩) (fun c1 => ?_) (fun c1 => ?_)
  · refine Z_ret rfl rfl ⟨_, hs, ?_, rfl⟩
    exact ⟨rfl, fr0.tr hu, q3⟩
  · exfalso; omega
