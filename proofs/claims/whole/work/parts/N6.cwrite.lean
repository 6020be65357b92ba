/-! the class: GramFinder: a number comes -/
/-- a byte comes -/
def C_w1 (s : C_S) (g tb : Nat) (m w : Int) : C_S := C_sF (C_sA s tb m w) g 1 (m + 1)
def C_wn (s : C_S) (g tb : Nat) (m v : Int) : C_S := C_w1 (C_w1 (C_w1 (C_w1 s g tb m ((v % 4294967296 / 16777216 + 128) % 256 - 128)) g tb (m + 1) ((v % 4294967296 / 65536 + 128) % 256 - 128)) g tb (m + 1 + 1) ((v % 4294967296 / 256 + 128) % 256 - 128)) g tb (m + 1 + 1 + 1) ((v % 4294967296 / 1 + 128) % 256 - 128)
theorem C_writeN (d : Nat) {s : C_S} {g tb sh pa pl ma re : Nat} {m : Int} {v : Int} (hg : D_G s g tb sh pa pl ma re m) (zv : Zr v) (m4 : m + 4 ≤ 1000) : C_ok (d + 1) 162 [.ref g, .int (Zi v)] s (fun x s2 n => x = none ∧ n = 0 ∧ s2 = C_wn s g tb m v) := by
  refine C_enter (M := E_m162) rfl (Nat.le_of_ble_eq_true rfl) (fun h0 h hs => ?_)
  show B_R (d + 0) _ (0, [(0, .ref g), (1, .int (Zi v))], []) _ _ _
  have w := hs.1
  obtain ⟨gk, gt, g0, tk, tt, g2, g3, g4, g5, g6, gm, m0, m1⟩ := id hg
  have zm : Zr m := ⟨by omega, by omega⟩
  refine Z_go (f2 := (2, [(0, .ref g), (1, .int (Zi v))], [.int (Zi 24)])) (fun _ => rfl) ?_
  refine Z_go (f2 := (3, [(2, .int (Zi 24)), (0, .ref g), (1, .int (Zi v))], [])) (fun _ => rfl) ?_
  refine Z_go (f2 := (4, [(2, .int (Zi 24)), (0, .ref g), (1, .int (Zi v))], [.int (Zi 24)])) (fun _ => rfl) ?_
  refine Z_ilt rfl rfl (by first | exact hs.zF _ _ | exact Zor_r _ _ | exact hs.zA _ _ | assumption | exact zA _ _ | exact zS _ | exact Zr_not (hs.zA _ _) | exact hs.1.1 _ _ | exact ⟨by omega, by omega⟩) (fun y1 => ?_) (fun y1 => ?_)
  · exfalso; omega
  · refine Z_go (f2 := (8, [(2, .int (Zi 24)), (0, .ref g), (1, .int (Zi v))], [.ref g])) (fun _ => rfl) ?_
    refine C_gi rfl hs gk (by decide) (Nat.le_of_ble_eq_true rfl) rfl ?_
    rw [show C_F (s) g 1 = m from (by first | exact gm | exact (if_neg (fun e => absurd e.1 (by assumption))).trans gm | exact (if_neg (fun e => absurd e.2 (by decide))).trans gm | exact (if_neg (fun e => absurd e.2 (by decide))).trans ((if_neg (fun e => absurd e.2 (by decide))).trans gm) | exact (if_neg (fun e => absurd e.2 (by decide))).trans ((if_neg (fun e => absurd e.2 (by decide))).trans ((if_neg (fun e => absurd e.2 (by decide))).trans gm)))]
    show B_R _ _ (11, [(2, .int (Zi 24)), (0, .ref g), (1, .int (Zi v))], [.int (Zi m)]) _ _ _
    refine Z_ilt rfl rfl (by first | exact hs.zF _ _ | exact Zor_r _ _ | exact hs.zA _ _ | assumption | exact zA _ _ | exact zS _ | exact Zr_not (hs.zA _ _) | exact hs.1.1 _ _ | exact ⟨by omega, by omega⟩) (fun y2 => ?_) (fun y2 => ?_)
    · exfalso; omega
    · refine Z_go (f2 := (15, [(2, .int (Zi 24)), (0, .ref g), (1, .int (Zi v))], [.ref g])) (fun _ => rfl) ?_
      refine C_gi rfl hs gk (by decide) (Nat.le_of_ble_eq_true rfl) rfl ?_
      rw [show C_F (s) g 1 = m from (by first | exact gm | exact (if_neg (fun e => absurd e.1 (by assumption))).trans gm | exact (if_neg (fun e => absurd e.2 (by decide))).trans gm | exact (if_neg (fun e => absurd e.2 (by decide))).trans ((if_neg (fun e => absurd e.2 (by decide))).trans gm) | exact (if_neg (fun e => absurd e.2 (by decide))).trans ((if_neg (fun e => absurd e.2 (by decide))).trans ((if_neg (fun e => absurd e.2 (by decide))).trans gm)))]
      show B_R _ _ (18, [(2, .int (Zi 24)), (0, .ref g), (1, .int (Zi v))], [.int (Zi m)]) _ _ _
      refine Z_go (f2 := (19, [(2, .int (Zi 24)), (0, .ref g), (1, .int (Zi v))], [.ref g, .int (Zi m)])) (fun _ => rfl) ?_
      refine C_gr rfl hs gk (by decide) (Nat.le_of_ble_eq_true rfl) rfl g0 ?_
      refine C_al rfl hs tk (by decide) ?_
      show B_R _ _ (23, [(2, .int (Zi 24)), (0, .ref g), (1, .int (Zi v))], [.int (Zi 1000), .int (Zi m)]) _ _ _
      refine Z_cge rfl rfl (by first | exact hs.zF _ _ | exact Zor_r _ _ | exact hs.zA _ _ | assumption | exact zA _ _ | exact zS _ | exact Zr_not (hs.zA _ _) | exact hs.1.1 _ _ | exact ⟨by omega, by omega⟩) (by first | exact hs.zF _ _ | exact Zor_r _ _ | exact hs.zA _ _ | assumption | exact zA _ _ | exact zS _ | exact Zr_not (hs.zA _ _) | exact hs.1.1 _ _ | exact ⟨by omega, by omega⟩) (fun y3 => ?_) (fun y3 => ?_)
      · exfalso; omega
      · refine Z_go (f2 := (27, [(2, .int (Zi 24)), (0, .ref g), (1, .int (Zi v))], [.ref g])) (fun _ => rfl) ?_
        refine C_gr rfl hs gk (by decide) (Nat.le_of_ble_eq_true rfl) rfl g0 ?_
        refine Z_go (f2 := (31, [(2, .int (Zi 24)), (0, .ref g), (1, .int (Zi v))], [.ref g, .ref tb])) (fun _ => rfl) ?_
        refine C_gi rfl hs gk (by decide) (Nat.le_of_ble_eq_true rfl) rfl ?_
        rw [show C_F (s) g 1 = m from (by first | exact gm | exact (if_neg (fun e => absurd e.1 (by assumption))).trans gm | exact (if_neg (fun e => absurd e.2 (by decide))).trans gm | exact (if_neg (fun e => absurd e.2 (by decide))).trans ((if_neg (fun e => absurd e.2 (by decide))).trans gm) | exact (if_neg (fun e => absurd e.2 (by decide))).trans ((if_neg (fun e => absurd e.2 (by decide))).trans ((if_neg (fun e => absurd e.2 (by decide))).trans gm)))]
        show B_R _ _ (34, [(2, .int (Zi 24)), (0, .ref g), (1, .int (Zi v))], [.int (Zi m), .ref tb]) _ _ _
        refine Z_go (f2 := (35, [(2, .int (Zi 24)), (0, .ref g), (1, .int (Zi v))], [.int (Zi v), .int (Zi m), .ref tb])) (fun _ => rfl) ?_
        refine Z_go (f2 := (36, [(2, .int (Zi 24)), (0, .ref g), (1, .int (Zi v))], [.int (Zi 24), .int (Zi v), .int (Zi m), .ref tb])) (fun _ => rfl) ?_
        refine Z_iushr rfl (by omega) (by omega) (p := 16777216) (by rfl) ?_
        refine Z_i2b rfl ?_
        refine C_bs rfl hs tk (by omega) (by omega) (C_nar_b (by omega)) (by omega) (fun h hs => ?_)
        refine Z_go (f2 := (40, [(2, .int (Zi 24)), (0, .ref g), (1, .int (Zi v))], [.ref g])) (fun _ => rfl) ?_
        refine Z_go (f2 := (41, [(2, .int (Zi 24)), (0, .ref g), (1, .int (Zi v))], [.ref g, .ref g])) (fun _ => rfl) ?_
        refine C_gi rfl hs gk (by decide) (Nat.le_of_ble_eq_true rfl) rfl ?_
        rw [show C_F (C_sA s tb m ((v % 4294967296 / 16777216 + 128) % 256 - 128)) g 1 = m from (by first | exact gm | exact (if_neg (fun e => absurd e.1 (by assumption))).trans gm | exact (if_neg (fun e => absurd e.2 (by decide))).trans gm | exact (if_neg (fun e => absurd e.2 (by decide))).trans ((if_neg (fun e => absurd e.2 (by decide))).trans gm) | exact (if_neg (fun e => absurd e.2 (by decide))).trans ((if_neg (fun e => absurd e.2 (by decide))).trans ((if_neg (fun e => absurd e.2 (by decide))).trans gm)))]
        show B_R _ _ (44, [(2, .int (Zi 24)), (0, .ref g), (1, .int (Zi v))], [.int (Zi m), .ref g]) _ _ _
        refine Z_go (f2 := (45, [(2, .int (Zi 24)), (0, .ref g), (1, .int (Zi v))], [.int (Zi 1), .int (Zi m), .ref g])) (fun _ => rfl) ?_
        refine Z_iadd rfl ?_
        refine C_pi rfl hs gk (by decide) (Nat.le_of_ble_eq_true rfl) (.inl rfl) rfl rfl rfl (by first | exact hs.zF _ _ | exact Zor_r _ _ | exact hs.zA _ _ | assumption | exact zA _ _ | exact zS _ | exact Zr_not (hs.zA _ _) | exact hs.1.1 _ _ | exact ⟨by omega, by omega⟩) (fun h hs => ?_)
        refine Z_iinc (L2 := [(2, .int (Zi (24 + (-8)))), (0, .ref g), (1, .int (Zi v))]) rfl rfl (by decide) rfl ?_
        show B_R _ _ (52, [(2, .int (Zi 16)), (0, .ref g), (1, .int (Zi v))], []) _ _ _
        refine Z_go (f2 := (3, [(2, .int (Zi 16)), (0, .ref g), (1, .int (Zi v))], [])) (fun _ => rfl) ?_
        refine Z_go (f2 := (4, [(2, .int (Zi 16)), (0, .ref g), (1, .int (Zi v))], [.int (Zi 16)])) (fun _ => rfl) ?_
        refine Z_ilt rfl rfl (by first | exact hs.zF _ _ | exact Zor_r _ _ | exact hs.zA _ _ | assumption | exact zA _ _ | exact zS _ | exact Zr_not (hs.zA _ _) | exact hs.1.1 _ _ | exact ⟨by omega, by omega⟩) (fun y4 => ?_) (fun y4 => ?_)
        · exfalso; omega
        · refine Z_go (f2 := (8, [(2, .int (Zi 16)), (0, .ref g), (1, .int (Zi v))], [.ref g])) (fun _ => rfl) ?_
          refine C_gi rfl hs gk (by decide) (Nat.le_of_ble_eq_true rfl) rfl ?_
          rw [show C_F (C_sF (C_sA s tb m ((v % 4294967296 / 16777216 + 128) % 256 - 128)) g 1 (m + 1)) g 1 = m + 1 from (by first | rfl | (simp only [C_F, C_P, C_A, C_L, C_Q, C_K, C_T, C_n, C_sF, C_sP, C_sA, C_sL, C_sQ, C_sAf, C_sQf]; simp [*]; done) | (simp only [C_F, C_P, C_A, C_L, C_Q, C_K, C_T, C_n, C_sF, C_sP, C_sA, C_sL, C_sQ, C_sAf, C_sQf]; simp; omega))]; show B_R _ _ (11, [(2, .int (Zi 16)), (0, .ref g), (1, .int (Zi v))], [.int (Zi (m + 1))]) _ _ _
          refine Z_ilt rfl rfl (by first | exact hs.zF _ _ | exact Zor_r _ _ | exact hs.zA _ _ | assumption | exact zA _ _ | exact zS _ | exact Zr_not (hs.zA _ _) | exact hs.1.1 _ _ | exact ⟨by omega, by omega⟩) (fun y5 => ?_) (fun y5 => ?_)
          · exfalso; omega
          · refine Z_go (f2 := (15, [(2, .int (Zi 16)), (0, .ref g), (1, .int (Zi v))], [.ref g])) (fun _ => rfl) ?_
            refine C_gi rfl hs gk (by decide) (Nat.le_of_ble_eq_true rfl) rfl ?_
            rw [show C_F (C_sF (C_sA s tb m ((v % 4294967296 / 16777216 + 128) % 256 - 128)) g 1 (m + 1)) g 1 = m + 1 from (by first | rfl | (simp only [C_F, C_P, C_A, C_L, C_Q, C_K, C_T, C_n, C_sF, C_sP, C_sA, C_sL, C_sQ, C_sAf, C_sQf]; simp [*]; done) | (simp only [C_F, C_P, C_A, C_L, C_Q, C_K, C_T, C_n, C_sF, C_sP, C_sA, C_sL, C_sQ, C_sAf, C_sQf]; simp; omega))]; show B_R _ _ (18, [(2, .int (Zi 16)), (0, .ref g), (1, .int (Zi v))], [.int (Zi (m + 1))]) _ _ _
            refine Z_go (f2 := (19, [(2, .int (Zi 16)), (0, .ref g), (1, .int (Zi v))], [.ref g, .int (Zi (m + 1))])) (fun _ => rfl) ?_
            refine C_gr rfl hs gk (by decide) (Nat.le_of_ble_eq_true rfl) rfl g0 ?_
            refine C_al rfl hs tk (by decide) ?_
            show B_R _ _ (23, [(2, .int (Zi 16)), (0, .ref g), (1, .int (Zi v))], [.int (Zi 1000), .int (Zi (m + 1))]) _ _ _
            refine Z_cge rfl rfl (by first | exact hs.zF _ _ | exact Zor_r _ _ | exact hs.zA _ _ | assumption | exact zA _ _ | exact zS _ | exact Zr_not (hs.zA _ _) | exact hs.1.1 _ _ | exact ⟨by omega, by omega⟩) (by first | exact hs.zF _ _ | exact Zor_r _ _ | exact hs.zA _ _ | assumption | exact zA _ _ | exact zS _ | exact Zr_not (hs.zA _ _) | exact hs.1.1 _ _ | exact ⟨by omega, by omega⟩) (fun y6 => ?_) (fun y6 => ?_)
            · exfalso; omega
            · refine Z_go (f2 := (27, [(2, .int (Zi 16)), (0, .ref g), (1, .int (Zi v))], [.ref g])) (fun _ => rfl) ?_
              refine C_gr rfl hs gk (by decide) (Nat.le_of_ble_eq_true rfl) rfl g0 ?_
              refine Z_go (f2 := (31, [(2, .int (Zi 16)), (0, .ref g), (1, .int (Zi v))], [.ref g, .ref tb])) (fun _ => rfl) ?_
              refine C_gi rfl hs gk (by decide) (Nat.le_of_ble_eq_true rfl) rfl ?_
              rw [show C_F (C_sF (C_sA s tb m ((v % 4294967296 / 16777216 + 128) % 256 - 128)) g 1 (m + 1)) g 1 = m + 1 from (by first | rfl | (simp only [C_F, C_P, C_A, C_L, C_Q, C_K, C_T, C_n, C_sF, C_sP, C_sA, C_sL, C_sQ, C_sAf, C_sQf]; simp [*]; done) | (simp only [C_F, C_P, C_A, C_L, C_Q, C_K, C_T, C_n, C_sF, C_sP, C_sA, C_sL, C_sQ, C_sAf, C_sQf]; simp; omega))]; show B_R _ _ (34, [(2, .int (Zi 16)), (0, .ref g), (1, .int (Zi v))], [.int (Zi (m + 1)), .ref tb]) _ _ _
              refine Z_go (f2 := (35, [(2, .int (Zi 16)), (0, .ref g), (1, .int (Zi v))], [.int (Zi v), .int (Zi (m + 1)), .ref tb])) (fun _ => rfl) ?_
              refine Z_go (f2 := (36, [(2, .int (Zi 16)), (0, .ref g), (1, .int (Zi v))], [.int (Zi 16), .int (Zi v), .int (Zi (m + 1)), .ref tb])) (fun _ => rfl) ?_
              refine Z_iushr rfl (by omega) (by omega) (p := 65536) (by rfl) ?_
              refine Z_i2b rfl ?_
              refine C_bs rfl hs tk (by omega) (by omega) (C_nar_b (by omega)) (by omega) (fun h hs => ?_)
              refine Z_go (f2 := (40, [(2, .int (Zi 16)), (0, .ref g), (1, .int (Zi v))], [.ref g])) (fun _ => rfl) ?_
              refine Z_go (f2 := (41, [(2, .int (Zi 16)), (0, .ref g), (1, .int (Zi v))], [.ref g, .ref g])) (fun _ => rfl) ?_
              refine C_gi rfl hs gk (by decide) (Nat.le_of_ble_eq_true rfl) rfl ?_
              rw [show C_F (C_sA (C_sF (C_sA s tb m ((v % 4294967296 / 16777216 + 128) % 256 - 128)) g 1 (m + 1)) tb (m + 1) ((v % 4294967296 / 65536 + 128) % 256 - 128)) g 1 = m + 1 from (by first | rfl | (simp only [C_F, C_P, C_A, C_L, C_Q, C_K, C_T, C_n, C_sF, C_sP, C_sA, C_sL, C_sQ, C_sAf, C_sQf]; simp [*]; done) | (simp only [C_F, C_P, C_A, C_L, C_Q, C_K, C_T, C_n, C_sF, C_sP, C_sA, C_sL, C_sQ, C_sAf, C_sQf]; simp; omega))]; show B_R _ _ (44, [(2, .int (Zi 16)), (0, .ref g), (1, .int (Zi v))], [.int (Zi (m + 1)), .ref g]) _ _ _
              refine Z_go (f2 := (45, [(2, .int (Zi 16)), (0, .ref g), (1, .int (Zi v))], [.int (Zi 1), .int (Zi (m + 1)), .ref g])) (fun _ => rfl) ?_
              refine Z_iadd rfl ?_
              refine C_pi rfl hs gk (by decide) (Nat.le_of_ble_eq_true rfl) (.inl rfl) rfl rfl rfl (by first | exact hs.zF _ _ | exact Zor_r _ _ | exact hs.zA _ _ | assumption | exact zA _ _ | exact zS _ | exact Zr_not (hs.zA _ _) | exact hs.1.1 _ _ | exact ⟨by omega, by omega⟩) (fun h hs => ?_)
              refine Z_iinc (L2 := [(2, .int (Zi (16 + (-8)))), (0, .ref g), (1, .int (Zi v))]) rfl rfl (by decide) rfl ?_
              show B_R _ _ (52, [(2, .int (Zi 8)), (0, .ref g), (1, .int (Zi v))], []) _ _ _
              refine Z_go (f2 := (3, [(2, .int (Zi 8)), (0, .ref g), (1, .int (Zi v))], [])) (fun _ => rfl) ?_
              refine Z_go (f2 := (4, [(2, .int (Zi 8)), (0, .ref g), (1, .int (Zi v))], [.int (Zi 8)])) (fun _ => rfl) ?_
              refine Z_ilt rfl rfl (by first | exact hs.zF _ _ | exact Zor_r _ _ | exact hs.zA _ _ | assumption | exact zA _ _ | exact zS _ | exact Zr_not (hs.zA _ _) | exact hs.1.1 _ _ | exact ⟨by omega, by omega⟩) (fun y7 => ?_) (fun y7 => ?_)
              · exfalso; omega
              · refine Z_go (f2 := (8, [(2, .int (Zi 8)), (0, .ref g), (1, .int (Zi v))], [.ref g])) (fun _ => rfl) ?_
                refine C_gi rfl hs gk (by decide) (Nat.le_of_ble_eq_true rfl) rfl ?_
                rw [show C_F (C_sF (C_sA (C_sF (C_sA s tb m ((v % 4294967296 / 16777216 + 128) % 256 - 128)) g 1 (m + 1)) tb (m + 1) ((v % 4294967296 / 65536 + 128) % 256 - 128)) g 1 (m + 1 + 1)) g 1 = m + 1 + 1 from (by first | rfl | (simp only [C_F, C_P, C_A, C_L, C_Q, C_K, C_T, C_n, C_sF, C_sP, C_sA, C_sL, C_sQ, C_sAf, C_sQf]; simp [*]; done) | (simp only [C_F, C_P, C_A, C_L, C_Q, C_K, C_T, C_n, C_sF, C_sP, C_sA, C_sL, C_sQ, C_sAf, C_sQf]; simp; omega))]; show B_R _ _ (11, [(2, .int (Zi 8)), (0, .ref g), (1, .int (Zi v))], [.int (Zi (m + 1 + 1))]) _ _ _
                refine Z_ilt rfl rfl (by first | exact hs.zF _ _ | exact Zor_r _ _ | exact hs.zA _ _ | assumption | exact zA _ _ | exact zS _ | exact Zr_not (hs.zA _ _) | exact hs.1.1 _ _ | exact ⟨by omega, by omega⟩) (fun y8 => ?_) (fun y8 => ?_)
                · exfalso; omega
                · refine Z_go (f2 := (15, [(2, .int (Zi 8)), (0, .ref g), (1, .int (Zi v))], [.ref g])) (fun _ => rfl) ?_
                  refine C_gi rfl hs gk (by decide) (Nat.le_of_ble_eq_true rfl) rfl ?_
                  rw [show C_F (C_sF (C_sA (C_sF (C_sA s tb m ((v % 4294967296 / 16777216 + 128) % 256 - 128)) g 1 (m + 1)) tb (m + 1) ((v % 4294967296 / 65536 + 128) % 256 - 128)) g 1 (m + 1 + 1)) g 1 = m + 1 + 1 from (by first | rfl | (simp only [C_F, C_P, C_A, C_L, C_Q, C_K, C_T, C_n, C_sF, C_sP, C_sA, C_sL, C_sQ, C_sAf, C_sQf]; simp [*]; done) | (simp only [C_F, C_P, C_A, C_L, C_Q, C_K, C_T, C_n, C_sF, C_sP, C_sA, C_sL, C_sQ, C_sAf, C_sQf]; simp; omega))]; show B_R _ _ (18, [(2, .int (Zi 8)), (0, .ref g), (1, .int (Zi v))], [.int (Zi (m + 1 + 1))]) _ _ _
                  refine Z_go (f2 := (19, [(2, .int (Zi 8)), (0, .ref g), (1, .int (Zi v))], [.ref g, .int (Zi (m + 1 + 1))])) (fun _ => rfl) ?_
                  refine C_gr rfl hs gk (by decide) (Nat.le_of_ble_eq_true rfl) rfl g0 ?_
                  refine C_al rfl hs tk (by decide) ?_
                  show B_R _ _ (23, [(2, .int (Zi 8)), (0, .ref g), (1, .int (Zi v))], [.int (Zi 1000), .int (Zi (m + 1 + 1))]) _ _ _
                  refine Z_cge rfl rfl (by first | exact hs.zF _ _ | exact Zor_r _ _ | exact hs.zA _ _ | assumption | exact zA _ _ | exact zS _ | exact Zr_not (hs.zA _ _) | exact hs.1.1 _ _ | exact ⟨by omega, by omega⟩) (by first | exact hs.zF _ _ | exact Zor_r _ _ | exact hs.zA _ _ | assumption | exact zA _ _ | exact zS _ | exact Zr_not (hs.zA _ _) | exact hs.1.1 _ _ | exact ⟨by omega, by omega⟩) (fun y9 => ?_) (fun y9 => ?_)
                  · exfalso; omega
                  · refine Z_go (f2 := (27, [(2, .int (Zi 8)), (0, .ref g), (1, .int (Zi v))], [.ref g])) (fun _ => rfl) ?_
                    refine C_gr rfl hs gk (by decide) (Nat.le_of_ble_eq_true rfl) rfl g0 ?_
                    refine Z_go (f2 := (31, [(2, .int (Zi 8)), (0, .ref g), (1, .int (Zi v))], [.ref g, .ref tb])) (fun _ => rfl) ?_
                    refine C_gi rfl hs gk (by decide) (Nat.le_of_ble_eq_true rfl) rfl ?_
                    rw [show C_F (C_sF (C_sA (C_sF (C_sA s tb m ((v % 4294967296 / 16777216 + 128) % 256 - 128)) g 1 (m + 1)) tb (m + 1) ((v % 4294967296 / 65536 + 128) % 256 - 128)) g 1 (m + 1 + 1)) g 1 = m + 1 + 1 from (by first | rfl | (simp only [C_F, C_P, C_A, C_L, C_Q, C_K, C_T, C_n, C_sF, C_sP, C_sA, C_sL, C_sQ, C_sAf, C_sQf]; simp [*]; done) | (simp only [C_F, C_P, C_A, C_L, C_Q, C_K, C_T, C_n, C_sF, C_sP, C_sA, C_sL, C_sQ, C_sAf, C_sQf]; simp; omega))]; show B_R _ _ (34, [(2, .int (Zi 8)), (0, .ref g), (1, .int (Zi v))], [.int (Zi (m + 1 + 1)), .ref tb]) _ _ _
                    refine Z_go (f2 := (35, [(2, .int (Zi 8)), (0, .ref g), (1, .int (Zi v))], [.int (Zi v), .int (Zi (m + 1 + 1)), .ref tb])) (fun _ => rfl) ?_
                    refine Z_go (f2 := (36, [(2, .int (Zi 8)), (0, .ref g), (1, .int (Zi v))], [.int (Zi 8), .int (Zi v), .int (Zi (m + 1 + 1)), .ref tb])) (fun _ => rfl) ?_
                    refine Z_iushr rfl (by omega) (by omega) (p := 256) (by rfl) ?_
                    refine Z_i2b rfl ?_
                    refine C_bs rfl hs tk (by omega) (by omega) (C_nar_b (by omega)) (by omega) (fun h hs => ?_)
                    refine Z_go (f2 := (40, [(2, .int (Zi 8)), (0, .ref g), (1, .int (Zi v))], [.ref g])) (fun _ => rfl) ?_
                    refine Z_go (f2 := (41, [(2, .int (Zi 8)), (0, .ref g), (1, .int (Zi v))], [.ref g, .ref g])) (fun _ => rfl) ?_
                    refine C_gi rfl hs gk (by decide) (Nat.le_of_ble_eq_true rfl) rfl ?_
                    rw [show C_F (C_sA (C_sF (C_sA (C_sF (C_sA s tb m ((v % 4294967296 / 16777216 + 128) % 256 - 128)) g 1 (m + 1)) tb (m + 1) ((v % 4294967296 / 65536 + 128) % 256 - 128)) g 1 (m + 1 + 1)) tb (m + 1 + 1) ((v % 4294967296 / 256 + 128) % 256 - 128)) g 1 = m + 1 + 1 from (by first | rfl | (simp only [C_F, C_P, C_A, C_L, C_Q, C_K, C_T, C_n, C_sF, C_sP, C_sA, C_sL, C_sQ, C_sAf, C_sQf]; simp [*]; done) | (simp only [C_F, C_P, C_A, C_L, C_Q, C_K, C_T, C_n, C_sF, C_sP, C_sA, C_sL, C_sQ, C_sAf, C_sQf]; simp; omega))]; show B_R _ _ (44, [(2, .int (Zi 8)), (0, .ref g), (1, .int (Zi v))], [.int (Zi (m + 1 + 1)), .ref g]) _ _ _
                    refine Z_go (f2 := (45, [(2, .int (Zi 8)), (0, .ref g), (1, .int (Zi v))], [.int (Zi 1), .int (Zi (m + 1 + 1)), .ref g])) (fun _ => rfl) ?_
                    refine Z_iadd rfl ?_
                    refine C_pi rfl hs gk (by decide) (Nat.le_of_ble_eq_true rfl) (.inl rfl) rfl rfl rfl (by first | exact hs.zF _ _ | exact Zor_r _ _ | exact hs.zA _ _ | assumption | exact zA _ _ | exact zS _ | exact Zr_not (hs.zA _ _) | exact hs.1.1 _ _ | exact ⟨by omega, by omega⟩) (fun h hs => ?_)
                    refine Z_iinc (L2 := [(2, .int (Zi (8 + (-8)))), (0, .ref g), (1, .int (Zi v))]) rfl rfl (by decide) rfl ?_
                    show B_R _ _ (52, [(2, .int (Zi 0)), (0, .ref g), (1, .int (Zi v))], []) _ _ _
                    refine Z_go (f2 := (3, [(2, .int (Zi 0)), (0, .ref g), (1, .int (Zi v))], [])) (fun _ => rfl) ?_
                    refine Z_go (f2 := (4, [(2, .int (Zi 0)), (0, .ref g), (1, .int (Zi v))], [.int (Zi 0)])) (fun _ => rfl) ?_
                    refine Z_ilt rfl rfl (by first | exact hs.zF _ _ | exact Zor_r _ _ | exact hs.zA _ _ | assumption | exact zA _ _ | exact zS _ | exact Zr_not (hs.zA _ _) | exact hs.1.1 _ _ | exact ⟨by omega, by omega⟩) (fun y10 => ?_) (fun y10 => ?_)
                    · exfalso; omega
                    · refine Z_go (f2 := (8, [(2, .int (Zi 0)), (0, .ref g), (1, .int (Zi v))], [.ref g])) (fun _ => rfl) ?_
                      refine C_gi rfl hs gk (by decide) (Nat.le_of_ble_eq_true rfl) rfl ?_
                      rw [show C_F (C_sF (C_sA (C_sF (C_sA (C_sF (C_sA s tb m ((v % 4294967296 / 16777216 + 128) % 256 - 128)) g 1 (m + 1)) tb (m + 1) ((v % 4294967296 / 65536 + 128) % 256 - 128)) g 1 (m + 1 + 1)) tb (m + 1 + 1) ((v % 4294967296 / 256 + 128) % 256 - 128)) g 1 (m + 1 + 1 + 1)) g 1 = m + 1 + 1 + 1 from (by first | rfl | (simp only [C_F, C_P, C_A, C_L, C_Q, C_K, C_T, C_n, C_sF, C_sP, C_sA, C_sL, C_sQ, C_sAf, C_sQf]; simp [*]; done) | (simp only [C_F, C_P, C_A, C_L, C_Q, C_K, C_T, C_n, C_sF, C_sP, C_sA, C_sL, C_sQ, C_sAf, C_sQf]; simp; omega))]; show B_R _ _ (11, [(2, .int (Zi 0)), (0, .ref g), (1, .int (Zi v))], [.int (Zi (m + 1 + 1 + 1))]) _ _ _
                      refine Z_ilt rfl rfl (by first | exact hs.zF _ _ | exact Zor_r _ _ | exact hs.zA _ _ | assumption | exact zA _ _ | exact zS _ | exact Zr_not (hs.zA _ _) | exact hs.1.1 _ _ | exact ⟨by omega, by omega⟩) (fun y11 => ?_) (fun y11 => ?_)
                      · exfalso; omega
                      · refine Z_go (f2 := (15, [(2, .int (Zi 0)), (0, .ref g), (1, .int (Zi v))], [.ref g])) (fun _ => rfl) ?_
                        refine C_gi rfl hs gk (by decide) (Nat.le_of_ble_eq_true rfl) rfl ?_
                        rw [show C_F (C_sF (C_sA (C_sF (C_sA (C_sF (C_sA s tb m ((v % 4294967296 / 16777216 + 128) % 256 - 128)) g 1 (m + 1)) tb (m + 1) ((v % 4294967296 / 65536 + 128) % 256 - 128)) g 1 (m + 1 + 1)) tb (m + 1 + 1) ((v % 4294967296 / 256 + 128) % 256 - 128)) g 1 (m + 1 + 1 + 1)) g 1 = m + 1 + 1 + 1 from (by first | rfl | (simp only [C_F, C_P, C_A, C_L, C_Q, C_K, C_T, C_n, C_sF, C_sP, C_sA, C_sL, C_sQ, C_sAf, C_sQf]; simp [*]; done) | (simp only [C_F, C_P, C_A, C_L, C_Q, C_K, C_T, C_n, C_sF, C_sP, C_sA, C_sL, C_sQ, C_sAf, C_sQf]; simp; omega))]; show B_R _ _ (18, [(2, .int (Zi 0)), (0, .ref g), (1, .int (Zi v))], [.int (Zi (m + 1 + 1 + 1))]) _ _ _
                        refine Z_go (f2 := (19, [(2, .int (Zi 0)), (0, .ref g), (1, .int (Zi v))], [.ref g, .int (Zi (m + 1 + 1 + 1))])) (fun _ => rfl) ?_
                        refine C_gr rfl hs gk (by decide) (Nat.le_of_ble_eq_true rfl) rfl g0 ?_
                        refine C_al rfl hs tk (by decide) ?_
                        show B_R _ _ (23, [(2, .int (Zi 0)), (0, .ref g), (1, .int (Zi v))], [.int (Zi 1000), .int (Zi (m + 1 + 1 + 1))]) _ _ _
                        refine Z_cge rfl rfl (by first | exact hs.zF _ _ | exact Zor_r _ _ | exact hs.zA _ _ | assumption | exact zA _ _ | exact zS _ | exact Zr_not (hs.zA _ _) | exact hs.1.1 _ _ | exact ⟨by omega, by omega⟩) (by first | exact hs.zF _ _ | exact Zor_r _ _ | exact hs.zA _ _ | assumption | exact zA _ _ | exact zS _ | exact Zr_not (hs.zA _ _) | exact hs.1.1 _ _ | exact ⟨by omega, by omega⟩) (fun y12 => ?_) (fun y12 => ?_)
                        · exfalso; omega
                        · refine Z_go (f2 := (27, [(2, .int (Zi 0)), (0, .ref g), (1, .int (Zi v))], [.ref g])) (fun _ => rfl) ?_
                          refine C_gr rfl hs gk (by decide) (Nat.le_of_ble_eq_true rfl) rfl g0 ?_
                          refine Z_go (f2 := (31, [(2, .int (Zi 0)), (0, .ref g), (1, .int (Zi v))], [.ref g, .ref tb])) (fun _ => rfl) ?_
                          refine C_gi rfl hs gk (by decide) (Nat.le_of_ble_eq_true rfl) rfl ?_
                          rw [show C_F (C_sF (C_sA (C_sF (C_sA (C_sF (C_sA s tb m ((v % 4294967296 / 16777216 + 128) % 256 - 128)) g 1 (m + 1)) tb (m + 1) ((v % 4294967296 / 65536 + 128) % 256 - 128)) g 1 (m + 1 + 1)) tb (m + 1 + 1) ((v % 4294967296 / 256 + 128) % 256 - 128)) g 1 (m + 1 + 1 + 1)) g 1 = m + 1 + 1 + 1 from (by first | rfl | (simp only [C_F, C_P, C_A, C_L, C_Q, C_K, C_T, C_n, C_sF, C_sP, C_sA, C_sL, C_sQ, C_sAf, C_sQf]; simp [*]; done) | (simp only [C_F, C_P, C_A, C_L, C_Q, C_K, C_T, C_n, C_sF, C_sP, C_sA, C_sL, C_sQ, C_sAf, C_sQf]; simp; omega))]; show B_R _ _ (34, [(2, .int (Zi 0)), (0, .ref g), (1, .int (Zi v))], [.int (Zi (m + 1 + 1 + 1)), .ref tb]) _ _ _
                          refine Z_go (f2 := (35, [(2, .int (Zi 0)), (0, .ref g), (1, .int (Zi v))], [.int (Zi v), .int (Zi (m + 1 + 1 + 1)), .ref tb])) (fun _ => rfl) ?_
                          refine Z_go (f2 := (36, [(2, .int (Zi 0)), (0, .ref g), (1, .int (Zi v))], [.int (Zi 0), .int (Zi v), .int (Zi (m + 1 + 1 + 1)), .ref tb])) (fun _ => rfl) ?_
                          refine Z_iushr rfl (by omega) (by omega) (p := 1) (by rfl) ?_
                          refine Z_i2b rfl ?_
                          refine C_bs rfl hs tk (by omega) (by omega) (C_nar_b (by omega)) (by omega) (fun h hs => ?_)
                          refine Z_go (f2 := (40, [(2, .int (Zi 0)), (0, .ref g), (1, .int (Zi v))], [.ref g])) (fun _ => rfl) ?_
                          refine Z_go (f2 := (41, [(2, .int (Zi 0)), (0, .ref g), (1, .int (Zi v))], [.ref g, .ref g])) (fun _ => rfl) ?_
                          refine C_gi rfl hs gk (by decide) (Nat.le_of_ble_eq_true rfl) rfl ?_
                          rw [show C_F (C_sA (C_sF (C_sA (C_sF (C_sA (C_sF (C_sA s tb m ((v % 4294967296 / 16777216 + 128) % 256 - 128)) g 1 (m + 1)) tb (m + 1) ((v % 4294967296 / 65536 + 128) % 256 - 128)) g 1 (m + 1 + 1)) tb (m + 1 + 1) ((v % 4294967296 / 256 + 128) % 256 - 128)) g 1 (m + 1 + 1 + 1)) tb (m + 1 + 1 + 1) ((v % 4294967296 / 1 + 128) % 256 - 128)) g 1 = m + 1 + 1 + 1 from (by first | rfl | (simp only [C_F, C_P, C_A, C_L, C_Q, C_K, C_T, C_n, C_sF, C_sP, C_sA, C_sL, C_sQ, C_sAf, C_sQf]; simp [*]; done) | (simp only [C_F, C_P, C_A, C_L, C_Q, C_K, C_T, C_n, C_sF, C_sP, C_sA, C_sL, C_sQ, C_sAf, C_sQf]; simp; omega))]; show B_R _ _ (44, [(2, .int (Zi 0)), (0, .ref g), (1, .int (Zi v))], [.int (Zi (m + 1 + 1 + 1)), .ref g]) _ _ _
                          refine Z_go (f2 := (45, [(2, .int (Zi 0)), (0, .ref g), (1, .int (Zi v))], [.int (Zi 1), .int (Zi (m + 1 + 1 + 1)), .ref g])) (fun _ => rfl) ?_
                          refine Z_iadd rfl ?_
                          refine C_pi rfl hs gk (by decide) (Nat.le_of_ble_eq_true rfl) (.inl rfl) rfl rfl rfl (by first | exact hs.zF _ _ | exact Zor_r _ _ | exact hs.zA _ _ | assumption | exact zA _ _ | exact zS _ | exact Zr_not (hs.zA _ _) | exact hs.1.1 _ _ | exact ⟨by omega, by omega⟩) (fun h hs => ?_)
                          refine Z_iinc (L2 := [(2, .int (Zi (0 + (-8)))), (0, .ref g), (1, .int (Zi v))]) rfl rfl (by decide) rfl ?_
                          show B_R _ _ (52, [(2, .int (Zi ((-8)))), (0, .ref g), (1, .int (Zi v))], []) _ _ _
                          refine Z_go (f2 := (3, [(2, .int (Zi ((-8)))), (0, .ref g), (1, .int (Zi v))], [])) (fun _ => rfl) ?_
                          refine Z_go (f2 := (4, [(2, .int (Zi ((-8)))), (0, .ref g), (1, .int (Zi v))], [.int (Zi ((-8)))])) (fun _ => rfl) ?_
                          refine Z_ilt rfl rfl (by first | exact hs.zF _ _ | exact Zor_r _ _ | exact hs.zA _ _ | assumption | exact zA _ _ | exact zS _ | exact Zr_not (hs.zA _ _) | exact hs.1.1 _ _ | exact ⟨by omega, by omega⟩) (fun y13 => ?_) (fun y13 => ?_)
                          · refine Z_ret rfl rfl ⟨_, hs, ?_⟩
                            try dsimp only
                            exact ⟨rfl, rfl, rfl⟩
                          · exfalso; omega
