/-! the class: Family: offer -/
theorem C_off1 {d : Nat} {h0 h : E_H} {s : C_S} {sl : Nat} {Φ : E_R → Prop} {p : List Nat} {f qa ma R B m : Nat} {φ : Int → List Int} {q : List Nat} {o a cap : Nat} {xs : List Int} (hs : C_is h0 h s) (hf : D_Fm s p f qa ma R B m φ) (hr : D_Row s q o a cap xs) (sx : L_srt xs) (kont : (∀ k : Int, 0 ≤ k → k < m → ¬ L_le (φ k) xs) → B_R (d + 2) E_m6 (54, [(2, .long (L_mk xs)), (0, .ref f), (1, .ref o)], []) h sl Φ) (ret : (∃ k : Int, 0 ≤ k ∧ k < m ∧ L_le (φ k) xs) → Φ (none, h, sl)) : ∀ (t : Nat) (i : Int), (m : Int) - i < t → 0 ≤ i → i ≤ m → (∀ k : Int, 0 ≤ k → k < i → ¬ L_le (φ k) xs) → B_R (d + 2) E_m6 (8, [(4, .int (Zi i)), (2, .long (L_mk xs)), (0, .ref f), (1, .ref o)], []) h sl Φ := by
  have hr0 := hr
  have hf0 := hf
  have w := hs.1
  obtain ⟨⟨fk, ft, fp, fq, qk, qt, mk, mt, fn, fl, f1⟩, g1, g2, g3⟩ := hf
  have zR := (hs.len (by decide) qk).1
  have neF := hf0.ne
  intro t
  induction t with
  | zero => intro i ht i0 i1 h1; omega
  | succ t ih =>
    intro i ht i0 i1 h1
    refine Z_go (f2 := (10, [(4, .int (Zi i)), (2, .long (L_mk xs)), (0, .ref f), (1, .ref o)], [.int (Zi i)])) (fun _ => rfl) ?_
    refine Z_go (f2 := (11, [(4, .int (Zi i)), (2, .long (L_mk xs)), (0, .ref f), (1, .ref o)], [.ref f, .int (Zi i)])) (fun _ => rfl) ?_
    refine C_gi rfl hs fk (by decide) (Nat.le_of_ble_eq_true rfl) rfl ?_
    rw [show C_F (s) f 2 = (m : Int) from (by first | exact fn | exact (if_neg (fun e => absurd e.1 (by assumption))).trans fn)]
    show B_R _ _ (14, [(4, .int (Zi i)), (2, .long (L_mk xs)), (0, .ref f), (1, .ref o)], [.int (Zi ((m : Int))), .int (Zi i)]) _ _ _
    refine Z_cge rfl rfl (by first | exact hs.zF _ _ | exact Zor_r _ _ | exact hs.zA _ _ | assumption | exact zA _ _ | exact zS _ | exact Zr_not (hs.zA _ _) | exact hs.1.1 _ _ | exact ⟨by omega, by omega⟩) (by first | exact hs.zF _ _ | exact Zor_r _ _ | exact hs.zA _ _ | assumption | exact zA _ _ | exact zS _ | exact Zr_not (hs.zA _ _) | exact hs.1.1 _ _ | exact ⟨by omega, by omega⟩) (fun c1 => ?_) (fun c1 => ?_)
    · refine B_loc (K := [(2, .long (L_mk xs)), (0, .ref f), (1, .ref o)]) (N_all_sub ⟨rfl, rfl, rfl, trivial⟩) (show ([2, 0, 1] : List Nat).Nodup by decide) ?_
      exact kont (fun k k0 k1 => h1 k k0 (by omega))
    · refine Z_go (f2 := (18, [(4, .int (Zi i)), (2, .long (L_mk xs)), (0, .ref f), (1, .ref o)], [.ref f])) (fun _ => rfl) ?_
      refine Z_go (f2 := (20, [(4, .int (Zi i)), (2, .long (L_mk xs)), (0, .ref f), (1, .ref o)], [.int (Zi i), .ref f])) (fun _ => rfl) ?_
      refine C_callVR (As := [.int (Zi i)]) (rest := []) rfl (by decide) rfl (by decide) rfl rfl (by decide +kernel) (Nat.le_of_ble_eq_true rfl) hs fk (C_markOf _ hf0 (i := i) (by omega) (by omega)) (fun x q => ?_)
      obtain rfl := q
      show B_R _ _ (23, [(4, .int (Zi i)), (2, .long (L_mk xs)), (0, .ref f), (1, .ref o)], [.long (C_L s ma i)]) _ _ _
      refine Z_go (f2 := (24, [(4, .int (Zi i)), (2, .long (L_mk xs)), (0, .ref f), (1, .ref o)], [.long (L_mk xs), .long (C_L s ma i)])) (fun _ => rfl) ?_
      refine Z_go (f2 := (27, [(4, .int (Zi i)), (2, .long (L_mk xs)), (0, .ref f), (1, .ref o)], [.long (-1), .long (L_mk xs), .long (C_L s ma i)])) (fun _ => rfl) ?_
      refine Z_go (f2 := (28, [(4, .int (Zi i)), (2, .long (L_mk xs)), (0, .ref f), (1, .ref o)], [.long ((L_mk xs) ^^^ (-1)), .long (C_L s ma i)])) (fun _ => rfl) ?_
      refine Z_go (f2 := (29, [(4, .int (Zi i)), (2, .long (L_mk xs)), (0, .ref f), (1, .ref o)], [.long ((C_L s ma i) &&& ((L_mk xs) ^^^ (-1)))])) (fun _ => rfl) ?_
      refine Z_go (f2 := (30, [(4, .int (Zi i)), (2, .long (L_mk xs)), (0, .ref f), (1, .ref o)], [.long (0), .long ((C_L s ma i) &&& ((L_mk xs) ^^^ (-1)))])) (fun _ => rfl) ?_
      refine Z_lcmp rfl ?_
      obtain ⟨zl1, ezl1, hzl1, rzl1⟩ := Zl_ex ((C_L s ma i) &&& ((L_mk xs) ^^^ (-1))) (0)
      rw [ezl1]
      show B_R _ _ (31, [(4, .int (Zi i)), (2, .long (L_mk xs)), (0, .ref f), (1, .ref o)], [.int (Zi zl1)]) _ _ _
      refine Z_ine rfl rfl (by first | exact hs.zF _ _ | exact Zor_r _ _ | exact hs.zA _ _ | assumption | exact zA _ _ | exact zS _ | exact Zr_not (hs.zA _ _) | exact hs.1.1 _ _ | exact ⟨by omega, by omega⟩) (fun c2 => ?_) (fun c2 => ?_)
      · refine Z_iinc (L2 := [(4, .int (Zi (i + 1))), (2, .long (L_mk xs)), (0, .ref f), (1, .ref o)]) rfl rfl (by decide) rfl ?_
        refine Z_go (f2 := (8, [(4, .int (Zi (i + 1))), (2, .long (L_mk xs)), (0, .ref f), (1, .ref o)], [])) (fun _ => rfl) ?_
        refine B_loc (K := [(4, .int (Zi (i + 1))), (2, .long (L_mk xs)), (0, .ref f), (1, .ref o)]) (N_all_sub ⟨rfl, rfl, rfl, rfl, trivial⟩) (show ([4, 2, 0, 1] : List Nat).Nodup by decide) ?_
        exact ih _ (by omega) (by omega) (by omega) (fun k k0 k1 => by by_cases e : k = i; subst e; intro hl; have := L_mk_le hl; rw [← (g3 k i0 (by omega)).1] at this; have := hzl1.mpr this; omega; exact h1 k k0 (by omega))
      · refine Z_go (f2 := (35, [(4, .int (Zi i)), (2, .long (L_mk xs)), (0, .ref f), (1, .ref o)], [.ref f])) (fun _ => rfl) ?_
        refine Z_go (f2 := (37, [(4, .int (Zi i)), (2, .long (L_mk xs)), (0, .ref f), (1, .ref o)], [.int (Zi i), .ref f])) (fun _ => rfl) ?_
        refine C_callVR (As := [.int (Zi i)]) (rest := []) rfl (by decide) rfl (by decide) rfl rfl (by decide +kernel) (Nat.le_of_ble_eq_true rfl) hs fk (C_row_rd _ hf0 (i := i) (by omega) (by omega)) (fun x q => ?_)
        obtain ⟨r71, a71, cap71, rfl, hq71, hr71, hb71⟩ := q
        have zr71 := D_Row.zr hs hr71
        show B_R _ _ (40, [(4, .int (Zi i)), (2, .long (L_mk xs)), (0, .ref f), (1, .ref o)], [.ref r71]) _ _ _
        refine Z_go (f2 := (41, [(4, .int (Zi i)), (2, .long (L_mk xs)), (0, .ref f), (1, .ref o)], [.ref o, .ref r71])) (fun _ => rfl) ?_
        refine C_callVR (As := [.ref o]) (rest := []) rfl (by decide) rfl (by decide) rfl rfl (by decide +kernel) (Nat.le_of_ble_eq_true rfl) hs hr71.1 (C_part _ hr71 hr0 (g3 i (by omega) (by omega)).2 sx) (fun x q => ?_)
        obtain ⟨zp72, rfl, hp72⟩ := q
        have zzp : Zr zp72 := by rcases hp72 with e | e <;> exact ⟨by omega, by omega⟩
        show B_R _ _ (44, [(4, .int (Zi i)), (2, .long (L_mk xs)), (0, .ref f), (1, .ref o)], [.int (Zi zp72)]) _ _ _
        refine Z_ieq rfl rfl (by first | exact hs.zF _ _ | exact Zor_r _ _ | exact hs.zA _ _ | assumption | exact zA _ _ | exact zS _ | exact Zr_not (hs.zA _ _) | exact hs.1.1 _ _ | exact ⟨by omega, by omega⟩) (fun c3 => ?_) (fun c3 => ?_)
        · refine Z_iinc (L2 := [(4, .int (Zi (i + 1))), (2, .long (L_mk xs)), (0, .ref f), (1, .ref o)]) rfl rfl (by decide) rfl ?_
          refine Z_go (f2 := (8, [(4, .int (Zi (i + 1))), (2, .long (L_mk xs)), (0, .ref f), (1, .ref o)], [])) (fun _ => rfl) ?_
          refine B_loc (K := [(4, .int (Zi (i + 1))), (2, .long (L_mk xs)), (0, .ref f), (1, .ref o)]) (N_all_sub ⟨rfl, rfl, rfl, rfl, trivial⟩) (show ([4, 2, 0, 1] : List Nat).Nodup by decide) ?_
          exact ih _ (by omega) (by omega) (by omega) (fun k k0 k1 => by by_cases e : k = i; subst e; rcases hp72 with hh | hh; omega; exact hh.2; exact h1 k k0 (by omega))
        · refine Z_ret rfl rfl (ret ?_)
          try dsimp only
          exact ⟨i, i0, by omega, by rcases hp72 with hh | hh; exact hh.2; omega⟩
theorem C_off2 {d : Nat} {h0 : E_H} {s : C_S} {sl : Nat} {Φ : E_R → Prop} {p : List Nat} {f qa ma R B m : Nat} {φ : Int → List Int} {q : List Nat} {o a cap : Nat} {xs : List Int} (w : C_wf s) (hr : D_Row s q o a cap xs) (sx : L_srt xs) (ne : ¬ p <+: q) (kont : ∀ (k : Int) (u : C_S) (h : E_H) (ψ : Int → List Int), C_is h0 h u → D_Fm u p f qa ma R B m ψ → C_fr (fun t => p <+: t) s u → C_n u = C_n s → C_fw u qa R = C_fw s qa R → F_li k.toNat ψ = (F_li m φ).filter (F_kp xs) → 0 ≤ k → k ≤ m → B_R (d + 2) E_m6 (116, [(4, .int (Zi k)), (2, .long (L_mk xs)), (0, .ref f), (1, .ref o)], []) h sl Φ) : ∀ (t : Nat) (i k : Int) (u : C_S) (h : E_H) (ψ : Int → List Int), (m : Int) - i < t → C_is h0 h u → D_Fm u p f qa ma R B m ψ → C_fr (fun t => p <+: t) s u → C_n u = C_n s → C_fw u qa R = C_fw s qa R → F_li k.toNat ψ = (F_li i.toNat φ).filter (F_kp xs) → (∀ j : Int, i ≤ j → j < m → ψ j = φ j) → 0 ≤ k → k ≤ i → i ≤ m → B_R (d + 2) E_m6 (60, [(5, .int (Zi i)), (4, .int (Zi k)), (2, .long (L_mk xs)), (0, .ref f), (1, .ref o)], []) h sl Φ := by
  intro t
  induction t with
  | zero => intro i k u h ψ ht hs hf fr en ew hl hj k0 k1 i1; omega
  | succ t ih =>
    intro i k u h ψ ht hs hf fr en ew hl hj k0 k1 i1
    have hr0 := hr.fr w fr (fun e => ne e)
    have hf0 := hf
    obtain ⟨⟨fk, ft, fp, fq, qk, qt, mk, mt, fn, fl, f1⟩, g1, g2, g3⟩ := hf
    have zR := (hs.len (by decide) qk).1
    refine Z_go (f2 := (62, [(5, .int (Zi i)), (4, .int (Zi k)), (2, .long (L_mk xs)), (0, .ref f), (1, .ref o)], [.int (Zi i)])) (fun _ => rfl) ?_
    refine Z_go (f2 := (63, [(5, .int (Zi i)), (4, .int (Zi k)), (2, .long (L_mk xs)), (0, .ref f), (1, .ref o)], [.ref f, .int (Zi i)])) (fun _ => rfl) ?_
    refine C_gi rfl hs fk (by decide) (Nat.le_of_ble_eq_true rfl) rfl ?_
    rw [show C_F (u) f 2 = (m : Int) from (by first | exact fn | exact (if_neg (fun e => absurd e.1 (by assumption))).trans fn)]
    show B_R _ _ (66, [(5, .int (Zi i)), (4, .int (Zi k)), (2, .long (L_mk xs)), (0, .ref f), (1, .ref o)], [.int (Zi ((m : Int))), .int (Zi i)]) _ _ _
    refine Z_cge rfl rfl (by first | exact hs.zF _ _ | exact Zor_r _ _ | exact hs.zA _ _ | assumption | exact zA _ _ | exact zS _ | exact Zr_not (hs.zA _ _) | exact hs.1.1 _ _ | exact ⟨by omega, by omega⟩) (by first | exact hs.zF _ _ | exact Zor_r _ _ | exact hs.zA _ _ | assumption | exact zA _ _ | exact zS _ | exact Zr_not (hs.zA _ _) | exact hs.1.1 _ _ | exact ⟨by omega, by omega⟩) (fun c1 => ?_) (fun c1 => ?_)
    · refine B_loc (K := [(4, .int (Zi k)), (2, .long (L_mk xs)), (0, .ref f), (1, .ref o)]) (N_all_sub ⟨rfl, rfl, rfl, rfl, trivial⟩) (show ([4, 2, 0, 1] : List Nat).Nodup by decide) ?_
      obtain rfl : i = m := by omega
      rw [Int.toNat_natCast] at hl
      exact kont k u h ψ hs hf0 fr en ew hl k0 k1
    · refine Z_go (f2 := (70, [(5, .int (Zi i)), (4, .int (Zi k)), (2, .long (L_mk xs)), (0, .ref f), (1, .ref o)], [.long (L_mk xs)])) (fun _ => rfl) ?_
      refine Z_go (f2 := (71, [(5, .int (Zi i)), (4, .int (Zi k)), (2, .long (L_mk xs)), (0, .ref f), (1, .ref o)], [.ref f, .long (L_mk xs)])) (fun _ => rfl) ?_
      refine Z_go (f2 := (73, [(5, .int (Zi i)), (4, .int (Zi k)), (2, .long (L_mk xs)), (0, .ref f), (1, .ref o)], [.int (Zi i), .ref f, .long (L_mk xs)])) (fun _ => rfl) ?_
      refine C_callVR (As := [.int (Zi i)]) (rest := [.long (L_mk xs)]) rfl (by decide) rfl (by decide) rfl rfl (by decide +kernel) (Nat.le_of_ble_eq_true rfl) hs fk (C_markOf _ hf0 (i := i) (by omega) (by omega)) (fun x q => ?_)
      obtain rfl := q
      show B_R _ _ (76, [(5, .int (Zi i)), (4, .int (Zi k)), (2, .long (L_mk xs)), (0, .ref f), (1, .ref o)], [.long (C_L u ma i), .long (L_mk xs)]) _ _ _
      refine Z_go (f2 := (79, [(5, .int (Zi i)), (4, .int (Zi k)), (2, .long (L_mk xs)), (0, .ref f), (1, .ref o)], [.long (-1), .long (C_L u ma i), .long (L_mk xs)])) (fun _ => rfl) ?_
      refine Z_go (f2 := (80, [(5, .int (Zi i)), (4, .int (Zi k)), (2, .long (L_mk xs)), (0, .ref f), (1, .ref o)], [.long ((C_L u ma i) ^^^ (-1)), .long (L_mk xs)])) (fun _ => rfl) ?_
      refine Z_go (f2 := (81, [(5, .int (Zi i)), (4, .int (Zi k)), (2, .long (L_mk xs)), (0, .ref f), (1, .ref o)], [.long ((L_mk xs) &&& ((C_L u ma i) ^^^ (-1)))])) (fun _ => rfl) ?_
      refine Z_go (f2 := (82, [(5, .int (Zi i)), (4, .int (Zi k)), (2, .long (L_mk xs)), (0, .ref f), (1, .ref o)], [.long (0), .long ((L_mk xs) &&& ((C_L u ma i) ^^^ (-1)))])) (fun _ => rfl) ?_
      refine Z_lcmp rfl ?_
      obtain ⟨zl1, ezl1, hzl1, rzl1⟩ := Zl_ex ((L_mk xs) &&& ((C_L u ma i) ^^^ (-1))) (0)
      rw [ezl1]
      show B_R _ _ (83, [(5, .int (Zi i)), (4, .int (Zi k)), (2, .long (L_mk xs)), (0, .ref f), (1, .ref o)], [.int (Zi zl1)]) _ _ _
      refine Z_ine rfl rfl (by first | exact hs.zF _ _ | exact Zor_r _ _ | exact hs.zA _ _ | assumption | exact zA _ _ | exact zS _ | exact Zr_not (hs.zA _ _) | exact hs.1.1 _ _ | exact ⟨by omega, by omega⟩) (fun c2 => ?_) (fun c2 => ?_)
      · refine Z_go (f2 := (100, [(5, .int (Zi i)), (4, .int (Zi k)), (2, .long (L_mk xs)), (0, .ref f), (1, .ref o)], [.ref f])) (fun _ => rfl) ?_
        refine Z_go (f2 := (102, [(5, .int (Zi i)), (4, .int (Zi k)), (2, .long (L_mk xs)), (0, .ref f), (1, .ref o)], [.int (Zi k), .ref f])) (fun _ => rfl) ?_
        refine Z_go (f2 := (104, [(5, .int (Zi i)), (4, .int (Zi k)), (2, .long (L_mk xs)), (0, .ref f), (1, .ref o)], [.int (Zi i), .int (Zi k), .ref f])) (fun _ => rfl) ?_
        refine C_callV (As := [.int (Zi k), .int (Zi i)]) (rest := []) rfl (by decide) rfl (by decide) rfl rfl (by decide +kernel) (Nat.le_of_ble_eq_true rfl) hs fk (C_swap _ hf0 (i := k) (k := i) (by omega) (by omega) (by omega) (by omega)) (fun x h v n hs q => ?_)
        obtain ⟨rfl, rfl, x1, x2, x3, x4⟩ := q
        show B_R _ _ (107, [(5, .int (Zi i)), (4, .int (Zi k)), (2, .long (L_mk xs)), (0, .ref f), (1, .ref o)], []) _ _ _
        refine Z_iinc (L2 := [(4, .int (Zi (k + 1))), (5, .int (Zi i)), (2, .long (L_mk xs)), (0, .ref f), (1, .ref o)]) rfl rfl (by decide) rfl ?_
        refine Z_iinc (L2 := [(5, .int (Zi (i + 1))), (4, .int (Zi (k + 1))), (2, .long (L_mk xs)), (0, .ref f), (1, .ref o)]) rfl rfl (by decide) rfl ?_
        refine Z_go (f2 := (60, [(5, .int (Zi (i + 1))), (4, .int (Zi (k + 1))), (2, .long (L_mk xs)), (0, .ref f), (1, .ref o)], [])) (fun _ => rfl) ?_
        refine B_loc (K := [(5, .int (Zi (i + 1))), (4, .int (Zi (k + 1))), (2, .long (L_mk xs)), (0, .ref f), (1, .ref o)]) (N_all_sub ⟨rfl, rfl, rfl, rfl, rfl, trivial⟩) (show ([5, 4, 2, 0, 1] : List Nat).Nodup by decide) ?_
        have nk : ¬ L_le xs (φ i) := by intro hl; have := L_mk_le hl; rw [← hj i (by omega) (by omega), ← (g3 i (by omega) (by omega)).1] at this; have := hzl1.mpr this; omega
        refine ih _ _ v h _ (by omega) hs x1 (fr.tr x2) (by omega) (by omega) ?_ (fun j j0 j1 => ?_) (by omega) (by omega) (by omega)
        · rw [show (k + 1).toNat = k.toNat + 1 by omega, show (i + 1).toNat = i.toNat + 1 by omega, F_li_s, F_li_s, List.filter_append, ← hl, show ((i.toNat : Nat) : Int) = i by omega, show ((k.toNat : Nat) : Int) = k by omega]
          have e1 : F_li k.toNat (F_sw ψ k i) = F_li k.toNat ψ := F_li_congr (fun j j0 j1 => by unfold F_sw; rw [if_neg (by omega), if_neg (by omega)])
          have e2 : F_sw ψ k i k = φ i := by
            unfold F_sw
            by_cases c : k = i
            · rw [if_pos c, c]
              exact hj i (by omega) (by omega)
            · rw [if_neg c, if_pos rfl]
              exact hj i (by omega) (by omega)
          rw [e1, e2, List.filter_cons, F_kp_t.mpr nk]
          rfl
        · unfold F_sw
          rw [if_neg (by omega), if_neg (by omega)]
          exact hj j (by omega) j1
      · refine Z_go (f2 := (87, [(5, .int (Zi i)), (4, .int (Zi k)), (2, .long (L_mk xs)), (0, .ref f), (1, .ref o)], [.ref o])) (fun _ => rfl) ?_
        refine Z_go (f2 := (88, [(5, .int (Zi i)), (4, .int (Zi k)), (2, .long (L_mk xs)), (0, .ref f), (1, .ref o)], [.ref f, .ref o])) (fun _ => rfl) ?_
        refine Z_go (f2 := (90, [(5, .int (Zi i)), (4, .int (Zi k)), (2, .long (L_mk xs)), (0, .ref f), (1, .ref o)], [.int (Zi i), .ref f, .ref o])) (fun _ => rfl) ?_
        refine C_callVR (As := [.int (Zi i)]) (rest := [.ref o]) rfl (by decide) rfl (by decide) rfl rfl (by decide +kernel) (Nat.le_of_ble_eq_true rfl) hs fk (C_row_rd _ hf0 (i := i) (by omega) (by omega)) (fun x q => ?_)
        obtain ⟨r73, a73, cap73, rfl, hq73, hr73, hb73⟩ := q
        have zr73 := D_Row.zr hs hr73
        show B_R _ _ (93, [(5, .int (Zi i)), (4, .int (Zi k)), (2, .long (L_mk xs)), (0, .ref f), (1, .ref o)], [.ref r73, .ref o]) _ _ _
        refine C_callVR (As := [.ref r73]) (rest := []) rfl (by decide) rfl (by decide) rfl rfl (by decide +kernel) (Nat.le_of_ble_eq_true rfl) hs hr0.1 (C_part _ hr0 hr73 sx (g3 i (by omega) (by omega)).2) (fun x q => ?_)
        obtain ⟨zp74, rfl, hp74⟩ := q
        have zzp : Zr zp74 := by rcases hp74 with e | e <;> exact ⟨by omega, by omega⟩
        show B_R _ _ (96, [(5, .int (Zi i)), (4, .int (Zi k)), (2, .long (L_mk xs)), (0, .ref f), (1, .ref o)], [.int (Zi zp74)]) _ _ _
        refine Z_ine rfl rfl (by first | exact hs.zF _ _ | exact Zor_r _ _ | exact hs.zA _ _ | assumption | exact zA _ _ | exact zS _ | exact Zr_not (hs.zA _ _) | exact hs.1.1 _ _ | exact ⟨by omega, by omega⟩) (fun c3 => ?_) (fun c3 => ?_)
        · refine Z_iinc (L2 := [(5, .int (Zi (i + 1))), (4, .int (Zi k)), (2, .long (L_mk xs)), (0, .ref f), (1, .ref o)]) rfl rfl (by decide) rfl ?_
          refine Z_go (f2 := (60, [(5, .int (Zi (i + 1))), (4, .int (Zi k)), (2, .long (L_mk xs)), (0, .ref f), (1, .ref o)], [])) (fun _ => rfl) ?_
          refine B_loc (K := [(5, .int (Zi (i + 1))), (4, .int (Zi k)), (2, .long (L_mk xs)), (0, .ref f), (1, .ref o)]) (N_all_sub ⟨rfl, rfl, rfl, rfl, rfl, trivial⟩) (show ([5, 4, 2, 0, 1] : List Nat).Nodup by decide) ?_
          have yk : L_le xs (φ i) := by rcases hp74 with hh | hh; rw [← hj i (by omega) (by omega)]; exact hh.2; omega
          refine ih _ _ u h ψ (by omega) hs hf0 fr en ew ?_ (fun j j0 j1 => hj j (by omega) j1) k0 (by omega) (by omega)
          rw [hl, show (i + 1).toNat = i.toNat + 1 by omega, F_li_s, List.filter_append, show ((i.toNat : Nat) : Int) = i by omega, List.filter_cons, F_kp_f yk]
          simp
        · refine Z_go (f2 := (100, [(5, .int (Zi i)), (4, .int (Zi k)), (2, .long (L_mk xs)), (0, .ref f), (1, .ref o)], [.ref f])) (fun _ => rfl) ?_
          refine Z_go (f2 := (102, [(5, .int (Zi i)), (4, .int (Zi k)), (2, .long (L_mk xs)), (0, .ref f), (1, .ref o)], [.int (Zi k), .ref f])) (fun _ => rfl) ?_
          refine Z_go (f2 := (104, [(5, .int (Zi i)), (4, .int (Zi k)), (2, .long (L_mk xs)), (0, .ref f), (1, .ref o)], [.int (Zi i), .int (Zi k), .ref f])) (fun _ => rfl) ?_
          refine C_callV (As := [.int (Zi k), .int (Zi i)]) (rest := []) rfl (by decide) rfl (by decide) rfl rfl (by decide +kernel) (Nat.le_of_ble_eq_true rfl) hs fk (C_swap _ hf0 (i := k) (k := i) (by omega) (by omega) (by omega) (by omega)) (fun x h v n hs q => ?_)
          obtain ⟨rfl, rfl, x1, x2, x3, x4⟩ := q
          show B_R _ _ (107, [(5, .int (Zi i)), (4, .int (Zi k)), (2, .long (L_mk xs)), (0, .ref f), (1, .ref o)], []) _ _ _
          refine Z_iinc (L2 := [(4, .int (Zi (k + 1))), (5, .int (Zi i)), (2, .long (L_mk xs)), (0, .ref f), (1, .ref o)]) rfl rfl (by decide) rfl ?_
          refine Z_iinc (L2 := [(5, .int (Zi (i + 1))), (4, .int (Zi (k + 1))), (2, .long (L_mk xs)), (0, .ref f), (1, .ref o)]) rfl rfl (by decide) rfl ?_
          refine Z_go (f2 := (60, [(5, .int (Zi (i + 1))), (4, .int (Zi (k + 1))), (2, .long (L_mk xs)), (0, .ref f), (1, .ref o)], [])) (fun _ => rfl) ?_
          refine B_loc (K := [(5, .int (Zi (i + 1))), (4, .int (Zi (k + 1))), (2, .long (L_mk xs)), (0, .ref f), (1, .ref o)]) (N_all_sub ⟨rfl, rfl, rfl, rfl, rfl, trivial⟩) (show ([5, 4, 2, 0, 1] : List Nat).Nodup by decide) ?_
          have nk : ¬ L_le xs (φ i) := by rcases hp74 with hh | hh; omega; rw [← hj i (by omega) (by omega)]; exact hh.2
          refine ih _ _ v h _ (by omega) hs x1 (fr.tr x2) (by omega) (by omega) ?_ (fun j j0 j1 => ?_) (by omega) (by omega) (by omega)
          · rw [show (k + 1).toNat = k.toNat + 1 by omega, show (i + 1).toNat = i.toNat + 1 by omega, F_li_s, F_li_s, List.filter_append, ← hl, show ((i.toNat : Nat) : Int) = i by omega, show ((k.toNat : Nat) : Int) = k by omega]
            have e1 : F_li k.toNat (F_sw ψ k i) = F_li k.toNat ψ := F_li_congr (fun j j0 j1 => by unfold F_sw; rw [if_neg (by omega), if_neg (by omega)])
            have e2 : F_sw ψ k i k = φ i := by
              unfold F_sw
              by_cases c : k = i
              · rw [if_pos c, c]
                exact hj i (by omega) (by omega)
              · rw [if_neg c, if_pos rfl]
                exact hj i (by omega) (by omega)
            rw [e1, e2, List.filter_cons, F_kp_t.mpr nk]
            rfl
          · unfold F_sw
            rw [if_neg (by omega), if_neg (by omega)]
            exact hj j (by omega) j1
/-- what an offer leaves -/
def D_of (p : List Nat) (f qa ma R B : Nat) (fam : List (List Int)) (s s2 : C_S) (n : Nat) : Prop := ∃ (m2 : Nat) (ψ : Int → List Int), D_Fm s2 p f qa ma R B m2 ψ ∧ F_li m2 ψ = fam ∧ C_fr (fun t => p <+: t) s s2 ∧ n + 2 * C_fw s qa R ≤ 2 * C_fw s2 qa R ∧ 8 * C_n s2 + C_fw s qa R ≤ 8 * C_n s + C_fw s2 qa R
theorem C_offer (d : Nat) {s : C_S} {p : List Nat} {f qa ma R B m : Nat} {φ : Int → List Int} {q : List Nat} {o a cap : Nat} {xs : List Int} (hf : D_Fm s p f qa ma R B m φ) (hr : D_Row s q o a cap xs) (sx : L_srt xs) (ne : ¬ p <+: q) (hm : m < R) (hB : 8 ≤ B) (hB2 : 2 * xs.length ≤ B) (m1 : xs.length ≤ 33554432) : C_ok (d + 4) 6 [.ref f, .ref o] s (fun x s2 n => x = none ∧ D_of p f qa ma R B (F_off (F_li m φ) xs) s s2 n) := by
  refine C_enter (M := E_m6) rfl (Nat.le_of_ble_eq_true rfl) (fun h0 h hs => ?_)
  show B_R (d + 3) _ (0, [(0, .ref f), (1, .ref o)], []) _ _ _
  have hr0 := hr
  have hf0 := hf
  have w := hs.1
  obtain ⟨⟨fk, ft, fp, fq, qk, qt, mk, mt, fn, fl, f1⟩, g1, g2, g3⟩ := hf
  have zR := (hs.len (by decide) qk).1
  have neF := hf0.ne
  refine Z_go (f2 := (1, [(0, .ref f), (1, .ref o)], [.ref o])) (fun _ => rfl) ?_
  refine C_callVR (As := []) (rest := []) rfl (by decide) rfl (by decide) rfl rfl (by decide +kernel) (Nat.le_of_ble_eq_true rfl) hs hr0.1 (C_mark _ hr0) (fun x q => ?_)
  obtain rfl := q
  show B_R _ _ (4, [(0, .ref f), (1, .ref o)], [.long (L_mk xs)]) _ _ _
  refine Z_go (f2 := (5, [(2, .long (L_mk xs)), (0, .ref f), (1, .ref o)], [])) (fun _ => rfl) ?_
  refine Z_go (f2 := (6, [(2, .long (L_mk xs)), (0, .ref f), (1, .ref o)], [.int (Zi 0)])) (fun _ => rfl) ?_
  refine Z_go (f2 := (8, [(4, .int (Zi 0)), (2, .long (L_mk xs)), (0, .ref f), (1, .ref o)], [])) (fun _ => rfl) ?_
  refine B_loc (K := [(4, .int (Zi 0)), (2, .long (L_mk xs)), (0, .ref f), (1, .ref o)]) (N_all_sub ⟨rfl, rfl, rfl, rfl, trivial⟩) (show ([4, 2, 0, 1] : List Nat).Nodup by decide) ?_
  refine C_off1 hs hf0 hr0 sx (fun hno => ?_) (fun hyes => ?_) (m + 1) 0 (by omega) (by omega) (by omega) (fun k k0 k1 => by omega)
  · show B_R (d + 3) _ (54, [(2, .long (L_mk xs)), (0, .ref f), (1, .ref o)], []) _ _ _
    refine Z_go (f2 := (55, [(2, .long (L_mk xs)), (0, .ref f), (1, .ref o)], [.int (Zi 0)])) (fun _ => rfl) ?_
    refine Z_go (f2 := (57, [(4, .int (Zi 0)), (2, .long (L_mk xs)), (0, .ref f), (1, .ref o)], [])) (fun _ => rfl) ?_
    refine Z_go (f2 := (58, [(4, .int (Zi 0)), (2, .long (L_mk xs)), (0, .ref f), (1, .ref o)], [.int (Zi 0)])) (fun _ => rfl) ?_
    refine Z_go (f2 := (60, [(5, .int (Zi 0)), (4, .int (Zi 0)), (2, .long (L_mk xs)), (0, .ref f), (1, .ref o)], [])) (fun _ => rfl) ?_
    refine B_loc (K := [(5, .int (Zi 0)), (4, .int (Zi 0)), (2, .long (L_mk xs)), (0, .ref f), (1, .ref o)]) (N_all_sub ⟨rfl, rfl, rfl, rfl, rfl, trivial⟩) (show ([5, 4, 2, 0, 1] : List Nat).Nodup by decide) ?_
    refine C_off2 w hr0 sx ne (fun k u h ψ hs hf fr en ew hl k0 k1 => ?_) (m + 1) 0 0 s h φ (by omega) hs hf0 (C_fr.refl _ _) rfl rfl rfl (fun j _ _ => rfl) (by omega) (by omega) (by omega)
    have hr1 := hr0.fr w fr (fun e => ne e)
    have wu := hs.1
    have hfu := hf
    obtain ⟨⟨fk, ft, fp, fq, qk, qt, mk, mt, fn, fl, f1⟩, g1, g2, g3⟩ := hf
    have kn := F_li_len k.toNat ψ
    have hsh := hfu.shrink (k := k.toNat) (by omega) (v := k) (by omega)
    refine Z_go (f2 := (117, [(4, .int (Zi k)), (2, .long (L_mk xs)), (0, .ref f), (1, .ref o)], [.ref f])) (fun _ => rfl) ?_
    refine Z_go (f2 := (119, [(4, .int (Zi k)), (2, .long (L_mk xs)), (0, .ref f), (1, .ref o)], [.int (Zi k), .ref f])) (fun _ => rfl) ?_
    refine C_pi rfl hs fk (by decide) (Nat.le_of_ble_eq_true rfl) (.inl rfl) rfl rfl rfl (by first | exact hs.zF _ _ | exact Zor_r _ _ | exact hs.zA _ _ | assumption | exact zA _ _ | exact zS _ | exact Zr_not (hs.zA _ _) | exact hs.1.1 _ _ | exact ⟨by omega, by omega⟩) (fun h hs => ?_)
    refine Z_go (f2 := (123, [(4, .int (Zi k)), (2, .long (L_mk xs)), (0, .ref f), (1, .ref o)], [.ref f])) (fun _ => rfl) ?_
    refine C_gi rfl hs fk (by decide) (Nat.le_of_ble_eq_true rfl) rfl ?_
    rw [show C_F (C_sF u f 2 k) f 2 = k from (by first | rfl | (simp only [C_F, C_P, C_A, C_L, C_Q, C_K, C_T, C_n, C_sF, C_sP, C_sA, C_sL, C_sQ, C_sAf, C_sQf]; simp [*]; done) | (simp only [C_F, C_P, C_A, C_L, C_Q, C_K, C_T, C_n, C_sF, C_sP, C_sA, C_sL, C_sQ, C_sAf, C_sQf]; simp; omega))]; show B_R _ _ (126, [(4, .int (Zi k)), (2, .long (L_mk xs)), (0, .ref f), (1, .ref o)], [.int (Zi k)]) _ _ _
    refine Z_ilt rfl rfl (by first | exact hs.zF _ _ | exact Zor_r _ _ | exact hs.zA _ _ | assumption | exact zA _ _ | exact zS _ | exact Zr_not (hs.zA _ _) | exact hs.1.1 _ _ | exact ⟨by omega, by omega⟩) (fun c1 => ?_) (fun c1 => ?_)
    · refine Z_ret rfl rfl ⟨_, hs, ?_⟩
      try dsimp only
      exfalso; omega
    · refine Z_go (f2 := (130, [(4, .int (Zi k)), (2, .long (L_mk xs)), (0, .ref f), (1, .ref o)], [.ref f])) (fun _ => rfl) ?_
      refine C_gi rfl hs fk (by decide) (Nat.le_of_ble_eq_true rfl) rfl ?_
      rw [show C_F (C_sF u f 2 k) f 2 = k from (by first | rfl | (simp only [C_F, C_P, C_A, C_L, C_Q, C_K, C_T, C_n, C_sF, C_sP, C_sA, C_sL, C_sQ, C_sAf, C_sQf]; simp [*]; done) | (simp only [C_F, C_P, C_A, C_L, C_Q, C_K, C_T, C_n, C_sF, C_sP, C_sA, C_sL, C_sQ, C_sAf, C_sQf]; simp; omega))]; show B_R _ _ (133, [(4, .int (Zi k)), (2, .long (L_mk xs)), (0, .ref f), (1, .ref o)], [.int (Zi k)]) _ _ _
      refine Z_go (f2 := (134, [(4, .int (Zi k)), (2, .long (L_mk xs)), (0, .ref f), (1, .ref o)], [.ref f, .int (Zi k)])) (fun _ => rfl) ?_
      refine C_gr rfl hs fk (by decide) (Nat.le_of_ble_eq_true rfl) rfl fp ?_
      refine C_al rfl hs qk (by decide) ?_
      show B_R _ _ (138, [(4, .int (Zi k)), (2, .long (L_mk xs)), (0, .ref f), (1, .ref o)], [.int (Zi ((R : Int))), .int (Zi k)]) _ _ _
      refine Z_cge rfl rfl (by first | exact hs.zF _ _ | exact Zor_r _ _ | exact hs.zA _ _ | assumption | exact zA _ _ | exact zS _ | exact Zr_not (hs.zA _ _) | exact hs.1.1 _ _ | exact ⟨by omega, by omega⟩) (by first | exact hs.zF _ _ | exact Zor_r _ _ | exact hs.zA _ _ | assumption | exact zA _ _ | exact zS _ | exact Zr_not (hs.zA _ _) | exact hs.1.1 _ _ | exact ⟨by omega, by omega⟩) (fun c2 => ?_) (fun c2 => ?_)
      · refine Z_ret rfl rfl ⟨_, hs, ?_⟩
        try dsimp only
        exfalso; omega
      · refine Z_go (f2 := (142, [(4, .int (Zi k)), (2, .long (L_mk xs)), (0, .ref f), (1, .ref o)], [.ref f])) (fun _ => rfl) ?_
        refine C_gi rfl hs fk (by decide) (Nat.le_of_ble_eq_true rfl) rfl ?_
        rw [show C_F (C_sF u f 2 k) f 2 = k from (by first | rfl | (simp only [C_F, C_P, C_A, C_L, C_Q, C_K, C_T, C_n, C_sF, C_sP, C_sA, C_sL, C_sQ, C_sAf, C_sQf]; simp [*]; done) | (simp only [C_F, C_P, C_A, C_L, C_Q, C_K, C_T, C_n, C_sF, C_sP, C_sA, C_sL, C_sQ, C_sAf, C_sQf]; simp; omega))]; show B_R _ _ (145, [(4, .int (Zi k)), (2, .long (L_mk xs)), (0, .ref f), (1, .ref o)], [.int (Zi k)]) _ _ _
        refine Z_go (f2 := (146, [(4, .int (Zi k)), (2, .long (L_mk xs)), (0, .ref f), (1, .ref o)], [.ref f, .int (Zi k)])) (fun _ => rfl) ?_
        refine C_gr rfl hs fk (by decide) (Nat.le_of_ble_eq_true rfl) rfl fq ?_
        refine C_al rfl hs mk (by decide) ?_
        show B_R _ _ (150, [(4, .int (Zi k)), (2, .long (L_mk xs)), (0, .ref f), (1, .ref o)], [.int (Zi ((R : Int))), .int (Zi k)]) _ _ _
        refine Z_cge rfl rfl (by first | exact hs.zF _ _ | exact Zor_r _ _ | exact hs.zA _ _ | assumption | exact zA _ _ | exact zS _ | exact Zr_not (hs.zA _ _) | exact hs.1.1 _ _ | exact ⟨by omega, by omega⟩) (by first | exact hs.zF _ _ | exact Zor_r _ _ | exact hs.zA _ _ | assumption | exact zA _ _ | exact zS _ | exact Zr_not (hs.zA _ _) | exact hs.1.1 _ _ | exact ⟨by omega, by omega⟩) (fun c3 => ?_) (fun c3 => ?_)
        · refine Z_ret rfl rfl ⟨_, hs, ?_⟩
          try dsimp only
          exfalso; omega
        · refine Z_go (f2 := (154, [(4, .int (Zi k)), (2, .long (L_mk xs)), (0, .ref f), (1, .ref o)], [.ref f])) (fun _ => rfl) ?_
          refine Z_go (f2 := (155, [(4, .int (Zi k)), (2, .long (L_mk xs)), (0, .ref f), (1, .ref o)], [.ref f, .ref f])) (fun _ => rfl) ?_
          refine C_gi rfl hs fk (by decide) (Nat.le_of_ble_eq_true rfl) rfl ?_
          rw [show C_F (C_sF u f 2 k) f 2 = k from (by first | rfl | (simp only [C_F, C_P, C_A, C_L, C_Q, C_K, C_T, C_n, C_sF, C_sP, C_sA, C_sL, C_sQ, C_sAf, C_sQf]; simp [*]; done) | (simp only [C_F, C_P, C_A, C_L, C_Q, C_K, C_T, C_n, C_sF, C_sP, C_sA, C_sL, C_sQ, C_sAf, C_sQf]; simp; omega))]; show B_R _ _ (158, [(4, .int (Zi k)), (2, .long (L_mk xs)), (0, .ref f), (1, .ref o)], [.int (Zi k), .ref f]) _ _ _
          refine C_callV (As := [.int (Zi k)]) (rest := []) rfl (by decide) rfl (by decide) rfl rfl (by decide +kernel) (Nat.le_of_ble_eq_true rfl) hs fk (C_row_nw _ hsh (i := k) (by omega) (by omega) hB) (fun x h v n1 hs q => ?_)
          obtain ⟨r, a3, cap3, ys, rfl, x1, hr3, x3, hf3, x5, x6, x7⟩ := q
          have wv := hs.1
          have hf4 := hf3
          obtain ⟨⟨fk, ft, fp, fq, qk, qt, mk, mt, fn, fl, f1⟩, _, _, _⟩ := hf4
          rw [show ((k.toNat : Nat) : Int) = k by omega] at fn
          have fru : C_fr (fun t => p <+: t) u (C_sF u f 2 k) := (C_fr.refl _ _).sF (by rw [(hfu.1).2.1]; exact L_pre_self p)
          have hr5 := (hr1.fr wu fru (fun e => ne e)).fr (wu.sF ⟨by omega, by omega⟩) x5 (fun e => ne e)
          show B_R _ _ (161, [(4, .int (Zi k)), (2, .long (L_mk xs)), (0, .ref f), (1, .ref o)], [.ref r]) _ _ _
          refine Z_go (f2 := (162, [(4, .int (Zi k)), (2, .long (L_mk xs)), (0, .ref f), (1, .ref o)], [.ref o, .ref r])) (fun _ => rfl) ?_
          refine C_callV (As := [.ref o]) (rest := []) rfl (by decide) rfl (by decide) rfl rfl (by decide +kernel) (Nat.le_of_ble_eq_true rfl) hs hr3.1 (C_copyRow _ hr3 hr5 (fun e => ne (by rw [← e]; exact L_pre_one p r)) (by omega)) (fun x h z n2 hs q => ?_)
          obtain ⟨rfl, a4, cap4, hr6, fr6, y1, y2, y3⟩ := q
          have hcap : cap4 ≤ B := by omega
          obtain ⟨hf6, hq6, w6⟩ := hf3.rowset wv (i := k) (by omega) (by omega) (by omega) x1 fr6 hr6 hcap
          have hw3 := hr3.rw
          have hf7 := hf6
          obtain ⟨⟨fk, ft, fp, fq, qk, qt, mk, mt, fn, fl, f1⟩, _, _, _⟩ := hf7
          rw [show ((k.toNat : Nat) : Int) = k by omega] at fn
          show B_R _ _ (165, [(4, .int (Zi k)), (2, .long (L_mk xs)), (0, .ref f), (1, .ref o)], []) _ _ _
          refine Z_go (f2 := (166, [(4, .int (Zi k)), (2, .long (L_mk xs)), (0, .ref f), (1, .ref o)], [.ref f])) (fun _ => rfl) ?_
          refine C_gr rfl hs fk (by decide) (Nat.le_of_ble_eq_true rfl) rfl fq ?_
          refine Z_go (f2 := (170, [(4, .int (Zi k)), (2, .long (L_mk xs)), (0, .ref f), (1, .ref o)], [.ref f, .ref ma])) (fun _ => rfl) ?_
          refine C_gi rfl hs fk (by decide) (Nat.le_of_ble_eq_true rfl) rfl ?_
          rw [show C_F (z) f 2 = k from (by first | exact fn | exact (if_neg (fun e => absurd e.1 (by assumption))).trans fn)]
          show B_R _ _ (173, [(4, .int (Zi k)), (2, .long (L_mk xs)), (0, .ref f), (1, .ref o)], [.int (Zi k), .ref ma]) _ _ _
          refine Z_go (f2 := (174, [(4, .int (Zi k)), (2, .long (L_mk xs)), (0, .ref f), (1, .ref o)], [.long (L_mk xs), .int (Zi k), .ref ma])) (fun _ => rfl) ?_
          refine C_ls rfl hs mk (by omega) (by omega) (fun h hs => ?_)
          refine Z_go (f2 := (176, [(4, .int (Zi k)), (2, .long (L_mk xs)), (0, .ref f), (1, .ref o)], [.ref f])) (fun _ => rfl) ?_
          refine Z_go (f2 := (177, [(4, .int (Zi k)), (2, .long (L_mk xs)), (0, .ref f), (1, .ref o)], [.ref f, .ref f])) (fun _ => rfl) ?_
          refine C_gi rfl hs fk (by decide) (Nat.le_of_ble_eq_true rfl) rfl ?_
          rw [show C_F (C_sL z ma k (L_mk xs)) f 2 = k from (by first | exact fn | exact (if_neg (fun e => absurd e.1 (by assumption))).trans fn)]
          show B_R _ _ (180, [(4, .int (Zi k)), (2, .long (L_mk xs)), (0, .ref f), (1, .ref o)], [.int (Zi k), .ref f]) _ _ _
          refine Z_go (f2 := (181, [(4, .int (Zi k)), (2, .long (L_mk xs)), (0, .ref f), (1, .ref o)], [.int (Zi 1), .int (Zi k), .ref f])) (fun _ => rfl) ?_
          refine Z_iadd rfl ?_
          refine C_pi rfl hs fk (by decide) (Nat.le_of_ble_eq_true rfl) (.inl rfl) rfl rfl rfl (by first | exact hs.zF _ _ | exact Zor_r _ _ | exact hs.zA _ _ | assumption | exact zA _ _ | exact zS _ | exact Zr_not (hs.zA _ _) | exact hs.1.1 _ _ | exact ⟨by omega, by omega⟩) (fun h hs => ?_)
          refine Z_ret rfl rfl ⟨_, hs, ?_⟩
          try dsimp only
          have hq7 : C_Q z qa ((k.toNat : Nat) : Int) = some r := by rw [show ((k.toNat : Nat) : Int) = k by omega]; exact hq6
          have hg := hf6.grow (by omega) hq7 hr6 hcap sx (v := k + 1) (by omega)
          rw [show ((k.toNat : Nat) : Int) = k by omega] at hg
          refine ⟨rfl, k.toNat + 1, _, hg, ?_, ?_, ?_, ?_⟩
          · rw [F_li_s, show ((k.toNat : Nat) : Int) = k by omega]
            have e1 : F_li k.toNat (fun i => if i = k then xs else ψ i) = F_li k.toNat ψ := F_li_congr (fun j j0 j1 => by rw [if_neg (by omega)])
            unfold F_off
            rw [c_neg (fun ⟨g, hg, hl⟩ => by obtain ⟨j, j0, j1, rfl⟩ := F_li_mem.mp hg; exact hno j j0 j1 hl), e1, if_pos rfl, hl]
          · exact ((((fr.tr fru).tr x5).trans fr6 (fun _ e => e) (fun t e => by rw [e]; exact L_pre_one p r)).sL (by rw [mt]; exact L_pre_self p)).sF (by show p <+: C_T z f; rw [ft]; exact L_pre_self p)
          · rw [C_fw_sF, C_fw_sL]
            rw [C_fw_sF] at x6
            omega
          · rw [C_fw_sF, C_fw_sL]
            rw [C_fw_sF] at x7
            show 8 * C_n z + _ ≤ _
            have e9 : C_n (C_sF u f 2 k) = C_n u := rfl
            omega
  · obtain ⟨k, k0, k1, k2⟩ := hyes
    refine ⟨s, hs, rfl, m, φ, hf0, ?_, C_fr.refl _ _, by dsimp only; omega, by omega⟩
    unfold F_off
    rw [c_pos ⟨φ k, F_li_mem.mpr ⟨k, k0, k1, rfl⟩, k2⟩]
