/-! the class: Family: coreInto, putInOrder, its constructor -/
/-- x is in the sets 0 .. m - 1 -/
def F_allin (m : Nat) (φ : Int → List Int) (x : Int) : Prop := ∀ j : Int, 0 ≤ j → j < m → x ∈ φ j
noncomputable def F_ai (m : Nat) (φ : Int → List Int) (x : Int) : Bool := @decide (F_allin m φ x) (Classical.propDecidable _)
theorem F_ai_t {m : Nat} {φ : Int → List Int} {x : Int} : F_ai m φ x = true ↔ F_allin m φ x := by
  unfold F_ai
  exact @decide_eq_true_iff _ (Classical.propDecidable _)
theorem F_ai_f {m : Nat} {φ : Int → List Int} {x : Int} (h : ¬ F_allin m φ x) : F_ai m φ x = false := by
  cases e : F_ai m φ x
  · rfl
  · exact absurd (F_ai_t.mp e) h
noncomputable def F_coreL (m : Nat) (φ : Int → List Int) : List Int := if m = 0 then [] else (φ 0).filter (F_ai m φ)
theorem L_take_s {xs : List Int} {i : Int} (i0 : 0 ≤ i) (i1 : i < xs.length) : xs.take (i + 1).toNat = xs.take i.toNat ++ [L_at xs i] := by
  rw [show (i + 1).toNat = i.toNat + 1 by omega, List.take_add_one, List.getElem?_eq_getElem (by omega), Option.toList_some]
  congr 2
  have := L_at_nat (xs := xs) (i := i.toNat) (by omega)
  rw [← this]
  congr 1
  omega
theorem C_core1 {d : Nat} {h0 h : E_H} {s : C_S} {sl : Nat} {Φ : E_R → Prop} {p : List Nat} {f qa ma R B m : Nat} {φ : Int → List Int} {o : Nat} {v k : Int} (hs : C_is h0 h s) (hf : D_Fm s p f qa ma R B m φ) (zv : Zr v) (hm : 1 ≤ m) (kont : ∀ cm : Int, (cm = 1 ∧ F_allin m φ v ∨ cm = 0 ∧ ¬ F_allin m φ v) → B_R (d + 3) E_m11 (73, [(4, .int (Zi cm)), (3, .int (Zi v)), (2, .int (Zi k)), (0, .ref f), (1, .ref o)], []) h sl Φ) : ∀ (t : Nat) (i cm : Int), (m : Int) - i < t → 0 ≤ i → i ≤ m → (cm = 1 ∧ (∀ j : Int, 0 ≤ j → j < i → v ∈ φ j) ∨ cm = 0 ∧ ¬ F_allin m φ v) → B_R (d + 3) E_m11 (41, [(5, .int (Zi i)), (4, .int (Zi cm)), (3, .int (Zi v)), (2, .int (Zi k)), (0, .ref f), (1, .ref o)], []) h sl Φ := by
  have hf0 := hf
  have w := hs.1
  obtain ⟨⟨fk, ft, fp, fq, qk, qt, mk, mt, fn, fl, f1⟩, g1, g2, g3⟩ := hf
  have zR := (hs.len (by decide) qk).1
  have neF := hf0.ne
  intro t
  induction t with
  | zero => intro i cm ht i0 i1 hc; omega
  | succ t ih =>
    intro i cm ht i0 i1 hc
    have zc : Zr cm := by rcases hc with e | e <;> exact ⟨by omega, by omega⟩
    refine Z_go (f2 := (43, [(5, .int (Zi i)), (4, .int (Zi cm)), (3, .int (Zi v)), (2, .int (Zi k)), (0, .ref f), (1, .ref o)], [.int (Zi i)])) (fun _ => rfl) ?_
    refine Z_go (f2 := (44, [(5, .int (Zi i)), (4, .int (Zi cm)), (3, .int (Zi v)), (2, .int (Zi k)), (0, .ref f), (1, .ref o)], [.ref f, .int (Zi i)])) (fun _ => rfl) ?_
    refine C_gi rfl hs fk (by decide) (Nat.le_of_ble_eq_true rfl) rfl ?_
    rw [show C_F (s) f 2 = (m : Int) from (by first | exact fn | exact (if_neg (fun e => absurd e.1 (by assumption))).trans fn)]
    show B_R _ _ (47, [(5, .int (Zi i)), (4, .int (Zi cm)), (3, .int (Zi v)), (2, .int (Zi k)), (0, .ref f), (1, .ref o)], [.int (Zi ((m : Int))), .int (Zi i)]) _ _ _
    refine Z_cge rfl rfl (by first | exact hs.zF _ _ | exact Zor_r _ _ | exact hs.zA _ _ | assumption | exact zA _ _ | exact zS _ | exact Zr_not (hs.zA _ _) | exact hs.1.1 _ _ | exact ⟨by omega, by omega⟩) (by first | exact hs.zF _ _ | exact Zor_r _ _ | exact hs.zA _ _ | assumption | exact zA _ _ | exact zS _ | exact Zr_not (hs.zA _ _) | exact hs.1.1 _ _ | exact ⟨by omega, by omega⟩) (fun c1 => ?_) (fun c1 => ?_)
    · refine B_loc (K := [(4, .int (Zi cm)), (3, .int (Zi v)), (2, .int (Zi k)), (0, .ref f), (1, .ref o)]) (N_all_sub ⟨rfl, rfl, rfl, rfl, rfl, trivial⟩) (show ([4, 3, 2, 0, 1] : List Nat).Nodup by decide) ?_
      refine kont cm ?_
      rcases hc with hc | hc
      · by_cases e : i = m
        · exact .inl ⟨hc.1, fun j j0 j1 => hc.2 j j0 (by omega)⟩
        · omega
      · exact .inr hc
    · refine Z_go (f2 := (52, [(5, .int (Zi i)), (4, .int (Zi cm)), (3, .int (Zi v)), (2, .int (Zi k)), (0, .ref f), (1, .ref o)], [.int (Zi cm)])) (fun _ => rfl) ?_
      refine Z_ieq rfl rfl (by first | exact hs.zF _ _ | exact Zor_r _ _ | exact hs.zA _ _ | assumption | exact zA _ _ | exact zS _ | exact Zr_not (hs.zA _ _) | exact hs.1.1 _ _ | exact ⟨by omega, by omega⟩) (fun c2 => ?_) (fun c2 => ?_)
      · refine B_loc (K := [(4, .int (Zi cm)), (3, .int (Zi v)), (2, .int (Zi k)), (0, .ref f), (1, .ref o)]) (N_all_sub ⟨rfl, rfl, rfl, rfl, rfl, trivial⟩) (show ([4, 3, 2, 0, 1] : List Nat).Nodup by decide) ?_
        refine kont cm ?_
        rcases hc with hc | hc
        · by_cases e : i = m
          · exact .inl ⟨hc.1, fun j j0 j1 => hc.2 j j0 (by omega)⟩
          · omega
        · exact .inr hc
      · refine Z_go (f2 := (56, [(5, .int (Zi i)), (4, .int (Zi cm)), (3, .int (Zi v)), (2, .int (Zi k)), (0, .ref f), (1, .ref o)], [.ref f])) (fun _ => rfl) ?_
        refine Z_go (f2 := (58, [(5, .int (Zi i)), (4, .int (Zi cm)), (3, .int (Zi v)), (2, .int (Zi k)), (0, .ref f), (1, .ref o)], [.int (Zi i), .ref f])) (fun _ => rfl) ?_
        refine C_callVR (As := [.int (Zi i)]) (rest := []) rfl (by decide) rfl (by decide) rfl rfl (by decide +kernel) (Nat.le_of_ble_eq_true rfl) hs fk (C_row_rd _ hf0 (i := i) (by omega) (by omega)) (fun x q => ?_)
        obtain ⟨r77, a77, cap77, rfl, hq77, hr77, hb77⟩ := q
        have zr77 := D_Row.zr hs hr77
        show B_R _ _ (61, [(5, .int (Zi i)), (4, .int (Zi cm)), (3, .int (Zi v)), (2, .int (Zi k)), (0, .ref f), (1, .ref o)], [.ref r77]) _ _ _
        refine Z_go (f2 := (62, [(5, .int (Zi i)), (4, .int (Zi cm)), (3, .int (Zi v)), (2, .int (Zi k)), (0, .ref f), (1, .ref o)], [.int (Zi v), .ref r77])) (fun _ => rfl) ?_
        refine C_callVR (As := [.int (Zi v)]) (rest := []) rfl (by decide) rfl (by decide) rfl rfl (by decide +kernel) (Nat.le_of_ble_eq_true rfl) hs hr77.1 (C_holds _ hr77 (g3 i (by omega) (by omega)).2 (by first | exact hs.zF _ _ | exact Zor_r _ _ | exact hs.zA _ _ | assumption | exact zA _ _ | exact zS _ | exact Zr_not (hs.zA _ _) | exact hs.1.1 _ _ | exact ⟨by omega, by omega⟩)) (fun x q => ?_)
        obtain ⟨zh78, rfl, hh78⟩ := q
        show B_R _ _ (65, [(5, .int (Zi i)), (4, .int (Zi cm)), (3, .int (Zi v)), (2, .int (Zi k)), (0, .ref f), (1, .ref o)], [.int (Zi zh78)]) _ _ _
        refine Z_go (f2 := (67, [(4, .int (Zi zh78)), (5, .int (Zi i)), (3, .int (Zi v)), (2, .int (Zi k)), (0, .ref f), (1, .ref o)], [])) (fun _ => rfl) ?_
        refine Z_iinc (L2 := [(5, .int (Zi (i + 1))), (4, .int (Zi zh78)), (3, .int (Zi v)), (2, .int (Zi k)), (0, .ref f), (1, .ref o)]) rfl rfl (by decide) rfl ?_
        refine Z_go (f2 := (41, [(5, .int (Zi (i + 1))), (4, .int (Zi zh78)), (3, .int (Zi v)), (2, .int (Zi k)), (0, .ref f), (1, .ref o)], [])) (fun _ => rfl) ?_
        refine B_loc (K := [(5, .int (Zi (i + 1))), (4, .int (Zi zh78)), (3, .int (Zi v)), (2, .int (Zi k)), (0, .ref f), (1, .ref o)]) (N_all_sub ⟨rfl, rfl, rfl, rfl, rfl, rfl, trivial⟩) (show ([5, 4, 3, 2, 0, 1] : List Nat).Nodup by decide) ?_
        refine ih _ _ (by omega) (by omega) (by omega) ?_
        rcases hc with hc | hc
        · rcases hh78 with hh | hh
          · exact .inl ⟨hh.1, fun j j0 j1 => by by_cases e : j = i; subst e; exact hh.2; exact hc.2 j j0 (by omega)⟩
          · exact .inr ⟨hh.1, fun hl => hh.2 (hl i i0 (by omega))⟩
        · omega
set_option maxHeartbeats 1000000 in
theorem C_core_lp {d : Nat} {h0 : E_H} {s : C_S} {p : List Nat} {f qa ma R B m : Nat} {φ : Int → List Int} {q : List Nat} {o cap : Nat} (w : C_wf s) (hf : D_Fm s p f qa ma R B m φ) (ne : ¬ p <+: q) (m1 : (φ 0).length < 33554432) (hm : 1 ≤ m) : ∀ (t : Nat) (k : Int) (u : C_S) (h : E_H) (sl a2 cap2 : Nat), ((φ 0).length : Int) - k < t → C_is h0 h u → D_Row u q o a2 cap2 (((φ 0).take k.toNat).filter (F_ai m φ)) → C_fr (fun t => t = q) s u → sl + 2 * cap ≤ 2 * cap2 → 8 * C_n u + cap ≤ 8 * C_n s + cap2 → ((cap2 : Int) ≤ cap ∨ (cap2 : Int) ≤ 2 * (φ 0).length) → 0 ≤ k → k ≤ (φ 0).length → B_R (d + 3) E_m11 (6, [(2, .int (Zi k)), (0, .ref f), (1, .ref o)], []) h sl (fun r => ∃ s2 : C_S, C_is h0 r.2.1 s2 ∧ (fun (x : Option Value) (s2 : C_S) (n : Nat) => x = none ∧ D_rw q o cap (F_coreL m φ) (φ 0).length s s2 n) r.1 s2 r.2.2) := by
  intro t
  induction t with
  | zero => intro k u h sl a2 cap2 ht hs hr fr w1 w2 w3 k0 k1; omega
  | succ t ih =>
    intro k u h sl a2 cap2 ht hs hr fr w1 w2 w3 k0 k1
    have hr0 := hr
    have hf0 := (hf.fr w fr (fun t e x => ne (by rw [← x]; exact e))).1
    have hf1 := hf0
    obtain ⟨⟨fk, ft, fp, fq, qk, qt, mk, mt, fn, fl, f1⟩, g1, g2, g3⟩ := hf1
    have zR := (hs.len (by decide) qk).1
    have hl1 : (((φ 0).take k.toNat).filter (F_ai m φ)).length ≤ k.toNat := by
      have := List.length_filter_le (F_ai m φ) ((φ 0).take k.toNat)
      have := List.length_take_le k.toNat (φ 0)
      omega
    refine Z_go (f2 := (7, [(2, .int (Zi k)), (0, .ref f), (1, .ref o)], [.ref f])) (fun _ => rfl) ?_
    refine C_gi rfl hs fk (by decide) (Nat.le_of_ble_eq_true rfl) rfl ?_
    rw [show C_F (u) f 2 = (m : Int) from (by first | exact fn | exact (if_neg (fun e => absurd e.1 (by assumption))).trans fn)]
    show B_R _ _ (10, [(2, .int (Zi k)), (0, .ref f), (1, .ref o)], [.int (Zi ((m : Int)))]) _ _ _
    refine Z_ile rfl rfl (by first | exact hs.zF _ _ | exact Zor_r _ _ | exact hs.zA _ _ | assumption | exact zA _ _ | exact zS _ | exact Zr_not (hs.zA _ _) | exact hs.1.1 _ _ | exact ⟨by omega, by omega⟩) (fun c1 => ?_) (fun c1 => ?_)
    · refine Z_ret rfl rfl ⟨_, hs, ?_⟩
      try dsimp only
      first
      | (exfalso; omega)
      | (obtain hk : k = (φ 0).length := by omega
         rw [hk, Int.toNat_natCast, List.take_length] at hr0
         have e : F_coreL m φ = (φ 0).filter (F_ai m φ) := if_neg (by omega)
         rw [e]
         exact ⟨rfl, a2, cap2, hr0, fr, w1, w2, w3⟩)
    · refine Z_go (f2 := (14, [(2, .int (Zi k)), (0, .ref f), (1, .ref o)], [.int (Zi k)])) (fun _ => rfl) ?_
      refine Z_go (f2 := (15, [(2, .int (Zi k)), (0, .ref f), (1, .ref o)], [.ref f, .int (Zi k)])) (fun _ => rfl) ?_
      refine Z_go (f2 := (16, [(2, .int (Zi k)), (0, .ref f), (1, .ref o)], [.int (Zi 0), .ref f, .int (Zi k)])) (fun _ => rfl) ?_
      refine C_callVR (As := [.int (Zi 0)]) (rest := [.int (Zi k)]) rfl (by decide) rfl (by decide) rfl rfl (by decide +kernel) (Nat.le_of_ble_eq_true rfl) hs fk (C_row_rd _ hf0 (i := 0) (by omega) (by omega)) (fun x q => ?_)
      obtain ⟨r79, a79, cap79, rfl, hq79, hr79, hb79⟩ := q
      have zr79 := D_Row.zr hs hr79
      show B_R _ _ (19, [(2, .int (Zi k)), (0, .ref f), (1, .ref o)], [.ref r79, .int (Zi k)]) _ _ _
      refine C_gi rfl hs hr79.1 (by decide) (Nat.le_of_ble_eq_true rfl) rfl ?_
      rw [show C_F (u) r79 1 = ((φ 0).length : Int) from (by first | exact hr79.2.2.2.2.2.1 | exact (if_neg (fun e => absurd e.1 (by assumption))).trans hr79.2.2.2.2.2.1)]
      show B_R _ _ (22, [(2, .int (Zi k)), (0, .ref f), (1, .ref o)], [.int (Zi (((φ 0).length : Int))), .int (Zi k)]) _ _ _
      refine Z_cge rfl rfl (by first | exact hs.zF _ _ | exact Zor_r _ _ | exact hs.zA _ _ | assumption | exact zA _ _ | exact zS _ | exact Zr_not (hs.zA _ _) | exact hs.1.1 _ _ | exact ⟨by omega, by omega⟩) (by first | exact hs.zF _ _ | exact Zor_r _ _ | exact hs.zA _ _ | assumption | exact zA _ _ | exact zS _ | exact Zr_not (hs.zA _ _) | exact hs.1.1 _ _ | exact ⟨by omega, by omega⟩) (fun c2 => ?_) (fun c2 => ?_)
      · refine Z_ret rfl rfl ⟨_, hs, ?_⟩
        try dsimp only
        first
        | (exfalso; omega)
        | (obtain hk : k = (φ 0).length := by omega
           rw [hk, Int.toNat_natCast, List.take_length] at hr0
           have e : F_coreL m φ = (φ 0).filter (F_ai m φ) := if_neg (by omega)
           rw [e]
           exact ⟨rfl, a2, cap2, hr0, fr, w1, w2, w3⟩)
      · refine Z_go (f2 := (26, [(2, .int (Zi k)), (0, .ref f), (1, .ref o)], [.ref f])) (fun _ => rfl) ?_
        refine Z_go (f2 := (27, [(2, .int (Zi k)), (0, .ref f), (1, .ref o)], [.int (Zi 0), .ref f])) (fun _ => rfl) ?_
        refine C_callVR (As := [.int (Zi 0)]) (rest := []) rfl (by decide) rfl (by decide) rfl rfl (by decide +kernel) (Nat.le_of_ble_eq_true rfl) hs fk (C_row_rd _ hf0 (i := 0) (by omega) (by omega)) (fun x q => ?_)
        obtain ⟨r80, a80, cap80, rfl, hq80, hr80, hb80⟩ := q
        have zr80 := D_Row.zr hs hr80
        show B_R _ _ (30, [(2, .int (Zi k)), (0, .ref f), (1, .ref o)], [.ref r80]) _ _ _
        refine Z_go (f2 := (31, [(2, .int (Zi k)), (0, .ref f), (1, .ref o)], [.int (Zi k), .ref r80])) (fun _ => rfl) ?_
        refine C_callVR (As := [.int (Zi k)]) (rest := []) rfl (by decide) rfl (by decide) rfl rfl (by decide +kernel) (Nat.le_of_ble_eq_true rfl) hs hr80.1 (C_at_ _ hr80 (i := k) (by first | exact hs.zF _ _ | exact Zor_r _ _ | exact hs.zA _ _ | assumption | exact zA _ _ | exact zS _ | exact Zr_not (hs.zA _ _) | exact hs.1.1 _ _ | exact ⟨by omega, by omega⟩)) (fun x q => ?_)
        obtain rfl := q
        have zl81 := D_Row.zat hs hr80 k
        show B_R _ _ (34, [(2, .int (Zi k)), (0, .ref f), (1, .ref o)], [.int (Zi (L_at (φ 0) k))]) _ _ _
        refine Z_go (f2 := (35, [(3, .int (Zi (L_at (φ 0) k))), (2, .int (Zi k)), (0, .ref f), (1, .ref o)], [])) (fun _ => rfl) ?_
        refine Z_go (f2 := (36, [(3, .int (Zi (L_at (φ 0) k))), (2, .int (Zi k)), (0, .ref f), (1, .ref o)], [.int (Zi 1)])) (fun _ => rfl) ?_
        refine Z_go (f2 := (38, [(4, .int (Zi 1)), (3, .int (Zi (L_at (φ 0) k))), (2, .int (Zi k)), (0, .ref f), (1, .ref o)], [])) (fun _ => rfl) ?_
        refine Z_go (f2 := (39, [(4, .int (Zi 1)), (3, .int (Zi (L_at (φ 0) k))), (2, .int (Zi k)), (0, .ref f), (1, .ref o)], [.int (Zi 1)])) (fun _ => rfl) ?_
        refine Z_go (f2 := (41, [(5, .int (Zi 1)), (4, .int (Zi 1)), (3, .int (Zi (L_at (φ 0) k))), (2, .int (Zi k)), (0, .ref f), (1, .ref o)], [])) (fun _ => rfl) ?_
        refine B_loc (K := [(5, .int (Zi 1)), (4, .int (Zi 1)), (3, .int (Zi (L_at (φ 0) k))), (2, .int (Zi k)), (0, .ref f), (1, .ref o)]) (N_all_sub ⟨rfl, rfl, rfl, rfl, rfl, rfl, trivial⟩) (show ([5, 4, 3, 2, 0, 1] : List Nat).Nodup by decide) ?_
        have hk : k < (φ 0).length := by omega
        have zv0 : Zr (L_at (φ 0) k) := D_Row.zat hs hr80 k
        have hin0 : L_at (φ 0) k ∈ φ 0 := L_at_mem.mpr ⟨k, k0, hk, rfl⟩
        refine C_core1 hs hf0 zv0 hm (fun cm hc => ?_) (m + 1) 1 1 (by omega) (by omega) (by omega) (.inl ⟨rfl, fun j j0 j1 => by rw [show j = 0 by omega]; exact hin0⟩)
        have zc : Zr cm := by rcases hc with e | e <;> exact ⟨by omega, by omega⟩
        refine Z_go (f2 := (75, [(4, .int (Zi cm)), (3, .int (Zi (L_at (φ 0) k))), (2, .int (Zi k)), (0, .ref f), (1, .ref o)], [.int (Zi cm)])) (fun _ => rfl) ?_
        refine Z_ieq rfl rfl (by first | exact hs.zF _ _ | exact Zor_r _ _ | exact hs.zA _ _ | assumption | exact zA _ _ | exact zS _ | exact Zr_not (hs.zA _ _) | exact hs.1.1 _ _ | exact ⟨by omega, by omega⟩) (fun c1 => ?_) (fun c1 => ?_)
        · refine Z_iinc (L2 := [(2, .int (Zi (k + 1))), (4, .int (Zi cm)), (3, .int (Zi (L_at (φ 0) k))), (0, .ref f), (1, .ref o)]) rfl rfl (by decide) rfl ?_
          refine Z_go (f2 := (6, [(2, .int (Zi (k + 1))), (4, .int (Zi cm)), (3, .int (Zi (L_at (φ 0) k))), (0, .ref f), (1, .ref o)], [])) (fun _ => rfl) ?_
          refine B_loc (K := [(2, .int (Zi (k + 1))), (0, .ref f), (1, .ref o)]) (N_all_sub ⟨rfl, rfl, rfl, trivial⟩) (show ([2, 0, 1] : List Nat).Nodup by decide) ?_
          have hout : ¬ F_allin m φ (L_at (φ 0) k) := by rcases hc with e | e; omega; exact e.2
          have e6 : ((φ 0).take (k + 1).toNat).filter (F_ai m φ) = ((φ 0).take k.toNat).filter (F_ai m φ) := by
            rw [L_take_s k0 hk, List.filter_append, List.filter_cons, F_ai_f hout]
            simp
          rw [← e6] at hr0
          exact ih _ u h _ a2 cap2 (by omega) hs hr0 fr w1 w2 w3 (by omega) (by omega)
        · refine Z_go (f2 := (79, [(4, .int (Zi cm)), (3, .int (Zi (L_at (φ 0) k))), (2, .int (Zi k)), (0, .ref f), (1, .ref o)], [.ref o])) (fun _ => rfl) ?_
          refine Z_go (f2 := (80, [(4, .int (Zi cm)), (3, .int (Zi (L_at (φ 0) k))), (2, .int (Zi k)), (0, .ref f), (1, .ref o)], [.int (Zi (L_at (φ 0) k)), .ref o])) (fun _ => rfl) ?_
          refine C_callV (As := [.int (Zi (L_at (φ 0) k))]) (rest := []) rfl (by decide) rfl (by decide) rfl rfl (by decide +kernel) (Nat.le_of_ble_eq_true rfl) hs hr0.1 (C_push _ hr0 (v := L_at (φ 0) k) zv0 (by omega)) (fun x h v n hs q => ?_)
          obtain ⟨rfl, hw⟩ := q
          show B_R _ _ (83, [(4, .int (Zi cm)), (3, .int (Zi (L_at (φ 0) k))), (2, .int (Zi k)), (0, .ref f), (1, .ref o)], []) _ _ _
          refine Z_iinc (L2 := [(2, .int (Zi (k + 1))), (4, .int (Zi cm)), (3, .int (Zi (L_at (φ 0) k))), (0, .ref f), (1, .ref o)]) rfl rfl (by decide) rfl ?_
          refine Z_go (f2 := (6, [(2, .int (Zi (k + 1))), (4, .int (Zi cm)), (3, .int (Zi (L_at (φ 0) k))), (0, .ref f), (1, .ref o)], [])) (fun _ => rfl) ?_
          refine B_loc (K := [(2, .int (Zi (k + 1))), (0, .ref f), (1, .ref o)]) (N_all_sub ⟨rfl, rfl, rfl, trivial⟩) (show ([2, 0, 1] : List Nat).Nodup by decide) ?_
          have hin : F_allin m φ (L_at (φ 0) k) := by rcases hc with e | e; exact e.2; omega
          obtain ⟨a5, cap5, e1, e2, e3, e4, e5⟩ := hw
          have e6 : ((φ 0).take (k + 1).toNat).filter (F_ai m φ) = ((φ 0).take k.toNat).filter (F_ai m φ) ++ [L_at (φ 0) k] := by
            rw [L_take_s k0 hk, List.filter_append, List.filter_cons, F_ai_t.mpr hin]
            rfl
          rw [← e6] at e1
          exact ih _ v h _ a5 cap5 (by omega) hs e1 (fr.tr e2) (by omega) (by omega) (by omega) (by omega) (by omega)
theorem C_core (d : Nat) {s : C_S} {p : List Nat} {f qa ma R B m : Nat} {φ : Int → List Int} {q : List Nat} {o a cap : Nat} {xs : List Int} (hf : D_Fm s p f qa ma R B m φ) (hr : D_Row s q o a cap xs) (ne : ¬ p <+: q) (m1 : (φ 0).length < 33554432) : C_ok (d + 4) 11 [.ref f, .ref o] s (fun x s2 n => x = none ∧ D_rw q o cap (F_coreL m φ) (φ 0).length s s2 n) := by
  refine C_enter (M := E_m11) rfl (Nat.le_of_ble_eq_true rfl) (fun h0 h hs => ?_)
  show B_R (d + 3) _ (0, [(0, .ref f), (1, .ref o)], []) _ _ _
  have hr0 := hr
  have hf0 := hf
  have w := hs.1
  obtain ⟨⟨fk, ft, fp, fq, qk, qt, mk, mt, fn, fl, f1⟩, g1, g2, g3⟩ := hf
  have zR := (hs.len (by decide) qk).1
  have neF := hf0.ne
  refine Z_go (f2 := (1, [(0, .ref f), (1, .ref o)], [.ref o])) (fun _ => rfl) ?_
  refine C_callV (As := []) (rest := []) rfl (by decide) rfl (by decide) rfl rfl (by decide +kernel) (Nat.le_of_ble_eq_true rfl) hs hr0.1 (C_clear _ hr0) (fun x h u n0 hs q => ?_)
  obtain ⟨rfl, rfl, hr1, fr0, en0⟩ := q
  have hf1 := (hf0.fr w fr0 (fun t e x => ne (by rw [← x]; exact e))).1
  have hf2 := hf1
  obtain ⟨⟨fk, ft, fp, fq, qk, qt, mk, mt, fn, fl, f1⟩, g1, g2, g3⟩ := hf2
  show B_R _ _ (4, [(0, .ref f), (1, .ref o)], []) _ _ _
  refine Z_go (f2 := (5, [(0, .ref f), (1, .ref o)], [.int (Zi 0)])) (fun _ => rfl) ?_
  refine Z_go (f2 := (6, [(2, .int (Zi 0)), (0, .ref f), (1, .ref o)], [])) (fun _ => rfl) ?_
  refine B_loc (K := [(2, .int (Zi 0)), (0, .ref f), (1, .ref o)]) (N_all_sub ⟨rfl, rfl, rfl, trivial⟩) (show ([2, 0, 1] : List Nat).Nodup by decide) ?_
  by_cases hm : 1 ≤ m
  · exact C_core_lp w hf0 ne m1 hm ((φ 0).length + 1) 0 u h _ a cap (by omega) hs hr1 fr0 (by omega) (by omega) (.inl (by omega)) (by omega) (by omega)
  · have hm0 : m = 0 := by omega
    refine Z_go (f2 := (7, [(2, .int (Zi 0)), (0, .ref f), (1, .ref o)], [.ref f])) (fun _ => rfl) ?_
    refine C_gi rfl hs fk (by decide) (Nat.le_of_ble_eq_true rfl) rfl ?_
    rw [show C_F (u) f 2 = (m : Int) from (by first | exact fn | exact (if_neg (fun e => absurd e.1 (by assumption))).trans fn)]
    show B_R _ _ (10, [(2, .int (Zi 0)), (0, .ref f), (1, .ref o)], [.int (Zi ((m : Int)))]) _ _ _
    refine Z_ile rfl rfl (by first | exact hs.zF _ _ | exact Zor_r _ _ | exact hs.zA _ _ | assumption | exact zA _ _ | exact zS _ | exact Zr_not (hs.zA _ _) | exact hs.1.1 _ _ | exact ⟨by omega, by omega⟩) (fun c1 => ?_) (fun c1 => ?_)
    · refine Z_ret rfl rfl ⟨_, hs, ?_⟩
      try dsimp only
      have e : F_coreL m φ = [] := if_pos hm0
      rw [e]
      exact ⟨rfl, a, cap, hr1, fr0, by omega, by omega, .inl (by omega)⟩
    · exfalso; omega
theorem C_famInit (d : Nat) {s : C_S} {f : Nat} {p : List Nat} {z : Int} (fk : C_K s f = (9, 0)) (ft : C_T s f = p) (z1 : 1 ≤ z) (z2 : z ≤ 67108864) : C_ok (d + 1) 3 [.ref f, .int (Zi z)] s (fun x s2 n => x = none ∧ n = 2 * z.toNat ∧ s2 = C_sP (C_new (C_sP (C_new s (4, z.toNat) p) f 0 (some (C_n s))) (3, z.toNat) p) f 1 (some (C_n s + 1))) := by
  refine C_enter (M := E_m3) rfl (Nat.le_of_ble_eq_true rfl) (fun h0 h hs => ?_)
  show B_R (d + 0) _ (0, [(0, .ref f), (1, .int (Zi z))], []) _ _ _
  have w := hs.1
  have lf := C_lt w fk (show 9 < 20 by decide)
  have zz : Zr z := ⟨by omega, by omega⟩
  refine Z_go (f2 := (1, [(0, .ref f), (1, .int (Zi z))], [.ref f])) (fun _ => rfl) ?_
  refine C_obj rfl (Nat.le_of_ble_eq_true rfl) ?_
  show B_R _ _ (4, [(0, .ref f), (1, .int (Zi z))], []) _ _ _
  refine Z_go (f2 := (5, [(0, .ref f), (1, .int (Zi z))], [.int (Zi 1)])) (fun _ => rfl) ?_
  refine Z_go (f2 := (6, [(0, .ref f), (1, .int (Zi z))], [.int (Zi z), .int (Zi 1)])) (fun _ => rfl) ?_
  refine C_max rfl (by first | exact hs.zF _ _ | exact Zor_r _ _ | exact hs.zA _ _ | assumption | exact zA _ _ | exact zS _ | exact Zr_not (hs.zA _ _) | exact hs.1.1 _ _ | exact ⟨by omega, by omega⟩) (by first | exact hs.zF _ _ | exact Zor_r _ _ | exact hs.zA _ _ | assumption | exact zA _ _ | exact zS _ | exact Zr_not (hs.zA _ _) | exact hs.1.1 _ _ | exact ⟨by omega, by omega⟩) (Nat.le_of_ble_eq_true rfl) ?_
  generalize ec0 : (if 1 < z then z else 1) = c0
  have zc0 : Zr c0 := ⟨by omega, by omega⟩
  show B_R _ _ (9, [(0, .ref f), (1, .int (Zi z))], [.int (Zi c0)]) _ _ _
  rw [show c0 = z by omega]
  show B_R _ _ (9, [(0, .ref f), (1, .int (Zi z))], [.int (Zi z)]) _ _ _
  refine Z_go (f2 := (10, [(2, .int (Zi z)), (0, .ref f), (1, .int (Zi z))], [])) (fun _ => rfl) ?_
  refine Z_go (f2 := (11, [(2, .int (Zi z)), (0, .ref f), (1, .int (Zi z))], [.ref f])) (fun _ => rfl) ?_
  refine Z_go (f2 := (12, [(2, .int (Zi z)), (0, .ref f), (1, .int (Zi z))], [.int (Zi z), .ref f])) (fun _ => rfl) ?_
  refine C_nq (t := p) rfl hs (by decide) (by decide) (by omega) (by omega) (fun h hs => ?_)
  have fk : C_K (C_new s (4, z.toNat) p) f = (9, 0) := (if_neg (by omega)).trans fk
  show B_R _ _ (15, [(2, .int (Zi z)), (0, .ref f), (1, .int (Zi z))], [.ref (C_n s), .ref f]) _ _ _
  refine C_pr rfl hs (r := some (C_n s)) rfl fk (by decide) (Nat.le_of_ble_eq_true rfl) (.inr ⟨by decide +kernel, rfl⟩) rfl (fun h hs => ?_)
  refine Z_go (f2 := (19, [(2, .int (Zi z)), (0, .ref f), (1, .int (Zi z))], [.ref f])) (fun _ => rfl) ?_
  refine Z_go (f2 := (20, [(2, .int (Zi z)), (0, .ref f), (1, .int (Zi z))], [.int (Zi z), .ref f])) (fun _ => rfl) ?_
  refine C_na (t := p) rfl hs (by decide) (by decide) (by omega) (by omega) (fun h hs => ?_)
  have fk : C_K (C_new (C_sP (C_new s (4, z.toNat) p) f 0 (some (C_n s))) (3, z.toNat) p) f = (9, 0) := (if_neg (show ¬ f = C_n s + 1 by omega)).trans fk
  show B_R _ _ (22, [(2, .int (Zi z)), (0, .ref f), (1, .int (Zi z))], [.ref (C_n s + 1), .ref f]) _ _ _
  refine C_pr rfl hs (r := some (C_n s + 1)) rfl fk (by decide) (Nat.le_of_ble_eq_true rfl) (.inr ⟨by decide +kernel, rfl⟩) rfl (fun h hs => ?_)
  refine Z_ret rfl rfl ⟨_, hs, ?_⟩
  try dsimp only
  exact ⟨rfl, by omega, rfl⟩
