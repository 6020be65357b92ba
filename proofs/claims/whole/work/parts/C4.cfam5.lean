/-! the class: Family: offerAll, copyFrom, coreInto -/
def L_inc (p q : List Nat) : Prop := ¬ p <+: q ∧ ¬ q <+: p
theorem L_inc.out {p q t : List Nat} (h : L_inc p q) (ht : q <+: t) : ¬ p <+: t := fun e => (List.prefix_or_prefix_of_prefix e ht).elim h.1 h.2
theorem L_inc.sym {p q : List Nat} (h : L_inc p q) : L_inc q p := ⟨h.2, h.1⟩
theorem F_off_len (fam : List (List Int)) (xs : List Int) : (F_off fam xs).length ≤ fam.length + 1 := by
  unfold F_off
  by_cases c : ∃ g, g ∈ fam ∧ L_le g xs
  · rw [c_pos c]
    exact Nat.le_succ _
  · rw [c_neg c, List.length_append]
    exact Nat.succ_le_succ (List.length_filter_le _ _)
noncomputable def F_offs (fam l : List (List Int)) : List (List Int) := l.foldl F_off fam
theorem F_offs_s (fam l : List (List Int)) (x : List Int) : F_offs fam (l ++ [x]) = F_off (F_offs fam l) x := by
  unfold F_offs
  rw [List.foldl_append]
  rfl
theorem F_offs_len (l : List (List Int)) : ∀ fam : List (List Int), (F_offs fam l).length ≤ fam.length + l.length := by
  induction l with
  | nil => intro fam; exact Nat.le_refl _
  | cons x l ih =>
    intro fam
    have := ih (F_off fam x)
    have := F_off_len fam x
    show (F_offs (F_off fam x) l).length ≤ fam.length + (l.length + 1)
    omega
theorem C_offA_lp {d : Nat} {h0 : E_H} {s : C_S} {p : List Nat} {f qa ma R B m : Nat} {φ : Int → List Int} {p2 : List Nat} {f2 qa2 ma2 R2 B2 m2 : Nat} {φ2 : Int → List Int} (w : C_wf s) (hg : D_Fm s p2 f2 qa2 ma2 R2 B2 m2 φ2) (inc : L_inc p p2) (hm : m + m2 ≤ R) (hB : 8 ≤ B) (hlen : ∀ i : Int, 0 ≤ i → i < m2 → 2 * (φ2 i).length ≤ B ∧ (φ2 i).length ≤ 33554432) : ∀ (t : Nat) (i : Int) (u : C_S) (h : E_H) (sl : Nat), (m2 : Int) - i < t → C_is h0 h u → D_of p f qa ma R B (F_offs (F_li m φ) (F_li i.toNat φ2)) s u sl → 0 ≤ i → i ≤ m2 → B_R (d + 4) E_m7 (2, [(2, .int (Zi i)), (0, .ref f), (1, .ref f2)], []) h sl (fun r => ∃ s2 : C_S, C_is h0 r.2.1 s2 ∧ (fun (x : Option Value) (s2 : C_S) (n : Nat) => x = none ∧ D_of p f qa ma R B (F_offs (F_li m φ) (F_li m2 φ2)) s s2 n) r.1 s2 r.2.2) := by
  intro t
  induction t with
  | zero => intro i u h sl ht hs hd i0 i1; omega
  | succ t ih =>
    intro i u h sl ht hs hd i0 i1
    have hd0 := hd
    obtain ⟨m3, ψ, hf, hl, fr, w1, w2⟩ := hd
    have hg0 := (hg.fr w fr (fun t e => inc.out e)).1
    have hg1 := hg0
    obtain ⟨⟨fk, ft, fp, fq, qk, qt, mk, mt, fn, fl, f1⟩, g1, g2, g3⟩ := hg1
    have zR := (hs.len (by decide) qk).1
    have l3 := F_li_len m3 ψ
    rw [hl] at l3
    have l4 := F_offs_len (F_li i.toNat φ2) (F_li m φ)
    rw [F_li_len, F_li_len] at l4
    refine Z_go (f2 := (3, [(2, .int (Zi i)), (0, .ref f), (1, .ref f2)], [.int (Zi i)])) (fun _ => rfl) ?_
    refine Z_go (f2 := (4, [(2, .int (Zi i)), (0, .ref f), (1, .ref f2)], [.ref f2, .int (Zi i)])) (fun _ => rfl) ?_
    refine C_gi rfl hs fk (by decide) (Nat.le_of_ble_eq_true rfl) rfl ?_
    rw [show C_F (u) f2 2 = (m2 : Int) from (by first | exact fn | exact (if_neg (fun e => absurd e.1 (by assumption))).trans fn)]
    show B_R _ _ (7, [(2, .int (Zi i)), (0, .ref f), (1, .ref f2)], [.int (Zi ((m2 : Int))), .int (Zi i)]) _ _ _
    refine Z_cge rfl rfl (by first | exact hs.zF _ _ | exact Zor_r _ _ | exact hs.zA _ _ | assumption | exact zA _ _ | exact zS _ | exact Zr_not (hs.zA _ _) | exact hs.1.1 _ _ | exact ⟨by omega, by omega⟩) (by first | exact hs.zF _ _ | exact Zor_r _ _ | exact hs.zA _ _ | assumption | exact zA _ _ | exact zS _ | exact Zr_not (hs.zA _ _) | exact hs.1.1 _ _ | exact ⟨by omega, by omega⟩) (fun c1 => ?_) (fun c1 => ?_)
    · refine Z_ret rfl rfl ⟨_, hs, ?_⟩
      try dsimp only
      obtain rfl : i = m2 := by omega
      rw [Int.toNat_natCast] at hd0
      exact ⟨rfl, hd0⟩
    · refine Z_go (f2 := (11, [(2, .int (Zi i)), (0, .ref f), (1, .ref f2)], [.ref f])) (fun _ => rfl) ?_
      refine Z_go (f2 := (12, [(2, .int (Zi i)), (0, .ref f), (1, .ref f2)], [.ref f2, .ref f])) (fun _ => rfl) ?_
      refine Z_go (f2 := (13, [(2, .int (Zi i)), (0, .ref f), (1, .ref f2)], [.int (Zi i), .ref f2, .ref f])) (fun _ => rfl) ?_
      refine C_callVR (As := [.int (Zi i)]) (rest := [.ref f]) rfl (by decide) rfl (by decide) rfl rfl (by decide +kernel) (Nat.le_of_ble_eq_true rfl) hs fk (C_row_rd _ hg0 (i := i) (by omega) (by omega)) (fun x q => ?_)
      obtain ⟨r75, a75, cap75, rfl, hq75, hr75, hb75⟩ := q
      have zr75 := D_Row.zr hs hr75
      show B_R _ _ (16, [(2, .int (Zi i)), (0, .ref f), (1, .ref f2)], [.ref r75, .ref f]) _ _ _
      refine C_callV (As := [.ref r75]) (rest := []) rfl (by decide) rfl (by decide) rfl rfl (by decide +kernel) (Nat.le_of_ble_eq_true rfl) hs hf.1.1 (C_offer _ hf hr75 (g3 i (by omega) (by omega)).2 (fun e => inc.out (L_pre_one p2 _) e) (by omega) hB (hlen i i0 (by omega)).1 (hlen i i0 (by omega)).2) (fun x h v n hs q => ?_)
      obtain ⟨rfl, hd2⟩ := q
      show B_R _ _ (19, [(2, .int (Zi i)), (0, .ref f), (1, .ref f2)], []) _ _ _
      refine Z_iinc (L2 := [(2, .int (Zi (i + 1))), (0, .ref f), (1, .ref f2)]) rfl rfl (by decide) rfl ?_
      refine Z_go (f2 := (2, [(2, .int (Zi (i + 1))), (0, .ref f), (1, .ref f2)], [])) (fun _ => rfl) ?_
      refine B_loc (K := [(2, .int (Zi (i + 1))), (0, .ref f), (1, .ref f2)]) (N_all_sub ⟨rfl, rfl, rfl, trivial⟩) (show ([2, 0, 1] : List Nat).Nodup by decide) ?_
      refine ih _ v h _ (by omega) hs ?_ (by omega) (by omega)
      obtain ⟨m4, χ, y1, y2, y3, y4, y5⟩ := hd2
      refine ⟨m4, χ, y1, ?_, fr.tr y3, by omega, by omega⟩
      rw [y2, hl, show (i + 1).toNat = i.toNat + 1 by omega, F_li_s, F_offs_s, show ((i.toNat : Nat) : Int) = i by omega]
theorem C_offAll (d : Nat) {s : C_S} {p : List Nat} {f qa ma R B m : Nat} {φ : Int → List Int} {p2 : List Nat} {f2 qa2 ma2 R2 B2 m2 : Nat} {φ2 : Int → List Int} (hf : D_Fm s p f qa ma R B m φ) (hg : D_Fm s p2 f2 qa2 ma2 R2 B2 m2 φ2) (inc : L_inc p p2) (hm : m + m2 ≤ R) (hB : 8 ≤ B) (hlen : ∀ i : Int, 0 ≤ i → i < m2 → 2 * (φ2 i).length ≤ B ∧ (φ2 i).length ≤ 33554432) : C_ok (d + 5) 7 [.ref f, .ref f2] s (fun x s2 n => x = none ∧ D_of p f qa ma R B (F_offs (F_li m φ) (F_li m2 φ2)) s s2 n) := by
  refine C_enter (M := E_m7) rfl (Nat.le_of_ble_eq_true rfl) (fun h0 h hs => ?_)
  show B_R (d + 4) _ (0, [(0, .ref f), (1, .ref f2)], []) _ _ _
  have hf0 := hf
  have w := hs.1
  obtain ⟨⟨fk, ft, fp, fq, qk, qt, mk, mt, fn, fl, f1⟩, g1, g2, g3⟩ := hf
  have zR := (hs.len (by decide) qk).1
  have neF := hf0.ne
  refine Z_go (f2 := (1, [(0, .ref f), (1, .ref f2)], [.int (Zi 0)])) (fun _ => rfl) ?_
  refine Z_go (f2 := (2, [(2, .int (Zi 0)), (0, .ref f), (1, .ref f2)], [])) (fun _ => rfl) ?_
  refine B_loc (K := [(2, .int (Zi 0)), (0, .ref f), (1, .ref f2)]) (N_all_sub ⟨rfl, rfl, rfl, trivial⟩) (show ([2, 0, 1] : List Nat).Nodup by decide) ?_
  exact C_offA_lp w hg inc hm hB hlen (m2 + 1) _ s h _ (by omega) hs ⟨m, φ, hf0, rfl, C_fr.refl _ _, by omega, by omega⟩ (by omega) (by omega)
theorem C_fcp_lp {d : Nat} {h0 : E_H} {s : C_S} {p : List Nat} {f qa ma R B : Nat} {p2 : List Nat} {f2 qa2 ma2 R2 B2 m2 : Nat} {φ2 : Int → List Int} (w : C_wf s) (hg : D_Fm s p2 f2 qa2 ma2 R2 B2 m2 φ2) (inc : L_inc p p2) (hm : m2 ≤ R) (hB : 8 ≤ B) (hlen : ∀ i : Int, 0 ≤ i → i < m2 → 2 * (φ2 i).length ≤ B ∧ (φ2 i).length ≤ 33554432) : ∀ (t : Nat) (i : Int) (u : C_S) (h : E_H) (sl : Nat) (ψ : Int → List Int), (m2 : Int) - i < t → C_is h0 h u → D_Fm u p f qa ma R B i.toNat ψ → F_li i.toNat ψ = F_li i.toNat φ2 → C_fr (fun t => p <+: t) s u → sl + 2 * C_fw s qa R ≤ 2 * C_fw u qa R → 8 * C_n u + C_fw s qa R ≤ 8 * C_n s + C_fw u qa R → 0 ≤ i → i ≤ m2 → B_R (d + 3) E_m8 (7, [(2, .int (Zi i)), (0, .ref f), (1, .ref f2)], []) h sl (fun r => ∃ s2 : C_S, C_is h0 r.2.1 s2 ∧ (fun (x : Option Value) (s2 : C_S) (n : Nat) => x = none ∧ D_of p f qa ma R B (F_li m2 φ2) s s2 n) r.1 s2 r.2.2) := by
  intro t
  induction t with
  | zero => intro i u h sl ψ ht hs hf hl fr w1 w2 i0 i1; omega
  | succ t ih =>
    intro i u h sl ψ ht hs hf hl fr w1 w2 i0 i1
    have wu := hs.1
    have hf0 := hf
    have hg0 := (hg.fr w fr (fun t e => inc.out e)).1
    have hg1 := hg0
    obtain ⟨⟨gk, gt, gp, gq, qk2, qt2, mk2, mt2, gn, gl, gl1⟩, k1, k2, g3⟩ := hg1
    obtain ⟨⟨fk, ft, fp, fq, qk, qt, mk, mt, fn, fl, f1⟩, _, _, _⟩ := hf
    have zR := (hs.len (by decide) qk).1
    have zR2 := (hs.len (by decide) qk2).1
    rw [show ((i.toNat : Nat) : Int) = i by omega] at fn
    refine Z_go (f2 := (8, [(2, .int (Zi i)), (0, .ref f), (1, .ref f2)], [.int (Zi i)])) (fun _ => rfl) ?_
    refine Z_go (f2 := (9, [(2, .int (Zi i)), (0, .ref f), (1, .ref f2)], [.ref f2, .int (Zi i)])) (fun _ => rfl) ?_
    refine C_gi rfl hs gk (by decide) (Nat.le_of_ble_eq_true rfl) rfl ?_
    rw [show C_F (u) f2 2 = (m2 : Int) from (by first | exact gn | exact (if_neg (fun e => absurd e.1 (by assumption))).trans gn)]
    show B_R _ _ (12, [(2, .int (Zi i)), (0, .ref f), (1, .ref f2)], [.int (Zi ((m2 : Int))), .int (Zi i)]) _ _ _
    refine Z_cge rfl rfl (by first | exact hs.zF _ _ | exact Zor_r _ _ | exact hs.zA _ _ | assumption | exact zA _ _ | exact zS _ | exact Zr_not (hs.zA _ _) | exact hs.1.1 _ _ | exact ⟨by omega, by omega⟩) (by first | exact hs.zF _ _ | exact Zor_r _ _ | exact hs.zA _ _ | assumption | exact zA _ _ | exact zS _ | exact Zr_not (hs.zA _ _) | exact hs.1.1 _ _ | exact ⟨by omega, by omega⟩) (fun c1 => ?_) (fun c1 => ?_)
    · refine Z_ret rfl rfl ⟨_, hs, ?_⟩
      try dsimp only
      first
      | (exfalso; omega)
      | (obtain rfl : i = m2 := by omega
         rw [Int.toNat_natCast] at hl
         exact ⟨rfl, _, ψ, hf0, hl, fr, by omega, by omega⟩)
    · refine Z_go (f2 := (16, [(2, .int (Zi i)), (0, .ref f), (1, .ref f2)], [.int (Zi i)])) (fun _ => rfl) ?_
      refine Z_go (f2 := (17, [(2, .int (Zi i)), (0, .ref f), (1, .ref f2)], [.ref f, .int (Zi i)])) (fun _ => rfl) ?_
      refine C_gr rfl hs fk (by decide) (Nat.le_of_ble_eq_true rfl) rfl fp ?_
      refine C_al rfl hs qk (by decide) ?_
      show B_R _ _ (21, [(2, .int (Zi i)), (0, .ref f), (1, .ref f2)], [.int (Zi ((R : Int))), .int (Zi i)]) _ _ _
      refine Z_cge rfl rfl (by first | exact hs.zF _ _ | exact Zor_r _ _ | exact hs.zA _ _ | assumption | exact zA _ _ | exact zS _ | exact Zr_not (hs.zA _ _) | exact hs.1.1 _ _ | exact ⟨by omega, by omega⟩) (by first | exact hs.zF _ _ | exact Zor_r _ _ | exact hs.zA _ _ | assumption | exact zA _ _ | exact zS _ | exact Zr_not (hs.zA _ _) | exact hs.1.1 _ _ | exact ⟨by omega, by omega⟩) (fun c2 => ?_) (fun c2 => ?_)
      · refine Z_ret rfl rfl ⟨_, hs, ?_⟩
        try dsimp only
        first
        | (exfalso; omega)
        | (obtain rfl : i = m2 := by omega
           rw [Int.toNat_natCast] at hl
           exact ⟨rfl, _, ψ, hf0, hl, fr, by omega, by omega⟩)
      · refine Z_go (f2 := (25, [(2, .int (Zi i)), (0, .ref f), (1, .ref f2)], [.int (Zi i)])) (fun _ => rfl) ?_
        refine Z_go (f2 := (26, [(2, .int (Zi i)), (0, .ref f), (1, .ref f2)], [.ref f, .int (Zi i)])) (fun _ => rfl) ?_
        refine C_gr rfl hs fk (by decide) (Nat.le_of_ble_eq_true rfl) rfl fq ?_
        refine C_al rfl hs mk (by decide) ?_
        show B_R _ _ (30, [(2, .int (Zi i)), (0, .ref f), (1, .ref f2)], [.int (Zi ((R : Int))), .int (Zi i)]) _ _ _
        refine Z_cge rfl rfl (by first | exact hs.zF _ _ | exact Zor_r _ _ | exact hs.zA _ _ | assumption | exact zA _ _ | exact zS _ | exact Zr_not (hs.zA _ _) | exact hs.1.1 _ _ | exact ⟨by omega, by omega⟩) (by first | exact hs.zF _ _ | exact Zor_r _ _ | exact hs.zA _ _ | assumption | exact zA _ _ | exact zS _ | exact Zr_not (hs.zA _ _) | exact hs.1.1 _ _ | exact ⟨by omega, by omega⟩) (fun c3 => ?_) (fun c3 => ?_)
        · refine Z_ret rfl rfl ⟨_, hs, ?_⟩
          try dsimp only
          first
          | (exfalso; omega)
          | (obtain rfl : i = m2 := by omega
             rw [Int.toNat_natCast] at hl
             exact ⟨rfl, _, ψ, hf0, hl, fr, by omega, by omega⟩)
        · refine Z_go (f2 := (34, [(2, .int (Zi i)), (0, .ref f), (1, .ref f2)], [.ref f])) (fun _ => rfl) ?_
          refine Z_go (f2 := (35, [(2, .int (Zi i)), (0, .ref f), (1, .ref f2)], [.int (Zi i), .ref f])) (fun _ => rfl) ?_
          refine C_callV (As := [.int (Zi i)]) (rest := []) rfl (by decide) rfl (by decide) rfl rfl (by decide +kernel) (Nat.le_of_ble_eq_true rfl) hs fk (C_row_nw _ hf0 (i := i) (by omega) (by omega) hB) (fun x h v n1 hs q => ?_)
          obtain ⟨r, a3, cap3, ys, rfl, x1, hr3, x3, hf3, x5, x6, x7⟩ := q
          have wv := hs.1
          have hg3 := (hg0.fr wu x5 (fun t e => inc.out e)).1
          have hg4 := hg3
          have hf4 := hf3
          obtain ⟨⟨fk, ft, fp, fq, qk, qt, mk, mt, fn, fl, f1⟩, _, _, _⟩ := hf4
          rw [show ((i.toNat : Nat) : Int) = i by omega] at fn
          obtain ⟨⟨gk, gt, gp, gq, qk2, qt2, mk2, mt2, gn, gl, gl1⟩, k1, k2, g3⟩ := hg4
          show B_R _ _ (38, [(2, .int (Zi i)), (0, .ref f), (1, .ref f2)], [.ref r]) _ _ _
          refine Z_go (f2 := (39, [(2, .int (Zi i)), (0, .ref f), (1, .ref f2)], [.ref f2, .ref r])) (fun _ => rfl) ?_
          refine Z_go (f2 := (40, [(2, .int (Zi i)), (0, .ref f), (1, .ref f2)], [.int (Zi i), .ref f2, .ref r])) (fun _ => rfl) ?_
          refine C_callVR (As := [.int (Zi i)]) (rest := [.ref r]) rfl (by decide) rfl (by decide) rfl rfl (by decide +kernel) (Nat.le_of_ble_eq_true rfl) hs gk (C_row_rd _ hg3 (i := i) (by omega) (by omega)) (fun x q => ?_)
          obtain ⟨r76, a76, cap76, rfl, hq76, hr76, hb76⟩ := q
          have zr76 := D_Row.zr hs hr76
          show B_R _ _ (43, [(2, .int (Zi i)), (0, .ref f), (1, .ref f2)], [.ref r76, .ref r]) _ _ _
          refine C_callV (As := [.ref r76]) (rest := []) rfl (by decide) rfl (by decide) rfl rfl (by decide +kernel) (Nat.le_of_ble_eq_true rfl) hs hr3.1 (C_copyRow _ hr3 hr76 (fun e => inc.out (q := p2) (L_pre_one p2 _) (by rw [← e]; exact L_pre_one p r)) (by have := (hlen i i0 (by omega)).2; omega)) (fun x h z n2 hs q => ?_)
          obtain ⟨rfl, a4, cap4, hr6, fr6, y1, y2, y3⟩ := q
          have hle := hlen i i0 (by omega)
          have hcap : cap4 ≤ B := by omega
          obtain ⟨hf6, hq6, w6⟩ := hf3.rowset wv (i := i) (by omega) (by omega) (by omega) x1 fr6 hr6 hcap
          have hw3 := hr3.rw
          have frz : C_fr (fun t => p <+: t) v z := fr6.weak (fun t e => by rw [e]; exact L_pre_one p r)
          have hg6 := (hg3.fr wv frz (fun t e => inc.out e)).1
          have hg7 := hg6
          have hf7 := hf6
          obtain ⟨⟨fk, ft, fp, fq, qk, qt, mk, mt, fn, fl, f1⟩, _, _, _⟩ := hf7
          rw [show ((i.toNat : Nat) : Int) = i by omega] at fn
          obtain ⟨⟨gk, gt, gp, gq, qk2, qt2, mk2, mt2, gn, gl, gl1⟩, k1, k2, g3⟩ := hg7
          have gmk := (g3 i i0 (by omega)).1
          show B_R _ _ (46, [(2, .int (Zi i)), (0, .ref f), (1, .ref f2)], []) _ _ _
          refine Z_go (f2 := (47, [(2, .int (Zi i)), (0, .ref f), (1, .ref f2)], [.ref f])) (fun _ => rfl) ?_
          refine C_gr rfl hs fk (by decide) (Nat.le_of_ble_eq_true rfl) rfl fq ?_
          refine Z_go (f2 := (51, [(2, .int (Zi i)), (0, .ref f), (1, .ref f2)], [.int (Zi i), .ref ma])) (fun _ => rfl) ?_
          refine Z_go (f2 := (52, [(2, .int (Zi i)), (0, .ref f), (1, .ref f2)], [.ref f2, .int (Zi i), .ref ma])) (fun _ => rfl) ?_
          refine Z_go (f2 := (53, [(2, .int (Zi i)), (0, .ref f), (1, .ref f2)], [.int (Zi i), .ref f2, .int (Zi i), .ref ma])) (fun _ => rfl) ?_
          refine C_callVR (As := [.int (Zi i)]) (rest := [.int (Zi i), .ref ma]) rfl (by decide) rfl (by decide) rfl rfl (by decide +kernel) (Nat.le_of_ble_eq_true rfl) hs gk (C_markOf _ hg6 (i := i) (by omega) (by omega)) (fun x q => ?_)
          rw [gmk] at q
          obtain rfl := q
          show B_R _ _ (56, [(2, .int (Zi i)), (0, .ref f), (1, .ref f2)], [.long (L_mk (φ2 i)), .int (Zi i), .ref ma]) _ _ _
          refine C_ls rfl hs mk (by omega) (by omega) (fun h hs => ?_)
          refine Z_go (f2 := (58, [(2, .int (Zi i)), (0, .ref f), (1, .ref f2)], [.ref f])) (fun _ => rfl) ?_
          refine Z_go (f2 := (59, [(2, .int (Zi i)), (0, .ref f), (1, .ref f2)], [.ref f, .ref f])) (fun _ => rfl) ?_
          refine C_gi rfl hs fk (by decide) (Nat.le_of_ble_eq_true rfl) rfl ?_
          rw [show C_F (C_sL z ma i (L_mk (φ2 i))) f 2 = i from (by first | exact fn | exact (if_neg (fun e => absurd e.1 (by assumption))).trans fn)]
          show B_R _ _ (62, [(2, .int (Zi i)), (0, .ref f), (1, .ref f2)], [.int (Zi i), .ref f]) _ _ _
          refine Z_go (f2 := (63, [(2, .int (Zi i)), (0, .ref f), (1, .ref f2)], [.int (Zi 1), .int (Zi i), .ref f])) (fun _ => rfl) ?_
          refine Z_iadd rfl ?_
          refine C_pi rfl hs fk (by decide) (Nat.le_of_ble_eq_true rfl) (.inl rfl) rfl rfl rfl (by first | exact hs.zF _ _ | exact Zor_r _ _ | exact hs.zA _ _ | assumption | exact zA _ _ | exact zS _ | exact Zr_not (hs.zA _ _) | exact hs.1.1 _ _ | exact ⟨by omega, by omega⟩) (fun h hs => ?_)
          refine Z_iinc (L2 := [(2, .int (Zi (i + 1))), (0, .ref f), (1, .ref f2)]) rfl rfl (by decide) rfl ?_
          refine Z_go (f2 := (7, [(2, .int (Zi (i + 1))), (0, .ref f), (1, .ref f2)], [])) (fun _ => rfl) ?_
          refine B_loc (K := [(2, .int (Zi (i + 1))), (0, .ref f), (1, .ref f2)]) (N_all_sub ⟨rfl, rfl, rfl, trivial⟩) (show ([2, 0, 1] : List Nat).Nodup by decide) ?_
          have hq7 : C_Q z qa ((i.toNat : Nat) : Int) = some r := by rw [show ((i.toNat : Nat) : Int) = i by omega]; exact hq6
          have hg8 := hf6.grow (by omega) hq7 hr6 hcap (g3 i i0 (by omega)).2 (v := i + 1) (by omega)
          rw [show ((i.toNat : Nat) : Int) = i by omega] at hg8
          refine ih _ _ h _ _ (by omega) hs (by rw [show (i + 1).toNat = i.toNat + 1 by omega]; exact hg8) ?_ ?_ ?_ ?_ (by omega) (by omega)
          · rw [show (i + 1).toNat = i.toNat + 1 by omega, F_li_s, F_li_s, show ((i.toNat : Nat) : Int) = i by omega]
            have e1 : F_li i.toNat (fun j => if j = i then φ2 i else ψ j) = F_li i.toNat ψ := F_li_congr (fun j j0 j1 => by rw [if_neg (by omega)])
            rw [e1, if_pos rfl, hl]
          · exact (((fr.tr x5).tr frz).sL (by rw [mt]; exact L_pre_self p)).sF (by show p <+: C_T z f; rw [ft]; exact L_pre_self p)
          · rw [C_fw_sF, C_fw_sL]
            omega
          · rw [C_fw_sF, C_fw_sL]
            show 8 * C_n z + _ ≤ _
            omega
theorem C_fcopy (d : Nat) {s : C_S} {p : List Nat} {f qa ma R B m : Nat} {φ : Int → List Int} {p2 : List Nat} {f2 qa2 ma2 R2 B2 m2 : Nat} {φ2 : Int → List Int} (hf : D_Fm s p f qa ma R B m φ) (hg : D_Fm s p2 f2 qa2 ma2 R2 B2 m2 φ2) (inc : L_inc p p2) (hm : m2 ≤ R) (hB : 8 ≤ B) (hlen : ∀ i : Int, 0 ≤ i → i < m2 → 2 * (φ2 i).length ≤ B ∧ (φ2 i).length ≤ 33554432) : C_ok (d + 4) 8 [.ref f, .ref f2] s (fun x s2 n => x = none ∧ D_of p f qa ma R B (F_li m2 φ2) s s2 n) := by
  refine C_enter (M := E_m8) rfl (Nat.le_of_ble_eq_true rfl) (fun h0 h hs => ?_)
  show B_R (d + 3) _ (0, [(0, .ref f), (1, .ref f2)], []) _ _ _
  have hf0 := hf
  have w := hs.1
  obtain ⟨⟨fk, ft, fp, fq, qk, qt, mk, mt, fn, fl, f1⟩, g1, g2, g3⟩ := hf
  have zR := (hs.len (by decide) qk).1
  have neF := hf0.ne
  refine Z_go (f2 := (1, [(0, .ref f), (1, .ref f2)], [.ref f])) (fun _ => rfl) ?_
  refine Z_go (f2 := (2, [(0, .ref f), (1, .ref f2)], [.int (Zi 0), .ref f])) (fun _ => rfl) ?_
  refine C_pi rfl hs fk (by decide) (Nat.le_of_ble_eq_true rfl) (.inl rfl) rfl rfl rfl (by first | exact hs.zF _ _ | exact Zor_r _ _ | exact hs.zA _ _ | assumption | exact zA _ _ | exact zS _ | exact Zr_not (hs.zA _ _) | exact hs.1.1 _ _ | exact ⟨by omega, by omega⟩) (fun h hs => ?_)
  refine Z_go (f2 := (6, [(0, .ref f), (1, .ref f2)], [.int (Zi 0)])) (fun _ => rfl) ?_
  refine Z_go (f2 := (7, [(2, .int (Zi 0)), (0, .ref f), (1, .ref f2)], [])) (fun _ => rfl) ?_
  refine B_loc (K := [(2, .int (Zi 0)), (0, .ref f), (1, .ref f2)]) (N_all_sub ⟨rfl, rfl, rfl, trivial⟩) (show ([2, 0, 1] : List Nat).Nodup by decide) ?_
  refine C_fcp_lp w hg inc hm hB hlen (m2 + 1) 0 (C_sF s f 2 0) h _ φ (by omega) hs (hf0.shrink (Nat.zero_le _) rfl) rfl ((C_fr.refl _ _).sF (by rw [ft]; exact L_pre_self p)) (by rw [C_fw_sF]; omega) (by rw [C_fw_sF]; show 8 * C_n s + _ ≤ _; omega) (by omega) (by omega)
