/-! the reference: the tape and the files -/
/-- the k-th byte of five numbers -/
def D_fb (a b c d e k : Int) : Int := (if k < 4 then a else if k < 8 then b else if k < 12 then c else if k < 16 then d else e) / 2 ^ (24 - 8 * (k % 4)).toNat % 256
/-- u is s, but k more bytes stand on the tape -/
def R_fed (s u : R_S) (a b c d e k : Int) : Prop := u.1 = R_up s.1 1 (s.1 1 + k) ∧ (∀ q j, u.2.1 q j = if q = 84 ∧ s.1 1 ≤ j ∧ j < s.1 1 + k then D_fb a b c d e (j - s.1 1) else s.2.1 q j) ∧ u.2.2 = s.2.2
theorem R_fed_0 (s : R_S) (a b c d e : Int) : R_fed s s a b c d e 0 := by
  refine ⟨?_, fun q j => by rw [if_neg (by omega)], rfl⟩
  funext j
  unfold R_up
  split
  · rename_i e
    rw [e]
    omega
  · rfl
theorem R_fed_1 {s u : R_S} {a b c d e k : Int} (h : R_fed s u a b c d e k) : u.1 1 = s.1 1 + k := by
  rw [h.1]
  unfold R_up
  rw [if_pos rfl]
theorem R_fed_st {s u : R_S} {a b c d e k v : Int} (h : R_fed s u a b c d e k) (k0 : 0 ≤ k) (hv : v = D_fb a b c d e k) : R_fed s (R_sF (R_sA u 84 (u.1 1) v) 1 (u.1 1 + 1)) a b c d e (k + 1) := by
  have e1 := R_fed_1 h
  refine ⟨?_, fun q j => ?_, h.2.2⟩
  · funext j
    show R_up u.1 1 (u.1 1 + 1) j = _
    rw [e1, h.1]
    unfold R_up
    split
    · omega
    · rfl
  · show R_up2 u.2.1 84 (u.1 1) v q j = _
    unfold R_up2
    rw [e1]
    by_cases c : q = 84 ∧ j = s.1 1 + k
    · obtain ⟨c1, c2⟩ := c
      rw [if_pos ⟨c1, c2⟩, if_pos ⟨c1, by omega, by omega⟩, hv, c2]
      congr 1
      omega
    · rw [if_neg c, h.2.1]
      by_cases c3 : q = 84 ∧ s.1 1 ≤ j ∧ j < s.1 1 + k
      · rw [if_pos c3, if_pos ⟨c3.1, c3.2.1, by omega⟩]
      · rw [if_neg c3, if_neg (fun e => c3 ⟨e.1, e.2.1, by have := e.2.2; have : ¬ j = s.1 1 + k := fun z => c ⟨e.1, z⟩; omega⟩)]
theorem R_feed_lp {dd : Nat} {h0 : E_H} {s : R_S} {sl : Nat} {Φ : E_R → Prop} {a b c w e : Int} (za : Zr a) (zb : Zr b) (zc : Zr c) (zw : Zr w) (ze : Zr e) (t0 : 0 ≤ s.1 1) (t1 : s.1 1 + 20 ≤ 1000) (kont : ∀ (u : R_S) (h : E_H) (k : Int), R_is h0 h u → R_fed s u a b c w e 20 → B_R dd E_m175 (115, [(6, .int (Zi k)), (0, .ref 83), (1, .int (Zi a)), (2, .int (Zi b)), (3, .int (Zi c)), (4, .int (Zi w)), (5, .int (Zi e))], []) h sl Φ) : ∀ (t : Nat) (k : Int) (u : R_S) (h : E_H), 20 - k < t → R_is h0 h u → R_fed s u a b c w e k → 0 ≤ k → k ≤ 20 → B_R dd E_m175 (18, [(6, .int (Zi k)), (0, .ref 83), (1, .int (Zi a)), (2, .int (Zi b)), (3, .int (Zi c)), (4, .int (Zi w)), (5, .int (Zi e))], []) h sl Φ := by
  intro t
  induction t with
  | zero => intro k u h ht hs hu k0 k1; omega
  | succ t ih =>
    intro k u h ht hs hu k0 k1
    have e1 := R_fed_1 hu
    have hp : ∀ x y : Int, 0 ≤ x % 256 ∧ x % 256 < 256 := fun x y => by omega
    refine Z_go (f2 := (20, [(6, .int (Zi k)), (0, .ref 83), (1, .int (Zi a)), (2, .int (Zi b)), (3, .int (Zi c)), (4, .int (Zi w)), (5, .int (Zi e))], [.int (Zi k)])) (fun _ => rfl) ?_
    refine Z_go (f2 := (22, [(6, .int (Zi k)), (0, .ref 83), (1, .int (Zi a)), (2, .int (Zi b)), (3, .int (Zi c)), (4, .int (Zi w)), (5, .int (Zi e))], [.int (Zi 20), .int (Zi k)])) (fun _ => rfl) ?_
    refine Z_cge rfl rfl (by first | exact hs.zF _ | exact Zor_r _ _ | exact hs.zA _ _ | assumption | exact zS _ | exact Zr_not (hs.zA _ _) | exact ⟨by omega, by omega⟩) (by first | exact hs.zF _ | exact Zor_r _ _ | exact hs.zA _ _ | assumption | exact zS _ | exact Zr_not (hs.zA _ _) | exact ⟨by omega, by omega⟩) (fun c1 => ?_) (fun c1 => ?_)
    · have e : k = 20 := by omega
      rw [e] at hu
      exact kont u h k hs hu
    · refine Z_go (f2 := (27, [(6, .int (Zi k)), (0, .ref 83), (1, .int (Zi a)), (2, .int (Zi b)), (3, .int (Zi c)), (4, .int (Zi w)), (5, .int (Zi e))], [.int (Zi k)])) (fun _ => rfl) ?_
      refine Z_go (f2 := (28, [(6, .int (Zi k)), (0, .ref 83), (1, .int (Zi a)), (2, .int (Zi b)), (3, .int (Zi c)), (4, .int (Zi w)), (5, .int (Zi e))], [.int (Zi 4), .int (Zi k)])) (fun _ => rfl) ?_
      refine Z_cge rfl rfl (by first | exact hs.zF _ | exact Zor_r _ _ | exact hs.zA _ _ | assumption | exact zS _ | exact Zr_not (hs.zA _ _) | exact ⟨by omega, by omega⟩) (by first | exact hs.zF _ | exact Zor_r _ _ | exact hs.zA _ _ | assumption | exact zS _ | exact Zr_not (hs.zA _ _) | exact ⟨by omega, by omega⟩) (fun c2 => ?_) (fun c2 => ?_)
      · refine Z_go (f2 := (37, [(6, .int (Zi k)), (0, .ref 83), (1, .int (Zi a)), (2, .int (Zi b)), (3, .int (Zi c)), (4, .int (Zi w)), (5, .int (Zi e))], [.int (Zi k)])) (fun _ => rfl) ?_
        refine Z_go (f2 := (39, [(6, .int (Zi k)), (0, .ref 83), (1, .int (Zi a)), (2, .int (Zi b)), (3, .int (Zi c)), (4, .int (Zi w)), (5, .int (Zi e))], [.int (Zi 8), .int (Zi k)])) (fun _ => rfl) ?_
        refine Z_cge rfl rfl (by first | exact hs.zF _ | exact Zor_r _ _ | exact hs.zA _ _ | assumption | exact zS _ | exact Zr_not (hs.zA _ _) | exact ⟨by omega, by omega⟩) (by first | exact hs.zF _ | exact Zor_r _ _ | exact hs.zA _ _ | assumption | exact zS _ | exact Zr_not (hs.zA _ _) | exact ⟨by omega, by omega⟩) (fun c3 => ?_) (fun c3 => ?_)
        · refine Z_go (f2 := (48, [(6, .int (Zi k)), (0, .ref 83), (1, .int (Zi a)), (2, .int (Zi b)), (3, .int (Zi c)), (4, .int (Zi w)), (5, .int (Zi e))], [.int (Zi k)])) (fun _ => rfl) ?_
          refine Z_go (f2 := (50, [(6, .int (Zi k)), (0, .ref 83), (1, .int (Zi a)), (2, .int (Zi b)), (3, .int (Zi c)), (4, .int (Zi w)), (5, .int (Zi e))], [.int (Zi 12), .int (Zi k)])) (fun _ => rfl) ?_
          refine Z_cge rfl rfl (by first | exact hs.zF _ | exact Zor_r _ _ | exact hs.zA _ _ | assumption | exact zS _ | exact Zr_not (hs.zA _ _) | exact ⟨by omega, by omega⟩) (by first | exact hs.zF _ | exact Zor_r _ _ | exact hs.zA _ _ | assumption | exact zS _ | exact Zr_not (hs.zA _ _) | exact ⟨by omega, by omega⟩) (fun c4 => ?_) (fun c4 => ?_)
          · refine Z_go (f2 := (59, [(6, .int (Zi k)), (0, .ref 83), (1, .int (Zi a)), (2, .int (Zi b)), (3, .int (Zi c)), (4, .int (Zi w)), (5, .int (Zi e))], [.int (Zi k)])) (fun _ => rfl) ?_
            refine Z_go (f2 := (61, [(6, .int (Zi k)), (0, .ref 83), (1, .int (Zi a)), (2, .int (Zi b)), (3, .int (Zi c)), (4, .int (Zi w)), (5, .int (Zi e))], [.int (Zi 16), .int (Zi k)])) (fun _ => rfl) ?_
            refine Z_cge rfl rfl (by first | exact hs.zF _ | exact Zor_r _ _ | exact hs.zA _ _ | assumption | exact zS _ | exact Zr_not (hs.zA _ _) | exact ⟨by omega, by omega⟩) (by first | exact hs.zF _ | exact Zor_r _ _ | exact hs.zA _ _ | assumption | exact zS _ | exact Zr_not (hs.zA _ _) | exact ⟨by omega, by omega⟩) (fun c5 => ?_) (fun c5 => ?_)
            · refine Z_go (f2 := (71, [(6, .int (Zi k)), (0, .ref 83), (1, .int (Zi a)), (2, .int (Zi b)), (3, .int (Zi c)), (4, .int (Zi w)), (5, .int (Zi e))], [.int (Zi e)])) (fun _ => rfl) ?_
              refine Z_go (f2 := (73, [(7, .int (Zi e)), (6, .int (Zi k)), (0, .ref 83), (1, .int (Zi a)), (2, .int (Zi b)), (3, .int (Zi c)), (4, .int (Zi w)), (5, .int (Zi e))], [])) (fun _ => rfl) ?_
              refine Z_go (f2 := (74, [(7, .int (Zi e)), (6, .int (Zi k)), (0, .ref 83), (1, .int (Zi a)), (2, .int (Zi b)), (3, .int (Zi c)), (4, .int (Zi w)), (5, .int (Zi e))], [.ref 83])) (fun _ => rfl) ?_
              refine R_gr (q := 82) rfl hs rfl ?_
              show B_R _ _ (77, [(7, .int (Zi e)), (6, .int (Zi k)), (0, .ref 83), (1, .int (Zi a)), (2, .int (Zi b)), (3, .int (Zi c)), (4, .int (Zi w)), (5, .int (Zi e))], [.ref 84]) _ _ _
              refine Z_go (f2 := (78, [(7, .int (Zi e)), (6, .int (Zi k)), (0, .ref 83), (1, .int (Zi a)), (2, .int (Zi b)), (3, .int (Zi c)), (4, .int (Zi w)), (5, .int (Zi e))], [.ref 83, .ref 84])) (fun _ => rfl) ?_
              refine R_gi rfl hs rfl ?_
              show B_R _ _ (81, [(7, .int (Zi e)), (6, .int (Zi k)), (0, .ref 83), (1, .int (Zi a)), (2, .int (Zi b)), (3, .int (Zi c)), (4, .int (Zi w)), (5, .int (Zi e))], [.int (Zi (u.1 1)), .ref 84]) _ _ _
              refine Z_go (f2 := (83, [(7, .int (Zi e)), (6, .int (Zi k)), (0, .ref 83), (1, .int (Zi a)), (2, .int (Zi b)), (3, .int (Zi c)), (4, .int (Zi w)), (5, .int (Zi e))], [.int (Zi e), .int (Zi (u.1 1)), .ref 84])) (fun _ => rfl) ?_
              refine Z_go (f2 := (85, [(7, .int (Zi e)), (6, .int (Zi k)), (0, .ref 83), (1, .int (Zi a)), (2, .int (Zi b)), (3, .int (Zi c)), (4, .int (Zi w)), (5, .int (Zi e))], [.int (Zi 24), .int (Zi e), .int (Zi (u.1 1)), .ref 84])) (fun _ => rfl) ?_
              refine Z_go (f2 := (87, [(7, .int (Zi e)), (6, .int (Zi k)), (0, .ref 83), (1, .int (Zi a)), (2, .int (Zi b)), (3, .int (Zi c)), (4, .int (Zi w)), (5, .int (Zi e))], [.int (Zi 8), .int (Zi 24), .int (Zi e), .int (Zi (u.1 1)), .ref 84])) (fun _ => rfl) ?_
              refine Z_go (f2 := (89, [(7, .int (Zi e)), (6, .int (Zi k)), (0, .ref 83), (1, .int (Zi a)), (2, .int (Zi b)), (3, .int (Zi c)), (4, .int (Zi w)), (5, .int (Zi e))], [.int (Zi k), .int (Zi 8), .int (Zi 24), .int (Zi e), .int (Zi (u.1 1)), .ref 84])) (fun _ => rfl) ?_
              refine Z_go (f2 := (90, [(7, .int (Zi e)), (6, .int (Zi k)), (0, .ref 83), (1, .int (Zi a)), (2, .int (Zi b)), (3, .int (Zi c)), (4, .int (Zi w)), (5, .int (Zi e))], [.int (Zi 4), .int (Zi k), .int (Zi 8), .int (Zi 24), .int (Zi e), .int (Zi (u.1 1)), .ref 84])) (fun _ => rfl) ?_
              refine Z_irem rfl (by omega) (by omega) (by omega) (by omega) ?_
              refine Z_imul rfl ?_
              refine Z_isub rfl ?_
              refine Z_ishr rfl (by first | exact hs.zF _ | exact Zor_r _ _ | exact hs.zA _ _ | assumption | exact zS _ | exact Zr_not (hs.zA _ _) | exact ⟨by omega, by omega⟩) (by omega) (by omega) (p := 2 ^ (24 - (8 * (k % 4))).toNat) (by rfl) ?_
              refine Z_go (f2 := (97, [(7, .int (Zi e)), (6, .int (Zi k)), (0, .ref 83), (1, .int (Zi a)), (2, .int (Zi b)), (3, .int (Zi c)), (4, .int (Zi w)), (5, .int (Zi e))], [.int (Zi 255), .int (Zi (e / (2 ^ (24 - (8 * (k % 4))).toNat))), .int (Zi (u.1 1)), .ref 84])) (fun _ => rfl) ?_
              refine Z_and255 rfl ?_
              refine R_is_ (q := 0) rfl hs rfl rfl (by omega) (by omega) (by decide) (by first | exact hs.zF _ | exact Zor_r _ _ | exact hs.zA _ _ | assumption | exact zS _ | exact Zr_not (hs.zA _ _) | exact ⟨by omega, by omega⟩) (fun h hs => ?_)
              refine Z_go (f2 := (100, [(7, .int (Zi e)), (6, .int (Zi k)), (0, .ref 83), (1, .int (Zi a)), (2, .int (Zi b)), (3, .int (Zi c)), (4, .int (Zi w)), (5, .int (Zi e))], [.ref 83])) (fun _ => rfl) ?_
              refine Z_go (f2 := (101, [(7, .int (Zi e)), (6, .int (Zi k)), (0, .ref 83), (1, .int (Zi a)), (2, .int (Zi b)), (3, .int (Zi c)), (4, .int (Zi w)), (5, .int (Zi e))], [.ref 83, .ref 83])) (fun _ => rfl) ?_
              refine R_gi rfl hs rfl ?_
              show B_R _ _ (104, [(7, .int (Zi e)), (6, .int (Zi k)), (0, .ref 83), (1, .int (Zi a)), (2, .int (Zi b)), (3, .int (Zi c)), (4, .int (Zi w)), (5, .int (Zi e))], [.int (Zi (u.1 1)), .ref 83]) _ _ _
              refine Z_go (f2 := (105, [(7, .int (Zi e)), (6, .int (Zi k)), (0, .ref 83), (1, .int (Zi a)), (2, .int (Zi b)), (3, .int (Zi c)), (4, .int (Zi w)), (5, .int (Zi e))], [.int (Zi 1), .int (Zi (u.1 1)), .ref 83])) (fun _ => rfl) ?_
              refine Z_iadd rfl ?_
              refine R_pf rfl hs rfl (by first | exact hs.zF _ | exact Zor_r _ _ | exact hs.zA _ _ | assumption | exact zS _ | exact Zr_not (hs.zA _ _) | exact ⟨by omega, by omega⟩) ⟨rfl, rfl, rfl⟩ (fun h hs => ?_)
              refine Z_iinc (L2 := [(6, .int (Zi (k + 1))), (7, .int (Zi e)), (0, .ref 83), (1, .int (Zi a)), (2, .int (Zi b)), (3, .int (Zi c)), (4, .int (Zi w)), (5, .int (Zi e))]) rfl rfl (by decide) rfl ?_
              refine Z_go (f2 := (18, [(6, .int (Zi (k + 1))), (7, .int (Zi e)), (0, .ref 83), (1, .int (Zi a)), (2, .int (Zi b)), (3, .int (Zi c)), (4, .int (Zi w)), (5, .int (Zi e))], [])) (fun _ => rfl) ?_
              refine B_loc (K := [(6, .int (Zi (k + 1))), (0, .ref 83), (1, .int (Zi a)), (2, .int (Zi b)), (3, .int (Zi c)), (4, .int (Zi w)), (5, .int (Zi e))]) (N_all_sub ⟨rfl, rfl, rfl, rfl, rfl, rfl, rfl, trivial⟩) (show ([6, 0, 1, 2, 3, 4, 5] : List Nat).Nodup by decide) ?_
              exact ih _ _ _ (by omega) hs (R_fed_st hu k0 (by unfold D_fb; simp only [if_neg (show ¬ k < 4 by omega), if_neg (show ¬ k < 8 by omega), if_neg (show ¬ k < 12 by omega), if_neg (show ¬ k < 16 by omega)])) (by omega) (by omega)
            · refine Z_go (f2 := (66, [(6, .int (Zi k)), (0, .ref 83), (1, .int (Zi a)), (2, .int (Zi b)), (3, .int (Zi c)), (4, .int (Zi w)), (5, .int (Zi e))], [.int (Zi w)])) (fun _ => rfl) ?_
              refine Z_go (f2 := (71, [(6, .int (Zi k)), (0, .ref 83), (1, .int (Zi a)), (2, .int (Zi b)), (3, .int (Zi c)), (4, .int (Zi w)), (5, .int (Zi e))], [.int (Zi w)])) (fun _ => rfl) ?_
              refine Z_go (f2 := (73, [(7, .int (Zi w)), (6, .int (Zi k)), (0, .ref 83), (1, .int (Zi a)), (2, .int (Zi b)), (3, .int (Zi c)), (4, .int (Zi w)), (5, .int (Zi e))], [])) (fun _ => rfl) ?_
              refine Z_go (f2 := (74, [(7, .int (Zi w)), (6, .int (Zi k)), (0, .ref 83), (1, .int (Zi a)), (2, .int (Zi b)), (3, .int (Zi c)), (4, .int (Zi w)), (5, .int (Zi e))], [.ref 83])) (fun _ => rfl) ?_
              refine R_gr (q := 82) rfl hs rfl ?_
              show B_R _ _ (77, [(7, .int (Zi w)), (6, .int (Zi k)), (0, .ref 83), (1, .int (Zi a)), (2, .int (Zi b)), (3, .int (Zi c)), (4, .int (Zi w)), (5, .int (Zi e))], [.ref 84]) _ _ _
              refine Z_go (f2 := (78, [(7, .int (Zi w)), (6, .int (Zi k)), (0, .ref 83), (1, .int (Zi a)), (2, .int (Zi b)), (3, .int (Zi c)), (4, .int (Zi w)), (5, .int (Zi e))], [.ref 83, .ref 84])) (fun _ => rfl) ?_
              refine R_gi rfl hs rfl ?_
              show B_R _ _ (81, [(7, .int (Zi w)), (6, .int (Zi k)), (0, .ref 83), (1, .int (Zi a)), (2, .int (Zi b)), (3, .int (Zi c)), (4, .int (Zi w)), (5, .int (Zi e))], [.int (Zi (u.1 1)), .ref 84]) _ _ _
              refine Z_go (f2 := (83, [(7, .int (Zi w)), (6, .int (Zi k)), (0, .ref 83), (1, .int (Zi a)), (2, .int (Zi b)), (3, .int (Zi c)), (4, .int (Zi w)), (5, .int (Zi e))], [.int (Zi w), .int (Zi (u.1 1)), .ref 84])) (fun _ => rfl) ?_
              refine Z_go (f2 := (85, [(7, .int (Zi w)), (6, .int (Zi k)), (0, .ref 83), (1, .int (Zi a)), (2, .int (Zi b)), (3, .int (Zi c)), (4, .int (Zi w)), (5, .int (Zi e))], [.int (Zi 24), .int (Zi w), .int (Zi (u.1 1)), .ref 84])) (fun _ => rfl) ?_
              refine Z_go (f2 := (87, [(7, .int (Zi w)), (6, .int (Zi k)), (0, .ref 83), (1, .int (Zi a)), (2, .int (Zi b)), (3, .int (Zi c)), (4, .int (Zi w)), (5, .int (Zi e))], [.int (Zi 8), .int (Zi 24), .int (Zi w), .int (Zi (u.1 1)), .ref 84])) (fun _ => rfl) ?_
              refine Z_go (f2 := (89, [(7, .int (Zi w)), (6, .int (Zi k)), (0, .ref 83), (1, .int (Zi a)), (2, .int (Zi b)), (3, .int (Zi c)), (4, .int (Zi w)), (5, .int (Zi e))], [.int (Zi k), .int (Zi 8), .int (Zi 24), .int (Zi w), .int (Zi (u.1 1)), .ref 84])) (fun _ => rfl) ?_
              refine Z_go (f2 := (90, [(7, .int (Zi w)), (6, .int (Zi k)), (0, .ref 83), (1, .int (Zi a)), (2, .int (Zi b)), (3, .int (Zi c)), (4, .int (Zi w)), (5, .int (Zi e))], [.int (Zi 4), .int (Zi k), .int (Zi 8), .int (Zi 24), .int (Zi w), .int (Zi (u.1 1)), .ref 84])) (fun _ => rfl) ?_
              refine Z_irem rfl (by omega) (by omega) (by omega) (by omega) ?_
              refine Z_imul rfl ?_
              refine Z_isub rfl ?_
              refine Z_ishr rfl (by first | exact hs.zF _ | exact Zor_r _ _ | exact hs.zA _ _ | assumption | exact zS _ | exact Zr_not (hs.zA _ _) | exact ⟨by omega, by omega⟩) (by omega) (by omega) (p := 2 ^ (24 - (8 * (k % 4))).toNat) (by rfl) ?_
              refine Z_go (f2 := (97, [(7, .int (Zi w)), (6, .int (Zi k)), (0, .ref 83), (1, .int (Zi a)), (2, .int (Zi b)), (3, .int (Zi c)), (4, .int (Zi w)), (5, .int (Zi e))], [.int (Zi 255), .int (Zi (w / (2 ^ (24 - (8 * (k % 4))).toNat))), .int (Zi (u.1 1)), .ref 84])) (fun _ => rfl) ?_
              refine Z_and255 rfl ?_
              refine R_is_ (q := 0) rfl hs rfl rfl (by omega) (by omega) (by decide) (by first | exact hs.zF _ | exact Zor_r _ _ | exact hs.zA _ _ | assumption | exact zS _ | exact Zr_not (hs.zA _ _) | exact ⟨by omega, by omega⟩) (fun h hs => ?_)
              refine Z_go (f2 := (100, [(7, .int (Zi w)), (6, .int (Zi k)), (0, .ref 83), (1, .int (Zi a)), (2, .int (Zi b)), (3, .int (Zi c)), (4, .int (Zi w)), (5, .int (Zi e))], [.ref 83])) (fun _ => rfl) ?_
              refine Z_go (f2 := (101, [(7, .int (Zi w)), (6, .int (Zi k)), (0, .ref 83), (1, .int (Zi a)), (2, .int (Zi b)), (3, .int (Zi c)), (4, .int (Zi w)), (5, .int (Zi e))], [.ref 83, .ref 83])) (fun _ => rfl) ?_
              refine R_gi rfl hs rfl ?_
              show B_R _ _ (104, [(7, .int (Zi w)), (6, .int (Zi k)), (0, .ref 83), (1, .int (Zi a)), (2, .int (Zi b)), (3, .int (Zi c)), (4, .int (Zi w)), (5, .int (Zi e))], [.int (Zi (u.1 1)), .ref 83]) _ _ _
              refine Z_go (f2 := (105, [(7, .int (Zi w)), (6, .int (Zi k)), (0, .ref 83), (1, .int (Zi a)), (2, .int (Zi b)), (3, .int (Zi c)), (4, .int (Zi w)), (5, .int (Zi e))], [.int (Zi 1), .int (Zi (u.1 1)), .ref 83])) (fun _ => rfl) ?_
              refine Z_iadd rfl ?_
              refine R_pf rfl hs rfl (by first | exact hs.zF _ | exact Zor_r _ _ | exact hs.zA _ _ | assumption | exact zS _ | exact Zr_not (hs.zA _ _) | exact ⟨by omega, by omega⟩) ⟨rfl, rfl, rfl⟩ (fun h hs => ?_)
              refine Z_iinc (L2 := [(6, .int (Zi (k + 1))), (7, .int (Zi w)), (0, .ref 83), (1, .int (Zi a)), (2, .int (Zi b)), (3, .int (Zi c)), (4, .int (Zi w)), (5, .int (Zi e))]) rfl rfl (by decide) rfl ?_
              refine Z_go (f2 := (18, [(6, .int (Zi (k + 1))), (7, .int (Zi w)), (0, .ref 83), (1, .int (Zi a)), (2, .int (Zi b)), (3, .int (Zi c)), (4, .int (Zi w)), (5, .int (Zi e))], [])) (fun _ => rfl) ?_
              refine B_loc (K := [(6, .int (Zi (k + 1))), (0, .ref 83), (1, .int (Zi a)), (2, .int (Zi b)), (3, .int (Zi c)), (4, .int (Zi w)), (5, .int (Zi e))]) (N_all_sub ⟨rfl, rfl, rfl, rfl, rfl, rfl, rfl, trivial⟩) (show ([6, 0, 1, 2, 3, 4, 5] : List Nat).Nodup by decide) ?_
              exact ih _ _ _ (by omega) hs (R_fed_st hu k0 (by unfold D_fb; simp only [if_neg (show ¬ k < 4 by omega), if_neg (show ¬ k < 8 by omega), if_neg (show ¬ k < 12 by omega), if_pos c5])) (by omega) (by omega)
          · refine Z_go (f2 := (54, [(6, .int (Zi k)), (0, .ref 83), (1, .int (Zi a)), (2, .int (Zi b)), (3, .int (Zi c)), (4, .int (Zi w)), (5, .int (Zi e))], [.int (Zi c)])) (fun _ => rfl) ?_
            refine Z_go (f2 := (71, [(6, .int (Zi k)), (0, .ref 83), (1, .int (Zi a)), (2, .int (Zi b)), (3, .int (Zi c)), (4, .int (Zi w)), (5, .int (Zi e))], [.int (Zi c)])) (fun _ => rfl) ?_
            refine Z_go (f2 := (73, [(7, .int (Zi c)), (6, .int (Zi k)), (0, .ref 83), (1, .int (Zi a)), (2, .int (Zi b)), (3, .int (Zi c)), (4, .int (Zi w)), (5, .int (Zi e))], [])) (fun _ => rfl) ?_
            refine Z_go (f2 := (74, [(7, .int (Zi c)), (6, .int (Zi k)), (0, .ref 83), (1, .int (Zi a)), (2, .int (Zi b)), (3, .int (Zi c)), (4, .int (Zi w)), (5, .int (Zi e))], [.ref 83])) (fun _ => rfl) ?_
            refine R_gr (q := 82) rfl hs rfl ?_
            show B_R _ _ (77, [(7, .int (Zi c)), (6, .int (Zi k)), (0, .ref 83), (1, .int (Zi a)), (2, .int (Zi b)), (3, .int (Zi c)), (4, .int (Zi w)), (5, .int (Zi e))], [.ref 84]) _ _ _
            refine Z_go (f2 := (78, [(7, .int (Zi c)), (6, .int (Zi k)), (0, .ref 83), (1, .int (Zi a)), (2, .int (Zi b)), (3, .int (Zi c)), (4, .int (Zi w)), (5, .int (Zi e))], [.ref 83, .ref 84])) (fun _ => rfl) ?_
            refine R_gi rfl hs rfl ?_
            show B_R _ _ (81, [(7, .int (Zi c)), (6, .int (Zi k)), (0, .ref 83), (1, .int (Zi a)), (2, .int (Zi b)), (3, .int (Zi c)), (4, .int (Zi w)), (5, .int (Zi e))], [.int (Zi (u.1 1)), .ref 84]) _ _ _
            refine Z_go (f2 := (83, [(7, .int (Zi c)), (6, .int (Zi k)), (0, .ref 83), (1, .int (Zi a)), (2, .int (Zi b)), (3, .int (Zi c)), (4, .int (Zi w)), (5, .int (Zi e))], [.int (Zi c), .int (Zi (u.1 1)), .ref 84])) (fun _ => rfl) ?_
            refine Z_go (f2 := (85, [(7, .int (Zi c)), (6, .int (Zi k)), (0, .ref 83), (1, .int (Zi a)), (2, .int (Zi b)), (3, .int (Zi c)), (4, .int (Zi w)), (5, .int (Zi e))], [.int (Zi 24), .int (Zi c), .int (Zi (u.1 1)), .ref 84])) (fun _ => rfl) ?_
            refine Z_go (f2 := (87, [(7, .int (Zi c)), (6, .int (Zi k)), (0, .ref 83), (1, .int (Zi a)), (2, .int (Zi b)), (3, .int (Zi c)), (4, .int (Zi w)), (5, .int (Zi e))], [.int (Zi 8), .int (Zi 24), .int (Zi c), .int (Zi (u.1 1)), .ref 84])) (fun _ => rfl) ?_
            refine Z_go (f2 := (89, [(7, .int (Zi c)), (6, .int (Zi k)), (0, .ref 83), (1, .int (Zi a)), (2, .int (Zi b)), (3, .int (Zi c)), (4, .int (Zi w)), (5, .int (Zi e))], [.int (Zi k), .int (Zi 8), .int (Zi 24), .int (Zi c), .int (Zi (u.1 1)), .ref 84])) (fun _ => rfl) ?_
            refine Z_go (f2 := (90, [(7, .int (Zi c)), (6, .int (Zi k)), (0, .ref 83), (1, .int (Zi a)), (2, .int (Zi b)), (3, .int (Zi c)), (4, .int (Zi w)), (5, .int (Zi e))], [.int (Zi 4), .int (Zi k), .int (Zi 8), .int (Zi 24), .int (Zi c), .int (Zi (u.1 1)), .ref 84])) (fun _ => rfl) ?_
            refine Z_irem rfl (by omega) (by omega) (by omega) (by omega) ?_
            refine Z_imul rfl ?_
            refine Z_isub rfl ?_
            refine Z_ishr rfl (by first | exact hs.zF _ | exact Zor_r _ _ | exact hs.zA _ _ | assumption | exact zS _ | exact Zr_not (hs.zA _ _) | exact ⟨by omega, by omega⟩) (by omega) (by omega) (p := 2 ^ (24 - (8 * (k % 4))).toNat) (by rfl) ?_
            refine Z_go (f2 := (97, [(7, .int (Zi c)), (6, .int (Zi k)), (0, .ref 83), (1, .int (Zi a)), (2, .int (Zi b)), (3, .int (Zi c)), (4, .int (Zi w)), (5, .int (Zi e))], [.int (Zi 255), .int (Zi (c / (2 ^ (24 - (8 * (k % 4))).toNat))), .int (Zi (u.1 1)), .ref 84])) (fun _ => rfl) ?_
            refine Z_and255 rfl ?_
            refine R_is_ (q := 0) rfl hs rfl rfl (by omega) (by omega) (by decide) (by first | exact hs.zF _ | exact Zor_r _ _ | exact hs.zA _ _ | assumption | exact zS _ | exact Zr_not (hs.zA _ _) | exact ⟨by omega, by omega⟩) (fun h hs => ?_)
            refine Z_go (f2 := (100, [(7, .int (Zi c)), (6, .int (Zi k)), (0, .ref 83), (1, .int (Zi a)), (2, .int (Zi b)), (3, .int (Zi c)), (4, .int (Zi w)), (5, .int (Zi e))], [.ref 83])) (fun _ => rfl) ?_
            refine Z_go (f2 := (101, [(7, .int (Zi c)), (6, .int (Zi k)), (0, .ref 83), (1, .int (Zi a)), (2, .int (Zi b)), (3, .int (Zi c)), (4, .int (Zi w)), (5, .int (Zi e))], [.ref 83, .ref 83])) (fun _ => rfl) ?_
            refine R_gi rfl hs rfl ?_
            show B_R _ _ (104, [(7, .int (Zi c)), (6, .int (Zi k)), (0, .ref 83), (1, .int (Zi a)), (2, .int (Zi b)), (3, .int (Zi c)), (4, .int (Zi w)), (5, .int (Zi e))], [.int (Zi (u.1 1)), .ref 83]) _ _ _
            refine Z_go (f2 := (105, [(7, .int (Zi c)), (6, .int (Zi k)), (0, .ref 83), (1, .int (Zi a)), (2, .int (Zi b)), (3, .int (Zi c)), (4, .int (Zi w)), (5, .int (Zi e))], [.int (Zi 1), .int (Zi (u.1 1)), .ref 83])) (fun _ => rfl) ?_
            refine Z_iadd rfl ?_
            refine R_pf rfl hs rfl (by first | exact hs.zF _ | exact Zor_r _ _ | exact hs.zA _ _ | assumption | exact zS _ | exact Zr_not (hs.zA _ _) | exact ⟨by omega, by omega⟩) ⟨rfl, rfl, rfl⟩ (fun h hs => ?_)
            refine Z_iinc (L2 := [(6, .int (Zi (k + 1))), (7, .int (Zi c)), (0, .ref 83), (1, .int (Zi a)), (2, .int (Zi b)), (3, .int (Zi c)), (4, .int (Zi w)), (5, .int (Zi e))]) rfl rfl (by decide) rfl ?_
            refine Z_go (f2 := (18, [(6, .int (Zi (k + 1))), (7, .int (Zi c)), (0, .ref 83), (1, .int (Zi a)), (2, .int (Zi b)), (3, .int (Zi c)), (4, .int (Zi w)), (5, .int (Zi e))], [])) (fun _ => rfl) ?_
            refine B_loc (K := [(6, .int (Zi (k + 1))), (0, .ref 83), (1, .int (Zi a)), (2, .int (Zi b)), (3, .int (Zi c)), (4, .int (Zi w)), (5, .int (Zi e))]) (N_all_sub ⟨rfl, rfl, rfl, rfl, rfl, rfl, rfl, trivial⟩) (show ([6, 0, 1, 2, 3, 4, 5] : List Nat).Nodup by decide) ?_
            exact ih _ _ _ (by omega) hs (R_fed_st hu k0 (by unfold D_fb; simp only [if_neg (show ¬ k < 4 by omega), if_neg (show ¬ k < 8 by omega), if_pos c4])) (by omega) (by omega)
        · refine Z_go (f2 := (43, [(6, .int (Zi k)), (0, .ref 83), (1, .int (Zi a)), (2, .int (Zi b)), (3, .int (Zi c)), (4, .int (Zi w)), (5, .int (Zi e))], [.int (Zi b)])) (fun _ => rfl) ?_
          refine Z_go (f2 := (71, [(6, .int (Zi k)), (0, .ref 83), (1, .int (Zi a)), (2, .int (Zi b)), (3, .int (Zi c)), (4, .int (Zi w)), (5, .int (Zi e))], [.int (Zi b)])) (fun _ => rfl) ?_
          refine Z_go (f2 := (73, [(7, .int (Zi b)), (6, .int (Zi k)), (0, .ref 83), (1, .int (Zi a)), (2, .int (Zi b)), (3, .int (Zi c)), (4, .int (Zi w)), (5, .int (Zi e))], [])) (fun _ => rfl) ?_
          refine Z_go (f2 := (74, [(7, .int (Zi b)), (6, .int (Zi k)), (0, .ref 83), (1, .int (Zi a)), (2, .int (Zi b)), (3, .int (Zi c)), (4, .int (Zi w)), (5, .int (Zi e))], [.ref 83])) (fun _ => rfl) ?_
          refine R_gr (q := 82) rfl hs rfl ?_
          show B_R _ _ (77, [(7, .int (Zi b)), (6, .int (Zi k)), (0, .ref 83), (1, .int (Zi a)), (2, .int (Zi b)), (3, .int (Zi c)), (4, .int (Zi w)), (5, .int (Zi e))], [.ref 84]) _ _ _
          refine Z_go (f2 := (78, [(7, .int (Zi b)), (6, .int (Zi k)), (0, .ref 83), (1, .int (Zi a)), (2, .int (Zi b)), (3, .int (Zi c)), (4, .int (Zi w)), (5, .int (Zi e))], [.ref 83, .ref 84])) (fun _ => rfl) ?_
          refine R_gi rfl hs rfl ?_
          show B_R _ _ (81, [(7, .int (Zi b)), (6, .int (Zi k)), (0, .ref 83), (1, .int (Zi a)), (2, .int (Zi b)), (3, .int (Zi c)), (4, .int (Zi w)), (5, .int (Zi e))], [.int (Zi (u.1 1)), .ref 84]) _ _ _
          refine Z_go (f2 := (83, [(7, .int (Zi b)), (6, .int (Zi k)), (0, .ref 83), (1, .int (Zi a)), (2, .int (Zi b)), (3, .int (Zi c)), (4, .int (Zi w)), (5, .int (Zi e))], [.int (Zi b), .int (Zi (u.1 1)), .ref 84])) (fun _ => rfl) ?_
          refine Z_go (f2 := (85, [(7, .int (Zi b)), (6, .int (Zi k)), (0, .ref 83), (1, .int (Zi a)), (2, .int (Zi b)), (3, .int (Zi c)), (4, .int (Zi w)), (5, .int (Zi e))], [.int (Zi 24), .int (Zi b), .int (Zi (u.1 1)), .ref 84])) (fun _ => rfl) ?_
          refine Z_go (f2 := (87, [(7, .int (Zi b)), (6, .int (Zi k)), (0, .ref 83), (1, .int (Zi a)), (2, .int (Zi b)), (3, .int (Zi c)), (4, .int (Zi w)), (5, .int (Zi e))], [.int (Zi 8), .int (Zi 24), .int (Zi b), .int (Zi (u.1 1)), .ref 84])) (fun _ => rfl) ?_
          refine Z_go (f2 := (89, [(7, .int (Zi b)), (6, .int (Zi k)), (0, .ref 83), (1, .int (Zi a)), (2, .int (Zi b)), (3, .int (Zi c)), (4, .int (Zi w)), (5, .int (Zi e))], [.int (Zi k), .int (Zi 8), .int (Zi 24), .int (Zi b), .int (Zi (u.1 1)), .ref 84])) (fun _ => rfl) ?_
          refine Z_go (f2 := (90, [(7, .int (Zi b)), (6, .int (Zi k)), (0, .ref 83), (1, .int (Zi a)), (2, .int (Zi b)), (3, .int (Zi c)), (4, .int (Zi w)), (5, .int (Zi e))], [.int (Zi 4), .int (Zi k), .int (Zi 8), .int (Zi 24), .int (Zi b), .int (Zi (u.1 1)), .ref 84])) (fun _ => rfl) ?_
          refine Z_irem rfl (by omega) (by omega) (by omega) (by omega) ?_
          refine Z_imul rfl ?_
          refine Z_isub rfl ?_
          refine Z_ishr rfl (by first | exact hs.zF _ | exact Zor_r _ _ | exact hs.zA _ _ | assumption | exact zS _ | exact Zr_not (hs.zA _ _) | exact ⟨by omega, by omega⟩) (by omega) (by omega) (p := 2 ^ (24 - (8 * (k % 4))).toNat) (by rfl) ?_
          refine Z_go (f2 := (97, [(7, .int (Zi b)), (6, .int (Zi k)), (0, .ref 83), (1, .int (Zi a)), (2, .int (Zi b)), (3, .int (Zi c)), (4, .int (Zi w)), (5, .int (Zi e))], [.int (Zi 255), .int (Zi (b / (2 ^ (24 - (8 * (k % 4))).toNat))), .int (Zi (u.1 1)), .ref 84])) (fun _ => rfl) ?_
          refine Z_and255 rfl ?_
          refine R_is_ (q := 0) rfl hs rfl rfl (by omega) (by omega) (by decide) (by first | exact hs.zF _ | exact Zor_r _ _ | exact hs.zA _ _ | assumption | exact zS _ | exact Zr_not (hs.zA _ _) | exact ⟨by omega, by omega⟩) (fun h hs => ?_)
          refine Z_go (f2 := (100, [(7, .int (Zi b)), (6, .int (Zi k)), (0, .ref 83), (1, .int (Zi a)), (2, .int (Zi b)), (3, .int (Zi c)), (4, .int (Zi w)), (5, .int (Zi e))], [.ref 83])) (fun _ => rfl) ?_
          refine Z_go (f2 := (101, [(7, .int (Zi b)), (6, .int (Zi k)), (0, .ref 83), (1, .int (Zi a)), (2, .int (Zi b)), (3, .int (Zi c)), (4, .int (Zi w)), (5, .int (Zi e))], [.ref 83, .ref 83])) (fun _ => rfl) ?_
          refine R_gi rfl hs rfl ?_
          show B_R _ _ (104, [(7, .int (Zi b)), (6, .int (Zi k)), (0, .ref 83), (1, .int (Zi a)), (2, .int (Zi b)), (3, .int (Zi c)), (4, .int (Zi w)), (5, .int (Zi e))], [.int (Zi (u.1 1)), .ref 83]) _ _ _
          refine Z_go (f2 := (105, [(7, .int (Zi b)), (6, .int (Zi k)), (0, .ref 83), (1, .int (Zi a)), (2, .int (Zi b)), (3, .int (Zi c)), (4, .int (Zi w)), (5, .int (Zi e))], [.int (Zi 1), .int (Zi (u.1 1)), .ref 83])) (fun _ => rfl) ?_
          refine Z_iadd rfl ?_
          refine R_pf rfl hs rfl (by first | exact hs.zF _ | exact Zor_r _ _ | exact hs.zA _ _ | assumption | exact zS _ | exact Zr_not (hs.zA _ _) | exact ⟨by omega, by omega⟩) ⟨rfl, rfl, rfl⟩ (fun h hs => ?_)
          refine Z_iinc (L2 := [(6, .int (Zi (k + 1))), (7, .int (Zi b)), (0, .ref 83), (1, .int (Zi a)), (2, .int (Zi b)), (3, .int (Zi c)), (4, .int (Zi w)), (5, .int (Zi e))]) rfl rfl (by decide) rfl ?_
          refine Z_go (f2 := (18, [(6, .int (Zi (k + 1))), (7, .int (Zi b)), (0, .ref 83), (1, .int (Zi a)), (2, .int (Zi b)), (3, .int (Zi c)), (4, .int (Zi w)), (5, .int (Zi e))], [])) (fun _ => rfl) ?_
          refine B_loc (K := [(6, .int (Zi (k + 1))), (0, .ref 83), (1, .int (Zi a)), (2, .int (Zi b)), (3, .int (Zi c)), (4, .int (Zi w)), (5, .int (Zi e))]) (N_all_sub ⟨rfl, rfl, rfl, rfl, rfl, rfl, rfl, trivial⟩) (show ([6, 0, 1, 2, 3, 4, 5] : List Nat).Nodup by decide) ?_
          exact ih _ _ _ (by omega) hs (R_fed_st hu k0 (by unfold D_fb; simp only [if_neg (show ¬ k < 4 by omega), if_pos c3])) (by omega) (by omega)
      · refine Z_go (f2 := (32, [(6, .int (Zi k)), (0, .ref 83), (1, .int (Zi a)), (2, .int (Zi b)), (3, .int (Zi c)), (4, .int (Zi w)), (5, .int (Zi e))], [.int (Zi a)])) (fun _ => rfl) ?_
        refine Z_go (f2 := (71, [(6, .int (Zi k)), (0, .ref 83), (1, .int (Zi a)), (2, .int (Zi b)), (3, .int (Zi c)), (4, .int (Zi w)), (5, .int (Zi e))], [.int (Zi a)])) (fun _ => rfl) ?_
        refine Z_go (f2 := (73, [(7, .int (Zi a)), (6, .int (Zi k)), (0, .ref 83), (1, .int (Zi a)), (2, .int (Zi b)), (3, .int (Zi c)), (4, .int (Zi w)), (5, .int (Zi e))], [])) (fun _ => rfl) ?_
        refine Z_go (f2 := (74, [(7, .int (Zi a)), (6, .int (Zi k)), (0, .ref 83), (1, .int (Zi a)), (2, .int (Zi b)), (3, .int (Zi c)), (4, .int (Zi w)), (5, .int (Zi e))], [.ref 83])) (fun _ => rfl) ?_
        refine R_gr (q := 82) rfl hs rfl ?_
        show B_R _ _ (77, [(7, .int (Zi a)), (6, .int (Zi k)), (0, .ref 83), (1, .int (Zi a)), (2, .int (Zi b)), (3, .int (Zi c)), (4, .int (Zi w)), (5, .int (Zi e))], [.ref 84]) _ _ _
        refine Z_go (f2 := (78, [(7, .int (Zi a)), (6, .int (Zi k)), (0, .ref 83), (1, .int (Zi a)), (2, .int (Zi b)), (3, .int (Zi c)), (4, .int (Zi w)), (5, .int (Zi e))], [.ref 83, .ref 84])) (fun _ => rfl) ?_
        refine R_gi rfl hs rfl ?_
        show B_R _ _ (81, [(7, .int (Zi a)), (6, .int (Zi k)), (0, .ref 83), (1, .int (Zi a)), (2, .int (Zi b)), (3, .int (Zi c)), (4, .int (Zi w)), (5, .int (Zi e))], [.int (Zi (u.1 1)), .ref 84]) _ _ _
        refine Z_go (f2 := (83, [(7, .int (Zi a)), (6, .int (Zi k)), (0, .ref 83), (1, .int (Zi a)), (2, .int (Zi b)), (3, .int (Zi c)), (4, .int (Zi w)), (5, .int (Zi e))], [.int (Zi a), .int (Zi (u.1 1)), .ref 84])) (fun _ => rfl) ?_
        refine Z_go (f2 := (85, [(7, .int (Zi a)), (6, .int (Zi k)), (0, .ref 83), (1, .int (Zi a)), (2, .int (Zi b)), (3, .int (Zi c)), (4, .int (Zi w)), (5, .int (Zi e))], [.int (Zi 24), .int (Zi a), .int (Zi (u.1 1)), .ref 84])) (fun _ => rfl) ?_
        refine Z_go (f2 := (87, [(7, .int (Zi a)), (6, .int (Zi k)), (0, .ref 83), (1, .int (Zi a)), (2, .int (Zi b)), (3, .int (Zi c)), (4, .int (Zi w)), (5, .int (Zi e))], [.int (Zi 8), .int (Zi 24), .int (Zi a), .int (Zi (u.1 1)), .ref 84])) (fun _ => rfl) ?_
        refine Z_go (f2 := (89, [(7, .int (Zi a)), (6, .int (Zi k)), (0, .ref 83), (1, .int (Zi a)), (2, .int (Zi b)), (3, .int (Zi c)), (4, .int (Zi w)), (5, .int (Zi e))], [.int (Zi k), .int (Zi 8), .int (Zi 24), .int (Zi a), .int (Zi (u.1 1)), .ref 84])) (fun _ => rfl) ?_
        refine Z_go (f2 := (90, [(7, .int (Zi a)), (6, .int (Zi k)), (0, .ref 83), (1, .int (Zi a)), (2, .int (Zi b)), (3, .int (Zi c)), (4, .int (Zi w)), (5, .int (Zi e))], [.int (Zi 4), .int (Zi k), .int (Zi 8), .int (Zi 24), .int (Zi a), .int (Zi (u.1 1)), .ref 84])) (fun _ => rfl) ?_
        refine Z_irem rfl (by omega) (by omega) (by omega) (by omega) ?_
        refine Z_imul rfl ?_
        refine Z_isub rfl ?_
        refine Z_ishr rfl (by first | exact hs.zF _ | exact Zor_r _ _ | exact hs.zA _ _ | assumption | exact zS _ | exact Zr_not (hs.zA _ _) | exact ⟨by omega, by omega⟩) (by omega) (by omega) (p := 2 ^ (24 - (8 * (k % 4))).toNat) (by rfl) ?_
        refine Z_go (f2 := (97, [(7, .int (Zi a)), (6, .int (Zi k)), (0, .ref 83), (1, .int (Zi a)), (2, .int (Zi b)), (3, .int (Zi c)), (4, .int (Zi w)), (5, .int (Zi e))], [.int (Zi 255), .int (Zi (a / (2 ^ (24 - (8 * (k % 4))).toNat))), .int (Zi (u.1 1)), .ref 84])) (fun _ => rfl) ?_
        refine Z_and255 rfl ?_
        refine R_is_ (q := 0) rfl hs rfl rfl (by omega) (by omega) (by decide) (by first | exact hs.zF _ | exact Zor_r _ _ | exact hs.zA _ _ | assumption | exact zS _ | exact Zr_not (hs.zA _ _) | exact ⟨by omega, by omega⟩) (fun h hs => ?_)
        refine Z_go (f2 := (100, [(7, .int (Zi a)), (6, .int (Zi k)), (0, .ref 83), (1, .int (Zi a)), (2, .int (Zi b)), (3, .int (Zi c)), (4, .int (Zi w)), (5, .int (Zi e))], [.ref 83])) (fun _ => rfl) ?_
        refine Z_go (f2 := (101, [(7, .int (Zi a)), (6, .int (Zi k)), (0, .ref 83), (1, .int (Zi a)), (2, .int (Zi b)), (3, .int (Zi c)), (4, .int (Zi w)), (5, .int (Zi e))], [.ref 83, .ref 83])) (fun _ => rfl) ?_
        refine R_gi rfl hs rfl ?_
        show B_R _ _ (104, [(7, .int (Zi a)), (6, .int (Zi k)), (0, .ref 83), (1, .int (Zi a)), (2, .int (Zi b)), (3, .int (Zi c)), (4, .int (Zi w)), (5, .int (Zi e))], [.int (Zi (u.1 1)), .ref 83]) _ _ _
        refine Z_go (f2 := (105, [(7, .int (Zi a)), (6, .int (Zi k)), (0, .ref 83), (1, .int (Zi a)), (2, .int (Zi b)), (3, .int (Zi c)), (4, .int (Zi w)), (5, .int (Zi e))], [.int (Zi 1), .int (Zi (u.1 1)), .ref 83])) (fun _ => rfl) ?_
        refine Z_iadd rfl ?_
        refine R_pf rfl hs rfl (by first | exact hs.zF _ | exact Zor_r _ _ | exact hs.zA _ _ | assumption | exact zS _ | exact Zr_not (hs.zA _ _) | exact ⟨by omega, by omega⟩) ⟨rfl, rfl, rfl⟩ (fun h hs => ?_)
        refine Z_iinc (L2 := [(6, .int (Zi (k + 1))), (7, .int (Zi a)), (0, .ref 83), (1, .int (Zi a)), (2, .int (Zi b)), (3, .int (Zi c)), (4, .int (Zi w)), (5, .int (Zi e))]) rfl rfl (by decide) rfl ?_
        refine Z_go (f2 := (18, [(6, .int (Zi (k + 1))), (7, .int (Zi a)), (0, .ref 83), (1, .int (Zi a)), (2, .int (Zi b)), (3, .int (Zi c)), (4, .int (Zi w)), (5, .int (Zi e))], [])) (fun _ => rfl) ?_
        refine B_loc (K := [(6, .int (Zi (k + 1))), (0, .ref 83), (1, .int (Zi a)), (2, .int (Zi b)), (3, .int (Zi c)), (4, .int (Zi w)), (5, .int (Zi e))]) (N_all_sub ⟨rfl, rfl, rfl, rfl, rfl, rfl, rfl, trivial⟩) (show ([6, 0, 1, 2, 3, 4, 5] : List Nat).Nodup by decide) ?_
        exact ih _ _ _ (by omega) hs (R_fed_st hu k0 (by unfold D_fb; simp only [if_pos c2])) (by omega) (by omega)
theorem R_feed (d : Nat) (s : R_S) {a b c w e : Int}  (za : Zr a) (zb : Zr b) (zc : Zr c) (zw : Zr w) (ze : Zr e) (t0 : 0 ≤ s.1 1) (t1 : s.1 1 ≤ 1000) : R_ok (d + 1) 175 [.int (Zi a), .int (Zi b), .int (Zi c), .int (Zi w), .int (Zi e)] s (fun x s2 => s.1 1 > 980 ∧ s2 = s ∧ x = some (.int (Zi (-1))) ∨ s.1 1 ≤ 980 ∧ R_fed s s2 a b c w e 20 ∧ x = some (.int (Zi (s.1 1 + 20)))) := by
  refine R_enter (M := E_m175) rfl (Nat.le_of_ble_eq_true rfl) (fun h0 h hs => ?_)
  show B_R d _ (0, [(0, .ref 83), (1, .int (Zi a)), (2, .int (Zi b)), (3, .int (Zi c)), (4, .int (Zi w)), (5, .int (Zi e))], []) _ _ _
  refine Z_go (f2 := (1, [(0, .ref 83), (1, .int (Zi a)), (2, .int (Zi b)), (3, .int (Zi c)), (4, .int (Zi w)), (5, .int (Zi e))], [.ref 83])) (fun _ => rfl) ?_
  refine R_gi rfl hs rfl ?_
  show B_R _ _ (4, [(0, .ref 83), (1, .int (Zi a)), (2, .int (Zi b)), (3, .int (Zi c)), (4, .int (Zi w)), (5, .int (Zi e))], [.int (Zi (s.1 1))]) _ _ _
  refine Z_go (f2 := (6, [(0, .ref 83), (1, .int (Zi a)), (2, .int (Zi b)), (3, .int (Zi c)), (4, .int (Zi w)), (5, .int (Zi e))], [.int (Zi 20), .int (Zi (s.1 1))])) (fun _ => rfl) ?_
  refine Z_iadd rfl ?_
  refine Z_go (f2 := (10, [(0, .ref 83), (1, .int (Zi a)), (2, .int (Zi b)), (3, .int (Zi c)), (4, .int (Zi w)), (5, .int (Zi e))], [.int (Zi 1000), .int (Zi (s.1 1 + 20))])) (fun _ => rfl) ?_
  refine Z_cle rfl rfl (by first | exact hs.zF _ | exact Zor_r _ _ | exact hs.zA _ _ | assumption | exact zS _ | exact Zr_not (hs.zA _ _) | exact ⟨by omega, by omega⟩) (by first | exact hs.zF _ | exact Zor_r _ _ | exact hs.zA _ _ | assumption | exact zS _ | exact Zr_not (hs.zA _ _) | exact ⟨by omega, by omega⟩) (fun c1 => ?_) (fun c1 => ?_)
  · refine Z_go (f2 := (16, [(0, .ref 83), (1, .int (Zi a)), (2, .int (Zi b)), (3, .int (Zi c)), (4, .int (Zi w)), (5, .int (Zi e))], [.int (Zi 0)])) (fun _ => rfl) ?_
    refine Z_go (f2 := (18, [(6, .int (Zi 0)), (0, .ref 83), (1, .int (Zi a)), (2, .int (Zi b)), (3, .int (Zi c)), (4, .int (Zi w)), (5, .int (Zi e))], [])) (fun _ => rfl) ?_
    refine R_feed_lp za zb zc zw ze t0 (by omega) (fun u h k hs hu => ?_) 21 _ _ _ (by omega) hs (R_fed_0 s a b c w e) (by omega) (by omega)
    refine Z_go (f2 := (116, [(6, .int (Zi k)), (0, .ref 83), (1, .int (Zi a)), (2, .int (Zi b)), (3, .int (Zi c)), (4, .int (Zi w)), (5, .int (Zi e))], [.ref 83])) (fun _ => rfl) ?_
    refine R_gi rfl hs rfl ?_
    show B_R _ _ (119, [(6, .int (Zi k)), (0, .ref 83), (1, .int (Zi a)), (2, .int (Zi b)), (3, .int (Zi c)), (4, .int (Zi w)), (5, .int (Zi e))], [.int (Zi (u.1 1))]) _ _ _
    refine Z_iret rfl rfl (by first | rfl | decide | exact narrow_b01 (by omega)) ⟨_, hs, ?_, rfl⟩
    exact .inr ⟨by omega, hu, by rw [R_fed_1 hu]⟩
  · refine Z_go (f2 := (14, [(0, .ref 83), (1, .int (Zi a)), (2, .int (Zi b)), (3, .int (Zi c)), (4, .int (Zi w)), (5, .int (Zi e))], [.int (Zi (-1))])) (fun _ => rfl) ?_
    refine Z_iret rfl rfl (by first | rfl | decide | exact narrow_b01 (by omega)) ⟨_, hs, ?_, rfl⟩
    exact .inl ⟨by omega, rfl, rfl⟩
/-- u is s, but the file f begins at the pool's end and is as long as the tape, k bytes of which stand there already -/
def R_tk (s u : R_S) (f k : Int) : Prop := u.1 = s.1 ∧ (∀ q j, u.2.1 q j = if q = 86 ∧ j = f then s.1 3 else if q = 87 ∧ j = f then s.1 1 else if q = 85 ∧ s.1 3 ≤ j ∧ j < s.1 3 + k then s.2.1 84 (j - s.1 3) else s.2.1 q j) ∧ u.2.2 = s.2.2
theorem R_tk_0 (s : R_S) (f : Int) : R_tk s (R_sA (R_sA s 86 f (s.1 3)) 87 f (s.1 1)) f 0 := by
  refine ⟨rfl, fun q j => ?_, rfl⟩
  show R_up2 (R_up2 s.2.1 86 f (s.1 3)) 87 f (s.1 1) q j = _
  unfold R_up2
  by_cases c : q = 87 ∧ j = f
  · rw [if_pos c, if_neg (by omega), if_pos c]
  · rw [if_neg c]
    by_cases c2 : q = 86 ∧ j = f
    · rw [if_pos c2, if_pos c2]
    · rw [if_neg c2, if_neg c2, if_neg c, if_neg (by omega)]
theorem R_tk_84 {s u : R_S} {f k : Int} (h : R_tk s u f k) (j : Int) : u.2.1 84 j = s.2.1 84 j := by
  rw [h.2.1, if_neg (by omega), if_neg (by omega), if_neg (by omega)]
theorem R_tk_st {s u : R_S} {f k : Int} (h : R_tk s u f k) (k0 : 0 ≤ k) : R_tk s (R_sA u 85 (u.1 3 + k) (u.2.1 84 k)) f (k + 1) := by
  refine ⟨h.1, fun q j => ?_, h.2.2⟩
  show R_up2 u.2.1 85 (u.1 3 + k) (u.2.1 84 k) q j = _
  unfold R_up2
  rw [R_tk_84 h, h.1]
  by_cases c : q = 85 ∧ j = s.1 3 + k
  · obtain ⟨c1, c2⟩ := c
    rw [if_pos ⟨c1, c2⟩, if_neg (by omega), if_neg (by omega), if_pos ⟨c1, by omega, by omega⟩]
    rw [show j - s.1 3 = k by omega]
  · rw [if_neg c, h.2.1]
    by_cases c2 : q = 86 ∧ j = f
    · rw [if_pos c2, if_pos c2]
    · rw [if_neg c2, if_neg c2]
      by_cases c4 : q = 87 ∧ j = f
      · rw [if_pos c4, if_pos c4]
      · rw [if_neg c4, if_neg c4]
        by_cases c3 : q = 85 ∧ s.1 3 ≤ j ∧ j < s.1 3 + k
        · rw [if_pos c3, if_pos ⟨c3.1, c3.2.1, by omega⟩]
        · rw [if_neg c3, if_neg (fun e => c3 ⟨e.1, e.2.1, by have := e.2.2; have : ¬ j = s.1 3 + k := fun z => c ⟨e.1, z⟩; omega⟩)]
theorem R_takes_lp {d : Nat} {h0 : E_H} {s : R_S} {sl : Nat} {Φ : E_R → Prop} {f : Int} (t0 : 0 ≤ s.1 1) (t1 : s.1 1 ≤ 1000) (p0 : 0 ≤ s.1 3) (p1 : s.1 3 + s.1 1 ≤ 17000) (kont : ∀ (k : Int) (u : R_S) (h : E_H), R_is h0 h u → R_tk s u f (s.1 1) → B_R d E_m178 (53, [(2, .int (Zi k)), (0, .ref 83), (1, .int (Zi f))], []) h sl Φ) : ∀ (t : Nat) (k : Int) (u : R_S) (h : E_H), s.1 1 - k < t → R_is h0 h u → R_tk s u f k → 0 ≤ k → k ≤ s.1 1 → B_R d E_m178 (22, [(2, .int (Zi k)), (0, .ref 83), (1, .int (Zi f))], []) h sl Φ := by
  intro t
  induction t with
  | zero => intro k u h ht hs hu k0 k1; omega
  | succ t ih =>
    intro k u h ht hs hu k0 k1
    have e1 : u.1 1 = s.1 1 := by rw [hu.1]
    have e3 : u.1 3 = s.1 3 := by rw [hu.1]
    refine Z_go (f2 := (23, [(2, .int (Zi k)), (0, .ref 83), (1, .int (Zi f))], [.int (Zi k)])) (fun _ => rfl) ?_
    refine Z_go (f2 := (24, [(2, .int (Zi k)), (0, .ref 83), (1, .int (Zi f))], [.ref 83, .int (Zi k)])) (fun _ => rfl) ?_
    refine R_gi rfl hs rfl ?_
    show B_R _ _ (27, [(2, .int (Zi k)), (0, .ref 83), (1, .int (Zi f))], [.int (Zi (u.1 1)), .int (Zi k)]) _ _ _
    refine Z_cge rfl rfl (by first | exact hs.zF _ | exact Zor_r _ _ | exact hs.zA _ _ | assumption | exact zS _ | exact Zr_not (hs.zA _ _) | exact ⟨by omega, by omega⟩) (by first | exact hs.zF _ | exact Zor_r _ _ | exact hs.zA _ _ | assumption | exact zS _ | exact Zr_not (hs.zA _ _) | exact ⟨by omega, by omega⟩) (fun c1 => ?_) (fun c1 => ?_)
    · have e : k = s.1 1 := by omega
      rw [e] at hu
      exact kont k u h hs hu
    · refine Z_go (f2 := (31, [(2, .int (Zi k)), (0, .ref 83), (1, .int (Zi f))], [.ref 83])) (fun _ => rfl) ?_
      refine R_gr (q := 83) rfl hs rfl ?_
      show B_R _ _ (34, [(2, .int (Zi k)), (0, .ref 83), (1, .int (Zi f))], [.ref 85]) _ _ _
      refine Z_go (f2 := (35, [(2, .int (Zi k)), (0, .ref 83), (1, .int (Zi f))], [.ref 83, .ref 85])) (fun _ => rfl) ?_
      refine R_gi rfl hs rfl ?_
      show B_R _ _ (38, [(2, .int (Zi k)), (0, .ref 83), (1, .int (Zi f))], [.int (Zi (u.1 3)), .ref 85]) _ _ _
      refine Z_go (f2 := (39, [(2, .int (Zi k)), (0, .ref 83), (1, .int (Zi f))], [.int (Zi k), .int (Zi (u.1 3)), .ref 85])) (fun _ => rfl) ?_
      refine Z_iadd rfl ?_
      refine Z_go (f2 := (41, [(2, .int (Zi k)), (0, .ref 83), (1, .int (Zi f))], [.ref 83, .int (Zi (u.1 3 + k)), .ref 85])) (fun _ => rfl) ?_
      refine R_gr (q := 82) rfl hs rfl ?_
      show B_R _ _ (44, [(2, .int (Zi k)), (0, .ref 83), (1, .int (Zi f))], [.ref 84, .int (Zi (u.1 3 + k)), .ref 85]) _ _ _
      refine Z_go (f2 := (45, [(2, .int (Zi k)), (0, .ref 83), (1, .int (Zi f))], [.int (Zi k), .ref 84, .int (Zi (u.1 3 + k)), .ref 85])) (fun _ => rfl) ?_
      refine R_ia (q := 0) rfl hs rfl rfl (by omega) (by omega) (by decide) ?_
      refine R_is_ (q := 1) rfl hs rfl rfl (by omega) (by omega) (by decide) (by first | exact hs.zF _ | exact Zor_r _ _ | exact hs.zA _ _ | assumption | exact zS _ | exact Zr_not (hs.zA _ _) | exact ⟨by omega, by omega⟩) (fun h hs => ?_)
      refine Z_iinc (L2 := [(2, .int (Zi (k + 1))), (0, .ref 83), (1, .int (Zi f))]) rfl rfl (by decide) rfl ?_
      refine Z_go (f2 := (22, [(2, .int (Zi (k + 1))), (0, .ref 83), (1, .int (Zi f))], [])) (fun _ => rfl) ?_
      refine B_loc (K := [(2, .int (Zi (k + 1))), (0, .ref 83), (1, .int (Zi f))]) (N_all_sub ⟨rfl, rfl, rfl, trivial⟩) (show ([2, 0, 1] : List Nat).Nodup by decide) ?_
      exact ih _ _ _ (by omega) hs (R_tk_st hu k0) (by omega) (by omega)
theorem R_takes (d : Nat) (s : R_S) {f : Int}  (zf : Zr f) (f0 : 0 ≤ f) (f1 : f < 200) (t0 : 0 ≤ s.1 1) (t1 : s.1 1 ≤ 1000) (p0 : 0 ≤ s.1 3) (p1 : s.1 3 + s.1 1 ≤ 17000) : R_ok (d + 1) 178 [.int (Zi f)] s (fun x s2 => x = none ∧ ∃ u : R_S, R_tk s u f (s.1 1) ∧ s2 = R_sF (R_sF u 3 (s.1 3 + s.1 1)) 1 0) := by
  refine R_enter (M := E_m178) rfl (Nat.le_of_ble_eq_true rfl) (fun h0 h hs => ?_)
  show B_R d _ (0, [(0, .ref 83), (1, .int (Zi f))], []) _ _ _
  refine Z_go (f2 := (1, [(0, .ref 83), (1, .int (Zi f))], [.ref 83])) (fun _ => rfl) ?_
  refine R_gr (q := 84) rfl hs rfl ?_
  show B_R _ _ (4, [(0, .ref 83), (1, .int (Zi f))], [.ref 86]) _ _ _
  refine Z_go (f2 := (5, [(0, .ref 83), (1, .int (Zi f))], [.int (Zi f), .ref 86])) (fun _ => rfl) ?_
  refine Z_go (f2 := (6, [(0, .ref 83), (1, .int (Zi f))], [.ref 83, .int (Zi f), .ref 86])) (fun _ => rfl) ?_
  refine R_gi rfl hs rfl ?_
  show B_R _ _ (9, [(0, .ref 83), (1, .int (Zi f))], [.int (Zi (s.1 3)), .int (Zi f), .ref 86]) _ _ _
  refine R_is_ (q := 2) rfl hs rfl rfl (by omega) (by omega) (by decide) (by first | exact hs.zF _ | exact Zor_r _ _ | exact hs.zA _ _ | assumption | exact zS _ | exact Zr_not (hs.zA _ _) | exact ⟨by omega, by omega⟩) (fun h hs => ?_)
  refine Z_go (f2 := (11, [(0, .ref 83), (1, .int (Zi f))], [.ref 83])) (fun _ => rfl) ?_
  refine R_gr (q := 85) rfl hs rfl ?_
  show B_R _ _ (14, [(0, .ref 83), (1, .int (Zi f))], [.ref 87]) _ _ _
  refine Z_go (f2 := (15, [(0, .ref 83), (1, .int (Zi f))], [.int (Zi f), .ref 87])) (fun _ => rfl) ?_
  refine Z_go (f2 := (16, [(0, .ref 83), (1, .int (Zi f))], [.ref 83, .int (Zi f), .ref 87])) (fun _ => rfl) ?_
  refine R_gi rfl hs rfl ?_
  show B_R _ _ (19, [(0, .ref 83), (1, .int (Zi f))], [.int (Zi (s.1 1)), .int (Zi f), .ref 87]) _ _ _
  refine R_is_ (q := 3) rfl hs rfl rfl (by omega) (by omega) (by decide) (by first | exact hs.zF _ | exact Zor_r _ _ | exact hs.zA _ _ | assumption | exact zS _ | exact Zr_not (hs.zA _ _) | exact ⟨by omega, by omega⟩) (fun h hs => ?_)
  refine Z_go (f2 := (21, [(0, .ref 83), (1, .int (Zi f))], [.int (Zi 0)])) (fun _ => rfl) ?_
  refine Z_go (f2 := (22, [(2, .int (Zi 0)), (0, .ref 83), (1, .int (Zi f))], [])) (fun _ => rfl) ?_
  refine R_takes_lp t0 t1 p0 p1 (fun k u h hs hu => ?_) ((s.1 1).toNat + 1) _ _ _ (by omega) hs (R_tk_0 s f) (by omega) (by omega)
  have e1 : u.1 1 = s.1 1 := by rw [hu.1]
  have e3 : u.1 3 = s.1 3 := by rw [hu.1]
  refine Z_go (f2 := (54, [(2, .int (Zi k)), (0, .ref 83), (1, .int (Zi f))], [.ref 83])) (fun _ => rfl) ?_
  refine Z_go (f2 := (55, [(2, .int (Zi k)), (0, .ref 83), (1, .int (Zi f))], [.ref 83, .ref 83])) (fun _ => rfl) ?_
  refine R_gi rfl hs rfl ?_
  show B_R _ _ (58, [(2, .int (Zi k)), (0, .ref 83), (1, .int (Zi f))], [.int (Zi (u.1 3)), .ref 83]) _ _ _
  refine Z_go (f2 := (59, [(2, .int (Zi k)), (0, .ref 83), (1, .int (Zi f))], [.ref 83, .int (Zi (u.1 3)), .ref 83])) (fun _ => rfl) ?_
  refine R_gi rfl hs rfl ?_
  show B_R _ _ (62, [(2, .int (Zi k)), (0, .ref 83), (1, .int (Zi f))], [.int (Zi (u.1 1)), .int (Zi (u.1 3)), .ref 83]) _ _ _
  refine Z_iadd rfl ?_
  refine R_pf rfl hs rfl (by first | exact hs.zF _ | exact Zor_r _ _ | exact hs.zA _ _ | assumption | exact zS _ | exact Zr_not (hs.zA _ _) | exact ⟨by omega, by omega⟩) ⟨rfl, rfl, rfl⟩ (fun h hs => ?_)
  refine Z_go (f2 := (67, [(2, .int (Zi k)), (0, .ref 83), (1, .int (Zi f))], [.ref 83])) (fun _ => rfl) ?_
  refine Z_go (f2 := (68, [(2, .int (Zi k)), (0, .ref 83), (1, .int (Zi f))], [.int (Zi 0), .ref 83])) (fun _ => rfl) ?_
  refine R_pf rfl hs rfl (by first | exact hs.zF _ | exact Zor_r _ _ | exact hs.zA _ _ | assumption | exact zS _ | exact Zr_not (hs.zA _ _) | exact ⟨by omega, by omega⟩) ⟨rfl, rfl, rfl⟩ (fun h hs => ?_)
  refine Z_ret rfl rfl ⟨_, hs, ?_, rfl⟩
  exact ⟨rfl, u, hu, by rw [e1, e3]⟩
