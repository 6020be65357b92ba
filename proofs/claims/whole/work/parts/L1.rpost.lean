/-! the reference: posting, count -/
def R_pi (X : List Int) (v i b : Int) : Prop := b = 0 ∧ (∀ j, 0 ≤ j → j < i → j + 2 < X.length → L_g3 X j ≠ v) ∨ b = 1 ∧ v ∈ L_gr X
theorem R_po_i {d : Nat} {h0 : E_H} {s : R_S} {sl : Nat} {Φ : E_R → Prop} {v k a f : Int} {X : List Int} (zv : Zr v) (f0 : 0 ≤ f) (f1 : f < 200) (lX : (X.length : Int) = s.2.1 87 f) (wX : R_wb s f = L_at X) (s0 : 0 ≤ s.2.1 86 f) (s1 : s.2.1 86 f + s.2.1 87 f ≤ 16000) (hby : ∀ j, 0 ≤ s.2.1 85 j ∧ s.2.1 85 j < 256) (kont : ∀ (b i : Int) (h : E_H), R_is h0 h s → (b = 1 ∧ v ∈ L_gr X ∨ b = 0 ∧ v ∉ L_gr X) → B_R (d + 1) E_m186 (87, [(6, .int (Zi i)), (5, .int (Zi b)), (4, .int (Zi f)), (3, .int (Zi a)), (0, .ref 83), (1, .int (Zi v)), (2, .int (Zi k))], []) h sl Φ) : ∀ (t : Nat) (i b : Int) (h : E_H), (X.length : Int) - i < t → R_is h0 h s → 0 ≤ i → i ≤ X.length → R_pi X v i b → B_R (d + 1) E_m186 (37, [(6, .int (Zi i)), (5, .int (Zi b)), (4, .int (Zi f)), (3, .int (Zi a)), (0, .ref 83), (1, .int (Zi v)), (2, .int (Zi k))], []) h sl Φ := by
  intro t
  induction t with
  | zero => intro i b h ht hs i0 i1 hi; omega
  | succ t ih =>
    intro i b h ht hs i0 i1 hi
    have b01 : b = 0 ∨ b = 1 := by rcases hi with ⟨e, _⟩ | ⟨e, _⟩ <;> omega
    have zb : Zr b := ⟨by omega, by omega⟩
    have zf : Zr f := ⟨by omega, by omega⟩
    have zi : Zr i := ⟨by omega, by omega⟩
    have nq : ∀ j, ¬ j + 2 < (X.length : Int) → v ∈ L_gr X → (∀ q, 0 ≤ q → q < j → q + 2 < (X.length : Int) → L_g3 X q ≠ v) → False := fun j hj hv hq => by
      obtain ⟨q, q0, q1, e⟩ := (L_gr_at X v).mp hv
      exact hq q q0 (by omega) q1 e.symm
    refine Z_go (f2 := (39, [(6, .int (Zi i)), (5, .int (Zi b)), (4, .int (Zi f)), (3, .int (Zi a)), (0, .ref 83), (1, .int (Zi v)), (2, .int (Zi k))], [.int (Zi i)])) (fun _ => rfl) ?_
    refine Z_go (f2 := (40, [(6, .int (Zi i)), (5, .int (Zi b)), (4, .int (Zi f)), (3, .int (Zi a)), (0, .ref 83), (1, .int (Zi v)), (2, .int (Zi k))], [.int (Zi 2), .int (Zi i)])) (fun _ => rfl) ?_
    refine Z_iadd rfl ?_
    refine Z_go (f2 := (42, [(6, .int (Zi i)), (5, .int (Zi b)), (4, .int (Zi f)), (3, .int (Zi a)), (0, .ref 83), (1, .int (Zi v)), (2, .int (Zi k))], [.ref 83, .int (Zi (i + 2))])) (fun _ => rfl) ?_
    refine R_gr (q := 85) rfl hs rfl ?_
    show B_R _ _ (45, [(6, .int (Zi i)), (5, .int (Zi b)), (4, .int (Zi f)), (3, .int (Zi a)), (0, .ref 83), (1, .int (Zi v)), (2, .int (Zi k))], [.ref 87, .int (Zi (i + 2))]) _ _ _
    refine Z_go (f2 := (47, [(6, .int (Zi i)), (5, .int (Zi b)), (4, .int (Zi f)), (3, .int (Zi a)), (0, .ref 83), (1, .int (Zi v)), (2, .int (Zi k))], [.int (Zi f), .ref 87, .int (Zi (i + 2))])) (fun _ => rfl) ?_
    refine R_ia (q := 3) rfl hs rfl rfl (by omega) (by omega) (by decide) ?_
    refine Z_cge rfl rfl (by first | exact hs.zF _ | exact Zor_r _ _ | exact hs.zA _ _ | assumption | exact zA _ _ | exact zS _ | exact Zr_not (hs.zA _ _) | exact ⟨by omega, by omega⟩) (by first | exact hs.zF _ | exact Zor_r _ _ | exact hs.zA _ _ | assumption | exact zA _ _ | exact zS _ | exact Zr_not (hs.zA _ _) | exact ⟨by omega, by omega⟩) (fun y1 => ?_) (fun y1 => ?_)
    · refine B_loc (K := [(6, .int (Zi i)), (5, .int (Zi b)), (4, .int (Zi f)), (3, .int (Zi a)), (0, .ref 83), (1, .int (Zi v)), (2, .int (Zi k))]) (N_all_sub ⟨rfl, rfl, rfl, rfl, rfl, rfl, rfl, trivial⟩) (show ([6, 5, 4, 3, 0, 1, 2] : List Nat).Nodup by decide) ?_
      refine kont b i h hs ?_
      rcases hi with ⟨e, q⟩ | ⟨e, q⟩
      · first | (exfalso; omega) | exact .inr ⟨e, fun hv => nq i (by omega) hv q⟩
      · exact .inl ⟨e, q⟩
    · refine Z_go (f2 := (53, [(6, .int (Zi i)), (5, .int (Zi b)), (4, .int (Zi f)), (3, .int (Zi a)), (0, .ref 83), (1, .int (Zi v)), (2, .int (Zi k))], [.int (Zi b)])) (fun _ => rfl) ?_
      refine Z_ine rfl rfl (by first | exact hs.zF _ | exact Zor_r _ _ | exact hs.zA _ _ | assumption | exact zA _ _ | exact zS _ | exact Zr_not (hs.zA _ _) | exact ⟨by omega, by omega⟩) (fun y2 => ?_) (fun y2 => ?_)
      · refine B_loc (K := [(6, .int (Zi i)), (5, .int (Zi b)), (4, .int (Zi f)), (3, .int (Zi a)), (0, .ref 83), (1, .int (Zi v)), (2, .int (Zi k))]) (N_all_sub ⟨rfl, rfl, rfl, rfl, rfl, rfl, rfl, trivial⟩) (show ([6, 5, 4, 3, 0, 1, 2] : List Nat).Nodup by decide) ?_
        refine kont b i h hs ?_
        rcases hi with ⟨e, q⟩ | ⟨e, q⟩
        · first | (exfalso; omega) | exact .inr ⟨e, fun hv => nq i (by omega) hv q⟩
        · exact .inl ⟨e, q⟩
      · refine Z_go (f2 := (57, [(6, .int (Zi i)), (5, .int (Zi b)), (4, .int (Zi f)), (3, .int (Zi a)), (0, .ref 83), (1, .int (Zi v)), (2, .int (Zi k))], [.ref 83])) (fun _ => rfl) ?_
        refine Z_go (f2 := (58, [(6, .int (Zi i)), (5, .int (Zi b)), (4, .int (Zi f)), (3, .int (Zi a)), (0, .ref 83), (1, .int (Zi v)), (2, .int (Zi k))], [.ref 83, .ref 83])) (fun _ => rfl) ?_
        refine R_gr (q := 84) rfl hs rfl ?_
        show B_R _ _ (61, [(6, .int (Zi i)), (5, .int (Zi b)), (4, .int (Zi f)), (3, .int (Zi a)), (0, .ref 83), (1, .int (Zi v)), (2, .int (Zi k))], [.ref 86, .ref 83]) _ _ _
        refine Z_go (f2 := (63, [(6, .int (Zi i)), (5, .int (Zi b)), (4, .int (Zi f)), (3, .int (Zi a)), (0, .ref 83), (1, .int (Zi v)), (2, .int (Zi k))], [.int (Zi f), .ref 86, .ref 83])) (fun _ => rfl) ?_
        refine R_ia (q := 2) rfl hs rfl rfl (by omega) (by omega) (by decide) ?_
        refine Z_go (f2 := (66, [(6, .int (Zi i)), (5, .int (Zi b)), (4, .int (Zi f)), (3, .int (Zi a)), (0, .ref 83), (1, .int (Zi v)), (2, .int (Zi k))], [.int (Zi i), .int (Zi (s.2.1 86 f)), .ref 83])) (fun _ => rfl) ?_
        refine Z_iadd rfl ?_
        refine R_call (As := [.int (Zi (s.2.1 86 f + i))]) (rest := []) rfl (by decide) rfl rfl rfl rfl (by decide +kernel) (Nat.le_of_ble_eq_true rfl) hs (R_gramAt _ s (p := s.2.1 86 f + i) ⟨by omega, by omega⟩ (by omega) (by omega)) (fun x h s2 hs q => ?_)
        obtain ⟨q0, rfl⟩ := q
        rw [q0] at hs
        have hgm : R_gm s (s.2.1 86 f + i) = L_g3 X i := by
          unfold L_g3 R_gm
          rw [← wX, R_wb_in (by omega), R_wb_in (by omega), R_wb_in (by omega), show s.2.1 86 f + (i + 1) = s.2.1 86 f + i + 1 by omega, show s.2.1 86 f + (i + 2) = s.2.1 86 f + i + 2 by omega]
        have zgm : Zr (R_gm s (s.2.1 86 f + i)) := by
          have b1 := hby (s.2.1 86 f + i)
          have b2 := hby (s.2.1 86 f + i + 1)
          have b3 := hby (s.2.1 86 f + i + 2)
          unfold R_gm
          exact ⟨by omega, by omega⟩
        show B_R _ _ (70, [(6, .int (Zi i)), (5, .int (Zi b)), (4, .int (Zi f)), (3, .int (Zi a)), (0, .ref 83), (1, .int (Zi v)), (2, .int (Zi k))], [.int (Zi (R_gm s (s.2.1 86 f + i)))]) _ _ _
        refine Z_go (f2 := (71, [(6, .int (Zi i)), (5, .int (Zi b)), (4, .int (Zi f)), (3, .int (Zi a)), (0, .ref 83), (1, .int (Zi v)), (2, .int (Zi k))], [.int (Zi v), .int (Zi (R_gm s (s.2.1 86 f + i)))])) (fun _ => rfl) ?_
        refine Z_cne rfl rfl (by first | exact hs.zF _ | exact Zor_r _ _ | exact hs.zA _ _ | assumption | exact zA _ _ | exact zS _ | exact Zr_not (hs.zA _ _) | exact ⟨by omega, by omega⟩) (by first | exact hs.zF _ | exact Zor_r _ _ | exact hs.zA _ _ | assumption | exact zA _ _ | exact zS _ | exact Zr_not (hs.zA _ _) | exact ⟨by omega, by omega⟩) (fun y3 => ?_) (fun y3 => ?_)
        · refine Z_go (f2 := (79, [(6, .int (Zi i)), (5, .int (Zi b)), (4, .int (Zi f)), (3, .int (Zi a)), (0, .ref 83), (1, .int (Zi v)), (2, .int (Zi k))], [.int (Zi 0)])) (fun _ => rfl) ?_
          refine Z_go (f2 := (81, [(5, .int (Zi 0)), (6, .int (Zi i)), (4, .int (Zi f)), (3, .int (Zi a)), (0, .ref 83), (1, .int (Zi v)), (2, .int (Zi k))], [])) (fun _ => rfl) ?_
          refine Z_iinc (L2 := [(6, .int (Zi (i + 1))), (5, .int (Zi 0)), (4, .int (Zi f)), (3, .int (Zi a)), (0, .ref 83), (1, .int (Zi v)), (2, .int (Zi k))]) rfl rfl (by decide) rfl ?_
          refine Z_go (f2 := (37, [(6, .int (Zi (i + 1))), (5, .int (Zi 0)), (4, .int (Zi f)), (3, .int (Zi a)), (0, .ref 83), (1, .int (Zi v)), (2, .int (Zi k))], [])) (fun _ => rfl) ?_
          refine B_loc (K := [(6, .int (Zi (i + 1))), (5, .int (Zi 0)), (4, .int (Zi f)), (3, .int (Zi a)), (0, .ref 83), (1, .int (Zi v)), (2, .int (Zi k))]) (N_all_sub ⟨rfl, rfl, rfl, rfl, rfl, rfl, rfl, trivial⟩) (show ([6, 5, 4, 3, 0, 1, 2] : List Nat).Nodup by decide) ?_
          refine ih (i + 1) 0 h (by omega) hs (by omega) (by omega) ?_
          rcases hi with ⟨e, q⟩ | ⟨e, q⟩
          · first | exact .inr ⟨rfl, (L_gr_at X v).mpr ⟨i, i0, by omega, by omega⟩⟩ | exact .inl ⟨rfl, fun j j0 j1 j2 => by rcases (by omega : j < i ∨ j = i) with z | rfl; exact q j j0 z j2; omega⟩
          · omega
        · refine Z_go (f2 := (75, [(6, .int (Zi i)), (5, .int (Zi b)), (4, .int (Zi f)), (3, .int (Zi a)), (0, .ref 83), (1, .int (Zi v)), (2, .int (Zi k))], [.int (Zi 1)])) (fun _ => rfl) ?_
          refine Z_go (f2 := (79, [(6, .int (Zi i)), (5, .int (Zi b)), (4, .int (Zi f)), (3, .int (Zi a)), (0, .ref 83), (1, .int (Zi v)), (2, .int (Zi k))], [.int (Zi 1)])) (fun _ => rfl) ?_
          refine Z_go (f2 := (81, [(5, .int (Zi 1)), (6, .int (Zi i)), (4, .int (Zi f)), (3, .int (Zi a)), (0, .ref 83), (1, .int (Zi v)), (2, .int (Zi k))], [])) (fun _ => rfl) ?_
          refine Z_iinc (L2 := [(6, .int (Zi (i + 1))), (5, .int (Zi 1)), (4, .int (Zi f)), (3, .int (Zi a)), (0, .ref 83), (1, .int (Zi v)), (2, .int (Zi k))]) rfl rfl (by decide) rfl ?_
          refine Z_go (f2 := (37, [(6, .int (Zi (i + 1))), (5, .int (Zi 1)), (4, .int (Zi f)), (3, .int (Zi a)), (0, .ref 83), (1, .int (Zi v)), (2, .int (Zi k))], [])) (fun _ => rfl) ?_
          refine B_loc (K := [(6, .int (Zi (i + 1))), (5, .int (Zi 1)), (4, .int (Zi f)), (3, .int (Zi a)), (0, .ref 83), (1, .int (Zi v)), (2, .int (Zi k))]) (N_all_sub ⟨rfl, rfl, rfl, rfl, rfl, rfl, rfl, trivial⟩) (show ([6, 5, 4, 3, 0, 1, 2] : List Nat).Nodup by decide) ?_
          refine ih (i + 1) 1 h (by omega) hs (by omega) (by omega) ?_
          rcases hi with ⟨e, q⟩ | ⟨e, q⟩
          · first | exact .inr ⟨rfl, (L_gr_at X v).mpr ⟨i, i0, by omega, by omega⟩⟩ | exact .inl ⟨rfl, fun j j0 j1 j2 => by rcases (by omega : j < i ∨ j = i) with z | rfl; exact q j j0 z j2; omega⟩
          · omega
theorem R_po_lp {d : Nat} {h0 : E_H} {s : R_S} {fs : Int → Option (List Int)} {v k : Int} (zv : Zr v) (zk : Zr k) (w : R_fw s (-1)) (hf : R_fs s fs) : ∀ (t : Nat) (f a : Int) (h : E_H), s.1 8 - f < t → R_is h0 h s → 0 ≤ f → f ≤ s.1 8 → a = k - (D_ct (D_hg fs (s.1 8) v) f.toNat : Int) → (0 ≤ k ∧ 0 ≤ a ∨ a = k) → B_R (d + 1) E_m186 (5, [(4, .int (Zi f)), (3, .int (Zi a)), (0, .ref 83), (1, .int (Zi v)), (2, .int (Zi k))], []) h 0 (fun r => ∃ s2 : R_S, R_is h0 r.2.1 s2 ∧ (s2 = s ∧ ∃ z : Int, r.1 = some (.int (Zi z)) ∧ (z = -1 ∧ (k < 0 ∨ (D_ct (D_hg fs (s.1 8) v) (s.1 8).toNat : Int) ≤ k) ∨ 0 ≤ k ∧ 0 ≤ z ∧ z < s.1 8 ∧ D_hg fs (s.1 8) v z ∧ (D_ct (D_hg fs (s.1 8) v) z.toNat : Int) = k)) ∧ r.2.2 = 0) := by
  intro t
  induction t with
  | zero => intro f a h ht hs f0 f1 ha a0; omega
  | succ t ih =>
    intro f a h ht hs f0 f1 ha a0
    obtain ⟨zk1, zk2⟩ := id zk
    obtain ⟨w1, w2, w3⟩ := w.w1
    have zf : Zr f := ⟨by omega, by omega⟩
    have dl := D_ct_le (D_hg fs (s.1 8) v) f.toNat
    have za : Zr a := ⟨by omega, by omega⟩
    have z88 := w3 f
    have p1 := w.p1
    refine Z_go (f2 := (7, [(4, .int (Zi f)), (3, .int (Zi a)), (0, .ref 83), (1, .int (Zi v)), (2, .int (Zi k))], [.int (Zi f)])) (fun _ => rfl) ?_
    refine Z_go (f2 := (8, [(4, .int (Zi f)), (3, .int (Zi a)), (0, .ref 83), (1, .int (Zi v)), (2, .int (Zi k))], [.ref 83, .int (Zi f)])) (fun _ => rfl) ?_
    refine R_gi rfl hs rfl ?_
    show B_R _ _ (11, [(4, .int (Zi f)), (3, .int (Zi a)), (0, .ref 83), (1, .int (Zi v)), (2, .int (Zi k))], [.int (Zi (s.1 8)), .int (Zi f)]) _ _ _
    refine Z_cge rfl rfl (by first | exact hs.zF _ | exact Zor_r _ _ | exact hs.zA _ _ | assumption | exact zA _ _ | exact zS _ | exact Zr_not (hs.zA _ _) | exact ⟨by omega, by omega⟩) (by first | exact hs.zF _ | exact Zor_r _ _ | exact hs.zA _ _ | assumption | exact zA _ _ | exact zS _ | exact Zr_not (hs.zA _ _) | exact ⟨by omega, by omega⟩) (fun y1 => ?_) (fun y1 => ?_)
    · refine Z_go (f2 := (119, [(4, .int (Zi f)), (3, .int (Zi a)), (0, .ref 83), (1, .int (Zi v)), (2, .int (Zi k))], [.int (Zi (-1))])) (fun _ => rfl) ?_
      refine Z_iret rfl rfl (by first | rfl | decide | exact narrow_b01 (by omega)) ⟨_, hs, ?_, rfl⟩
      refine ⟨rfl, _, rfl, .inl ⟨rfl, ?_⟩⟩
      by_cases ck : k < 0
      · exact .inl ck
      · refine .inr ?_
        obtain rfl : f = s.1 8 := by omega
        omega
    · refine Z_go (f2 := (15, [(4, .int (Zi f)), (3, .int (Zi a)), (0, .ref 83), (1, .int (Zi v)), (2, .int (Zi k))], [.int (Zi k)])) (fun _ => rfl) ?_
      refine Z_ilt rfl rfl (by first | exact hs.zF _ | exact Zor_r _ _ | exact hs.zA _ _ | assumption | exact zA _ _ | exact zS _ | exact Zr_not (hs.zA _ _) | exact ⟨by omega, by omega⟩) (fun y2 => ?_) (fun y2 => ?_)
      · refine Z_go (f2 := (119, [(4, .int (Zi f)), (3, .int (Zi a)), (0, .ref 83), (1, .int (Zi v)), (2, .int (Zi k))], [.int (Zi (-1))])) (fun _ => rfl) ?_
        refine Z_iret rfl rfl (by first | rfl | decide | exact narrow_b01 (by omega)) ⟨_, hs, ?_, rfl⟩
        refine ⟨rfl, _, rfl, .inl ⟨rfl, ?_⟩⟩
        by_cases ck : k < 0
        · exact .inl ck
        · refine .inr ?_
          obtain rfl : f = s.1 8 := by omega
          omega
      · refine Z_go (f2 := (19, [(4, .int (Zi f)), (3, .int (Zi a)), (0, .ref 83), (1, .int (Zi v)), (2, .int (Zi k))], [.ref 83])) (fun _ => rfl) ?_
        refine R_gr (q := 86) rfl hs rfl ?_
        show B_R _ _ (22, [(4, .int (Zi f)), (3, .int (Zi a)), (0, .ref 83), (1, .int (Zi v)), (2, .int (Zi k))], [.ref 88]) _ _ _
        refine Z_go (f2 := (24, [(4, .int (Zi f)), (3, .int (Zi a)), (0, .ref 83), (1, .int (Zi v)), (2, .int (Zi k))], [.int (Zi f), .ref 88])) (fun _ => rfl) ?_
        refine R_ba (q := 4) rfl hs rfl rfl (by omega) (by omega) (by decide) ?_
        refine Z_ine rfl rfl (by first | exact hs.zF _ | exact Zor_r _ _ | exact hs.zA _ _ | assumption | exact zA _ _ | exact zS _ | exact Zr_not (hs.zA _ _) | exact ⟨by omega, by omega⟩) (fun y3 => ?_) (fun y3 => ?_)
        · have c88 : s.2.1 88 f = 1 := by omega
          obtain ⟨X, eX⟩ := hf.yes f0 (by omega) (by omega)
          obtain ⟨_, lX, wX⟩ := hf.one f0 (by omega) eX
          obtain ⟨l1, l2, l3, l4, _⟩ := w.fl f ⟨f0, by omega, c88⟩ (by omega)
          have hD : D_hg fs (s.1 8) v f ↔ v ∈ L_gr X := ⟨fun ⟨Y, ⟨_, _, hY⟩, hv⟩ => by rw [eX] at hY; injection hY with hY; rw [hY]; exact hv, fun hv => ⟨X, ⟨f0, by omega, eX⟩, hv⟩⟩
          refine Z_go (f2 := (32, [(4, .int (Zi f)), (3, .int (Zi a)), (0, .ref 83), (1, .int (Zi v)), (2, .int (Zi k))], [.int (Zi 0)])) (fun _ => rfl) ?_
          refine Z_go (f2 := (34, [(5, .int (Zi 0)), (4, .int (Zi f)), (3, .int (Zi a)), (0, .ref 83), (1, .int (Zi v)), (2, .int (Zi k))], [])) (fun _ => rfl) ?_
          refine Z_go (f2 := (35, [(5, .int (Zi 0)), (4, .int (Zi f)), (3, .int (Zi a)), (0, .ref 83), (1, .int (Zi v)), (2, .int (Zi k))], [.int (Zi 0)])) (fun _ => rfl) ?_
          refine Z_go (f2 := (37, [(6, .int (Zi 0)), (5, .int (Zi 0)), (4, .int (Zi f)), (3, .int (Zi a)), (0, .ref 83), (1, .int (Zi v)), (2, .int (Zi k))], [])) (fun _ => rfl) ?_
          refine B_loc (K := [(6, .int (Zi 0)), (5, .int (Zi 0)), (4, .int (Zi f)), (3, .int (Zi a)), (0, .ref 83), (1, .int (Zi v)), (2, .int (Zi k))]) (N_all_sub ⟨rfl, rfl, rfl, rfl, rfl, rfl, rfl, trivial⟩) (show ([6, 5, 4, 3, 0, 1, 2] : List Nat).Nodup by decide) ?_
          refine R_po_i zv f0 (by omega) lX wX l1 (by omega) w.by_ (fun b i h hs hb => ?_) (X.length + 1) 0 0 h (by omega) hs (by omega) (by omega) (.inl ⟨rfl, fun j j0 j1 _ => by omega⟩)
          have zb : Zr b := by rcases hb with ⟨e, _⟩ | ⟨e, _⟩ <;> exact ⟨by omega, by omega⟩
          have d1 : b = 0 → D_ct (D_hg fs (s.1 8) v) (f + 1).toNat = D_ct (D_hg fs (s.1 8) v) f.toNat := fun e => D_ct_s0 f0 (fun q => by rcases hb with ⟨z, _⟩ | ⟨_, z⟩; omega; exact z (hD.mp q))
          have d2 : b = 1 → D_ct (D_hg fs (s.1 8) v) (f + 1).toNat = D_ct (D_hg fs (s.1 8) v) f.toNat + 1 := fun e => D_ct_s1 f0 (by rcases hb with ⟨_, z⟩ | ⟨z, _⟩; exact hD.mpr z; omega)
          refine Z_go (f2 := (89, [(6, .int (Zi i)), (5, .int (Zi b)), (4, .int (Zi f)), (3, .int (Zi a)), (0, .ref 83), (1, .int (Zi v)), (2, .int (Zi k))], [.int (Zi b)])) (fun _ => rfl) ?_
          refine Z_ieq rfl rfl (by first | exact hs.zF _ | exact Zor_r _ _ | exact hs.zA _ _ | assumption | exact zA _ _ | exact zS _ | exact Zr_not (hs.zA _ _) | exact ⟨by omega, by omega⟩) (fun x1 => ?_) (fun x1 => ?_)
          · refine Z_go (f2 := (100, [(6, .int (Zi i)), (5, .int (Zi b)), (4, .int (Zi f)), (3, .int (Zi a)), (0, .ref 83), (1, .int (Zi v)), (2, .int (Zi k))], [.int (Zi a)])) (fun _ => rfl) ?_
            refine Z_go (f2 := (102, [(6, .int (Zi i)), (5, .int (Zi b)), (4, .int (Zi f)), (3, .int (Zi a)), (0, .ref 83), (1, .int (Zi v)), (2, .int (Zi k))], [.int (Zi b), .int (Zi a)])) (fun _ => rfl) ?_
            refine Z_ieq rfl rfl (by first | exact hs.zF _ | exact Zor_r _ _ | exact hs.zA _ _ | assumption | exact zA _ _ | exact zS _ | exact Zr_not (hs.zA _ _) | exact ⟨by omega, by omega⟩) (fun x2 => ?_) (fun x2 => ?_)
            · refine Z_go (f2 := (110, [(6, .int (Zi i)), (5, .int (Zi b)), (4, .int (Zi f)), (3, .int (Zi a)), (0, .ref 83), (1, .int (Zi v)), (2, .int (Zi k))], [.int (Zi 0), .int (Zi a)])) (fun _ => rfl) ?_
              refine Z_isub rfl ?_
              refine Z_go (f2 := (112, [(3, .int (Zi (a - 0))), (6, .int (Zi i)), (5, .int (Zi b)), (4, .int (Zi f)), (0, .ref 83), (1, .int (Zi v)), (2, .int (Zi k))], [])) (fun _ => rfl) ?_
              refine Z_iinc (L2 := [(4, .int (Zi (f + 1))), (3, .int (Zi (a - 0))), (6, .int (Zi i)), (5, .int (Zi b)), (0, .ref 83), (1, .int (Zi v)), (2, .int (Zi k))]) rfl rfl (by decide) rfl ?_
              refine Z_go (f2 := (5, [(4, .int (Zi (f + 1))), (3, .int (Zi (a - 0))), (6, .int (Zi i)), (5, .int (Zi b)), (0, .ref 83), (1, .int (Zi v)), (2, .int (Zi k))], [])) (fun _ => rfl) ?_
              refine B_loc (K := [(4, .int (Zi (f + 1))), (3, .int (Zi (a - 0))), (0, .ref 83), (1, .int (Zi v)), (2, .int (Zi k))]) (N_all_sub ⟨rfl, rfl, rfl, rfl, rfl, trivial⟩) (show ([4, 3, 0, 1, 2] : List Nat).Nodup by decide) ?_
              have b01 : b = 0 ∨ b = 1 := by rcases hb with ⟨e, _⟩ | ⟨e, _⟩ <;> omega
              refine ih (f + 1) (a - 0) h (by omega) hs (by omega) (by omega) ?_ ?_
              · rcases b01 with e | e
                · have := d1 e; omega
                · have := d2 e; omega
              · have := a0; omega
            · refine Z_go (f2 := (106, [(6, .int (Zi i)), (5, .int (Zi b)), (4, .int (Zi f)), (3, .int (Zi a)), (0, .ref 83), (1, .int (Zi v)), (2, .int (Zi k))], [.int (Zi 1), .int (Zi a)])) (fun _ => rfl) ?_
              refine Z_go (f2 := (110, [(6, .int (Zi i)), (5, .int (Zi b)), (4, .int (Zi f)), (3, .int (Zi a)), (0, .ref 83), (1, .int (Zi v)), (2, .int (Zi k))], [.int (Zi 1), .int (Zi a)])) (fun _ => rfl) ?_
              refine Z_isub rfl ?_
              refine Z_go (f2 := (112, [(3, .int (Zi (a - 1))), (6, .int (Zi i)), (5, .int (Zi b)), (4, .int (Zi f)), (0, .ref 83), (1, .int (Zi v)), (2, .int (Zi k))], [])) (fun _ => rfl) ?_
              refine Z_iinc (L2 := [(4, .int (Zi (f + 1))), (3, .int (Zi (a - 1))), (6, .int (Zi i)), (5, .int (Zi b)), (0, .ref 83), (1, .int (Zi v)), (2, .int (Zi k))]) rfl rfl (by decide) rfl ?_
              refine Z_go (f2 := (5, [(4, .int (Zi (f + 1))), (3, .int (Zi (a - 1))), (6, .int (Zi i)), (5, .int (Zi b)), (0, .ref 83), (1, .int (Zi v)), (2, .int (Zi k))], [])) (fun _ => rfl) ?_
              refine B_loc (K := [(4, .int (Zi (f + 1))), (3, .int (Zi (a - 1))), (0, .ref 83), (1, .int (Zi v)), (2, .int (Zi k))]) (N_all_sub ⟨rfl, rfl, rfl, rfl, rfl, trivial⟩) (show ([4, 3, 0, 1, 2] : List Nat).Nodup by decide) ?_
              have b01 : b = 0 ∨ b = 1 := by rcases hb with ⟨e, _⟩ | ⟨e, _⟩ <;> omega
              refine ih (f + 1) (a - 1) h (by omega) hs (by omega) (by omega) ?_ ?_
              · rcases b01 with e | e
                · have := d1 e; omega
                · have := d2 e; omega
              · have := a0; omega
          · refine Z_go (f2 := (93, [(6, .int (Zi i)), (5, .int (Zi b)), (4, .int (Zi f)), (3, .int (Zi a)), (0, .ref 83), (1, .int (Zi v)), (2, .int (Zi k))], [.int (Zi a)])) (fun _ => rfl) ?_
            refine Z_ine rfl rfl (by first | exact hs.zF _ | exact Zor_r _ _ | exact hs.zA _ _ | assumption | exact zA _ _ | exact zS _ | exact Zr_not (hs.zA _ _) | exact ⟨by omega, by omega⟩) (fun x3 => ?_) (fun x3 => ?_)
            · refine Z_go (f2 := (100, [(6, .int (Zi i)), (5, .int (Zi b)), (4, .int (Zi f)), (3, .int (Zi a)), (0, .ref 83), (1, .int (Zi v)), (2, .int (Zi k))], [.int (Zi a)])) (fun _ => rfl) ?_
              refine Z_go (f2 := (102, [(6, .int (Zi i)), (5, .int (Zi b)), (4, .int (Zi f)), (3, .int (Zi a)), (0, .ref 83), (1, .int (Zi v)), (2, .int (Zi k))], [.int (Zi b), .int (Zi a)])) (fun _ => rfl) ?_
              refine Z_ieq rfl rfl (by first | exact hs.zF _ | exact Zor_r _ _ | exact hs.zA _ _ | assumption | exact zA _ _ | exact zS _ | exact Zr_not (hs.zA _ _) | exact ⟨by omega, by omega⟩) (fun x4 => ?_) (fun x4 => ?_)
              · refine Z_go (f2 := (110, [(6, .int (Zi i)), (5, .int (Zi b)), (4, .int (Zi f)), (3, .int (Zi a)), (0, .ref 83), (1, .int (Zi v)), (2, .int (Zi k))], [.int (Zi 0), .int (Zi a)])) (fun _ => rfl) ?_
                refine Z_isub rfl ?_
                refine Z_go (f2 := (112, [(3, .int (Zi (a - 0))), (6, .int (Zi i)), (5, .int (Zi b)), (4, .int (Zi f)), (0, .ref 83), (1, .int (Zi v)), (2, .int (Zi k))], [])) (fun _ => rfl) ?_
                refine Z_iinc (L2 := [(4, .int (Zi (f + 1))), (3, .int (Zi (a - 0))), (6, .int (Zi i)), (5, .int (Zi b)), (0, .ref 83), (1, .int (Zi v)), (2, .int (Zi k))]) rfl rfl (by decide) rfl ?_
                refine Z_go (f2 := (5, [(4, .int (Zi (f + 1))), (3, .int (Zi (a - 0))), (6, .int (Zi i)), (5, .int (Zi b)), (0, .ref 83), (1, .int (Zi v)), (2, .int (Zi k))], [])) (fun _ => rfl) ?_
                refine B_loc (K := [(4, .int (Zi (f + 1))), (3, .int (Zi (a - 0))), (0, .ref 83), (1, .int (Zi v)), (2, .int (Zi k))]) (N_all_sub ⟨rfl, rfl, rfl, rfl, rfl, trivial⟩) (show ([4, 3, 0, 1, 2] : List Nat).Nodup by decide) ?_
                have b01 : b = 0 ∨ b = 1 := by rcases hb with ⟨e, _⟩ | ⟨e, _⟩ <;> omega
                refine ih (f + 1) (a - 0) h (by omega) hs (by omega) (by omega) ?_ ?_
                · rcases b01 with e | e
                  · have := d1 e; omega
                  · have := d2 e; omega
                · have := a0; omega
              · refine Z_go (f2 := (106, [(6, .int (Zi i)), (5, .int (Zi b)), (4, .int (Zi f)), (3, .int (Zi a)), (0, .ref 83), (1, .int (Zi v)), (2, .int (Zi k))], [.int (Zi 1), .int (Zi a)])) (fun _ => rfl) ?_
                refine Z_go (f2 := (110, [(6, .int (Zi i)), (5, .int (Zi b)), (4, .int (Zi f)), (3, .int (Zi a)), (0, .ref 83), (1, .int (Zi v)), (2, .int (Zi k))], [.int (Zi 1), .int (Zi a)])) (fun _ => rfl) ?_
                refine Z_isub rfl ?_
                refine Z_go (f2 := (112, [(3, .int (Zi (a - 1))), (6, .int (Zi i)), (5, .int (Zi b)), (4, .int (Zi f)), (0, .ref 83), (1, .int (Zi v)), (2, .int (Zi k))], [])) (fun _ => rfl) ?_
                refine Z_iinc (L2 := [(4, .int (Zi (f + 1))), (3, .int (Zi (a - 1))), (6, .int (Zi i)), (5, .int (Zi b)), (0, .ref 83), (1, .int (Zi v)), (2, .int (Zi k))]) rfl rfl (by decide) rfl ?_
                refine Z_go (f2 := (5, [(4, .int (Zi (f + 1))), (3, .int (Zi (a - 1))), (6, .int (Zi i)), (5, .int (Zi b)), (0, .ref 83), (1, .int (Zi v)), (2, .int (Zi k))], [])) (fun _ => rfl) ?_
                refine B_loc (K := [(4, .int (Zi (f + 1))), (3, .int (Zi (a - 1))), (0, .ref 83), (1, .int (Zi v)), (2, .int (Zi k))]) (N_all_sub ⟨rfl, rfl, rfl, rfl, rfl, trivial⟩) (show ([4, 3, 0, 1, 2] : List Nat).Nodup by decide) ?_
                have b01 : b = 0 ∨ b = 1 := by rcases hb with ⟨e, _⟩ | ⟨e, _⟩ <;> omega
                refine ih (f + 1) (a - 1) h (by omega) hs (by omega) (by omega) ?_ ?_
                · rcases b01 with e | e
                  · have := d1 e; omega
                  · have := d2 e; omega
                · have := a0; omega
            · refine Z_go (f2 := (98, [(6, .int (Zi i)), (5, .int (Zi b)), (4, .int (Zi f)), (3, .int (Zi a)), (0, .ref 83), (1, .int (Zi v)), (2, .int (Zi k))], [.int (Zi f)])) (fun _ => rfl) ?_
              refine Z_iret rfl rfl (by first | rfl | decide | exact narrow_b01 (by omega)) ⟨_, hs, ?_, rfl⟩
              refine ⟨rfl, _, rfl, .inr ⟨by omega, f0, by omega, ?_, by omega⟩⟩
              rcases hb with ⟨_, z⟩ | ⟨z, _⟩
              · exact hD.mpr z
              · omega
        · refine Z_go (f2 := (112, [(4, .int (Zi f)), (3, .int (Zi a)), (0, .ref 83), (1, .int (Zi v)), (2, .int (Zi k))], [])) (fun _ => rfl) ?_
          refine Z_iinc (L2 := [(4, .int (Zi (f + 1))), (3, .int (Zi a)), (0, .ref 83), (1, .int (Zi v)), (2, .int (Zi k))]) rfl rfl (by decide) rfl ?_
          refine Z_go (f2 := (5, [(4, .int (Zi (f + 1))), (3, .int (Zi a)), (0, .ref 83), (1, .int (Zi v)), (2, .int (Zi k))], [])) (fun _ => rfl) ?_
          refine B_loc (K := [(4, .int (Zi (f + 1))), (3, .int (Zi a)), (0, .ref 83), (1, .int (Zi v)), (2, .int (Zi k))]) (N_all_sub ⟨rfl, rfl, rfl, rfl, rfl, trivial⟩) (show ([4, 3, 0, 1, 2] : List Nat).Nodup by decide) ?_
          have hn : ¬ D_hg fs (s.1 8) v f := fun ⟨Y, ⟨_, _, hY⟩, _⟩ => by rw [hf.no f0 (by omega) (by omega)] at hY; cases hY
          exact ih (f + 1) a h (by omega) hs (by omega) (by omega) (by rw [D_ct_s0 f0 hn]; exact ha) a0
theorem R_posting (d : Nat) (s : R_S) {v k : Int} {fs : Int → Option (List Int)} (zv : Zr v) (zk : Zr k) (w : R_fw s (-1)) (hf : R_fs s fs) : R_ok (d + 2) 186 [.int (Zi v), .int (Zi k)] s (fun x u => u = s ∧ ∃ z : Int, x = some (.int (Zi z)) ∧ (z = -1 ∧ (k < 0 ∨ (D_ct (D_hg fs (s.1 8) v) (s.1 8).toNat : Int) ≤ k) ∨ 0 ≤ k ∧ 0 ≤ z ∧ z < s.1 8 ∧ D_hg fs (s.1 8) v z ∧ (D_ct (D_hg fs (s.1 8) v) z.toNat : Int) = k)) := by
  refine R_enter (M := E_m186) rfl (Nat.le_of_ble_eq_true rfl) (fun h0 h hs => ?_)
  show B_R (d + 1) _ (0, [(0, .ref 83), (1, .int (Zi v)), (2, .int (Zi k))], []) _ _ _
  refine Z_go (f2 := (1, [(0, .ref 83), (1, .int (Zi v)), (2, .int (Zi k))], [.int (Zi k)])) (fun _ => rfl) ?_
  refine Z_go (f2 := (2, [(3, .int (Zi k)), (0, .ref 83), (1, .int (Zi v)), (2, .int (Zi k))], [])) (fun _ => rfl) ?_
  refine Z_go (f2 := (3, [(3, .int (Zi k)), (0, .ref 83), (1, .int (Zi v)), (2, .int (Zi k))], [.int (Zi 0)])) (fun _ => rfl) ?_
  refine Z_go (f2 := (5, [(4, .int (Zi 0)), (3, .int (Zi k)), (0, .ref 83), (1, .int (Zi v)), (2, .int (Zi k))], [])) (fun _ => rfl) ?_
  refine B_loc (K := [(4, .int (Zi 0)), (3, .int (Zi k)), (0, .ref 83), (1, .int (Zi v)), (2, .int (Zi k))]) (N_all_sub ⟨rfl, rfl, rfl, rfl, rfl, trivial⟩) (show ([4, 3, 0, 1, 2] : List Nat).Nodup by decide) ?_
  exact R_po_lp zv zk w hf ((s.1 8).toNat + 1) 0 k h (by have := w.w1.1; omega) hs (Int.le_refl 0) w.w1.1 (by show k = k - ((0 : Nat) : Int); omega) (.inr rfl)
/-- what is counted -/
def R_cq (s : R_S) (fs : Int → Option (List Int)) (w : Int) : Int := if w = 0 then s.1 7 else if w = 1 then s.1 3 else if w = 2 then s.1 8 else if w = 3 then R_goq fs 0 (s.1 8) else if w = 4 then R_goq fs 1 (s.1 8) else if w = 5 then s.1 1 else if w = 6 then s.1 70 else if w = 7 then s.1 71 else if w = 8 then s.1 72 else if w = 9 then (s.2.2.1 73).toInt else -1
theorem R_count (d : Nat) (s : R_S) {w : Int} {fs : Int → Option (List Int)} (zw : Zr w) (fw : R_fw s (-1)) (hf : R_fs s fs) (hsm : D_sm (D_ln fs) (s.1 8).toNat ≤ 16000) (h73 : Zr (s.2.2.1 73).toInt) : R_ok (d + 4) 284 [.int (Zi w)] s (fun x u => R_f4 [] [89] [] s u ∧ x = some (.int (Zi (R_cq s fs w)))) := by
  refine R_enter (M := E_m284) rfl (Nat.le_of_ble_eq_true rfl) (fun h0 h hs => ?_)
  show B_R (d + 3) _ (0, [(0, .ref 83), (1, .int (Zi w))], []) _ _ _
  refine Z_go (f2 := (1, [(0, .ref 83), (1, .int (Zi w))], [.int (Zi w)])) (fun _ => rfl) ?_
  rcases (by omega : w = 0 ∨ w = 1 ∨ w = 2 ∨ w = 3 ∨ w = 4 ∨ w = 5 ∨ w = 6 ∨ w = 7 ∨ w = 8 ∨ w = 9 ∨ (w < 0 ∨ 9 < w)) with y1 | y1 | y1 | y1 | y1 | y1 | y1 | y1 | y1 | y1 | y1
  · refine Z_swk (f2 := (56, [(0, .ref 83), (1, .int (Zi w))], [])) y1 (fun _ => rfl) ?_
    refine Z_go (f2 := (57, [(0, .ref 83), (1, .int (Zi w))], [.ref 83])) (fun _ => rfl) ?_
    refine R_gi rfl hs rfl ?_
    show B_R _ _ (60, [(0, .ref 83), (1, .int (Zi w))], [.int (Zi (s.1 7))]) _ _ _
    refine Z_iret rfl rfl (by first | rfl | decide | exact narrow_b01 (by omega)) ⟨_, hs, ?_, rfl⟩
    refine ⟨R_f4.rf _ _ _ _, ?_⟩
    unfold R_cq
    first | (subst_vars; simp; done) | (subst_vars; rfl) | (rw [if_neg (by omega), if_neg (by omega), if_neg (by omega), if_neg (by omega), if_neg (by omega), if_neg (by omega), if_neg (by omega), if_neg (by omega), if_neg (by omega), if_neg (by omega)])
  · refine Z_swk (f2 := (61, [(0, .ref 83), (1, .int (Zi w))], [])) y1 (fun _ => rfl) ?_
    refine Z_go (f2 := (62, [(0, .ref 83), (1, .int (Zi w))], [.ref 83])) (fun _ => rfl) ?_
    refine R_gi rfl hs rfl ?_
    show B_R _ _ (65, [(0, .ref 83), (1, .int (Zi w))], [.int (Zi (s.1 3))]) _ _ _
    refine Z_iret rfl rfl (by first | rfl | decide | exact narrow_b01 (by omega)) ⟨_, hs, ?_, rfl⟩
    refine ⟨R_f4.rf _ _ _ _, ?_⟩
    unfold R_cq
    first | (subst_vars; simp; done) | (subst_vars; rfl) | (rw [if_neg (by omega), if_neg (by omega), if_neg (by omega), if_neg (by omega), if_neg (by omega), if_neg (by omega), if_neg (by omega), if_neg (by omega), if_neg (by omega), if_neg (by omega)])
  · refine Z_swk (f2 := (66, [(0, .ref 83), (1, .int (Zi w))], [])) y1 (fun _ => rfl) ?_
    refine Z_go (f2 := (67, [(0, .ref 83), (1, .int (Zi w))], [.ref 83])) (fun _ => rfl) ?_
    refine R_gi rfl hs rfl ?_
    show B_R _ _ (70, [(0, .ref 83), (1, .int (Zi w))], [.int (Zi (s.1 8))]) _ _ _
    refine Z_iret rfl rfl (by first | rfl | decide | exact narrow_b01 (by omega)) ⟨_, hs, ?_, rfl⟩
    refine ⟨R_f4.rf _ _ _ _, ?_⟩
    unfold R_cq
    first | (subst_vars; simp; done) | (subst_vars; rfl) | (rw [if_neg (by omega), if_neg (by omega), if_neg (by omega), if_neg (by omega), if_neg (by omega), if_neg (by omega), if_neg (by omega), if_neg (by omega), if_neg (by omega), if_neg (by omega)])
  · refine Z_swk (f2 := (71, [(0, .ref 83), (1, .int (Zi w))], [])) y1 (fun _ => rfl) ?_
    refine Z_go (f2 := (72, [(0, .ref 83), (1, .int (Zi w))], [.ref 83])) (fun _ => rfl) ?_
    refine Z_go (f2 := (73, [(0, .ref 83), (1, .int (Zi w))], [.int (Zi 0), .ref 83])) (fun _ => rfl) ?_
    refine R_call (As := [.int (Zi 0)]) (rest := []) rfl (by decide) rfl rfl rfl rfl (by decide +kernel) (Nat.le_of_ble_eq_true rfl) hs (R_gramsOf _ s (e := 0) (fs := fs) (by omega) fw hf hsm) (fun x h u hs q => ?_)
    obtain ⟨f4, rfl⟩ := q
    show B_R _ _ (76, [(0, .ref 83), (1, .int (Zi w))], [.int (Zi (R_goq fs 0 (s.1 8)))]) _ _ _
    refine Z_iret rfl rfl (by first | rfl | decide | exact narrow_b01 (by omega)) ⟨_, hs, ?_, rfl⟩
    refine ⟨f4, ?_⟩
    unfold R_cq
    subst_vars
    simp
  · refine Z_swk (f2 := (77, [(0, .ref 83), (1, .int (Zi w))], [])) y1 (fun _ => rfl) ?_
    refine Z_go (f2 := (78, [(0, .ref 83), (1, .int (Zi w))], [.ref 83])) (fun _ => rfl) ?_
    refine Z_go (f2 := (79, [(0, .ref 83), (1, .int (Zi w))], [.int (Zi 1), .ref 83])) (fun _ => rfl) ?_
    refine R_call (As := [.int (Zi 1)]) (rest := []) rfl (by decide) rfl rfl rfl rfl (by decide +kernel) (Nat.le_of_ble_eq_true rfl) hs (R_gramsOf _ s (e := 1) (fs := fs) (by omega) fw hf hsm) (fun x h u hs q => ?_)
    obtain ⟨f4, rfl⟩ := q
    show B_R _ _ (82, [(0, .ref 83), (1, .int (Zi w))], [.int (Zi (R_goq fs 1 (s.1 8)))]) _ _ _
    refine Z_iret rfl rfl (by first | rfl | decide | exact narrow_b01 (by omega)) ⟨_, hs, ?_, rfl⟩
    refine ⟨f4, ?_⟩
    unfold R_cq
    subst_vars
    simp
  · refine Z_swk (f2 := (83, [(0, .ref 83), (1, .int (Zi w))], [])) y1 (fun _ => rfl) ?_
    refine Z_go (f2 := (84, [(0, .ref 83), (1, .int (Zi w))], [.ref 83])) (fun _ => rfl) ?_
    refine R_gi rfl hs rfl ?_
    show B_R _ _ (87, [(0, .ref 83), (1, .int (Zi w))], [.int (Zi (s.1 1))]) _ _ _
    refine Z_iret rfl rfl (by first | rfl | decide | exact narrow_b01 (by omega)) ⟨_, hs, ?_, rfl⟩
    refine ⟨R_f4.rf _ _ _ _, ?_⟩
    unfold R_cq
    first | (subst_vars; simp; done) | (subst_vars; rfl) | (rw [if_neg (by omega), if_neg (by omega), if_neg (by omega), if_neg (by omega), if_neg (by omega), if_neg (by omega), if_neg (by omega), if_neg (by omega), if_neg (by omega), if_neg (by omega)])
  · refine Z_swk (f2 := (88, [(0, .ref 83), (1, .int (Zi w))], [])) y1 (fun _ => rfl) ?_
    refine Z_go (f2 := (89, [(0, .ref 83), (1, .int (Zi w))], [.ref 83])) (fun _ => rfl) ?_
    refine R_gi rfl hs rfl ?_
    show B_R _ _ (92, [(0, .ref 83), (1, .int (Zi w))], [.int (Zi (s.1 70))]) _ _ _
    refine Z_iret rfl rfl (by first | rfl | decide | exact narrow_b01 (by omega)) ⟨_, hs, ?_, rfl⟩
    refine ⟨R_f4.rf _ _ _ _, ?_⟩
    unfold R_cq
    first | (subst_vars; simp; done) | (subst_vars; rfl) | (rw [if_neg (by omega), if_neg (by omega), if_neg (by omega), if_neg (by omega), if_neg (by omega), if_neg (by omega), if_neg (by omega), if_neg (by omega), if_neg (by omega), if_neg (by omega)])
  · refine Z_swk (f2 := (93, [(0, .ref 83), (1, .int (Zi w))], [])) y1 (fun _ => rfl) ?_
    refine Z_go (f2 := (94, [(0, .ref 83), (1, .int (Zi w))], [.ref 83])) (fun _ => rfl) ?_
    refine R_gi rfl hs rfl ?_
    show B_R _ _ (97, [(0, .ref 83), (1, .int (Zi w))], [.int (Zi (s.1 71))]) _ _ _
    refine Z_iret rfl rfl (by first | rfl | decide | exact narrow_b01 (by omega)) ⟨_, hs, ?_, rfl⟩
    refine ⟨R_f4.rf _ _ _ _, ?_⟩
    unfold R_cq
    first | (subst_vars; simp; done) | (subst_vars; rfl) | (rw [if_neg (by omega), if_neg (by omega), if_neg (by omega), if_neg (by omega), if_neg (by omega), if_neg (by omega), if_neg (by omega), if_neg (by omega), if_neg (by omega), if_neg (by omega)])
  · refine Z_swk (f2 := (98, [(0, .ref 83), (1, .int (Zi w))], [])) y1 (fun _ => rfl) ?_
    refine Z_go (f2 := (99, [(0, .ref 83), (1, .int (Zi w))], [.ref 83])) (fun _ => rfl) ?_
    refine R_gi rfl hs rfl ?_
    show B_R _ _ (102, [(0, .ref 83), (1, .int (Zi w))], [.int (Zi (s.1 72))]) _ _ _
    refine Z_iret rfl rfl (by first | rfl | decide | exact narrow_b01 (by omega)) ⟨_, hs, ?_, rfl⟩
    refine ⟨R_f4.rf _ _ _ _, ?_⟩
    unfold R_cq
    first | (subst_vars; simp; done) | (subst_vars; rfl) | (rw [if_neg (by omega), if_neg (by omega), if_neg (by omega), if_neg (by omega), if_neg (by omega), if_neg (by omega), if_neg (by omega), if_neg (by omega), if_neg (by omega), if_neg (by omega)])
  · refine Z_swk (f2 := (103, [(0, .ref 83), (1, .int (Zi w))], [])) y1 (fun _ => rfl) ?_
    refine Z_go (f2 := (104, [(0, .ref 83), (1, .int (Zi w))], [.ref 83])) (fun _ => rfl) ?_
    refine R_gl rfl hs rfl ?_
    show B_R _ _ (107, [(0, .ref 83), (1, .int (Zi w))], [.long (s.2.2.1 73)]) _ _ _
    refine Z_l2i rfl (Zl_l2i _) ?_
    refine Z_iret rfl rfl (by first | rfl | decide | exact narrow_b01 (by omega)) ⟨_, hs, ?_, rfl⟩
    refine ⟨R_f4.rf _ _ _ _, ?_⟩
    unfold R_cq
    first | (subst_vars; simp; done) | (subst_vars; rfl) | (rw [if_neg (by omega), if_neg (by omega), if_neg (by omega), if_neg (by omega), if_neg (by omega), if_neg (by omega), if_neg (by omega), if_neg (by omega), if_neg (by omega), if_neg (by omega)])
  · refine Z_tswd rfl (by first | exact hs.zF _ | exact Zor_r _ _ | exact hs.zA _ _ | assumption | exact zA _ _ | exact zS _ | exact Zr_not (hs.zA _ _) | exact ⟨by omega, by omega⟩) y1 (by rfl) ?_
    show B_R _ _ (109, [(0, .ref 83), (1, .int (Zi w))], []) _ _ _
    refine Z_go (f2 := (110, [(0, .ref 83), (1, .int (Zi w))], [.int (Zi (-1))])) (fun _ => rfl) ?_
    refine Z_iret rfl rfl (by first | rfl | decide | exact narrow_b01 (by omega)) ⟨_, hs, ?_, rfl⟩
    refine ⟨R_f4.rf _ _ _ _, ?_⟩
    unfold R_cq
    first | (subst_vars; simp; done) | (subst_vars; rfl) | (rw [if_neg (by omega), if_neg (by omega), if_neg (by omega), if_neg (by omega), if_neg (by omega), if_neg (by omega), if_neg (by omega), if_neg (by omega), if_neg (by omega), if_neg (by omega)])
