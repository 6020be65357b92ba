/-! the reference: ends within bounds -/
def X_sh (hd e : Int) : Int := 65536 + 256 * (if hd ≠ 0 ∨ e / 65536 = 1 then e / 256 % 256 else e % 256)
def X_shl (hd : Int) (t : List Int) : List Int := if hd ≠ 0 then t.take 1 else t.drop (t.length - 1)
theorem X_sh_v (hd e : Int) : X_v (X_sh hd e) := by
  unfold X_sh X_v
  split <;> omega
theorem X_sh_dec {hd e : Int} (h : X_v e) (n : e ≠ 0) : X_dec (X_sh hd e) = X_shl hd (X_dec e) := by
  have e1 : X_dec (X_sh hd e) = [if hd ≠ 0 ∨ e / 65536 = 1 then e / 256 % 256 else e % 256] := by
    unfold X_sh
    have hf : 0 ≤ (if hd ≠ 0 ∨ e / 65536 = 1 then e / 256 % 256 else e % 256) ∧ (if hd ≠ 0 ∨ e / 65536 = 1 then e / 256 % 256 else e % 256) < 256 := by
      split <;> omega
    revert hf
    generalize (if hd ≠ 0 ∨ e / 65536 = 1 then e / 256 % 256 else e % 256) = f
    intro hf
    unfold X_dec
    rw [if_neg (by omega), if_pos (by omega), show (65536 + 256 * f) / 256 % 256 = f by omega]
  rw [e1]
  unfold X_shl
  rcases h with h | h | h
  · exact absurd h n
  · have d2 : X_dec e = [e / 256 % 256] := by unfold X_dec; rw [if_neg (by omega), if_pos (by omega)]
    rw [d2, if_pos (.inr (by omega))]
    split <;> rfl
  · have d2 : X_dec e = [e / 256 % 256, e % 256] := by unfold X_dec; rw [if_neg (by omega), if_neg (by omega)]
    rw [d2]
    by_cases c : hd ≠ 0
    · rw [if_pos c, if_pos (.inl c)]; rfl
    · rw [if_neg c, if_neg (by omega)]; rfl
noncomputable def X_bnd (hd : Int) (H : P_X) : P_X := E_bnd (X_pre hd) (X_shl hd) H
theorem X_bnd_hs {hd : Int} (h : hd ≠ 0) (H : P_X) : X_bnd hd H = E_hs H := by
  have e1 : X_pre hd = fun a b => a <+: b := funext (fun a => funext (fun b => if_pos h))
  have e2 : X_shl hd = fun t => t.take 1 := funext (fun t => if_pos h)
  unfold X_bnd E_hs
  rw [e1, e2]
theorem X_bnd_ts {hd : Int} (h : hd = 0) (H : P_X) : X_bnd hd H = E_ts H := by
  have e1 : X_pre hd = fun a b => a <:+ b := funext (fun a => funext (fun b => if_neg (fun q => q h)))
  have e2 : X_shl hd = fun t => t.drop (t.length - 1) := funext (fun t => if_neg (fun q => q h))
  unfold X_bnd E_ts
  rw [e1, e2]
theorem R_SH_card {u : R_S} (pv : R_sv u) (ds : ∀ j k, 0 ≤ j → j < k → k < u.1 41 → u.2.1 110 j ≠ u.2.1 110 k) (n : Nat) : S_card (R_SH u) n ↔ u.1 41 ≤ n := by
  have p0 := pv.1
  have nd : ((List.range (u.1 41).toNat).map (fun i : Nat => X_dec (u.2.1 110 i))).Nodup := by
    refine List.pairwise_map.mpr (List.Pairwise.imp_of_mem (fun {a b} ha hb hab => ?_) (List.pairwise_lt_range (n := (u.1 41).toNat)))
    have ha := List.mem_range.mp ha
    have hb := List.mem_range.mp hb
    exact fun e => ds a b (by omega) (by omega) (by omega) (X_dec_inj (pv.2.2 a (by omega) (by omega)) (pv.2.2 b (by omega) (by omega)) e)
  rw [S_card_of nd (A := R_SH u) (fun x => ?_)]
  · rw [List.length_map, List.length_range]
    omega
  · rw [List.mem_map]
    constructor
    · rintro ⟨i, hi, rfl⟩
      have hi := List.mem_range.mp hi
      exact ⟨i, by omega, by omega, rfl⟩
    · rintro ⟨c, a, b, rfl⟩
      exact ⟨c.toNat, List.mem_range.mpr (by omega), by rw [show ((c.toNat : Nat) : Int) = c by omega]⟩
/-- with the empty end there is no other -/
theorem R_lst_no0 {s u : R_S} {hd : Int} (h : R_lst s u hd) (h1 : 1 < u.1 41) {k : Int} (k0 : 0 ≤ k) (k1 : k < u.1 41) : u.2.1 110 k ≠ 0 := by
  obtain ⟨a1, a2, a3, pv, a5, ds, hm⟩ := h
  intro e
  have hk : R_SH u [] := ⟨k, k0, k1, by rw [e]; rfl⟩
  have all : ∀ j, 0 ≤ j → j < u.1 41 → X_dec (u.2.1 110 j) = [] := by
    intro j j0 j1
    have hj : R_SH u (X_dec (u.2.1 110 j)) := ⟨j, j0, j1, rfl⟩
    rw [hm] at hj hk
    have := hj.2 [] hk.1 (by unfold X_pre; split; exact List.nil_prefix; exact List.nil_suffix)
    exact this.symm
  have e0 := all 0 (by omega) (by omega)
  have e1 := all 1 (by omega) (by omega)
  exact ds 0 1 (by omega) (by omega) (by omega) (X_dec_inj (pv.2.2 0 (by omega) (by omega)) (pv.2.2 1 (by omega) (by omega)) (by rw [e0, e1]))
/-- what bounds leaves -/
def R_bnp (s u : R_S) (hd : Int) : Prop := (∀ b, b ≠ 41 → u.1 b = s.1 b) ∧ (∀ q j, q ≠ 109 → q ≠ 110 → u.2.1 q j = s.2.1 q j) ∧ u.2.2 = s.2.2 ∧ R_sv u ∧ u.1 41 ≤ 12 ∧ (∀ j k, 0 ≤ j → j < k → k < u.1 41 → u.2.1 110 j ≠ u.2.1 110 k) ∧ R_SH u = X_bnd hd (R_SH s)
theorem R_bnp_1 {s u : R_S} {hd : Int} (h : R_lst s u hd) (h12 : u.1 41 ≤ 12) : R_bnp s u hd := by
  obtain ⟨a1, a2, a3, pv, a5, ds, hm⟩ := h
  refine ⟨a1, a2, a3, pv, h12, ds, ?_⟩
  have := (R_SH_card pv ds 12).mpr (by omega)
  rw [hm] at this
  unfold X_bnd E_bnd
  rw [c_pos this]
  exact hm
theorem R_SH_fl {u : R_S} {hd : Int} (pv : R_sv u) (n0 : ∀ k, 0 ≤ k → k < u.1 41 → u.2.1 110 k ≠ 0) : R_SH (R_fl u 110 0 (u.1 41) (fun j => X_sh hd (u.2.1 110 j))) = fun y => ∃ x, R_SH u x ∧ y = X_shl hd x := by
  funext y
  refine propext ⟨?_, ?_⟩
  · rintro ⟨k, k0, k1, rfl⟩
    have k1 : k < u.1 41 := k1
    rw [R_fl_i k0 k1, X_sh_dec (pv.2.2 k k0 k1) (n0 k k0 k1)]
    exact ⟨_, ⟨k, k0, k1, rfl⟩, rfl⟩
  · rintro ⟨x, ⟨k, k0, k1, rfl⟩, rfl⟩
    exact ⟨k, k0, k1, by rw [R_fl_i k0 k1, X_sh_dec (pv.2.2 k k0 k1) (n0 k k0 k1)]⟩
theorem R_sv_fl {u : R_S} {hd : Int} (pv : R_sv u) : R_sv (R_fl u 110 0 (u.1 41) (fun j => X_sh hd (u.2.1 110 j))) := by
  refine ⟨pv.1, pv.2.1, fun k k0 k1 => ?_⟩
  have k1 : k < u.1 41 := k1
  rw [R_fl_i k0 k1]
  exact X_sh_v _ _
theorem R_bnp_2 {s u w : R_S} {hd : Int} (h : R_lst s u hd) (h12 : 12 < u.1 41) (g : R_lst (R_fl u 110 0 (u.1 41) (fun j => X_sh hd (u.2.1 110 j))) w hd) : (w.1 41 ≤ 12 → R_bnp s w hd) ∧ (12 < w.1 41 → R_bnp s (R_sA (R_sF w 41 1) 110 0 0) hd) := by
  have n0 : ∀ k, 0 ≤ k → k < u.1 41 → u.2.1 110 k ≠ 0 := fun k k0 k1 => R_lst_no0 h (by omega) k0 k1
  obtain ⟨a1, a2, a3, pv, a5, ds, hm⟩ := h
  obtain ⟨b1, b2, b3, pw, b5, dw, hw⟩ := g
  rw [R_SH_fl pv n0, hm] at hw
  have c1 : ¬ S_card (S_min (X_pre hd) (R_SH s)) 12 := fun q => by
    rw [← hm] at q
    have := (R_SH_card pv ds 12).mp q
    omega
  have f1 : ∀ b, b ≠ 41 → w.1 b = s.1 b := fun b hb => by rw [b1 b hb]; exact a1 b hb
  have f2 : ∀ q j, q ≠ 109 → q ≠ 110 → w.2.1 q j = s.2.1 q j := fun q j x y => by rw [b2 q j x y, R_fl_n y]; exact a2 q j x y
  have f3 : w.2.2 = s.2.2 := by rw [b3]; exact a3
  refine ⟨fun q => ⟨f1, f2, f3, pw, q, dw, ?_⟩, fun q => ⟨fun b hb => ?_, fun p j x y => ?_, f3, ⟨?_, ?_, fun k k0 k1 => ?_⟩, ?_, fun j k j0 jk k1 => ?_, ?_⟩⟩
  · have := (R_SH_card pw dw 12).mpr (by omega)
    rw [hw] at this
    unfold X_bnd E_bnd
    rw [c_neg c1, c_pos this]
    exact hw
  · show (R_sF w 41 1).1 b = _
    rw [R_sF_n _ _ hb]
    exact f1 b hb
  · rw [R_sA_n _ _ _ _ y]
    exact f2 p j x y
  · show 0 ≤ (R_sF w 41 1).1 41
    rw [R_sF_s]
    decide
  · show (R_sF w 41 1).1 41 ≤ 160
    rw [R_sF_s]
    decide
  · have k1 : k < (R_sF w 41 1).1 41 := k1
    rw [R_sF_s] at k1
    have : k = 0 := by omega
    rw [this, R_sA_s]
    exact .inl rfl
  · show (R_sF w 41 1).1 41 ≤ 12
    rw [R_sF_s]
    decide
  · have k1 : k < (R_sF w 41 1).1 41 := k1
    rw [R_sF_s] at k1
    omega
  · have c2 : ¬ S_card (S_min (X_pre hd) (fun y => ∃ x, S_min (X_pre hd) (R_SH s) x ∧ y = X_shl hd x)) 12 := fun z => by
      rw [← hw] at z
      have := (R_SH_card pw dw 12).mp z
      omega
    unfold X_bnd E_bnd
    rw [c_neg c1, c_neg c2]
    funext x
    refine propext ⟨?_, ?_⟩
    · rintro ⟨k, k0, k1, rfl⟩
      have k1 : k < (R_sF w 41 1).1 41 := k1
      rw [R_sF_s] at k1
      have : k = 0 := by omega
      rw [this, R_sA_s]
      rfl
    · intro hx
      have hx : x = [] := hx
      refine ⟨0, Int.le_refl _, ?_, by rw [R_sA_s, hx]; rfl⟩
      show 0 < (R_sF w 41 1).1 41
      rw [R_sF_s]
      decide
theorem R_bd_lp {d : Nat} {h0 : E_H} {s : R_S} {sl : Nat} {Φ : E_R → Prop} {hd : Int} (zhd : Zr hd) (pv : R_sv s) (zA : ∀ q j, Zr (s.2.1 q j)) (kont : ∀ (h : E_H), R_is h0 h (R_fl s 110 0 (s.1 41) (fun j => X_sh hd (s.2.1 110 j))) → B_R (d + 1) E_m219 (71, [(2, .int (Zi (s.1 41))), (0, .ref 83), (1, .int (Zi hd))], []) h sl Φ) : ∀ (t : Nat) (k : Int) (h : E_H), s.1 41 - k < t → R_is h0 h (R_fl s 110 0 k (fun j => X_sh hd (s.2.1 110 j))) → 0 ≤ k → k ≤ s.1 41 → B_R (d + 1) E_m219 (16, [(2, .int (Zi k)), (0, .ref 83), (1, .int (Zi hd))], []) h sl Φ := by
  intro t
  induction t with
  | zero => intro k h ht hs k0 k1; omega
  | succ t ih =>
    intro k h ht hs k0 k1
    have e110 : (R_fl s 110 0 k (fun j => X_sh hd (s.2.1 110 j))).2.1 110 k = s.2.1 110 k := R_fl_o (by omega)
    have p41 := pv.2.1
    have vk : k < s.1 41 → 0 ≤ s.2.1 110 k ∧ s.2.1 110 k < 196608 := fun q => by have := pv.2.2 k k0 q; unfold X_v at this; omega
    refine Z_go (f2 := (17, [(2, .int (Zi k)), (0, .ref 83), (1, .int (Zi hd))], [.int (Zi k)])) (fun _ => rfl) ?_
    refine Z_go (f2 := (18, [(2, .int (Zi k)), (0, .ref 83), (1, .int (Zi hd))], [.ref 83, .int (Zi k)])) (fun _ => rfl) ?_
    refine R_gi rfl hs rfl ?_
    show B_R _ _ (21, [(2, .int (Zi k)), (0, .ref 83), (1, .int (Zi hd))], [.int (Zi (s.1 41)), .int (Zi k)]) _ _ _
    refine Z_cge rfl rfl (by first | exact hs.zF _ | exact Zor_r _ _ | exact hs.zA _ _ | assumption | exact zA _ _ | exact zS _ | exact Zr_not (hs.zA _ _) | exact ⟨by omega, by omega⟩) (by first | exact hs.zF _ | exact Zor_r _ _ | exact hs.zA _ _ | assumption | exact zA _ _ | exact zS _ | exact Zr_not (hs.zA _ _) | exact ⟨by omega, by omega⟩) (fun c1 => ?_) (fun c1 => ?_)
    · obtain rfl : k = s.1 41 := by omega
      exact kont h hs 
    · refine Z_go (f2 := (25, [(2, .int (Zi k)), (0, .ref 83), (1, .int (Zi hd))], [.ref 83])) (fun _ => rfl) ?_
      refine R_gr (q := 108) rfl hs rfl ?_
      show B_R _ _ (28, [(2, .int (Zi k)), (0, .ref 83), (1, .int (Zi hd))], [.ref 110]) _ _ _
      refine Z_go (f2 := (29, [(2, .int (Zi k)), (0, .ref 83), (1, .int (Zi hd))], [.int (Zi k), .ref 110])) (fun _ => rfl) ?_
      refine R_ia (q := 26) rfl hs rfl rfl (by omega) (by omega) (by decide) ?_
      have vk2 := vk (by omega)
      rw [e110]
      refine Z_go (f2 := (31, [(3, .int (Zi (s.2.1 110 k))), (2, .int (Zi k)), (0, .ref 83), (1, .int (Zi hd))], [])) (fun _ => rfl) ?_
      refine Z_go (f2 := (32, [(3, .int (Zi (s.2.1 110 k))), (2, .int (Zi k)), (0, .ref 83), (1, .int (Zi hd))], [.ref 83])) (fun _ => rfl) ?_
      refine R_gr (q := 108) rfl hs rfl ?_
      show B_R _ _ (35, [(3, .int (Zi (s.2.1 110 k))), (2, .int (Zi k)), (0, .ref 83), (1, .int (Zi hd))], [.ref 110]) _ _ _
      refine Z_go (f2 := (36, [(3, .int (Zi (s.2.1 110 k))), (2, .int (Zi k)), (0, .ref 83), (1, .int (Zi hd))], [.int (Zi k), .ref 110])) (fun _ => rfl) ?_
      refine Z_go (f2 := (37, [(3, .int (Zi (s.2.1 110 k))), (2, .int (Zi k)), (0, .ref 83), (1, .int (Zi hd))], [.int (Zi 1), .int (Zi k), .ref 110])) (fun _ => rfl) ?_
      refine Z_go (f2 := (38, [(3, .int (Zi (s.2.1 110 k))), (2, .int (Zi k)), (0, .ref 83), (1, .int (Zi hd))], [.int (Zi hd), .int (Zi 1), .int (Zi k), .ref 110])) (fun _ => rfl) ?_
      refine Z_ine rfl rfl (by first | exact hs.zF _ | exact Zor_r _ _ | exact hs.zA _ _ | assumption | exact zA _ _ | exact zS _ | exact Zr_not (hs.zA _ _) | exact ⟨by omega, by omega⟩) (fun c2 => ?_) (fun c2 => ?_)
      · refine Z_go (f2 := (50, [(3, .int (Zi (s.2.1 110 k))), (2, .int (Zi k)), (0, .ref 83), (1, .int (Zi hd))], [.int (Zi (s.2.1 110 k)), .int (Zi 1), .int (Zi k), .ref 110])) (fun _ => rfl) ?_
        refine Z_callQ (vs := [.int (Zi (s.2.1 110 k))]) (rest := [.int (Zi 1), .int (Zi k), .ref 110]) rfl (by decide) rfl rfl rfl (Nat.le_of_ble_eq_true rfl) (R_firstOf _ (by first | assumption | exact zA _ _ | exact ⟨by omega, by omega⟩) (by omega) (by omega)) (fun x q => ?_)
        obtain rfl := q
        show B_R _ _ (53, [(3, .int (Zi (s.2.1 110 k))), (2, .int (Zi k)), (0, .ref 83), (1, .int (Zi hd))], [.int (Zi ((s.2.1 110 k) / 256 % 256)), .int (Zi 1), .int (Zi k), .ref 110]) _ _ _
        refine Z_go (f2 := (60, [(3, .int (Zi (s.2.1 110 k))), (2, .int (Zi k)), (0, .ref 83), (1, .int (Zi hd))], [.int (Zi ((s.2.1 110 k) / 256 % 256)), .int (Zi 1), .int (Zi k), .ref 110])) (fun _ => rfl) ?_
        refine Z_go (f2 := (61, [(3, .int (Zi (s.2.1 110 k))), (2, .int (Zi k)), (0, .ref 83), (1, .int (Zi hd))], [.int (Zi 0), .int (Zi ((s.2.1 110 k) / 256 % 256)), .int (Zi 1), .int (Zi k), .ref 110])) (fun _ => rfl) ?_
        refine Z_callQ (vs := [.int (Zi 1), .int (Zi ((s.2.1 110 k) / 256 % 256)), .int (Zi 0)]) (rest := [.int (Zi k), .ref 110]) rfl (by decide) rfl rfl rfl (Nat.le_of_ble_eq_true rfl) (R_endOf _ ⟨by omega, by omega⟩ (show Zr ((s.2.1 110 k) / 256 % 256) from ⟨by omega, by omega⟩) ⟨by omega, by omega⟩) (fun x q => ?_)
        rw [if_neg (by omega), if_pos rfl] at q
        obtain rfl := q
        show B_R _ _ (64, [(3, .int (Zi (s.2.1 110 k))), (2, .int (Zi k)), (0, .ref 83), (1, .int (Zi hd))], [.int (Zi (65536 + 256 * ((s.2.1 110 k) / 256 % 256))), .int (Zi k), .ref 110]) _ _ _
        refine R_is_ (q := 26) rfl hs rfl rfl (by omega) (by omega) (by decide) (by first | exact hs.zF _ | exact Zor_r _ _ | exact hs.zA _ _ | assumption | exact zA _ _ | exact zS _ | exact Zr_not (hs.zA _ _) | exact ⟨by omega, by omega⟩) (fun h hs => ?_)
        refine Z_iinc (L2 := [(2, .int (Zi (k + 1))), (3, .int (Zi (s.2.1 110 k))), (0, .ref 83), (1, .int (Zi hd))]) rfl rfl (by decide) rfl ?_
        refine Z_go (f2 := (16, [(2, .int (Zi (k + 1))), (3, .int (Zi (s.2.1 110 k))), (0, .ref 83), (1, .int (Zi hd))], [])) (fun _ => rfl) ?_
        refine B_loc (K := [(2, .int (Zi (k + 1))), (0, .ref 83), (1, .int (Zi hd))]) (N_all_sub ⟨rfl, rfl, rfl, trivial⟩) (show ([2, 0, 1] : List Nat).Nodup by decide) ?_
        rw [R_fl_st (by omega) rfl (by unfold X_sh; first | rw [if_pos (by omega)] | rw [if_neg (by omega)])] at hs
        exact ih _ _ (by omega) hs (by omega) (by omega)
      · refine Z_go (f2 := (42, [(3, .int (Zi (s.2.1 110 k))), (2, .int (Zi k)), (0, .ref 83), (1, .int (Zi hd))], [.int (Zi (s.2.1 110 k)), .int (Zi 1), .int (Zi k), .ref 110])) (fun _ => rfl) ?_
        refine Z_callQ (vs := [.int (Zi (s.2.1 110 k))]) (rest := [.int (Zi 1), .int (Zi k), .ref 110]) rfl (by decide) rfl rfl rfl (Nat.le_of_ble_eq_true rfl) (R_sizeOf _ (by first | assumption | exact zA _ _ | exact ⟨by omega, by omega⟩) (by omega) (by omega)) (fun x q => ?_)
        obtain rfl := q
        show B_R _ _ (45, [(3, .int (Zi (s.2.1 110 k))), (2, .int (Zi k)), (0, .ref 83), (1, .int (Zi hd))], [.int (Zi ((s.2.1 110 k) / 65536)), .int (Zi 1), .int (Zi k), .ref 110]) _ _ _
        refine Z_go (f2 := (46, [(3, .int (Zi (s.2.1 110 k))), (2, .int (Zi k)), (0, .ref 83), (1, .int (Zi hd))], [.int (Zi 1), .int (Zi ((s.2.1 110 k) / 65536)), .int (Zi 1), .int (Zi k), .ref 110])) (fun _ => rfl) ?_
        refine Z_cne rfl rfl (by first | exact hs.zF _ | exact Zor_r _ _ | exact hs.zA _ _ | assumption | exact zA _ _ | exact zS _ | exact Zr_not (hs.zA _ _) | exact ⟨by omega, by omega⟩) (by first | exact hs.zF _ | exact Zor_r _ _ | exact hs.zA _ _ | assumption | exact zA _ _ | exact zS _ | exact Zr_not (hs.zA _ _) | exact ⟨by omega, by omega⟩) (fun c3 => ?_) (fun c3 => ?_)
        · refine Z_go (f2 := (57, [(3, .int (Zi (s.2.1 110 k))), (2, .int (Zi k)), (0, .ref 83), (1, .int (Zi hd))], [.int (Zi (s.2.1 110 k)), .int (Zi 1), .int (Zi k), .ref 110])) (fun _ => rfl) ?_
          refine Z_callQ (vs := [.int (Zi (s.2.1 110 k))]) (rest := [.int (Zi 1), .int (Zi k), .ref 110]) rfl (by decide) rfl rfl rfl (Nat.le_of_ble_eq_true rfl) (R_secondOf _ (by first | assumption | exact zA _ _ | exact ⟨by omega, by omega⟩) (by omega) (by omega)) (fun x q => ?_)
          obtain rfl := q
          show B_R _ _ (60, [(3, .int (Zi (s.2.1 110 k))), (2, .int (Zi k)), (0, .ref 83), (1, .int (Zi hd))], [.int (Zi ((s.2.1 110 k) % 256)), .int (Zi 1), .int (Zi k), .ref 110]) _ _ _
          refine Z_go (f2 := (61, [(3, .int (Zi (s.2.1 110 k))), (2, .int (Zi k)), (0, .ref 83), (1, .int (Zi hd))], [.int (Zi 0), .int (Zi ((s.2.1 110 k) % 256)), .int (Zi 1), .int (Zi k), .ref 110])) (fun _ => rfl) ?_
          refine Z_callQ (vs := [.int (Zi 1), .int (Zi ((s.2.1 110 k) % 256)), .int (Zi 0)]) (rest := [.int (Zi k), .ref 110]) rfl (by decide) rfl rfl rfl (Nat.le_of_ble_eq_true rfl) (R_endOf _ ⟨by omega, by omega⟩ (show Zr ((s.2.1 110 k) % 256) from ⟨by omega, by omega⟩) ⟨by omega, by omega⟩) (fun x q => ?_)
          rw [if_neg (by omega), if_pos rfl] at q
          obtain rfl := q
          show B_R _ _ (64, [(3, .int (Zi (s.2.1 110 k))), (2, .int (Zi k)), (0, .ref 83), (1, .int (Zi hd))], [.int (Zi (65536 + 256 * ((s.2.1 110 k) % 256))), .int (Zi k), .ref 110]) _ _ _
          refine R_is_ (q := 26) rfl hs rfl rfl (by omega) (by omega) (by decide) (by first | exact hs.zF _ | exact Zor_r _ _ | exact hs.zA _ _ | assumption | exact zA _ _ | exact zS _ | exact Zr_not (hs.zA _ _) | exact ⟨by omega, by omega⟩) (fun h hs => ?_)
          refine Z_iinc (L2 := [(2, .int (Zi (k + 1))), (3, .int (Zi (s.2.1 110 k))), (0, .ref 83), (1, .int (Zi hd))]) rfl rfl (by decide) rfl ?_
          refine Z_go (f2 := (16, [(2, .int (Zi (k + 1))), (3, .int (Zi (s.2.1 110 k))), (0, .ref 83), (1, .int (Zi hd))], [])) (fun _ => rfl) ?_
          refine B_loc (K := [(2, .int (Zi (k + 1))), (0, .ref 83), (1, .int (Zi hd))]) (N_all_sub ⟨rfl, rfl, rfl, trivial⟩) (show ([2, 0, 1] : List Nat).Nodup by decide) ?_
          rw [R_fl_st (by omega) rfl (by unfold X_sh; first | rw [if_pos (by omega)] | rw [if_neg (by omega)])] at hs
          exact ih _ _ (by omega) hs (by omega) (by omega)
        · refine Z_go (f2 := (50, [(3, .int (Zi (s.2.1 110 k))), (2, .int (Zi k)), (0, .ref 83), (1, .int (Zi hd))], [.int (Zi (s.2.1 110 k)), .int (Zi 1), .int (Zi k), .ref 110])) (fun _ => rfl) ?_
          refine Z_callQ (vs := [.int (Zi (s.2.1 110 k))]) (rest := [.int (Zi 1), .int (Zi k), .ref 110]) rfl (by decide) rfl rfl rfl (Nat.le_of_ble_eq_true rfl) (R_firstOf _ (by first | assumption | exact zA _ _ | exact ⟨by omega, by omega⟩) (by omega) (by omega)) (fun x q => ?_)
          obtain rfl := q
          show B_R _ _ (53, [(3, .int (Zi (s.2.1 110 k))), (2, .int (Zi k)), (0, .ref 83), (1, .int (Zi hd))], [.int (Zi ((s.2.1 110 k) / 256 % 256)), .int (Zi 1), .int (Zi k), .ref 110]) _ _ _
          refine Z_go (f2 := (60, [(3, .int (Zi (s.2.1 110 k))), (2, .int (Zi k)), (0, .ref 83), (1, .int (Zi hd))], [.int (Zi ((s.2.1 110 k) / 256 % 256)), .int (Zi 1), .int (Zi k), .ref 110])) (fun _ => rfl) ?_
          refine Z_go (f2 := (61, [(3, .int (Zi (s.2.1 110 k))), (2, .int (Zi k)), (0, .ref 83), (1, .int (Zi hd))], [.int (Zi 0), .int (Zi ((s.2.1 110 k) / 256 % 256)), .int (Zi 1), .int (Zi k), .ref 110])) (fun _ => rfl) ?_
          refine Z_callQ (vs := [.int (Zi 1), .int (Zi ((s.2.1 110 k) / 256 % 256)), .int (Zi 0)]) (rest := [.int (Zi k), .ref 110]) rfl (by decide) rfl rfl rfl (Nat.le_of_ble_eq_true rfl) (R_endOf _ ⟨by omega, by omega⟩ (show Zr ((s.2.1 110 k) / 256 % 256) from ⟨by omega, by omega⟩) ⟨by omega, by omega⟩) (fun x q => ?_)
          rw [if_neg (by omega), if_pos rfl] at q
          obtain rfl := q
          show B_R _ _ (64, [(3, .int (Zi (s.2.1 110 k))), (2, .int (Zi k)), (0, .ref 83), (1, .int (Zi hd))], [.int (Zi (65536 + 256 * ((s.2.1 110 k) / 256 % 256))), .int (Zi k), .ref 110]) _ _ _
          refine R_is_ (q := 26) rfl hs rfl rfl (by omega) (by omega) (by decide) (by first | exact hs.zF _ | exact Zor_r _ _ | exact hs.zA _ _ | assumption | exact zA _ _ | exact zS _ | exact Zr_not (hs.zA _ _) | exact ⟨by omega, by omega⟩) (fun h hs => ?_)
          refine Z_iinc (L2 := [(2, .int (Zi (k + 1))), (3, .int (Zi (s.2.1 110 k))), (0, .ref 83), (1, .int (Zi hd))]) rfl rfl (by decide) rfl ?_
          refine Z_go (f2 := (16, [(2, .int (Zi (k + 1))), (3, .int (Zi (s.2.1 110 k))), (0, .ref 83), (1, .int (Zi hd))], [])) (fun _ => rfl) ?_
          refine B_loc (K := [(2, .int (Zi (k + 1))), (0, .ref 83), (1, .int (Zi hd))]) (N_all_sub ⟨rfl, rfl, rfl, trivial⟩) (show ([2, 0, 1] : List Nat).Nodup by decide) ?_
          rw [R_fl_st (by omega) rfl (by unfold X_sh; first | rw [if_pos (by omega)] | rw [if_neg (by omega)])] at hs
          exact ih _ _ (by omega) hs (by omega) (by omega)
theorem R_bounds (d : Nat) (s : R_S) {hd : Int} (zhd : Zr hd) (pv : R_sv s) : R_ok (d + 4) 219 [.int (Zi hd)] s (fun x s2 => x = none ∧ R_bnp s s2 hd) := by
  refine R_enter (M := E_m219) rfl (Nat.le_of_ble_eq_true rfl) (fun h0 h hs => ?_)
  show B_R (d + 3) _ (0, [(0, .ref 83), (1, .int (Zi hd))], []) _ _ _
  refine Z_go (f2 := (1, [(0, .ref 83), (1, .int (Zi hd))], [.ref 83])) (fun _ => rfl) ?_
  refine Z_go (f2 := (2, [(0, .ref 83), (1, .int (Zi hd))], [.int (Zi hd), .ref 83])) (fun _ => rfl) ?_
  refine R_call (As := [.int (Zi hd)]) (rest := []) rfl (by decide) rfl rfl rfl rfl (by decide +kernel) (Nat.le_of_ble_eq_true rfl) hs (R_leastShorts _ s zhd pv) (fun x h u hs q => ?_)
  obtain ⟨rfl, q1⟩ := q
  have pu := q1.2.2.2.1
  have pu0 := pu.1
  have pu1 := pu.2.1
  show B_R _ _ (5, [(0, .ref 83), (1, .int (Zi hd))], []) _ _ _
  refine Z_go (f2 := (6, [(0, .ref 83), (1, .int (Zi hd))], [.ref 83])) (fun _ => rfl) ?_
  refine R_gi rfl hs rfl ?_
  show B_R _ _ (9, [(0, .ref 83), (1, .int (Zi hd))], [.int (Zi (u.1 41))]) _ _ _
  refine Z_go (f2 := (11, [(0, .ref 83), (1, .int (Zi hd))], [.int (Zi 12), .int (Zi (u.1 41))])) (fun _ => rfl) ?_
  refine Z_cle rfl rfl (by first | exact hs.zF _ | exact Zor_r _ _ | exact hs.zA _ _ | assumption | exact zA _ _ | exact zS _ | exact Zr_not (hs.zA _ _) | exact ⟨by omega, by omega⟩) (by first | exact hs.zF _ | exact Zor_r _ _ | exact hs.zA _ _ | assumption | exact zA _ _ | exact zS _ | exact Zr_not (hs.zA _ _) | exact ⟨by omega, by omega⟩) (fun c1 => ?_) (fun c1 => ?_)
  · refine Z_go (f2 := (77, [(0, .ref 83), (1, .int (Zi hd))], [.ref 83])) (fun _ => rfl) ?_
    refine R_gi rfl hs rfl ?_
    show B_R _ _ (80, [(0, .ref 83), (1, .int (Zi hd))], [.int (Zi (u.1 41))]) _ _ _
    refine Z_go (f2 := (82, [(0, .ref 83), (1, .int (Zi hd))], [.int (Zi 12), .int (Zi (u.1 41))])) (fun _ => rfl) ?_
    refine Z_cle rfl rfl (by first | exact hs.zF _ | exact Zor_r _ _ | exact hs.zA _ _ | assumption | exact zA _ _ | exact zS _ | exact Zr_not (hs.zA _ _) | exact ⟨by omega, by omega⟩) (by first | exact hs.zF _ | exact Zor_r _ _ | exact hs.zA _ _ | assumption | exact zA _ _ | exact zS _ | exact Zr_not (hs.zA _ _) | exact ⟨by omega, by omega⟩) (fun c2 => ?_) (fun c2 => ?_)
    · refine Z_ret rfl rfl ⟨_, hs, ?_, rfl⟩
      exact ⟨rfl, R_bnp_1 q1 (by omega)⟩
    · refine Z_go (f2 := (86, [(0, .ref 83), (1, .int (Zi hd))], [.ref 83])) (fun _ => rfl) ?_
      refine Z_go (f2 := (87, [(0, .ref 83), (1, .int (Zi hd))], [.int (Zi 1), .ref 83])) (fun _ => rfl) ?_
      refine R_pf rfl hs rfl (by first | exact hs.zF _ | exact Zor_r _ _ | exact hs.zA _ _ | assumption | exact zA _ _ | exact zS _ | exact Zr_not (hs.zA _ _) | exact ⟨by omega, by omega⟩) ⟨rfl, rfl, rfl⟩ (fun h hs => ?_)
      refine Z_go (f2 := (91, [(0, .ref 83), (1, .int (Zi hd))], [.ref 83])) (fun _ => rfl) ?_
      refine R_gr (q := 108) rfl hs rfl ?_
      show B_R _ _ (94, [(0, .ref 83), (1, .int (Zi hd))], [.ref 110]) _ _ _
      refine Z_go (f2 := (95, [(0, .ref 83), (1, .int (Zi hd))], [.int (Zi 0), .ref 110])) (fun _ => rfl) ?_
      refine Z_go (f2 := (96, [(0, .ref 83), (1, .int (Zi hd))], [.int (Zi 0), .int (Zi 0), .ref 110])) (fun _ => rfl) ?_
      refine R_is_ (q := 26) rfl hs rfl rfl (by omega) (by omega) (by decide) (by first | exact hs.zF _ | exact Zor_r _ _ | exact hs.zA _ _ | assumption | exact zA _ _ | exact zS _ | exact Zr_not (hs.zA _ _) | exact ⟨by omega, by omega⟩) (fun h hs => ?_)
      refine Z_ret rfl rfl ⟨_, hs, ?_, rfl⟩
      exfalso; omega
  · refine Z_go (f2 := (15, [(0, .ref 83), (1, .int (Zi hd))], [.int (Zi 0)])) (fun _ => rfl) ?_
    refine Z_go (f2 := (16, [(2, .int (Zi 0)), (0, .ref 83), (1, .int (Zi hd))], [])) (fun _ => rfl) ?_
    refine B_loc (K := [(2, .int (Zi 0)), (0, .ref 83), (1, .int (Zi hd))]) (N_all_sub ⟨rfl, rfl, rfl, trivial⟩) (show ([2, 0, 1] : List Nat).Nodup by decide) ?_
    refine R_bd_lp (s := u) zhd pu (fun q j => hs.zA q j) (fun h hs => ?_) ((u.1 41).toNat + 1) 0 h (by omega) (by rw [R_fl_0]; exact hs) (by omega) pu0
    refine Z_go (f2 := (72, [(2, .int (Zi (u.1 41))), (0, .ref 83), (1, .int (Zi hd))], [.ref 83])) (fun _ => rfl) ?_
    refine Z_go (f2 := (73, [(2, .int (Zi (u.1 41))), (0, .ref 83), (1, .int (Zi hd))], [.int (Zi hd), .ref 83])) (fun _ => rfl) ?_
    refine R_call (As := [.int (Zi hd)]) (rest := []) rfl (by decide) rfl rfl rfl rfl (by decide +kernel) (Nat.le_of_ble_eq_true rfl) hs (R_leastShorts _ _ zhd (R_sv_fl pu)) (fun x h w hs q => ?_)
    obtain ⟨rfl, q2⟩ := q
    obtain ⟨g1, g2⟩ := R_bnp_2 q1 (by omega) q2
    show B_R _ _ (76, [(2, .int (Zi (u.1 41))), (0, .ref 83), (1, .int (Zi hd))], []) _ _ _
    refine Z_go (f2 := (77, [(2, .int (Zi (u.1 41))), (0, .ref 83), (1, .int (Zi hd))], [.ref 83])) (fun _ => rfl) ?_
    refine R_gi rfl hs rfl ?_
    show B_R _ _ (80, [(2, .int (Zi (u.1 41))), (0, .ref 83), (1, .int (Zi hd))], [.int (Zi (w.1 41))]) _ _ _
    refine Z_go (f2 := (82, [(2, .int (Zi (u.1 41))), (0, .ref 83), (1, .int (Zi hd))], [.int (Zi 12), .int (Zi (w.1 41))])) (fun _ => rfl) ?_
    refine Z_cle rfl rfl (by first | exact hs.zF _ | exact Zor_r _ _ | exact hs.zA _ _ | assumption | exact zA _ _ | exact zS _ | exact Zr_not (hs.zA _ _) | exact ⟨by omega, by omega⟩) (by first | exact hs.zF _ | exact Zor_r _ _ | exact hs.zA _ _ | assumption | exact zA _ _ | exact zS _ | exact Zr_not (hs.zA _ _) | exact ⟨by omega, by omega⟩) (fun c1 => ?_) (fun c1 => ?_)
    · refine Z_ret rfl rfl ⟨_, hs, ?_, rfl⟩
      exact ⟨rfl, g1 (by omega)⟩
    · refine Z_go (f2 := (86, [(2, .int (Zi (u.1 41))), (0, .ref 83), (1, .int (Zi hd))], [.ref 83])) (fun _ => rfl) ?_
      refine Z_go (f2 := (87, [(2, .int (Zi (u.1 41))), (0, .ref 83), (1, .int (Zi hd))], [.int (Zi 1), .ref 83])) (fun _ => rfl) ?_
      refine R_pf rfl hs rfl (by first | exact hs.zF _ | exact Zor_r _ _ | exact hs.zA _ _ | assumption | exact zA _ _ | exact zS _ | exact Zr_not (hs.zA _ _) | exact ⟨by omega, by omega⟩) ⟨rfl, rfl, rfl⟩ (fun h hs => ?_)
      refine Z_go (f2 := (91, [(2, .int (Zi (u.1 41))), (0, .ref 83), (1, .int (Zi hd))], [.ref 83])) (fun _ => rfl) ?_
      refine R_gr (q := 108) rfl hs rfl ?_
      show B_R _ _ (94, [(2, .int (Zi (u.1 41))), (0, .ref 83), (1, .int (Zi hd))], [.ref 110]) _ _ _
      refine Z_go (f2 := (95, [(2, .int (Zi (u.1 41))), (0, .ref 83), (1, .int (Zi hd))], [.int (Zi 0), .ref 110])) (fun _ => rfl) ?_
      refine Z_go (f2 := (96, [(2, .int (Zi (u.1 41))), (0, .ref 83), (1, .int (Zi hd))], [.int (Zi 0), .int (Zi 0), .ref 110])) (fun _ => rfl) ?_
      refine R_is_ (q := 26) rfl hs rfl rfl (by omega) (by omega) (by decide) (by first | exact hs.zF _ | exact Zor_r _ _ | exact hs.zA _ _ | assumption | exact zA _ _ | exact zS _ | exact Zr_not (hs.zA _ _) | exact ⟨by omega, by omega⟩) (fun h hs => ?_)
      refine Z_ret rfl rfl ⟨_, hs, ?_, rfl⟩
      exact ⟨rfl, g2 (by omega)⟩
