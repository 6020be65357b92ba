/-! the reference: sets of places, doubled, what is new -/
def R_db (s u : R_S) (top kp w : Int) : Prop := R_lq 119 s u ∧ ∀ j, u.2.2.2 119 j = if 16 * (top + 1) ≤ j ∧ j < 16 * (top + 1) + w then s.2.2.2 119 (j - 16) else if kp = 0 ∧ 16 * top ≤ j ∧ j < 16 * top + w then 0 else s.2.2.2 119 j
theorem R_db_0 (s : R_S) (top kp : Int) : R_db s s top kp 0 := ⟨R_lq.rf _ _, fun j => by rw [if_neg (by omega), if_neg (by omega)]⟩
theorem R_sM_at (s : R_S) (q : Nat) (i j : Int) (v : Int64) : (R_sM s q i v).2.2.2 q j = if j = i then v else s.2.2.2 q j := by
  by_cases c : j = i
  · rw [if_pos c, c, R_sM_s]
  · rw [if_neg c, R_sM_m _ _ _ c]
theorem R_db.st1 {s u : R_S} {top kp w x : Int} {v : Int64} (h : R_db s u top kp w) (w0 : 0 ≤ w) (w1 : w < 16) (kp1 : kp ≠ 0) (hx : x = 16 * (top + 1) + w) (hv : v = u.2.2.2 119 (16 * top + w)) : R_db s (R_sM u 119 x v) top kp (w + 1) := by
  refine ⟨h.1.tr (R_lq.st _ _ _ _), fun j => ?_⟩
  rw [R_sM_at]
  by_cases c : j = x
  · rw [if_pos c, if_pos (by omega), hv, h.2, if_neg (by omega), if_neg (by omega), show 16 * top + w = j - 16 by omega]
  · rw [if_neg c, h.2]
    by_cases c2 : 16 * (top + 1) ≤ j ∧ j < 16 * (top + 1) + w
    · rw [if_pos c2, if_pos (by omega)]
    · rw [if_neg c2, if_neg (by omega), if_neg (by omega), if_neg (by omega)]
theorem R_db.st0 {s u : R_S} {top kp w x y : Int} {v : Int64} (h : R_db s u top kp w) (w0 : 0 ≤ w) (w1 : w < 16) (kp1 : kp = 0) (hx : x = 16 * (top + 1) + w) (hv : v = u.2.2.2 119 (16 * top + w)) (hy : y = 16 * top + w) : R_db s (R_sM (R_sM u 119 x v) 119 y 0) top kp (w + 1) := by
  refine ⟨(h.1.tr (R_lq.st _ _ _ _)).tr (R_lq.st _ _ _ _), fun j => ?_⟩
  rw [R_sM_at, R_sM_at]
  by_cases c0 : j = y
  · rw [if_pos c0, if_neg (by omega), if_pos (by omega)]
  · rw [if_neg c0]
    by_cases c : j = x
    · rw [if_pos c, if_pos (by omega), hv, h.2, if_neg (by omega), if_neg (by omega), show 16 * top + w = j - 16 by omega]
    · rw [if_neg c, h.2]
      by_cases c2 : 16 * (top + 1) ≤ j ∧ j < 16 * (top + 1) + w
      · rw [if_pos c2, if_pos (by omega)]
      · rw [if_neg c2, if_neg (show ¬ (16 * (top + 1) ≤ j ∧ j < 16 * (top + 1) + (w + 1)) by omega)]
        by_cases c3 : kp = 0 ∧ 16 * top ≤ j ∧ j < 16 * top + w
        · rw [if_pos c3, if_pos (by omega)]
        · rw [if_neg c3, if_neg (by omega)]
theorem R_db_lp {d : Nat} {h0 : E_H} {s : R_S} {sl : Nat} {Φ : E_R → Prop} {top kp : Int} (t0 : 0 ≤ top) (t1 : top < 259) (zk : Zr kp) (kont : ∀ (u : R_S) (h : E_H), R_is h0 h u → R_db s u top kp 16 → Φ (none, h, sl)) : ∀ (t : Nat) (w : Int) (u : R_S) (h : E_H), 16 - w < t → R_is h0 h u → R_db s u top kp w → 0 ≤ w → w ≤ 16 → B_R d E_m265 (2, [(3, .int (Zi w)), (0, .ref 83), (1, .int (Zi top)), (2, .int (Zi kp))], []) h sl Φ := by
  intro t
  induction t with
  | zero => intro w u h ht hs hu w0 w1; omega
  | succ t ih =>
    intro w u h ht hs hu w0 w1
    refine Z_go (f2 := (3, [(3, .int (Zi w)), (0, .ref 83), (1, .int (Zi top)), (2, .int (Zi kp))], [.int (Zi w)])) (fun _ => rfl) ?_
    refine Z_go (f2 := (5, [(3, .int (Zi w)), (0, .ref 83), (1, .int (Zi top)), (2, .int (Zi kp))], [.int (Zi 16), .int (Zi w)])) (fun _ => rfl) ?_
    refine Z_cge rfl rfl (by first | exact hs.zF _ | exact Zor_r _ _ | exact hs.zA _ _ | assumption | exact zA _ _ | exact zS _ | exact Zr_not (hs.zA _ _) | exact ⟨by omega, by omega⟩) (by first | exact hs.zF _ | exact Zor_r _ _ | exact hs.zA _ _ | assumption | exact zA _ _ | exact zS _ | exact Zr_not (hs.zA _ _) | exact ⟨by omega, by omega⟩) (fun c1 => ?_) (fun c1 => ?_)
    · refine Z_ret rfl rfl ?_
      obtain rfl : w = 16 := by omega
      exact kont u h hs hu
    · refine Z_go (f2 := (9, [(3, .int (Zi w)), (0, .ref 83), (1, .int (Zi top)), (2, .int (Zi kp))], [.ref 83])) (fun _ => rfl) ?_
      refine R_gr (q := 117) rfl hs rfl ?_
      show B_R _ _ (12, [(3, .int (Zi w)), (0, .ref 83), (1, .int (Zi top)), (2, .int (Zi kp))], [.ref 119]) _ _ _
      refine Z_go (f2 := (14, [(3, .int (Zi w)), (0, .ref 83), (1, .int (Zi top)), (2, .int (Zi kp))], [.int (Zi 16), .ref 119])) (fun _ => rfl) ?_
      refine Z_go (f2 := (15, [(3, .int (Zi w)), (0, .ref 83), (1, .int (Zi top)), (2, .int (Zi kp))], [.int (Zi top), .int (Zi 16), .ref 119])) (fun _ => rfl) ?_
      refine Z_go (f2 := (16, [(3, .int (Zi w)), (0, .ref 83), (1, .int (Zi top)), (2, .int (Zi kp))], [.int (Zi 1), .int (Zi top), .int (Zi 16), .ref 119])) (fun _ => rfl) ?_
      refine Z_iadd rfl ?_
      refine Z_imul rfl ?_
      refine Z_go (f2 := (19, [(3, .int (Zi w)), (0, .ref 83), (1, .int (Zi top)), (2, .int (Zi kp))], [.int (Zi w), .int (Zi (16 * (top + 1))), .ref 119])) (fun _ => rfl) ?_
      refine Z_iadd rfl ?_
      refine Z_go (f2 := (21, [(3, .int (Zi w)), (0, .ref 83), (1, .int (Zi top)), (2, .int (Zi kp))], [.ref 83, .int (Zi (16 * (top + 1) + w)), .ref 119])) (fun _ => rfl) ?_
      refine R_gr (q := 117) rfl hs rfl ?_
      show B_R _ _ (24, [(3, .int (Zi w)), (0, .ref 83), (1, .int (Zi top)), (2, .int (Zi kp))], [.ref 119, .int (Zi (16 * (top + 1) + w)), .ref 119]) _ _ _
      refine Z_go (f2 := (26, [(3, .int (Zi w)), (0, .ref 83), (1, .int (Zi top)), (2, .int (Zi kp))], [.int (Zi 16), .ref 119, .int (Zi (16 * (top + 1) + w)), .ref 119])) (fun _ => rfl) ?_
      refine Z_go (f2 := (27, [(3, .int (Zi w)), (0, .ref 83), (1, .int (Zi top)), (2, .int (Zi kp))], [.int (Zi top), .int (Zi 16), .ref 119, .int (Zi (16 * (top + 1) + w)), .ref 119])) (fun _ => rfl) ?_
      refine Z_imul rfl ?_
      refine Z_go (f2 := (29, [(3, .int (Zi w)), (0, .ref 83), (1, .int (Zi top)), (2, .int (Zi kp))], [.int (Zi w), .int (Zi (16 * top)), .ref 119, .int (Zi (16 * (top + 1) + w)), .ref 119])) (fun _ => rfl) ?_
      refine Z_iadd rfl ?_
      refine R_la (q := 35) rfl hs rfl rfl (by omega) (by omega) (by decide) ?_
      refine R_ls (q := 35) rfl hs rfl rfl (by omega) (by omega) (by decide) (fun h hs => ?_)
      refine Z_go (f2 := (33, [(3, .int (Zi w)), (0, .ref 83), (1, .int (Zi top)), (2, .int (Zi kp))], [.int (Zi kp)])) (fun _ => rfl) ?_
      refine Z_ine rfl rfl (by first | exact hs.zF _ | exact Zor_r _ _ | exact hs.zA _ _ | assumption | exact zA _ _ | exact zS _ | exact Zr_not (hs.zA _ _) | exact ⟨by omega, by omega⟩) (fun c2 => ?_) (fun c2 => ?_)
      · refine Z_iinc (L2 := [(3, .int (Zi (w + 1))), (0, .ref 83), (1, .int (Zi top)), (2, .int (Zi kp))]) rfl rfl (by decide) rfl ?_
        refine Z_go (f2 := (2, [(3, .int (Zi (w + 1))), (0, .ref 83), (1, .int (Zi top)), (2, .int (Zi kp))], [])) (fun _ => rfl) ?_
        refine B_loc (K := [(3, .int (Zi (w + 1))), (0, .ref 83), (1, .int (Zi top)), (2, .int (Zi kp))]) (N_all_sub ⟨rfl, rfl, rfl, rfl, trivial⟩) (show ([3, 0, 1, 2] : List Nat).Nodup by decide) ?_
        exact ih (w + 1) _ h (by omega) hs (hu.st1 w0 (by omega) (by assumption) (by omega) rfl) (by omega) (by omega)
      · refine Z_go (f2 := (37, [(3, .int (Zi w)), (0, .ref 83), (1, .int (Zi top)), (2, .int (Zi kp))], [.ref 83])) (fun _ => rfl) ?_
        refine R_gr (q := 117) rfl hs rfl ?_
        show B_R _ _ (40, [(3, .int (Zi w)), (0, .ref 83), (1, .int (Zi top)), (2, .int (Zi kp))], [.ref 119]) _ _ _
        refine Z_go (f2 := (42, [(3, .int (Zi w)), (0, .ref 83), (1, .int (Zi top)), (2, .int (Zi kp))], [.int (Zi 16), .ref 119])) (fun _ => rfl) ?_
        refine Z_go (f2 := (43, [(3, .int (Zi w)), (0, .ref 83), (1, .int (Zi top)), (2, .int (Zi kp))], [.int (Zi top), .int (Zi 16), .ref 119])) (fun _ => rfl) ?_
        refine Z_imul rfl ?_
        refine Z_go (f2 := (45, [(3, .int (Zi w)), (0, .ref 83), (1, .int (Zi top)), (2, .int (Zi kp))], [.int (Zi w), .int (Zi (16 * top)), .ref 119])) (fun _ => rfl) ?_
        refine Z_iadd rfl ?_
        refine Z_go (f2 := (47, [(3, .int (Zi w)), (0, .ref 83), (1, .int (Zi top)), (2, .int (Zi kp))], [.long (0), .int (Zi (16 * top + w)), .ref 119])) (fun _ => rfl) ?_
        refine R_ls (q := 35) rfl hs rfl rfl (by omega) (by omega) (by decide) (fun h hs => ?_)
        refine Z_iinc (L2 := [(3, .int (Zi (w + 1))), (0, .ref 83), (1, .int (Zi top)), (2, .int (Zi kp))]) rfl rfl (by decide) rfl ?_
        refine Z_go (f2 := (2, [(3, .int (Zi (w + 1))), (0, .ref 83), (1, .int (Zi top)), (2, .int (Zi kp))], [])) (fun _ => rfl) ?_
        refine B_loc (K := [(3, .int (Zi (w + 1))), (0, .ref 83), (1, .int (Zi top)), (2, .int (Zi kp))]) (N_all_sub ⟨rfl, rfl, rfl, rfl, trivial⟩) (show ([3, 0, 1, 2] : List Nat).Nodup by decide) ?_
        exact ih (w + 1) _ h (by omega) hs (hu.st0 w0 (by omega) (by assumption) (by omega) rfl (by omega)) (by omega) (by omega)
theorem R_doubles (d : Nat) (s : R_S) {top kp : Int} {X : Int → Prop} (zt : Zr top) (zk : Zr kp) (t0 : 0 ≤ top) (t1 : top < 259) (hX : R_bs_ s 119 (16 * top) X) : R_ok (d + 1) 265 [.int (Zi top), .int (Zi kp)] s (fun x s2 => x = none ∧ R_lq 119 s s2 ∧ (∀ j, j < 16 * top → s2.2.2.2 119 j = s.2.2.2 119 j) ∧ R_bs_ s2 119 (16 * (top + 1)) X ∧ R_bs_ s2 119 (16 * top) (fun i => kp ≠ 0 ∧ X i)) := by
  refine R_enter (M := E_m265) rfl (Nat.le_of_ble_eq_true rfl) (fun h0 h hs => ?_)
  show B_R d _ (0, [(0, .ref 83), (1, .int (Zi top)), (2, .int (Zi kp))], []) _ _ _
  refine Z_go (f2 := (1, [(0, .ref 83), (1, .int (Zi top)), (2, .int (Zi kp))], [.int (Zi 0)])) (fun _ => rfl) ?_
  refine Z_go (f2 := (2, [(3, .int (Zi 0)), (0, .ref 83), (1, .int (Zi top)), (2, .int (Zi kp))], [])) (fun _ => rfl) ?_
  refine B_loc (K := [(3, .int (Zi 0)), (0, .ref 83), (1, .int (Zi top)), (2, .int (Zi kp))]) (N_all_sub ⟨rfl, rfl, rfl, rfl, trivial⟩) (show ([3, 0, 1, 2] : List Nat).Nodup by decide) ?_
  refine R_db_lp (s := s) t0 t1 zk (fun u h hs hu => ⟨_, hs, ⟨rfl, hu.1, fun j hj => by rw [hu.2, if_neg (by omega), if_neg (by omega)], R_bs_.mk (fun w b w0 w1 hb => ?_), R_bs_.mk (fun w b w0 w1 hb => ?_)⟩, rfl⟩) 17 0 s h (by omega) hs (R_db_0 s _ _) (by omega) (by omega)
  · rw [hu.2, if_pos (by omega), show 16 * (top + 1) + w - 16 = 16 * top + w by omega]
    exact hX.bit w0 w1 hb
  · rw [hu.2, if_neg (by omega)]
    by_cases c : kp = 0
    · rw [if_pos (by omega)]
      exact ⟨fun e => absurd e (T_bit_0 _), fun e => absurd c e.1⟩
    · rw [if_neg (by omega), hX.bit w0 w1 hb]
      exact ⟨fun e => ⟨c, e⟩, fun e => e.2⟩
def X_nw (s : R_S) (top w : Int) : Int64 := s.2.2.2 119 (16 * top + w) &&& (s.2.2.2 119 (16 * (top - 1) + w) ^^^ (-1))
def R_nws (s u : R_S) (top w : Int) : Prop := R_lq 119 s u ∧ ∀ j, u.2.2.2 119 j = if 16 * top ≤ j ∧ j < 16 * top + w then X_nw s top (j - 16 * top) else if 16 * (top - 1) ≤ j ∧ j < 16 * (top - 1) + w then s.2.2.2 119 j ||| X_nw s top (j - 16 * (top - 1)) else s.2.2.2 119 j
theorem R_nws_0 (s : R_S) (top : Int) : R_nws s s top 0 := ⟨R_lq.rf _ _, fun j => by rw [if_neg (by omega), if_neg (by omega)]⟩
theorem R_nws.at {s u : R_S} {top w : Int} (h : R_nws s u top w) (w0 : 0 ≤ w) (w1 : w < 16) : u.2.2.2 119 (16 * top + w) = s.2.2.2 119 (16 * top + w) ∧ u.2.2.2 119 (16 * (top - 1) + w) = s.2.2.2 119 (16 * (top - 1) + w) := by
  rw [h.2, h.2, if_neg (by omega), if_neg (by omega), if_neg (by omega), if_neg (by omega)]
  exact ⟨rfl, rfl⟩
theorem R_nws.st {s u : R_S} {top w x y : Int} {v f : Int64} (h : R_nws s u top w) (w0 : 0 ≤ w) (w1 : w < 16) (hx : x = 16 * (top - 1) + w) (hf : f = X_nw s top w) (hv : v = s.2.2.2 119 (16 * (top - 1) + w) ||| f) (hy : y = 16 * top + w) : R_nws s (R_sM (R_sM u 119 x v) 119 y f) top (w + 1) := by
  refine ⟨(h.1.tr (R_lq.st _ _ _ _)).tr (R_lq.st _ _ _ _), fun j => ?_⟩
  rw [R_sM_at, R_sM_at]
  by_cases c0 : j = y
  · rw [if_pos c0, if_pos (by omega), hf, show j - 16 * top = w by omega]
  · rw [if_neg c0]
    by_cases c : j = x
    · rw [if_pos c, if_neg (by omega), if_pos (by omega), hv, hf, show j - 16 * (top - 1) = w by omega, show 16 * (top - 1) + w = j by omega]
    · rw [if_neg c, h.2]
      by_cases c2 : 16 * top ≤ j ∧ j < 16 * top + w
      · rw [if_pos c2, if_pos (by omega)]
      · rw [if_neg c2, if_neg (show ¬ (16 * top ≤ j ∧ j < 16 * top + (w + 1)) by omega)]
        by_cases c3 : 16 * (top - 1) ≤ j ∧ j < 16 * (top - 1) + w
        · rw [if_pos c3, if_pos (by omega)]
        · rw [if_neg c3, if_neg (by omega)]
def R_nwa (s : R_S) (top w a : Int) : Prop := (a = 0 ∨ a = 1) ∧ (a ≠ 0 ↔ ∃ k, 0 ≤ k ∧ k < w ∧ X_nw s top k ≠ 0)
theorem R_nws_lp {d : Nat} {h0 : E_H} {s : R_S} {sl : Nat} {Φ : E_R → Prop} {top : Int} (t0 : 1 ≤ top) (t1 : top < 260) (kont : ∀ (u : R_S) (a : Int) (h : E_H), R_is h0 h u → R_nws s u top 16 → R_nwa s top 16 a → Φ (some (.int (Zi a)), h, sl)) : ∀ (t : Nat) (w a : Int) (u : R_S) (h : E_H), 16 - w < t → R_is h0 h u → R_nws s u top w → R_nwa s top w a → 0 ≤ w → w ≤ 16 → B_R d E_m264 (4, [(3, .int (Zi w)), (2, .int (Zi a)), (0, .ref 83), (1, .int (Zi top))], []) h sl Φ := by
  intro t
  induction t with
  | zero => intro w a u h ht hs hu ha w0 w1; omega
  | succ t ih =>
    intro w a u h ht hs hu ha w0 w1
    have z01 : a = 0 ∨ a = 1 := ha.1
    have zr : Zr a := ⟨by omega, by omega⟩
    refine Z_go (f2 := (5, [(3, .int (Zi w)), (2, .int (Zi a)), (0, .ref 83), (1, .int (Zi top))], [.int (Zi w)])) (fun _ => rfl) ?_
    refine Z_go (f2 := (7, [(3, .int (Zi w)), (2, .int (Zi a)), (0, .ref 83), (1, .int (Zi top))], [.int (Zi 16), .int (Zi w)])) (fun _ => rfl) ?_
    refine Z_cge rfl rfl (by first | exact hs.zF _ | exact Zor_r _ _ | exact hs.zA _ _ | assumption | exact zA _ _ | exact zS _ | exact Zr_not (hs.zA _ _) | exact ⟨by omega, by omega⟩) (by first | exact hs.zF _ | exact Zor_r _ _ | exact hs.zA _ _ | assumption | exact zA _ _ | exact zS _ | exact Zr_not (hs.zA _ _) | exact ⟨by omega, by omega⟩) (fun c1 => ?_) (fun c1 => ?_)
    · refine Z_go (f2 := (96, [(3, .int (Zi w)), (2, .int (Zi a)), (0, .ref 83), (1, .int (Zi top))], [.int (Zi a)])) (fun _ => rfl) ?_
      refine Z_iret rfl rfl (by first | rfl | decide | exact narrow_b01 (by omega)) ?_
      obtain rfl : w = 16 := by omega
      exact kont u a h hs hu ha
    · refine Z_go (f2 := (11, [(3, .int (Zi w)), (2, .int (Zi a)), (0, .ref 83), (1, .int (Zi top))], [.ref 83])) (fun _ => rfl) ?_
      refine R_gr (q := 117) rfl hs rfl ?_
      show B_R _ _ (14, [(3, .int (Zi w)), (2, .int (Zi a)), (0, .ref 83), (1, .int (Zi top))], [.ref 119]) _ _ _
      refine Z_go (f2 := (16, [(3, .int (Zi w)), (2, .int (Zi a)), (0, .ref 83), (1, .int (Zi top))], [.int (Zi 16), .ref 119])) (fun _ => rfl) ?_
      refine Z_go (f2 := (17, [(3, .int (Zi w)), (2, .int (Zi a)), (0, .ref 83), (1, .int (Zi top))], [.int (Zi top), .int (Zi 16), .ref 119])) (fun _ => rfl) ?_
      refine Z_imul rfl ?_
      refine Z_go (f2 := (19, [(3, .int (Zi w)), (2, .int (Zi a)), (0, .ref 83), (1, .int (Zi top))], [.int (Zi w), .int (Zi (16 * top)), .ref 119])) (fun _ => rfl) ?_
      refine Z_iadd rfl ?_
      refine R_la (q := 35) rfl hs rfl rfl (by omega) (by omega) (by decide) ?_
      refine Z_go (f2 := (22, [(3, .int (Zi w)), (2, .int (Zi a)), (0, .ref 83), (1, .int (Zi top))], [.ref 83, .long (u.2.2.2 119 (16 * top + w))])) (fun _ => rfl) ?_
      refine R_gr (q := 117) rfl hs rfl ?_
      show B_R _ _ (25, [(3, .int (Zi w)), (2, .int (Zi a)), (0, .ref 83), (1, .int (Zi top))], [.ref 119, .long (u.2.2.2 119 (16 * top + w))]) _ _ _
      refine Z_go (f2 := (27, [(3, .int (Zi w)), (2, .int (Zi a)), (0, .ref 83), (1, .int (Zi top))], [.int (Zi 16), .ref 119, .long (u.2.2.2 119 (16 * top + w))])) (fun _ => rfl) ?_
      refine Z_go (f2 := (28, [(3, .int (Zi w)), (2, .int (Zi a)), (0, .ref 83), (1, .int (Zi top))], [.int (Zi top), .int (Zi 16), .ref 119, .long (u.2.2.2 119 (16 * top + w))])) (fun _ => rfl) ?_
      refine Z_go (f2 := (29, [(3, .int (Zi w)), (2, .int (Zi a)), (0, .ref 83), (1, .int (Zi top))], [.int (Zi 1), .int (Zi top), .int (Zi 16), .ref 119, .long (u.2.2.2 119 (16 * top + w))])) (fun _ => rfl) ?_
      refine Z_isub rfl ?_
      refine Z_imul rfl ?_
      refine Z_go (f2 := (32, [(3, .int (Zi w)), (2, .int (Zi a)), (0, .ref 83), (1, .int (Zi top))], [.int (Zi w), .int (Zi (16 * (top - 1))), .ref 119, .long (u.2.2.2 119 (16 * top + w))])) (fun _ => rfl) ?_
      refine Z_iadd rfl ?_
      refine R_la (q := 35) rfl hs rfl rfl (by omega) (by omega) (by decide) ?_
      refine Z_go (f2 := (37, [(3, .int (Zi w)), (2, .int (Zi a)), (0, .ref 83), (1, .int (Zi top))], [.long (-1), .long (u.2.2.2 119 (16 * (top - 1) + w)), .long (u.2.2.2 119 (16 * top + w))])) (fun _ => rfl) ?_
      refine Z_go (f2 := (38, [(3, .int (Zi w)), (2, .int (Zi a)), (0, .ref 83), (1, .int (Zi top))], [.long ((u.2.2.2 119 (16 * (top - 1) + w)) ^^^ (-1)), .long (u.2.2.2 119 (16 * top + w))])) (fun _ => rfl) ?_
      refine Z_go (f2 := (39, [(3, .int (Zi w)), (2, .int (Zi a)), (0, .ref 83), (1, .int (Zi top))], [.long ((u.2.2.2 119 (16 * top + w)) &&& ((u.2.2.2 119 (16 * (top - 1) + w)) ^^^ (-1)))])) (fun _ => rfl) ?_
      obtain ⟨g1, g2⟩ := hu.at w0 (by omega)
      have hf : (u.2.2.2 119 (16 * top + w)) &&& ((u.2.2.2 119 (16 * (top - 1) + w)) ^^^ (-1)) = X_nw s top w := by rw [g1, g2]; rfl
      rw [hf]
      show B_R _ _ (39, [(3, .int (Zi w)), (2, .int (Zi a)), (0, .ref 83), (1, .int (Zi top))], [.long (X_nw s top w)]) _ _ _
      refine Z_go (f2 := (41, [(4, .long (X_nw s top w)), (3, .int (Zi w)), (2, .int (Zi a)), (0, .ref 83), (1, .int (Zi top))], [])) (fun _ => rfl) ?_
      refine Z_go (f2 := (42, [(4, .long (X_nw s top w)), (3, .int (Zi w)), (2, .int (Zi a)), (0, .ref 83), (1, .int (Zi top))], [.ref 83])) (fun _ => rfl) ?_
      refine R_gr (q := 117) rfl hs rfl ?_
      show B_R _ _ (45, [(4, .long (X_nw s top w)), (3, .int (Zi w)), (2, .int (Zi a)), (0, .ref 83), (1, .int (Zi top))], [.ref 119]) _ _ _
      refine Z_go (f2 := (47, [(4, .long (X_nw s top w)), (3, .int (Zi w)), (2, .int (Zi a)), (0, .ref 83), (1, .int (Zi top))], [.int (Zi 16), .ref 119])) (fun _ => rfl) ?_
      refine Z_go (f2 := (48, [(4, .long (X_nw s top w)), (3, .int (Zi w)), (2, .int (Zi a)), (0, .ref 83), (1, .int (Zi top))], [.int (Zi top), .int (Zi 16), .ref 119])) (fun _ => rfl) ?_
      refine Z_go (f2 := (49, [(4, .long (X_nw s top w)), (3, .int (Zi w)), (2, .int (Zi a)), (0, .ref 83), (1, .int (Zi top))], [.int (Zi 1), .int (Zi top), .int (Zi 16), .ref 119])) (fun _ => rfl) ?_
      refine Z_isub rfl ?_
      refine Z_imul rfl ?_
      refine Z_go (f2 := (52, [(4, .long (X_nw s top w)), (3, .int (Zi w)), (2, .int (Zi a)), (0, .ref 83), (1, .int (Zi top))], [.int (Zi w), .int (Zi (16 * (top - 1))), .ref 119])) (fun _ => rfl) ?_
      refine Z_iadd rfl ?_
      refine Z_go (f2 := (54, [(4, .long (X_nw s top w)), (3, .int (Zi w)), (2, .int (Zi a)), (0, .ref 83), (1, .int (Zi top))], [.int (Zi (16 * (top - 1) + w)), .ref 119, .int (Zi (16 * (top - 1) + w)), .ref 119])) (fun _ => rfl) ?_
      refine R_la (q := 35) rfl hs rfl rfl (by omega) (by omega) (by decide) ?_
      refine Z_go (f2 := (57, [(4, .long (X_nw s top w)), (3, .int (Zi w)), (2, .int (Zi a)), (0, .ref 83), (1, .int (Zi top))], [.long (X_nw s top w), .long (u.2.2.2 119 (16 * (top - 1) + w)), .int (Zi (16 * (top - 1) + w)), .ref 119])) (fun _ => rfl) ?_
      refine Z_go (f2 := (58, [(4, .long (X_nw s top w)), (3, .int (Zi w)), (2, .int (Zi a)), (0, .ref 83), (1, .int (Zi top))], [.long ((u.2.2.2 119 (16 * (top - 1) + w)) ||| (X_nw s top w)), .int (Zi (16 * (top - 1) + w)), .ref 119])) (fun _ => rfl) ?_
      refine R_ls (q := 35) rfl hs rfl rfl (by omega) (by omega) (by decide) (fun h hs => ?_)
      refine Z_go (f2 := (60, [(4, .long (X_nw s top w)), (3, .int (Zi w)), (2, .int (Zi a)), (0, .ref 83), (1, .int (Zi top))], [.ref 83])) (fun _ => rfl) ?_
      refine R_gr (q := 117) rfl hs rfl ?_
      show B_R _ _ (63, [(4, .long (X_nw s top w)), (3, .int (Zi w)), (2, .int (Zi a)), (0, .ref 83), (1, .int (Zi top))], [.ref 119]) _ _ _
      refine Z_go (f2 := (65, [(4, .long (X_nw s top w)), (3, .int (Zi w)), (2, .int (Zi a)), (0, .ref 83), (1, .int (Zi top))], [.int (Zi 16), .ref 119])) (fun _ => rfl) ?_
      refine Z_go (f2 := (66, [(4, .long (X_nw s top w)), (3, .int (Zi w)), (2, .int (Zi a)), (0, .ref 83), (1, .int (Zi top))], [.int (Zi top), .int (Zi 16), .ref 119])) (fun _ => rfl) ?_
      refine Z_imul rfl ?_
      refine Z_go (f2 := (68, [(4, .long (X_nw s top w)), (3, .int (Zi w)), (2, .int (Zi a)), (0, .ref 83), (1, .int (Zi top))], [.int (Zi w), .int (Zi (16 * top)), .ref 119])) (fun _ => rfl) ?_
      refine Z_iadd rfl ?_
      refine Z_go (f2 := (71, [(4, .long (X_nw s top w)), (3, .int (Zi w)), (2, .int (Zi a)), (0, .ref 83), (1, .int (Zi top))], [.long (X_nw s top w), .int (Zi (16 * top + w)), .ref 119])) (fun _ => rfl) ?_
      refine R_ls (q := 35) rfl hs rfl rfl (by omega) (by omega) (by decide) (fun h hs => ?_)
      refine Z_go (f2 := (73, [(4, .long (X_nw s top w)), (3, .int (Zi w)), (2, .int (Zi a)), (0, .ref 83), (1, .int (Zi top))], [.int (Zi a)])) (fun _ => rfl) ?_
      refine Z_ine rfl rfl (by first | exact hs.zF _ | exact Zor_r _ _ | exact hs.zA _ _ | assumption | exact zA _ _ | exact zS _ | exact Zr_not (hs.zA _ _) | exact ⟨by omega, by omega⟩) (fun c2 => ?_) (fun c2 => ?_)
      · refine Z_go (f2 := (84, [(4, .long (X_nw s top w)), (3, .int (Zi w)), (2, .int (Zi a)), (0, .ref 83), (1, .int (Zi top))], [.int (Zi 1)])) (fun _ => rfl) ?_
        refine Z_go (f2 := (88, [(4, .long (X_nw s top w)), (3, .int (Zi w)), (2, .int (Zi a)), (0, .ref 83), (1, .int (Zi top))], [.int (Zi 1)])) (fun _ => rfl) ?_
        refine Z_go (f2 := (89, [(2, .int (Zi 1)), (4, .long (X_nw s top w)), (3, .int (Zi w)), (0, .ref 83), (1, .int (Zi top))], [])) (fun _ => rfl) ?_
        refine Z_iinc (L2 := [(3, .int (Zi (w + 1))), (2, .int (Zi 1)), (4, .long (X_nw s top w)), (0, .ref 83), (1, .int (Zi top))]) rfl rfl (by decide) rfl ?_
        refine Z_go (f2 := (4, [(3, .int (Zi (w + 1))), (2, .int (Zi 1)), (4, .long (X_nw s top w)), (0, .ref 83), (1, .int (Zi top))], [])) (fun _ => rfl) ?_
        refine B_loc (K := [(3, .int (Zi (w + 1))), (2, .int (Zi 1)), (0, .ref 83), (1, .int (Zi top))]) (N_all_sub ⟨rfl, rfl, rfl, rfl, trivial⟩) (show ([3, 2, 0, 1] : List Nat).Nodup by decide) ?_
        refine ih (w + 1) (1) _ h (by omega) hs (hu.st w0 (by omega) (by omega) rfl (by rw [g2]) (by omega)) ?_ (by omega) (by omega)
        refine ⟨.inr rfl, fun _ => ?_, fun _ => by decide⟩
        obtain ⟨k, k0, k1, k2⟩ := ha.2.mp (by assumption)
        exact ⟨k, k0, by omega, k2⟩
      · refine Z_go (f2 := (78, [(4, .long (X_nw s top w)), (3, .int (Zi w)), (2, .int (Zi a)), (0, .ref 83), (1, .int (Zi top))], [.long (X_nw s top w)])) (fun _ => rfl) ?_
        refine Z_go (f2 := (79, [(4, .long (X_nw s top w)), (3, .int (Zi w)), (2, .int (Zi a)), (0, .ref 83), (1, .int (Zi top))], [.long (0), .long (X_nw s top w)])) (fun _ => rfl) ?_
        refine Z_lcmp rfl ?_
        obtain ⟨zl1, ezl1, hzl1, rzl1⟩ := Zl_ex (X_nw s top w) (0)
        rw [ezl1]
        show B_R _ _ (80, [(4, .long (X_nw s top w)), (3, .int (Zi w)), (2, .int (Zi a)), (0, .ref 83), (1, .int (Zi top))], [.int (Zi zl1)]) _ _ _
        refine Z_ieq rfl rfl (by first | exact hs.zF _ | exact Zor_r _ _ | exact hs.zA _ _ | assumption | exact zA _ _ | exact zS _ | exact Zr_not (hs.zA _ _) | exact ⟨by omega, by omega⟩) (fun c3 => ?_) (fun c3 => ?_)
        · refine Z_go (f2 := (88, [(4, .long (X_nw s top w)), (3, .int (Zi w)), (2, .int (Zi a)), (0, .ref 83), (1, .int (Zi top))], [.int (Zi 0)])) (fun _ => rfl) ?_
          refine Z_go (f2 := (89, [(2, .int (Zi 0)), (4, .long (X_nw s top w)), (3, .int (Zi w)), (0, .ref 83), (1, .int (Zi top))], [])) (fun _ => rfl) ?_
          refine Z_iinc (L2 := [(3, .int (Zi (w + 1))), (2, .int (Zi 0)), (4, .long (X_nw s top w)), (0, .ref 83), (1, .int (Zi top))]) rfl rfl (by decide) rfl ?_
          refine Z_go (f2 := (4, [(3, .int (Zi (w + 1))), (2, .int (Zi 0)), (4, .long (X_nw s top w)), (0, .ref 83), (1, .int (Zi top))], [])) (fun _ => rfl) ?_
          refine B_loc (K := [(3, .int (Zi (w + 1))), (2, .int (Zi 0)), (0, .ref 83), (1, .int (Zi top))]) (N_all_sub ⟨rfl, rfl, rfl, rfl, trivial⟩) (show ([3, 2, 0, 1] : List Nat).Nodup by decide) ?_
          refine ih (w + 1) (0) _ h (by omega) hs (hu.st w0 (by omega) (by omega) rfl (by rw [g2]) (by omega)) ?_ (by omega) (by omega)
          refine ⟨.inl rfl, fun q => absurd rfl q, fun ⟨k, k0, k1, k2⟩ => ?_⟩
          exfalso
          by_cases c : k = w
          · exact k2 (by rw [c]; exact hzl1.mp (by assumption))
          · exact absurd (ha.2.mpr ⟨k, k0, by omega, k2⟩) (by omega)
        · refine Z_go (f2 := (84, [(4, .long (X_nw s top w)), (3, .int (Zi w)), (2, .int (Zi a)), (0, .ref 83), (1, .int (Zi top))], [.int (Zi 1)])) (fun _ => rfl) ?_
          refine Z_go (f2 := (88, [(4, .long (X_nw s top w)), (3, .int (Zi w)), (2, .int (Zi a)), (0, .ref 83), (1, .int (Zi top))], [.int (Zi 1)])) (fun _ => rfl) ?_
          refine Z_go (f2 := (89, [(2, .int (Zi 1)), (4, .long (X_nw s top w)), (3, .int (Zi w)), (0, .ref 83), (1, .int (Zi top))], [])) (fun _ => rfl) ?_
          refine Z_iinc (L2 := [(3, .int (Zi (w + 1))), (2, .int (Zi 1)), (4, .long (X_nw s top w)), (0, .ref 83), (1, .int (Zi top))]) rfl rfl (by decide) rfl ?_
          refine Z_go (f2 := (4, [(3, .int (Zi (w + 1))), (2, .int (Zi 1)), (4, .long (X_nw s top w)), (0, .ref 83), (1, .int (Zi top))], [])) (fun _ => rfl) ?_
          refine B_loc (K := [(3, .int (Zi (w + 1))), (2, .int (Zi 1)), (0, .ref 83), (1, .int (Zi top))]) (N_all_sub ⟨rfl, rfl, rfl, rfl, trivial⟩) (show ([3, 2, 0, 1] : List Nat).Nodup by decide) ?_
          refine ih (w + 1) (1) _ h (by omega) hs (hu.st w0 (by omega) (by omega) rfl (by rw [g2]) (by omega)) ?_ (by omega) (by omega)
          refine ⟨.inr rfl, fun _ => ⟨w, w0, by omega, fun q => ?_⟩, fun _ => by decide⟩
          have := hzl1.mpr q
          omega
theorem R_news (d : Nat) (s : R_S) {top : Int} {X Y : Int → Prop} (zt : Zr top) (t0 : 1 ≤ top) (t1 : top < 260) (hX : R_bs_ s 119 (16 * top) X) (hY : R_bs_ s 119 (16 * (top - 1)) Y) : R_ok (d + 1) 264 [.int (Zi top)] s (fun x s2 => R_lq 119 s s2 ∧ (∀ j, j < 16 * (top - 1) → s2.2.2.2 119 j = s.2.2.2 119 j) ∧ R_bs_ s2 119 (16 * top) (fun i => X i ∧ ¬ Y i) ∧ R_bs_ s2 119 (16 * (top - 1)) (fun i => Y i ∨ X i) ∧ ∃ a : Int, x = some (.int (Zi a)) ∧ (a = 0 ∨ a = 1) ∧ (a ≠ 0 ↔ ∃ i, 0 ≤ i ∧ i < 1024 ∧ X i ∧ ¬ Y i)) := by
  refine R_enter (M := E_m264) rfl (Nat.le_of_ble_eq_true rfl) (fun h0 h hs => ?_)
  show B_R d _ (0, [(0, .ref 83), (1, .int (Zi top))], []) _ _ _
  have hb : ∀ (w : Int) (b : Nat), 0 ≤ w → w < 16 → b < 64 → (T_bit (X_nw s top w) b ↔ X (64 * w + b) ∧ ¬ Y (64 * w + b)) := fun w b w0 w1 hb => by
    unfold X_nw
    rw [T_bit_land, T_bit_not hb, hX.bit w0 w1 hb, hY.bit w0 w1 hb]
  refine Z_go (f2 := (1, [(0, .ref 83), (1, .int (Zi top))], [.int (Zi 0)])) (fun _ => rfl) ?_
  refine Z_go (f2 := (2, [(2, .int (Zi 0)), (0, .ref 83), (1, .int (Zi top))], [])) (fun _ => rfl) ?_
  refine Z_go (f2 := (3, [(2, .int (Zi 0)), (0, .ref 83), (1, .int (Zi top))], [.int (Zi 0)])) (fun _ => rfl) ?_
  refine Z_go (f2 := (4, [(3, .int (Zi 0)), (2, .int (Zi 0)), (0, .ref 83), (1, .int (Zi top))], [])) (fun _ => rfl) ?_
  refine B_loc (K := [(3, .int (Zi 0)), (2, .int (Zi 0)), (0, .ref 83), (1, .int (Zi top))]) (N_all_sub ⟨rfl, rfl, rfl, rfl, trivial⟩) (show ([3, 2, 0, 1] : List Nat).Nodup by decide) ?_
  refine R_nws_lp (s := s) t0 t1 (fun u a h hs hu ha => ⟨_, hs, ⟨hu.1, fun j hj => by rw [hu.2, if_neg (by omega), if_neg (by omega)], R_bs_.mk (fun w b w0 w1 hb2 => ?_), R_bs_.mk (fun w b w0 w1 hb2 => ?_), a, rfl, ha.1, ha.2.trans ?_⟩, rfl⟩) 17 0 0 s h (by omega) hs (R_nws_0 s _) ⟨.inl rfl, fun q => absurd rfl q, fun ⟨k, k0, k1, _⟩ => by omega⟩ (by omega) (by omega)
  · rw [hu.2, if_pos (by omega), show 16 * top + w - 16 * top = w by omega]
    exact hb w b w0 w1 hb2
  · rw [hu.2, if_neg (by omega), if_pos (by omega), show 16 * (top - 1) + w - 16 * (top - 1) = w by omega, T_bit_lor, hY.bit w0 w1 hb2, hb w b w0 w1 hb2]
    constructor
    · rintro (e | e)
      · exact .inl e
      · exact .inr e.1
    · rintro (e | e)
      · exact .inl e
      · by_cases c : Y (64 * w + b)
        · exact .inl c
        · exact .inr ⟨e, c⟩
  · constructor
    · rintro ⟨k, k0, k1, k2⟩
      obtain ⟨j, j0, j1⟩ := T_bit_ne.mp k2
      have := (hb k j k0 k1 j0).mp j1
      exact ⟨_, by omega, by omega, this⟩
    · rintro ⟨i, i0, i1, e⟩
      refine ⟨i / 64, by omega, by omega, T_bit_ne.mpr ⟨(i % 64).toNat, by omega, (hb _ _ (by omega) (by omega) (by omega)).mpr ?_⟩⟩
      rw [show 64 * (i / 64) + (((i % 64).toNat : Nat) : Int) = i by omega]
      exact e
