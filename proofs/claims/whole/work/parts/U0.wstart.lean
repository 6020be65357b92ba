/-! the law, from its entry -/
theorem L_two_mono {d x y RC RS : Nat} {as : List Int32} {h : E_H} {sl : Nat} {J K : E_H → Nat → Prop} (q : L_two d x y RC RS as h sl J) (k : ∀ h sl, J h sl → K h sl) : L_two d x y RC RS as h sl K := by
  obtain ⟨m1, m2, v, h1, s1, h2, s2, fs, gs, a1, a2, a3, a4, a5, a6, a7, a8⟩ := q
  exact ⟨m1, m2, v, h1, s1, h2, s2, fs, gs, a1, a2, a3, a4, a5, a6, a7, k _ _ a8⟩
theorem L_turn_mono {d RC RS j : Nat} {a : Nat → Int32} {h : E_H} {sl : Nat} {J K : E_H → Nat → Prop} (q : L_turn d RC RS j a h sl J) (k : ∀ h sl, J h sl → K h sl) : L_turn d RC RS j a h sl K := by
  match j, q with
  | 0, q => exact L_two_mono q k
  | 1, q => exact L_two_mono q k
  | 2, q => exact L_two_mono q k
  | 3, q => exact L_two_mono q k
  | 4, q => exact L_two_mono q k
  | 5, q => exact L_two_mono q k
  | 6, q => exact L_two_mono q k
  | 7, q => exact L_two_mono q k
  | 8, q => exact L_two_mono q k
  | 9, q => exact L_two_mono q k
  | 10, q => exact L_two_mono q k
  | 11, q => exact L_two_mono q k
  | 12, q => exact L_two_mono q k
  | 13, q => exact L_two_mono q k
  | 14, q => exact L_two_mono q k
  | 15, q => exact L_two_mono q k
  | 16, q => exact L_two_mono q k
  | j + 17, q => exact k _ _ q
theorem J_st.bd {t : Nat} {h : E_H} {sl : Nat} (q : J_st 1300000 t h sl) (ht : t ≤ 512) : h.length ≤ 600000 ∧ sl ≤ 7300000 := by
  obtain ⟨s, u, tb, sh, pa, pl, ma, re, X, fs, ca, th, tg, f, pq, Q, O, H, n3, n4, n5, n6, W, hc, hr, jc, jr, ji, r1, r2⟩ := q
  have w := jc.wb
  have l := hc.2.1
  omega
theorem E_deep {m d a : Nat} {vs : List Value} {h : E_H} {r : E_R} (e : E_call m d a vs h = some r) : ∀ j, E_call m (d + j) a vs h = some r
  | 0 => e
  | j + 1 => B_depth_le m _ _ _ _ _ (E_deep e j)
theorem whole_start {p : Program} {e : Env} {s : State} {m : MethodId} {below : List Frame} {meth : Method} {c : Code} (l : Launch) {b L : Nat} {xs : Nat → Int32} (hL : L ≤ 3072) (C0 : lw_At p s m meth c b L xs) : W p l e room_1 s m #[Value.ref b] below meth c s.heap [] 0 0 (lw_Z below #[Value.ref b] s) (entryFrame m ([Value.ref b] : List Value).toArray 4) := by
  have k1 := P_opt2 P_k1
  have k2 := P_opt2 P_k2
  have l83 : (P_gh P_r1).length = 83 := by
    have := k1.2
    unfold P_f1 at this
    exact beq_iff_eq.mp this
  have r1 : P_h.length ≤ room_1.cells := Nat.le_trans (P_le_ok P_len.1) (Nat.le_of_ble_eq_true rfl)
  have r2 : P_sl ≤ room_1.slots := Nat.le_trans P_slb (Nat.le_of_ble_eq_true rfl)
  refine L_start l C0 (fuel := 4000) (d := 300) (TT := 512) (h1 := P_gh P_r1) (h2 := P_h) (s1 := P_gs P_r1) (s2 := P_gs P_r2) (J := fun t h sl => t ≤ 512 ∧ J_st 1300000 t h sl) (by decide) (by omega) (by decide) (E_deep (d := 60) k1.1 240) l83 (E_deep (d := 60) k2.1 240) r1 r2 (fun t h sl ht hJ a j _ => ?_) (fun t h sl hJ => ⟨Nat.le_trans (hJ.2.bd hJ.1).1 (Nat.le_of_ble_eq_true rfl), Nat.le_trans (hJ.2.bd hJ.1).2 (Nat.le_of_ble_eq_true rfl)⟩) ⟨by omega, P_Jst⟩
  exact L_turn_mono (J_turn ht (Nat.le_refl _) (Nat.le_of_ble_eq_true rfl) (Nat.le_of_ble_eq_true rfl) hJ.2) (fun h sl q => ⟨ht, q⟩)
