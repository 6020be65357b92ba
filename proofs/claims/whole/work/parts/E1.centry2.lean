/-! the class: Entry: fill -/
theorem B_R.weak {d : Nat} {M : E_MI} {f : E_F} {h : E_H} {sl : Nat} {Φ Ψ : E_R → Prop} (k : B_R d M f h sl Φ) (hi : ∀ r, Φ r → Ψ r) : B_R d M f h sl Ψ := by
  obtain ⟨m, n, r, e, q⟩ := k
  exact ⟨m, n, r, e, hi r q⟩
/-- an entry without its row -/
def D_Es (s : C_S) (p : List Nat) (e ba g : Nat) (X : List Int) : Prop := C_K s e = (8, 0) ∧ C_T s e = p ∧ C_P s e 0 = some ba ∧ C_P s e 1 = some g ∧ C_K s ba = (1, X.length) ∧ C_T s ba = p ∧ (∀ x ∈ X, 0 ≤ x ∧ x < 256) ∧ (∀ k : Int, 0 ≤ k → k < X.length → C_A s ba k % 256 = L_at X k)
theorem D_Es.en {s : C_S} {p : List Nat} {e ba g a cap : Nat} {X : List Int} (h : D_Es s p e ba g X) (r : D_Row s (p ++ [g]) g a cap (L_gr X)) : D_En s p e ba g a cap X := by
  obtain ⟨h1, h2, h3, h4, h5, h6, h7, h8⟩ := h
  exact ⟨h1, h2, h3, h4, h5, h6, h7, h8, r⟩
theorem D_En.es {s : C_S} {p : List Nat} {e ba g a cap : Nat} {X : List Int} (h : D_En s p e ba g a cap X) : D_Es s p e ba g X ∧ D_Row s (p ++ [g]) g a cap (L_gr X) := by
  obtain ⟨h1, h2, h3, h4, h5, h6, h7, h8, h9⟩ := h
  exact ⟨⟨h1, h2, h3, h4, h5, h6, h7, h8⟩, h9⟩
theorem D_Es.fr {Z : List Nat → Prop} {s s2 : C_S} {p : List Nat} {e ba g : Nat} {X : List Int} (h : D_Es s p e ba g X) (w : C_wf s) (k : C_fr Z s s2) (nz : ¬ Z p) : D_Es s2 p e ba g X := by
  obtain ⟨h1, h2, h3, h4, h5, h6, h7, h8⟩ := h
  have le := C_lt w h1 (show 8 < 20 by decide)
  have lb := C_lt w h5 (show 1 < 20 by decide)
  obtain ⟨e1, e2, e3, e4, e5⟩ := k.2.2.1 e le (by rw [h2]; exact nz)
  obtain ⟨b1, b2, b3, b4, b5⟩ := k.2.2.1 ba lb (by rw [h6]; exact nz)
  exact ⟨by rw [(k.2.1 e le).1]; exact h1, by rw [(k.2.1 e le).2]; exact h2, by rw [e2]; exact h3, by rw [e2]; exact h4, by rw [(k.2.1 ba lb).1]; exact h5, by rw [(k.2.1 ba lb).2]; exact h6, h7, fun j j0 j1 => by rw [b3]; exact h8 j j0 j1⟩
def L_g3 (X : List Int) (k : Int) : Int := 65536 * L_at X k + 256 * L_at X (k + 1) + L_at X (k + 2)
theorem L_gr_at (X : List Int) (x : Int) : x ∈ L_gr X ↔ ∃ k : Int, 0 ≤ k ∧ k + 2 < X.length ∧ x = L_g3 X k := by
  rw [L_gr_mem]
  constructor
  · rintro ⟨i, hi, h⟩
    refine ⟨i, by omega, by omega, ?_⟩
    unfold L_g3
    rw [L_at_nat (by omega), show (i : Int) + 1 = ((i + 1 : Nat) : Int) by omega, show (i : Int) + 2 = ((i + 2 : Nat) : Int) by omega, L_at_nat (by omega), L_at_nat hi]
    exact h
  · rintro ⟨k, k0, k1, h⟩
    obtain ⟨i, rfl⟩ := Int.eq_ofNat_of_zero_le k0
    refine ⟨i, by omega, ?_⟩
    unfold L_g3 at h
    rw [L_at_nat (by omega), show (i : Int) + 1 = ((i + 1 : Nat) : Int) by omega, show (i : Int) + 2 = ((i + 2 : Nat) : Int) by omega, L_at_nat (by omega), L_at_nat (by omega)] at h
    exact h
theorem L_g3_zr {X : List Int} (hb : ∀ x ∈ X, 0 ≤ x ∧ x < 256) {k : Int} (k0 : 0 ≤ k) (k1 : k + 2 < X.length) : (0 ≤ L_at X k ∧ L_at X k < 256) ∧ (0 ≤ L_at X (k + 1) ∧ L_at X (k + 1) < 256) ∧ (0 ≤ L_at X (k + 2) ∧ L_at X (k + 2) < 256) := ⟨hb _ (L_at_mem.mpr ⟨k, k0, by omega, rfl⟩), hb _ (L_at_mem.mpr ⟨k + 1, by omega, by omega, rfl⟩), hb _ (L_at_mem.mpr ⟨k + 2, by omega, by omega, rfl⟩)⟩
def L_gs (X : List Int) (i : Int) (zs : List Int) : Prop := L_srt zs ∧ (zs.length : Int) ≤ i ∧ ∀ x, x ∈ zs ↔ ∃ k : Int, 0 ≤ k ∧ k < i ∧ x = L_g3 X k
theorem L_gs_0 (X : List Int) : L_gs X 0 [] := ⟨trivial, Int.le_refl _, fun x => ⟨fun h => absurd h (List.not_mem_nil), fun ⟨k, k0, k1, _⟩ => by omega⟩⟩
theorem L_gs_s {X zs : List Int} {i : Int} (h : L_gs X i zs) (i0 : 0 ≤ i) : L_gs X (i + 1) (L_ins (L_g3 X i) zs) := by
  obtain ⟨h1, h2, h3⟩ := h
  have hl := L_ins_le zs (L_g3 X i)
  refine ⟨L_ins_srt h1, by omega, fun x => ?_⟩
  rw [L_ins_mem, h3]
  constructor
  · rintro (rfl | ⟨k, k0, k1, e⟩)
    · exact ⟨i, i0, by omega, rfl⟩
    · exact ⟨k, k0, by omega, e⟩
  · rintro ⟨k, k0, k1, e⟩
    by_cases c : k = i
    · subst c
      exact .inl e
    · exact .inr ⟨k, k0, by omega, e⟩
theorem L_gs_e {X zs : List Int} {i : Int} (h : L_gs X i zs) (i1 : i = X.length - 2 ∨ i = 0 ∧ X.length < 3) : zs = L_gr X := by
  refine L_srt_ext h.1 (L_gr_srt X) (fun x => ?_)
  rw [h.2.2, L_gr_at]
  constructor
  · rintro ⟨k, k0, k1, e⟩
    exact ⟨k, k0, by omega, e⟩
  · rintro ⟨k, k0, k1, e⟩
    exact ⟨k, k0, by omega, e⟩
theorem C_fl_lp {d : Nat} {h0 : E_H} {s : C_S} {p : List Nat} {e ba g cap fb S0 : Nat} {X : List Int} (w : C_wf s) (hx : X.length ≤ 1000) : ∀ (t : Nat) (i : Int) (u : C_S) (h : E_H) (zs : List Int) (sl : Nat), (X.length : Int) - i < t → C_is h0 h u → D_Es u p e ba g X → D_rw (p ++ [g]) g cap zs X.length s u sl → L_gs X i zs → 0 ≤ i → (i ≤ X.length - 2 ∨ i = 0) → B_R (d + 3) E_m1 (29, [(3, .int (Zi i)), (0, .ref e), (1, .ref fb), (2, .int (Zi ((X.length : Int))))], []) h (S0 + sl) (fun r => ∃ s2 : C_S, C_is h0 r.2.1 s2 ∧ (fun (x : Option Value) (s2 : C_S) (n : Nat) => x = none ∧ D_Es s2 p e ba g X ∧ ∃ n2, n = S0 + n2 ∧ D_rw (p ++ [g]) g cap (L_gr X) X.length s s2 n2) r.1 s2 r.2.2) := by
  intro t
  induction t with
  | zero => intro i u h zs sl ht2 hs es rw_ gs i0 i1; omega
  | succ t ih =>
    intro i u h zs sl ht2 hs es rw_ gs i0 i1
    have wu := hs.1
    have es0 := es
    obtain ⟨ek, et, ep, eg, bk, bt, xb, xa⟩ := es
    have rw0 := rw_
    obtain ⟨a2, cap2, hr, fr, g1, g2, g3⟩ := rw_
    have hr0 := hr
    have zb := (hs.len (by decide) bk).1
    refine Z_go (f2 := (30, [(3, .int (Zi i)), (0, .ref e), (1, .ref fb), (2, .int (Zi ((X.length : Int))))], [.int (Zi i)])) (fun _ => rfl) ?_
    refine Z_go (f2 := (31, [(3, .int (Zi i)), (0, .ref e), (1, .ref fb), (2, .int (Zi ((X.length : Int))))], [.int (Zi 2), .int (Zi i)])) (fun _ => rfl) ?_
    refine Z_iadd rfl ?_
    refine Z_go (f2 := (33, [(3, .int (Zi i)), (0, .ref e), (1, .ref fb), (2, .int (Zi ((X.length : Int))))], [.int (Zi ((X.length : Int))), .int (Zi (i + 2))])) (fun _ => rfl) ?_
    refine Z_cge rfl rfl (by first | exact hs.zF _ _ | exact Zor_r _ _ | exact hs.zA _ _ | assumption | exact zA _ _ | exact zS _ | exact Zr_not (hs.zA _ _) | exact hs.1.1 _ _ | exact ⟨by omega, by omega⟩) (by first | exact hs.zF _ _ | exact Zor_r _ _ | exact hs.zA _ _ | assumption | exact zA _ _ | exact zS _ | exact Zr_not (hs.zA _ _) | exact hs.1.1 _ _ | exact ⟨by omega, by omega⟩) (fun c1 => ?_) (fun c1 => ?_)
    · refine Z_ret rfl rfl ⟨_, hs, ?_⟩
      try dsimp only
      have e := L_gs_e gs (by omega)
      subst e
      exact ⟨rfl, es0, _, rfl, rw0⟩
    · have g3z := L_g3_zr xb i0 (show i + 2 < X.length by omega)
      refine Z_go (f2 := (37, [(3, .int (Zi i)), (0, .ref e), (1, .ref fb), (2, .int (Zi ((X.length : Int))))], [.ref e])) (fun _ => rfl) ?_
      refine C_gr rfl hs ek (by decide) (Nat.le_of_ble_eq_true rfl) rfl eg ?_
      refine Z_go (f2 := (41, [(3, .int (Zi i)), (0, .ref e), (1, .ref fb), (2, .int (Zi ((X.length : Int))))], [.ref e, .ref g])) (fun _ => rfl) ?_
      refine C_gr rfl hs ek (by decide) (Nat.le_of_ble_eq_true rfl) rfl ep ?_
      refine Z_go (f2 := (45, [(3, .int (Zi i)), (0, .ref e), (1, .ref fb), (2, .int (Zi ((X.length : Int))))], [.int (Zi i), .ref ba, .ref g])) (fun _ => rfl) ?_
      refine C_callSR (vs := [.ref ba, .int (Zi i)]) (rest := [.ref g]) rfl (by decide) rfl rfl rfl (Nat.le_of_ble_eq_true rfl) hs (C_byteOf _ bk (i := i) (by first | exact hs.zF _ _ | exact Zor_r _ _ | exact hs.zA _ _ | assumption | exact zA _ _ | exact zS _ | exact Zr_not (hs.zA _ _) | exact hs.1.1 _ _ | exact ⟨by omega, by omega⟩)) (fun x q => ?_)
      rw [if_pos ⟨by omega, by omega⟩, xa _ (by omega) (by omega)] at q
      obtain rfl := q
      show B_R _ _ (48, [(3, .int (Zi i)), (0, .ref e), (1, .ref fb), (2, .int (Zi ((X.length : Int))))], [.int (Zi (L_at X i)), .ref g]) _ _ _
      refine Z_go (f2 := (49, [(3, .int (Zi i)), (0, .ref e), (1, .ref fb), (2, .int (Zi ((X.length : Int))))], [.ref e, .int (Zi (L_at X i)), .ref g])) (fun _ => rfl) ?_
      refine C_gr rfl hs ek (by decide) (Nat.le_of_ble_eq_true rfl) rfl ep ?_
      refine Z_go (f2 := (53, [(3, .int (Zi i)), (0, .ref e), (1, .ref fb), (2, .int (Zi ((X.length : Int))))], [.int (Zi i), .ref ba, .int (Zi (L_at X i)), .ref g])) (fun _ => rfl) ?_
      refine Z_go (f2 := (54, [(3, .int (Zi i)), (0, .ref e), (1, .ref fb), (2, .int (Zi ((X.length : Int))))], [.int (Zi 1), .int (Zi i), .ref ba, .int (Zi (L_at X i)), .ref g])) (fun _ => rfl) ?_
      refine Z_iadd rfl ?_
      refine C_callSR (vs := [.ref ba, .int (Zi (i + 1))]) (rest := [.int (Zi (L_at X i)), .ref g]) rfl (by decide) rfl rfl rfl (Nat.le_of_ble_eq_true rfl) hs (C_byteOf _ bk (i := i + 1) (by first | exact hs.zF _ _ | exact Zor_r _ _ | exact hs.zA _ _ | assumption | exact zA _ _ | exact zS _ | exact Zr_not (hs.zA _ _) | exact hs.1.1 _ _ | exact ⟨by omega, by omega⟩)) (fun x q => ?_)
      rw [if_pos ⟨by omega, by omega⟩, xa _ (by omega) (by omega)] at q
      obtain rfl := q
      show B_R _ _ (58, [(3, .int (Zi i)), (0, .ref e), (1, .ref fb), (2, .int (Zi ((X.length : Int))))], [.int (Zi (L_at X (i + 1))), .int (Zi (L_at X i)), .ref g]) _ _ _
      refine Z_go (f2 := (59, [(3, .int (Zi i)), (0, .ref e), (1, .ref fb), (2, .int (Zi ((X.length : Int))))], [.ref e, .int (Zi (L_at X (i + 1))), .int (Zi (L_at X i)), .ref g])) (fun _ => rfl) ?_
      refine C_gr rfl hs ek (by decide) (Nat.le_of_ble_eq_true rfl) rfl ep ?_
      refine Z_go (f2 := (63, [(3, .int (Zi i)), (0, .ref e), (1, .ref fb), (2, .int (Zi ((X.length : Int))))], [.int (Zi i), .ref ba, .int (Zi (L_at X (i + 1))), .int (Zi (L_at X i)), .ref g])) (fun _ => rfl) ?_
      refine Z_go (f2 := (64, [(3, .int (Zi i)), (0, .ref e), (1, .ref fb), (2, .int (Zi ((X.length : Int))))], [.int (Zi 2), .int (Zi i), .ref ba, .int (Zi (L_at X (i + 1))), .int (Zi (L_at X i)), .ref g])) (fun _ => rfl) ?_
      refine Z_iadd rfl ?_
      refine C_callSR (vs := [.ref ba, .int (Zi (i + 2))]) (rest := [.int (Zi (L_at X (i + 1))), .int (Zi (L_at X i)), .ref g]) rfl (by decide) rfl rfl rfl (Nat.le_of_ble_eq_true rfl) hs (C_byteOf _ bk (i := i + 2) (by first | exact hs.zF _ _ | exact Zor_r _ _ | exact hs.zA _ _ | assumption | exact zA _ _ | exact zS _ | exact Zr_not (hs.zA _ _) | exact hs.1.1 _ _ | exact ⟨by omega, by omega⟩)) (fun x q => ?_)
      rw [if_pos ⟨by omega, by omega⟩, xa _ (by omega) (by omega)] at q
      obtain rfl := q
      show B_R _ _ (68, [(3, .int (Zi i)), (0, .ref e), (1, .ref fb), (2, .int (Zi ((X.length : Int))))], [.int (Zi (L_at X (i + 2))), .int (Zi (L_at X (i + 1))), .int (Zi (L_at X i)), .ref g]) _ _ _
      refine Z_callQ (vs := [.int (Zi (L_at X i)), .int (Zi (L_at X (i + 1))), .int (Zi (L_at X (i + 2)))]) (rest := [.ref g]) rfl (by decide) rfl rfl rfl (Nat.le_of_ble_eq_true rfl) (C_gramOf _ g3z.1.1 g3z.1.2 g3z.2.1.1 g3z.2.1.2 g3z.2.2.1 g3z.2.2.2) (fun x q => ?_)
      obtain rfl := q
      show B_R _ _ (71, [(3, .int (Zi i)), (0, .ref e), (1, .ref fb), (2, .int (Zi ((X.length : Int))))], [.int (Zi (L_g3 X i)), .ref g]) _ _ _
      refine C_callV (As := [.int (Zi (L_g3 X i))]) (rest := []) rfl (by decide) rfl (by decide) rfl rfl (by decide +kernel) (Nat.le_of_ble_eq_true rfl) hs hr0.1 (C_insert _ hr0 (v := L_g3 X i) gs.1 (by have := g3z; unfold L_g3; exact ⟨by omega, by omega⟩) (by have := gs.2.1; omega)) (fun x h v n hs q => ?_)
      obtain ⟨rfl, hv⟩ := q
      show B_R _ _ (74, [(3, .int (Zi i)), (0, .ref e), (1, .ref fb), (2, .int (Zi ((X.length : Int))))], []) _ _ _
      refine Z_iinc (L2 := [(3, .int (Zi (i + 1))), (0, .ref e), (1, .ref fb), (2, .int (Zi ((X.length : Int))))]) rfl rfl (by decide) rfl ?_
      refine Z_go (f2 := (29, [(3, .int (Zi (i + 1))), (0, .ref e), (1, .ref fb), (2, .int (Zi ((X.length : Int))))], [])) (fun _ => rfl) ?_
      refine B_loc (K := [(3, .int (Zi (i + 1))), (0, .ref e), (1, .ref fb), (2, .int (Zi ((X.length : Int))))]) (N_all_sub ⟨rfl, rfl, rfl, rfl, trivial⟩) (show ([3, 0, 1, 2] : List Nat).Nodup by decide) ?_
      have fv : C_fr (fun t => t = p ++ [g]) u v := hv.choose_spec.choose_spec.2.1
      rw [Nat.add_assoc]
      refine ih (i + 1) v h _ _ (by omega) hs (es0.fr wu fv (fun e => L_app_ne p g e)) ?_ (L_gs_s gs i0) (by omega) (by omega)
      exact D_rw.tr fr g1 g2 g3 hr0 hv (by have := gs.2.1; omega)
theorem C_fillE (d : Nat) {s : C_S} {p : List Nat} {e b0 g a cap fb N : Nat} {X0 X zs : List Int} (he : D_Es s p e b0 g X0) (hr : D_Row s (p ++ [g]) g a cap zs) (hf : D_by s fb N X) (hx : X.length ≤ 1000) (hN : N ≤ 67108864) (nt : ¬ p <+: C_T s fb) : C_ok (d + 4) 1 [.ref e, .ref fb, .int (Zi ((X.length : Int)))] s (fun x s2 n => x = none ∧ C_n s ≤ C_n s2 ∧ ∃ ba a2 cap2, D_En s2 p e ba g a2 cap2 X ∧ C_fr (fun t => p <+: t) s s2 ∧ n + 2 * cap ≤ 2 * cap2 + X.length ∧ 8 * C_n s2 + cap ≤ 8 * C_n s + 8 + cap2 ∧ ((cap2 : Int) ≤ cap ∨ (cap2 : Int) ≤ 2 * X.length)) := by
  refine C_enter (M := E_m1) rfl (Nat.le_of_ble_eq_true rfl) (fun h0 h hs => ?_)
  show B_R (d + 3) _ (0, [(0, .ref e), (1, .ref fb), (2, .int (Zi ((X.length : Int))))], []) _ _ _
  have w := hs.1
  obtain ⟨ek, et, ep, eg, bk, bt, xb, xa⟩ := he
  obtain ⟨fk, fl, fb_, fa⟩ := hf
  have hr0 := hr
  have zb := (hs.len (by decide) fk).1
  have le := C_lt w ek (show 8 < 20 by decide)
  have lf := C_lt w fk (show 1 < 20 by decide)
  have lg := C_lt w hr.1 (show 15 < 20 by decide)
  have zr0 := D_Row.zr hs hr
  refine Z_go (f2 := (1, [(0, .ref e), (1, .ref fb), (2, .int (Zi ((X.length : Int))))], [.int (Zi ((X.length : Int)))])) (fun _ => rfl) ?_
  refine Z_ilt rfl rfl (by first | exact hs.zF _ _ | exact Zor_r _ _ | exact hs.zA _ _ | assumption | exact zA _ _ | exact zS _ | exact Zr_not (hs.zA _ _) | exact hs.1.1 _ _ | exact ⟨by omega, by omega⟩) (fun c1 => ?_) (fun c1 => ?_)
  · refine Z_ret rfl rfl ⟨_, hs, ?_⟩
    try dsimp only
    exfalso; omega
  · refine Z_go (f2 := (5, [(0, .ref e), (1, .ref fb), (2, .int (Zi ((X.length : Int))))], [.int (Zi ((X.length : Int)))])) (fun _ => rfl) ?_
    refine Z_go (f2 := (6, [(0, .ref e), (1, .ref fb), (2, .int (Zi ((X.length : Int))))], [.ref fb, .int (Zi ((X.length : Int)))])) (fun _ => rfl) ?_
    refine C_al rfl hs fk (by decide) ?_
    show B_R _ _ (7, [(0, .ref e), (1, .ref fb), (2, .int (Zi ((X.length : Int))))], [.int (Zi ((N : Int))), .int (Zi ((X.length : Int)))]) _ _ _
    refine Z_cle rfl rfl (by first | exact hs.zF _ _ | exact Zor_r _ _ | exact hs.zA _ _ | assumption | exact zA _ _ | exact zS _ | exact Zr_not (hs.zA _ _) | exact hs.1.1 _ _ | exact ⟨by omega, by omega⟩) (by first | exact hs.zF _ _ | exact Zor_r _ _ | exact hs.zA _ _ | assumption | exact zA _ _ | exact zS _ | exact Zr_not (hs.zA _ _) | exact hs.1.1 _ _ | exact ⟨by omega, by omega⟩) (fun c2 => ?_) (fun c2 => ?_)
    · refine Z_go (f2 := (12, [(0, .ref e), (1, .ref fb), (2, .int (Zi ((X.length : Int))))], [.ref e])) (fun _ => rfl) ?_
      refine Z_go (f2 := (13, [(0, .ref e), (1, .ref fb), (2, .int (Zi ((X.length : Int))))], [.ref fb, .ref e])) (fun _ => rfl) ?_
      refine Z_go (f2 := (14, [(0, .ref e), (1, .ref fb), (2, .int (Zi ((X.length : Int))))], [.int (Zi ((X.length : Int))), .ref fb, .ref e])) (fun _ => rfl) ?_
      refine C_callJ (vs := [.ref fb, .int (Zi ((X.length : Int)))]) (rest := [.ref e]) rfl (by decide) (by decide) rfl rfl rfl (Nat.le_of_ble_eq_true rfl) hs (C_copyB _ (t := p) fk (m := (X.length : Int)) (by omega) (by omega) (by omega)) (fun x h u n hs q => ?_)
      obtain ⟨rfl, rfl, gg, rfl, hg⟩ := q
      rw [Int.toNat_natCast] at hs
      have ek1 : C_K (C_sAf (C_new s (1, X.length) p) (C_n s) gg) e = (8, 0) := (if_neg (show ¬ e = C_n s by omega)).trans ek
      show B_R _ _ (17, [(0, .ref e), (1, .ref fb), (2, .int (Zi ((X.length : Int))))], [.ref (C_n s), .ref e]) _ _ _
      refine C_pr rfl hs (r := some (C_n s)) rfl ek1 (by decide) (Nat.le_of_ble_eq_true rfl) (.inl rfl) rfl (fun h hs => ?_)
      have w1 := hs.1
      have es1 : D_Es (C_sP (C_sAf (C_new s (1, X.length) p) (C_n s) gg) e 0 (some (C_n s))) p e (C_n s) g X := ⟨ek1, (if_neg (show ¬ e = C_n s by omega)).trans et, if_pos ⟨rfl, rfl⟩, (if_neg (by omega)).trans ((congrFun (if_neg (show ¬ e = C_n s by omega)) 1).trans eg), if_pos rfl, if_pos rfl, fb_, fun k k0 k1 => by rw [← fa k k0 k1, ← hg k k0 k1]; exact congrArg (fun z => z % 256) (congrFun (if_pos rfl) k)⟩
      have fr1 : C_fr (fun t => p <+: t) s (C_sP (C_sAf (C_new s (1, X.length) p) (C_n s) gg) e 0 (some (C_n s))) := (((C_fr.refl _ s).new (L_pre_self p)).sAf (by rw [show C_T (C_new s (1, X.length) p) (C_n s) = p from if_pos rfl]; exact L_pre_self p)).sP (by rw [show C_T (C_sAf (C_new s (1, X.length) p) (C_n s) gg) e = p from (if_neg (show ¬ e = C_n s by omega)).trans et]; exact L_pre_self p)
      have fr0 : C_fr (fun t => t = p) s (C_sP (C_sAf (C_new s (1, X.length) p) (C_n s) gg) e 0 (some (C_n s))) := (((C_fr.refl (fun t => t = p) s).new rfl).sAf (show C_T (C_new s (1, X.length) p) (C_n s) = p from if_pos rfl)).sP (show C_T (C_sAf (C_new s (1, X.length) p) (C_n s) gg) e = p from (if_neg (show ¬ e = C_n s by omega)).trans et)
      have hr1 := hr0.fr w fr0 (fun e => L_app_ne p g e.symm)
      have hrk := hr1.1
      refine Z_go (f2 := (21, [(0, .ref e), (1, .ref fb), (2, .int (Zi ((X.length : Int))))], [.ref e])) (fun _ => rfl) ?_
      refine C_gr rfl hs ek1 (by decide) (Nat.le_of_ble_eq_true rfl) rfl es1.2.2.2.1 ?_
      refine C_callV (As := []) (rest := []) rfl (by decide) rfl (by decide) rfl rfl (by decide +kernel) (Nat.le_of_ble_eq_true rfl) hs hrk (C_clear _ hr1) (fun x h v n hs q => ?_)
      obtain ⟨rfl, rfl, hr2, fr2, en2⟩ := q
      show B_R _ _ (27, [(0, .ref e), (1, .ref fb), (2, .int (Zi ((X.length : Int))))], []) _ _ _
      refine Z_go (f2 := (28, [(0, .ref e), (1, .ref fb), (2, .int (Zi ((X.length : Int))))], [.int (Zi 0)])) (fun _ => rfl) ?_
      refine Z_go (f2 := (29, [(3, .int (Zi 0)), (0, .ref e), (1, .ref fb), (2, .int (Zi ((X.length : Int))))], [])) (fun _ => rfl) ?_
      refine B_loc (K := [(3, .int (Zi 0)), (0, .ref e), (1, .ref fb), (2, .int (Zi ((X.length : Int))))]) (N_all_sub ⟨rfl, rfl, rfl, rfl, trivial⟩) (show ([3, 0, 1, 2] : List Nat).Nodup by decide) ?_
      have es2 := es1.fr w1 fr2 (fun e => L_app_ne p g e)
      have hrw : D_rw (p ++ [g]) g cap [] X.length (C_sP (C_sAf (C_new s (1, X.length) p) (C_n s) gg) e 0 (some (C_n s))) v 0 := ⟨a, cap, hr2, fr2, by omega, by omega, .inl (Int.le_refl _)⟩
      rw [show 0 + ((X.length : Int)).toNat + 0 = X.length + 0 by omega]
      refine B_R.weak (C_fl_lp (d := d) (S0 := X.length) w1 hx (X.length + 3) 0 v h [] 0 (by omega) hs es2 hrw (L_gs_0 X) (by omega) (.inr rfl)) ?_
      rintro r ⟨s2, q1, q2, q3, n2, q5, q4⟩
      obtain ⟨a2, cap2, y1, y2, y3, y4, y5⟩ := q4
      refine ⟨s2, q1, q2, ?_, C_n s, a2, cap2, q3.en y1, fr1.trans y2 (fun _ e => e) (fun t e => by rw [e]; exact L_pre_one p g), by omega, ?_, y5⟩
      · have := y2.1
        show C_n s ≤ C_n s2
        have : C_n s + 1 ≤ C_n s2 := this
        omega
      · have e1 : C_n (C_sP (C_sAf (C_new s (1, X.length) p) (C_n s) gg) e 0 (some (C_n s))) = C_n s + 1 := rfl
        omega
    · refine Z_ret rfl rfl ⟨_, hs, ?_⟩
      try dsimp only
      exfalso; omega
