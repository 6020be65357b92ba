/-! the class: Texts: copyTo, copyFrom, its constructor -/
theorem C_sA_sAf {s : C_S} {o : Nat} {g : Int → Int} {z v : Int} : C_sA (C_sAf s o g) o z v = C_sAf s o (fun j => if j = z then v else g j) := by
  unfold C_sA C_sAf
  refine congrArg (fun a => (C_n s, C_K s, C_T s, C_F s, C_P s, a, C_L s, C_Q s)) ?_
  funext j c
  show (if j = o ∧ c = z then v else (if j = o then g else C_A s j) c) = (if j = o then (fun j => if j = z then v else g j) else C_A s j) c
  by_cases e : j = o
  · rw [if_pos e, if_pos e]
    by_cases e2 : c = z
    · rw [if_pos ⟨e, e2⟩, if_pos e2]
    · rw [if_neg (fun x => e2 x.2), if_neg e2]
  · rw [if_neg e, if_neg e, if_neg (fun x => e x.1)]
theorem C_sAf_self {s : C_S} {o : Nat} : C_sAf s o (C_A s o) = s := by
  have e : (fun j => if j = o then C_A s o else C_A s j) = C_A s := by
    funext j
    by_cases e : j = o
    · rw [if_pos e, e]
    · rw [if_neg e]
  show (C_n s, C_K s, C_T s, C_F s, C_P s, (fun j => if j = o then C_A s o else C_A s j), C_L s, C_Q s) = s
  rw [e]
  rfl
theorem C_sAf_fr {X : List Nat → Prop} {s : C_S} {o : Nat} {g : Int → Int} (h : X (C_T s o)) : C_fr X s (C_sAf s o g) := (C_fr.refl X s).sAf h
theorem C_cpT_lp {d : Nat} {h0 : E_H} {s : C_S} {p : List Nat} {o ra la m : Nat} {τ : Int → List Int} {tb N : Nat} {i fr : Int} (w : C_wf s) (ht : D_Tx s p o ra la m τ) (tbk : C_K s tb = (1, N)) (nt : C_T s tb ≠ p) (i0 : 0 ≤ i) (i1 : i < m) (f0 : 0 ≤ fr) (f1 : fr + (τ i).length ≤ N) : ∀ (t : Nat) (k : Int) (g : Int → Int) (h : E_H), ((τ i).length : Int) - k < t → C_is h0 h (C_sAf s tb g) → (∀ c : Int, g c = if fr ≤ c ∧ c < fr + k then (L_at (τ i) (c - fr) + 128) % 256 - 128 else C_A s tb c) → 0 ≤ k → k ≤ (τ i).length → B_R (d + 2) E_m113 (6, [(5, .int (Zi k)), (4, .int (Zi (fr + k))), (0, .ref o), (1, .int (Zi i)), (2, .ref tb), (3, .int (Zi fr))], []) h 0 (fun r => ∃ s2 : C_S, C_is h0 r.2.1 s2 ∧ (fun (x : Option Value) (s2 : C_S) (n : Nat) => x = some (.int (Zi (fr + (τ i).length))) ∧ n = 0 ∧ ∃ g : Int → Int, s2 = C_sAf s tb g ∧ (∀ c : Int, g c = if fr ≤ c ∧ c < fr + (τ i).length then (L_at (τ i) (c - fr) + 128) % 256 - 128 else C_A s tb c)) r.1 s2 r.2.2) := by
  intro t
  induction t with
  | zero => intro k g h ht2 hs hg k0 k1; omega
  | succ t ih =>
    intro k g h ht2 hs hg k0 k1
    have hfr := C_sAf_fr (X := fun t => t = C_T s tb) (s := s) (o := tb) (g := g) rfl
    have ht0 := ht.fr w hfr (fun e => nt e.symm)
    have zN := (hs.len (show 1 < 20 by decide) (show C_K (C_sAf s tb g) tb = (1, N) from tbk)).1
    obtain ⟨⟨⟨tk, tt, tp, tq, rk, rt, lk, lt, tn, tl⟩, g1, g2⟩, g3⟩ := id ht0
    have hl60 := (g3 i ⟨i0, by omega⟩).2.1
    refine Z_go (f2 := (8, [(5, .int (Zi k)), (4, .int (Zi (fr + k))), (0, .ref o), (1, .int (Zi i)), (2, .ref tb), (3, .int (Zi fr))], [.int (Zi k)])) (fun _ => rfl) ?_
    refine Z_go (f2 := (9, [(5, .int (Zi k)), (4, .int (Zi (fr + k))), (0, .ref o), (1, .int (Zi i)), (2, .ref tb), (3, .int (Zi fr))], [.ref o, .int (Zi k)])) (fun _ => rfl) ?_
    refine Z_go (f2 := (10, [(5, .int (Zi k)), (4, .int (Zi (fr + k))), (0, .ref o), (1, .int (Zi i)), (2, .ref tb), (3, .int (Zi fr))], [.int (Zi i), .ref o, .int (Zi k)])) (fun _ => rfl) ?_
    refine C_callVR (As := [.int (Zi i)]) (rest := [.int (Zi k)]) rfl (by decide) rfl (by decide) rfl rfl (by decide +kernel) (Nat.le_of_ble_eq_true rfl) hs tk (C_lenOf _ ht0 (i := i) (by first | exact hs.zF _ _ | exact Zor_r _ _ | exact hs.zA _ _ | assumption | exact zA _ _ | exact zS _ | exact Zr_not (hs.zA _ _) | exact hs.1.1 _ _ | exact ⟨by omega, by omega⟩)) (fun x q => ?_)
    obtain ⟨ln87, eln87⟩ : ∃ z : Int, z = (if 0 ≤ i ∧ i < (m : Int) then ((τ i).length : Int) else 0) := ⟨_, rfl⟩
    rw [← eln87] at q
    obtain rfl := q
    have zln87 : 0 ≤ ln87 ∧ ln87 ≤ 60 := by rw [eln87]; split; exact ⟨by omega, by have := (g3 i ⟨by omega, by omega⟩).2.1; omega⟩; omega
    show B_R _ _ (13, [(5, .int (Zi k)), (4, .int (Zi (fr + k))), (0, .ref o), (1, .int (Zi i)), (2, .ref tb), (3, .int (Zi fr))], [.int (Zi ln87), .int (Zi k)]) _ _ _
    refine Z_cge rfl rfl (by first | exact hs.zF _ _ | exact Zor_r _ _ | exact hs.zA _ _ | assumption | exact zA _ _ | exact zS _ | exact Zr_not (hs.zA _ _) | exact hs.1.1 _ _ | exact ⟨by omega, by omega⟩) (by first | exact hs.zF _ _ | exact Zor_r _ _ | exact hs.zA _ _ | assumption | exact zA _ _ | exact zS _ | exact Zr_not (hs.zA _ _) | exact hs.1.1 _ _ | exact ⟨by omega, by omega⟩) (fun c1 => ?_) (fun c1 => ?_)
    · refine Z_go (f2 := (51, [(5, .int (Zi k)), (4, .int (Zi (fr + k))), (0, .ref o), (1, .int (Zi i)), (2, .ref tb), (3, .int (Zi fr))], [.int (Zi (fr + k))])) (fun _ => rfl) ?_
      refine Z_iret rfl rfl (by first | rfl | decide | exact narrow_b01 (by omega)) ⟨_, hs, ?_⟩
      try dsimp only
      rw [if_pos ⟨i0, by omega⟩] at eln87
      first
      | (exfalso; omega)
      | (have ek : k = (τ i).length := by omega
         subst ek
         exact ⟨rfl, rfl, g, rfl, hg⟩)
    · refine Z_go (f2 := (18, [(5, .int (Zi k)), (4, .int (Zi (fr + k))), (0, .ref o), (1, .int (Zi i)), (2, .ref tb), (3, .int (Zi fr))], [.int (Zi (fr + k))])) (fun _ => rfl) ?_
      refine Z_ilt rfl rfl (by first | exact hs.zF _ _ | exact Zor_r _ _ | exact hs.zA _ _ | assumption | exact zA _ _ | exact zS _ | exact Zr_not (hs.zA _ _) | exact hs.1.1 _ _ | exact ⟨by omega, by omega⟩) (fun c2 => ?_) (fun c2 => ?_)
      · refine Z_go (f2 := (51, [(5, .int (Zi k)), (4, .int (Zi (fr + k))), (0, .ref o), (1, .int (Zi i)), (2, .ref tb), (3, .int (Zi fr))], [.int (Zi (fr + k))])) (fun _ => rfl) ?_
        refine Z_iret rfl rfl (by first | rfl | decide | exact narrow_b01 (by omega)) ⟨_, hs, ?_⟩
        try dsimp only
        rw [if_pos ⟨i0, by omega⟩] at eln87
        first
        | (exfalso; omega)
        | (have ek : k = (τ i).length := by omega
           subst ek
           exact ⟨rfl, rfl, g, rfl, hg⟩)
      · refine Z_go (f2 := (23, [(5, .int (Zi k)), (4, .int (Zi (fr + k))), (0, .ref o), (1, .int (Zi i)), (2, .ref tb), (3, .int (Zi fr))], [.int (Zi (fr + k))])) (fun _ => rfl) ?_
        refine Z_go (f2 := (24, [(5, .int (Zi k)), (4, .int (Zi (fr + k))), (0, .ref o), (1, .int (Zi i)), (2, .ref tb), (3, .int (Zi fr))], [.ref tb, .int (Zi (fr + k))])) (fun _ => rfl) ?_
        refine C_al rfl hs tbk (by decide) ?_
        show B_R _ _ (25, [(5, .int (Zi k)), (4, .int (Zi (fr + k))), (0, .ref o), (1, .int (Zi i)), (2, .ref tb), (3, .int (Zi fr))], [.int (Zi ((N : Int))), .int (Zi (fr + k))]) _ _ _
        refine Z_cge rfl rfl (by first | exact hs.zF _ _ | exact Zor_r _ _ | exact hs.zA _ _ | assumption | exact zA _ _ | exact zS _ | exact Zr_not (hs.zA _ _) | exact hs.1.1 _ _ | exact ⟨by omega, by omega⟩) (by first | exact hs.zF _ _ | exact Zor_r _ _ | exact hs.zA _ _ | assumption | exact zA _ _ | exact zS _ | exact Zr_not (hs.zA _ _) | exact hs.1.1 _ _ | exact ⟨by omega, by omega⟩) (fun c3 => ?_) (fun c3 => ?_)
        · refine Z_go (f2 := (51, [(5, .int (Zi k)), (4, .int (Zi (fr + k))), (0, .ref o), (1, .int (Zi i)), (2, .ref tb), (3, .int (Zi fr))], [.int (Zi (fr + k))])) (fun _ => rfl) ?_
          refine Z_iret rfl rfl (by first | rfl | decide | exact narrow_b01 (by omega)) ⟨_, hs, ?_⟩
          try dsimp only
          rw [if_pos ⟨i0, by omega⟩] at eln87
          first
          | (exfalso; omega)
          | (have ek : k = (τ i).length := by omega
             subst ek
             exact ⟨rfl, rfl, g, rfl, hg⟩)
        · refine Z_go (f2 := (29, [(5, .int (Zi k)), (4, .int (Zi (fr + k))), (0, .ref o), (1, .int (Zi i)), (2, .ref tb), (3, .int (Zi fr))], [.ref tb])) (fun _ => rfl) ?_
          refine Z_go (f2 := (31, [(5, .int (Zi k)), (4, .int (Zi (fr + k))), (0, .ref o), (1, .int (Zi i)), (2, .ref tb), (3, .int (Zi fr))], [.int (Zi (fr + k)), .ref tb])) (fun _ => rfl) ?_
          refine Z_go (f2 := (32, [(5, .int (Zi k)), (4, .int (Zi (fr + k))), (0, .ref o), (1, .int (Zi i)), (2, .ref tb), (3, .int (Zi fr))], [.ref o, .int (Zi (fr + k)), .ref tb])) (fun _ => rfl) ?_
          refine Z_go (f2 := (33, [(5, .int (Zi k)), (4, .int (Zi (fr + k))), (0, .ref o), (1, .int (Zi i)), (2, .ref tb), (3, .int (Zi fr))], [.int (Zi i), .ref o, .int (Zi (fr + k)), .ref tb])) (fun _ => rfl) ?_
          refine Z_go (f2 := (35, [(5, .int (Zi k)), (4, .int (Zi (fr + k))), (0, .ref o), (1, .int (Zi i)), (2, .ref tb), (3, .int (Zi fr))], [.int (Zi k), .int (Zi i), .ref o, .int (Zi (fr + k)), .ref tb])) (fun _ => rfl) ?_
          refine C_callVR (As := [.int (Zi i), .int (Zi k)]) (rest := [.int (Zi (fr + k)), .ref tb]) rfl (by decide) rfl (by decide) rfl rfl (by decide +kernel) (Nat.le_of_ble_eq_true rfl) hs tk (C_signAt _ ht0 (i := i) (k := k) (by first | exact hs.zF _ _ | exact Zor_r _ _ | exact hs.zA _ _ | assumption | exact zA _ _ | exact zS _ | exact Zr_not (hs.zA _ _) | exact hs.1.1 _ _ | exact ⟨by omega, by omega⟩) (by first | exact hs.zF _ _ | exact Zor_r _ _ | exact hs.zA _ _ | assumption | exact zA _ _ | exact zS _ | exact Zr_not (hs.zA _ _) | exact hs.1.1 _ _ | exact ⟨by omega, by omega⟩)) (fun x q => ?_)
          rw [if_pos ⟨by omega, by omega⟩] at q
          obtain rfl := q
          have zsg := T_at_r (g3 i ⟨by omega, by omega⟩).2.2.1 k
          show B_R _ _ (38, [(5, .int (Zi k)), (4, .int (Zi (fr + k))), (0, .ref o), (1, .int (Zi i)), (2, .ref tb), (3, .int (Zi fr))], [.int (Zi (L_at (τ i) k)), .int (Zi (fr + k)), .ref tb]) _ _ _
          refine Z_i2b rfl ?_
          refine C_bs rfl hs tbk (by omega) (by omega) (C_nar_b (by omega)) (by omega) (fun h hs => ?_)
          refine Z_iinc (L2 := [(4, .int (Zi (fr + k + 1))), (5, .int (Zi k)), (0, .ref o), (1, .int (Zi i)), (2, .ref tb), (3, .int (Zi fr))]) rfl rfl (by decide) rfl ?_
          refine Z_iinc (L2 := [(5, .int (Zi (k + 1))), (4, .int (Zi (fr + k + 1))), (0, .ref o), (1, .int (Zi i)), (2, .ref tb), (3, .int (Zi fr))]) rfl rfl (by decide) rfl ?_
          refine Z_go (f2 := (6, [(5, .int (Zi (k + 1))), (4, .int (Zi (fr + k + 1))), (0, .ref o), (1, .int (Zi i)), (2, .ref tb), (3, .int (Zi fr))], [])) (fun _ => rfl) ?_
          have zsg2 := T_at_r (g3 i ⟨i0, by omega⟩).2.2.1 k
          rw [C_sA_sAf] at hs
          refine B_loc (K := [(5, .int (Zi (k + 1))), (4, .int (Zi (fr + k + 1))), (0, .ref o), (1, .int (Zi i)), (2, .ref tb), (3, .int (Zi fr))]) (N_all_sub ⟨rfl, rfl, rfl, rfl, rfl, rfl, trivial⟩) (show ([5, 4, 0, 1, 2, 3] : List Nat).Nodup by decide) ?_
          rw [show fr + k + 1 = fr + (k + 1) by omega]
          rw [if_pos ⟨i0, by omega⟩] at eln87
          refine ih (k + 1) _ h (by omega) hs (fun c => ?_) (by omega) (by omega)
          try dsimp only
          by_cases e : c = fr + k
          · rw [if_pos e, if_pos (by omega), e, show fr + k - fr = k by omega]
            try omega
          · rw [if_neg e, hg c]
            by_cases e2 : fr ≤ c ∧ c < fr + k
            · rw [if_pos e2, if_pos (by omega)]
            · rw [if_neg e2, if_neg (by omega)]
theorem C_cpT (d : Nat) {s : C_S} {p : List Nat} {o ra la m : Nat} {τ : Int → List Int} {tb N : Nat} {i fr : Int} (ht : D_Tx s p o ra la m τ) (tbk : C_K s tb = (1, N)) (nt : C_T s tb ≠ p) (i0 : 0 ≤ i) (i1 : i < m) (f0 : 0 ≤ fr) (f1 : fr + (τ i).length ≤ N) : C_ok (d + 3) 113 [.ref o, .int (Zi i), .ref tb, .int (Zi fr)] s (fun x s2 n => x = some (.int (Zi (fr + (τ i).length))) ∧ n = 0 ∧ ∃ g : Int → Int, s2 = C_sAf s tb g ∧ (∀ c : Int, g c = if fr ≤ c ∧ c < fr + (τ i).length then (L_at (τ i) (c - fr) + 128) % 256 - 128 else C_A s tb c)) := by
  refine C_enter (M := E_m113) rfl (Nat.le_of_ble_eq_true rfl) (fun h0 h hs => ?_)
  show B_R (d + 2) _ (0, [(0, .ref o), (1, .int (Zi i)), (2, .ref tb), (3, .int (Zi fr))], []) _ _ _
  have w := hs.1
  refine Z_go (f2 := (1, [(0, .ref o), (1, .int (Zi i)), (2, .ref tb), (3, .int (Zi fr))], [.int (Zi fr)])) (fun _ => rfl) ?_
  refine Z_go (f2 := (3, [(4, .int (Zi fr)), (0, .ref o), (1, .int (Zi i)), (2, .ref tb), (3, .int (Zi fr))], [])) (fun _ => rfl) ?_
  refine Z_go (f2 := (4, [(4, .int (Zi fr)), (0, .ref o), (1, .int (Zi i)), (2, .ref tb), (3, .int (Zi fr))], [.int (Zi 0)])) (fun _ => rfl) ?_
  refine Z_go (f2 := (6, [(5, .int (Zi 0)), (4, .int (Zi fr)), (0, .ref o), (1, .int (Zi i)), (2, .ref tb), (3, .int (Zi fr))], [])) (fun _ => rfl) ?_
  refine B_loc (K := [(5, .int (Zi 0)), (4, .int (Zi fr)), (0, .ref o), (1, .int (Zi i)), (2, .ref tb), (3, .int (Zi fr))]) (N_all_sub ⟨rfl, rfl, rfl, rfl, rfl, rfl, trivial⟩) (show ([5, 4, 0, 1, 2, 3] : List Nat).Nodup by decide) ?_
  have e : B_R (d + 2) E_m113 (6, [(5, .int (Zi 0)), (4, .int (Zi (fr + 0))), (0, .ref o), (1, .int (Zi i)), (2, .ref tb), (3, .int (Zi fr))], []) h 0 (fun r => ∃ s2 : C_S, C_is h0 r.2.1 s2 ∧ (fun (x : Option Value) (s2 : C_S) (n : Nat) => x = some (.int (Zi (fr + (τ i).length))) ∧ n = 0 ∧ ∃ g : Int → Int, s2 = C_sAf s tb g ∧ (∀ c : Int, g c = if fr ≤ c ∧ c < fr + (τ i).length then (L_at (τ i) (c - fr) + 128) % 256 - 128 else C_A s tb c)) r.1 s2 r.2.2) := C_cpT_lp w ht tbk nt i0 i1 f0 f1 ((τ i).length + 1) 0 (C_A s tb) h (by omega) (by rw [C_sAf_self]; exact hs) (fun c => by rw [if_neg (by omega)]) (by omega) (by omega)
  rw [Int.add_zero] at e
  exact e
theorem C_tcp_lp {d : Nat} {h0 : E_H} {s : C_S} {p : List Nat} {o ra la : Nat} {p2 : List Nat} {o2 ra2 la2 m2 : Nat} {τ2 : Int → List Int} (w : C_wf s) (hg : D_Tx s p2 o2 ra2 la2 m2 τ2) (ne : p ≠ p2) : ∀ (t : Nat) (i : Int) (u : C_S) (h : E_H), (m2 : Int) - i < t → C_is h0 h u → C_n u = C_n s → C_fr (fun t => t = p) s u → D_T0 u p o ra la i.toNat → D_tv u ra la (T_V i.toNat) τ2 → 0 ≤ i → i ≤ m2 → B_R (d + 3) E_m114 (7, [(2, .int (Zi i)), (0, .ref o), (1, .ref o2)], []) h 0 (fun r => ∃ s2 : C_S, C_is h0 r.2.1 s2 ∧ (fun (x : Option Value) (s2 : C_S) (n : Nat) => x = none ∧ n = 0 ∧ C_n s2 = C_n s ∧ C_fr (fun t => t = p) s s2 ∧ D_Tx s2 p o ra la m2 τ2) r.1 s2 r.2.2) := by
  intro t
  induction t with
  | zero => intro i u h ht2 hs en fr t0 tv i0 i1; omega
  | succ t ih =>
    intro i u h ht2 hs en fr t0 tv i0 i1
    have wu := hs.1
    have t9 := t0
    have hne := t0.ne
    have hg0 := hg.fr w fr (fun e => ne e.symm)
    obtain ⟨⟨⟨sk, st_, sp, sq, rk2, rt2, lk2, lt2, sn, sl⟩, s1, s2⟩, s3⟩ := id hg0
    obtain ⟨⟨tk, tt, tp, tq, rk, rt, lk, lt, tn, tl⟩, g1, g2⟩ := t0
    rw [show ((i.toNat : Nat) : Int) = i by omega] at tn
    refine Z_go (f2 := (8, [(2, .int (Zi i)), (0, .ref o), (1, .ref o2)], [.int (Zi i)])) (fun _ => rfl) ?_
    refine Z_go (f2 := (9, [(2, .int (Zi i)), (0, .ref o), (1, .ref o2)], [.ref o2, .int (Zi i)])) (fun _ => rfl) ?_
    refine C_gi rfl hs sk (by decide) (Nat.le_of_ble_eq_true rfl) rfl ?_
    rw [show C_F (u) o2 2 = (m2 : Int) from (by first | exact sn | exact (if_neg (fun e => absurd e.1 (by assumption))).trans sn)]
    show B_R _ _ (12, [(2, .int (Zi i)), (0, .ref o), (1, .ref o2)], [.int (Zi ((m2 : Int))), .int (Zi i)]) _ _ _
    refine Z_cge rfl rfl (by first | exact hs.zF _ _ | exact Zor_r _ _ | exact hs.zA _ _ | assumption | exact zA _ _ | exact zS _ | exact Zr_not (hs.zA _ _) | exact hs.1.1 _ _ | exact ⟨by omega, by omega⟩) (by first | exact hs.zF _ _ | exact Zor_r _ _ | exact hs.zA _ _ | assumption | exact zA _ _ | exact zS _ | exact Zr_not (hs.zA _ _) | exact hs.1.1 _ _ | exact ⟨by omega, by omega⟩) (fun c1 => ?_) (fun c1 => ?_)
    · refine Z_ret rfl rfl ⟨_, hs, ?_⟩
      try dsimp only
      first
      | (exfalso; omega)
      | (obtain rfl : i = m2 := by omega
         rw [Int.toNat_natCast] at t9 tv
         exact ⟨rfl, rfl, en, fr, t9, tv⟩)
    · refine Z_go (f2 := (16, [(2, .int (Zi i)), (0, .ref o), (1, .ref o2)], [.int (Zi i)])) (fun _ => rfl) ?_
      refine Z_go (f2 := (17, [(2, .int (Zi i)), (0, .ref o), (1, .ref o2)], [.ref o, .int (Zi i)])) (fun _ => rfl) ?_
      refine C_gr rfl hs tk (by decide) (Nat.le_of_ble_eq_true rfl) rfl tp ?_
      refine C_al rfl hs rk (by decide) ?_
      show B_R _ _ (21, [(2, .int (Zi i)), (0, .ref o), (1, .ref o2)], [.int (Zi (((8 : Nat) : Int))), .int (Zi i)]) _ _ _
      refine Z_cge rfl rfl (by first | exact hs.zF _ _ | exact Zor_r _ _ | exact hs.zA _ _ | assumption | exact zA _ _ | exact zS _ | exact Zr_not (hs.zA _ _) | exact hs.1.1 _ _ | exact ⟨by omega, by omega⟩) (by first | exact hs.zF _ _ | exact Zor_r _ _ | exact hs.zA _ _ | assumption | exact zA _ _ | exact zS _ | exact Zr_not (hs.zA _ _) | exact hs.1.1 _ _ | exact ⟨by omega, by omega⟩) (fun c2 => ?_) (fun c2 => ?_)
      · refine Z_ret rfl rfl ⟨_, hs, ?_⟩
        try dsimp only
        first
        | (exfalso; omega)
        | (obtain rfl : i = m2 := by omega
           rw [Int.toNat_natCast] at t9 tv
           exact ⟨rfl, rfl, en, fr, t9, tv⟩)
      · refine Z_go (f2 := (25, [(2, .int (Zi i)), (0, .ref o), (1, .ref o2)], [.int (Zi i)])) (fun _ => rfl) ?_
        refine Z_go (f2 := (26, [(2, .int (Zi i)), (0, .ref o), (1, .ref o2)], [.ref o, .int (Zi i)])) (fun _ => rfl) ?_
        refine C_gr rfl hs tk (by decide) (Nat.le_of_ble_eq_true rfl) rfl tq ?_
        refine C_al rfl hs lk (by decide) ?_
        show B_R _ _ (30, [(2, .int (Zi i)), (0, .ref o), (1, .ref o2)], [.int (Zi (((8 : Nat) : Int))), .int (Zi i)]) _ _ _
        refine Z_cge rfl rfl (by first | exact hs.zF _ _ | exact Zor_r _ _ | exact hs.zA _ _ | assumption | exact zA _ _ | exact zS _ | exact Zr_not (hs.zA _ _) | exact hs.1.1 _ _ | exact ⟨by omega, by omega⟩) (by first | exact hs.zF _ _ | exact Zor_r _ _ | exact hs.zA _ _ | assumption | exact zA _ _ | exact zS _ | exact Zr_not (hs.zA _ _) | exact hs.1.1 _ _ | exact ⟨by omega, by omega⟩) (fun c3 => ?_) (fun c3 => ?_)
        · refine Z_ret rfl rfl ⟨_, hs, ?_⟩
          try dsimp only
          first
          | (exfalso; omega)
          | (obtain rfl : i = m2 := by omega
             rw [Int.toNat_natCast] at t9 tv
             exact ⟨rfl, rfl, en, fr, t9, tv⟩)
        · refine Z_go (f2 := (34, [(2, .int (Zi i)), (0, .ref o), (1, .ref o2)], [.ref o])) (fun _ => rfl) ?_
          refine C_gr rfl hs tk (by decide) (Nat.le_of_ble_eq_true rfl) rfl tq ?_
          refine Z_go (f2 := (38, [(2, .int (Zi i)), (0, .ref o), (1, .ref o2)], [.int (Zi i), .ref la])) (fun _ => rfl) ?_
          refine Z_go (f2 := (39, [(2, .int (Zi i)), (0, .ref o), (1, .ref o2)], [.ref o2, .int (Zi i), .ref la])) (fun _ => rfl) ?_
          refine Z_go (f2 := (40, [(2, .int (Zi i)), (0, .ref o), (1, .ref o2)], [.int (Zi i), .ref o2, .int (Zi i), .ref la])) (fun _ => rfl) ?_
          refine Z_go (f2 := (41, [(2, .int (Zi i)), (0, .ref o), (1, .ref o2)], [.ref o, .int (Zi i), .ref o2, .int (Zi i), .ref la])) (fun _ => rfl) ?_
          refine C_gr rfl hs tk (by decide) (Nat.le_of_ble_eq_true rfl) rfl tp ?_
          obtain ⟨b, hb, bk, bt⟩ := g1 i (by omega) (by omega)
          refine Z_go (f2 := (45, [(2, .int (Zi i)), (0, .ref o), (1, .ref o2)], [.int (Zi i), .ref ra, .int (Zi i), .ref o2, .int (Zi i), .ref la])) (fun _ => rfl) ?_
          refine C_aq rfl hs rk (by decide) (by decide) (by omega) (by omega) hb ?_
          show B_R _ _ (46, [(2, .int (Zi i)), (0, .ref o), (1, .ref o2)], [.ref b, .int (Zi i), .ref o2, .int (Zi i), .ref la]) _ _ _
          refine Z_go (f2 := (47, [(2, .int (Zi i)), (0, .ref o), (1, .ref o2)], [.int (Zi 0), .ref b, .int (Zi i), .ref o2, .int (Zi i), .ref la])) (fun _ => rfl) ?_
          refine C_callV (As := [.int (Zi i), .ref b, .int (Zi 0)]) (rest := [.int (Zi i), .ref la]) rfl (by decide) rfl (by decide) rfl rfl (by decide +kernel) (Nat.le_of_ble_eq_true rfl) hs sk (C_cpT _ hg0 (i := i) (fr := 0) bk (by rw [bt]; exact fun e => ne (by rw [← e])) i0 (by omega) (by omega) (by have := (s3 i ⟨i0, by omega⟩).2.1; omega)) (fun x h v n hs q => ?_)
          obtain ⟨rfl, rfl, g, rfl, hgg⟩ := q
          rw [Int.zero_add]
          have zl := (s3 i ⟨i0, by omega⟩).2.1
          show B_R _ _ (50, [(2, .int (Zi i)), (0, .ref o), (1, .ref o2)], [.int (Zi ((τ2 i).length)), .int (Zi i), .ref la]) _ _ _
          refine C_is_ rfl hs lk (by omega) (by omega) (by first | exact hs.zF _ _ | exact Zor_r _ _ | exact hs.zA _ _ | assumption | exact zA _ _ | exact zS _ | exact Zr_not (hs.zA _ _) | exact hs.1.1 _ _ | exact ⟨by omega, by omega⟩) (fun h hs => ?_)
          refine Z_go (f2 := (52, [(2, .int (Zi i)), (0, .ref o), (1, .ref o2)], [.ref o])) (fun _ => rfl) ?_
          refine Z_go (f2 := (53, [(2, .int (Zi i)), (0, .ref o), (1, .ref o2)], [.ref o, .ref o])) (fun _ => rfl) ?_
          refine C_gi rfl hs tk (by decide) (Nat.le_of_ble_eq_true rfl) rfl ?_
          rw [show C_F (C_sA (C_sAf u b g) la i ((τ2 i).length)) o 2 = i from (by first | exact tn | exact (if_neg (fun e => absurd e.1 (by assumption))).trans tn)]
          show B_R _ _ (56, [(2, .int (Zi i)), (0, .ref o), (1, .ref o2)], [.int (Zi i), .ref o]) _ _ _
          refine Z_go (f2 := (57, [(2, .int (Zi i)), (0, .ref o), (1, .ref o2)], [.int (Zi 1), .int (Zi i), .ref o])) (fun _ => rfl) ?_
          refine Z_iadd rfl ?_
          refine C_pi rfl hs tk (by decide) (Nat.le_of_ble_eq_true rfl) (.inl rfl) rfl rfl rfl (by first | exact hs.zF _ _ | exact Zor_r _ _ | exact hs.zA _ _ | assumption | exact zA _ _ | exact zS _ | exact Zr_not (hs.zA _ _) | exact hs.1.1 _ _ | exact ⟨by omega, by omega⟩) (fun h hs => ?_)
          refine Z_iinc (L2 := [(2, .int (Zi (i + 1))), (0, .ref o), (1, .ref o2)]) rfl rfl (by decide) rfl ?_
          refine Z_go (f2 := (7, [(2, .int (Zi (i + 1))), (0, .ref o), (1, .ref o2)], [])) (fun _ => rfl) ?_
          refine B_loc (K := [(2, .int (Zi (i + 1))), (0, .ref o), (1, .ref o2)]) (N_all_sub ⟨rfl, rfl, rfl, trivial⟩) (show ([2, 0, 1] : List Nat).Nodup by decide) ?_
          obtain ⟨nb1, nb2, nb3, _⟩ := hne.2.2.2 i b (by omega) (by omega) hb
          obtain ⟨y1, y2, y3, y4⟩ := s3 i ⟨i0, by omega⟩
          refine ih _ _ h (by omega) hs en (((fr.sAf (by exact bt)).sA (by exact lt)).sF (by exact tt)) ⟨⟨tk, tt, tp, tq, rk, rt, lk, lt, (if_pos ⟨rfl, rfl⟩).trans (by omega), by omega⟩, g1, g2⟩ (fun j hj => ?_) (by omega) (by omega)
          have hj : 0 ≤ j ∧ j < (((i + 1).toNat : Nat) : Int) := hj
          have eA : ∀ c, C_A (C_sF (C_sA (C_sAf u b g) la i (τ2 i).length) o 2 (i + 1)) la c = if c = i then ((τ2 i).length : Int) else C_A u la c := fun c => by
            show (if la = la ∧ c = i then ((τ2 i).length : Int) else (if la = b then g else C_A u la) c) = _
            rw [if_neg (show ¬ la = b from fun e => nb1 e.symm)]
            simp
          have eB : ∀ b2, b2 ≠ la → ∀ c, C_A (C_sF (C_sA (C_sAf u b g) la i (τ2 i).length) o 2 (i + 1)) b2 c = if b2 = b then g c else C_A u b2 c := fun b2 e c => by
            show (if b2 = la ∧ c = i then _ else (if b2 = b then g else C_A u b2) c) = _
            rw [if_neg (fun x => e x.1)]
            split <;> rfl
          by_cases e : j = i
          · subst e
            refine ⟨by rw [eA, if_pos rfl], y2, y3, fun b2 hb2 k k0 k1 => ?_⟩
            have : b2 = b := Option.some.inj ((show C_Q u ra j = some b2 from hb2).symm.trans hb)
            subst this
            rw [eB b2 nb1, if_pos rfl, hgg, if_pos (by omega), show k - 0 = k by omega]
            have := y3 _ (L_at_mem.mpr ⟨k, k0, k1, rfl⟩)
            omega
          · obtain ⟨z1, z2, z3, z4⟩ := tv j ⟨hj.1, by omega⟩
            refine ⟨by rw [eA, if_neg e]; exact z1, z2, z3, fun b2 hb2 k k0 k1 => ?_⟩
            have hb2 : C_Q u ra j = some b2 := hb2
            have n2 := (hne.2.2.2 j b2 hj.1 (by omega) hb2).1
            rw [eB b2 n2, if_neg (fun x => e (g2 j i hj.1 (by omega) (by omega) (by omega) b2 hb2 (by rw [x]; exact hb)))]
            exact z4 b2 hb2 k k0 k1
theorem C_tcopy (d : Nat) {s : C_S} {p : List Nat} {o ra la m : Nat} {τ : Int → List Int} {p2 : List Nat} {o2 ra2 la2 m2 : Nat} {τ2 : Int → List Int} (ht : D_Tx s p o ra la m τ) (hg : D_Tx s p2 o2 ra2 la2 m2 τ2) (ne : p ≠ p2) : C_ok (d + 4) 114 [.ref o, .ref o2] s (fun x s2 n => x = none ∧ n = 0 ∧ C_n s2 = C_n s ∧ C_fr (fun t => t = p) s s2 ∧ D_Tx s2 p o ra la m2 τ2) := by
  refine C_enter (M := E_m114) rfl (Nat.le_of_ble_eq_true rfl) (fun h0 h hs => ?_)
  show B_R (d + 3) _ (0, [(0, .ref o), (1, .ref o2)], []) _ _ _
  have ht0 := ht
  have w := hs.1
  obtain ⟨⟨⟨tk, tt, tp, tq, rk, rt, lk, lt, tn, tl⟩, g1, g2⟩, g3⟩ := ht
  refine Z_go (f2 := (1, [(0, .ref o), (1, .ref o2)], [.ref o])) (fun _ => rfl) ?_
  refine Z_go (f2 := (2, [(0, .ref o), (1, .ref o2)], [.int (Zi 0), .ref o])) (fun _ => rfl) ?_
  refine C_pi rfl hs tk (by decide) (Nat.le_of_ble_eq_true rfl) (.inl rfl) rfl rfl rfl (by first | exact hs.zF _ _ | exact Zor_r _ _ | exact hs.zA _ _ | assumption | exact zA _ _ | exact zS _ | exact Zr_not (hs.zA _ _) | exact hs.1.1 _ _ | exact ⟨by omega, by omega⟩) (fun h hs => ?_)
  refine Z_go (f2 := (6, [(0, .ref o), (1, .ref o2)], [.int (Zi 0)])) (fun _ => rfl) ?_
  refine Z_go (f2 := (7, [(2, .int (Zi 0)), (0, .ref o), (1, .ref o2)], [])) (fun _ => rfl) ?_
  refine B_loc (K := [(2, .int (Zi 0)), (0, .ref o), (1, .ref o2)]) (N_all_sub ⟨rfl, rfl, rfl, trivial⟩) (show ([2, 0, 1] : List Nat).Nodup by decide) ?_
  exact C_tcp_lp w hg ne (m2 + 1) 0 (C_sF s o 2 0) h (by omega) hs rfl ((C_fr.refl _ _).sF tt) ⟨⟨tk, tt, tp, tq, rk, rt, lk, lt, if_pos ⟨rfl, rfl⟩, by omega⟩, g1, g2⟩ (fun j hj => absurd hj.2 (by have := hj.1; show ¬ j < ((0 : Nat) : Int); omega)) (by omega) (by omega)
