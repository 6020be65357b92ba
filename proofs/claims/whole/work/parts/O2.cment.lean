/-! the class: Machine: enter -/
section MP
variable {κ : Nat → Int → Int} {H : Int → Int → Prop} {W : Int → Int} {n m e B i : Int} {o : Nat} {A : Nat → Nat} {s u v : C_S} {p : List Nat}
theorem M_IV.s9 {t b x z : Int} (h : M_IV κ H W n m e B i o A u t b x) : M_IV κ H W n m e B i o A (C_sF u o 9 z) t b x := by
  have f13 : C_F (C_sF u o 9 z) o 13 = C_F u o 13 := if_neg (by omega)
  have f15 : C_F (C_sF u o 9 z) o 15 = C_F u o 15 := if_neg (by omega)
  have f16 : C_F (C_sF u o 9 z) o 16 = C_F u o 16 := if_neg (by omega)
  unfold M_IV
  rw [f13, f15, f16]
  exact h
theorem M_go.s9 (z : Int) : M_go κ H W n m B i o A u (C_sF u o 9 z) := by
  have f13 : C_F (C_sF u o 9 z) o 13 = C_F u o 13 := if_neg (by omega)
  have f15 : C_F (C_sF u o 9 z) o 15 = C_F u o 15 := if_neg (by omega)
  have f16 : C_F (C_sF u o 9 z) o 16 = C_F u o 16 := if_neg (by omega)
  refine ⟨M_fr.refl.sF (f := 9) (by unfold M_XE; omega) _, fun q h => h, fun h => h, fun j h => ?_⟩
  unfold M_FN
  rw [f13, f15, f16]
  exact h
theorem M_IV.pop {b : Int} (h : M_IV κ H W n m e B i o A u (C_F u o 9) b (-1)) (t0 : 0 < C_F u o 9) : M_IV κ H W n m e B i o A (C_sF u o 9 (C_F u o 9 - 1)) (C_F (C_sF u o 9 (C_F u o 9 - 1)) o 9) b (C_A u (A 8) (C_F u o 9 - 1)) ∧ 0 ≤ C_A u (A 8) (C_F u o 9 - 1) ∧ C_A u (A 8) (C_F u o 9 - 1) < m ∧ (∀ j, M_ac κ H W n (C_A u (A 8) (C_F u o 9 - 1)) i j → M_ac κ H W n e b j) ∧ C_F (C_sF u o 9 (C_F u o 9 - 1)) o 9 = C_F u o 9 - 1 ∧ C_F (C_sF u o 9 (C_F u o 9 - 1)) o 13 = C_F u o 13 := by
  obtain ⟨h1, h2, h3, h4⟩ := M_iv.pop h t0
  have e9 : C_F (C_sF u o 9 (C_F u o 9 - 1)) o 9 = C_F u o 9 - 1 := if_pos ⟨rfl, rfl⟩
  refine ⟨?_, h2, h3, h4, e9, if_neg (by omega)⟩
  rw [e9]
  exact M_IV.s9 h1
end MP
theorem C_ment_lp {d : Nat} {h0 : E_H} {s : C_S} {sl : Nat} {Φ : E_R → Prop} {p : List Nat} {o : Nat} {A : Nat → Nat} {κ : Nat → Int → Int} {H : Int → Int → Prop} {W : Int → Int} {m e B : Int} {tb N : Nat} {q b i : Int} (hm : D_M0 s p o A) (et : C_P s o 14 = some tb) (kt : C_K s tb = (1, N)) (hW : C_wb s tb N = W) (hκ : ∀ f, (f = 1 ∨ f = 2 ∨ f = 3 ∨ f = 4) → C_A s (A f) = κ f) (hok : M_kok κ m) (hB : ∀ b j, 0 ≤ b → M_ac κ H W N e b j → B ≤ b) (B0 : 0 ≤ B) (m1 : m ≤ 202) (N1 : N ≤ 1000) (b0 : 0 ≤ b) (b1 : b ≤ i) (i1 : i ≤ N) (ret : ∀ (u : C_S) (h : E_H), C_is h0 h u → M_go κ H W N m B i o A s u → M_IV κ H W N m e B i o A u 0 b (-1) → C_A u (A 7) q = i → 0 ≤ C_F u o 13 → C_F u o 13 + M_un (C_A u (A 7)) i 202 ≤ 202 → Φ (none, h, sl)) : ∀ (t : Nat) (r : Int) (u : C_S) (h : E_H), 203 - r < t → C_is h0 h u → M_go κ H W N m B i o A s u → M_IV κ H W N m e B i o A u (C_F u o 9) b (-1) → 0 ≤ r → r ≤ 202 → 0 ≤ C_F u o 9 → C_F u o 9 ≤ r + 1 → 0 ≤ C_F u o 13 → C_F u o 9 + M_un (C_A u (A 7)) i 202 + r ≤ 202 → C_F u o 13 + C_F u o 9 + M_un (C_A u (A 7)) i 202 ≤ 202 → C_A u (A 7) q = i → B_R (d + 3) E_m25 (14, [(4, .int (Zi r)), (0, .ref o), (1, .int (Zi q)), (2, .int (Zi b)), (3, .int (Zi i))], []) h sl Φ := by
  intro t
  induction t with
  | zero => intro r u h ht hs go iv r0 r1 t0 t1 c0 cu cv hq9; omega
  | succ t ih =>
    intro r u h ht hs go iv r0 r1 t0 t1 c0 cu cv hq9
    obtain ⟨hun, hun2⟩ := M_un_b (C_A u (A 7)) i 202
    have hmu := go.1.M0 hm
    have hwu := go.1.wb hm kt
    have hWu : C_wb u tb N = W := by rw [← hW]; unfold C_wb; rw [hwu]
    have etu : C_P u o 14 = some tb := by rw [go.1.1.2.2.2.1]; exact et
    have ktu : C_K u tb = (1, N) := by rw [go.1.1.2.1]; exact kt
    have hκu : ∀ f, (f = 1 ∨ f = 2 ∨ f = 3 ∨ f = 4) → C_A u (A f) = κ f := fun f hf => by rw [go.1.arr hm (by omega) (by unfold M_XE; omega)]; exact hκ f hf
    have ok := hmu.1
    obtain ⟨e8, k8, t8⟩ := hmu.2.2.1 8 (by omega)
    have zr : Zr r := ⟨by omega, by omega⟩
    have zb : Zr b := ⟨by omega, by omega⟩
    have zi : Zr i := ⟨by omega, by omega⟩
    have w := hs.1
    have zt := w.1 o 9
    refine Z_go (f2 := (16, [(4, .int (Zi r)), (0, .ref o), (1, .int (Zi q)), (2, .int (Zi b)), (3, .int (Zi i))], [.int (Zi r)])) (fun _ => rfl) ?_
    refine Z_go (f2 := (19, [(4, .int (Zi r)), (0, .ref o), (1, .int (Zi q)), (2, .int (Zi b)), (3, .int (Zi i))], [.int (Zi 202), .int (Zi r)])) (fun _ => rfl) ?_
    refine Z_cge rfl rfl (by first | exact hs.zF _ _ | exact Zor_r _ _ | exact hs.zA _ _ | assumption | exact zA _ _ | exact zS _ | exact Zr_not (hs.zA _ _) | exact hs.1.1 _ _ | exact ⟨by omega, by omega⟩) (by first | exact hs.zF _ _ | exact Zor_r _ _ | exact hs.zA _ _ | assumption | exact zA _ _ | exact zS _ | exact Zr_not (hs.zA _ _) | exact hs.1.1 _ _ | exact ⟨by omega, by omega⟩) (fun y91 => ?_) (fun y91 => ?_)
    · refine Z_ret rfl rfl (ret _ _ hs go ?_ hq9 c0 (by omega))
      try dsimp only
      exact M_iv.up iv (by omega) (Int.le_refl _) b1
    · refine Z_go (f2 := (23, [(4, .int (Zi r)), (0, .ref o), (1, .int (Zi q)), (2, .int (Zi b)), (3, .int (Zi i))], [.ref o])) (fun _ => rfl) ?_
      refine C_gi rfl hs ok (by decide) (Nat.le_of_ble_eq_true rfl) rfl ?_
      show B_R _ _ (26, [(4, .int (Zi r)), (0, .ref o), (1, .int (Zi q)), (2, .int (Zi b)), (3, .int (Zi i))], [.int (Zi (C_F u o 9))]) _ _ _
      refine Z_ile rfl rfl (by first | exact hs.zF _ _ | exact Zor_r _ _ | exact hs.zA _ _ | assumption | exact zA _ _ | exact zS _ | exact Zr_not (hs.zA _ _) | exact hs.1.1 _ _ | exact ⟨by omega, by omega⟩) (fun y92 => ?_) (fun y92 => ?_)
      · refine Z_ret rfl rfl (ret _ _ hs go ?_ hq9 c0 (by omega))
        try dsimp only
        exact M_iv.up iv (by omega) (Int.le_refl _) b1
      · refine Z_go (f2 := (30, [(4, .int (Zi r)), (0, .ref o), (1, .int (Zi q)), (2, .int (Zi b)), (3, .int (Zi i))], [.ref o])) (fun _ => rfl) ?_
        refine Z_go (f2 := (31, [(4, .int (Zi r)), (0, .ref o), (1, .int (Zi q)), (2, .int (Zi b)), (3, .int (Zi i))], [.ref o, .ref o])) (fun _ => rfl) ?_
        refine C_gi rfl hs ok (by decide) (Nat.le_of_ble_eq_true rfl) rfl ?_
        show B_R _ _ (34, [(4, .int (Zi r)), (0, .ref o), (1, .int (Zi q)), (2, .int (Zi b)), (3, .int (Zi i))], [.int (Zi (C_F u o 9)), .ref o]) _ _ _
        refine Z_go (f2 := (35, [(4, .int (Zi r)), (0, .ref o), (1, .int (Zi q)), (2, .int (Zi b)), (3, .int (Zi i))], [.int (Zi 1), .int (Zi (C_F u o 9)), .ref o])) (fun _ => rfl) ?_
        refine Z_isub rfl ?_
        refine C_pi rfl hs ok (by decide) (Nat.le_of_ble_eq_true rfl) (.inl rfl) rfl rfl rfl (by first | exact hs.zF _ _ | exact Zor_r _ _ | exact hs.zA _ _ | assumption | exact zA _ _ | exact zS _ | exact Zr_not (hs.zA _ _) | exact hs.1.1 _ _ | exact ⟨by omega, by omega⟩) (fun h hs => ?_)
        obtain ⟨pp1, pp2, pp3, pp4, pp5, pp6⟩ := M_IV.pop iv (by omega)
        refine Z_go (f2 := (40, [(4, .int (Zi r)), (0, .ref o), (1, .int (Zi q)), (2, .int (Zi b)), (3, .int (Zi i))], [.ref o])) (fun _ => rfl) ?_
        refine Z_go (f2 := (41, [(4, .int (Zi r)), (0, .ref o), (1, .int (Zi q)), (2, .int (Zi b)), (3, .int (Zi i))], [.ref o, .ref o])) (fun _ => rfl) ?_
        refine C_gr rfl hs ok (by decide) (Nat.le_of_ble_eq_true rfl) rfl e8 ?_
        refine Z_go (f2 := (45, [(4, .int (Zi r)), (0, .ref o), (1, .int (Zi q)), (2, .int (Zi b)), (3, .int (Zi i))], [.ref o, .ref (A 8), .ref o])) (fun _ => rfl) ?_
        refine C_gi rfl hs ok (by decide) (Nat.le_of_ble_eq_true rfl) rfl ?_
        rw [show C_F (C_sF u o 9 (C_F u o 9 - 1)) o 9 = C_F u o 9 - 1 from (by first | rfl | (simp only [C_F, C_P, C_A, C_L, C_Q, C_K, C_T, C_n, C_sF, C_sP, C_sA, C_sL, C_sQ, C_sAf, C_sQf]; simp [*]; done) | (simp only [C_F, C_P, C_A, C_L, C_Q, C_K, C_T, C_n, C_sF, C_sP, C_sA, C_sL, C_sQ, C_sAf, C_sQf]; simp; omega))]; show B_R _ _ (48, [(4, .int (Zi r)), (0, .ref o), (1, .int (Zi q)), (2, .int (Zi b)), (3, .int (Zi i))], [.int (Zi (C_F u o 9 - 1)), .ref (A 8), .ref o]) _ _ _
        refine C_callSR (vs := [.ref (A 8), .int (Zi (C_F u o 9 - 1))]) (rest := [.ref o]) rfl (by decide) rfl rfl rfl (Nat.le_of_ble_eq_true rfl) hs (C_pick _ (k8) (i := C_F u o 9 - 1) ⟨by omega, by omega⟩) (fun x q => ?_)
        obtain rfl := q
        rw [if_pos (by omega)]
        show B_R _ _ (51, [(4, .int (Zi r)), (0, .ref o), (1, .int (Zi q)), (2, .int (Zi b)), (3, .int (Zi i))], [.int (Zi (C_A u (A 8) (C_F u o 9 - 1))), .ref o]) _ _ _
        refine Z_go (f2 := (52, [(4, .int (Zi r)), (0, .ref o), (1, .int (Zi q)), (2, .int (Zi b)), (3, .int (Zi i))], [.int (Zi b), .int (Zi (C_A u (A 8) (C_F u o 9 - 1))), .ref o])) (fun _ => rfl) ?_
        refine Z_go (f2 := (53, [(4, .int (Zi r)), (0, .ref o), (1, .int (Zi q)), (2, .int (Zi b)), (3, .int (Zi i))], [.int (Zi i), .int (Zi b), .int (Zi (C_A u (A 8) (C_F u o 9 - 1))), .ref o])) (fun _ => rfl) ?_
        refine C_callV (As := [.int (Zi (C_A u (A 8) (C_F u o 9 - 1))), .int (Zi b), .int (Zi i)]) (rest := []) rfl (by decide) rfl (by decide) rfl rfl (by decide +kernel) (Nat.le_of_ble_eq_true rfl) hs ok (C_follow _ (M_fr.M0 (M_go.s9 (κ := κ) (H := H) (W := W) (n := N) (m := m) (B := B) (i := i) _).1 hmu) etu ktu (q := C_A u (A 8) (C_F u o 9 - 1)) (b := b) (i := i) (by omega) (by omega) b0 (by omega) (by omega) i1 (by omega) (by omega) (by omega) (by omega) (by omega)) (fun x h v1 n1 hs q => ?_)
        obtain ⟨rfl, rfl, hfw⟩ := q
        obtain ⟨y1, y2, y3, y4, y5, y6, y7⟩ := C_fw_iv (s := C_sF u o 9 (C_F u o 9 - 1)) (κ := κ) (H := H) (W := W) (n := N) (m := m) (e := e) (B := B) (fun f hf => hκu f hf) hok hB B0 (M_fr.M0 (M_go.s9 (κ := κ) (H := H) (W := W) (n := N) (m := m) (B := B) (i := i) _).1 hmu) pp1 (by omega) (by omega) b0 b1 pp2 pp3 m1 pp4 (tb := tb) (N := N) (fun k => by rw [show C_wb (C_sF u o 9 (C_F u o 9 - 1)) tb N = W from hWu]) hfw
        have e7 : C_A (C_sF u o 9 (C_F u o 9 - 1)) (A 7) = C_A u (A 7) := rfl
        rw [e7] at y3
        show B_R _ _ (56, [(4, .int (Zi r)), (0, .ref o), (1, .int (Zi q)), (2, .int (Zi b)), (3, .int (Zi i))], []) _ _ _
        refine Z_iinc (L2 := [(4, .int (Zi (r + 1))), (0, .ref o), (1, .int (Zi q)), (2, .int (Zi b)), (3, .int (Zi i))]) rfl rfl (by decide) rfl ?_
        refine Z_go (f2 := (14, [(4, .int (Zi (r + 1))), (0, .ref o), (1, .int (Zi q)), (2, .int (Zi b)), (3, .int (Zi i))], [])) (fun _ => rfl) ?_
        refine B_loc (K := [(4, .int (Zi (r + 1))), (0, .ref o), (1, .int (Zi q)), (2, .int (Zi b)), (3, .int (Zi i))]) (N_all_sub ⟨rfl, rfl, rfl, rfl, rfl, trivial⟩) (show ([4, 0, 1, 2, 3] : List Nat).Nodup by decide) ?_
        exact ih _ v1 _ (by omega) hs ((go.tr (M_go.s9 _)).tr y2) y1 (by omega) (by omega) (by omega) (by omega) (by omega) (by omega) (by omega) (y2.2.1 _ hq9)
theorem C_ment (d : Nat) {s : C_S} {p : List Nat} {o : Nat} {A : Nat → Nat} {κ : Nat → Int → Int} {H : Int → Int → Prop} {W : Int → Int} {m e B : Int} {tb N : Nat} {q b i : Int} (hm : D_M0 s p o A) (et : C_P s o 14 = some tb) (kt : C_K s tb = (1, N)) (hW : C_wb s tb N = W) (hκ : ∀ f, (f = 1 ∨ f = 2 ∨ f = 3 ∨ f = 4) → C_A s (A f) = κ f) (hok : M_kok κ m) (hB : ∀ b j, 0 ≤ b → M_ac κ H W N e b j → B ≤ b) (B0 : 0 ≤ B) (m1 : m ≤ 202) (N1 : N ≤ 1000) (b0 : 0 ≤ b) (b1 : b ≤ i) (i1 : i ≤ N) (iv : M_IV κ H W N m e B i o A s 0 b (-1)) (q0 : 0 ≤ q) (q1 : q < m) (hq : ∀ j, M_ac κ H W N q i j → M_ac κ H W N e b j) (c0 : 0 ≤ C_F s o 13) (cv : C_F s o 13 + M_un (C_A s (A 7)) i 202 ≤ 202) : C_ok (d + 4) 25 [.ref o, .int (Zi q), .int (Zi b), .int (Zi i)] s (fun x s2 n => x = none ∧ n = 0 ∧ M_go κ H W N m B i o A s s2 ∧ M_IV κ H W N m e B i o A s2 0 b (-1) ∧ C_A s2 (A 7) q = i ∧ 0 ≤ C_F s2 o 13 ∧ C_F s2 o 13 + M_un (C_A s2 (A 7)) i 202 ≤ 202) := by
  refine C_enter (M := E_m25) rfl (Nat.le_of_ble_eq_true rfl) (fun h0 h hs => ?_)
  show B_R (d + 3) _ (0, [(0, .ref o), (1, .int (Zi q)), (2, .int (Zi b)), (3, .int (Zi i))], []) _ _ _
  have w := hs.1
  have ok := hm.1
  obtain ⟨e1, k1, t1⟩ := hm.2.2.1 1 (by omega)
  obtain ⟨e2, k2, t2⟩ := hm.2.2.1 2 (by omega)
  obtain ⟨e3, k3, t3⟩ := hm.2.2.1 3 (by omega)
  obtain ⟨e4, k4, t4⟩ := hm.2.2.1 4 (by omega)
  obtain ⟨e7, k7, t7⟩ := hm.2.2.1 7 (by omega)
  obtain ⟨e8, k8, t8⟩ := hm.2.2.1 8 (by omega)
  obtain ⟨e10, k10, t10⟩ := hm.2.2.1 10 (by omega)
  obtain ⟨e12, k12, t12⟩ := hm.2.2.1 12 (by omega)
  have zq : Zr q := ⟨by omega, by omega⟩
  have zb : Zr b := ⟨by omega, by omega⟩
  have zi : Zr i := ⟨by omega, by omega⟩
  obtain ⟨hun, hun2⟩ := M_un_b (C_A s (A 7)) i 202
  have e9 : C_F (C_sF s o 9 0) o 9 = 0 := if_pos ⟨rfl, rfl⟩
  have e13 : C_F (C_sF s o 9 0) o 13 = C_F s o 13 := if_neg (by omega)
  have go0 : M_go κ H W N m B i o A s (C_sF s o 9 0) := M_go.s9 0
  have hm0 := go0.1.M0 hm
  have iv0 : M_IV κ H W N m e B i o A (C_sF s o 9 0) (C_F (C_sF s o 9 0) o 9) b (-1) := by rw [e9]; exact M_IV.s9 iv
  refine Z_go (f2 := (1, [(0, .ref o), (1, .int (Zi q)), (2, .int (Zi b)), (3, .int (Zi i))], [.ref o])) (fun _ => rfl) ?_
  refine Z_go (f2 := (2, [(0, .ref o), (1, .int (Zi q)), (2, .int (Zi b)), (3, .int (Zi i))], [.int (Zi 0), .ref o])) (fun _ => rfl) ?_
  refine C_pi rfl hs ok (by decide) (Nat.le_of_ble_eq_true rfl) (.inl rfl) rfl rfl rfl (by first | exact hs.zF _ _ | exact Zor_r _ _ | exact hs.zA _ _ | assumption | exact zA _ _ | exact zS _ | exact Zr_not (hs.zA _ _) | exact hs.1.1 _ _ | exact ⟨by omega, by omega⟩) (fun h hs => ?_)
  refine Z_go (f2 := (6, [(0, .ref o), (1, .int (Zi q)), (2, .int (Zi b)), (3, .int (Zi i))], [.ref o])) (fun _ => rfl) ?_
  refine Z_go (f2 := (7, [(0, .ref o), (1, .int (Zi q)), (2, .int (Zi b)), (3, .int (Zi i))], [.int (Zi q), .ref o])) (fun _ => rfl) ?_
  refine Z_go (f2 := (8, [(0, .ref o), (1, .int (Zi q)), (2, .int (Zi b)), (3, .int (Zi i))], [.int (Zi i), .int (Zi q), .ref o])) (fun _ => rfl) ?_
  refine C_callV (As := [.int (Zi q), .int (Zi i)]) (rest := []) rfl (by decide) rfl (by decide) rfl rfl (by decide +kernel) (Nat.le_of_ble_eq_true rfl) hs ok (C_mpush _ hm0 (q := q) (i := i) zq zi (by omega) (by omega)) (fun x h v1 n1 hs q => ?_)
  obtain ⟨rfl, rfl, rfl⟩ := q
  have hs : C_is h0 h (C_mp (C_sF s o 9 0) o A q i) := hs
  show B_R _ _ (11, [(0, .ref o), (1, .int (Zi q)), (2, .int (Zi b)), (3, .int (Zi i))], []) _ _ _
  refine Z_go (f2 := (12, [(0, .ref o), (1, .int (Zi q)), (2, .int (Zi b)), (3, .int (Zi i))], [.int (Zi 0)])) (fun _ => rfl) ?_
  refine Z_go (f2 := (14, [(4, .int (Zi 0)), (0, .ref o), (1, .int (Zi q)), (2, .int (Zi b)), (3, .int (Zi i))], [])) (fun _ => rfl) ?_
  refine B_loc (K := [(4, .int (Zi 0)), (0, .ref o), (1, .int (Zi q)), (2, .int (Zi b)), (3, .int (Zi i))]) (N_all_sub ⟨rfl, rfl, rfl, rfl, rfl, trivial⟩) (show ([4, 0, 1, 2, 3] : List Nat).Nodup by decide) ?_
  obtain ⟨y1, y2, y3, y4, y5⟩ := C_mp_iv hm0 iv0 (q := q) (by omega) q0 q1 m1 hq
  have y9 := C_mp_9 (C_sF s o 9 0) o A q i
  have e7 : C_A (C_sF s o 9 0) (A 7) = C_A s (A 7) := rfl
  rw [e7] at y4
  exact C_ment_lp hm et kt hW hκ hok hB B0 m1 N1 b0 b1 i1 (sl := 0) (fun u h hs go iv hq9 c0 cv => ⟨u, hs, rfl, rfl, go, iv, hq9, c0, cv⟩) 204 0 _ _ (by omega) hs (go0.tr y2) y1 (by omega) (by omega) (by omega) (by omega) (by omega) (by omega) (by omega) y3
