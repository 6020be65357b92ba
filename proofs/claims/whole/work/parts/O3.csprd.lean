/-! the class: Machine: spread -/
/-- what is carried to a place -/
def M_sd (κ : Nat → Int → Int) (H : Int → Int → Prop) (W : Int → Int) (n m e i : Int) (v : Int → Int) (c : Int) : Prop := (∀ k, 0 ≤ k → k < c → 0 ≤ v k / 256 ∧ v k / 256 < i ∧ v k % 256 < m ∧ ∀ j, M_ac κ H W n (v k % 256) i j → M_ac κ H W n e (v k / 256) j) ∧ ∀ k k2, 0 ≤ k → k ≤ k2 → k2 < c → v k / 256 ≤ v k2 / 256
theorem M_iv.start {κ : Nat → Int → Int} {H : Int → Int → Prop} {W : Int → Int} {n m e B i : Int} {μ σ w : Int → Int} {g z b : Int} (hμ : ∀ q, 0 ≤ q → q < m → μ q < i) (hg : g = -1 ∨ 0 ≤ g ∧ g < i ∧ z ≤ i ∧ M_ac κ H W n e g z) : M_iv κ H W n m e B i μ σ 0 w 0 g z b (-1) := by
  refine ⟨fun k k0 k1 => by omega, fun k k0 k1 => by omega, fun k k2 k0 k1 k3 => by omega, ?_, fun hb q q0 q1 hq => ?_⟩
  · rcases hg with h | ⟨h1, h2, h3⟩
    · exact .inl h
    · exact .inr ⟨h1, .inl h2, h3⟩
  · have := hμ q q0 q1
    omega
theorem C_sprd_lp {d : Nat} {h0 : E_H} {s : C_S} {sl : Nat} {Φ : E_R → Prop} {p : List Nat} {o : Nat} {A : Nat → Nat} {κ : Nat → Int → Int} {H : Int → Int → Prop} {W : Int → Int} {m e B : Int} {tb N : Nat} {i : Int} (hm : D_M0 s p o A) (et : C_P s o 14 = some tb) (kt : C_K s tb = (1, N)) (hW : C_wb s tb N = W) (hκ : ∀ f, (f = 1 ∨ f = 2 ∨ f = 3 ∨ f = 4) → C_A s (A f) = κ f) (hok : M_kok κ m) (hB : ∀ b j, 0 ≤ b → M_ac κ H W N e b j → B ≤ b) (B0 : 0 ≤ B) (m1 : m ≤ 202) (N1 : N ≤ 1000) (sd : M_sd κ H W N m e i (C_A s (A 10)) (C_F s o 11)) (d0 : 0 ≤ C_F s o 11) (d1 : C_F s o 11 ≤ 202) (hg : C_F s o 15 = -1 ∨ 0 ≤ C_F s o 15 ∧ C_F s o 15 < i ∧ C_F s o 16 ≤ i ∧ M_ac κ H W N e (C_F s o 15) (C_F s o 16)) (i0 : 0 ≤ i) (i1 : i ≤ N) (ret : ∀ (u : C_S) (h : E_H) (b : Int), C_is h0 h u → M_go κ H W N m B i o A s u → M_IV κ H W N m e B i o A u 0 b (-1) → 0 ≤ b → b ≤ i → (b < i ∨ C_F s o 11 ≤ 0 ∧ C_F u o 15 = C_F s o 15) → 0 ≤ C_F u o 13 → C_F u o 13 + M_un (C_A u (A 7)) i 202 ≤ 202 → (∀ k2, 0 ≤ k2 → k2 < C_F s o 11 → C_A s (A 10) k2 / 256 = B → ∀ j, M_ac κ H W N (C_A s (A 10) k2 % 256) i j → M_FN κ H W N m B i o A u j) → B_R (d + 4) E_m24 (44, [(0, .ref o), (1, .int (Zi i))], []) h sl Φ) : ∀ (t : Nat) (k : Int) (u : C_S) (h : E_H) (b : Int), C_F s o 11 - k < t → 0 ≤ k → k ≤ C_F s o 11 → C_is h0 h u → M_go κ H W N m B i o A s u → M_IV κ H W N m e B i o A u 0 b (-1) → 0 ≤ b → b ≤ i → (b < i ∨ C_F s o 11 ≤ 0 ∧ C_F u o 15 = C_F s o 15) → (∀ k2, k ≤ k2 → k2 < C_F s o 11 → b ≤ C_A s (A 10) k2 / 256) → 0 ≤ C_F u o 13 → C_F u o 13 + M_un (C_A u (A 7)) i 202 ≤ 202 → (∀ k2, 0 ≤ k2 → k2 < k → C_A s (A 10) k2 / 256 = B → ∀ j, M_ac κ H W N (C_A s (A 10) k2 % 256) i j → M_FN κ H W N m B i o A u j) → B_R (d + 4) E_m24 (7, [(2, .int (Zi k)), (0, .ref o), (1, .int (Zi i))], []) h sl Φ := by
  intro t
  induction t with
  | zero => intro k u h b ht k0 k1 hs go iv b0 bi be hb c0 cv hf; omega
  | succ t ih =>
    intro k u h b ht k0 k1 hs go iv b0 bi be hb c0 cv hf
    obtain ⟨hun, hun2⟩ := M_un_b (C_A u (A 7)) i 202
    have hmu := go.1.M0 hm
    have hwu := go.1.wb hm kt
    have hWu : C_wb u tb N = W := by rw [← hW]; unfold C_wb; rw [hwu]
    have etu : C_P u o 14 = some tb := by rw [go.1.1.2.2.2.1]; exact et
    have ktu : C_K u tb = (1, N) := by rw [go.1.1.2.1]; exact kt
    have hκu : ∀ f, (f = 1 ∨ f = 2 ∨ f = 3 ∨ f = 4) → C_A u (A f) = κ f := fun f hf => by rw [go.1.arr hm (by omega) (by unfold M_XE; omega)]; exact hκ f hf
    have e11 : C_F u o 11 = C_F s o 11 := go.1.2.1 o 11 (by unfold M_XE; omega)
    have ea : C_A u (A 10) = C_A s (A 10) := go.1.arr hm (by omega) (by unfold M_XE; omega)
    have ok := hmu.1
    obtain ⟨e10, k10, t10⟩ := hmu.2.2.1 10 (by omega)
    have zk : Zr k := ⟨by omega, by omega⟩
    have zi : Zr i := ⟨by omega, by omega⟩
    have zv := hs.1.2.1 (A 10) k
    have zd := hs.1.1 o 11
    rw [ea] at zv
    refine Z_go (f2 := (8, [(2, .int (Zi k)), (0, .ref o), (1, .int (Zi i))], [.int (Zi k)])) (fun _ => rfl) ?_
    refine Z_go (f2 := (9, [(2, .int (Zi k)), (0, .ref o), (1, .int (Zi i))], [.ref o, .int (Zi k)])) (fun _ => rfl) ?_
    refine C_gi rfl hs ok (by decide) (Nat.le_of_ble_eq_true rfl) rfl ?_
    rw [show C_F (u) o 11 = C_F s o 11 from (by first | exact e11 | exact (if_neg (fun e => absurd e.1 (by assumption))).trans e11 | exact (if_neg (fun e => absurd e.2 (by decide))).trans e11 | exact (if_neg (fun e => absurd e.2 (by decide))).trans ((if_neg (fun e => absurd e.2 (by decide))).trans e11) | exact (if_neg (fun e => absurd e.2 (by decide))).trans ((if_neg (fun e => absurd e.2 (by decide))).trans ((if_neg (fun e => absurd e.2 (by decide))).trans e11)))]
    show B_R _ _ (12, [(2, .int (Zi k)), (0, .ref o), (1, .int (Zi i))], [.int (Zi (C_F s o 11)), .int (Zi k)]) _ _ _
    refine Z_cge rfl rfl (by first | exact hs.zF _ _ | exact Zor_r _ _ | exact hs.zA _ _ | assumption | exact zA _ _ | exact zS _ | exact Zr_not (hs.zA _ _) | exact hs.1.1 _ _ | exact ⟨by omega, by omega⟩) (by first | exact hs.zF _ _ | exact Zor_r _ _ | exact hs.zA _ _ | assumption | exact zA _ _ | exact zS _ | exact Zr_not (hs.zA _ _) | exact hs.1.1 _ _ | exact ⟨by omega, by omega⟩) (fun y91 => ?_) (fun y91 => ?_)
    · refine B_loc (K := [(0, .ref o), (1, .int (Zi i))]) (N_all_sub ⟨rfl, rfl, trivial⟩) (show ([0, 1] : List Nat).Nodup by decide) ?_
      obtain rfl : k = C_F s o 11 := by omega
      exact ret u h b hs go iv b0 bi be c0 cv hf
    · obtain ⟨a1, a2, a3, a4⟩ := sd.1 k k0 (by omega)
      refine Z_go (f2 := (16, [(2, .int (Zi k)), (0, .ref o), (1, .int (Zi i))], [.ref o])) (fun _ => rfl) ?_
      refine C_gr rfl hs ok (by decide) (Nat.le_of_ble_eq_true rfl) rfl e10 ?_
      refine Z_go (f2 := (20, [(2, .int (Zi k)), (0, .ref o), (1, .int (Zi i))], [.int (Zi k), .ref (A 10)])) (fun _ => rfl) ?_
      refine C_callSR (vs := [.ref (A 10), .int (Zi k)]) (rest := []) rfl (by decide) rfl rfl rfl (Nat.le_of_ble_eq_true rfl) hs (C_pick _ (k10) (i := k) ⟨by omega, by omega⟩) (fun x q => ?_)
      obtain rfl := q
      rw [if_pos (by omega), ea]
      show B_R _ _ (23, [(2, .int (Zi k)), (0, .ref o), (1, .int (Zi i))], [.int (Zi (C_A s (A 10) k))]) _ _ _
      refine Z_go (f2 := (24, [(3, .int (Zi (C_A s (A 10) k))), (2, .int (Zi k)), (0, .ref o), (1, .int (Zi i))], [])) (fun _ => rfl) ?_
      refine Z_go (f2 := (25, [(3, .int (Zi (C_A s (A 10) k))), (2, .int (Zi k)), (0, .ref o), (1, .int (Zi i))], [.ref o])) (fun _ => rfl) ?_
      refine Z_go (f2 := (26, [(3, .int (Zi (C_A s (A 10) k))), (2, .int (Zi k)), (0, .ref o), (1, .int (Zi i))], [.int (Zi (C_A s (A 10) k)), .ref o])) (fun _ => rfl) ?_
      refine Z_go (f2 := (29, [(3, .int (Zi (C_A s (A 10) k))), (2, .int (Zi k)), (0, .ref o), (1, .int (Zi i))], [.int (Zi 255), .int (Zi (C_A s (A 10) k)), .ref o])) (fun _ => rfl) ?_
      refine Z_and255 rfl ?_
      refine Z_go (f2 := (31, [(3, .int (Zi (C_A s (A 10) k))), (2, .int (Zi k)), (0, .ref o), (1, .int (Zi i))], [.int (Zi (C_A s (A 10) k)), .int (Zi ((C_A s (A 10) k) % 256)), .ref o])) (fun _ => rfl) ?_
      refine Z_go (f2 := (33, [(3, .int (Zi (C_A s (A 10) k))), (2, .int (Zi k)), (0, .ref o), (1, .int (Zi i))], [.int (Zi 8), .int (Zi (C_A s (A 10) k)), .int (Zi ((C_A s (A 10) k) % 256)), .ref o])) (fun _ => rfl) ?_
      refine Z_ishr rfl (by first | exact hs.zF _ _ | exact Zor_r _ _ | exact hs.zA _ _ | assumption | exact zA _ _ | exact zS _ | exact Zr_not (hs.zA _ _) | exact hs.1.1 _ _ | exact ⟨by omega, by omega⟩) (by omega) (by omega) (p := 256) (by rfl) ?_
      refine Z_go (f2 := (35, [(3, .int (Zi (C_A s (A 10) k))), (2, .int (Zi k)), (0, .ref o), (1, .int (Zi i))], [.int (Zi i), .int (Zi ((C_A s (A 10) k) / 256)), .int (Zi ((C_A s (A 10) k) % 256)), .ref o])) (fun _ => rfl) ?_
      refine C_callV (As := [.int (Zi ((C_A s (A 10) k) % 256)), .int (Zi ((C_A s (A 10) k) / 256)), .int (Zi i)]) (rest := []) rfl (by decide) rfl (by decide) rfl rfl (by decide +kernel) (Nat.le_of_ble_eq_true rfl) hs ok (C_ment (q := C_A s (A 10) k % 256) (b := C_A s (A 10) k / 256) _ hmu etu ktu hWu hκu hok hB B0 m1 N1 a1 (by omega) i1 (iv.up (Int.le_refl _) (hb k (Int.le_refl _) (by omega)) (by omega)) (by omega) a3 a4 c0 cv) (fun x h v1 n1 hs q => ?_)
      obtain ⟨rfl, rfl, y1, y2, y3, y4, y5⟩ := q
      show B_R _ _ (38, [(3, .int (Zi (C_A s (A 10) k))), (2, .int (Zi k)), (0, .ref o), (1, .int (Zi i))], []) _ _ _
      refine Z_iinc (L2 := [(2, .int (Zi (k + 1))), (3, .int (Zi (C_A s (A 10) k))), (0, .ref o), (1, .int (Zi i))]) rfl rfl (by decide) rfl ?_
      refine Z_go (f2 := (7, [(2, .int (Zi (k + 1))), (3, .int (Zi (C_A s (A 10) k))), (0, .ref o), (1, .int (Zi i))], [])) (fun _ => rfl) ?_
      refine B_loc (K := [(2, .int (Zi (k + 1))), (0, .ref o), (1, .int (Zi i))]) (N_all_sub ⟨rfl, rfl, rfl, trivial⟩) (show ([2, 0, 1] : List Nat).Nodup by decide) ?_
      refine ih _ v1 _ _ (by omega) (by omega) (by omega) hs (go.tr y1) y2 a1 (by omega) (.inl a2) (fun k2 g0 g1 => sd.2 k k2 k0 (by omega) g1) y4 y5 (fun k2 g0 g1 g2 j hj => ?_)
      by_cases c : k2 = k
      · rw [c] at g2 hj
        obtain ⟨Q, hj⟩ := hj
        exact M_iv.ends hok y2 (Int.le_refl _) (by omega) Q _ j (by omega) a3 y3 hj
      · exact y1.2.2.2 j (hf k2 g0 (by omega) g2 j hj)
theorem C_sprd (d : Nat) {s : C_S} {p : List Nat} {o : Nat} {A : Nat → Nat} {κ : Nat → Int → Int} {H : Int → Int → Prop} {W : Int → Int} {m e B : Int} {tb N : Nat} {i : Int} (hm : D_M0 s p o A) (et : C_P s o 14 = some tb) (kt : C_K s tb = (1, N)) (hW : C_wb s tb N = W) (hκ : ∀ f, (f = 1 ∨ f = 2 ∨ f = 3 ∨ f = 4) → C_A s (A f) = κ f) (hok : M_kok κ m) (hB : ∀ b j, 0 ≤ b → M_ac κ H W N e b j → B ≤ b) (B0 : 0 ≤ B) (m1 : m ≤ 202) (N1 : N ≤ 1000) (sd : M_sd κ H W N m e i (C_A s (A 10)) (C_F s o 11)) (d0 : 0 ≤ C_F s o 11) (d1 : C_F s o 11 ≤ 202) (hg : C_F s o 15 = -1 ∨ 0 ≤ C_F s o 15 ∧ C_F s o 15 < i ∧ C_F s o 16 ≤ i ∧ M_ac κ H W N e (C_F s o 15) (C_F s o 16)) (i0 : 0 ≤ i) (i1 : i ≤ N) (hμ : ∀ q, 0 ≤ q → q < 202 → C_A s (A 7) q < i) (f6 : C_F s o 6 = e) (e0 : 0 ≤ e) (e1 : e < m) : C_ok (d + 5) 24 [.ref o, .int (Zi i)] s (fun x s2 n => x = none ∧ n = 0 ∧ M_go κ H W N m B i o A (C_sF s o 13 0) s2 ∧ M_IV κ H W N m e B i o A s2 0 i (-1) ∧ 0 ≤ C_F s2 o 13 ∧ C_F s2 o 13 ≤ 202 ∧ (∀ j, (C_F s o 15 = B ∧ j ≤ C_F s o 16) ∨ (∃ k, 0 ≤ k ∧ k < C_F s o 11 ∧ C_A s (A 10) k / 256 = B ∧ M_ac κ H W N (C_A s (A 10) k % 256) i j) ∨ (i = B ∧ M_ac κ H W N e B j) → M_FN κ H W N m B i o A s2 j)) := by
  refine C_enter (M := E_m24) rfl (Nat.le_of_ble_eq_true rfl) (fun h0 h hs => ?_)
  show B_R (d + 4) _ (0, [(0, .ref o), (1, .int (Zi i))], []) _ _ _
  have w := hs.1
  have ok := hm.1
  obtain ⟨ee1, k1, t1⟩ := hm.2.2.1 1 (by omega)
  obtain ⟨ee2, k2, t2⟩ := hm.2.2.1 2 (by omega)
  obtain ⟨ee3, k3, t3⟩ := hm.2.2.1 3 (by omega)
  obtain ⟨e4, k4, t4⟩ := hm.2.2.1 4 (by omega)
  obtain ⟨e7, k7, t7⟩ := hm.2.2.1 7 (by omega)
  obtain ⟨e8, k8, t8⟩ := hm.2.2.1 8 (by omega)
  obtain ⟨ee10, k10, t10⟩ := hm.2.2.1 10 (by omega)
  obtain ⟨ee12, k12, t12⟩ := hm.2.2.1 12 (by omega)
  have zi : Zr i := ⟨by omega, by omega⟩
  obtain ⟨hun, hun2⟩ := M_un_b (C_A s (A 7)) i 202
  have s13 : C_F (C_sF s o 13 0) o 13 = 0 := if_pos ⟨rfl, rfl⟩
  have s15 : C_F (C_sF s o 13 0) o 15 = C_F s o 15 := if_neg (by omega)
  have s16 : C_F (C_sF s o 13 0) o 16 = C_F s o 16 := if_neg (by omega)
  have s11 : C_F (C_sF s o 13 0) o 11 = C_F s o 11 := if_neg (by omega)
  have s6 : C_F (C_sF s o 13 0) o 6 = C_F s o 6 := if_neg (by omega)
  have hm0 : D_M0 (C_sF s o 13 0) p o A := hm
  have iv0 : M_IV κ H W N m e B i o A (C_sF s o 13 0) 0 0 (-1) := by
    unfold M_IV
    rw [s13, s15, s16]
    exact M_iv.start (fun q q0 q1 => hμ q q0 (by omega)) hg
  refine Z_go (f2 := (1, [(0, .ref o), (1, .int (Zi i))], [.ref o])) (fun _ => rfl) ?_
  refine Z_go (f2 := (2, [(0, .ref o), (1, .int (Zi i))], [.int (Zi 0), .ref o])) (fun _ => rfl) ?_
  refine C_pi rfl hs ok (by decide) (Nat.le_of_ble_eq_true rfl) (.inl rfl) rfl rfl rfl (by first | exact hs.zF _ _ | exact Zor_r _ _ | exact hs.zA _ _ | assumption | exact zA _ _ | exact zS _ | exact Zr_not (hs.zA _ _) | exact hs.1.1 _ _ | exact ⟨by omega, by omega⟩) (fun h hs => ?_)
  refine Z_go (f2 := (6, [(0, .ref o), (1, .int (Zi i))], [.int (Zi 0)])) (fun _ => rfl) ?_
  refine Z_go (f2 := (7, [(2, .int (Zi 0)), (0, .ref o), (1, .int (Zi i))], [])) (fun _ => rfl) ?_
  refine B_loc (K := [(2, .int (Zi 0)), (0, .ref o), (1, .int (Zi i))]) (N_all_sub ⟨rfl, rfl, rfl, trivial⟩) (show ([2, 0, 1] : List Nat).Nodup by decide) ?_
  refine C_sprd_lp (s := C_sF s o 13 0) hm0 et kt hW hκ hok hB B0 m1 N1 (by rw [s11]; exact sd) (by omega) (by omega) (by rw [s15, s16]; exact hg) i0 i1 (fun u h b hs go iv b0 bi be c0 cv hf => ?_) 204 0 _ h 0 (by omega) (by omega) (by omega) hs M_go.refl iv0 (by omega) i0 ?_ ?_ (by omega) ?_ (fun k2 g0 g1 => by omega)
  rotate_left
  · rw [s11]
    by_cases c : C_F s o 11 ≤ 0
    · exact .inr ⟨c, rfl⟩
    · exact .inl (by have := sd.1 0 (by omega) (by omega); omega)
  · intro k2 g0 g1
    rw [s11] at g1
    exact (sd.1 k2 g0 g1).1
  · rw [s13]
    show 0 + M_un (C_A s (A 7)) i 202 ≤ 202
    omega
  have hmu := go.1.M0 hm0
  have hwu := go.1.wb hm0 kt
  have hWu : C_wb u tb N = W := by rw [← hW]; unfold C_wb; rw [hwu]; rfl
  have etu : C_P u o 14 = some tb := by rw [go.1.1.2.2.2.1]; exact et
  have ktu : C_K u tb = (1, N) := by rw [go.1.1.2.1]; exact kt
  have hκu : ∀ f, (f = 1 ∨ f = 2 ∨ f = 3 ∨ f = 4) → C_A u (A f) = κ f := fun f hf => by rw [go.1.arr hm0 (by omega) (by unfold M_XE; omega)]; exact hκ f hf
  have ok := hmu.1
  obtain ⟨hunu, hunu2⟩ := M_un_b (C_A u (A 7)) i 202
  have u6 : C_F u o 6 = e := (go.1.2.1 o 6 (by unfold M_XE; omega)).trans (s6.trans f6)
  rw [s11] at hf
  have fin0 : ∀ j, (C_F s o 15 = B ∧ j ≤ C_F s o 16) ∨ (∃ k, 0 ≤ k ∧ k < C_F s o 11 ∧ C_A s (A 10) k / 256 = B ∧ M_ac κ H W N (C_A s (A 10) k % 256) i j) → M_FN κ H W N m B i o A u j := by
    rintro j (⟨g1, g2⟩ | ⟨k, g0, g1, g2, g3⟩)
    · refine go.2.2.2 j (.inl ?_)
      rw [s15, s16]; exact ⟨g1, g2⟩
    · exact hf k g0 g1 g2 j g3
  have z15 := hs.1.1 o 15
  refine Z_go (f2 := (45, [(0, .ref o), (1, .int (Zi i))], [.ref o])) (fun _ => rfl) ?_
  refine C_gi rfl hs ok (by decide) (Nat.le_of_ble_eq_true rfl) rfl ?_
  show B_R _ _ (48, [(0, .ref o), (1, .int (Zi i))], [.int (Zi (C_F u o 15))]) _ _ _
  refine Z_go (f2 := (49, [(0, .ref o), (1, .int (Zi i))], [.int (Zi (-1)), .int (Zi (C_F u o 15))])) (fun _ => rfl) ?_
  refine Z_cne rfl rfl (by first | exact hs.zF _ _ | exact Zor_r _ _ | exact hs.zA _ _ | assumption | exact zA _ _ | exact zS _ | exact Zr_not (hs.zA _ _) | exact hs.1.1 _ _ | exact ⟨by omega, by omega⟩) (by first | exact hs.zF _ _ | exact Zor_r _ _ | exact hs.zA _ _ | assumption | exact zA _ _ | exact zS _ | exact Zr_not (hs.zA _ _) | exact hs.1.1 _ _ | exact ⟨by omega, by omega⟩) (fun y1 => ?_) (fun y1 => ?_)
  · refine Z_ret rfl rfl ⟨_, hs, ?_⟩
    try dsimp only
    refine ⟨rfl, rfl, go, iv.up (Int.le_refl _) (by omega) (Int.le_refl _), c0, by omega, ?_⟩
    rintro j (g | g | ⟨g1, g2⟩)
    · exact fin0 j (.inl g)
    · exact fin0 j (.inr g)
    · exfalso
      rcases iv.2.2.2.1 with q | ⟨q1, q2, q3, q4⟩
      · omega
      · have := hB _ _ q1 q4
        rw [s11, s15] at be
        rcases be with be | ⟨be, be2⟩
        · omega
        · rcases hg with g | ⟨g3, g4, _⟩ <;> omega
  · refine Z_go (f2 := (53, [(0, .ref o), (1, .int (Zi i))], [.ref o])) (fun _ => rfl) ?_
    refine Z_go (f2 := (54, [(0, .ref o), (1, .int (Zi i))], [.ref o, .ref o])) (fun _ => rfl) ?_
    refine C_gi rfl hs ok (by decide) (Nat.le_of_ble_eq_true rfl) rfl ?_
    rw [show C_F (u) o 6 = e from (by first | exact u6 | exact (if_neg (fun e => absurd e.1 (by assumption))).trans u6 | exact (if_neg (fun e => absurd e.2 (by decide))).trans u6 | exact (if_neg (fun e => absurd e.2 (by decide))).trans ((if_neg (fun e => absurd e.2 (by decide))).trans u6) | exact (if_neg (fun e => absurd e.2 (by decide))).trans ((if_neg (fun e => absurd e.2 (by decide))).trans ((if_neg (fun e => absurd e.2 (by decide))).trans u6)))]
    show B_R _ _ (57, [(0, .ref o), (1, .int (Zi i))], [.int (Zi e), .ref o]) _ _ _
    refine Z_go (f2 := (58, [(0, .ref o), (1, .int (Zi i))], [.int (Zi i), .int (Zi e), .ref o])) (fun _ => rfl) ?_
    refine Z_go (f2 := (59, [(0, .ref o), (1, .int (Zi i))], [.int (Zi i), .int (Zi i), .int (Zi e), .ref o])) (fun _ => rfl) ?_
    refine C_callV (As := [.int (Zi e), .int (Zi i), .int (Zi i)]) (rest := []) rfl (by decide) rfl (by decide) rfl rfl (by decide +kernel) (Nat.le_of_ble_eq_true rfl) hs ok (C_ment (q := e) (b := i) _ hmu etu ktu hWu hκu hok hB B0 m1 N1 i0 (Int.le_refl _) i1 (iv.up (Int.le_refl _) (by omega) (Int.le_refl _)) e0 e1 (fun j hj => hj) c0 cv) (fun x h v1 n1 hs q => ?_)
    obtain ⟨rfl, rfl, y1, y2, y3, y4, y5⟩ := q
    show B_R _ _ (62, [(0, .ref o), (1, .int (Zi i))], []) _ _ _
    refine Z_ret rfl rfl ⟨_, hs, ?_⟩
    try dsimp only
    obtain ⟨hunv, hunv2⟩ := M_un_b (C_A v1 (A 7)) i 202
    refine ⟨rfl, rfl, go.tr y1, y2, y4, by omega, ?_⟩
    rintro j (g | g | ⟨g1, Q, g2⟩)
    · exact y1.2.2.2 j (fin0 j (.inl g))
    · exact y1.2.2.2 j (fin0 j (.inr g))
    · rw [← g1] at g2
      exact M_iv.ends hok y2 (Int.le_refl _) (by omega) Q e j e0 e1 y3 g2
