/-! the class: Texts: put, copyTo, copyFrom, its constructor -/
/-- texts in their order -/
def T_so (τ : Int → List Int) (m : Nat) : Prop := ∀ a b : Int, 0 ≤ a → a < b → b < m → L_lt (τ a) (τ b)
/-- what a shift up leaves -/
theorem D_tv.up {s u : C_S} {ra la : Nat} {V : Int → Prop} {σ : Int → List Int} {i : Int} (h : D_tv s ra la V σ) (hi : V i) (hV : ∀ j, V j → 0 ≤ j ∧ j < 8) (i1 : i + 1 < 8) (hb : ∀ (j : Int) (b : Nat), 0 ≤ j → j < 8 → C_Q s ra j = some b → b ≠ la) (eQ : ∀ j, C_Q u ra j = if j = i then C_Q s ra (i + 1) else if j = i + 1 then C_Q s ra i else C_Q s ra j) (eA : ∀ j, C_A u la j = if j = i + 1 then C_A s la i else C_A s la j) (eB : ∀ b, b ≠ la → C_A u b = C_A s b) : D_tv u ra la (fun j => j ≠ i ∧ (j = i + 1 ∨ V j)) (fun j => if j = i + 1 then σ i else σ j) := by
  intro j hj
  obtain ⟨n1, hj⟩ := hj
  have i0 := hV i hi
  by_cases e : j = i + 1
  · obtain ⟨h1, h2, h3, h4⟩ := h i hi
    have eσ : (if j = i + 1 then σ i else σ j) = σ i := if_pos e
    dsimp only
    rw [eσ]
    refine ⟨by rw [eA, if_pos e]; exact h1, h2, h3, fun b hb2 k k0 k1 => ?_⟩
    rw [eQ, if_neg n1, if_pos e] at hb2
    rw [eB b (hb i b i0.1 i0.2 hb2)]
    exact h4 b hb2 k k0 k1
  · have hV2 : V j := hj.resolve_left e
    obtain ⟨h1, h2, h3, h4⟩ := h j hV2
    have eσ : (if j = i + 1 then σ i else σ j) = σ j := if_neg e
    dsimp only
    rw [eσ]
    refine ⟨by rw [eA, if_neg e]; exact h1, h2, h3, fun b hb2 k k0 k1 => ?_⟩
    rw [eQ, if_neg n1, if_neg e] at hb2
    have := hV j hV2
    rw [eB b (hb j b this.1 this.2 hb2)]
    exact h4 b hb2 k k0 k1
theorem D_tv.weak {s : C_S} {ra la : Nat} {V W : Int → Prop} {σ τ : Int → List Int} (h : D_tv s ra la V σ) (k : ∀ j, W j → V j ∧ τ j = σ j) : D_tv s ra la W τ := fun j hj => by
  rw [(k j hj).2]
  exact h j (k j hj).1
theorem D_tv.wr {s u : C_S} {ra la : Nat} {V : Int → Prop} {σ : Int → List Int} {i : Int} {X : List Int} (h : D_tv s ra la V σ) (hV : ∀ j, V j → 0 ≤ j ∧ j < 8) (i0 : 0 ≤ i) (i1 : i < 8) (hX : X.length ≤ 60) (hXb : ∀ x ∈ X, 0 ≤ x ∧ x < 256) (hb : ∀ (j : Int) (b : Nat), 0 ≤ j → j < 8 → C_Q s ra j = some b → b ≠ la) (inj : ∀ i j : Int, 0 ≤ i → i < 8 → 0 ≤ j → j < 8 → ∀ b, C_Q s ra i = some b → C_Q s ra j = some b → i = j) (eQ : ∀ j, C_Q u ra j = C_Q s ra j) (eA : ∀ j, C_A u la j = if j = i then (X.length : Int) else C_A s la j) (eX : ∀ b, C_Q s ra i = some b → ∀ k : Int, 0 ≤ k → k < X.length → C_A u b k % 256 = L_at X k) (eB : ∀ b, b ≠ la → C_Q s ra i ≠ some b → C_A u b = C_A s b) : D_tv u ra la (fun j => j = i ∨ V j) (fun j => if j = i then X else σ j) := by
  intro j hj
  by_cases e : j = i
  · have eσ : (if j = i then X else σ j) = X := if_pos e
    dsimp only
    rw [eσ]
    refine ⟨by rw [eA, if_pos e], hX, hXb, fun b hb2 k k0 k1 => ?_⟩
    rw [eQ, e] at hb2
    exact eX b hb2 k k0 k1
  · have hV2 : V j := hj.resolve_left e
    obtain ⟨h1, h2, h3, h4⟩ := h j hV2
    have eσ : (if j = i then X else σ j) = σ j := if_neg e
    dsimp only
    rw [eσ]
    refine ⟨by rw [eA, if_neg e]; exact h1, h2, h3, fun b hb2 k k0 k1 => ?_⟩
    rw [eQ] at hb2
    have := hV j hV2
    rw [eB b (hb j b this.1 this.2 hb2) (fun x => e (inj j i this.1 this.2 i0 i1 b hb2 x))]
    exact h4 b hb2 k k0 k1
theorem C_put1 {d : Nat} {h0 h : E_H} {s : C_S} {sl : Nat} {Φ : E_R → Prop} {p : List Nat} {o ra la m : Nat} {τ : Int → List Int} {tb N : Nat} {X : List Int} (hs : C_is h0 h s) (ht : D_Tx s p o ra la m τ) (hx : D_by s tb N X) (hX : X.length ≤ 1000) (kont : ∀ pl : Int, 0 ≤ pl → pl ≤ m → (∀ j : Int, 0 ≤ j → j < pl → L_lt (τ j) X) → (pl < m → ¬ L_lt (τ pl) X) → B_R (d + 3) E_m112 (26, [(3, .int (Zi pl)), (0, .ref o), (1, .ref tb), (2, .int (Zi ((X.length : Int))))], []) h sl Φ) : ∀ (t : Nat) (pl : Int), (m : Int) - pl < t → 0 ≤ pl → pl ≤ m → (∀ j : Int, 0 ≤ j → j < pl → L_lt (τ j) X) → B_R (d + 3) E_m112 (2, [(3, .int (Zi pl)), (0, .ref o), (1, .ref tb), (2, .int (Zi ((X.length : Int))))], []) h sl Φ := by
  have ht0 := ht
  have w := hs.1
  obtain ⟨⟨⟨tk, tt, tp, tq, rk, rt, lk, lt, tn, tl⟩, g1, g2⟩, g3⟩ := ht
  intro t
  induction t with
  | zero => intro pl ht p0 p1 hl; omega
  | succ t ih =>
    intro pl ht p0 p1 hl
    refine Z_go (f2 := (3, [(3, .int (Zi pl)), (0, .ref o), (1, .ref tb), (2, .int (Zi ((X.length : Int))))], [.int (Zi pl)])) (fun _ => rfl) ?_
    refine Z_go (f2 := (4, [(3, .int (Zi pl)), (0, .ref o), (1, .ref tb), (2, .int (Zi ((X.length : Int))))], [.ref o, .int (Zi pl)])) (fun _ => rfl) ?_
    refine C_gi rfl hs tk (by decide) (Nat.le_of_ble_eq_true rfl) rfl ?_
    rw [show C_F (s) o 2 = (m : Int) from (by first | exact tn | exact (if_neg (fun e => absurd e.1 (by assumption))).trans tn)]
    show B_R _ _ (7, [(3, .int (Zi pl)), (0, .ref o), (1, .ref tb), (2, .int (Zi ((X.length : Int))))], [.int (Zi ((m : Int))), .int (Zi pl)]) _ _ _
    refine Z_cge rfl rfl (by first | exact hs.zF _ _ | exact Zor_r _ _ | exact hs.zA _ _ | assumption | exact zA _ _ | exact zS _ | exact Zr_not (hs.zA _ _) | exact hs.1.1 _ _ | exact ⟨by omega, by omega⟩) (by first | exact hs.zF _ _ | exact Zor_r _ _ | exact hs.zA _ _ | assumption | exact zA _ _ | exact zS _ | exact Zr_not (hs.zA _ _) | exact hs.1.1 _ _ | exact ⟨by omega, by omega⟩) (fun c1 => ?_) (fun c1 => ?_)
    · refine B_loc (K := [(3, .int (Zi pl)), (0, .ref o), (1, .ref tb), (2, .int (Zi ((X.length : Int))))]) (N_all_sub ⟨rfl, rfl, rfl, rfl, trivial⟩) (show ([3, 0, 1, 2] : List Nat).Nodup by decide) ?_
      exact kont pl p0 p1 hl (fun c => by omega)
    · refine Z_go (f2 := (11, [(3, .int (Zi pl)), (0, .ref o), (1, .ref tb), (2, .int (Zi ((X.length : Int))))], [.ref o])) (fun _ => rfl) ?_
      refine Z_go (f2 := (12, [(3, .int (Zi pl)), (0, .ref o), (1, .ref tb), (2, .int (Zi ((X.length : Int))))], [.int (Zi pl), .ref o])) (fun _ => rfl) ?_
      refine Z_go (f2 := (13, [(3, .int (Zi pl)), (0, .ref o), (1, .ref tb), (2, .int (Zi ((X.length : Int))))], [.ref tb, .int (Zi pl), .ref o])) (fun _ => rfl) ?_
      refine Z_go (f2 := (14, [(3, .int (Zi pl)), (0, .ref o), (1, .ref tb), (2, .int (Zi ((X.length : Int))))], [.int (Zi ((X.length : Int))), .ref tb, .int (Zi pl), .ref o])) (fun _ => rfl) ?_
      refine C_callVR (As := [.int (Zi pl), .ref tb, .int (Zi ((X.length : Int)))]) (rest := []) rfl (by decide) rfl (by decide) rfl rfl (by decide +kernel) (Nat.le_of_ble_eq_true rfl) hs tk (C_cmp _ ht0 hx (i := pl) (by omega) (by omega) hX) (fun x q => ?_)
      obtain ⟨zc85, rfl, zr85, zs85, hc85⟩ := q
      show B_R _ _ (17, [(3, .int (Zi pl)), (0, .ref o), (1, .ref tb), (2, .int (Zi ((X.length : Int))))], [.int (Zi zc85)]) _ _ _
      refine Z_ige rfl rfl (by first | exact hs.zF _ _ | exact Zor_r _ _ | exact hs.zA _ _ | assumption | exact zA _ _ | exact zS _ | exact Zr_not (hs.zA _ _) | exact hs.1.1 _ _ | exact ⟨by omega, by omega⟩) (fun c2 => ?_) (fun c2 => ?_)
      · refine B_loc (K := [(3, .int (Zi pl)), (0, .ref o), (1, .ref tb), (2, .int (Zi ((X.length : Int))))]) (N_all_sub ⟨rfl, rfl, rfl, rfl, trivial⟩) (show ([3, 0, 1, 2] : List Nat).Nodup by decide) ?_
        exact kont pl p0 p1 hl (fun _ => by rcases hc85 with e | e | e; omega; rw [e.2]; exact L_lt_irr _; exact L_lt_asym e.2)
      · refine Z_iinc (L2 := [(3, .int (Zi (pl + 1))), (0, .ref o), (1, .ref tb), (2, .int (Zi ((X.length : Int))))]) rfl rfl (by decide) rfl ?_
        refine Z_go (f2 := (2, [(3, .int (Zi (pl + 1))), (0, .ref o), (1, .ref tb), (2, .int (Zi ((X.length : Int))))], [])) (fun _ => rfl) ?_
        refine B_loc (K := [(3, .int (Zi (pl + 1))), (0, .ref o), (1, .ref tb), (2, .int (Zi ((X.length : Int))))]) (N_all_sub ⟨rfl, rfl, rfl, rfl, trivial⟩) (show ([3, 0, 1, 2] : List Nat).Nodup by decide) ?_
        exact ih _ (by omega) (by omega) (by omega) (fun j j0 j1 => by by_cases e : j = pl; subst e; rcases hc85 with e | e | e; exact e.2; omega; omega; exact hl j j0 (by omega))
theorem C_put2 {d : Nat} {h0 : E_H} {s : C_S} {sl : Nat} {Φ : E_R → Prop} {p : List Nat} {o ra la m : Nat} {τ : Int → List Int} {tb N : Nat} {X : List Int} {pl : Int} (p0 : 0 ≤ pl) (p1 : pl ≤ m) (m7 : m < 8) (hX : X.length ≤ 1000) (kont : ∀ (u : C_S) (h : E_H), C_is h0 h u → C_n u = C_n s → C_fr (fun t => t = p) s u → D_T0 u p o ra la m → D_tv u ra la (fun j => j ≠ pl ∧ 0 ≤ j ∧ j ≤ m) (fun j => if j < pl then τ j else τ (j - 1)) → B_R (d + 3) E_m112 (99, [(4, .int (Zi pl)), (3, .int (Zi pl)), (0, .ref o), (1, .ref tb), (2, .int (Zi ((X.length : Int))))], []) h sl Φ) : ∀ (t : Nat) (i : Int) (u : C_S) (h : E_H), i - pl < t → C_is h0 h u → C_n u = C_n s → C_fr (fun t => t = p) s u → D_T0 u p o ra la m → D_tv u ra la (fun j => j ≠ i ∧ 0 ≤ j ∧ j ≤ m) (fun j => if j < i then τ j else τ (j - 1)) → pl ≤ i → i ≤ m → B_R (d + 3) E_m112 (79, [(4, .int (Zi i)), (3, .int (Zi pl)), (0, .ref o), (1, .ref tb), (2, .int (Zi ((X.length : Int))))], []) h sl Φ := by
  intro t
  induction t with
  | zero => intro i u h ht hs en fr t0 tv i0 i1; omega
  | succ t ih =>
    intro i u h ht hs en fr t0 tv i0 i1
    have hne := t0.ne
    have ht0 := t0
    obtain ⟨⟨tk, tt, tp, tq, rk, rt, lk, lt, tn, tl⟩, g1, g2⟩ := t0
    refine Z_go (f2 := (81, [(4, .int (Zi i)), (3, .int (Zi pl)), (0, .ref o), (1, .ref tb), (2, .int (Zi ((X.length : Int))))], [.int (Zi i)])) (fun _ => rfl) ?_
    refine Z_go (f2 := (82, [(4, .int (Zi i)), (3, .int (Zi pl)), (0, .ref o), (1, .ref tb), (2, .int (Zi ((X.length : Int))))], [.int (Zi pl), .int (Zi i)])) (fun _ => rfl) ?_
    refine Z_cle rfl rfl (by first | exact hs.zF _ _ | exact Zor_r _ _ | exact hs.zA _ _ | assumption | exact zA _ _ | exact zS _ | exact Zr_not (hs.zA _ _) | exact hs.1.1 _ _ | exact ⟨by omega, by omega⟩) (by first | exact hs.zF _ _ | exact Zor_r _ _ | exact hs.zA _ _ | assumption | exact zA _ _ | exact zS _ | exact Zr_not (hs.zA _ _) | exact hs.1.1 _ _ | exact ⟨by omega, by omega⟩) (fun c1 => ?_) (fun c1 => ?_)
    · refine B_loc (K := [(4, .int (Zi i)), (3, .int (Zi pl)), (0, .ref o), (1, .ref tb), (2, .int (Zi ((X.length : Int))))]) (N_all_sub ⟨rfl, rfl, rfl, rfl, rfl, trivial⟩) (show ([4, 3, 0, 1, 2] : List Nat).Nodup by decide) ?_
      obtain e : i = pl := by omega
      rw [e] at tv ⊢
      exact kont u h hs en fr ht0 tv
    · refine Z_go (f2 := (86, [(4, .int (Zi i)), (3, .int (Zi pl)), (0, .ref o), (1, .ref tb), (2, .int (Zi ((X.length : Int))))], [.ref o])) (fun _ => rfl) ?_
      refine Z_go (f2 := (88, [(4, .int (Zi i)), (3, .int (Zi pl)), (0, .ref o), (1, .ref tb), (2, .int (Zi ((X.length : Int))))], [.int (Zi i), .ref o])) (fun _ => rfl) ?_
      refine Z_go (f2 := (89, [(4, .int (Zi i)), (3, .int (Zi pl)), (0, .ref o), (1, .ref tb), (2, .int (Zi ((X.length : Int))))], [.int (Zi 1), .int (Zi i), .ref o])) (fun _ => rfl) ?_
      refine Z_isub rfl ?_
      refine C_callV (As := [.int (Zi (i - 1))]) (rest := []) rfl (by decide) rfl (by decide) rfl rfl (by decide +kernel) (Nat.le_of_ble_eq_true rfl) hs tk (C_moveUp _ ht0 (i := i - 1) (by omega) (by omega)) (fun x h v n hs q => ?_)
      obtain ⟨rfl, rfl, x1, x2, x3, x4, x5, x6⟩ := q
      show B_R _ _ (93, [(4, .int (Zi i)), (3, .int (Zi pl)), (0, .ref o), (1, .ref tb), (2, .int (Zi ((X.length : Int))))], []) _ _ _
      refine Z_iinc (L2 := [(4, .int (Zi (i + (-1)))), (3, .int (Zi pl)), (0, .ref o), (1, .ref tb), (2, .int (Zi ((X.length : Int))))]) rfl rfl (by decide) rfl ?_
      refine Z_go (f2 := (79, [(4, .int (Zi (i + (-1)))), (3, .int (Zi pl)), (0, .ref o), (1, .ref tb), (2, .int (Zi ((X.length : Int))))], [])) (fun _ => rfl) ?_
      refine B_loc (K := [(4, .int (Zi (i + (-1)))), (3, .int (Zi pl)), (0, .ref o), (1, .ref tb), (2, .int (Zi ((X.length : Int))))]) (N_all_sub ⟨rfl, rfl, rfl, rfl, rfl, trivial⟩) (show ([4, 3, 0, 1, 2] : List Nat).Nodup by decide) ?_
      refine ih _ v h (by omega) hs (by omega) (fr.tr x2) x3 ?_ (by omega) (by omega)
      have hup := tv.up (i := i - 1) ⟨by omega, by omega, by omega⟩ (fun j hj => ⟨hj.2.1, by have := hj.2.2; omega⟩) (by omega) (fun j b j0 j1 hb => (hne.2.2.2 j b j0 j1 hb).1) x4 x5 x6
      refine hup.weak (fun j hj => ⟨⟨by have := hj.1; omega, ?_⟩, ?_⟩)
      · by_cases e : j = i - 1 + 1
        · exact .inl e
        · exact .inr ⟨by omega, hj.2⟩
      · have := hj.1
        by_cases e : j = i - 1 + 1
        · rw [if_pos e, if_neg (by omega), if_pos (by omega), show j - 1 = i - 1 by omega]
        · rw [if_neg e]
          by_cases e2 : j < i + -1
          · rw [if_pos e2, if_pos (by omega)]
          · rw [if_neg e2, if_neg (by omega)]
theorem C_put (d : Nat) {s : C_S} {p : List Nat} {o ra la m : Nat} {τ : Int → List Int} {tb N : Nat} {X : List Int} (ht : D_Tx s p o ra la m τ) (hx : D_by s tb N X) (hX : X.length ≤ 1000) (so : T_so τ m) (nt : C_T s tb ≠ p) : C_ok (d + 5) 112 [.ref o, .ref tb, .int (Zi ((X.length : Int)))] s (fun x s2 n => n = 0 ∧ C_n s2 = C_n s ∧ C_fr (fun t => t = p) s s2 ∧ ∃ z : Int, x = some (.int (Zi z)) ∧ (z = 1 ∧ (∃ m2 τ2, D_Tx s2 p o ra la m2 τ2 ∧ T_so τ2 m2 ∧ ∀ y, y ∈ F_li m2 τ2 ↔ y ∈ F_li m τ ∨ y = X) ∨ z = 0 ∧ D_Tx s2 p o ra la m τ ∧ X ∉ F_li m τ ∧ (m = 8 ∨ 60 < X.length))) := by
  refine C_enter (M := E_m112) rfl (Nat.le_of_ble_eq_true rfl) (fun h0 h hs => ?_)
  show B_R (d + 4) _ (0, [(0, .ref o), (1, .ref tb), (2, .int (Zi ((X.length : Int))))], []) _ _ _
  have ht0 := ht
  have w := hs.1
  obtain ⟨⟨⟨tk, tt, tp, tq, rk, rt, lk, lt, tn, tl⟩, g1, g2⟩, g3⟩ := ht
  have hx0 := hx
  have hm := F_li_len m τ
  obtain ⟨xk, xl, xb, xa⟩ := hx
  have zN := (hs.len (by decide) xk).1
  refine Z_go (f2 := (1, [(0, .ref o), (1, .ref tb), (2, .int (Zi ((X.length : Int))))], [.int (Zi 0)])) (fun _ => rfl) ?_
  refine Z_go (f2 := (2, [(3, .int (Zi 0)), (0, .ref o), (1, .ref tb), (2, .int (Zi ((X.length : Int))))], [])) (fun _ => rfl) ?_
  refine B_loc (K := [(3, .int (Zi 0)), (0, .ref o), (1, .ref tb), (2, .int (Zi ((X.length : Int))))]) (N_all_sub ⟨rfl, rfl, rfl, rfl, trivial⟩) (show ([3, 0, 1, 2] : List Nat).Nodup by decide) ?_
  refine C_put1 hs ht0 hx0 hX (fun pl p0 p1 hl hg => ?_) (m + 1) 0 (by omega) (by omega) (by omega) (fun j j0 j1 => by omega)
  have hnot : ∀ (c : pl < m → L_lt X (τ pl)), X ∉ F_li m τ := fun c e => by
    obtain ⟨j, j0, j1, ej⟩ := F_li_mem.mp e
    by_cases e1 : j < pl
    · have := hl j j0 e1
      rw [ej] at this
      exact L_lt_irr _ this
    · have c1 := c (by omega)
      by_cases e2 : j = pl
      · rw [← e2, ej] at c1
        exact L_lt_irr _ c1
      · have := L_lt_trans c1 (so pl j p0 (by omega) j1)
        rw [ej] at this
        exact L_lt_irr _ this
  refine Z_go (f2 := (27, [(3, .int (Zi pl)), (0, .ref o), (1, .ref tb), (2, .int (Zi ((X.length : Int))))], [.int (Zi pl)])) (fun _ => rfl) ?_
  refine Z_go (f2 := (28, [(3, .int (Zi pl)), (0, .ref o), (1, .ref tb), (2, .int (Zi ((X.length : Int))))], [.ref o, .int (Zi pl)])) (fun _ => rfl) ?_
  refine C_gi rfl hs tk (by decide) (Nat.le_of_ble_eq_true rfl) rfl ?_
  rw [show C_F (s) o 2 = (m : Int) from (by first | exact tn | exact (if_neg (fun e => absurd e.1 (by assumption))).trans tn)]
  show B_R _ _ (31, [(3, .int (Zi pl)), (0, .ref o), (1, .ref tb), (2, .int (Zi ((X.length : Int))))], [.int (Zi ((m : Int))), .int (Zi pl)]) _ _ _
  refine Z_cge rfl rfl (by first | exact hs.zF _ _ | exact Zor_r _ _ | exact hs.zA _ _ | assumption | exact zA _ _ | exact zS _ | exact Zr_not (hs.zA _ _) | exact hs.1.1 _ _ | exact ⟨by omega, by omega⟩) (by first | exact hs.zF _ _ | exact Zor_r _ _ | exact hs.zA _ _ | assumption | exact zA _ _ | exact zS _ | exact Zr_not (hs.zA _ _) | exact hs.1.1 _ _ | exact ⟨by omega, by omega⟩) (fun c1 => ?_) (fun c1 => ?_)
  · refine Z_go (f2 := (47, [(3, .int (Zi pl)), (0, .ref o), (1, .ref tb), (2, .int (Zi ((X.length : Int))))], [.ref o])) (fun _ => rfl) ?_
    refine C_gi rfl hs tk (by decide) (Nat.le_of_ble_eq_true rfl) rfl ?_
    rw [show C_F (s) o 2 = (m : Int) from (by first | exact tn | exact (if_neg (fun e => absurd e.1 (by assumption))).trans tn)]
    show B_R _ _ (50, [(3, .int (Zi pl)), (0, .ref o), (1, .ref tb), (2, .int (Zi ((X.length : Int))))], [.int (Zi ((m : Int)))]) _ _ _
    refine Z_go (f2 := (52, [(3, .int (Zi pl)), (0, .ref o), (1, .ref tb), (2, .int (Zi ((X.length : Int))))], [.int (Zi 8), .int (Zi ((m : Int)))])) (fun _ => rfl) ?_
    refine Z_cge rfl rfl (by first | exact hs.zF _ _ | exact Zor_r _ _ | exact hs.zA _ _ | assumption | exact zA _ _ | exact zS _ | exact Zr_not (hs.zA _ _) | exact hs.1.1 _ _ | exact ⟨by omega, by omega⟩) (by first | exact hs.zF _ _ | exact Zor_r _ _ | exact hs.zA _ _ | assumption | exact zA _ _ | exact zS _ | exact Zr_not (hs.zA _ _) | exact hs.1.1 _ _ | exact ⟨by omega, by omega⟩) (fun c2 => ?_) (fun c2 => ?_)
    · refine Z_go (f2 := (72, [(3, .int (Zi pl)), (0, .ref o), (1, .ref tb), (2, .int (Zi ((X.length : Int))))], [.int (Zi 0)])) (fun _ => rfl) ?_
      refine Z_iret rfl rfl (by first | rfl | decide | exact narrow_b01 (by omega)) ⟨_, hs, ?_⟩
      try dsimp only
      first
      | (exfalso; omega)
      | exact ⟨rfl, rfl, C_fr.refl _ _, 0, rfl, .inr ⟨rfl, ht0, hnot (fun c => by omega), by omega⟩⟩
    · refine Z_go (f2 := (56, [(3, .int (Zi pl)), (0, .ref o), (1, .ref tb), (2, .int (Zi ((X.length : Int))))], [.int (Zi ((X.length : Int)))])) (fun _ => rfl) ?_
      refine Z_ilt rfl rfl (by first | exact hs.zF _ _ | exact Zor_r _ _ | exact hs.zA _ _ | assumption | exact zA _ _ | exact zS _ | exact Zr_not (hs.zA _ _) | exact hs.1.1 _ _ | exact ⟨by omega, by omega⟩) (fun c3 => ?_) (fun c3 => ?_)
      · refine Z_go (f2 := (72, [(3, .int (Zi pl)), (0, .ref o), (1, .ref tb), (2, .int (Zi ((X.length : Int))))], [.int (Zi 0)])) (fun _ => rfl) ?_
        refine Z_iret rfl rfl (by first | rfl | decide | exact narrow_b01 (by omega)) ⟨_, hs, ?_⟩
        try dsimp only
        first
        | (exfalso; omega)
        | exact ⟨rfl, rfl, C_fr.refl _ _, 0, rfl, .inr ⟨rfl, ht0, hnot (fun c => by omega), by omega⟩⟩
      · refine Z_go (f2 := (60, [(3, .int (Zi pl)), (0, .ref o), (1, .ref tb), (2, .int (Zi ((X.length : Int))))], [.int (Zi ((X.length : Int)))])) (fun _ => rfl) ?_
        refine Z_go (f2 := (62, [(3, .int (Zi pl)), (0, .ref o), (1, .ref tb), (2, .int (Zi ((X.length : Int))))], [.int (Zi 60), .int (Zi ((X.length : Int)))])) (fun _ => rfl) ?_
        refine Z_cgt rfl rfl (by first | exact hs.zF _ _ | exact Zor_r _ _ | exact hs.zA _ _ | assumption | exact zA _ _ | exact zS _ | exact Zr_not (hs.zA _ _) | exact hs.1.1 _ _ | exact ⟨by omega, by omega⟩) (by first | exact hs.zF _ _ | exact Zor_r _ _ | exact hs.zA _ _ | assumption | exact zA _ _ | exact zS _ | exact Zr_not (hs.zA _ _) | exact hs.1.1 _ _ | exact ⟨by omega, by omega⟩) (fun c4 => ?_) (fun c4 => ?_)
        · refine Z_go (f2 := (72, [(3, .int (Zi pl)), (0, .ref o), (1, .ref tb), (2, .int (Zi ((X.length : Int))))], [.int (Zi 0)])) (fun _ => rfl) ?_
          refine Z_iret rfl rfl (by first | rfl | decide | exact narrow_b01 (by omega)) ⟨_, hs, ?_⟩
          try dsimp only
          first
          | (exfalso; omega)
          | exact ⟨rfl, rfl, C_fr.refl _ _, 0, rfl, .inr ⟨rfl, ht0, hnot (fun c => by omega), by omega⟩⟩
        · refine Z_go (f2 := (66, [(3, .int (Zi pl)), (0, .ref o), (1, .ref tb), (2, .int (Zi ((X.length : Int))))], [.int (Zi ((X.length : Int)))])) (fun _ => rfl) ?_
          refine Z_go (f2 := (67, [(3, .int (Zi pl)), (0, .ref o), (1, .ref tb), (2, .int (Zi ((X.length : Int))))], [.ref tb, .int (Zi ((X.length : Int)))])) (fun _ => rfl) ?_
          refine C_al rfl hs xk (by decide) ?_
          show B_R _ _ (68, [(3, .int (Zi pl)), (0, .ref o), (1, .ref tb), (2, .int (Zi ((X.length : Int))))], [.int (Zi ((N : Int))), .int (Zi ((X.length : Int)))]) _ _ _
          refine Z_cle rfl rfl (by first | exact hs.zF _ _ | exact Zor_r _ _ | exact hs.zA _ _ | assumption | exact zA _ _ | exact zS _ | exact Zr_not (hs.zA _ _) | exact hs.1.1 _ _ | exact ⟨by omega, by omega⟩) (by first | exact hs.zF _ _ | exact Zor_r _ _ | exact hs.zA _ _ | assumption | exact zA _ _ | exact zS _ | exact Zr_not (hs.zA _ _) | exact hs.1.1 _ _ | exact ⟨by omega, by omega⟩) (fun c5 => ?_) (fun c5 => ?_)
          · refine Z_go (f2 := (74, [(3, .int (Zi pl)), (0, .ref o), (1, .ref tb), (2, .int (Zi ((X.length : Int))))], [.ref o])) (fun _ => rfl) ?_
            refine C_gi rfl hs tk (by decide) (Nat.le_of_ble_eq_true rfl) rfl ?_
            rw [show C_F (s) o 2 = (m : Int) from (by first | exact tn | exact (if_neg (fun e => absurd e.1 (by assumption))).trans tn)]
            show B_R _ _ (77, [(3, .int (Zi pl)), (0, .ref o), (1, .ref tb), (2, .int (Zi ((X.length : Int))))], [.int (Zi ((m : Int)))]) _ _ _
            refine Z_go (f2 := (79, [(4, .int (Zi ((m : Int)))), (3, .int (Zi pl)), (0, .ref o), (1, .ref tb), (2, .int (Zi ((X.length : Int))))], [])) (fun _ => rfl) ?_
            refine B_loc (K := [(4, .int (Zi ((m : Int)))), (3, .int (Zi pl)), (0, .ref o), (1, .ref tb), (2, .int (Zi ((X.length : Int))))]) (N_all_sub ⟨rfl, rfl, rfl, rfl, rfl, trivial⟩) (show ([4, 3, 0, 1, 2] : List Nat).Nodup by decide) ?_
            have hbig : pl < m → L_lt X (τ pl) := fun c => by omega
            refine C_put2 (N := N) p0 p1 (by omega) hX (fun u h hs en fr t0 tv => ?_) (m + 1) m s h (by omega) hs rfl (C_fr.refl _ _) ht0.1 (ht0.2.weak (fun j hj => ⟨⟨hj.2.1, by have := hj.1; have := hj.2.2; omega⟩, by rw [if_pos (by have := hj.1; have := hj.2.2; omega)]⟩)) (by omega) (by omega)
            have hx1 := hx0.fr w fr nt
            have hx5 : D_by (C_sF u o 2 (m + 1)) tb N X := hx1
            have wu := hs.1
            have t9 := t0
            obtain ⟨⟨tk, tt, tp, tq, rk, rt, lk, lt, tn, tl⟩, g1, g2⟩ := t0
            have hne := t9.ne
            have ht5 : D_T0 (C_sF u o 2 (m + 1)) p o ra la (m + 1) := ⟨⟨tk, tt, tp, tq, rk, rt, lk, lt, (if_pos ⟨rfl, rfl⟩).trans (by omega), by omega⟩, g1, g2⟩
            have tv5 : D_tv (C_sF u o 2 (m + 1)) ra la (fun j => j ≠ pl ∧ 0 ≤ j ∧ j ≤ m) (fun j => if j < pl then τ j else τ (j - 1)) := tv
            refine Z_go (f2 := (100, [(4, .int (Zi pl)), (3, .int (Zi pl)), (0, .ref o), (1, .ref tb), (2, .int (Zi ((X.length : Int))))], [.ref o])) (fun _ => rfl) ?_
            refine Z_go (f2 := (101, [(4, .int (Zi pl)), (3, .int (Zi pl)), (0, .ref o), (1, .ref tb), (2, .int (Zi ((X.length : Int))))], [.ref o, .ref o])) (fun _ => rfl) ?_
            refine C_gi rfl hs tk (by decide) (Nat.le_of_ble_eq_true rfl) rfl ?_
            rw [show C_F (u) o 2 = (m : Int) from (by first | exact tn | exact (if_neg (fun e => absurd e.1 (by assumption))).trans tn)]
            show B_R _ _ (104, [(4, .int (Zi pl)), (3, .int (Zi pl)), (0, .ref o), (1, .ref tb), (2, .int (Zi ((X.length : Int))))], [.int (Zi ((m : Int))), .ref o]) _ _ _
            refine Z_go (f2 := (105, [(4, .int (Zi pl)), (3, .int (Zi pl)), (0, .ref o), (1, .ref tb), (2, .int (Zi ((X.length : Int))))], [.int (Zi 1), .int (Zi ((m : Int))), .ref o])) (fun _ => rfl) ?_
            refine Z_iadd rfl ?_
            refine C_pi rfl hs tk (by decide) (Nat.le_of_ble_eq_true rfl) (.inl rfl) rfl rfl rfl (by first | exact hs.zF _ _ | exact Zor_r _ _ | exact hs.zA _ _ | assumption | exact zA _ _ | exact zS _ | exact Zr_not (hs.zA _ _) | exact hs.1.1 _ _ | exact ⟨by omega, by omega⟩) (fun h hs => ?_)
            refine Z_go (f2 := (110, [(4, .int (Zi pl)), (3, .int (Zi pl)), (0, .ref o), (1, .ref tb), (2, .int (Zi ((X.length : Int))))], [.ref o])) (fun _ => rfl) ?_
            refine Z_go (f2 := (111, [(4, .int (Zi pl)), (3, .int (Zi pl)), (0, .ref o), (1, .ref tb), (2, .int (Zi ((X.length : Int))))], [.int (Zi pl), .ref o])) (fun _ => rfl) ?_
            refine Z_go (f2 := (112, [(4, .int (Zi pl)), (3, .int (Zi pl)), (0, .ref o), (1, .ref tb), (2, .int (Zi ((X.length : Int))))], [.ref tb, .int (Zi pl), .ref o])) (fun _ => rfl) ?_
            refine Z_go (f2 := (113, [(4, .int (Zi pl)), (3, .int (Zi pl)), (0, .ref o), (1, .ref tb), (2, .int (Zi ((X.length : Int))))], [.int (Zi ((X.length : Int))), .ref tb, .int (Zi pl), .ref o])) (fun _ => rfl) ?_
            refine C_callV (As := [.int (Zi pl), .ref tb, .int (Zi ((X.length : Int)))]) (rest := []) rfl (by decide) rfl (by decide) rfl rfl (by decide +kernel) (Nat.le_of_ble_eq_true rfl) hs tk (C_write _ ht5 hx5 (i := pl) (by omega) (by omega) (by omega)) (fun x h v n2 hs q => ?_)
            obtain ⟨rfl, rfl, x1, x2, x3, x4, x5, x6, x7⟩ := q
            show B_R _ _ (116, [(4, .int (Zi pl)), (3, .int (Zi pl)), (0, .ref o), (1, .ref tb), (2, .int (Zi ((X.length : Int))))], []) _ _ _
            refine Z_go (f2 := (117, [(4, .int (Zi pl)), (3, .int (Zi pl)), (0, .ref o), (1, .ref tb), (2, .int (Zi ((X.length : Int))))], [.int (Zi 1)])) (fun _ => rfl) ?_
            refine Z_iret rfl rfl (by first | rfl | decide | exact narrow_b01 (by omega)) ⟨_, hs, ?_⟩
            try dsimp only
            refine ⟨rfl, x1.trans en, (fr.sF tt).tr x2, 1, rfl, .inl ⟨rfl, m + 1, (fun j => if j = pl then X else if j < pl then τ j else τ (j - 1)), ⟨x3, ?_⟩, ?_, ?_⟩⟩
            · have hw := tv5.wr (i := pl) (X := X) (u := v) (fun j hj => ⟨hj.2.1, by have := hj.2.2; omega⟩) p0 (by omega) (by omega) xb (fun j b j0 j1 hb => (hne.2.2.2 j b j0 j1 hb).1) g2 x4 x5 x6 x7
              refine hw.weak (fun j hj => ⟨?_, rfl⟩)
              have hj : 0 ≤ j ∧ j < ((m + 1 : Nat) : Int) := hj
              by_cases e : j = pl
              · exact .inl e
              · exact .inr ⟨e, hj.1, by omega⟩
            · intro a b a0 ab b1
              have b1 : b < ((m + 1 : Nat) : Int) := b1
              dsimp only
              by_cases e1 : a = pl
              · rw [if_pos e1, if_neg (by omega), if_neg (by omega)]
                by_cases e2 : b - 1 = pl
                · rw [e2]; exact hbig (by omega)
                · exact L_lt_trans (hbig (by omega)) (so pl (b - 1) p0 (by omega) (by omega))
              · rw [if_neg e1]
                by_cases e2 : b = pl
                · rw [if_pos e2, if_pos (by omega)]
                  exact hl a a0 (by omega)
                · rw [if_neg e2]
                  by_cases e3 : a < pl
                  · rw [if_pos e3]
                    by_cases e4 : b < pl
                    · rw [if_pos e4]; exact so a b a0 ab (by omega)
                    · rw [if_neg e4]
                      by_cases e5 : a = b - 1
                      · omega
                      · exact so a (b - 1) a0 (by omega) (by omega)
                  · rw [if_neg e3, if_neg (by omega)]
                    exact so (a - 1) (b - 1) (by omega) (by omega) (by omega)
            · intro y
              rw [F_li_mem, F_li_mem]
              constructor
              · rintro ⟨j, j0, j1, e⟩
                try dsimp only at e
                by_cases e1 : j = pl
                · rw [if_pos e1] at e; exact .inr e.symm
                · rw [if_neg e1] at e
                  by_cases e2 : j < pl
                  · rw [if_pos e2] at e; exact .inl ⟨j, j0, by omega, e⟩
                  · rw [if_neg e2] at e; exact .inl ⟨j - 1, by omega, by omega, e⟩
              · rintro (⟨j, j0, j1, e⟩ | e)
                · by_cases e2 : j < pl
                  · exact ⟨j, j0, by omega, by rw [if_neg (by omega), if_pos e2]; exact e⟩
                  · exact ⟨j + 1, by omega, by omega, by rw [if_neg (by omega), if_neg (by omega), show j + 1 - 1 = j by omega]; exact e⟩
                · exact ⟨pl, p0, by omega, by rw [if_pos rfl]; exact e.symm⟩
          · refine Z_go (f2 := (72, [(3, .int (Zi pl)), (0, .ref o), (1, .ref tb), (2, .int (Zi ((X.length : Int))))], [.int (Zi 0)])) (fun _ => rfl) ?_
            refine Z_iret rfl rfl (by first | rfl | decide | exact narrow_b01 (by omega)) ⟨_, hs, ?_⟩
            try dsimp only
            first
            | (exfalso; omega)
            | exact ⟨rfl, rfl, C_fr.refl _ _, 0, rfl, .inr ⟨rfl, ht0, hnot (fun c => by omega), by omega⟩⟩
  · refine Z_go (f2 := (35, [(3, .int (Zi pl)), (0, .ref o), (1, .ref tb), (2, .int (Zi ((X.length : Int))))], [.ref o])) (fun _ => rfl) ?_
    refine Z_go (f2 := (36, [(3, .int (Zi pl)), (0, .ref o), (1, .ref tb), (2, .int (Zi ((X.length : Int))))], [.int (Zi pl), .ref o])) (fun _ => rfl) ?_
    refine Z_go (f2 := (37, [(3, .int (Zi pl)), (0, .ref o), (1, .ref tb), (2, .int (Zi ((X.length : Int))))], [.ref tb, .int (Zi pl), .ref o])) (fun _ => rfl) ?_
    refine Z_go (f2 := (38, [(3, .int (Zi pl)), (0, .ref o), (1, .ref tb), (2, .int (Zi ((X.length : Int))))], [.int (Zi ((X.length : Int))), .ref tb, .int (Zi pl), .ref o])) (fun _ => rfl) ?_
    refine C_callVR (As := [.int (Zi pl), .ref tb, .int (Zi ((X.length : Int)))]) (rest := []) rfl (by decide) rfl (by decide) rfl rfl (by decide +kernel) (Nat.le_of_ble_eq_true rfl) hs tk (C_cmp _ ht0 hx0 (i := pl) (by omega) (by omega) hX) (fun x q => ?_)
    obtain ⟨zc86, rfl, zr86, zs86, hc86⟩ := q
    show B_R _ _ (41, [(3, .int (Zi pl)), (0, .ref o), (1, .ref tb), (2, .int (Zi ((X.length : Int))))], [.int (Zi zc86)]) _ _ _
    refine Z_ine rfl rfl (by first | exact hs.zF _ _ | exact Zor_r _ _ | exact hs.zA _ _ | assumption | exact zA _ _ | exact zS _ | exact Zr_not (hs.zA _ _) | exact hs.1.1 _ _ | exact ⟨by omega, by omega⟩) (fun c6 => ?_) (fun c6 => ?_)
    · refine Z_go (f2 := (47, [(3, .int (Zi pl)), (0, .ref o), (1, .ref tb), (2, .int (Zi ((X.length : Int))))], [.ref o])) (fun _ => rfl) ?_
      refine C_gi rfl hs tk (by decide) (Nat.le_of_ble_eq_true rfl) rfl ?_
      rw [show C_F (s) o 2 = (m : Int) from (by first | exact tn | exact (if_neg (fun e => absurd e.1 (by assumption))).trans tn)]
      show B_R _ _ (50, [(3, .int (Zi pl)), (0, .ref o), (1, .ref tb), (2, .int (Zi ((X.length : Int))))], [.int (Zi ((m : Int)))]) _ _ _
      refine Z_go (f2 := (52, [(3, .int (Zi pl)), (0, .ref o), (1, .ref tb), (2, .int (Zi ((X.length : Int))))], [.int (Zi 8), .int (Zi ((m : Int)))])) (fun _ => rfl) ?_
      refine Z_cge rfl rfl (by first | exact hs.zF _ _ | exact Zor_r _ _ | exact hs.zA _ _ | assumption | exact zA _ _ | exact zS _ | exact Zr_not (hs.zA _ _) | exact hs.1.1 _ _ | exact ⟨by omega, by omega⟩) (by first | exact hs.zF _ _ | exact Zor_r _ _ | exact hs.zA _ _ | assumption | exact zA _ _ | exact zS _ | exact Zr_not (hs.zA _ _) | exact hs.1.1 _ _ | exact ⟨by omega, by omega⟩) (fun c7 => ?_) (fun c7 => ?_)
      · refine Z_go (f2 := (72, [(3, .int (Zi pl)), (0, .ref o), (1, .ref tb), (2, .int (Zi ((X.length : Int))))], [.int (Zi 0)])) (fun _ => rfl) ?_
        refine Z_iret rfl rfl (by first | rfl | decide | exact narrow_b01 (by omega)) ⟨_, hs, ?_⟩
        try dsimp only
        first
        | (exfalso; omega)
        | exact ⟨rfl, rfl, C_fr.refl _ _, 0, rfl, .inr ⟨rfl, ht0, hnot (fun c => by rcases hc86 with e | e | e; exact absurd e.2 (hg c); omega; exact e.2), by omega⟩⟩
      · refine Z_go (f2 := (56, [(3, .int (Zi pl)), (0, .ref o), (1, .ref tb), (2, .int (Zi ((X.length : Int))))], [.int (Zi ((X.length : Int)))])) (fun _ => rfl) ?_
        refine Z_ilt rfl rfl (by first | exact hs.zF _ _ | exact Zor_r _ _ | exact hs.zA _ _ | assumption | exact zA _ _ | exact zS _ | exact Zr_not (hs.zA _ _) | exact hs.1.1 _ _ | exact ⟨by omega, by omega⟩) (fun c8 => ?_) (fun c8 => ?_)
        · refine Z_go (f2 := (72, [(3, .int (Zi pl)), (0, .ref o), (1, .ref tb), (2, .int (Zi ((X.length : Int))))], [.int (Zi 0)])) (fun _ => rfl) ?_
          refine Z_iret rfl rfl (by first | rfl | decide | exact narrow_b01 (by omega)) ⟨_, hs, ?_⟩
          try dsimp only
          first
          | (exfalso; omega)
          | exact ⟨rfl, rfl, C_fr.refl _ _, 0, rfl, .inr ⟨rfl, ht0, hnot (fun c => by rcases hc86 with e | e | e; exact absurd e.2 (hg c); omega; exact e.2), by omega⟩⟩
        · refine Z_go (f2 := (60, [(3, .int (Zi pl)), (0, .ref o), (1, .ref tb), (2, .int (Zi ((X.length : Int))))], [.int (Zi ((X.length : Int)))])) (fun _ => rfl) ?_
          refine Z_go (f2 := (62, [(3, .int (Zi pl)), (0, .ref o), (1, .ref tb), (2, .int (Zi ((X.length : Int))))], [.int (Zi 60), .int (Zi ((X.length : Int)))])) (fun _ => rfl) ?_
          refine Z_cgt rfl rfl (by first | exact hs.zF _ _ | exact Zor_r _ _ | exact hs.zA _ _ | assumption | exact zA _ _ | exact zS _ | exact Zr_not (hs.zA _ _) | exact hs.1.1 _ _ | exact ⟨by omega, by omega⟩) (by first | exact hs.zF _ _ | exact Zor_r _ _ | exact hs.zA _ _ | assumption | exact zA _ _ | exact zS _ | exact Zr_not (hs.zA _ _) | exact hs.1.1 _ _ | exact ⟨by omega, by omega⟩) (fun c9 => ?_) (fun c9 => ?_)
          · refine Z_go (f2 := (72, [(3, .int (Zi pl)), (0, .ref o), (1, .ref tb), (2, .int (Zi ((X.length : Int))))], [.int (Zi 0)])) (fun _ => rfl) ?_
            refine Z_iret rfl rfl (by first | rfl | decide | exact narrow_b01 (by omega)) ⟨_, hs, ?_⟩
            try dsimp only
            first
            | (exfalso; omega)
            | exact ⟨rfl, rfl, C_fr.refl _ _, 0, rfl, .inr ⟨rfl, ht0, hnot (fun c => by rcases hc86 with e | e | e; exact absurd e.2 (hg c); omega; exact e.2), by omega⟩⟩
          · refine Z_go (f2 := (66, [(3, .int (Zi pl)), (0, .ref o), (1, .ref tb), (2, .int (Zi ((X.length : Int))))], [.int (Zi ((X.length : Int)))])) (fun _ => rfl) ?_
            refine Z_go (f2 := (67, [(3, .int (Zi pl)), (0, .ref o), (1, .ref tb), (2, .int (Zi ((X.length : Int))))], [.ref tb, .int (Zi ((X.length : Int)))])) (fun _ => rfl) ?_
            refine C_al rfl hs xk (by decide) ?_
            show B_R _ _ (68, [(3, .int (Zi pl)), (0, .ref o), (1, .ref tb), (2, .int (Zi ((X.length : Int))))], [.int (Zi ((N : Int))), .int (Zi ((X.length : Int)))]) _ _ _
            refine Z_cle rfl rfl (by first | exact hs.zF _ _ | exact Zor_r _ _ | exact hs.zA _ _ | assumption | exact zA _ _ | exact zS _ | exact Zr_not (hs.zA _ _) | exact hs.1.1 _ _ | exact ⟨by omega, by omega⟩) (by first | exact hs.zF _ _ | exact Zor_r _ _ | exact hs.zA _ _ | assumption | exact zA _ _ | exact zS _ | exact Zr_not (hs.zA _ _) | exact hs.1.1 _ _ | exact ⟨by omega, by omega⟩) (fun c10 => ?_) (fun c10 => ?_)
            · refine Z_go (f2 := (74, [(3, .int (Zi pl)), (0, .ref o), (1, .ref tb), (2, .int (Zi ((X.length : Int))))], [.ref o])) (fun _ => rfl) ?_
              refine C_gi rfl hs tk (by decide) (Nat.le_of_ble_eq_true rfl) rfl ?_
              rw [show C_F (s) o 2 = (m : Int) from (by first | exact tn | exact (if_neg (fun e => absurd e.1 (by assumption))).trans tn)]
              show B_R _ _ (77, [(3, .int (Zi pl)), (0, .ref o), (1, .ref tb), (2, .int (Zi ((X.length : Int))))], [.int (Zi ((m : Int)))]) _ _ _
              refine Z_go (f2 := (79, [(4, .int (Zi ((m : Int)))), (3, .int (Zi pl)), (0, .ref o), (1, .ref tb), (2, .int (Zi ((X.length : Int))))], [])) (fun _ => rfl) ?_
              refine B_loc (K := [(4, .int (Zi ((m : Int)))), (3, .int (Zi pl)), (0, .ref o), (1, .ref tb), (2, .int (Zi ((X.length : Int))))]) (N_all_sub ⟨rfl, rfl, rfl, rfl, rfl, trivial⟩) (show ([4, 3, 0, 1, 2] : List Nat).Nodup by decide) ?_
              have hbig : pl < m → L_lt X (τ pl) := fun c => by rcases hc86 with e | e | e; exact absurd e.2 (hg c); omega; exact e.2
              refine C_put2 (N := N) p0 p1 (by omega) hX (fun u h hs en fr t0 tv => ?_) (m + 1) m s h (by omega) hs rfl (C_fr.refl _ _) ht0.1 (ht0.2.weak (fun j hj => ⟨⟨hj.2.1, by have := hj.1; have := hj.2.2; omega⟩, by rw [if_pos (by have := hj.1; have := hj.2.2; omega)]⟩)) (by omega) (by omega)
              have hx1 := hx0.fr w fr nt
              have hx5 : D_by (C_sF u o 2 (m + 1)) tb N X := hx1
              have wu := hs.1
              have t9 := t0
              obtain ⟨⟨tk, tt, tp, tq, rk, rt, lk, lt, tn, tl⟩, g1, g2⟩ := t0
              have hne := t9.ne
              have ht5 : D_T0 (C_sF u o 2 (m + 1)) p o ra la (m + 1) := ⟨⟨tk, tt, tp, tq, rk, rt, lk, lt, (if_pos ⟨rfl, rfl⟩).trans (by omega), by omega⟩, g1, g2⟩
              have tv5 : D_tv (C_sF u o 2 (m + 1)) ra la (fun j => j ≠ pl ∧ 0 ≤ j ∧ j ≤ m) (fun j => if j < pl then τ j else τ (j - 1)) := tv
              refine Z_go (f2 := (100, [(4, .int (Zi pl)), (3, .int (Zi pl)), (0, .ref o), (1, .ref tb), (2, .int (Zi ((X.length : Int))))], [.ref o])) (fun _ => rfl) ?_
              refine Z_go (f2 := (101, [(4, .int (Zi pl)), (3, .int (Zi pl)), (0, .ref o), (1, .ref tb), (2, .int (Zi ((X.length : Int))))], [.ref o, .ref o])) (fun _ => rfl) ?_
              refine C_gi rfl hs tk (by decide) (Nat.le_of_ble_eq_true rfl) rfl ?_
              rw [show C_F (u) o 2 = (m : Int) from (by first | exact tn | exact (if_neg (fun e => absurd e.1 (by assumption))).trans tn)]
              show B_R _ _ (104, [(4, .int (Zi pl)), (3, .int (Zi pl)), (0, .ref o), (1, .ref tb), (2, .int (Zi ((X.length : Int))))], [.int (Zi ((m : Int))), .ref o]) _ _ _
              refine Z_go (f2 := (105, [(4, .int (Zi pl)), (3, .int (Zi pl)), (0, .ref o), (1, .ref tb), (2, .int (Zi ((X.length : Int))))], [.int (Zi 1), .int (Zi ((m : Int))), .ref o])) (fun _ => rfl) ?_
              refine Z_iadd rfl ?_
              refine C_pi rfl hs tk (by decide) (Nat.le_of_ble_eq_true rfl) (.inl rfl) rfl rfl rfl (by first | exact hs.zF _ _ | exact Zor_r _ _ | exact hs.zA _ _ | assumption | exact zA _ _ | exact zS _ | exact Zr_not (hs.zA _ _) | exact hs.1.1 _ _ | exact ⟨by omega, by omega⟩) (fun h hs => ?_)
              refine Z_go (f2 := (110, [(4, .int (Zi pl)), (3, .int (Zi pl)), (0, .ref o), (1, .ref tb), (2, .int (Zi ((X.length : Int))))], [.ref o])) (fun _ => rfl) ?_
              refine Z_go (f2 := (111, [(4, .int (Zi pl)), (3, .int (Zi pl)), (0, .ref o), (1, .ref tb), (2, .int (Zi ((X.length : Int))))], [.int (Zi pl), .ref o])) (fun _ => rfl) ?_
              refine Z_go (f2 := (112, [(4, .int (Zi pl)), (3, .int (Zi pl)), (0, .ref o), (1, .ref tb), (2, .int (Zi ((X.length : Int))))], [.ref tb, .int (Zi pl), .ref o])) (fun _ => rfl) ?_
              refine Z_go (f2 := (113, [(4, .int (Zi pl)), (3, .int (Zi pl)), (0, .ref o), (1, .ref tb), (2, .int (Zi ((X.length : Int))))], [.int (Zi ((X.length : Int))), .ref tb, .int (Zi pl), .ref o])) (fun _ => rfl) ?_
              refine C_callV (As := [.int (Zi pl), .ref tb, .int (Zi ((X.length : Int)))]) (rest := []) rfl (by decide) rfl (by decide) rfl rfl (by decide +kernel) (Nat.le_of_ble_eq_true rfl) hs tk (C_write _ ht5 hx5 (i := pl) (by omega) (by omega) (by omega)) (fun x h v n2 hs q => ?_)
              obtain ⟨rfl, rfl, x1, x2, x3, x4, x5, x6, x7⟩ := q
              show B_R _ _ (116, [(4, .int (Zi pl)), (3, .int (Zi pl)), (0, .ref o), (1, .ref tb), (2, .int (Zi ((X.length : Int))))], []) _ _ _
              refine Z_go (f2 := (117, [(4, .int (Zi pl)), (3, .int (Zi pl)), (0, .ref o), (1, .ref tb), (2, .int (Zi ((X.length : Int))))], [.int (Zi 1)])) (fun _ => rfl) ?_
              refine Z_iret rfl rfl (by first | rfl | decide | exact narrow_b01 (by omega)) ⟨_, hs, ?_⟩
              try dsimp only
              refine ⟨rfl, x1.trans en, (fr.sF tt).tr x2, 1, rfl, .inl ⟨rfl, m + 1, (fun j => if j = pl then X else if j < pl then τ j else τ (j - 1)), ⟨x3, ?_⟩, ?_, ?_⟩⟩
              · have hw := tv5.wr (i := pl) (X := X) (u := v) (fun j hj => ⟨hj.2.1, by have := hj.2.2; omega⟩) p0 (by omega) (by omega) xb (fun j b j0 j1 hb => (hne.2.2.2 j b j0 j1 hb).1) g2 x4 x5 x6 x7
                refine hw.weak (fun j hj => ⟨?_, rfl⟩)
                have hj : 0 ≤ j ∧ j < ((m + 1 : Nat) : Int) := hj
                by_cases e : j = pl
                · exact .inl e
                · exact .inr ⟨e, hj.1, by omega⟩
              · intro a b a0 ab b1
                have b1 : b < ((m + 1 : Nat) : Int) := b1
                dsimp only
                by_cases e1 : a = pl
                · rw [if_pos e1, if_neg (by omega), if_neg (by omega)]
                  by_cases e2 : b - 1 = pl
                  · rw [e2]; exact hbig (by omega)
                  · exact L_lt_trans (hbig (by omega)) (so pl (b - 1) p0 (by omega) (by omega))
                · rw [if_neg e1]
                  by_cases e2 : b = pl
                  · rw [if_pos e2, if_pos (by omega)]
                    exact hl a a0 (by omega)
                  · rw [if_neg e2]
                    by_cases e3 : a < pl
                    · rw [if_pos e3]
                      by_cases e4 : b < pl
                      · rw [if_pos e4]; exact so a b a0 ab (by omega)
                      · rw [if_neg e4]
                        by_cases e5 : a = b - 1
                        · omega
                        · exact so a (b - 1) a0 (by omega) (by omega)
                    · rw [if_neg e3, if_neg (by omega)]
                      exact so (a - 1) (b - 1) (by omega) (by omega) (by omega)
              · intro y
                rw [F_li_mem, F_li_mem]
                constructor
                · rintro ⟨j, j0, j1, e⟩
                  try dsimp only at e
                  by_cases e1 : j = pl
                  · rw [if_pos e1] at e; exact .inr e.symm
                  · rw [if_neg e1] at e
                    by_cases e2 : j < pl
                    · rw [if_pos e2] at e; exact .inl ⟨j, j0, by omega, e⟩
                    · rw [if_neg e2] at e; exact .inl ⟨j - 1, by omega, by omega, e⟩
                · rintro (⟨j, j0, j1, e⟩ | e)
                  · by_cases e2 : j < pl
                    · exact ⟨j, j0, by omega, by rw [if_neg (by omega), if_pos e2]; exact e⟩
                    · exact ⟨j + 1, by omega, by omega, by rw [if_neg (by omega), if_neg (by omega), show j + 1 - 1 = j by omega]; exact e⟩
                  · exact ⟨pl, p0, by omega, by rw [if_pos rfl]; exact e.symm⟩
            · refine Z_go (f2 := (72, [(3, .int (Zi pl)), (0, .ref o), (1, .ref tb), (2, .int (Zi ((X.length : Int))))], [.int (Zi 0)])) (fun _ => rfl) ?_
              refine Z_iret rfl rfl (by first | rfl | decide | exact narrow_b01 (by omega)) ⟨_, hs, ?_⟩
              try dsimp only
              first
              | (exfalso; omega)
              | exact ⟨rfl, rfl, C_fr.refl _ _, 0, rfl, .inr ⟨rfl, ht0, hnot (fun c => by rcases hc86 with e | e | e; exact absurd e.2 (hg c); omega; exact e.2), by omega⟩⟩
    · refine Z_go (f2 := (45, [(3, .int (Zi pl)), (0, .ref o), (1, .ref tb), (2, .int (Zi ((X.length : Int))))], [.int (Zi 1)])) (fun _ => rfl) ?_
      refine Z_iret rfl rfl (by first | rfl | decide | exact narrow_b01 (by omega)) ⟨_, hs, ?_⟩
      try dsimp only
      have hc : τ pl = X := by rcases hc86 with e | e | e; omega; exact e.2; omega
      exact ⟨rfl, rfl, C_fr.refl _ _, 1, rfl, .inl ⟨rfl, m, τ, ht0, so, fun y => ⟨.inl, fun e => e.elim id (fun e => F_li_mem.mpr ⟨pl, p0, by omega, by rw [e]; exact hc⟩)⟩⟩⟩
