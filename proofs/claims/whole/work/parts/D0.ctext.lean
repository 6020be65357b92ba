/-! the class: byteOf, pick, store; Texts: its shape, what it tells -/
theorem Zi_i2b (z : Int) : (Zi z).toInt8.toInt32 = Zi ((z + 128) % 256 - 128) := by
  apply Int32.toInt_inj.mp
  rw [Int8.toInt_toInt32, Int32.toInt_toInt8, Zi_bmod, Zi_to (by omega) (by omega)]
  unfold Int.bmod
  simp only [show ((4294967296 : Nat) : Int) = 4294967296 from rfl, show ((2 ^ 8 : Nat) : Int) = 256 from rfl]
  split <;> split <;> omega
theorem Z_i2b {d : Nat} {M : E_MI} {h : E_H} {sl pc a b : Nat} {L : E_L} {st : List Value} {Φ : E_R → Prop} {z : Int} (hf : E_find M.2.2.2.2.2.2.2 pc = some (.i2b, 1, a, b)) (k : B_R d M (pc + 1, L, .int (Zi ((z + 128) % 256 - 128)) :: st) h sl Φ) : B_R d M (pc, L, .int (Zi z) :: st) h sl Φ := by
  refine Z_go (f2 := (pc + 1, L, .int (Zi ((z + 128) % 256 - 128)) :: st)) (fun o => ?_) k
  unfold E_step
  rw [hf, ← Zi_i2b]
  rfl
/-- a row of bytes tb of n places begins with the bytes X -/
def D_by (s : C_S) (tb n : Nat) (X : List Int) : Prop := C_K s tb = (1, n) ∧ X.length ≤ n ∧ (∀ x ∈ X, 0 ≤ x ∧ x < 256) ∧ ∀ k : Int, 0 ≤ k → k < X.length → C_A s tb k % 256 = L_at X k
theorem C_byteOf (d : Nat) {s : C_S} {o k : Nat} {i : Int} (ok : C_K s o = (1, k)) (zi : Zr i) : C_rd (d + 1) 163 [.ref o, .int (Zi i)] s (fun x => x = some (.int (Zi (if 0 ≤ i ∧ i < k then C_A s o i % 256 else -1)))) := by
  refine C_enterR (M := E_m163) rfl (Nat.le_of_ble_eq_true rfl) (fun h0 h hs => ?_)
  show B_R (d + 0) _ (0, [(0, .ref o), (1, .int (Zi i))], []) _ _ _
  have zk := (hs.len (by decide) ok).1
  refine Z_go (f2 := (1, [(0, .ref o), (1, .int (Zi i))], [.int (Zi i)])) (fun _ => rfl) ?_
  refine Z_ilt rfl rfl (by first | exact hs.zF _ _ | exact Zor_r _ _ | exact hs.zA _ _ | assumption | exact zA _ _ | exact zS _ | exact Zr_not (hs.zA _ _) | exact hs.1.1 _ _ | exact ⟨by omega, by omega⟩) (fun c1 => ?_) (fun c1 => ?_)
  · refine Z_go (f2 := (21, [(0, .ref o), (1, .int (Zi i))], [.int (Zi (-1))])) (fun _ => rfl) ?_
    refine Z_iret rfl rfl (by first | rfl | decide | exact narrow_b01 (by omega)) ⟨rfl, rfl, ?_⟩
    try dsimp only
    rw [if_neg (by omega)]
  · refine Z_go (f2 := (5, [(0, .ref o), (1, .int (Zi i))], [.int (Zi i)])) (fun _ => rfl) ?_
    refine Z_go (f2 := (6, [(0, .ref o), (1, .int (Zi i))], [.ref o, .int (Zi i)])) (fun _ => rfl) ?_
    refine C_al rfl hs ok (by decide) ?_
    show B_R _ _ (7, [(0, .ref o), (1, .int (Zi i))], [.int (Zi ((k : Int))), .int (Zi i)]) _ _ _
    refine Z_cge rfl rfl (by first | exact hs.zF _ _ | exact Zor_r _ _ | exact hs.zA _ _ | assumption | exact zA _ _ | exact zS _ | exact Zr_not (hs.zA _ _) | exact hs.1.1 _ _ | exact ⟨by omega, by omega⟩) (by first | exact hs.zF _ _ | exact Zor_r _ _ | exact hs.zA _ _ | assumption | exact zA _ _ | exact zS _ | exact Zr_not (hs.zA _ _) | exact hs.1.1 _ _ | exact ⟨by omega, by omega⟩) (fun c2 => ?_) (fun c2 => ?_)
    · refine Z_go (f2 := (21, [(0, .ref o), (1, .int (Zi i))], [.int (Zi (-1))])) (fun _ => rfl) ?_
      refine Z_iret rfl rfl (by first | rfl | decide | exact narrow_b01 (by omega)) ⟨rfl, rfl, ?_⟩
      try dsimp only
      rw [if_neg (by omega)]
    · refine Z_go (f2 := (11, [(0, .ref o), (1, .int (Zi i))], [.ref o])) (fun _ => rfl) ?_
      refine Z_go (f2 := (12, [(0, .ref o), (1, .int (Zi i))], [.int (Zi i), .ref o])) (fun _ => rfl) ?_
      refine C_ba rfl hs ok (by omega) (by omega) ?_
      show B_R _ _ (13, [(0, .ref o), (1, .int (Zi i))], [.int (Zi (C_A s o i))]) _ _ _
      refine Z_go (f2 := (16, [(0, .ref o), (1, .int (Zi i))], [.int (Zi 255), .int (Zi (C_A s o i))])) (fun _ => rfl) ?_
      refine Z_and255 rfl ?_
      refine Z_go (f2 := (21, [(0, .ref o), (1, .int (Zi i))], [.int (Zi ((C_A s o i) % 256))])) (fun _ => rfl) ?_
      refine Z_iret rfl rfl (by first | rfl | decide | exact narrow_b01 (by omega)) ⟨rfl, rfl, ?_⟩
      try dsimp only
      rw [if_pos ⟨by omega, by omega⟩]
theorem C_pick (d : Nat) {s : C_S} {o k : Nat} {i : Int} (ok : C_K s o = (0, k)) (zi : Zr i) : C_rd (d + 1) 164 [.ref o, .int (Zi i)] s (fun x => x = some (.int (Zi (if 0 ≤ i ∧ i < k then C_A s o i else -1)))) := by
  refine C_enterR (M := E_m164) rfl (Nat.le_of_ble_eq_true rfl) (fun h0 h hs => ?_)
  show B_R (d + 0) _ (0, [(0, .ref o), (1, .int (Zi i))], []) _ _ _
  have zk := (hs.len (by decide) ok).1
  refine Z_go (f2 := (1, [(0, .ref o), (1, .int (Zi i))], [.int (Zi i)])) (fun _ => rfl) ?_
  refine Z_ilt rfl rfl (by first | exact hs.zF _ _ | exact Zor_r _ _ | exact hs.zA _ _ | assumption | exact zA _ _ | exact zS _ | exact Zr_not (hs.zA _ _) | exact hs.1.1 _ _ | exact ⟨by omega, by omega⟩) (fun c1 => ?_) (fun c1 => ?_)
  · refine Z_go (f2 := (17, [(0, .ref o), (1, .int (Zi i))], [.int (Zi (-1))])) (fun _ => rfl) ?_
    refine Z_iret rfl rfl (by first | rfl | decide | exact narrow_b01 (by omega)) ⟨rfl, rfl, ?_⟩
    try dsimp only
    rw [if_neg (by omega)]
  · refine Z_go (f2 := (5, [(0, .ref o), (1, .int (Zi i))], [.int (Zi i)])) (fun _ => rfl) ?_
    refine Z_go (f2 := (6, [(0, .ref o), (1, .int (Zi i))], [.ref o, .int (Zi i)])) (fun _ => rfl) ?_
    refine C_al rfl hs ok (by decide) ?_
    show B_R _ _ (7, [(0, .ref o), (1, .int (Zi i))], [.int (Zi ((k : Int))), .int (Zi i)]) _ _ _
    refine Z_cge rfl rfl (by first | exact hs.zF _ _ | exact Zor_r _ _ | exact hs.zA _ _ | assumption | exact zA _ _ | exact zS _ | exact Zr_not (hs.zA _ _) | exact hs.1.1 _ _ | exact ⟨by omega, by omega⟩) (by first | exact hs.zF _ _ | exact Zor_r _ _ | exact hs.zA _ _ | assumption | exact zA _ _ | exact zS _ | exact Zr_not (hs.zA _ _) | exact hs.1.1 _ _ | exact ⟨by omega, by omega⟩) (fun c2 => ?_) (fun c2 => ?_)
    · refine Z_go (f2 := (17, [(0, .ref o), (1, .int (Zi i))], [.int (Zi (-1))])) (fun _ => rfl) ?_
      refine Z_iret rfl rfl (by first | rfl | decide | exact narrow_b01 (by omega)) ⟨rfl, rfl, ?_⟩
      try dsimp only
      rw [if_neg (by omega)]
    · refine Z_go (f2 := (11, [(0, .ref o), (1, .int (Zi i))], [.ref o])) (fun _ => rfl) ?_
      refine Z_go (f2 := (12, [(0, .ref o), (1, .int (Zi i))], [.int (Zi i), .ref o])) (fun _ => rfl) ?_
      refine C_ia rfl hs ok (by omega) (by omega) ?_
      show B_R _ _ (13, [(0, .ref o), (1, .int (Zi i))], [.int (Zi (C_A s o i))]) _ _ _
      refine Z_go (f2 := (17, [(0, .ref o), (1, .int (Zi i))], [.int (Zi (C_A s o i))])) (fun _ => rfl) ?_
      refine Z_iret rfl rfl (by first | rfl | decide | exact narrow_b01 (by omega)) ⟨rfl, rfl, ?_⟩
      try dsimp only
      rw [if_pos ⟨by omega, by omega⟩]
theorem C_store (d : Nat) {s : C_S} {o k : Nat} {i v : Int} (ok : C_K s o = (0, k)) (zi : Zr i) (zv : Zr v) : C_ok (d + 1) 165 [.ref o, .int (Zi i), .int (Zi v)] s (fun x s2 n => x = none ∧ n = 0 ∧ s2 = (if 0 ≤ i ∧ i < k then C_sA s o i v else s)) := by
  refine C_enter (M := E_m165) rfl (Nat.le_of_ble_eq_true rfl) (fun h0 h hs => ?_)
  show B_R (d + 0) _ (0, [(0, .ref o), (1, .int (Zi i)), (2, .int (Zi v))], []) _ _ _
  have zk := (hs.len (by decide) ok).1
  refine Z_go (f2 := (1, [(0, .ref o), (1, .int (Zi i)), (2, .int (Zi v))], [.int (Zi i)])) (fun _ => rfl) ?_
  refine Z_ilt rfl rfl (by first | exact hs.zF _ _ | exact Zor_r _ _ | exact hs.zA _ _ | assumption | exact zA _ _ | exact zS _ | exact Zr_not (hs.zA _ _) | exact hs.1.1 _ _ | exact ⟨by omega, by omega⟩) (fun c1 => ?_) (fun c1 => ?_)
  · refine Z_ret rfl rfl ⟨_, hs, ?_⟩
    try dsimp only
    refine ⟨rfl, rfl, ?_⟩
    rw [if_neg (by omega)]
  · refine Z_go (f2 := (5, [(0, .ref o), (1, .int (Zi i)), (2, .int (Zi v))], [.int (Zi i)])) (fun _ => rfl) ?_
    refine Z_go (f2 := (6, [(0, .ref o), (1, .int (Zi i)), (2, .int (Zi v))], [.ref o, .int (Zi i)])) (fun _ => rfl) ?_
    refine C_al rfl hs ok (by decide) ?_
    show B_R _ _ (7, [(0, .ref o), (1, .int (Zi i)), (2, .int (Zi v))], [.int (Zi ((k : Int))), .int (Zi i)]) _ _ _
    refine Z_cge rfl rfl (by first | exact hs.zF _ _ | exact Zor_r _ _ | exact hs.zA _ _ | assumption | exact zA _ _ | exact zS _ | exact Zr_not (hs.zA _ _) | exact hs.1.1 _ _ | exact ⟨by omega, by omega⟩) (by first | exact hs.zF _ _ | exact Zor_r _ _ | exact hs.zA _ _ | assumption | exact zA _ _ | exact zS _ | exact Zr_not (hs.zA _ _) | exact hs.1.1 _ _ | exact ⟨by omega, by omega⟩) (fun c2 => ?_) (fun c2 => ?_)
    · refine Z_ret rfl rfl ⟨_, hs, ?_⟩
      try dsimp only
      refine ⟨rfl, rfl, ?_⟩
      rw [if_neg (by omega)]
    · refine Z_go (f2 := (11, [(0, .ref o), (1, .int (Zi i)), (2, .int (Zi v))], [.ref o])) (fun _ => rfl) ?_
      refine Z_go (f2 := (12, [(0, .ref o), (1, .int (Zi i)), (2, .int (Zi v))], [.int (Zi i), .ref o])) (fun _ => rfl) ?_
      refine Z_go (f2 := (13, [(0, .ref o), (1, .int (Zi i)), (2, .int (Zi v))], [.int (Zi v), .int (Zi i), .ref o])) (fun _ => rfl) ?_
      refine C_is_ rfl hs ok (by omega) (by omega) (by first | exact hs.zF _ _ | exact Zor_r _ _ | exact hs.zA _ _ | assumption | exact zA _ _ | exact zS _ | exact Zr_not (hs.zA _ _) | exact hs.1.1 _ _ | exact ⟨by omega, by omega⟩) (fun h hs => ?_)
      refine Z_ret rfl rfl ⟨_, hs, ?_⟩
      try dsimp only
      refine ⟨rfl, rfl, ?_⟩
      rw [if_pos ⟨by omega, by omega⟩]
/-- a Texts at o, its shape: eight rows of sixty bytes, their lengths -/
def D_T0 (s : C_S) (p : List Nat) (o ra la m : Nat) : Prop := (C_K s o = (17, 0) ∧ C_T s o = p ∧ C_P s o 0 = some ra ∧ C_P s o 1 = some la ∧ C_K s ra = (7, 8) ∧ C_T s ra = p ∧ C_K s la = (0, 8) ∧ C_T s la = p ∧ C_F s o 2 = m ∧ m ≤ 8) ∧ (∀ i : Int, 0 ≤ i → i < 8 → ∃ b, C_Q s ra i = some b ∧ C_K s b = (1, 60) ∧ C_T s b = p) ∧ (∀ i j : Int, 0 ≤ i → i < 8 → 0 ≤ j → j < 8 → ∀ b, C_Q s ra i = some b → C_Q s ra j = some b → i = j)
/-- the rows in V tell τ -/
def D_tv (s : C_S) (ra la : Nat) (V : Int → Prop) (τ : Int → List Int) : Prop := ∀ i : Int, V i → C_A s la i = (τ i).length ∧ (τ i).length ≤ 60 ∧ (∀ x ∈ τ i, 0 ≤ x ∧ x < 256) ∧ ∀ b, C_Q s ra i = some b → ∀ k : Int, 0 ≤ k → k < (τ i).length → C_A s b k % 256 = L_at (τ i) k
def T_V (m : Nat) : Int → Prop := fun i => 0 ≤ i ∧ i < m
/-- a Texts with m texts -/
def D_Tx (s : C_S) (p : List Nat) (o ra la m : Nat) (τ : Int → List Int) : Prop := D_T0 s p o ra la m ∧ D_tv s ra la (T_V m) τ
theorem D_T0.fr {X : List Nat → Prop} {s s2 : C_S} {p : List Nat} {o ra la m : Nat} (h : D_T0 s p o ra la m) (w : C_wf s) (k : C_fr X s s2) (hX : ¬ X p) : D_T0 s2 p o ra la m := by
  obtain ⟨⟨h1, h2, h3, h4, h5, h6, h7, h8, h9, h10⟩, g1, g2⟩ := h
  have lo := C_lt w h1 (show 17 < 20 by decide)
  have lr := C_lt w h5 (show 7 < 20 by decide)
  have ll := C_lt w h7 (show 0 < 20 by decide)
  obtain ⟨ef1, ef2, ef3, ef4, ef5⟩ := k.2.2.1 o lo (by rw [h2]; exact hX)
  obtain ⟨eq1, eq2, eq3, eq4, eq5⟩ := k.2.2.1 ra lr (by rw [h6]; exact hX)
  have ko := k.2.1 o lo
  have kr := k.2.1 ra lr
  have kl := k.2.1 la ll
  refine ⟨⟨by rw [ko.1]; exact h1, by rw [ko.2]; exact h2, by rw [ef2]; exact h3, by rw [ef2]; exact h4, by rw [kr.1]; exact h5, by rw [kr.2]; exact h6, by rw [kl.1]; exact h7, by rw [kl.2]; exact h8, by rw [ef1]; exact h9, h10⟩, fun i i0 i1 => ?_, fun i j i0 i1 j0 j1 b q1 q2 => ?_⟩
  · obtain ⟨b, b1, b2, b3⟩ := g1 i i0 i1
    have kb := k.2.1 b (C_lt w b2 (show 1 < 20 by decide))
    exact ⟨b, by rw [eq5]; exact b1, by rw [kb.1]; exact b2, by rw [kb.2]; exact b3⟩
  · rw [eq5] at q1 q2
    exact g2 i j i0 i1 j0 j1 b q1 q2
theorem D_tv.fr {X : List Nat → Prop} {s s2 : C_S} {p : List Nat} {o ra la m : Nat} {V : Int → Prop} {τ : Int → List Int} (g : D_tv s ra la V τ) (hV : ∀ i, V i → 0 ≤ i ∧ i < 8) (h : D_T0 s p o ra la m) (w : C_wf s) (k : C_fr X s s2) (hX : ¬ X p) : D_tv s2 ra la V τ := by
  obtain ⟨⟨h1, h2, h3, h4, h5, h6, h7, h8, h9, h10⟩, g1, g2⟩ := h
  have lr := C_lt w h5 (show 7 < 20 by decide)
  have ll := C_lt w h7 (show 0 < 20 by decide)
  obtain ⟨eq1, eq2, eq3, eq4, eq5⟩ := k.2.2.1 ra lr (by rw [h6]; exact hX)
  obtain ⟨el1, el2, el3, el4, el5⟩ := k.2.2.1 la ll (by rw [h8]; exact hX)
  intro i hi
  obtain ⟨a1, a2, a3, a4⟩ := g i hi
  refine ⟨by rw [el3]; exact a1, a2, a3, fun b hb k0 k1 k2 => ?_⟩
  rw [eq5] at hb
  obtain ⟨b', b1, b2, b3⟩ := g1 i (hV i hi).1 (hV i hi).2
  have : b' = b := Option.some.inj (b1.symm.trans hb)
  subst this
  obtain ⟨x1, x2, x3, x4, x5⟩ := k.2.2.1 b' (C_lt w b2 (show 1 < 20 by decide)) (by rw [b3]; exact hX)
  rw [x3]
  exact a4 b' hb k0 k1 k2
theorem D_Tx.fr {X : List Nat → Prop} {s s2 : C_S} {p : List Nat} {o ra la m : Nat} {τ : Int → List Int} (h : D_Tx s p o ra la m τ) (w : C_wf s) (k : C_fr X s s2) (hX : ¬ X p) : D_Tx s2 p o ra la m τ := ⟨h.1.fr w k hX, h.2.fr (fun i hi => ⟨hi.1, by have := h.1.1.2.2.2.2.2.2.2.2.2; have := hi.2; omega⟩) h.1 w k hX⟩
theorem D_by.fr {X : List Nat → Prop} {s s2 : C_S} {tb n : Nat} {Y : List Int} (h : D_by s tb n Y) (w : C_wf s) (k : C_fr X s s2) (hX : ¬ X (C_T s tb)) : D_by s2 tb n Y := by
  obtain ⟨h1, h2, h3, h4⟩ := h
  have l := C_lt w h1 (show 1 < 20 by decide)
  obtain ⟨x1, x2, x3, x4, x5⟩ := k.2.2.1 tb l hX
  exact ⟨by rw [(k.2.1 tb l).1]; exact h1, h2, h3, fun j j0 j1 => by rw [x3]; exact h4 j j0 j1⟩
theorem C_tclear (d : Nat) {s : C_S} {p : List Nat} {o ra la m : Nat} {τ : Int → List Int} (ht : D_Tx s p o ra la m τ) : C_ok (d + 1) 109 [.ref o] s (fun x s2 n => x = none ∧ n = 0 ∧ D_Tx s2 p o ra la 0 τ ∧ C_fr (fun t => t = p) s s2 ∧ C_n s2 = C_n s) := by
  refine C_enter (M := E_m109) rfl (Nat.le_of_ble_eq_true rfl) (fun h0 h hs => ?_)
  show B_R (d + 0) _ (0, [(0, .ref o)], []) _ _ _
  have ht0 := ht
  have w := hs.1
  obtain ⟨⟨⟨tk, tt, tp, tq, rk, rt, lk, lt, tn, tl⟩, g1, g2⟩, g3⟩ := ht
  refine Z_go (f2 := (1, [(0, .ref o)], [.ref o])) (fun _ => rfl) ?_
  refine Z_go (f2 := (2, [(0, .ref o)], [.int (Zi 0), .ref o])) (fun _ => rfl) ?_
  refine C_pi rfl hs tk (by decide) (Nat.le_of_ble_eq_true rfl) (.inl rfl) rfl rfl rfl (by first | exact hs.zF _ _ | exact Zor_r _ _ | exact hs.zA _ _ | assumption | exact zA _ _ | exact zS _ | exact Zr_not (hs.zA _ _) | exact hs.1.1 _ _ | exact ⟨by omega, by omega⟩) (fun h hs => ?_)
  refine Z_ret rfl rfl ⟨_, hs, ?_⟩
  try dsimp only
  exact ⟨rfl, rfl, ⟨⟨⟨tk, tt, tp, tq, rk, rt, lk, lt, if_pos ⟨rfl, rfl⟩, by omega⟩, g1, g2⟩, fun i hi => absurd hi.2 (by have := hi.1; show ¬ i < ((0 : Nat) : Int); omega)⟩, (C_fr.refl _ _).sF tt, rfl⟩
theorem C_lenOf (d : Nat) {s : C_S} {p : List Nat} {o ra la m : Nat} {τ : Int → List Int} {i : Int} (ht : D_Tx s p o ra la m τ) (zi : Zr i) : C_rd (d + 1) 110 [.ref o, .int (Zi i)] s (fun x => x = some (.int (Zi (if 0 ≤ i ∧ i < m then ((τ i).length : Int) else 0)))) := by
  refine C_enterR (M := E_m110) rfl (Nat.le_of_ble_eq_true rfl) (fun h0 h hs => ?_)
  show B_R (d + 0) _ (0, [(0, .ref o), (1, .int (Zi i))], []) _ _ _
  have ht0 := ht
  have w := hs.1
  obtain ⟨⟨⟨tk, tt, tp, tq, rk, rt, lk, lt, tn, tl⟩, g1, g2⟩, g3⟩ := ht
  refine Z_go (f2 := (1, [(0, .ref o), (1, .int (Zi i))], [.int (Zi i)])) (fun _ => rfl) ?_
  refine Z_ilt rfl rfl (by first | exact hs.zF _ _ | exact Zor_r _ _ | exact hs.zA _ _ | assumption | exact zA _ _ | exact zS _ | exact Zr_not (hs.zA _ _) | exact hs.1.1 _ _ | exact ⟨by omega, by omega⟩) (fun c1 => ?_) (fun c1 => ?_)
  · refine Z_go (f2 := (31, [(0, .ref o), (1, .int (Zi i))], [.int (Zi 0)])) (fun _ => rfl) ?_
    refine Z_iret rfl rfl (by first | rfl | decide | exact narrow_b01 (by omega)) ⟨rfl, rfl, ?_⟩
    try dsimp only
    first
    | (exfalso; omega)
    | rw [if_neg (by omega)]
  · refine Z_go (f2 := (5, [(0, .ref o), (1, .int (Zi i))], [.int (Zi i)])) (fun _ => rfl) ?_
    refine Z_go (f2 := (6, [(0, .ref o), (1, .int (Zi i))], [.ref o, .int (Zi i)])) (fun _ => rfl) ?_
    refine C_gi rfl hs tk (by decide) (Nat.le_of_ble_eq_true rfl) rfl ?_
    rw [show C_F (s) o 2 = (m : Int) from (by first | exact tn | exact (if_neg (fun e => absurd e.1 (by assumption))).trans tn)]
    show B_R _ _ (9, [(0, .ref o), (1, .int (Zi i))], [.int (Zi ((m : Int))), .int (Zi i)]) _ _ _
    refine Z_cge rfl rfl (by first | exact hs.zF _ _ | exact Zor_r _ _ | exact hs.zA _ _ | assumption | exact zA _ _ | exact zS _ | exact Zr_not (hs.zA _ _) | exact hs.1.1 _ _ | exact ⟨by omega, by omega⟩) (by first | exact hs.zF _ _ | exact Zor_r _ _ | exact hs.zA _ _ | assumption | exact zA _ _ | exact zS _ | exact Zr_not (hs.zA _ _) | exact hs.1.1 _ _ | exact ⟨by omega, by omega⟩) (fun c2 => ?_) (fun c2 => ?_)
    · refine Z_go (f2 := (31, [(0, .ref o), (1, .int (Zi i))], [.int (Zi 0)])) (fun _ => rfl) ?_
      refine Z_iret rfl rfl (by first | rfl | decide | exact narrow_b01 (by omega)) ⟨rfl, rfl, ?_⟩
      try dsimp only
      first
      | (exfalso; omega)
      | rw [if_neg (by omega)]
    · refine Z_go (f2 := (13, [(0, .ref o), (1, .int (Zi i))], [.int (Zi i)])) (fun _ => rfl) ?_
      refine Z_go (f2 := (14, [(0, .ref o), (1, .int (Zi i))], [.ref o, .int (Zi i)])) (fun _ => rfl) ?_
      refine C_gr rfl hs tk (by decide) (Nat.le_of_ble_eq_true rfl) rfl tq ?_
      refine C_al rfl hs lk (by decide) ?_
      show B_R _ _ (18, [(0, .ref o), (1, .int (Zi i))], [.int (Zi 8), .int (Zi i)]) _ _ _
      refine Z_cge rfl rfl (by first | exact hs.zF _ _ | exact Zor_r _ _ | exact hs.zA _ _ | assumption | exact zA _ _ | exact zS _ | exact Zr_not (hs.zA _ _) | exact hs.1.1 _ _ | exact ⟨by omega, by omega⟩) (by first | exact hs.zF _ _ | exact Zor_r _ _ | exact hs.zA _ _ | assumption | exact zA _ _ | exact zS _ | exact Zr_not (hs.zA _ _) | exact hs.1.1 _ _ | exact ⟨by omega, by omega⟩) (fun c3 => ?_) (fun c3 => ?_)
      · refine Z_go (f2 := (31, [(0, .ref o), (1, .int (Zi i))], [.int (Zi 0)])) (fun _ => rfl) ?_
        refine Z_iret rfl rfl (by first | rfl | decide | exact narrow_b01 (by omega)) ⟨rfl, rfl, ?_⟩
        try dsimp only
        first
        | (exfalso; omega)
        | rw [if_neg (by omega)]
      · refine Z_go (f2 := (22, [(0, .ref o), (1, .int (Zi i))], [.ref o])) (fun _ => rfl) ?_
        refine C_gr rfl hs tk (by decide) (Nat.le_of_ble_eq_true rfl) rfl tq ?_
        refine Z_go (f2 := (26, [(0, .ref o), (1, .int (Zi i))], [.int (Zi i), .ref la])) (fun _ => rfl) ?_
        refine C_ia rfl hs lk (by omega) (by omega) ?_
        show B_R _ _ (27, [(0, .ref o), (1, .int (Zi i))], [.int (Zi (C_A s la i))]) _ _ _
        refine Z_go (f2 := (31, [(0, .ref o), (1, .int (Zi i))], [.int (Zi (C_A s la i))])) (fun _ => rfl) ?_
        refine Z_iret rfl rfl (by first | rfl | decide | exact narrow_b01 (by omega)) ⟨rfl, rfl, ?_⟩
        try dsimp only
        rw [if_pos ⟨by omega, by omega⟩, ← (g3 i ⟨by omega, by omega⟩).1]
theorem C_signAt (d : Nat) {s : C_S} {p : List Nat} {o ra la m : Nat} {τ : Int → List Int} {i k : Int} (ht : D_Tx s p o ra la m τ) (zi : Zr i) (zk : Zr k) : C_rd (d + 2) 111 [.ref o, .int (Zi i), .int (Zi k)] s (fun x => x = some (.int (Zi (if 0 ≤ i ∧ i < m then L_at (τ i) k else -1)))) := by
  refine C_enterR (M := E_m111) rfl (Nat.le_of_ble_eq_true rfl) (fun h0 h hs => ?_)
  show B_R (d + 1) _ (0, [(0, .ref o), (1, .int (Zi i)), (2, .int (Zi k))], []) _ _ _
  have ht0 := ht
  have w := hs.1
  obtain ⟨⟨⟨tk, tt, tp, tq, rk, rt, lk, lt, tn, tl⟩, g1, g2⟩, g3⟩ := ht
  by_cases hi : 0 ≤ i ∧ i < m
  · obtain ⟨b, hb, bk, bt⟩ := g1 i hi.1 (by omega)
    obtain ⟨e1, e2, e3, e4⟩ := g3 i hi
    rw [if_pos hi]
    refine Z_go (f2 := (1, [(0, .ref o), (1, .int (Zi i)), (2, .int (Zi k))], [.int (Zi i)])) (fun _ => rfl) ?_
    refine Z_ilt rfl rfl (by first | exact hs.zF _ _ | exact Zor_r _ _ | exact hs.zA _ _ | assumption | exact zA _ _ | exact zS _ | exact Zr_not (hs.zA _ _) | exact hs.1.1 _ _ | exact ⟨by omega, by omega⟩) (fun c1 => ?_) (fun c1 => ?_)
    · refine Z_go (f2 := (36, [(0, .ref o), (1, .int (Zi i)), (2, .int (Zi k))], [.int (Zi (-1))])) (fun _ => rfl) ?_
      refine Z_iret rfl rfl (by first | rfl | decide | exact narrow_b01 (by omega)) ⟨rfl, rfl, ?_⟩
      try dsimp only
      first
      | (exfalso; omega)
      | rw [L_at_out (by omega)]
    · refine Z_go (f2 := (5, [(0, .ref o), (1, .int (Zi i)), (2, .int (Zi k))], [.int (Zi i)])) (fun _ => rfl) ?_
      refine Z_go (f2 := (6, [(0, .ref o), (1, .int (Zi i)), (2, .int (Zi k))], [.ref o, .int (Zi i)])) (fun _ => rfl) ?_
      refine C_gr rfl hs tk (by decide) (Nat.le_of_ble_eq_true rfl) rfl tp ?_
      refine C_al rfl hs rk (by decide) ?_
      show B_R _ _ (10, [(0, .ref o), (1, .int (Zi i)), (2, .int (Zi k))], [.int (Zi 8), .int (Zi i)]) _ _ _
      refine Z_cge rfl rfl (by first | exact hs.zF _ _ | exact Zor_r _ _ | exact hs.zA _ _ | assumption | exact zA _ _ | exact zS _ | exact Zr_not (hs.zA _ _) | exact hs.1.1 _ _ | exact ⟨by omega, by omega⟩) (by first | exact hs.zF _ _ | exact Zor_r _ _ | exact hs.zA _ _ | assumption | exact zA _ _ | exact zS _ | exact Zr_not (hs.zA _ _) | exact hs.1.1 _ _ | exact ⟨by omega, by omega⟩) (fun c2 => ?_) (fun c2 => ?_)
      · refine Z_go (f2 := (36, [(0, .ref o), (1, .int (Zi i)), (2, .int (Zi k))], [.int (Zi (-1))])) (fun _ => rfl) ?_
        refine Z_iret rfl rfl (by first | rfl | decide | exact narrow_b01 (by omega)) ⟨rfl, rfl, ?_⟩
        try dsimp only
        first
        | (exfalso; omega)
        | rw [L_at_out (by omega)]
      · refine Z_go (f2 := (14, [(0, .ref o), (1, .int (Zi i)), (2, .int (Zi k))], [.int (Zi k)])) (fun _ => rfl) ?_
        refine Z_go (f2 := (15, [(0, .ref o), (1, .int (Zi i)), (2, .int (Zi k))], [.ref o, .int (Zi k)])) (fun _ => rfl) ?_
        refine Z_go (f2 := (16, [(0, .ref o), (1, .int (Zi i)), (2, .int (Zi k))], [.int (Zi i), .ref o, .int (Zi k)])) (fun _ => rfl) ?_
        refine C_callVR (As := [.int (Zi i)]) (rest := [.int (Zi k)]) rfl (by decide) rfl (by decide) rfl rfl (by decide +kernel) (Nat.le_of_ble_eq_true rfl) hs tk (C_lenOf _ ht0 (i := i) (by first | exact hs.zF _ _ | exact Zor_r _ _ | exact hs.zA _ _ | assumption | exact zA _ _ | exact zS _ | exact Zr_not (hs.zA _ _) | exact hs.1.1 _ _ | exact ⟨by omega, by omega⟩)) (fun x q => ?_)
        obtain ⟨ln77, eln77⟩ : ∃ z : Int, z = (if 0 ≤ i ∧ i < (m : Int) then ((τ i).length : Int) else 0) := ⟨_, rfl⟩
        rw [← eln77] at q
        obtain rfl := q
        have zln77 : 0 ≤ ln77 ∧ ln77 ≤ 60 := by rw [eln77]; split; exact ⟨by omega, by have := (g3 i ⟨by omega, by omega⟩).2.1; omega⟩; omega
        show B_R _ _ (19, [(0, .ref o), (1, .int (Zi i)), (2, .int (Zi k))], [.int (Zi ln77), .int (Zi k)]) _ _ _
        refine Z_cge rfl rfl (by first | exact hs.zF _ _ | exact Zor_r _ _ | exact hs.zA _ _ | assumption | exact zA _ _ | exact zS _ | exact Zr_not (hs.zA _ _) | exact hs.1.1 _ _ | exact ⟨by omega, by omega⟩) (by first | exact hs.zF _ _ | exact Zor_r _ _ | exact hs.zA _ _ | assumption | exact zA _ _ | exact zS _ | exact Zr_not (hs.zA _ _) | exact hs.1.1 _ _ | exact ⟨by omega, by omega⟩) (fun c3 => ?_) (fun c3 => ?_)
        · refine Z_go (f2 := (36, [(0, .ref o), (1, .int (Zi i)), (2, .int (Zi k))], [.int (Zi (-1))])) (fun _ => rfl) ?_
          refine Z_iret rfl rfl (by first | rfl | decide | exact narrow_b01 (by omega)) ⟨rfl, rfl, ?_⟩
          try dsimp only
          first
          | (exfalso; omega)
          | rw [L_at_out (by omega)]
        · refine Z_go (f2 := (23, [(0, .ref o), (1, .int (Zi i)), (2, .int (Zi k))], [.ref o])) (fun _ => rfl) ?_
          refine C_gr rfl hs tk (by decide) (Nat.le_of_ble_eq_true rfl) rfl tp ?_
          refine Z_go (f2 := (27, [(0, .ref o), (1, .int (Zi i)), (2, .int (Zi k))], [.int (Zi i), .ref ra])) (fun _ => rfl) ?_
          refine C_aq rfl hs rk (by decide) (by decide) (by omega) (by omega) hb ?_
          show B_R _ _ (28, [(0, .ref o), (1, .int (Zi i)), (2, .int (Zi k))], [.ref b]) _ _ _
          refine Z_go (f2 := (29, [(0, .ref o), (1, .int (Zi i)), (2, .int (Zi k))], [.int (Zi k), .ref b])) (fun _ => rfl) ?_
          refine C_callSR (vs := [.ref b, .int (Zi k)]) (rest := []) rfl (by decide) rfl rfl rfl (Nat.le_of_ble_eq_true rfl) hs (C_byteOf _ bk (i := k) (by first | exact hs.zF _ _ | exact Zor_r _ _ | exact hs.zA _ _ | assumption | exact zA _ _ | exact zS _ | exact Zr_not (hs.zA _ _) | exact hs.1.1 _ _ | exact ⟨by omega, by omega⟩)) (fun x q => ?_)
          obtain ⟨by78, eby78⟩ : ∃ z : Int, z = (if 0 ≤ k ∧ k < ((60 : Nat) : Int) then C_A s b k % 256 else -1) := ⟨_, rfl⟩
          rw [← eby78] at q
          obtain rfl := q
          have zby78 : -1 ≤ by78 ∧ by78 < 256 := by rw [eby78]; split <;> omega
          show B_R _ _ (32, [(0, .ref o), (1, .int (Zi i)), (2, .int (Zi k))], [.int (Zi by78)]) _ _ _
          refine Z_go (f2 := (36, [(0, .ref o), (1, .int (Zi i)), (2, .int (Zi k))], [.int (Zi by78)])) (fun _ => rfl) ?_
          refine Z_iret rfl rfl (by first | rfl | decide | exact narrow_b01 (by omega)) ⟨rfl, rfl, ?_⟩
          try dsimp only
          by_cases ck : 0 ≤ k
          · rw [← e4 b hb k ck (by omega), eby78, if_pos ⟨ck, by omega⟩]
          · rw [L_at_out (by omega), eby78, if_neg (by omega)]
  · rw [if_neg hi]
    refine Z_go (f2 := (1, [(0, .ref o), (1, .int (Zi i)), (2, .int (Zi k))], [.int (Zi i)])) (fun _ => rfl) ?_
    refine Z_ilt rfl rfl (by first | exact hs.zF _ _ | exact Zor_r _ _ | exact hs.zA _ _ | assumption | exact zA _ _ | exact zS _ | exact Zr_not (hs.zA _ _) | exact hs.1.1 _ _ | exact ⟨by omega, by omega⟩) (fun c1 => ?_) (fun c1 => ?_)
    · refine Z_go (f2 := (36, [(0, .ref o), (1, .int (Zi i)), (2, .int (Zi k))], [.int (Zi (-1))])) (fun _ => rfl) ?_
      refine Z_iret rfl rfl (by first | rfl | decide | exact narrow_b01 (by omega)) ⟨rfl, rfl, ?_⟩
      try dsimp only
      
    · refine Z_go (f2 := (5, [(0, .ref o), (1, .int (Zi i)), (2, .int (Zi k))], [.int (Zi i)])) (fun _ => rfl) ?_
      refine Z_go (f2 := (6, [(0, .ref o), (1, .int (Zi i)), (2, .int (Zi k))], [.ref o, .int (Zi i)])) (fun _ => rfl) ?_
      refine C_gr rfl hs tk (by decide) (Nat.le_of_ble_eq_true rfl) rfl tp ?_
      refine C_al rfl hs rk (by decide) ?_
      show B_R _ _ (10, [(0, .ref o), (1, .int (Zi i)), (2, .int (Zi k))], [.int (Zi 8), .int (Zi i)]) _ _ _
      refine Z_cge rfl rfl (by first | exact hs.zF _ _ | exact Zor_r _ _ | exact hs.zA _ _ | assumption | exact zA _ _ | exact zS _ | exact Zr_not (hs.zA _ _) | exact hs.1.1 _ _ | exact ⟨by omega, by omega⟩) (by first | exact hs.zF _ _ | exact Zor_r _ _ | exact hs.zA _ _ | assumption | exact zA _ _ | exact zS _ | exact Zr_not (hs.zA _ _) | exact hs.1.1 _ _ | exact ⟨by omega, by omega⟩) (fun c2 => ?_) (fun c2 => ?_)
      · refine Z_go (f2 := (36, [(0, .ref o), (1, .int (Zi i)), (2, .int (Zi k))], [.int (Zi (-1))])) (fun _ => rfl) ?_
        refine Z_iret rfl rfl (by first | rfl | decide | exact narrow_b01 (by omega)) ⟨rfl, rfl, ?_⟩
        try dsimp only
        
      · refine Z_go (f2 := (14, [(0, .ref o), (1, .int (Zi i)), (2, .int (Zi k))], [.int (Zi k)])) (fun _ => rfl) ?_
        refine Z_go (f2 := (15, [(0, .ref o), (1, .int (Zi i)), (2, .int (Zi k))], [.ref o, .int (Zi k)])) (fun _ => rfl) ?_
        refine Z_go (f2 := (16, [(0, .ref o), (1, .int (Zi i)), (2, .int (Zi k))], [.int (Zi i), .ref o, .int (Zi k)])) (fun _ => rfl) ?_
        refine C_callVR (As := [.int (Zi i)]) (rest := [.int (Zi k)]) rfl (by decide) rfl (by decide) rfl rfl (by decide +kernel) (Nat.le_of_ble_eq_true rfl) hs tk (C_lenOf _ ht0 (i := i) (by first | exact hs.zF _ _ | exact Zor_r _ _ | exact hs.zA _ _ | assumption | exact zA _ _ | exact zS _ | exact Zr_not (hs.zA _ _) | exact hs.1.1 _ _ | exact ⟨by omega, by omega⟩)) (fun x q => ?_)
        obtain ⟨ln79, eln79⟩ : ∃ z : Int, z = (if 0 ≤ i ∧ i < (m : Int) then ((τ i).length : Int) else 0) := ⟨_, rfl⟩
        rw [← eln79] at q
        obtain rfl := q
        have zln79 : 0 ≤ ln79 ∧ ln79 ≤ 60 := by rw [eln79]; split; exact ⟨by omega, by have := (g3 i ⟨by omega, by omega⟩).2.1; omega⟩; omega
        show B_R _ _ (19, [(0, .ref o), (1, .int (Zi i)), (2, .int (Zi k))], [.int (Zi ln79), .int (Zi k)]) _ _ _
        refine Z_cge rfl rfl (by first | exact hs.zF _ _ | exact Zor_r _ _ | exact hs.zA _ _ | assumption | exact zA _ _ | exact zS _ | exact Zr_not (hs.zA _ _) | exact hs.1.1 _ _ | exact ⟨by omega, by omega⟩) (by first | exact hs.zF _ _ | exact Zor_r _ _ | exact hs.zA _ _ | assumption | exact zA _ _ | exact zS _ | exact Zr_not (hs.zA _ _) | exact hs.1.1 _ _ | exact ⟨by omega, by omega⟩) (fun c3 => ?_) (fun c3 => ?_)
        · refine Z_go (f2 := (36, [(0, .ref o), (1, .int (Zi i)), (2, .int (Zi k))], [.int (Zi (-1))])) (fun _ => rfl) ?_
          refine Z_iret rfl rfl (by first | rfl | decide | exact narrow_b01 (by omega)) ⟨rfl, rfl, ?_⟩
          try dsimp only
          
        · obtain ⟨b, hb, bk, bt⟩ := g1 i (by omega) (by omega)
          refine Z_go (f2 := (23, [(0, .ref o), (1, .int (Zi i)), (2, .int (Zi k))], [.ref o])) (fun _ => rfl) ?_
          refine C_gr rfl hs tk (by decide) (Nat.le_of_ble_eq_true rfl) rfl tp ?_
          refine Z_go (f2 := (27, [(0, .ref o), (1, .int (Zi i)), (2, .int (Zi k))], [.int (Zi i), .ref ra])) (fun _ => rfl) ?_
          refine C_aq rfl hs rk (by decide) (by decide) (by omega) (by omega) hb ?_
          show B_R _ _ (28, [(0, .ref o), (1, .int (Zi i)), (2, .int (Zi k))], [.ref b]) _ _ _
          refine Z_go (f2 := (29, [(0, .ref o), (1, .int (Zi i)), (2, .int (Zi k))], [.int (Zi k), .ref b])) (fun _ => rfl) ?_
          refine C_callSR (vs := [.ref b, .int (Zi k)]) (rest := []) rfl (by decide) rfl rfl rfl (Nat.le_of_ble_eq_true rfl) hs (C_byteOf _ bk (i := k) (by first | exact hs.zF _ _ | exact Zor_r _ _ | exact hs.zA _ _ | assumption | exact zA _ _ | exact zS _ | exact Zr_not (hs.zA _ _) | exact hs.1.1 _ _ | exact ⟨by omega, by omega⟩)) (fun x q => ?_)
          obtain ⟨by80, eby80⟩ : ∃ z : Int, z = (if 0 ≤ k ∧ k < ((60 : Nat) : Int) then C_A s b k % 256 else -1) := ⟨_, rfl⟩
          rw [← eby80] at q
          obtain rfl := q
          have zby80 : -1 ≤ by80 ∧ by80 < 256 := by rw [eby80]; split <;> omega
          show B_R _ _ (32, [(0, .ref o), (1, .int (Zi i)), (2, .int (Zi k))], [.int (Zi by80)]) _ _ _
          refine Z_go (f2 := (36, [(0, .ref o), (1, .int (Zi i)), (2, .int (Zi k))], [.int (Zi by80)])) (fun _ => rfl) ?_
          refine Z_iret rfl rfl (by first | rfl | decide | exact narrow_b01 (by omega)) ⟨rfl, rfl, ?_⟩
          try dsimp only
          rw [if_neg hi] at eln79
          rw [eby80, if_neg (by omega)]
