/-! the class: Tree: its shape, what it tells, its nodes -/
def T_up (τ : Nat → Int → Int) (f : Nat) (i v : Int) : Nat → Int → Int := fun g j => if g = f ∧ j = i then v else τ g j
def T_st (τ : Nat → Int → Int) (f : Nat) (i v : Int) : Nat → Int → Int := if 0 ≤ i ∧ i < 168 then T_up τ f i v else τ
def T_g (τ : Nat → Int → Int) (f : Nat) (i : Int) : Int := if 0 ≤ i ∧ i < 168 then τ f i else -1
def T_gs (τ : Nat → Int → Int) (i : Int) : Int := if 0 < T_g τ 8 i then T_g τ 8 i else 0
/-- the tree at o -/
def D_Tr (s : C_S) (p : List Nat) (o : Nat) (A : Nat → Nat) (m sm : Int) (τ : Nat → Int → Int) (β : Int → Int64) : Prop := (C_K s o = (18, 0) ∧ C_T s o = p ∧ C_F s o 10 = m ∧ C_F s o 11 = sm ∧ 0 ≤ m ∧ m ≤ 168 ∧ 0 ≤ sm ∧ sm ≤ 80) ∧ (∀ f, f < 10 → C_P s o f = some (A f) ∧ C_T s (A f) = p ∧ C_K s (A f) = (if f < 9 then (0, 168) else (3, 320))) ∧ (∀ f g, f < 10 → g < 10 → A f = A g → f = g) ∧ (∀ f, f < 9 → C_A s (A f) = τ f) ∧ C_L s (A 9) = β
theorem D_Tr.fr {X : List Nat → Prop} {s s2 : C_S} {p : List Nat} {o : Nat} {A : Nat → Nat} {m sm : Int} {τ : Nat → Int → Int} {β : Int → Int64} (h : D_Tr s p o A m sm τ β) (w : C_wf s) (k : C_fr X s s2) (hX : ¬ X p) : D_Tr s2 p o A m sm τ β := by
  obtain ⟨⟨h1, h2, h3, h4, h5⟩, g1, g2, g3, g4⟩ := h
  have lo := C_lt w h1 (show 18 < 20 by decide)
  have la : ∀ f, f < 10 → A f < C_n s := fun f hf => C_lt w (g1 f hf).2.2 (by split <;> decide)
  obtain ⟨e1, e2, e3, e4, e5⟩ := k.2.2.1 o lo (by rw [h2]; exact hX)
  refine ⟨⟨by rw [(k.2.1 o lo).1]; exact h1, by rw [(k.2.1 o lo).2]; exact h2, by rw [e1]; exact h3, by rw [e1]; exact h4, h5⟩, fun f hf => ?_, g2, fun f hf => ?_, ?_⟩
  · obtain ⟨q1, q2, q3⟩ := g1 f hf
    exact ⟨by rw [e2]; exact q1, by rw [(k.2.1 _ (la f hf)).2]; exact q2, by rw [(k.2.1 _ (la f hf)).1]; exact q3⟩
  · rw [(k.2.2.1 _ (la f (by omega)) (by rw [(g1 f (by omega)).2.1]; exact hX)).2.2.1]
    exact g3 f hf
  · rw [(k.2.2.1 _ (la 9 (by omega)) (by rw [(g1 9 (by omega)).2.1]; exact hX)).2.2.2.1]
    exact g4
theorem D_Tr.set {s : C_S} {p : List Nat} {o : Nat} {A : Nat → Nat} {m sm : Int} {τ : Nat → Int → Int} {β : Int → Int64} (h : D_Tr s p o A m sm τ β) {f : Nat} (hf : f < 9) (i v : Int) : D_Tr (C_sA s (A f) i v) p o A m sm (T_up τ f i v) β := by
  obtain ⟨h1, g1, g2, g3, g4⟩ := h
  refine ⟨h1, g1, g2, fun g hg => ?_, g4⟩
  funext j
  show (if A g = A f ∧ j = i then v else C_A s (A g) j) = (if g = f ∧ j = i then v else τ g j)
  rw [g3 g hg]
  by_cases c : g = f
  · subst c
    by_cases c2 : j = i
    · rw [if_pos ⟨rfl, c2⟩, if_pos ⟨rfl, c2⟩]
    · rw [if_neg (fun e => c2 e.2), if_neg (fun e => c2 e.2)]
  · rw [if_neg (fun e => c (g2 g f (by omega) (by omega) e.1)), if_neg (fun e => c e.1)]
theorem D_Tr.setm {s : C_S} {p : List Nat} {o : Nat} {A : Nat → Nat} {m sm : Int} {τ : Nat → Int → Int} {β : Int → Int64} (h : D_Tr s p o A m sm τ β) {v : Int} (v0 : 0 ≤ v) (v1 : v ≤ 168) : D_Tr (C_sF s o 10 v) p o A v sm τ β := by
  obtain ⟨⟨h1, h2, h3, h4, h5, h6, h7⟩, g⟩ := h
  exact ⟨⟨h1, h2, if_pos ⟨rfl, rfl⟩, (if_neg (by omega)).trans h4, v0, v1, h7⟩, g⟩
theorem D_Tr.setn {s : C_S} {p : List Nat} {o : Nat} {A : Nat → Nat} {m sm : Int} {τ : Nat → Int → Int} {β : Int → Int64} (h : D_Tr s p o A m sm τ β) {v : Int} (v0 : 0 ≤ v) (v1 : v ≤ 80) : D_Tr (C_sF s o 11 v) p o A m v τ β := by
  obtain ⟨⟨h1, h2, h3, h4, h5, h6, h7⟩, g⟩ := h
  exact ⟨⟨h1, h2, (if_neg (by omega)).trans h3, if_pos ⟨rfl, rfl⟩, h5, h6, v0, v1⟩, g⟩
theorem D_Tr.setb {s : C_S} {p : List Nat} {o : Nat} {A : Nat → Nat} {m sm : Int} {τ : Nat → Int → Int} {β : Int → Int64} (h : D_Tr s p o A m sm τ β) (i : Int) (v : Int64) : D_Tr (C_sL s (A 9) i v) p o A m sm τ (fun j => if j = i then v else β j) := by
  obtain ⟨h1, g1, g2, g3, g4⟩ := h
  refine ⟨h1, g1, g2, g3, ?_⟩
  funext j
  show (if A 9 = A 9 ∧ j = i then v else C_L s (A 9) j) = (if j = i then v else β j)
  rw [g4]
  by_cases c2 : j = i
  · rw [if_pos ⟨rfl, c2⟩, if_pos c2]
  · rw [if_neg (fun e => c2 e.2), if_neg c2]
theorem T_g_zr {h0 h : E_H} {s : C_S} (hs : C_is h0 h s) {p : List Nat} {o : Nat} {A : Nat → Nat} {m sm : Int} {τ : Nat → Int → Int} {β : Int → Int64} (hd : D_Tr s p o A m sm τ β) {f : Nat} (hf : f < 9) (i : Int) : Zr (T_g τ f i) := by
  unfold T_g
  split
  · rw [← hd.2.2.2.1 f hf]; exact hs.zA _ _
  · exact ⟨by omega, by omega⟩
theorem C_pickT (d : Nat) {s : C_S} {p : List Nat} {o : Nat} {A : Nat → Nat} {m sm : Int} {τ : Nat → Int → Int} {β : Int → Int64} {f : Nat} {i : Int} (hd : D_Tr s p o A m sm τ β) (hf : f < 9) (zi : Zr i) : C_rd (d + 1) 164 [.ref (A f), .int (Zi i)] s (fun x => x = some (.int (Zi (T_g τ f i)))) := by
  have hk : C_K s (A f) = (0, 168) := by rw [(hd.2.1 f (by omega)).2.2, if_pos hf]
  have := C_pick d hk zi
  rw [hd.2.2.2.1 f hf] at this
  exact this
theorem C_storeT (d : Nat) {s : C_S} {p : List Nat} {o : Nat} {A : Nat → Nat} {m sm : Int} {τ : Nat → Int → Int} {β : Int → Int64} {f : Nat} {i v : Int} (hd : D_Tr s p o A m sm τ β) (hf : f < 9) (zi : Zr i) (zv : Zr v) : C_ok (d + 1) 165 [.ref (A f), .int (Zi i), .int (Zi v)] s (fun x s2 n => x = none ∧ n = 0 ∧ D_Tr s2 p o A m sm (T_st τ f i v) β ∧ C_fr (fun t => t = p) s s2 ∧ C_n s2 = C_n s) := by
  have hk : C_K s (A f) = (0, 168) := by rw [(hd.2.1 f (by omega)).2.2, if_pos hf]
  refine (C_store d hk zi zv).weak (fun x s2 n q => ?_)
  obtain ⟨rfl, rfl, rfl⟩ := q
  refine ⟨rfl, rfl, ?_⟩
  unfold T_st
  by_cases c : 0 ≤ i ∧ i < 168
  · rw [if_pos (show 0 ≤ i ∧ i < ((168 : Nat) : Int) from c), if_pos c]
    exact ⟨hd.set hf i v, (C_fr.refl _ _).sA (hd.2.1 f (by omega)).2.1, rfl⟩
  · rw [if_neg (show ¬ (0 ≤ i ∧ i < ((168 : Nat) : Int)) from c), if_neg c]
    exact ⟨hd, C_fr.refl _ _, rfl⟩
theorem C_t0 (d : Nat) {s : C_S} {p : List Nat} {o : Nat} {A : Nat → Nat} {m sm : Int} {τ : Nat → Int → Int} {β : Int → Int64} {i : Int} (hd : D_Tr s p o A m sm τ β) (zi : Zr i) : C_rd (d + 2) 126 [.ref o, .int (Zi i)] s (fun x => x = some (.int (Zi (T_g τ 0 i)))) := by
  refine C_enterR (M := E_m126) rfl (Nat.le_of_ble_eq_true rfl) (fun h0 h hs => ?_)
  show B_R (d + 1) _ (0, [(0, .ref o), (1, .int (Zi i))], []) _ _ _
  refine Z_go (f2 := (1, [(0, .ref o), (1, .int (Zi i))], [.ref o])) (fun _ => rfl) ?_
  refine C_gr rfl hs (hd).1.1 (by decide) (Nat.le_of_ble_eq_true rfl) rfl ((hd).2.1 0 (by decide)).1 ?_
  refine Z_go (f2 := (5, [(0, .ref o), (1, .int (Zi i))], [.int (Zi i), .ref (A 0)])) (fun _ => rfl) ?_
  refine C_callSR (vs := [.ref (A 0), .int (Zi i)]) (rest := []) rfl (by decide) rfl rfl rfl (Nat.le_of_ble_eq_true rfl) hs (C_pickT _ hd (f := 0) (by decide) (i := i) (by first | exact hs.zF _ _ | exact Zor_r _ _ | exact hs.zA _ _ | assumption | exact zA _ _ | exact zS _ | exact Zr_not (hs.zA _ _) | exact hs.1.1 _ _ | exact ⟨by omega, by omega⟩)) (fun x q => ?_)
  obtain rfl := q
  have ztg := T_g_zr hs hd (f := 0) (by decide) i
  show B_R _ _ (8, [(0, .ref o), (1, .int (Zi i))], [.int (Zi (T_g τ 0 i))]) _ _ _
  refine Z_iret rfl rfl (by first | rfl | decide | exact narrow_b01 (by omega)) ⟨rfl, rfl, ?_⟩
  try dsimp only
  try rfl
theorem C_t1 (d : Nat) {s : C_S} {p : List Nat} {o : Nat} {A : Nat → Nat} {m sm : Int} {τ : Nat → Int → Int} {β : Int → Int64} {i : Int} (hd : D_Tr s p o A m sm τ β) (zi : Zr i) : C_rd (d + 2) 127 [.ref o, .int (Zi i)] s (fun x => x = some (.int (Zi (T_g τ 1 i)))) := by
  refine C_enterR (M := E_m127) rfl (Nat.le_of_ble_eq_true rfl) (fun h0 h hs => ?_)
  show B_R (d + 1) _ (0, [(0, .ref o), (1, .int (Zi i))], []) _ _ _
  refine Z_go (f2 := (1, [(0, .ref o), (1, .int (Zi i))], [.ref o])) (fun _ => rfl) ?_
  refine C_gr rfl hs (hd).1.1 (by decide) (Nat.le_of_ble_eq_true rfl) rfl ((hd).2.1 1 (by decide)).1 ?_
  refine Z_go (f2 := (5, [(0, .ref o), (1, .int (Zi i))], [.int (Zi i), .ref (A 1)])) (fun _ => rfl) ?_
  refine C_callSR (vs := [.ref (A 1), .int (Zi i)]) (rest := []) rfl (by decide) rfl rfl rfl (Nat.le_of_ble_eq_true rfl) hs (C_pickT _ hd (f := 1) (by decide) (i := i) (by first | exact hs.zF _ _ | exact Zor_r _ _ | exact hs.zA _ _ | assumption | exact zA _ _ | exact zS _ | exact Zr_not (hs.zA _ _) | exact hs.1.1 _ _ | exact ⟨by omega, by omega⟩)) (fun x q => ?_)
  obtain rfl := q
  have ztg := T_g_zr hs hd (f := 1) (by decide) i
  show B_R _ _ (8, [(0, .ref o), (1, .int (Zi i))], [.int (Zi (T_g τ 1 i))]) _ _ _
  refine Z_iret rfl rfl (by first | rfl | decide | exact narrow_b01 (by omega)) ⟨rfl, rfl, ?_⟩
  try dsimp only
  try rfl
theorem C_t2 (d : Nat) {s : C_S} {p : List Nat} {o : Nat} {A : Nat → Nat} {m sm : Int} {τ : Nat → Int → Int} {β : Int → Int64} {i : Int} (hd : D_Tr s p o A m sm τ β) (zi : Zr i) : C_rd (d + 2) 128 [.ref o, .int (Zi i)] s (fun x => x = some (.int (Zi (T_g τ 2 i)))) := by
  refine C_enterR (M := E_m128) rfl (Nat.le_of_ble_eq_true rfl) (fun h0 h hs => ?_)
  show B_R (d + 1) _ (0, [(0, .ref o), (1, .int (Zi i))], []) _ _ _
  refine Z_go (f2 := (1, [(0, .ref o), (1, .int (Zi i))], [.ref o])) (fun _ => rfl) ?_
  refine C_gr rfl hs (hd).1.1 (by decide) (Nat.le_of_ble_eq_true rfl) rfl ((hd).2.1 2 (by decide)).1 ?_
  refine Z_go (f2 := (5, [(0, .ref o), (1, .int (Zi i))], [.int (Zi i), .ref (A 2)])) (fun _ => rfl) ?_
  refine C_callSR (vs := [.ref (A 2), .int (Zi i)]) (rest := []) rfl (by decide) rfl rfl rfl (Nat.le_of_ble_eq_true rfl) hs (C_pickT _ hd (f := 2) (by decide) (i := i) (by first | exact hs.zF _ _ | exact Zor_r _ _ | exact hs.zA _ _ | assumption | exact zA _ _ | exact zS _ | exact Zr_not (hs.zA _ _) | exact hs.1.1 _ _ | exact ⟨by omega, by omega⟩)) (fun x q => ?_)
  obtain rfl := q
  have ztg := T_g_zr hs hd (f := 2) (by decide) i
  show B_R _ _ (8, [(0, .ref o), (1, .int (Zi i))], [.int (Zi (T_g τ 2 i))]) _ _ _
  refine Z_iret rfl rfl (by first | rfl | decide | exact narrow_b01 (by omega)) ⟨rfl, rfl, ?_⟩
  try dsimp only
  try rfl
theorem C_t3 (d : Nat) {s : C_S} {p : List Nat} {o : Nat} {A : Nat → Nat} {m sm : Int} {τ : Nat → Int → Int} {β : Int → Int64} {i : Int} (hd : D_Tr s p o A m sm τ β) (zi : Zr i) : C_rd (d + 2) 129 [.ref o, .int (Zi i)] s (fun x => x = some (.int (Zi (T_g τ 3 i)))) := by
  refine C_enterR (M := E_m129) rfl (Nat.le_of_ble_eq_true rfl) (fun h0 h hs => ?_)
  show B_R (d + 1) _ (0, [(0, .ref o), (1, .int (Zi i))], []) _ _ _
  refine Z_go (f2 := (1, [(0, .ref o), (1, .int (Zi i))], [.ref o])) (fun _ => rfl) ?_
  refine C_gr rfl hs (hd).1.1 (by decide) (Nat.le_of_ble_eq_true rfl) rfl ((hd).2.1 3 (by decide)).1 ?_
  refine Z_go (f2 := (5, [(0, .ref o), (1, .int (Zi i))], [.int (Zi i), .ref (A 3)])) (fun _ => rfl) ?_
  refine C_callSR (vs := [.ref (A 3), .int (Zi i)]) (rest := []) rfl (by decide) rfl rfl rfl (Nat.le_of_ble_eq_true rfl) hs (C_pickT _ hd (f := 3) (by decide) (i := i) (by first | exact hs.zF _ _ | exact Zor_r _ _ | exact hs.zA _ _ | assumption | exact zA _ _ | exact zS _ | exact Zr_not (hs.zA _ _) | exact hs.1.1 _ _ | exact ⟨by omega, by omega⟩)) (fun x q => ?_)
  obtain rfl := q
  have ztg := T_g_zr hs hd (f := 3) (by decide) i
  show B_R _ _ (8, [(0, .ref o), (1, .int (Zi i))], [.int (Zi (T_g τ 3 i))]) _ _ _
  refine Z_iret rfl rfl (by first | rfl | decide | exact narrow_b01 (by omega)) ⟨rfl, rfl, ?_⟩
  try dsimp only
  try rfl
theorem C_t4 (d : Nat) {s : C_S} {p : List Nat} {o : Nat} {A : Nat → Nat} {m sm : Int} {τ : Nat → Int → Int} {β : Int → Int64} {i : Int} (hd : D_Tr s p o A m sm τ β) (zi : Zr i) : C_rd (d + 2) 130 [.ref o, .int (Zi i)] s (fun x => x = some (.int (Zi (T_g τ 4 i)))) := by
  refine C_enterR (M := E_m130) rfl (Nat.le_of_ble_eq_true rfl) (fun h0 h hs => ?_)
  show B_R (d + 1) _ (0, [(0, .ref o), (1, .int (Zi i))], []) _ _ _
  refine Z_go (f2 := (1, [(0, .ref o), (1, .int (Zi i))], [.ref o])) (fun _ => rfl) ?_
  refine C_gr rfl hs (hd).1.1 (by decide) (Nat.le_of_ble_eq_true rfl) rfl ((hd).2.1 4 (by decide)).1 ?_
  refine Z_go (f2 := (5, [(0, .ref o), (1, .int (Zi i))], [.int (Zi i), .ref (A 4)])) (fun _ => rfl) ?_
  refine C_callSR (vs := [.ref (A 4), .int (Zi i)]) (rest := []) rfl (by decide) rfl rfl rfl (Nat.le_of_ble_eq_true rfl) hs (C_pickT _ hd (f := 4) (by decide) (i := i) (by first | exact hs.zF _ _ | exact Zor_r _ _ | exact hs.zA _ _ | assumption | exact zA _ _ | exact zS _ | exact Zr_not (hs.zA _ _) | exact hs.1.1 _ _ | exact ⟨by omega, by omega⟩)) (fun x q => ?_)
  obtain rfl := q
  have ztg := T_g_zr hs hd (f := 4) (by decide) i
  show B_R _ _ (8, [(0, .ref o), (1, .int (Zi i))], [.int (Zi (T_g τ 4 i))]) _ _ _
  refine Z_iret rfl rfl (by first | rfl | decide | exact narrow_b01 (by omega)) ⟨rfl, rfl, ?_⟩
  try dsimp only
  try rfl
theorem C_t5 (d : Nat) {s : C_S} {p : List Nat} {o : Nat} {A : Nat → Nat} {m sm : Int} {τ : Nat → Int → Int} {β : Int → Int64} {i : Int} (hd : D_Tr s p o A m sm τ β) (zi : Zr i) : C_rd (d + 2) 131 [.ref o, .int (Zi i)] s (fun x => x = some (.int (Zi (T_g τ 5 i)))) := by
  refine C_enterR (M := E_m131) rfl (Nat.le_of_ble_eq_true rfl) (fun h0 h hs => ?_)
  show B_R (d + 1) _ (0, [(0, .ref o), (1, .int (Zi i))], []) _ _ _
  refine Z_go (f2 := (1, [(0, .ref o), (1, .int (Zi i))], [.ref o])) (fun _ => rfl) ?_
  refine C_gr rfl hs (hd).1.1 (by decide) (Nat.le_of_ble_eq_true rfl) rfl ((hd).2.1 5 (by decide)).1 ?_
  refine Z_go (f2 := (5, [(0, .ref o), (1, .int (Zi i))], [.int (Zi i), .ref (A 5)])) (fun _ => rfl) ?_
  refine C_callSR (vs := [.ref (A 5), .int (Zi i)]) (rest := []) rfl (by decide) rfl rfl rfl (Nat.le_of_ble_eq_true rfl) hs (C_pickT _ hd (f := 5) (by decide) (i := i) (by first | exact hs.zF _ _ | exact Zor_r _ _ | exact hs.zA _ _ | assumption | exact zA _ _ | exact zS _ | exact Zr_not (hs.zA _ _) | exact hs.1.1 _ _ | exact ⟨by omega, by omega⟩)) (fun x q => ?_)
  obtain rfl := q
  have ztg := T_g_zr hs hd (f := 5) (by decide) i
  show B_R _ _ (8, [(0, .ref o), (1, .int (Zi i))], [.int (Zi (T_g τ 5 i))]) _ _ _
  refine Z_iret rfl rfl (by first | rfl | decide | exact narrow_b01 (by omega)) ⟨rfl, rfl, ?_⟩
  try dsimp only
  try rfl
theorem C_t6 (d : Nat) {s : C_S} {p : List Nat} {o : Nat} {A : Nat → Nat} {m sm : Int} {τ : Nat → Int → Int} {β : Int → Int64} {i : Int} (hd : D_Tr s p o A m sm τ β) (zi : Zr i) : C_rd (d + 2) 132 [.ref o, .int (Zi i)] s (fun x => x = some (.int (Zi (T_g τ 6 i)))) := by
  refine C_enterR (M := E_m132) rfl (Nat.le_of_ble_eq_true rfl) (fun h0 h hs => ?_)
  show B_R (d + 1) _ (0, [(0, .ref o), (1, .int (Zi i))], []) _ _ _
  refine Z_go (f2 := (1, [(0, .ref o), (1, .int (Zi i))], [.ref o])) (fun _ => rfl) ?_
  refine C_gr rfl hs (hd).1.1 (by decide) (Nat.le_of_ble_eq_true rfl) rfl ((hd).2.1 6 (by decide)).1 ?_
  refine Z_go (f2 := (5, [(0, .ref o), (1, .int (Zi i))], [.int (Zi i), .ref (A 6)])) (fun _ => rfl) ?_
  refine C_callSR (vs := [.ref (A 6), .int (Zi i)]) (rest := []) rfl (by decide) rfl rfl rfl (Nat.le_of_ble_eq_true rfl) hs (C_pickT _ hd (f := 6) (by decide) (i := i) (by first | exact hs.zF _ _ | exact Zor_r _ _ | exact hs.zA _ _ | assumption | exact zA _ _ | exact zS _ | exact Zr_not (hs.zA _ _) | exact hs.1.1 _ _ | exact ⟨by omega, by omega⟩)) (fun x q => ?_)
  obtain rfl := q
  have ztg := T_g_zr hs hd (f := 6) (by decide) i
  show B_R _ _ (8, [(0, .ref o), (1, .int (Zi i))], [.int (Zi (T_g τ 6 i))]) _ _ _
  refine Z_iret rfl rfl (by first | rfl | decide | exact narrow_b01 (by omega)) ⟨rfl, rfl, ?_⟩
  try dsimp only
  try rfl
theorem C_t7 (d : Nat) {s : C_S} {p : List Nat} {o : Nat} {A : Nat → Nat} {m sm : Int} {τ : Nat → Int → Int} {β : Int → Int64} {i : Int} (hd : D_Tr s p o A m sm τ β) (zi : Zr i) : C_rd (d + 2) 133 [.ref o, .int (Zi i)] s (fun x => x = some (.int (Zi (T_g τ 7 i)))) := by
  refine C_enterR (M := E_m133) rfl (Nat.le_of_ble_eq_true rfl) (fun h0 h hs => ?_)
  show B_R (d + 1) _ (0, [(0, .ref o), (1, .int (Zi i))], []) _ _ _
  refine Z_go (f2 := (1, [(0, .ref o), (1, .int (Zi i))], [.ref o])) (fun _ => rfl) ?_
  refine C_gr rfl hs (hd).1.1 (by decide) (Nat.le_of_ble_eq_true rfl) rfl ((hd).2.1 7 (by decide)).1 ?_
  refine Z_go (f2 := (5, [(0, .ref o), (1, .int (Zi i))], [.int (Zi i), .ref (A 7)])) (fun _ => rfl) ?_
  refine C_callSR (vs := [.ref (A 7), .int (Zi i)]) (rest := []) rfl (by decide) rfl rfl rfl (Nat.le_of_ble_eq_true rfl) hs (C_pickT _ hd (f := 7) (by decide) (i := i) (by first | exact hs.zF _ _ | exact Zor_r _ _ | exact hs.zA _ _ | assumption | exact zA _ _ | exact zS _ | exact Zr_not (hs.zA _ _) | exact hs.1.1 _ _ | exact ⟨by omega, by omega⟩)) (fun x q => ?_)
  obtain rfl := q
  have ztg := T_g_zr hs hd (f := 7) (by decide) i
  show B_R _ _ (8, [(0, .ref o), (1, .int (Zi i))], [.int (Zi (T_g τ 7 i))]) _ _ _
  refine Z_iret rfl rfl (by first | rfl | decide | exact narrow_b01 (by omega)) ⟨rfl, rfl, ?_⟩
  try dsimp only
  try rfl
theorem C_t8 (d : Nat) {s : C_S} {p : List Nat} {o : Nat} {A : Nat → Nat} {m sm : Int} {τ : Nat → Int → Int} {β : Int → Int64} {i : Int} (hd : D_Tr s p o A m sm τ β) (zi : Zr i) : C_rd (d + 2) 134 [.ref o, .int (Zi i)] s (fun x => x = some (.int (Zi (T_gs τ i)))) := by
  refine C_enterR (M := E_m134) rfl (Nat.le_of_ble_eq_true rfl) (fun h0 h hs => ?_)
  show B_R (d + 1) _ (0, [(0, .ref o), (1, .int (Zi i))], []) _ _ _
  refine Z_go (f2 := (1, [(0, .ref o), (1, .int (Zi i))], [.int (Zi 0)])) (fun _ => rfl) ?_
  refine Z_go (f2 := (2, [(0, .ref o), (1, .int (Zi i))], [.ref o, .int (Zi 0)])) (fun _ => rfl) ?_
  refine C_gr rfl hs (hd).1.1 (by decide) (Nat.le_of_ble_eq_true rfl) rfl ((hd).2.1 8 (by decide)).1 ?_
  refine Z_go (f2 := (6, [(0, .ref o), (1, .int (Zi i))], [.int (Zi i), .ref (A 8), .int (Zi 0)])) (fun _ => rfl) ?_
  refine C_callSR (vs := [.ref (A 8), .int (Zi i)]) (rest := [.int (Zi 0)]) rfl (by decide) rfl rfl rfl (Nat.le_of_ble_eq_true rfl) hs (C_pickT _ hd (f := 8) (by decide) (i := i) (by first | exact hs.zF _ _ | exact Zor_r _ _ | exact hs.zA _ _ | assumption | exact zA _ _ | exact zS _ | exact Zr_not (hs.zA _ _) | exact hs.1.1 _ _ | exact ⟨by omega, by omega⟩)) (fun x q => ?_)
  obtain rfl := q
  have ztg := T_g_zr hs hd (f := 8) (by decide) i
  show B_R _ _ (9, [(0, .ref o), (1, .int (Zi i))], [.int (Zi (T_g τ 8 i)), .int (Zi 0)]) _ _ _
  refine C_max rfl (by first | exact hs.zF _ _ | exact Zor_r _ _ | exact hs.zA _ _ | assumption | exact zA _ _ | exact zS _ | exact Zr_not (hs.zA _ _) | exact hs.1.1 _ _ | exact ⟨by omega, by omega⟩) (by first | exact hs.zF _ _ | exact Zor_r _ _ | exact hs.zA _ _ | assumption | exact zA _ _ | exact zS _ | exact Zr_not (hs.zA _ _) | exact hs.1.1 _ _ | exact ⟨by omega, by omega⟩) (Nat.le_of_ble_eq_true rfl) ?_
  refine Z_iret rfl rfl (by first | rfl | decide | exact narrow_b01 (by omega)) ⟨rfl, rfl, ?_⟩
  try dsimp only
  try rfl
theorem C_trclear (d : Nat) {s : C_S} {p : List Nat} {o : Nat} {A : Nat → Nat} {m sm : Int} {τ : Nat → Int → Int} {β : Int → Int64} (hd : D_Tr s p o A m sm τ β) : C_ok (d + 1) 119 [.ref o] s (fun x s2 n => x = none ∧ n = 0 ∧ D_Tr s2 p o A 0 0 τ β ∧ C_fr (fun t => t = p) s s2 ∧ C_n s2 = C_n s) := by
  refine C_enter (M := E_m119) rfl (Nat.le_of_ble_eq_true rfl) (fun h0 h hs => ?_)
  show B_R (d + 0) _ (0, [(0, .ref o)], []) _ _ _
  refine Z_go (f2 := (1, [(0, .ref o)], [.ref o])) (fun _ => rfl) ?_
  refine Z_go (f2 := (2, [(0, .ref o)], [.int (Zi 0), .ref o])) (fun _ => rfl) ?_
  refine C_pi rfl hs (hd).1.1 (by decide) (Nat.le_of_ble_eq_true rfl) (.inl rfl) rfl rfl rfl (by first | exact hs.zF _ _ | exact Zor_r _ _ | exact hs.zA _ _ | assumption | exact zA _ _ | exact zS _ | exact Zr_not (hs.zA _ _) | exact hs.1.1 _ _ | exact ⟨by omega, by omega⟩) (fun h hs => ?_)
  refine Z_go (f2 := (6, [(0, .ref o)], [.ref o])) (fun _ => rfl) ?_
  refine Z_go (f2 := (7, [(0, .ref o)], [.int (Zi 0), .ref o])) (fun _ => rfl) ?_
  refine C_pi rfl hs (hd).1.1 (by decide) (Nat.le_of_ble_eq_true rfl) (.inl rfl) rfl rfl rfl (by first | exact hs.zF _ _ | exact Zor_r _ _ | exact hs.zA _ _ | assumption | exact zA _ _ | exact zS _ | exact Zr_not (hs.zA _ _) | exact hs.1.1 _ _ | exact ⟨by omega, by omega⟩) (fun h hs => ?_)
  refine Z_ret rfl rfl ⟨_, hs, ?_⟩
  try dsimp only
  exact ⟨rfl, rfl, (hd.setm (by omega) (by omega)).setn (by omega) (by omega), ((C_fr.refl _ _).sF hd.1.2.1).sF hd.1.2.1, rfl⟩
def T_nn (τ : Nat → Int → Int) (i k z : Int) : Nat → Int → Int := T_st (T_st (T_st (T_st (T_st (T_st (T_st τ 0 i k) 1 i (-1)) 2 i (-1)) 3 i (-1)) 4 i (-1)) 7 i (-1)) 8 i z
theorem T_st_at {τ : Nat → Int → Int} {f : Nat} {i v : Int} {g : Nat} {j : Int} : T_st τ f i v g j = if (0 ≤ i ∧ i < 168) ∧ g = f ∧ j = i then v else τ g j := by
  unfold T_st T_up
  by_cases c : 0 ≤ i ∧ i < 168
  · rw [if_pos c]
    by_cases c2 : g = f ∧ j = i
    · rw [if_pos c2, if_pos ⟨c, c2⟩]
    · rw [if_neg c2, if_neg (fun e => c2 e.2)]
  · rw [if_neg c, if_neg (fun e => c e.1)]
def T_zb (τ : Nat → Int → Int) : Prop := ∀ i, τ 8 i ≤ 1000000
theorem T_zb_st {τ : Nat → Int → Int} (h : T_zb τ) {f : Nat} {i v : Int} (hf : f ≠ 8) : T_zb (T_st τ f i v) := fun j => by
  rw [T_st_at, if_neg (fun e => hf e.2.1.symm)]
  exact h j
theorem T_zb_st8 {τ : Nat → Int → Int} (h : T_zb τ) {i v : Int} (hv : v ≤ 1000000) : T_zb (T_st τ 8 i v) := fun j => by
  rw [T_st_at]
  split
  · exact hv
  · exact h j
theorem T_zb_nn {τ : Nat → Int → Int} (h : T_zb τ) {i k z : Int} (hz : z ≤ 1000000) : T_zb (T_nn τ i k z) := T_zb_st8 (T_zb_st (T_zb_st (T_zb_st (T_zb_st (T_zb_st (T_zb_st h (by decide)) (by decide)) (by decide)) (by decide)) (by decide)) (by decide)) hz
theorem C_newNode (d : Nat) {s : C_S} {p : List Nat} {o : Nat} {A : Nat → Nat} {m sm : Int} {τ : Nat → Int → Int} {β : Int → Int64} {k z : Int} (hd : D_Tr s p o A m sm τ β) (hz : T_zb τ) (zk : Zr k) (z0 : -1 ≤ z) (z1 : z ≤ 1000000) : C_ok (d + 2) 121 [.ref o, .int (Zi k), .int (Zi z)] s (fun x s2 n => n = 0 ∧ C_fr (fun t => t = p) s s2 ∧ C_n s2 = C_n s ∧ ∃ (m2 : Int) (τ2 : Nat → Int → Int) (i : Int), x = some (.int (Zi i)) ∧ -1 ≤ i ∧ i < 168 ∧ D_Tr s2 p o A m2 sm τ2 β ∧ T_zb τ2 ∧ (m < 168 → i = m ∧ m2 = m + 1 ∧ τ2 = T_nn τ m k z)) := by
  refine C_enter (M := E_m121) rfl (Nat.le_of_ble_eq_true rfl) (fun h0 h hs => ?_)
  show B_R (d + 1) _ (0, [(0, .ref o), (1, .int (Zi k)), (2, .int (Zi z))], []) _ _ _
  have hm0 := hd.1.2.2.2.2.1
  have hm1 := hd.1.2.2.2.2.2.1
  have zm : Zr m := ⟨by omega, by omega⟩
  refine Z_go (f2 := (1, [(0, .ref o), (1, .int (Zi k)), (2, .int (Zi z))], [.ref o])) (fun _ => rfl) ?_
  refine C_gi rfl hs (hd).1.1 (by decide) (Nat.le_of_ble_eq_true rfl) rfl ?_
  rw [show C_F (s) o 10 = m from (by first | exact (hd).1.2.2.1 | exact (if_neg (fun e => absurd e.1 (by assumption))).trans (hd).1.2.2.1 | exact (if_neg (fun e => absurd e.2 (by decide))).trans (hd).1.2.2.1 | exact (if_neg (fun e => absurd e.2 (by decide))).trans ((if_neg (fun e => absurd e.2 (by decide))).trans (hd).1.2.2.1) | exact (if_neg (fun e => absurd e.2 (by decide))).trans ((if_neg (fun e => absurd e.2 (by decide))).trans ((if_neg (fun e => absurd e.2 (by decide))).trans (hd).1.2.2.1)))]
  show B_R _ _ (4, [(0, .ref o), (1, .int (Zi k)), (2, .int (Zi z))], [.int (Zi m)]) _ _ _
  refine Z_go (f2 := (5, [(3, .int (Zi m)), (0, .ref o), (1, .int (Zi k)), (2, .int (Zi z))], [])) (fun _ => rfl) ?_
  refine Z_go (f2 := (6, [(3, .int (Zi m)), (0, .ref o), (1, .int (Zi k)), (2, .int (Zi z))], [.int (Zi m)])) (fun _ => rfl) ?_
  refine Z_go (f2 := (9, [(3, .int (Zi m)), (0, .ref o), (1, .int (Zi k)), (2, .int (Zi z))], [.int (Zi 168), .int (Zi m)])) (fun _ => rfl) ?_
  refine Z_clt rfl rfl (by first | exact hs.zF _ _ | exact Zor_r _ _ | exact hs.zA _ _ | assumption | exact zA _ _ | exact zS _ | exact Zr_not (hs.zA _ _) | exact hs.1.1 _ _ | exact ⟨by omega, by omega⟩) (by first | exact hs.zF _ _ | exact Zor_r _ _ | exact hs.zA _ _ | assumption | exact zA _ _ | exact zS _ | exact Zr_not (hs.zA _ _) | exact hs.1.1 _ _ | exact ⟨by omega, by omega⟩) (fun c1 => ?_) (fun c1 => ?_)
  · refine Z_go (f2 := (15, [(3, .int (Zi m)), (0, .ref o), (1, .int (Zi k)), (2, .int (Zi z))], [.ref o])) (fun _ => rfl) ?_
    refine Z_go (f2 := (16, [(3, .int (Zi m)), (0, .ref o), (1, .int (Zi k)), (2, .int (Zi z))], [.ref o, .ref o])) (fun _ => rfl) ?_
    refine C_gi rfl hs (hd).1.1 (by decide) (Nat.le_of_ble_eq_true rfl) rfl ?_
    rw [show C_F (s) o 10 = m from (by first | exact (hd).1.2.2.1 | exact (if_neg (fun e => absurd e.1 (by assumption))).trans (hd).1.2.2.1 | exact (if_neg (fun e => absurd e.2 (by decide))).trans (hd).1.2.2.1 | exact (if_neg (fun e => absurd e.2 (by decide))).trans ((if_neg (fun e => absurd e.2 (by decide))).trans (hd).1.2.2.1) | exact (if_neg (fun e => absurd e.2 (by decide))).trans ((if_neg (fun e => absurd e.2 (by decide))).trans ((if_neg (fun e => absurd e.2 (by decide))).trans (hd).1.2.2.1)))]
    show B_R _ _ (19, [(3, .int (Zi m)), (0, .ref o), (1, .int (Zi k)), (2, .int (Zi z))], [.int (Zi m), .ref o]) _ _ _
    refine Z_go (f2 := (20, [(3, .int (Zi m)), (0, .ref o), (1, .int (Zi k)), (2, .int (Zi z))], [.int (Zi 1), .int (Zi m), .ref o])) (fun _ => rfl) ?_
    refine Z_iadd rfl ?_
    refine C_pi rfl hs (hd).1.1 (by decide) (Nat.le_of_ble_eq_true rfl) (.inl rfl) rfl rfl rfl (by first | exact hs.zF _ _ | exact Zor_r _ _ | exact hs.zA _ _ | assumption | exact zA _ _ | exact zS _ | exact Zr_not (hs.zA _ _) | exact hs.1.1 _ _ | exact ⟨by omega, by omega⟩) (fun h hs => ?_)
    have hd0 := hd.setm (v := m + 1) (by omega) (by omega)
    refine Z_go (f2 := (25, [(3, .int (Zi m)), (0, .ref o), (1, .int (Zi k)), (2, .int (Zi z))], [.ref o])) (fun _ => rfl) ?_
    refine C_gr rfl hs (hd0).1.1 (by decide) (Nat.le_of_ble_eq_true rfl) rfl ((hd0).2.1 0 (by decide)).1 ?_
    refine Z_go (f2 := (29, [(3, .int (Zi m)), (0, .ref o), (1, .int (Zi k)), (2, .int (Zi z))], [.int (Zi m), .ref (A 0)])) (fun _ => rfl) ?_
    refine Z_go (f2 := (30, [(3, .int (Zi m)), (0, .ref o), (1, .int (Zi k)), (2, .int (Zi z))], [.int (Zi k), .int (Zi m), .ref (A 0)])) (fun _ => rfl) ?_
    refine C_callS (vs := [.ref (A 0), .int (Zi m), .int (Zi k)]) (rest := []) rfl (by decide) rfl rfl rfl (Nat.le_of_ble_eq_true rfl) hs (C_storeT _ hd0 (f := 0) (by decide) (i := m) (v := k) (by first | exact hs.zF _ _ | exact Zor_r _ _ | exact hs.zA _ _ | assumption | exact zA _ _ | exact zS _ | exact Zr_not (hs.zA _ _) | exact hs.1.1 _ _ | exact ⟨by omega, by omega⟩) (by first | exact hs.zF _ _ | exact Zor_r _ _ | exact hs.zA _ _ | assumption | exact zA _ _ | exact zS _ | exact Zr_not (hs.zA _ _) | exact hs.1.1 _ _ | exact ⟨by omega, by omega⟩)) (fun x h v81 n81 hs q => ?_)
    obtain ⟨rfl, rfl, hd81, fr81, en81⟩ := q
    show B_R _ _ (33, [(3, .int (Zi m)), (0, .ref o), (1, .int (Zi k)), (2, .int (Zi z))], []) _ _ _
    refine Z_go (f2 := (34, [(3, .int (Zi m)), (0, .ref o), (1, .int (Zi k)), (2, .int (Zi z))], [.ref o])) (fun _ => rfl) ?_
    refine C_gr rfl hs (hd81).1.1 (by decide) (Nat.le_of_ble_eq_true rfl) rfl ((hd81).2.1 1 (by decide)).1 ?_
    refine Z_go (f2 := (38, [(3, .int (Zi m)), (0, .ref o), (1, .int (Zi k)), (2, .int (Zi z))], [.int (Zi m), .ref (A 1)])) (fun _ => rfl) ?_
    refine Z_go (f2 := (39, [(3, .int (Zi m)), (0, .ref o), (1, .int (Zi k)), (2, .int (Zi z))], [.int (Zi (-1)), .int (Zi m), .ref (A 1)])) (fun _ => rfl) ?_
    refine C_callS (vs := [.ref (A 1), .int (Zi m), .int (Zi (-1))]) (rest := []) rfl (by decide) rfl rfl rfl (Nat.le_of_ble_eq_true rfl) hs (C_storeT _ hd81 (f := 1) (by decide) (i := m) (v := -1) (by first | exact hs.zF _ _ | exact Zor_r _ _ | exact hs.zA _ _ | assumption | exact zA _ _ | exact zS _ | exact Zr_not (hs.zA _ _) | exact hs.1.1 _ _ | exact ⟨by omega, by omega⟩) (by first | exact hs.zF _ _ | exact Zor_r _ _ | exact hs.zA _ _ | assumption | exact zA _ _ | exact zS _ | exact Zr_not (hs.zA _ _) | exact hs.1.1 _ _ | exact ⟨by omega, by omega⟩)) (fun x h v82 n82 hs q => ?_)
    obtain ⟨rfl, rfl, hd82, fr82, en82⟩ := q
    show B_R _ _ (42, [(3, .int (Zi m)), (0, .ref o), (1, .int (Zi k)), (2, .int (Zi z))], []) _ _ _
    refine Z_go (f2 := (43, [(3, .int (Zi m)), (0, .ref o), (1, .int (Zi k)), (2, .int (Zi z))], [.ref o])) (fun _ => rfl) ?_
    refine C_gr rfl hs (hd82).1.1 (by decide) (Nat.le_of_ble_eq_true rfl) rfl ((hd82).2.1 2 (by decide)).1 ?_
    refine Z_go (f2 := (47, [(3, .int (Zi m)), (0, .ref o), (1, .int (Zi k)), (2, .int (Zi z))], [.int (Zi m), .ref (A 2)])) (fun _ => rfl) ?_
    refine Z_go (f2 := (48, [(3, .int (Zi m)), (0, .ref o), (1, .int (Zi k)), (2, .int (Zi z))], [.int (Zi (-1)), .int (Zi m), .ref (A 2)])) (fun _ => rfl) ?_
    refine C_callS (vs := [.ref (A 2), .int (Zi m), .int (Zi (-1))]) (rest := []) rfl (by decide) rfl rfl rfl (Nat.le_of_ble_eq_true rfl) hs (C_storeT _ hd82 (f := 2) (by decide) (i := m) (v := -1) (by first | exact hs.zF _ _ | exact Zor_r _ _ | exact hs.zA _ _ | assumption | exact zA _ _ | exact zS _ | exact Zr_not (hs.zA _ _) | exact hs.1.1 _ _ | exact ⟨by omega, by omega⟩) (by first | exact hs.zF _ _ | exact Zor_r _ _ | exact hs.zA _ _ | assumption | exact zA _ _ | exact zS _ | exact Zr_not (hs.zA _ _) | exact hs.1.1 _ _ | exact ⟨by omega, by omega⟩)) (fun x h v83 n83 hs q => ?_)
    obtain ⟨rfl, rfl, hd83, fr83, en83⟩ := q
    show B_R _ _ (51, [(3, .int (Zi m)), (0, .ref o), (1, .int (Zi k)), (2, .int (Zi z))], []) _ _ _
    refine Z_go (f2 := (52, [(3, .int (Zi m)), (0, .ref o), (1, .int (Zi k)), (2, .int (Zi z))], [.ref o])) (fun _ => rfl) ?_
    refine C_gr rfl hs (hd83).1.1 (by decide) (Nat.le_of_ble_eq_true rfl) rfl ((hd83).2.1 3 (by decide)).1 ?_
    refine Z_go (f2 := (56, [(3, .int (Zi m)), (0, .ref o), (1, .int (Zi k)), (2, .int (Zi z))], [.int (Zi m), .ref (A 3)])) (fun _ => rfl) ?_
    refine Z_go (f2 := (57, [(3, .int (Zi m)), (0, .ref o), (1, .int (Zi k)), (2, .int (Zi z))], [.int (Zi (-1)), .int (Zi m), .ref (A 3)])) (fun _ => rfl) ?_
    refine C_callS (vs := [.ref (A 3), .int (Zi m), .int (Zi (-1))]) (rest := []) rfl (by decide) rfl rfl rfl (Nat.le_of_ble_eq_true rfl) hs (C_storeT _ hd83 (f := 3) (by decide) (i := m) (v := -1) (by first | exact hs.zF _ _ | exact Zor_r _ _ | exact hs.zA _ _ | assumption | exact zA _ _ | exact zS _ | exact Zr_not (hs.zA _ _) | exact hs.1.1 _ _ | exact ⟨by omega, by omega⟩) (by first | exact hs.zF _ _ | exact Zor_r _ _ | exact hs.zA _ _ | assumption | exact zA _ _ | exact zS _ | exact Zr_not (hs.zA _ _) | exact hs.1.1 _ _ | exact ⟨by omega, by omega⟩)) (fun x h v84 n84 hs q => ?_)
    obtain ⟨rfl, rfl, hd84, fr84, en84⟩ := q
    show B_R _ _ (60, [(3, .int (Zi m)), (0, .ref o), (1, .int (Zi k)), (2, .int (Zi z))], []) _ _ _
    refine Z_go (f2 := (61, [(3, .int (Zi m)), (0, .ref o), (1, .int (Zi k)), (2, .int (Zi z))], [.ref o])) (fun _ => rfl) ?_
    refine C_gr rfl hs (hd84).1.1 (by decide) (Nat.le_of_ble_eq_true rfl) rfl ((hd84).2.1 4 (by decide)).1 ?_
    refine Z_go (f2 := (65, [(3, .int (Zi m)), (0, .ref o), (1, .int (Zi k)), (2, .int (Zi z))], [.int (Zi m), .ref (A 4)])) (fun _ => rfl) ?_
    refine Z_go (f2 := (66, [(3, .int (Zi m)), (0, .ref o), (1, .int (Zi k)), (2, .int (Zi z))], [.int (Zi (-1)), .int (Zi m), .ref (A 4)])) (fun _ => rfl) ?_
    refine C_callS (vs := [.ref (A 4), .int (Zi m), .int (Zi (-1))]) (rest := []) rfl (by decide) rfl rfl rfl (Nat.le_of_ble_eq_true rfl) hs (C_storeT _ hd84 (f := 4) (by decide) (i := m) (v := -1) (by first | exact hs.zF _ _ | exact Zor_r _ _ | exact hs.zA _ _ | assumption | exact zA _ _ | exact zS _ | exact Zr_not (hs.zA _ _) | exact hs.1.1 _ _ | exact ⟨by omega, by omega⟩) (by first | exact hs.zF _ _ | exact Zor_r _ _ | exact hs.zA _ _ | assumption | exact zA _ _ | exact zS _ | exact Zr_not (hs.zA _ _) | exact hs.1.1 _ _ | exact ⟨by omega, by omega⟩)) (fun x h v85 n85 hs q => ?_)
    obtain ⟨rfl, rfl, hd85, fr85, en85⟩ := q
    show B_R _ _ (69, [(3, .int (Zi m)), (0, .ref o), (1, .int (Zi k)), (2, .int (Zi z))], []) _ _ _
    refine Z_go (f2 := (70, [(3, .int (Zi m)), (0, .ref o), (1, .int (Zi k)), (2, .int (Zi z))], [.ref o])) (fun _ => rfl) ?_
    refine C_gr rfl hs (hd85).1.1 (by decide) (Nat.le_of_ble_eq_true rfl) rfl ((hd85).2.1 7 (by decide)).1 ?_
    refine Z_go (f2 := (74, [(3, .int (Zi m)), (0, .ref o), (1, .int (Zi k)), (2, .int (Zi z))], [.int (Zi m), .ref (A 7)])) (fun _ => rfl) ?_
    refine Z_go (f2 := (75, [(3, .int (Zi m)), (0, .ref o), (1, .int (Zi k)), (2, .int (Zi z))], [.int (Zi (-1)), .int (Zi m), .ref (A 7)])) (fun _ => rfl) ?_
    refine C_callS (vs := [.ref (A 7), .int (Zi m), .int (Zi (-1))]) (rest := []) rfl (by decide) rfl rfl rfl (Nat.le_of_ble_eq_true rfl) hs (C_storeT _ hd85 (f := 7) (by decide) (i := m) (v := -1) (by first | exact hs.zF _ _ | exact Zor_r _ _ | exact hs.zA _ _ | assumption | exact zA _ _ | exact zS _ | exact Zr_not (hs.zA _ _) | exact hs.1.1 _ _ | exact ⟨by omega, by omega⟩) (by first | exact hs.zF _ _ | exact Zor_r _ _ | exact hs.zA _ _ | assumption | exact zA _ _ | exact zS _ | exact Zr_not (hs.zA _ _) | exact hs.1.1 _ _ | exact ⟨by omega, by omega⟩)) (fun x h v86 n86 hs q => ?_)
    obtain ⟨rfl, rfl, hd86, fr86, en86⟩ := q
    show B_R _ _ (78, [(3, .int (Zi m)), (0, .ref o), (1, .int (Zi k)), (2, .int (Zi z))], []) _ _ _
    refine Z_go (f2 := (79, [(3, .int (Zi m)), (0, .ref o), (1, .int (Zi k)), (2, .int (Zi z))], [.ref o])) (fun _ => rfl) ?_
    refine C_gr rfl hs (hd86).1.1 (by decide) (Nat.le_of_ble_eq_true rfl) rfl ((hd86).2.1 8 (by decide)).1 ?_
    refine Z_go (f2 := (83, [(3, .int (Zi m)), (0, .ref o), (1, .int (Zi k)), (2, .int (Zi z))], [.int (Zi m), .ref (A 8)])) (fun _ => rfl) ?_
    refine Z_go (f2 := (84, [(3, .int (Zi m)), (0, .ref o), (1, .int (Zi k)), (2, .int (Zi z))], [.int (Zi z), .int (Zi m), .ref (A 8)])) (fun _ => rfl) ?_
    refine C_callS (vs := [.ref (A 8), .int (Zi m), .int (Zi z)]) (rest := []) rfl (by decide) rfl rfl rfl (Nat.le_of_ble_eq_true rfl) hs (C_storeT _ hd86 (f := 8) (by decide) (i := m) (v := z) (by first | exact hs.zF _ _ | exact Zor_r _ _ | exact hs.zA _ _ | assumption | exact zA _ _ | exact zS _ | exact Zr_not (hs.zA _ _) | exact hs.1.1 _ _ | exact ⟨by omega, by omega⟩) (by first | exact hs.zF _ _ | exact Zor_r _ _ | exact hs.zA _ _ | assumption | exact zA _ _ | exact zS _ | exact Zr_not (hs.zA _ _) | exact hs.1.1 _ _ | exact ⟨by omega, by omega⟩)) (fun x h v87 n87 hs q => ?_)
    obtain ⟨rfl, rfl, hd87, fr87, en87⟩ := q
    show B_R _ _ (87, [(3, .int (Zi m)), (0, .ref o), (1, .int (Zi k)), (2, .int (Zi z))], []) _ _ _
    refine Z_go (f2 := (88, [(3, .int (Zi m)), (0, .ref o), (1, .int (Zi k)), (2, .int (Zi z))], [.int (Zi m)])) (fun _ => rfl) ?_
    refine Z_iret rfl rfl (by first | rfl | decide | exact narrow_b01 (by omega)) ⟨_, hs, ?_⟩
    try dsimp only
    exact ⟨rfl, (((((((((C_fr.refl _ s).sF hd.1.2.1).tr fr81).tr fr82).tr fr83).tr fr84).tr fr85).tr fr86).tr fr87), by rw [en87, en86, en85, en84, en83, en82, en81]; rfl, m + 1, T_nn τ m k z, m, rfl, by omega, by omega, hd87, T_zb_nn hz z1, fun _ => ⟨rfl, rfl, rfl⟩⟩
  · refine Z_go (f2 := (13, [(3, .int (Zi m)), (0, .ref o), (1, .int (Zi k)), (2, .int (Zi z))], [.int (Zi (-1))])) (fun _ => rfl) ?_
    refine Z_iret rfl rfl (by first | rfl | decide | exact narrow_b01 (by omega)) ⟨_, hs, ?_⟩
    try dsimp only
    exact ⟨rfl, C_fr.refl _ _, rfl, m, τ, -1, rfl, by omega, by omega, hd, hz, fun h => by omega⟩
def T_nr (τ : Nat → Int → Int) (i a lo hi z : Int) : Nat → Int → Int := T_st (T_st (T_st (T_nn τ i 2 z) 1 i a) 5 i lo) 6 i hi
def T_nb (τ : Nat → Int → Int) (i c : Int) : Nat → Int → Int := T_st (T_nn τ i 3 1) 7 i c
def T_mn (z : Int) : Int := if 1000000 < z then 1000000 else z
theorem C_newRep (d : Nat) {s : C_S} {p : List Nat} {o : Nat} {A : Nat → Nat} {m sm : Int} {τ : Nat → Int → Int} {β : Int → Int64} {a lo hi z : Int} (hd : D_Tr s p o A m sm τ β) (hz : T_zb τ) (za : Zr a) (zl : Zr lo) (zh : Zr hi) (z0 : -1 ≤ z) (z1 : z < 2147483648) : C_ok (d + 3) 122 [.ref o, .int (Zi a), .int (Zi lo), .int (Zi hi), .int (Zi z)] s (fun x s2 n => n = 0 ∧ C_fr (fun t => t = p) s s2 ∧ C_n s2 = C_n s ∧ ∃ (m2 : Int) (τ2 : Nat → Int → Int) (i : Int), x = some (.int (Zi i)) ∧ -1 ≤ i ∧ i < 168 ∧ D_Tr s2 p o A m2 sm τ2 β ∧ T_zb τ2 ∧ (m < 168 → i = m ∧ m2 = m + 1 ∧ τ2 = T_nr τ m a lo hi (T_mn z))) := by
  refine C_enter (M := E_m122) rfl (Nat.le_of_ble_eq_true rfl) (fun h0 h hs => ?_)
  show B_R (d + 2) _ (0, [(0, .ref o), (1, .int (Zi a)), (2, .int (Zi lo)), (3, .int (Zi hi)), (4, .int (Zi z))], []) _ _ _
  refine Z_go (f2 := (1, [(0, .ref o), (1, .int (Zi a)), (2, .int (Zi lo)), (3, .int (Zi hi)), (4, .int (Zi z))], [.ref o])) (fun _ => rfl) ?_
  refine Z_go (f2 := (2, [(0, .ref o), (1, .int (Zi a)), (2, .int (Zi lo)), (3, .int (Zi hi)), (4, .int (Zi z))], [.int (Zi 2), .ref o])) (fun _ => rfl) ?_
  refine Z_go (f2 := (4, [(0, .ref o), (1, .int (Zi a)), (2, .int (Zi lo)), (3, .int (Zi hi)), (4, .int (Zi z))], [.int (Zi z), .int (Zi 2), .ref o])) (fun _ => rfl) ?_
  refine Z_go (f2 := (6, [(0, .ref o), (1, .int (Zi a)), (2, .int (Zi lo)), (3, .int (Zi hi)), (4, .int (Zi z))], [.int (Zi 1000000), .int (Zi z), .int (Zi 2), .ref o])) (fun _ => rfl) ?_
  refine C_min rfl (by first | exact hs.zF _ _ | exact Zor_r _ _ | exact hs.zA _ _ | assumption | exact zA _ _ | exact zS _ | exact Zr_not (hs.zA _ _) | exact hs.1.1 _ _ | exact ⟨by omega, by omega⟩) (by first | exact hs.zF _ _ | exact Zor_r _ _ | exact hs.zA _ _ | assumption | exact zA _ _ | exact zS _ | exact Zr_not (hs.zA _ _) | exact hs.1.1 _ _ | exact ⟨by omega, by omega⟩) (Nat.le_of_ble_eq_true rfl) ?_
  generalize ey : (if 1000000 < z then 1000000 else z) = y
  have zy : Zr y := ⟨by omega, by omega⟩
  show B_R _ _ (9, [(0, .ref o), (1, .int (Zi a)), (2, .int (Zi lo)), (3, .int (Zi hi)), (4, .int (Zi z))], [.int (Zi y), .int (Zi 2), .ref o]) _ _ _
  have y1 : -1 ≤ y ∧ y ≤ 1000000 := by omega
  have ey2 : y = T_mn z := ey.symm
  refine C_callV (As := [.int (Zi 2), .int (Zi y)]) (rest := []) rfl (by decide) rfl (by decide) rfl rfl (by decide +kernel) (Nat.le_of_ble_eq_true rfl) hs (hd).1.1 (C_newNode _ hd hz (k := 2) (z := y) (by first | exact hs.zF _ _ | exact Zor_r _ _ | exact hs.zA _ _ | assumption | exact zA _ _ | exact zS _ | exact Zr_not (hs.zA _ _) | exact hs.1.1 _ _ | exact ⟨by omega, by omega⟩) (by omega) (by omega)) (fun x h v88 n88 hs q => ?_)
  obtain ⟨rfl, fr88, en88, m88, τ88, i88, rfl, j0, j1, hd88, hz88, hnn⟩ := q
  have zi88 : Zr i88 := ⟨by omega, by omega⟩
  show B_R _ _ (12, [(0, .ref o), (1, .int (Zi a)), (2, .int (Zi lo)), (3, .int (Zi hi)), (4, .int (Zi z))], [.int (Zi i88)]) _ _ _
  refine Z_go (f2 := (14, [(5, .int (Zi i88)), (0, .ref o), (1, .int (Zi a)), (2, .int (Zi lo)), (3, .int (Zi hi)), (4, .int (Zi z))], [])) (fun _ => rfl) ?_
  refine Z_go (f2 := (15, [(5, .int (Zi i88)), (0, .ref o), (1, .int (Zi a)), (2, .int (Zi lo)), (3, .int (Zi hi)), (4, .int (Zi z))], [.ref o])) (fun _ => rfl) ?_
  refine C_gr rfl hs (hd88).1.1 (by decide) (Nat.le_of_ble_eq_true rfl) rfl ((hd88).2.1 1 (by decide)).1 ?_
  refine Z_go (f2 := (20, [(5, .int (Zi i88)), (0, .ref o), (1, .int (Zi a)), (2, .int (Zi lo)), (3, .int (Zi hi)), (4, .int (Zi z))], [.int (Zi i88), .ref (A 1)])) (fun _ => rfl) ?_
  refine Z_go (f2 := (21, [(5, .int (Zi i88)), (0, .ref o), (1, .int (Zi a)), (2, .int (Zi lo)), (3, .int (Zi hi)), (4, .int (Zi z))], [.int (Zi a), .int (Zi i88), .ref (A 1)])) (fun _ => rfl) ?_
  refine C_callS (vs := [.ref (A 1), .int (Zi i88), .int (Zi a)]) (rest := []) rfl (by decide) rfl rfl rfl (Nat.le_of_ble_eq_true rfl) hs (C_storeT _ hd88 (f := 1) (by decide) (i := i88) (v := a) (by first | exact hs.zF _ _ | exact Zor_r _ _ | exact hs.zA _ _ | assumption | exact zA _ _ | exact zS _ | exact Zr_not (hs.zA _ _) | exact hs.1.1 _ _ | exact ⟨by omega, by omega⟩) (by first | exact hs.zF _ _ | exact Zor_r _ _ | exact hs.zA _ _ | assumption | exact zA _ _ | exact zS _ | exact Zr_not (hs.zA _ _) | exact hs.1.1 _ _ | exact ⟨by omega, by omega⟩)) (fun x h v89 n89 hs q => ?_)
  obtain ⟨rfl, rfl, hd89, fr89, en89⟩ := q
  show B_R _ _ (24, [(5, .int (Zi i88)), (0, .ref o), (1, .int (Zi a)), (2, .int (Zi lo)), (3, .int (Zi hi)), (4, .int (Zi z))], []) _ _ _
  refine Z_go (f2 := (25, [(5, .int (Zi i88)), (0, .ref o), (1, .int (Zi a)), (2, .int (Zi lo)), (3, .int (Zi hi)), (4, .int (Zi z))], [.ref o])) (fun _ => rfl) ?_
  refine C_gr rfl hs (hd89).1.1 (by decide) (Nat.le_of_ble_eq_true rfl) rfl ((hd89).2.1 5 (by decide)).1 ?_
  refine Z_go (f2 := (30, [(5, .int (Zi i88)), (0, .ref o), (1, .int (Zi a)), (2, .int (Zi lo)), (3, .int (Zi hi)), (4, .int (Zi z))], [.int (Zi i88), .ref (A 5)])) (fun _ => rfl) ?_
  refine Z_go (f2 := (31, [(5, .int (Zi i88)), (0, .ref o), (1, .int (Zi a)), (2, .int (Zi lo)), (3, .int (Zi hi)), (4, .int (Zi z))], [.int (Zi lo), .int (Zi i88), .ref (A 5)])) (fun _ => rfl) ?_
  refine C_callS (vs := [.ref (A 5), .int (Zi i88), .int (Zi lo)]) (rest := []) rfl (by decide) rfl rfl rfl (Nat.le_of_ble_eq_true rfl) hs (C_storeT _ hd89 (f := 5) (by decide) (i := i88) (v := lo) (by first | exact hs.zF _ _ | exact Zor_r _ _ | exact hs.zA _ _ | assumption | exact zA _ _ | exact zS _ | exact Zr_not (hs.zA _ _) | exact hs.1.1 _ _ | exact ⟨by omega, by omega⟩) (by first | exact hs.zF _ _ | exact Zor_r _ _ | exact hs.zA _ _ | assumption | exact zA _ _ | exact zS _ | exact Zr_not (hs.zA _ _) | exact hs.1.1 _ _ | exact ⟨by omega, by omega⟩)) (fun x h v90 n90 hs q => ?_)
  obtain ⟨rfl, rfl, hd90, fr90, en90⟩ := q
  show B_R _ _ (34, [(5, .int (Zi i88)), (0, .ref o), (1, .int (Zi a)), (2, .int (Zi lo)), (3, .int (Zi hi)), (4, .int (Zi z))], []) _ _ _
  refine Z_go (f2 := (35, [(5, .int (Zi i88)), (0, .ref o), (1, .int (Zi a)), (2, .int (Zi lo)), (3, .int (Zi hi)), (4, .int (Zi z))], [.ref o])) (fun _ => rfl) ?_
  refine C_gr rfl hs (hd90).1.1 (by decide) (Nat.le_of_ble_eq_true rfl) rfl ((hd90).2.1 6 (by decide)).1 ?_
  refine Z_go (f2 := (40, [(5, .int (Zi i88)), (0, .ref o), (1, .int (Zi a)), (2, .int (Zi lo)), (3, .int (Zi hi)), (4, .int (Zi z))], [.int (Zi i88), .ref (A 6)])) (fun _ => rfl) ?_
  refine Z_go (f2 := (41, [(5, .int (Zi i88)), (0, .ref o), (1, .int (Zi a)), (2, .int (Zi lo)), (3, .int (Zi hi)), (4, .int (Zi z))], [.int (Zi hi), .int (Zi i88), .ref (A 6)])) (fun _ => rfl) ?_
  refine C_callS (vs := [.ref (A 6), .int (Zi i88), .int (Zi hi)]) (rest := []) rfl (by decide) rfl rfl rfl (Nat.le_of_ble_eq_true rfl) hs (C_storeT _ hd90 (f := 6) (by decide) (i := i88) (v := hi) (by first | exact hs.zF _ _ | exact Zor_r _ _ | exact hs.zA _ _ | assumption | exact zA _ _ | exact zS _ | exact Zr_not (hs.zA _ _) | exact hs.1.1 _ _ | exact ⟨by omega, by omega⟩) (by first | exact hs.zF _ _ | exact Zor_r _ _ | exact hs.zA _ _ | assumption | exact zA _ _ | exact zS _ | exact Zr_not (hs.zA _ _) | exact hs.1.1 _ _ | exact ⟨by omega, by omega⟩)) (fun x h v91 n91 hs q => ?_)
  obtain ⟨rfl, rfl, hd91, fr91, en91⟩ := q
  show B_R _ _ (44, [(5, .int (Zi i88)), (0, .ref o), (1, .int (Zi a)), (2, .int (Zi lo)), (3, .int (Zi hi)), (4, .int (Zi z))], []) _ _ _
  refine Z_go (f2 := (46, [(5, .int (Zi i88)), (0, .ref o), (1, .int (Zi a)), (2, .int (Zi lo)), (3, .int (Zi hi)), (4, .int (Zi z))], [.int (Zi i88)])) (fun _ => rfl) ?_
  refine Z_iret rfl rfl (by first | rfl | decide | exact narrow_b01 (by omega)) ⟨_, hs, ?_⟩
  try dsimp only
  rw [← ey2]
  exact ⟨rfl, (((fr88.tr fr89).tr fr90).tr fr91), by rw [en91, en90, en89, en88], m88, _, i88, rfl, j0, j1, hd91, (T_zb_st (T_zb_st (T_zb_st hz88 (by decide)) (by decide)) (by decide)), fun h => by obtain ⟨e1, e2, e3⟩ := hnn h; subst e3; rw [e1]; exact ⟨rfl, e2, rfl⟩⟩
theorem C_newByt (d : Nat) {s : C_S} {p : List Nat} {o : Nat} {A : Nat → Nat} {m sm : Int} {τ : Nat → Int → Int} {β : Int → Int64} {a : Int} (hd : D_Tr s p o A m sm τ β) (hz : T_zb τ) (za : Zr a) : C_ok (d + 3) 123 [.ref o, .int (Zi a)] s (fun x s2 n => n = 0 ∧ C_fr (fun t => t = p) s s2 ∧ C_n s2 = C_n s ∧ ∃ (m2 : Int) (τ2 : Nat → Int → Int) (i : Int), x = some (.int (Zi i)) ∧ -1 ≤ i ∧ i < 168 ∧ D_Tr s2 p o A m2 sm τ2 β ∧ T_zb τ2 ∧ (m < 168 → i = m ∧ m2 = m + 1 ∧ τ2 = T_nb τ m a)) := by
  refine C_enter (M := E_m123) rfl (Nat.le_of_ble_eq_true rfl) (fun h0 h hs => ?_)
  show B_R (d + 2) _ (0, [(0, .ref o), (1, .int (Zi a))], []) _ _ _
  refine Z_go (f2 := (1, [(0, .ref o), (1, .int (Zi a))], [.ref o])) (fun _ => rfl) ?_
  refine Z_go (f2 := (2, [(0, .ref o), (1, .int (Zi a))], [.int (Zi 3), .ref o])) (fun _ => rfl) ?_
  refine Z_go (f2 := (3, [(0, .ref o), (1, .int (Zi a))], [.int (Zi 1), .int (Zi 3), .ref o])) (fun _ => rfl) ?_
  refine C_callV (As := [.int (Zi 3), .int (Zi 1)]) (rest := []) rfl (by decide) rfl (by decide) rfl rfl (by decide +kernel) (Nat.le_of_ble_eq_true rfl) hs (hd).1.1 (C_newNode _ hd hz (k := 3) (z := 1) (by first | exact hs.zF _ _ | exact Zor_r _ _ | exact hs.zA _ _ | assumption | exact zA _ _ | exact zS _ | exact Zr_not (hs.zA _ _) | exact hs.1.1 _ _ | exact ⟨by omega, by omega⟩) (by omega) (by omega)) (fun x h v92 n92 hs q => ?_)
  obtain ⟨rfl, fr92, en92, m92, τ92, i92, rfl, j0, j1, hd92, hz92, hnn⟩ := q
  have zi92 : Zr i92 := ⟨by omega, by omega⟩
  show B_R _ _ (6, [(0, .ref o), (1, .int (Zi a))], [.int (Zi i92)]) _ _ _
  refine Z_go (f2 := (7, [(2, .int (Zi i92)), (0, .ref o), (1, .int (Zi a))], [])) (fun _ => rfl) ?_
  refine Z_go (f2 := (8, [(2, .int (Zi i92)), (0, .ref o), (1, .int (Zi a))], [.ref o])) (fun _ => rfl) ?_
  refine C_gr rfl hs (hd92).1.1 (by decide) (Nat.le_of_ble_eq_true rfl) rfl ((hd92).2.1 7 (by decide)).1 ?_
  refine Z_go (f2 := (12, [(2, .int (Zi i92)), (0, .ref o), (1, .int (Zi a))], [.int (Zi i92), .ref (A 7)])) (fun _ => rfl) ?_
  refine Z_go (f2 := (13, [(2, .int (Zi i92)), (0, .ref o), (1, .int (Zi a))], [.int (Zi a), .int (Zi i92), .ref (A 7)])) (fun _ => rfl) ?_
  refine C_callS (vs := [.ref (A 7), .int (Zi i92), .int (Zi a)]) (rest := []) rfl (by decide) rfl rfl rfl (Nat.le_of_ble_eq_true rfl) hs (C_storeT _ hd92 (f := 7) (by decide) (i := i92) (v := a) (by first | exact hs.zF _ _ | exact Zor_r _ _ | exact hs.zA _ _ | assumption | exact zA _ _ | exact zS _ | exact Zr_not (hs.zA _ _) | exact hs.1.1 _ _ | exact ⟨by omega, by omega⟩) (by first | exact hs.zF _ _ | exact Zor_r _ _ | exact hs.zA _ _ | assumption | exact zA _ _ | exact zS _ | exact Zr_not (hs.zA _ _) | exact hs.1.1 _ _ | exact ⟨by omega, by omega⟩)) (fun x h v93 n93 hs q => ?_)
  obtain ⟨rfl, rfl, hd93, fr93, en93⟩ := q
  show B_R _ _ (16, [(2, .int (Zi i92)), (0, .ref o), (1, .int (Zi a))], []) _ _ _
  refine Z_go (f2 := (17, [(2, .int (Zi i92)), (0, .ref o), (1, .int (Zi a))], [.int (Zi i92)])) (fun _ => rfl) ?_
  refine Z_iret rfl rfl (by first | rfl | decide | exact narrow_b01 (by omega)) ⟨_, hs, ?_⟩
  try dsimp only
  exact ⟨rfl, (fr92.tr fr93), by rw [en93, en92], m92, _, i92, rfl, j0, j1, hd93, (T_zb_st hz92 (by decide)), fun h => by obtain ⟨e1, e2, e3⟩ := hnn h; subst e3; rw [e1]; exact ⟨rfl, e2, rfl⟩⟩
def T_gr (τ : Nat → Int → Int) (i z : Int) : Nat → Int → Int := T_st τ 8 i (T_mn (T_gs τ i + z))
def T_ap0 (τ : Nat → Int → Int) (a i : Int) : Nat → Int → Int := T_st (T_st τ 4 i (T_g τ 2 a)) 2 a i
def T_ap1 (τ : Nat → Int → Int) (a i : Int) : Nat → Int → Int := if T_g τ 2 a = -1 then T_st (T_ap0 τ a i) 1 a i else T_st (T_ap0 τ a i) 3 (T_g τ 2 a) i
def T_ap (τ : Nat → Int → Int) (a i : Int) : Nat → Int → Int := T_gr (T_ap1 τ a i) a (T_gs (T_ap1 τ a i) i)
theorem T_gs_b {τ : Nat → Int → Int} (hz : T_zb τ) (i : Int) : 0 ≤ T_gs τ i ∧ T_gs τ i ≤ 1000000 := by
  unfold T_gs T_g
  have := hz i
  split <;> split <;> omega
theorem C_trgrow (d : Nat) {s : C_S} {p : List Nat} {o : Nat} {A : Nat → Nat} {m sm : Int} {τ : Nat → Int → Int} {β : Int → Int64} {a z : Int} (hd : D_Tr s p o A m sm τ β) (hz : T_zb τ) (za : Zr a) (z0 : -1000000 ≤ z) (z1 : z ≤ 1000000) : C_ok (d + 3) 125 [.ref o, .int (Zi a), .int (Zi z)] s (fun x s2 n => x = none ∧ n = 0 ∧ C_fr (fun t => t = p) s s2 ∧ C_n s2 = C_n s ∧ D_Tr s2 p o A m sm (T_gr τ a z) β ∧ T_zb (T_gr τ a z)) := by
  refine C_enter (M := E_m125) rfl (Nat.le_of_ble_eq_true rfl) (fun h0 h hs => ?_)
  show B_R (d + 2) _ (0, [(0, .ref o), (1, .int (Zi a)), (2, .int (Zi z))], []) _ _ _
  have hb := T_gs_b hz a
  refine Z_go (f2 := (1, [(0, .ref o), (1, .int (Zi a)), (2, .int (Zi z))], [.ref o])) (fun _ => rfl) ?_
  refine C_gr rfl hs (hd).1.1 (by decide) (Nat.le_of_ble_eq_true rfl) rfl ((hd).2.1 8 (by decide)).1 ?_
  refine Z_go (f2 := (5, [(0, .ref o), (1, .int (Zi a)), (2, .int (Zi z))], [.int (Zi a), .ref (A 8)])) (fun _ => rfl) ?_
  refine Z_go (f2 := (6, [(0, .ref o), (1, .int (Zi a)), (2, .int (Zi z))], [.ref o, .int (Zi a), .ref (A 8)])) (fun _ => rfl) ?_
  refine Z_go (f2 := (7, [(0, .ref o), (1, .int (Zi a)), (2, .int (Zi z))], [.int (Zi a), .ref o, .int (Zi a), .ref (A 8)])) (fun _ => rfl) ?_
  refine C_callVR (As := [.int (Zi a)]) (rest := [.int (Zi a), .ref (A 8)]) rfl (by decide) rfl (by decide) rfl rfl (by decide +kernel) (Nat.le_of_ble_eq_true rfl) hs (hd).1.1 (C_t8 _ hd (i := a) (by first | exact hs.zF _ _ | exact Zor_r _ _ | exact hs.zA _ _ | assumption | exact zA _ _ | exact zS _ | exact Zr_not (hs.zA _ _) | exact hs.1.1 _ _ | exact ⟨by omega, by omega⟩)) (fun x q => ?_)
  obtain rfl := q
  show B_R _ _ (10, [(0, .ref o), (1, .int (Zi a)), (2, .int (Zi z))], [.int (Zi (T_gs τ a)), .int (Zi a), .ref (A 8)]) _ _ _
  refine Z_go (f2 := (11, [(0, .ref o), (1, .int (Zi a)), (2, .int (Zi z))], [.int (Zi z), .int (Zi (T_gs τ a)), .int (Zi a), .ref (A 8)])) (fun _ => rfl) ?_
  refine Z_iadd rfl ?_
  refine Z_go (f2 := (14, [(0, .ref o), (1, .int (Zi a)), (2, .int (Zi z))], [.int (Zi 1000000), .int (Zi (T_gs τ a + z)), .int (Zi a), .ref (A 8)])) (fun _ => rfl) ?_
  refine C_min rfl (by first | exact hs.zF _ _ | exact Zor_r _ _ | exact hs.zA _ _ | assumption | exact zA _ _ | exact zS _ | exact Zr_not (hs.zA _ _) | exact hs.1.1 _ _ | exact ⟨by omega, by omega⟩) (by first | exact hs.zF _ _ | exact Zor_r _ _ | exact hs.zA _ _ | assumption | exact zA _ _ | exact zS _ | exact Zr_not (hs.zA _ _) | exact hs.1.1 _ _ | exact ⟨by omega, by omega⟩) (Nat.le_of_ble_eq_true rfl) ?_
  generalize ey : (if 1000000 < (T_gs τ a + z) then 1000000 else T_gs τ a + z) = y
  have zy : Zr y := ⟨by omega, by omega⟩
  show B_R _ _ (17, [(0, .ref o), (1, .int (Zi a)), (2, .int (Zi z))], [.int (Zi y), .int (Zi a), .ref (A 8)]) _ _ _
  have ey2 : y = T_mn (T_gs τ a + z) := ey.symm
  have y1 : y ≤ 1000000 := by omega
  refine C_callS (vs := [.ref (A 8), .int (Zi a), .int (Zi y)]) (rest := []) rfl (by decide) rfl rfl rfl (Nat.le_of_ble_eq_true rfl) hs (C_storeT _ hd (f := 8) (by decide) (i := a) (v := y) (by first | exact hs.zF _ _ | exact Zor_r _ _ | exact hs.zA _ _ | assumption | exact zA _ _ | exact zS _ | exact Zr_not (hs.zA _ _) | exact hs.1.1 _ _ | exact ⟨by omega, by omega⟩) (by first | exact hs.zF _ _ | exact Zor_r _ _ | exact hs.zA _ _ | assumption | exact zA _ _ | exact zS _ | exact Zr_not (hs.zA _ _) | exact hs.1.1 _ _ | exact ⟨by omega, by omega⟩)) (fun x h v94 n94 hs q => ?_)
  obtain ⟨rfl, rfl, hd94, fr94, en94⟩ := q
  show B_R _ _ (20, [(0, .ref o), (1, .int (Zi a)), (2, .int (Zi z))], []) _ _ _
  refine Z_ret rfl rfl ⟨_, hs, ?_⟩
  try dsimp only
  unfold T_gr
  rw [← ey2]
  exact ⟨rfl, rfl, fr94, en94, hd94, T_zb_st8 hz y1⟩
theorem C_append (d : Nat) {s : C_S} {p : List Nat} {o : Nat} {A : Nat → Nat} {m sm : Int} {τ : Nat → Int → Int} {β : Int → Int64} {a i : Int} (hd : D_Tr s p o A m sm τ β) (hz : T_zb τ) (za : Zr a) (zi : Zr i) : C_ok (d + 4) 124 [.ref o, .int (Zi a), .int (Zi i)] s (fun x s2 n => x = none ∧ n = 0 ∧ C_fr (fun t => t = p) s s2 ∧ C_n s2 = C_n s ∧ D_Tr s2 p o A m sm (T_ap τ a i) β ∧ T_zb (T_ap τ a i)) := by
  refine C_enter (M := E_m124) rfl (Nat.le_of_ble_eq_true rfl) (fun h0 h hs => ?_)
  show B_R (d + 3) _ (0, [(0, .ref o), (1, .int (Zi a)), (2, .int (Zi i))], []) _ _ _
  refine Z_go (f2 := (1, [(0, .ref o), (1, .int (Zi a)), (2, .int (Zi i))], [.ref o])) (fun _ => rfl) ?_
  refine Z_go (f2 := (2, [(0, .ref o), (1, .int (Zi a)), (2, .int (Zi i))], [.int (Zi a), .ref o])) (fun _ => rfl) ?_
  refine C_callVR (As := [.int (Zi a)]) (rest := []) rfl (by decide) rfl (by decide) rfl rfl (by decide +kernel) (Nat.le_of_ble_eq_true rfl) hs (hd).1.1 (C_t2 _ hd (i := a) (by first | exact hs.zF _ _ | exact Zor_r _ _ | exact hs.zA _ _ | assumption | exact zA _ _ | exact zS _ | exact Zr_not (hs.zA _ _) | exact hs.1.1 _ _ | exact ⟨by omega, by omega⟩)) (fun x q => ?_)
  obtain rfl := q
  have ztg := T_g_zr hs hd (f := 2) (by decide) a
  show B_R _ _ (5, [(0, .ref o), (1, .int (Zi a)), (2, .int (Zi i))], [.int (Zi (T_g τ 2 a))]) _ _ _
  refine Z_go (f2 := (6, [(3, .int (Zi (T_g τ 2 a))), (0, .ref o), (1, .int (Zi a)), (2, .int (Zi i))], [])) (fun _ => rfl) ?_
  refine Z_go (f2 := (7, [(3, .int (Zi (T_g τ 2 a))), (0, .ref o), (1, .int (Zi a)), (2, .int (Zi i))], [.ref o])) (fun _ => rfl) ?_
  refine C_gr rfl hs (hd).1.1 (by decide) (Nat.le_of_ble_eq_true rfl) rfl ((hd).2.1 4 (by decide)).1 ?_
  refine Z_go (f2 := (11, [(3, .int (Zi (T_g τ 2 a))), (0, .ref o), (1, .int (Zi a)), (2, .int (Zi i))], [.int (Zi i), .ref (A 4)])) (fun _ => rfl) ?_
  refine Z_go (f2 := (12, [(3, .int (Zi (T_g τ 2 a))), (0, .ref o), (1, .int (Zi a)), (2, .int (Zi i))], [.int (Zi (T_g τ 2 a)), .int (Zi i), .ref (A 4)])) (fun _ => rfl) ?_
  refine C_callS (vs := [.ref (A 4), .int (Zi i), .int (Zi (T_g τ 2 a))]) (rest := []) rfl (by decide) rfl rfl rfl (Nat.le_of_ble_eq_true rfl) hs (C_storeT _ hd (f := 4) (by decide) (i := i) (v := T_g τ 2 a) (by first | exact hs.zF _ _ | exact Zor_r _ _ | exact hs.zA _ _ | assumption | exact zA _ _ | exact zS _ | exact Zr_not (hs.zA _ _) | exact hs.1.1 _ _ | exact ⟨by omega, by omega⟩) (by first | exact hs.zF _ _ | exact Zor_r _ _ | exact hs.zA _ _ | assumption | exact zA _ _ | exact zS _ | exact Zr_not (hs.zA _ _) | exact hs.1.1 _ _ | exact ⟨by omega, by omega⟩)) (fun x h v95 n95 hs q => ?_)
  obtain ⟨rfl, rfl, hd95, fr95, en95⟩ := q
  show B_R _ _ (15, [(3, .int (Zi (T_g τ 2 a))), (0, .ref o), (1, .int (Zi a)), (2, .int (Zi i))], []) _ _ _
  refine Z_go (f2 := (16, [(3, .int (Zi (T_g τ 2 a))), (0, .ref o), (1, .int (Zi a)), (2, .int (Zi i))], [.ref o])) (fun _ => rfl) ?_
  refine C_gr rfl hs (hd95).1.1 (by decide) (Nat.le_of_ble_eq_true rfl) rfl ((hd95).2.1 2 (by decide)).1 ?_
  refine Z_go (f2 := (20, [(3, .int (Zi (T_g τ 2 a))), (0, .ref o), (1, .int (Zi a)), (2, .int (Zi i))], [.int (Zi a), .ref (A 2)])) (fun _ => rfl) ?_
  refine Z_go (f2 := (21, [(3, .int (Zi (T_g τ 2 a))), (0, .ref o), (1, .int (Zi a)), (2, .int (Zi i))], [.int (Zi i), .int (Zi a), .ref (A 2)])) (fun _ => rfl) ?_
  refine C_callS (vs := [.ref (A 2), .int (Zi a), .int (Zi i)]) (rest := []) rfl (by decide) rfl rfl rfl (Nat.le_of_ble_eq_true rfl) hs (C_storeT _ hd95 (f := 2) (by decide) (i := a) (v := i) (by first | exact hs.zF _ _ | exact Zor_r _ _ | exact hs.zA _ _ | assumption | exact zA _ _ | exact zS _ | exact Zr_not (hs.zA _ _) | exact hs.1.1 _ _ | exact ⟨by omega, by omega⟩) (by first | exact hs.zF _ _ | exact Zor_r _ _ | exact hs.zA _ _ | assumption | exact zA _ _ | exact zS _ | exact Zr_not (hs.zA _ _) | exact hs.1.1 _ _ | exact ⟨by omega, by omega⟩)) (fun x h v96 n96 hs q => ?_)
  obtain ⟨rfl, rfl, hd96, fr96, en96⟩ := q
  show B_R _ _ (24, [(3, .int (Zi (T_g τ 2 a))), (0, .ref o), (1, .int (Zi a)), (2, .int (Zi i))], []) _ _ _
  refine Z_go (f2 := (25, [(3, .int (Zi (T_g τ 2 a))), (0, .ref o), (1, .int (Zi a)), (2, .int (Zi i))], [.int (Zi (T_g τ 2 a))])) (fun _ => rfl) ?_
  refine Z_go (f2 := (26, [(3, .int (Zi (T_g τ 2 a))), (0, .ref o), (1, .int (Zi a)), (2, .int (Zi i))], [.int (Zi (-1)), .int (Zi (T_g τ 2 a))])) (fun _ => rfl) ?_
  refine Z_cne rfl rfl (by first | exact hs.zF _ _ | exact Zor_r _ _ | exact hs.zA _ _ | assumption | exact zA _ _ | exact zS _ | exact Zr_not (hs.zA _ _) | exact hs.1.1 _ _ | exact ⟨by omega, by omega⟩) (by first | exact hs.zF _ _ | exact Zor_r _ _ | exact hs.zA _ _ | assumption | exact zA _ _ | exact zS _ | exact Zr_not (hs.zA _ _) | exact hs.1.1 _ _ | exact ⟨by omega, by omega⟩) (fun c1 => ?_) (fun c1 => ?_)
  · refine Z_go (f2 := (42, [(3, .int (Zi (T_g τ 2 a))), (0, .ref o), (1, .int (Zi a)), (2, .int (Zi i))], [.ref o])) (fun _ => rfl) ?_
    refine C_gr rfl hs (hd96).1.1 (by decide) (Nat.le_of_ble_eq_true rfl) rfl ((hd96).2.1 3 (by decide)).1 ?_
    refine Z_go (f2 := (46, [(3, .int (Zi (T_g τ 2 a))), (0, .ref o), (1, .int (Zi a)), (2, .int (Zi i))], [.int (Zi (T_g τ 2 a)), .ref (A 3)])) (fun _ => rfl) ?_
    refine Z_go (f2 := (47, [(3, .int (Zi (T_g τ 2 a))), (0, .ref o), (1, .int (Zi a)), (2, .int (Zi i))], [.int (Zi i), .int (Zi (T_g τ 2 a)), .ref (A 3)])) (fun _ => rfl) ?_
    refine C_callS (vs := [.ref (A 3), .int (Zi (T_g τ 2 a)), .int (Zi i)]) (rest := []) rfl (by decide) rfl rfl rfl (Nat.le_of_ble_eq_true rfl) hs (C_storeT _ hd96 (f := 3) (by decide) (i := T_g τ 2 a) (v := i) (by first | exact hs.zF _ _ | exact Zor_r _ _ | exact hs.zA _ _ | assumption | exact zA _ _ | exact zS _ | exact Zr_not (hs.zA _ _) | exact hs.1.1 _ _ | exact ⟨by omega, by omega⟩) (by first | exact hs.zF _ _ | exact Zor_r _ _ | exact hs.zA _ _ | assumption | exact zA _ _ | exact zS _ | exact Zr_not (hs.zA _ _) | exact hs.1.1 _ _ | exact ⟨by omega, by omega⟩)) (fun x h v97 n97 hs q => ?_)
    obtain ⟨rfl, rfl, hd97, fr97, en97⟩ := q
    show B_R _ _ (50, [(3, .int (Zi (T_g τ 2 a))), (0, .ref o), (1, .int (Zi a)), (2, .int (Zi i))], []) _ _ _
    have et : T_st (T_st (T_st τ 4 i (T_g τ 2 a)) 2 a i) 3 (T_g τ 2 a) i = T_ap1 τ a i := (if_neg (by omega) : T_ap1 τ a i = _).symm
    have hz9 : T_zb (T_st (T_st (T_st τ 4 i (T_g τ 2 a)) 2 a i) 3 (T_g τ 2 a) i) := T_zb_st (T_zb_st (T_zb_st hz (by decide)) (by decide)) (by decide)
    have hb9 := T_gs_b hz9 i
    refine Z_go (f2 := (51, [(3, .int (Zi (T_g τ 2 a))), (0, .ref o), (1, .int (Zi a)), (2, .int (Zi i))], [.ref o])) (fun _ => rfl) ?_
    refine Z_go (f2 := (52, [(3, .int (Zi (T_g τ 2 a))), (0, .ref o), (1, .int (Zi a)), (2, .int (Zi i))], [.int (Zi a), .ref o])) (fun _ => rfl) ?_
    refine Z_go (f2 := (53, [(3, .int (Zi (T_g τ 2 a))), (0, .ref o), (1, .int (Zi a)), (2, .int (Zi i))], [.ref o, .int (Zi a), .ref o])) (fun _ => rfl) ?_
    refine Z_go (f2 := (54, [(3, .int (Zi (T_g τ 2 a))), (0, .ref o), (1, .int (Zi a)), (2, .int (Zi i))], [.int (Zi i), .ref o, .int (Zi a), .ref o])) (fun _ => rfl) ?_
    refine C_callVR (As := [.int (Zi i)]) (rest := [.int (Zi a), .ref o]) rfl (by decide) rfl (by decide) rfl rfl (by decide +kernel) (Nat.le_of_ble_eq_true rfl) hs (hd97).1.1 (C_t8 _ hd97 (i := i) (by first | exact hs.zF _ _ | exact Zor_r _ _ | exact hs.zA _ _ | assumption | exact zA _ _ | exact zS _ | exact Zr_not (hs.zA _ _) | exact hs.1.1 _ _ | exact ⟨by omega, by omega⟩)) (fun x q => ?_)
    obtain rfl := q
    show B_R _ _ (57, [(3, .int (Zi (T_g τ 2 a))), (0, .ref o), (1, .int (Zi a)), (2, .int (Zi i))], [.int (Zi (T_gs (T_st (T_st (T_st τ 4 i (T_g τ 2 a)) 2 a i) 3 (T_g τ 2 a) i) i)), .int (Zi a), .ref o]) _ _ _
    refine C_callV (As := [.int (Zi a), .int (Zi (T_gs (T_st (T_st (T_st τ 4 i (T_g τ 2 a)) 2 a i) 3 (T_g τ 2 a) i) i))]) (rest := []) rfl (by decide) rfl (by decide) rfl rfl (by decide +kernel) (Nat.le_of_ble_eq_true rfl) hs (hd97).1.1 (C_trgrow _ hd97 hz9 (by first | exact hs.zF _ _ | exact Zor_r _ _ | exact hs.zA _ _ | assumption | exact zA _ _ | exact zS _ | exact Zr_not (hs.zA _ _) | exact hs.1.1 _ _ | exact ⟨by omega, by omega⟩) (by omega) (by omega)) (fun x h v99 n99 hs q => ?_)
    obtain ⟨rfl, rfl, fr99, en99, hd99, hz99⟩ := q
    show B_R _ _ (60, [(3, .int (Zi (T_g τ 2 a))), (0, .ref o), (1, .int (Zi a)), (2, .int (Zi i))], []) _ _ _
    refine Z_ret rfl rfl ⟨_, hs, ?_⟩
    try dsimp only
    rw [et] at hd99 hz99
    exact ⟨rfl, rfl, ((fr95.tr fr96).tr fr97).tr fr99, by rw [en99, en97, en96, en95], hd99, hz99⟩
  · refine Z_go (f2 := (30, [(3, .int (Zi (T_g τ 2 a))), (0, .ref o), (1, .int (Zi a)), (2, .int (Zi i))], [.ref o])) (fun _ => rfl) ?_
    refine C_gr rfl hs (hd96).1.1 (by decide) (Nat.le_of_ble_eq_true rfl) rfl ((hd96).2.1 1 (by decide)).1 ?_
    refine Z_go (f2 := (34, [(3, .int (Zi (T_g τ 2 a))), (0, .ref o), (1, .int (Zi a)), (2, .int (Zi i))], [.int (Zi a), .ref (A 1)])) (fun _ => rfl) ?_
    refine Z_go (f2 := (35, [(3, .int (Zi (T_g τ 2 a))), (0, .ref o), (1, .int (Zi a)), (2, .int (Zi i))], [.int (Zi i), .int (Zi a), .ref (A 1)])) (fun _ => rfl) ?_
    refine C_callS (vs := [.ref (A 1), .int (Zi a), .int (Zi i)]) (rest := []) rfl (by decide) rfl rfl rfl (Nat.le_of_ble_eq_true rfl) hs (C_storeT _ hd96 (f := 1) (by decide) (i := a) (v := i) (by first | exact hs.zF _ _ | exact Zor_r _ _ | exact hs.zA _ _ | assumption | exact zA _ _ | exact zS _ | exact Zr_not (hs.zA _ _) | exact hs.1.1 _ _ | exact ⟨by omega, by omega⟩) (by first | exact hs.zF _ _ | exact Zor_r _ _ | exact hs.zA _ _ | assumption | exact zA _ _ | exact zS _ | exact Zr_not (hs.zA _ _) | exact hs.1.1 _ _ | exact ⟨by omega, by omega⟩)) (fun x h v98 n98 hs q => ?_)
    obtain ⟨rfl, rfl, hd98, fr98, en98⟩ := q
    show B_R _ _ (38, [(3, .int (Zi (T_g τ 2 a))), (0, .ref o), (1, .int (Zi a)), (2, .int (Zi i))], []) _ _ _
    refine Z_go (f2 := (50, [(3, .int (Zi (T_g τ 2 a))), (0, .ref o), (1, .int (Zi a)), (2, .int (Zi i))], [])) (fun _ => rfl) ?_
    have et : T_st (T_st (T_st τ 4 i (T_g τ 2 a)) 2 a i) 1 a i = T_ap1 τ a i := (if_pos (by omega) : T_ap1 τ a i = _).symm
    have hz9 : T_zb (T_st (T_st (T_st τ 4 i (T_g τ 2 a)) 2 a i) 1 a i) := T_zb_st (T_zb_st (T_zb_st hz (by decide)) (by decide)) (by decide)
    have hb9 := T_gs_b hz9 i
    refine Z_go (f2 := (51, [(3, .int (Zi (T_g τ 2 a))), (0, .ref o), (1, .int (Zi a)), (2, .int (Zi i))], [.ref o])) (fun _ => rfl) ?_
    refine Z_go (f2 := (52, [(3, .int (Zi (T_g τ 2 a))), (0, .ref o), (1, .int (Zi a)), (2, .int (Zi i))], [.int (Zi a), .ref o])) (fun _ => rfl) ?_
    refine Z_go (f2 := (53, [(3, .int (Zi (T_g τ 2 a))), (0, .ref o), (1, .int (Zi a)), (2, .int (Zi i))], [.ref o, .int (Zi a), .ref o])) (fun _ => rfl) ?_
    refine Z_go (f2 := (54, [(3, .int (Zi (T_g τ 2 a))), (0, .ref o), (1, .int (Zi a)), (2, .int (Zi i))], [.int (Zi i), .ref o, .int (Zi a), .ref o])) (fun _ => rfl) ?_
    refine C_callVR (As := [.int (Zi i)]) (rest := [.int (Zi a), .ref o]) rfl (by decide) rfl (by decide) rfl rfl (by decide +kernel) (Nat.le_of_ble_eq_true rfl) hs (hd98).1.1 (C_t8 _ hd98 (i := i) (by first | exact hs.zF _ _ | exact Zor_r _ _ | exact hs.zA _ _ | assumption | exact zA _ _ | exact zS _ | exact Zr_not (hs.zA _ _) | exact hs.1.1 _ _ | exact ⟨by omega, by omega⟩)) (fun x q => ?_)
    obtain rfl := q
    show B_R _ _ (57, [(3, .int (Zi (T_g τ 2 a))), (0, .ref o), (1, .int (Zi a)), (2, .int (Zi i))], [.int (Zi (T_gs (T_st (T_st (T_st τ 4 i (T_g τ 2 a)) 2 a i) 1 a i) i)), .int (Zi a), .ref o]) _ _ _
    refine C_callV (As := [.int (Zi a), .int (Zi (T_gs (T_st (T_st (T_st τ 4 i (T_g τ 2 a)) 2 a i) 1 a i) i))]) (rest := []) rfl (by decide) rfl (by decide) rfl rfl (by decide +kernel) (Nat.le_of_ble_eq_true rfl) hs (hd98).1.1 (C_trgrow _ hd98 hz9 (by first | exact hs.zF _ _ | exact Zor_r _ _ | exact hs.zA _ _ | assumption | exact zA _ _ | exact zS _ | exact Zr_not (hs.zA _ _) | exact hs.1.1 _ _ | exact ⟨by omega, by omega⟩) (by omega) (by omega)) (fun x h v99 n99 hs q => ?_)
    obtain ⟨rfl, rfl, fr99, en99, hd99, hz99⟩ := q
    show B_R _ _ (60, [(3, .int (Zi (T_g τ 2 a))), (0, .ref o), (1, .int (Zi a)), (2, .int (Zi i))], []) _ _ _
    refine Z_ret rfl rfl ⟨_, hs, ?_⟩
    try dsimp only
    rw [et] at hd99 hz99
    exact ⟨rfl, rfl, ((fr95.tr fr96).tr fr98).tr fr99, by rw [en99, en98, en96, en95], hd99, hz99⟩
