/-! the class: Parser: its state, what it sees, faults, numbers, single bytes -/
/-- the parser at o, but for its tree -/
def D_P0 (s : C_S) (p : List Nat) (o tr src N : Nat) (S : Int → Int) (nn fo f pl a : Int) : Prop := (C_K s o = (11, 0) ∧ C_T s o = p ∧ C_P s o 0 = some tr ∧ C_P s o 3 = some src ∧ C_K s src = (1, N) ∧ ¬ p <+: C_T s src ∧ C_F s o 1 = f ∧ C_F s o 2 = pl ∧ C_F s o 4 = nn ∧ C_F s o 5 = a ∧ C_F s o 6 = fo ∧ (f = 0 → pl = -1)) ∧ (∀ k : Int, 0 ≤ k → k < nn → C_A s src k % 256 = S k ∧ 0 ≤ S k ∧ S k < 256) ∧ (∀ k, nn ≤ k → S k = -1) ∧ nn ≤ N ∧ 0 ≤ nn ∧ nn ≤ 80
def D_Pf (p : List Nat) (s u : C_S) : Prop := C_fr (fun t => p <+: t) s u ∧ C_n u = C_n s
theorem D_Pf.refl (p : List Nat) (s : C_S) : D_Pf p s s := ⟨C_fr.refl _ _, rfl⟩
theorem D_Pf.tr {p : List Nat} {s u v : C_S} (h : D_Pf p s u) (g : D_Pf p u v) : D_Pf p s v := ⟨h.1.tr g.1, g.2.trans h.2⟩
theorem D_Pf.on {p : List Nat} {x : Nat} {s u v : C_S} (h : D_Pf p s u) (g : C_fr (fun t => t = p ++ [x]) u v) (e : C_n v = C_n u) : D_Pf p s v := h.tr ⟨g.weak (fun t e => by rw [e]; exact L_pre_one p x), e⟩
theorem D_Pf.sF {p : List Nat} {s u : C_S} (h : D_Pf p s u) {o b : Nat} {z : Int} (ho : C_T u o = p) : D_Pf p s (C_sF u o b z) := h.tr ⟨(C_fr.refl _ _).sF (by rw [ho]; exact L_pre_self p), rfl⟩
def D_Po (p : List Nat) (s u : C_S) : Prop := C_fr (fun t => t = p) s u ∧ C_n u = C_n s
theorem D_Po.refl (p : List Nat) (s : C_S) : D_Po p s s := ⟨C_fr.refl _ _, rfl⟩
theorem D_Po.tr {p : List Nat} {s u v : C_S} (h : D_Po p s u) (g : D_Po p u v) : D_Po p s v := ⟨h.1.tr g.1, g.2.trans h.2⟩
theorem D_Po.sF {p : List Nat} {s u : C_S} (h : D_Po p s u) {o b : Nat} {z : Int} (ho : C_T u o = p) : D_Po p s (C_sF u o b z) := h.tr ⟨(C_fr.refl _ _).sF ho, rfl⟩
theorem D_Po.pf {p : List Nat} {s u : C_S} (h : D_Po p s u) : D_Pf p s u := ⟨h.1.weak (fun t e => by rw [e]; exact L_pre_self p), h.2⟩
theorem D_Pf.trO {p : List Nat} {s u v : C_S} (h : D_Pf p s u) (g : D_Po p u v) : D_Pf p s v := h.tr g.pf
theorem D_Tr.po {p : List Nat} {s u : C_S} {tr x : Nat} {A : Nat → Nat} {m sm : Int} {τ : Nat → Int → Int} {β : Int → Int64} (h : D_Tr s (p ++ [x]) tr A m sm τ β) (w : C_wf s) (g : D_Po p s u) : D_Tr u (p ++ [x]) tr A m sm τ β := h.fr w g.1 (fun e => L_app_ne p x e.symm)
section PP
variable {s : C_S} {p : List Nat} {o tr src N : Nat} {S : Int → Int} {nn fo f pl a : Int}
theorem D_P0.ff (hp : D_P0 s p o tr src N S nn fo f pl a) (v : Int) (hv : v ≠ 0) : D_P0 (C_sF s o 1 v) p o tr src N S nn fo v pl a := by
  obtain ⟨⟨h1, h2, h3, h4, h5, h6, h7, h8, h9, h10, h11, h12⟩, g⟩ := hp
  exact ⟨⟨h1, h2, h3, h4, h5, h6, if_pos ⟨rfl, rfl⟩, (if_neg (by omega)).trans h8, (if_neg (by omega)).trans h9, (if_neg (by omega)).trans h10, (if_neg (by omega)).trans h11, fun e => absurd e hv⟩, g⟩
theorem D_P0.pp (hp : D_P0 s p o tr src N S nn fo f pl a) (v : Int) (hf : f ≠ 0) : D_P0 (C_sF s o 2 v) p o tr src N S nn fo f v a := by
  obtain ⟨⟨h1, h2, h3, h4, h5, h6, h7, h8, h9, h10, h11, h12⟩, g⟩ := hp
  exact ⟨⟨h1, h2, h3, h4, h5, h6, (if_neg (by omega)).trans h7, if_pos ⟨rfl, rfl⟩, (if_neg (by omega)).trans h9, (if_neg (by omega)).trans h10, (if_neg (by omega)).trans h11, fun e => absurd e hf⟩, g⟩
theorem D_P0.aa (hp : D_P0 s p o tr src N S nn fo f pl a) (v : Int) : D_P0 (C_sF s o 5 v) p o tr src N S nn fo f pl v := by
  obtain ⟨⟨h1, h2, h3, h4, h5, h6, h7, h8, h9, h10, h11, h12⟩, g⟩ := hp
  exact ⟨⟨h1, h2, h3, h4, h5, h6, (if_neg (by omega)).trans h7, (if_neg (by omega)).trans h8, (if_neg (by omega)).trans h9, if_pos ⟨rfl, rfl⟩, (if_neg (by omega)).trans h11, h12⟩, g⟩
theorem D_P0.fr {X : List Nat → Prop} {u : C_S} (hp : D_P0 s p o tr src N S nn fo f pl a) (w : C_wf s) (k : C_fr X s u) (h1 : ¬ X p) (h2 : ¬ X (C_T s src)) : D_P0 u p o tr src N S nn fo f pl a := by
  obtain ⟨⟨q1, q2, q3, q4, q5, q6, q7, q8, q9, q10, q11, q12⟩, g1, g2⟩ := hp
  have lo := C_lt w q1 (show 11 < 20 by decide)
  have ls := C_lt w q5 (show 1 < 20 by decide)
  obtain ⟨e1, e2, e3, e4, e5⟩ := k.2.2.1 o lo (by rw [q2]; exact h1)
  obtain ⟨b1, b2, b3, b4, b5⟩ := k.2.2.1 src ls h2
  refine ⟨⟨by rw [(k.2.1 o lo).1]; exact q1, by rw [(k.2.1 o lo).2]; exact q2, by rw [e2]; exact q3, by rw [e2]; exact q4, by rw [(k.2.1 src ls).1]; exact q5, by rw [(k.2.1 src ls).2]; exact q6, by rw [e1]; exact q7, by rw [e1]; exact q8, by rw [e1]; exact q9, by rw [e1]; exact q10, by rw [e1]; exact q11, q12⟩, fun k k0 k1 => by rw [b3]; exact g1 k k0 k1, g2⟩
theorem D_P0.sub {u : C_S} (hp : D_P0 s p o tr src N S nn fo f pl a) (w : C_wf s) {x : Nat} (k : C_fr (fun t => t = p ++ [x]) s u) : D_P0 u p o tr src N S nn fo f pl a := hp.fr w k (fun e => L_app_ne p x e) (fun e => hp.1.2.2.2.2.2.1 (by rw [e]; exact L_pre_one p x))
theorem D_P0.r (hp : D_P0 s p o tr src N S nn fo f pl a) (k : Int) (k0 : 0 ≤ k) : -1 ≤ S k ∧ S k < 256 ∧ (S k = -1 ↔ nn ≤ k) := by
  by_cases c : k < nn
  · have := hp.2.1 k k0 c
    exact ⟨by omega, by omega, by omega⟩
  · have := hp.2.2.1 k (by omega)
    exact ⟨by omega, by omega, by omega⟩
theorem D_P0.z {h0 h : E_H} (hs : C_is h0 h s) (hp : D_P0 s p o tr src N S nn fo f pl a) : Zr f ∧ Zr pl ∧ Zr a ∧ Zr nn ∧ Zr fo := by
  obtain ⟨⟨q1, q2, q3, q4, q5, q6, q7, q8, q9, q10, q11, _⟩, g⟩ := hp
  rw [← q7, ← q8, ← q9, ← q10, ← q11]
  exact ⟨hs.zF _ _, hs.zF _ _, hs.zF _ _, hs.zF _ _, hs.zF _ _⟩
end PP
/-- how a reading ends -/
def P_say {α : Type} (r : P_R α) (f pl : Int) (good : α → Int → Prop) : Prop := match r with
  | .inl (k, w) => f = k ∧ pl = w ∧ k ≠ 0
  | .inr (v, b) => f = 0 ∧ good v b
theorem P_say.ok {α : Type} {r : P_R α} {v : α} {b pl : Int} {good : α → Int → Prop} (e : r = .inr (v, b)) (h : good v b) : P_say r 0 pl good := by
  subst e
  exact ⟨rfl, h⟩
theorem P_say.no {α : Type} {r : P_R α} {k w : Int} {good : α → Int → Prop} (e : r = .inl (k, w)) (h : k ≠ 0) : P_say r k w good := by
  subst e
  exact ⟨rfl, rfl, h⟩
theorem P_say.bad {α : Type} {r : P_R α} {f pl : Int} {good : α → Int → Prop} (h : P_say r f pl good) (hf : f ≠ 0) : r = .inl (f, pl) := by
  cases r using P_R_el with
  | bad k w => obtain ⟨rfl, rfl, _⟩ := (h : _ ∧ _ ∧ _); rfl
  | ok v b => exact absurd (h : _ ∧ _).1 hf
theorem P_say.good {α : Type} {r : P_R α} {f pl : Int} {good : α → Int → Prop} (h : P_say r f pl good) (hf : f = 0) : ∃ v b, r = .inr (v, b) ∧ good v b := by
  cases r using P_R_el with
  | bad k w => exact absurd ((h : _ ∧ _ ∧ _).1.symm.trans hf) (h : _ ∧ _ ∧ _).2.2
  | ok v b => exact ⟨v, b, rfl, (h : _ ∧ _).2⟩
theorem C_peek (d : Nat) {s : C_S} {p : List Nat} {o tr src N : Nat} {S : Int → Int} {nn fo f pl a : Int} (hp : D_P0 s p o tr src N S nn fo f pl a) (a0 : 0 ≤ a) : C_rd (d + 2) 34 [.ref o] s (fun x => x = some (.int (Zi (S a)))) := by
  refine C_enterR (M := E_m34) rfl (Nat.le_of_ble_eq_true rfl) (fun h0 h hs => ?_)
  show B_R (d + 1) _ (0, [(0, .ref o)], []) _ _ _
  have hz := hp.z hs
  have hr := hp.r a a0
  have zf := hz.1
  have za := hz.2.2.1
  have zn := hz.2.2.2.1
  refine Z_go (f2 := (1, [(0, .ref o)], [.ref o])) (fun _ => rfl) ?_
  refine C_gi rfl hs hp.1.1 (by decide) (Nat.le_of_ble_eq_true rfl) rfl ?_
  rw [show C_F (s) o 5 = a from (by first | exact hp.1.2.2.2.2.2.2.2.2.2.1 | exact (if_neg (fun e => absurd e.1 (by assumption))).trans hp.1.2.2.2.2.2.2.2.2.2.1 | exact (if_neg (fun e => absurd e.2 (by decide))).trans hp.1.2.2.2.2.2.2.2.2.2.1 | exact (if_neg (fun e => absurd e.2 (by decide))).trans ((if_neg (fun e => absurd e.2 (by decide))).trans hp.1.2.2.2.2.2.2.2.2.2.1) | exact (if_neg (fun e => absurd e.2 (by decide))).trans ((if_neg (fun e => absurd e.2 (by decide))).trans ((if_neg (fun e => absurd e.2 (by decide))).trans hp.1.2.2.2.2.2.2.2.2.2.1)))]
  show B_R _ _ (4, [(0, .ref o)], [.int (Zi a)]) _ _ _
  refine Z_go (f2 := (5, [(0, .ref o)], [.ref o, .int (Zi a)])) (fun _ => rfl) ?_
  refine C_gi rfl hs hp.1.1 (by decide) (Nat.le_of_ble_eq_true rfl) rfl ?_
  rw [show C_F (s) o 4 = nn from (by first | exact hp.1.2.2.2.2.2.2.2.2.1 | exact (if_neg (fun e => absurd e.1 (by assumption))).trans hp.1.2.2.2.2.2.2.2.2.1 | exact (if_neg (fun e => absurd e.2 (by decide))).trans hp.1.2.2.2.2.2.2.2.2.1 | exact (if_neg (fun e => absurd e.2 (by decide))).trans ((if_neg (fun e => absurd e.2 (by decide))).trans hp.1.2.2.2.2.2.2.2.2.1) | exact (if_neg (fun e => absurd e.2 (by decide))).trans ((if_neg (fun e => absurd e.2 (by decide))).trans ((if_neg (fun e => absurd e.2 (by decide))).trans hp.1.2.2.2.2.2.2.2.2.1)))]
  show B_R _ _ (8, [(0, .ref o)], [.int (Zi nn), .int (Zi a)]) _ _ _
  refine Z_cge rfl rfl (by first | exact hs.zF _ _ | exact Zor_r _ _ | exact hs.zA _ _ | assumption | exact zA _ _ | exact zS _ | exact Zr_not (hs.zA _ _) | exact hs.1.1 _ _ | exact ⟨by omega, by omega⟩) (by first | exact hs.zF _ _ | exact Zor_r _ _ | exact hs.zA _ _ | assumption | exact zA _ _ | exact zS _ | exact Zr_not (hs.zA _ _) | exact hs.1.1 _ _ | exact ⟨by omega, by omega⟩) (fun c1 => ?_) (fun c1 => ?_)
  · refine Z_go (f2 := (26, [(0, .ref o)], [.int (Zi (-1))])) (fun _ => rfl) ?_
    refine Z_iret rfl rfl (by first | rfl | decide | exact narrow_b01 (by omega)) ⟨rfl, rfl, ?_⟩
    try dsimp only
    rw [hr.2.2.mpr (by omega)]
  · refine Z_go (f2 := (12, [(0, .ref o)], [.ref o])) (fun _ => rfl) ?_
    refine C_gr rfl hs hp.1.1 (by decide) (Nat.le_of_ble_eq_true rfl) rfl hp.1.2.2.2.1 ?_
    refine Z_go (f2 := (16, [(0, .ref o)], [.ref o, .ref src])) (fun _ => rfl) ?_
    refine C_gi rfl hs hp.1.1 (by decide) (Nat.le_of_ble_eq_true rfl) rfl ?_
    rw [show C_F (s) o 5 = a from (by first | exact hp.1.2.2.2.2.2.2.2.2.2.1 | exact (if_neg (fun e => absurd e.1 (by assumption))).trans hp.1.2.2.2.2.2.2.2.2.2.1 | exact (if_neg (fun e => absurd e.2 (by decide))).trans hp.1.2.2.2.2.2.2.2.2.2.1 | exact (if_neg (fun e => absurd e.2 (by decide))).trans ((if_neg (fun e => absurd e.2 (by decide))).trans hp.1.2.2.2.2.2.2.2.2.2.1) | exact (if_neg (fun e => absurd e.2 (by decide))).trans ((if_neg (fun e => absurd e.2 (by decide))).trans ((if_neg (fun e => absurd e.2 (by decide))).trans hp.1.2.2.2.2.2.2.2.2.2.1)))]
    show B_R _ _ (19, [(0, .ref o)], [.int (Zi a), .ref src]) _ _ _
    refine C_callSR (vs := [.ref src, .int (Zi a)]) (rest := []) rfl (by decide) rfl rfl rfl (Nat.le_of_ble_eq_true rfl) hs (C_byteOf _ hp.1.2.2.2.2.1 (i := a) (by first | exact hs.zF _ _ | exact Zor_r _ _ | exact hs.zA _ _ | assumption | exact zA _ _ | exact zS _ | exact Zr_not (hs.zA _ _) | exact hs.1.1 _ _ | exact ⟨by omega, by omega⟩)) (fun x q => ?_)
    rw [if_pos ⟨by omega, by have := hp.2.2.2.1; omega⟩, (hp.2.1 a (by omega) (by omega)).1] at q
    obtain rfl := q
    show B_R _ _ (22, [(0, .ref o)], [.int (Zi (S a))]) _ _ _
    refine Z_go (f2 := (26, [(0, .ref o)], [.int (Zi (S a))])) (fun _ => rfl) ?_
    refine Z_iret rfl rfl (by first | rfl | decide | exact narrow_b01 (by omega)) ⟨rfl, rfl, ?_⟩
    try dsimp only
    try rfl
theorem C_fail0 (d : Nat) {s : C_S} {p : List Nat} {o tr src N : Nat} {S : Int → Int} {nn fo pl a : Int} {kd wh : Int} (hp : D_P0 s p o tr src N S nn fo 0 pl a) (zk : Zr kd) (zw : Zr wh) : C_ok (d + 1) 33 [.ref o, .int (Zi kd), .int (Zi wh)] s (fun x s2 n => x = none ∧ n = 0 ∧ s2 = C_sF (C_sF s o 1 kd) o 2 wh) := by
  refine C_enter (M := E_m33) rfl (Nat.le_of_ble_eq_true rfl) (fun h0 h hs => ?_)
  show B_R (d + 0) _ (0, [(0, .ref o), (1, .int (Zi kd)), (2, .int (Zi wh))], []) _ _ _
  refine Z_go (f2 := (1, [(0, .ref o), (1, .int (Zi kd)), (2, .int (Zi wh))], [.ref o])) (fun _ => rfl) ?_
  refine C_gi rfl hs hp.1.1 (by decide) (Nat.le_of_ble_eq_true rfl) rfl ?_
  rw [show C_F (s) o 1 = 0 from (by first | exact hp.1.2.2.2.2.2.2.1 | exact (if_neg (fun e => absurd e.1 (by assumption))).trans hp.1.2.2.2.2.2.2.1 | exact (if_neg (fun e => absurd e.2 (by decide))).trans hp.1.2.2.2.2.2.2.1 | exact (if_neg (fun e => absurd e.2 (by decide))).trans ((if_neg (fun e => absurd e.2 (by decide))).trans hp.1.2.2.2.2.2.2.1) | exact (if_neg (fun e => absurd e.2 (by decide))).trans ((if_neg (fun e => absurd e.2 (by decide))).trans ((if_neg (fun e => absurd e.2 (by decide))).trans hp.1.2.2.2.2.2.2.1)))]
  show B_R _ _ (4, [(0, .ref o), (1, .int (Zi kd)), (2, .int (Zi wh))], [.int (Zi 0)]) _ _ _
  refine Z_ine rfl rfl (by first | exact hs.zF _ _ | exact Zor_r _ _ | exact hs.zA _ _ | assumption | exact zA _ _ | exact zS _ | exact Zr_not (hs.zA _ _) | exact hs.1.1 _ _ | exact ⟨by omega, by omega⟩) (fun c1 => ?_) (fun c1 => ?_)
  · exfalso; omega
  · refine Z_go (f2 := (8, [(0, .ref o), (1, .int (Zi kd)), (2, .int (Zi wh))], [.ref o])) (fun _ => rfl) ?_
    refine Z_go (f2 := (9, [(0, .ref o), (1, .int (Zi kd)), (2, .int (Zi wh))], [.int (Zi kd), .ref o])) (fun _ => rfl) ?_
    refine C_pi rfl hs hp.1.1 (by decide) (Nat.le_of_ble_eq_true rfl) (.inl rfl) rfl rfl rfl (by first | exact hs.zF _ _ | exact Zor_r _ _ | exact hs.zA _ _ | assumption | exact zA _ _ | exact zS _ | exact Zr_not (hs.zA _ _) | exact hs.1.1 _ _ | exact ⟨by omega, by omega⟩) (fun h hs => ?_)
    refine Z_go (f2 := (13, [(0, .ref o), (1, .int (Zi kd)), (2, .int (Zi wh))], [.ref o])) (fun _ => rfl) ?_
    refine Z_go (f2 := (14, [(0, .ref o), (1, .int (Zi kd)), (2, .int (Zi wh))], [.int (Zi wh), .ref o])) (fun _ => rfl) ?_
    refine C_pi rfl hs hp.1.1 (by decide) (Nat.le_of_ble_eq_true rfl) (.inl rfl) rfl rfl rfl (by first | exact hs.zF _ _ | exact Zor_r _ _ | exact hs.zA _ _ | assumption | exact zA _ _ | exact zS _ | exact Zr_not (hs.zA _ _) | exact hs.1.1 _ _ | exact ⟨by omega, by omega⟩) (fun h hs => ?_)
    refine Z_ret rfl rfl ⟨_, hs, ?_⟩
    try dsimp only
    exact ⟨rfl, rfl, rfl⟩
theorem C_fail1 (d : Nat) {s : C_S} {p : List Nat} {o tr src N : Nat} {S : Int → Int} {nn fo f pl a : Int} {kd wh : Int} (hp : D_P0 s p o tr src N S nn fo f pl a) (hf : f ≠ 0) : C_ok (d + 1) 33 [.ref o, .int (Zi kd), .int (Zi wh)] s (fun x s2 n => x = none ∧ n = 0 ∧ s2 = s) := by
  refine C_enter (M := E_m33) rfl (Nat.le_of_ble_eq_true rfl) (fun h0 h hs => ?_)
  show B_R (d + 0) _ (0, [(0, .ref o), (1, .int (Zi kd)), (2, .int (Zi wh))], []) _ _ _
  have zf := (hp.z hs).1
  refine Z_go (f2 := (1, [(0, .ref o), (1, .int (Zi kd)), (2, .int (Zi wh))], [.ref o])) (fun _ => rfl) ?_
  refine C_gi rfl hs hp.1.1 (by decide) (Nat.le_of_ble_eq_true rfl) rfl ?_
  rw [show C_F (s) o 1 = f from (by first | exact hp.1.2.2.2.2.2.2.1 | exact (if_neg (fun e => absurd e.1 (by assumption))).trans hp.1.2.2.2.2.2.2.1 | exact (if_neg (fun e => absurd e.2 (by decide))).trans hp.1.2.2.2.2.2.2.1 | exact (if_neg (fun e => absurd e.2 (by decide))).trans ((if_neg (fun e => absurd e.2 (by decide))).trans hp.1.2.2.2.2.2.2.1) | exact (if_neg (fun e => absurd e.2 (by decide))).trans ((if_neg (fun e => absurd e.2 (by decide))).trans ((if_neg (fun e => absurd e.2 (by decide))).trans hp.1.2.2.2.2.2.2.1)))]
  show B_R _ _ (4, [(0, .ref o), (1, .int (Zi kd)), (2, .int (Zi wh))], [.int (Zi f)]) _ _ _
  refine Z_ine rfl rfl (by first | exact hs.zF _ _ | exact Zor_r _ _ | exact hs.zA _ _ | assumption | exact zA _ _ | exact zS _ | exact Zr_not (hs.zA _ _) | exact hs.1.1 _ _ | exact ⟨by omega, by omega⟩) (fun c1 => ?_) (fun c1 => ?_)
  · refine Z_ret rfl rfl ⟨_, hs, ?_⟩
    try dsimp only
    exact ⟨rfl, rfl, rfl⟩
  · exfalso; omega
theorem C_num (d : Nat) {s : C_S} {p : List Nat} {o tr src N : Nat} {S : Int → Int} {nn fo pl a : Int} (hp : D_P0 s p o tr src N S nn fo 0 pl a) (a0 : 0 ≤ a) (an : a ≤ nn) : C_ok (d + 3) 40 [.ref o] s (fun x s2 n => n = 0 ∧ D_Po p s s2 ∧ ∃ f2 pl2 a2 v : Int, x = some (.int (Zi v)) ∧ D_P0 s2 p o tr src N S nn fo f2 pl2 a2 ∧ a ≤ a2 ∧ a2 ≤ a + 2 ∧ -1 ≤ v ∧ v < 256 ∧ P_say (P_num S a) f2 pl2 (fun v2 b => v = v2 ∧ a2 = b ∧ 0 ≤ v ∧ v ≤ 20)) := by
  refine C_enter (M := E_m40) rfl (Nat.le_of_ble_eq_true rfl) (fun h0 h hs => ?_)
  show B_R (d + 2) _ (0, [(0, .ref o)], []) _ _ _
  have hz := hp.z hs
  have za := hz.2.2.1
  have zn := hz.2.2.2.1
  have nn0 := hp.2.2.2.2.1
  have nn1 := hp.2.2.2.2.2
  refine Z_go (f2 := (1, [(0, .ref o)], [.ref o])) (fun _ => rfl) ?_
  refine C_gi rfl hs hp.1.1 (by decide) (Nat.le_of_ble_eq_true rfl) rfl ?_
  rw [show C_F (s) o 5 = a from (by first | exact hp.1.2.2.2.2.2.2.2.2.2.1 | exact (if_neg (fun e => absurd e.1 (by assumption))).trans hp.1.2.2.2.2.2.2.2.2.2.1 | exact (if_neg (fun e => absurd e.2 (by decide))).trans hp.1.2.2.2.2.2.2.2.2.2.1 | exact (if_neg (fun e => absurd e.2 (by decide))).trans ((if_neg (fun e => absurd e.2 (by decide))).trans hp.1.2.2.2.2.2.2.2.2.2.1) | exact (if_neg (fun e => absurd e.2 (by decide))).trans ((if_neg (fun e => absurd e.2 (by decide))).trans ((if_neg (fun e => absurd e.2 (by decide))).trans hp.1.2.2.2.2.2.2.2.2.2.1)))]
  show B_R _ _ (4, [(0, .ref o)], [.int (Zi a)]) _ _ _
  refine Z_go (f2 := (5, [(1, .int (Zi a)), (0, .ref o)], [])) (fun _ => rfl) ?_
  refine Z_go (f2 := (6, [(1, .int (Zi a)), (0, .ref o)], [.ref o])) (fun _ => rfl) ?_
  refine C_callVR (As := []) (rest := []) rfl (by decide) rfl (by decide) rfl rfl (by decide +kernel) (Nat.le_of_ble_eq_true rfl) hs hp.1.1 (C_peek _ hp (by omega)) (fun x q => ?_)
  obtain rfl := q
  have zpk125 := hp.r a (by omega)
  show B_R _ _ (9, [(1, .int (Zi a)), (0, .ref o)], [.int (Zi (S a))]) _ _ _
  refine Z_callQ (vs := [.int (Zi (S a))]) (rest := []) rfl (by decide) rfl rfl rfl (Nat.le_of_ble_eq_true rfl) (C_isDig _ (c := S a) (by first | exact hs.zF _ _ | exact Zor_r _ _ | exact hs.zA _ _ | assumption | exact zA _ _ | exact zS _ | exact Zr_not (hs.zA _ _) | exact hs.1.1 _ _ | exact ⟨by omega, by omega⟩)) (fun x q => ?_)
  obtain ⟨dg126, rfl, hdg126⟩ := q
  have zdg126 : Zr dg126 := ⟨by omega, by omega⟩
  show B_R _ _ (12, [(1, .int (Zi a)), (0, .ref o)], [.int (Zi dg126)]) _ _ _
  refine Z_ine rfl rfl (by first | exact hs.zF _ _ | exact Zor_r _ _ | exact hs.zA _ _ | assumption | exact zA _ _ | exact zS _ | exact Zr_not (hs.zA _ _) | exact hs.1.1 _ _ | exact ⟨by omega, by omega⟩) (fun c1 => ?_) (fun c1 => ?_)
  · refine Z_go (f2 := (27, [(1, .int (Zi a)), (0, .ref o)], [.ref o])) (fun _ => rfl) ?_
    refine C_callVR (As := []) (rest := []) rfl (by decide) rfl (by decide) rfl rfl (by decide +kernel) (Nat.le_of_ble_eq_true rfl) hs hp.1.1 (C_peek _ hp (by omega)) (fun x q => ?_)
    obtain rfl := q
    have zpk127 := hp.r a (by omega)
    show B_R _ _ (30, [(1, .int (Zi a)), (0, .ref o)], [.int (Zi (S a))]) _ _ _
    refine Z_go (f2 := (32, [(1, .int (Zi a)), (0, .ref o)], [.int (Zi 48), .int (Zi (S a))])) (fun _ => rfl) ?_
    refine Z_isub rfl ?_
    refine Z_go (f2 := (34, [(2, .int (Zi (S a - 48))), (1, .int (Zi a)), (0, .ref o)], [])) (fun _ => rfl) ?_
    refine Z_go (f2 := (35, [(2, .int (Zi (S a - 48))), (1, .int (Zi a)), (0, .ref o)], [.ref o])) (fun _ => rfl) ?_
    refine Z_go (f2 := (36, [(2, .int (Zi (S a - 48))), (1, .int (Zi a)), (0, .ref o)], [.ref o, .ref o])) (fun _ => rfl) ?_
    refine C_gi rfl hs hp.1.1 (by decide) (Nat.le_of_ble_eq_true rfl) rfl ?_
    rw [show C_F (s) o 5 = a from (by first | exact hp.1.2.2.2.2.2.2.2.2.2.1 | exact (if_neg (fun e => absurd e.1 (by assumption))).trans hp.1.2.2.2.2.2.2.2.2.2.1 | exact (if_neg (fun e => absurd e.2 (by decide))).trans hp.1.2.2.2.2.2.2.2.2.2.1 | exact (if_neg (fun e => absurd e.2 (by decide))).trans ((if_neg (fun e => absurd e.2 (by decide))).trans hp.1.2.2.2.2.2.2.2.2.2.1) | exact (if_neg (fun e => absurd e.2 (by decide))).trans ((if_neg (fun e => absurd e.2 (by decide))).trans ((if_neg (fun e => absurd e.2 (by decide))).trans hp.1.2.2.2.2.2.2.2.2.2.1)))]
    show B_R _ _ (39, [(2, .int (Zi (S a - 48))), (1, .int (Zi a)), (0, .ref o)], [.int (Zi a), .ref o]) _ _ _
    refine Z_go (f2 := (40, [(2, .int (Zi (S a - 48))), (1, .int (Zi a)), (0, .ref o)], [.int (Zi 1), .int (Zi a), .ref o])) (fun _ => rfl) ?_
    refine Z_iadd rfl ?_
    refine C_pi rfl hs hp.1.1 (by decide) (Nat.le_of_ble_eq_true rfl) (.inl rfl) rfl rfl rfl (by first | exact hs.zF _ _ | exact Zor_r _ _ | exact hs.zA _ _ | assumption | exact zA _ _ | exact zS _ | exact Zr_not (hs.zA _ _) | exact hs.1.1 _ _ | exact ⟨by omega, by omega⟩) (fun h hs => ?_)
    refine Z_go (f2 := (45, [(2, .int (Zi (S a - 48))), (1, .int (Zi a)), (0, .ref o)], [.ref o])) (fun _ => rfl) ?_
    refine C_callVR (As := []) (rest := []) rfl (by decide) rfl (by decide) rfl rfl (by decide +kernel) (Nat.le_of_ble_eq_true rfl) hs hp.1.1 (C_peek _ (hp.aa (a + 1)) (by omega)) (fun x q => ?_)
    obtain rfl := q
    have zpk128 := hp.r (a + 1) (by omega)
    show B_R _ _ (48, [(2, .int (Zi (S a - 48))), (1, .int (Zi a)), (0, .ref o)], [.int (Zi (S (a + 1)))]) _ _ _
    refine Z_callQ (vs := [.int (Zi (S (a + 1)))]) (rest := []) rfl (by decide) rfl rfl rfl (Nat.le_of_ble_eq_true rfl) (C_isDig _ (c := S (a + 1)) (by first | exact hs.zF _ _ | exact Zor_r _ _ | exact hs.zA _ _ | assumption | exact zA _ _ | exact zS _ | exact Zr_not (hs.zA _ _) | exact hs.1.1 _ _ | exact ⟨by omega, by omega⟩)) (fun x q => ?_)
    obtain ⟨dg129, rfl, hdg129⟩ := q
    have zdg129 : Zr dg129 := ⟨by omega, by omega⟩
    show B_R _ _ (51, [(2, .int (Zi (S a - 48))), (1, .int (Zi a)), (0, .ref o)], [.int (Zi dg129)]) _ _ _
    refine Z_ieq rfl rfl (by first | exact hs.zF _ _ | exact Zor_r _ _ | exact hs.zA _ _ | assumption | exact zA _ _ | exact zS _ | exact Zr_not (hs.zA _ _) | exact hs.1.1 _ _ | exact ⟨by omega, by omega⟩) (fun c2 => ?_) (fun c2 => ?_)
    · refine Z_go (f2 := (78, [(2, .int (Zi (S a - 48))), (1, .int (Zi a)), (0, .ref o)], [.int (Zi (S a - 48))])) (fun _ => rfl) ?_
      refine Z_go (f2 := (80, [(2, .int (Zi (S a - 48))), (1, .int (Zi a)), (0, .ref o)], [.int (Zi 20), .int (Zi (S a - 48))])) (fun _ => rfl) ?_
      refine Z_cle rfl rfl (by first | exact hs.zF _ _ | exact Zor_r _ _ | exact hs.zA _ _ | assumption | exact zA _ _ | exact zS _ | exact Zr_not (hs.zA _ _) | exact hs.1.1 _ _ | exact ⟨by omega, by omega⟩) (by first | exact hs.zF _ _ | exact Zor_r _ _ | exact hs.zA _ _ | assumption | exact zA _ _ | exact zS _ | exact Zr_not (hs.zA _ _) | exact hs.1.1 _ _ | exact ⟨by omega, by omega⟩) (fun c3 => ?_) (fun c3 => ?_)
      · refine Z_go (f2 := (90, [(2, .int (Zi (S a - 48))), (1, .int (Zi a)), (0, .ref o)], [.int (Zi (S a - 48))])) (fun _ => rfl) ?_
        refine Z_iret rfl rfl (by first | rfl | decide | exact narrow_b01 (by omega)) ⟨_, hs, ?_⟩
        try dsimp only
        first
        | (exfalso; omega)
        | (refine ⟨rfl, ((D_Po.refl p s).sF hp.1.2.1), _, _, _, (S a - 48), rfl, (hp.aa (a + 1)), by omega, by omega, by omega, by omega, ?_⟩
           refine P_say.ok (v := S a - 48) (b := a + 1) ?_ ⟨rfl, rfl, by omega, by omega⟩
           unfold P_num
           first
           | (exfalso; omega)
           | (rw [if_pos (by omega), if_neg (by omega)]))
      · refine Z_go (f2 := (84, [(2, .int (Zi (S a - 48))), (1, .int (Zi a)), (0, .ref o)], [.ref o])) (fun _ => rfl) ?_
        refine Z_go (f2 := (85, [(2, .int (Zi (S a - 48))), (1, .int (Zi a)), (0, .ref o)], [.int (Zi 3), .ref o])) (fun _ => rfl) ?_
        refine Z_go (f2 := (86, [(2, .int (Zi (S a - 48))), (1, .int (Zi a)), (0, .ref o)], [.int (Zi a), .int (Zi 3), .ref o])) (fun _ => rfl) ?_
        refine C_callV (As := [.int (Zi 3), .int (Zi a)]) (rest := []) rfl (by decide) rfl (by decide) rfl rfl (by decide +kernel) (Nat.le_of_ble_eq_true rfl) hs hp.1.1 (C_fail0 _ (hp.aa (a + 1)) (kd := 3) (wh := a) (by first | exact hs.zF _ _ | exact Zor_r _ _ | exact hs.zA _ _ | assumption | exact zA _ _ | exact zS _ | exact Zr_not (hs.zA _ _) | exact hs.1.1 _ _ | exact ⟨by omega, by omega⟩) (by first | exact hs.zF _ _ | exact Zor_r _ _ | exact hs.zA _ _ | assumption | exact zA _ _ | exact zS _ | exact Zr_not (hs.zA _ _) | exact hs.1.1 _ _ | exact ⟨by omega, by omega⟩)) (fun x h uf nf hs q => ?_)
        obtain ⟨rfl, rfl, rfl⟩ := q
        show B_R _ _ (89, [(2, .int (Zi (S a - 48))), (1, .int (Zi a)), (0, .ref o)], []) _ _ _
        refine Z_go (f2 := (90, [(2, .int (Zi (S a - 48))), (1, .int (Zi a)), (0, .ref o)], [.int (Zi (S a - 48))])) (fun _ => rfl) ?_
        refine Z_iret rfl rfl (by first | rfl | decide | exact narrow_b01 (by omega)) ⟨_, hs, ?_⟩
        try dsimp only
        first
        | (exfalso; omega)
        | (refine ⟨rfl, ((((D_Po.refl p s).sF hp.1.2.1).sF hp.1.2.1).sF hp.1.2.1), _, _, _, (S a - 48), rfl, (((hp.aa (a + 1)).ff 3 (by decide)).pp a (by decide)), by omega, by omega, by omega, by omega, ?_⟩
           refine P_say.no ?_ (by omega)
           unfold P_num
           first
           | (exfalso; omega)
           | (rw [if_pos (by omega), if_pos (by omega), if_pos (by omega)]))
    · refine Z_go (f2 := (56, [(2, .int (Zi (S a - 48))), (1, .int (Zi a)), (0, .ref o)], [.int (Zi 10)])) (fun _ => rfl) ?_
      refine Z_go (f2 := (57, [(2, .int (Zi (S a - 48))), (1, .int (Zi a)), (0, .ref o)], [.int (Zi (S a - 48)), .int (Zi 10)])) (fun _ => rfl) ?_
      refine Z_imul rfl ?_
      refine Z_go (f2 := (59, [(2, .int (Zi (S a - 48))), (1, .int (Zi a)), (0, .ref o)], [.ref o, .int (Zi (10 * (S a - 48)))])) (fun _ => rfl) ?_
      refine C_callVR (As := []) (rest := [.int (Zi (10 * (S a - 48)))]) rfl (by decide) rfl (by decide) rfl rfl (by decide +kernel) (Nat.le_of_ble_eq_true rfl) hs hp.1.1 (C_peek _ (hp.aa (a + 1)) (by omega)) (fun x q => ?_)
      obtain rfl := q
      have zpk130 := hp.r (a + 1) (by omega)
      show B_R _ _ (62, [(2, .int (Zi (S a - 48))), (1, .int (Zi a)), (0, .ref o)], [.int (Zi (S (a + 1))), .int (Zi (10 * (S a - 48)))]) _ _ _
      refine Z_iadd rfl ?_
      refine Z_go (f2 := (65, [(2, .int (Zi (S a - 48))), (1, .int (Zi a)), (0, .ref o)], [.int (Zi 48), .int (Zi (10 * (S a - 48) + (S (a + 1))))])) (fun _ => rfl) ?_
      refine Z_isub rfl ?_
      refine Z_go (f2 := (67, [(2, .int (Zi (10 * (S a - 48) + (S (a + 1)) - 48))), (1, .int (Zi a)), (0, .ref o)], [])) (fun _ => rfl) ?_
      refine Z_go (f2 := (68, [(2, .int (Zi (10 * (S a - 48) + (S (a + 1)) - 48))), (1, .int (Zi a)), (0, .ref o)], [.ref o])) (fun _ => rfl) ?_
      refine Z_go (f2 := (69, [(2, .int (Zi (10 * (S a - 48) + (S (a + 1)) - 48))), (1, .int (Zi a)), (0, .ref o)], [.ref o, .ref o])) (fun _ => rfl) ?_
      refine C_gi rfl hs hp.1.1 (by decide) (Nat.le_of_ble_eq_true rfl) rfl ?_
      rw [show C_F (C_sF s o 5 (a + 1)) o 5 = a + 1 from (by first | rfl | (simp only [C_F, C_P, C_A, C_L, C_Q, C_K, C_T, C_n, C_sF, C_sP, C_sA, C_sL, C_sQ, C_sAf, C_sQf]; simp [*]; done) | (simp only [C_F, C_P, C_A, C_L, C_Q, C_K, C_T, C_n, C_sF, C_sP, C_sA, C_sL, C_sQ, C_sAf, C_sQf]; simp; omega))]; show B_R _ _ (72, [(2, .int (Zi (10 * (S a - 48) + (S (a + 1)) - 48))), (1, .int (Zi a)), (0, .ref o)], [.int (Zi (a + 1)), .ref o]) _ _ _
      refine Z_go (f2 := (73, [(2, .int (Zi (10 * (S a - 48) + (S (a + 1)) - 48))), (1, .int (Zi a)), (0, .ref o)], [.int (Zi 1), .int (Zi (a + 1)), .ref o])) (fun _ => rfl) ?_
      refine Z_iadd rfl ?_
      refine C_pi rfl hs hp.1.1 (by decide) (Nat.le_of_ble_eq_true rfl) (.inl rfl) rfl rfl rfl (by first | exact hs.zF _ _ | exact Zor_r _ _ | exact hs.zA _ _ | assumption | exact zA _ _ | exact zS _ | exact Zr_not (hs.zA _ _) | exact hs.1.1 _ _ | exact ⟨by omega, by omega⟩) (fun h hs => ?_)
      refine Z_go (f2 := (78, [(2, .int (Zi (10 * (S a - 48) + (S (a + 1)) - 48))), (1, .int (Zi a)), (0, .ref o)], [.int (Zi (10 * (S a - 48) + (S (a + 1)) - 48))])) (fun _ => rfl) ?_
      refine Z_go (f2 := (80, [(2, .int (Zi (10 * (S a - 48) + (S (a + 1)) - 48))), (1, .int (Zi a)), (0, .ref o)], [.int (Zi 20), .int (Zi (10 * (S a - 48) + (S (a + 1)) - 48))])) (fun _ => rfl) ?_
      refine Z_cle rfl rfl (by first | exact hs.zF _ _ | exact Zor_r _ _ | exact hs.zA _ _ | assumption | exact zA _ _ | exact zS _ | exact Zr_not (hs.zA _ _) | exact hs.1.1 _ _ | exact ⟨by omega, by omega⟩) (by first | exact hs.zF _ _ | exact Zor_r _ _ | exact hs.zA _ _ | assumption | exact zA _ _ | exact zS _ | exact Zr_not (hs.zA _ _) | exact hs.1.1 _ _ | exact ⟨by omega, by omega⟩) (fun c4 => ?_) (fun c4 => ?_)
      · refine Z_go (f2 := (90, [(2, .int (Zi (10 * (S a - 48) + (S (a + 1)) - 48))), (1, .int (Zi a)), (0, .ref o)], [.int (Zi (10 * (S a - 48) + (S (a + 1)) - 48))])) (fun _ => rfl) ?_
        refine Z_iret rfl rfl (by first | rfl | decide | exact narrow_b01 (by omega)) ⟨_, hs, ?_⟩
        try dsimp only
        first
        | (exfalso; omega)
        | (refine ⟨rfl, (((D_Po.refl p s).sF hp.1.2.1).sF hp.1.2.1), _, _, _, (10 * (S a - 48) + (S (a + 1)) - 48), rfl, ((hp.aa (a + 1)).aa (a + 1 + 1)), by omega, by omega, by omega, by omega, ?_⟩
           refine P_say.ok (v := 10 * (S a - 48) + (S (a + 1)) - 48) (b := a + 1 + 1) ?_ ⟨rfl, rfl, by omega, by omega⟩
           unfold P_num
           rw [if_pos (by omega), if_pos (by omega), if_neg (by omega)]
           rw [show 10 * (S a - 48) + S (a + 1) - 48 = 10 * (S a - 48) + (S (a + 1)) - 48 by omega, show a + 2 = a + 1 + 1 by omega])
      · refine Z_go (f2 := (84, [(2, .int (Zi (10 * (S a - 48) + (S (a + 1)) - 48))), (1, .int (Zi a)), (0, .ref o)], [.ref o])) (fun _ => rfl) ?_
        refine Z_go (f2 := (85, [(2, .int (Zi (10 * (S a - 48) + (S (a + 1)) - 48))), (1, .int (Zi a)), (0, .ref o)], [.int (Zi 3), .ref o])) (fun _ => rfl) ?_
        refine Z_go (f2 := (86, [(2, .int (Zi (10 * (S a - 48) + (S (a + 1)) - 48))), (1, .int (Zi a)), (0, .ref o)], [.int (Zi a), .int (Zi 3), .ref o])) (fun _ => rfl) ?_
        refine C_callV (As := [.int (Zi 3), .int (Zi a)]) (rest := []) rfl (by decide) rfl (by decide) rfl rfl (by decide +kernel) (Nat.le_of_ble_eq_true rfl) hs hp.1.1 (C_fail0 _ ((hp.aa (a + 1)).aa (a + 1 + 1)) (kd := 3) (wh := a) (by first | exact hs.zF _ _ | exact Zor_r _ _ | exact hs.zA _ _ | assumption | exact zA _ _ | exact zS _ | exact Zr_not (hs.zA _ _) | exact hs.1.1 _ _ | exact ⟨by omega, by omega⟩) (by first | exact hs.zF _ _ | exact Zor_r _ _ | exact hs.zA _ _ | assumption | exact zA _ _ | exact zS _ | exact Zr_not (hs.zA _ _) | exact hs.1.1 _ _ | exact ⟨by omega, by omega⟩)) (fun x h uf nf hs q => ?_)
        obtain ⟨rfl, rfl, rfl⟩ := q
        show B_R _ _ (89, [(2, .int (Zi (10 * (S a - 48) + (S (a + 1)) - 48))), (1, .int (Zi a)), (0, .ref o)], []) _ _ _
        refine Z_go (f2 := (90, [(2, .int (Zi (10 * (S a - 48) + (S (a + 1)) - 48))), (1, .int (Zi a)), (0, .ref o)], [.int (Zi (10 * (S a - 48) + (S (a + 1)) - 48))])) (fun _ => rfl) ?_
        refine Z_iret rfl rfl (by first | rfl | decide | exact narrow_b01 (by omega)) ⟨_, hs, ?_⟩
        try dsimp only
        first
        | (exfalso; omega)
        | (refine ⟨rfl, (((((D_Po.refl p s).sF hp.1.2.1).sF hp.1.2.1).sF hp.1.2.1).sF hp.1.2.1), _, _, _, (10 * (S a - 48) + (S (a + 1)) - 48), rfl, ((((hp.aa (a + 1)).aa (a + 1 + 1)).ff 3 (by decide)).pp a (by decide)), by omega, by omega, by omega, by omega, ?_⟩
           refine P_say.no ?_ (by omega)
           unfold P_num
           first
           | (exfalso; omega)
           | (rw [if_pos (by omega), if_pos (by omega), if_pos (by omega)]))
  · refine Z_go (f2 := (16, [(1, .int (Zi a)), (0, .ref o)], [.ref o])) (fun _ => rfl) ?_
    refine Z_go (f2 := (17, [(1, .int (Zi a)), (0, .ref o)], [.int (Zi 1), .ref o])) (fun _ => rfl) ?_
    refine Z_go (f2 := (18, [(1, .int (Zi a)), (0, .ref o)], [.ref o, .int (Zi 1), .ref o])) (fun _ => rfl) ?_
    refine C_gi rfl hs hp.1.1 (by decide) (Nat.le_of_ble_eq_true rfl) rfl ?_
    rw [show C_F (s) o 5 = a from (by first | exact hp.1.2.2.2.2.2.2.2.2.2.1 | exact (if_neg (fun e => absurd e.1 (by assumption))).trans hp.1.2.2.2.2.2.2.2.2.2.1 | exact (if_neg (fun e => absurd e.2 (by decide))).trans hp.1.2.2.2.2.2.2.2.2.2.1 | exact (if_neg (fun e => absurd e.2 (by decide))).trans ((if_neg (fun e => absurd e.2 (by decide))).trans hp.1.2.2.2.2.2.2.2.2.2.1) | exact (if_neg (fun e => absurd e.2 (by decide))).trans ((if_neg (fun e => absurd e.2 (by decide))).trans ((if_neg (fun e => absurd e.2 (by decide))).trans hp.1.2.2.2.2.2.2.2.2.2.1)))]
    show B_R _ _ (21, [(1, .int (Zi a)), (0, .ref o)], [.int (Zi a), .int (Zi 1), .ref o]) _ _ _
    refine C_callV (As := [.int (Zi 1), .int (Zi a)]) (rest := []) rfl (by decide) rfl (by decide) rfl rfl (by decide +kernel) (Nat.le_of_ble_eq_true rfl) hs hp.1.1 (C_fail0 _ hp (kd := 1) (wh := a) (by first | exact hs.zF _ _ | exact Zor_r _ _ | exact hs.zA _ _ | assumption | exact zA _ _ | exact zS _ | exact Zr_not (hs.zA _ _) | exact hs.1.1 _ _ | exact ⟨by omega, by omega⟩) (by first | exact hs.zF _ _ | exact Zor_r _ _ | exact hs.zA _ _ | assumption | exact zA _ _ | exact zS _ | exact Zr_not (hs.zA _ _) | exact hs.1.1 _ _ | exact ⟨by omega, by omega⟩)) (fun x h uf nf hs q => ?_)
    obtain ⟨rfl, rfl, rfl⟩ := q
    show B_R _ _ (24, [(1, .int (Zi a)), (0, .ref o)], []) _ _ _
    refine Z_go (f2 := (25, [(1, .int (Zi a)), (0, .ref o)], [.int (Zi 0)])) (fun _ => rfl) ?_
    refine Z_iret rfl rfl (by first | rfl | decide | exact narrow_b01 (by omega)) ⟨_, hs, ?_⟩
    try dsimp only
    first
    | (exfalso; omega)
    | (refine ⟨rfl, (((D_Po.refl p s).sF hp.1.2.1).sF hp.1.2.1), _, _, _, 0, rfl, ((hp.ff 1 (by decide)).pp a (by decide)), by omega, by omega, by omega, by omega, ?_⟩
       refine P_say.no ?_ (by omega)
       unfold P_num
       rw [if_neg (by omega)])
theorem C_one (d : Nat) {s : C_S} {p : List Nat} {o tr src N : Nat} {S : Int → Int} {nn fo pl a : Int} (hp : D_P0 s p o tr src N S nn fo 0 pl a) (a0 : 0 ≤ a) (an : a ≤ nn) : C_ok (d + 3) 50 [.ref o] s (fun x s2 n => n = 0 ∧ D_Po p s s2 ∧ ∃ f2 pl2 a2 v : Int, x = some (.int (Zi v)) ∧ D_P0 s2 p o tr src N S nn fo f2 pl2 a2 ∧ a ≤ a2 ∧ a2 ≤ a + 2 ∧ -1 ≤ v ∧ v < 256 ∧ P_say (P_one S a) f2 pl2 (fun v2 b => v = v2 ∧ a2 = b)) := by
  refine C_enter (M := E_m50) rfl (Nat.le_of_ble_eq_true rfl) (fun h0 h hs => ?_)
  show B_R (d + 2) _ (0, [(0, .ref o)], []) _ _ _
  have hz := hp.z hs
  have za := hz.2.2.1
  have zn := hz.2.2.2.1
  have nn0 := hp.2.2.2.2.1
  have nn1 := hp.2.2.2.2.2
  have hra := hp.r a a0
  have hrb := hp.r (a + 1) (by omega)
  refine Z_go (f2 := (1, [(0, .ref o)], [.ref o])) (fun _ => rfl) ?_
  refine C_callVR (As := []) (rest := []) rfl (by decide) rfl (by decide) rfl rfl (by decide +kernel) (Nat.le_of_ble_eq_true rfl) hs hp.1.1 (C_peek _ hp (by omega)) (fun x q => ?_)
  obtain rfl := q
  have zpk131 := hp.r a (by omega)
  show B_R _ _ (4, [(0, .ref o)], [.int (Zi (S a))]) _ _ _
  refine Z_go (f2 := (5, [(1, .int (Zi (S a))), (0, .ref o)], [])) (fun _ => rfl) ?_
  refine Z_go (f2 := (6, [(1, .int (Zi (S a))), (0, .ref o)], [.int (Zi (S a))])) (fun _ => rfl) ?_
  refine Z_go (f2 := (7, [(2, .int (Zi (S a))), (1, .int (Zi (S a))), (0, .ref o)], [])) (fun _ => rfl) ?_
  refine Z_go (f2 := (8, [(2, .int (Zi (S a))), (1, .int (Zi (S a))), (0, .ref o)], [.int (Zi (S a))])) (fun _ => rfl) ?_
  refine Z_go (f2 := (10, [(2, .int (Zi (S a))), (1, .int (Zi (S a))), (0, .ref o)], [.int (Zi 92), .int (Zi (S a))])) (fun _ => rfl) ?_
  refine Z_cne rfl rfl (by first | exact hs.zF _ _ | exact Zor_r _ _ | exact hs.zA _ _ | assumption | exact zA _ _ | exact zS _ | exact Zr_not (hs.zA _ _) | exact hs.1.1 _ _ | exact ⟨by omega, by omega⟩) (by first | exact hs.zF _ _ | exact Zor_r _ _ | exact hs.zA _ _ | assumption | exact zA _ _ | exact zS _ | exact Zr_not (hs.zA _ _) | exact hs.1.1 _ _ | exact ⟨by omega, by omega⟩) (fun c1 => ?_) (fun c1 => ?_)
  · refine Z_go (f2 := (35, [(2, .int (Zi (S a))), (1, .int (Zi (S a))), (0, .ref o)], [.int (Zi (S a))])) (fun _ => rfl) ?_
    refine Z_go (f2 := (37, [(2, .int (Zi (S a))), (1, .int (Zi (S a))), (0, .ref o)], [.int (Zi 32), .int (Zi (S a))])) (fun _ => rfl) ?_
    refine Z_clt rfl rfl (by first | exact hs.zF _ _ | exact Zor_r _ _ | exact hs.zA _ _ | assumption | exact zA _ _ | exact zS _ | exact Zr_not (hs.zA _ _) | exact hs.1.1 _ _ | exact ⟨by omega, by omega⟩) (by first | exact hs.zF _ _ | exact Zor_r _ _ | exact hs.zA _ _ | assumption | exact zA _ _ | exact zS _ | exact Zr_not (hs.zA _ _) | exact hs.1.1 _ _ | exact ⟨by omega, by omega⟩) (fun c2 => ?_) (fun c2 => ?_)
    · refine Z_go (f2 := (59, [(2, .int (Zi (S a))), (1, .int (Zi (S a))), (0, .ref o)], [.int (Zi (-1))])) (fun _ => rfl) ?_
      refine Z_go (f2 := (60, [(2, .int (Zi (-1))), (1, .int (Zi (S a))), (0, .ref o)], [])) (fun _ => rfl) ?_
      refine Z_go (f2 := (61, [(2, .int (Zi (-1))), (1, .int (Zi (S a))), (0, .ref o)], [.int (Zi (-1))])) (fun _ => rfl) ?_
      refine Z_go (f2 := (62, [(2, .int (Zi (-1))), (1, .int (Zi (S a))), (0, .ref o)], [.int (Zi (-1)), .int (Zi (-1))])) (fun _ => rfl) ?_
      refine Z_cne rfl rfl (by first | exact hs.zF _ _ | exact Zor_r _ _ | exact hs.zA _ _ | assumption | exact zA _ _ | exact zS _ | exact Zr_not (hs.zA _ _) | exact hs.1.1 _ _ | exact ⟨by omega, by omega⟩) (by first | exact hs.zF _ _ | exact Zor_r _ _ | exact hs.zA _ _ | assumption | exact zA _ _ | exact zS _ | exact Zr_not (hs.zA _ _) | exact hs.1.1 _ _ | exact ⟨by omega, by omega⟩) (fun c3 => ?_) (fun c3 => ?_)
      · exfalso; omega
      · refine Z_go (f2 := (66, [(2, .int (Zi (-1))), (1, .int (Zi (S a))), (0, .ref o)], [.ref o])) (fun _ => rfl) ?_
        refine Z_go (f2 := (67, [(2, .int (Zi (-1))), (1, .int (Zi (S a))), (0, .ref o)], [.int (Zi 1), .ref o])) (fun _ => rfl) ?_
        refine Z_go (f2 := (68, [(2, .int (Zi (-1))), (1, .int (Zi (S a))), (0, .ref o)], [.ref o, .int (Zi 1), .ref o])) (fun _ => rfl) ?_
        refine C_gi rfl hs hp.1.1 (by decide) (Nat.le_of_ble_eq_true rfl) rfl ?_
        rw [show C_F (s) o 5 = a from (by first | exact hp.1.2.2.2.2.2.2.2.2.2.1 | exact (if_neg (fun e => absurd e.1 (by assumption))).trans hp.1.2.2.2.2.2.2.2.2.2.1 | exact (if_neg (fun e => absurd e.2 (by decide))).trans hp.1.2.2.2.2.2.2.2.2.2.1 | exact (if_neg (fun e => absurd e.2 (by decide))).trans ((if_neg (fun e => absurd e.2 (by decide))).trans hp.1.2.2.2.2.2.2.2.2.2.1) | exact (if_neg (fun e => absurd e.2 (by decide))).trans ((if_neg (fun e => absurd e.2 (by decide))).trans ((if_neg (fun e => absurd e.2 (by decide))).trans hp.1.2.2.2.2.2.2.2.2.2.1)))]
        show B_R _ _ (71, [(2, .int (Zi (-1))), (1, .int (Zi (S a))), (0, .ref o)], [.int (Zi a), .int (Zi 1), .ref o]) _ _ _
        refine C_callV (As := [.int (Zi 1), .int (Zi a)]) (rest := []) rfl (by decide) rfl (by decide) rfl rfl (by decide +kernel) (Nat.le_of_ble_eq_true rfl) hs hp.1.1 (C_fail0 _ hp (kd := 1) (wh := a) (by first | exact hs.zF _ _ | exact Zor_r _ _ | exact hs.zA _ _ | assumption | exact zA _ _ | exact zS _ | exact Zr_not (hs.zA _ _) | exact hs.1.1 _ _ | exact ⟨by omega, by omega⟩) (by first | exact hs.zF _ _ | exact Zor_r _ _ | exact hs.zA _ _ | assumption | exact zA _ _ | exact zS _ | exact Zr_not (hs.zA _ _) | exact hs.1.1 _ _ | exact ⟨by omega, by omega⟩)) (fun x h uf nf hs q => ?_)
        obtain ⟨rfl, rfl, rfl⟩ := q
        show B_R _ _ (74, [(2, .int (Zi (-1))), (1, .int (Zi (S a))), (0, .ref o)], []) _ _ _
        refine Z_go (f2 := (75, [(2, .int (Zi (-1))), (1, .int (Zi (S a))), (0, .ref o)], [.int (Zi (-1))])) (fun _ => rfl) ?_
        refine Z_iret rfl rfl (by first | rfl | decide | exact narrow_b01 (by omega)) ⟨_, hs, ?_⟩
        try dsimp only
        first
        | (exfalso; omega)
        | (refine ⟨rfl, (((D_Po.refl p s).sF hp.1.2.1).sF hp.1.2.1), _, _, _, (-1), rfl, ((hp.ff 1 (by decide)).pp a (by decide)), by omega, by omega, by omega, by omega, ?_⟩
           refine P_say.no ?_ (by omega)
           unfold P_one
           first
           | (exfalso; omega)
           | (rw [if_pos (by omega), if_neg (by omega), if_neg (by omega), if_neg (by omega)]; done)
           | (rw [if_neg (by omega), if_pos (by omega)]; done))
    · refine Z_go (f2 := (41, [(2, .int (Zi (S a))), (1, .int (Zi (S a))), (0, .ref o)], [.int (Zi (S a))])) (fun _ => rfl) ?_
      refine Z_go (f2 := (43, [(2, .int (Zi (S a))), (1, .int (Zi (S a))), (0, .ref o)], [.int (Zi 126), .int (Zi (S a))])) (fun _ => rfl) ?_
      refine Z_cgt rfl rfl (by first | exact hs.zF _ _ | exact Zor_r _ _ | exact hs.zA _ _ | assumption | exact zA _ _ | exact zS _ | exact Zr_not (hs.zA _ _) | exact hs.1.1 _ _ | exact ⟨by omega, by omega⟩) (by first | exact hs.zF _ _ | exact Zor_r _ _ | exact hs.zA _ _ | assumption | exact zA _ _ | exact zS _ | exact Zr_not (hs.zA _ _) | exact hs.1.1 _ _ | exact ⟨by omega, by omega⟩) (fun c4 => ?_) (fun c4 => ?_)
      · refine Z_go (f2 := (59, [(2, .int (Zi (S a))), (1, .int (Zi (S a))), (0, .ref o)], [.int (Zi (-1))])) (fun _ => rfl) ?_
        refine Z_go (f2 := (60, [(2, .int (Zi (-1))), (1, .int (Zi (S a))), (0, .ref o)], [])) (fun _ => rfl) ?_
        refine Z_go (f2 := (61, [(2, .int (Zi (-1))), (1, .int (Zi (S a))), (0, .ref o)], [.int (Zi (-1))])) (fun _ => rfl) ?_
        refine Z_go (f2 := (62, [(2, .int (Zi (-1))), (1, .int (Zi (S a))), (0, .ref o)], [.int (Zi (-1)), .int (Zi (-1))])) (fun _ => rfl) ?_
        refine Z_cne rfl rfl (by first | exact hs.zF _ _ | exact Zor_r _ _ | exact hs.zA _ _ | assumption | exact zA _ _ | exact zS _ | exact Zr_not (hs.zA _ _) | exact hs.1.1 _ _ | exact ⟨by omega, by omega⟩) (by first | exact hs.zF _ _ | exact Zor_r _ _ | exact hs.zA _ _ | assumption | exact zA _ _ | exact zS _ | exact Zr_not (hs.zA _ _) | exact hs.1.1 _ _ | exact ⟨by omega, by omega⟩) (fun c5 => ?_) (fun c5 => ?_)
        · exfalso; omega
        · refine Z_go (f2 := (66, [(2, .int (Zi (-1))), (1, .int (Zi (S a))), (0, .ref o)], [.ref o])) (fun _ => rfl) ?_
          refine Z_go (f2 := (67, [(2, .int (Zi (-1))), (1, .int (Zi (S a))), (0, .ref o)], [.int (Zi 1), .ref o])) (fun _ => rfl) ?_
          refine Z_go (f2 := (68, [(2, .int (Zi (-1))), (1, .int (Zi (S a))), (0, .ref o)], [.ref o, .int (Zi 1), .ref o])) (fun _ => rfl) ?_
          refine C_gi rfl hs hp.1.1 (by decide) (Nat.le_of_ble_eq_true rfl) rfl ?_
          rw [show C_F (s) o 5 = a from (by first | exact hp.1.2.2.2.2.2.2.2.2.2.1 | exact (if_neg (fun e => absurd e.1 (by assumption))).trans hp.1.2.2.2.2.2.2.2.2.2.1 | exact (if_neg (fun e => absurd e.2 (by decide))).trans hp.1.2.2.2.2.2.2.2.2.2.1 | exact (if_neg (fun e => absurd e.2 (by decide))).trans ((if_neg (fun e => absurd e.2 (by decide))).trans hp.1.2.2.2.2.2.2.2.2.2.1) | exact (if_neg (fun e => absurd e.2 (by decide))).trans ((if_neg (fun e => absurd e.2 (by decide))).trans ((if_neg (fun e => absurd e.2 (by decide))).trans hp.1.2.2.2.2.2.2.2.2.2.1)))]
          show B_R _ _ (71, [(2, .int (Zi (-1))), (1, .int (Zi (S a))), (0, .ref o)], [.int (Zi a), .int (Zi 1), .ref o]) _ _ _
          refine C_callV (As := [.int (Zi 1), .int (Zi a)]) (rest := []) rfl (by decide) rfl (by decide) rfl rfl (by decide +kernel) (Nat.le_of_ble_eq_true rfl) hs hp.1.1 (C_fail0 _ hp (kd := 1) (wh := a) (by first | exact hs.zF _ _ | exact Zor_r _ _ | exact hs.zA _ _ | assumption | exact zA _ _ | exact zS _ | exact Zr_not (hs.zA _ _) | exact hs.1.1 _ _ | exact ⟨by omega, by omega⟩) (by first | exact hs.zF _ _ | exact Zor_r _ _ | exact hs.zA _ _ | assumption | exact zA _ _ | exact zS _ | exact Zr_not (hs.zA _ _) | exact hs.1.1 _ _ | exact ⟨by omega, by omega⟩)) (fun x h uf nf hs q => ?_)
          obtain ⟨rfl, rfl, rfl⟩ := q
          show B_R _ _ (74, [(2, .int (Zi (-1))), (1, .int (Zi (S a))), (0, .ref o)], []) _ _ _
          refine Z_go (f2 := (75, [(2, .int (Zi (-1))), (1, .int (Zi (S a))), (0, .ref o)], [.int (Zi (-1))])) (fun _ => rfl) ?_
          refine Z_iret rfl rfl (by first | rfl | decide | exact narrow_b01 (by omega)) ⟨_, hs, ?_⟩
          try dsimp only
          first
          | (exfalso; omega)
          | (refine ⟨rfl, (((D_Po.refl p s).sF hp.1.2.1).sF hp.1.2.1), _, _, _, (-1), rfl, ((hp.ff 1 (by decide)).pp a (by decide)), by omega, by omega, by omega, by omega, ?_⟩
             refine P_say.no ?_ (by omega)
             unfold P_one
             first
             | (exfalso; omega)
             | (rw [if_pos (by omega), if_neg (by omega), if_neg (by omega), if_neg (by omega)]; done)
             | (rw [if_neg (by omega), if_pos (by omega)]; done))
      · refine Z_go (f2 := (47, [(2, .int (Zi (S a))), (1, .int (Zi (S a))), (0, .ref o)], [.int (Zi (S a))])) (fun _ => rfl) ?_
        refine Z_go (f2 := (49, [(2, .int (Zi (S a))), (1, .int (Zi (S a))), (0, .ref o)], [.int (Zi 93), .int (Zi (S a))])) (fun _ => rfl) ?_
        refine Z_ceq rfl rfl (by first | exact hs.zF _ _ | exact Zor_r _ _ | exact hs.zA _ _ | assumption | exact zA _ _ | exact zS _ | exact Zr_not (hs.zA _ _) | exact hs.1.1 _ _ | exact ⟨by omega, by omega⟩) (by first | exact hs.zF _ _ | exact Zor_r _ _ | exact hs.zA _ _ | assumption | exact zA _ _ | exact zS _ | exact Zr_not (hs.zA _ _) | exact hs.1.1 _ _ | exact ⟨by omega, by omega⟩) (fun c6 => ?_) (fun c6 => ?_)
        · refine Z_go (f2 := (59, [(2, .int (Zi (S a))), (1, .int (Zi (S a))), (0, .ref o)], [.int (Zi (-1))])) (fun _ => rfl) ?_
          refine Z_go (f2 := (60, [(2, .int (Zi (-1))), (1, .int (Zi (S a))), (0, .ref o)], [])) (fun _ => rfl) ?_
          refine Z_go (f2 := (61, [(2, .int (Zi (-1))), (1, .int (Zi (S a))), (0, .ref o)], [.int (Zi (-1))])) (fun _ => rfl) ?_
          refine Z_go (f2 := (62, [(2, .int (Zi (-1))), (1, .int (Zi (S a))), (0, .ref o)], [.int (Zi (-1)), .int (Zi (-1))])) (fun _ => rfl) ?_
          refine Z_cne rfl rfl (by first | exact hs.zF _ _ | exact Zor_r _ _ | exact hs.zA _ _ | assumption | exact zA _ _ | exact zS _ | exact Zr_not (hs.zA _ _) | exact hs.1.1 _ _ | exact ⟨by omega, by omega⟩) (by first | exact hs.zF _ _ | exact Zor_r _ _ | exact hs.zA _ _ | assumption | exact zA _ _ | exact zS _ | exact Zr_not (hs.zA _ _) | exact hs.1.1 _ _ | exact ⟨by omega, by omega⟩) (fun c7 => ?_) (fun c7 => ?_)
          · exfalso; omega
          · refine Z_go (f2 := (66, [(2, .int (Zi (-1))), (1, .int (Zi (S a))), (0, .ref o)], [.ref o])) (fun _ => rfl) ?_
            refine Z_go (f2 := (67, [(2, .int (Zi (-1))), (1, .int (Zi (S a))), (0, .ref o)], [.int (Zi 1), .ref o])) (fun _ => rfl) ?_
            refine Z_go (f2 := (68, [(2, .int (Zi (-1))), (1, .int (Zi (S a))), (0, .ref o)], [.ref o, .int (Zi 1), .ref o])) (fun _ => rfl) ?_
            refine C_gi rfl hs hp.1.1 (by decide) (Nat.le_of_ble_eq_true rfl) rfl ?_
            rw [show C_F (s) o 5 = a from (by first | exact hp.1.2.2.2.2.2.2.2.2.2.1 | exact (if_neg (fun e => absurd e.1 (by assumption))).trans hp.1.2.2.2.2.2.2.2.2.2.1 | exact (if_neg (fun e => absurd e.2 (by decide))).trans hp.1.2.2.2.2.2.2.2.2.2.1 | exact (if_neg (fun e => absurd e.2 (by decide))).trans ((if_neg (fun e => absurd e.2 (by decide))).trans hp.1.2.2.2.2.2.2.2.2.2.1) | exact (if_neg (fun e => absurd e.2 (by decide))).trans ((if_neg (fun e => absurd e.2 (by decide))).trans ((if_neg (fun e => absurd e.2 (by decide))).trans hp.1.2.2.2.2.2.2.2.2.2.1)))]
            show B_R _ _ (71, [(2, .int (Zi (-1))), (1, .int (Zi (S a))), (0, .ref o)], [.int (Zi a), .int (Zi 1), .ref o]) _ _ _
            refine C_callV (As := [.int (Zi 1), .int (Zi a)]) (rest := []) rfl (by decide) rfl (by decide) rfl rfl (by decide +kernel) (Nat.le_of_ble_eq_true rfl) hs hp.1.1 (C_fail0 _ hp (kd := 1) (wh := a) (by first | exact hs.zF _ _ | exact Zor_r _ _ | exact hs.zA _ _ | assumption | exact zA _ _ | exact zS _ | exact Zr_not (hs.zA _ _) | exact hs.1.1 _ _ | exact ⟨by omega, by omega⟩) (by first | exact hs.zF _ _ | exact Zor_r _ _ | exact hs.zA _ _ | assumption | exact zA _ _ | exact zS _ | exact Zr_not (hs.zA _ _) | exact hs.1.1 _ _ | exact ⟨by omega, by omega⟩)) (fun x h uf nf hs q => ?_)
            obtain ⟨rfl, rfl, rfl⟩ := q
            show B_R _ _ (74, [(2, .int (Zi (-1))), (1, .int (Zi (S a))), (0, .ref o)], []) _ _ _
            refine Z_go (f2 := (75, [(2, .int (Zi (-1))), (1, .int (Zi (S a))), (0, .ref o)], [.int (Zi (-1))])) (fun _ => rfl) ?_
            refine Z_iret rfl rfl (by first | rfl | decide | exact narrow_b01 (by omega)) ⟨_, hs, ?_⟩
            try dsimp only
            first
            | (exfalso; omega)
            | (refine ⟨rfl, (((D_Po.refl p s).sF hp.1.2.1).sF hp.1.2.1), _, _, _, (-1), rfl, ((hp.ff 1 (by decide)).pp a (by decide)), by omega, by omega, by omega, by omega, ?_⟩
               refine P_say.no ?_ (by omega)
               unfold P_one
               first
               | (exfalso; omega)
               | (rw [if_pos (by omega), if_neg (by omega), if_neg (by omega), if_neg (by omega)]; done)
               | (rw [if_neg (by omega), if_pos (by omega)]; done))
        · refine Z_go (f2 := (53, [(2, .int (Zi (S a))), (1, .int (Zi (S a))), (0, .ref o)], [.int (Zi (S a))])) (fun _ => rfl) ?_
          refine Z_go (f2 := (55, [(2, .int (Zi (S a))), (1, .int (Zi (S a))), (0, .ref o)], [.int (Zi 45), .int (Zi (S a))])) (fun _ => rfl) ?_
          refine Z_cne rfl rfl (by first | exact hs.zF _ _ | exact Zor_r _ _ | exact hs.zA _ _ | assumption | exact zA _ _ | exact zS _ | exact Zr_not (hs.zA _ _) | exact hs.1.1 _ _ | exact ⟨by omega, by omega⟩) (by first | exact hs.zF _ _ | exact Zor_r _ _ | exact hs.zA _ _ | assumption | exact zA _ _ | exact zS _ | exact Zr_not (hs.zA _ _) | exact hs.1.1 _ _ | exact ⟨by omega, by omega⟩) (fun c8 => ?_) (fun c8 => ?_)
          · refine Z_go (f2 := (61, [(2, .int (Zi (S a))), (1, .int (Zi (S a))), (0, .ref o)], [.int (Zi (S a))])) (fun _ => rfl) ?_
            refine Z_go (f2 := (62, [(2, .int (Zi (S a))), (1, .int (Zi (S a))), (0, .ref o)], [.int (Zi (-1)), .int (Zi (S a))])) (fun _ => rfl) ?_
            refine Z_cne rfl rfl (by first | exact hs.zF _ _ | exact Zor_r _ _ | exact hs.zA _ _ | assumption | exact zA _ _ | exact zS _ | exact Zr_not (hs.zA _ _) | exact hs.1.1 _ _ | exact ⟨by omega, by omega⟩) (by first | exact hs.zF _ _ | exact Zor_r _ _ | exact hs.zA _ _ | assumption | exact zA _ _ | exact zS _ | exact Zr_not (hs.zA _ _) | exact hs.1.1 _ _ | exact ⟨by omega, by omega⟩) (fun c9 => ?_) (fun c9 => ?_)
            · refine Z_go (f2 := (77, [(2, .int (Zi (S a))), (1, .int (Zi (S a))), (0, .ref o)], [.ref o])) (fun _ => rfl) ?_
              refine Z_go (f2 := (78, [(2, .int (Zi (S a))), (1, .int (Zi (S a))), (0, .ref o)], [.ref o, .ref o])) (fun _ => rfl) ?_
              refine C_gi rfl hs hp.1.1 (by decide) (Nat.le_of_ble_eq_true rfl) rfl ?_
              rw [show C_F (s) o 5 = a from (by first | exact hp.1.2.2.2.2.2.2.2.2.2.1 | exact (if_neg (fun e => absurd e.1 (by assumption))).trans hp.1.2.2.2.2.2.2.2.2.2.1 | exact (if_neg (fun e => absurd e.2 (by decide))).trans hp.1.2.2.2.2.2.2.2.2.2.1 | exact (if_neg (fun e => absurd e.2 (by decide))).trans ((if_neg (fun e => absurd e.2 (by decide))).trans hp.1.2.2.2.2.2.2.2.2.2.1) | exact (if_neg (fun e => absurd e.2 (by decide))).trans ((if_neg (fun e => absurd e.2 (by decide))).trans ((if_neg (fun e => absurd e.2 (by decide))).trans hp.1.2.2.2.2.2.2.2.2.2.1)))]
              show B_R _ _ (81, [(2, .int (Zi (S a))), (1, .int (Zi (S a))), (0, .ref o)], [.int (Zi a), .ref o]) _ _ _
              refine Z_go (f2 := (82, [(2, .int (Zi (S a))), (1, .int (Zi (S a))), (0, .ref o)], [.int (Zi 1), .int (Zi a), .ref o])) (fun _ => rfl) ?_
              refine Z_iadd rfl ?_
              refine C_pi rfl hs hp.1.1 (by decide) (Nat.le_of_ble_eq_true rfl) (.inl rfl) rfl rfl rfl (by first | exact hs.zF _ _ | exact Zor_r _ _ | exact hs.zA _ _ | assumption | exact zA _ _ | exact zS _ | exact Zr_not (hs.zA _ _) | exact hs.1.1 _ _ | exact ⟨by omega, by omega⟩) (fun h hs => ?_)
              refine Z_go (f2 := (87, [(2, .int (Zi (S a))), (1, .int (Zi (S a))), (0, .ref o)], [.int (Zi (S a))])) (fun _ => rfl) ?_
              refine Z_iret rfl rfl (by first | rfl | decide | exact narrow_b01 (by omega)) ⟨_, hs, ?_⟩
              try dsimp only
              first
              | (exfalso; omega)
              | (refine ⟨rfl, ((D_Po.refl p s).sF hp.1.2.1), _, _, _, (S a), rfl, (hp.aa (a + 1)), by omega, by omega, by omega, by omega, ?_⟩
                 refine P_say.ok (v := S a) (b := a + 1) ?_ ⟨rfl, rfl⟩
                 unfold P_one
                 first
                 | (exfalso; omega)
                 | rw [if_neg (by omega), if_neg (by omega)])
            · refine Z_go (f2 := (66, [(2, .int (Zi (S a))), (1, .int (Zi (S a))), (0, .ref o)], [.ref o])) (fun _ => rfl) ?_
              refine Z_go (f2 := (67, [(2, .int (Zi (S a))), (1, .int (Zi (S a))), (0, .ref o)], [.int (Zi 1), .ref o])) (fun _ => rfl) ?_
              refine Z_go (f2 := (68, [(2, .int (Zi (S a))), (1, .int (Zi (S a))), (0, .ref o)], [.ref o, .int (Zi 1), .ref o])) (fun _ => rfl) ?_
              refine C_gi rfl hs hp.1.1 (by decide) (Nat.le_of_ble_eq_true rfl) rfl ?_
              rw [show C_F (s) o 5 = a from (by first | exact hp.1.2.2.2.2.2.2.2.2.2.1 | exact (if_neg (fun e => absurd e.1 (by assumption))).trans hp.1.2.2.2.2.2.2.2.2.2.1 | exact (if_neg (fun e => absurd e.2 (by decide))).trans hp.1.2.2.2.2.2.2.2.2.2.1 | exact (if_neg (fun e => absurd e.2 (by decide))).trans ((if_neg (fun e => absurd e.2 (by decide))).trans hp.1.2.2.2.2.2.2.2.2.2.1) | exact (if_neg (fun e => absurd e.2 (by decide))).trans ((if_neg (fun e => absurd e.2 (by decide))).trans ((if_neg (fun e => absurd e.2 (by decide))).trans hp.1.2.2.2.2.2.2.2.2.2.1)))]
              show B_R _ _ (71, [(2, .int (Zi (S a))), (1, .int (Zi (S a))), (0, .ref o)], [.int (Zi a), .int (Zi 1), .ref o]) _ _ _
              refine C_callV (As := [.int (Zi 1), .int (Zi a)]) (rest := []) rfl (by decide) rfl (by decide) rfl rfl (by decide +kernel) (Nat.le_of_ble_eq_true rfl) hs hp.1.1 (C_fail0 _ hp (kd := 1) (wh := a) (by first | exact hs.zF _ _ | exact Zor_r _ _ | exact hs.zA _ _ | assumption | exact zA _ _ | exact zS _ | exact Zr_not (hs.zA _ _) | exact hs.1.1 _ _ | exact ⟨by omega, by omega⟩) (by first | exact hs.zF _ _ | exact Zor_r _ _ | exact hs.zA _ _ | assumption | exact zA _ _ | exact zS _ | exact Zr_not (hs.zA _ _) | exact hs.1.1 _ _ | exact ⟨by omega, by omega⟩)) (fun x h uf nf hs q => ?_)
              obtain ⟨rfl, rfl, rfl⟩ := q
              show B_R _ _ (74, [(2, .int (Zi (S a))), (1, .int (Zi (S a))), (0, .ref o)], []) _ _ _
              refine Z_go (f2 := (75, [(2, .int (Zi (S a))), (1, .int (Zi (S a))), (0, .ref o)], [.int (Zi (-1))])) (fun _ => rfl) ?_
              refine Z_iret rfl rfl (by first | rfl | decide | exact narrow_b01 (by omega)) ⟨_, hs, ?_⟩
              try dsimp only
              first
              | (exfalso; omega)
              | (refine ⟨rfl, (((D_Po.refl p s).sF hp.1.2.1).sF hp.1.2.1), _, _, _, (-1), rfl, ((hp.ff 1 (by decide)).pp a (by decide)), by omega, by omega, by omega, by omega, ?_⟩
                 refine P_say.no ?_ (by omega)
                 unfold P_one
                 first
                 | (exfalso; omega)
                 | (rw [if_pos (by omega), if_neg (by omega), if_neg (by omega), if_neg (by omega)]; done)
                 | (rw [if_neg (by omega), if_pos (by omega)]; done))
          · refine Z_go (f2 := (59, [(2, .int (Zi (S a))), (1, .int (Zi (S a))), (0, .ref o)], [.int (Zi (-1))])) (fun _ => rfl) ?_
            refine Z_go (f2 := (60, [(2, .int (Zi (-1))), (1, .int (Zi (S a))), (0, .ref o)], [])) (fun _ => rfl) ?_
            refine Z_go (f2 := (61, [(2, .int (Zi (-1))), (1, .int (Zi (S a))), (0, .ref o)], [.int (Zi (-1))])) (fun _ => rfl) ?_
            refine Z_go (f2 := (62, [(2, .int (Zi (-1))), (1, .int (Zi (S a))), (0, .ref o)], [.int (Zi (-1)), .int (Zi (-1))])) (fun _ => rfl) ?_
            refine Z_cne rfl rfl (by first | exact hs.zF _ _ | exact Zor_r _ _ | exact hs.zA _ _ | assumption | exact zA _ _ | exact zS _ | exact Zr_not (hs.zA _ _) | exact hs.1.1 _ _ | exact ⟨by omega, by omega⟩) (by first | exact hs.zF _ _ | exact Zor_r _ _ | exact hs.zA _ _ | assumption | exact zA _ _ | exact zS _ | exact Zr_not (hs.zA _ _) | exact hs.1.1 _ _ | exact ⟨by omega, by omega⟩) (fun c10 => ?_) (fun c10 => ?_)
            · exfalso; omega
            · refine Z_go (f2 := (66, [(2, .int (Zi (-1))), (1, .int (Zi (S a))), (0, .ref o)], [.ref o])) (fun _ => rfl) ?_
              refine Z_go (f2 := (67, [(2, .int (Zi (-1))), (1, .int (Zi (S a))), (0, .ref o)], [.int (Zi 1), .ref o])) (fun _ => rfl) ?_
              refine Z_go (f2 := (68, [(2, .int (Zi (-1))), (1, .int (Zi (S a))), (0, .ref o)], [.ref o, .int (Zi 1), .ref o])) (fun _ => rfl) ?_
              refine C_gi rfl hs hp.1.1 (by decide) (Nat.le_of_ble_eq_true rfl) rfl ?_
              rw [show C_F (s) o 5 = a from (by first | exact hp.1.2.2.2.2.2.2.2.2.2.1 | exact (if_neg (fun e => absurd e.1 (by assumption))).trans hp.1.2.2.2.2.2.2.2.2.2.1 | exact (if_neg (fun e => absurd e.2 (by decide))).trans hp.1.2.2.2.2.2.2.2.2.2.1 | exact (if_neg (fun e => absurd e.2 (by decide))).trans ((if_neg (fun e => absurd e.2 (by decide))).trans hp.1.2.2.2.2.2.2.2.2.2.1) | exact (if_neg (fun e => absurd e.2 (by decide))).trans ((if_neg (fun e => absurd e.2 (by decide))).trans ((if_neg (fun e => absurd e.2 (by decide))).trans hp.1.2.2.2.2.2.2.2.2.2.1)))]
              show B_R _ _ (71, [(2, .int (Zi (-1))), (1, .int (Zi (S a))), (0, .ref o)], [.int (Zi a), .int (Zi 1), .ref o]) _ _ _
              refine C_callV (As := [.int (Zi 1), .int (Zi a)]) (rest := []) rfl (by decide) rfl (by decide) rfl rfl (by decide +kernel) (Nat.le_of_ble_eq_true rfl) hs hp.1.1 (C_fail0 _ hp (kd := 1) (wh := a) (by first | exact hs.zF _ _ | exact Zor_r _ _ | exact hs.zA _ _ | assumption | exact zA _ _ | exact zS _ | exact Zr_not (hs.zA _ _) | exact hs.1.1 _ _ | exact ⟨by omega, by omega⟩) (by first | exact hs.zF _ _ | exact Zor_r _ _ | exact hs.zA _ _ | assumption | exact zA _ _ | exact zS _ | exact Zr_not (hs.zA _ _) | exact hs.1.1 _ _ | exact ⟨by omega, by omega⟩)) (fun x h uf nf hs q => ?_)
              obtain ⟨rfl, rfl, rfl⟩ := q
              show B_R _ _ (74, [(2, .int (Zi (-1))), (1, .int (Zi (S a))), (0, .ref o)], []) _ _ _
              refine Z_go (f2 := (75, [(2, .int (Zi (-1))), (1, .int (Zi (S a))), (0, .ref o)], [.int (Zi (-1))])) (fun _ => rfl) ?_
              refine Z_iret rfl rfl (by first | rfl | decide | exact narrow_b01 (by omega)) ⟨_, hs, ?_⟩
              try dsimp only
              first
              | (exfalso; omega)
              | (refine ⟨rfl, (((D_Po.refl p s).sF hp.1.2.1).sF hp.1.2.1), _, _, _, (-1), rfl, ((hp.ff 1 (by decide)).pp a (by decide)), by omega, by omega, by omega, by omega, ?_⟩
                 refine P_say.no ?_ (by omega)
                 unfold P_one
                 first
                 | (exfalso; omega)
                 | (rw [if_pos (by omega), if_neg (by omega), if_neg (by omega), if_neg (by omega)]; done)
                 | (rw [if_neg (by omega), if_pos (by omega)]; done))
  · refine Z_go (f2 := (14, [(2, .int (Zi (S a))), (1, .int (Zi (S a))), (0, .ref o)], [.ref o])) (fun _ => rfl) ?_
    refine Z_go (f2 := (15, [(2, .int (Zi (S a))), (1, .int (Zi (S a))), (0, .ref o)], [.ref o, .ref o])) (fun _ => rfl) ?_
    refine C_gi rfl hs hp.1.1 (by decide) (Nat.le_of_ble_eq_true rfl) rfl ?_
    rw [show C_F (s) o 5 = a from (by first | exact hp.1.2.2.2.2.2.2.2.2.2.1 | exact (if_neg (fun e => absurd e.1 (by assumption))).trans hp.1.2.2.2.2.2.2.2.2.2.1 | exact (if_neg (fun e => absurd e.2 (by decide))).trans hp.1.2.2.2.2.2.2.2.2.2.1 | exact (if_neg (fun e => absurd e.2 (by decide))).trans ((if_neg (fun e => absurd e.2 (by decide))).trans hp.1.2.2.2.2.2.2.2.2.2.1) | exact (if_neg (fun e => absurd e.2 (by decide))).trans ((if_neg (fun e => absurd e.2 (by decide))).trans ((if_neg (fun e => absurd e.2 (by decide))).trans hp.1.2.2.2.2.2.2.2.2.2.1)))]
    show B_R _ _ (18, [(2, .int (Zi (S a))), (1, .int (Zi (S a))), (0, .ref o)], [.int (Zi a), .ref o]) _ _ _
    refine Z_go (f2 := (19, [(2, .int (Zi (S a))), (1, .int (Zi (S a))), (0, .ref o)], [.int (Zi 1), .int (Zi a), .ref o])) (fun _ => rfl) ?_
    refine Z_iadd rfl ?_
    refine C_pi rfl hs hp.1.1 (by decide) (Nat.le_of_ble_eq_true rfl) (.inl rfl) rfl rfl rfl (by first | exact hs.zF _ _ | exact Zor_r _ _ | exact hs.zA _ _ | assumption | exact zA _ _ | exact zS _ | exact Zr_not (hs.zA _ _) | exact hs.1.1 _ _ | exact ⟨by omega, by omega⟩) (fun h hs => ?_)
    refine Z_go (f2 := (24, [(2, .int (Zi (S a))), (1, .int (Zi (S a))), (0, .ref o)], [.ref o])) (fun _ => rfl) ?_
    refine C_callVR (As := []) (rest := []) rfl (by decide) rfl (by decide) rfl rfl (by decide +kernel) (Nat.le_of_ble_eq_true rfl) hs hp.1.1 (C_peek _ (hp.aa (a + 1)) (by omega)) (fun x q => ?_)
    obtain rfl := q
    have zpk132 := hp.r (a + 1) (by omega)
    show B_R _ _ (27, [(2, .int (Zi (S a))), (1, .int (Zi (S a))), (0, .ref o)], [.int (Zi (S (a + 1)))]) _ _ _
    refine Z_callQ (vs := [.int (Zi (S (a + 1)))]) (rest := []) rfl (by decide) rfl rfl rfl (Nat.le_of_ble_eq_true rfl) (C_escd _ (c := S (a + 1)) (by first | exact hs.zF _ _ | exact Zor_r _ _ | exact hs.zA _ _ | assumption | exact zA _ _ | exact zS _ | exact Zr_not (hs.zA _ _) | exact hs.1.1 _ _ | exact ⟨by omega, by omega⟩)) (fun x q => ?_)
    obtain ⟨es133, ees133⟩ : ∃ z : Int, z = D_escd (S (a + 1)) := ⟨_, rfl⟩
    rw [← ees133] at q
    obtain rfl := q
    have hes133 : es133 = 10 ∧ S (a + 1) = 110 ∨ es133 = 9 ∧ S (a + 1) = 116 ∨ es133 = (S (a + 1)) ∧ D_sgn (S (a + 1)) ∧ ¬ (S (a + 1) = 110 ∨ S (a + 1) = 116) ∨ es133 = -1 ∧ ¬ D_sgn (S (a + 1)) ∧ ¬ (S (a + 1) = 110 ∨ S (a + 1) = 116) := by
      rw [ees133]
      unfold D_escd
      by_cases c1 : S (a + 1) = 110
      · rw [if_pos c1]; exact .inl ⟨rfl, c1⟩
      · rw [if_neg c1]
        by_cases c2 : S (a + 1) = 116
        · rw [if_pos c2]; exact .inr (.inl ⟨rfl, c2⟩)
        · rw [if_neg c2]
          by_cases c3 : D_sgn (S (a + 1))
          · rw [if_pos c3]; exact .inr (.inr (.inl ⟨rfl, c3, by omega⟩))
          · rw [if_neg c3]; exact .inr (.inr (.inr ⟨rfl, c3, by omega⟩))
    have zes133 : Zr es133 := ⟨by omega, by omega⟩
    show B_R _ _ (30, [(2, .int (Zi (S a))), (1, .int (Zi (S a))), (0, .ref o)], [.int (Zi es133)]) _ _ _
    refine Z_go (f2 := (31, [(2, .int (Zi es133)), (1, .int (Zi (S a))), (0, .ref o)], [])) (fun _ => rfl) ?_
    refine Z_go (f2 := (60, [(2, .int (Zi es133)), (1, .int (Zi (S a))), (0, .ref o)], [])) (fun _ => rfl) ?_
    refine Z_go (f2 := (61, [(2, .int (Zi es133)), (1, .int (Zi (S a))), (0, .ref o)], [.int (Zi es133)])) (fun _ => rfl) ?_
    refine Z_go (f2 := (62, [(2, .int (Zi es133)), (1, .int (Zi (S a))), (0, .ref o)], [.int (Zi (-1)), .int (Zi es133)])) (fun _ => rfl) ?_
    refine Z_cne rfl rfl (by first | exact hs.zF _ _ | exact Zor_r _ _ | exact hs.zA _ _ | assumption | exact zA _ _ | exact zS _ | exact Zr_not (hs.zA _ _) | exact hs.1.1 _ _ | exact ⟨by omega, by omega⟩) (by first | exact hs.zF _ _ | exact Zor_r _ _ | exact hs.zA _ _ | assumption | exact zA _ _ | exact zS _ | exact Zr_not (hs.zA _ _) | exact hs.1.1 _ _ | exact ⟨by omega, by omega⟩) (fun c11 => ?_) (fun c11 => ?_)
    · refine Z_go (f2 := (77, [(2, .int (Zi es133)), (1, .int (Zi (S a))), (0, .ref o)], [.ref o])) (fun _ => rfl) ?_
      refine Z_go (f2 := (78, [(2, .int (Zi es133)), (1, .int (Zi (S a))), (0, .ref o)], [.ref o, .ref o])) (fun _ => rfl) ?_
      refine C_gi rfl hs hp.1.1 (by decide) (Nat.le_of_ble_eq_true rfl) rfl ?_
      rw [show C_F (C_sF s o 5 (a + 1)) o 5 = a + 1 from (by first | rfl | (simp only [C_F, C_P, C_A, C_L, C_Q, C_K, C_T, C_n, C_sF, C_sP, C_sA, C_sL, C_sQ, C_sAf, C_sQf]; simp [*]; done) | (simp only [C_F, C_P, C_A, C_L, C_Q, C_K, C_T, C_n, C_sF, C_sP, C_sA, C_sL, C_sQ, C_sAf, C_sQf]; simp; omega))]; show B_R _ _ (81, [(2, .int (Zi es133)), (1, .int (Zi (S a))), (0, .ref o)], [.int (Zi (a + 1)), .ref o]) _ _ _
      refine Z_go (f2 := (82, [(2, .int (Zi es133)), (1, .int (Zi (S a))), (0, .ref o)], [.int (Zi 1), .int (Zi (a + 1)), .ref o])) (fun _ => rfl) ?_
      refine Z_iadd rfl ?_
      refine C_pi rfl hs hp.1.1 (by decide) (Nat.le_of_ble_eq_true rfl) (.inl rfl) rfl rfl rfl (by first | exact hs.zF _ _ | exact Zor_r _ _ | exact hs.zA _ _ | assumption | exact zA _ _ | exact zS _ | exact Zr_not (hs.zA _ _) | exact hs.1.1 _ _ | exact ⟨by omega, by omega⟩) (fun h hs => ?_)
      refine Z_go (f2 := (87, [(2, .int (Zi es133)), (1, .int (Zi (S a))), (0, .ref o)], [.int (Zi es133)])) (fun _ => rfl) ?_
      refine Z_iret rfl rfl (by first | rfl | decide | exact narrow_b01 (by omega)) ⟨_, hs, ?_⟩
      try dsimp only
      first
      | (exfalso; omega)
      | (refine ⟨rfl, (((D_Po.refl p s).sF hp.1.2.1).sF hp.1.2.1), _, _, _, es133, rfl, ((hp.aa (a + 1)).aa (a + 1 + 1)), by omega, by omega, by omega, by omega, ?_⟩
         have hg : P_one S a = .inr (es133, a + 1 + 1) := by
           rw [show (a + 1 + 1 : Int) = a + 2 by omega]
           unfold P_one
           rw [if_pos (by omega)]
           first
           | (rw [if_pos (by omega), show es133 = 10 by omega]; done)
           | (rw [if_neg (by omega), if_pos (by omega), show es133 = 9 by omega]; done)
           | (by_cases q1 : S (a + 1) = 110
              · rw [if_pos q1, show es133 = 10 by omega]
              · rw [if_neg q1]
                by_cases q2 : S (a + 1) = 116
                · rw [if_pos q2, show es133 = 9 by omega]
                · rw [if_neg q2, if_pos (by omega), show es133 = S (a + 1) by omega])
         exact P_say.ok hg ⟨rfl, rfl⟩)
    · refine Z_go (f2 := (66, [(2, .int (Zi es133)), (1, .int (Zi (S a))), (0, .ref o)], [.ref o])) (fun _ => rfl) ?_
      refine Z_go (f2 := (67, [(2, .int (Zi es133)), (1, .int (Zi (S a))), (0, .ref o)], [.int (Zi 1), .ref o])) (fun _ => rfl) ?_
      refine Z_go (f2 := (68, [(2, .int (Zi es133)), (1, .int (Zi (S a))), (0, .ref o)], [.ref o, .int (Zi 1), .ref o])) (fun _ => rfl) ?_
      refine C_gi rfl hs hp.1.1 (by decide) (Nat.le_of_ble_eq_true rfl) rfl ?_
      rw [show C_F (C_sF s o 5 (a + 1)) o 5 = a + 1 from (by first | rfl | (simp only [C_F, C_P, C_A, C_L, C_Q, C_K, C_T, C_n, C_sF, C_sP, C_sA, C_sL, C_sQ, C_sAf, C_sQf]; simp [*]; done) | (simp only [C_F, C_P, C_A, C_L, C_Q, C_K, C_T, C_n, C_sF, C_sP, C_sA, C_sL, C_sQ, C_sAf, C_sQf]; simp; omega))]; show B_R _ _ (71, [(2, .int (Zi es133)), (1, .int (Zi (S a))), (0, .ref o)], [.int (Zi (a + 1)), .int (Zi 1), .ref o]) _ _ _
      refine C_callV (As := [.int (Zi 1), .int (Zi (a + 1))]) (rest := []) rfl (by decide) rfl (by decide) rfl rfl (by decide +kernel) (Nat.le_of_ble_eq_true rfl) hs hp.1.1 (C_fail0 _ (hp.aa (a + 1)) (kd := 1) (wh := a + 1) (by first | exact hs.zF _ _ | exact Zor_r _ _ | exact hs.zA _ _ | assumption | exact zA _ _ | exact zS _ | exact Zr_not (hs.zA _ _) | exact hs.1.1 _ _ | exact ⟨by omega, by omega⟩) (by first | exact hs.zF _ _ | exact Zor_r _ _ | exact hs.zA _ _ | assumption | exact zA _ _ | exact zS _ | exact Zr_not (hs.zA _ _) | exact hs.1.1 _ _ | exact ⟨by omega, by omega⟩)) (fun x h uf nf hs q => ?_)
      obtain ⟨rfl, rfl, rfl⟩ := q
      show B_R _ _ (74, [(2, .int (Zi es133)), (1, .int (Zi (S a))), (0, .ref o)], []) _ _ _
      refine Z_go (f2 := (75, [(2, .int (Zi es133)), (1, .int (Zi (S a))), (0, .ref o)], [.int (Zi (-1))])) (fun _ => rfl) ?_
      refine Z_iret rfl rfl (by first | rfl | decide | exact narrow_b01 (by omega)) ⟨_, hs, ?_⟩
      try dsimp only
      first
      | (exfalso; omega)
      | (refine ⟨rfl, ((((D_Po.refl p s).sF hp.1.2.1).sF hp.1.2.1).sF hp.1.2.1), _, _, _, (-1), rfl, (((hp.aa (a + 1)).ff 1 (by decide)).pp (a + 1) (by decide)), by omega, by omega, by omega, by omega, ?_⟩
         refine P_say.no ?_ (by omega)
         unfold P_one
         first
         | (exfalso; omega)
         | (rw [if_pos (by omega), if_neg (by omega), if_neg (by omega), if_neg (by omega)]; done)
         | (rw [if_neg (by omega), if_pos (by omega)]; done))
