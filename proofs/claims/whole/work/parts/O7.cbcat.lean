/-! the class: Machine: what is built: a new state; a CAT -/
def M_κ (s : C_S) (A : Nat → Nat) : Nat → Int → Int := fun f => if 1 ≤ f ∧ f ≤ 4 then C_A s (A f) else fun _ => 0
def M_cx (s : C_S) (p : List Nat) (o : Nat) (A : Nat → Nat) (tr : Nat) (p2 : List Nat) (A2 : Nat → Nat) (m2 sm : Int) (τ : Nat → Int → Int) (β : Int → Int64) : Prop := D_M0 s p o A ∧ C_P s o 0 = some tr ∧ D_Tr s p2 tr A2 m2 sm τ β ∧ p2 ≠ p ∧ 0 ≤ C_F s o 5
def M_fb (p : List Nat) (o : Nat) (A : Nat → Nat) (s s2 : C_S) : Prop := C_fr (fun t => t = p) s s2 ∧ C_n s2 = C_n s ∧ D_M0 s2 p o A ∧ (∀ f, C_P s2 o f = C_P s o f) ∧ ∀ f, f ≠ 5 → C_F s2 o f = C_F s o f
theorem M_fb.refl {s : C_S} {p : List Nat} {o : Nat} {A : Nat → Nat} (h : D_M0 s p o A) : M_fb p o A s s := ⟨C_fr.refl _ _, rfl, h, fun _ => rfl, fun _ _ => rfl⟩
theorem M_fb.tr {s u v : C_S} {p : List Nat} {o : Nat} {A : Nat → Nat} (h : M_fb p o A s u) (g : M_fb p o A u v) : M_fb p o A s v := ⟨h.1.tr g.1, g.2.1.trans h.2.1, g.2.2.1, fun f => (g.2.2.2.1 f).trans (h.2.2.2.1 f), fun f hf => (g.2.2.2.2 f hf).trans (h.2.2.2.2 f hf)⟩
theorem M_fb.cx {s u : C_S} {p : List Nat} {o : Nat} {A : Nat → Nat} {tr : Nat} {p2 : List Nat} {A2 : Nat → Nat} {m2 sm : Int} {τ : Nat → Int → Int} {β : Int → Int64} (h : M_fb p o A s u) (c : M_cx s p o A tr p2 A2 m2 sm τ β) (w : C_wf s) (h5 : 0 ≤ C_F u o 5) : M_cx u p o A tr p2 A2 m2 sm τ β := ⟨h.2.2.1, (h.2.2.2.1 0).trans c.2.1, c.2.2.1.fr w h.1 (fun e => c.2.2.2.1 e), c.2.2.2.1, h5⟩
def M_ps (p : List Nat) (o : Nat) (A : Nat → Nat) (H : Int → Int → Prop) (sm : Int) (s : C_S) (r : Int) (R : (Int → Int) → Int → M_R) (B : Int) (x : Option Value) (s2 : C_S) (n : Nat) : Prop := n = 0 ∧ ∃ q, Zr q ∧ x = some (.int (Zi q)) ∧ M_fb p o A s s2 ∧ C_F s2 o 5 ≤ C_F s o 5 + B ∧ M_bl (M_κ s A) (M_κ s2 A) H sm (C_F s o 5) (C_F s2 o 5) r q R
theorem C_nst (d : Nat) {s : C_S} {p : List Nat} {o : Nat} {A : Nat → Nat} {a b c e : Int} (hm : D_M0 s p o A) (m0 : 0 ≤ C_F s o 5) (m1 : C_F s o 5 < 202) (za : Zr a) (zb : Zr b) (zc : Zr c) (ze : Zr e) : C_ok (d + 2) 22 [.ref o, .int (Zi a), .int (Zi b), .int (Zi c), .int (Zi e)] s (fun x s2 n => n = 0 ∧ x = some (.int (Zi (C_F s o 5))) ∧ M_fb p o A s s2 ∧ C_F s2 o 5 = C_F s o 5 + 1 ∧ M_nw (M_κ s A) (M_κ s2 A) (C_F s o 5) a b c e) := by
  refine (C_newSt d hm m0 za zb zc ze).weak (fun x s2 n q => ?_)
  obtain ⟨rfl, ⟨q1, _⟩ | ⟨_, rfl, rfl⟩⟩ := q
  · omega
  have ne : ∀ f g, (f = 1 ∨ f = 2 ∨ f = 3 ∨ f = 4) → (g = 1 ∨ g = 2 ∨ g = 3 ∨ g = 4) → f ≠ g → A f ≠ A g := fun f g hf hg hn e => hn (hm.2.2.2 f g (by omega) (by omega) e)
  have T := hm.2.1
  have TA : ∀ f, (f = 1 ∨ f = 2 ∨ f = 3 ∨ f = 4) → C_T s (A f) = p := fun f hf => (hm.2.2.1 f (by omega)).2.2
  have key : ∀ f, (f = 1 ∨ f = 2 ∨ f = 3 ∨ f = 4) → ∀ j, C_A (C_sA (C_sA (C_sA (C_sA (C_sF s o 5 (C_F s o 5 + 1)) (A 1) (C_F s o 5) a) (A 2) (C_F s o 5) b) (A 3) (C_F s o 5) c) (A 4) (C_F s o 5) e) (A f) j = if j = C_F s o 5 then (if f = 1 then a else if f = 2 then b else if f = 3 then c else e) else C_A s (A f) j := by
    intro f hf j
    show (if A f = A 4 ∧ j = C_F s o 5 then e else if A f = A 3 ∧ j = C_F s o 5 then c else if A f = A 2 ∧ j = C_F s o 5 then b else if A f = A 1 ∧ j = C_F s o 5 then a else C_A s (A f) j) = _
    by_cases hj : j = C_F s o 5
    · rw [if_pos hj]
      rcases hf with rfl | rfl | rfl | rfl
      · rw [if_neg (fun x => ne 1 4 (by omega) (by omega) (by omega) x.1), if_neg (fun x => ne 1 3 (by omega) (by omega) (by omega) x.1), if_neg (fun x => ne 1 2 (by omega) (by omega) (by omega) x.1), if_pos ⟨rfl, hj⟩, if_pos rfl]
      · rw [if_neg (fun x => ne 2 4 (by omega) (by omega) (by omega) x.1), if_neg (fun x => ne 2 3 (by omega) (by omega) (by omega) x.1), if_pos ⟨rfl, hj⟩, if_neg (by omega), if_pos rfl]
      · rw [if_neg (fun x => ne 3 4 (by omega) (by omega) (by omega) x.1), if_pos ⟨rfl, hj⟩, if_neg (by omega), if_neg (by omega), if_pos rfl]
      · rw [if_pos ⟨rfl, hj⟩, if_neg (by omega), if_neg (by omega), if_neg (by omega)]
    · rw [if_neg hj, if_neg (fun x => hj x.2), if_neg (fun x => hj x.2), if_neg (fun x => hj x.2), if_neg (fun x => hj x.2)]
  refine ⟨rfl, rfl, ⟨?_, rfl, hm, fun _ => rfl, fun f hf => if_neg (fun x => hf x.2)⟩, if_pos ⟨rfl, rfl⟩, fun f y hy => ?_, ?_, ?_, ?_, ?_⟩
  · exact (((((C_fr.refl _ _).sF T).sA (TA 1 (by omega))).sA (TA 2 (by omega))).sA (TA 3 (by omega))).sA (TA 4 (by omega))
  · unfold M_κ
    by_cases hf : 1 ≤ f ∧ f ≤ 4
    · rw [if_pos hf, if_pos hf, key f (by omega), if_neg hy]
    · rw [if_neg hf, if_neg hf]
  · show (if 1 ≤ 1 ∧ 1 ≤ 4 then _ else _ : Int → Int) _ = _
    rw [if_pos (by omega), key 1 (by omega), if_pos rfl, if_pos rfl]
  · show (if 1 ≤ 2 ∧ 2 ≤ 4 then _ else _ : Int → Int) _ = _
    rw [if_pos (by omega), key 2 (by omega), if_pos rfl, if_neg (by omega), if_pos rfl]
  · show (if 1 ≤ 3 ∧ 3 ≤ 4 then _ else _ : Int → Int) _ = _
    rw [if_pos (by omega), key 3 (by omega), if_pos rfl, if_neg (by omega), if_neg (by omega), if_pos rfl]
  · show (if 1 ≤ 4 ∧ 4 ≤ 4 then _ else _ : Int → Int) _ = _
    rw [if_pos (by omega), key 4 (by omega), if_pos rfl, if_neg (by omega), if_neg (by omega), if_neg (by omega)]
/-- what the building of a node does, for nodes of so many levels -/
def M_BN (D dd : Nat) : Prop := ∀ (s : C_S) (p : List Nat) (o : Nat) (A : Nat → Nat) (tr : Nat) (p2 : List Nat) (A2 : Nat → Nat) (m2 sm : Int) (τ : Nat → Int → Int) (β : Int → Int64) (k : Nat) (lo hi i : Int) (t : P_T) (r dep : Int), M_cx s p o A tr p2 A2 m2 sm τ β → N_is τ (T_has β) sm dd k lo hi i t → 0 ≤ lo → hi ≤ 168 → Zr r → C_F s o 5 + T_sz t ≤ 202 → 0 ≤ dep → 4 * dep + 3 * (dd : Int) ≤ (if k = 2 then 144 else if k = 1 then 145 else if τ 0 i = 2 then 146 else 147) → k ≤ 2 → C_ok D 18 [.ref o, .int (Zi i), .int (Zi r), .int (Zi dep)] s (M_ps p o A (T_has β) sm s r (fun W n => M_of W n t) (T_sz t))
theorem N_snoc {α : Type} : ∀ L : List α, L = [] ∨ ∃ L1 q, L = L1 ++ [q]
  | [] => .inl rfl
  | a :: L => by
    rcases N_snoc L with rfl | ⟨L1, q, rfl⟩
    · exact .inr ⟨[], a, rfl⟩
    · exact .inr ⟨a :: L1, q, rfl⟩
theorem N_lk_at {τ : Nat → Int → Int} {q : Int × P_T} {L2 : List (Int × P_T)} : ∀ (L1 : List (Int × P_T)) (prev : Int), N_lk τ prev (L1 ++ q :: L2) → τ 4 q.1 = N_la prev L1
  | [], _, h => h.1
  | a :: L1, _, h => N_lk_at L1 a.1 h.2.2
theorem N_seq_at {P : Int → Int → Int → P_T → Prop} (hP : ∀ a b x t, P a b x t → a ≤ x ∧ x < b) {q : Int × P_T} {L2 : List (Int × P_T)} : ∀ (L1 : List (Int × P_T)) {lo hi : Int}, N_seq P lo hi (L1 ++ q :: L2) → ∃ a b, lo ≤ a ∧ b ≤ hi ∧ P a b q.1 q.2
  | [], lo, hi, h => by
    obtain ⟨mid, h1, h2⟩ := h
    exact ⟨lo, mid, Int.le_refl _, N_seq.le hP h2, h1⟩
  | x :: L1, lo, hi, h => by
    obtain ⟨mid, h1, h2⟩ := h
    obtain ⟨a, b, g1, g2, g3⟩ := N_seq_at hP L1 h2
    have := hP _ _ _ _ h1
    exact ⟨a, b, by omega, g2, g3⟩
theorem N_seq_len {P : Int → Int → Int → P_T → Prop} (hP : ∀ a b x t, P a b x t → a ≤ x ∧ x < b) : ∀ (L : List (Int × P_T)) {lo hi : Int}, N_seq P lo hi L → lo + L.length ≤ hi
  | [], lo, hi, h => by
    have h : lo = hi := h
    rw [List.length_nil]; omega
  | x :: L, lo, hi, h => by
    obtain ⟨mid, h1, h2⟩ := h
    have := hP _ _ _ _ h1
    have := N_seq_len hP L h2
    rw [List.length_cons]; omega
def M_sl (W : Int → Int) (n : Int) : List (Int × P_T) → M_R
  | [] => M_id n
  | q :: L => M_seq (M_of W n q.2) (M_sl W n L)
def T_szs : List (Int × P_T) → Int
  | [] => 0
  | q :: L => T_sz q.2 + T_szs L
theorem T_szs_app : ∀ (L1 L2 : List (Int × P_T)), T_szs (L1 ++ L2) = T_szs L1 + T_szs L2
  | [], L2 => by show _ = 0 + _; rw [List.nil_append]; omega
  | q :: L1, L2 => by show T_sz q.2 + T_szs (L1 ++ L2) = T_sz q.2 + T_szs L1 + _; rw [T_szs_app L1 L2]; omega
theorem T_szs_pos : ∀ (L : List (Int × P_T)), (∀ q ∈ L, T_is q.2) → 0 ≤ T_szs L
  | [], _ => Int.le_refl _
  | q :: L, h => by
    have := T_sz_pos (h q (List.mem_cons_self ..))
    have := T_szs_pos L (fun r hr => h r (List.mem_cons_of_mem _ hr))
    show 0 ≤ T_sz q.2 + T_szs L
    omega
theorem M_sl_rg {W : Int → Int} {n : Int} : ∀ (L : List (Int × P_T)), (∀ q ∈ L, T_is q.2) → M_rg n (M_sl W n L)
  | [], _ => M_id_rg
  | q :: L, h => M_seq_rg (M_of_rg (h q (List.mem_cons_self ..))) (M_sl_rg L (fun r hr => h r (List.mem_cons_of_mem _ hr)))
theorem N_beh_M {W : Int → Int} {n : Int} : ∀ (L : List (Int × P_T)) (c : P_T), T_is c → (∀ q ∈ L, T_is q.2) → ∀ i j, M_of W n (L.foldl (fun c q => T_beh c q.2) c) i j ↔ M_seq (M_of W n c) (M_sl W n L) i j
  | [], c, hc, _, i, j => (M_seq_id (M_of_rg hc)).symm
  | q :: L, c, hc, h, i, j => by
    have hq := h q (List.mem_cons_self ..)
    rw [List.foldl_cons, N_beh_M L _ (hc.beh hq) (fun r hr => h r (List.mem_cons_of_mem _ hr)) i j, M_of_beh hc hq]
    exact M_seq_as
theorem N_beh_sz : ∀ (L : List (Int × P_T)) (c : P_T), T_is c → (∀ q ∈ L, T_is q.2) → T_sz (L.foldl (fun c q => T_beh c q.2) c) = T_sz c + T_szs L
  | [], c, _, _ => by show _ = _ + 0; rw [List.foldl_nil]; omega
  | q :: L, c, hc, h => by
    have hq := h q (List.mem_cons_self ..)
    rw [List.foldl_cons, N_beh_sz L _ (hc.beh hq) (fun r hr => h r (List.mem_cons_of_mem _ hr)), T_sz_beh hc hq]
    show _ = _ + (T_sz q.2 + T_szs L)
    omega
theorem C_bcat_lp {d dd : Nat} {h0 : E_H} {s : C_S} {sl : Nat} {p : List Nat} {o : Nat} {A : Nat → Nat} {tr : Nat} {p2 : List Nat} {A2 : Nat → Nat} {m2 sm : Int} {τ : Nat → Int → Int} {β : Int → Int64} {L : List (Int × P_T)} {lo hi i r dep : Int} (hB : M_BN (d + 2) dd) (hx : M_cx s p o A tr p2 A2 m2 sm τ β) (sw : C_wf s) (hq : N_seq (fun a b x t => N_is τ (T_has β) sm dd 0 a b x t) (lo + 1) hi L) (hlk : N_lk τ (-1) L) (l0 : 0 ≤ lo) (h1 : hi ≤ 168) (zr : Zr r) (hsz : C_F s o 5 + T_szs L ≤ 202) (dep0 : 0 ≤ dep) (hdep : 4 * dep + 3 * (dd : Int) ≤ 142) : ∀ (c : Nat) (L1 L2 : List (Int × P_T)) (tn st : Int) (u : C_S) (h : E_H), L1.length = c → L = L1 ++ L2 → tn = L2.length → C_is h0 h u → M_fb p o A s u → C_F u o 5 ≤ C_F s o 5 + T_szs L2 → Zr st → M_bl (M_κ s A) (M_κ u A) (T_has β) sm (C_F s o 5) (C_F u o 5) r st (fun W n => M_sl W n L2) → B_R (d + 2) E_m20 (16, [(6, .int (Zi tn)), (5, .int (Zi (N_la (-1) L1))), (4, .int (Zi st)), (0, .ref o), (1, .int (Zi i)), (2, .int (Zi r)), (3, .int (Zi dep))], []) h sl (fun x => ∃ s2 : C_S, C_is h0 x.2.1 s2 ∧ ∃ n, x.2.2 = sl + n ∧ M_ps p o A (T_has β) sm s r (fun W n => M_sl W n L) (T_szs L) x.1 s2 n) := by
  intro c
  induction c with
  | zero =>
    intro L1 L2 tn st u h hc hL htn hs fb h5 zst bl
    obtain rfl : L1 = [] := List.eq_nil_of_length_eq_zero hc
    rw [List.nil_append] at hL
    subst hL
    show B_R _ _ (16, [(6, .int (Zi tn)), (5, .int (Zi (-1))), (4, .int (Zi st)), (0, .ref o), (1, .int (Zi i)), (2, .int (Zi r)), (3, .int (Zi dep))], []) _ _ _
    have hlen := N_seq_len (fun a b x t h => N_is.r h) _ hq
    have ztn : Zr tn := ⟨by omega, by omega⟩
    refine Z_go (f2 := (18, [(6, .int (Zi tn)), (5, .int (Zi (-1))), (4, .int (Zi st)), (0, .ref o), (1, .int (Zi i)), (2, .int (Zi r)), (3, .int (Zi dep))], [.int (Zi tn)])) (fun _ => rfl) ?_
    refine Z_go (f2 := (21, [(6, .int (Zi tn)), (5, .int (Zi (-1))), (4, .int (Zi st)), (0, .ref o), (1, .int (Zi i)), (2, .int (Zi r)), (3, .int (Zi dep))], [.int (Zi 168), .int (Zi tn)])) (fun _ => rfl) ?_
    refine Z_cge rfl rfl (by first | exact hs.zF _ _ | exact Zor_r _ _ | exact hs.zA _ _ | assumption | exact zA _ _ | exact zS _ | exact Zr_not (hs.zA _ _) | exact hs.1.1 _ _ | exact ⟨by omega, by omega⟩) (by first | exact hs.zF _ _ | exact Zor_r _ _ | exact hs.zA _ _ | assumption | exact zA _ _ | exact zS _ | exact Zr_not (hs.zA _ _) | exact hs.1.1 _ _ | exact ⟨by omega, by omega⟩) (fun y1 => ?_) (fun y1 => ?_)
    · refine Z_go (f2 := (62, [(6, .int (Zi tn)), (5, .int (Zi (-1))), (4, .int (Zi st)), (0, .ref o), (1, .int (Zi i)), (2, .int (Zi r)), (3, .int (Zi dep))], [.int (Zi st)])) (fun _ => rfl) ?_
      refine Z_iret rfl rfl (by first | rfl | decide | exact narrow_b01 (by omega)) ?_
      try dsimp only
      exact ⟨_, hs, 0, rfl, rfl, st, zst, rfl, fb, h5, bl⟩
    · refine Z_go (f2 := (26, [(6, .int (Zi tn)), (5, .int (Zi (-1))), (4, .int (Zi st)), (0, .ref o), (1, .int (Zi i)), (2, .int (Zi r)), (3, .int (Zi dep))], [.int (Zi (-1))])) (fun _ => rfl) ?_
      refine Z_go (f2 := (27, [(6, .int (Zi tn)), (5, .int (Zi (-1))), (4, .int (Zi st)), (0, .ref o), (1, .int (Zi i)), (2, .int (Zi r)), (3, .int (Zi dep))], [.int (Zi (-1)), .int (Zi (-1))])) (fun _ => rfl) ?_
      refine Z_ceq rfl rfl (by first | exact hs.zF _ _ | exact Zor_r _ _ | exact hs.zA _ _ | assumption | exact zA _ _ | exact zS _ | exact Zr_not (hs.zA _ _) | exact hs.1.1 _ _ | exact ⟨by omega, by omega⟩) (by first | exact hs.zF _ _ | exact Zor_r _ _ | exact hs.zA _ _ | assumption | exact zA _ _ | exact zS _ | exact Zr_not (hs.zA _ _) | exact hs.1.1 _ _ | exact ⟨by omega, by omega⟩) (fun y2 => ?_) (fun y2 => ?_)
      · refine Z_go (f2 := (62, [(6, .int (Zi tn)), (5, .int (Zi (-1))), (4, .int (Zi st)), (0, .ref o), (1, .int (Zi i)), (2, .int (Zi r)), (3, .int (Zi dep))], [.int (Zi st)])) (fun _ => rfl) ?_
        refine Z_iret rfl rfl (by first | rfl | decide | exact narrow_b01 (by omega)) ?_
        try dsimp only
        exact ⟨_, hs, 0, rfl, rfl, st, zst, rfl, fb, h5, bl⟩
      · exfalso; omega
  | succ c ih =>
    intro L1 L2 tn st u h hc hL htn hs fb h5 zst bl
    rcases N_snoc L1 with rfl | ⟨L1, qq, rfl⟩
    · rw [List.length_nil] at hc; omega
    rw [List.length_append, List.length_cons, List.length_nil] at hc
    rw [N_la_app]
    rw [List.append_assoc] at hL
    have hL : L = L1 ++ qq :: L2 := hL
    have hlen := N_seq_len (fun a b x t h => N_is.r h) _ hq
    have hlen2 : L.length = L1.length + (L2.length + 1) := by rw [hL, List.length_append, List.length_cons]
    have hall := N_seq.all (Z := T_is) (fun a b x t h => N_is.is _ _ _ _ _ _ h) hq
    have hall2 : ∀ q ∈ L1, T_is q.2 := fun q h => hall q (by rw [hL]; exact List.mem_append_left _ h)
    have hall3 : ∀ q ∈ L2, T_is q.2 := fun q h => hall q (by rw [hL]; exact List.mem_append_right _ (List.mem_cons_of_mem _ h))
    have hallq : T_is qq.2 := hall qq (by rw [hL]; exact List.mem_append_right _ (List.mem_cons_self ..))
    have sz : T_szs L = T_szs L1 + (T_sz qq.2 + T_szs L2) := by rw [hL, T_szs_app]; rfl
    have szp := T_szs_pos L1 hall2
    have szq := T_sz_pos hallq
    have szp3 := T_szs_pos L2 hall3
    obtain ⟨na, nb, n1, n2, n3⟩ := N_seq_at (fun a b x t h => N_is.r h) L1 (by rw [← hL]; exact hq)
    have nr := N_is.r n3
    have n4 := N_lk_at L1 (-1) (by rw [← hL]; exact hlk)
    have ztn : Zr tn := ⟨by omega, by omega⟩
    have zq : Zr qq.1 := ⟨by omega, by omega⟩
    have zdep : Zr dep := ⟨by omega, by omega⟩
    have hg4 : T_g τ 4 qq.1 = N_la (-1) L1 := by unfold T_g; rw [if_pos (by omega), n4]
    have ok := fb.2.2.1.1
    have bl0 := bl.1
    have hxu := fb.cx hx sw (by have := hx.2.2.2.2; omega)
    have eu0 := hxu.2.1
    have htu := hxu.2.2.1
    refine Z_go (f2 := (18, [(6, .int (Zi tn)), (5, .int (Zi (qq.1))), (4, .int (Zi st)), (0, .ref o), (1, .int (Zi i)), (2, .int (Zi r)), (3, .int (Zi dep))], [.int (Zi tn)])) (fun _ => rfl) ?_
    refine Z_go (f2 := (21, [(6, .int (Zi tn)), (5, .int (Zi (qq.1))), (4, .int (Zi st)), (0, .ref o), (1, .int (Zi i)), (2, .int (Zi r)), (3, .int (Zi dep))], [.int (Zi 168), .int (Zi tn)])) (fun _ => rfl) ?_
    refine Z_cge rfl rfl (by first | exact hs.zF _ _ | exact Zor_r _ _ | exact hs.zA _ _ | assumption | exact zA _ _ | exact zS _ | exact Zr_not (hs.zA _ _) | exact hs.1.1 _ _ | exact ⟨by omega, by omega⟩) (by first | exact hs.zF _ _ | exact Zor_r _ _ | exact hs.zA _ _ | assumption | exact zA _ _ | exact zS _ | exact Zr_not (hs.zA _ _) | exact hs.1.1 _ _ | exact ⟨by omega, by omega⟩) (fun y1 => ?_) (fun y1 => ?_)
    · refine Z_go (f2 := (62, [(6, .int (Zi tn)), (5, .int (Zi (qq.1))), (4, .int (Zi st)), (0, .ref o), (1, .int (Zi i)), (2, .int (Zi r)), (3, .int (Zi dep))], [.int (Zi st)])) (fun _ => rfl) ?_
      refine Z_iret rfl rfl (by first | rfl | decide | exact narrow_b01 (by omega)) ?_
      try dsimp only
      exfalso; omega
    · refine Z_go (f2 := (26, [(6, .int (Zi tn)), (5, .int (Zi (qq.1))), (4, .int (Zi st)), (0, .ref o), (1, .int (Zi i)), (2, .int (Zi r)), (3, .int (Zi dep))], [.int (Zi (qq.1))])) (fun _ => rfl) ?_
      refine Z_go (f2 := (27, [(6, .int (Zi tn)), (5, .int (Zi (qq.1))), (4, .int (Zi st)), (0, .ref o), (1, .int (Zi i)), (2, .int (Zi r)), (3, .int (Zi dep))], [.int (Zi (-1)), .int (Zi (qq.1))])) (fun _ => rfl) ?_
      refine Z_ceq rfl rfl (by first | exact hs.zF _ _ | exact Zor_r _ _ | exact hs.zA _ _ | assumption | exact zA _ _ | exact zS _ | exact Zr_not (hs.zA _ _) | exact hs.1.1 _ _ | exact ⟨by omega, by omega⟩) (by first | exact hs.zF _ _ | exact Zor_r _ _ | exact hs.zA _ _ | assumption | exact zA _ _ | exact zS _ | exact Zr_not (hs.zA _ _) | exact hs.1.1 _ _ | exact ⟨by omega, by omega⟩) (fun y2 => ?_) (fun y2 => ?_)
      · refine Z_go (f2 := (62, [(6, .int (Zi tn)), (5, .int (Zi (qq.1))), (4, .int (Zi st)), (0, .ref o), (1, .int (Zi i)), (2, .int (Zi r)), (3, .int (Zi dep))], [.int (Zi st)])) (fun _ => rfl) ?_
        refine Z_iret rfl rfl (by first | rfl | decide | exact narrow_b01 (by omega)) ?_
        try dsimp only
        exfalso; omega
      · have hsu := hs
        refine Z_go (f2 := (31, [(6, .int (Zi tn)), (5, .int (Zi (qq.1))), (4, .int (Zi st)), (0, .ref o), (1, .int (Zi i)), (2, .int (Zi r)), (3, .int (Zi dep))], [.ref o])) (fun _ => rfl) ?_
        refine Z_go (f2 := (33, [(6, .int (Zi tn)), (5, .int (Zi (qq.1))), (4, .int (Zi st)), (0, .ref o), (1, .int (Zi i)), (2, .int (Zi r)), (3, .int (Zi dep))], [.int (Zi (qq.1)), .ref o])) (fun _ => rfl) ?_
        refine Z_go (f2 := (35, [(6, .int (Zi tn)), (5, .int (Zi (qq.1))), (4, .int (Zi st)), (0, .ref o), (1, .int (Zi i)), (2, .int (Zi r)), (3, .int (Zi dep))], [.int (Zi st), .int (Zi (qq.1)), .ref o])) (fun _ => rfl) ?_
        refine Z_go (f2 := (36, [(6, .int (Zi tn)), (5, .int (Zi (qq.1))), (4, .int (Zi st)), (0, .ref o), (1, .int (Zi i)), (2, .int (Zi r)), (3, .int (Zi dep))], [.int (Zi dep), .int (Zi st), .int (Zi (qq.1)), .ref o])) (fun _ => rfl) ?_
        refine Z_go (f2 := (37, [(6, .int (Zi tn)), (5, .int (Zi (qq.1))), (4, .int (Zi st)), (0, .ref o), (1, .int (Zi i)), (2, .int (Zi r)), (3, .int (Zi dep))], [.int (Zi 1), .int (Zi dep), .int (Zi st), .int (Zi (qq.1)), .ref o])) (fun _ => rfl) ?_
        refine Z_iadd rfl ?_
        refine C_callV (As := [.int (Zi (qq.1)), .int (Zi st), .int (Zi (dep + 1))]) (rest := []) rfl (by decide) rfl (by decide) rfl rfl (by decide +kernel) (Nat.le_of_ble_eq_true rfl) hs ok (hB u p o A tr p2 A2 m2 sm τ β 0 na nb qq.1 qq.2 st (dep + 1) hxu n3 (by omega) (by omega) zst (by omega) (by omega) (by rw [if_neg (by omega), if_neg (by omega)]; split <;> omega) (by omega)) (fun x h v n1 hs q => ?_)
        obtain ⟨rfl, q1, zq1, rfl, fb1, f51, bl1⟩ := q
        have fb := fb.tr fb1
        have hxv := fb1.cx hxu hsu.1 (by have := bl1.1; have := hxu.2.2.2.2; omega)
        have ev0 := hxv.2.1
        have htr := hxv.2.2.1
        show B_R _ _ (41, [(6, .int (Zi tn)), (5, .int (Zi (qq.1))), (4, .int (Zi st)), (0, .ref o), (1, .int (Zi i)), (2, .int (Zi r)), (3, .int (Zi dep))], [.int (Zi q1)]) _ _ _
        refine Z_go (f2 := (43, [(4, .int (Zi q1)), (6, .int (Zi tn)), (5, .int (Zi (qq.1))), (0, .ref o), (1, .int (Zi i)), (2, .int (Zi r)), (3, .int (Zi dep))], [])) (fun _ => rfl) ?_
        refine Z_go (f2 := (44, [(4, .int (Zi q1)), (6, .int (Zi tn)), (5, .int (Zi (qq.1))), (0, .ref o), (1, .int (Zi i)), (2, .int (Zi r)), (3, .int (Zi dep))], [.ref o])) (fun _ => rfl) ?_
        refine C_gr rfl hs fb.2.2.1.1 (by decide) (Nat.le_of_ble_eq_true rfl) rfl ev0 ?_
        refine Z_go (f2 := (49, [(4, .int (Zi q1)), (6, .int (Zi tn)), (5, .int (Zi (qq.1))), (0, .ref o), (1, .int (Zi i)), (2, .int (Zi r)), (3, .int (Zi dep))], [.int (Zi (qq.1)), .ref tr])) (fun _ => rfl) ?_
        refine C_callVR (As := [.int (Zi (qq.1))]) (rest := []) rfl (by decide) rfl (by decide) rfl rfl (by decide +kernel) (Nat.le_of_ble_eq_true rfl) hs htr.1.1 (C_t4 _ htr (i := qq.1) (by first | exact hs.zF _ _ | exact Zor_r _ _ | exact hs.zA _ _ | assumption | exact zA _ _ | exact zS _ | exact Zr_not (hs.zA _ _) | exact hs.1.1 _ _ | exact ⟨by omega, by omega⟩)) (fun x q => ?_)
        obtain rfl := q
        show B_R _ _ (52, [(4, .int (Zi q1)), (6, .int (Zi tn)), (5, .int (Zi (qq.1))), (0, .ref o), (1, .int (Zi i)), (2, .int (Zi r)), (3, .int (Zi dep))], [.int (Zi (T_g τ 4 qq.1))]) _ _ _
        refine Z_go (f2 := (54, [(5, .int (Zi (T_g τ 4 qq.1))), (4, .int (Zi q1)), (6, .int (Zi tn)), (0, .ref o), (1, .int (Zi i)), (2, .int (Zi r)), (3, .int (Zi dep))], [])) (fun _ => rfl) ?_
        refine Z_iinc (L2 := [(6, .int (Zi (tn + 1))), (5, .int (Zi (T_g τ 4 qq.1))), (4, .int (Zi q1)), (0, .ref o), (1, .int (Zi i)), (2, .int (Zi r)), (3, .int (Zi dep))]) rfl rfl (by decide) rfl ?_
        refine Z_go (f2 := (16, [(6, .int (Zi (tn + 1))), (5, .int (Zi (T_g τ 4 qq.1))), (4, .int (Zi q1)), (0, .ref o), (1, .int (Zi i)), (2, .int (Zi r)), (3, .int (Zi dep))], [])) (fun _ => rfl) ?_
        refine B_loc (K := [(6, .int (Zi (tn + 1))), (5, .int (Zi (T_g τ 4 qq.1))), (4, .int (Zi q1)), (0, .ref o), (1, .int (Zi i)), (2, .int (Zi r)), (3, .int (Zi dep))]) (N_all_sub ⟨rfl, rfl, rfl, rfl, rfl, rfl, rfl, trivial⟩) (show ([6, 5, 4, 0, 1, 2, 3] : List Nat).Nodup by decide) ?_
        rw [hg4]
        exact ih L1 (qq :: L2) _ _ v h (by omega) hL (by rw [List.length_cons]; omega) hs fb (by show _ ≤ _ + (T_sz qq.2 + T_szs L2); omega) zq1 (bl.seq bl1)
theorem C_bcat (d : Nat) {s : C_S} {p : List Nat} {o : Nat} {A : Nat → Nat} {tr : Nat} {p2 : List Nat} {A2 : Nat → Nat} {m2 sm : Int} {τ : Nat → Int → Int} {β : Int → Int64} {L : List (Int × P_T)} {lo hi i r dep : Int} {dd : Nat} (hB : M_BN (d + 2) dd) (hx : M_cx s p o A tr p2 A2 m2 sm τ β) (hi2 : T_g τ 2 i = N_la (-1) L) (zi : Zr i) (hq : N_seq (fun a b x t => N_is τ (T_has β) sm dd 0 a b x t) (lo + 1) hi L) (hlk : N_lk τ (-1) L) (l0 : 0 ≤ lo) (h1 : hi ≤ 168) (zr : Zr r) (hsz : C_F s o 5 + T_szs L ≤ 202) (dep0 : 0 ≤ dep) (hdep : 4 * dep + 3 * (dd : Int) ≤ 142) : C_ok (d + 3) 20 [.ref o, .int (Zi i), .int (Zi r), .int (Zi dep)] s (fun x s2 n => M_ps p o A (T_has β) sm s r (fun W n => M_sl W n L) (T_szs L) x s2 n) := by
  refine C_enter (M := E_m20) rfl (Nat.le_of_ble_eq_true rfl) (fun h0 h hs => ?_)
  show B_R (d + 2) _ (0, [(0, .ref o), (1, .int (Zi i)), (2, .int (Zi r)), (3, .int (Zi dep))], []) _ _ _
  have sw := hs.1
  have ok := hx.1.1
  have e0 := hx.2.1
  have htr := hx.2.2.1
  have h50 := hx.2.2.2.2
  have zdep : Zr dep := ⟨by omega, by omega⟩
  refine Z_go (f2 := (1, [(0, .ref o), (1, .int (Zi i)), (2, .int (Zi r)), (3, .int (Zi dep))], [.int (Zi r)])) (fun _ => rfl) ?_
  refine Z_go (f2 := (3, [(4, .int (Zi r)), (0, .ref o), (1, .int (Zi i)), (2, .int (Zi r)), (3, .int (Zi dep))], [])) (fun _ => rfl) ?_
  refine Z_go (f2 := (4, [(4, .int (Zi r)), (0, .ref o), (1, .int (Zi i)), (2, .int (Zi r)), (3, .int (Zi dep))], [.ref o])) (fun _ => rfl) ?_
  refine C_gr rfl hs ok (by decide) (Nat.le_of_ble_eq_true rfl) rfl e0 ?_
  refine Z_go (f2 := (8, [(4, .int (Zi r)), (0, .ref o), (1, .int (Zi i)), (2, .int (Zi r)), (3, .int (Zi dep))], [.int (Zi i), .ref tr])) (fun _ => rfl) ?_
  refine C_callVR (As := [.int (Zi i)]) (rest := []) rfl (by decide) rfl (by decide) rfl rfl (by decide +kernel) (Nat.le_of_ble_eq_true rfl) hs htr.1.1 (C_t2 _ htr (i := i) (by first | exact hs.zF _ _ | exact Zor_r _ _ | exact hs.zA _ _ | assumption | exact zA _ _ | exact zS _ | exact Zr_not (hs.zA _ _) | exact hs.1.1 _ _ | exact ⟨by omega, by omega⟩)) (fun x q => ?_)
  obtain rfl := q
  show B_R _ _ (11, [(4, .int (Zi r)), (0, .ref o), (1, .int (Zi i)), (2, .int (Zi r)), (3, .int (Zi dep))], [.int (Zi (T_g τ 2 i))]) _ _ _
  refine Z_go (f2 := (13, [(5, .int (Zi (T_g τ 2 i))), (4, .int (Zi r)), (0, .ref o), (1, .int (Zi i)), (2, .int (Zi r)), (3, .int (Zi dep))], [])) (fun _ => rfl) ?_
  refine Z_go (f2 := (14, [(5, .int (Zi (T_g τ 2 i))), (4, .int (Zi r)), (0, .ref o), (1, .int (Zi i)), (2, .int (Zi r)), (3, .int (Zi dep))], [.int (Zi 0)])) (fun _ => rfl) ?_
  refine Z_go (f2 := (16, [(6, .int (Zi 0)), (5, .int (Zi (T_g τ 2 i))), (4, .int (Zi r)), (0, .ref o), (1, .int (Zi i)), (2, .int (Zi r)), (3, .int (Zi dep))], [])) (fun _ => rfl) ?_
  refine B_loc (K := [(6, .int (Zi 0)), (5, .int (Zi (T_g τ 2 i))), (4, .int (Zi r)), (0, .ref o), (1, .int (Zi i)), (2, .int (Zi r)), (3, .int (Zi dep))]) (N_all_sub ⟨rfl, rfl, rfl, rfl, rfl, rfl, rfl, trivial⟩) (show ([6, 5, 4, 0, 1, 2, 3] : List Nat).Nodup by decide) ?_
  rw [hi2]
  refine (C_bcat_lp (sl := 0) hB hx sw hq hlk l0 h1 zr hsz dep0 hdep L.length L [] 0 r s h rfl (List.append_nil _).symm rfl hs (M_fb.refl hx.1) (by show _ ≤ _ + (0 : Int); omega) zr M_bl.id).weak (fun x ⟨s2, g1, n, g2, g3⟩ => ⟨s2, g1, ?_⟩)
  rw [Nat.zero_add] at g2
  rw [g2]; exact g3
