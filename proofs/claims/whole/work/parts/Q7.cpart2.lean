/-! the class: Planner: part -/
/-- places stay -/
def Pl_le (P P2 : G_p) : Prop := (∀ r, Pl_hr P r → Pl_hr P2 r ∧ P2.1 r = P.1 r) ∧ (∀ f, Pl_hf P f → Pl_hf P2 f ∧ P2.2.1 f = P.2.1 f) ∧ (∀ t, Pl_ht P t → Pl_ht P2 t ∧ P2.2.2.1 t = P.2.2.1 t) ∧ (∀ j, j ≤ 38 → P.2.2.2.2.1 j = true → P2.2.2.2.2.1 j = true ∧ P2.2.2.2.1 j = P.2.2.2.1 j) ∧ P2.2.2.2.2.2 = P.2.2.2.2.2
theorem Pl_le.refl (P : G_p) : Pl_le P P := ⟨fun _ h => ⟨h, rfl⟩, fun _ h => ⟨h, rfl⟩, fun _ h => ⟨h, rfl⟩, fun _ _ h => ⟨h, rfl⟩, rfl⟩
theorem Pl_le.tr {P P2 P3 : G_p} (h : Pl_le P P2) (g : Pl_le P2 P3) : Pl_le P P3 := ⟨fun r hr => ⟨(g.1 r (h.1 r hr).1).1, ((g.1 r (h.1 r hr).1).2).trans (h.1 r hr).2⟩, fun r hr => ⟨(g.2.1 r (h.2.1 r hr).1).1, ((g.2.1 r (h.2.1 r hr).1).2).trans (h.2.1 r hr).2⟩, fun r hr => ⟨(g.2.2.1 r (h.2.2.1 r hr).1).1, ((g.2.2.1 r (h.2.2.1 r hr).1).2).trans (h.2.2.1 r hr).2⟩, fun r h38 hr => ⟨(g.2.2.2.1 r h38 (h.2.2.2.1 r h38 hr).1).1, ((g.2.2.2.1 r h38 (h.2.2.2.1 r h38 hr).1).2).trans (h.2.2.2.1 r h38 hr).2⟩, g.2.2.2.2.trans h.2.2.2.2⟩
def P_nw (P : G_p) (l op tx hd tl wf : Nat) : G_p := (g_up (g_up P.1 (4 + 2 * l) hd) (5 + 2 * l) tl, g_up P.2.1 (2 + l) wf, g_up P.2.2.1 (1 + l) tx, g_up P.2.2.2.1 l op, g_up P.2.2.2.2.1 l true, P.2.2.2.2.2)
def G_nw (G : G_t) (l : Nat) : G_t := (g_up (g_up G.1 (4 + 2 * l) []) (5 + 2 * l) [], g_up G.2.1 (2 + l) [], g_up G.2.2.1 (1 + l) [], g_up G.2.2.2.1 l 0, g_up G.2.2.2.2 l 0)
def W_nw (ω : Nat → Nat) (l : Nat) : Nat → Nat := g_up (g_up (g_up ω (4 + 2 * l) 8) (5 + 2 * l) 8) (150 + l) 300
theorem G_nw_oth {G : G_t} {l j : Nat} (h : j ≠ l) : G_oth j G (G_nw G l) := by
  unfold G_nw
  refine ⟨?_, ?_, ?_, ?_, ?_, ?_⟩
  · show g_up (g_up G.1 _ _) _ _ _ = _
    rw [g_up_o (by omega), g_up_o (by omega)]
  · show g_up (g_up G.1 _ _) _ _ _ = _
    rw [g_up_o (by omega), g_up_o (by omega)]
  · exact g_up_o (by omega)
  · exact g_up_o (by omega)
  · exact g_up_o (by omega)
  · exact g_up_o (by omega)
section NP
variable {s v : C_S} {pp : List Nat} {pl tr B : Nat} {G : G_t} {P : G_p} {ω : Nat → Nat} {l op tx hd tl wf : Nat}
theorem P_nw_th {P : G_p} {j : Nat} (hT : P.2.2.2.2.1 j = true) : (P_nw P l op tx hd tl wf).2.2.2.2.1 j = true := by
  show g_up P.2.2.2.2.1 l true j = true
  by_cases c : j = l
  · rw [c, g_up_s]
  · rw [g_up_o c]; exact hT
theorem P_nw_thi {P : G_p} {j : Nat} (h : (P_nw P l op tx hd tl wf).2.2.2.2.1 j = true) : j = l ∨ (j ≠ l ∧ P.2.2.2.2.1 j = true) := by
  have h : g_up P.2.2.2.2.1 l true j = true := h
  by_cases c : j = l
  · exact .inl c
  · rw [g_up_o c] at h; exact .inr ⟨c, h⟩
theorem P_nw_le (hT : P.2.2.2.2.1 l ≠ true) : Pl_le P (P_nw P l op tx hd tl wf) := by
  refine ⟨fun r hr => ⟨?_, ?_⟩, fun f hf => ⟨?_, ?_⟩, fun t ht => ⟨?_, ?_⟩, fun j _ hj => ⟨P_nw_th hj, ?_⟩, rfl⟩
  · rcases hr with h | ⟨h1, h2⟩
    · exact .inl h
    · exact .inr ⟨h1, P_nw_th h2⟩
  · have ne : r ≠ 4 + 2 * l ∧ r ≠ 5 + 2 * l := by
      rcases hr with h | ⟨h1, h2⟩
      · omega
      · refine ⟨fun e => ?_, fun e => ?_⟩
        · rw [e, show (4 + 2 * l - 4) / 2 = l by omega] at h2; exact hT h2
        · rw [e, show (5 + 2 * l - 4) / 2 = l by omega] at h2; exact hT h2
    show g_up (g_up P.1 _ _) _ _ r = _
    rw [g_up_o ne.2, g_up_o ne.1]
  · rcases hf with h | ⟨h1, h2⟩
    · exact .inl h
    · exact .inr ⟨h1, P_nw_th h2⟩
  · refine g_up_o (fun e => ?_)
    rcases hf with h | ⟨h1, h2⟩
    · omega
    · rw [e, show 2 + l - 2 = l by omega] at h2; exact hT h2
  · rcases ht with h | ⟨h1, h2⟩
    · exact .inl h
    · exact .inr ⟨h1, P_nw_th h2⟩
  · refine g_up_o (fun e => ?_)
    rcases ht with h | ⟨h1, h2⟩
    · omega
    · rw [e, show 1 + l - 1 = l by omega] at h2; exact hT h2
  · refine g_up_o (fun e => ?_)
    rw [e] at hj; exact hT hj
theorem D_Pl.newp (h : D_Pl s pp pl tr B G P ω) (w : C_wf s) (wv : C_wf v) (hB : 8 ≤ B) (hl : l ≤ 37) (hT : P.2.2.2.2.1 l ≠ true) (k : C_fr (Pl_X pp l) s v) (o1 : C_K v op = (12, 0)) (o2 : C_T v op = pp ++ [4, l]) (o3 : C_P v op 2 = some tx ∧ C_P v op 3 = some hd ∧ C_P v op 4 = some tl ∧ C_P v op 5 = some wf ∧ C_F v op 0 = 0 ∧ C_F v op 1 = 0) (c1 : ∃ ra la σ, D_Tx v (pp ++ [2, 1 + l]) tx ra la 0 σ) (c2 : ∃ a, D_Row v (pp ++ [0, 4 + 2 * l]) hd a 8 []) (c3 : ∃ a, D_Row v (pp ++ [0, 5 + 2 * l]) tl a 8 []) (c4 : ∃ qa ma φ, D_Fm v (pp ++ [1, 2 + l]) wf qa ma 24 B 0 φ ∧ C_fw v qa 24 = 0) : D_Pl (C_sQ v P.2.2.2.2.2.1 (l : Int) (some op)) pp pl tr B (G_nw G l) (P_nw P l op tx hd tl wf) (W_nw ω l) := by
  obtain ⟨h1, h2, h3, h4, h5, h6, h7, h8, h9⟩ := h
  have pk := h1.2.1
  have pkv : C_K v P.2.2.2.2.2.1 = (5, 38) := k.K w pk.1 (by decide)
  have lp := C_lt w pk.1 (show 5 < 20 by decide)
  have ptv : C_T v P.2.2.2.2.2.1 = pp ++ [5, 0] := by rw [(k.2.1 _ lp).2]; exact pk.2
  have k2 : C_fr (fun t => t = pp ++ [5, 0]) v (C_sQ v P.2.2.2.2.2.1 (l : Int) (some op)) := (C_fr.refl _ _).sQ ptv
  have k3 : C_fr (fun t => Pl_X pp l t ∨ t = pp ++ [5, 0]) s (C_sQ v P.2.2.2.2.2.1 (l : Int) (some op)) := k.trans k2 (fun t e => .inl e) (fun t e => .inr e)
  have nX : ∀ a b : Nat, (a ≠ 4 ∨ b ≠ l) → (a ≠ 2 ∨ b ≠ 1 + l) → (a ≠ 0 ∨ b ≠ 4 + 2 * l) → (a ≠ 0 ∨ b ≠ 5 + 2 * l) → (a ≠ 1 ∨ b ≠ 2 + l) → ∀ t, pp ++ [a, b] <+: t → ¬ Pl_X pp l t := fun a b n1 n2 n3 n4 n5 t ht e => by
    rcases e with e | e | e | e | e
    · have := L_tw2 ht e; omega
    · have := L_tw2 ht e; omega
    · have := L_tw2 ht e; omega
    · have := L_tw2 ht e; omega
    · have := L_tw2 ht e; omega
  have nO : ∀ a b : Nat, (a ≠ 4 ∨ b ≠ l) → (a ≠ 2 ∨ b ≠ 1 + l) → (a ≠ 0 ∨ b ≠ 4 + 2 * l) → (a ≠ 0 ∨ b ≠ 5 + 2 * l) → (a ≠ 1 ∨ b ≠ 2 + l) → (a ≠ 5 ∨ b ≠ 0) → ∀ t, pp ++ [a, b] <+: t → ¬ (Pl_X pp l t ∨ t = pp ++ [5, 0]) := fun a b n1 n2 n3 n4 n5 n6 t ht e => by
    rcases e with e | e
    · exact nX a b n1 n2 n3 n4 n5 t ht e
    · have := L_tw2 ht (L_pre_eq e); omega
  have n5 : ∀ a b : Nat, (a ≠ 5 ∨ b ≠ 0) → ∀ t, pp ++ [a, b] <+: t → ¬ t = pp ++ [5, 0] := fun a b hn t ht e => by
    have := L_tw2 ht (L_pre_eq e); omega
  have npp : ¬ Pl_X pp l pp := fun e => by
    rcases e with e | e | e | e | e <;> exact L_tw_n e
  have wr : ∀ r, Pl_hr (P_nw P l op tx hd tl wf) r → r = 4 + 2 * l ∨ r = 5 + 2 * l ∨ (r ≠ 4 + 2 * l ∧ r ≠ 5 + 2 * l ∧ Pl_hr P r) := fun r hr => by
    rcases hr with h | ⟨a1, a2⟩
    · exact .inr (.inr ⟨by omega, by omega, .inl h⟩)
    · by_cases c4 : r < 4
      · exact .inr (.inr ⟨by omega, by omega, .inl c4⟩)
      · rcases P_nw_thi a2 with e | ⟨e, e2⟩
        · omega
        · exact .inr (.inr ⟨by omega, by omega, .inr ⟨a1, e2⟩⟩)
  have t1 := h1.fr w k npp (nX 5 0 (by omega) (by omega) (by omega) (by omega) (by omega) _ (L_pre_self _))
  refine ⟨?_, fun j hj hTj => ?_, fun r hr => ?_, fun f hf => ?_, fun t ht => ?_, fun r hr hn => ?_, fun f hf hn => ?_, fun j hj => ?_, fun i hi => ?_⟩
  · obtain ⟨⟨a1, a2, a3, a4, a5, a6, a7, a8, a9, b1, b2, b3, b4⟩, ⟨d1, d2⟩, ⟨e1, e2⟩, f1, f2⟩ := t1
    have n38 : (38 : Nat) ≠ l := by omega
    have g1 : ∀ f, f < 2 → (P_nw P l op tx hd tl wf).2.1 f = P.2.1 f := fun f hf => g_up_o (by omega)
    have g2 : ∀ r, r < 4 → (P_nw P l op tx hd tl wf).1 r = P.1 r := fun r hr => by
      show g_up (g_up P.1 _ _) _ _ r = _
      rw [g_up_o (by omega), g_up_o (by omega)]
    have g3 : (P_nw P l op tx hd tl wf).2.2.1 0 = P.2.2.1 0 := g_up_o (by omega)
    have g4 : (P_nw P l op tx hd tl wf).2.2.2.1 38 = P.2.2.2.1 38 := g_up_o n38
    refine ⟨⟨a1, a2, a3, a4, by rw [g1 0 (by omega)]; exact a5, by rw [g1 1 (by omega)]; exact a6, by rw [g2 0 (by omega)]; exact a7, by rw [g2 1 (by omega)]; exact a8, by rw [g2 2 (by omega)]; exact a9, by rw [g2 3 (by omega)]; exact b1, by rw [g3]; exact b2, b3, by rw [g4]; exact b4⟩, ⟨d1, d2⟩, ⟨e1, e2⟩, fun j hj => ?_, P_nw_th f2⟩
    show (if P.2.2.2.2.2.1 = P.2.2.2.2.2.1 ∧ (j : Int) = (l : Int) then some op else C_Q v P.2.2.2.2.2.1 (j : Int)) = if g_up P.2.2.2.2.1 l true j = true then some (g_up P.2.2.2.1 l op j) else none
    by_cases c : j = l
    · rw [if_pos ⟨rfl, by rw [c]⟩, c, g_up_s, if_pos rfl, g_up_s]
    · rw [if_neg (fun e => c (by omega)), g_up_o c, g_up_o c]
      exact f1 j hj
  · rcases P_nw_thi hTj with e | ⟨e, e2⟩
    · subst e
      have q1 : (P_nw P j op tx hd tl wf).2.2.2.1 j = op := g_up_s
      have q2 : (P_nw P j op tx hd tl wf).2.2.1 (1 + j) = tx := g_up_s
      have q3 : (P_nw P j op tx hd tl wf).1 (4 + 2 * j) = hd := (g_up_o (by omega)).trans g_up_s
      have q4 : (P_nw P j op tx hd tl wf).1 (5 + 2 * j) = tl := g_up_s
      have q5 : (P_nw P j op tx hd tl wf).2.1 (2 + j) = wf := g_up_s
      have q6 : (G_nw G j).2.2.2.1 j = 0 := g_up_s
      have q7 : (G_nw G j).2.2.2.2 j = 0 := g_up_s
      unfold Pl_prt
      rw [q1, q2, q3, q4, q5, q6, q7]
      exact ⟨o1, o2, o3.1, o3.2.1, o3.2.2.1, o3.2.2.2.1, o3.2.2.2.2.1, o3.2.2.2.2.2, .inl rfl, .inl rfl⟩
    · have q := (h2 j hj e2).fr w k3 (nO 4 j (by omega) (by omega) (by omega) (by omega) (by omega) (by omega))
      obtain ⟨g1, g2, g3, g4, g5, g6⟩ := G_nw_oth (G := G) e
      have le := P_nw_le (op := op) (tx := tx) (hd := hd) (tl := tl) (wf := wf) hT
      unfold Pl_prt
      rw [(le.2.2.2.1 j hj e2).2, (le.2.2.1 _ (Pl_h1 hj e2)).2, (le.1 _ (Pl_h4 hj e2)).2, (le.1 _ (Pl_h5 hj e2)).2, (le.2.1 _ (Pl_h2 hj e2)).2, g5, g6]
      exact q
  · rcases wr r hr with e | e | ⟨e1, e2, e3⟩
    · subst e
      obtain ⟨a, ha⟩ := c2
      refine ⟨a, ?_, ?_⟩
      · rw [show (P_nw P l op tx hd tl wf).1 (4 + 2 * l) = hd from (g_up_o (by omega)).trans g_up_s, show W_nw ω l (4 + 2 * l) = 8 from (g_up_o (by omega)).trans ((g_up_o (by omega)).trans g_up_s), show (G_nw G l).1 (4 + 2 * l) = [] from (g_up_o (by omega)).trans g_up_s]
        exact ha.fr wv k2 (n5 0 _ (by omega) _ (L_pre_self _))
      · rw [show W_nw ω l (4 + 2 * l) = 8 from (g_up_o (by omega)).trans ((g_up_o (by omega)).trans g_up_s)]; exact hB
    · subst e
      obtain ⟨a, ha⟩ := c3
      refine ⟨a, ?_, ?_⟩
      · rw [show (P_nw P l op tx hd tl wf).1 (5 + 2 * l) = tl from g_up_s, show W_nw ω l (5 + 2 * l) = 8 from (g_up_o (by omega)).trans g_up_s, show (G_nw G l).1 (5 + 2 * l) = [] from g_up_s]
        exact ha.fr wv k2 (n5 0 _ (by omega) _ (L_pre_self _))
      · rw [show W_nw ω l (5 + 2 * l) = 8 from (g_up_o (by omega)).trans g_up_s]; exact hB
    · have h82 : r < 82 := by rcases e3 with q | q; omega; exact q.1
      obtain ⟨a, q1, q2⟩ := (h3 r e3).fr w k3 (nO 0 r (by omega) (by omega) (by omega) (by omega) (by omega) (by omega))
      have ew : W_nw ω l r = ω r := (g_up_o (by omega)).trans ((g_up_o e2).trans (g_up_o e1))
      refine ⟨a, ?_, by rw [ew]; exact q2⟩
      rw [show (P_nw P l op tx hd tl wf).1 r = P.1 r from (g_up_o e2).trans (g_up_o e1), ew, show (G_nw G l).1 r = G.1 r from (g_up_o e2).trans (g_up_o e1)]
      exact q1
  · have hcase : f = 2 + l ∨ (f ≠ 2 + l ∧ Pl_hf P f) := by
      rcases hf with h | ⟨a1, a2⟩
      · exact .inr ⟨by omega, .inl h⟩
      · by_cases c4 : f < 2
        · exact .inr ⟨by omega, .inl c4⟩
        · rcases P_nw_thi a2 with e | ⟨e, e2⟩
          · exact .inl (by omega)
          · exact .inr ⟨by omega, .inr ⟨a1, e2⟩⟩
    have h41 : f < 41 := by rcases hf with h | ⟨a1, a2⟩; omega; exact a1
    have ew : W_nw ω l (100 + f) = ω (100 + f) := (g_up_o (by omega)).trans ((g_up_o (by omega)).trans (g_up_o (by omega)))
    rcases hcase with e | ⟨e1, e2⟩
    · subst e
      obtain ⟨qa, ma, φ, q1, q2⟩ := c4
      have q3 := q1.fr wv k2 (n5 1 _ (by omega))
      refine ⟨qa, ma, 0, φ, ?_, ?_, ?_⟩
      · rw [show (P_nw P l op tx hd tl wf).2.1 (2 + l) = wf from g_up_s, show Pl_R (2 + l) = 24 from if_neg (by omega)]
        exact q3.1
      · exact (g_up_s : g_up G.2.1 (2 + l) [] (2 + l) = []).symm
      · rw [ew, h7 (2 + l) h41 (fun hh => by rcases hh with h | ⟨_, a2⟩; omega; rw [show 2 + l - 2 = l by omega] at a2; exact hT a2), show Pl_R (2 + l) = 24 from if_neg (by omega), q3.2, q2]
    · obtain ⟨qa, ma, m, ψ, q1, q2, q3⟩ := (h4 f e2).fr w k3 (nO 1 f (by omega) (by omega) (by omega) (by omega) (by omega) (by omega))
      refine ⟨qa, ma, m, ψ, ?_, ?_, by rw [ew]; exact q3⟩
      · rw [show (P_nw P l op tx hd tl wf).2.1 f = P.2.1 f from g_up_o e1]; exact q1
      · rw [show (G_nw G l).2.1 f = G.2.1 f from g_up_o e1]; exact q2
  · have hcase : t = 1 + l ∨ (t ≠ 1 + l ∧ Pl_ht P t) := by
      rcases ht with h | ⟨a1, a2⟩
      · exact .inr ⟨by omega, .inl h⟩
      · rcases P_nw_thi a2 with e | ⟨e, e2⟩
        · by_cases c : t = 0
          · exact .inr ⟨by omega, .inl c⟩
          · exact .inl (by omega)
        · by_cases c : t = 0
          · exact .inr ⟨by omega, .inl c⟩
          · exact .inr ⟨by omega, .inr ⟨a1, e2⟩⟩
    rcases hcase with e | ⟨e1, e2⟩
    · subst e
      obtain ⟨ra, la, σ, q1⟩ := c1
      refine ⟨ra, la, 0, σ, ?_, ?_⟩
      · rw [show (P_nw P l op tx hd tl wf).2.2.1 (1 + l) = tx from g_up_s]
        exact q1.fr wv k2 (n5 2 _ (by omega) _ (L_pre_self _))
      · exact (g_up_s : g_up G.2.2.1 (1 + l) [] (1 + l) = []).symm
    · obtain ⟨ra, la, m, σ, q1, q2⟩ := (h5 t e2).fr w k3 (nO 2 t (by omega) (by omega) (by omega) (by omega) (by omega) (by omega))
      refine ⟨ra, la, m, σ, ?_, ?_⟩
      · rw [show (P_nw P l op tx hd tl wf).2.2.1 t = P.2.2.1 t from g_up_o e1]; exact q1
      · rw [show (G_nw G l).2.2.1 t = G.2.2.1 t from g_up_o e1]; exact q2
  · have n1 : r ≠ 4 + 2 * l := fun e => hn (.inr ⟨hr, by rw [e, show (4 + 2 * l - 4) / 2 = l by omega]; exact g_up_s⟩)
    have n2 : r ≠ 5 + 2 * l := fun e => hn (.inr ⟨hr, by rw [e, show (5 + 2 * l - 4) / 2 = l by omega]; exact g_up_s⟩)
    rw [show W_nw ω l r = ω r from (g_up_o (by omega)).trans ((g_up_o n2).trans (g_up_o n1))]
    exact h6 r hr (fun q => hn ((P_nw_le (op := op) (tx := tx) (hd := hd) (tl := tl) (wf := wf) hT).1 r q).1)
  · rw [show W_nw ω l (100 + f) = ω (100 + f) from (g_up_o (by omega)).trans ((g_up_o (by omega)).trans (g_up_o (by omega)))]
    exact h7 f hf (fun q => hn ((P_nw_le (op := op) (tx := tx) (hd := hd) (tl := tl) (wf := wf) hT).2.1 f q).1)
  · by_cases c : j = l
    · rw [c, show W_nw ω l (150 + l) = 300 from g_up_s, show (P_nw P l op tx hd tl wf).2.2.2.2.1 l = true from g_up_s, if_pos rfl]
    · rw [show W_nw ω l (150 + j) = ω (150 + j) from (g_up_o (by omega)).trans ((g_up_o (by omega)).trans (g_up_o (by omega))), show (P_nw P l op tx hd tl wf).2.2.2.2.1 j = P.2.2.2.2.1 j from g_up_o c]
      exact h8 j hj
  · rw [show W_nw ω l i = ω i from (g_up_o (by omega)).trans ((g_up_o (by omega)).trans (g_up_o (by omega)))]
    exact h9 i hi
theorem W_nw_w (hl : l ≤ 37) (e1 : ω (4 + 2 * l) = 0) (e2 : ω (5 + 2 * l) = 0) (e3 : ω (150 + l) = 0) : Pl_w (W_nw ω l) = Pl_w ω + 316 := by
  have a := Pl_w_up (ω := ω) (i := 4 + 2 * l) (v := 8) (by omega)
  have b := Pl_w_up (ω := g_up ω (4 + 2 * l) 8) (i := 5 + 2 * l) (v := 8) (by omega)
  have c := Pl_w_up (ω := g_up (g_up ω (4 + 2 * l) 8) (5 + 2 * l) 8) (i := 150 + l) (v := 300) (by omega)
  rw [g_up_o (by omega)] at b
  rw [g_up_o (by omega), g_up_o (by omega)] at c
  show Pl_w (g_up (g_up (g_up ω (4 + 2 * l) 8) (5 + 2 * l) 8) (150 + l) 300) = _
  omega
end NP
theorem C_prt (d : Nat) {s : C_S} {pp : List Nat} {pl tr B : Nat} {G : G_t} {P : G_p} {ω : Nat → Nat} {l : Nat} {lv : Int} (hp : D_Pl s pp pl tr B G P ω) (B0 : 1280 ≤ B) (B1 : B ≤ 20000) (hl : l ≤ 37) (el : lv = (l : Int)) : C_ok (d + 3) 57 [.ref pl, .int (Zi lv)] s (fun x s2 n => ∃ P2 G2 ω2, x = some (.ref (P2.2.2.2.1 l)) ∧ D_Pl s2 pp pl tr B G2 P2 ω2 ∧ D_cs pp s s2 ω ω2 n ∧ Pl_le P P2 ∧ P2.2.2.2.2.1 l = true ∧ ∀ j, P.2.2.2.2.1 j = true → G_oth j G G2) := by
  refine C_enter (M := E_m57) rfl (Nat.le_of_ble_eq_true rfl) (fun h0 h hs => ?_)
  show B_R (d + 2) _ (0, [(0, .ref pl), (1, .int (Zi lv))], []) _ _ _
  subst el
  have w := hs.1
  have cs := D_cs.refl pp s ω
  have zl : Zr (l : Int) := ⟨by omega, by omega⟩
  have pk := hp.1.2.1.1
  have pt := hp.1.2.1.2
  have hq := hp.1.2.2.2.1 l (by omega)
  have lpa := C_lt w pk (show 5 < 20 by decide)
  have lpl := C_lt w hp.1.1.1 (show 13 < 20 by decide)
  by_cases hT : P.2.2.2.2.1 l = true
  · rw [if_pos hT] at hq
    refine Z_go (f2 := (1, [(0, .ref pl), (1, .int (Zi ((l : Int))))], [.int (Zi 0)])) (fun _ => rfl) ?_
    refine Z_go (f2 := (2, [(0, .ref pl), (1, .int (Zi ((l : Int))))], [.int (Zi ((l : Int))), .int (Zi 0)])) (fun _ => rfl) ?_
    refine Z_go (f2 := (3, [(0, .ref pl), (1, .int (Zi ((l : Int))))], [.ref pl, .int (Zi ((l : Int))), .int (Zi 0)])) (fun _ => rfl) ?_
    refine C_gr rfl hs hp.1.1.1 (by decide) (Nat.le_of_ble_eq_true rfl) rfl hp.1.1.2.2.2.1 ?_
    refine C_al rfl hs pk (by decide) ?_
    show B_R _ _ (7, [(0, .ref pl), (1, .int (Zi ((l : Int))))], [.int (Zi 38), .int (Zi ((l : Int))), .int (Zi 0)]) _ _ _
    refine Z_go (f2 := (8, [(0, .ref pl), (1, .int (Zi ((l : Int))))], [.int (Zi 1), .int (Zi 38), .int (Zi ((l : Int))), .int (Zi 0)])) (fun _ => rfl) ?_
    refine Z_isub rfl ?_
    refine C_min rfl (by first | exact hs.zF _ _ | exact Zor_r _ _ | exact hs.zA _ _ | assumption | exact zA _ _ | exact zS _ | exact Zr_not (hs.zA _ _) | exact hs.1.1 _ _ | exact ⟨by omega, by omega⟩) (by first | exact hs.zF _ _ | exact Zor_r _ _ | exact hs.zA _ _ | assumption | exact zA _ _ | exact zS _ | exact Zr_not (hs.zA _ _) | exact hs.1.1 _ _ | exact ⟨by omega, by omega⟩) (Nat.le_of_ble_eq_true rfl) ?_
    generalize ec0 : (if 38 - 1 < (l : Int) then 38 - 1 else (l : Int)) = c0
    have zc0 : Zr c0 := ⟨by omega, by omega⟩
    show B_R _ _ (12, [(0, .ref pl), (1, .int (Zi ((l : Int))))], [.int (Zi c0), .int (Zi 0)]) _ _ _
    refine C_max rfl (by first | exact hs.zF _ _ | exact Zor_r _ _ | exact hs.zA _ _ | assumption | exact zA _ _ | exact zS _ | exact Zr_not (hs.zA _ _) | exact hs.1.1 _ _ | exact ⟨by omega, by omega⟩) (by first | exact hs.zF _ _ | exact Zor_r _ _ | exact hs.zA _ _ | assumption | exact zA _ _ | exact zS _ | exact Zr_not (hs.zA _ _) | exact hs.1.1 _ _ | exact ⟨by omega, by omega⟩) (Nat.le_of_ble_eq_true rfl) ?_
    generalize ec1 : (if 0 < c0 then c0 else 0) = c1
    have zc1 : Zr c1 := ⟨by omega, by omega⟩
    show B_R _ _ (15, [(0, .ref pl), (1, .int (Zi ((l : Int))))], [.int (Zi c1)]) _ _ _
    rw [show c1 = (l : Int) by omega]
    refine Z_go (f2 := (16, [(2, .int (Zi ((l : Int)))), (0, .ref pl), (1, .int (Zi ((l : Int))))], [])) (fun _ => rfl) ?_
    refine Z_go (f2 := (17, [(2, .int (Zi ((l : Int)))), (0, .ref pl), (1, .int (Zi ((l : Int))))], [.ref pl])) (fun _ => rfl) ?_
    refine C_gr rfl hs hp.1.1.1 (by decide) (Nat.le_of_ble_eq_true rfl) rfl hp.1.1.2.2.2.1 ?_
    refine Z_go (f2 := (21, [(2, .int (Zi ((l : Int)))), (0, .ref pl), (1, .int (Zi ((l : Int))))], [.int (Zi ((l : Int))), .ref P.2.2.2.2.2.1])) (fun _ => rfl) ?_
    refine C_aq rfl hs pk (by decide) (by decide) (by omega) (by omega) hq ?_
    show B_R _ _ (22, [(2, .int (Zi ((l : Int)))), (0, .ref pl), (1, .int (Zi ((l : Int))))], [.ref (P.2.2.2.1 l)]) _ _ _
    refine Z_go (f2 := (38, [(2, .int (Zi ((l : Int)))), (0, .ref pl), (1, .int (Zi ((l : Int))))], [])) (fun _ => rfl) ?_
    refine Z_go (f2 := (39, [(2, .int (Zi ((l : Int)))), (0, .ref pl), (1, .int (Zi ((l : Int))))], [.ref pl])) (fun _ => rfl) ?_
    refine C_gr rfl hs hp.1.1.1 (by decide) (Nat.le_of_ble_eq_true rfl) rfl hp.1.1.2.2.2.1 ?_
    refine Z_go (f2 := (43, [(2, .int (Zi ((l : Int)))), (0, .ref pl), (1, .int (Zi ((l : Int))))], [.int (Zi ((l : Int))), .ref P.2.2.2.2.2.1])) (fun _ => rfl) ?_
    refine C_aq rfl hs pk (by decide) (by decide) (by omega) (by omega) hq ?_
    show B_R _ _ (44, [(2, .int (Zi ((l : Int)))), (0, .ref pl), (1, .int (Zi ((l : Int))))], [.ref (P.2.2.2.1 l)]) _ _ _
    refine C_aret rfl (by first | exact .inl ⟨_, rfl⟩ | exact .inr ⟨_, rfl⟩) ⟨_, hs, ?_⟩
    try dsimp only
    exact ⟨P, G, ω, rfl, hp, cs, Pl_le.refl P, hT, fun j _ => G_oth.refl j G⟩
  · rw [if_neg hT] at hq
    refine Z_go (f2 := (1, [(0, .ref pl), (1, .int (Zi ((l : Int))))], [.int (Zi 0)])) (fun _ => rfl) ?_
    refine Z_go (f2 := (2, [(0, .ref pl), (1, .int (Zi ((l : Int))))], [.int (Zi ((l : Int))), .int (Zi 0)])) (fun _ => rfl) ?_
    refine Z_go (f2 := (3, [(0, .ref pl), (1, .int (Zi ((l : Int))))], [.ref pl, .int (Zi ((l : Int))), .int (Zi 0)])) (fun _ => rfl) ?_
    refine C_gr rfl hs hp.1.1.1 (by decide) (Nat.le_of_ble_eq_true rfl) rfl hp.1.1.2.2.2.1 ?_
    refine C_al rfl hs pk (by decide) ?_
    show B_R _ _ (7, [(0, .ref pl), (1, .int (Zi ((l : Int))))], [.int (Zi 38), .int (Zi ((l : Int))), .int (Zi 0)]) _ _ _
    refine Z_go (f2 := (8, [(0, .ref pl), (1, .int (Zi ((l : Int))))], [.int (Zi 1), .int (Zi 38), .int (Zi ((l : Int))), .int (Zi 0)])) (fun _ => rfl) ?_
    refine Z_isub rfl ?_
    refine C_min rfl (by first | exact hs.zF _ _ | exact Zor_r _ _ | exact hs.zA _ _ | assumption | exact zA _ _ | exact zS _ | exact Zr_not (hs.zA _ _) | exact hs.1.1 _ _ | exact ⟨by omega, by omega⟩) (by first | exact hs.zF _ _ | exact Zor_r _ _ | exact hs.zA _ _ | assumption | exact zA _ _ | exact zS _ | exact Zr_not (hs.zA _ _) | exact hs.1.1 _ _ | exact ⟨by omega, by omega⟩) (Nat.le_of_ble_eq_true rfl) ?_
    generalize ec0 : (if 38 - 1 < (l : Int) then 38 - 1 else (l : Int)) = c0
    have zc0 : Zr c0 := ⟨by omega, by omega⟩
    show B_R _ _ (12, [(0, .ref pl), (1, .int (Zi ((l : Int))))], [.int (Zi c0), .int (Zi 0)]) _ _ _
    refine C_max rfl (by first | exact hs.zF _ _ | exact Zor_r _ _ | exact hs.zA _ _ | assumption | exact zA _ _ | exact zS _ | exact Zr_not (hs.zA _ _) | exact hs.1.1 _ _ | exact ⟨by omega, by omega⟩) (by first | exact hs.zF _ _ | exact Zor_r _ _ | exact hs.zA _ _ | assumption | exact zA _ _ | exact zS _ | exact Zr_not (hs.zA _ _) | exact hs.1.1 _ _ | exact ⟨by omega, by omega⟩) (Nat.le_of_ble_eq_true rfl) ?_
    generalize ec1 : (if 0 < c0 then c0 else 0) = c1
    have zc1 : Zr c1 := ⟨by omega, by omega⟩
    show B_R _ _ (15, [(0, .ref pl), (1, .int (Zi ((l : Int))))], [.int (Zi c1)]) _ _ _
    rw [show c1 = (l : Int) by omega]
    refine Z_go (f2 := (16, [(2, .int (Zi ((l : Int)))), (0, .ref pl), (1, .int (Zi ((l : Int))))], [])) (fun _ => rfl) ?_
    refine Z_go (f2 := (17, [(2, .int (Zi ((l : Int)))), (0, .ref pl), (1, .int (Zi ((l : Int))))], [.ref pl])) (fun _ => rfl) ?_
    refine C_gr rfl hs hp.1.1.1 (by decide) (Nat.le_of_ble_eq_true rfl) rfl hp.1.1.2.2.2.1 ?_
    refine Z_go (f2 := (21, [(2, .int (Zi ((l : Int)))), (0, .ref pl), (1, .int (Zi ((l : Int))))], [.int (Zi ((l : Int))), .ref P.2.2.2.2.2.1])) (fun _ => rfl) ?_
    refine C_aq rfl hs pk (by decide) (by decide) (by omega) (by omega) hq ?_
    show B_R _ _ (22, [(2, .int (Zi ((l : Int)))), (0, .ref pl), (1, .int (Zi ((l : Int))))], [.null]) _ _ _
    refine Z_go (f2 := (25, [(2, .int (Zi ((l : Int)))), (0, .ref pl), (1, .int (Zi ((l : Int))))], [])) (fun _ => rfl) ?_
    refine Z_go (f2 := (26, [(2, .int (Zi ((l : Int)))), (0, .ref pl), (1, .int (Zi ((l : Int))))], [.ref pl])) (fun _ => rfl) ?_
    refine C_gr rfl hs hp.1.1.1 (by decide) (Nat.le_of_ble_eq_true rfl) rfl hp.1.1.2.2.2.1 ?_
    refine Z_go (f2 := (30, [(2, .int (Zi ((l : Int)))), (0, .ref pl), (1, .int (Zi ((l : Int))))], [.int (Zi ((l : Int))), .ref P.2.2.2.2.2.1])) (fun _ => rfl) ?_
    refine C_nw (t := pp ++ [4, l]) rfl hs (by decide) (fun h hs => ?_)
    obtain ⟨op, eop⟩ : ∃ z, z = C_n s := ⟨_, rfl⟩
    rw [← eop]
    have ok : C_K (C_new s (12, 0) (pp ++ [4, l])) op = (12, 0) := by rw [eop]; exact if_pos rfl
    have ot : C_T (C_new s (12, 0) (pp ++ [4, l])) op = pp ++ [4, l] := by rw [eop]; exact if_pos rfl
    have f0 : C_F (C_new s (12, 0) (pp ++ [4, l])) op 0 = 0 := by rw [eop]; show (if C_n s = C_n s then fun _ => (0 : Int) else _) 0 = 0; rw [if_pos rfl]
    have f1 : C_F (C_new s (12, 0) (pp ++ [4, l])) op 1 = 0 := by rw [eop]; show (if C_n s = C_n s then fun _ => (0 : Int) else _) 1 = 0; rw [if_pos rfl]
    have fr0 : C_fr (Pl_X pp l) s (C_new s (12, 0) (pp ++ [4, l])) := (C_fr.refl _ s).new (t := pp ++ [4, l]) (.inl (L_pre_self _))
    have wN := hs.1
    show B_R _ _ (33, [(2, .int (Zi ((l : Int)))), (0, .ref pl), (1, .int (Zi ((l : Int))))], [.ref op, .int (Zi ((l : Int))), .ref P.2.2.2.2.2.1]) _ _ _
    refine Z_go (f2 := (34, [(2, .int (Zi ((l : Int)))), (0, .ref pl), (1, .int (Zi ((l : Int))))], [.ref op, .ref op, .int (Zi ((l : Int))), .ref P.2.2.2.2.2.1])) (fun _ => rfl) ?_
    refine C_callI (As := []) (rest := [.ref op, .int (Zi ((l : Int))), .ref P.2.2.2.2.2.1]) rfl (by decide) rfl rfl rfl (by decide +kernel) rfl (Nat.le_of_ble_eq_true rfl) hs (C_pinit (B := B) _ ok ot f0 f1) (fun x h v n1 hs q => ?_)
    obtain ⟨rfl, hn1, en1, fr1, tx, hd, tl, wf, o3, c1_, c2_, c3_, c4_⟩ := q
    have fr := fr0.tr fr1
    have wv := hs.1
    have okv : C_K v op = (12, 0) := fr1.K wN ok (by decide)
    have lon := C_lt wN ok (show 12 < 20 by decide)
    have otv : C_T v op = pp ++ [4, l] := by rw [(fr1.2.1 _ lon).2]; exact ot
    have pkv : C_K v P.2.2.2.2.2.1 = (5, 38) := fr.K w pk (by decide)
    have ptv : C_T v P.2.2.2.2.2.1 = pp ++ [5, 0] := by rw [(fr.2.1 _ lpa).2]; exact pt
    have plkv : C_K v pl = (13, 0) := fr.K w hp.1.1.1 (by decide)
    have nppl : ¬ Pl_X pp l pp := fun e => by
      rcases e with e | e | e | e | e <;> exact L_tw_n e
    have plp : C_P v pl 1 = some P.2.2.2.2.2.1 := by rw [(fr.2.2.1 pl lpl (by rw [hp.1.1.2.1]; exact nppl)).2.1]; exact hp.1.1.2.2.2.1
    have hd1 := hp.newp w wv (by omega) hl hT fr okv otv o3 c1_ c2_ c3_ c4_
    have e1_ := hp.2.2.2.2.2.1 (4 + 2 * l) (by omega) (fun e => by rcases e with e | ⟨_, e⟩; omega; rw [show (4 + 2 * l - 4) / 2 = l by omega] at e; exact hT e)
    have e2_ := hp.2.2.2.2.2.1 (5 + 2 * l) (by omega) (fun e => by rcases e with e | ⟨_, e⟩; omega; rw [show (5 + 2 * l - 4) / 2 = l by omega] at e; exact hT e)
    have e3_ := hp.2.2.2.2.2.2.2.1 l (by omega)
    rw [if_neg hT] at e3_
    have hwn := W_nw_w (ω := ω) hl e1_ e2_ e3_
    have em : C_n v = op + 1 + 18 := by rw [en1]; show C_n s + 1 + 18 = _; omega
    show B_R _ _ (37, [(2, .int (Zi ((l : Int)))), (0, .ref pl), (1, .int (Zi ((l : Int))))], [.ref op, .int (Zi ((l : Int))), .ref P.2.2.2.2.2.1]) _ _ _
    refine C_as rfl hs pkv (by decide) (by decide) (by omega) (by omega) okv (by decide) ⟨_, _, _, rfl, rfl⟩ (fun h hs => ?_)
    refine Z_go (f2 := (39, [(2, .int (Zi ((l : Int)))), (0, .ref pl), (1, .int (Zi ((l : Int))))], [.ref pl])) (fun _ => rfl) ?_
    refine C_gr rfl hs plkv (by decide) (Nat.le_of_ble_eq_true rfl) rfl plp ?_
    refine Z_go (f2 := (43, [(2, .int (Zi ((l : Int)))), (0, .ref pl), (1, .int (Zi ((l : Int))))], [.int (Zi ((l : Int))), .ref P.2.2.2.2.2.1])) (fun _ => rfl) ?_
    refine C_aq rfl hs pkv (by decide) (by decide) (by omega) (by omega) (if_pos ⟨rfl, rfl⟩ : C_Q (C_sQ v P.2.2.2.2.2.1 (l : Int) (some op)) P.2.2.2.2.2.1 (l : Int) = some op) ?_
    show B_R _ _ (44, [(2, .int (Zi ((l : Int)))), (0, .ref pl), (1, .int (Zi ((l : Int))))], [.ref op]) _ _ _
    refine C_aret rfl (by first | exact .inl ⟨_, rfl⟩ | exact .inr ⟨_, rfl⟩) ⟨_, hs, ?_⟩
    try dsimp only
    refine ⟨_, _, _, ?_, hd1, ⟨?_, ?_, ?_⟩, P_nw_le hT, (g_up_s : g_up P.2.2.2.2.1 l true l = true), fun j hj => G_nw_oth (fun e => hT (by rw [← e]; exact hj))⟩
    · rw [show (P_nw P l op tx hd tl wf).2.2.2.1 l = op from g_up_s]
    · rw [show E_N 4 = 6 from by decide +kernel]
      omega
    · show 8 * C_n v + _ ≤ _
      omega
    · refine (fr.weak (fun t e => ?_)).sQ (by rw [ptv]; exact L_tw_p)
      rcases e with e | e | e | e | e <;> exact L_tw_p.trans e
