/-! the class: GramFinder: search, its files -/
theorem L_pr1 {a b : Nat} {t : List Nat} (h : [a] <+: t) (g : [b] <+: t) : a = b := by
  obtain ⟨x, rfl⟩ := h
  obtain ⟨y, e⟩ := g
  injection e with e _
  exact e.symm
theorem L_pr0 {a : Nat} : ¬ [a] <+: ([] : List Nat) := fun ⟨x, e⟩ => by cases e
theorem D_M0.fr {X : List Nat → Prop} {s s2 : C_S} {p : List Nat} {o : Nat} {A : Nat → Nat} (h : D_M0 s p o A) (w : C_wf s) (k : C_fr X s s2) (hX : ¬ X p) : D_M0 s2 p o A := by
  obtain ⟨h1, h2, h3, h4⟩ := h
  have lo := C_lt w h1 (show 10 < 20 by decide)
  obtain ⟨e1, e2, e3, e4, e5⟩ := k.2.2.1 o lo (by rw [h2]; exact hX)
  refine ⟨by rw [(k.2.1 o lo).1]; exact h1, by rw [(k.2.1 o lo).2]; exact h2, fun f hf => ?_, h4⟩
  obtain ⟨q1, q2, q3⟩ := h3 f hf
  have la := C_lt w q2 (show 0 < 20 by decide)
  exact ⟨by rw [e2]; exact q1, by rw [(k.2.1 _ la).1]; exact q2, by rw [(k.2.1 _ la).2]; exact q3⟩
theorem D_M1.fr {X : List Nat → Prop} {s s2 : C_S} {p : List Nat} {o : Nat} {A : Nat → Nat} {β : Int → Int64} {t : P_T} (h : D_M1 s p o A β t) (w : C_wf s) (k : C_fr X s s2) (hX : ¬ X p) : D_M1 s2 p o A β t ∧ ∀ f, C_P s2 o f = C_P s o f := by
  obtain ⟨h0, m, e, g⟩ := h
  have lo := C_lt w h0.1 (show 10 < 20 by decide)
  obtain ⟨e1, e2, _, _, _⟩ := k.2.2.1 o lo (by rw [h0.2.1]; exact hX)
  have ek : M_κ s2 A = M_κ s A := by
    funext f
    unfold M_κ
    by_cases c : 1 ≤ f ∧ f ≤ 4
    · rw [if_pos c, if_pos c]
      obtain ⟨q1, q2, q3⟩ := h0.2.2.1 f (by omega)
      exact (k.2.2.1 _ (C_lt w q2 (show 0 < 20 by decide)) (by rw [q3]; exact hX)).2.2.1
    · rw [if_neg c, if_neg c]
  exact ⟨⟨h0.fr w k hX, m, e, by rw [e1, ek]; exact g⟩, fun f => by rw [e2]⟩
theorem X_lin_cnt (X : List Int) : ∀ k : Nat, X_lin (L_at X) k = 1 + (L_cnt X (k : Int) : Int)
  | 0 => rfl
  | k + 1 => by
    have e : L_at X (k : Int) = X[k]?.getD (-1) := by
      unfold L_at
      rw [if_pos (by omega), show ((k : Nat) : Int).toNat = k by omega, List.getD_eq_getElem?_getD]
    show X_lin (L_at X) k + (if L_at X (k : Int) = 10 then 1 else 0) = _
    rw [X_lin_cnt X k, e]
    unfold L_cnt
    rw [show ((k : Nat) : Int).toNat = k by omega, show ((k + 1 : Nat) : Int).toNat = k + 1 by omega, List.take_add_one, List.filter_append, List.length_append]
    cases X[k]? with
    | none => rfl
    | some x =>
      show _ + (if x = 10 then (1 : Int) else 0) = 1 + ((_ + (List.filter (fun x => decide (x = 10)) [x]).length : Nat) : Int)
      by_cases c : x = 10
      · rw [if_pos c, List.filter_cons_of_pos (by simpa using c)]
        show _ = 1 + ((_ + 1 : Nat) : Int)
        omega
      · rw [if_neg c, List.filter_cons_of_neg (by simpa using c)]
        show _ = 1 + ((_ + 0 : Nat) : Int)
        omega
theorem D_En.wb {s : C_S} {p : List Nat} {e ba g a cap : Nat} {X : List Int} (h : D_En s p e ba g a cap X) : C_wb s ba X.length = L_at X := by
  funext i
  unfold C_wb
  by_cases c : 0 ≤ i ∧ i < X.length
  · rw [if_pos c]; exact h.2.2.2.2.2.2.2.1 i c.1 c.2
  · rw [if_neg c]
    unfold L_at
    by_cases c2 : 0 ≤ i
    · rw [if_pos c2, List.getD_eq_getElem?_getD, List.getElem?_eq_none (by omega)]
      rfl
    · rw [if_neg c2]
/-- which files are opened, what is told of a hit -/
def Y_D (fs : Int → Option (List Int)) (L : List (List Int)) (f : Int) : Prop := ∃ X, fs f = some X ∧ X_me L (X_G (L_at X) X.length)
def Y_Q (fs : Int → Option (List Int)) (t : P_T) (f : Int) (x : List Int) : Prop := ∃ X, fs f = some X ∧ ∃ b e : Int, M_hit (L_at X) X.length t b e ∧ x = [f, b, e, X_lin (L_at X) b.toNat]
def Y_sl (fs : Int → Option (List Int)) (t : P_T) (L : List (List Int)) (k : Int) (O : List Int) (H : List (List Int)) : Prop := X_hs (Y_D fs L) (fun f x => x = f) k.toNat O ∧ X_hs (Y_D fs L) (Y_Q fs t) k.toNat H ∧ (∀ x ∈ H, x.length = 4) ∧ H.length ≤ O.length ∧ ∃ m, D_cn (fun f => ∃ X, fs f = some X) k m ∧ (O.length : Int) ≤ m
theorem Y_sl_0 (fs : Int → Option (List Int)) (t : P_T) (L : List (List Int)) : Y_sl fs t L 0 [] [] := ⟨rfl, rfl, fun _ h => absurd h List.not_mem_nil, Nat.le_refl _, 0, D_cn_0 _, Int.le_refl _⟩
theorem Y_sl.no {fs : Int → Option (List Int)} {t : P_T} {L : List (List Int)} {k : Int} {O : List Int} {H : List (List Int)} (h : Y_sl fs t L k O H) (k0 : 0 ≤ k) (hn : ¬ Y_D fs L k) : Y_sl fs t L (k + 1) O H := by
  obtain ⟨h1, h2, h3, h4, m, h5, h6⟩ := h
  have ek : ((k.toNat : Nat) : Int) = k := by omega
  have e1 : (k + 1).toNat = k.toNat + 1 := by omega
  refine ⟨?_, ?_, h3, h4, ?_⟩
  · rw [e1]; exact X_hs_no h1 (fun q => hn (by rw [← ek]; exact q.1))
  · rw [e1]; exact X_hs_no h2 (fun q => hn (by rw [← ek]; exact q.1))
  · by_cases c : ∃ X, fs k = some X
    · exact ⟨m + 1, D_cn_yes h5 k0 c, by omega⟩
    · exact ⟨m, D_cn_no h5 c, h6⟩
theorem Y_sl.op {fs : Int → Option (List Int)} {t : P_T} {L : List (List Int)} {k : Int} {O : List Int} {H : List (List Int)} (h : Y_sl fs t L k O H) (k0 : 0 ≤ k) (hy : Y_D fs L k) : X_hs (Y_D fs L) (fun f x => x = f) (k + 1).toNat (O ++ [k]) ∧ ∃ m, D_cn (fun f => ∃ X, fs f = some X) (k + 1) m ∧ ((O ++ [k]).length : Int) ≤ m := by
  obtain ⟨h1, h2, h3, h4, m, h5, h6⟩ := h
  have ek : ((k.toNat : Nat) : Int) = k := by omega
  have e1 : (k + 1).toNat = k.toNat + 1 := by omega
  refine ⟨?_, m + 1, D_cn_yes h5 k0 (by obtain ⟨X, hX, _⟩ := hy; exact ⟨X, hX⟩), by rw [List.length_append, List.length_cons, List.length_nil]; push_cast; omega⟩
  rw [e1]
  exact X_hs_yes h1 (by rw [ek]; exact hy) (x := k) ek.symm
theorem Y_sl.miss {fs : Int → Option (List Int)} {t : P_T} {L : List (List Int)} {k : Int} {O : List Int} {H : List (List Int)} (h : Y_sl fs t L k O H) (k0 : 0 ≤ k) (hy : Y_D fs L k) (hq : ∀ x, ¬ Y_Q fs t k x) : Y_sl fs t L (k + 1) (O ++ [k]) H := by
  have ho := h.op k0 hy
  obtain ⟨h1, h2, h3, h4, _⟩ := h
  have ek : ((k.toNat : Nat) : Int) = k := by omega
  have e1 : (k + 1).toNat = k.toNat + 1 := by omega
  refine ⟨ho.1, ?_, h3, by rw [List.length_append]; omega, ho.2⟩
  rw [e1]
  refine X_hs_no h2 ?_
  rintro ⟨_, x, q⟩
  rw [ek] at q
  exact hq x q
theorem Y_sl.hit {fs : Int → Option (List Int)} {t : P_T} {L : List (List Int)} {k : Int} {O : List Int} {H : List (List Int)} {x : List Int} (h : Y_sl fs t L k O H) (k0 : 0 ≤ k) (hy : Y_D fs L k) (hq : Y_Q fs t k x) : Y_sl fs t L (k + 1) (O ++ [k]) (H ++ [x]) := by
  have ho := h.op k0 hy
  obtain ⟨h1, h2, h3, h4, _⟩ := h
  have ek : ((k.toNat : Nat) : Int) = k := by omega
  have e1 : (k + 1).toNat = k.toNat + 1 := by omega
  refine ⟨ho.1, ?_, fun y hy2 => ?_, by rw [List.length_append, List.length_append]; exact Nat.succ_le_succ h4, ho.2⟩
  · rw [e1]
    exact X_hs_yes h2 (by rw [ek]; exact hy) (by rw [ek]; exact hq)
  · rcases List.mem_append.mp hy2 with q | q
    · exact h3 y q
    · rw [List.mem_singleton.mp q]
      obtain ⟨X, _, b, e, _, rfl⟩ := hq
      rfl
theorem Y_sl.lt {fs : Int → Option (List Int)} {t : P_T} {L : List (List Int)} {k K M : Int} {O : List Int} {H : List (List Int)} (h : Y_sl fs t L k O H) (g : D_cn (fun f => ∃ X, fs f = some X) K M) (k0 : 0 ≤ k) (kK : k < K) {X : List Int} (hX : fs k = some X) : (O.length : Int) + 1 ≤ M ∧ (H.flatten.length : Int) + 4 ≤ 4 * M := by
  obtain ⟨h1, h2, h3, h4, m, h5, h6⟩ := h
  have := D_cn_up h5 g k0 kK ⟨X, hX⟩
  have hf : ∀ H : List (List Int), (∀ x ∈ H, x.length = 4) → H.flatten.length = 4 * H.length := by
    intro H
    induction H with
    | nil => intro _; rfl
    | cons a as ih =>
      intro ha
      rw [List.flatten_cons, List.length_append, List.length_cons, ih (fun x hx => ha x (List.mem_cons_of_mem _ hx)), ha a (List.mem_cons_self ..)]
      omega
  have := hf H h3
  omega
theorem Y_me {m : Nat} {ψ : Int → List Int} {X : List Int} : (∃ i : Int, 0 ≤ i ∧ i < m ∧ L_le (ψ i) (L_gr X)) ↔ X_me (F_li m ψ) (X_G (L_at X) X.length) := by
  constructor
  · rintro ⟨i, i0, i1, h⟩
    refine ⟨ψ i, ?_, fun g hg => (X_G_gr X g).mpr (h g hg)⟩
    unfold F_li
    exact List.mem_map.mpr ⟨i.toNat, List.mem_range.mpr (by omega), by show ψ ((i.toNat : Nat) : Int) = ψ i; rw [show ((i.toNat : Nat) : Int) = i by omega]⟩
  · rintro ⟨r, hr, h⟩
    unfold F_li at hr
    obtain ⟨i, hi, rfl⟩ := List.mem_map.mp hr
    exact ⟨i, by omega, by have := List.mem_range.mp hi; omega, fun x hx => (X_G_gr X x).mp (h x hx)⟩
/-- a search under way: the files before i are looked at -/
def Y_iv (s u : C_S) (fs : Int → Option (List Int)) (ma tr re : Nat) (Am : Nat → Nat) (β : Int → Int64) (u2 v2 : Nat) (n3 n4 n5 n6 : Int) (t : P_T) (L : List (List Int)) (i : Int) (O : List Int) (H : List (List Int)) (z sl : Nat) : Prop := C_fr (fun q => [5] <+: q ∨ q = [4]) s u ∧ D_M1 u [4] ma Am β t ∧ C_P u ma 0 = some tr ∧ D_Rp u [5] re u2 v2 O H.flatten H.length n3 (n4 + O.length) (n5 + H.length) n6 ∧ sl + 2 * D_pr s re ≤ z + 2 * D_pr u re ∧ 8 * C_n u + D_pr s re ≤ 8 * C_n s + D_pr u re ∧ Y_sl fs t L i O H
theorem C_se_lp {d : Nat} {h0 : E_H} {s : C_S} {Φ : E_R → Prop} {g tb sh pa pl ma re : Nat} {m : Int} {ea u0 v0 : Nat} {fs : Int → Option (List Int)} {ca th tg : Int} {B : Nat} {G : G_t} {P : G_p} {ω : Nat → Nat} {Am Am2 : Nat → Nat} {tr : Nat} {m2 sm : Int} {τ : Nat → Int → Int} {β : Int → Int64} {u2 v2 : Nat} {n3 n4 n5 n6 : Int} {t : P_T} {L : List (List Int)} {fo len : Int} {z : Nat} (hg : D_G s g tb sh pa pl ma re m) (hd : D_Sh s [1] sh ea u0 v0 fs ca th tg) (hp : D_Pl s [3] pl tr B G P ω) (hT : P.2.2.2.2.1 0 = true) (eL : G.2.1 2 = L) (htr : D_Tr s [2, tr] tr Am2 m2 sm τ β) (w : C_wf s) (ht : T_is t) (hcn : D_cn (fun f => ∃ X, fs f = some X) ca th) (th40 : th ≤ 40) (h4 : 0 ≤ n4 ∧ n4 ≤ 1000000) (h5 : 0 ≤ n5 ∧ n5 ≤ 1000000) (ret : ∀ (u : C_S) (h : E_H) (sl : Nat) (O : List Int) (H : List (List Int)), C_is h0 h u → Y_iv s u fs ma tr re Am β u2 v2 n3 n4 n5 n6 t L ca O H z sl → B_R (d + 11) E_m153 (203, [(0, .ref g), (1, .int (Zi fo)), (2, .int (Zi len)), (3, .ref (P.2.1 2))], []) h sl Φ) : ∀ (c : Nat) (i : Int) (u : C_S) (h : E_H) (sl : Nat) (O : List Int) (H : List (List Int)), c = (ca - i).toNat → 0 ≤ i → i ≤ ca → C_is h0 h u → Y_iv s u fs ma tr re Am β u2 v2 n3 n4 n5 n6 t L i O H z sl → B_R (d + 11) E_m153 (90, [(4, .int (Zi i)), (0, .ref g), (1, .int (Zi fo)), (2, .int (Zi len)), (3, .ref (P.2.1 2))], []) h sl Φ := by
  obtain ⟨qa, fa, mf, ψ, hfm, eψ, _⟩ := hp.fam (f := 2) (.inr ⟨by omega, hT⟩)
  have hca := hd.1.2.2.2.2.2.2.2.2.2.2
  intro c
  induction c with
  | zero =>
    intro i u h sl O H hc i0 i1 hs iv
    obtain rfl : i = ca := by omega
    have zi : Zr i := ⟨by omega, by omega⟩
    have fr := iv.1
    have hgu := hg.fr w fr (fun e => by rcases e with e | e; exact L_pr0 e; cases e)
    have hdu := (hd.fr w fr (fun t h e => by rcases e with e | e; have := L_pr1 h e; omega; rw [e] at h; have := L_pr1 h (L_pre_self _); omega)).1
    obtain ⟨gk, gt, g0, tk, tt, g2, g3, g4, g5, g6, gm, m0, m1⟩ := id hgu
    refine Z_go (f2 := (92, [(4, .int (Zi i)), (0, .ref g), (1, .int (Zi fo)), (2, .int (Zi len)), (3, .ref (P.2.1 2))], [.int (Zi i)])) (fun _ => rfl) ?_
    refine Z_go (f2 := (93, [(4, .int (Zi i)), (0, .ref g), (1, .int (Zi fo)), (2, .int (Zi len)), (3, .ref (P.2.1 2))], [.ref g, .int (Zi i)])) (fun _ => rfl) ?_
    refine C_gr rfl hs gk (by decide) (Nat.le_of_ble_eq_true rfl) rfl g2 ?_
    refine C_gi rfl hs hdu.1.1 (by decide) (Nat.le_of_ble_eq_true rfl) rfl ?_
    rw [show C_F (u) sh 3 = i from (by first | exact hdu.1.2.2.2.2.2.2.2.1 | exact (if_neg (fun e => absurd e.1 (by assumption))).trans hdu.1.2.2.2.2.2.2.2.1 | exact (if_neg (fun e => absurd e.2 (by decide))).trans hdu.1.2.2.2.2.2.2.2.1 | exact (if_neg (fun e => absurd e.2 (by decide))).trans ((if_neg (fun e => absurd e.2 (by decide))).trans hdu.1.2.2.2.2.2.2.2.1) | exact (if_neg (fun e => absurd e.2 (by decide))).trans ((if_neg (fun e => absurd e.2 (by decide))).trans ((if_neg (fun e => absurd e.2 (by decide))).trans hdu.1.2.2.2.2.2.2.2.1)))]
    show B_R _ _ (99, [(4, .int (Zi i)), (0, .ref g), (1, .int (Zi fo)), (2, .int (Zi len)), (3, .ref (P.2.1 2))], [.int (Zi i), .int (Zi i)]) _ _ _
    refine Z_cge rfl rfl (by first | exact hs.zF _ _ | exact Zor_r _ _ | exact hs.zA _ _ | assumption | exact zA _ _ | exact zS _ | exact Zr_not (hs.zA _ _) | exact hs.1.1 _ _ | exact ⟨by omega, by omega⟩) (by first | exact hs.zF _ _ | exact Zor_r _ _ | exact hs.zA _ _ | assumption | exact zA _ _ | exact zS _ | exact Zr_not (hs.zA _ _) | exact hs.1.1 _ _ | exact ⟨by omega, by omega⟩) (fun y1 => ?_) (fun y1 => ?_)
    · refine B_loc (K := [(0, .ref g), (1, .int (Zi fo)), (2, .int (Zi len)), (3, .ref (P.2.1 2))]) (N_all_sub ⟨rfl, rfl, rfl, rfl, trivial⟩) (show ([0, 1, 2, 3] : List Nat).Nodup by decide) ?_
      exact ret u h sl O H hs iv
    · exfalso; omega
  | succ c ih =>
    intro i u h sl O H hc i0 i1 hs iv
    have zi : Zr i := ⟨by omega, by omega⟩
    have zca : Zr ca := ⟨by omega, by omega⟩
    have ic : i < ca := by omega
    have wu := hs.1
    have fr := iv.1
    have hgu := hg.fr w fr (fun e => by rcases e with e | e; exact L_pr0 e; cases e)
    have hdu := (hd.fr w fr (fun t h e => by rcases e with e | e; have := L_pr1 h e; omega; rw [e] at h; have := L_pr1 h (L_pre_self _); omega)).1
    have htu := htr.fr w fr (fun e => by rcases e with e | e; have := L_pr1 (a := 2) ⟨[tr], rfl⟩ e; omega; cases e)
    have hfu := (hfm.fr w fr (fun t h e => by rcases e with e | e; have := L_pr1 (List.IsPrefix.trans (show [3] <+: [3] ++ [1, 2] from ⟨[1, 2], rfl⟩) h) e; omega; rw [e] at h; have := L_pr1 (List.IsPrefix.trans (show [3] <+: [3] ++ [1, 2] from ⟨[1, 2], rfl⟩) h) (L_pre_self _); omega)).1
    obtain ⟨gk, gt, g0, tk, tt, g2, g3, g4, g5, g6, gm, m0, m1⟩ := id hgu
    obtain ⟨iv1, iv2, iv3, iv4, iv5, iv6, iv7⟩ := id iv
    rcases hdu.one i with ⟨e, ba, gr, a9, cap9, X, hX, hQ, hE, hX1, hcap⟩ | ⟨hQ, hX⟩
    · obtain ⟨ol, hl⟩ := iv7.lt hcn i0 ic hX.2.2
      have hHO := iv7.2.2.2.1
      refine Z_go (f2 := (92, [(4, .int (Zi i)), (0, .ref g), (1, .int (Zi fo)), (2, .int (Zi len)), (3, .ref (P.2.1 2))], [.int (Zi i)])) (fun _ => rfl) ?_
      refine Z_go (f2 := (93, [(4, .int (Zi i)), (0, .ref g), (1, .int (Zi fo)), (2, .int (Zi len)), (3, .ref (P.2.1 2))], [.ref g, .int (Zi i)])) (fun _ => rfl) ?_
      refine C_gr rfl hs gk (by decide) (Nat.le_of_ble_eq_true rfl) rfl g2 ?_
      refine C_gi rfl hs hdu.1.1 (by decide) (Nat.le_of_ble_eq_true rfl) rfl ?_
      rw [show C_F (u) sh 3 = ca from (by first | exact hdu.1.2.2.2.2.2.2.2.1 | exact (if_neg (fun e => absurd e.1 (by assumption))).trans hdu.1.2.2.2.2.2.2.2.1 | exact (if_neg (fun e => absurd e.2 (by decide))).trans hdu.1.2.2.2.2.2.2.2.1 | exact (if_neg (fun e => absurd e.2 (by decide))).trans ((if_neg (fun e => absurd e.2 (by decide))).trans hdu.1.2.2.2.2.2.2.2.1) | exact (if_neg (fun e => absurd e.2 (by decide))).trans ((if_neg (fun e => absurd e.2 (by decide))).trans ((if_neg (fun e => absurd e.2 (by decide))).trans hdu.1.2.2.2.2.2.2.2.1)))]
      show B_R _ _ (99, [(4, .int (Zi i)), (0, .ref g), (1, .int (Zi fo)), (2, .int (Zi len)), (3, .ref (P.2.1 2))], [.int (Zi ca), .int (Zi i)]) _ _ _
      refine Z_cge rfl rfl (by first | exact hs.zF _ _ | exact Zor_r _ _ | exact hs.zA _ _ | assumption | exact zA _ _ | exact zS _ | exact Zr_not (hs.zA _ _) | exact hs.1.1 _ _ | exact ⟨by omega, by omega⟩) (by first | exact hs.zF _ _ | exact Zor_r _ _ | exact hs.zA _ _ | assumption | exact zA _ _ | exact zS _ | exact Zr_not (hs.zA _ _) | exact hs.1.1 _ _ | exact ⟨by omega, by omega⟩) (fun y1 => ?_) (fun y1 => ?_)
      · exfalso; omega
      · refine Z_go (f2 := (103, [(4, .int (Zi i)), (0, .ref g), (1, .int (Zi fo)), (2, .int (Zi len)), (3, .ref (P.2.1 2))], [.ref g])) (fun _ => rfl) ?_
        refine C_gr rfl hs gk (by decide) (Nat.le_of_ble_eq_true rfl) rfl g2 ?_
        refine Z_go (f2 := (108, [(4, .int (Zi i)), (0, .ref g), (1, .int (Zi fo)), (2, .int (Zi len)), (3, .ref (P.2.1 2))], [.int (Zi i), .ref sh])) (fun _ => rfl) ?_
        refine C_callVR (As := [.int (Zi i)]) (rest := []) rfl (by decide) rfl (by decide) rfl rfl (by decide +kernel) (Nat.le_of_ble_eq_true rfl) hs hdu.1.1 (C_find1 _ hdu i0 ic hQ) (fun x q => ?_)
        obtain rfl := q
        show B_R _ _ (111, [(4, .int (Zi i)), (0, .ref g), (1, .int (Zi fo)), (2, .int (Zi len)), (3, .ref (P.2.1 2))], [.ref e]) _ _ _
        refine Z_go (f2 := (113, [(5, .ref e), (4, .int (Zi i)), (0, .ref g), (1, .int (Zi fo)), (2, .int (Zi len)), (3, .ref (P.2.1 2))], [])) (fun _ => rfl) ?_
        refine Z_go (f2 := (115, [(5, .ref e), (4, .int (Zi i)), (0, .ref g), (1, .int (Zi fo)), (2, .int (Zi len)), (3, .ref (P.2.1 2))], [.ref e])) (fun _ => rfl) ?_
        refine Z_go (f2 := (118, [(5, .ref e), (4, .int (Zi i)), (0, .ref g), (1, .int (Zi fo)), (2, .int (Zi len)), (3, .ref (P.2.1 2))], [])) (fun _ => rfl) ?_
        refine Z_go (f2 := (119, [(5, .ref e), (4, .int (Zi i)), (0, .ref g), (1, .int (Zi fo)), (2, .int (Zi len)), (3, .ref (P.2.1 2))], [.ref (P.2.1 2)])) (fun _ => rfl) ?_
        refine Z_go (f2 := (121, [(5, .ref e), (4, .int (Zi i)), (0, .ref g), (1, .int (Zi fo)), (2, .int (Zi len)), (3, .ref (P.2.1 2))], [.ref e, .ref (P.2.1 2)])) (fun _ => rfl) ?_
        refine C_gr rfl hs hE.1 (by decide) (Nat.le_of_ble_eq_true rfl) rfl hE.2.2.2.1 ?_
        refine C_callVR (As := [.ref gr]) (rest := []) rfl (by decide) rfl (by decide) rfl rfl (by decide +kernel) (Nat.le_of_ble_eq_true rfl) hs hfu.1.1 (C_met _ hfu hE.2.2.2.2.2.2.2.2 (L_gr_srt X)) (fun x q => ?_)
        obtain ⟨z9, rfl, hz9⟩ := q
        rw [Y_me, eψ, eL] at hz9
        have zz9 : Zr z9 := by rcases hz9 with e | e <;> exact ⟨by omega, by omega⟩
        show B_R _ _ (127, [(5, .ref e), (4, .int (Zi i)), (0, .ref g), (1, .int (Zi fo)), (2, .int (Zi len)), (3, .ref (P.2.1 2))], [.int (Zi z9)]) _ _ _
        refine Z_ieq rfl rfl (by first | exact hs.zF _ _ | exact Zor_r _ _ | exact hs.zA _ _ | assumption | exact zA _ _ | exact zS _ | exact Zr_not (hs.zA _ _) | exact hs.1.1 _ _ | exact ⟨by omega, by omega⟩) (fun y2 => ?_) (fun y2 => ?_)
        · refine Z_iinc (L2 := [(4, .int (Zi (i + 1))), (5, .ref e), (0, .ref g), (1, .int (Zi fo)), (2, .int (Zi len)), (3, .ref (P.2.1 2))]) rfl rfl (by decide) rfl ?_
          refine Z_go (f2 := (90, [(4, .int (Zi (i + 1))), (5, .ref e), (0, .ref g), (1, .int (Zi fo)), (2, .int (Zi len)), (3, .ref (P.2.1 2))], [])) (fun _ => rfl) ?_
          refine B_loc (K := [(4, .int (Zi (i + 1))), (0, .ref g), (1, .int (Zi fo)), (2, .int (Zi len)), (3, .ref (P.2.1 2))]) (N_all_sub ⟨rfl, rfl, rfl, rfl, rfl, trivial⟩) (show ([4, 0, 1, 2, 3] : List Nat).Nodup by decide) ?_
          refine ih (i + 1) u h _ O H (by omega) (by omega) (by omega) hs ⟨iv1, iv2, iv3, iv4, by omega, iv6, iv7.no i0 (fun hh => ?_)⟩
          rcases hz9 with ⟨e1, _⟩ | ⟨_, e2⟩
          · omega
          · obtain ⟨X3, h3, h4⟩ := hh
            rw [hX.2.2] at h3
            injection h3 with h3
            rw [← h3] at h4
            exact e2 h4
        · refine Z_go (f2 := (131, [(5, .ref e), (4, .int (Zi i)), (0, .ref g), (1, .int (Zi fo)), (2, .int (Zi len)), (3, .ref (P.2.1 2))], [.ref g])) (fun _ => rfl) ?_
          refine C_gr rfl hs gk (by decide) (Nat.le_of_ble_eq_true rfl) rfl g6 ?_
          refine Z_go (f2 := (136, [(5, .ref e), (4, .int (Zi i)), (0, .ref g), (1, .int (Zi fo)), (2, .int (Zi len)), (3, .ref (P.2.1 2))], [.int (Zi i), .ref re])) (fun _ => rfl) ?_
          refine C_callV (As := [.int (Zi i)]) (rest := []) rfl (by decide) rfl (by decide) rfl rfl (by decide +kernel) (Nat.le_of_ble_eq_true rfl) hs iv4.1.1 (C_noteO _ iv4 zi (by omega) ⟨by omega, by omega⟩) (fun x h v1 n1 hs q => ?_)
          obtain ⟨rfl, q1, q2, q3, q4⟩ := q
          have wv1 := hs.1
          have hg1 := hgu.fr wu q1 L_pr0
          have hE1 := hE.fr wu q1 (fun t h e2 => by have := L_pr1 (List.IsPrefix.trans (show [1] <+: [1] ++ [e] from ⟨[e], rfl⟩) h) e2; omega)
          have ht1 := htu.fr wu q1 (fun e => by have := L_pr1 (a := 2) ⟨[tr], rfl⟩ e; omega)
          obtain ⟨ivm, ivP⟩ := iv2.fr wu q1 (fun e => by have := L_pr1 (L_pre_self [4]) e; omega)
          obtain ⟨gk1, _, _, _, _, _, _, _, g51, g61, _, _, _⟩ := id hg1
          have wb1 := hE1.wb
          show B_R _ _ (139, [(5, .ref e), (4, .int (Zi i)), (0, .ref g), (1, .int (Zi fo)), (2, .int (Zi len)), (3, .ref (P.2.1 2))], []) _ _ _
          refine Z_go (f2 := (140, [(5, .ref e), (4, .int (Zi i)), (0, .ref g), (1, .int (Zi fo)), (2, .int (Zi len)), (3, .ref (P.2.1 2))], [.ref g])) (fun _ => rfl) ?_
          refine C_gr rfl hs gk1 (by decide) (Nat.le_of_ble_eq_true rfl) rfl g51 ?_
          refine Z_go (f2 := (145, [(5, .ref e), (4, .int (Zi i)), (0, .ref g), (1, .int (Zi fo)), (2, .int (Zi len)), (3, .ref (P.2.1 2))], [.ref e, .ref ma])) (fun _ => rfl) ?_
          refine C_gr rfl hs hE1.1 (by decide) (Nat.le_of_ble_eq_true rfl) rfl hE1.2.2.1 ?_
          refine C_callV (As := [.ref ba]) (rest := []) rfl (by decide) rfl (by decide) rfl rfl (by decide +kernel) (Nat.le_of_ble_eq_true rfl) hs ivm.1.1 (C_seekT _ (t := t) (N := X.length) ivm ht hE1.2.2.2.2.1 hX1 ((ivP 0).trans iv3) ht1 (by intro e; injection e with e _; omega)) (fun x h v2 n2 hs q => ?_)
          obtain ⟨rfl, rfl, p3, p4, p5, p6, p7⟩ := q
          rw [wb1] at p7
          have hg2 := hg1.fr wv1 p3 (by decide)
          have hE2 := hE1.fr wv1 p3 (fun t h e2 => by rw [e2] at h; have := L_pr1 (List.IsPrefix.trans (show [1] <+: [1] ++ [e] from ⟨[e], rfl⟩) h) (L_pre_self [4]); omega)
          obtain ⟨q42, q5⟩ := q4.fr wv1 p3 (fun t h e => by rw [e] at h; have := L_pr1 h (L_pre_self [4]); omega)
          obtain ⟨gk2, _, _, _, _, _, _, _, g52, g62, _, _, _⟩ := id hg2
          have frA : C_fr (fun q => [5] <+: q ∨ q = [4]) s v2 := (iv1.tr (q1.weak (fun _ h => .inl h))).tr (p3.weak (fun _ h => .inr h))
          have wv2 := hs.1
          have rgB : (C_F v2 ma 15 ≠ -1 → 0 ≤ C_F v2 ma 15 ∧ C_F v2 ma 15 ≤ X.length) := fun ne => by
            rcases p7 with ⟨e1, _⟩ | ⟨_, e2⟩
            · exact absurd e1 ne
            · have := M_of_rg ht _ _ e2.1; omega
          show B_R _ _ (151, [(5, .ref e), (4, .int (Zi i)), (0, .ref g), (1, .int (Zi fo)), (2, .int (Zi len)), (3, .ref (P.2.1 2))], []) _ _ _
          refine Z_go (f2 := (152, [(5, .ref e), (4, .int (Zi i)), (0, .ref g), (1, .int (Zi fo)), (2, .int (Zi len)), (3, .ref (P.2.1 2))], [.ref g])) (fun _ => rfl) ?_
          refine C_gr rfl hs gk2 (by decide) (Nat.le_of_ble_eq_true rfl) rfl g52 ?_
          refine C_gi rfl hs p5.1.1 (by decide) (Nat.le_of_ble_eq_true rfl) rfl ?_
          show B_R _ _ (158, [(5, .ref e), (4, .int (Zi i)), (0, .ref g), (1, .int (Zi fo)), (2, .int (Zi len)), (3, .ref (P.2.1 2))], [.int (Zi (C_F v2 ma 15))]) _ _ _
          refine Z_go (f2 := (159, [(5, .ref e), (4, .int (Zi i)), (0, .ref g), (1, .int (Zi fo)), (2, .int (Zi len)), (3, .ref (P.2.1 2))], [.int (Zi (-1)), .int (Zi (C_F v2 ma 15))])) (fun _ => rfl) ?_
          refine Z_ceq rfl rfl (by first | exact hs.zF _ _ | exact Zor_r _ _ | exact hs.zA _ _ | assumption | exact zA _ _ | exact zS _ | exact Zr_not (hs.zA _ _) | exact hs.1.1 _ _ | exact ⟨by omega, by omega⟩) (by first | exact hs.zF _ _ | exact Zor_r _ _ | exact hs.zA _ _ | assumption | exact zA _ _ | exact zS _ | exact Zr_not (hs.zA _ _) | exact hs.1.1 _ _ | exact ⟨by omega, by omega⟩) (fun y3 => ?_) (fun y3 => ?_)
          · refine Z_iinc (L2 := [(4, .int (Zi (i + 1))), (5, .ref e), (0, .ref g), (1, .int (Zi fo)), (2, .int (Zi len)), (3, .ref (P.2.1 2))]) rfl rfl (by decide) rfl ?_
            refine Z_go (f2 := (90, [(4, .int (Zi (i + 1))), (5, .ref e), (0, .ref g), (1, .int (Zi fo)), (2, .int (Zi len)), (3, .ref (P.2.1 2))], [])) (fun _ => rfl) ?_
            refine B_loc (K := [(4, .int (Zi (i + 1))), (0, .ref g), (1, .int (Zi fo)), (2, .int (Zi len)), (3, .ref (P.2.1 2))]) (N_all_sub ⟨rfl, rfl, rfl, rfl, rfl, trivial⟩) (show ([4, 0, 1, 2, 3] : List Nat).Nodup by decide) ?_
            have hyd : Y_D fs L i := by
              rcases hz9 with ⟨_, e2⟩ | ⟨e1, _⟩
              · exact ⟨X, hX.2.2, e2⟩
              · omega
            refine ih (i + 1) v2 h _ (O ++ [i]) H (by omega) (by omega) (by omega) hs ⟨frA, p5, p6, ?_, by omega, by omega, iv7.miss i0 hyd (fun x hx => ?_)⟩
            · rw [show n4 + ((O ++ [i]).length : Int) = n4 + O.length + 1 by rw [List.length_append, List.length_cons, List.length_nil]; push_cast; omega]
              exact q42
            · obtain ⟨X3, h3, b, e2, h4, _⟩ := hx
              rw [hX.2.2] at h3
              injection h3 with h3
              rw [← h3] at h4
              rcases p7 with ⟨_, g2⟩ | ⟨g1, _⟩
              · exact g2 b e2 h4.1
              · omega
          · refine Z_go (f2 := (163, [(5, .ref e), (4, .int (Zi i)), (0, .ref g), (1, .int (Zi fo)), (2, .int (Zi len)), (3, .ref (P.2.1 2))], [.ref g])) (fun _ => rfl) ?_
            refine C_gr rfl hs gk2 (by decide) (Nat.le_of_ble_eq_true rfl) rfl g62 ?_
            refine Z_go (f2 := (168, [(5, .ref e), (4, .int (Zi i)), (0, .ref g), (1, .int (Zi fo)), (2, .int (Zi len)), (3, .ref (P.2.1 2))], [.int (Zi i), .ref re])) (fun _ => rfl) ?_
            refine Z_go (f2 := (169, [(5, .ref e), (4, .int (Zi i)), (0, .ref g), (1, .int (Zi fo)), (2, .int (Zi len)), (3, .ref (P.2.1 2))], [.ref g, .int (Zi i), .ref re])) (fun _ => rfl) ?_
            refine C_gr rfl hs gk2 (by decide) (Nat.le_of_ble_eq_true rfl) rfl g52 ?_
            refine C_gi rfl hs p5.1.1 (by decide) (Nat.le_of_ble_eq_true rfl) rfl ?_
            show B_R _ _ (175, [(5, .ref e), (4, .int (Zi i)), (0, .ref g), (1, .int (Zi fo)), (2, .int (Zi len)), (3, .ref (P.2.1 2))], [.int (Zi (C_F v2 ma 15)), .int (Zi i), .ref re]) _ _ _
            refine Z_go (f2 := (176, [(5, .ref e), (4, .int (Zi i)), (0, .ref g), (1, .int (Zi fo)), (2, .int (Zi len)), (3, .ref (P.2.1 2))], [.ref g, .int (Zi (C_F v2 ma 15)), .int (Zi i), .ref re])) (fun _ => rfl) ?_
            refine C_gr rfl hs gk2 (by decide) (Nat.le_of_ble_eq_true rfl) rfl g52 ?_
            refine C_gi rfl hs p5.1.1 (by decide) (Nat.le_of_ble_eq_true rfl) rfl ?_
            show B_R _ _ (182, [(5, .ref e), (4, .int (Zi i)), (0, .ref g), (1, .int (Zi fo)), (2, .int (Zi len)), (3, .ref (P.2.1 2))], [.int (Zi (C_F v2 ma 16)), .int (Zi (C_F v2 ma 15)), .int (Zi i), .ref re]) _ _ _
            refine Z_go (f2 := (184, [(5, .ref e), (4, .int (Zi i)), (0, .ref g), (1, .int (Zi fo)), (2, .int (Zi len)), (3, .ref (P.2.1 2))], [.ref e, .int (Zi (C_F v2 ma 16)), .int (Zi (C_F v2 ma 15)), .int (Zi i), .ref re])) (fun _ => rfl) ?_
            refine Z_go (f2 := (185, [(5, .ref e), (4, .int (Zi i)), (0, .ref g), (1, .int (Zi fo)), (2, .int (Zi len)), (3, .ref (P.2.1 2))], [.ref g, .ref e, .int (Zi (C_F v2 ma 16)), .int (Zi (C_F v2 ma 15)), .int (Zi i), .ref re])) (fun _ => rfl) ?_
            refine C_gr rfl hs gk2 (by decide) (Nat.le_of_ble_eq_true rfl) rfl g52 ?_
            refine C_gi rfl hs p5.1.1 (by decide) (Nat.le_of_ble_eq_true rfl) rfl ?_
            show B_R _ _ (191, [(5, .ref e), (4, .int (Zi i)), (0, .ref g), (1, .int (Zi fo)), (2, .int (Zi len)), (3, .ref (P.2.1 2))], [.int (Zi (C_F v2 ma 15)), .ref e, .int (Zi (C_F v2 ma 16)), .int (Zi (C_F v2 ma 15)), .int (Zi i), .ref re]) _ _ _
            refine C_callVR (As := [.int (Zi (C_F v2 ma 15))]) (rest := [.int (Zi (C_F v2 ma 16)), .int (Zi (C_F v2 ma 15)), .int (Zi i), .ref re]) rfl (by decide) rfl (by decide) rfl rfl (by decide +kernel) (Nat.le_of_ble_eq_true rfl) hs hE2.1 (C_line _ hE2 (hs.1.1 ma 15)) (fun x q => ?_)
            obtain rfl := q
            show B_R _ _ (194, [(5, .ref e), (4, .int (Zi i)), (0, .ref g), (1, .int (Zi fo)), (2, .int (Zi len)), (3, .ref (P.2.1 2))], [.int (Zi (1 + (L_cnt X (C_F v2 ma 15) : Int))), .int (Zi (C_F v2 ma 16)), .int (Zi (C_F v2 ma 15)), .int (Zi i), .ref re]) _ _ _
            have zln : Zr (1 + (L_cnt X (C_F v2 ma 15) : Int)) := by
              have := List.length_filter_le (fun x => decide (x = 10)) (X.take (C_F v2 ma 15).toNat)
              have := List.length_take_le (C_F v2 ma 15).toNat X
              unfold L_cnt
              exact ⟨by omega, by omega⟩
            refine C_callV (As := [.int (Zi i), .int (Zi (C_F v2 ma 15)), .int (Zi (C_F v2 ma 16)), .int (Zi (1 + (L_cnt X (C_F v2 ma 15) : Int)))]) (rest := []) rfl (by decide) rfl (by decide) rfl rfl (by decide +kernel) (Nat.le_of_ble_eq_true rfl) hs q42.1.1 (C_noteH _ q42 zi (hs.1.1 ma 15) (hs.1.1 ma 16) zln (by omega) ⟨by omega, by omega⟩ ⟨by omega, by omega⟩) (fun x h v3 n3 hs q => ?_)
            obtain ⟨rfl, r1, r2, r3, r4⟩ := q
            show B_R _ _ (197, [(5, .ref e), (4, .int (Zi i)), (0, .ref g), (1, .int (Zi fo)), (2, .int (Zi len)), (3, .ref (P.2.1 2))], []) _ _ _
            refine Z_iinc (L2 := [(4, .int (Zi (i + 1))), (5, .ref e), (0, .ref g), (1, .int (Zi fo)), (2, .int (Zi len)), (3, .ref (P.2.1 2))]) rfl rfl (by decide) rfl ?_
            refine Z_go (f2 := (90, [(4, .int (Zi (i + 1))), (5, .ref e), (0, .ref g), (1, .int (Zi fo)), (2, .int (Zi len)), (3, .ref (P.2.1 2))], [])) (fun _ => rfl) ?_
            refine B_loc (K := [(4, .int (Zi (i + 1))), (0, .ref g), (1, .int (Zi fo)), (2, .int (Zi len)), (3, .ref (P.2.1 2))]) (N_all_sub ⟨rfl, rfl, rfl, rfl, rfl, trivial⟩) (show ([4, 0, 1, 2, 3] : List Nat).Nodup by decide) ?_
            have hyd : Y_D fs L i := by
              rcases hz9 with ⟨_, e2⟩ | ⟨e1, _⟩
              · exact ⟨X, hX.2.2, e2⟩
              · omega
            have hh : M_hit (L_at X) X.length t (C_F v2 ma 15) (C_F v2 ma 16) := by
              rcases p7 with ⟨g1, _⟩ | ⟨_, g2⟩
              · omega
              · exact g2
            have hyq : Y_Q fs t i [i, C_F v2 ma 15, C_F v2 ma 16, 1 + (L_cnt X (C_F v2 ma 15) : Int)] := ⟨X, hX.2.2, _, _, hh, by rw [X_lin_cnt, show (((C_F v2 ma 15).toNat : Nat) : Int) = C_F v2 ma 15 by omega]⟩
            obtain ⟨p53, pP⟩ := p5.fr wv2 r1 (fun e => by have := L_pr1 (L_pre_self [4]) e; omega)
            refine ih (i + 1) v3 h _ (O ++ [i]) (H ++ [[i, C_F v2 ma 15, C_F v2 ma 16, 1 + (L_cnt X (C_F v2 ma 15) : Int)]]) (by omega) (by omega) (by omega) hs ⟨frA.tr (r1.weak (fun _ h => .inl h)), p53, (pP 0).trans p6, ?_, by omega, by omega, iv7.hit i0 hyd hyq⟩
            rw [show n4 + ((O ++ [i]).length : Int) = n4 + O.length + 1 by rw [List.length_append, List.length_cons, List.length_nil]; push_cast; omega]
            rw [show ∀ y : List Int, (((H ++ [y]).length : Nat) : Int) = H.length + 1 from fun y => by rw [List.length_append, List.length_cons, List.length_nil]; push_cast; omega, List.flatten_append, show n5 + ((H.length : Int) + 1) = n5 + H.length + 1 by omega, show ∀ y : List Int, [y].flatten = y from fun y => by rw [List.flatten_cons, List.flatten_nil, List.append_nil]]
            exact r4
    · refine Z_go (f2 := (92, [(4, .int (Zi i)), (0, .ref g), (1, .int (Zi fo)), (2, .int (Zi len)), (3, .ref (P.2.1 2))], [.int (Zi i)])) (fun _ => rfl) ?_
      refine Z_go (f2 := (93, [(4, .int (Zi i)), (0, .ref g), (1, .int (Zi fo)), (2, .int (Zi len)), (3, .ref (P.2.1 2))], [.ref g, .int (Zi i)])) (fun _ => rfl) ?_
      refine C_gr rfl hs gk (by decide) (Nat.le_of_ble_eq_true rfl) rfl g2 ?_
      refine C_gi rfl hs hdu.1.1 (by decide) (Nat.le_of_ble_eq_true rfl) rfl ?_
      rw [show C_F (u) sh 3 = ca from (by first | exact hdu.1.2.2.2.2.2.2.2.1 | exact (if_neg (fun e => absurd e.1 (by assumption))).trans hdu.1.2.2.2.2.2.2.2.1 | exact (if_neg (fun e => absurd e.2 (by decide))).trans hdu.1.2.2.2.2.2.2.2.1 | exact (if_neg (fun e => absurd e.2 (by decide))).trans ((if_neg (fun e => absurd e.2 (by decide))).trans hdu.1.2.2.2.2.2.2.2.1) | exact (if_neg (fun e => absurd e.2 (by decide))).trans ((if_neg (fun e => absurd e.2 (by decide))).trans ((if_neg (fun e => absurd e.2 (by decide))).trans hdu.1.2.2.2.2.2.2.2.1)))]
      show B_R _ _ (99, [(4, .int (Zi i)), (0, .ref g), (1, .int (Zi fo)), (2, .int (Zi len)), (3, .ref (P.2.1 2))], [.int (Zi ca), .int (Zi i)]) _ _ _
      refine Z_cge rfl rfl (by first | exact hs.zF _ _ | exact Zor_r _ _ | exact hs.zA _ _ | assumption | exact zA _ _ | exact zS _ | exact Zr_not (hs.zA _ _) | exact hs.1.1 _ _ | exact ⟨by omega, by omega⟩) (by first | exact hs.zF _ _ | exact Zor_r _ _ | exact hs.zA _ _ | assumption | exact zA _ _ | exact zS _ | exact Zr_not (hs.zA _ _) | exact hs.1.1 _ _ | exact ⟨by omega, by omega⟩) (fun y1 => ?_) (fun y1 => ?_)
      · exfalso; omega
      · refine Z_go (f2 := (103, [(4, .int (Zi i)), (0, .ref g), (1, .int (Zi fo)), (2, .int (Zi len)), (3, .ref (P.2.1 2))], [.ref g])) (fun _ => rfl) ?_
        refine C_gr rfl hs gk (by decide) (Nat.le_of_ble_eq_true rfl) rfl g2 ?_
        refine Z_go (f2 := (108, [(4, .int (Zi i)), (0, .ref g), (1, .int (Zi fo)), (2, .int (Zi len)), (3, .ref (P.2.1 2))], [.int (Zi i), .ref sh])) (fun _ => rfl) ?_
        refine C_callVR (As := [.int (Zi i)]) (rest := []) rfl (by decide) rfl (by decide) rfl rfl (by decide +kernel) (Nat.le_of_ble_eq_true rfl) hs hdu.1.1 (C_find0 _ hdu hQ zi) (fun x q => ?_)
        obtain rfl := q
        show B_R _ _ (111, [(4, .int (Zi i)), (0, .ref g), (1, .int (Zi fo)), (2, .int (Zi len)), (3, .ref (P.2.1 2))], [.null]) _ _ _
        refine Z_go (f2 := (113, [(5, .null), (4, .int (Zi i)), (0, .ref g), (1, .int (Zi fo)), (2, .int (Zi len)), (3, .ref (P.2.1 2))], [])) (fun _ => rfl) ?_
        refine Z_go (f2 := (115, [(5, .null), (4, .int (Zi i)), (0, .ref g), (1, .int (Zi fo)), (2, .int (Zi len)), (3, .ref (P.2.1 2))], [.null])) (fun _ => rfl) ?_
        refine Z_go (f2 := (197, [(5, .null), (4, .int (Zi i)), (0, .ref g), (1, .int (Zi fo)), (2, .int (Zi len)), (3, .ref (P.2.1 2))], [])) (fun _ => rfl) ?_
        refine Z_iinc (L2 := [(4, .int (Zi (i + 1))), (5, .null), (0, .ref g), (1, .int (Zi fo)), (2, .int (Zi len)), (3, .ref (P.2.1 2))]) rfl rfl (by decide) rfl ?_
        refine Z_go (f2 := (90, [(4, .int (Zi (i + 1))), (5, .null), (0, .ref g), (1, .int (Zi fo)), (2, .int (Zi len)), (3, .ref (P.2.1 2))], [])) (fun _ => rfl) ?_
        refine B_loc (K := [(4, .int (Zi (i + 1))), (0, .ref g), (1, .int (Zi fo)), (2, .int (Zi len)), (3, .ref (P.2.1 2))]) (N_all_sub ⟨rfl, rfl, rfl, rfl, rfl, trivial⟩) (show ([4, 0, 1, 2, 3] : List Nat).Nodup by decide) ?_
        exact ih (i + 1) u h _ O H (by omega) (by omega) (by omega) hs ⟨iv1, iv2, iv3, iv4, by omega, iv6, iv7.no i0 (fun ⟨X, hX3, _⟩ => hX X ⟨i0, ic, hX3⟩)⟩
