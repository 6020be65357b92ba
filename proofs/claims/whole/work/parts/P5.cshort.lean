/-! the class: Planner: shorten -/
theorem g_sr_i {G : G_t} {a : Nat} {x y : List Int} : g_sr (g_sr G a x) a y = g_sr G a y := by
  unfold g_sr
  refine Prod.ext (funext fun k => ?_) rfl
  show g_up (g_up G.1 a x) a y k = g_up G.1 a y k
  unfold g_up
  by_cases c : k = a
  · rw [if_pos c, if_pos c]
  · rw [if_neg c, if_neg c, if_neg c]
theorem g_sr_c {G : G_t} {a b : Nat} {x y : List Int} (h : a ≠ b) : g_sr (g_sr G a x) b y = g_sr (g_sr G b y) a x := by
  unfold g_sr
  refine Prod.ext (funext fun k => ?_) rfl
  show g_up (g_up G.1 a x) b y k = g_up (g_up G.1 b y) a x k
  unfold g_up
  by_cases c : k = a
  · rw [if_pos c, if_neg (by omega), if_pos c]
  · rw [if_neg c, if_neg c]
theorem g_sr_n (G : G_t) (a : Nat) : g_sr G a (G.1 a) = G := by
  unfold g_sr
  refine Prod.ext (funext fun k => ?_) rfl
  show g_up G.1 a (G.1 a) k = G.1 k
  unfold g_up
  by_cases c : k = a
  · rw [if_pos c, c]
  · rw [if_neg c]
/-- room and places from state to state -/
def D_cs (pp : List Nat) (s u : C_S) (ω ω2 : Nat → Nat) (n : Nat) : Prop := n + 2 * Pl_w ω ≤ 2 * Pl_w ω2 ∧ 8 * C_n u + Pl_w ω ≤ 8 * C_n s + Pl_w ω2 ∧ C_fr (fun t => pp <+: t) s u
theorem D_cs.refl (pp : List Nat) (s : C_S) (ω : Nat → Nat) : D_cs pp s s ω ω 0 := ⟨by omega, by omega, C_fr.refl _ _⟩
theorem D_cs.tr {pp : List Nat} {s u v : C_S} {ω ω2 ω3 : Nat → Nat} {n k : Nat} (h : D_cs pp s u ω ω2 n) (g : D_cs pp u v ω2 ω3 k) : D_cs pp s v ω ω3 (n + k) := ⟨by have := h.1; have := g.1; omega, by have := h.2.1; have := g.2.1; omega, h.2.2.tr g.2.2⟩
section OP
variable {s : C_S} {pp : List Nat} {pl tr B : Nat} {G : G_t} {P : G_p} {ω : Nat → Nat} {xs : List Int} {xf : List (List Int)}
theorem o_at' (d : Nat) (h : D_Pl s pp pl tr B G P ω) {r : Nat} (hr : Pl_hr P r) (e : G.1 r = xs) {i : Int} (zi : Zr i) : C_rd (d + 1) 88 [.ref (P.1 r), .int (Zi i)] s (fun x => x = some (.int (Zi (L_at xs i)))) := by
  subst e; exact o_at d h hr zi
theorem o_holds' (d : Nat) (h : D_Pl s pp pl tr B G P ω) {r : Nat} (hr : Pl_hr P r) (e : G.1 r = xs) {v : Int} (so : L_srt xs) (zv : Zr v) : C_rd (d + 2) 92 [.ref (P.1 r), .int (Zi v)] s (fun x => ∃ z : Int, x = some (.int (Zi z)) ∧ (z = 1 ∧ v ∈ xs ∨ z = 0 ∧ v ∉ xs)) := by
  subst e; exact o_holds d h hr so zv
theorem o_push' (d : Nat) (h : D_Pl s pp pl tr B G P ω) {r : Nat} (hr : Pl_hr P r) (e : G.1 r = xs) (w : C_wf s) {v : Int} (zv : Zr v) (m1 : 2 * (xs.length + 1) ≤ B) (hB : B ≤ 20000) : C_ok (d + 3) 90 [.ref (P.1 r), .int (Zi v)] s (fun x s2 n => x = none ∧ D_ch pp pl tr B s P ω (g_sr G r (xs ++ [v])) s2 n) := by
  subst e; exact o_push d h hr w zv m1 hB
theorem o_insert' (d : Nat) (h : D_Pl s pp pl tr B G P ω) {r : Nat} (hr : Pl_hr P r) (e : G.1 r = xs) (w : C_wf s) {v : Int} (so : L_srt xs) (zv : Zr v) (m1 : 2 * (xs.length + 1) ≤ B) (hB : B ≤ 20000) : C_ok (d + 3) 91 [.ref (P.1 r), .int (Zi v)] s (fun x s2 n => x = none ∧ D_ch pp pl tr B s P ω (g_sr G r (L_ins v xs)) s2 n) := by
  subst e; exact o_insert d h hr w so zv m1 hB
theorem o_copy' (d : Nat) (h : D_Pl s pp pl tr B G P ω) {r r2 : Nat} (hr : Pl_hr P r) (hr2 : Pl_hr P r2) (e : G.1 r2 = xs) (ne : r ≠ r2) (w : C_wf s) (m1 : 2 * xs.length ≤ B) (hB : B ≤ 20000) : C_ok (d + 3) 93 [.ref (P.1 r), .ref (P.1 r2)] s (fun x s2 n => x = none ∧ D_ch pp pl tr B s P ω (g_sr G r xs) s2 n) := by
  subst e; exact o_copy d h hr hr2 ne w m1 hB
theorem D_Pl.rF' (h : D_Pl s pp pl tr B G P ω) {r : Nat} (hr : Pl_hr P r) (e : G.1 r = xs) : C_F s (P.1 r) 1 = xs.length := by
  subst e; exact h.rF hr
theorem D_Pl.fF' (h : D_Pl s pp pl tr B G P ω) {f : Nat} (hf : Pl_hf P f) (e : G.2.1 f = xf) : C_F s (P.2.1 f) 2 = xf.length := by
  subst e; exact h.fF hf
theorem D_Pl.tF' (h : D_Pl s pp pl tr B G P ω) {t : Nat} (ht : Pl_ht P t) (e : G.2.2.1 t = xf) : C_F s (P.2.2.1 t) 2 = xf.length := by
  subst e; exact h.tF ht
end OP
theorem K_one_r {b k : Int} (k0 : 0 ≤ k) (k1 : k < 66049) : 0 ≤ K_one b k ∧ K_one b k < 66049 := by
  unfold K_one K_sg
  split
  · omega
  · split
    · rw [if_pos rfl]; omega
    · rw [if_neg (by omega), if_pos rfl]; omega
def K_iv (b : Int) (ks : List Int) (i : Int) (kp sk : List Int) : Prop := L_srt kp ∧ (∀ x, x ∈ kp ↔ x ∈ ks.take i.toNat ∧ ¬ K_go b ks x) ∧ L_srt sk ∧ (∀ x, x ∈ sk ↔ ∃ k, k ∈ kp ∧ x = K_one b k) ∧ (kp.length : Int) ≤ i ∧ (sk.length : Int) ≤ i
theorem K_iv.nil {b : Int} {ks : List Int} : K_iv b ks 0 [] [] := ⟨trivial, fun x => ⟨fun e => absurd e List.not_mem_nil, fun e => absurd e.1 List.not_mem_nil⟩, trivial, fun x => ⟨fun e => absurd e List.not_mem_nil, fun ⟨k, e, _⟩ => absurd e List.not_mem_nil⟩, Int.le_refl _, Int.le_refl _⟩
theorem L_ins_lq (x : Int) : ∀ l : List Int, (L_ins x l).length ≤ l.length + 1
  | [] => Nat.le_refl _
  | y :: l => by
    have := L_ins_lq x l
    unfold L_ins
    split
    · exact Nat.le_refl _
    · split
      · omega
      · rw [List.length_cons, List.length_cons]; omega
theorem K_iv.skip {b : Int} {ks : List Int} {i : Int} {kp sk : List Int} (h : K_iv b ks i kp sk) (i0 : 0 ≤ i) (i1 : i < ks.length) (g : K_go b ks (L_at ks i)) : K_iv b ks (i + 1) kp sk := by
  obtain ⟨h1, h2, h3, h4, h5, h6⟩ := h
  refine ⟨h1, fun x => ?_, h3, h4, by omega, by omega⟩
  rw [h2, L_take_s i0 i1, List.mem_append, List.mem_singleton]
  constructor
  · rintro ⟨a, c⟩; exact ⟨.inl a, c⟩
  · rintro ⟨a | a, c⟩
    · exact ⟨a, c⟩
    · rw [a] at c; exact absurd g c
theorem L_srt_app {a : List Int} {x : Int} (h : L_srt a) (g : ∀ y ∈ a, y < x) : L_srt (a ++ [x]) := by
  induction a with
  | nil => exact ⟨fun y hy => absurd hy List.not_mem_nil, trivial⟩
  | cons z a ih =>
    refine ⟨fun y hy => ?_, ih h.2 (fun y hy => g y (List.mem_cons_of_mem _ hy))⟩
    rcases List.mem_append.mp hy with hy | hy
    · exact h.1 y hy
    · rw [List.mem_singleton.mp hy]; exact g z (List.mem_cons_self ..)
theorem L_srt_take : ∀ {ks : List Int} (_ : L_srt ks) {n : Nat} (_ : n < ks.length) {y : Int}, y ∈ ks.take n → y < ks.getD n (-1)
  | [], _, n, hn, y, _ => absurd hn (Nat.not_lt_zero _)
  | z :: ks, h, 0, _, y, hy => by rw [List.take_zero] at hy; exact absurd hy List.not_mem_nil
  | z :: ks, h, n + 1, hn, y, hy => by
    have hn : n + 1 < ks.length + 1 := hn
    rw [List.take_succ_cons] at hy
    show y < ks.getD n (-1)
    rcases List.mem_cons.mp hy with rfl | hy
    · refine h.1 _ ?_
      rw [List.getD_eq_getElem?_getD, List.getElem?_eq_getElem (show n < ks.length by omega)]
      exact List.getElem_mem _
    · exact L_srt_take h.2 (by omega) hy
theorem K_iv.keep {b : Int} {ks : List Int} {i : Int} {kp sk : List Int} (h : K_iv b ks i kp sk) (hs : L_srt ks) (i0 : 0 ≤ i) (i1 : i < ks.length) (g : ¬ K_go b ks (L_at ks i)) {one : Int} (eo : K_one b (L_at ks i) = one) : K_iv b ks (i + 1) (kp ++ [L_at ks i]) (L_ins one sk) := by
  obtain ⟨h1, h2, h3, h4, h5, h6⟩ := h
  subst eo
  have hl := L_ins_lq (K_one b (L_at ks i)) sk
  refine ⟨L_srt_app h1 (fun y hy => ?_), fun x => ?_, L_ins_srt h3, fun x => ?_, by rw [List.length_append]; show ((kp.length + 1 : Nat) : Int) ≤ _; omega, by omega⟩
  · have := L_srt_take hs (n := i.toNat) (by omega) ((h2 y).mp hy).1
    unfold L_at
    rw [if_pos i0]
    exact this
  · rw [List.mem_append, List.mem_singleton, h2, L_take_s i0 i1, List.mem_append, List.mem_singleton]
    constructor
    · rintro (⟨a, c⟩ | rfl)
      · exact ⟨.inl a, c⟩
      · exact ⟨.inr rfl, g⟩
    · rintro ⟨a | a, c⟩
      · exact .inl ⟨a, c⟩
      · exact .inr a
  · rw [L_ins_mem, h4]
    constructor
    · rintro (rfl | ⟨k, hk, rfl⟩)
      · exact ⟨_, List.mem_append_right _ (List.mem_singleton.mpr rfl), rfl⟩
      · exact ⟨k, List.mem_append_left _ hk, rfl⟩
    · rintro ⟨k, hk, rfl⟩
      rcases List.mem_append.mp hk with hk | hk
      · exact .inr ⟨k, hk, rfl⟩
      · rw [List.mem_singleton.mp hk]; exact .inl rfl
theorem C_short2 {d : Nat} {h0 : E_H} {s : C_S} {pp : List Nat} {pl tr B : Nat} {G : G_t} {P : G_p} {ω : Nat → Nat} {r : Nat} {b : Int} {ks : List Int} {S : P_X} (B0 : 1280 ≤ B) (B1 : B ≤ 20000) (hr : Pl_hr P r) (r4 : 4 ≤ r) (hb : b = 0 ∨ b = 1) (hks : G.1 2 = ks) (hS : K_is S ks) (hl : ks.length ≤ 200) : ∀ (u : C_S) (h : E_H) (sl : Nat) (ω2 : Nat → Nat) (kp sk : List Int), C_is h0 h u → D_Pl u pp pl tr B (g_sr (g_sr G r kp) 3 sk) P ω2 → D_cs pp s u ω ω2 sl → K_iv b ks ks.length kp sk → B_R (d + 3) E_m75 (141, [(0, .ref pl), (1, .ref (P.1 r)), (2, .int (Zi b))], []) h sl (fun x => ∃ s2 : C_S, C_is h0 x.2.1 s2 ∧ x.1 = none ∧ ∃ ys sk, K_is (E_bb b S) ys ∧ ys.length ≤ 12 ∧ D_ch pp pl tr B s P ω (g_sr (g_sr G r ys) 3 sk) s2 x.2.2) := by
  intro u h sl ω2 kp sk hs hp cs hiv
  obtain ⟨v1, v2, v3, v4, v5, v6⟩ := hiv
  rw [show ((ks.length : Int)).toNat = ks.length by omega, List.take_length] at v2
  have key := K_short hS v1 v2 v3 v4
  have fk := hp.rF' hr (xs := kp) (by simp only [g_sr, g_sf, g_st, g_se, g_su]; repeat (first | rw [g_up_s] | rw [g_up_o (by omega)]))
  have zk : Zr (kp.length : Int) := ⟨by omega, by omega⟩
  have zs : Zr (sk.length : Int) := ⟨by omega, by omega⟩
  refine Z_go (f2 := (142, [(0, .ref pl), (1, .ref (P.1 r)), (2, .int (Zi b))], [.ref (P.1 r)])) (fun _ => rfl) ?_
  refine C_gi rfl hs (hp.rK hr) (by decide) (Nat.le_of_ble_eq_true rfl) rfl ?_
  rw [show C_F (u) (P.1 r) 1 = (kp.length : Int) from (by first | exact fk | exact (if_neg (fun e => absurd e.1 (by assumption))).trans fk | exact (if_neg (fun e => absurd e.2 (by decide))).trans fk | exact (if_neg (fun e => absurd e.2 (by decide))).trans ((if_neg (fun e => absurd e.2 (by decide))).trans fk) | exact (if_neg (fun e => absurd e.2 (by decide))).trans ((if_neg (fun e => absurd e.2 (by decide))).trans ((if_neg (fun e => absurd e.2 (by decide))).trans fk)))]
  show B_R _ _ (145, [(0, .ref pl), (1, .ref (P.1 r)), (2, .int (Zi b))], [.int (Zi ((kp.length : Int)))]) _ _ _
  refine Z_go (f2 := (147, [(0, .ref pl), (1, .ref (P.1 r)), (2, .int (Zi b))], [.int (Zi 12), .int (Zi ((kp.length : Int)))])) (fun _ => rfl) ?_
  refine Z_cle rfl rfl (by first | exact hs.zF _ _ | exact Zor_r _ _ | exact hs.zA _ _ | assumption | exact zA _ _ | exact zS _ | exact Zr_not (hs.zA _ _) | exact hs.1.1 _ _ | exact ⟨by omega, by omega⟩) (by first | exact hs.zF _ _ | exact Zor_r _ _ | exact hs.zA _ _ | assumption | exact zA _ _ | exact zS _ | exact Zr_not (hs.zA _ _) | exact hs.1.1 _ _ | exact ⟨by omega, by omega⟩) (fun y1 => ?_) (fun y1 => ?_)
  · refine Z_go (f2 := (159, [(0, .ref pl), (1, .ref (P.1 r)), (2, .int (Zi b))], [.ref (P.1 r)])) (fun _ => rfl) ?_
    refine C_gi rfl hs (hp.rK hr) (by decide) (Nat.le_of_ble_eq_true rfl) rfl ?_
    rw [show C_F (u) (P.1 r) 1 = (kp.length : Int) from (by first | exact fk | exact (if_neg (fun e => absurd e.1 (by assumption))).trans fk | exact (if_neg (fun e => absurd e.2 (by decide))).trans fk | exact (if_neg (fun e => absurd e.2 (by decide))).trans ((if_neg (fun e => absurd e.2 (by decide))).trans fk) | exact (if_neg (fun e => absurd e.2 (by decide))).trans ((if_neg (fun e => absurd e.2 (by decide))).trans ((if_neg (fun e => absurd e.2 (by decide))).trans fk)))]
    show B_R _ _ (162, [(0, .ref pl), (1, .ref (P.1 r)), (2, .int (Zi b))], [.int (Zi ((kp.length : Int)))]) _ _ _
    refine Z_go (f2 := (164, [(0, .ref pl), (1, .ref (P.1 r)), (2, .int (Zi b))], [.int (Zi 12), .int (Zi ((kp.length : Int)))])) (fun _ => rfl) ?_
    refine Z_cle rfl rfl (by first | exact hs.zF _ _ | exact Zor_r _ _ | exact hs.zA _ _ | assumption | exact zA _ _ | exact zS _ | exact Zr_not (hs.zA _ _) | exact hs.1.1 _ _ | exact ⟨by omega, by omega⟩) (by first | exact hs.zF _ _ | exact Zor_r _ _ | exact hs.zA _ _ | assumption | exact zA _ _ | exact zS _ | exact Zr_not (hs.zA _ _) | exact hs.1.1 _ _ | exact ⟨by omega, by omega⟩) (fun y2 => ?_) (fun y2 => ?_)
    · refine Z_ret rfl rfl ?_
      try dsimp only
      rw [if_neg (by omega)] at key
      exact ⟨_, hs, rfl, kp, sk, key, by omega, _, hp, cs⟩
    · refine Z_go (f2 := (168, [(0, .ref pl), (1, .ref (P.1 r)), (2, .int (Zi b))], [.ref (P.1 r)])) (fun _ => rfl) ?_
      refine C_callV (As := []) (rest := []) rfl (by decide) rfl (by decide) rfl rfl (by decide +kernel) (Nat.le_of_ble_eq_true rfl) hs (hp.rK hr) (o_clear _ hp hr hs.1) (fun x h v81 n81 hs q => ?_)
      obtain ⟨rfl, ω4, hp, cq⟩ := q
      have cs := cs.tr cq
      rw [g_sr_c (by omega), g_sr_i] at hp
      show B_R _ _ (171, [(0, .ref pl), (1, .ref (P.1 r)), (2, .int (Zi b))], []) _ _ _
      refine Z_go (f2 := (172, [(0, .ref pl), (1, .ref (P.1 r)), (2, .int (Zi b))], [.ref (P.1 r)])) (fun _ => rfl) ?_
      refine Z_go (f2 := (173, [(0, .ref pl), (1, .ref (P.1 r)), (2, .int (Zi b))], [.int (Zi 0), .ref (P.1 r)])) (fun _ => rfl) ?_
      refine C_callV (As := [.int (Zi 0)]) (rest := []) rfl (by decide) rfl (by decide) rfl rfl (by decide +kernel) (Nat.le_of_ble_eq_true rfl) hs (hp.rK hr) (o_push' _ hp hr (xs := []) (by simp only [g_sr, g_sf, g_st, g_se, g_su]; repeat (first | rw [g_up_s] | rw [g_up_o (by omega)])) hs.1 (v := 0) ⟨by omega, by omega⟩ (by show 2 * (0 + 1) ≤ B; omega) B1) (fun x h v82 n82 hs q => ?_)
      obtain ⟨rfl, ω5, hp, cq⟩ := q
      have cs := cs.tr cq
      rw [g_sr_c (by omega), g_sr_i] at hp
      show B_R _ _ (176, [(0, .ref pl), (1, .ref (P.1 r)), (2, .int (Zi b))], []) _ _ _
      refine Z_ret rfl rfl ?_
      try dsimp only
      rw [if_pos (by omega), if_pos (by omega)] at key
      exact ⟨_, hs, rfl, [0], sk, key, by show 1 ≤ 12; omega, _, hp, cs⟩
  · refine Z_go (f2 := (151, [(0, .ref pl), (1, .ref (P.1 r)), (2, .int (Zi b))], [.ref (P.1 r)])) (fun _ => rfl) ?_
    refine Z_go (f2 := (152, [(0, .ref pl), (1, .ref (P.1 r)), (2, .int (Zi b))], [.ref pl, .ref (P.1 r)])) (fun _ => rfl) ?_
    refine C_gr rfl hs hp.1.1.1 (by decide) (Nat.le_of_ble_eq_true rfl) rfl hp.1.1.2.2.2.2.2.2.2.2.2.1 ?_
    refine C_callV (As := [.ref (P.1 3)]) (rest := []) rfl (by decide) rfl (by decide) rfl rfl (by decide +kernel) (Nat.le_of_ble_eq_true rfl) hs (hp.rK hr) (o_copy' _ hp hr (r2 := 3) (.inl (by omega)) (xs := sk) (by simp only [g_sr, g_sf, g_st, g_se, g_su]; repeat (first | rw [g_up_s] | rw [g_up_o (by omega)])) (by omega) hs.1 (by omega) B1) (fun x h v1_ n1 hs q => ?_)
    obtain ⟨rfl, ω3, hp, cq⟩ := q
    have cs := cs.tr cq
    rw [g_sr_c (by omega), g_sr_i] at hp
    have fk := hp.rF' hr (xs := sk) (by simp only [g_sr, g_sf, g_st, g_se, g_su]; repeat (first | rw [g_up_s] | rw [g_up_o (by omega)]))
    show B_R _ _ (158, [(0, .ref pl), (1, .ref (P.1 r)), (2, .int (Zi b))], []) _ _ _
    refine Z_go (f2 := (159, [(0, .ref pl), (1, .ref (P.1 r)), (2, .int (Zi b))], [.ref (P.1 r)])) (fun _ => rfl) ?_
    refine C_gi rfl hs (hp.rK hr) (by decide) (Nat.le_of_ble_eq_true rfl) rfl ?_
    rw [show C_F (v1_) (P.1 r) 1 = (sk.length : Int) from (by first | exact fk | exact (if_neg (fun e => absurd e.1 (by assumption))).trans fk | exact (if_neg (fun e => absurd e.2 (by decide))).trans fk | exact (if_neg (fun e => absurd e.2 (by decide))).trans ((if_neg (fun e => absurd e.2 (by decide))).trans fk) | exact (if_neg (fun e => absurd e.2 (by decide))).trans ((if_neg (fun e => absurd e.2 (by decide))).trans ((if_neg (fun e => absurd e.2 (by decide))).trans fk)))]
    show B_R _ _ (162, [(0, .ref pl), (1, .ref (P.1 r)), (2, .int (Zi b))], [.int (Zi ((sk.length : Int)))]) _ _ _
    refine Z_go (f2 := (164, [(0, .ref pl), (1, .ref (P.1 r)), (2, .int (Zi b))], [.int (Zi 12), .int (Zi ((sk.length : Int)))])) (fun _ => rfl) ?_
    refine Z_cle rfl rfl (by first | exact hs.zF _ _ | exact Zor_r _ _ | exact hs.zA _ _ | assumption | exact zA _ _ | exact zS _ | exact Zr_not (hs.zA _ _) | exact hs.1.1 _ _ | exact ⟨by omega, by omega⟩) (by first | exact hs.zF _ _ | exact Zor_r _ _ | exact hs.zA _ _ | assumption | exact zA _ _ | exact zS _ | exact Zr_not (hs.zA _ _) | exact hs.1.1 _ _ | exact ⟨by omega, by omega⟩) (fun y3 => ?_) (fun y3 => ?_)
    · refine Z_ret rfl rfl ?_
      try dsimp only
      rw [if_pos (by omega), if_neg (by omega)] at key
      exact ⟨_, hs, rfl, sk, sk, key, by omega, _, hp, cs⟩
    · refine Z_go (f2 := (168, [(0, .ref pl), (1, .ref (P.1 r)), (2, .int (Zi b))], [.ref (P.1 r)])) (fun _ => rfl) ?_
      refine C_callV (As := []) (rest := []) rfl (by decide) rfl (by decide) rfl rfl (by decide +kernel) (Nat.le_of_ble_eq_true rfl) hs (hp.rK hr) (o_clear _ hp hr hs.1) (fun x h v83 n83 hs q => ?_)
      obtain ⟨rfl, ω4, hp, cq⟩ := q
      have cs := cs.tr cq
      rw [g_sr_c (by omega), g_sr_i] at hp
      show B_R _ _ (171, [(0, .ref pl), (1, .ref (P.1 r)), (2, .int (Zi b))], []) _ _ _
      refine Z_go (f2 := (172, [(0, .ref pl), (1, .ref (P.1 r)), (2, .int (Zi b))], [.ref (P.1 r)])) (fun _ => rfl) ?_
      refine Z_go (f2 := (173, [(0, .ref pl), (1, .ref (P.1 r)), (2, .int (Zi b))], [.int (Zi 0), .ref (P.1 r)])) (fun _ => rfl) ?_
      refine C_callV (As := [.int (Zi 0)]) (rest := []) rfl (by decide) rfl (by decide) rfl rfl (by decide +kernel) (Nat.le_of_ble_eq_true rfl) hs (hp.rK hr) (o_push' _ hp hr (xs := []) (by simp only [g_sr, g_sf, g_st, g_se, g_su]; repeat (first | rw [g_up_s] | rw [g_up_o (by omega)])) hs.1 (v := 0) ⟨by omega, by omega⟩ (by show 2 * (0 + 1) ≤ B; omega) B1) (fun x h v84 n84 hs q => ?_)
      obtain ⟨rfl, ω5, hp, cq⟩ := q
      have cs := cs.tr cq
      rw [g_sr_c (by omega), g_sr_i] at hp
      show B_R _ _ (176, [(0, .ref pl), (1, .ref (P.1 r)), (2, .int (Zi b))], []) _ _ _
      refine Z_ret rfl rfl ?_
      try dsimp only
      rw [if_pos (by omega), if_pos (by omega)] at key
      exact ⟨_, hs, rfl, [0], sk, key, by show 1 ≤ 12; omega, _, hp, cs⟩
theorem C_short1 {d : Nat} {h0 : E_H} {s : C_S} {pp : List Nat} {pl tr B : Nat} {G : G_t} {P : G_p} {ω : Nat → Nat} {r : Nat} {b : Int} {ks : List Int} {S : P_X} (B0 : 1280 ≤ B) (B1 : B ≤ 20000) (hr : Pl_hr P r) (r4 : 4 ≤ r) (hb : b = 0 ∨ b = 1) (hks : G.1 2 = ks) (hS : K_is S ks) (hl : ks.length ≤ 200) : ∀ (t : Nat) (i : Int) (u : C_S) (h : E_H) (sl : Nat) (ω2 : Nat → Nat) (kp sk : List Int), (ks.length : Int) + 1 - i < t → 0 ≤ i → i ≤ ks.length → C_is h0 h u → D_Pl u pp pl tr B (g_sr (g_sr G r kp) 3 sk) P ω2 → D_cs pp s u ω ω2 sl → K_iv b ks i kp sk → B_R (d + 3) E_m75 (13, [(3, .int (Zi i)), (0, .ref pl), (1, .ref (P.1 r)), (2, .int (Zi b))], []) h sl (fun x => ∃ s2 : C_S, C_is h0 x.2.1 s2 ∧ x.1 = none ∧ ∃ ys sk, K_is (E_bb b S) ys ∧ ys.length ≤ 12 ∧ D_ch pp pl tr B s P ω (g_sr (g_sr G r ys) 3 sk) s2 x.2.2) := by
  intro t
  induction t with
  | zero => intro i u h sl ω2 kp sk ht i0 i1 hs hp cs hiv; omega
  | succ t ih =>
    intro i u h sl ω2 kp sk ht i0 i1 hs hp cs hiv
    have hk2 : (g_sr (g_sr G r kp) 3 sk).1 2 = ks := by
      show g_up (g_up G.1 r kp) 3 sk 2 = ks
      rw [g_up_o (by omega), g_up_o (by omega)]; exact hks
    have fk := hp.rF' (r := 2) (.inl (by omega)) hk2
    have zi : Zr i := ⟨by omega, by omega⟩
    have zb : Zr b := ⟨by omega, by omega⟩
    have zl : Zr (ks.length : Int) := ⟨by omega, by omega⟩
    have hivc := hiv
    obtain ⟨v1, v2, v3, v4, v5, v6⟩ := hivc
    refine Z_go (f2 := (14, [(3, .int (Zi i)), (0, .ref pl), (1, .ref (P.1 r)), (2, .int (Zi b))], [.int (Zi i)])) (fun _ => rfl) ?_
    refine Z_go (f2 := (15, [(3, .int (Zi i)), (0, .ref pl), (1, .ref (P.1 r)), (2, .int (Zi b))], [.ref pl, .int (Zi i)])) (fun _ => rfl) ?_
    refine C_gr rfl hs hp.1.1.1 (by decide) (Nat.le_of_ble_eq_true rfl) rfl hp.1.1.2.2.2.2.2.2.2.2.1 ?_
    refine C_gi rfl hs (hp.rK (.inl (by omega))) (by decide) (Nat.le_of_ble_eq_true rfl) rfl ?_
    rw [show C_F (u) (P.1 2) 1 = (ks.length : Int) from (by first | exact fk | exact (if_neg (fun e => absurd e.1 (by assumption))).trans fk | exact (if_neg (fun e => absurd e.2 (by decide))).trans fk | exact (if_neg (fun e => absurd e.2 (by decide))).trans ((if_neg (fun e => absurd e.2 (by decide))).trans fk) | exact (if_neg (fun e => absurd e.2 (by decide))).trans ((if_neg (fun e => absurd e.2 (by decide))).trans ((if_neg (fun e => absurd e.2 (by decide))).trans fk)))]
    show B_R _ _ (21, [(3, .int (Zi i)), (0, .ref pl), (1, .ref (P.1 r)), (2, .int (Zi b))], [.int (Zi ((ks.length : Int))), .int (Zi i)]) _ _ _
    refine Z_cge rfl rfl (by first | exact hs.zF _ _ | exact Zor_r _ _ | exact hs.zA _ _ | assumption | exact zA _ _ | exact zS _ | exact Zr_not (hs.zA _ _) | exact hs.1.1 _ _ | exact ⟨by omega, by omega⟩) (by first | exact hs.zF _ _ | exact Zor_r _ _ | exact hs.zA _ _ | assumption | exact zA _ _ | exact zS _ | exact Zr_not (hs.zA _ _) | exact hs.1.1 _ _ | exact ⟨by omega, by omega⟩) (fun y1 => ?_) (fun y1 => ?_)
    · refine B_loc (K := [(0, .ref pl), (1, .ref (P.1 r)), (2, .int (Zi b))]) (N_all_sub ⟨rfl, rfl, rfl, trivial⟩) (show ([0, 1, 2] : List Nat).Nodup by decide) ?_
      obtain rfl : i = ks.length := by omega
      exact C_short2 B0 B1 hr r4 hb hks hS hl u h sl ω2 kp sk hs hp cs hiv
    · refine Z_go (f2 := (25, [(3, .int (Zi i)), (0, .ref pl), (1, .ref (P.1 r)), (2, .int (Zi b))], [.ref pl])) (fun _ => rfl) ?_
      refine C_gr rfl hs hp.1.1.1 (by decide) (Nat.le_of_ble_eq_true rfl) rfl hp.1.1.2.2.2.2.2.2.2.2.1 ?_
      refine Z_go (f2 := (29, [(3, .int (Zi i)), (0, .ref pl), (1, .ref (P.1 r)), (2, .int (Zi b))], [.int (Zi i), .ref (P.1 2)])) (fun _ => rfl) ?_
      refine C_callVR (As := [.int (Zi i)]) (rest := []) rfl (by decide) rfl (by decide) rfl rfl (by decide +kernel) (Nat.le_of_ble_eq_true rfl) hs (hp.rK (.inl (by omega))) (o_at' _ hp (r := 2) (.inl (by omega)) hk2 (i := i) zi) (fun x q => ?_)
      obtain rfl := q
      obtain ⟨kk, ekk⟩ : ∃ kk, kk = L_at ks i := ⟨_, rfl⟩
      rw [← ekk]
      have hkm : kk ∈ ks := by rw [ekk]; exact L_at_mem.mpr ⟨i, i0, by omega, rfl⟩
      have hkr : 0 ≤ kk ∧ kk < 66049 := by obtain ⟨t_, ht_, rfl⟩ := (hS.2.1 kk).mp hkm; exact K_ky_r (hS.2.2 t_ ht_)
      obtain ⟨kr0, kr1⟩ := hkr
      have zkk : Zr kk := ⟨by omega, by omega⟩
      show B_R _ _ (32, [(3, .int (Zi i)), (0, .ref pl), (1, .ref (P.1 r)), (2, .int (Zi b))], [.int (Zi kk)]) _ _ _
      refine Z_go (f2 := (34, [(4, .int (Zi kk)), (3, .int (Zi i)), (0, .ref pl), (1, .ref (P.1 r)), (2, .int (Zi b))], [])) (fun _ => rfl) ?_
      refine Z_go (f2 := (36, [(4, .int (Zi kk)), (3, .int (Zi i)), (0, .ref pl), (1, .ref (P.1 r)), (2, .int (Zi b))], [.int (Zi kk)])) (fun _ => rfl) ?_
      refine Z_go (f2 := (39, [(4, .int (Zi kk)), (3, .int (Zi i)), (0, .ref pl), (1, .ref (P.1 r)), (2, .int (Zi b))], [.int (Zi 257), .int (Zi kk)])) (fun _ => rfl) ?_
      refine Z_irem rfl (by omega) (by omega) (by omega) (by omega) ?_
      refine Z_ine rfl rfl (by first | exact hs.zF _ _ | exact Zor_r _ _ | exact hs.zA _ _ | assumption | exact zA _ _ | exact zS _ | exact Zr_not (hs.zA _ _) | exact hs.1.1 _ _ | exact ⟨by omega, by omega⟩) (fun y2 => ?_) (fun y2 => ?_)
      · refine Z_go (f2 := (49, [(4, .int (Zi kk)), (3, .int (Zi i)), (0, .ref pl), (1, .ref (P.1 r)), (2, .int (Zi b))], [.int (Zi b)])) (fun _ => rfl) ?_
        refine Z_ieq rfl rfl (by first | exact hs.zF _ _ | exact Zor_r _ _ | exact hs.zA _ _ | assumption | exact zA _ _ | exact zS _ | exact Zr_not (hs.zA _ _) | exact hs.1.1 _ _ | exact ⟨by omega, by omega⟩) (fun y3 => ?_) (fun y3 => ?_)
        · refine Z_go (f2 := (63, [(4, .int (Zi kk)), (3, .int (Zi i)), (0, .ref pl), (1, .ref (P.1 r)), (2, .int (Zi b))], [.int (Zi kk)])) (fun _ => rfl) ?_
          refine Z_go (f2 := (64, [(4, .int (Zi kk)), (3, .int (Zi i)), (0, .ref pl), (1, .ref (P.1 r)), (2, .int (Zi b))], [.int (Zi 0), .int (Zi kk)])) (fun _ => rfl) ?_
          refine Z_callQ (vs := [.int (Zi kk), .int (Zi 0)]) (rest := []) rfl (by decide) rfl rfl rfl (Nat.le_of_ble_eq_true rfl) (C_keySign _ (a := kk) (k := 0) zkk ⟨by omega, by omega⟩ kr0 (by omega)) (fun x q => ?_)
          obtain rfl := q
          have zsg : Zr (K_sg kk 0) := by unfold K_sg; split; exact ⟨by omega, by omega⟩; split; exact ⟨by omega, by omega⟩; exact ⟨by omega, by omega⟩
          show B_R _ _ (67, [(4, .int (Zi kk)), (3, .int (Zi i)), (0, .ref pl), (1, .ref (P.1 r)), (2, .int (Zi b))], [.int (Zi (K_sg kk 0))]) _ _ _
          refine Z_go (f2 := (68, [(4, .int (Zi kk)), (3, .int (Zi i)), (0, .ref pl), (1, .ref (P.1 r)), (2, .int (Zi b))], [.int (Zi (-1)), .int (Zi (K_sg kk 0))])) (fun _ => rfl) ?_
          refine Z_callQ (vs := [.int (Zi (K_sg kk 0)), .int (Zi (-1))]) (rest := []) rfl (by decide) rfl rfl rfl (Nat.le_of_ble_eq_true rfl) (C_keyOf _ (a := K_sg kk 0) (b := -1) zsg ⟨by omega, by omega⟩) (fun x q => ?_)
          obtain rfl := q
          show B_R _ _ (71, [(4, .int (Zi kk)), (3, .int (Zi i)), (0, .ref pl), (1, .ref (P.1 r)), (2, .int (Zi b))], [.int (Zi ((K_sg kk 0 + 1) * 257 + -1 + 1))]) _ _ _
          have hone : K_one b kk = (K_sg kk 0 + 1) * 257 + -1 + 1 := by unfold K_one; first | rw [if_pos (by omega)] | (rw [if_neg (by omega), if_pos (by omega)]; omega) | (rw [if_neg (by omega), if_neg (by omega)]; omega)
          have zone : Zr ((K_sg kk 0 + 1) * 257 + -1 + 1) := by rw [← hone]; have := K_one_r (b := b) kr0 kr1; exact ⟨by omega, by omega⟩
          refine Z_go (f2 := (73, [(5, .int (Zi ((K_sg kk 0 + 1) * 257 + -1 + 1))), (4, .int (Zi kk)), (3, .int (Zi i)), (0, .ref pl), (1, .ref (P.1 r)), (2, .int (Zi b))], [])) (fun _ => rfl) ?_
          refine Z_go (f2 := (75, [(5, .int (Zi ((K_sg kk 0 + 1) * 257 + -1 + 1))), (4, .int (Zi kk)), (3, .int (Zi i)), (0, .ref pl), (1, .ref (P.1 r)), (2, .int (Zi b))], [.int (Zi kk)])) (fun _ => rfl) ?_
          refine Z_ieq rfl rfl (by first | exact hs.zF _ _ | exact Zor_r _ _ | exact hs.zA _ _ | assumption | exact zA _ _ | exact zS _ | exact Zr_not (hs.zA _ _) | exact hs.1.1 _ _ | exact ⟨by omega, by omega⟩) (fun y4 => ?_) (fun y4 => ?_)
          · refine Z_go (f2 := (91, [(5, .int (Zi ((K_sg kk 0 + 1) * 257 + -1 + 1))), (4, .int (Zi kk)), (3, .int (Zi i)), (0, .ref pl), (1, .ref (P.1 r)), (2, .int (Zi b))], [.int (Zi kk)])) (fun _ => rfl) ?_
            refine Z_go (f2 := (93, [(5, .int (Zi ((K_sg kk 0 + 1) * 257 + -1 + 1))), (4, .int (Zi kk)), (3, .int (Zi i)), (0, .ref pl), (1, .ref (P.1 r)), (2, .int (Zi b))], [.int (Zi ((K_sg kk 0 + 1) * 257 + -1 + 1)), .int (Zi kk)])) (fun _ => rfl) ?_
            refine Z_ceq rfl rfl (by first | exact hs.zF _ _ | exact Zor_r _ _ | exact hs.zA _ _ | assumption | exact zA _ _ | exact zS _ | exact Zr_not (hs.zA _ _) | exact hs.1.1 _ _ | exact ⟨by omega, by omega⟩) (by first | exact hs.zF _ _ | exact Zor_r _ _ | exact hs.zA _ _ | assumption | exact zA _ _ | exact zS _ | exact Zr_not (hs.zA _ _) | exact hs.1.1 _ _ | exact ⟨by omega, by omega⟩) (fun y5 => ?_) (fun y5 => ?_)
            · refine Z_go (f2 := (113, [(5, .int (Zi ((K_sg kk 0 + 1) * 257 + -1 + 1))), (4, .int (Zi kk)), (3, .int (Zi i)), (0, .ref pl), (1, .ref (P.1 r)), (2, .int (Zi b))], [.int (Zi 0)])) (fun _ => rfl) ?_
              refine Z_go (f2 := (115, [(6, .int (Zi 0)), (5, .int (Zi ((K_sg kk 0 + 1) * 257 + -1 + 1))), (4, .int (Zi kk)), (3, .int (Zi i)), (0, .ref pl), (1, .ref (P.1 r)), (2, .int (Zi b))], [])) (fun _ => rfl) ?_
              refine Z_go (f2 := (117, [(6, .int (Zi 0)), (5, .int (Zi ((K_sg kk 0 + 1) * 257 + -1 + 1))), (4, .int (Zi kk)), (3, .int (Zi i)), (0, .ref pl), (1, .ref (P.1 r)), (2, .int (Zi b))], [.int (Zi 0)])) (fun _ => rfl) ?_
              refine Z_ine rfl rfl (by first | exact hs.zF _ _ | exact Zor_r _ _ | exact hs.zA _ _ | assumption | exact zA _ _ | exact zS _ | exact Zr_not (hs.zA _ _) | exact hs.1.1 _ _ | exact ⟨by omega, by omega⟩) (fun y6 => ?_) (fun y6 => ?_)
              · exfalso; omega
              · refine Z_go (f2 := (121, [(6, .int (Zi 0)), (5, .int (Zi ((K_sg kk 0 + 1) * 257 + -1 + 1))), (4, .int (Zi kk)), (3, .int (Zi i)), (0, .ref pl), (1, .ref (P.1 r)), (2, .int (Zi b))], [.ref (P.1 r)])) (fun _ => rfl) ?_
                refine Z_go (f2 := (123, [(6, .int (Zi 0)), (5, .int (Zi ((K_sg kk 0 + 1) * 257 + -1 + 1))), (4, .int (Zi kk)), (3, .int (Zi i)), (0, .ref pl), (1, .ref (P.1 r)), (2, .int (Zi b))], [.int (Zi kk), .ref (P.1 r)])) (fun _ => rfl) ?_
                refine C_callV (As := [.int (Zi kk)]) (rest := []) rfl (by decide) rfl (by decide) rfl rfl (by decide +kernel) (Nat.le_of_ble_eq_true rfl) hs (hp.rK hr) (o_push' _ hp hr (xs := kp) (by simp only [g_sr, g_sf, g_st, g_se, g_su]; repeat (first | rw [g_up_s] | rw [g_up_o (by omega)])) hs.1 (v := kk) zkk (by omega) B1) (fun x h w1 n1 hs q => ?_)
                obtain ⟨rfl, ω3, hp, cq⟩ := q
                have cs := cs.tr cq
                rw [g_sr_c (by omega), g_sr_i] at hp
                show B_R _ _ (126, [(6, .int (Zi 0)), (5, .int (Zi ((K_sg kk 0 + 1) * 257 + -1 + 1))), (4, .int (Zi kk)), (3, .int (Zi i)), (0, .ref pl), (1, .ref (P.1 r)), (2, .int (Zi b))], []) _ _ _
                refine Z_go (f2 := (127, [(6, .int (Zi 0)), (5, .int (Zi ((K_sg kk 0 + 1) * 257 + -1 + 1))), (4, .int (Zi kk)), (3, .int (Zi i)), (0, .ref pl), (1, .ref (P.1 r)), (2, .int (Zi b))], [.ref pl])) (fun _ => rfl) ?_
                refine C_gr rfl hs hp.1.1.1 (by decide) (Nat.le_of_ble_eq_true rfl) rfl hp.1.1.2.2.2.2.2.2.2.2.2.1 ?_
                refine Z_go (f2 := (132, [(6, .int (Zi 0)), (5, .int (Zi ((K_sg kk 0 + 1) * 257 + -1 + 1))), (4, .int (Zi kk)), (3, .int (Zi i)), (0, .ref pl), (1, .ref (P.1 r)), (2, .int (Zi b))], [.int (Zi ((K_sg kk 0 + 1) * 257 + -1 + 1)), .ref (P.1 3)])) (fun _ => rfl) ?_
                refine C_callV (As := [.int (Zi ((K_sg kk 0 + 1) * 257 + -1 + 1))]) (rest := []) rfl (by decide) rfl (by decide) rfl rfl (by decide +kernel) (Nat.le_of_ble_eq_true rfl) hs (hp.rK (.inl (by omega))) (o_insert' _ hp (r := 3) (.inl (by omega)) (xs := sk) (by simp only [g_sr, g_sf, g_st, g_se, g_su]; repeat (first | rw [g_up_s] | rw [g_up_o (by omega)])) hs.1 (v := (K_sg kk 0 + 1) * 257 + -1 + 1) v3 zone (by omega) B1) (fun x h w2 n2 hs q => ?_)
                obtain ⟨rfl, ω4, hp, cq⟩ := q
                have cs := cs.tr cq
                rw [g_sr_i] at hp
                show B_R _ _ (135, [(6, .int (Zi 0)), (5, .int (Zi ((K_sg kk 0 + 1) * 257 + -1 + 1))), (4, .int (Zi kk)), (3, .int (Zi i)), (0, .ref pl), (1, .ref (P.1 r)), (2, .int (Zi b))], []) _ _ _
                refine Z_iinc (L2 := [(3, .int (Zi (i + 1))), (6, .int (Zi 0)), (5, .int (Zi ((K_sg kk 0 + 1) * 257 + -1 + 1))), (4, .int (Zi kk)), (0, .ref pl), (1, .ref (P.1 r)), (2, .int (Zi b))]) rfl rfl (by decide) rfl ?_
                refine C_goto (p2 := 13) rfl (by decide +kernel) (by decide +kernel) ?_
                refine B_loc (K := [(3, .int (Zi (i + 1))), (0, .ref pl), (1, .ref (P.1 r)), (2, .int (Zi b))]) (N_all_sub ⟨rfl, rfl, rfl, rfl, trivial⟩) (show ([3, 0, 1, 2] : List Nat).Nodup by decide) ?_
                have hng : ¬ K_go b ks kk := by
                  unfold K_go
                  rw [hone]
                  rintro (⟨a1, a2⟩ | ⟨a1, a2⟩)
                  · first | exact absurd a2 (hA2 (by omega)) | omega
                  · first | exact absurd a2 (hB2 (by omega)) | omega
                have hiv2 := hiv.keep (one := (K_sg kk 0 + 1) * 257 + -1 + 1) hS.1 i0 (by omega) (by rw [← ekk]; exact hng) (by rw [← ekk]; exact hone)
                rw [← ekk] at hiv2
                exact ih _ _ h _ _ _ _ (by omega) (by omega) (by omega) hs hp cs hiv2
            · refine Z_go (f2 := (97, [(5, .int (Zi ((K_sg kk 0 + 1) * 257 + -1 + 1))), (4, .int (Zi kk)), (3, .int (Zi i)), (0, .ref pl), (1, .ref (P.1 r)), (2, .int (Zi b))], [.ref pl])) (fun _ => rfl) ?_
              refine C_gr rfl hs hp.1.1.1 (by decide) (Nat.le_of_ble_eq_true rfl) rfl hp.1.1.2.2.2.2.2.2.2.2.1 ?_
              refine Z_go (f2 := (102, [(5, .int (Zi ((K_sg kk 0 + 1) * 257 + -1 + 1))), (4, .int (Zi kk)), (3, .int (Zi i)), (0, .ref pl), (1, .ref (P.1 r)), (2, .int (Zi b))], [.int (Zi ((K_sg kk 0 + 1) * 257 + -1 + 1)), .ref (P.1 2)])) (fun _ => rfl) ?_
              refine C_callVR (As := [.int (Zi ((K_sg kk 0 + 1) * 257 + -1 + 1))]) (rest := []) rfl (by decide) rfl (by decide) rfl rfl (by decide +kernel) (Nat.le_of_ble_eq_true rfl) hs (hp.rK (.inl (by omega))) (o_holds' _ hp (r := 2) (.inl (by omega)) hk2 (v := (K_sg kk 0 + 1) * 257 + -1 + 1) hS.1 zone) (fun x q => ?_)
              obtain ⟨z85, rfl, hz85⟩ := q
              have zz85 : Zr z85 := by rcases hz85 with ⟨e, _⟩ | ⟨e, _⟩ <;> exact ⟨by omega, by omega⟩
              have hB1 : z85 ≠ 0 → (K_sg kk 0 + 1) * 257 + -1 + 1 ∈ ks := fun c => by rcases hz85 with ⟨_, e⟩ | ⟨e, _⟩; exact e; omega
              have hB2 : z85 = 0 → (K_sg kk 0 + 1) * 257 + -1 + 1 ∉ ks := fun c => by rcases hz85 with ⟨e, _⟩ | ⟨_, e⟩; omega; exact e
              show B_R _ _ (105, [(5, .int (Zi ((K_sg kk 0 + 1) * 257 + -1 + 1))), (4, .int (Zi kk)), (3, .int (Zi i)), (0, .ref pl), (1, .ref (P.1 r)), (2, .int (Zi b))], [.int (Zi z85)]) _ _ _
              refine Z_ieq rfl rfl (by first | exact hs.zF _ _ | exact Zor_r _ _ | exact hs.zA _ _ | assumption | exact zA _ _ | exact zS _ | exact Zr_not (hs.zA _ _) | exact hs.1.1 _ _ | exact ⟨by omega, by omega⟩) (fun y7 => ?_) (fun y7 => ?_)
              · refine Z_go (f2 := (113, [(5, .int (Zi ((K_sg kk 0 + 1) * 257 + -1 + 1))), (4, .int (Zi kk)), (3, .int (Zi i)), (0, .ref pl), (1, .ref (P.1 r)), (2, .int (Zi b))], [.int (Zi 0)])) (fun _ => rfl) ?_
                refine Z_go (f2 := (115, [(6, .int (Zi 0)), (5, .int (Zi ((K_sg kk 0 + 1) * 257 + -1 + 1))), (4, .int (Zi kk)), (3, .int (Zi i)), (0, .ref pl), (1, .ref (P.1 r)), (2, .int (Zi b))], [])) (fun _ => rfl) ?_
                refine Z_go (f2 := (117, [(6, .int (Zi 0)), (5, .int (Zi ((K_sg kk 0 + 1) * 257 + -1 + 1))), (4, .int (Zi kk)), (3, .int (Zi i)), (0, .ref pl), (1, .ref (P.1 r)), (2, .int (Zi b))], [.int (Zi 0)])) (fun _ => rfl) ?_
                refine Z_ine rfl rfl (by first | exact hs.zF _ _ | exact Zor_r _ _ | exact hs.zA _ _ | assumption | exact zA _ _ | exact zS _ | exact Zr_not (hs.zA _ _) | exact hs.1.1 _ _ | exact ⟨by omega, by omega⟩) (fun y8 => ?_) (fun y8 => ?_)
                · exfalso; omega
                · refine Z_go (f2 := (121, [(6, .int (Zi 0)), (5, .int (Zi ((K_sg kk 0 + 1) * 257 + -1 + 1))), (4, .int (Zi kk)), (3, .int (Zi i)), (0, .ref pl), (1, .ref (P.1 r)), (2, .int (Zi b))], [.ref (P.1 r)])) (fun _ => rfl) ?_
                  refine Z_go (f2 := (123, [(6, .int (Zi 0)), (5, .int (Zi ((K_sg kk 0 + 1) * 257 + -1 + 1))), (4, .int (Zi kk)), (3, .int (Zi i)), (0, .ref pl), (1, .ref (P.1 r)), (2, .int (Zi b))], [.int (Zi kk), .ref (P.1 r)])) (fun _ => rfl) ?_
                  refine C_callV (As := [.int (Zi kk)]) (rest := []) rfl (by decide) rfl (by decide) rfl rfl (by decide +kernel) (Nat.le_of_ble_eq_true rfl) hs (hp.rK hr) (o_push' _ hp hr (xs := kp) (by simp only [g_sr, g_sf, g_st, g_se, g_su]; repeat (first | rw [g_up_s] | rw [g_up_o (by omega)])) hs.1 (v := kk) zkk (by omega) B1) (fun x h w1 n1 hs q => ?_)
                  obtain ⟨rfl, ω3, hp, cq⟩ := q
                  have cs := cs.tr cq
                  rw [g_sr_c (by omega), g_sr_i] at hp
                  show B_R _ _ (126, [(6, .int (Zi 0)), (5, .int (Zi ((K_sg kk 0 + 1) * 257 + -1 + 1))), (4, .int (Zi kk)), (3, .int (Zi i)), (0, .ref pl), (1, .ref (P.1 r)), (2, .int (Zi b))], []) _ _ _
                  refine Z_go (f2 := (127, [(6, .int (Zi 0)), (5, .int (Zi ((K_sg kk 0 + 1) * 257 + -1 + 1))), (4, .int (Zi kk)), (3, .int (Zi i)), (0, .ref pl), (1, .ref (P.1 r)), (2, .int (Zi b))], [.ref pl])) (fun _ => rfl) ?_
                  refine C_gr rfl hs hp.1.1.1 (by decide) (Nat.le_of_ble_eq_true rfl) rfl hp.1.1.2.2.2.2.2.2.2.2.2.1 ?_
                  refine Z_go (f2 := (132, [(6, .int (Zi 0)), (5, .int (Zi ((K_sg kk 0 + 1) * 257 + -1 + 1))), (4, .int (Zi kk)), (3, .int (Zi i)), (0, .ref pl), (1, .ref (P.1 r)), (2, .int (Zi b))], [.int (Zi ((K_sg kk 0 + 1) * 257 + -1 + 1)), .ref (P.1 3)])) (fun _ => rfl) ?_
                  refine C_callV (As := [.int (Zi ((K_sg kk 0 + 1) * 257 + -1 + 1))]) (rest := []) rfl (by decide) rfl (by decide) rfl rfl (by decide +kernel) (Nat.le_of_ble_eq_true rfl) hs (hp.rK (.inl (by omega))) (o_insert' _ hp (r := 3) (.inl (by omega)) (xs := sk) (by simp only [g_sr, g_sf, g_st, g_se, g_su]; repeat (first | rw [g_up_s] | rw [g_up_o (by omega)])) hs.1 (v := (K_sg kk 0 + 1) * 257 + -1 + 1) v3 zone (by omega) B1) (fun x h w2 n2 hs q => ?_)
                  obtain ⟨rfl, ω4, hp, cq⟩ := q
                  have cs := cs.tr cq
                  rw [g_sr_i] at hp
                  show B_R _ _ (135, [(6, .int (Zi 0)), (5, .int (Zi ((K_sg kk 0 + 1) * 257 + -1 + 1))), (4, .int (Zi kk)), (3, .int (Zi i)), (0, .ref pl), (1, .ref (P.1 r)), (2, .int (Zi b))], []) _ _ _
                  refine Z_iinc (L2 := [(3, .int (Zi (i + 1))), (6, .int (Zi 0)), (5, .int (Zi ((K_sg kk 0 + 1) * 257 + -1 + 1))), (4, .int (Zi kk)), (0, .ref pl), (1, .ref (P.1 r)), (2, .int (Zi b))]) rfl rfl (by decide) rfl ?_
                  refine C_goto (p2 := 13) rfl (by decide +kernel) (by decide +kernel) ?_
                  refine B_loc (K := [(3, .int (Zi (i + 1))), (0, .ref pl), (1, .ref (P.1 r)), (2, .int (Zi b))]) (N_all_sub ⟨rfl, rfl, rfl, rfl, trivial⟩) (show ([3, 0, 1, 2] : List Nat).Nodup by decide) ?_
                  have hng : ¬ K_go b ks kk := by
                    unfold K_go
                    rw [hone]
                    rintro (⟨a1, a2⟩ | ⟨a1, a2⟩)
                    · first | exact absurd a2 (hA2 (by omega)) | omega
                    · first | exact absurd a2 (hB2 (by omega)) | omega
                  have hiv2 := hiv.keep (one := (K_sg kk 0 + 1) * 257 + -1 + 1) hS.1 i0 (by omega) (by rw [← ekk]; exact hng) (by rw [← ekk]; exact hone)
                  rw [← ekk] at hiv2
                  exact ih _ _ h _ _ _ _ (by omega) (by omega) (by omega) hs hp cs hiv2
              · refine Z_go (f2 := (109, [(5, .int (Zi ((K_sg kk 0 + 1) * 257 + -1 + 1))), (4, .int (Zi kk)), (3, .int (Zi i)), (0, .ref pl), (1, .ref (P.1 r)), (2, .int (Zi b))], [.int (Zi 1)])) (fun _ => rfl) ?_
                refine Z_go (f2 := (113, [(5, .int (Zi ((K_sg kk 0 + 1) * 257 + -1 + 1))), (4, .int (Zi kk)), (3, .int (Zi i)), (0, .ref pl), (1, .ref (P.1 r)), (2, .int (Zi b))], [.int (Zi 1)])) (fun _ => rfl) ?_
                refine Z_go (f2 := (115, [(6, .int (Zi 1)), (5, .int (Zi ((K_sg kk 0 + 1) * 257 + -1 + 1))), (4, .int (Zi kk)), (3, .int (Zi i)), (0, .ref pl), (1, .ref (P.1 r)), (2, .int (Zi b))], [])) (fun _ => rfl) ?_
                refine Z_go (f2 := (117, [(6, .int (Zi 1)), (5, .int (Zi ((K_sg kk 0 + 1) * 257 + -1 + 1))), (4, .int (Zi kk)), (3, .int (Zi i)), (0, .ref pl), (1, .ref (P.1 r)), (2, .int (Zi b))], [.int (Zi 1)])) (fun _ => rfl) ?_
                refine Z_ine rfl rfl (by first | exact hs.zF _ _ | exact Zor_r _ _ | exact hs.zA _ _ | assumption | exact zA _ _ | exact zS _ | exact Zr_not (hs.zA _ _) | exact hs.1.1 _ _ | exact ⟨by omega, by omega⟩) (fun y9 => ?_) (fun y9 => ?_)
                · refine Z_iinc (L2 := [(3, .int (Zi (i + 1))), (6, .int (Zi 1)), (5, .int (Zi ((K_sg kk 0 + 1) * 257 + -1 + 1))), (4, .int (Zi kk)), (0, .ref pl), (1, .ref (P.1 r)), (2, .int (Zi b))]) rfl rfl (by decide) rfl ?_
                  refine C_goto (p2 := 13) rfl (by decide +kernel) (by decide +kernel) ?_
                  refine B_loc (K := [(3, .int (Zi (i + 1))), (0, .ref pl), (1, .ref (P.1 r)), (2, .int (Zi b))]) (N_all_sub ⟨rfl, rfl, rfl, rfl, trivial⟩) (show ([3, 0, 1, 2] : List Nat).Nodup by decide) ?_
                  refine ih _ u h sl ω2 kp sk (by omega) (by omega) (by omega) hs hp cs (hiv.skip i0 (by omega) ?_)
                  rw [← ekk]
                  unfold K_go
                  rw [hone]
                  first | exact .inl ⟨by omega, hA1 (by omega)⟩ | exact .inr ⟨by omega, hB1 (by omega)⟩
                · exfalso; omega
          · refine Z_go (f2 := (79, [(5, .int (Zi ((K_sg kk 0 + 1) * 257 + -1 + 1))), (4, .int (Zi kk)), (3, .int (Zi i)), (0, .ref pl), (1, .ref (P.1 r)), (2, .int (Zi b))], [.ref pl])) (fun _ => rfl) ?_
            refine C_gr rfl hs hp.1.1.1 (by decide) (Nat.le_of_ble_eq_true rfl) rfl hp.1.1.2.2.2.2.2.2.2.2.1 ?_
            refine Z_go (f2 := (83, [(5, .int (Zi ((K_sg kk 0 + 1) * 257 + -1 + 1))), (4, .int (Zi kk)), (3, .int (Zi i)), (0, .ref pl), (1, .ref (P.1 r)), (2, .int (Zi b))], [.int (Zi 0), .ref (P.1 2)])) (fun _ => rfl) ?_
            refine C_callVR (As := [.int (Zi 0)]) (rest := []) rfl (by decide) rfl (by decide) rfl rfl (by decide +kernel) (Nat.le_of_ble_eq_true rfl) hs (hp.rK (.inl (by omega))) (o_holds' _ hp (r := 2) (.inl (by omega)) hk2 (v := 0) hS.1 ⟨by omega, by omega⟩) (fun x q => ?_)
            obtain ⟨z86, rfl, hz86⟩ := q
            have zz86 : Zr z86 := by rcases hz86 with ⟨e, _⟩ | ⟨e, _⟩ <;> exact ⟨by omega, by omega⟩
            have hA1 : z86 ≠ 0 → (0 : Int) ∈ ks := fun c => by rcases hz86 with ⟨_, e⟩ | ⟨e, _⟩; exact e; omega
            have hA2 : z86 = 0 → (0 : Int) ∉ ks := fun c => by rcases hz86 with ⟨e, _⟩ | ⟨_, e⟩; omega; exact e
            show B_R _ _ (86, [(5, .int (Zi ((K_sg kk 0 + 1) * 257 + -1 + 1))), (4, .int (Zi kk)), (3, .int (Zi i)), (0, .ref pl), (1, .ref (P.1 r)), (2, .int (Zi b))], [.int (Zi z86)]) _ _ _
            refine Z_ine rfl rfl (by first | exact hs.zF _ _ | exact Zor_r _ _ | exact hs.zA _ _ | assumption | exact zA _ _ | exact zS _ | exact Zr_not (hs.zA _ _) | exact hs.1.1 _ _ | exact ⟨by omega, by omega⟩) (fun y10 => ?_) (fun y10 => ?_)
            · refine Z_go (f2 := (109, [(5, .int (Zi ((K_sg kk 0 + 1) * 257 + -1 + 1))), (4, .int (Zi kk)), (3, .int (Zi i)), (0, .ref pl), (1, .ref (P.1 r)), (2, .int (Zi b))], [.int (Zi 1)])) (fun _ => rfl) ?_
              refine Z_go (f2 := (113, [(5, .int (Zi ((K_sg kk 0 + 1) * 257 + -1 + 1))), (4, .int (Zi kk)), (3, .int (Zi i)), (0, .ref pl), (1, .ref (P.1 r)), (2, .int (Zi b))], [.int (Zi 1)])) (fun _ => rfl) ?_
              refine Z_go (f2 := (115, [(6, .int (Zi 1)), (5, .int (Zi ((K_sg kk 0 + 1) * 257 + -1 + 1))), (4, .int (Zi kk)), (3, .int (Zi i)), (0, .ref pl), (1, .ref (P.1 r)), (2, .int (Zi b))], [])) (fun _ => rfl) ?_
              refine Z_go (f2 := (117, [(6, .int (Zi 1)), (5, .int (Zi ((K_sg kk 0 + 1) * 257 + -1 + 1))), (4, .int (Zi kk)), (3, .int (Zi i)), (0, .ref pl), (1, .ref (P.1 r)), (2, .int (Zi b))], [.int (Zi 1)])) (fun _ => rfl) ?_
              refine Z_ine rfl rfl (by first | exact hs.zF _ _ | exact Zor_r _ _ | exact hs.zA _ _ | assumption | exact zA _ _ | exact zS _ | exact Zr_not (hs.zA _ _) | exact hs.1.1 _ _ | exact ⟨by omega, by omega⟩) (fun y11 => ?_) (fun y11 => ?_)
              · refine Z_iinc (L2 := [(3, .int (Zi (i + 1))), (6, .int (Zi 1)), (5, .int (Zi ((K_sg kk 0 + 1) * 257 + -1 + 1))), (4, .int (Zi kk)), (0, .ref pl), (1, .ref (P.1 r)), (2, .int (Zi b))]) rfl rfl (by decide) rfl ?_
                refine C_goto (p2 := 13) rfl (by decide +kernel) (by decide +kernel) ?_
                refine B_loc (K := [(3, .int (Zi (i + 1))), (0, .ref pl), (1, .ref (P.1 r)), (2, .int (Zi b))]) (N_all_sub ⟨rfl, rfl, rfl, rfl, trivial⟩) (show ([3, 0, 1, 2] : List Nat).Nodup by decide) ?_
                refine ih _ u h sl ω2 kp sk (by omega) (by omega) (by omega) hs hp cs (hiv.skip i0 (by omega) ?_)
                rw [← ekk]
                unfold K_go
                rw [hone]
                first | exact .inl ⟨by omega, hA1 (by omega)⟩ | exact .inr ⟨by omega, hB1 (by omega)⟩
              · exfalso; omega
            · refine Z_go (f2 := (91, [(5, .int (Zi ((K_sg kk 0 + 1) * 257 + -1 + 1))), (4, .int (Zi kk)), (3, .int (Zi i)), (0, .ref pl), (1, .ref (P.1 r)), (2, .int (Zi b))], [.int (Zi kk)])) (fun _ => rfl) ?_
              refine Z_go (f2 := (93, [(5, .int (Zi ((K_sg kk 0 + 1) * 257 + -1 + 1))), (4, .int (Zi kk)), (3, .int (Zi i)), (0, .ref pl), (1, .ref (P.1 r)), (2, .int (Zi b))], [.int (Zi ((K_sg kk 0 + 1) * 257 + -1 + 1)), .int (Zi kk)])) (fun _ => rfl) ?_
              refine Z_ceq rfl rfl (by first | exact hs.zF _ _ | exact Zor_r _ _ | exact hs.zA _ _ | assumption | exact zA _ _ | exact zS _ | exact Zr_not (hs.zA _ _) | exact hs.1.1 _ _ | exact ⟨by omega, by omega⟩) (by first | exact hs.zF _ _ | exact Zor_r _ _ | exact hs.zA _ _ | assumption | exact zA _ _ | exact zS _ | exact Zr_not (hs.zA _ _) | exact hs.1.1 _ _ | exact ⟨by omega, by omega⟩) (fun y12 => ?_) (fun y12 => ?_)
              · refine Z_go (f2 := (113, [(5, .int (Zi ((K_sg kk 0 + 1) * 257 + -1 + 1))), (4, .int (Zi kk)), (3, .int (Zi i)), (0, .ref pl), (1, .ref (P.1 r)), (2, .int (Zi b))], [.int (Zi 0)])) (fun _ => rfl) ?_
                refine Z_go (f2 := (115, [(6, .int (Zi 0)), (5, .int (Zi ((K_sg kk 0 + 1) * 257 + -1 + 1))), (4, .int (Zi kk)), (3, .int (Zi i)), (0, .ref pl), (1, .ref (P.1 r)), (2, .int (Zi b))], [])) (fun _ => rfl) ?_
                refine Z_go (f2 := (117, [(6, .int (Zi 0)), (5, .int (Zi ((K_sg kk 0 + 1) * 257 + -1 + 1))), (4, .int (Zi kk)), (3, .int (Zi i)), (0, .ref pl), (1, .ref (P.1 r)), (2, .int (Zi b))], [.int (Zi 0)])) (fun _ => rfl) ?_
                refine Z_ine rfl rfl (by first | exact hs.zF _ _ | exact Zor_r _ _ | exact hs.zA _ _ | assumption | exact zA _ _ | exact zS _ | exact Zr_not (hs.zA _ _) | exact hs.1.1 _ _ | exact ⟨by omega, by omega⟩) (fun y13 => ?_) (fun y13 => ?_)
                · exfalso; omega
                · refine Z_go (f2 := (121, [(6, .int (Zi 0)), (5, .int (Zi ((K_sg kk 0 + 1) * 257 + -1 + 1))), (4, .int (Zi kk)), (3, .int (Zi i)), (0, .ref pl), (1, .ref (P.1 r)), (2, .int (Zi b))], [.ref (P.1 r)])) (fun _ => rfl) ?_
                  refine Z_go (f2 := (123, [(6, .int (Zi 0)), (5, .int (Zi ((K_sg kk 0 + 1) * 257 + -1 + 1))), (4, .int (Zi kk)), (3, .int (Zi i)), (0, .ref pl), (1, .ref (P.1 r)), (2, .int (Zi b))], [.int (Zi kk), .ref (P.1 r)])) (fun _ => rfl) ?_
                  refine C_callV (As := [.int (Zi kk)]) (rest := []) rfl (by decide) rfl (by decide) rfl rfl (by decide +kernel) (Nat.le_of_ble_eq_true rfl) hs (hp.rK hr) (o_push' _ hp hr (xs := kp) (by simp only [g_sr, g_sf, g_st, g_se, g_su]; repeat (first | rw [g_up_s] | rw [g_up_o (by omega)])) hs.1 (v := kk) zkk (by omega) B1) (fun x h w1 n1 hs q => ?_)
                  obtain ⟨rfl, ω3, hp, cq⟩ := q
                  have cs := cs.tr cq
                  rw [g_sr_c (by omega), g_sr_i] at hp
                  show B_R _ _ (126, [(6, .int (Zi 0)), (5, .int (Zi ((K_sg kk 0 + 1) * 257 + -1 + 1))), (4, .int (Zi kk)), (3, .int (Zi i)), (0, .ref pl), (1, .ref (P.1 r)), (2, .int (Zi b))], []) _ _ _
                  refine Z_go (f2 := (127, [(6, .int (Zi 0)), (5, .int (Zi ((K_sg kk 0 + 1) * 257 + -1 + 1))), (4, .int (Zi kk)), (3, .int (Zi i)), (0, .ref pl), (1, .ref (P.1 r)), (2, .int (Zi b))], [.ref pl])) (fun _ => rfl) ?_
                  refine C_gr rfl hs hp.1.1.1 (by decide) (Nat.le_of_ble_eq_true rfl) rfl hp.1.1.2.2.2.2.2.2.2.2.2.1 ?_
                  refine Z_go (f2 := (132, [(6, .int (Zi 0)), (5, .int (Zi ((K_sg kk 0 + 1) * 257 + -1 + 1))), (4, .int (Zi kk)), (3, .int (Zi i)), (0, .ref pl), (1, .ref (P.1 r)), (2, .int (Zi b))], [.int (Zi ((K_sg kk 0 + 1) * 257 + -1 + 1)), .ref (P.1 3)])) (fun _ => rfl) ?_
                  refine C_callV (As := [.int (Zi ((K_sg kk 0 + 1) * 257 + -1 + 1))]) (rest := []) rfl (by decide) rfl (by decide) rfl rfl (by decide +kernel) (Nat.le_of_ble_eq_true rfl) hs (hp.rK (.inl (by omega))) (o_insert' _ hp (r := 3) (.inl (by omega)) (xs := sk) (by simp only [g_sr, g_sf, g_st, g_se, g_su]; repeat (first | rw [g_up_s] | rw [g_up_o (by omega)])) hs.1 (v := (K_sg kk 0 + 1) * 257 + -1 + 1) v3 zone (by omega) B1) (fun x h w2 n2 hs q => ?_)
                  obtain ⟨rfl, ω4, hp, cq⟩ := q
                  have cs := cs.tr cq
                  rw [g_sr_i] at hp
                  show B_R _ _ (135, [(6, .int (Zi 0)), (5, .int (Zi ((K_sg kk 0 + 1) * 257 + -1 + 1))), (4, .int (Zi kk)), (3, .int (Zi i)), (0, .ref pl), (1, .ref (P.1 r)), (2, .int (Zi b))], []) _ _ _
                  refine Z_iinc (L2 := [(3, .int (Zi (i + 1))), (6, .int (Zi 0)), (5, .int (Zi ((K_sg kk 0 + 1) * 257 + -1 + 1))), (4, .int (Zi kk)), (0, .ref pl), (1, .ref (P.1 r)), (2, .int (Zi b))]) rfl rfl (by decide) rfl ?_
                  refine C_goto (p2 := 13) rfl (by decide +kernel) (by decide +kernel) ?_
                  refine B_loc (K := [(3, .int (Zi (i + 1))), (0, .ref pl), (1, .ref (P.1 r)), (2, .int (Zi b))]) (N_all_sub ⟨rfl, rfl, rfl, rfl, trivial⟩) (show ([3, 0, 1, 2] : List Nat).Nodup by decide) ?_
                  have hng : ¬ K_go b ks kk := by
                    unfold K_go
                    rw [hone]
                    rintro (⟨a1, a2⟩ | ⟨a1, a2⟩)
                    · first | exact absurd a2 (hA2 (by omega)) | omega
                    · first | exact absurd a2 (hB2 (by omega)) | omega
                  have hiv2 := hiv.keep (one := (K_sg kk 0 + 1) * 257 + -1 + 1) hS.1 i0 (by omega) (by rw [← ekk]; exact hng) (by rw [← ekk]; exact hone)
                  rw [← ekk] at hiv2
                  exact ih _ _ h _ _ _ _ (by omega) (by omega) (by omega) hs hp cs hiv2
              · refine Z_go (f2 := (97, [(5, .int (Zi ((K_sg kk 0 + 1) * 257 + -1 + 1))), (4, .int (Zi kk)), (3, .int (Zi i)), (0, .ref pl), (1, .ref (P.1 r)), (2, .int (Zi b))], [.ref pl])) (fun _ => rfl) ?_
                refine C_gr rfl hs hp.1.1.1 (by decide) (Nat.le_of_ble_eq_true rfl) rfl hp.1.1.2.2.2.2.2.2.2.2.1 ?_
                refine Z_go (f2 := (102, [(5, .int (Zi ((K_sg kk 0 + 1) * 257 + -1 + 1))), (4, .int (Zi kk)), (3, .int (Zi i)), (0, .ref pl), (1, .ref (P.1 r)), (2, .int (Zi b))], [.int (Zi ((K_sg kk 0 + 1) * 257 + -1 + 1)), .ref (P.1 2)])) (fun _ => rfl) ?_
                refine C_callVR (As := [.int (Zi ((K_sg kk 0 + 1) * 257 + -1 + 1))]) (rest := []) rfl (by decide) rfl (by decide) rfl rfl (by decide +kernel) (Nat.le_of_ble_eq_true rfl) hs (hp.rK (.inl (by omega))) (o_holds' _ hp (r := 2) (.inl (by omega)) hk2 (v := (K_sg kk 0 + 1) * 257 + -1 + 1) hS.1 zone) (fun x q => ?_)
                obtain ⟨z87, rfl, hz87⟩ := q
                have zz87 : Zr z87 := by rcases hz87 with ⟨e, _⟩ | ⟨e, _⟩ <;> exact ⟨by omega, by omega⟩
                have hB1 : z87 ≠ 0 → (K_sg kk 0 + 1) * 257 + -1 + 1 ∈ ks := fun c => by rcases hz87 with ⟨_, e⟩ | ⟨e, _⟩; exact e; omega
                have hB2 : z87 = 0 → (K_sg kk 0 + 1) * 257 + -1 + 1 ∉ ks := fun c => by rcases hz87 with ⟨e, _⟩ | ⟨_, e⟩; omega; exact e
                show B_R _ _ (105, [(5, .int (Zi ((K_sg kk 0 + 1) * 257 + -1 + 1))), (4, .int (Zi kk)), (3, .int (Zi i)), (0, .ref pl), (1, .ref (P.1 r)), (2, .int (Zi b))], [.int (Zi z87)]) _ _ _
                refine Z_ieq rfl rfl (by first | exact hs.zF _ _ | exact Zor_r _ _ | exact hs.zA _ _ | assumption | exact zA _ _ | exact zS _ | exact Zr_not (hs.zA _ _) | exact hs.1.1 _ _ | exact ⟨by omega, by omega⟩) (fun y14 => ?_) (fun y14 => ?_)
                · refine Z_go (f2 := (113, [(5, .int (Zi ((K_sg kk 0 + 1) * 257 + -1 + 1))), (4, .int (Zi kk)), (3, .int (Zi i)), (0, .ref pl), (1, .ref (P.1 r)), (2, .int (Zi b))], [.int (Zi 0)])) (fun _ => rfl) ?_
                  refine Z_go (f2 := (115, [(6, .int (Zi 0)), (5, .int (Zi ((K_sg kk 0 + 1) * 257 + -1 + 1))), (4, .int (Zi kk)), (3, .int (Zi i)), (0, .ref pl), (1, .ref (P.1 r)), (2, .int (Zi b))], [])) (fun _ => rfl) ?_
                  refine Z_go (f2 := (117, [(6, .int (Zi 0)), (5, .int (Zi ((K_sg kk 0 + 1) * 257 + -1 + 1))), (4, .int (Zi kk)), (3, .int (Zi i)), (0, .ref pl), (1, .ref (P.1 r)), (2, .int (Zi b))], [.int (Zi 0)])) (fun _ => rfl) ?_
                  refine Z_ine rfl rfl (by first | exact hs.zF _ _ | exact Zor_r _ _ | exact hs.zA _ _ | assumption | exact zA _ _ | exact zS _ | exact Zr_not (hs.zA _ _) | exact hs.1.1 _ _ | exact ⟨by omega, by omega⟩) (fun y15 => ?_) (fun y15 => ?_)
                  · exfalso; omega
                  · refine Z_go (f2 := (121, [(6, .int (Zi 0)), (5, .int (Zi ((K_sg kk 0 + 1) * 257 + -1 + 1))), (4, .int (Zi kk)), (3, .int (Zi i)), (0, .ref pl), (1, .ref (P.1 r)), (2, .int (Zi b))], [.ref (P.1 r)])) (fun _ => rfl) ?_
                    refine Z_go (f2 := (123, [(6, .int (Zi 0)), (5, .int (Zi ((K_sg kk 0 + 1) * 257 + -1 + 1))), (4, .int (Zi kk)), (3, .int (Zi i)), (0, .ref pl), (1, .ref (P.1 r)), (2, .int (Zi b))], [.int (Zi kk), .ref (P.1 r)])) (fun _ => rfl) ?_
                    refine C_callV (As := [.int (Zi kk)]) (rest := []) rfl (by decide) rfl (by decide) rfl rfl (by decide +kernel) (Nat.le_of_ble_eq_true rfl) hs (hp.rK hr) (o_push' _ hp hr (xs := kp) (by simp only [g_sr, g_sf, g_st, g_se, g_su]; repeat (first | rw [g_up_s] | rw [g_up_o (by omega)])) hs.1 (v := kk) zkk (by omega) B1) (fun x h w1 n1 hs q => ?_)
                    obtain ⟨rfl, ω3, hp, cq⟩ := q
                    have cs := cs.tr cq
                    rw [g_sr_c (by omega), g_sr_i] at hp
                    show B_R _ _ (126, [(6, .int (Zi 0)), (5, .int (Zi ((K_sg kk 0 + 1) * 257 + -1 + 1))), (4, .int (Zi kk)), (3, .int (Zi i)), (0, .ref pl), (1, .ref (P.1 r)), (2, .int (Zi b))], []) _ _ _
                    refine Z_go (f2 := (127, [(6, .int (Zi 0)), (5, .int (Zi ((K_sg kk 0 + 1) * 257 + -1 + 1))), (4, .int (Zi kk)), (3, .int (Zi i)), (0, .ref pl), (1, .ref (P.1 r)), (2, .int (Zi b))], [.ref pl])) (fun _ => rfl) ?_
                    refine C_gr rfl hs hp.1.1.1 (by decide) (Nat.le_of_ble_eq_true rfl) rfl hp.1.1.2.2.2.2.2.2.2.2.2.1 ?_
                    refine Z_go (f2 := (132, [(6, .int (Zi 0)), (5, .int (Zi ((K_sg kk 0 + 1) * 257 + -1 + 1))), (4, .int (Zi kk)), (3, .int (Zi i)), (0, .ref pl), (1, .ref (P.1 r)), (2, .int (Zi b))], [.int (Zi ((K_sg kk 0 + 1) * 257 + -1 + 1)), .ref (P.1 3)])) (fun _ => rfl) ?_
                    refine C_callV (As := [.int (Zi ((K_sg kk 0 + 1) * 257 + -1 + 1))]) (rest := []) rfl (by decide) rfl (by decide) rfl rfl (by decide +kernel) (Nat.le_of_ble_eq_true rfl) hs (hp.rK (.inl (by omega))) (o_insert' _ hp (r := 3) (.inl (by omega)) (xs := sk) (by simp only [g_sr, g_sf, g_st, g_se, g_su]; repeat (first | rw [g_up_s] | rw [g_up_o (by omega)])) hs.1 (v := (K_sg kk 0 + 1) * 257 + -1 + 1) v3 zone (by omega) B1) (fun x h w2 n2 hs q => ?_)
                    obtain ⟨rfl, ω4, hp, cq⟩ := q
                    have cs := cs.tr cq
                    rw [g_sr_i] at hp
                    show B_R _ _ (135, [(6, .int (Zi 0)), (5, .int (Zi ((K_sg kk 0 + 1) * 257 + -1 + 1))), (4, .int (Zi kk)), (3, .int (Zi i)), (0, .ref pl), (1, .ref (P.1 r)), (2, .int (Zi b))], []) _ _ _
                    refine Z_iinc (L2 := [(3, .int (Zi (i + 1))), (6, .int (Zi 0)), (5, .int (Zi ((K_sg kk 0 + 1) * 257 + -1 + 1))), (4, .int (Zi kk)), (0, .ref pl), (1, .ref (P.1 r)), (2, .int (Zi b))]) rfl rfl (by decide) rfl ?_
                    refine C_goto (p2 := 13) rfl (by decide +kernel) (by decide +kernel) ?_
                    refine B_loc (K := [(3, .int (Zi (i + 1))), (0, .ref pl), (1, .ref (P.1 r)), (2, .int (Zi b))]) (N_all_sub ⟨rfl, rfl, rfl, rfl, trivial⟩) (show ([3, 0, 1, 2] : List Nat).Nodup by decide) ?_
                    have hng : ¬ K_go b ks kk := by
                      unfold K_go
                      rw [hone]
                      rintro (⟨a1, a2⟩ | ⟨a1, a2⟩)
                      · first | exact absurd a2 (hA2 (by omega)) | omega
                      · first | exact absurd a2 (hB2 (by omega)) | omega
                    have hiv2 := hiv.keep (one := (K_sg kk 0 + 1) * 257 + -1 + 1) hS.1 i0 (by omega) (by rw [← ekk]; exact hng) (by rw [← ekk]; exact hone)
                    rw [← ekk] at hiv2
                    exact ih _ _ h _ _ _ _ (by omega) (by omega) (by omega) hs hp cs hiv2
                · refine Z_go (f2 := (109, [(5, .int (Zi ((K_sg kk 0 + 1) * 257 + -1 + 1))), (4, .int (Zi kk)), (3, .int (Zi i)), (0, .ref pl), (1, .ref (P.1 r)), (2, .int (Zi b))], [.int (Zi 1)])) (fun _ => rfl) ?_
                  refine Z_go (f2 := (113, [(5, .int (Zi ((K_sg kk 0 + 1) * 257 + -1 + 1))), (4, .int (Zi kk)), (3, .int (Zi i)), (0, .ref pl), (1, .ref (P.1 r)), (2, .int (Zi b))], [.int (Zi 1)])) (fun _ => rfl) ?_
                  refine Z_go (f2 := (115, [(6, .int (Zi 1)), (5, .int (Zi ((K_sg kk 0 + 1) * 257 + -1 + 1))), (4, .int (Zi kk)), (3, .int (Zi i)), (0, .ref pl), (1, .ref (P.1 r)), (2, .int (Zi b))], [])) (fun _ => rfl) ?_
                  refine Z_go (f2 := (117, [(6, .int (Zi 1)), (5, .int (Zi ((K_sg kk 0 + 1) * 257 + -1 + 1))), (4, .int (Zi kk)), (3, .int (Zi i)), (0, .ref pl), (1, .ref (P.1 r)), (2, .int (Zi b))], [.int (Zi 1)])) (fun _ => rfl) ?_
                  refine Z_ine rfl rfl (by first | exact hs.zF _ _ | exact Zor_r _ _ | exact hs.zA _ _ | assumption | exact zA _ _ | exact zS _ | exact Zr_not (hs.zA _ _) | exact hs.1.1 _ _ | exact ⟨by omega, by omega⟩) (fun y16 => ?_) (fun y16 => ?_)
                  · refine Z_iinc (L2 := [(3, .int (Zi (i + 1))), (6, .int (Zi 1)), (5, .int (Zi ((K_sg kk 0 + 1) * 257 + -1 + 1))), (4, .int (Zi kk)), (0, .ref pl), (1, .ref (P.1 r)), (2, .int (Zi b))]) rfl rfl (by decide) rfl ?_
                    refine C_goto (p2 := 13) rfl (by decide +kernel) (by decide +kernel) ?_
                    refine B_loc (K := [(3, .int (Zi (i + 1))), (0, .ref pl), (1, .ref (P.1 r)), (2, .int (Zi b))]) (N_all_sub ⟨rfl, rfl, rfl, rfl, trivial⟩) (show ([3, 0, 1, 2] : List Nat).Nodup by decide) ?_
                    refine ih _ u h sl ω2 kp sk (by omega) (by omega) (by omega) hs hp cs (hiv.skip i0 (by omega) ?_)
                    rw [← ekk]
                    unfold K_go
                    rw [hone]
                    first | exact .inl ⟨by omega, hA1 (by omega)⟩ | exact .inr ⟨by omega, hB1 (by omega)⟩
                  · exfalso; omega
        · refine Z_go (f2 := (54, [(4, .int (Zi kk)), (3, .int (Zi i)), (0, .ref pl), (1, .ref (P.1 r)), (2, .int (Zi b))], [.int (Zi kk)])) (fun _ => rfl) ?_
          refine Z_go (f2 := (55, [(4, .int (Zi kk)), (3, .int (Zi i)), (0, .ref pl), (1, .ref (P.1 r)), (2, .int (Zi b))], [.int (Zi 1), .int (Zi kk)])) (fun _ => rfl) ?_
          refine Z_callQ (vs := [.int (Zi kk), .int (Zi 1)]) (rest := []) rfl (by decide) rfl rfl rfl (Nat.le_of_ble_eq_true rfl) (C_keySign _ (a := kk) (k := 1) zkk ⟨by omega, by omega⟩ kr0 (by omega)) (fun x q => ?_)
          obtain rfl := q
          have zsg : Zr (K_sg kk 1) := by unfold K_sg; split; exact ⟨by omega, by omega⟩; split; exact ⟨by omega, by omega⟩; exact ⟨by omega, by omega⟩
          show B_R _ _ (58, [(4, .int (Zi kk)), (3, .int (Zi i)), (0, .ref pl), (1, .ref (P.1 r)), (2, .int (Zi b))], [.int (Zi (K_sg kk 1))]) _ _ _
          refine Z_go (f2 := (67, [(4, .int (Zi kk)), (3, .int (Zi i)), (0, .ref pl), (1, .ref (P.1 r)), (2, .int (Zi b))], [.int (Zi (K_sg kk 1))])) (fun _ => rfl) ?_
          refine Z_go (f2 := (68, [(4, .int (Zi kk)), (3, .int (Zi i)), (0, .ref pl), (1, .ref (P.1 r)), (2, .int (Zi b))], [.int (Zi (-1)), .int (Zi (K_sg kk 1))])) (fun _ => rfl) ?_
          refine Z_callQ (vs := [.int (Zi (K_sg kk 1)), .int (Zi (-1))]) (rest := []) rfl (by decide) rfl rfl rfl (Nat.le_of_ble_eq_true rfl) (C_keyOf _ (a := K_sg kk 1) (b := -1) zsg ⟨by omega, by omega⟩) (fun x q => ?_)
          obtain rfl := q
          show B_R _ _ (71, [(4, .int (Zi kk)), (3, .int (Zi i)), (0, .ref pl), (1, .ref (P.1 r)), (2, .int (Zi b))], [.int (Zi ((K_sg kk 1 + 1) * 257 + -1 + 1))]) _ _ _
          have hone : K_one b kk = (K_sg kk 1 + 1) * 257 + -1 + 1 := by unfold K_one; first | rw [if_pos (by omega)] | (rw [if_neg (by omega), if_pos (by omega)]; omega) | (rw [if_neg (by omega), if_neg (by omega)]; omega)
          have zone : Zr ((K_sg kk 1 + 1) * 257 + -1 + 1) := by rw [← hone]; have := K_one_r (b := b) kr0 kr1; exact ⟨by omega, by omega⟩
          refine Z_go (f2 := (73, [(5, .int (Zi ((K_sg kk 1 + 1) * 257 + -1 + 1))), (4, .int (Zi kk)), (3, .int (Zi i)), (0, .ref pl), (1, .ref (P.1 r)), (2, .int (Zi b))], [])) (fun _ => rfl) ?_
          refine Z_go (f2 := (75, [(5, .int (Zi ((K_sg kk 1 + 1) * 257 + -1 + 1))), (4, .int (Zi kk)), (3, .int (Zi i)), (0, .ref pl), (1, .ref (P.1 r)), (2, .int (Zi b))], [.int (Zi kk)])) (fun _ => rfl) ?_
          refine Z_ieq rfl rfl (by first | exact hs.zF _ _ | exact Zor_r _ _ | exact hs.zA _ _ | assumption | exact zA _ _ | exact zS _ | exact Zr_not (hs.zA _ _) | exact hs.1.1 _ _ | exact ⟨by omega, by omega⟩) (fun y17 => ?_) (fun y17 => ?_)
          · refine Z_go (f2 := (91, [(5, .int (Zi ((K_sg kk 1 + 1) * 257 + -1 + 1))), (4, .int (Zi kk)), (3, .int (Zi i)), (0, .ref pl), (1, .ref (P.1 r)), (2, .int (Zi b))], [.int (Zi kk)])) (fun _ => rfl) ?_
            refine Z_go (f2 := (93, [(5, .int (Zi ((K_sg kk 1 + 1) * 257 + -1 + 1))), (4, .int (Zi kk)), (3, .int (Zi i)), (0, .ref pl), (1, .ref (P.1 r)), (2, .int (Zi b))], [.int (Zi ((K_sg kk 1 + 1) * 257 + -1 + 1)), .int (Zi kk)])) (fun _ => rfl) ?_
            refine Z_ceq rfl rfl (by first | exact hs.zF _ _ | exact Zor_r _ _ | exact hs.zA _ _ | assumption | exact zA _ _ | exact zS _ | exact Zr_not (hs.zA _ _) | exact hs.1.1 _ _ | exact ⟨by omega, by omega⟩) (by first | exact hs.zF _ _ | exact Zor_r _ _ | exact hs.zA _ _ | assumption | exact zA _ _ | exact zS _ | exact Zr_not (hs.zA _ _) | exact hs.1.1 _ _ | exact ⟨by omega, by omega⟩) (fun y18 => ?_) (fun y18 => ?_)
            · refine Z_go (f2 := (113, [(5, .int (Zi ((K_sg kk 1 + 1) * 257 + -1 + 1))), (4, .int (Zi kk)), (3, .int (Zi i)), (0, .ref pl), (1, .ref (P.1 r)), (2, .int (Zi b))], [.int (Zi 0)])) (fun _ => rfl) ?_
              refine Z_go (f2 := (115, [(6, .int (Zi 0)), (5, .int (Zi ((K_sg kk 1 + 1) * 257 + -1 + 1))), (4, .int (Zi kk)), (3, .int (Zi i)), (0, .ref pl), (1, .ref (P.1 r)), (2, .int (Zi b))], [])) (fun _ => rfl) ?_
              refine Z_go (f2 := (117, [(6, .int (Zi 0)), (5, .int (Zi ((K_sg kk 1 + 1) * 257 + -1 + 1))), (4, .int (Zi kk)), (3, .int (Zi i)), (0, .ref pl), (1, .ref (P.1 r)), (2, .int (Zi b))], [.int (Zi 0)])) (fun _ => rfl) ?_
              refine Z_ine rfl rfl (by first | exact hs.zF _ _ | exact Zor_r _ _ | exact hs.zA _ _ | assumption | exact zA _ _ | exact zS _ | exact Zr_not (hs.zA _ _) | exact hs.1.1 _ _ | exact ⟨by omega, by omega⟩) (fun y19 => ?_) (fun y19 => ?_)
              · exfalso; omega
              · refine Z_go (f2 := (121, [(6, .int (Zi 0)), (5, .int (Zi ((K_sg kk 1 + 1) * 257 + -1 + 1))), (4, .int (Zi kk)), (3, .int (Zi i)), (0, .ref pl), (1, .ref (P.1 r)), (2, .int (Zi b))], [.ref (P.1 r)])) (fun _ => rfl) ?_
                refine Z_go (f2 := (123, [(6, .int (Zi 0)), (5, .int (Zi ((K_sg kk 1 + 1) * 257 + -1 + 1))), (4, .int (Zi kk)), (3, .int (Zi i)), (0, .ref pl), (1, .ref (P.1 r)), (2, .int (Zi b))], [.int (Zi kk), .ref (P.1 r)])) (fun _ => rfl) ?_
                refine C_callV (As := [.int (Zi kk)]) (rest := []) rfl (by decide) rfl (by decide) rfl rfl (by decide +kernel) (Nat.le_of_ble_eq_true rfl) hs (hp.rK hr) (o_push' _ hp hr (xs := kp) (by simp only [g_sr, g_sf, g_st, g_se, g_su]; repeat (first | rw [g_up_s] | rw [g_up_o (by omega)])) hs.1 (v := kk) zkk (by omega) B1) (fun x h w1 n1 hs q => ?_)
                obtain ⟨rfl, ω3, hp, cq⟩ := q
                have cs := cs.tr cq
                rw [g_sr_c (by omega), g_sr_i] at hp
                show B_R _ _ (126, [(6, .int (Zi 0)), (5, .int (Zi ((K_sg kk 1 + 1) * 257 + -1 + 1))), (4, .int (Zi kk)), (3, .int (Zi i)), (0, .ref pl), (1, .ref (P.1 r)), (2, .int (Zi b))], []) _ _ _
                refine Z_go (f2 := (127, [(6, .int (Zi 0)), (5, .int (Zi ((K_sg kk 1 + 1) * 257 + -1 + 1))), (4, .int (Zi kk)), (3, .int (Zi i)), (0, .ref pl), (1, .ref (P.1 r)), (2, .int (Zi b))], [.ref pl])) (fun _ => rfl) ?_
                refine C_gr rfl hs hp.1.1.1 (by decide) (Nat.le_of_ble_eq_true rfl) rfl hp.1.1.2.2.2.2.2.2.2.2.2.1 ?_
                refine Z_go (f2 := (132, [(6, .int (Zi 0)), (5, .int (Zi ((K_sg kk 1 + 1) * 257 + -1 + 1))), (4, .int (Zi kk)), (3, .int (Zi i)), (0, .ref pl), (1, .ref (P.1 r)), (2, .int (Zi b))], [.int (Zi ((K_sg kk 1 + 1) * 257 + -1 + 1)), .ref (P.1 3)])) (fun _ => rfl) ?_
                refine C_callV (As := [.int (Zi ((K_sg kk 1 + 1) * 257 + -1 + 1))]) (rest := []) rfl (by decide) rfl (by decide) rfl rfl (by decide +kernel) (Nat.le_of_ble_eq_true rfl) hs (hp.rK (.inl (by omega))) (o_insert' _ hp (r := 3) (.inl (by omega)) (xs := sk) (by simp only [g_sr, g_sf, g_st, g_se, g_su]; repeat (first | rw [g_up_s] | rw [g_up_o (by omega)])) hs.1 (v := (K_sg kk 1 + 1) * 257 + -1 + 1) v3 zone (by omega) B1) (fun x h w2 n2 hs q => ?_)
                obtain ⟨rfl, ω4, hp, cq⟩ := q
                have cs := cs.tr cq
                rw [g_sr_i] at hp
                show B_R _ _ (135, [(6, .int (Zi 0)), (5, .int (Zi ((K_sg kk 1 + 1) * 257 + -1 + 1))), (4, .int (Zi kk)), (3, .int (Zi i)), (0, .ref pl), (1, .ref (P.1 r)), (2, .int (Zi b))], []) _ _ _
                refine Z_iinc (L2 := [(3, .int (Zi (i + 1))), (6, .int (Zi 0)), (5, .int (Zi ((K_sg kk 1 + 1) * 257 + -1 + 1))), (4, .int (Zi kk)), (0, .ref pl), (1, .ref (P.1 r)), (2, .int (Zi b))]) rfl rfl (by decide) rfl ?_
                refine C_goto (p2 := 13) rfl (by decide +kernel) (by decide +kernel) ?_
                refine B_loc (K := [(3, .int (Zi (i + 1))), (0, .ref pl), (1, .ref (P.1 r)), (2, .int (Zi b))]) (N_all_sub ⟨rfl, rfl, rfl, rfl, trivial⟩) (show ([3, 0, 1, 2] : List Nat).Nodup by decide) ?_
                have hng : ¬ K_go b ks kk := by
                  unfold K_go
                  rw [hone]
                  rintro (⟨a1, a2⟩ | ⟨a1, a2⟩)
                  · first | exact absurd a2 (hA2 (by omega)) | omega
                  · first | exact absurd a2 (hB2 (by omega)) | omega
                have hiv2 := hiv.keep (one := (K_sg kk 1 + 1) * 257 + -1 + 1) hS.1 i0 (by omega) (by rw [← ekk]; exact hng) (by rw [← ekk]; exact hone)
                rw [← ekk] at hiv2
                exact ih _ _ h _ _ _ _ (by omega) (by omega) (by omega) hs hp cs hiv2
            · refine Z_go (f2 := (97, [(5, .int (Zi ((K_sg kk 1 + 1) * 257 + -1 + 1))), (4, .int (Zi kk)), (3, .int (Zi i)), (0, .ref pl), (1, .ref (P.1 r)), (2, .int (Zi b))], [.ref pl])) (fun _ => rfl) ?_
              refine C_gr rfl hs hp.1.1.1 (by decide) (Nat.le_of_ble_eq_true rfl) rfl hp.1.1.2.2.2.2.2.2.2.2.1 ?_
              refine Z_go (f2 := (102, [(5, .int (Zi ((K_sg kk 1 + 1) * 257 + -1 + 1))), (4, .int (Zi kk)), (3, .int (Zi i)), (0, .ref pl), (1, .ref (P.1 r)), (2, .int (Zi b))], [.int (Zi ((K_sg kk 1 + 1) * 257 + -1 + 1)), .ref (P.1 2)])) (fun _ => rfl) ?_
              refine C_callVR (As := [.int (Zi ((K_sg kk 1 + 1) * 257 + -1 + 1))]) (rest := []) rfl (by decide) rfl (by decide) rfl rfl (by decide +kernel) (Nat.le_of_ble_eq_true rfl) hs (hp.rK (.inl (by omega))) (o_holds' _ hp (r := 2) (.inl (by omega)) hk2 (v := (K_sg kk 1 + 1) * 257 + -1 + 1) hS.1 zone) (fun x q => ?_)
              obtain ⟨z88, rfl, hz88⟩ := q
              have zz88 : Zr z88 := by rcases hz88 with ⟨e, _⟩ | ⟨e, _⟩ <;> exact ⟨by omega, by omega⟩
              have hB1 : z88 ≠ 0 → (K_sg kk 1 + 1) * 257 + -1 + 1 ∈ ks := fun c => by rcases hz88 with ⟨_, e⟩ | ⟨e, _⟩; exact e; omega
              have hB2 : z88 = 0 → (K_sg kk 1 + 1) * 257 + -1 + 1 ∉ ks := fun c => by rcases hz88 with ⟨e, _⟩ | ⟨_, e⟩; omega; exact e
              show B_R _ _ (105, [(5, .int (Zi ((K_sg kk 1 + 1) * 257 + -1 + 1))), (4, .int (Zi kk)), (3, .int (Zi i)), (0, .ref pl), (1, .ref (P.1 r)), (2, .int (Zi b))], [.int (Zi z88)]) _ _ _
              refine Z_ieq rfl rfl (by first | exact hs.zF _ _ | exact Zor_r _ _ | exact hs.zA _ _ | assumption | exact zA _ _ | exact zS _ | exact Zr_not (hs.zA _ _) | exact hs.1.1 _ _ | exact ⟨by omega, by omega⟩) (fun y20 => ?_) (fun y20 => ?_)
              · refine Z_go (f2 := (113, [(5, .int (Zi ((K_sg kk 1 + 1) * 257 + -1 + 1))), (4, .int (Zi kk)), (3, .int (Zi i)), (0, .ref pl), (1, .ref (P.1 r)), (2, .int (Zi b))], [.int (Zi 0)])) (fun _ => rfl) ?_
                refine Z_go (f2 := (115, [(6, .int (Zi 0)), (5, .int (Zi ((K_sg kk 1 + 1) * 257 + -1 + 1))), (4, .int (Zi kk)), (3, .int (Zi i)), (0, .ref pl), (1, .ref (P.1 r)), (2, .int (Zi b))], [])) (fun _ => rfl) ?_
                refine Z_go (f2 := (117, [(6, .int (Zi 0)), (5, .int (Zi ((K_sg kk 1 + 1) * 257 + -1 + 1))), (4, .int (Zi kk)), (3, .int (Zi i)), (0, .ref pl), (1, .ref (P.1 r)), (2, .int (Zi b))], [.int (Zi 0)])) (fun _ => rfl) ?_
                refine Z_ine rfl rfl (by first | exact hs.zF _ _ | exact Zor_r _ _ | exact hs.zA _ _ | assumption | exact zA _ _ | exact zS _ | exact Zr_not (hs.zA _ _) | exact hs.1.1 _ _ | exact ⟨by omega, by omega⟩) (fun y21 => ?_) (fun y21 => ?_)
                · exfalso; omega
                · refine Z_go (f2 := (121, [(6, .int (Zi 0)), (5, .int (Zi ((K_sg kk 1 + 1) * 257 + -1 + 1))), (4, .int (Zi kk)), (3, .int (Zi i)), (0, .ref pl), (1, .ref (P.1 r)), (2, .int (Zi b))], [.ref (P.1 r)])) (fun _ => rfl) ?_
                  refine Z_go (f2 := (123, [(6, .int (Zi 0)), (5, .int (Zi ((K_sg kk 1 + 1) * 257 + -1 + 1))), (4, .int (Zi kk)), (3, .int (Zi i)), (0, .ref pl), (1, .ref (P.1 r)), (2, .int (Zi b))], [.int (Zi kk), .ref (P.1 r)])) (fun _ => rfl) ?_
                  refine C_callV (As := [.int (Zi kk)]) (rest := []) rfl (by decide) rfl (by decide) rfl rfl (by decide +kernel) (Nat.le_of_ble_eq_true rfl) hs (hp.rK hr) (o_push' _ hp hr (xs := kp) (by simp only [g_sr, g_sf, g_st, g_se, g_su]; repeat (first | rw [g_up_s] | rw [g_up_o (by omega)])) hs.1 (v := kk) zkk (by omega) B1) (fun x h w1 n1 hs q => ?_)
                  obtain ⟨rfl, ω3, hp, cq⟩ := q
                  have cs := cs.tr cq
                  rw [g_sr_c (by omega), g_sr_i] at hp
                  show B_R _ _ (126, [(6, .int (Zi 0)), (5, .int (Zi ((K_sg kk 1 + 1) * 257 + -1 + 1))), (4, .int (Zi kk)), (3, .int (Zi i)), (0, .ref pl), (1, .ref (P.1 r)), (2, .int (Zi b))], []) _ _ _
                  refine Z_go (f2 := (127, [(6, .int (Zi 0)), (5, .int (Zi ((K_sg kk 1 + 1) * 257 + -1 + 1))), (4, .int (Zi kk)), (3, .int (Zi i)), (0, .ref pl), (1, .ref (P.1 r)), (2, .int (Zi b))], [.ref pl])) (fun _ => rfl) ?_
                  refine C_gr rfl hs hp.1.1.1 (by decide) (Nat.le_of_ble_eq_true rfl) rfl hp.1.1.2.2.2.2.2.2.2.2.2.1 ?_
                  refine Z_go (f2 := (132, [(6, .int (Zi 0)), (5, .int (Zi ((K_sg kk 1 + 1) * 257 + -1 + 1))), (4, .int (Zi kk)), (3, .int (Zi i)), (0, .ref pl), (1, .ref (P.1 r)), (2, .int (Zi b))], [.int (Zi ((K_sg kk 1 + 1) * 257 + -1 + 1)), .ref (P.1 3)])) (fun _ => rfl) ?_
                  refine C_callV (As := [.int (Zi ((K_sg kk 1 + 1) * 257 + -1 + 1))]) (rest := []) rfl (by decide) rfl (by decide) rfl rfl (by decide +kernel) (Nat.le_of_ble_eq_true rfl) hs (hp.rK (.inl (by omega))) (o_insert' _ hp (r := 3) (.inl (by omega)) (xs := sk) (by simp only [g_sr, g_sf, g_st, g_se, g_su]; repeat (first | rw [g_up_s] | rw [g_up_o (by omega)])) hs.1 (v := (K_sg kk 1 + 1) * 257 + -1 + 1) v3 zone (by omega) B1) (fun x h w2 n2 hs q => ?_)
                  obtain ⟨rfl, ω4, hp, cq⟩ := q
                  have cs := cs.tr cq
                  rw [g_sr_i] at hp
                  show B_R _ _ (135, [(6, .int (Zi 0)), (5, .int (Zi ((K_sg kk 1 + 1) * 257 + -1 + 1))), (4, .int (Zi kk)), (3, .int (Zi i)), (0, .ref pl), (1, .ref (P.1 r)), (2, .int (Zi b))], []) _ _ _
                  refine Z_iinc (L2 := [(3, .int (Zi (i + 1))), (6, .int (Zi 0)), (5, .int (Zi ((K_sg kk 1 + 1) * 257 + -1 + 1))), (4, .int (Zi kk)), (0, .ref pl), (1, .ref (P.1 r)), (2, .int (Zi b))]) rfl rfl (by decide) rfl ?_
                  refine C_goto (p2 := 13) rfl (by decide +kernel) (by decide +kernel) ?_
                  refine B_loc (K := [(3, .int (Zi (i + 1))), (0, .ref pl), (1, .ref (P.1 r)), (2, .int (Zi b))]) (N_all_sub ⟨rfl, rfl, rfl, rfl, trivial⟩) (show ([3, 0, 1, 2] : List Nat).Nodup by decide) ?_
                  have hng : ¬ K_go b ks kk := by
                    unfold K_go
                    rw [hone]
                    rintro (⟨a1, a2⟩ | ⟨a1, a2⟩)
                    · first | exact absurd a2 (hA2 (by omega)) | omega
                    · first | exact absurd a2 (hB2 (by omega)) | omega
                  have hiv2 := hiv.keep (one := (K_sg kk 1 + 1) * 257 + -1 + 1) hS.1 i0 (by omega) (by rw [← ekk]; exact hng) (by rw [← ekk]; exact hone)
                  rw [← ekk] at hiv2
                  exact ih _ _ h _ _ _ _ (by omega) (by omega) (by omega) hs hp cs hiv2
              · refine Z_go (f2 := (109, [(5, .int (Zi ((K_sg kk 1 + 1) * 257 + -1 + 1))), (4, .int (Zi kk)), (3, .int (Zi i)), (0, .ref pl), (1, .ref (P.1 r)), (2, .int (Zi b))], [.int (Zi 1)])) (fun _ => rfl) ?_
                refine Z_go (f2 := (113, [(5, .int (Zi ((K_sg kk 1 + 1) * 257 + -1 + 1))), (4, .int (Zi kk)), (3, .int (Zi i)), (0, .ref pl), (1, .ref (P.1 r)), (2, .int (Zi b))], [.int (Zi 1)])) (fun _ => rfl) ?_
                refine Z_go (f2 := (115, [(6, .int (Zi 1)), (5, .int (Zi ((K_sg kk 1 + 1) * 257 + -1 + 1))), (4, .int (Zi kk)), (3, .int (Zi i)), (0, .ref pl), (1, .ref (P.1 r)), (2, .int (Zi b))], [])) (fun _ => rfl) ?_
                refine Z_go (f2 := (117, [(6, .int (Zi 1)), (5, .int (Zi ((K_sg kk 1 + 1) * 257 + -1 + 1))), (4, .int (Zi kk)), (3, .int (Zi i)), (0, .ref pl), (1, .ref (P.1 r)), (2, .int (Zi b))], [.int (Zi 1)])) (fun _ => rfl) ?_
                refine Z_ine rfl rfl (by first | exact hs.zF _ _ | exact Zor_r _ _ | exact hs.zA _ _ | assumption | exact zA _ _ | exact zS _ | exact Zr_not (hs.zA _ _) | exact hs.1.1 _ _ | exact ⟨by omega, by omega⟩) (fun y22 => ?_) (fun y22 => ?_)
                · refine Z_iinc (L2 := [(3, .int (Zi (i + 1))), (6, .int (Zi 1)), (5, .int (Zi ((K_sg kk 1 + 1) * 257 + -1 + 1))), (4, .int (Zi kk)), (0, .ref pl), (1, .ref (P.1 r)), (2, .int (Zi b))]) rfl rfl (by decide) rfl ?_
                  refine C_goto (p2 := 13) rfl (by decide +kernel) (by decide +kernel) ?_
                  refine B_loc (K := [(3, .int (Zi (i + 1))), (0, .ref pl), (1, .ref (P.1 r)), (2, .int (Zi b))]) (N_all_sub ⟨rfl, rfl, rfl, rfl, trivial⟩) (show ([3, 0, 1, 2] : List Nat).Nodup by decide) ?_
                  refine ih _ u h sl ω2 kp sk (by omega) (by omega) (by omega) hs hp cs (hiv.skip i0 (by omega) ?_)
                  rw [← ekk]
                  unfold K_go
                  rw [hone]
                  first | exact .inl ⟨by omega, hA1 (by omega)⟩ | exact .inr ⟨by omega, hB1 (by omega)⟩
                · exfalso; omega
          · refine Z_go (f2 := (79, [(5, .int (Zi ((K_sg kk 1 + 1) * 257 + -1 + 1))), (4, .int (Zi kk)), (3, .int (Zi i)), (0, .ref pl), (1, .ref (P.1 r)), (2, .int (Zi b))], [.ref pl])) (fun _ => rfl) ?_
            refine C_gr rfl hs hp.1.1.1 (by decide) (Nat.le_of_ble_eq_true rfl) rfl hp.1.1.2.2.2.2.2.2.2.2.1 ?_
            refine Z_go (f2 := (83, [(5, .int (Zi ((K_sg kk 1 + 1) * 257 + -1 + 1))), (4, .int (Zi kk)), (3, .int (Zi i)), (0, .ref pl), (1, .ref (P.1 r)), (2, .int (Zi b))], [.int (Zi 0), .ref (P.1 2)])) (fun _ => rfl) ?_
            refine C_callVR (As := [.int (Zi 0)]) (rest := []) rfl (by decide) rfl (by decide) rfl rfl (by decide +kernel) (Nat.le_of_ble_eq_true rfl) hs (hp.rK (.inl (by omega))) (o_holds' _ hp (r := 2) (.inl (by omega)) hk2 (v := 0) hS.1 ⟨by omega, by omega⟩) (fun x q => ?_)
            obtain ⟨z89, rfl, hz89⟩ := q
            have zz89 : Zr z89 := by rcases hz89 with ⟨e, _⟩ | ⟨e, _⟩ <;> exact ⟨by omega, by omega⟩
            have hA1 : z89 ≠ 0 → (0 : Int) ∈ ks := fun c => by rcases hz89 with ⟨_, e⟩ | ⟨e, _⟩; exact e; omega
            have hA2 : z89 = 0 → (0 : Int) ∉ ks := fun c => by rcases hz89 with ⟨e, _⟩ | ⟨_, e⟩; omega; exact e
            show B_R _ _ (86, [(5, .int (Zi ((K_sg kk 1 + 1) * 257 + -1 + 1))), (4, .int (Zi kk)), (3, .int (Zi i)), (0, .ref pl), (1, .ref (P.1 r)), (2, .int (Zi b))], [.int (Zi z89)]) _ _ _
            refine Z_ine rfl rfl (by first | exact hs.zF _ _ | exact Zor_r _ _ | exact hs.zA _ _ | assumption | exact zA _ _ | exact zS _ | exact Zr_not (hs.zA _ _) | exact hs.1.1 _ _ | exact ⟨by omega, by omega⟩) (fun y23 => ?_) (fun y23 => ?_)
            · refine Z_go (f2 := (109, [(5, .int (Zi ((K_sg kk 1 + 1) * 257 + -1 + 1))), (4, .int (Zi kk)), (3, .int (Zi i)), (0, .ref pl), (1, .ref (P.1 r)), (2, .int (Zi b))], [.int (Zi 1)])) (fun _ => rfl) ?_
              refine Z_go (f2 := (113, [(5, .int (Zi ((K_sg kk 1 + 1) * 257 + -1 + 1))), (4, .int (Zi kk)), (3, .int (Zi i)), (0, .ref pl), (1, .ref (P.1 r)), (2, .int (Zi b))], [.int (Zi 1)])) (fun _ => rfl) ?_
              refine Z_go (f2 := (115, [(6, .int (Zi 1)), (5, .int (Zi ((K_sg kk 1 + 1) * 257 + -1 + 1))), (4, .int (Zi kk)), (3, .int (Zi i)), (0, .ref pl), (1, .ref (P.1 r)), (2, .int (Zi b))], [])) (fun _ => rfl) ?_
              refine Z_go (f2 := (117, [(6, .int (Zi 1)), (5, .int (Zi ((K_sg kk 1 + 1) * 257 + -1 + 1))), (4, .int (Zi kk)), (3, .int (Zi i)), (0, .ref pl), (1, .ref (P.1 r)), (2, .int (Zi b))], [.int (Zi 1)])) (fun _ => rfl) ?_
              refine Z_ine rfl rfl (by first | exact hs.zF _ _ | exact Zor_r _ _ | exact hs.zA _ _ | assumption | exact zA _ _ | exact zS _ | exact Zr_not (hs.zA _ _) | exact hs.1.1 _ _ | exact ⟨by omega, by omega⟩) (fun y24 => ?_) (fun y24 => ?_)
              · refine Z_iinc (L2 := [(3, .int (Zi (i + 1))), (6, .int (Zi 1)), (5, .int (Zi ((K_sg kk 1 + 1) * 257 + -1 + 1))), (4, .int (Zi kk)), (0, .ref pl), (1, .ref (P.1 r)), (2, .int (Zi b))]) rfl rfl (by decide) rfl ?_
                refine C_goto (p2 := 13) rfl (by decide +kernel) (by decide +kernel) ?_
                refine B_loc (K := [(3, .int (Zi (i + 1))), (0, .ref pl), (1, .ref (P.1 r)), (2, .int (Zi b))]) (N_all_sub ⟨rfl, rfl, rfl, rfl, trivial⟩) (show ([3, 0, 1, 2] : List Nat).Nodup by decide) ?_
                refine ih _ u h sl ω2 kp sk (by omega) (by omega) (by omega) hs hp cs (hiv.skip i0 (by omega) ?_)
                rw [← ekk]
                unfold K_go
                rw [hone]
                first | exact .inl ⟨by omega, hA1 (by omega)⟩ | exact .inr ⟨by omega, hB1 (by omega)⟩
              · exfalso; omega
            · refine Z_go (f2 := (91, [(5, .int (Zi ((K_sg kk 1 + 1) * 257 + -1 + 1))), (4, .int (Zi kk)), (3, .int (Zi i)), (0, .ref pl), (1, .ref (P.1 r)), (2, .int (Zi b))], [.int (Zi kk)])) (fun _ => rfl) ?_
              refine Z_go (f2 := (93, [(5, .int (Zi ((K_sg kk 1 + 1) * 257 + -1 + 1))), (4, .int (Zi kk)), (3, .int (Zi i)), (0, .ref pl), (1, .ref (P.1 r)), (2, .int (Zi b))], [.int (Zi ((K_sg kk 1 + 1) * 257 + -1 + 1)), .int (Zi kk)])) (fun _ => rfl) ?_
              refine Z_ceq rfl rfl (by first | exact hs.zF _ _ | exact Zor_r _ _ | exact hs.zA _ _ | assumption | exact zA _ _ | exact zS _ | exact Zr_not (hs.zA _ _) | exact hs.1.1 _ _ | exact ⟨by omega, by omega⟩) (by first | exact hs.zF _ _ | exact Zor_r _ _ | exact hs.zA _ _ | assumption | exact zA _ _ | exact zS _ | exact Zr_not (hs.zA _ _) | exact hs.1.1 _ _ | exact ⟨by omega, by omega⟩) (fun y25 => ?_) (fun y25 => ?_)
              · refine Z_go (f2 := (113, [(5, .int (Zi ((K_sg kk 1 + 1) * 257 + -1 + 1))), (4, .int (Zi kk)), (3, .int (Zi i)), (0, .ref pl), (1, .ref (P.1 r)), (2, .int (Zi b))], [.int (Zi 0)])) (fun _ => rfl) ?_
                refine Z_go (f2 := (115, [(6, .int (Zi 0)), (5, .int (Zi ((K_sg kk 1 + 1) * 257 + -1 + 1))), (4, .int (Zi kk)), (3, .int (Zi i)), (0, .ref pl), (1, .ref (P.1 r)), (2, .int (Zi b))], [])) (fun _ => rfl) ?_
                refine Z_go (f2 := (117, [(6, .int (Zi 0)), (5, .int (Zi ((K_sg kk 1 + 1) * 257 + -1 + 1))), (4, .int (Zi kk)), (3, .int (Zi i)), (0, .ref pl), (1, .ref (P.1 r)), (2, .int (Zi b))], [.int (Zi 0)])) (fun _ => rfl) ?_
                refine Z_ine rfl rfl (by first | exact hs.zF _ _ | exact Zor_r _ _ | exact hs.zA _ _ | assumption | exact zA _ _ | exact zS _ | exact Zr_not (hs.zA _ _) | exact hs.1.1 _ _ | exact ⟨by omega, by omega⟩) (fun y26 => ?_) (fun y26 => ?_)
                · exfalso; omega
                · refine Z_go (f2 := (121, [(6, .int (Zi 0)), (5, .int (Zi ((K_sg kk 1 + 1) * 257 + -1 + 1))), (4, .int (Zi kk)), (3, .int (Zi i)), (0, .ref pl), (1, .ref (P.1 r)), (2, .int (Zi b))], [.ref (P.1 r)])) (fun _ => rfl) ?_
                  refine Z_go (f2 := (123, [(6, .int (Zi 0)), (5, .int (Zi ((K_sg kk 1 + 1) * 257 + -1 + 1))), (4, .int (Zi kk)), (3, .int (Zi i)), (0, .ref pl), (1, .ref (P.1 r)), (2, .int (Zi b))], [.int (Zi kk), .ref (P.1 r)])) (fun _ => rfl) ?_
                  refine C_callV (As := [.int (Zi kk)]) (rest := []) rfl (by decide) rfl (by decide) rfl rfl (by decide +kernel) (Nat.le_of_ble_eq_true rfl) hs (hp.rK hr) (o_push' _ hp hr (xs := kp) (by simp only [g_sr, g_sf, g_st, g_se, g_su]; repeat (first | rw [g_up_s] | rw [g_up_o (by omega)])) hs.1 (v := kk) zkk (by omega) B1) (fun x h w1 n1 hs q => ?_)
                  obtain ⟨rfl, ω3, hp, cq⟩ := q
                  have cs := cs.tr cq
                  rw [g_sr_c (by omega), g_sr_i] at hp
                  show B_R _ _ (126, [(6, .int (Zi 0)), (5, .int (Zi ((K_sg kk 1 + 1) * 257 + -1 + 1))), (4, .int (Zi kk)), (3, .int (Zi i)), (0, .ref pl), (1, .ref (P.1 r)), (2, .int (Zi b))], []) _ _ _
                  refine Z_go (f2 := (127, [(6, .int (Zi 0)), (5, .int (Zi ((K_sg kk 1 + 1) * 257 + -1 + 1))), (4, .int (Zi kk)), (3, .int (Zi i)), (0, .ref pl), (1, .ref (P.1 r)), (2, .int (Zi b))], [.ref pl])) (fun _ => rfl) ?_
                  refine C_gr rfl hs hp.1.1.1 (by decide) (Nat.le_of_ble_eq_true rfl) rfl hp.1.1.2.2.2.2.2.2.2.2.2.1 ?_
                  refine Z_go (f2 := (132, [(6, .int (Zi 0)), (5, .int (Zi ((K_sg kk 1 + 1) * 257 + -1 + 1))), (4, .int (Zi kk)), (3, .int (Zi i)), (0, .ref pl), (1, .ref (P.1 r)), (2, .int (Zi b))], [.int (Zi ((K_sg kk 1 + 1) * 257 + -1 + 1)), .ref (P.1 3)])) (fun _ => rfl) ?_
                  refine C_callV (As := [.int (Zi ((K_sg kk 1 + 1) * 257 + -1 + 1))]) (rest := []) rfl (by decide) rfl (by decide) rfl rfl (by decide +kernel) (Nat.le_of_ble_eq_true rfl) hs (hp.rK (.inl (by omega))) (o_insert' _ hp (r := 3) (.inl (by omega)) (xs := sk) (by simp only [g_sr, g_sf, g_st, g_se, g_su]; repeat (first | rw [g_up_s] | rw [g_up_o (by omega)])) hs.1 (v := (K_sg kk 1 + 1) * 257 + -1 + 1) v3 zone (by omega) B1) (fun x h w2 n2 hs q => ?_)
                  obtain ⟨rfl, ω4, hp, cq⟩ := q
                  have cs := cs.tr cq
                  rw [g_sr_i] at hp
                  show B_R _ _ (135, [(6, .int (Zi 0)), (5, .int (Zi ((K_sg kk 1 + 1) * 257 + -1 + 1))), (4, .int (Zi kk)), (3, .int (Zi i)), (0, .ref pl), (1, .ref (P.1 r)), (2, .int (Zi b))], []) _ _ _
                  refine Z_iinc (L2 := [(3, .int (Zi (i + 1))), (6, .int (Zi 0)), (5, .int (Zi ((K_sg kk 1 + 1) * 257 + -1 + 1))), (4, .int (Zi kk)), (0, .ref pl), (1, .ref (P.1 r)), (2, .int (Zi b))]) rfl rfl (by decide) rfl ?_
                  refine C_goto (p2 := 13) rfl (by decide +kernel) (by decide +kernel) ?_
                  refine B_loc (K := [(3, .int (Zi (i + 1))), (0, .ref pl), (1, .ref (P.1 r)), (2, .int (Zi b))]) (N_all_sub ⟨rfl, rfl, rfl, rfl, trivial⟩) (show ([3, 0, 1, 2] : List Nat).Nodup by decide) ?_
                  have hng : ¬ K_go b ks kk := by
                    unfold K_go
                    rw [hone]
                    rintro (⟨a1, a2⟩ | ⟨a1, a2⟩)
                    · first | exact absurd a2 (hA2 (by omega)) | omega
                    · first | exact absurd a2 (hB2 (by omega)) | omega
                  have hiv2 := hiv.keep (one := (K_sg kk 1 + 1) * 257 + -1 + 1) hS.1 i0 (by omega) (by rw [← ekk]; exact hng) (by rw [← ekk]; exact hone)
                  rw [← ekk] at hiv2
                  exact ih _ _ h _ _ _ _ (by omega) (by omega) (by omega) hs hp cs hiv2
              · refine Z_go (f2 := (97, [(5, .int (Zi ((K_sg kk 1 + 1) * 257 + -1 + 1))), (4, .int (Zi kk)), (3, .int (Zi i)), (0, .ref pl), (1, .ref (P.1 r)), (2, .int (Zi b))], [.ref pl])) (fun _ => rfl) ?_
                refine C_gr rfl hs hp.1.1.1 (by decide) (Nat.le_of_ble_eq_true rfl) rfl hp.1.1.2.2.2.2.2.2.2.2.1 ?_
                refine Z_go (f2 := (102, [(5, .int (Zi ((K_sg kk 1 + 1) * 257 + -1 + 1))), (4, .int (Zi kk)), (3, .int (Zi i)), (0, .ref pl), (1, .ref (P.1 r)), (2, .int (Zi b))], [.int (Zi ((K_sg kk 1 + 1) * 257 + -1 + 1)), .ref (P.1 2)])) (fun _ => rfl) ?_
                refine C_callVR (As := [.int (Zi ((K_sg kk 1 + 1) * 257 + -1 + 1))]) (rest := []) rfl (by decide) rfl (by decide) rfl rfl (by decide +kernel) (Nat.le_of_ble_eq_true rfl) hs (hp.rK (.inl (by omega))) (o_holds' _ hp (r := 2) (.inl (by omega)) hk2 (v := (K_sg kk 1 + 1) * 257 + -1 + 1) hS.1 zone) (fun x q => ?_)
                obtain ⟨z90, rfl, hz90⟩ := q
                have zz90 : Zr z90 := by rcases hz90 with ⟨e, _⟩ | ⟨e, _⟩ <;> exact ⟨by omega, by omega⟩
                have hB1 : z90 ≠ 0 → (K_sg kk 1 + 1) * 257 + -1 + 1 ∈ ks := fun c => by rcases hz90 with ⟨_, e⟩ | ⟨e, _⟩; exact e; omega
                have hB2 : z90 = 0 → (K_sg kk 1 + 1) * 257 + -1 + 1 ∉ ks := fun c => by rcases hz90 with ⟨e, _⟩ | ⟨_, e⟩; omega; exact e
                show B_R _ _ (105, [(5, .int (Zi ((K_sg kk 1 + 1) * 257 + -1 + 1))), (4, .int (Zi kk)), (3, .int (Zi i)), (0, .ref pl), (1, .ref (P.1 r)), (2, .int (Zi b))], [.int (Zi z90)]) _ _ _
                refine Z_ieq rfl rfl (by first | exact hs.zF _ _ | exact Zor_r _ _ | exact hs.zA _ _ | assumption | exact zA _ _ | exact zS _ | exact Zr_not (hs.zA _ _) | exact hs.1.1 _ _ | exact ⟨by omega, by omega⟩) (fun y27 => ?_) (fun y27 => ?_)
                · refine Z_go (f2 := (113, [(5, .int (Zi ((K_sg kk 1 + 1) * 257 + -1 + 1))), (4, .int (Zi kk)), (3, .int (Zi i)), (0, .ref pl), (1, .ref (P.1 r)), (2, .int (Zi b))], [.int (Zi 0)])) (fun _ => rfl) ?_
                  refine Z_go (f2 := (115, [(6, .int (Zi 0)), (5, .int (Zi ((K_sg kk 1 + 1) * 257 + -1 + 1))), (4, .int (Zi kk)), (3, .int (Zi i)), (0, .ref pl), (1, .ref (P.1 r)), (2, .int (Zi b))], [])) (fun _ => rfl) ?_
                  refine Z_go (f2 := (117, [(6, .int (Zi 0)), (5, .int (Zi ((K_sg kk 1 + 1) * 257 + -1 + 1))), (4, .int (Zi kk)), (3, .int (Zi i)), (0, .ref pl), (1, .ref (P.1 r)), (2, .int (Zi b))], [.int (Zi 0)])) (fun _ => rfl) ?_
                  refine Z_ine rfl rfl (by first | exact hs.zF _ _ | exact Zor_r _ _ | exact hs.zA _ _ | assumption | exact zA _ _ | exact zS _ | exact Zr_not (hs.zA _ _) | exact hs.1.1 _ _ | exact ⟨by omega, by omega⟩) (fun y28 => ?_) (fun y28 => ?_)
                  · exfalso; omega
                  · refine Z_go (f2 := (121, [(6, .int (Zi 0)), (5, .int (Zi ((K_sg kk 1 + 1) * 257 + -1 + 1))), (4, .int (Zi kk)), (3, .int (Zi i)), (0, .ref pl), (1, .ref (P.1 r)), (2, .int (Zi b))], [.ref (P.1 r)])) (fun _ => rfl) ?_
                    refine Z_go (f2 := (123, [(6, .int (Zi 0)), (5, .int (Zi ((K_sg kk 1 + 1) * 257 + -1 + 1))), (4, .int (Zi kk)), (3, .int (Zi i)), (0, .ref pl), (1, .ref (P.1 r)), (2, .int (Zi b))], [.int (Zi kk), .ref (P.1 r)])) (fun _ => rfl) ?_
                    refine C_callV (As := [.int (Zi kk)]) (rest := []) rfl (by decide) rfl (by decide) rfl rfl (by decide +kernel) (Nat.le_of_ble_eq_true rfl) hs (hp.rK hr) (o_push' _ hp hr (xs := kp) (by simp only [g_sr, g_sf, g_st, g_se, g_su]; repeat (first | rw [g_up_s] | rw [g_up_o (by omega)])) hs.1 (v := kk) zkk (by omega) B1) (fun x h w1 n1 hs q => ?_)
                    obtain ⟨rfl, ω3, hp, cq⟩ := q
                    have cs := cs.tr cq
                    rw [g_sr_c (by omega), g_sr_i] at hp
                    show B_R _ _ (126, [(6, .int (Zi 0)), (5, .int (Zi ((K_sg kk 1 + 1) * 257 + -1 + 1))), (4, .int (Zi kk)), (3, .int (Zi i)), (0, .ref pl), (1, .ref (P.1 r)), (2, .int (Zi b))], []) _ _ _
                    refine Z_go (f2 := (127, [(6, .int (Zi 0)), (5, .int (Zi ((K_sg kk 1 + 1) * 257 + -1 + 1))), (4, .int (Zi kk)), (3, .int (Zi i)), (0, .ref pl), (1, .ref (P.1 r)), (2, .int (Zi b))], [.ref pl])) (fun _ => rfl) ?_
                    refine C_gr rfl hs hp.1.1.1 (by decide) (Nat.le_of_ble_eq_true rfl) rfl hp.1.1.2.2.2.2.2.2.2.2.2.1 ?_
                    refine Z_go (f2 := (132, [(6, .int (Zi 0)), (5, .int (Zi ((K_sg kk 1 + 1) * 257 + -1 + 1))), (4, .int (Zi kk)), (3, .int (Zi i)), (0, .ref pl), (1, .ref (P.1 r)), (2, .int (Zi b))], [.int (Zi ((K_sg kk 1 + 1) * 257 + -1 + 1)), .ref (P.1 3)])) (fun _ => rfl) ?_
                    refine C_callV (As := [.int (Zi ((K_sg kk 1 + 1) * 257 + -1 + 1))]) (rest := []) rfl (by decide) rfl (by decide) rfl rfl (by decide +kernel) (Nat.le_of_ble_eq_true rfl) hs (hp.rK (.inl (by omega))) (o_insert' _ hp (r := 3) (.inl (by omega)) (xs := sk) (by simp only [g_sr, g_sf, g_st, g_se, g_su]; repeat (first | rw [g_up_s] | rw [g_up_o (by omega)])) hs.1 (v := (K_sg kk 1 + 1) * 257 + -1 + 1) v3 zone (by omega) B1) (fun x h w2 n2 hs q => ?_)
                    obtain ⟨rfl, ω4, hp, cq⟩ := q
                    have cs := cs.tr cq
                    rw [g_sr_i] at hp
                    show B_R _ _ (135, [(6, .int (Zi 0)), (5, .int (Zi ((K_sg kk 1 + 1) * 257 + -1 + 1))), (4, .int (Zi kk)), (3, .int (Zi i)), (0, .ref pl), (1, .ref (P.1 r)), (2, .int (Zi b))], []) _ _ _
                    refine Z_iinc (L2 := [(3, .int (Zi (i + 1))), (6, .int (Zi 0)), (5, .int (Zi ((K_sg kk 1 + 1) * 257 + -1 + 1))), (4, .int (Zi kk)), (0, .ref pl), (1, .ref (P.1 r)), (2, .int (Zi b))]) rfl rfl (by decide) rfl ?_
                    refine C_goto (p2 := 13) rfl (by decide +kernel) (by decide +kernel) ?_
                    refine B_loc (K := [(3, .int (Zi (i + 1))), (0, .ref pl), (1, .ref (P.1 r)), (2, .int (Zi b))]) (N_all_sub ⟨rfl, rfl, rfl, rfl, trivial⟩) (show ([3, 0, 1, 2] : List Nat).Nodup by decide) ?_
                    have hng : ¬ K_go b ks kk := by
                      unfold K_go
                      rw [hone]
                      rintro (⟨a1, a2⟩ | ⟨a1, a2⟩)
                      · first | exact absurd a2 (hA2 (by omega)) | omega
                      · first | exact absurd a2 (hB2 (by omega)) | omega
                    have hiv2 := hiv.keep (one := (K_sg kk 1 + 1) * 257 + -1 + 1) hS.1 i0 (by omega) (by rw [← ekk]; exact hng) (by rw [← ekk]; exact hone)
                    rw [← ekk] at hiv2
                    exact ih _ _ h _ _ _ _ (by omega) (by omega) (by omega) hs hp cs hiv2
                · refine Z_go (f2 := (109, [(5, .int (Zi ((K_sg kk 1 + 1) * 257 + -1 + 1))), (4, .int (Zi kk)), (3, .int (Zi i)), (0, .ref pl), (1, .ref (P.1 r)), (2, .int (Zi b))], [.int (Zi 1)])) (fun _ => rfl) ?_
                  refine Z_go (f2 := (113, [(5, .int (Zi ((K_sg kk 1 + 1) * 257 + -1 + 1))), (4, .int (Zi kk)), (3, .int (Zi i)), (0, .ref pl), (1, .ref (P.1 r)), (2, .int (Zi b))], [.int (Zi 1)])) (fun _ => rfl) ?_
                  refine Z_go (f2 := (115, [(6, .int (Zi 1)), (5, .int (Zi ((K_sg kk 1 + 1) * 257 + -1 + 1))), (4, .int (Zi kk)), (3, .int (Zi i)), (0, .ref pl), (1, .ref (P.1 r)), (2, .int (Zi b))], [])) (fun _ => rfl) ?_
                  refine Z_go (f2 := (117, [(6, .int (Zi 1)), (5, .int (Zi ((K_sg kk 1 + 1) * 257 + -1 + 1))), (4, .int (Zi kk)), (3, .int (Zi i)), (0, .ref pl), (1, .ref (P.1 r)), (2, .int (Zi b))], [.int (Zi 1)])) (fun _ => rfl) ?_
                  refine Z_ine rfl rfl (by first | exact hs.zF _ _ | exact Zor_r _ _ | exact hs.zA _ _ | assumption | exact zA _ _ | exact zS _ | exact Zr_not (hs.zA _ _) | exact hs.1.1 _ _ | exact ⟨by omega, by omega⟩) (fun y29 => ?_) (fun y29 => ?_)
                  · refine Z_iinc (L2 := [(3, .int (Zi (i + 1))), (6, .int (Zi 1)), (5, .int (Zi ((K_sg kk 1 + 1) * 257 + -1 + 1))), (4, .int (Zi kk)), (0, .ref pl), (1, .ref (P.1 r)), (2, .int (Zi b))]) rfl rfl (by decide) rfl ?_
                    refine C_goto (p2 := 13) rfl (by decide +kernel) (by decide +kernel) ?_
                    refine B_loc (K := [(3, .int (Zi (i + 1))), (0, .ref pl), (1, .ref (P.1 r)), (2, .int (Zi b))]) (N_all_sub ⟨rfl, rfl, rfl, rfl, trivial⟩) (show ([3, 0, 1, 2] : List Nat).Nodup by decide) ?_
                    refine ih _ u h sl ω2 kp sk (by omega) (by omega) (by omega) hs hp cs (hiv.skip i0 (by omega) ?_)
                    rw [← ekk]
                    unfold K_go
                    rw [hone]
                    first | exact .inl ⟨by omega, hA1 (by omega)⟩ | exact .inr ⟨by omega, hB1 (by omega)⟩
                  · exfalso; omega
      · refine Z_go (f2 := (45, [(4, .int (Zi kk)), (3, .int (Zi i)), (0, .ref pl), (1, .ref (P.1 r)), (2, .int (Zi b))], [.int (Zi kk)])) (fun _ => rfl) ?_
        refine Z_go (f2 := (71, [(4, .int (Zi kk)), (3, .int (Zi i)), (0, .ref pl), (1, .ref (P.1 r)), (2, .int (Zi b))], [.int (Zi kk)])) (fun _ => rfl) ?_
        have hone : K_one b kk = kk := by unfold K_one; first | rw [if_pos (by omega)] | (rw [if_neg (by omega), if_pos (by omega)]; omega) | (rw [if_neg (by omega), if_neg (by omega)]; omega)
        have zone : Zr (kk) := by rw [← hone]; have := K_one_r (b := b) kr0 kr1; exact ⟨by omega, by omega⟩
        refine Z_go (f2 := (73, [(5, .int (Zi kk)), (4, .int (Zi kk)), (3, .int (Zi i)), (0, .ref pl), (1, .ref (P.1 r)), (2, .int (Zi b))], [])) (fun _ => rfl) ?_
        refine Z_go (f2 := (75, [(5, .int (Zi kk)), (4, .int (Zi kk)), (3, .int (Zi i)), (0, .ref pl), (1, .ref (P.1 r)), (2, .int (Zi b))], [.int (Zi kk)])) (fun _ => rfl) ?_
        refine Z_ieq rfl rfl (by first | exact hs.zF _ _ | exact Zor_r _ _ | exact hs.zA _ _ | assumption | exact zA _ _ | exact zS _ | exact Zr_not (hs.zA _ _) | exact hs.1.1 _ _ | exact ⟨by omega, by omega⟩) (fun y30 => ?_) (fun y30 => ?_)
        · refine Z_go (f2 := (91, [(5, .int (Zi kk)), (4, .int (Zi kk)), (3, .int (Zi i)), (0, .ref pl), (1, .ref (P.1 r)), (2, .int (Zi b))], [.int (Zi kk)])) (fun _ => rfl) ?_
          refine Z_go (f2 := (93, [(5, .int (Zi kk)), (4, .int (Zi kk)), (3, .int (Zi i)), (0, .ref pl), (1, .ref (P.1 r)), (2, .int (Zi b))], [.int (Zi kk), .int (Zi kk)])) (fun _ => rfl) ?_
          refine Z_ceq rfl rfl (by first | exact hs.zF _ _ | exact Zor_r _ _ | exact hs.zA _ _ | assumption | exact zA _ _ | exact zS _ | exact Zr_not (hs.zA _ _) | exact hs.1.1 _ _ | exact ⟨by omega, by omega⟩) (by first | exact hs.zF _ _ | exact Zor_r _ _ | exact hs.zA _ _ | assumption | exact zA _ _ | exact zS _ | exact Zr_not (hs.zA _ _) | exact hs.1.1 _ _ | exact ⟨by omega, by omega⟩) (fun y31 => ?_) (fun y31 => ?_)
          · refine Z_go (f2 := (113, [(5, .int (Zi kk)), (4, .int (Zi kk)), (3, .int (Zi i)), (0, .ref pl), (1, .ref (P.1 r)), (2, .int (Zi b))], [.int (Zi 0)])) (fun _ => rfl) ?_
            refine Z_go (f2 := (115, [(6, .int (Zi 0)), (5, .int (Zi kk)), (4, .int (Zi kk)), (3, .int (Zi i)), (0, .ref pl), (1, .ref (P.1 r)), (2, .int (Zi b))], [])) (fun _ => rfl) ?_
            refine Z_go (f2 := (117, [(6, .int (Zi 0)), (5, .int (Zi kk)), (4, .int (Zi kk)), (3, .int (Zi i)), (0, .ref pl), (1, .ref (P.1 r)), (2, .int (Zi b))], [.int (Zi 0)])) (fun _ => rfl) ?_
            refine Z_ine rfl rfl (by first | exact hs.zF _ _ | exact Zor_r _ _ | exact hs.zA _ _ | assumption | exact zA _ _ | exact zS _ | exact Zr_not (hs.zA _ _) | exact hs.1.1 _ _ | exact ⟨by omega, by omega⟩) (fun y32 => ?_) (fun y32 => ?_)
            · exfalso; omega
            · refine Z_go (f2 := (121, [(6, .int (Zi 0)), (5, .int (Zi kk)), (4, .int (Zi kk)), (3, .int (Zi i)), (0, .ref pl), (1, .ref (P.1 r)), (2, .int (Zi b))], [.ref (P.1 r)])) (fun _ => rfl) ?_
              refine Z_go (f2 := (123, [(6, .int (Zi 0)), (5, .int (Zi kk)), (4, .int (Zi kk)), (3, .int (Zi i)), (0, .ref pl), (1, .ref (P.1 r)), (2, .int (Zi b))], [.int (Zi kk), .ref (P.1 r)])) (fun _ => rfl) ?_
              refine C_callV (As := [.int (Zi kk)]) (rest := []) rfl (by decide) rfl (by decide) rfl rfl (by decide +kernel) (Nat.le_of_ble_eq_true rfl) hs (hp.rK hr) (o_push' _ hp hr (xs := kp) (by simp only [g_sr, g_sf, g_st, g_se, g_su]; repeat (first | rw [g_up_s] | rw [g_up_o (by omega)])) hs.1 (v := kk) zkk (by omega) B1) (fun x h w1 n1 hs q => ?_)
              obtain ⟨rfl, ω3, hp, cq⟩ := q
              have cs := cs.tr cq
              rw [g_sr_c (by omega), g_sr_i] at hp
              show B_R _ _ (126, [(6, .int (Zi 0)), (5, .int (Zi kk)), (4, .int (Zi kk)), (3, .int (Zi i)), (0, .ref pl), (1, .ref (P.1 r)), (2, .int (Zi b))], []) _ _ _
              refine Z_go (f2 := (127, [(6, .int (Zi 0)), (5, .int (Zi kk)), (4, .int (Zi kk)), (3, .int (Zi i)), (0, .ref pl), (1, .ref (P.1 r)), (2, .int (Zi b))], [.ref pl])) (fun _ => rfl) ?_
              refine C_gr rfl hs hp.1.1.1 (by decide) (Nat.le_of_ble_eq_true rfl) rfl hp.1.1.2.2.2.2.2.2.2.2.2.1 ?_
              refine Z_go (f2 := (132, [(6, .int (Zi 0)), (5, .int (Zi kk)), (4, .int (Zi kk)), (3, .int (Zi i)), (0, .ref pl), (1, .ref (P.1 r)), (2, .int (Zi b))], [.int (Zi kk), .ref (P.1 3)])) (fun _ => rfl) ?_
              refine C_callV (As := [.int (Zi kk)]) (rest := []) rfl (by decide) rfl (by decide) rfl rfl (by decide +kernel) (Nat.le_of_ble_eq_true rfl) hs (hp.rK (.inl (by omega))) (o_insert' _ hp (r := 3) (.inl (by omega)) (xs := sk) (by simp only [g_sr, g_sf, g_st, g_se, g_su]; repeat (first | rw [g_up_s] | rw [g_up_o (by omega)])) hs.1 (v := kk) v3 zone (by omega) B1) (fun x h w2 n2 hs q => ?_)
              obtain ⟨rfl, ω4, hp, cq⟩ := q
              have cs := cs.tr cq
              rw [g_sr_i] at hp
              show B_R _ _ (135, [(6, .int (Zi 0)), (5, .int (Zi kk)), (4, .int (Zi kk)), (3, .int (Zi i)), (0, .ref pl), (1, .ref (P.1 r)), (2, .int (Zi b))], []) _ _ _
              refine Z_iinc (L2 := [(3, .int (Zi (i + 1))), (6, .int (Zi 0)), (5, .int (Zi kk)), (4, .int (Zi kk)), (0, .ref pl), (1, .ref (P.1 r)), (2, .int (Zi b))]) rfl rfl (by decide) rfl ?_
              refine C_goto (p2 := 13) rfl (by decide +kernel) (by decide +kernel) ?_
              refine B_loc (K := [(3, .int (Zi (i + 1))), (0, .ref pl), (1, .ref (P.1 r)), (2, .int (Zi b))]) (N_all_sub ⟨rfl, rfl, rfl, rfl, trivial⟩) (show ([3, 0, 1, 2] : List Nat).Nodup by decide) ?_
              have hng : ¬ K_go b ks kk := by
                unfold K_go
                rw [hone]
                rintro (⟨a1, a2⟩ | ⟨a1, a2⟩)
                · first | exact absurd a2 (hA2 (by omega)) | omega
                · first | exact absurd a2 (hB2 (by omega)) | omega
              have hiv2 := hiv.keep (one := kk) hS.1 i0 (by omega) (by rw [← ekk]; exact hng) (by rw [← ekk]; exact hone)
              rw [← ekk] at hiv2
              exact ih _ _ h _ _ _ _ (by omega) (by omega) (by omega) hs hp cs hiv2
          · refine Z_go (f2 := (97, [(5, .int (Zi kk)), (4, .int (Zi kk)), (3, .int (Zi i)), (0, .ref pl), (1, .ref (P.1 r)), (2, .int (Zi b))], [.ref pl])) (fun _ => rfl) ?_
            refine C_gr rfl hs hp.1.1.1 (by decide) (Nat.le_of_ble_eq_true rfl) rfl hp.1.1.2.2.2.2.2.2.2.2.1 ?_
            refine Z_go (f2 := (102, [(5, .int (Zi kk)), (4, .int (Zi kk)), (3, .int (Zi i)), (0, .ref pl), (1, .ref (P.1 r)), (2, .int (Zi b))], [.int (Zi kk), .ref (P.1 2)])) (fun _ => rfl) ?_
            refine C_callVR (As := [.int (Zi kk)]) (rest := []) rfl (by decide) rfl (by decide) rfl rfl (by decide +kernel) (Nat.le_of_ble_eq_true rfl) hs (hp.rK (.inl (by omega))) (o_holds' _ hp (r := 2) (.inl (by omega)) hk2 (v := kk) hS.1 zone) (fun x q => ?_)
            obtain ⟨z91, rfl, hz91⟩ := q
            have zz91 : Zr z91 := by rcases hz91 with ⟨e, _⟩ | ⟨e, _⟩ <;> exact ⟨by omega, by omega⟩
            have hB1 : z91 ≠ 0 → kk ∈ ks := fun c => by rcases hz91 with ⟨_, e⟩ | ⟨e, _⟩; exact e; omega
            have hB2 : z91 = 0 → kk ∉ ks := fun c => by rcases hz91 with ⟨e, _⟩ | ⟨_, e⟩; omega; exact e
            show B_R _ _ (105, [(5, .int (Zi kk)), (4, .int (Zi kk)), (3, .int (Zi i)), (0, .ref pl), (1, .ref (P.1 r)), (2, .int (Zi b))], [.int (Zi z91)]) _ _ _
            refine Z_ieq rfl rfl (by first | exact hs.zF _ _ | exact Zor_r _ _ | exact hs.zA _ _ | assumption | exact zA _ _ | exact zS _ | exact Zr_not (hs.zA _ _) | exact hs.1.1 _ _ | exact ⟨by omega, by omega⟩) (fun y33 => ?_) (fun y33 => ?_)
            · refine Z_go (f2 := (113, [(5, .int (Zi kk)), (4, .int (Zi kk)), (3, .int (Zi i)), (0, .ref pl), (1, .ref (P.1 r)), (2, .int (Zi b))], [.int (Zi 0)])) (fun _ => rfl) ?_
              refine Z_go (f2 := (115, [(6, .int (Zi 0)), (5, .int (Zi kk)), (4, .int (Zi kk)), (3, .int (Zi i)), (0, .ref pl), (1, .ref (P.1 r)), (2, .int (Zi b))], [])) (fun _ => rfl) ?_
              refine Z_go (f2 := (117, [(6, .int (Zi 0)), (5, .int (Zi kk)), (4, .int (Zi kk)), (3, .int (Zi i)), (0, .ref pl), (1, .ref (P.1 r)), (2, .int (Zi b))], [.int (Zi 0)])) (fun _ => rfl) ?_
              refine Z_ine rfl rfl (by first | exact hs.zF _ _ | exact Zor_r _ _ | exact hs.zA _ _ | assumption | exact zA _ _ | exact zS _ | exact Zr_not (hs.zA _ _) | exact hs.1.1 _ _ | exact ⟨by omega, by omega⟩) (fun y34 => ?_) (fun y34 => ?_)
              · exfalso; omega
              · refine Z_go (f2 := (121, [(6, .int (Zi 0)), (5, .int (Zi kk)), (4, .int (Zi kk)), (3, .int (Zi i)), (0, .ref pl), (1, .ref (P.1 r)), (2, .int (Zi b))], [.ref (P.1 r)])) (fun _ => rfl) ?_
                refine Z_go (f2 := (123, [(6, .int (Zi 0)), (5, .int (Zi kk)), (4, .int (Zi kk)), (3, .int (Zi i)), (0, .ref pl), (1, .ref (P.1 r)), (2, .int (Zi b))], [.int (Zi kk), .ref (P.1 r)])) (fun _ => rfl) ?_
                refine C_callV (As := [.int (Zi kk)]) (rest := []) rfl (by decide) rfl (by decide) rfl rfl (by decide +kernel) (Nat.le_of_ble_eq_true rfl) hs (hp.rK hr) (o_push' _ hp hr (xs := kp) (by simp only [g_sr, g_sf, g_st, g_se, g_su]; repeat (first | rw [g_up_s] | rw [g_up_o (by omega)])) hs.1 (v := kk) zkk (by omega) B1) (fun x h w1 n1 hs q => ?_)
                obtain ⟨rfl, ω3, hp, cq⟩ := q
                have cs := cs.tr cq
                rw [g_sr_c (by omega), g_sr_i] at hp
                show B_R _ _ (126, [(6, .int (Zi 0)), (5, .int (Zi kk)), (4, .int (Zi kk)), (3, .int (Zi i)), (0, .ref pl), (1, .ref (P.1 r)), (2, .int (Zi b))], []) _ _ _
                refine Z_go (f2 := (127, [(6, .int (Zi 0)), (5, .int (Zi kk)), (4, .int (Zi kk)), (3, .int (Zi i)), (0, .ref pl), (1, .ref (P.1 r)), (2, .int (Zi b))], [.ref pl])) (fun _ => rfl) ?_
                refine C_gr rfl hs hp.1.1.1 (by decide) (Nat.le_of_ble_eq_true rfl) rfl hp.1.1.2.2.2.2.2.2.2.2.2.1 ?_
                refine Z_go (f2 := (132, [(6, .int (Zi 0)), (5, .int (Zi kk)), (4, .int (Zi kk)), (3, .int (Zi i)), (0, .ref pl), (1, .ref (P.1 r)), (2, .int (Zi b))], [.int (Zi kk), .ref (P.1 3)])) (fun _ => rfl) ?_
                refine C_callV (As := [.int (Zi kk)]) (rest := []) rfl (by decide) rfl (by decide) rfl rfl (by decide +kernel) (Nat.le_of_ble_eq_true rfl) hs (hp.rK (.inl (by omega))) (o_insert' _ hp (r := 3) (.inl (by omega)) (xs := sk) (by simp only [g_sr, g_sf, g_st, g_se, g_su]; repeat (first | rw [g_up_s] | rw [g_up_o (by omega)])) hs.1 (v := kk) v3 zone (by omega) B1) (fun x h w2 n2 hs q => ?_)
                obtain ⟨rfl, ω4, hp, cq⟩ := q
                have cs := cs.tr cq
                rw [g_sr_i] at hp
                show B_R _ _ (135, [(6, .int (Zi 0)), (5, .int (Zi kk)), (4, .int (Zi kk)), (3, .int (Zi i)), (0, .ref pl), (1, .ref (P.1 r)), (2, .int (Zi b))], []) _ _ _
                refine Z_iinc (L2 := [(3, .int (Zi (i + 1))), (6, .int (Zi 0)), (5, .int (Zi kk)), (4, .int (Zi kk)), (0, .ref pl), (1, .ref (P.1 r)), (2, .int (Zi b))]) rfl rfl (by decide) rfl ?_
                refine C_goto (p2 := 13) rfl (by decide +kernel) (by decide +kernel) ?_
                refine B_loc (K := [(3, .int (Zi (i + 1))), (0, .ref pl), (1, .ref (P.1 r)), (2, .int (Zi b))]) (N_all_sub ⟨rfl, rfl, rfl, rfl, trivial⟩) (show ([3, 0, 1, 2] : List Nat).Nodup by decide) ?_
                have hng : ¬ K_go b ks kk := by
                  unfold K_go
                  rw [hone]
                  rintro (⟨a1, a2⟩ | ⟨a1, a2⟩)
                  · first | exact absurd a2 (hA2 (by omega)) | omega
                  · first | exact absurd a2 (hB2 (by omega)) | omega
                have hiv2 := hiv.keep (one := kk) hS.1 i0 (by omega) (by rw [← ekk]; exact hng) (by rw [← ekk]; exact hone)
                rw [← ekk] at hiv2
                exact ih _ _ h _ _ _ _ (by omega) (by omega) (by omega) hs hp cs hiv2
            · refine Z_go (f2 := (109, [(5, .int (Zi kk)), (4, .int (Zi kk)), (3, .int (Zi i)), (0, .ref pl), (1, .ref (P.1 r)), (2, .int (Zi b))], [.int (Zi 1)])) (fun _ => rfl) ?_
              refine Z_go (f2 := (113, [(5, .int (Zi kk)), (4, .int (Zi kk)), (3, .int (Zi i)), (0, .ref pl), (1, .ref (P.1 r)), (2, .int (Zi b))], [.int (Zi 1)])) (fun _ => rfl) ?_
              refine Z_go (f2 := (115, [(6, .int (Zi 1)), (5, .int (Zi kk)), (4, .int (Zi kk)), (3, .int (Zi i)), (0, .ref pl), (1, .ref (P.1 r)), (2, .int (Zi b))], [])) (fun _ => rfl) ?_
              refine Z_go (f2 := (117, [(6, .int (Zi 1)), (5, .int (Zi kk)), (4, .int (Zi kk)), (3, .int (Zi i)), (0, .ref pl), (1, .ref (P.1 r)), (2, .int (Zi b))], [.int (Zi 1)])) (fun _ => rfl) ?_
              refine Z_ine rfl rfl (by first | exact hs.zF _ _ | exact Zor_r _ _ | exact hs.zA _ _ | assumption | exact zA _ _ | exact zS _ | exact Zr_not (hs.zA _ _) | exact hs.1.1 _ _ | exact ⟨by omega, by omega⟩) (fun y35 => ?_) (fun y35 => ?_)
              · refine Z_iinc (L2 := [(3, .int (Zi (i + 1))), (6, .int (Zi 1)), (5, .int (Zi kk)), (4, .int (Zi kk)), (0, .ref pl), (1, .ref (P.1 r)), (2, .int (Zi b))]) rfl rfl (by decide) rfl ?_
                refine C_goto (p2 := 13) rfl (by decide +kernel) (by decide +kernel) ?_
                refine B_loc (K := [(3, .int (Zi (i + 1))), (0, .ref pl), (1, .ref (P.1 r)), (2, .int (Zi b))]) (N_all_sub ⟨rfl, rfl, rfl, rfl, trivial⟩) (show ([3, 0, 1, 2] : List Nat).Nodup by decide) ?_
                refine ih _ u h sl ω2 kp sk (by omega) (by omega) (by omega) hs hp cs (hiv.skip i0 (by omega) ?_)
                rw [← ekk]
                unfold K_go
                rw [hone]
                first | exact .inl ⟨by omega, hA1 (by omega)⟩ | exact .inr ⟨by omega, hB1 (by omega)⟩
              · exfalso; omega
        · refine Z_go (f2 := (79, [(5, .int (Zi kk)), (4, .int (Zi kk)), (3, .int (Zi i)), (0, .ref pl), (1, .ref (P.1 r)), (2, .int (Zi b))], [.ref pl])) (fun _ => rfl) ?_
          refine C_gr rfl hs hp.1.1.1 (by decide) (Nat.le_of_ble_eq_true rfl) rfl hp.1.1.2.2.2.2.2.2.2.2.1 ?_
          refine Z_go (f2 := (83, [(5, .int (Zi kk)), (4, .int (Zi kk)), (3, .int (Zi i)), (0, .ref pl), (1, .ref (P.1 r)), (2, .int (Zi b))], [.int (Zi 0), .ref (P.1 2)])) (fun _ => rfl) ?_
          refine C_callVR (As := [.int (Zi 0)]) (rest := []) rfl (by decide) rfl (by decide) rfl rfl (by decide +kernel) (Nat.le_of_ble_eq_true rfl) hs (hp.rK (.inl (by omega))) (o_holds' _ hp (r := 2) (.inl (by omega)) hk2 (v := 0) hS.1 ⟨by omega, by omega⟩) (fun x q => ?_)
          obtain ⟨z92, rfl, hz92⟩ := q
          have zz92 : Zr z92 := by rcases hz92 with ⟨e, _⟩ | ⟨e, _⟩ <;> exact ⟨by omega, by omega⟩
          have hA1 : z92 ≠ 0 → (0 : Int) ∈ ks := fun c => by rcases hz92 with ⟨_, e⟩ | ⟨e, _⟩; exact e; omega
          have hA2 : z92 = 0 → (0 : Int) ∉ ks := fun c => by rcases hz92 with ⟨e, _⟩ | ⟨_, e⟩; omega; exact e
          show B_R _ _ (86, [(5, .int (Zi kk)), (4, .int (Zi kk)), (3, .int (Zi i)), (0, .ref pl), (1, .ref (P.1 r)), (2, .int (Zi b))], [.int (Zi z92)]) _ _ _
          refine Z_ine rfl rfl (by first | exact hs.zF _ _ | exact Zor_r _ _ | exact hs.zA _ _ | assumption | exact zA _ _ | exact zS _ | exact Zr_not (hs.zA _ _) | exact hs.1.1 _ _ | exact ⟨by omega, by omega⟩) (fun y36 => ?_) (fun y36 => ?_)
          · refine Z_go (f2 := (109, [(5, .int (Zi kk)), (4, .int (Zi kk)), (3, .int (Zi i)), (0, .ref pl), (1, .ref (P.1 r)), (2, .int (Zi b))], [.int (Zi 1)])) (fun _ => rfl) ?_
            refine Z_go (f2 := (113, [(5, .int (Zi kk)), (4, .int (Zi kk)), (3, .int (Zi i)), (0, .ref pl), (1, .ref (P.1 r)), (2, .int (Zi b))], [.int (Zi 1)])) (fun _ => rfl) ?_
            refine Z_go (f2 := (115, [(6, .int (Zi 1)), (5, .int (Zi kk)), (4, .int (Zi kk)), (3, .int (Zi i)), (0, .ref pl), (1, .ref (P.1 r)), (2, .int (Zi b))], [])) (fun _ => rfl) ?_
            refine Z_go (f2 := (117, [(6, .int (Zi 1)), (5, .int (Zi kk)), (4, .int (Zi kk)), (3, .int (Zi i)), (0, .ref pl), (1, .ref (P.1 r)), (2, .int (Zi b))], [.int (Zi 1)])) (fun _ => rfl) ?_
            refine Z_ine rfl rfl (by first | exact hs.zF _ _ | exact Zor_r _ _ | exact hs.zA _ _ | assumption | exact zA _ _ | exact zS _ | exact Zr_not (hs.zA _ _) | exact hs.1.1 _ _ | exact ⟨by omega, by omega⟩) (fun y37 => ?_) (fun y37 => ?_)
            · refine Z_iinc (L2 := [(3, .int (Zi (i + 1))), (6, .int (Zi 1)), (5, .int (Zi kk)), (4, .int (Zi kk)), (0, .ref pl), (1, .ref (P.1 r)), (2, .int (Zi b))]) rfl rfl (by decide) rfl ?_
              refine C_goto (p2 := 13) rfl (by decide +kernel) (by decide +kernel) ?_
              refine B_loc (K := [(3, .int (Zi (i + 1))), (0, .ref pl), (1, .ref (P.1 r)), (2, .int (Zi b))]) (N_all_sub ⟨rfl, rfl, rfl, rfl, trivial⟩) (show ([3, 0, 1, 2] : List Nat).Nodup by decide) ?_
              refine ih _ u h sl ω2 kp sk (by omega) (by omega) (by omega) hs hp cs (hiv.skip i0 (by omega) ?_)
              rw [← ekk]
              unfold K_go
              rw [hone]
              first | exact .inl ⟨by omega, hA1 (by omega)⟩ | exact .inr ⟨by omega, hB1 (by omega)⟩
            · exfalso; omega
          · refine Z_go (f2 := (91, [(5, .int (Zi kk)), (4, .int (Zi kk)), (3, .int (Zi i)), (0, .ref pl), (1, .ref (P.1 r)), (2, .int (Zi b))], [.int (Zi kk)])) (fun _ => rfl) ?_
            refine Z_go (f2 := (93, [(5, .int (Zi kk)), (4, .int (Zi kk)), (3, .int (Zi i)), (0, .ref pl), (1, .ref (P.1 r)), (2, .int (Zi b))], [.int (Zi kk), .int (Zi kk)])) (fun _ => rfl) ?_
            refine Z_ceq rfl rfl (by first | exact hs.zF _ _ | exact Zor_r _ _ | exact hs.zA _ _ | assumption | exact zA _ _ | exact zS _ | exact Zr_not (hs.zA _ _) | exact hs.1.1 _ _ | exact ⟨by omega, by omega⟩) (by first | exact hs.zF _ _ | exact Zor_r _ _ | exact hs.zA _ _ | assumption | exact zA _ _ | exact zS _ | exact Zr_not (hs.zA _ _) | exact hs.1.1 _ _ | exact ⟨by omega, by omega⟩) (fun y38 => ?_) (fun y38 => ?_)
            · refine Z_go (f2 := (113, [(5, .int (Zi kk)), (4, .int (Zi kk)), (3, .int (Zi i)), (0, .ref pl), (1, .ref (P.1 r)), (2, .int (Zi b))], [.int (Zi 0)])) (fun _ => rfl) ?_
              refine Z_go (f2 := (115, [(6, .int (Zi 0)), (5, .int (Zi kk)), (4, .int (Zi kk)), (3, .int (Zi i)), (0, .ref pl), (1, .ref (P.1 r)), (2, .int (Zi b))], [])) (fun _ => rfl) ?_
              refine Z_go (f2 := (117, [(6, .int (Zi 0)), (5, .int (Zi kk)), (4, .int (Zi kk)), (3, .int (Zi i)), (0, .ref pl), (1, .ref (P.1 r)), (2, .int (Zi b))], [.int (Zi 0)])) (fun _ => rfl) ?_
              refine Z_ine rfl rfl (by first | exact hs.zF _ _ | exact Zor_r _ _ | exact hs.zA _ _ | assumption | exact zA _ _ | exact zS _ | exact Zr_not (hs.zA _ _) | exact hs.1.1 _ _ | exact ⟨by omega, by omega⟩) (fun y39 => ?_) (fun y39 => ?_)
              · exfalso; omega
              · refine Z_go (f2 := (121, [(6, .int (Zi 0)), (5, .int (Zi kk)), (4, .int (Zi kk)), (3, .int (Zi i)), (0, .ref pl), (1, .ref (P.1 r)), (2, .int (Zi b))], [.ref (P.1 r)])) (fun _ => rfl) ?_
                refine Z_go (f2 := (123, [(6, .int (Zi 0)), (5, .int (Zi kk)), (4, .int (Zi kk)), (3, .int (Zi i)), (0, .ref pl), (1, .ref (P.1 r)), (2, .int (Zi b))], [.int (Zi kk), .ref (P.1 r)])) (fun _ => rfl) ?_
                refine C_callV (As := [.int (Zi kk)]) (rest := []) rfl (by decide) rfl (by decide) rfl rfl (by decide +kernel) (Nat.le_of_ble_eq_true rfl) hs (hp.rK hr) (o_push' _ hp hr (xs := kp) (by simp only [g_sr, g_sf, g_st, g_se, g_su]; repeat (first | rw [g_up_s] | rw [g_up_o (by omega)])) hs.1 (v := kk) zkk (by omega) B1) (fun x h w1 n1 hs q => ?_)
                obtain ⟨rfl, ω3, hp, cq⟩ := q
                have cs := cs.tr cq
                rw [g_sr_c (by omega), g_sr_i] at hp
                show B_R _ _ (126, [(6, .int (Zi 0)), (5, .int (Zi kk)), (4, .int (Zi kk)), (3, .int (Zi i)), (0, .ref pl), (1, .ref (P.1 r)), (2, .int (Zi b))], []) _ _ _
                refine Z_go (f2 := (127, [(6, .int (Zi 0)), (5, .int (Zi kk)), (4, .int (Zi kk)), (3, .int (Zi i)), (0, .ref pl), (1, .ref (P.1 r)), (2, .int (Zi b))], [.ref pl])) (fun _ => rfl) ?_
                refine C_gr rfl hs hp.1.1.1 (by decide) (Nat.le_of_ble_eq_true rfl) rfl hp.1.1.2.2.2.2.2.2.2.2.2.1 ?_
                refine Z_go (f2 := (132, [(6, .int (Zi 0)), (5, .int (Zi kk)), (4, .int (Zi kk)), (3, .int (Zi i)), (0, .ref pl), (1, .ref (P.1 r)), (2, .int (Zi b))], [.int (Zi kk), .ref (P.1 3)])) (fun _ => rfl) ?_
                refine C_callV (As := [.int (Zi kk)]) (rest := []) rfl (by decide) rfl (by decide) rfl rfl (by decide +kernel) (Nat.le_of_ble_eq_true rfl) hs (hp.rK (.inl (by omega))) (o_insert' _ hp (r := 3) (.inl (by omega)) (xs := sk) (by simp only [g_sr, g_sf, g_st, g_se, g_su]; repeat (first | rw [g_up_s] | rw [g_up_o (by omega)])) hs.1 (v := kk) v3 zone (by omega) B1) (fun x h w2 n2 hs q => ?_)
                obtain ⟨rfl, ω4, hp, cq⟩ := q
                have cs := cs.tr cq
                rw [g_sr_i] at hp
                show B_R _ _ (135, [(6, .int (Zi 0)), (5, .int (Zi kk)), (4, .int (Zi kk)), (3, .int (Zi i)), (0, .ref pl), (1, .ref (P.1 r)), (2, .int (Zi b))], []) _ _ _
                refine Z_iinc (L2 := [(3, .int (Zi (i + 1))), (6, .int (Zi 0)), (5, .int (Zi kk)), (4, .int (Zi kk)), (0, .ref pl), (1, .ref (P.1 r)), (2, .int (Zi b))]) rfl rfl (by decide) rfl ?_
                refine C_goto (p2 := 13) rfl (by decide +kernel) (by decide +kernel) ?_
                refine B_loc (K := [(3, .int (Zi (i + 1))), (0, .ref pl), (1, .ref (P.1 r)), (2, .int (Zi b))]) (N_all_sub ⟨rfl, rfl, rfl, rfl, trivial⟩) (show ([3, 0, 1, 2] : List Nat).Nodup by decide) ?_
                have hng : ¬ K_go b ks kk := by
                  unfold K_go
                  rw [hone]
                  rintro (⟨a1, a2⟩ | ⟨a1, a2⟩)
                  · first | exact absurd a2 (hA2 (by omega)) | omega
                  · first | exact absurd a2 (hB2 (by omega)) | omega
                have hiv2 := hiv.keep (one := kk) hS.1 i0 (by omega) (by rw [← ekk]; exact hng) (by rw [← ekk]; exact hone)
                rw [← ekk] at hiv2
                exact ih _ _ h _ _ _ _ (by omega) (by omega) (by omega) hs hp cs hiv2
            · refine Z_go (f2 := (97, [(5, .int (Zi kk)), (4, .int (Zi kk)), (3, .int (Zi i)), (0, .ref pl), (1, .ref (P.1 r)), (2, .int (Zi b))], [.ref pl])) (fun _ => rfl) ?_
              refine C_gr rfl hs hp.1.1.1 (by decide) (Nat.le_of_ble_eq_true rfl) rfl hp.1.1.2.2.2.2.2.2.2.2.1 ?_
              refine Z_go (f2 := (102, [(5, .int (Zi kk)), (4, .int (Zi kk)), (3, .int (Zi i)), (0, .ref pl), (1, .ref (P.1 r)), (2, .int (Zi b))], [.int (Zi kk), .ref (P.1 2)])) (fun _ => rfl) ?_
              refine C_callVR (As := [.int (Zi kk)]) (rest := []) rfl (by decide) rfl (by decide) rfl rfl (by decide +kernel) (Nat.le_of_ble_eq_true rfl) hs (hp.rK (.inl (by omega))) (o_holds' _ hp (r := 2) (.inl (by omega)) hk2 (v := kk) hS.1 zone) (fun x q => ?_)
              obtain ⟨z93, rfl, hz93⟩ := q
              have zz93 : Zr z93 := by rcases hz93 with ⟨e, _⟩ | ⟨e, _⟩ <;> exact ⟨by omega, by omega⟩
              have hB1 : z93 ≠ 0 → kk ∈ ks := fun c => by rcases hz93 with ⟨_, e⟩ | ⟨e, _⟩; exact e; omega
              have hB2 : z93 = 0 → kk ∉ ks := fun c => by rcases hz93 with ⟨e, _⟩ | ⟨_, e⟩; omega; exact e
              show B_R _ _ (105, [(5, .int (Zi kk)), (4, .int (Zi kk)), (3, .int (Zi i)), (0, .ref pl), (1, .ref (P.1 r)), (2, .int (Zi b))], [.int (Zi z93)]) _ _ _
              refine Z_ieq rfl rfl (by first | exact hs.zF _ _ | exact Zor_r _ _ | exact hs.zA _ _ | assumption | exact zA _ _ | exact zS _ | exact Zr_not (hs.zA _ _) | exact hs.1.1 _ _ | exact ⟨by omega, by omega⟩) (fun y40 => ?_) (fun y40 => ?_)
              · refine Z_go (f2 := (113, [(5, .int (Zi kk)), (4, .int (Zi kk)), (3, .int (Zi i)), (0, .ref pl), (1, .ref (P.1 r)), (2, .int (Zi b))], [.int (Zi 0)])) (fun _ => rfl) ?_
                refine Z_go (f2 := (115, [(6, .int (Zi 0)), (5, .int (Zi kk)), (4, .int (Zi kk)), (3, .int (Zi i)), (0, .ref pl), (1, .ref (P.1 r)), (2, .int (Zi b))], [])) (fun _ => rfl) ?_
                refine Z_go (f2 := (117, [(6, .int (Zi 0)), (5, .int (Zi kk)), (4, .int (Zi kk)), (3, .int (Zi i)), (0, .ref pl), (1, .ref (P.1 r)), (2, .int (Zi b))], [.int (Zi 0)])) (fun _ => rfl) ?_
                refine Z_ine rfl rfl (by first | exact hs.zF _ _ | exact Zor_r _ _ | exact hs.zA _ _ | assumption | exact zA _ _ | exact zS _ | exact Zr_not (hs.zA _ _) | exact hs.1.1 _ _ | exact ⟨by omega, by omega⟩) (fun y41 => ?_) (fun y41 => ?_)
                · exfalso; omega
                · refine Z_go (f2 := (121, [(6, .int (Zi 0)), (5, .int (Zi kk)), (4, .int (Zi kk)), (3, .int (Zi i)), (0, .ref pl), (1, .ref (P.1 r)), (2, .int (Zi b))], [.ref (P.1 r)])) (fun _ => rfl) ?_
                  refine Z_go (f2 := (123, [(6, .int (Zi 0)), (5, .int (Zi kk)), (4, .int (Zi kk)), (3, .int (Zi i)), (0, .ref pl), (1, .ref (P.1 r)), (2, .int (Zi b))], [.int (Zi kk), .ref (P.1 r)])) (fun _ => rfl) ?_
                  refine C_callV (As := [.int (Zi kk)]) (rest := []) rfl (by decide) rfl (by decide) rfl rfl (by decide +kernel) (Nat.le_of_ble_eq_true rfl) hs (hp.rK hr) (o_push' _ hp hr (xs := kp) (by simp only [g_sr, g_sf, g_st, g_se, g_su]; repeat (first | rw [g_up_s] | rw [g_up_o (by omega)])) hs.1 (v := kk) zkk (by omega) B1) (fun x h w1 n1 hs q => ?_)
                  obtain ⟨rfl, ω3, hp, cq⟩ := q
                  have cs := cs.tr cq
                  rw [g_sr_c (by omega), g_sr_i] at hp
                  show B_R _ _ (126, [(6, .int (Zi 0)), (5, .int (Zi kk)), (4, .int (Zi kk)), (3, .int (Zi i)), (0, .ref pl), (1, .ref (P.1 r)), (2, .int (Zi b))], []) _ _ _
                  refine Z_go (f2 := (127, [(6, .int (Zi 0)), (5, .int (Zi kk)), (4, .int (Zi kk)), (3, .int (Zi i)), (0, .ref pl), (1, .ref (P.1 r)), (2, .int (Zi b))], [.ref pl])) (fun _ => rfl) ?_
                  refine C_gr rfl hs hp.1.1.1 (by decide) (Nat.le_of_ble_eq_true rfl) rfl hp.1.1.2.2.2.2.2.2.2.2.2.1 ?_
                  refine Z_go (f2 := (132, [(6, .int (Zi 0)), (5, .int (Zi kk)), (4, .int (Zi kk)), (3, .int (Zi i)), (0, .ref pl), (1, .ref (P.1 r)), (2, .int (Zi b))], [.int (Zi kk), .ref (P.1 3)])) (fun _ => rfl) ?_
                  refine C_callV (As := [.int (Zi kk)]) (rest := []) rfl (by decide) rfl (by decide) rfl rfl (by decide +kernel) (Nat.le_of_ble_eq_true rfl) hs (hp.rK (.inl (by omega))) (o_insert' _ hp (r := 3) (.inl (by omega)) (xs := sk) (by simp only [g_sr, g_sf, g_st, g_se, g_su]; repeat (first | rw [g_up_s] | rw [g_up_o (by omega)])) hs.1 (v := kk) v3 zone (by omega) B1) (fun x h w2 n2 hs q => ?_)
                  obtain ⟨rfl, ω4, hp, cq⟩ := q
                  have cs := cs.tr cq
                  rw [g_sr_i] at hp
                  show B_R _ _ (135, [(6, .int (Zi 0)), (5, .int (Zi kk)), (4, .int (Zi kk)), (3, .int (Zi i)), (0, .ref pl), (1, .ref (P.1 r)), (2, .int (Zi b))], []) _ _ _
                  refine Z_iinc (L2 := [(3, .int (Zi (i + 1))), (6, .int (Zi 0)), (5, .int (Zi kk)), (4, .int (Zi kk)), (0, .ref pl), (1, .ref (P.1 r)), (2, .int (Zi b))]) rfl rfl (by decide) rfl ?_
                  refine C_goto (p2 := 13) rfl (by decide +kernel) (by decide +kernel) ?_
                  refine B_loc (K := [(3, .int (Zi (i + 1))), (0, .ref pl), (1, .ref (P.1 r)), (2, .int (Zi b))]) (N_all_sub ⟨rfl, rfl, rfl, rfl, trivial⟩) (show ([3, 0, 1, 2] : List Nat).Nodup by decide) ?_
                  have hng : ¬ K_go b ks kk := by
                    unfold K_go
                    rw [hone]
                    rintro (⟨a1, a2⟩ | ⟨a1, a2⟩)
                    · first | exact absurd a2 (hA2 (by omega)) | omega
                    · first | exact absurd a2 (hB2 (by omega)) | omega
                  have hiv2 := hiv.keep (one := kk) hS.1 i0 (by omega) (by rw [← ekk]; exact hng) (by rw [← ekk]; exact hone)
                  rw [← ekk] at hiv2
                  exact ih _ _ h _ _ _ _ (by omega) (by omega) (by omega) hs hp cs hiv2
              · refine Z_go (f2 := (109, [(5, .int (Zi kk)), (4, .int (Zi kk)), (3, .int (Zi i)), (0, .ref pl), (1, .ref (P.1 r)), (2, .int (Zi b))], [.int (Zi 1)])) (fun _ => rfl) ?_
                refine Z_go (f2 := (113, [(5, .int (Zi kk)), (4, .int (Zi kk)), (3, .int (Zi i)), (0, .ref pl), (1, .ref (P.1 r)), (2, .int (Zi b))], [.int (Zi 1)])) (fun _ => rfl) ?_
                refine Z_go (f2 := (115, [(6, .int (Zi 1)), (5, .int (Zi kk)), (4, .int (Zi kk)), (3, .int (Zi i)), (0, .ref pl), (1, .ref (P.1 r)), (2, .int (Zi b))], [])) (fun _ => rfl) ?_
                refine Z_go (f2 := (117, [(6, .int (Zi 1)), (5, .int (Zi kk)), (4, .int (Zi kk)), (3, .int (Zi i)), (0, .ref pl), (1, .ref (P.1 r)), (2, .int (Zi b))], [.int (Zi 1)])) (fun _ => rfl) ?_
                refine Z_ine rfl rfl (by first | exact hs.zF _ _ | exact Zor_r _ _ | exact hs.zA _ _ | assumption | exact zA _ _ | exact zS _ | exact Zr_not (hs.zA _ _) | exact hs.1.1 _ _ | exact ⟨by omega, by omega⟩) (fun y42 => ?_) (fun y42 => ?_)
                · refine Z_iinc (L2 := [(3, .int (Zi (i + 1))), (6, .int (Zi 1)), (5, .int (Zi kk)), (4, .int (Zi kk)), (0, .ref pl), (1, .ref (P.1 r)), (2, .int (Zi b))]) rfl rfl (by decide) rfl ?_
                  refine C_goto (p2 := 13) rfl (by decide +kernel) (by decide +kernel) ?_
                  refine B_loc (K := [(3, .int (Zi (i + 1))), (0, .ref pl), (1, .ref (P.1 r)), (2, .int (Zi b))]) (N_all_sub ⟨rfl, rfl, rfl, rfl, trivial⟩) (show ([3, 0, 1, 2] : List Nat).Nodup by decide) ?_
                  refine ih _ u h sl ω2 kp sk (by omega) (by omega) (by omega) hs hp cs (hiv.skip i0 (by omega) ?_)
                  rw [← ekk]
                  unfold K_go
                  rw [hone]
                  first | exact .inl ⟨by omega, hA1 (by omega)⟩ | exact .inr ⟨by omega, hB1 (by omega)⟩
                · exfalso; omega
theorem C_short (d : Nat) {s : C_S} {pp : List Nat} {pl tr B : Nat} {G : G_t} {P : G_p} {ω : Nat → Nat} {r : Nat} {b : Int} {ks : List Int} {S : P_X} (hp : D_Pl s pp pl tr B G P ω) (B0 : 1280 ≤ B) (B1 : B ≤ 20000) (hr : Pl_hr P r) (r4 : 4 ≤ r) (hb : b = 0 ∨ b = 1) (hks : G.1 2 = ks) (hS : K_is S ks) (hl : ks.length ≤ 200) : C_ok (d + 4) 75 [.ref pl, .ref (P.1 r), .int (Zi b)] s (fun x s2 n => x = none ∧ ∃ ys sk, K_is (E_bb b S) ys ∧ ys.length ≤ 12 ∧ D_ch pp pl tr B s P ω (g_sr (g_sr G r ys) 3 sk) s2 n) := by
  refine C_enter (M := E_m75) rfl (Nat.le_of_ble_eq_true rfl) (fun h0 h hs => ?_)
  show B_R (d + 3) _ (0, [(0, .ref pl), (1, .ref (P.1 r)), (2, .int (Zi b))], []) _ _ _
  have cs := D_cs.refl pp s ω
  refine Z_go (f2 := (1, [(0, .ref pl), (1, .ref (P.1 r)), (2, .int (Zi b))], [.ref (P.1 r)])) (fun _ => rfl) ?_
  refine C_callV (As := []) (rest := []) rfl (by decide) rfl (by decide) rfl rfl (by decide +kernel) (Nat.le_of_ble_eq_true rfl) hs (hp.rK hr) (o_clear _ hp hr hs.1) (fun x h v94 n94 hs q => ?_)
  obtain ⟨rfl, ω4, hp, cq⟩ := q
  have cs := cs.tr cq
  show B_R _ _ (4, [(0, .ref pl), (1, .ref (P.1 r)), (2, .int (Zi b))], []) _ _ _
  refine Z_go (f2 := (5, [(0, .ref pl), (1, .ref (P.1 r)), (2, .int (Zi b))], [.ref pl])) (fun _ => rfl) ?_
  refine C_gr rfl hs hp.1.1.1 (by decide) (Nat.le_of_ble_eq_true rfl) rfl hp.1.1.2.2.2.2.2.2.2.2.2.1 ?_
  refine C_callV (As := []) (rest := []) rfl (by decide) rfl (by decide) rfl rfl (by decide +kernel) (Nat.le_of_ble_eq_true rfl) hs (hp.rK (.inl (by omega))) (o_clear _ hp (r := 3) (.inl (by omega)) hs.1) (fun x h v95 n95 hs q => ?_)
  obtain ⟨rfl, ω4, hp, cq⟩ := q
  have cs := cs.tr cq
  show B_R _ _ (11, [(0, .ref pl), (1, .ref (P.1 r)), (2, .int (Zi b))], []) _ _ _
  refine Z_go (f2 := (12, [(0, .ref pl), (1, .ref (P.1 r)), (2, .int (Zi b))], [.int (Zi 0)])) (fun _ => rfl) ?_
  refine Z_go (f2 := (13, [(3, .int (Zi 0)), (0, .ref pl), (1, .ref (P.1 r)), (2, .int (Zi b))], [])) (fun _ => rfl) ?_
  refine B_loc (K := [(3, .int (Zi 0)), (0, .ref pl), (1, .ref (P.1 r)), (2, .int (Zi b))]) (N_all_sub ⟨rfl, rfl, rfl, rfl, trivial⟩) (show ([3, 0, 1, 2] : List Nat).Nodup by decide) ?_
  exact C_short1 B0 B1 hr r4 hb hks hS hl (ks.length + 2) 0 _ h _ _ [] [] (by omega) (by omega) (by omega) hs hp cs K_iv.nil
