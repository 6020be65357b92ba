/-! the class: Planner: texts behind texts, texts beside texts -/
theorem X_so_nd {xs : List (List Int)} (h : X_so xs) : xs.Nodup := by
  rw [List.nodup_iff_pairwise_ne, List.pairwise_iff_getElem]
  intro i j hi hj hij e
  have := h i j (by omega) (by omega) (by omega)
  have ei : X_at xs (i : Int) = xs[i] := by
    unfold X_at
    rw [List.getD_eq_getElem?_getD, Int.toNat_natCast, List.getElem?_eq_getElem hi]
    rfl
  have ej : X_at xs (j : Int) = xs[j] := by
    unfold X_at
    rw [List.getD_eq_getElem?_getD, Int.toNat_natCast, List.getElem?_eq_getElem hj]
    rfl
  rw [ei, ej, e] at this
  exact L_lt_irr _ this
theorem X_so_nil : X_so [] := fun a b a0 ab bl => by have : b < ((0 : Nat) : Int) := bl; omega
/-- too many -/
theorem F_fit_no {S : P_X} {zs : List (List Int)} {x : List Int} (hn : zs.Nodup) (hz : ∀ z ∈ zs, S z) (hx : S x) (hxz : x ∉ zs) (hl : zs.length = 8) : ¬ F_fit S := by
  rintro ⟨⟨l, l8, hl2⟩, _⟩
  have h1 : S_card (fun y => y ∈ zs ++ [x]) 8 := ⟨l, l8, fun y hy => by
    rcases List.mem_append.mp hy with h | h
    · exact hl2 y (hz y h)
    · rw [List.mem_singleton.mp h]; exact hl2 x hx⟩
  have h2 := (S_card_of (A := fun y => y ∈ zs ++ [x]) (l := zs ++ [x]) (List.nodup_append.mpr ⟨hn, List.nodup_cons.mpr ⟨List.not_mem_nil, List.nodup_nil⟩, fun a ha b hb e => by rw [List.mem_singleton] at hb; rw [hb] at e; rw [e] at ha; exact hxz ha⟩) (fun y => Iff.rfl) 8).mp h1
  rw [List.length_append, hl] at h2
  have : 8 + 1 ≤ 8 := h2
  omega
section CP
variable {s : C_S} {pp : List Nat} {pl tr B : Nat} {G : G_t} {P : G_p} {ω : Nat → Nat}
theorem D_Pl.by0 (h : D_Pl s pp pl tr B G P ω) : D_by s P.2.2.2.2.2.2 60 [] := ⟨h.1.2.2.1.1, Nat.zero_le _, fun x hx => absurd hx List.not_mem_nil, fun k k0 k1 => by have : k < ((0 : Nat) : Int) := k1; omega⟩
theorem o_cpT (d : Nat) (h : D_Pl s pp pl tr B G P ω) {t : Nat} (ht : Pl_ht P t) {xs : List (List Int)} (et : G.2.2.1 t = xs) (w : C_wf s) {i fr : Int} (i0 : 0 ≤ i) (i1 : i < xs.length) {X : List Int} (hx : D_by s P.2.2.2.2.2.2 60 X) (hf : fr = X.length) (hl : X.length + (X_at xs i).length ≤ 60) : C_ok (d + 3) 113 [.ref (P.2.2.1 t), .int (Zi i), .ref P.2.2.2.2.2.2, .int (Zi fr)] s (fun x s2 n => x = some (.int (Zi (fr + (X_at xs i).length))) ∧ D_ch pp pl tr B s P ω G s2 n ∧ D_by s2 P.2.2.2.2.2.2 60 (X ++ X_at xs i)) := by
  subst et
  have hb := (h.tL ht).2 _ (X_at_mem i0 i1)
  have tk := h.1.2.2.1.1
  have tT := h.1.2.2.1.2
  have nt : C_T s P.2.2.2.2.2.2 ≠ pp ++ [2, t] := fun e => by
    rw [tT] at e
    have := L_tw2 (L_pre_self _) (L_pre_eq e)
    omega
  obtain ⟨ra, la, m, σ, h1, h2⟩ := h.txt ht
  obtain ⟨e1, e2⟩ := X_at_li h2
  have e2 := e2 i i0 (by omega)
  subst hf
  refine (C_cpT d h1 tk nt (i := i) (fr := X.length) i0 (by omega) (by omega) (by rw [← e2]; omega)).weak (fun x s2 n q => ?_)
  obtain ⟨rfl, rfl, g, rfl, hg⟩ := q
  rw [← e2] at hg ⊢
  have k : C_fr (fun q => q = pp ++ [3, 0]) s (C_sAf s P.2.2.2.2.2.2 g) := C_sAf_fr tT
  refine ⟨rfl, h.upB w k rfl, tk, by rw [List.length_append]; exact hl, fun x hx2 => ?_, fun c c0 c1 => ?_⟩
  · rcases List.mem_append.mp hx2 with q | q
    · exact hx.2.2.1 x q
    · exact hb.2 x q
  · have e3 : C_A (C_sAf s P.2.2.2.2.2.2 g) P.2.2.2.2.2.2 = g := if_pos rfl
    rw [e3, hg]
    rw [List.length_append] at c1
    by_cases d1 : c < X.length
    · rw [if_neg (by omega), hx.2.2.2 c c0 d1]
      unfold L_at
      rw [if_pos c0, if_pos c0, List.getD_eq_getElem?_getD, List.getD_eq_getElem?_getD, List.getElem?_append_left (by omega)]
    · rw [if_pos (by omega)]
      have hv := hb.2 _ (L_at_mem.mpr ⟨c - X.length, by omega, by omega, rfl⟩)
      rw [show ((L_at (X_at (G.2.2.1 t) i) (c - X.length) + 128) % 256 - 128) % 256 = L_at (X_at (G.2.2.1 t) i) (c - X.length) by omega]
      unfold L_at
      rw [if_pos (by omega), if_pos c0, List.getD_eq_getElem?_getD, List.getD_eq_getElem?_getD, List.getElem?_append_right (by omega), show (c - (X.length : Int)).toNat = c.toNat - X.length by omega]
theorem o_len' (d : Nat) (h : D_Pl s pp pl tr B G P ω) {t : Nat} (ht : Pl_ht P t) {xs : List (List Int)} (et : G.2.2.1 t = xs) {i : Int} (i0 : 0 ≤ i) (i1 : i < xs.length) : C_rd (d + 1) 110 [.ref (P.2.2.1 t), .int (Zi i)] s (fun x => x = some (.int (Zi ((X_at xs i).length)))) := by
  subst et; exact o_len d h ht i0 i1
theorem o_put' (d : Nat) (h : D_Pl s pp pl tr B G P ω) {t : Nat} (ht : Pl_ht P t) {xs : List (List Int)} (et : G.2.2.1 t = xs) (w : C_wf s) {X : List Int} (hx : D_by s P.2.2.2.2.2.2 60 X) (so : X_so xs) {L : Int} (hL : L = X.length) : C_ok (d + 5) 112 [.ref (P.2.2.1 t), .ref P.2.2.2.2.2.2, .int (Zi L)] s (fun x s2 n => ∃ z : Int, x = some (.int (Zi z)) ∧ ∃ ys, D_ch pp pl tr B s P ω (g_st G t ys) s2 n ∧ X_so ys ∧ (z = 1 ∧ (∀ y, y ∈ ys ↔ y ∈ xs ∨ y = X) ∨ z = 0 ∧ ys = xs ∧ X ∉ xs ∧ xs.length = 8)) := by
  subst et
  have h60 := hx.2.1
  refine (o_put d h ht w hx (by omega) so hL).weak (fun x s2 n ⟨z, q1, ys, q2, q3, q4, q5⟩ => ⟨z, q1, ys, q2, q4, ?_⟩)
  rcases q5 with q | ⟨a, b, c, e⟩
  · exact .inl q
  · exact .inr ⟨a, b, c, by omega⟩
end CP
theorem C_mul2 {d : Nat} {h0 : E_H} {s : C_S} {pp : List Nat} {pl tr B : Nat} {G : G_t} {P : G_p} {ω : Nat → Nat} {tf tg : Nat} {xs ys : List (List Int)} {A Q : P_X} (B0 : 1280 ≤ B) (B1 : B ≤ 20000) (ha : Pl_ht P tf) (hb : Pl_ht P tg) (f0 : tf ≠ 0) (g0 : tg ≠ 0) (ea : G.2.2.1 tf = xs) (eb : G.2.2.1 tg = ys) (hA : T_tel A xs) (hQ : T_tel Q ys) {i : Int} (i0 : 0 ≤ i) (i1 : i < xs.length) (ret : ∀ (u : C_S) (h : E_H) (sl : Nat) (ω2 : Nat → Nat) (zs : List (List Int)), C_is h0 h u → D_Pl u pp pl tr B (g_st G 0 zs) P ω2 → D_cs pp s u ω ω2 sl → X_so zs → T_tel (X_ff (fun a b => X_at xs a ++ X_at ys b) xs.length ys.length i ys.length) zs → (∀ z, X_ff (fun a b => X_at xs a ++ X_at ys b) xs.length ys.length i ys.length z → z.length ≤ 60) → B_R (d + 5) E_m67 (97, [(3, .int (Zi i)), (0, .ref pl), (1, .ref (P.2.2.1 tf)), (2, .ref (P.2.2.1 tg))], []) h sl (fun x => ∃ s2 : C_S, C_is h0 x.2.1 s2 ∧ ∃ z : Int, x.1 = some (.int (Zi z)) ∧ ∃ zs, D_ch pp pl tr B s P ω (g_st G 0 zs) s2 x.2.2 ∧ (z = 1 ∧ F_fit (F_im2 (fun a b => a ++ b) A Q) ∧ X_so zs ∧ T_tel (F_im2 (fun a b => a ++ b) A Q) zs ∨ z = 0 ∧ ¬ F_fit (F_im2 (fun a b => a ++ b) A Q)))) : ∀ (t : Nat) (k : Int) (u : C_S) (h : E_H) (sl : Nat) (ω2 : Nat → Nat) (zs : List (List Int)), (ys.length : Int) + 1 - k < t → 0 ≤ k → k ≤ ys.length → C_is h0 h u → D_Pl u pp pl tr B (g_st G 0 zs) P ω2 → D_cs pp s u ω ω2 sl → X_so zs → T_tel (X_ff (fun a b => X_at xs a ++ X_at ys b) xs.length ys.length i k) zs → (∀ z, X_ff (fun a b => X_at xs a ++ X_at ys b) xs.length ys.length i k z → z.length ≤ 60) → B_R (d + 5) E_m67 (20, [(4, .int (Zi k)), (3, .int (Zi i)), (0, .ref pl), (1, .ref (P.2.2.1 tf)), (2, .ref (P.2.2.1 tg))], []) h sl (fun x => ∃ s2 : C_S, C_is h0 x.2.1 s2 ∧ ∃ z : Int, x.1 = some (.int (Zi z)) ∧ ∃ zs, D_ch pp pl tr B s P ω (g_st G 0 zs) s2 x.2.2 ∧ (z = 1 ∧ F_fit (F_im2 (fun a b => a ++ b) A Q) ∧ X_so zs ∧ T_tel (F_im2 (fun a b => a ++ b) A Q) zs ∨ z = 0 ∧ ¬ F_fit (F_im2 (fun a b => a ++ b) A Q))) := by
  intro t
  induction t with
  | zero => intro k u h sl ω2 zs ht9 k0 k1 hs hp cs hso hT hl; omega
  | succ t ih =>
    intro k u h sl ω2 zs ht9 k0 k1 hs hp cs hso hT hl
    have ea2 : (g_st G 0 zs).2.2.1 tf = xs := by
      show g_up G.2.2.1 0 zs tf = xs
      rw [g_up_o f0]; exact ea
    have eb2 : (g_st G 0 zs).2.2.1 tg = ys := by
      show g_up G.2.2.1 0 zs tg = ys
      rw [g_up_o g0]; exact eb
    have ez2 : (g_st G 0 zs).2.2.1 0 = zs := (g_up_s : g_up G.2.2.1 0 zs 0 = zs)
    have fa := hp.tF' ha ea2
    have fb := hp.tF' hb eb2
    have hla := hp.tL ha
    have hlb := hp.tL hb
    have hlz := hp.tL (t := 0) (.inl rfl)
    rw [ea2] at hla
    rw [eb2] at hlb
    rw [ez2] at hlz
    obtain ⟨hla, hla2⟩ := hla
    obtain ⟨hlb, hlb2⟩ := hlb
    have zla : Zr (xs.length : Int) := ⟨by omega, by omega⟩
    have zlb : Zr (ys.length : Int) := ⟨by omega, by omega⟩
    have zk : Zr k := ⟨by omega, by omega⟩
    have zi : Zr i := ⟨by omega, by omega⟩
    refine Z_go (f2 := (22, [(4, .int (Zi k)), (3, .int (Zi i)), (0, .ref pl), (1, .ref (P.2.2.1 tf)), (2, .ref (P.2.2.1 tg))], [.int (Zi k)])) (fun _ => rfl) ?_
    refine Z_go (f2 := (23, [(4, .int (Zi k)), (3, .int (Zi i)), (0, .ref pl), (1, .ref (P.2.2.1 tf)), (2, .ref (P.2.2.1 tg))], [.ref (P.2.2.1 tg), .int (Zi k)])) (fun _ => rfl) ?_
    refine C_gi rfl hs (hp.tK hb) (by decide) (Nat.le_of_ble_eq_true rfl) rfl ?_
    rw [show C_F (u) (P.2.2.1 tg) 2 = (ys.length : Int) from (by first | exact fb | exact (if_neg (fun e => absurd e.1 (by assumption))).trans fb | exact (if_neg (fun e => absurd e.2 (by decide))).trans fb | exact (if_neg (fun e => absurd e.2 (by decide))).trans ((if_neg (fun e => absurd e.2 (by decide))).trans fb) | exact (if_neg (fun e => absurd e.2 (by decide))).trans ((if_neg (fun e => absurd e.2 (by decide))).trans ((if_neg (fun e => absurd e.2 (by decide))).trans fb)))]
    show B_R _ _ (26, [(4, .int (Zi k)), (3, .int (Zi i)), (0, .ref pl), (1, .ref (P.2.2.1 tf)), (2, .ref (P.2.2.1 tg))], [.int (Zi ((ys.length : Int))), .int (Zi k)]) _ _ _
    refine Z_cge rfl rfl (by first | exact hs.zF _ _ | exact Zor_r _ _ | exact hs.zA _ _ | assumption | exact zA _ _ | exact zS _ | exact Zr_not (hs.zA _ _) | exact hs.1.1 _ _ | exact ⟨by omega, by omega⟩) (by first | exact hs.zF _ _ | exact Zor_r _ _ | exact hs.zA _ _ | assumption | exact zA _ _ | exact zS _ | exact Zr_not (hs.zA _ _) | exact hs.1.1 _ _ | exact ⟨by omega, by omega⟩) (fun y1 => ?_) (fun y1 => ?_)
    · refine B_loc (K := [(3, .int (Zi i)), (0, .ref pl), (1, .ref (P.2.2.1 tf)), (2, .ref (P.2.2.1 tg))]) (N_all_sub ⟨rfl, rfl, rfl, rfl, trivial⟩) (show ([3, 0, 1, 2] : List Nat).Nodup by decide) ?_
      obtain rfl : k = ys.length := by omega
      exact ret u h sl ω2 zs hs hp cs hso hT hl
    · refine Z_go (f2 := (30, [(4, .int (Zi k)), (3, .int (Zi i)), (0, .ref pl), (1, .ref (P.2.2.1 tf)), (2, .ref (P.2.2.1 tg))], [.ref (P.2.2.1 tf)])) (fun _ => rfl) ?_
      refine Z_go (f2 := (31, [(4, .int (Zi k)), (3, .int (Zi i)), (0, .ref pl), (1, .ref (P.2.2.1 tf)), (2, .ref (P.2.2.1 tg))], [.int (Zi i), .ref (P.2.2.1 tf)])) (fun _ => rfl) ?_
      refine C_callVR (As := [.int (Zi i)]) (rest := []) rfl (by decide) rfl (by decide) rfl rfl (by decide +kernel) (Nat.le_of_ble_eq_true rfl) hs (hp.tK ha) (o_len' _ hp ha ea2 (i := i) i0 i1) (fun x q => ?_)
      obtain rfl := q
      have hxi := hla2 _ (X_at_mem i0 i1)
      obtain ⟨hxi1, hxi2⟩ := hxi
      show B_R _ _ (34, [(4, .int (Zi k)), (3, .int (Zi i)), (0, .ref pl), (1, .ref (P.2.2.1 tf)), (2, .ref (P.2.2.1 tg))], [.int (Zi (((X_at xs i).length : Int)))]) _ _ _
      refine Z_go (f2 := (35, [(4, .int (Zi k)), (3, .int (Zi i)), (0, .ref pl), (1, .ref (P.2.2.1 tf)), (2, .ref (P.2.2.1 tg))], [.ref (P.2.2.1 tg), .int (Zi (((X_at xs i).length : Int)))])) (fun _ => rfl) ?_
      refine Z_go (f2 := (37, [(4, .int (Zi k)), (3, .int (Zi i)), (0, .ref pl), (1, .ref (P.2.2.1 tf)), (2, .ref (P.2.2.1 tg))], [.int (Zi k), .ref (P.2.2.1 tg), .int (Zi (((X_at xs i).length : Int)))])) (fun _ => rfl) ?_
      refine C_callVR (As := [.int (Zi k)]) (rest := [.int (Zi (((X_at xs i).length : Int)))]) rfl (by decide) rfl (by decide) rfl rfl (by decide +kernel) (Nat.le_of_ble_eq_true rfl) hs (hp.tK hb) (o_len' _ hp hb eb2 (i := k) k0 (by omega)) (fun x q => ?_)
      obtain rfl := q
      have hyk := hlb2 _ (X_at_mem k0 (show k < (ys.length : Int) by omega))
      obtain ⟨hyk1, hyk2⟩ := hyk
      have hin : (F_im2 (fun a b => a ++ b) A Q) (X_at xs i ++ X_at ys k) := ⟨_, _, (hA _).mp (X_at_mem i0 i1), (hQ _).mp (X_at_mem k0 (show k < (ys.length : Int) by omega)), rfl⟩
      have hle : (X_at xs i ++ X_at ys k).length = (X_at xs i).length + (X_at ys k).length := List.length_append
      show B_R _ _ (40, [(4, .int (Zi k)), (3, .int (Zi i)), (0, .ref pl), (1, .ref (P.2.2.1 tf)), (2, .ref (P.2.2.1 tg))], [.int (Zi (((X_at ys k).length : Int))), .int (Zi (((X_at xs i).length : Int)))]) _ _ _
      refine Z_iadd rfl ?_
      refine Z_go (f2 := (43, [(5, .int (Zi (((X_at xs i).length : Int) + ((X_at ys k).length : Int)))), (4, .int (Zi k)), (3, .int (Zi i)), (0, .ref pl), (1, .ref (P.2.2.1 tf)), (2, .ref (P.2.2.1 tg))], [])) (fun _ => rfl) ?_
      refine Z_go (f2 := (45, [(5, .int (Zi (((X_at xs i).length : Int) + ((X_at ys k).length : Int)))), (4, .int (Zi k)), (3, .int (Zi i)), (0, .ref pl), (1, .ref (P.2.2.1 tf)), (2, .ref (P.2.2.1 tg))], [.int (Zi (((X_at xs i).length : Int) + ((X_at ys k).length : Int)))])) (fun _ => rfl) ?_
      refine Z_go (f2 := (47, [(5, .int (Zi (((X_at xs i).length : Int) + ((X_at ys k).length : Int)))), (4, .int (Zi k)), (3, .int (Zi i)), (0, .ref pl), (1, .ref (P.2.2.1 tf)), (2, .ref (P.2.2.1 tg))], [.int (Zi 60), .int (Zi (((X_at xs i).length : Int) + ((X_at ys k).length : Int)))])) (fun _ => rfl) ?_
      refine Z_cle rfl rfl (by first | exact hs.zF _ _ | exact Zor_r _ _ | exact hs.zA _ _ | assumption | exact zA _ _ | exact zS _ | exact Zr_not (hs.zA _ _) | exact hs.1.1 _ _ | exact ⟨by omega, by omega⟩) (by first | exact hs.zF _ _ | exact Zor_r _ _ | exact hs.zA _ _ | assumption | exact zA _ _ | exact zS _ | exact Zr_not (hs.zA _ _) | exact hs.1.1 _ _ | exact ⟨by omega, by omega⟩) (fun y2 => ?_) (fun y2 => ?_)
      · refine Z_go (f2 := (53, [(5, .int (Zi (((X_at xs i).length : Int) + ((X_at ys k).length : Int)))), (4, .int (Zi k)), (3, .int (Zi i)), (0, .ref pl), (1, .ref (P.2.2.1 tf)), (2, .ref (P.2.2.1 tg))], [.ref (P.2.2.1 tg)])) (fun _ => rfl) ?_
        refine Z_go (f2 := (55, [(5, .int (Zi (((X_at xs i).length : Int) + ((X_at ys k).length : Int)))), (4, .int (Zi k)), (3, .int (Zi i)), (0, .ref pl), (1, .ref (P.2.2.1 tf)), (2, .ref (P.2.2.1 tg))], [.int (Zi k), .ref (P.2.2.1 tg)])) (fun _ => rfl) ?_
        refine Z_go (f2 := (56, [(5, .int (Zi (((X_at xs i).length : Int) + ((X_at ys k).length : Int)))), (4, .int (Zi k)), (3, .int (Zi i)), (0, .ref pl), (1, .ref (P.2.2.1 tf)), (2, .ref (P.2.2.1 tg))], [.ref pl, .int (Zi k), .ref (P.2.2.1 tg)])) (fun _ => rfl) ?_
        refine C_gr rfl hs hp.1.1.1 (by decide) (Nat.le_of_ble_eq_true rfl) rfl hp.1.1.2.2.2.2.2.2.2.2.2.2.2.1 ?_
        refine Z_go (f2 := (60, [(5, .int (Zi (((X_at xs i).length : Int) + ((X_at ys k).length : Int)))), (4, .int (Zi k)), (3, .int (Zi i)), (0, .ref pl), (1, .ref (P.2.2.1 tf)), (2, .ref (P.2.2.1 tg))], [.ref (P.2.2.1 tf), .ref P.2.2.2.2.2.2, .int (Zi k), .ref (P.2.2.1 tg)])) (fun _ => rfl) ?_
        refine Z_go (f2 := (61, [(5, .int (Zi (((X_at xs i).length : Int) + ((X_at ys k).length : Int)))), (4, .int (Zi k)), (3, .int (Zi i)), (0, .ref pl), (1, .ref (P.2.2.1 tf)), (2, .ref (P.2.2.1 tg))], [.int (Zi i), .ref (P.2.2.1 tf), .ref P.2.2.2.2.2.2, .int (Zi k), .ref (P.2.2.1 tg)])) (fun _ => rfl) ?_
        refine Z_go (f2 := (62, [(5, .int (Zi (((X_at xs i).length : Int) + ((X_at ys k).length : Int)))), (4, .int (Zi k)), (3, .int (Zi i)), (0, .ref pl), (1, .ref (P.2.2.1 tf)), (2, .ref (P.2.2.1 tg))], [.ref pl, .int (Zi i), .ref (P.2.2.1 tf), .ref P.2.2.2.2.2.2, .int (Zi k), .ref (P.2.2.1 tg)])) (fun _ => rfl) ?_
        refine C_gr rfl hs hp.1.1.1 (by decide) (Nat.le_of_ble_eq_true rfl) rfl hp.1.1.2.2.2.2.2.2.2.2.2.2.2.1 ?_
        refine Z_go (f2 := (66, [(5, .int (Zi (((X_at xs i).length : Int) + ((X_at ys k).length : Int)))), (4, .int (Zi k)), (3, .int (Zi i)), (0, .ref pl), (1, .ref (P.2.2.1 tf)), (2, .ref (P.2.2.1 tg))], [.int (Zi 0), .ref P.2.2.2.2.2.2, .int (Zi i), .ref (P.2.2.1 tf), .ref P.2.2.2.2.2.2, .int (Zi k), .ref (P.2.2.1 tg)])) (fun _ => rfl) ?_
        refine C_callV (As := [.int (Zi i), .ref P.2.2.2.2.2.2, .int (Zi 0)]) (rest := [.ref P.2.2.2.2.2.2, .int (Zi k), .ref (P.2.2.1 tg)]) rfl (by decide) rfl (by decide) rfl rfl (by decide +kernel) (Nat.le_of_ble_eq_true rfl) hs (hp.tK ha) (o_cpT _ hp ha ea2 hs.1 (i := i) (fr := 0) i0 i1 hp.by0 rfl (by show 0 + _ ≤ 60; omega)) (fun x h v1 n1 hs q => ?_)
        obtain ⟨rfl, ⟨ω3, hp, cq⟩, hby⟩ := q
        have cs := cs.tr cq
        rw [List.nil_append] at hby
        show B_R _ _ (69, [(5, .int (Zi (((X_at xs i).length : Int) + ((X_at ys k).length : Int)))), (4, .int (Zi k)), (3, .int (Zi i)), (0, .ref pl), (1, .ref (P.2.2.1 tf)), (2, .ref (P.2.2.1 tg))], [.int (Zi (0 + ((X_at xs i).length : Int))), .ref P.2.2.2.2.2.2, .int (Zi k), .ref (P.2.2.1 tg)]) _ _ _
        refine C_callV (As := [.int (Zi k), .ref P.2.2.2.2.2.2, .int (Zi (0 + ((X_at xs i).length : Int)))]) (rest := []) rfl (by decide) rfl (by decide) rfl rfl (by decide +kernel) (Nat.le_of_ble_eq_true rfl) hs (hp.tK hb) (o_cpT _ hp hb eb2 hs.1 (i := k) (fr := 0 + ((X_at xs i).length : Int)) k0 (by omega) hby (by omega) (by omega)) (fun x h v2 n2 hs q => ?_)
        obtain ⟨rfl, ⟨ω4, hp, cq⟩, hby⟩ := q
        have cs := cs.tr cq
        show B_R _ _ (72, [(5, .int (Zi (((X_at xs i).length : Int) + ((X_at ys k).length : Int)))), (4, .int (Zi k)), (3, .int (Zi i)), (0, .ref pl), (1, .ref (P.2.2.1 tf)), (2, .ref (P.2.2.1 tg))], [.int (Zi (0 + ((X_at xs i).length : Int) + ((X_at ys k).length : Int)))]) _ _ _
        refine Z_go (f2 := (73, [(5, .int (Zi (((X_at xs i).length : Int) + ((X_at ys k).length : Int)))), (4, .int (Zi k)), (3, .int (Zi i)), (0, .ref pl), (1, .ref (P.2.2.1 tf)), (2, .ref (P.2.2.1 tg))], [])) (fun _ => rfl) ?_
        refine Z_go (f2 := (74, [(5, .int (Zi (((X_at xs i).length : Int) + ((X_at ys k).length : Int)))), (4, .int (Zi k)), (3, .int (Zi i)), (0, .ref pl), (1, .ref (P.2.2.1 tf)), (2, .ref (P.2.2.1 tg))], [.ref pl])) (fun _ => rfl) ?_
        refine C_gr rfl hs hp.1.1.1 (by decide) (Nat.le_of_ble_eq_true rfl) rfl hp.1.1.2.2.2.2.2.2.2.2.2.2.1 ?_
        refine Z_go (f2 := (78, [(5, .int (Zi (((X_at xs i).length : Int) + ((X_at ys k).length : Int)))), (4, .int (Zi k)), (3, .int (Zi i)), (0, .ref pl), (1, .ref (P.2.2.1 tf)), (2, .ref (P.2.2.1 tg))], [.ref pl, .ref (P.2.2.1 0)])) (fun _ => rfl) ?_
        refine C_gr rfl hs hp.1.1.1 (by decide) (Nat.le_of_ble_eq_true rfl) rfl hp.1.1.2.2.2.2.2.2.2.2.2.2.2.1 ?_
        refine Z_go (f2 := (83, [(5, .int (Zi (((X_at xs i).length : Int) + ((X_at ys k).length : Int)))), (4, .int (Zi k)), (3, .int (Zi i)), (0, .ref pl), (1, .ref (P.2.2.1 tf)), (2, .ref (P.2.2.1 tg))], [.int (Zi (((X_at xs i).length : Int) + ((X_at ys k).length : Int))), .ref P.2.2.2.2.2.2, .ref (P.2.2.1 0)])) (fun _ => rfl) ?_
        refine C_callV (As := [.ref P.2.2.2.2.2.2, .int (Zi (((X_at xs i).length : Int) + ((X_at ys k).length : Int)))]) (rest := []) rfl (by decide) rfl (by decide) rfl rfl (by decide +kernel) (Nat.le_of_ble_eq_true rfl) hs (hp.tK (.inl rfl)) (o_put' _ hp (t := 0) (.inl rfl) ez2 hs.1 hby hso (by omega)) (fun x h v3 n3 hs q => ?_)
        obtain ⟨zp, rfl, zs2, ⟨ω5, hp, cq⟩, hso2, hzp⟩ := q
        have cs := cs.tr cq
        rw [g_st_i] at hp
        have zzp : Zr zp := by rcases hzp with ⟨e, _⟩ | ⟨e, _⟩ <;> exact ⟨by omega, by omega⟩
        show B_R _ _ (86, [(5, .int (Zi (((X_at xs i).length : Int) + ((X_at ys k).length : Int)))), (4, .int (Zi k)), (3, .int (Zi i)), (0, .ref pl), (1, .ref (P.2.2.1 tf)), (2, .ref (P.2.2.1 tg))], [.int (Zi zp)]) _ _ _
        refine Z_ine rfl rfl (by first | exact hs.zF _ _ | exact Zor_r _ _ | exact hs.zA _ _ | assumption | exact zA _ _ | exact zS _ | exact Zr_not (hs.zA _ _) | exact hs.1.1 _ _ | exact ⟨by omega, by omega⟩) (fun y3 => ?_) (fun y3 => ?_)
        · refine Z_iinc (L2 := [(4, .int (Zi (k + 1))), (5, .int (Zi (((X_at xs i).length : Int) + ((X_at ys k).length : Int)))), (3, .int (Zi i)), (0, .ref pl), (1, .ref (P.2.2.1 tf)), (2, .ref (P.2.2.1 tg))]) rfl rfl (by decide) rfl ?_
          refine Z_go (f2 := (20, [(4, .int (Zi (k + 1))), (5, .int (Zi (((X_at xs i).length : Int) + ((X_at ys k).length : Int)))), (3, .int (Zi i)), (0, .ref pl), (1, .ref (P.2.2.1 tf)), (2, .ref (P.2.2.1 tg))], [])) (fun _ => rfl) ?_
          refine B_loc (K := [(4, .int (Zi (k + 1))), (3, .int (Zi i)), (0, .ref pl), (1, .ref (P.2.2.1 tf)), (2, .ref (P.2.2.1 tg))]) (N_all_sub ⟨rfl, rfl, rfl, rfl, rfl, trivial⟩) (show ([4, 3, 0, 1, 2] : List Nat).Nodup by decide) ?_
          have hz2 : ∀ y, y ∈ zs2 ↔ y ∈ zs ∨ y = X_at xs i ++ X_at ys k := by rcases hzp with ⟨_, e⟩ | ⟨e, _⟩; exact e; omega
          refine ih _ _ h _ _ _ (by omega) (by omega) (by omega) hs hp cs hso2 (fun y => ?_) (fun y hy => ?_)
          · rw [hz2, hT y, X_ff_s (f := (fun a b => X_at xs a ++ X_at ys b)) i0 i1 k0 (show k < (ys.length : Int) by omega)]
          · rcases (X_ff_s (f := (fun a b => X_at xs a ++ X_at ys b)) i0 i1 k0 (show k < (ys.length : Int) by omega) y).mp hy with q | rfl
            · exact hl y q
            · show (X_at xs i ++ X_at ys k).length ≤ 60
              omega
        · refine Z_go (f2 := (90, [(5, .int (Zi (((X_at xs i).length : Int) + ((X_at ys k).length : Int)))), (4, .int (Zi k)), (3, .int (Zi i)), (0, .ref pl), (1, .ref (P.2.2.1 tf)), (2, .ref (P.2.2.1 tg))], [.int (Zi 0)])) (fun _ => rfl) ?_
          refine Z_iret rfl rfl (by first | rfl | decide | exact narrow_b01 (by omega)) ?_
          try dsimp only
          rcases hzp with ⟨e, _⟩ | ⟨_, e1, e2, e3⟩
          · omega
          · refine ⟨_, hs, 0, rfl, zs2, ⟨_, hp, cs⟩, .inr ⟨rfl, F_fit_no (X_so_nd hso) (fun z hz => ?_) hin e2 e3⟩⟩
            obtain ⟨a, b, h1, h2, h3, h4, h5, rfl⟩ := (hT z).mp hz
            exact ⟨_, _, (hA _).mp (X_at_mem h1 h5), (hQ _).mp (X_at_mem h2 h3), rfl⟩
      · refine Z_go (f2 := (51, [(5, .int (Zi (((X_at xs i).length : Int) + ((X_at ys k).length : Int)))), (4, .int (Zi k)), (3, .int (Zi i)), (0, .ref pl), (1, .ref (P.2.2.1 tf)), (2, .ref (P.2.2.1 tg))], [.int (Zi 0)])) (fun _ => rfl) ?_
        refine Z_iret rfl rfl (by first | rfl | decide | exact narrow_b01 (by omega)) ?_
        try dsimp only
        refine ⟨_, hs, 0, rfl, zs, ⟨_, hp, cs⟩, .inr ⟨rfl, fun hf => ?_⟩⟩
        have := hf.2 _ hin
        omega
theorem C_mul1 {d : Nat} {h0 : E_H} {s : C_S} {pp : List Nat} {pl tr B : Nat} {G : G_t} {P : G_p} {ω : Nat → Nat} {tf tg : Nat} {xs ys : List (List Int)} {A Q : P_X} (B0 : 1280 ≤ B) (B1 : B ≤ 20000) (ha : Pl_ht P tf) (hb : Pl_ht P tg) (f0 : tf ≠ 0) (g0 : tg ≠ 0) (ea : G.2.2.1 tf = xs) (eb : G.2.2.1 tg = ys) (hA : T_tel A xs) (hQ : T_tel Q ys) : ∀ (t : Nat) (i : Int) (u : C_S) (h : E_H) (sl : Nat) (ω2 : Nat → Nat) (zs : List (List Int)), (xs.length : Int) + 1 - i < t → 0 ≤ i → i ≤ xs.length → C_is h0 h u → D_Pl u pp pl tr B (g_st G 0 zs) P ω2 → D_cs pp s u ω ω2 sl → X_so zs → T_tel (X_ff (fun a b => X_at xs a ++ X_at ys b) xs.length ys.length i 0) zs → (∀ z, X_ff (fun a b => X_at xs a ++ X_at ys b) xs.length ys.length i 0 z → z.length ≤ 60) → B_R (d + 5) E_m67 (9, [(3, .int (Zi i)), (0, .ref pl), (1, .ref (P.2.2.1 tf)), (2, .ref (P.2.2.1 tg))], []) h sl (fun x => ∃ s2 : C_S, C_is h0 x.2.1 s2 ∧ ∃ z : Int, x.1 = some (.int (Zi z)) ∧ ∃ zs, D_ch pp pl tr B s P ω (g_st G 0 zs) s2 x.2.2 ∧ (z = 1 ∧ F_fit (F_im2 (fun a b => a ++ b) A Q) ∧ X_so zs ∧ T_tel (F_im2 (fun a b => a ++ b) A Q) zs ∨ z = 0 ∧ ¬ F_fit (F_im2 (fun a b => a ++ b) A Q))) := by
  intro t
  induction t with
  | zero => intro i u h sl ω2 zs ht9 i0 i1 hs hp cs hso hT hl; omega
  | succ t ih =>
    intro i u h sl ω2 zs ht9 i0 i1 hs hp cs hso hT hl
    have ea2 : (g_st G 0 zs).2.2.1 tf = xs := by
      show g_up G.2.2.1 0 zs tf = xs
      rw [g_up_o f0]; exact ea
    have eb2 : (g_st G 0 zs).2.2.1 tg = ys := by
      show g_up G.2.2.1 0 zs tg = ys
      rw [g_up_o g0]; exact eb
    have ez2 : (g_st G 0 zs).2.2.1 0 = zs := (g_up_s : g_up G.2.2.1 0 zs 0 = zs)
    have fa := hp.tF' ha ea2
    have fb := hp.tF' hb eb2
    have hla := hp.tL ha
    have hlb := hp.tL hb
    have hlz := hp.tL (t := 0) (.inl rfl)
    rw [ea2] at hla
    rw [eb2] at hlb
    rw [ez2] at hlz
    obtain ⟨hla, hla2⟩ := hla
    obtain ⟨hlb, hlb2⟩ := hlb
    have zla : Zr (xs.length : Int) := ⟨by omega, by omega⟩
    have zlb : Zr (ys.length : Int) := ⟨by omega, by omega⟩
    have zi : Zr i := ⟨by omega, by omega⟩
    refine Z_go (f2 := (10, [(3, .int (Zi i)), (0, .ref pl), (1, .ref (P.2.2.1 tf)), (2, .ref (P.2.2.1 tg))], [.int (Zi i)])) (fun _ => rfl) ?_
    refine Z_go (f2 := (11, [(3, .int (Zi i)), (0, .ref pl), (1, .ref (P.2.2.1 tf)), (2, .ref (P.2.2.1 tg))], [.ref (P.2.2.1 tf), .int (Zi i)])) (fun _ => rfl) ?_
    refine C_gi rfl hs (hp.tK ha) (by decide) (Nat.le_of_ble_eq_true rfl) rfl ?_
    rw [show C_F (u) (P.2.2.1 tf) 2 = (xs.length : Int) from (by first | exact fa | exact (if_neg (fun e => absurd e.1 (by assumption))).trans fa | exact (if_neg (fun e => absurd e.2 (by decide))).trans fa | exact (if_neg (fun e => absurd e.2 (by decide))).trans ((if_neg (fun e => absurd e.2 (by decide))).trans fa) | exact (if_neg (fun e => absurd e.2 (by decide))).trans ((if_neg (fun e => absurd e.2 (by decide))).trans ((if_neg (fun e => absurd e.2 (by decide))).trans fa)))]
    show B_R _ _ (14, [(3, .int (Zi i)), (0, .ref pl), (1, .ref (P.2.2.1 tf)), (2, .ref (P.2.2.1 tg))], [.int (Zi ((xs.length : Int))), .int (Zi i)]) _ _ _
    refine Z_cge rfl rfl (by first | exact hs.zF _ _ | exact Zor_r _ _ | exact hs.zA _ _ | assumption | exact zA _ _ | exact zS _ | exact Zr_not (hs.zA _ _) | exact hs.1.1 _ _ | exact ⟨by omega, by omega⟩) (by first | exact hs.zF _ _ | exact Zor_r _ _ | exact hs.zA _ _ | assumption | exact zA _ _ | exact zS _ | exact Zr_not (hs.zA _ _) | exact hs.1.1 _ _ | exact ⟨by omega, by omega⟩) (fun y1 => ?_) (fun y1 => ?_)
    · refine Z_go (f2 := (104, [(3, .int (Zi i)), (0, .ref pl), (1, .ref (P.2.2.1 tf)), (2, .ref (P.2.2.1 tg))], [.int (Zi 1)])) (fun _ => rfl) ?_
      refine Z_iret rfl rfl (by first | rfl | decide | exact narrow_b01 (by omega)) ?_
      try dsimp only
      obtain rfl : i = xs.length := by omega
      have hall : ∀ z, (F_im2 (fun a b => a ++ b) A Q) z ↔ X_ff (fun a b => X_at xs a ++ X_at ys b) xs.length ys.length xs.length 0 z := fun z => by
        constructor
        · rintro ⟨t, h, ht, hh, rfl⟩
          obtain ⟨i, i0, i1, ei⟩ := X_mem_at ((hA t).mpr ht)
          obtain ⟨k, k0, k1, ek⟩ := X_mem_at ((hQ h).mpr hh)
          exact ⟨i, k, i0, k0, k1, .inl i1, i1, by show t ++ h = X_at xs i ++ X_at ys k; rw [ei, ek]⟩
        · rintro ⟨a, b, h1, h2, h3, h4, h5, rfl⟩
          exact ⟨_, _, (hA _).mp (X_at_mem h1 h5), (hQ _).mp (X_at_mem h2 h3), rfl⟩
      exact ⟨_, hs, 1, rfl, zs, ⟨_, hp, cs⟩, .inl ⟨rfl, ⟨⟨zs, hlz.1, fun x hx => (hT x).mpr ((hall x).mp hx)⟩, fun x hx => hl x ((hall x).mp hx)⟩, hso, fun x => (hT x).trans (hall x).symm⟩⟩
    · refine Z_go (f2 := (18, [(3, .int (Zi i)), (0, .ref pl), (1, .ref (P.2.2.1 tf)), (2, .ref (P.2.2.1 tg))], [.int (Zi 0)])) (fun _ => rfl) ?_
      refine Z_go (f2 := (20, [(4, .int (Zi 0)), (3, .int (Zi i)), (0, .ref pl), (1, .ref (P.2.2.1 tf)), (2, .ref (P.2.2.1 tg))], [])) (fun _ => rfl) ?_
      refine B_loc (K := [(4, .int (Zi 0)), (3, .int (Zi i)), (0, .ref pl), (1, .ref (P.2.2.1 tf)), (2, .ref (P.2.2.1 tg))]) (N_all_sub ⟨rfl, rfl, rfl, rfl, rfl, trivial⟩) (show ([4, 3, 0, 1, 2] : List Nat).Nodup by decide) ?_
      refine C_mul2 B0 B1 ha hb f0 g0 ea eb hA hQ i0 (by omega) (fun u h sl ω2 zs hs hp cs hso hT hl => ?_) (ys.length + 2) 0 u h _ _ _ (by omega) (by omega) (by omega) hs hp cs hso hT hl
      refine Z_iinc (L2 := [(3, .int (Zi (i + 1))), (0, .ref pl), (1, .ref (P.2.2.1 tf)), (2, .ref (P.2.2.1 tg))]) rfl rfl (by decide) rfl ?_
      refine Z_go (f2 := (9, [(3, .int (Zi (i + 1))), (0, .ref pl), (1, .ref (P.2.2.1 tf)), (2, .ref (P.2.2.1 tg))], [])) (fun _ => rfl) ?_
      exact ih _ u h _ _ _ (by omega) (by omega) (by omega) hs hp cs hso (fun y => by rw [hT y]; exact (X_ff_n (f := (fun a b => X_at xs a ++ X_at ys b)) y).symm) (fun y hy => hl y ((X_ff_n (f := (fun a b => X_at xs a ++ X_at ys b)) y).mp hy))
theorem C_mul (d : Nat) {s : C_S} {pp : List Nat} {pl tr B : Nat} {G : G_t} {P : G_p} {ω : Nat → Nat} {tf tg : Nat} {xs ys : List (List Int)} {A Q : P_X} (hp : D_Pl s pp pl tr B G P ω) (B0 : 1280 ≤ B) (B1 : B ≤ 20000) (ha : Pl_ht P tf) (hb : Pl_ht P tg) (f0 : tf ≠ 0) (g0 : tg ≠ 0) (ea : G.2.2.1 tf = xs) (eb : G.2.2.1 tg = ys) (hA : T_tel A xs) (hQ : T_tel Q ys) : C_ok (d + 6) 67 [.ref pl, .ref (P.2.2.1 tf), .ref (P.2.2.1 tg)] s (fun x s2 n => ∃ z : Int, x = some (.int (Zi z)) ∧ ∃ zs, D_ch pp pl tr B s P ω (g_st G 0 zs) s2 n ∧ (z = 1 ∧ F_fit (F_im2 (fun a b => a ++ b) A Q) ∧ X_so zs ∧ T_tel (F_im2 (fun a b => a ++ b) A Q) zs ∨ z = 0 ∧ ¬ F_fit (F_im2 (fun a b => a ++ b) A Q))) := by
  refine C_enter (M := E_m67) rfl (Nat.le_of_ble_eq_true rfl) (fun h0 h hs => ?_)
  show B_R (d + 5) _ (0, [(0, .ref pl), (1, .ref (P.2.2.1 tf)), (2, .ref (P.2.2.1 tg))], []) _ _ _
  have cs := D_cs.refl pp s ω
  refine Z_go (f2 := (1, [(0, .ref pl), (1, .ref (P.2.2.1 tf)), (2, .ref (P.2.2.1 tg))], [.ref pl])) (fun _ => rfl) ?_
  refine C_gr rfl hs hp.1.1.1 (by decide) (Nat.le_of_ble_eq_true rfl) rfl hp.1.1.2.2.2.2.2.2.2.2.2.2.1 ?_
  refine C_callV (As := []) (rest := []) rfl (by decide) rfl (by decide) rfl rfl (by decide +kernel) (Nat.le_of_ble_eq_true rfl) hs (hp.tK (.inl rfl)) (o_tclear _ hp (t := 0) (.inl rfl) hs.1) (fun x h v2 n2 hs q => ?_)
  obtain ⟨rfl, ω2, hp, cq⟩ := q
  have cs := cs.tr cq
  show B_R _ _ (7, [(0, .ref pl), (1, .ref (P.2.2.1 tf)), (2, .ref (P.2.2.1 tg))], []) _ _ _
  refine Z_go (f2 := (8, [(0, .ref pl), (1, .ref (P.2.2.1 tf)), (2, .ref (P.2.2.1 tg))], [.int (Zi 0)])) (fun _ => rfl) ?_
  refine Z_go (f2 := (9, [(3, .int (Zi 0)), (0, .ref pl), (1, .ref (P.2.2.1 tf)), (2, .ref (P.2.2.1 tg))], [])) (fun _ => rfl) ?_
  refine B_loc (K := [(3, .int (Zi 0)), (0, .ref pl), (1, .ref (P.2.2.1 tf)), (2, .ref (P.2.2.1 tg))]) (N_all_sub ⟨rfl, rfl, rfl, rfl, trivial⟩) (show ([3, 0, 1, 2] : List Nat).Nodup by decide) ?_
  exact C_mul1 B0 B1 ha hb f0 g0 ea eb hA hQ (xs.length + 2) 0 _ h _ _ [] (by omega) (by omega) (by omega) hs hp cs X_so_nil (fun y => ⟨fun e => absurd e List.not_mem_nil, fun e => ((X_ff_0 y).mp e).elim⟩) (fun y e => ((X_ff_0 y).mp e).elim)
theorem C_uni1 {d : Nat} {h0 : E_H} {s : C_S} {pp : List Nat} {pl tr B : Nat} {G : G_t} {P : G_p} {ω : Nat → Nat} {tf tg : Nat} {xs ys : List (List Int)} {A Q : P_X} (B0 : 1280 ≤ B) (B1 : B ≤ 20000) (ha : Pl_ht P tf) (hb : Pl_ht P tg) (f0 : tf ≠ 0) (g0 : tg ≠ 0) (ea : G.2.2.1 tf = xs) (eb : G.2.2.1 tg = ys) (hA : T_tel A xs) (hQ : T_tel Q ys) : ∀ (t : Nat) (k : Int) (u : C_S) (h : E_H) (sl : Nat) (ω2 : Nat → Nat) (zs : List (List Int)), (ys.length : Int) + 1 - k < t → 0 ≤ k → k ≤ ys.length → C_is h0 h u → D_Pl u pp pl tr B (g_st G 0 zs) P ω2 → D_cs pp s u ω ω2 sl → X_so zs → T_tel (fun z => z ∈ xs ∨ ∃ a : Int, 0 ≤ a ∧ a < k ∧ z = X_at ys a) zs → B_R (d + 5) E_m68 (10, [(3, .int (Zi k)), (0, .ref pl), (1, .ref (P.2.2.1 tf)), (2, .ref (P.2.2.1 tg))], []) h sl (fun x => ∃ s2 : C_S, C_is h0 x.2.1 s2 ∧ ∃ z : Int, x.1 = some (.int (Zi z)) ∧ ∃ zs, D_ch pp pl tr B s P ω (g_st G 0 zs) s2 x.2.2 ∧ (z = 1 ∧ F_fit (F_or A Q) ∧ X_so zs ∧ T_tel (F_or A Q) zs ∨ z = 0 ∧ ¬ F_fit (F_or A Q))) := by
  intro t
  induction t with
  | zero => intro k u h sl ω2 zs ht9 k0 k1 hs hp cs hso hT; omega
  | succ t ih =>
    intro k u h sl ω2 zs ht9 k0 k1 hs hp cs hso hT
    have ea2 : (g_st G 0 zs).2.2.1 tf = xs := by
      show g_up G.2.2.1 0 zs tf = xs
      rw [g_up_o f0]; exact ea
    have eb2 : (g_st G 0 zs).2.2.1 tg = ys := by
      show g_up G.2.2.1 0 zs tg = ys
      rw [g_up_o g0]; exact eb
    have ez2 : (g_st G 0 zs).2.2.1 0 = zs := (g_up_s : g_up G.2.2.1 0 zs 0 = zs)
    have fa := hp.tF' ha ea2
    have fb := hp.tF' hb eb2
    have hla := hp.tL ha
    have hlb := hp.tL hb
    have hlz := hp.tL (t := 0) (.inl rfl)
    rw [ea2] at hla
    rw [eb2] at hlb
    rw [ez2] at hlz
    obtain ⟨hla, hla2⟩ := hla
    obtain ⟨hlb, hlb2⟩ := hlb
    have zla : Zr (xs.length : Int) := ⟨by omega, by omega⟩
    have zlb : Zr (ys.length : Int) := ⟨by omega, by omega⟩
    have zk : Zr k := ⟨by omega, by omega⟩
    refine Z_go (f2 := (11, [(3, .int (Zi k)), (0, .ref pl), (1, .ref (P.2.2.1 tf)), (2, .ref (P.2.2.1 tg))], [.int (Zi k)])) (fun _ => rfl) ?_
    refine Z_go (f2 := (12, [(3, .int (Zi k)), (0, .ref pl), (1, .ref (P.2.2.1 tf)), (2, .ref (P.2.2.1 tg))], [.ref (P.2.2.1 tg), .int (Zi k)])) (fun _ => rfl) ?_
    refine C_gi rfl hs (hp.tK hb) (by decide) (Nat.le_of_ble_eq_true rfl) rfl ?_
    rw [show C_F (u) (P.2.2.1 tg) 2 = (ys.length : Int) from (by first | exact fb | exact (if_neg (fun e => absurd e.1 (by assumption))).trans fb | exact (if_neg (fun e => absurd e.2 (by decide))).trans fb | exact (if_neg (fun e => absurd e.2 (by decide))).trans ((if_neg (fun e => absurd e.2 (by decide))).trans fb) | exact (if_neg (fun e => absurd e.2 (by decide))).trans ((if_neg (fun e => absurd e.2 (by decide))).trans ((if_neg (fun e => absurd e.2 (by decide))).trans fb)))]
    show B_R _ _ (15, [(3, .int (Zi k)), (0, .ref pl), (1, .ref (P.2.2.1 tf)), (2, .ref (P.2.2.1 tg))], [.int (Zi ((ys.length : Int))), .int (Zi k)]) _ _ _
    refine Z_cge rfl rfl (by first | exact hs.zF _ _ | exact Zor_r _ _ | exact hs.zA _ _ | assumption | exact zA _ _ | exact zS _ | exact Zr_not (hs.zA _ _) | exact hs.1.1 _ _ | exact ⟨by omega, by omega⟩) (by first | exact hs.zF _ _ | exact Zor_r _ _ | exact hs.zA _ _ | assumption | exact zA _ _ | exact zS _ | exact Zr_not (hs.zA _ _) | exact hs.1.1 _ _ | exact ⟨by omega, by omega⟩) (fun y1 => ?_) (fun y1 => ?_)
    · refine Z_go (f2 := (51, [(3, .int (Zi k)), (0, .ref pl), (1, .ref (P.2.2.1 tf)), (2, .ref (P.2.2.1 tg))], [.int (Zi 1)])) (fun _ => rfl) ?_
      refine Z_iret rfl rfl (by first | rfl | decide | exact narrow_b01 (by omega)) ?_
      try dsimp only
      obtain rfl : k = ys.length := by omega
      have hall : ∀ z, F_or A Q z ↔ z ∈ xs ∨ ∃ a : Int, 0 ≤ a ∧ a < ys.length ∧ z = X_at ys a := fun z => by
        constructor
        · rintro (q | q)
          · exact .inl ((hA z).mpr q)
          · obtain ⟨i, i0, i1, ei⟩ := X_mem_at ((hQ z).mpr q)
            exact .inr ⟨i, i0, i1, ei.symm⟩
        · rintro (q | ⟨a, a0, a1, rfl⟩)
          · exact .inl ((hA z).mp q)
          · exact .inr ((hQ _).mp (X_at_mem a0 a1))
      exact ⟨_, hs, 1, rfl, zs, ⟨_, hp, cs⟩, .inl ⟨rfl, ⟨⟨zs, hlz.1, fun x hx => (hT x).mpr ((hall x).mp hx)⟩, fun x hx => (hlz.2 x ((hT x).mpr ((hall x).mp hx))).1⟩, hso, fun x => (hT x).trans (hall x).symm⟩⟩
    · refine Z_go (f2 := (19, [(3, .int (Zi k)), (0, .ref pl), (1, .ref (P.2.2.1 tf)), (2, .ref (P.2.2.1 tg))], [.ref pl])) (fun _ => rfl) ?_
      refine C_gr rfl hs hp.1.1.1 (by decide) (Nat.le_of_ble_eq_true rfl) rfl hp.1.1.2.2.2.2.2.2.2.2.2.2.1 ?_
      refine Z_go (f2 := (23, [(3, .int (Zi k)), (0, .ref pl), (1, .ref (P.2.2.1 tf)), (2, .ref (P.2.2.1 tg))], [.ref pl, .ref (P.2.2.1 0)])) (fun _ => rfl) ?_
      refine C_gr rfl hs hp.1.1.1 (by decide) (Nat.le_of_ble_eq_true rfl) rfl hp.1.1.2.2.2.2.2.2.2.2.2.2.2.1 ?_
      refine Z_go (f2 := (27, [(3, .int (Zi k)), (0, .ref pl), (1, .ref (P.2.2.1 tf)), (2, .ref (P.2.2.1 tg))], [.ref (P.2.2.1 tg), .ref P.2.2.2.2.2.2, .ref (P.2.2.1 0)])) (fun _ => rfl) ?_
      refine Z_go (f2 := (28, [(3, .int (Zi k)), (0, .ref pl), (1, .ref (P.2.2.1 tf)), (2, .ref (P.2.2.1 tg))], [.int (Zi k), .ref (P.2.2.1 tg), .ref P.2.2.2.2.2.2, .ref (P.2.2.1 0)])) (fun _ => rfl) ?_
      refine Z_go (f2 := (29, [(3, .int (Zi k)), (0, .ref pl), (1, .ref (P.2.2.1 tf)), (2, .ref (P.2.2.1 tg))], [.ref pl, .int (Zi k), .ref (P.2.2.1 tg), .ref P.2.2.2.2.2.2, .ref (P.2.2.1 0)])) (fun _ => rfl) ?_
      refine C_gr rfl hs hp.1.1.1 (by decide) (Nat.le_of_ble_eq_true rfl) rfl hp.1.1.2.2.2.2.2.2.2.2.2.2.2.1 ?_
      refine Z_go (f2 := (33, [(3, .int (Zi k)), (0, .ref pl), (1, .ref (P.2.2.1 tf)), (2, .ref (P.2.2.1 tg))], [.int (Zi 0), .ref P.2.2.2.2.2.2, .int (Zi k), .ref (P.2.2.1 tg), .ref P.2.2.2.2.2.2, .ref (P.2.2.1 0)])) (fun _ => rfl) ?_
      refine C_callV (As := [.int (Zi k), .ref P.2.2.2.2.2.2, .int (Zi 0)]) (rest := [.ref P.2.2.2.2.2.2, .ref (P.2.2.1 0)]) rfl (by decide) rfl (by decide) rfl rfl (by decide +kernel) (Nat.le_of_ble_eq_true rfl) hs (hp.tK hb) (o_cpT _ hp hb eb2 hs.1 (i := k) (fr := 0) k0 (by omega) hp.by0 rfl (by show 0 + _ ≤ 60; have := (hlb2 _ (X_at_mem k0 (show k < (ys.length : Int) by omega))).1; omega)) (fun x h v2 n2 hs q => ?_)
      obtain ⟨rfl, ⟨ω4, hp, cq⟩, hby⟩ := q
      have cs := cs.tr cq
      rw [List.nil_append] at hby
      have hin : F_or A Q (X_at ys k) := .inr ((hQ _).mp (X_at_mem k0 (show k < (ys.length : Int) by omega)))
      show B_R _ _ (36, [(3, .int (Zi k)), (0, .ref pl), (1, .ref (P.2.2.1 tf)), (2, .ref (P.2.2.1 tg))], [.int (Zi (0 + ((X_at ys k).length : Int))), .ref P.2.2.2.2.2.2, .ref (P.2.2.1 0)]) _ _ _
      refine C_callV (As := [.ref P.2.2.2.2.2.2, .int (Zi (0 + ((X_at ys k).length : Int)))]) (rest := []) rfl (by decide) rfl (by decide) rfl rfl (by decide +kernel) (Nat.le_of_ble_eq_true rfl) hs (hp.tK (.inl rfl)) (o_put' _ hp (t := 0) (.inl rfl) ez2 hs.1 hby hso (by omega)) (fun x h v3 n3 hs q => ?_)
      obtain ⟨zp, rfl, zs2, ⟨ω5, hp, cq⟩, hso2, hzp⟩ := q
      have cs := cs.tr cq
      rw [g_st_i] at hp
      have zzp : Zr zp := by rcases hzp with ⟨e, _⟩ | ⟨e, _⟩ <;> exact ⟨by omega, by omega⟩
      show B_R _ _ (39, [(3, .int (Zi k)), (0, .ref pl), (1, .ref (P.2.2.1 tf)), (2, .ref (P.2.2.1 tg))], [.int (Zi zp)]) _ _ _
      refine Z_ine rfl rfl (by first | exact hs.zF _ _ | exact Zor_r _ _ | exact hs.zA _ _ | assumption | exact zA _ _ | exact zS _ | exact Zr_not (hs.zA _ _) | exact hs.1.1 _ _ | exact ⟨by omega, by omega⟩) (fun y2 => ?_) (fun y2 => ?_)
      · refine Z_iinc (L2 := [(3, .int (Zi (k + 1))), (0, .ref pl), (1, .ref (P.2.2.1 tf)), (2, .ref (P.2.2.1 tg))]) rfl rfl (by decide) rfl ?_
        refine Z_go (f2 := (10, [(3, .int (Zi (k + 1))), (0, .ref pl), (1, .ref (P.2.2.1 tf)), (2, .ref (P.2.2.1 tg))], [])) (fun _ => rfl) ?_
        refine B_loc (K := [(3, .int (Zi (k + 1))), (0, .ref pl), (1, .ref (P.2.2.1 tf)), (2, .ref (P.2.2.1 tg))]) (N_all_sub ⟨rfl, rfl, rfl, rfl, trivial⟩) (show ([3, 0, 1, 2] : List Nat).Nodup by decide) ?_
        have hz2 : ∀ y, y ∈ zs2 ↔ y ∈ zs ∨ y = X_at ys k := by rcases hzp with ⟨_, e⟩ | ⟨e, _⟩; exact e; omega
        refine ih _ _ h _ _ _ (by omega) (by omega) (by omega) hs hp cs hso2 (fun y => ?_)
        rw [hz2, hT y]
        constructor
        · rintro ((q | ⟨a, a0, a1, e⟩) | e)
          · exact .inl q
          · exact .inr ⟨a, a0, by omega, e⟩
          · exact .inr ⟨k, k0, by omega, e⟩
        · rintro (q | ⟨a, a0, a1, e⟩)
          · exact .inl (.inl q)
          · by_cases c : a = k
            · exact .inr (by rw [e, c])
            · exact .inl (.inr ⟨a, a0, by omega, e⟩)
      · refine Z_go (f2 := (43, [(3, .int (Zi k)), (0, .ref pl), (1, .ref (P.2.2.1 tf)), (2, .ref (P.2.2.1 tg))], [.int (Zi 0)])) (fun _ => rfl) ?_
        refine Z_iret rfl rfl (by first | rfl | decide | exact narrow_b01 (by omega)) ?_
        try dsimp only
        rcases hzp with ⟨e, _⟩ | ⟨_, e1, e2, e3⟩
        · omega
        · refine ⟨_, hs, 0, rfl, zs2, ⟨_, hp, cs⟩, .inr ⟨rfl, F_fit_no (X_so_nd hso) (fun z hz => ?_) hin e2 e3⟩⟩
          rcases (hT z).mp hz with q | ⟨a, a0, a1, rfl⟩
          · exact .inl ((hA z).mp q)
          · exact .inr ((hQ _).mp (X_at_mem a0 (by omega)))
theorem C_uni (d : Nat) {s : C_S} {pp : List Nat} {pl tr B : Nat} {G : G_t} {P : G_p} {ω : Nat → Nat} {tf tg : Nat} {xs ys : List (List Int)} {A Q : P_X} (hp : D_Pl s pp pl tr B G P ω) (B0 : 1280 ≤ B) (B1 : B ≤ 20000) (ha : Pl_ht P tf) (hb : Pl_ht P tg) (f0 : tf ≠ 0) (g0 : tg ≠ 0) (ea : G.2.2.1 tf = xs) (eb : G.2.2.1 tg = ys) (hA : T_tel A xs) (hQ : T_tel Q ys) (hso : X_so xs) : C_ok (d + 6) 68 [.ref pl, .ref (P.2.2.1 tf), .ref (P.2.2.1 tg)] s (fun x s2 n => ∃ z : Int, x = some (.int (Zi z)) ∧ ∃ zs, D_ch pp pl tr B s P ω (g_st G 0 zs) s2 n ∧ (z = 1 ∧ F_fit (F_or A Q) ∧ X_so zs ∧ T_tel (F_or A Q) zs ∨ z = 0 ∧ ¬ F_fit (F_or A Q))) := by
  refine C_enter (M := E_m68) rfl (Nat.le_of_ble_eq_true rfl) (fun h0 h hs => ?_)
  show B_R (d + 5) _ (0, [(0, .ref pl), (1, .ref (P.2.2.1 tf)), (2, .ref (P.2.2.1 tg))], []) _ _ _
  have cs := D_cs.refl pp s ω
  refine Z_go (f2 := (1, [(0, .ref pl), (1, .ref (P.2.2.1 tf)), (2, .ref (P.2.2.1 tg))], [.ref pl])) (fun _ => rfl) ?_
  refine C_gr rfl hs hp.1.1.1 (by decide) (Nat.le_of_ble_eq_true rfl) rfl hp.1.1.2.2.2.2.2.2.2.2.2.2.1 ?_
  refine Z_go (f2 := (5, [(0, .ref pl), (1, .ref (P.2.2.1 tf)), (2, .ref (P.2.2.1 tg))], [.ref (P.2.2.1 tf), .ref (P.2.2.1 0)])) (fun _ => rfl) ?_
  refine C_callV (As := [.ref (P.2.2.1 tf)]) (rest := []) rfl (by decide) rfl (by decide) rfl rfl (by decide +kernel) (Nat.le_of_ble_eq_true rfl) hs (hp.tK (.inl rfl)) ((by have := o_tcopy (t := 0) (t2 := tf) (d + 1) hp (.inl rfl) ha (fun e => f0 e.symm) hs.1; rw [ea] at this; exact this)) (fun x h v2 n2 hs q => ?_)
  obtain ⟨rfl, ω2, hp, cq⟩ := q
  have cs := cs.tr cq
  show B_R _ _ (8, [(0, .ref pl), (1, .ref (P.2.2.1 tf)), (2, .ref (P.2.2.1 tg))], []) _ _ _
  refine Z_go (f2 := (9, [(0, .ref pl), (1, .ref (P.2.2.1 tf)), (2, .ref (P.2.2.1 tg))], [.int (Zi 0)])) (fun _ => rfl) ?_
  refine Z_go (f2 := (10, [(3, .int (Zi 0)), (0, .ref pl), (1, .ref (P.2.2.1 tf)), (2, .ref (P.2.2.1 tg))], [])) (fun _ => rfl) ?_
  refine B_loc (K := [(3, .int (Zi 0)), (0, .ref pl), (1, .ref (P.2.2.1 tf)), (2, .ref (P.2.2.1 tg))]) (N_all_sub ⟨rfl, rfl, rfl, rfl, trivial⟩) (show ([3, 0, 1, 2] : List Nat).Nodup by decide) ?_
  exact C_uni1 B0 B1 ha hb f0 g0 ea eb hA hQ (ys.length + 2) 0 _ h _ _ xs (by omega) (by omega) (by omega) hs hp cs hso (fun y => ⟨fun e => .inl e, fun e => e.elim (fun e => e) (fun ⟨a, a0, a1, _⟩ => by omega)⟩)
