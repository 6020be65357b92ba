/-! the class: Planner: cross; both -/
/-- the first so many crossings -/
def X_cr (ts hs : List Int) (i k : Int) : P_X := fun z => ∃ a b : Int, 0 ≤ a ∧ 0 ≤ b ∧ b < hs.length ∧ (a < i ∨ a = i ∧ b < k) ∧ a < ts.length ∧ z = L_gr (K_tx (L_at ts a) ++ K_tx (L_at hs b))
theorem X_cr_s {ts hs : List Int} {i k : Int} (i0 : 0 ≤ i) (i1 : i < ts.length) (k0 : 0 ≤ k) (k1 : k < hs.length) (z : List Int) : X_cr ts hs i (k + 1) z ↔ X_cr ts hs i k z ∨ z = L_gr (K_tx (L_at ts i) ++ K_tx (L_at hs k)) := by
  constructor
  · rintro ⟨a, b, h1, h2, h3, h4, h5, rfl⟩
    by_cases c : a = i ∧ b = k
    · obtain ⟨rfl, rfl⟩ := c; exact .inr rfl
    · exact .inl ⟨a, b, h1, h2, h3, by omega, h5, rfl⟩
  · rintro (⟨a, b, h1, h2, h3, h4, h5, rfl⟩ | rfl)
    · exact ⟨a, b, h1, h2, h3, by omega, h5, rfl⟩
    · exact ⟨i, k, i0, k0, k1, .inr ⟨rfl, by omega⟩, i1, rfl⟩
theorem X_cr_n {ts hs : List Int} {i : Int} (z : List Int) : X_cr ts hs (i + 1) 0 z ↔ X_cr ts hs i hs.length z := by
  constructor
  · rintro ⟨a, b, h1, h2, h3, h4, h5, rfl⟩; exact ⟨a, b, h1, h2, h3, by omega, h5, rfl⟩
  · rintro ⟨a, b, h1, h2, h3, h4, h5, rfl⟩; exact ⟨a, b, h1, h2, h3, by omega, h5, rfl⟩
theorem X_cr_0 {ts hs : List Int} (z : List Int) : X_cr ts hs 0 0 z ↔ False := ⟨fun ⟨a, b, h1, h2, h3, h4, h5, _⟩ => by omega, fun h => h.elim⟩
theorem X_cr_e {ts hs : List Int} {T H : P_X} (hT : K_is T ts) (hH : K_is H hs) (z : List Int) : F_im2 (fun t h => L_gr (t ++ h)) T H z ↔ X_cr ts hs ts.length 0 z := by
  constructor
  · rintro ⟨t, h, ht, hh, rfl⟩
    obtain ⟨a1, a2⟩ := hT.of ht
    obtain ⟨b1, b2⟩ := hH.of hh
    obtain ⟨i, i0, i1, ei⟩ := L_at_mem.mp a1
    obtain ⟨k, k0, k1, ek⟩ := L_at_mem.mp b1
    exact ⟨i, k, i0, k0, k1, .inl i1, i1, by rw [ei, ek, a2, b2]⟩
  · rintro ⟨a, b, h1, h2, h3, h4, h5, rfl⟩
    exact ⟨_, _, (hT.at (L_at_mem.mpr ⟨a, h1, h5, rfl⟩)).1, (hH.at (L_at_mem.mpr ⟨b, h2, h3, rfl⟩)).1, rfl⟩
theorem L_gr_by2 {u h : List Int} (hu : L_by2 u) (hh : L_by2 h) : (L_gr (u ++ h)).length ≤ 2 := by
  rw [L_gr_cr hu hh]
  split
  · split
    · exact Nat.le_trans (L_ins_lq _ _) (Nat.succ_le_succ (Nat.le_trans (L_ins_lq _ _) (Nat.le_refl _)))
    · exact Nat.le_trans (L_ins_lq _ _) (by show 1 ≤ 2; omega)
  · split
    · exact Nat.le_trans (L_ins_lq _ _) (by show 1 ≤ 2; omega)
    · exact Nat.zero_le _
theorem F_least_sub {S : P_X} {n : Nat} (hS : ∀ y, S y → L_srt y ∧ y.length ≤ n) : ∀ z, F_least S z → z.length ≤ n := by
  intro z hz
  unfold F_least at hz
  by_cases c : S_card (F_min S) 24
  · rw [c_pos c] at hz
    exact (hS z hz.1).2
  · rw [c_neg c] at hz
    have hne : ∃ y, S y := by
      by_cases e : ∃ y, S y
      · exact e
      · exact absurd ⟨[], Nat.zero_le _, fun x hx => absurd ⟨x, hx.1⟩ e⟩ c
    obtain ⟨y, hy⟩ := hne
    have hz : z = F_core S := hz
    have h : ∃ l, L_srt l ∧ ∀ x, x ∈ l ↔ ∀ c, S c → x ∈ c := by
      have fl : ∀ l : List Int, L_srt l → ∃ m, L_srt m ∧ ∀ x, x ∈ m ↔ x ∈ l ∧ ∀ c, S c → x ∈ c := by
        intro l
        induction l with
        | nil => exact fun _ => ⟨[], trivial, fun x => ⟨fun e => absurd e List.not_mem_nil, fun e => absurd e.1 List.not_mem_nil⟩⟩
        | cons a l ih =>
          intro hl
          obtain ⟨m, m1, m2⟩ := ih hl.2
          by_cases ca : ∀ c, S c → a ∈ c
          · refine ⟨a :: m, ⟨fun b hb => hl.1 b ((m2 b).mp hb).1, m1⟩, fun x => ?_⟩
            rw [List.mem_cons, List.mem_cons, m2]
            constructor
            · rintro (rfl | ⟨p, q⟩)
              · exact ⟨.inl rfl, ca⟩
              · exact ⟨.inr p, q⟩
            · rintro ⟨p | p, q⟩
              · exact .inl p
              · exact .inr ⟨p, q⟩
          · refine ⟨m, m1, fun x => ?_⟩
            rw [m2, List.mem_cons]
            constructor
            · rintro ⟨p, q⟩; exact ⟨.inr p, q⟩
            · rintro ⟨p | p, q⟩
              · rw [p] at q; exact absurd q ca
              · exact ⟨p, q⟩
      obtain ⟨m, m1, m2⟩ := fl y (hS y hy).1
      exact ⟨m, m1, fun x => ⟨fun hx => ((m2 x).mp hx).2, fun hx => (m2 x).mpr ⟨hx y hy, hx⟩⟩⟩
    have h3 : L_srt (F_core S) ∧ ∀ x, x ∈ F_core S ↔ ∀ c, S c → x ∈ c := Classical.epsilon_spec h
    rw [hz]
    exact Nat.le_trans (L_srt_len h3.1 (fun x hx => (h3.2 x).mp hx y hy)) (hS y hy).2
theorem C_cross2 {d : Nat} {h0 : E_H} {s : C_S} {Φ : E_R → Prop} {pp : List Nat} {pl tr B : Nat} {G : G_t} {P : G_p} {ω : Nat → Nat} {r1 r2 : Nat} {ts hd : List Int} {T H : P_X} (B0 : 1280 ≤ B) (B1 : B ≤ 20000) (h1 : Pl_hr P r1) (h2 : Pl_hr P r2) (g1 : 4 ≤ r1) (g2 : 4 ≤ r2) (e1 : G.1 r1 = ts) (e2 : G.1 r2 = hd) (hT : K_is T ts) (hH : K_is H hd) (lt : ts.length ≤ 12) (lh : hd.length ≤ 12) {i : Int} (i0 : 0 ≤ i) (i1 : i < ts.length) (ret : ∀ (u : C_S) (h : E_H) (sl : Nat) (ω2 : Nat → Nat) (xf : List (List Int)) (j9 : List Int), C_is h0 h u → D_Pl u pp pl tr B (g_sf (g_sr G 0 j9) 0 xf) P ω2 → D_cs pp s u ω ω2 sl → F_fam (X_cr ts hd i hd.length) xf → (xf.length : Int) ≤ 12 * i + 12 → B_R (d + 5) E_m76 (50, [(3, .int (Zi i)), (0, .ref pl), (1, .ref (P.1 r1)), (2, .ref (P.1 r2))], []) h sl Φ) : ∀ (t : Nat) (k : Int) (u : C_S) (h : E_H) (sl : Nat) (ω2 : Nat → Nat) (xf : List (List Int)) (j9 : List Int), (hd.length : Int) + 1 - k < t → 0 ≤ k → k ≤ hd.length → C_is h0 h u → D_Pl u pp pl tr B (g_sf (g_sr G 0 j9) 0 xf) P ω2 → D_cs pp s u ω ω2 sl → F_fam (X_cr ts hd i k) xf → (xf.length : Int) ≤ 12 * i + k → B_R (d + 5) E_m76 (20, [(4, .int (Zi k)), (3, .int (Zi i)), (0, .ref pl), (1, .ref (P.1 r1)), (2, .ref (P.1 r2))], []) h sl Φ := by
  intro t
  induction t with
  | zero => intro k u h sl ω2 xf j9 ht k0 k1 hs hp cs hF hl; omega
  | succ t ih =>
    intro k u h sl ω2 xf j9 ht k0 k1 hs hp cs hF hl
    have zk : Zr k := ⟨by omega, by omega⟩
    have zi : Zr i := ⟨by omega, by omega⟩
    have et : (g_sf (g_sr G 0 j9) 0 xf).1 r1 = ts := by
      show g_up G.1 0 j9 r1 = ts
      rw [g_up_o (by omega)]; exact e1
    have eh : (g_sf (g_sr G 0 j9) 0 xf).1 r2 = hd := by
      show g_up G.1 0 j9 r2 = hd
      rw [g_up_o (by omega)]; exact e2
    have ft := hp.rF' h1 et
    have fh := hp.rF' h2 eh
    have zlt : Zr (ts.length : Int) := ⟨by omega, by omega⟩
    have zlh : Zr (hd.length : Int) := ⟨by omega, by omega⟩
    refine Z_go (f2 := (22, [(4, .int (Zi k)), (3, .int (Zi i)), (0, .ref pl), (1, .ref (P.1 r1)), (2, .ref (P.1 r2))], [.int (Zi k)])) (fun _ => rfl) ?_
    refine Z_go (f2 := (23, [(4, .int (Zi k)), (3, .int (Zi i)), (0, .ref pl), (1, .ref (P.1 r1)), (2, .ref (P.1 r2))], [.ref (P.1 r2), .int (Zi k)])) (fun _ => rfl) ?_
    refine C_gi rfl hs (hp.rK h2) (by decide) (Nat.le_of_ble_eq_true rfl) rfl ?_
    rw [show C_F (u) (P.1 r2) 1 = (hd.length : Int) from (by first | exact fh | exact (if_neg (fun e => absurd e.1 (by assumption))).trans fh | exact (if_neg (fun e => absurd e.2 (by decide))).trans fh | exact (if_neg (fun e => absurd e.2 (by decide))).trans ((if_neg (fun e => absurd e.2 (by decide))).trans fh) | exact (if_neg (fun e => absurd e.2 (by decide))).trans ((if_neg (fun e => absurd e.2 (by decide))).trans ((if_neg (fun e => absurd e.2 (by decide))).trans fh)))]
    show B_R _ _ (26, [(4, .int (Zi k)), (3, .int (Zi i)), (0, .ref pl), (1, .ref (P.1 r1)), (2, .ref (P.1 r2))], [.int (Zi ((hd.length : Int))), .int (Zi k)]) _ _ _
    refine Z_cge rfl rfl (by first | exact hs.zF _ _ | exact Zor_r _ _ | exact hs.zA _ _ | assumption | exact zA _ _ | exact zS _ | exact Zr_not (hs.zA _ _) | exact hs.1.1 _ _ | exact ⟨by omega, by omega⟩) (by first | exact hs.zF _ _ | exact Zor_r _ _ | exact hs.zA _ _ | assumption | exact zA _ _ | exact zS _ | exact Zr_not (hs.zA _ _) | exact hs.1.1 _ _ | exact ⟨by omega, by omega⟩) (fun y1 => ?_) (fun y1 => ?_)
    · refine B_loc (K := [(3, .int (Zi i)), (0, .ref pl), (1, .ref (P.1 r1)), (2, .ref (P.1 r2))]) (N_all_sub ⟨rfl, rfl, rfl, rfl, trivial⟩) (show ([3, 0, 1, 2] : List Nat).Nodup by decide) ?_
      obtain rfl : k = hd.length := by omega
      exact ret u h sl ω2 xf j9 hs hp cs hF (by omega)
    · refine Z_go (f2 := (30, [(4, .int (Zi k)), (3, .int (Zi i)), (0, .ref pl), (1, .ref (P.1 r1)), (2, .ref (P.1 r2))], [.ref pl])) (fun _ => rfl) ?_
      refine Z_go (f2 := (31, [(4, .int (Zi k)), (3, .int (Zi i)), (0, .ref pl), (1, .ref (P.1 r1)), (2, .ref (P.1 r2))], [.ref (P.1 r1), .ref pl])) (fun _ => rfl) ?_
      refine Z_go (f2 := (32, [(4, .int (Zi k)), (3, .int (Zi i)), (0, .ref pl), (1, .ref (P.1 r1)), (2, .ref (P.1 r2))], [.int (Zi i), .ref (P.1 r1), .ref pl])) (fun _ => rfl) ?_
      refine C_callVR (As := [.int (Zi i)]) (rest := [.ref pl]) rfl (by decide) rfl (by decide) rfl rfl (by decide +kernel) (Nat.le_of_ble_eq_true rfl) hs (hp.rK h1) (o_at' _ hp h1 et (i := i) zi) (fun x q => ?_)
      obtain rfl := q
      obtain ⟨kaa, kab, kac⟩ := hT.at (L_at_mem.mpr ⟨i, by omega, by omega, rfl⟩ : L_at ts i ∈ ts)
      rw [← kac]
      show B_R _ _ (35, [(4, .int (Zi k)), (3, .int (Zi i)), (0, .ref pl), (1, .ref (P.1 r1)), (2, .ref (P.1 r2))], [.int (Zi ((K_ky (K_tx (L_at ts i))))), .ref pl]) _ _ _
      refine Z_go (f2 := (36, [(4, .int (Zi k)), (3, .int (Zi i)), (0, .ref pl), (1, .ref (P.1 r1)), (2, .ref (P.1 r2))], [.ref (P.1 r2), .int (Zi ((K_ky (K_tx (L_at ts i))))), .ref pl])) (fun _ => rfl) ?_
      refine Z_go (f2 := (38, [(4, .int (Zi k)), (3, .int (Zi i)), (0, .ref pl), (1, .ref (P.1 r1)), (2, .ref (P.1 r2))], [.int (Zi k), .ref (P.1 r2), .int (Zi ((K_ky (K_tx (L_at ts i))))), .ref pl])) (fun _ => rfl) ?_
      refine C_callVR (As := [.int (Zi k)]) (rest := [.int (Zi ((K_ky (K_tx (L_at ts i))))), .ref pl]) rfl (by decide) rfl (by decide) rfl rfl (by decide +kernel) (Nat.le_of_ble_eq_true rfl) hs (hp.rK h2) (o_at' _ hp h2 eh (i := k) zk) (fun x q => ?_)
      obtain rfl := q
      obtain ⟨kba, kbb, kbc⟩ := hH.at (L_at_mem.mpr ⟨k, by omega, by omega, rfl⟩ : L_at hd k ∈ hd)
      rw [← kbc]
      show B_R _ _ (41, [(4, .int (Zi k)), (3, .int (Zi i)), (0, .ref pl), (1, .ref (P.1 r1)), (2, .ref (P.1 r2))], [.int (Zi ((K_ky (K_tx (L_at hd k))))), .int (Zi ((K_ky (K_tx (L_at ts i))))), .ref pl]) _ _ _
      refine C_callV (As := [.int (Zi ((K_ky (K_tx (L_at ts i))))), .int (Zi ((K_ky (K_tx (L_at hd k)))))]) (rest := []) rfl (by decide) rfl (by decide) rfl rfl (by decide +kernel) (Nat.le_of_ble_eq_true rfl) hs hp.1.1.1 (C_offC _ hp B0 B1 kab kbb (xf := xf) (by simp only [g_sr, g_sf, g_st, g_se, g_su]; repeat (first | rw [g_up_s] | rw [g_up_o (by omega)])) (by omega)) (fun x h v1 n1 hs q => ?_)
      obtain ⟨rfl, ω3, hp, cq⟩ := q
      have cs := cs.tr cq
      rw [g_sr_sf, g_sf_i, g_sr_i] at hp
      show B_R _ _ (44, [(4, .int (Zi k)), (3, .int (Zi i)), (0, .ref pl), (1, .ref (P.1 r1)), (2, .ref (P.1 r2))], []) _ _ _
      refine Z_iinc (L2 := [(4, .int (Zi (k + 1))), (3, .int (Zi i)), (0, .ref pl), (1, .ref (P.1 r1)), (2, .ref (P.1 r2))]) rfl rfl (by decide) rfl ?_
      refine Z_go (f2 := (20, [(4, .int (Zi (k + 1))), (3, .int (Zi i)), (0, .ref pl), (1, .ref (P.1 r1)), (2, .ref (P.1 r2))], [])) (fun _ => rfl) ?_
      refine B_loc (K := [(4, .int (Zi (k + 1))), (3, .int (Zi i)), (0, .ref pl), (1, .ref (P.1 r1)), (2, .ref (P.1 r2))]) (N_all_sub ⟨rfl, rfl, rfl, rfl, rfl, trivial⟩) (show ([4, 3, 0, 1, 2] : List Nat).Nodup by decide) ?_
      have hF2 := (hF.off (xs := L_gr (K_tx (L_at ts i) ++ K_tx (L_at hd k))) (L_gr_srt _)).ext (X_cr_s i0 i1 k0 (by omega))
      have hl2 := F_off_len xf (L_gr (K_tx (L_at ts i) ++ K_tx (L_at hd k)))
      exact ih _ _ h _ _ _ _ (by omega) (by omega) (by omega) hs hp cs hF2 (by omega)
theorem C_cross1 {d : Nat} {h0 : E_H} {s : C_S} {pp : List Nat} {pl tr B : Nat} {G : G_t} {P : G_p} {ω : Nat → Nat} {r1 r2 : Nat} {ts hd : List Int} {T H : P_X} (B0 : 1280 ≤ B) (B1 : B ≤ 20000) (h1 : Pl_hr P r1) (h2 : Pl_hr P r2) (g1 : 4 ≤ r1) (g2 : 4 ≤ r2) (e1 : G.1 r1 = ts) (e2 : G.1 r2 = hd) (hT : K_is T ts) (hH : K_is H hd) (lt : ts.length ≤ 12) (lh : hd.length ≤ 12) : ∀ (t : Nat) (i : Int) (u : C_S) (h : E_H) (sl : Nat) (ω2 : Nat → Nat) (xf : List (List Int)) (j9 : List Int), (ts.length : Int) + 1 - i < t → 0 ≤ i → i ≤ ts.length → C_is h0 h u → D_Pl u pp pl tr B (g_sf (g_sr G 0 j9) 0 xf) P ω2 → D_cs pp s u ω ω2 sl → F_fam (X_cr ts hd i 0) xf → (xf.length : Int) ≤ 12 * i → B_R (d + 5) E_m76 (9, [(3, .int (Zi i)), (0, .ref pl), (1, .ref (P.1 r1)), (2, .ref (P.1 r2))], []) h sl (fun x => ∃ s2 : C_S, C_is h0 x.2.1 s2 ∧ x.1 = none ∧ ∃ ys j9 k9 zf, F_tel (F_least (F_im2 (fun t h => L_gr (t ++ h)) T H)) ys ∧ ys.length ≤ 24 ∧ (∀ c ∈ ys, c.length ≤ 2) ∧ D_ch pp pl tr B s P ω (g_sf (g_sf (g_sr (g_sr G 0 j9) 1 k9) 0 zf) 1 ys) s2 x.2.2) := by
  intro t
  induction t with
  | zero => intro i u h sl ω2 xf j9 ht i0 i1 hs hp cs hF hl; omega
  | succ t ih =>
    intro i u h sl ω2 xf j9 ht i0 i1 hs hp cs hF hl
    have zi : Zr i := ⟨by omega, by omega⟩
    have et : (g_sf (g_sr G 0 j9) 0 xf).1 r1 = ts := by
      show g_up G.1 0 j9 r1 = ts
      rw [g_up_o (by omega)]; exact e1
    have eh : (g_sf (g_sr G 0 j9) 0 xf).1 r2 = hd := by
      show g_up G.1 0 j9 r2 = hd
      rw [g_up_o (by omega)]; exact e2
    have ft := hp.rF' h1 et
    have fh := hp.rF' h2 eh
    have zlt : Zr (ts.length : Int) := ⟨by omega, by omega⟩
    have zlh : Zr (hd.length : Int) := ⟨by omega, by omega⟩
    refine Z_go (f2 := (10, [(3, .int (Zi i)), (0, .ref pl), (1, .ref (P.1 r1)), (2, .ref (P.1 r2))], [.int (Zi i)])) (fun _ => rfl) ?_
    refine Z_go (f2 := (11, [(3, .int (Zi i)), (0, .ref pl), (1, .ref (P.1 r1)), (2, .ref (P.1 r2))], [.ref (P.1 r1), .int (Zi i)])) (fun _ => rfl) ?_
    refine C_gi rfl hs (hp.rK h1) (by decide) (Nat.le_of_ble_eq_true rfl) rfl ?_
    rw [show C_F (u) (P.1 r1) 1 = (ts.length : Int) from (by first | exact ft | exact (if_neg (fun e => absurd e.1 (by assumption))).trans ft | exact (if_neg (fun e => absurd e.2 (by decide))).trans ft | exact (if_neg (fun e => absurd e.2 (by decide))).trans ((if_neg (fun e => absurd e.2 (by decide))).trans ft) | exact (if_neg (fun e => absurd e.2 (by decide))).trans ((if_neg (fun e => absurd e.2 (by decide))).trans ((if_neg (fun e => absurd e.2 (by decide))).trans ft)))]
    show B_R _ _ (14, [(3, .int (Zi i)), (0, .ref pl), (1, .ref (P.1 r1)), (2, .ref (P.1 r2))], [.int (Zi ((ts.length : Int))), .int (Zi i)]) _ _ _
    refine Z_cge rfl rfl (by first | exact hs.zF _ _ | exact Zor_r _ _ | exact hs.zA _ _ | assumption | exact zA _ _ | exact zS _ | exact Zr_not (hs.zA _ _) | exact hs.1.1 _ _ | exact ⟨by omega, by omega⟩) (by first | exact hs.zF _ _ | exact Zor_r _ _ | exact hs.zA _ _ | assumption | exact zA _ _ | exact zS _ | exact Zr_not (hs.zA _ _) | exact hs.1.1 _ _ | exact ⟨by omega, by omega⟩) (fun y1 => ?_) (fun y1 => ?_)
    · have ei : i = ts.length := by omega
      refine Z_go (f2 := (57, [(3, .int (Zi i)), (0, .ref pl), (1, .ref (P.1 r1)), (2, .ref (P.1 r2))], [.ref pl])) (fun _ => rfl) ?_
      refine Z_go (f2 := (58, [(3, .int (Zi i)), (0, .ref pl), (1, .ref (P.1 r1)), (2, .ref (P.1 r2))], [.ref pl, .ref pl])) (fun _ => rfl) ?_
      refine C_gr rfl hs hp.1.1.1 (by decide) (Nat.le_of_ble_eq_true rfl) rfl hp.1.1.2.2.2.2.2.1 ?_
      refine C_callV (As := [.ref (P.2.1 1)]) (rest := []) rfl (by decide) rfl (by decide) rfl rfl (by decide +kernel) (Nat.le_of_ble_eq_true rfl) hs hp.1.1.1 (C_least _ hp B0 B1 (f := 1) (.inl (by omega)) (by omega) (xf := xf) (by simp only [g_sr, g_sf, g_st, g_se, g_su]; repeat (first | rw [g_up_s] | rw [g_up_o (by omega)])) (S := F_im2 (fun t h => L_gr (t ++ h)) T H) (hF.ext (fun z => by rw [X_cr_e hT hH z, ei])) (fun c hc => by obtain ⟨a, b, a1, a2, a3, a4, a5, rfl⟩ := hF.2.1 c hc; have := L_gr_by2 (hT.at (L_at_mem.mpr ⟨a, a1, a5, rfl⟩)).2.1 (hH.at (L_at_mem.mpr ⟨b, a2, a3, rfl⟩)).2.1; omega)) (fun x h v1 n1 hs q => ?_)
      obtain ⟨rfl, ys, k9, zf, q1, q2, q3, ω3, hp, cq⟩ := q
      have cs := cs.tr cq
      rw [g_sr_sf, g_sf_i] at hp
      show B_R _ _ (64, [(3, .int (Zi i)), (0, .ref pl), (1, .ref (P.1 r1)), (2, .ref (P.1 r2))], []) _ _ _
      refine Z_ret rfl rfl ?_
      try dsimp only
      refine ⟨_, hs, rfl, ys, _, _, _, q1, q2, fun c hc => ?_, _, hp, cs⟩
      refine F_least_sub (n := 2) (fun y hy => ?_) c ((q1.2.2 c).mp hc)
      obtain ⟨t_, h_, ht_, hh_, rfl⟩ := hy
      exact ⟨L_gr_srt _, L_gr_by2 (hT.2.2 _ ht_) (hH.2.2 _ hh_)⟩
    · refine Z_go (f2 := (18, [(3, .int (Zi i)), (0, .ref pl), (1, .ref (P.1 r1)), (2, .ref (P.1 r2))], [.int (Zi 0)])) (fun _ => rfl) ?_
      refine Z_go (f2 := (20, [(4, .int (Zi 0)), (3, .int (Zi i)), (0, .ref pl), (1, .ref (P.1 r1)), (2, .ref (P.1 r2))], [])) (fun _ => rfl) ?_
      refine B_loc (K := [(4, .int (Zi 0)), (3, .int (Zi i)), (0, .ref pl), (1, .ref (P.1 r1)), (2, .ref (P.1 r2))]) (N_all_sub ⟨rfl, rfl, rfl, rfl, rfl, trivial⟩) (show ([4, 3, 0, 1, 2] : List Nat).Nodup by decide) ?_
      refine C_cross2 B0 B1 h1 h2 g1 g2 e1 e2 hT hH lt lh i0 (by omega) (fun u h sl ω2 xf j9 hs hp cs hF hl => ?_) (hd.length + 2) 0 u h _ _ _ _ (by omega) (by omega) (by omega) hs hp cs hF (by omega)
      refine Z_iinc (L2 := [(3, .int (Zi (i + 1))), (0, .ref pl), (1, .ref (P.1 r1)), (2, .ref (P.1 r2))]) rfl rfl (by decide) rfl ?_
      refine Z_go (f2 := (9, [(3, .int (Zi (i + 1))), (0, .ref pl), (1, .ref (P.1 r1)), (2, .ref (P.1 r2))], [])) (fun _ => rfl) ?_
      exact ih _ u h _ _ _ _ (by omega) (by omega) (by omega) hs hp cs (hF.ext X_cr_n) (by omega)
theorem C_cross (d : Nat) {s : C_S} {pp : List Nat} {pl tr B : Nat} {G : G_t} {P : G_p} {ω : Nat → Nat} {r1 r2 : Nat} {ts hd : List Int} {T H : P_X} (hp : D_Pl s pp pl tr B G P ω) (B0 : 1280 ≤ B) (B1 : B ≤ 20000) (h1 : Pl_hr P r1) (h2 : Pl_hr P r2) (g1 : 4 ≤ r1) (g2 : 4 ≤ r2) (e1 : G.1 r1 = ts) (e2 : G.1 r2 = hd) (hT : K_is T ts) (hH : K_is H hd) (lt : ts.length ≤ 12) (lh : hd.length ≤ 12) : C_ok (d + 6) 76 [.ref pl, .ref (P.1 r1), .ref (P.1 r2)] s (fun x s2 n => x = none ∧ ∃ ys j9 k9 zf, F_tel (F_least (F_im2 (fun t h => L_gr (t ++ h)) T H)) ys ∧ ys.length ≤ 24 ∧ (∀ c ∈ ys, c.length ≤ 2) ∧ D_ch pp pl tr B s P ω (g_sf (g_sf (g_sr (g_sr G 0 j9) 1 k9) 0 zf) 1 ys) s2 n) := by
  refine C_enter (M := E_m76) rfl (Nat.le_of_ble_eq_true rfl) (fun h0 h hs => ?_)
  show B_R (d + 5) _ (0, [(0, .ref pl), (1, .ref (P.1 r1)), (2, .ref (P.1 r2))], []) _ _ _
  have cs := D_cs.refl pp s ω
  refine Z_go (f2 := (1, [(0, .ref pl), (1, .ref (P.1 r1)), (2, .ref (P.1 r2))], [.ref pl])) (fun _ => rfl) ?_
  refine C_gr rfl hs hp.1.1.1 (by decide) (Nat.le_of_ble_eq_true rfl) rfl hp.1.1.2.2.2.2.1 ?_
  refine C_callV (As := []) (rest := []) rfl (by decide) rfl (by decide) rfl rfl (by decide +kernel) (Nat.le_of_ble_eq_true rfl) hs (hp.fK (.inl (by omega))) (o_fclear _ hp (f := 0) (.inl (by omega)) hs.1) (fun x h v2 n2 hs q => ?_)
  obtain ⟨rfl, ω2, hp, cq⟩ := q
  have cs := cs.tr cq
  rw [← g_sr_n G 0] at hp
  show B_R _ _ (7, [(0, .ref pl), (1, .ref (P.1 r1)), (2, .ref (P.1 r2))], []) _ _ _
  refine Z_go (f2 := (8, [(0, .ref pl), (1, .ref (P.1 r1)), (2, .ref (P.1 r2))], [.int (Zi 0)])) (fun _ => rfl) ?_
  refine Z_go (f2 := (9, [(3, .int (Zi 0)), (0, .ref pl), (1, .ref (P.1 r1)), (2, .ref (P.1 r2))], [])) (fun _ => rfl) ?_
  refine B_loc (K := [(3, .int (Zi 0)), (0, .ref pl), (1, .ref (P.1 r1)), (2, .ref (P.1 r2))]) (N_all_sub ⟨rfl, rfl, rfl, rfl, trivial⟩) (show ([3, 0, 1, 2] : List Nat).Nodup by decide) ?_
  exact C_cross1 B0 B1 h1 h2 g1 g2 e1 e2 hT hH lt lh (ts.length + 2) 0 _ h _ _ [] _ (by omega) (by omega) (by omega) hs hp cs (F_fam.nil.ext X_cr_0) (by show (0 : Int) ≤ _; omega)
