/-! the class: Row: fillFromBoth -/
/-- two rising lists, gathered up to i and j -/
def L_mg (xs ys zs : List Int) (i j : Int) : Prop := L_srt zs ∧ (zs.length : Int) ≤ i + j ∧ (∀ v, v ∈ zs ↔ (∃ k : Int, 0 ≤ k ∧ k < i ∧ L_at xs k = v) ∨ (∃ k : Int, 0 ≤ k ∧ k < j ∧ L_at ys k = v)) ∧ (∀ v ∈ zs, (i < xs.length → v < L_at xs i) ∧ (j < ys.length → v < L_at ys j))
theorem L_mg_0 (xs ys : List Int) : L_mg xs ys [] 0 0 := by
  refine ⟨trivial, Int.le_refl _, fun v => ⟨fun h => (by cases h), ?_⟩, fun v h => (by cases h)⟩
  rintro (⟨k, k0, k1, _⟩ | ⟨k, k0, k1, _⟩)
  · omega
  · omega
theorem L_srt_snoc {zs : List Int} {v : Int} (h : L_srt zs) (hv : ∀ z ∈ zs, z < v) : L_srt (zs ++ [v]) := by
  induction zs with
  | nil => exact ⟨fun y hy => absurd hy List.not_mem_nil, trivial⟩
  | cons z zs ih =>
    refine ⟨fun y hy => ?_, ih h.2 (fun x hx => hv x (List.mem_cons_of_mem _ hx))⟩
    rcases List.mem_append.mp hy with hy | hy
    · exact h.1 y hy
    · rw [List.mem_singleton.mp hy]
      exact hv z (List.mem_cons_self ..)
theorem L_mg_st {xs ys zs : List Int} {i j i2 j2 v : Int} (sx : L_srt xs) (sy : L_srt ys) (h : L_mg xs ys zs i j) (i0 : 0 ≤ i) (j0 : 0 ≤ j) (hv : ∀ z ∈ zs, z < v) (hi : i2 = i ∧ (i < xs.length → v < L_at xs i) ∨ i2 = i + 1 ∧ i < xs.length ∧ L_at xs i = v) (hj : j2 = j ∧ (j < ys.length → v < L_at ys j) ∨ j2 = j + 1 ∧ j < ys.length ∧ L_at ys j = v) (ne : i2 ≠ i ∨ j2 ≠ j) : L_mg xs ys (zs ++ [v]) i2 j2 := by
  obtain ⟨h1, h2, h3, h4⟩ := h
  refine ⟨L_srt_snoc h1 hv, by rw [List.length_append]; show ((zs.length + 1 : Nat) : Int) ≤ _; omega, fun w => ?_, fun w hw => ?_⟩
  · rw [List.mem_append, List.mem_singleton, h3]
    constructor
    · rintro ((⟨k, k0, k1, e⟩ | ⟨k, k0, k1, e⟩) | e)
      · exact .inl ⟨k, k0, by omega, e⟩
      · exact .inr ⟨k, k0, by omega, e⟩
      · rcases hi with hi | hi
        · rcases hj with hj | hj
          · omega
          · exact .inr ⟨j, j0, by omega, by rw [hj.2.2, e]⟩
        · exact .inl ⟨i, i0, by omega, by rw [hi.2.2, e]⟩
    · rintro (⟨k, k0, k1, e⟩ | ⟨k, k0, k1, e⟩)
      · by_cases c : k < i
        · exact .inl (.inl ⟨k, k0, c, e⟩)
        · have : k = i := by omega
          subst this
          exact .inr (by omega)
      · by_cases c : k < j
        · exact .inl (.inr ⟨k, k0, c, e⟩)
        · have : k = j := by omega
          subst this
          exact .inr (by omega)
  · rcases List.mem_append.mp hw with hw | hw
    · have := h4 w hw
      refine ⟨fun c => ?_, fun c => ?_⟩
      · rcases hi with hi | hi
        · rw [hi.1]; exact this.1 (by omega)
        · have := L_at_srt sx i i2 i0 (by omega) c
          have := hv w hw
          omega
      · rcases hj with hj | hj
        · rw [hj.1]; exact this.2 (by omega)
        · have := L_at_srt sy j j2 j0 (by omega) c
          have := hv w hw
          omega
    · have hw := List.mem_singleton.mp hw
      subst hw
      refine ⟨fun c => ?_, fun c => ?_⟩
      · rcases hi with hi | hi
        · rw [hi.1]; exact hi.2 (by omega)
        · have := L_at_srt sx i i2 i0 (by omega) c
          omega
      · rcases hj with hj | hj
        · rw [hj.1]; exact hj.2 (by omega)
        · have := L_at_srt sy j j2 j0 (by omega) c
          omega
theorem L_mg_end {xs ys zs : List Int} {i j : Int} (sy : L_srt ys) (h : L_mg xs ys zs i j) (hi : i = xs.length) (hj : j = ys.length) : zs = L_un xs ys := by
  obtain ⟨h1, h2, h3, h4⟩ := h
  refine L_srt_ext h1 (L_un_srt sy) (fun v => ?_)
  rw [h3, L_un_mem, L_at_mem (xs := xs), L_at_mem (xs := ys), hi, hj]
theorem D_rw.tr {p : List Nat} {o cap cap2 : Nat} {ys zs : List Int} {B : Int} {s u w : C_S} {n m : Nat} {a2 : Nat} (fr : C_fr (fun t => t = p) s u) (g1 : n + 2 * cap ≤ 2 * cap2) (g2 : 8 * C_n u + cap ≤ 8 * C_n s + cap2) (g3 : (cap2 : Int) ≤ cap ∨ (cap2 : Int) ≤ 2 * B) (hr : D_Row u p o a2 cap2 ys) {B2 : Int} (h : D_rw p o cap2 zs B2 u w m) (hB : B2 ≤ B) : D_rw p o cap zs B s w (n + m) := by
  obtain ⟨a3, cap3, h1, h2, h3, h4, h5⟩ := h
  exact ⟨a3, cap3, h1, fr.tr h2, by omega, by omega, by omega⟩
theorem D_rw.weak {p : List Nat} {o cap : Nat} {ys : List Int} {B C : Int} {s u : C_S} {n : Nat} (h : D_rw p o cap ys B s u n) (hB : B ≤ C) : D_rw p o cap ys C s u n := by
  obtain ⟨a2, cap2, h1, h2, h3, h4, h5⟩ := h
  exact ⟨a2, cap2, h1, h2, h3, h4, by omega⟩
set_option maxHeartbeats 4000000 in
set_option maxRecDepth 4000 in
theorem C_fill_lp {d : Nat} {h0 : E_H} {s : C_S} {p q q3 : List Nat} {o cap o2 b cap3 o3 b3 cap4 : Nat} {ys ws : List Int} (w : C_wf s) (hq : D_Row s q o2 b cap3 ys) (hp : D_Row s q3 o3 b3 cap4 ws) (sy : L_srt ys) (sw : L_srt ws) (ne : p ≠ q) (ne3 : p ≠ q3) (m1 : ys.length + ws.length < 33554432) : ∀ (t : Nat) (step i j : Int) (u : C_S) (h : E_H) (sl a2 cap2 : Nat) (zs : List Int), step < t → C_is h0 h u → D_Row u p o a2 cap2 zs → C_fr (fun t => t = p) s u → sl + 2 * cap ≤ 2 * cap2 → 8 * C_n u + cap ≤ 8 * C_n s + cap2 → ((cap2 : Int) ≤ cap ∨ (cap2 : Int) ≤ 2 * (ys.length + ws.length)) → L_mg ys ws zs i j → 0 ≤ i → i ≤ ys.length → 0 ≤ j → j ≤ ws.length → (ys.length - i) + (ws.length - j) ≤ step → step < 2147483648 → B_R (d + 3) E_m94 (33, [(5, .int (Zi step)), (4, .int (Zi j)), (3, .int (Zi i)), (0, .ref o), (1, .ref o2), (2, .ref o3)], []) h sl (fun r => ∃ s2 : C_S, C_is h0 r.2.1 s2 ∧ (fun (x : Option Value) (s2 : C_S) (n : Nat) => x = none ∧ D_rw p o cap (L_un ys ws) (ys.length + ws.length) s s2 n) r.1 s2 r.2.2) := by
  intro t
  induction t with
  | zero => intro step i j u h sl a2 cap2 zs ht hs hr fr g1 g2 g3 mg i0 i1 j0 j1 st st2; omega
  | succ t ih =>
    intro step i j u h sl a2 cap2 zs ht hs hr fr g1 g2 g3 mg i0 i1 j0 j1 st st2
    have hr0 := hr
    have hq0 := hq.fr w fr (fun e => ne e.symm)
    have hp0 := hp.fr w fr (fun e => ne3 e.symm)
    obtain ⟨rk, rt, rp, ra, rs, rm, rl, r8, ri⟩ := hr
    have z := D_Row.zr hs hr0
    have z3 := D_Row.zr hs hq0
    have z4 := D_Row.zr hs hp0
    have hq1 := hq0
    have hp1 := hp0
    obtain ⟨qk, qt, qp, qa, qs, qm, ql, q8, qi⟩ := hq1
    obtain ⟨pk, pt, pp, pa, ps, pm, pl, p8, pi⟩ := hp1
    have hlt := mg.2.1
    have hlast := mg.2.2.2
    refine Z_go (f2 := (35, [(5, .int (Zi step)), (4, .int (Zi j)), (3, .int (Zi i)), (0, .ref o), (1, .ref o2), (2, .ref o3)], [.int (Zi step)])) (fun _ => rfl) ?_
    refine Z_ile rfl rfl (by first | exact hs.zF _ _ | exact Zor_r _ _ | exact hs.zA _ _ | assumption | exact zA _ _ | exact zS _ | exact Zr_not (hs.zA _ _) | exact hs.1.1 _ _ | exact ⟨by omega, by omega⟩) (fun c1 => ?_) (fun c1 => ?_)
    · refine Z_ret rfl rfl ⟨_, hs, ?_⟩
      try dsimp only
      have ei : i = ys.length := by omega
      have ej : j = ws.length := by omega
      have e := L_mg_end sw mg ei ej
      subst e
      exact ⟨rfl, a2, cap2, hr0, fr, g1, g2, g3⟩
    · refine Z_go (f2 := (39, [(5, .int (Zi step)), (4, .int (Zi j)), (3, .int (Zi i)), (0, .ref o), (1, .ref o2), (2, .ref o3)], [.int (Zi i)])) (fun _ => rfl) ?_
      refine Z_go (f2 := (40, [(5, .int (Zi step)), (4, .int (Zi j)), (3, .int (Zi i)), (0, .ref o), (1, .ref o2), (2, .ref o3)], [.ref o2, .int (Zi i)])) (fun _ => rfl) ?_
      refine C_gi rfl hs qk (by decide) (Nat.le_of_ble_eq_true rfl) rfl ?_
      rw [show C_F (u) o2 1 = (ys.length : Int) from (by first | exact qm | exact (if_neg (fun e => absurd e.1 (by assumption))).trans qm)]
      show B_R _ _ (43, [(5, .int (Zi step)), (4, .int (Zi j)), (3, .int (Zi i)), (0, .ref o), (1, .ref o2), (2, .ref o3)], [.int (Zi ((ys.length : Int))), .int (Zi i)]) _ _ _
      refine Z_clt rfl rfl (by first | exact hs.zF _ _ | exact Zor_r _ _ | exact hs.zA _ _ | assumption | exact zA _ _ | exact zS _ | exact Zr_not (hs.zA _ _) | exact hs.1.1 _ _ | exact ⟨by omega, by omega⟩) (by first | exact hs.zF _ _ | exact Zor_r _ _ | exact hs.zA _ _ | assumption | exact zA _ _ | exact zS _ | exact Zr_not (hs.zA _ _) | exact hs.1.1 _ _ | exact ⟨by omega, by omega⟩) (fun c2 => ?_) (fun c2 => ?_)
      · refine Z_go (f2 := (57, [(5, .int (Zi step)), (4, .int (Zi j)), (3, .int (Zi i)), (0, .ref o), (1, .ref o2), (2, .ref o3)], [.int (Zi j)])) (fun _ => rfl) ?_
        refine Z_go (f2 := (58, [(5, .int (Zi step)), (4, .int (Zi j)), (3, .int (Zi i)), (0, .ref o), (1, .ref o2), (2, .ref o3)], [.ref o3, .int (Zi j)])) (fun _ => rfl) ?_
        refine C_gi rfl hs pk (by decide) (Nat.le_of_ble_eq_true rfl) rfl ?_
        rw [show C_F (u) o3 1 = (ws.length : Int) from (by first | exact pm | exact (if_neg (fun e => absurd e.1 (by assumption))).trans pm)]
        show B_R _ _ (61, [(5, .int (Zi step)), (4, .int (Zi j)), (3, .int (Zi i)), (0, .ref o), (1, .ref o2), (2, .ref o3)], [.int (Zi ((ws.length : Int))), .int (Zi j)]) _ _ _
        refine Z_cge rfl rfl (by first | exact hs.zF _ _ | exact Zor_r _ _ | exact hs.zA _ _ | assumption | exact zA _ _ | exact zS _ | exact Zr_not (hs.zA _ _) | exact hs.1.1 _ _ | exact ⟨by omega, by omega⟩) (by first | exact hs.zF _ _ | exact Zor_r _ _ | exact hs.zA _ _ | assumption | exact zA _ _ | exact zS _ | exact Zr_not (hs.zA _ _) | exact hs.1.1 _ _ | exact ⟨by omega, by omega⟩) (fun c3 => ?_) (fun c3 => ?_)
        · refine Z_go (f2 := (87, [(5, .int (Zi step)), (4, .int (Zi j)), (3, .int (Zi i)), (0, .ref o), (1, .ref o2), (2, .ref o3)], [.int (Zi 1)])) (fun _ => rfl) ?_
          refine Z_go (f2 := (91, [(5, .int (Zi step)), (4, .int (Zi j)), (3, .int (Zi i)), (0, .ref o), (1, .ref o2), (2, .ref o3)], [.int (Zi 1)])) (fun _ => rfl) ?_
          refine Z_go (f2 := (93, [(6, .int (Zi 1)), (5, .int (Zi step)), (4, .int (Zi j)), (3, .int (Zi i)), (0, .ref o), (1, .ref o2), (2, .ref o3)], [])) (fun _ => rfl) ?_
          refine Z_go (f2 := (94, [(6, .int (Zi 1)), (5, .int (Zi step)), (4, .int (Zi j)), (3, .int (Zi i)), (0, .ref o), (1, .ref o2), (2, .ref o3)], [.int (Zi i)])) (fun _ => rfl) ?_
          refine Z_go (f2 := (95, [(6, .int (Zi 1)), (5, .int (Zi step)), (4, .int (Zi j)), (3, .int (Zi i)), (0, .ref o), (1, .ref o2), (2, .ref o3)], [.ref o2, .int (Zi i)])) (fun _ => rfl) ?_
          refine C_gi rfl hs qk (by decide) (Nat.le_of_ble_eq_true rfl) rfl ?_
          rw [show C_F (u) o2 1 = (ys.length : Int) from (by first | exact qm | exact (if_neg (fun e => absurd e.1 (by assumption))).trans qm)]
          show B_R _ _ (98, [(6, .int (Zi 1)), (5, .int (Zi step)), (4, .int (Zi j)), (3, .int (Zi i)), (0, .ref o), (1, .ref o2), (2, .ref o3)], [.int (Zi ((ys.length : Int))), .int (Zi i)]) _ _ _
          refine Z_cge rfl rfl (by first | exact hs.zF _ _ | exact Zor_r _ _ | exact hs.zA _ _ | assumption | exact zA _ _ | exact zS _ | exact Zr_not (hs.zA _ _) | exact hs.1.1 _ _ | exact ⟨by omega, by omega⟩) (by first | exact hs.zF _ _ | exact Zor_r _ _ | exact hs.zA _ _ | assumption | exact zA _ _ | exact zS _ | exact Zr_not (hs.zA _ _) | exact hs.1.1 _ _ | exact ⟨by omega, by omega⟩) (fun c4 => ?_) (fun c4 => ?_)
          · refine Z_go (f2 := (125, [(6, .int (Zi 1)), (5, .int (Zi step)), (4, .int (Zi j)), (3, .int (Zi i)), (0, .ref o), (1, .ref o2), (2, .ref o3)], [.int (Zi 1)])) (fun _ => rfl) ?_
            refine Z_go (f2 := (129, [(6, .int (Zi 1)), (5, .int (Zi step)), (4, .int (Zi j)), (3, .int (Zi i)), (0, .ref o), (1, .ref o2), (2, .ref o3)], [.int (Zi 1)])) (fun _ => rfl) ?_
            refine Z_go (f2 := (131, [(7, .int (Zi 1)), (6, .int (Zi 1)), (5, .int (Zi step)), (4, .int (Zi j)), (3, .int (Zi i)), (0, .ref o), (1, .ref o2), (2, .ref o3)], [])) (fun _ => rfl) ?_
            refine Z_go (f2 := (132, [(7, .int (Zi 1)), (6, .int (Zi 1)), (5, .int (Zi step)), (4, .int (Zi j)), (3, .int (Zi i)), (0, .ref o), (1, .ref o2), (2, .ref o3)], [.ref o])) (fun _ => rfl) ?_
            refine Z_go (f2 := (134, [(7, .int (Zi 1)), (6, .int (Zi 1)), (5, .int (Zi step)), (4, .int (Zi j)), (3, .int (Zi i)), (0, .ref o), (1, .ref o2), (2, .ref o3)], [.int (Zi 1), .ref o])) (fun _ => rfl) ?_
            refine Z_ieq rfl rfl (by first | exact hs.zF _ _ | exact Zor_r _ _ | exact hs.zA _ _ | assumption | exact zA _ _ | exact zS _ | exact Zr_not (hs.zA _ _) | exact hs.1.1 _ _ | exact ⟨by omega, by omega⟩) (fun c5 => ?_) (fun c5 => ?_)
            · exfalso; omega
            · refine Z_go (f2 := (138, [(7, .int (Zi 1)), (6, .int (Zi 1)), (5, .int (Zi step)), (4, .int (Zi j)), (3, .int (Zi i)), (0, .ref o), (1, .ref o2), (2, .ref o3)], [.ref o2, .ref o])) (fun _ => rfl) ?_
              refine Z_go (f2 := (139, [(7, .int (Zi 1)), (6, .int (Zi 1)), (5, .int (Zi step)), (4, .int (Zi j)), (3, .int (Zi i)), (0, .ref o), (1, .ref o2), (2, .ref o3)], [.int (Zi i), .ref o2, .ref o])) (fun _ => rfl) ?_
              refine C_callVR (As := [.int (Zi i)]) (rest := [.ref o]) rfl (by decide) rfl (by decide) rfl rfl (by decide +kernel) (Nat.le_of_ble_eq_true rfl) hs qk (C_at_ _ hq0 (i := i) (by first | exact hs.zF _ _ | exact Zor_r _ _ | exact hs.zA _ _ | assumption | exact zA _ _ | exact zS _ | exact Zr_not (hs.zA _ _) | exact hs.1.1 _ _ | exact ⟨by omega, by omega⟩)) (fun x q => ?_)
              obtain rfl := q
              have zl14 := D_Row.zat hs hq0 i
              show B_R _ _ (142, [(7, .int (Zi 1)), (6, .int (Zi 1)), (5, .int (Zi step)), (4, .int (Zi j)), (3, .int (Zi i)), (0, .ref o), (1, .ref o2), (2, .ref o3)], [.int (Zi (L_at ys i)), .ref o]) _ _ _
              refine Z_go (f2 := (151, [(7, .int (Zi 1)), (6, .int (Zi 1)), (5, .int (Zi step)), (4, .int (Zi j)), (3, .int (Zi i)), (0, .ref o), (1, .ref o2), (2, .ref o3)], [.int (Zi (L_at ys i)), .ref o])) (fun _ => rfl) ?_
              refine C_callV (As := [.int (Zi (L_at ys i))]) (rest := []) rfl (by decide) rfl (by decide) rfl rfl (by decide +kernel) (Nat.le_of_ble_eq_true rfl) hs rk (C_push _ hr0 (v := L_at ys i) (by first | exact hs.zF _ _ | exact Zor_r _ _ | exact hs.zA _ _ | assumption | exact zA _ _ | exact zS _ | exact Zr_not (hs.zA _ _) | exact hs.1.1 _ _ | exact ⟨by omega, by omega⟩) (by omega)) (fun x h w n hs q => ?_)
              obtain ⟨rfl, hw⟩ := q
              show B_R _ _ (154, [(7, .int (Zi 1)), (6, .int (Zi 1)), (5, .int (Zi step)), (4, .int (Zi j)), (3, .int (Zi i)), (0, .ref o), (1, .ref o2), (2, .ref o3)], []) _ _ _
              refine Z_go (f2 := (155, [(7, .int (Zi 1)), (6, .int (Zi 1)), (5, .int (Zi step)), (4, .int (Zi j)), (3, .int (Zi i)), (0, .ref o), (1, .ref o2), (2, .ref o3)], [.int (Zi i)])) (fun _ => rfl) ?_
              refine Z_go (f2 := (157, [(7, .int (Zi 1)), (6, .int (Zi 1)), (5, .int (Zi step)), (4, .int (Zi j)), (3, .int (Zi i)), (0, .ref o), (1, .ref o2), (2, .ref o3)], [.int (Zi 1), .int (Zi i)])) (fun _ => rfl) ?_
              refine Z_ieq rfl rfl (by first | exact hs.zF _ _ | exact Zor_r _ _ | exact hs.zA _ _ | assumption | exact zA _ _ | exact zS _ | exact Zr_not (hs.zA _ _) | exact hs.1.1 _ _ | exact ⟨by omega, by omega⟩) (fun c6 => ?_) (fun c6 => ?_)
              · exfalso; omega
              · refine Z_go (f2 := (161, [(7, .int (Zi 1)), (6, .int (Zi 1)), (5, .int (Zi step)), (4, .int (Zi j)), (3, .int (Zi i)), (0, .ref o), (1, .ref o2), (2, .ref o3)], [.int (Zi 1), .int (Zi i)])) (fun _ => rfl) ?_
                refine Z_go (f2 := (165, [(7, .int (Zi 1)), (6, .int (Zi 1)), (5, .int (Zi step)), (4, .int (Zi j)), (3, .int (Zi i)), (0, .ref o), (1, .ref o2), (2, .ref o3)], [.int (Zi 1), .int (Zi i)])) (fun _ => rfl) ?_
                refine Z_iadd rfl ?_
                refine Z_go (f2 := (167, [(3, .int (Zi (i + 1))), (7, .int (Zi 1)), (6, .int (Zi 1)), (5, .int (Zi step)), (4, .int (Zi j)), (0, .ref o), (1, .ref o2), (2, .ref o3)], [])) (fun _ => rfl) ?_
                refine Z_go (f2 := (169, [(3, .int (Zi (i + 1))), (7, .int (Zi 1)), (6, .int (Zi 1)), (5, .int (Zi step)), (4, .int (Zi j)), (0, .ref o), (1, .ref o2), (2, .ref o3)], [.int (Zi j)])) (fun _ => rfl) ?_
                refine Z_go (f2 := (171, [(3, .int (Zi (i + 1))), (7, .int (Zi 1)), (6, .int (Zi 1)), (5, .int (Zi step)), (4, .int (Zi j)), (0, .ref o), (1, .ref o2), (2, .ref o3)], [.int (Zi 1), .int (Zi j)])) (fun _ => rfl) ?_
                refine Z_ieq rfl rfl (by first | exact hs.zF _ _ | exact Zor_r _ _ | exact hs.zA _ _ | assumption | exact zA _ _ | exact zS _ | exact Zr_not (hs.zA _ _) | exact hs.1.1 _ _ | exact ⟨by omega, by omega⟩) (fun c7 => ?_) (fun c7 => ?_)
                · exfalso; omega
                · refine Z_go (f2 := (175, [(3, .int (Zi (i + 1))), (7, .int (Zi 1)), (6, .int (Zi 1)), (5, .int (Zi step)), (4, .int (Zi j)), (0, .ref o), (1, .ref o2), (2, .ref o3)], [.int (Zi 1), .int (Zi j)])) (fun _ => rfl) ?_
                  refine Z_go (f2 := (179, [(3, .int (Zi (i + 1))), (7, .int (Zi 1)), (6, .int (Zi 1)), (5, .int (Zi step)), (4, .int (Zi j)), (0, .ref o), (1, .ref o2), (2, .ref o3)], [.int (Zi 1), .int (Zi j)])) (fun _ => rfl) ?_
                  refine Z_iadd rfl ?_
                  refine Z_go (f2 := (182, [(4, .int (Zi (j + 1))), (3, .int (Zi (i + 1))), (7, .int (Zi 1)), (6, .int (Zi 1)), (5, .int (Zi step)), (0, .ref o), (1, .ref o2), (2, .ref o3)], [])) (fun _ => rfl) ?_
                  refine Z_iinc (L2 := [(5, .int (Zi (step + (-1)))), (4, .int (Zi (j + 1))), (3, .int (Zi (i + 1))), (7, .int (Zi 1)), (6, .int (Zi 1)), (0, .ref o), (1, .ref o2), (2, .ref o3)]) rfl rfl (by decide) rfl ?_
                  refine C_goto (p2 := 33) rfl (by decide +kernel) (by decide +kernel) ?_
                  first
                  | (exfalso; omega)
                  | (refine B_loc (K := [(5, .int (Zi (step + (-1)))), (4, .int (Zi (j + 1))), (3, .int (Zi (i + 1))), (0, .ref o), (1, .ref o2), (2, .ref o3)]) (N_all_sub ⟨rfl, rfl, rfl, rfl, rfl, rfl, trivial⟩) (show ([5, 4, 3, 0, 1, 2] : List Nat).Nodup by decide) ?_
                     have mg2 : L_mg ys ws (zs ++ [L_at ys i]) (i + 1) (j + 1) := L_mg_st sy sw mg i0 j0 (fun z hz => (hlast z hz).1 (by omega)) (by omega) (by omega) (by omega)
                     have hw := D_rw.tr fr g1 g2 g3 hr0 hw (by omega)
                     obtain ⟨a5, cap5, e1, e2, e3, e4, e5⟩ := hw
                     exact ih _ _ _ w _ _ a5 cap5 _ (by omega) hs e1 e2 e3 e4 e5 mg2 (by omega) (by omega) (by omega) (by omega) (by omega) (by omega))
          · refine Z_go (f2 := (103, [(6, .int (Zi 1)), (5, .int (Zi step)), (4, .int (Zi j)), (3, .int (Zi i)), (0, .ref o), (1, .ref o2), (2, .ref o3)], [.int (Zi j)])) (fun _ => rfl) ?_
            refine Z_go (f2 := (104, [(6, .int (Zi 1)), (5, .int (Zi step)), (4, .int (Zi j)), (3, .int (Zi i)), (0, .ref o), (1, .ref o2), (2, .ref o3)], [.ref o3, .int (Zi j)])) (fun _ => rfl) ?_
            refine C_gi rfl hs pk (by decide) (Nat.le_of_ble_eq_true rfl) rfl ?_
            rw [show C_F (u) o3 1 = (ws.length : Int) from (by first | exact pm | exact (if_neg (fun e => absurd e.1 (by assumption))).trans pm)]
            show B_R _ _ (107, [(6, .int (Zi 1)), (5, .int (Zi step)), (4, .int (Zi j)), (3, .int (Zi i)), (0, .ref o), (1, .ref o2), (2, .ref o3)], [.int (Zi ((ws.length : Int))), .int (Zi j)]) _ _ _
            refine Z_cge rfl rfl (by first | exact hs.zF _ _ | exact Zor_r _ _ | exact hs.zA _ _ | assumption | exact zA _ _ | exact zS _ | exact Zr_not (hs.zA _ _) | exact hs.1.1 _ _ | exact ⟨by omega, by omega⟩) (by first | exact hs.zF _ _ | exact Zor_r _ _ | exact hs.zA _ _ | assumption | exact zA _ _ | exact zS _ | exact Zr_not (hs.zA _ _) | exact hs.1.1 _ _ | exact ⟨by omega, by omega⟩) (fun c8 => ?_) (fun c8 => ?_)
            · refine Z_go (f2 := (129, [(6, .int (Zi 1)), (5, .int (Zi step)), (4, .int (Zi j)), (3, .int (Zi i)), (0, .ref o), (1, .ref o2), (2, .ref o3)], [.int (Zi 0)])) (fun _ => rfl) ?_
              refine Z_go (f2 := (131, [(7, .int (Zi 0)), (6, .int (Zi 1)), (5, .int (Zi step)), (4, .int (Zi j)), (3, .int (Zi i)), (0, .ref o), (1, .ref o2), (2, .ref o3)], [])) (fun _ => rfl) ?_
              refine Z_go (f2 := (132, [(7, .int (Zi 0)), (6, .int (Zi 1)), (5, .int (Zi step)), (4, .int (Zi j)), (3, .int (Zi i)), (0, .ref o), (1, .ref o2), (2, .ref o3)], [.ref o])) (fun _ => rfl) ?_
              refine Z_go (f2 := (134, [(7, .int (Zi 0)), (6, .int (Zi 1)), (5, .int (Zi step)), (4, .int (Zi j)), (3, .int (Zi i)), (0, .ref o), (1, .ref o2), (2, .ref o3)], [.int (Zi 1), .ref o])) (fun _ => rfl) ?_
              refine Z_ieq rfl rfl (by first | exact hs.zF _ _ | exact Zor_r _ _ | exact hs.zA _ _ | assumption | exact zA _ _ | exact zS _ | exact Zr_not (hs.zA _ _) | exact hs.1.1 _ _ | exact ⟨by omega, by omega⟩) (fun c9 => ?_) (fun c9 => ?_)
              · exfalso; omega
              · refine Z_go (f2 := (138, [(7, .int (Zi 0)), (6, .int (Zi 1)), (5, .int (Zi step)), (4, .int (Zi j)), (3, .int (Zi i)), (0, .ref o), (1, .ref o2), (2, .ref o3)], [.ref o2, .ref o])) (fun _ => rfl) ?_
                refine Z_go (f2 := (139, [(7, .int (Zi 0)), (6, .int (Zi 1)), (5, .int (Zi step)), (4, .int (Zi j)), (3, .int (Zi i)), (0, .ref o), (1, .ref o2), (2, .ref o3)], [.int (Zi i), .ref o2, .ref o])) (fun _ => rfl) ?_
                refine C_callVR (As := [.int (Zi i)]) (rest := [.ref o]) rfl (by decide) rfl (by decide) rfl rfl (by decide +kernel) (Nat.le_of_ble_eq_true rfl) hs qk (C_at_ _ hq0 (i := i) (by first | exact hs.zF _ _ | exact Zor_r _ _ | exact hs.zA _ _ | assumption | exact zA _ _ | exact zS _ | exact Zr_not (hs.zA _ _) | exact hs.1.1 _ _ | exact ⟨by omega, by omega⟩)) (fun x q => ?_)
                obtain rfl := q
                have zl15 := D_Row.zat hs hq0 i
                show B_R _ _ (142, [(7, .int (Zi 0)), (6, .int (Zi 1)), (5, .int (Zi step)), (4, .int (Zi j)), (3, .int (Zi i)), (0, .ref o), (1, .ref o2), (2, .ref o3)], [.int (Zi (L_at ys i)), .ref o]) _ _ _
                refine Z_go (f2 := (151, [(7, .int (Zi 0)), (6, .int (Zi 1)), (5, .int (Zi step)), (4, .int (Zi j)), (3, .int (Zi i)), (0, .ref o), (1, .ref o2), (2, .ref o3)], [.int (Zi (L_at ys i)), .ref o])) (fun _ => rfl) ?_
                refine C_callV (As := [.int (Zi (L_at ys i))]) (rest := []) rfl (by decide) rfl (by decide) rfl rfl (by decide +kernel) (Nat.le_of_ble_eq_true rfl) hs rk (C_push _ hr0 (v := L_at ys i) (by first | exact hs.zF _ _ | exact Zor_r _ _ | exact hs.zA _ _ | assumption | exact zA _ _ | exact zS _ | exact Zr_not (hs.zA _ _) | exact hs.1.1 _ _ | exact ⟨by omega, by omega⟩) (by omega)) (fun x h w n hs q => ?_)
                obtain ⟨rfl, hw⟩ := q
                show B_R _ _ (154, [(7, .int (Zi 0)), (6, .int (Zi 1)), (5, .int (Zi step)), (4, .int (Zi j)), (3, .int (Zi i)), (0, .ref o), (1, .ref o2), (2, .ref o3)], []) _ _ _
                refine Z_go (f2 := (155, [(7, .int (Zi 0)), (6, .int (Zi 1)), (5, .int (Zi step)), (4, .int (Zi j)), (3, .int (Zi i)), (0, .ref o), (1, .ref o2), (2, .ref o3)], [.int (Zi i)])) (fun _ => rfl) ?_
                refine Z_go (f2 := (157, [(7, .int (Zi 0)), (6, .int (Zi 1)), (5, .int (Zi step)), (4, .int (Zi j)), (3, .int (Zi i)), (0, .ref o), (1, .ref o2), (2, .ref o3)], [.int (Zi 1), .int (Zi i)])) (fun _ => rfl) ?_
                refine Z_ieq rfl rfl (by first | exact hs.zF _ _ | exact Zor_r _ _ | exact hs.zA _ _ | assumption | exact zA _ _ | exact zS _ | exact Zr_not (hs.zA _ _) | exact hs.1.1 _ _ | exact ⟨by omega, by omega⟩) (fun c10 => ?_) (fun c10 => ?_)
                · exfalso; omega
                · refine Z_go (f2 := (161, [(7, .int (Zi 0)), (6, .int (Zi 1)), (5, .int (Zi step)), (4, .int (Zi j)), (3, .int (Zi i)), (0, .ref o), (1, .ref o2), (2, .ref o3)], [.int (Zi 1), .int (Zi i)])) (fun _ => rfl) ?_
                  refine Z_go (f2 := (165, [(7, .int (Zi 0)), (6, .int (Zi 1)), (5, .int (Zi step)), (4, .int (Zi j)), (3, .int (Zi i)), (0, .ref o), (1, .ref o2), (2, .ref o3)], [.int (Zi 1), .int (Zi i)])) (fun _ => rfl) ?_
                  refine Z_iadd rfl ?_
                  refine Z_go (f2 := (167, [(3, .int (Zi (i + 1))), (7, .int (Zi 0)), (6, .int (Zi 1)), (5, .int (Zi step)), (4, .int (Zi j)), (0, .ref o), (1, .ref o2), (2, .ref o3)], [])) (fun _ => rfl) ?_
                  refine Z_go (f2 := (169, [(3, .int (Zi (i + 1))), (7, .int (Zi 0)), (6, .int (Zi 1)), (5, .int (Zi step)), (4, .int (Zi j)), (0, .ref o), (1, .ref o2), (2, .ref o3)], [.int (Zi j)])) (fun _ => rfl) ?_
                  refine Z_go (f2 := (171, [(3, .int (Zi (i + 1))), (7, .int (Zi 0)), (6, .int (Zi 1)), (5, .int (Zi step)), (4, .int (Zi j)), (0, .ref o), (1, .ref o2), (2, .ref o3)], [.int (Zi 0), .int (Zi j)])) (fun _ => rfl) ?_
                  refine Z_ieq rfl rfl (by first | exact hs.zF _ _ | exact Zor_r _ _ | exact hs.zA _ _ | assumption | exact zA _ _ | exact zS _ | exact Zr_not (hs.zA _ _) | exact hs.1.1 _ _ | exact ⟨by omega, by omega⟩) (fun c11 => ?_) (fun c11 => ?_)
                  · refine Z_go (f2 := (179, [(3, .int (Zi (i + 1))), (7, .int (Zi 0)), (6, .int (Zi 1)), (5, .int (Zi step)), (4, .int (Zi j)), (0, .ref o), (1, .ref o2), (2, .ref o3)], [.int (Zi 0), .int (Zi j)])) (fun _ => rfl) ?_
                    refine Z_iadd rfl ?_
                    refine Z_go (f2 := (182, [(4, .int (Zi (j + 0))), (3, .int (Zi (i + 1))), (7, .int (Zi 0)), (6, .int (Zi 1)), (5, .int (Zi step)), (0, .ref o), (1, .ref o2), (2, .ref o3)], [])) (fun _ => rfl) ?_
                    refine Z_iinc (L2 := [(5, .int (Zi (step + (-1)))), (4, .int (Zi (j + 0))), (3, .int (Zi (i + 1))), (7, .int (Zi 0)), (6, .int (Zi 1)), (0, .ref o), (1, .ref o2), (2, .ref o3)]) rfl rfl (by decide) rfl ?_
                    refine C_goto (p2 := 33) rfl (by decide +kernel) (by decide +kernel) ?_
                    first
                    | (exfalso; omega)
                    | (refine B_loc (K := [(5, .int (Zi (step + (-1)))), (4, .int (Zi (j + 0))), (3, .int (Zi (i + 1))), (0, .ref o), (1, .ref o2), (2, .ref o3)]) (N_all_sub ⟨rfl, rfl, rfl, rfl, rfl, rfl, trivial⟩) (show ([5, 4, 3, 0, 1, 2] : List Nat).Nodup by decide) ?_
                       have mg2 : L_mg ys ws (zs ++ [L_at ys i]) (i + 1) (j + 0) := L_mg_st sy sw mg i0 j0 (fun z hz => (hlast z hz).1 (by omega)) (by omega) (by omega) (by omega)
                       have hw := D_rw.tr fr g1 g2 g3 hr0 hw (by omega)
                       obtain ⟨a5, cap5, e1, e2, e3, e4, e5⟩ := hw
                       exact ih _ _ _ w _ _ a5 cap5 _ (by omega) hs e1 e2 e3 e4 e5 mg2 (by omega) (by omega) (by omega) (by omega) (by omega) (by omega))
                  · exfalso; omega
            · refine Z_go (f2 := (111, [(6, .int (Zi 1)), (5, .int (Zi step)), (4, .int (Zi j)), (3, .int (Zi i)), (0, .ref o), (1, .ref o2), (2, .ref o3)], [.ref o3])) (fun _ => rfl) ?_
              refine Z_go (f2 := (113, [(6, .int (Zi 1)), (5, .int (Zi step)), (4, .int (Zi j)), (3, .int (Zi i)), (0, .ref o), (1, .ref o2), (2, .ref o3)], [.int (Zi j), .ref o3])) (fun _ => rfl) ?_
              refine C_callVR (As := [.int (Zi j)]) (rest := []) rfl (by decide) rfl (by decide) rfl rfl (by decide +kernel) (Nat.le_of_ble_eq_true rfl) hs pk (C_at_ _ hp0 (i := j) (by first | exact hs.zF _ _ | exact Zor_r _ _ | exact hs.zA _ _ | assumption | exact zA _ _ | exact zS _ | exact Zr_not (hs.zA _ _) | exact hs.1.1 _ _ | exact ⟨by omega, by omega⟩)) (fun x q => ?_)
              obtain rfl := q
              have zl16 := D_Row.zat hs hp0 j
              show B_R _ _ (116, [(6, .int (Zi 1)), (5, .int (Zi step)), (4, .int (Zi j)), (3, .int (Zi i)), (0, .ref o), (1, .ref o2), (2, .ref o3)], [.int (Zi (L_at ws j))]) _ _ _
              refine Z_go (f2 := (117, [(6, .int (Zi 1)), (5, .int (Zi step)), (4, .int (Zi j)), (3, .int (Zi i)), (0, .ref o), (1, .ref o2), (2, .ref o3)], [.ref o2, .int (Zi (L_at ws j))])) (fun _ => rfl) ?_
              refine Z_go (f2 := (118, [(6, .int (Zi 1)), (5, .int (Zi step)), (4, .int (Zi j)), (3, .int (Zi i)), (0, .ref o), (1, .ref o2), (2, .ref o3)], [.int (Zi i), .ref o2, .int (Zi (L_at ws j))])) (fun _ => rfl) ?_
              refine C_callVR (As := [.int (Zi i)]) (rest := [.int (Zi (L_at ws j))]) rfl (by decide) rfl (by decide) rfl rfl (by decide +kernel) (Nat.le_of_ble_eq_true rfl) hs qk (C_at_ _ hq0 (i := i) (by first | exact hs.zF _ _ | exact Zor_r _ _ | exact hs.zA _ _ | assumption | exact zA _ _ | exact zS _ | exact Zr_not (hs.zA _ _) | exact hs.1.1 _ _ | exact ⟨by omega, by omega⟩)) (fun x q => ?_)
              obtain rfl := q
              have zl17 := D_Row.zat hs hq0 i
              show B_R _ _ (121, [(6, .int (Zi 1)), (5, .int (Zi step)), (4, .int (Zi j)), (3, .int (Zi i)), (0, .ref o), (1, .ref o2), (2, .ref o3)], [.int (Zi (L_at ys i)), .int (Zi (L_at ws j))]) _ _ _
              refine Z_cgt rfl rfl (by first | exact hs.zF _ _ | exact Zor_r _ _ | exact hs.zA _ _ | assumption | exact zA _ _ | exact zS _ | exact Zr_not (hs.zA _ _) | exact hs.1.1 _ _ | exact ⟨by omega, by omega⟩) (by first | exact hs.zF _ _ | exact Zor_r _ _ | exact hs.zA _ _ | assumption | exact zA _ _ | exact zS _ | exact Zr_not (hs.zA _ _) | exact hs.1.1 _ _ | exact ⟨by omega, by omega⟩) (fun c12 => ?_) (fun c12 => ?_)
              · refine Z_go (f2 := (129, [(6, .int (Zi 1)), (5, .int (Zi step)), (4, .int (Zi j)), (3, .int (Zi i)), (0, .ref o), (1, .ref o2), (2, .ref o3)], [.int (Zi 0)])) (fun _ => rfl) ?_
                refine Z_go (f2 := (131, [(7, .int (Zi 0)), (6, .int (Zi 1)), (5, .int (Zi step)), (4, .int (Zi j)), (3, .int (Zi i)), (0, .ref o), (1, .ref o2), (2, .ref o3)], [])) (fun _ => rfl) ?_
                refine Z_go (f2 := (132, [(7, .int (Zi 0)), (6, .int (Zi 1)), (5, .int (Zi step)), (4, .int (Zi j)), (3, .int (Zi i)), (0, .ref o), (1, .ref o2), (2, .ref o3)], [.ref o])) (fun _ => rfl) ?_
                refine Z_go (f2 := (134, [(7, .int (Zi 0)), (6, .int (Zi 1)), (5, .int (Zi step)), (4, .int (Zi j)), (3, .int (Zi i)), (0, .ref o), (1, .ref o2), (2, .ref o3)], [.int (Zi 1), .ref o])) (fun _ => rfl) ?_
                refine Z_ieq rfl rfl (by first | exact hs.zF _ _ | exact Zor_r _ _ | exact hs.zA _ _ | assumption | exact zA _ _ | exact zS _ | exact Zr_not (hs.zA _ _) | exact hs.1.1 _ _ | exact ⟨by omega, by omega⟩) (fun c13 => ?_) (fun c13 => ?_)
                · exfalso; omega
                · refine Z_go (f2 := (138, [(7, .int (Zi 0)), (6, .int (Zi 1)), (5, .int (Zi step)), (4, .int (Zi j)), (3, .int (Zi i)), (0, .ref o), (1, .ref o2), (2, .ref o3)], [.ref o2, .ref o])) (fun _ => rfl) ?_
                  refine Z_go (f2 := (139, [(7, .int (Zi 0)), (6, .int (Zi 1)), (5, .int (Zi step)), (4, .int (Zi j)), (3, .int (Zi i)), (0, .ref o), (1, .ref o2), (2, .ref o3)], [.int (Zi i), .ref o2, .ref o])) (fun _ => rfl) ?_
                  refine C_callVR (As := [.int (Zi i)]) (rest := [.ref o]) rfl (by decide) rfl (by decide) rfl rfl (by decide +kernel) (Nat.le_of_ble_eq_true rfl) hs qk (C_at_ _ hq0 (i := i) (by first | exact hs.zF _ _ | exact Zor_r _ _ | exact hs.zA _ _ | assumption | exact zA _ _ | exact zS _ | exact Zr_not (hs.zA _ _) | exact hs.1.1 _ _ | exact ⟨by omega, by omega⟩)) (fun x q => ?_)
                  obtain rfl := q
                  have zl18 := D_Row.zat hs hq0 i
                  show B_R _ _ (142, [(7, .int (Zi 0)), (6, .int (Zi 1)), (5, .int (Zi step)), (4, .int (Zi j)), (3, .int (Zi i)), (0, .ref o), (1, .ref o2), (2, .ref o3)], [.int (Zi (L_at ys i)), .ref o]) _ _ _
                  refine Z_go (f2 := (151, [(7, .int (Zi 0)), (6, .int (Zi 1)), (5, .int (Zi step)), (4, .int (Zi j)), (3, .int (Zi i)), (0, .ref o), (1, .ref o2), (2, .ref o3)], [.int (Zi (L_at ys i)), .ref o])) (fun _ => rfl) ?_
                  refine C_callV (As := [.int (Zi (L_at ys i))]) (rest := []) rfl (by decide) rfl (by decide) rfl rfl (by decide +kernel) (Nat.le_of_ble_eq_true rfl) hs rk (C_push _ hr0 (v := L_at ys i) (by first | exact hs.zF _ _ | exact Zor_r _ _ | exact hs.zA _ _ | assumption | exact zA _ _ | exact zS _ | exact Zr_not (hs.zA _ _) | exact hs.1.1 _ _ | exact ⟨by omega, by omega⟩) (by omega)) (fun x h w n hs q => ?_)
                  obtain ⟨rfl, hw⟩ := q
                  show B_R _ _ (154, [(7, .int (Zi 0)), (6, .int (Zi 1)), (5, .int (Zi step)), (4, .int (Zi j)), (3, .int (Zi i)), (0, .ref o), (1, .ref o2), (2, .ref o3)], []) _ _ _
                  refine Z_go (f2 := (155, [(7, .int (Zi 0)), (6, .int (Zi 1)), (5, .int (Zi step)), (4, .int (Zi j)), (3, .int (Zi i)), (0, .ref o), (1, .ref o2), (2, .ref o3)], [.int (Zi i)])) (fun _ => rfl) ?_
                  refine Z_go (f2 := (157, [(7, .int (Zi 0)), (6, .int (Zi 1)), (5, .int (Zi step)), (4, .int (Zi j)), (3, .int (Zi i)), (0, .ref o), (1, .ref o2), (2, .ref o3)], [.int (Zi 1), .int (Zi i)])) (fun _ => rfl) ?_
                  refine Z_ieq rfl rfl (by first | exact hs.zF _ _ | exact Zor_r _ _ | exact hs.zA _ _ | assumption | exact zA _ _ | exact zS _ | exact Zr_not (hs.zA _ _) | exact hs.1.1 _ _ | exact ⟨by omega, by omega⟩) (fun c14 => ?_) (fun c14 => ?_)
                  · exfalso; omega
                  · refine Z_go (f2 := (161, [(7, .int (Zi 0)), (6, .int (Zi 1)), (5, .int (Zi step)), (4, .int (Zi j)), (3, .int (Zi i)), (0, .ref o), (1, .ref o2), (2, .ref o3)], [.int (Zi 1), .int (Zi i)])) (fun _ => rfl) ?_
                    refine Z_go (f2 := (165, [(7, .int (Zi 0)), (6, .int (Zi 1)), (5, .int (Zi step)), (4, .int (Zi j)), (3, .int (Zi i)), (0, .ref o), (1, .ref o2), (2, .ref o3)], [.int (Zi 1), .int (Zi i)])) (fun _ => rfl) ?_
                    refine Z_iadd rfl ?_
                    refine Z_go (f2 := (167, [(3, .int (Zi (i + 1))), (7, .int (Zi 0)), (6, .int (Zi 1)), (5, .int (Zi step)), (4, .int (Zi j)), (0, .ref o), (1, .ref o2), (2, .ref o3)], [])) (fun _ => rfl) ?_
                    refine Z_go (f2 := (169, [(3, .int (Zi (i + 1))), (7, .int (Zi 0)), (6, .int (Zi 1)), (5, .int (Zi step)), (4, .int (Zi j)), (0, .ref o), (1, .ref o2), (2, .ref o3)], [.int (Zi j)])) (fun _ => rfl) ?_
                    refine Z_go (f2 := (171, [(3, .int (Zi (i + 1))), (7, .int (Zi 0)), (6, .int (Zi 1)), (5, .int (Zi step)), (4, .int (Zi j)), (0, .ref o), (1, .ref o2), (2, .ref o3)], [.int (Zi 0), .int (Zi j)])) (fun _ => rfl) ?_
                    refine Z_ieq rfl rfl (by first | exact hs.zF _ _ | exact Zor_r _ _ | exact hs.zA _ _ | assumption | exact zA _ _ | exact zS _ | exact Zr_not (hs.zA _ _) | exact hs.1.1 _ _ | exact ⟨by omega, by omega⟩) (fun c15 => ?_) (fun c15 => ?_)
                    · refine Z_go (f2 := (179, [(3, .int (Zi (i + 1))), (7, .int (Zi 0)), (6, .int (Zi 1)), (5, .int (Zi step)), (4, .int (Zi j)), (0, .ref o), (1, .ref o2), (2, .ref o3)], [.int (Zi 0), .int (Zi j)])) (fun _ => rfl) ?_
                      refine Z_iadd rfl ?_
                      refine Z_go (f2 := (182, [(4, .int (Zi (j + 0))), (3, .int (Zi (i + 1))), (7, .int (Zi 0)), (6, .int (Zi 1)), (5, .int (Zi step)), (0, .ref o), (1, .ref o2), (2, .ref o3)], [])) (fun _ => rfl) ?_
                      refine Z_iinc (L2 := [(5, .int (Zi (step + (-1)))), (4, .int (Zi (j + 0))), (3, .int (Zi (i + 1))), (7, .int (Zi 0)), (6, .int (Zi 1)), (0, .ref o), (1, .ref o2), (2, .ref o3)]) rfl rfl (by decide) rfl ?_
                      refine C_goto (p2 := 33) rfl (by decide +kernel) (by decide +kernel) ?_
                      first
                      | (exfalso; omega)
                      | (refine B_loc (K := [(5, .int (Zi (step + (-1)))), (4, .int (Zi (j + 0))), (3, .int (Zi (i + 1))), (0, .ref o), (1, .ref o2), (2, .ref o3)]) (N_all_sub ⟨rfl, rfl, rfl, rfl, rfl, rfl, trivial⟩) (show ([5, 4, 3, 0, 1, 2] : List Nat).Nodup by decide) ?_
                         have mg2 : L_mg ys ws (zs ++ [L_at ys i]) (i + 1) (j + 0) := L_mg_st sy sw mg i0 j0 (fun z hz => (hlast z hz).1 (by omega)) (by omega) (by omega) (by omega)
                         have hw := D_rw.tr fr g1 g2 g3 hr0 hw (by omega)
                         obtain ⟨a5, cap5, e1, e2, e3, e4, e5⟩ := hw
                         exact ih _ _ _ w _ _ a5 cap5 _ (by omega) hs e1 e2 e3 e4 e5 mg2 (by omega) (by omega) (by omega) (by omega) (by omega) (by omega))
                    · exfalso; omega
              · refine Z_go (f2 := (125, [(6, .int (Zi 1)), (5, .int (Zi step)), (4, .int (Zi j)), (3, .int (Zi i)), (0, .ref o), (1, .ref o2), (2, .ref o3)], [.int (Zi 1)])) (fun _ => rfl) ?_
                refine Z_go (f2 := (129, [(6, .int (Zi 1)), (5, .int (Zi step)), (4, .int (Zi j)), (3, .int (Zi i)), (0, .ref o), (1, .ref o2), (2, .ref o3)], [.int (Zi 1)])) (fun _ => rfl) ?_
                refine Z_go (f2 := (131, [(7, .int (Zi 1)), (6, .int (Zi 1)), (5, .int (Zi step)), (4, .int (Zi j)), (3, .int (Zi i)), (0, .ref o), (1, .ref o2), (2, .ref o3)], [])) (fun _ => rfl) ?_
                refine Z_go (f2 := (132, [(7, .int (Zi 1)), (6, .int (Zi 1)), (5, .int (Zi step)), (4, .int (Zi j)), (3, .int (Zi i)), (0, .ref o), (1, .ref o2), (2, .ref o3)], [.ref o])) (fun _ => rfl) ?_
                refine Z_go (f2 := (134, [(7, .int (Zi 1)), (6, .int (Zi 1)), (5, .int (Zi step)), (4, .int (Zi j)), (3, .int (Zi i)), (0, .ref o), (1, .ref o2), (2, .ref o3)], [.int (Zi 1), .ref o])) (fun _ => rfl) ?_
                refine Z_ieq rfl rfl (by first | exact hs.zF _ _ | exact Zor_r _ _ | exact hs.zA _ _ | assumption | exact zA _ _ | exact zS _ | exact Zr_not (hs.zA _ _) | exact hs.1.1 _ _ | exact ⟨by omega, by omega⟩) (fun c16 => ?_) (fun c16 => ?_)
                · exfalso; omega
                · refine Z_go (f2 := (138, [(7, .int (Zi 1)), (6, .int (Zi 1)), (5, .int (Zi step)), (4, .int (Zi j)), (3, .int (Zi i)), (0, .ref o), (1, .ref o2), (2, .ref o3)], [.ref o2, .ref o])) (fun _ => rfl) ?_
                  refine Z_go (f2 := (139, [(7, .int (Zi 1)), (6, .int (Zi 1)), (5, .int (Zi step)), (4, .int (Zi j)), (3, .int (Zi i)), (0, .ref o), (1, .ref o2), (2, .ref o3)], [.int (Zi i), .ref o2, .ref o])) (fun _ => rfl) ?_
                  refine C_callVR (As := [.int (Zi i)]) (rest := [.ref o]) rfl (by decide) rfl (by decide) rfl rfl (by decide +kernel) (Nat.le_of_ble_eq_true rfl) hs qk (C_at_ _ hq0 (i := i) (by first | exact hs.zF _ _ | exact Zor_r _ _ | exact hs.zA _ _ | assumption | exact zA _ _ | exact zS _ | exact Zr_not (hs.zA _ _) | exact hs.1.1 _ _ | exact ⟨by omega, by omega⟩)) (fun x q => ?_)
                  obtain rfl := q
                  have zl19 := D_Row.zat hs hq0 i
                  show B_R _ _ (142, [(7, .int (Zi 1)), (6, .int (Zi 1)), (5, .int (Zi step)), (4, .int (Zi j)), (3, .int (Zi i)), (0, .ref o), (1, .ref o2), (2, .ref o3)], [.int (Zi (L_at ys i)), .ref o]) _ _ _
                  refine Z_go (f2 := (151, [(7, .int (Zi 1)), (6, .int (Zi 1)), (5, .int (Zi step)), (4, .int (Zi j)), (3, .int (Zi i)), (0, .ref o), (1, .ref o2), (2, .ref o3)], [.int (Zi (L_at ys i)), .ref o])) (fun _ => rfl) ?_
                  refine C_callV (As := [.int (Zi (L_at ys i))]) (rest := []) rfl (by decide) rfl (by decide) rfl rfl (by decide +kernel) (Nat.le_of_ble_eq_true rfl) hs rk (C_push _ hr0 (v := L_at ys i) (by first | exact hs.zF _ _ | exact Zor_r _ _ | exact hs.zA _ _ | assumption | exact zA _ _ | exact zS _ | exact Zr_not (hs.zA _ _) | exact hs.1.1 _ _ | exact ⟨by omega, by omega⟩) (by omega)) (fun x h w n hs q => ?_)
                  obtain ⟨rfl, hw⟩ := q
                  show B_R _ _ (154, [(7, .int (Zi 1)), (6, .int (Zi 1)), (5, .int (Zi step)), (4, .int (Zi j)), (3, .int (Zi i)), (0, .ref o), (1, .ref o2), (2, .ref o3)], []) _ _ _
                  refine Z_go (f2 := (155, [(7, .int (Zi 1)), (6, .int (Zi 1)), (5, .int (Zi step)), (4, .int (Zi j)), (3, .int (Zi i)), (0, .ref o), (1, .ref o2), (2, .ref o3)], [.int (Zi i)])) (fun _ => rfl) ?_
                  refine Z_go (f2 := (157, [(7, .int (Zi 1)), (6, .int (Zi 1)), (5, .int (Zi step)), (4, .int (Zi j)), (3, .int (Zi i)), (0, .ref o), (1, .ref o2), (2, .ref o3)], [.int (Zi 1), .int (Zi i)])) (fun _ => rfl) ?_
                  refine Z_ieq rfl rfl (by first | exact hs.zF _ _ | exact Zor_r _ _ | exact hs.zA _ _ | assumption | exact zA _ _ | exact zS _ | exact Zr_not (hs.zA _ _) | exact hs.1.1 _ _ | exact ⟨by omega, by omega⟩) (fun c17 => ?_) (fun c17 => ?_)
                  · exfalso; omega
                  · refine Z_go (f2 := (161, [(7, .int (Zi 1)), (6, .int (Zi 1)), (5, .int (Zi step)), (4, .int (Zi j)), (3, .int (Zi i)), (0, .ref o), (1, .ref o2), (2, .ref o3)], [.int (Zi 1), .int (Zi i)])) (fun _ => rfl) ?_
                    refine Z_go (f2 := (165, [(7, .int (Zi 1)), (6, .int (Zi 1)), (5, .int (Zi step)), (4, .int (Zi j)), (3, .int (Zi i)), (0, .ref o), (1, .ref o2), (2, .ref o3)], [.int (Zi 1), .int (Zi i)])) (fun _ => rfl) ?_
                    refine Z_iadd rfl ?_
                    refine Z_go (f2 := (167, [(3, .int (Zi (i + 1))), (7, .int (Zi 1)), (6, .int (Zi 1)), (5, .int (Zi step)), (4, .int (Zi j)), (0, .ref o), (1, .ref o2), (2, .ref o3)], [])) (fun _ => rfl) ?_
                    refine Z_go (f2 := (169, [(3, .int (Zi (i + 1))), (7, .int (Zi 1)), (6, .int (Zi 1)), (5, .int (Zi step)), (4, .int (Zi j)), (0, .ref o), (1, .ref o2), (2, .ref o3)], [.int (Zi j)])) (fun _ => rfl) ?_
                    refine Z_go (f2 := (171, [(3, .int (Zi (i + 1))), (7, .int (Zi 1)), (6, .int (Zi 1)), (5, .int (Zi step)), (4, .int (Zi j)), (0, .ref o), (1, .ref o2), (2, .ref o3)], [.int (Zi 1), .int (Zi j)])) (fun _ => rfl) ?_
                    refine Z_ieq rfl rfl (by first | exact hs.zF _ _ | exact Zor_r _ _ | exact hs.zA _ _ | assumption | exact zA _ _ | exact zS _ | exact Zr_not (hs.zA _ _) | exact hs.1.1 _ _ | exact ⟨by omega, by omega⟩) (fun c18 => ?_) (fun c18 => ?_)
                    · exfalso; omega
                    · refine Z_go (f2 := (175, [(3, .int (Zi (i + 1))), (7, .int (Zi 1)), (6, .int (Zi 1)), (5, .int (Zi step)), (4, .int (Zi j)), (0, .ref o), (1, .ref o2), (2, .ref o3)], [.int (Zi 1), .int (Zi j)])) (fun _ => rfl) ?_
                      refine Z_go (f2 := (179, [(3, .int (Zi (i + 1))), (7, .int (Zi 1)), (6, .int (Zi 1)), (5, .int (Zi step)), (4, .int (Zi j)), (0, .ref o), (1, .ref o2), (2, .ref o3)], [.int (Zi 1), .int (Zi j)])) (fun _ => rfl) ?_
                      refine Z_iadd rfl ?_
                      refine Z_go (f2 := (182, [(4, .int (Zi (j + 1))), (3, .int (Zi (i + 1))), (7, .int (Zi 1)), (6, .int (Zi 1)), (5, .int (Zi step)), (0, .ref o), (1, .ref o2), (2, .ref o3)], [])) (fun _ => rfl) ?_
                      refine Z_iinc (L2 := [(5, .int (Zi (step + (-1)))), (4, .int (Zi (j + 1))), (3, .int (Zi (i + 1))), (7, .int (Zi 1)), (6, .int (Zi 1)), (0, .ref o), (1, .ref o2), (2, .ref o3)]) rfl rfl (by decide) rfl ?_
                      refine C_goto (p2 := 33) rfl (by decide +kernel) (by decide +kernel) ?_
                      first
                      | (exfalso; omega)
                      | (refine B_loc (K := [(5, .int (Zi (step + (-1)))), (4, .int (Zi (j + 1))), (3, .int (Zi (i + 1))), (0, .ref o), (1, .ref o2), (2, .ref o3)]) (N_all_sub ⟨rfl, rfl, rfl, rfl, rfl, rfl, trivial⟩) (show ([5, 4, 3, 0, 1, 2] : List Nat).Nodup by decide) ?_
                         have mg2 : L_mg ys ws (zs ++ [L_at ys i]) (i + 1) (j + 1) := L_mg_st sy sw mg i0 j0 (fun z hz => (hlast z hz).1 (by omega)) (by omega) (by omega) (by omega)
                         have hw := D_rw.tr fr g1 g2 g3 hr0 hw (by omega)
                         obtain ⟨a5, cap5, e1, e2, e3, e4, e5⟩ := hw
                         exact ih _ _ _ w _ _ a5 cap5 _ (by omega) hs e1 e2 e3 e4 e5 mg2 (by omega) (by omega) (by omega) (by omega) (by omega) (by omega))
        · refine Z_go (f2 := (65, [(5, .int (Zi step)), (4, .int (Zi j)), (3, .int (Zi i)), (0, .ref o), (1, .ref o2), (2, .ref o3)], [.int (Zi i)])) (fun _ => rfl) ?_
          refine Z_go (f2 := (66, [(5, .int (Zi step)), (4, .int (Zi j)), (3, .int (Zi i)), (0, .ref o), (1, .ref o2), (2, .ref o3)], [.ref o2, .int (Zi i)])) (fun _ => rfl) ?_
          refine C_gi rfl hs qk (by decide) (Nat.le_of_ble_eq_true rfl) rfl ?_
          rw [show C_F (u) o2 1 = (ys.length : Int) from (by first | exact qm | exact (if_neg (fun e => absurd e.1 (by assumption))).trans qm)]
          show B_R _ _ (69, [(5, .int (Zi step)), (4, .int (Zi j)), (3, .int (Zi i)), (0, .ref o), (1, .ref o2), (2, .ref o3)], [.int (Zi ((ys.length : Int))), .int (Zi i)]) _ _ _
          refine Z_cge rfl rfl (by first | exact hs.zF _ _ | exact Zor_r _ _ | exact hs.zA _ _ | assumption | exact zA _ _ | exact zS _ | exact Zr_not (hs.zA _ _) | exact hs.1.1 _ _ | exact ⟨by omega, by omega⟩) (by first | exact hs.zF _ _ | exact Zor_r _ _ | exact hs.zA _ _ | assumption | exact zA _ _ | exact zS _ | exact Zr_not (hs.zA _ _) | exact hs.1.1 _ _ | exact ⟨by omega, by omega⟩) (fun c19 => ?_) (fun c19 => ?_)
          · refine Z_go (f2 := (91, [(5, .int (Zi step)), (4, .int (Zi j)), (3, .int (Zi i)), (0, .ref o), (1, .ref o2), (2, .ref o3)], [.int (Zi 0)])) (fun _ => rfl) ?_
            refine Z_go (f2 := (93, [(6, .int (Zi 0)), (5, .int (Zi step)), (4, .int (Zi j)), (3, .int (Zi i)), (0, .ref o), (1, .ref o2), (2, .ref o3)], [])) (fun _ => rfl) ?_
            refine Z_go (f2 := (94, [(6, .int (Zi 0)), (5, .int (Zi step)), (4, .int (Zi j)), (3, .int (Zi i)), (0, .ref o), (1, .ref o2), (2, .ref o3)], [.int (Zi i)])) (fun _ => rfl) ?_
            refine Z_go (f2 := (95, [(6, .int (Zi 0)), (5, .int (Zi step)), (4, .int (Zi j)), (3, .int (Zi i)), (0, .ref o), (1, .ref o2), (2, .ref o3)], [.ref o2, .int (Zi i)])) (fun _ => rfl) ?_
            refine C_gi rfl hs qk (by decide) (Nat.le_of_ble_eq_true rfl) rfl ?_
            rw [show C_F (u) o2 1 = (ys.length : Int) from (by first | exact qm | exact (if_neg (fun e => absurd e.1 (by assumption))).trans qm)]
            show B_R _ _ (98, [(6, .int (Zi 0)), (5, .int (Zi step)), (4, .int (Zi j)), (3, .int (Zi i)), (0, .ref o), (1, .ref o2), (2, .ref o3)], [.int (Zi ((ys.length : Int))), .int (Zi i)]) _ _ _
            refine Z_cge rfl rfl (by first | exact hs.zF _ _ | exact Zor_r _ _ | exact hs.zA _ _ | assumption | exact zA _ _ | exact zS _ | exact Zr_not (hs.zA _ _) | exact hs.1.1 _ _ | exact ⟨by omega, by omega⟩) (by first | exact hs.zF _ _ | exact Zor_r _ _ | exact hs.zA _ _ | assumption | exact zA _ _ | exact zS _ | exact Zr_not (hs.zA _ _) | exact hs.1.1 _ _ | exact ⟨by omega, by omega⟩) (fun c20 => ?_) (fun c20 => ?_)
            · refine Z_go (f2 := (125, [(6, .int (Zi 0)), (5, .int (Zi step)), (4, .int (Zi j)), (3, .int (Zi i)), (0, .ref o), (1, .ref o2), (2, .ref o3)], [.int (Zi 1)])) (fun _ => rfl) ?_
              refine Z_go (f2 := (129, [(6, .int (Zi 0)), (5, .int (Zi step)), (4, .int (Zi j)), (3, .int (Zi i)), (0, .ref o), (1, .ref o2), (2, .ref o3)], [.int (Zi 1)])) (fun _ => rfl) ?_
              refine Z_go (f2 := (131, [(7, .int (Zi 1)), (6, .int (Zi 0)), (5, .int (Zi step)), (4, .int (Zi j)), (3, .int (Zi i)), (0, .ref o), (1, .ref o2), (2, .ref o3)], [])) (fun _ => rfl) ?_
              refine Z_go (f2 := (132, [(7, .int (Zi 1)), (6, .int (Zi 0)), (5, .int (Zi step)), (4, .int (Zi j)), (3, .int (Zi i)), (0, .ref o), (1, .ref o2), (2, .ref o3)], [.ref o])) (fun _ => rfl) ?_
              refine Z_go (f2 := (134, [(7, .int (Zi 1)), (6, .int (Zi 0)), (5, .int (Zi step)), (4, .int (Zi j)), (3, .int (Zi i)), (0, .ref o), (1, .ref o2), (2, .ref o3)], [.int (Zi 0), .ref o])) (fun _ => rfl) ?_
              refine Z_ieq rfl rfl (by first | exact hs.zF _ _ | exact Zor_r _ _ | exact hs.zA _ _ | assumption | exact zA _ _ | exact zS _ | exact Zr_not (hs.zA _ _) | exact hs.1.1 _ _ | exact ⟨by omega, by omega⟩) (fun c21 => ?_) (fun c21 => ?_)
              · refine Z_go (f2 := (146, [(7, .int (Zi 1)), (6, .int (Zi 0)), (5, .int (Zi step)), (4, .int (Zi j)), (3, .int (Zi i)), (0, .ref o), (1, .ref o2), (2, .ref o3)], [.ref o3, .ref o])) (fun _ => rfl) ?_
                refine Z_go (f2 := (148, [(7, .int (Zi 1)), (6, .int (Zi 0)), (5, .int (Zi step)), (4, .int (Zi j)), (3, .int (Zi i)), (0, .ref o), (1, .ref o2), (2, .ref o3)], [.int (Zi j), .ref o3, .ref o])) (fun _ => rfl) ?_
                refine C_callVR (As := [.int (Zi j)]) (rest := [.ref o]) rfl (by decide) rfl (by decide) rfl rfl (by decide +kernel) (Nat.le_of_ble_eq_true rfl) hs pk (C_at_ _ hp0 (i := j) (by first | exact hs.zF _ _ | exact Zor_r _ _ | exact hs.zA _ _ | assumption | exact zA _ _ | exact zS _ | exact Zr_not (hs.zA _ _) | exact hs.1.1 _ _ | exact ⟨by omega, by omega⟩)) (fun x q => ?_)
                obtain rfl := q
                have zl20 := D_Row.zat hs hp0 j
                show B_R _ _ (151, [(7, .int (Zi 1)), (6, .int (Zi 0)), (5, .int (Zi step)), (4, .int (Zi j)), (3, .int (Zi i)), (0, .ref o), (1, .ref o2), (2, .ref o3)], [.int (Zi (L_at ws j)), .ref o]) _ _ _
                refine C_callV (As := [.int (Zi (L_at ws j))]) (rest := []) rfl (by decide) rfl (by decide) rfl rfl (by decide +kernel) (Nat.le_of_ble_eq_true rfl) hs rk (C_push _ hr0 (v := L_at ws j) (by first | exact hs.zF _ _ | exact Zor_r _ _ | exact hs.zA _ _ | assumption | exact zA _ _ | exact zS _ | exact Zr_not (hs.zA _ _) | exact hs.1.1 _ _ | exact ⟨by omega, by omega⟩) (by omega)) (fun x h w n hs q => ?_)
                obtain ⟨rfl, hw⟩ := q
                show B_R _ _ (154, [(7, .int (Zi 1)), (6, .int (Zi 0)), (5, .int (Zi step)), (4, .int (Zi j)), (3, .int (Zi i)), (0, .ref o), (1, .ref o2), (2, .ref o3)], []) _ _ _
                refine Z_go (f2 := (155, [(7, .int (Zi 1)), (6, .int (Zi 0)), (5, .int (Zi step)), (4, .int (Zi j)), (3, .int (Zi i)), (0, .ref o), (1, .ref o2), (2, .ref o3)], [.int (Zi i)])) (fun _ => rfl) ?_
                refine Z_go (f2 := (157, [(7, .int (Zi 1)), (6, .int (Zi 0)), (5, .int (Zi step)), (4, .int (Zi j)), (3, .int (Zi i)), (0, .ref o), (1, .ref o2), (2, .ref o3)], [.int (Zi 0), .int (Zi i)])) (fun _ => rfl) ?_
                refine Z_ieq rfl rfl (by first | exact hs.zF _ _ | exact Zor_r _ _ | exact hs.zA _ _ | assumption | exact zA _ _ | exact zS _ | exact Zr_not (hs.zA _ _) | exact hs.1.1 _ _ | exact ⟨by omega, by omega⟩) (fun c22 => ?_) (fun c22 => ?_)
                · refine Z_go (f2 := (165, [(7, .int (Zi 1)), (6, .int (Zi 0)), (5, .int (Zi step)), (4, .int (Zi j)), (3, .int (Zi i)), (0, .ref o), (1, .ref o2), (2, .ref o3)], [.int (Zi 0), .int (Zi i)])) (fun _ => rfl) ?_
                  refine Z_iadd rfl ?_
                  refine Z_go (f2 := (167, [(3, .int (Zi (i + 0))), (7, .int (Zi 1)), (6, .int (Zi 0)), (5, .int (Zi step)), (4, .int (Zi j)), (0, .ref o), (1, .ref o2), (2, .ref o3)], [])) (fun _ => rfl) ?_
                  refine Z_go (f2 := (169, [(3, .int (Zi (i + 0))), (7, .int (Zi 1)), (6, .int (Zi 0)), (5, .int (Zi step)), (4, .int (Zi j)), (0, .ref o), (1, .ref o2), (2, .ref o3)], [.int (Zi j)])) (fun _ => rfl) ?_
                  refine Z_go (f2 := (171, [(3, .int (Zi (i + 0))), (7, .int (Zi 1)), (6, .int (Zi 0)), (5, .int (Zi step)), (4, .int (Zi j)), (0, .ref o), (1, .ref o2), (2, .ref o3)], [.int (Zi 1), .int (Zi j)])) (fun _ => rfl) ?_
                  refine Z_ieq rfl rfl (by first | exact hs.zF _ _ | exact Zor_r _ _ | exact hs.zA _ _ | assumption | exact zA _ _ | exact zS _ | exact Zr_not (hs.zA _ _) | exact hs.1.1 _ _ | exact ⟨by omega, by omega⟩) (fun c23 => ?_) (fun c23 => ?_)
                  · exfalso; omega
                  · refine Z_go (f2 := (175, [(3, .int (Zi (i + 0))), (7, .int (Zi 1)), (6, .int (Zi 0)), (5, .int (Zi step)), (4, .int (Zi j)), (0, .ref o), (1, .ref o2), (2, .ref o3)], [.int (Zi 1), .int (Zi j)])) (fun _ => rfl) ?_
                    refine Z_go (f2 := (179, [(3, .int (Zi (i + 0))), (7, .int (Zi 1)), (6, .int (Zi 0)), (5, .int (Zi step)), (4, .int (Zi j)), (0, .ref o), (1, .ref o2), (2, .ref o3)], [.int (Zi 1), .int (Zi j)])) (fun _ => rfl) ?_
                    refine Z_iadd rfl ?_
                    refine Z_go (f2 := (182, [(4, .int (Zi (j + 1))), (3, .int (Zi (i + 0))), (7, .int (Zi 1)), (6, .int (Zi 0)), (5, .int (Zi step)), (0, .ref o), (1, .ref o2), (2, .ref o3)], [])) (fun _ => rfl) ?_
                    refine Z_iinc (L2 := [(5, .int (Zi (step + (-1)))), (4, .int (Zi (j + 1))), (3, .int (Zi (i + 0))), (7, .int (Zi 1)), (6, .int (Zi 0)), (0, .ref o), (1, .ref o2), (2, .ref o3)]) rfl rfl (by decide) rfl ?_
                    refine C_goto (p2 := 33) rfl (by decide +kernel) (by decide +kernel) ?_
                    first
                    | (exfalso; omega)
                    | (refine B_loc (K := [(5, .int (Zi (step + (-1)))), (4, .int (Zi (j + 1))), (3, .int (Zi (i + 0))), (0, .ref o), (1, .ref o2), (2, .ref o3)]) (N_all_sub ⟨rfl, rfl, rfl, rfl, rfl, rfl, trivial⟩) (show ([5, 4, 3, 0, 1, 2] : List Nat).Nodup by decide) ?_
                       have mg2 : L_mg ys ws (zs ++ [L_at ws j]) (i + 0) (j + 1) := L_mg_st sy sw mg i0 j0 (fun z hz => (hlast z hz).2 (by omega)) (by omega) (by omega) (by omega)
                       have hw := D_rw.tr fr g1 g2 g3 hr0 hw (by omega)
                       obtain ⟨a5, cap5, e1, e2, e3, e4, e5⟩ := hw
                       exact ih _ _ _ w _ _ a5 cap5 _ (by omega) hs e1 e2 e3 e4 e5 mg2 (by omega) (by omega) (by omega) (by omega) (by omega) (by omega))
                · exfalso; omega
              · exfalso; omega
            · refine Z_go (f2 := (103, [(6, .int (Zi 0)), (5, .int (Zi step)), (4, .int (Zi j)), (3, .int (Zi i)), (0, .ref o), (1, .ref o2), (2, .ref o3)], [.int (Zi j)])) (fun _ => rfl) ?_
              refine Z_go (f2 := (104, [(6, .int (Zi 0)), (5, .int (Zi step)), (4, .int (Zi j)), (3, .int (Zi i)), (0, .ref o), (1, .ref o2), (2, .ref o3)], [.ref o3, .int (Zi j)])) (fun _ => rfl) ?_
              refine C_gi rfl hs pk (by decide) (Nat.le_of_ble_eq_true rfl) rfl ?_
              rw [show C_F (u) o3 1 = (ws.length : Int) from (by first | exact pm | exact (if_neg (fun e => absurd e.1 (by assumption))).trans pm)]
              show B_R _ _ (107, [(6, .int (Zi 0)), (5, .int (Zi step)), (4, .int (Zi j)), (3, .int (Zi i)), (0, .ref o), (1, .ref o2), (2, .ref o3)], [.int (Zi ((ws.length : Int))), .int (Zi j)]) _ _ _
              refine Z_cge rfl rfl (by first | exact hs.zF _ _ | exact Zor_r _ _ | exact hs.zA _ _ | assumption | exact zA _ _ | exact zS _ | exact Zr_not (hs.zA _ _) | exact hs.1.1 _ _ | exact ⟨by omega, by omega⟩) (by first | exact hs.zF _ _ | exact Zor_r _ _ | exact hs.zA _ _ | assumption | exact zA _ _ | exact zS _ | exact Zr_not (hs.zA _ _) | exact hs.1.1 _ _ | exact ⟨by omega, by omega⟩) (fun c24 => ?_) (fun c24 => ?_)
              · refine Z_go (f2 := (129, [(6, .int (Zi 0)), (5, .int (Zi step)), (4, .int (Zi j)), (3, .int (Zi i)), (0, .ref o), (1, .ref o2), (2, .ref o3)], [.int (Zi 0)])) (fun _ => rfl) ?_
                refine Z_go (f2 := (131, [(7, .int (Zi 0)), (6, .int (Zi 0)), (5, .int (Zi step)), (4, .int (Zi j)), (3, .int (Zi i)), (0, .ref o), (1, .ref o2), (2, .ref o3)], [])) (fun _ => rfl) ?_
                refine Z_go (f2 := (132, [(7, .int (Zi 0)), (6, .int (Zi 0)), (5, .int (Zi step)), (4, .int (Zi j)), (3, .int (Zi i)), (0, .ref o), (1, .ref o2), (2, .ref o3)], [.ref o])) (fun _ => rfl) ?_
                refine Z_go (f2 := (134, [(7, .int (Zi 0)), (6, .int (Zi 0)), (5, .int (Zi step)), (4, .int (Zi j)), (3, .int (Zi i)), (0, .ref o), (1, .ref o2), (2, .ref o3)], [.int (Zi 0), .ref o])) (fun _ => rfl) ?_
                refine Z_ieq rfl rfl (by first | exact hs.zF _ _ | exact Zor_r _ _ | exact hs.zA _ _ | assumption | exact zA _ _ | exact zS _ | exact Zr_not (hs.zA _ _) | exact hs.1.1 _ _ | exact ⟨by omega, by omega⟩) (fun c25 => ?_) (fun c25 => ?_)
                · refine Z_go (f2 := (146, [(7, .int (Zi 0)), (6, .int (Zi 0)), (5, .int (Zi step)), (4, .int (Zi j)), (3, .int (Zi i)), (0, .ref o), (1, .ref o2), (2, .ref o3)], [.ref o3, .ref o])) (fun _ => rfl) ?_
                  refine Z_go (f2 := (148, [(7, .int (Zi 0)), (6, .int (Zi 0)), (5, .int (Zi step)), (4, .int (Zi j)), (3, .int (Zi i)), (0, .ref o), (1, .ref o2), (2, .ref o3)], [.int (Zi j), .ref o3, .ref o])) (fun _ => rfl) ?_
                  refine C_callVR (As := [.int (Zi j)]) (rest := [.ref o]) rfl (by decide) rfl (by decide) rfl rfl (by decide +kernel) (Nat.le_of_ble_eq_true rfl) hs pk (C_at_ _ hp0 (i := j) (by first | exact hs.zF _ _ | exact Zor_r _ _ | exact hs.zA _ _ | assumption | exact zA _ _ | exact zS _ | exact Zr_not (hs.zA _ _) | exact hs.1.1 _ _ | exact ⟨by omega, by omega⟩)) (fun x q => ?_)
                  obtain rfl := q
                  have zl21 := D_Row.zat hs hp0 j
                  show B_R _ _ (151, [(7, .int (Zi 0)), (6, .int (Zi 0)), (5, .int (Zi step)), (4, .int (Zi j)), (3, .int (Zi i)), (0, .ref o), (1, .ref o2), (2, .ref o3)], [.int (Zi (L_at ws j)), .ref o]) _ _ _
                  refine C_callV (As := [.int (Zi (L_at ws j))]) (rest := []) rfl (by decide) rfl (by decide) rfl rfl (by decide +kernel) (Nat.le_of_ble_eq_true rfl) hs rk (C_push _ hr0 (v := L_at ws j) (by first | exact hs.zF _ _ | exact Zor_r _ _ | exact hs.zA _ _ | assumption | exact zA _ _ | exact zS _ | exact Zr_not (hs.zA _ _) | exact hs.1.1 _ _ | exact ⟨by omega, by omega⟩) (by omega)) (fun x h w n hs q => ?_)
                  obtain ⟨rfl, hw⟩ := q
                  show B_R _ _ (154, [(7, .int (Zi 0)), (6, .int (Zi 0)), (5, .int (Zi step)), (4, .int (Zi j)), (3, .int (Zi i)), (0, .ref o), (1, .ref o2), (2, .ref o3)], []) _ _ _
                  refine Z_go (f2 := (155, [(7, .int (Zi 0)), (6, .int (Zi 0)), (5, .int (Zi step)), (4, .int (Zi j)), (3, .int (Zi i)), (0, .ref o), (1, .ref o2), (2, .ref o3)], [.int (Zi i)])) (fun _ => rfl) ?_
                  refine Z_go (f2 := (157, [(7, .int (Zi 0)), (6, .int (Zi 0)), (5, .int (Zi step)), (4, .int (Zi j)), (3, .int (Zi i)), (0, .ref o), (1, .ref o2), (2, .ref o3)], [.int (Zi 0), .int (Zi i)])) (fun _ => rfl) ?_
                  refine Z_ieq rfl rfl (by first | exact hs.zF _ _ | exact Zor_r _ _ | exact hs.zA _ _ | assumption | exact zA _ _ | exact zS _ | exact Zr_not (hs.zA _ _) | exact hs.1.1 _ _ | exact ⟨by omega, by omega⟩) (fun c26 => ?_) (fun c26 => ?_)
                  · refine Z_go (f2 := (165, [(7, .int (Zi 0)), (6, .int (Zi 0)), (5, .int (Zi step)), (4, .int (Zi j)), (3, .int (Zi i)), (0, .ref o), (1, .ref o2), (2, .ref o3)], [.int (Zi 0), .int (Zi i)])) (fun _ => rfl) ?_
                    refine Z_iadd rfl ?_
                    refine Z_go (f2 := (167, [(3, .int (Zi (i + 0))), (7, .int (Zi 0)), (6, .int (Zi 0)), (5, .int (Zi step)), (4, .int (Zi j)), (0, .ref o), (1, .ref o2), (2, .ref o3)], [])) (fun _ => rfl) ?_
                    refine Z_go (f2 := (169, [(3, .int (Zi (i + 0))), (7, .int (Zi 0)), (6, .int (Zi 0)), (5, .int (Zi step)), (4, .int (Zi j)), (0, .ref o), (1, .ref o2), (2, .ref o3)], [.int (Zi j)])) (fun _ => rfl) ?_
                    refine Z_go (f2 := (171, [(3, .int (Zi (i + 0))), (7, .int (Zi 0)), (6, .int (Zi 0)), (5, .int (Zi step)), (4, .int (Zi j)), (0, .ref o), (1, .ref o2), (2, .ref o3)], [.int (Zi 0), .int (Zi j)])) (fun _ => rfl) ?_
                    refine Z_ieq rfl rfl (by first | exact hs.zF _ _ | exact Zor_r _ _ | exact hs.zA _ _ | assumption | exact zA _ _ | exact zS _ | exact Zr_not (hs.zA _ _) | exact hs.1.1 _ _ | exact ⟨by omega, by omega⟩) (fun c27 => ?_) (fun c27 => ?_)
                    · refine Z_go (f2 := (179, [(3, .int (Zi (i + 0))), (7, .int (Zi 0)), (6, .int (Zi 0)), (5, .int (Zi step)), (4, .int (Zi j)), (0, .ref o), (1, .ref o2), (2, .ref o3)], [.int (Zi 0), .int (Zi j)])) (fun _ => rfl) ?_
                      refine Z_iadd rfl ?_
                      refine Z_go (f2 := (182, [(4, .int (Zi (j + 0))), (3, .int (Zi (i + 0))), (7, .int (Zi 0)), (6, .int (Zi 0)), (5, .int (Zi step)), (0, .ref o), (1, .ref o2), (2, .ref o3)], [])) (fun _ => rfl) ?_
                      refine Z_iinc (L2 := [(5, .int (Zi (step + (-1)))), (4, .int (Zi (j + 0))), (3, .int (Zi (i + 0))), (7, .int (Zi 0)), (6, .int (Zi 0)), (0, .ref o), (1, .ref o2), (2, .ref o3)]) rfl rfl (by decide) rfl ?_
                      refine C_goto (p2 := 33) rfl (by decide +kernel) (by decide +kernel) ?_
                      first
                      | (exfalso; omega)
                      | (refine B_loc (K := [(5, .int (Zi (step + (-1)))), (4, .int (Zi (j + 0))), (3, .int (Zi (i + 0))), (0, .ref o), (1, .ref o2), (2, .ref o3)]) (N_all_sub ⟨rfl, rfl, rfl, rfl, rfl, rfl, trivial⟩) (show ([5, 4, 3, 0, 1, 2] : List Nat).Nodup by decide) ?_
                         have mg2 : L_mg ys ws (zs ++ [L_at ws j]) (i + 0) (j + 0) := L_mg_st sy sw mg i0 j0 (fun z hz => (hlast z hz).2 (by omega)) (by omega) (by omega) (by omega)
                         have hw := D_rw.tr fr g1 g2 g3 hr0 hw (by omega)
                         obtain ⟨a5, cap5, e1, e2, e3, e4, e5⟩ := hw
                         exact ih _ _ _ w _ _ a5 cap5 _ (by omega) hs e1 e2 e3 e4 e5 mg2 (by omega) (by omega) (by omega) (by omega) (by omega) (by omega))
                    · exfalso; omega
                  · exfalso; omega
                · exfalso; omega
              · refine Z_go (f2 := (111, [(6, .int (Zi 0)), (5, .int (Zi step)), (4, .int (Zi j)), (3, .int (Zi i)), (0, .ref o), (1, .ref o2), (2, .ref o3)], [.ref o3])) (fun _ => rfl) ?_
                refine Z_go (f2 := (113, [(6, .int (Zi 0)), (5, .int (Zi step)), (4, .int (Zi j)), (3, .int (Zi i)), (0, .ref o), (1, .ref o2), (2, .ref o3)], [.int (Zi j), .ref o3])) (fun _ => rfl) ?_
                refine C_callVR (As := [.int (Zi j)]) (rest := []) rfl (by decide) rfl (by decide) rfl rfl (by decide +kernel) (Nat.le_of_ble_eq_true rfl) hs pk (C_at_ _ hp0 (i := j) (by first | exact hs.zF _ _ | exact Zor_r _ _ | exact hs.zA _ _ | assumption | exact zA _ _ | exact zS _ | exact Zr_not (hs.zA _ _) | exact hs.1.1 _ _ | exact ⟨by omega, by omega⟩)) (fun x q => ?_)
                obtain rfl := q
                have zl22 := D_Row.zat hs hp0 j
                show B_R _ _ (116, [(6, .int (Zi 0)), (5, .int (Zi step)), (4, .int (Zi j)), (3, .int (Zi i)), (0, .ref o), (1, .ref o2), (2, .ref o3)], [.int (Zi (L_at ws j))]) _ _ _
                refine Z_go (f2 := (117, [(6, .int (Zi 0)), (5, .int (Zi step)), (4, .int (Zi j)), (3, .int (Zi i)), (0, .ref o), (1, .ref o2), (2, .ref o3)], [.ref o2, .int (Zi (L_at ws j))])) (fun _ => rfl) ?_
                refine Z_go (f2 := (118, [(6, .int (Zi 0)), (5, .int (Zi step)), (4, .int (Zi j)), (3, .int (Zi i)), (0, .ref o), (1, .ref o2), (2, .ref o3)], [.int (Zi i), .ref o2, .int (Zi (L_at ws j))])) (fun _ => rfl) ?_
                refine C_callVR (As := [.int (Zi i)]) (rest := [.int (Zi (L_at ws j))]) rfl (by decide) rfl (by decide) rfl rfl (by decide +kernel) (Nat.le_of_ble_eq_true rfl) hs qk (C_at_ _ hq0 (i := i) (by first | exact hs.zF _ _ | exact Zor_r _ _ | exact hs.zA _ _ | assumption | exact zA _ _ | exact zS _ | exact Zr_not (hs.zA _ _) | exact hs.1.1 _ _ | exact ⟨by omega, by omega⟩)) (fun x q => ?_)
                obtain rfl := q
                have zl23 := D_Row.zat hs hq0 i
                show B_R _ _ (121, [(6, .int (Zi 0)), (5, .int (Zi step)), (4, .int (Zi j)), (3, .int (Zi i)), (0, .ref o), (1, .ref o2), (2, .ref o3)], [.int (Zi (L_at ys i)), .int (Zi (L_at ws j))]) _ _ _
                refine Z_cgt rfl rfl (by first | exact hs.zF _ _ | exact Zor_r _ _ | exact hs.zA _ _ | assumption | exact zA _ _ | exact zS _ | exact Zr_not (hs.zA _ _) | exact hs.1.1 _ _ | exact ⟨by omega, by omega⟩) (by first | exact hs.zF _ _ | exact Zor_r _ _ | exact hs.zA _ _ | assumption | exact zA _ _ | exact zS _ | exact Zr_not (hs.zA _ _) | exact hs.1.1 _ _ | exact ⟨by omega, by omega⟩) (fun c28 => ?_) (fun c28 => ?_)
                · refine Z_go (f2 := (129, [(6, .int (Zi 0)), (5, .int (Zi step)), (4, .int (Zi j)), (3, .int (Zi i)), (0, .ref o), (1, .ref o2), (2, .ref o3)], [.int (Zi 0)])) (fun _ => rfl) ?_
                  refine Z_go (f2 := (131, [(7, .int (Zi 0)), (6, .int (Zi 0)), (5, .int (Zi step)), (4, .int (Zi j)), (3, .int (Zi i)), (0, .ref o), (1, .ref o2), (2, .ref o3)], [])) (fun _ => rfl) ?_
                  refine Z_go (f2 := (132, [(7, .int (Zi 0)), (6, .int (Zi 0)), (5, .int (Zi step)), (4, .int (Zi j)), (3, .int (Zi i)), (0, .ref o), (1, .ref o2), (2, .ref o3)], [.ref o])) (fun _ => rfl) ?_
                  refine Z_go (f2 := (134, [(7, .int (Zi 0)), (6, .int (Zi 0)), (5, .int (Zi step)), (4, .int (Zi j)), (3, .int (Zi i)), (0, .ref o), (1, .ref o2), (2, .ref o3)], [.int (Zi 0), .ref o])) (fun _ => rfl) ?_
                  refine Z_ieq rfl rfl (by first | exact hs.zF _ _ | exact Zor_r _ _ | exact hs.zA _ _ | assumption | exact zA _ _ | exact zS _ | exact Zr_not (hs.zA _ _) | exact hs.1.1 _ _ | exact ⟨by omega, by omega⟩) (fun c29 => ?_) (fun c29 => ?_)
                  · refine Z_go (f2 := (146, [(7, .int (Zi 0)), (6, .int (Zi 0)), (5, .int (Zi step)), (4, .int (Zi j)), (3, .int (Zi i)), (0, .ref o), (1, .ref o2), (2, .ref o3)], [.ref o3, .ref o])) (fun _ => rfl) ?_
                    refine Z_go (f2 := (148, [(7, .int (Zi 0)), (6, .int (Zi 0)), (5, .int (Zi step)), (4, .int (Zi j)), (3, .int (Zi i)), (0, .ref o), (1, .ref o2), (2, .ref o3)], [.int (Zi j), .ref o3, .ref o])) (fun _ => rfl) ?_
                    refine C_callVR (As := [.int (Zi j)]) (rest := [.ref o]) rfl (by decide) rfl (by decide) rfl rfl (by decide +kernel) (Nat.le_of_ble_eq_true rfl) hs pk (C_at_ _ hp0 (i := j) (by first | exact hs.zF _ _ | exact Zor_r _ _ | exact hs.zA _ _ | assumption | exact zA _ _ | exact zS _ | exact Zr_not (hs.zA _ _) | exact hs.1.1 _ _ | exact ⟨by omega, by omega⟩)) (fun x q => ?_)
                    obtain rfl := q
                    have zl24 := D_Row.zat hs hp0 j
                    show B_R _ _ (151, [(7, .int (Zi 0)), (6, .int (Zi 0)), (5, .int (Zi step)), (4, .int (Zi j)), (3, .int (Zi i)), (0, .ref o), (1, .ref o2), (2, .ref o3)], [.int (Zi (L_at ws j)), .ref o]) _ _ _
                    refine C_callV (As := [.int (Zi (L_at ws j))]) (rest := []) rfl (by decide) rfl (by decide) rfl rfl (by decide +kernel) (Nat.le_of_ble_eq_true rfl) hs rk (C_push _ hr0 (v := L_at ws j) (by first | exact hs.zF _ _ | exact Zor_r _ _ | exact hs.zA _ _ | assumption | exact zA _ _ | exact zS _ | exact Zr_not (hs.zA _ _) | exact hs.1.1 _ _ | exact ⟨by omega, by omega⟩) (by omega)) (fun x h w n hs q => ?_)
                    obtain ⟨rfl, hw⟩ := q
                    show B_R _ _ (154, [(7, .int (Zi 0)), (6, .int (Zi 0)), (5, .int (Zi step)), (4, .int (Zi j)), (3, .int (Zi i)), (0, .ref o), (1, .ref o2), (2, .ref o3)], []) _ _ _
                    refine Z_go (f2 := (155, [(7, .int (Zi 0)), (6, .int (Zi 0)), (5, .int (Zi step)), (4, .int (Zi j)), (3, .int (Zi i)), (0, .ref o), (1, .ref o2), (2, .ref o3)], [.int (Zi i)])) (fun _ => rfl) ?_
                    refine Z_go (f2 := (157, [(7, .int (Zi 0)), (6, .int (Zi 0)), (5, .int (Zi step)), (4, .int (Zi j)), (3, .int (Zi i)), (0, .ref o), (1, .ref o2), (2, .ref o3)], [.int (Zi 0), .int (Zi i)])) (fun _ => rfl) ?_
                    refine Z_ieq rfl rfl (by first | exact hs.zF _ _ | exact Zor_r _ _ | exact hs.zA _ _ | assumption | exact zA _ _ | exact zS _ | exact Zr_not (hs.zA _ _) | exact hs.1.1 _ _ | exact ⟨by omega, by omega⟩) (fun c30 => ?_) (fun c30 => ?_)
                    · refine Z_go (f2 := (165, [(7, .int (Zi 0)), (6, .int (Zi 0)), (5, .int (Zi step)), (4, .int (Zi j)), (3, .int (Zi i)), (0, .ref o), (1, .ref o2), (2, .ref o3)], [.int (Zi 0), .int (Zi i)])) (fun _ => rfl) ?_
                      refine Z_iadd rfl ?_
                      refine Z_go (f2 := (167, [(3, .int (Zi (i + 0))), (7, .int (Zi 0)), (6, .int (Zi 0)), (5, .int (Zi step)), (4, .int (Zi j)), (0, .ref o), (1, .ref o2), (2, .ref o3)], [])) (fun _ => rfl) ?_
                      refine Z_go (f2 := (169, [(3, .int (Zi (i + 0))), (7, .int (Zi 0)), (6, .int (Zi 0)), (5, .int (Zi step)), (4, .int (Zi j)), (0, .ref o), (1, .ref o2), (2, .ref o3)], [.int (Zi j)])) (fun _ => rfl) ?_
                      refine Z_go (f2 := (171, [(3, .int (Zi (i + 0))), (7, .int (Zi 0)), (6, .int (Zi 0)), (5, .int (Zi step)), (4, .int (Zi j)), (0, .ref o), (1, .ref o2), (2, .ref o3)], [.int (Zi 0), .int (Zi j)])) (fun _ => rfl) ?_
                      refine Z_ieq rfl rfl (by first | exact hs.zF _ _ | exact Zor_r _ _ | exact hs.zA _ _ | assumption | exact zA _ _ | exact zS _ | exact Zr_not (hs.zA _ _) | exact hs.1.1 _ _ | exact ⟨by omega, by omega⟩) (fun c31 => ?_) (fun c31 => ?_)
                      · refine Z_go (f2 := (179, [(3, .int (Zi (i + 0))), (7, .int (Zi 0)), (6, .int (Zi 0)), (5, .int (Zi step)), (4, .int (Zi j)), (0, .ref o), (1, .ref o2), (2, .ref o3)], [.int (Zi 0), .int (Zi j)])) (fun _ => rfl) ?_
                        refine Z_iadd rfl ?_
                        refine Z_go (f2 := (182, [(4, .int (Zi (j + 0))), (3, .int (Zi (i + 0))), (7, .int (Zi 0)), (6, .int (Zi 0)), (5, .int (Zi step)), (0, .ref o), (1, .ref o2), (2, .ref o3)], [])) (fun _ => rfl) ?_
                        refine Z_iinc (L2 := [(5, .int (Zi (step + (-1)))), (4, .int (Zi (j + 0))), (3, .int (Zi (i + 0))), (7, .int (Zi 0)), (6, .int (Zi 0)), (0, .ref o), (1, .ref o2), (2, .ref o3)]) rfl rfl (by decide) rfl ?_
                        refine C_goto (p2 := 33) rfl (by decide +kernel) (by decide +kernel) ?_
                        first
                        | (exfalso; omega)
                        | (refine B_loc (K := [(5, .int (Zi (step + (-1)))), (4, .int (Zi (j + 0))), (3, .int (Zi (i + 0))), (0, .ref o), (1, .ref o2), (2, .ref o3)]) (N_all_sub ⟨rfl, rfl, rfl, rfl, rfl, rfl, trivial⟩) (show ([5, 4, 3, 0, 1, 2] : List Nat).Nodup by decide) ?_
                           have mg2 : L_mg ys ws (zs ++ [L_at ws j]) (i + 0) (j + 0) := L_mg_st sy sw mg i0 j0 (fun z hz => (hlast z hz).2 (by omega)) (by omega) (by omega) (by omega)
                           have hw := D_rw.tr fr g1 g2 g3 hr0 hw (by omega)
                           obtain ⟨a5, cap5, e1, e2, e3, e4, e5⟩ := hw
                           exact ih _ _ _ w _ _ a5 cap5 _ (by omega) hs e1 e2 e3 e4 e5 mg2 (by omega) (by omega) (by omega) (by omega) (by omega) (by omega))
                      · exfalso; omega
                    · exfalso; omega
                  · exfalso; omega
                · refine Z_go (f2 := (125, [(6, .int (Zi 0)), (5, .int (Zi step)), (4, .int (Zi j)), (3, .int (Zi i)), (0, .ref o), (1, .ref o2), (2, .ref o3)], [.int (Zi 1)])) (fun _ => rfl) ?_
                  refine Z_go (f2 := (129, [(6, .int (Zi 0)), (5, .int (Zi step)), (4, .int (Zi j)), (3, .int (Zi i)), (0, .ref o), (1, .ref o2), (2, .ref o3)], [.int (Zi 1)])) (fun _ => rfl) ?_
                  refine Z_go (f2 := (131, [(7, .int (Zi 1)), (6, .int (Zi 0)), (5, .int (Zi step)), (4, .int (Zi j)), (3, .int (Zi i)), (0, .ref o), (1, .ref o2), (2, .ref o3)], [])) (fun _ => rfl) ?_
                  refine Z_go (f2 := (132, [(7, .int (Zi 1)), (6, .int (Zi 0)), (5, .int (Zi step)), (4, .int (Zi j)), (3, .int (Zi i)), (0, .ref o), (1, .ref o2), (2, .ref o3)], [.ref o])) (fun _ => rfl) ?_
                  refine Z_go (f2 := (134, [(7, .int (Zi 1)), (6, .int (Zi 0)), (5, .int (Zi step)), (4, .int (Zi j)), (3, .int (Zi i)), (0, .ref o), (1, .ref o2), (2, .ref o3)], [.int (Zi 0), .ref o])) (fun _ => rfl) ?_
                  refine Z_ieq rfl rfl (by first | exact hs.zF _ _ | exact Zor_r _ _ | exact hs.zA _ _ | assumption | exact zA _ _ | exact zS _ | exact Zr_not (hs.zA _ _) | exact hs.1.1 _ _ | exact ⟨by omega, by omega⟩) (fun c32 => ?_) (fun c32 => ?_)
                  · refine Z_go (f2 := (146, [(7, .int (Zi 1)), (6, .int (Zi 0)), (5, .int (Zi step)), (4, .int (Zi j)), (3, .int (Zi i)), (0, .ref o), (1, .ref o2), (2, .ref o3)], [.ref o3, .ref o])) (fun _ => rfl) ?_
                    refine Z_go (f2 := (148, [(7, .int (Zi 1)), (6, .int (Zi 0)), (5, .int (Zi step)), (4, .int (Zi j)), (3, .int (Zi i)), (0, .ref o), (1, .ref o2), (2, .ref o3)], [.int (Zi j), .ref o3, .ref o])) (fun _ => rfl) ?_
                    refine C_callVR (As := [.int (Zi j)]) (rest := [.ref o]) rfl (by decide) rfl (by decide) rfl rfl (by decide +kernel) (Nat.le_of_ble_eq_true rfl) hs pk (C_at_ _ hp0 (i := j) (by first | exact hs.zF _ _ | exact Zor_r _ _ | exact hs.zA _ _ | assumption | exact zA _ _ | exact zS _ | exact Zr_not (hs.zA _ _) | exact hs.1.1 _ _ | exact ⟨by omega, by omega⟩)) (fun x q => ?_)
                    obtain rfl := q
                    have zl25 := D_Row.zat hs hp0 j
                    show B_R _ _ (151, [(7, .int (Zi 1)), (6, .int (Zi 0)), (5, .int (Zi step)), (4, .int (Zi j)), (3, .int (Zi i)), (0, .ref o), (1, .ref o2), (2, .ref o3)], [.int (Zi (L_at ws j)), .ref o]) _ _ _
                    refine C_callV (As := [.int (Zi (L_at ws j))]) (rest := []) rfl (by decide) rfl (by decide) rfl rfl (by decide +kernel) (Nat.le_of_ble_eq_true rfl) hs rk (C_push _ hr0 (v := L_at ws j) (by first | exact hs.zF _ _ | exact Zor_r _ _ | exact hs.zA _ _ | assumption | exact zA _ _ | exact zS _ | exact Zr_not (hs.zA _ _) | exact hs.1.1 _ _ | exact ⟨by omega, by omega⟩) (by omega)) (fun x h w n hs q => ?_)
                    obtain ⟨rfl, hw⟩ := q
                    show B_R _ _ (154, [(7, .int (Zi 1)), (6, .int (Zi 0)), (5, .int (Zi step)), (4, .int (Zi j)), (3, .int (Zi i)), (0, .ref o), (1, .ref o2), (2, .ref o3)], []) _ _ _
                    refine Z_go (f2 := (155, [(7, .int (Zi 1)), (6, .int (Zi 0)), (5, .int (Zi step)), (4, .int (Zi j)), (3, .int (Zi i)), (0, .ref o), (1, .ref o2), (2, .ref o3)], [.int (Zi i)])) (fun _ => rfl) ?_
                    refine Z_go (f2 := (157, [(7, .int (Zi 1)), (6, .int (Zi 0)), (5, .int (Zi step)), (4, .int (Zi j)), (3, .int (Zi i)), (0, .ref o), (1, .ref o2), (2, .ref o3)], [.int (Zi 0), .int (Zi i)])) (fun _ => rfl) ?_
                    refine Z_ieq rfl rfl (by first | exact hs.zF _ _ | exact Zor_r _ _ | exact hs.zA _ _ | assumption | exact zA _ _ | exact zS _ | exact Zr_not (hs.zA _ _) | exact hs.1.1 _ _ | exact ⟨by omega, by omega⟩) (fun c33 => ?_) (fun c33 => ?_)
                    · refine Z_go (f2 := (165, [(7, .int (Zi 1)), (6, .int (Zi 0)), (5, .int (Zi step)), (4, .int (Zi j)), (3, .int (Zi i)), (0, .ref o), (1, .ref o2), (2, .ref o3)], [.int (Zi 0), .int (Zi i)])) (fun _ => rfl) ?_
                      refine Z_iadd rfl ?_
                      refine Z_go (f2 := (167, [(3, .int (Zi (i + 0))), (7, .int (Zi 1)), (6, .int (Zi 0)), (5, .int (Zi step)), (4, .int (Zi j)), (0, .ref o), (1, .ref o2), (2, .ref o3)], [])) (fun _ => rfl) ?_
                      refine Z_go (f2 := (169, [(3, .int (Zi (i + 0))), (7, .int (Zi 1)), (6, .int (Zi 0)), (5, .int (Zi step)), (4, .int (Zi j)), (0, .ref o), (1, .ref o2), (2, .ref o3)], [.int (Zi j)])) (fun _ => rfl) ?_
                      refine Z_go (f2 := (171, [(3, .int (Zi (i + 0))), (7, .int (Zi 1)), (6, .int (Zi 0)), (5, .int (Zi step)), (4, .int (Zi j)), (0, .ref o), (1, .ref o2), (2, .ref o3)], [.int (Zi 1), .int (Zi j)])) (fun _ => rfl) ?_
                      refine Z_ieq rfl rfl (by first | exact hs.zF _ _ | exact Zor_r _ _ | exact hs.zA _ _ | assumption | exact zA _ _ | exact zS _ | exact Zr_not (hs.zA _ _) | exact hs.1.1 _ _ | exact ⟨by omega, by omega⟩) (fun c34 => ?_) (fun c34 => ?_)
                      · exfalso; omega
                      · refine Z_go (f2 := (175, [(3, .int (Zi (i + 0))), (7, .int (Zi 1)), (6, .int (Zi 0)), (5, .int (Zi step)), (4, .int (Zi j)), (0, .ref o), (1, .ref o2), (2, .ref o3)], [.int (Zi 1), .int (Zi j)])) (fun _ => rfl) ?_
                        refine Z_go (f2 := (179, [(3, .int (Zi (i + 0))), (7, .int (Zi 1)), (6, .int (Zi 0)), (5, .int (Zi step)), (4, .int (Zi j)), (0, .ref o), (1, .ref o2), (2, .ref o3)], [.int (Zi 1), .int (Zi j)])) (fun _ => rfl) ?_
                        refine Z_iadd rfl ?_
                        refine Z_go (f2 := (182, [(4, .int (Zi (j + 1))), (3, .int (Zi (i + 0))), (7, .int (Zi 1)), (6, .int (Zi 0)), (5, .int (Zi step)), (0, .ref o), (1, .ref o2), (2, .ref o3)], [])) (fun _ => rfl) ?_
                        refine Z_iinc (L2 := [(5, .int (Zi (step + (-1)))), (4, .int (Zi (j + 1))), (3, .int (Zi (i + 0))), (7, .int (Zi 1)), (6, .int (Zi 0)), (0, .ref o), (1, .ref o2), (2, .ref o3)]) rfl rfl (by decide) rfl ?_
                        refine C_goto (p2 := 33) rfl (by decide +kernel) (by decide +kernel) ?_
                        first
                        | (exfalso; omega)
                        | (refine B_loc (K := [(5, .int (Zi (step + (-1)))), (4, .int (Zi (j + 1))), (3, .int (Zi (i + 0))), (0, .ref o), (1, .ref o2), (2, .ref o3)]) (N_all_sub ⟨rfl, rfl, rfl, rfl, rfl, rfl, trivial⟩) (show ([5, 4, 3, 0, 1, 2] : List Nat).Nodup by decide) ?_
                           have mg2 : L_mg ys ws (zs ++ [L_at ws j]) (i + 0) (j + 1) := L_mg_st sy sw mg i0 j0 (fun z hz => (hlast z hz).2 (by omega)) (by omega) (by omega) (by omega)
                           have hw := D_rw.tr fr g1 g2 g3 hr0 hw (by omega)
                           obtain ⟨a5, cap5, e1, e2, e3, e4, e5⟩ := hw
                           exact ih _ _ _ w _ _ a5 cap5 _ (by omega) hs e1 e2 e3 e4 e5 mg2 (by omega) (by omega) (by omega) (by omega) (by omega) (by omega))
                    · exfalso; omega
                  · exfalso; omega
          · refine Z_go (f2 := (73, [(5, .int (Zi step)), (4, .int (Zi j)), (3, .int (Zi i)), (0, .ref o), (1, .ref o2), (2, .ref o3)], [.ref o2])) (fun _ => rfl) ?_
            refine Z_go (f2 := (74, [(5, .int (Zi step)), (4, .int (Zi j)), (3, .int (Zi i)), (0, .ref o), (1, .ref o2), (2, .ref o3)], [.int (Zi i), .ref o2])) (fun _ => rfl) ?_
            refine C_callVR (As := [.int (Zi i)]) (rest := []) rfl (by decide) rfl (by decide) rfl rfl (by decide +kernel) (Nat.le_of_ble_eq_true rfl) hs qk (C_at_ _ hq0 (i := i) (by first | exact hs.zF _ _ | exact Zor_r _ _ | exact hs.zA _ _ | assumption | exact zA _ _ | exact zS _ | exact Zr_not (hs.zA _ _) | exact hs.1.1 _ _ | exact ⟨by omega, by omega⟩)) (fun x q => ?_)
            obtain rfl := q
            have zl26 := D_Row.zat hs hq0 i
            show B_R _ _ (77, [(5, .int (Zi step)), (4, .int (Zi j)), (3, .int (Zi i)), (0, .ref o), (1, .ref o2), (2, .ref o3)], [.int (Zi (L_at ys i))]) _ _ _
            refine Z_go (f2 := (78, [(5, .int (Zi step)), (4, .int (Zi j)), (3, .int (Zi i)), (0, .ref o), (1, .ref o2), (2, .ref o3)], [.ref o3, .int (Zi (L_at ys i))])) (fun _ => rfl) ?_
            refine Z_go (f2 := (80, [(5, .int (Zi step)), (4, .int (Zi j)), (3, .int (Zi i)), (0, .ref o), (1, .ref o2), (2, .ref o3)], [.int (Zi j), .ref o3, .int (Zi (L_at ys i))])) (fun _ => rfl) ?_
            refine C_callVR (As := [.int (Zi j)]) (rest := [.int (Zi (L_at ys i))]) rfl (by decide) rfl (by decide) rfl rfl (by decide +kernel) (Nat.le_of_ble_eq_true rfl) hs pk (C_at_ _ hp0 (i := j) (by first | exact hs.zF _ _ | exact Zor_r _ _ | exact hs.zA _ _ | assumption | exact zA _ _ | exact zS _ | exact Zr_not (hs.zA _ _) | exact hs.1.1 _ _ | exact ⟨by omega, by omega⟩)) (fun x q => ?_)
            obtain rfl := q
            have zl27 := D_Row.zat hs hp0 j
            show B_R _ _ (83, [(5, .int (Zi step)), (4, .int (Zi j)), (3, .int (Zi i)), (0, .ref o), (1, .ref o2), (2, .ref o3)], [.int (Zi (L_at ws j)), .int (Zi (L_at ys i))]) _ _ _
            refine Z_cgt rfl rfl (by first | exact hs.zF _ _ | exact Zor_r _ _ | exact hs.zA _ _ | assumption | exact zA _ _ | exact zS _ | exact Zr_not (hs.zA _ _) | exact hs.1.1 _ _ | exact ⟨by omega, by omega⟩) (by first | exact hs.zF _ _ | exact Zor_r _ _ | exact hs.zA _ _ | assumption | exact zA _ _ | exact zS _ | exact Zr_not (hs.zA _ _) | exact hs.1.1 _ _ | exact ⟨by omega, by omega⟩) (fun c35 => ?_) (fun c35 => ?_)
            · refine Z_go (f2 := (91, [(5, .int (Zi step)), (4, .int (Zi j)), (3, .int (Zi i)), (0, .ref o), (1, .ref o2), (2, .ref o3)], [.int (Zi 0)])) (fun _ => rfl) ?_
              refine Z_go (f2 := (93, [(6, .int (Zi 0)), (5, .int (Zi step)), (4, .int (Zi j)), (3, .int (Zi i)), (0, .ref o), (1, .ref o2), (2, .ref o3)], [])) (fun _ => rfl) ?_
              refine Z_go (f2 := (94, [(6, .int (Zi 0)), (5, .int (Zi step)), (4, .int (Zi j)), (3, .int (Zi i)), (0, .ref o), (1, .ref o2), (2, .ref o3)], [.int (Zi i)])) (fun _ => rfl) ?_
              refine Z_go (f2 := (95, [(6, .int (Zi 0)), (5, .int (Zi step)), (4, .int (Zi j)), (3, .int (Zi i)), (0, .ref o), (1, .ref o2), (2, .ref o3)], [.ref o2, .int (Zi i)])) (fun _ => rfl) ?_
              refine C_gi rfl hs qk (by decide) (Nat.le_of_ble_eq_true rfl) rfl ?_
              rw [show C_F (u) o2 1 = (ys.length : Int) from (by first | exact qm | exact (if_neg (fun e => absurd e.1 (by assumption))).trans qm)]
              show B_R _ _ (98, [(6, .int (Zi 0)), (5, .int (Zi step)), (4, .int (Zi j)), (3, .int (Zi i)), (0, .ref o), (1, .ref o2), (2, .ref o3)], [.int (Zi ((ys.length : Int))), .int (Zi i)]) _ _ _
              refine Z_cge rfl rfl (by first | exact hs.zF _ _ | exact Zor_r _ _ | exact hs.zA _ _ | assumption | exact zA _ _ | exact zS _ | exact Zr_not (hs.zA _ _) | exact hs.1.1 _ _ | exact ⟨by omega, by omega⟩) (by first | exact hs.zF _ _ | exact Zor_r _ _ | exact hs.zA _ _ | assumption | exact zA _ _ | exact zS _ | exact Zr_not (hs.zA _ _) | exact hs.1.1 _ _ | exact ⟨by omega, by omega⟩) (fun c36 => ?_) (fun c36 => ?_)
              · refine Z_go (f2 := (125, [(6, .int (Zi 0)), (5, .int (Zi step)), (4, .int (Zi j)), (3, .int (Zi i)), (0, .ref o), (1, .ref o2), (2, .ref o3)], [.int (Zi 1)])) (fun _ => rfl) ?_
                refine Z_go (f2 := (129, [(6, .int (Zi 0)), (5, .int (Zi step)), (4, .int (Zi j)), (3, .int (Zi i)), (0, .ref o), (1, .ref o2), (2, .ref o3)], [.int (Zi 1)])) (fun _ => rfl) ?_
                refine Z_go (f2 := (131, [(7, .int (Zi 1)), (6, .int (Zi 0)), (5, .int (Zi step)), (4, .int (Zi j)), (3, .int (Zi i)), (0, .ref o), (1, .ref o2), (2, .ref o3)], [])) (fun _ => rfl) ?_
                refine Z_go (f2 := (132, [(7, .int (Zi 1)), (6, .int (Zi 0)), (5, .int (Zi step)), (4, .int (Zi j)), (3, .int (Zi i)), (0, .ref o), (1, .ref o2), (2, .ref o3)], [.ref o])) (fun _ => rfl) ?_
                refine Z_go (f2 := (134, [(7, .int (Zi 1)), (6, .int (Zi 0)), (5, .int (Zi step)), (4, .int (Zi j)), (3, .int (Zi i)), (0, .ref o), (1, .ref o2), (2, .ref o3)], [.int (Zi 0), .ref o])) (fun _ => rfl) ?_
                refine Z_ieq rfl rfl (by first | exact hs.zF _ _ | exact Zor_r _ _ | exact hs.zA _ _ | assumption | exact zA _ _ | exact zS _ | exact Zr_not (hs.zA _ _) | exact hs.1.1 _ _ | exact ⟨by omega, by omega⟩) (fun c37 => ?_) (fun c37 => ?_)
                · refine Z_go (f2 := (146, [(7, .int (Zi 1)), (6, .int (Zi 0)), (5, .int (Zi step)), (4, .int (Zi j)), (3, .int (Zi i)), (0, .ref o), (1, .ref o2), (2, .ref o3)], [.ref o3, .ref o])) (fun _ => rfl) ?_
                  refine Z_go (f2 := (148, [(7, .int (Zi 1)), (6, .int (Zi 0)), (5, .int (Zi step)), (4, .int (Zi j)), (3, .int (Zi i)), (0, .ref o), (1, .ref o2), (2, .ref o3)], [.int (Zi j), .ref o3, .ref o])) (fun _ => rfl) ?_
                  refine C_callVR (As := [.int (Zi j)]) (rest := [.ref o]) rfl (by decide) rfl (by decide) rfl rfl (by decide +kernel) (Nat.le_of_ble_eq_true rfl) hs pk (C_at_ _ hp0 (i := j) (by first | exact hs.zF _ _ | exact Zor_r _ _ | exact hs.zA _ _ | assumption | exact zA _ _ | exact zS _ | exact Zr_not (hs.zA _ _) | exact hs.1.1 _ _ | exact ⟨by omega, by omega⟩)) (fun x q => ?_)
                  obtain rfl := q
                  have zl28 := D_Row.zat hs hp0 j
                  show B_R _ _ (151, [(7, .int (Zi 1)), (6, .int (Zi 0)), (5, .int (Zi step)), (4, .int (Zi j)), (3, .int (Zi i)), (0, .ref o), (1, .ref o2), (2, .ref o3)], [.int (Zi (L_at ws j)), .ref o]) _ _ _
                  refine C_callV (As := [.int (Zi (L_at ws j))]) (rest := []) rfl (by decide) rfl (by decide) rfl rfl (by decide +kernel) (Nat.le_of_ble_eq_true rfl) hs rk (C_push _ hr0 (v := L_at ws j) (by first | exact hs.zF _ _ | exact Zor_r _ _ | exact hs.zA _ _ | assumption | exact zA _ _ | exact zS _ | exact Zr_not (hs.zA _ _) | exact hs.1.1 _ _ | exact ⟨by omega, by omega⟩) (by omega)) (fun x h w n hs q => ?_)
                  obtain ⟨rfl, hw⟩ := q
                  show B_R _ _ (154, [(7, .int (Zi 1)), (6, .int (Zi 0)), (5, .int (Zi step)), (4, .int (Zi j)), (3, .int (Zi i)), (0, .ref o), (1, .ref o2), (2, .ref o3)], []) _ _ _
                  refine Z_go (f2 := (155, [(7, .int (Zi 1)), (6, .int (Zi 0)), (5, .int (Zi step)), (4, .int (Zi j)), (3, .int (Zi i)), (0, .ref o), (1, .ref o2), (2, .ref o3)], [.int (Zi i)])) (fun _ => rfl) ?_
                  refine Z_go (f2 := (157, [(7, .int (Zi 1)), (6, .int (Zi 0)), (5, .int (Zi step)), (4, .int (Zi j)), (3, .int (Zi i)), (0, .ref o), (1, .ref o2), (2, .ref o3)], [.int (Zi 0), .int (Zi i)])) (fun _ => rfl) ?_
                  refine Z_ieq rfl rfl (by first | exact hs.zF _ _ | exact Zor_r _ _ | exact hs.zA _ _ | assumption | exact zA _ _ | exact zS _ | exact Zr_not (hs.zA _ _) | exact hs.1.1 _ _ | exact ⟨by omega, by omega⟩) (fun c38 => ?_) (fun c38 => ?_)
                  · refine Z_go (f2 := (165, [(7, .int (Zi 1)), (6, .int (Zi 0)), (5, .int (Zi step)), (4, .int (Zi j)), (3, .int (Zi i)), (0, .ref o), (1, .ref o2), (2, .ref o3)], [.int (Zi 0), .int (Zi i)])) (fun _ => rfl) ?_
                    refine Z_iadd rfl ?_
                    refine Z_go (f2 := (167, [(3, .int (Zi (i + 0))), (7, .int (Zi 1)), (6, .int (Zi 0)), (5, .int (Zi step)), (4, .int (Zi j)), (0, .ref o), (1, .ref o2), (2, .ref o3)], [])) (fun _ => rfl) ?_
                    refine Z_go (f2 := (169, [(3, .int (Zi (i + 0))), (7, .int (Zi 1)), (6, .int (Zi 0)), (5, .int (Zi step)), (4, .int (Zi j)), (0, .ref o), (1, .ref o2), (2, .ref o3)], [.int (Zi j)])) (fun _ => rfl) ?_
                    refine Z_go (f2 := (171, [(3, .int (Zi (i + 0))), (7, .int (Zi 1)), (6, .int (Zi 0)), (5, .int (Zi step)), (4, .int (Zi j)), (0, .ref o), (1, .ref o2), (2, .ref o3)], [.int (Zi 1), .int (Zi j)])) (fun _ => rfl) ?_
                    refine Z_ieq rfl rfl (by first | exact hs.zF _ _ | exact Zor_r _ _ | exact hs.zA _ _ | assumption | exact zA _ _ | exact zS _ | exact Zr_not (hs.zA _ _) | exact hs.1.1 _ _ | exact ⟨by omega, by omega⟩) (fun c39 => ?_) (fun c39 => ?_)
                    · exfalso; omega
                    · refine Z_go (f2 := (175, [(3, .int (Zi (i + 0))), (7, .int (Zi 1)), (6, .int (Zi 0)), (5, .int (Zi step)), (4, .int (Zi j)), (0, .ref o), (1, .ref o2), (2, .ref o3)], [.int (Zi 1), .int (Zi j)])) (fun _ => rfl) ?_
                      refine Z_go (f2 := (179, [(3, .int (Zi (i + 0))), (7, .int (Zi 1)), (6, .int (Zi 0)), (5, .int (Zi step)), (4, .int (Zi j)), (0, .ref o), (1, .ref o2), (2, .ref o3)], [.int (Zi 1), .int (Zi j)])) (fun _ => rfl) ?_
                      refine Z_iadd rfl ?_
                      refine Z_go (f2 := (182, [(4, .int (Zi (j + 1))), (3, .int (Zi (i + 0))), (7, .int (Zi 1)), (6, .int (Zi 0)), (5, .int (Zi step)), (0, .ref o), (1, .ref o2), (2, .ref o3)], [])) (fun _ => rfl) ?_
                      refine Z_iinc (L2 := [(5, .int (Zi (step + (-1)))), (4, .int (Zi (j + 1))), (3, .int (Zi (i + 0))), (7, .int (Zi 1)), (6, .int (Zi 0)), (0, .ref o), (1, .ref o2), (2, .ref o3)]) rfl rfl (by decide) rfl ?_
                      refine C_goto (p2 := 33) rfl (by decide +kernel) (by decide +kernel) ?_
                      first
                      | (exfalso; omega)
                      | (refine B_loc (K := [(5, .int (Zi (step + (-1)))), (4, .int (Zi (j + 1))), (3, .int (Zi (i + 0))), (0, .ref o), (1, .ref o2), (2, .ref o3)]) (N_all_sub ⟨rfl, rfl, rfl, rfl, rfl, rfl, trivial⟩) (show ([5, 4, 3, 0, 1, 2] : List Nat).Nodup by decide) ?_
                         have mg2 : L_mg ys ws (zs ++ [L_at ws j]) (i + 0) (j + 1) := L_mg_st sy sw mg i0 j0 (fun z hz => (hlast z hz).2 (by omega)) (by omega) (by omega) (by omega)
                         have hw := D_rw.tr fr g1 g2 g3 hr0 hw (by omega)
                         obtain ⟨a5, cap5, e1, e2, e3, e4, e5⟩ := hw
                         exact ih _ _ _ w _ _ a5 cap5 _ (by omega) hs e1 e2 e3 e4 e5 mg2 (by omega) (by omega) (by omega) (by omega) (by omega) (by omega))
                  · exfalso; omega
                · exfalso; omega
              · refine Z_go (f2 := (103, [(6, .int (Zi 0)), (5, .int (Zi step)), (4, .int (Zi j)), (3, .int (Zi i)), (0, .ref o), (1, .ref o2), (2, .ref o3)], [.int (Zi j)])) (fun _ => rfl) ?_
                refine Z_go (f2 := (104, [(6, .int (Zi 0)), (5, .int (Zi step)), (4, .int (Zi j)), (3, .int (Zi i)), (0, .ref o), (1, .ref o2), (2, .ref o3)], [.ref o3, .int (Zi j)])) (fun _ => rfl) ?_
                refine C_gi rfl hs pk (by decide) (Nat.le_of_ble_eq_true rfl) rfl ?_
                rw [show C_F (u) o3 1 = (ws.length : Int) from (by first | exact pm | exact (if_neg (fun e => absurd e.1 (by assumption))).trans pm)]
                show B_R _ _ (107, [(6, .int (Zi 0)), (5, .int (Zi step)), (4, .int (Zi j)), (3, .int (Zi i)), (0, .ref o), (1, .ref o2), (2, .ref o3)], [.int (Zi ((ws.length : Int))), .int (Zi j)]) _ _ _
                refine Z_cge rfl rfl (by first | exact hs.zF _ _ | exact Zor_r _ _ | exact hs.zA _ _ | assumption | exact zA _ _ | exact zS _ | exact Zr_not (hs.zA _ _) | exact hs.1.1 _ _ | exact ⟨by omega, by omega⟩) (by first | exact hs.zF _ _ | exact Zor_r _ _ | exact hs.zA _ _ | assumption | exact zA _ _ | exact zS _ | exact Zr_not (hs.zA _ _) | exact hs.1.1 _ _ | exact ⟨by omega, by omega⟩) (fun c40 => ?_) (fun c40 => ?_)
                · refine Z_go (f2 := (129, [(6, .int (Zi 0)), (5, .int (Zi step)), (4, .int (Zi j)), (3, .int (Zi i)), (0, .ref o), (1, .ref o2), (2, .ref o3)], [.int (Zi 0)])) (fun _ => rfl) ?_
                  refine Z_go (f2 := (131, [(7, .int (Zi 0)), (6, .int (Zi 0)), (5, .int (Zi step)), (4, .int (Zi j)), (3, .int (Zi i)), (0, .ref o), (1, .ref o2), (2, .ref o3)], [])) (fun _ => rfl) ?_
                  refine Z_go (f2 := (132, [(7, .int (Zi 0)), (6, .int (Zi 0)), (5, .int (Zi step)), (4, .int (Zi j)), (3, .int (Zi i)), (0, .ref o), (1, .ref o2), (2, .ref o3)], [.ref o])) (fun _ => rfl) ?_
                  refine Z_go (f2 := (134, [(7, .int (Zi 0)), (6, .int (Zi 0)), (5, .int (Zi step)), (4, .int (Zi j)), (3, .int (Zi i)), (0, .ref o), (1, .ref o2), (2, .ref o3)], [.int (Zi 0), .ref o])) (fun _ => rfl) ?_
                  refine Z_ieq rfl rfl (by first | exact hs.zF _ _ | exact Zor_r _ _ | exact hs.zA _ _ | assumption | exact zA _ _ | exact zS _ | exact Zr_not (hs.zA _ _) | exact hs.1.1 _ _ | exact ⟨by omega, by omega⟩) (fun c41 => ?_) (fun c41 => ?_)
                  · refine Z_go (f2 := (146, [(7, .int (Zi 0)), (6, .int (Zi 0)), (5, .int (Zi step)), (4, .int (Zi j)), (3, .int (Zi i)), (0, .ref o), (1, .ref o2), (2, .ref o3)], [.ref o3, .ref o])) (fun _ => rfl) ?_
                    refine Z_go (f2 := (148, [(7, .int (Zi 0)), (6, .int (Zi 0)), (5, .int (Zi step)), (4, .int (Zi j)), (3, .int (Zi i)), (0, .ref o), (1, .ref o2), (2, .ref o3)], [.int (Zi j), .ref o3, .ref o])) (fun _ => rfl) ?_
                    refine C_callVR (As := [.int (Zi j)]) (rest := [.ref o]) rfl (by decide) rfl (by decide) rfl rfl (by decide +kernel) (Nat.le_of_ble_eq_true rfl) hs pk (C_at_ _ hp0 (i := j) (by first | exact hs.zF _ _ | exact Zor_r _ _ | exact hs.zA _ _ | assumption | exact zA _ _ | exact zS _ | exact Zr_not (hs.zA _ _) | exact hs.1.1 _ _ | exact ⟨by omega, by omega⟩)) (fun x q => ?_)
                    obtain rfl := q
                    have zl29 := D_Row.zat hs hp0 j
                    show B_R _ _ (151, [(7, .int (Zi 0)), (6, .int (Zi 0)), (5, .int (Zi step)), (4, .int (Zi j)), (3, .int (Zi i)), (0, .ref o), (1, .ref o2), (2, .ref o3)], [.int (Zi (L_at ws j)), .ref o]) _ _ _
                    refine C_callV (As := [.int (Zi (L_at ws j))]) (rest := []) rfl (by decide) rfl (by decide) rfl rfl (by decide +kernel) (Nat.le_of_ble_eq_true rfl) hs rk (C_push _ hr0 (v := L_at ws j) (by first | exact hs.zF _ _ | exact Zor_r _ _ | exact hs.zA _ _ | assumption | exact zA _ _ | exact zS _ | exact Zr_not (hs.zA _ _) | exact hs.1.1 _ _ | exact ⟨by omega, by omega⟩) (by omega)) (fun x h w n hs q => ?_)
                    obtain ⟨rfl, hw⟩ := q
                    show B_R _ _ (154, [(7, .int (Zi 0)), (6, .int (Zi 0)), (5, .int (Zi step)), (4, .int (Zi j)), (3, .int (Zi i)), (0, .ref o), (1, .ref o2), (2, .ref o3)], []) _ _ _
                    refine Z_go (f2 := (155, [(7, .int (Zi 0)), (6, .int (Zi 0)), (5, .int (Zi step)), (4, .int (Zi j)), (3, .int (Zi i)), (0, .ref o), (1, .ref o2), (2, .ref o3)], [.int (Zi i)])) (fun _ => rfl) ?_
                    refine Z_go (f2 := (157, [(7, .int (Zi 0)), (6, .int (Zi 0)), (5, .int (Zi step)), (4, .int (Zi j)), (3, .int (Zi i)), (0, .ref o), (1, .ref o2), (2, .ref o3)], [.int (Zi 0), .int (Zi i)])) (fun _ => rfl) ?_
                    refine Z_ieq rfl rfl (by first | exact hs.zF _ _ | exact Zor_r _ _ | exact hs.zA _ _ | assumption | exact zA _ _ | exact zS _ | exact Zr_not (hs.zA _ _) | exact hs.1.1 _ _ | exact ⟨by omega, by omega⟩) (fun c42 => ?_) (fun c42 => ?_)
                    · refine Z_go (f2 := (165, [(7, .int (Zi 0)), (6, .int (Zi 0)), (5, .int (Zi step)), (4, .int (Zi j)), (3, .int (Zi i)), (0, .ref o), (1, .ref o2), (2, .ref o3)], [.int (Zi 0), .int (Zi i)])) (fun _ => rfl) ?_
                      refine Z_iadd rfl ?_
                      refine Z_go (f2 := (167, [(3, .int (Zi (i + 0))), (7, .int (Zi 0)), (6, .int (Zi 0)), (5, .int (Zi step)), (4, .int (Zi j)), (0, .ref o), (1, .ref o2), (2, .ref o3)], [])) (fun _ => rfl) ?_
                      refine Z_go (f2 := (169, [(3, .int (Zi (i + 0))), (7, .int (Zi 0)), (6, .int (Zi 0)), (5, .int (Zi step)), (4, .int (Zi j)), (0, .ref o), (1, .ref o2), (2, .ref o3)], [.int (Zi j)])) (fun _ => rfl) ?_
                      refine Z_go (f2 := (171, [(3, .int (Zi (i + 0))), (7, .int (Zi 0)), (6, .int (Zi 0)), (5, .int (Zi step)), (4, .int (Zi j)), (0, .ref o), (1, .ref o2), (2, .ref o3)], [.int (Zi 0), .int (Zi j)])) (fun _ => rfl) ?_
                      refine Z_ieq rfl rfl (by first | exact hs.zF _ _ | exact Zor_r _ _ | exact hs.zA _ _ | assumption | exact zA _ _ | exact zS _ | exact Zr_not (hs.zA _ _) | exact hs.1.1 _ _ | exact ⟨by omega, by omega⟩) (fun c43 => ?_) (fun c43 => ?_)
                      · refine Z_go (f2 := (179, [(3, .int (Zi (i + 0))), (7, .int (Zi 0)), (6, .int (Zi 0)), (5, .int (Zi step)), (4, .int (Zi j)), (0, .ref o), (1, .ref o2), (2, .ref o3)], [.int (Zi 0), .int (Zi j)])) (fun _ => rfl) ?_
                        refine Z_iadd rfl ?_
                        refine Z_go (f2 := (182, [(4, .int (Zi (j + 0))), (3, .int (Zi (i + 0))), (7, .int (Zi 0)), (6, .int (Zi 0)), (5, .int (Zi step)), (0, .ref o), (1, .ref o2), (2, .ref o3)], [])) (fun _ => rfl) ?_
                        refine Z_iinc (L2 := [(5, .int (Zi (step + (-1)))), (4, .int (Zi (j + 0))), (3, .int (Zi (i + 0))), (7, .int (Zi 0)), (6, .int (Zi 0)), (0, .ref o), (1, .ref o2), (2, .ref o3)]) rfl rfl (by decide) rfl ?_
                        refine C_goto (p2 := 33) rfl (by decide +kernel) (by decide +kernel) ?_
                        first
                        | (exfalso; omega)
                        | (refine B_loc (K := [(5, .int (Zi (step + (-1)))), (4, .int (Zi (j + 0))), (3, .int (Zi (i + 0))), (0, .ref o), (1, .ref o2), (2, .ref o3)]) (N_all_sub ⟨rfl, rfl, rfl, rfl, rfl, rfl, trivial⟩) (show ([5, 4, 3, 0, 1, 2] : List Nat).Nodup by decide) ?_
                           have mg2 : L_mg ys ws (zs ++ [L_at ws j]) (i + 0) (j + 0) := L_mg_st sy sw mg i0 j0 (fun z hz => (hlast z hz).2 (by omega)) (by omega) (by omega) (by omega)
                           have hw := D_rw.tr fr g1 g2 g3 hr0 hw (by omega)
                           obtain ⟨a5, cap5, e1, e2, e3, e4, e5⟩ := hw
                           exact ih _ _ _ w _ _ a5 cap5 _ (by omega) hs e1 e2 e3 e4 e5 mg2 (by omega) (by omega) (by omega) (by omega) (by omega) (by omega))
                      · exfalso; omega
                    · exfalso; omega
                  · exfalso; omega
                · refine Z_go (f2 := (111, [(6, .int (Zi 0)), (5, .int (Zi step)), (4, .int (Zi j)), (3, .int (Zi i)), (0, .ref o), (1, .ref o2), (2, .ref o3)], [.ref o3])) (fun _ => rfl) ?_
                  refine Z_go (f2 := (113, [(6, .int (Zi 0)), (5, .int (Zi step)), (4, .int (Zi j)), (3, .int (Zi i)), (0, .ref o), (1, .ref o2), (2, .ref o3)], [.int (Zi j), .ref o3])) (fun _ => rfl) ?_
                  refine C_callVR (As := [.int (Zi j)]) (rest := []) rfl (by decide) rfl (by decide) rfl rfl (by decide +kernel) (Nat.le_of_ble_eq_true rfl) hs pk (C_at_ _ hp0 (i := j) (by first | exact hs.zF _ _ | exact Zor_r _ _ | exact hs.zA _ _ | assumption | exact zA _ _ | exact zS _ | exact Zr_not (hs.zA _ _) | exact hs.1.1 _ _ | exact ⟨by omega, by omega⟩)) (fun x q => ?_)
                  obtain rfl := q
                  have zl30 := D_Row.zat hs hp0 j
                  show B_R _ _ (116, [(6, .int (Zi 0)), (5, .int (Zi step)), (4, .int (Zi j)), (3, .int (Zi i)), (0, .ref o), (1, .ref o2), (2, .ref o3)], [.int (Zi (L_at ws j))]) _ _ _
                  refine Z_go (f2 := (117, [(6, .int (Zi 0)), (5, .int (Zi step)), (4, .int (Zi j)), (3, .int (Zi i)), (0, .ref o), (1, .ref o2), (2, .ref o3)], [.ref o2, .int (Zi (L_at ws j))])) (fun _ => rfl) ?_
                  refine Z_go (f2 := (118, [(6, .int (Zi 0)), (5, .int (Zi step)), (4, .int (Zi j)), (3, .int (Zi i)), (0, .ref o), (1, .ref o2), (2, .ref o3)], [.int (Zi i), .ref o2, .int (Zi (L_at ws j))])) (fun _ => rfl) ?_
                  refine C_callVR (As := [.int (Zi i)]) (rest := [.int (Zi (L_at ws j))]) rfl (by decide) rfl (by decide) rfl rfl (by decide +kernel) (Nat.le_of_ble_eq_true rfl) hs qk (C_at_ _ hq0 (i := i) (by first | exact hs.zF _ _ | exact Zor_r _ _ | exact hs.zA _ _ | assumption | exact zA _ _ | exact zS _ | exact Zr_not (hs.zA _ _) | exact hs.1.1 _ _ | exact ⟨by omega, by omega⟩)) (fun x q => ?_)
                  obtain rfl := q
                  have zl31 := D_Row.zat hs hq0 i
                  show B_R _ _ (121, [(6, .int (Zi 0)), (5, .int (Zi step)), (4, .int (Zi j)), (3, .int (Zi i)), (0, .ref o), (1, .ref o2), (2, .ref o3)], [.int (Zi (L_at ys i)), .int (Zi (L_at ws j))]) _ _ _
                  refine Z_cgt rfl rfl (by first | exact hs.zF _ _ | exact Zor_r _ _ | exact hs.zA _ _ | assumption | exact zA _ _ | exact zS _ | exact Zr_not (hs.zA _ _) | exact hs.1.1 _ _ | exact ⟨by omega, by omega⟩) (by first | exact hs.zF _ _ | exact Zor_r _ _ | exact hs.zA _ _ | assumption | exact zA _ _ | exact zS _ | exact Zr_not (hs.zA _ _) | exact hs.1.1 _ _ | exact ⟨by omega, by omega⟩) (fun c44 => ?_) (fun c44 => ?_)
                  · refine Z_go (f2 := (129, [(6, .int (Zi 0)), (5, .int (Zi step)), (4, .int (Zi j)), (3, .int (Zi i)), (0, .ref o), (1, .ref o2), (2, .ref o3)], [.int (Zi 0)])) (fun _ => rfl) ?_
                    refine Z_go (f2 := (131, [(7, .int (Zi 0)), (6, .int (Zi 0)), (5, .int (Zi step)), (4, .int (Zi j)), (3, .int (Zi i)), (0, .ref o), (1, .ref o2), (2, .ref o3)], [])) (fun _ => rfl) ?_
                    refine Z_go (f2 := (132, [(7, .int (Zi 0)), (6, .int (Zi 0)), (5, .int (Zi step)), (4, .int (Zi j)), (3, .int (Zi i)), (0, .ref o), (1, .ref o2), (2, .ref o3)], [.ref o])) (fun _ => rfl) ?_
                    refine Z_go (f2 := (134, [(7, .int (Zi 0)), (6, .int (Zi 0)), (5, .int (Zi step)), (4, .int (Zi j)), (3, .int (Zi i)), (0, .ref o), (1, .ref o2), (2, .ref o3)], [.int (Zi 0), .ref o])) (fun _ => rfl) ?_
                    refine Z_ieq rfl rfl (by first | exact hs.zF _ _ | exact Zor_r _ _ | exact hs.zA _ _ | assumption | exact zA _ _ | exact zS _ | exact Zr_not (hs.zA _ _) | exact hs.1.1 _ _ | exact ⟨by omega, by omega⟩) (fun c45 => ?_) (fun c45 => ?_)
                    · refine Z_go (f2 := (146, [(7, .int (Zi 0)), (6, .int (Zi 0)), (5, .int (Zi step)), (4, .int (Zi j)), (3, .int (Zi i)), (0, .ref o), (1, .ref o2), (2, .ref o3)], [.ref o3, .ref o])) (fun _ => rfl) ?_
                      refine Z_go (f2 := (148, [(7, .int (Zi 0)), (6, .int (Zi 0)), (5, .int (Zi step)), (4, .int (Zi j)), (3, .int (Zi i)), (0, .ref o), (1, .ref o2), (2, .ref o3)], [.int (Zi j), .ref o3, .ref o])) (fun _ => rfl) ?_
                      refine C_callVR (As := [.int (Zi j)]) (rest := [.ref o]) rfl (by decide) rfl (by decide) rfl rfl (by decide +kernel) (Nat.le_of_ble_eq_true rfl) hs pk (C_at_ _ hp0 (i := j) (by first | exact hs.zF _ _ | exact Zor_r _ _ | exact hs.zA _ _ | assumption | exact zA _ _ | exact zS _ | exact Zr_not (hs.zA _ _) | exact hs.1.1 _ _ | exact ⟨by omega, by omega⟩)) (fun x q => ?_)
                      obtain rfl := q
                      have zl32 := D_Row.zat hs hp0 j
                      show B_R _ _ (151, [(7, .int (Zi 0)), (6, .int (Zi 0)), (5, .int (Zi step)), (4, .int (Zi j)), (3, .int (Zi i)), (0, .ref o), (1, .ref o2), (2, .ref o3)], [.int (Zi (L_at ws j)), .ref o]) _ _ _
                      refine C_callV (As := [.int (Zi (L_at ws j))]) (rest := []) rfl (by decide) rfl (by decide) rfl rfl (by decide +kernel) (Nat.le_of_ble_eq_true rfl) hs rk (C_push _ hr0 (v := L_at ws j) (by first | exact hs.zF _ _ | exact Zor_r _ _ | exact hs.zA _ _ | assumption | exact zA _ _ | exact zS _ | exact Zr_not (hs.zA _ _) | exact hs.1.1 _ _ | exact ⟨by omega, by omega⟩) (by omega)) (fun x h w n hs q => ?_)
                      obtain ⟨rfl, hw⟩ := q
                      show B_R _ _ (154, [(7, .int (Zi 0)), (6, .int (Zi 0)), (5, .int (Zi step)), (4, .int (Zi j)), (3, .int (Zi i)), (0, .ref o), (1, .ref o2), (2, .ref o3)], []) _ _ _
                      refine Z_go (f2 := (155, [(7, .int (Zi 0)), (6, .int (Zi 0)), (5, .int (Zi step)), (4, .int (Zi j)), (3, .int (Zi i)), (0, .ref o), (1, .ref o2), (2, .ref o3)], [.int (Zi i)])) (fun _ => rfl) ?_
                      refine Z_go (f2 := (157, [(7, .int (Zi 0)), (6, .int (Zi 0)), (5, .int (Zi step)), (4, .int (Zi j)), (3, .int (Zi i)), (0, .ref o), (1, .ref o2), (2, .ref o3)], [.int (Zi 0), .int (Zi i)])) (fun _ => rfl) ?_
                      refine Z_ieq rfl rfl (by first | exact hs.zF _ _ | exact Zor_r _ _ | exact hs.zA _ _ | assumption | exact zA _ _ | exact zS _ | exact Zr_not (hs.zA _ _) | exact hs.1.1 _ _ | exact ⟨by omega, by omega⟩) (fun c46 => ?_) (fun c46 => ?_)
                      · refine Z_go (f2 := (165, [(7, .int (Zi 0)), (6, .int (Zi 0)), (5, .int (Zi step)), (4, .int (Zi j)), (3, .int (Zi i)), (0, .ref o), (1, .ref o2), (2, .ref o3)], [.int (Zi 0), .int (Zi i)])) (fun _ => rfl) ?_
                        refine Z_iadd rfl ?_
                        refine Z_go (f2 := (167, [(3, .int (Zi (i + 0))), (7, .int (Zi 0)), (6, .int (Zi 0)), (5, .int (Zi step)), (4, .int (Zi j)), (0, .ref o), (1, .ref o2), (2, .ref o3)], [])) (fun _ => rfl) ?_
                        refine Z_go (f2 := (169, [(3, .int (Zi (i + 0))), (7, .int (Zi 0)), (6, .int (Zi 0)), (5, .int (Zi step)), (4, .int (Zi j)), (0, .ref o), (1, .ref o2), (2, .ref o3)], [.int (Zi j)])) (fun _ => rfl) ?_
                        refine Z_go (f2 := (171, [(3, .int (Zi (i + 0))), (7, .int (Zi 0)), (6, .int (Zi 0)), (5, .int (Zi step)), (4, .int (Zi j)), (0, .ref o), (1, .ref o2), (2, .ref o3)], [.int (Zi 0), .int (Zi j)])) (fun _ => rfl) ?_
                        refine Z_ieq rfl rfl (by first | exact hs.zF _ _ | exact Zor_r _ _ | exact hs.zA _ _ | assumption | exact zA _ _ | exact zS _ | exact Zr_not (hs.zA _ _) | exact hs.1.1 _ _ | exact ⟨by omega, by omega⟩) (fun c47 => ?_) (fun c47 => ?_)
                        · refine Z_go (f2 := (179, [(3, .int (Zi (i + 0))), (7, .int (Zi 0)), (6, .int (Zi 0)), (5, .int (Zi step)), (4, .int (Zi j)), (0, .ref o), (1, .ref o2), (2, .ref o3)], [.int (Zi 0), .int (Zi j)])) (fun _ => rfl) ?_
                          refine Z_iadd rfl ?_
                          refine Z_go (f2 := (182, [(4, .int (Zi (j + 0))), (3, .int (Zi (i + 0))), (7, .int (Zi 0)), (6, .int (Zi 0)), (5, .int (Zi step)), (0, .ref o), (1, .ref o2), (2, .ref o3)], [])) (fun _ => rfl) ?_
                          refine Z_iinc (L2 := [(5, .int (Zi (step + (-1)))), (4, .int (Zi (j + 0))), (3, .int (Zi (i + 0))), (7, .int (Zi 0)), (6, .int (Zi 0)), (0, .ref o), (1, .ref o2), (2, .ref o3)]) rfl rfl (by decide) rfl ?_
                          refine C_goto (p2 := 33) rfl (by decide +kernel) (by decide +kernel) ?_
                          first
                          | (exfalso; omega)
                          | (refine B_loc (K := [(5, .int (Zi (step + (-1)))), (4, .int (Zi (j + 0))), (3, .int (Zi (i + 0))), (0, .ref o), (1, .ref o2), (2, .ref o3)]) (N_all_sub ⟨rfl, rfl, rfl, rfl, rfl, rfl, trivial⟩) (show ([5, 4, 3, 0, 1, 2] : List Nat).Nodup by decide) ?_
                             have mg2 : L_mg ys ws (zs ++ [L_at ws j]) (i + 0) (j + 0) := L_mg_st sy sw mg i0 j0 (fun z hz => (hlast z hz).2 (by omega)) (by omega) (by omega) (by omega)
                             have hw := D_rw.tr fr g1 g2 g3 hr0 hw (by omega)
                             obtain ⟨a5, cap5, e1, e2, e3, e4, e5⟩ := hw
                             exact ih _ _ _ w _ _ a5 cap5 _ (by omega) hs e1 e2 e3 e4 e5 mg2 (by omega) (by omega) (by omega) (by omega) (by omega) (by omega))
                        · exfalso; omega
                      · exfalso; omega
                    · exfalso; omega
                  · refine Z_go (f2 := (125, [(6, .int (Zi 0)), (5, .int (Zi step)), (4, .int (Zi j)), (3, .int (Zi i)), (0, .ref o), (1, .ref o2), (2, .ref o3)], [.int (Zi 1)])) (fun _ => rfl) ?_
                    refine Z_go (f2 := (129, [(6, .int (Zi 0)), (5, .int (Zi step)), (4, .int (Zi j)), (3, .int (Zi i)), (0, .ref o), (1, .ref o2), (2, .ref o3)], [.int (Zi 1)])) (fun _ => rfl) ?_
                    refine Z_go (f2 := (131, [(7, .int (Zi 1)), (6, .int (Zi 0)), (5, .int (Zi step)), (4, .int (Zi j)), (3, .int (Zi i)), (0, .ref o), (1, .ref o2), (2, .ref o3)], [])) (fun _ => rfl) ?_
                    refine Z_go (f2 := (132, [(7, .int (Zi 1)), (6, .int (Zi 0)), (5, .int (Zi step)), (4, .int (Zi j)), (3, .int (Zi i)), (0, .ref o), (1, .ref o2), (2, .ref o3)], [.ref o])) (fun _ => rfl) ?_
                    refine Z_go (f2 := (134, [(7, .int (Zi 1)), (6, .int (Zi 0)), (5, .int (Zi step)), (4, .int (Zi j)), (3, .int (Zi i)), (0, .ref o), (1, .ref o2), (2, .ref o3)], [.int (Zi 0), .ref o])) (fun _ => rfl) ?_
                    refine Z_ieq rfl rfl (by first | exact hs.zF _ _ | exact Zor_r _ _ | exact hs.zA _ _ | assumption | exact zA _ _ | exact zS _ | exact Zr_not (hs.zA _ _) | exact hs.1.1 _ _ | exact ⟨by omega, by omega⟩) (fun c48 => ?_) (fun c48 => ?_)
                    · refine Z_go (f2 := (146, [(7, .int (Zi 1)), (6, .int (Zi 0)), (5, .int (Zi step)), (4, .int (Zi j)), (3, .int (Zi i)), (0, .ref o), (1, .ref o2), (2, .ref o3)], [.ref o3, .ref o])) (fun _ => rfl) ?_
                      refine Z_go (f2 := (148, [(7, .int (Zi 1)), (6, .int (Zi 0)), (5, .int (Zi step)), (4, .int (Zi j)), (3, .int (Zi i)), (0, .ref o), (1, .ref o2), (2, .ref o3)], [.int (Zi j), .ref o3, .ref o])) (fun _ => rfl) ?_
                      refine C_callVR (As := [.int (Zi j)]) (rest := [.ref o]) rfl (by decide) rfl (by decide) rfl rfl (by decide +kernel) (Nat.le_of_ble_eq_true rfl) hs pk (C_at_ _ hp0 (i := j) (by first | exact hs.zF _ _ | exact Zor_r _ _ | exact hs.zA _ _ | assumption | exact zA _ _ | exact zS _ | exact Zr_not (hs.zA _ _) | exact hs.1.1 _ _ | exact ⟨by omega, by omega⟩)) (fun x q => ?_)
                      obtain rfl := q
                      have zl33 := D_Row.zat hs hp0 j
                      show B_R _ _ (151, [(7, .int (Zi 1)), (6, .int (Zi 0)), (5, .int (Zi step)), (4, .int (Zi j)), (3, .int (Zi i)), (0, .ref o), (1, .ref o2), (2, .ref o3)], [.int (Zi (L_at ws j)), .ref o]) _ _ _
                      refine C_callV (As := [.int (Zi (L_at ws j))]) (rest := []) rfl (by decide) rfl (by decide) rfl rfl (by decide +kernel) (Nat.le_of_ble_eq_true rfl) hs rk (C_push _ hr0 (v := L_at ws j) (by first | exact hs.zF _ _ | exact Zor_r _ _ | exact hs.zA _ _ | assumption | exact zA _ _ | exact zS _ | exact Zr_not (hs.zA _ _) | exact hs.1.1 _ _ | exact ⟨by omega, by omega⟩) (by omega)) (fun x h w n hs q => ?_)
                      obtain ⟨rfl, hw⟩ := q
                      show B_R _ _ (154, [(7, .int (Zi 1)), (6, .int (Zi 0)), (5, .int (Zi step)), (4, .int (Zi j)), (3, .int (Zi i)), (0, .ref o), (1, .ref o2), (2, .ref o3)], []) _ _ _
                      refine Z_go (f2 := (155, [(7, .int (Zi 1)), (6, .int (Zi 0)), (5, .int (Zi step)), (4, .int (Zi j)), (3, .int (Zi i)), (0, .ref o), (1, .ref o2), (2, .ref o3)], [.int (Zi i)])) (fun _ => rfl) ?_
                      refine Z_go (f2 := (157, [(7, .int (Zi 1)), (6, .int (Zi 0)), (5, .int (Zi step)), (4, .int (Zi j)), (3, .int (Zi i)), (0, .ref o), (1, .ref o2), (2, .ref o3)], [.int (Zi 0), .int (Zi i)])) (fun _ => rfl) ?_
                      refine Z_ieq rfl rfl (by first | exact hs.zF _ _ | exact Zor_r _ _ | exact hs.zA _ _ | assumption | exact zA _ _ | exact zS _ | exact Zr_not (hs.zA _ _) | exact hs.1.1 _ _ | exact ⟨by omega, by omega⟩) (fun c49 => ?_) (fun c49 => ?_)
                      · refine Z_go (f2 := (165, [(7, .int (Zi 1)), (6, .int (Zi 0)), (5, .int (Zi step)), (4, .int (Zi j)), (3, .int (Zi i)), (0, .ref o), (1, .ref o2), (2, .ref o3)], [.int (Zi 0), .int (Zi i)])) (fun _ => rfl) ?_
                        refine Z_iadd rfl ?_
                        refine Z_go (f2 := (167, [(3, .int (Zi (i + 0))), (7, .int (Zi 1)), (6, .int (Zi 0)), (5, .int (Zi step)), (4, .int (Zi j)), (0, .ref o), (1, .ref o2), (2, .ref o3)], [])) (fun _ => rfl) ?_
                        refine Z_go (f2 := (169, [(3, .int (Zi (i + 0))), (7, .int (Zi 1)), (6, .int (Zi 0)), (5, .int (Zi step)), (4, .int (Zi j)), (0, .ref o), (1, .ref o2), (2, .ref o3)], [.int (Zi j)])) (fun _ => rfl) ?_
                        refine Z_go (f2 := (171, [(3, .int (Zi (i + 0))), (7, .int (Zi 1)), (6, .int (Zi 0)), (5, .int (Zi step)), (4, .int (Zi j)), (0, .ref o), (1, .ref o2), (2, .ref o3)], [.int (Zi 1), .int (Zi j)])) (fun _ => rfl) ?_
                        refine Z_ieq rfl rfl (by first | exact hs.zF _ _ | exact Zor_r _ _ | exact hs.zA _ _ | assumption | exact zA _ _ | exact zS _ | exact Zr_not (hs.zA _ _) | exact hs.1.1 _ _ | exact ⟨by omega, by omega⟩) (fun c50 => ?_) (fun c50 => ?_)
                        · exfalso; omega
                        · refine Z_go (f2 := (175, [(3, .int (Zi (i + 0))), (7, .int (Zi 1)), (6, .int (Zi 0)), (5, .int (Zi step)), (4, .int (Zi j)), (0, .ref o), (1, .ref o2), (2, .ref o3)], [.int (Zi 1), .int (Zi j)])) (fun _ => rfl) ?_
                          refine Z_go (f2 := (179, [(3, .int (Zi (i + 0))), (7, .int (Zi 1)), (6, .int (Zi 0)), (5, .int (Zi step)), (4, .int (Zi j)), (0, .ref o), (1, .ref o2), (2, .ref o3)], [.int (Zi 1), .int (Zi j)])) (fun _ => rfl) ?_
                          refine Z_iadd rfl ?_
                          refine Z_go (f2 := (182, [(4, .int (Zi (j + 1))), (3, .int (Zi (i + 0))), (7, .int (Zi 1)), (6, .int (Zi 0)), (5, .int (Zi step)), (0, .ref o), (1, .ref o2), (2, .ref o3)], [])) (fun _ => rfl) ?_
                          refine Z_iinc (L2 := [(5, .int (Zi (step + (-1)))), (4, .int (Zi (j + 1))), (3, .int (Zi (i + 0))), (7, .int (Zi 1)), (6, .int (Zi 0)), (0, .ref o), (1, .ref o2), (2, .ref o3)]) rfl rfl (by decide) rfl ?_
                          refine C_goto (p2 := 33) rfl (by decide +kernel) (by decide +kernel) ?_
                          first
                          | (exfalso; omega)
                          | (refine B_loc (K := [(5, .int (Zi (step + (-1)))), (4, .int (Zi (j + 1))), (3, .int (Zi (i + 0))), (0, .ref o), (1, .ref o2), (2, .ref o3)]) (N_all_sub ⟨rfl, rfl, rfl, rfl, rfl, rfl, trivial⟩) (show ([5, 4, 3, 0, 1, 2] : List Nat).Nodup by decide) ?_
                             have mg2 : L_mg ys ws (zs ++ [L_at ws j]) (i + 0) (j + 1) := L_mg_st sy sw mg i0 j0 (fun z hz => (hlast z hz).2 (by omega)) (by omega) (by omega) (by omega)
                             have hw := D_rw.tr fr g1 g2 g3 hr0 hw (by omega)
                             obtain ⟨a5, cap5, e1, e2, e3, e4, e5⟩ := hw
                             exact ih _ _ _ w _ _ a5 cap5 _ (by omega) hs e1 e2 e3 e4 e5 mg2 (by omega) (by omega) (by omega) (by omega) (by omega) (by omega))
                      · exfalso; omega
                    · exfalso; omega
            · refine Z_go (f2 := (87, [(5, .int (Zi step)), (4, .int (Zi j)), (3, .int (Zi i)), (0, .ref o), (1, .ref o2), (2, .ref o3)], [.int (Zi 1)])) (fun _ => rfl) ?_
              refine Z_go (f2 := (91, [(5, .int (Zi step)), (4, .int (Zi j)), (3, .int (Zi i)), (0, .ref o), (1, .ref o2), (2, .ref o3)], [.int (Zi 1)])) (fun _ => rfl) ?_
              refine Z_go (f2 := (93, [(6, .int (Zi 1)), (5, .int (Zi step)), (4, .int (Zi j)), (3, .int (Zi i)), (0, .ref o), (1, .ref o2), (2, .ref o3)], [])) (fun _ => rfl) ?_
              refine Z_go (f2 := (94, [(6, .int (Zi 1)), (5, .int (Zi step)), (4, .int (Zi j)), (3, .int (Zi i)), (0, .ref o), (1, .ref o2), (2, .ref o3)], [.int (Zi i)])) (fun _ => rfl) ?_
              refine Z_go (f2 := (95, [(6, .int (Zi 1)), (5, .int (Zi step)), (4, .int (Zi j)), (3, .int (Zi i)), (0, .ref o), (1, .ref o2), (2, .ref o3)], [.ref o2, .int (Zi i)])) (fun _ => rfl) ?_
              refine C_gi rfl hs qk (by decide) (Nat.le_of_ble_eq_true rfl) rfl ?_
              rw [show C_F (u) o2 1 = (ys.length : Int) from (by first | exact qm | exact (if_neg (fun e => absurd e.1 (by assumption))).trans qm)]
              show B_R _ _ (98, [(6, .int (Zi 1)), (5, .int (Zi step)), (4, .int (Zi j)), (3, .int (Zi i)), (0, .ref o), (1, .ref o2), (2, .ref o3)], [.int (Zi ((ys.length : Int))), .int (Zi i)]) _ _ _
              refine Z_cge rfl rfl (by first | exact hs.zF _ _ | exact Zor_r _ _ | exact hs.zA _ _ | assumption | exact zA _ _ | exact zS _ | exact Zr_not (hs.zA _ _) | exact hs.1.1 _ _ | exact ⟨by omega, by omega⟩) (by first | exact hs.zF _ _ | exact Zor_r _ _ | exact hs.zA _ _ | assumption | exact zA _ _ | exact zS _ | exact Zr_not (hs.zA _ _) | exact hs.1.1 _ _ | exact ⟨by omega, by omega⟩) (fun c51 => ?_) (fun c51 => ?_)
              · refine Z_go (f2 := (125, [(6, .int (Zi 1)), (5, .int (Zi step)), (4, .int (Zi j)), (3, .int (Zi i)), (0, .ref o), (1, .ref o2), (2, .ref o3)], [.int (Zi 1)])) (fun _ => rfl) ?_
                refine Z_go (f2 := (129, [(6, .int (Zi 1)), (5, .int (Zi step)), (4, .int (Zi j)), (3, .int (Zi i)), (0, .ref o), (1, .ref o2), (2, .ref o3)], [.int (Zi 1)])) (fun _ => rfl) ?_
                refine Z_go (f2 := (131, [(7, .int (Zi 1)), (6, .int (Zi 1)), (5, .int (Zi step)), (4, .int (Zi j)), (3, .int (Zi i)), (0, .ref o), (1, .ref o2), (2, .ref o3)], [])) (fun _ => rfl) ?_
                refine Z_go (f2 := (132, [(7, .int (Zi 1)), (6, .int (Zi 1)), (5, .int (Zi step)), (4, .int (Zi j)), (3, .int (Zi i)), (0, .ref o), (1, .ref o2), (2, .ref o3)], [.ref o])) (fun _ => rfl) ?_
                refine Z_go (f2 := (134, [(7, .int (Zi 1)), (6, .int (Zi 1)), (5, .int (Zi step)), (4, .int (Zi j)), (3, .int (Zi i)), (0, .ref o), (1, .ref o2), (2, .ref o3)], [.int (Zi 1), .ref o])) (fun _ => rfl) ?_
                refine Z_ieq rfl rfl (by first | exact hs.zF _ _ | exact Zor_r _ _ | exact hs.zA _ _ | assumption | exact zA _ _ | exact zS _ | exact Zr_not (hs.zA _ _) | exact hs.1.1 _ _ | exact ⟨by omega, by omega⟩) (fun c52 => ?_) (fun c52 => ?_)
                · exfalso; omega
                · refine Z_go (f2 := (138, [(7, .int (Zi 1)), (6, .int (Zi 1)), (5, .int (Zi step)), (4, .int (Zi j)), (3, .int (Zi i)), (0, .ref o), (1, .ref o2), (2, .ref o3)], [.ref o2, .ref o])) (fun _ => rfl) ?_
                  refine Z_go (f2 := (139, [(7, .int (Zi 1)), (6, .int (Zi 1)), (5, .int (Zi step)), (4, .int (Zi j)), (3, .int (Zi i)), (0, .ref o), (1, .ref o2), (2, .ref o3)], [.int (Zi i), .ref o2, .ref o])) (fun _ => rfl) ?_
                  refine C_callVR (As := [.int (Zi i)]) (rest := [.ref o]) rfl (by decide) rfl (by decide) rfl rfl (by decide +kernel) (Nat.le_of_ble_eq_true rfl) hs qk (C_at_ _ hq0 (i := i) (by first | exact hs.zF _ _ | exact Zor_r _ _ | exact hs.zA _ _ | assumption | exact zA _ _ | exact zS _ | exact Zr_not (hs.zA _ _) | exact hs.1.1 _ _ | exact ⟨by omega, by omega⟩)) (fun x q => ?_)
                  obtain rfl := q
                  have zl34 := D_Row.zat hs hq0 i
                  show B_R _ _ (142, [(7, .int (Zi 1)), (6, .int (Zi 1)), (5, .int (Zi step)), (4, .int (Zi j)), (3, .int (Zi i)), (0, .ref o), (1, .ref o2), (2, .ref o3)], [.int (Zi (L_at ys i)), .ref o]) _ _ _
                  refine Z_go (f2 := (151, [(7, .int (Zi 1)), (6, .int (Zi 1)), (5, .int (Zi step)), (4, .int (Zi j)), (3, .int (Zi i)), (0, .ref o), (1, .ref o2), (2, .ref o3)], [.int (Zi (L_at ys i)), .ref o])) (fun _ => rfl) ?_
                  refine C_callV (As := [.int (Zi (L_at ys i))]) (rest := []) rfl (by decide) rfl (by decide) rfl rfl (by decide +kernel) (Nat.le_of_ble_eq_true rfl) hs rk (C_push _ hr0 (v := L_at ys i) (by first | exact hs.zF _ _ | exact Zor_r _ _ | exact hs.zA _ _ | assumption | exact zA _ _ | exact zS _ | exact Zr_not (hs.zA _ _) | exact hs.1.1 _ _ | exact ⟨by omega, by omega⟩) (by omega)) (fun x h w n hs q => ?_)
                  obtain ⟨rfl, hw⟩ := q
                  show B_R _ _ (154, [(7, .int (Zi 1)), (6, .int (Zi 1)), (5, .int (Zi step)), (4, .int (Zi j)), (3, .int (Zi i)), (0, .ref o), (1, .ref o2), (2, .ref o3)], []) _ _ _
                  refine Z_go (f2 := (155, [(7, .int (Zi 1)), (6, .int (Zi 1)), (5, .int (Zi step)), (4, .int (Zi j)), (3, .int (Zi i)), (0, .ref o), (1, .ref o2), (2, .ref o3)], [.int (Zi i)])) (fun _ => rfl) ?_
                  refine Z_go (f2 := (157, [(7, .int (Zi 1)), (6, .int (Zi 1)), (5, .int (Zi step)), (4, .int (Zi j)), (3, .int (Zi i)), (0, .ref o), (1, .ref o2), (2, .ref o3)], [.int (Zi 1), .int (Zi i)])) (fun _ => rfl) ?_
                  refine Z_ieq rfl rfl (by first | exact hs.zF _ _ | exact Zor_r _ _ | exact hs.zA _ _ | assumption | exact zA _ _ | exact zS _ | exact Zr_not (hs.zA _ _) | exact hs.1.1 _ _ | exact ⟨by omega, by omega⟩) (fun c53 => ?_) (fun c53 => ?_)
                  · exfalso; omega
                  · refine Z_go (f2 := (161, [(7, .int (Zi 1)), (6, .int (Zi 1)), (5, .int (Zi step)), (4, .int (Zi j)), (3, .int (Zi i)), (0, .ref o), (1, .ref o2), (2, .ref o3)], [.int (Zi 1), .int (Zi i)])) (fun _ => rfl) ?_
                    refine Z_go (f2 := (165, [(7, .int (Zi 1)), (6, .int (Zi 1)), (5, .int (Zi step)), (4, .int (Zi j)), (3, .int (Zi i)), (0, .ref o), (1, .ref o2), (2, .ref o3)], [.int (Zi 1), .int (Zi i)])) (fun _ => rfl) ?_
                    refine Z_iadd rfl ?_
                    refine Z_go (f2 := (167, [(3, .int (Zi (i + 1))), (7, .int (Zi 1)), (6, .int (Zi 1)), (5, .int (Zi step)), (4, .int (Zi j)), (0, .ref o), (1, .ref o2), (2, .ref o3)], [])) (fun _ => rfl) ?_
                    refine Z_go (f2 := (169, [(3, .int (Zi (i + 1))), (7, .int (Zi 1)), (6, .int (Zi 1)), (5, .int (Zi step)), (4, .int (Zi j)), (0, .ref o), (1, .ref o2), (2, .ref o3)], [.int (Zi j)])) (fun _ => rfl) ?_
                    refine Z_go (f2 := (171, [(3, .int (Zi (i + 1))), (7, .int (Zi 1)), (6, .int (Zi 1)), (5, .int (Zi step)), (4, .int (Zi j)), (0, .ref o), (1, .ref o2), (2, .ref o3)], [.int (Zi 1), .int (Zi j)])) (fun _ => rfl) ?_
                    refine Z_ieq rfl rfl (by first | exact hs.zF _ _ | exact Zor_r _ _ | exact hs.zA _ _ | assumption | exact zA _ _ | exact zS _ | exact Zr_not (hs.zA _ _) | exact hs.1.1 _ _ | exact ⟨by omega, by omega⟩) (fun c54 => ?_) (fun c54 => ?_)
                    · exfalso; omega
                    · refine Z_go (f2 := (175, [(3, .int (Zi (i + 1))), (7, .int (Zi 1)), (6, .int (Zi 1)), (5, .int (Zi step)), (4, .int (Zi j)), (0, .ref o), (1, .ref o2), (2, .ref o3)], [.int (Zi 1), .int (Zi j)])) (fun _ => rfl) ?_
                      refine Z_go (f2 := (179, [(3, .int (Zi (i + 1))), (7, .int (Zi 1)), (6, .int (Zi 1)), (5, .int (Zi step)), (4, .int (Zi j)), (0, .ref o), (1, .ref o2), (2, .ref o3)], [.int (Zi 1), .int (Zi j)])) (fun _ => rfl) ?_
                      refine Z_iadd rfl ?_
                      refine Z_go (f2 := (182, [(4, .int (Zi (j + 1))), (3, .int (Zi (i + 1))), (7, .int (Zi 1)), (6, .int (Zi 1)), (5, .int (Zi step)), (0, .ref o), (1, .ref o2), (2, .ref o3)], [])) (fun _ => rfl) ?_
                      refine Z_iinc (L2 := [(5, .int (Zi (step + (-1)))), (4, .int (Zi (j + 1))), (3, .int (Zi (i + 1))), (7, .int (Zi 1)), (6, .int (Zi 1)), (0, .ref o), (1, .ref o2), (2, .ref o3)]) rfl rfl (by decide) rfl ?_
                      refine C_goto (p2 := 33) rfl (by decide +kernel) (by decide +kernel) ?_
                      first
                      | (exfalso; omega)
                      | (refine B_loc (K := [(5, .int (Zi (step + (-1)))), (4, .int (Zi (j + 1))), (3, .int (Zi (i + 1))), (0, .ref o), (1, .ref o2), (2, .ref o3)]) (N_all_sub ⟨rfl, rfl, rfl, rfl, rfl, rfl, trivial⟩) (show ([5, 4, 3, 0, 1, 2] : List Nat).Nodup by decide) ?_
                         have mg2 : L_mg ys ws (zs ++ [L_at ys i]) (i + 1) (j + 1) := L_mg_st sy sw mg i0 j0 (fun z hz => (hlast z hz).1 (by omega)) (by omega) (by omega) (by omega)
                         have hw := D_rw.tr fr g1 g2 g3 hr0 hw (by omega)
                         obtain ⟨a5, cap5, e1, e2, e3, e4, e5⟩ := hw
                         exact ih _ _ _ w _ _ a5 cap5 _ (by omega) hs e1 e2 e3 e4 e5 mg2 (by omega) (by omega) (by omega) (by omega) (by omega) (by omega))
              · refine Z_go (f2 := (103, [(6, .int (Zi 1)), (5, .int (Zi step)), (4, .int (Zi j)), (3, .int (Zi i)), (0, .ref o), (1, .ref o2), (2, .ref o3)], [.int (Zi j)])) (fun _ => rfl) ?_
                refine Z_go (f2 := (104, [(6, .int (Zi 1)), (5, .int (Zi step)), (4, .int (Zi j)), (3, .int (Zi i)), (0, .ref o), (1, .ref o2), (2, .ref o3)], [.ref o3, .int (Zi j)])) (fun _ => rfl) ?_
                refine C_gi rfl hs pk (by decide) (Nat.le_of_ble_eq_true rfl) rfl ?_
                rw [show C_F (u) o3 1 = (ws.length : Int) from (by first | exact pm | exact (if_neg (fun e => absurd e.1 (by assumption))).trans pm)]
                show B_R _ _ (107, [(6, .int (Zi 1)), (5, .int (Zi step)), (4, .int (Zi j)), (3, .int (Zi i)), (0, .ref o), (1, .ref o2), (2, .ref o3)], [.int (Zi ((ws.length : Int))), .int (Zi j)]) _ _ _
                refine Z_cge rfl rfl (by first | exact hs.zF _ _ | exact Zor_r _ _ | exact hs.zA _ _ | assumption | exact zA _ _ | exact zS _ | exact Zr_not (hs.zA _ _) | exact hs.1.1 _ _ | exact ⟨by omega, by omega⟩) (by first | exact hs.zF _ _ | exact Zor_r _ _ | exact hs.zA _ _ | assumption | exact zA _ _ | exact zS _ | exact Zr_not (hs.zA _ _) | exact hs.1.1 _ _ | exact ⟨by omega, by omega⟩) (fun c55 => ?_) (fun c55 => ?_)
                · refine Z_go (f2 := (129, [(6, .int (Zi 1)), (5, .int (Zi step)), (4, .int (Zi j)), (3, .int (Zi i)), (0, .ref o), (1, .ref o2), (2, .ref o3)], [.int (Zi 0)])) (fun _ => rfl) ?_
                  refine Z_go (f2 := (131, [(7, .int (Zi 0)), (6, .int (Zi 1)), (5, .int (Zi step)), (4, .int (Zi j)), (3, .int (Zi i)), (0, .ref o), (1, .ref o2), (2, .ref o3)], [])) (fun _ => rfl) ?_
                  refine Z_go (f2 := (132, [(7, .int (Zi 0)), (6, .int (Zi 1)), (5, .int (Zi step)), (4, .int (Zi j)), (3, .int (Zi i)), (0, .ref o), (1, .ref o2), (2, .ref o3)], [.ref o])) (fun _ => rfl) ?_
                  refine Z_go (f2 := (134, [(7, .int (Zi 0)), (6, .int (Zi 1)), (5, .int (Zi step)), (4, .int (Zi j)), (3, .int (Zi i)), (0, .ref o), (1, .ref o2), (2, .ref o3)], [.int (Zi 1), .ref o])) (fun _ => rfl) ?_
                  refine Z_ieq rfl rfl (by first | exact hs.zF _ _ | exact Zor_r _ _ | exact hs.zA _ _ | assumption | exact zA _ _ | exact zS _ | exact Zr_not (hs.zA _ _) | exact hs.1.1 _ _ | exact ⟨by omega, by omega⟩) (fun c56 => ?_) (fun c56 => ?_)
                  · exfalso; omega
                  · refine Z_go (f2 := (138, [(7, .int (Zi 0)), (6, .int (Zi 1)), (5, .int (Zi step)), (4, .int (Zi j)), (3, .int (Zi i)), (0, .ref o), (1, .ref o2), (2, .ref o3)], [.ref o2, .ref o])) (fun _ => rfl) ?_
                    refine Z_go (f2 := (139, [(7, .int (Zi 0)), (6, .int (Zi 1)), (5, .int (Zi step)), (4, .int (Zi j)), (3, .int (Zi i)), (0, .ref o), (1, .ref o2), (2, .ref o3)], [.int (Zi i), .ref o2, .ref o])) (fun _ => rfl) ?_
                    refine C_callVR (As := [.int (Zi i)]) (rest := [.ref o]) rfl (by decide) rfl (by decide) rfl rfl (by decide +kernel) (Nat.le_of_ble_eq_true rfl) hs qk (C_at_ _ hq0 (i := i) (by first | exact hs.zF _ _ | exact Zor_r _ _ | exact hs.zA _ _ | assumption | exact zA _ _ | exact zS _ | exact Zr_not (hs.zA _ _) | exact hs.1.1 _ _ | exact ⟨by omega, by omega⟩)) (fun x q => ?_)
                    obtain rfl := q
                    have zl35 := D_Row.zat hs hq0 i
                    show B_R _ _ (142, [(7, .int (Zi 0)), (6, .int (Zi 1)), (5, .int (Zi step)), (4, .int (Zi j)), (3, .int (Zi i)), (0, .ref o), (1, .ref o2), (2, .ref o3)], [.int (Zi (L_at ys i)), .ref o]) _ _ _
                    refine Z_go (f2 := (151, [(7, .int (Zi 0)), (6, .int (Zi 1)), (5, .int (Zi step)), (4, .int (Zi j)), (3, .int (Zi i)), (0, .ref o), (1, .ref o2), (2, .ref o3)], [.int (Zi (L_at ys i)), .ref o])) (fun _ => rfl) ?_
                    refine C_callV (As := [.int (Zi (L_at ys i))]) (rest := []) rfl (by decide) rfl (by decide) rfl rfl (by decide +kernel) (Nat.le_of_ble_eq_true rfl) hs rk (C_push _ hr0 (v := L_at ys i) (by first | exact hs.zF _ _ | exact Zor_r _ _ | exact hs.zA _ _ | assumption | exact zA _ _ | exact zS _ | exact Zr_not (hs.zA _ _) | exact hs.1.1 _ _ | exact ⟨by omega, by omega⟩) (by omega)) (fun x h w n hs q => ?_)
                    obtain ⟨rfl, hw⟩ := q
                    show B_R _ _ (154, [(7, .int (Zi 0)), (6, .int (Zi 1)), (5, .int (Zi step)), (4, .int (Zi j)), (3, .int (Zi i)), (0, .ref o), (1, .ref o2), (2, .ref o3)], []) _ _ _
                    refine Z_go (f2 := (155, [(7, .int (Zi 0)), (6, .int (Zi 1)), (5, .int (Zi step)), (4, .int (Zi j)), (3, .int (Zi i)), (0, .ref o), (1, .ref o2), (2, .ref o3)], [.int (Zi i)])) (fun _ => rfl) ?_
                    refine Z_go (f2 := (157, [(7, .int (Zi 0)), (6, .int (Zi 1)), (5, .int (Zi step)), (4, .int (Zi j)), (3, .int (Zi i)), (0, .ref o), (1, .ref o2), (2, .ref o3)], [.int (Zi 1), .int (Zi i)])) (fun _ => rfl) ?_
                    refine Z_ieq rfl rfl (by first | exact hs.zF _ _ | exact Zor_r _ _ | exact hs.zA _ _ | assumption | exact zA _ _ | exact zS _ | exact Zr_not (hs.zA _ _) | exact hs.1.1 _ _ | exact ⟨by omega, by omega⟩) (fun c57 => ?_) (fun c57 => ?_)
                    · exfalso; omega
                    · refine Z_go (f2 := (161, [(7, .int (Zi 0)), (6, .int (Zi 1)), (5, .int (Zi step)), (4, .int (Zi j)), (3, .int (Zi i)), (0, .ref o), (1, .ref o2), (2, .ref o3)], [.int (Zi 1), .int (Zi i)])) (fun _ => rfl) ?_
                      refine Z_go (f2 := (165, [(7, .int (Zi 0)), (6, .int (Zi 1)), (5, .int (Zi step)), (4, .int (Zi j)), (3, .int (Zi i)), (0, .ref o), (1, .ref o2), (2, .ref o3)], [.int (Zi 1), .int (Zi i)])) (fun _ => rfl) ?_
                      refine Z_iadd rfl ?_
                      refine Z_go (f2 := (167, [(3, .int (Zi (i + 1))), (7, .int (Zi 0)), (6, .int (Zi 1)), (5, .int (Zi step)), (4, .int (Zi j)), (0, .ref o), (1, .ref o2), (2, .ref o3)], [])) (fun _ => rfl) ?_
                      refine Z_go (f2 := (169, [(3, .int (Zi (i + 1))), (7, .int (Zi 0)), (6, .int (Zi 1)), (5, .int (Zi step)), (4, .int (Zi j)), (0, .ref o), (1, .ref o2), (2, .ref o3)], [.int (Zi j)])) (fun _ => rfl) ?_
                      refine Z_go (f2 := (171, [(3, .int (Zi (i + 1))), (7, .int (Zi 0)), (6, .int (Zi 1)), (5, .int (Zi step)), (4, .int (Zi j)), (0, .ref o), (1, .ref o2), (2, .ref o3)], [.int (Zi 0), .int (Zi j)])) (fun _ => rfl) ?_
                      refine Z_ieq rfl rfl (by first | exact hs.zF _ _ | exact Zor_r _ _ | exact hs.zA _ _ | assumption | exact zA _ _ | exact zS _ | exact Zr_not (hs.zA _ _) | exact hs.1.1 _ _ | exact ⟨by omega, by omega⟩) (fun c58 => ?_) (fun c58 => ?_)
                      · refine Z_go (f2 := (179, [(3, .int (Zi (i + 1))), (7, .int (Zi 0)), (6, .int (Zi 1)), (5, .int (Zi step)), (4, .int (Zi j)), (0, .ref o), (1, .ref o2), (2, .ref o3)], [.int (Zi 0), .int (Zi j)])) (fun _ => rfl) ?_
                        refine Z_iadd rfl ?_
                        refine Z_go (f2 := (182, [(4, .int (Zi (j + 0))), (3, .int (Zi (i + 1))), (7, .int (Zi 0)), (6, .int (Zi 1)), (5, .int (Zi step)), (0, .ref o), (1, .ref o2), (2, .ref o3)], [])) (fun _ => rfl) ?_
                        refine Z_iinc (L2 := [(5, .int (Zi (step + (-1)))), (4, .int (Zi (j + 0))), (3, .int (Zi (i + 1))), (7, .int (Zi 0)), (6, .int (Zi 1)), (0, .ref o), (1, .ref o2), (2, .ref o3)]) rfl rfl (by decide) rfl ?_
                        refine C_goto (p2 := 33) rfl (by decide +kernel) (by decide +kernel) ?_
                        first
                        | (exfalso; omega)
                        | (refine B_loc (K := [(5, .int (Zi (step + (-1)))), (4, .int (Zi (j + 0))), (3, .int (Zi (i + 1))), (0, .ref o), (1, .ref o2), (2, .ref o3)]) (N_all_sub ⟨rfl, rfl, rfl, rfl, rfl, rfl, trivial⟩) (show ([5, 4, 3, 0, 1, 2] : List Nat).Nodup by decide) ?_
                           have mg2 : L_mg ys ws (zs ++ [L_at ys i]) (i + 1) (j + 0) := L_mg_st sy sw mg i0 j0 (fun z hz => (hlast z hz).1 (by omega)) (by omega) (by omega) (by omega)
                           have hw := D_rw.tr fr g1 g2 g3 hr0 hw (by omega)
                           obtain ⟨a5, cap5, e1, e2, e3, e4, e5⟩ := hw
                           exact ih _ _ _ w _ _ a5 cap5 _ (by omega) hs e1 e2 e3 e4 e5 mg2 (by omega) (by omega) (by omega) (by omega) (by omega) (by omega))
                      · exfalso; omega
                · refine Z_go (f2 := (111, [(6, .int (Zi 1)), (5, .int (Zi step)), (4, .int (Zi j)), (3, .int (Zi i)), (0, .ref o), (1, .ref o2), (2, .ref o3)], [.ref o3])) (fun _ => rfl) ?_
                  refine Z_go (f2 := (113, [(6, .int (Zi 1)), (5, .int (Zi step)), (4, .int (Zi j)), (3, .int (Zi i)), (0, .ref o), (1, .ref o2), (2, .ref o3)], [.int (Zi j), .ref o3])) (fun _ => rfl) ?_
                  refine C_callVR (As := [.int (Zi j)]) (rest := []) rfl (by decide) rfl (by decide) rfl rfl (by decide +kernel) (Nat.le_of_ble_eq_true rfl) hs pk (C_at_ _ hp0 (i := j) (by first | exact hs.zF _ _ | exact Zor_r _ _ | exact hs.zA _ _ | assumption | exact zA _ _ | exact zS _ | exact Zr_not (hs.zA _ _) | exact hs.1.1 _ _ | exact ⟨by omega, by omega⟩)) (fun x q => ?_)
                  obtain rfl := q
                  have zl36 := D_Row.zat hs hp0 j
                  show B_R _ _ (116, [(6, .int (Zi 1)), (5, .int (Zi step)), (4, .int (Zi j)), (3, .int (Zi i)), (0, .ref o), (1, .ref o2), (2, .ref o3)], [.int (Zi (L_at ws j))]) _ _ _
                  refine Z_go (f2 := (117, [(6, .int (Zi 1)), (5, .int (Zi step)), (4, .int (Zi j)), (3, .int (Zi i)), (0, .ref o), (1, .ref o2), (2, .ref o3)], [.ref o2, .int (Zi (L_at ws j))])) (fun _ => rfl) ?_
                  refine Z_go (f2 := (118, [(6, .int (Zi 1)), (5, .int (Zi step)), (4, .int (Zi j)), (3, .int (Zi i)), (0, .ref o), (1, .ref o2), (2, .ref o3)], [.int (Zi i), .ref o2, .int (Zi (L_at ws j))])) (fun _ => rfl) ?_
                  refine C_callVR (As := [.int (Zi i)]) (rest := [.int (Zi (L_at ws j))]) rfl (by decide) rfl (by decide) rfl rfl (by decide +kernel) (Nat.le_of_ble_eq_true rfl) hs qk (C_at_ _ hq0 (i := i) (by first | exact hs.zF _ _ | exact Zor_r _ _ | exact hs.zA _ _ | assumption | exact zA _ _ | exact zS _ | exact Zr_not (hs.zA _ _) | exact hs.1.1 _ _ | exact ⟨by omega, by omega⟩)) (fun x q => ?_)
                  obtain rfl := q
                  have zl37 := D_Row.zat hs hq0 i
                  show B_R _ _ (121, [(6, .int (Zi 1)), (5, .int (Zi step)), (4, .int (Zi j)), (3, .int (Zi i)), (0, .ref o), (1, .ref o2), (2, .ref o3)], [.int (Zi (L_at ys i)), .int (Zi (L_at ws j))]) _ _ _
                  refine Z_cgt rfl rfl (by first | exact hs.zF _ _ | exact Zor_r _ _ | exact hs.zA _ _ | assumption | exact zA _ _ | exact zS _ | exact Zr_not (hs.zA _ _) | exact hs.1.1 _ _ | exact ⟨by omega, by omega⟩) (by first | exact hs.zF _ _ | exact Zor_r _ _ | exact hs.zA _ _ | assumption | exact zA _ _ | exact zS _ | exact Zr_not (hs.zA _ _) | exact hs.1.1 _ _ | exact ⟨by omega, by omega⟩) (fun c59 => ?_) (fun c59 => ?_)
                  · refine Z_go (f2 := (129, [(6, .int (Zi 1)), (5, .int (Zi step)), (4, .int (Zi j)), (3, .int (Zi i)), (0, .ref o), (1, .ref o2), (2, .ref o3)], [.int (Zi 0)])) (fun _ => rfl) ?_
                    refine Z_go (f2 := (131, [(7, .int (Zi 0)), (6, .int (Zi 1)), (5, .int (Zi step)), (4, .int (Zi j)), (3, .int (Zi i)), (0, .ref o), (1, .ref o2), (2, .ref o3)], [])) (fun _ => rfl) ?_
                    refine Z_go (f2 := (132, [(7, .int (Zi 0)), (6, .int (Zi 1)), (5, .int (Zi step)), (4, .int (Zi j)), (3, .int (Zi i)), (0, .ref o), (1, .ref o2), (2, .ref o3)], [.ref o])) (fun _ => rfl) ?_
                    refine Z_go (f2 := (134, [(7, .int (Zi 0)), (6, .int (Zi 1)), (5, .int (Zi step)), (4, .int (Zi j)), (3, .int (Zi i)), (0, .ref o), (1, .ref o2), (2, .ref o3)], [.int (Zi 1), .ref o])) (fun _ => rfl) ?_
                    refine Z_ieq rfl rfl (by first | exact hs.zF _ _ | exact Zor_r _ _ | exact hs.zA _ _ | assumption | exact zA _ _ | exact zS _ | exact Zr_not (hs.zA _ _) | exact hs.1.1 _ _ | exact ⟨by omega, by omega⟩) (fun c60 => ?_) (fun c60 => ?_)
                    · exfalso; omega
                    · refine Z_go (f2 := (138, [(7, .int (Zi 0)), (6, .int (Zi 1)), (5, .int (Zi step)), (4, .int (Zi j)), (3, .int (Zi i)), (0, .ref o), (1, .ref o2), (2, .ref o3)], [.ref o2, .ref o])) (fun _ => rfl) ?_
                      refine Z_go (f2 := (139, [(7, .int (Zi 0)), (6, .int (Zi 1)), (5, .int (Zi step)), (4, .int (Zi j)), (3, .int (Zi i)), (0, .ref o), (1, .ref o2), (2, .ref o3)], [.int (Zi i), .ref o2, .ref o])) (fun _ => rfl) ?_
                      refine C_callVR (As := [.int (Zi i)]) (rest := [.ref o]) rfl (by decide) rfl (by decide) rfl rfl (by decide +kernel) (Nat.le_of_ble_eq_true rfl) hs qk (C_at_ _ hq0 (i := i) (by first | exact hs.zF _ _ | exact Zor_r _ _ | exact hs.zA _ _ | assumption | exact zA _ _ | exact zS _ | exact Zr_not (hs.zA _ _) | exact hs.1.1 _ _ | exact ⟨by omega, by omega⟩)) (fun x q => ?_)
                      obtain rfl := q
                      have zl38 := D_Row.zat hs hq0 i
                      show B_R _ _ (142, [(7, .int (Zi 0)), (6, .int (Zi 1)), (5, .int (Zi step)), (4, .int (Zi j)), (3, .int (Zi i)), (0, .ref o), (1, .ref o2), (2, .ref o3)], [.int (Zi (L_at ys i)), .ref o]) _ _ _
                      refine Z_go (f2 := (151, [(7, .int (Zi 0)), (6, .int (Zi 1)), (5, .int (Zi step)), (4, .int (Zi j)), (3, .int (Zi i)), (0, .ref o), (1, .ref o2), (2, .ref o3)], [.int (Zi (L_at ys i)), .ref o])) (fun _ => rfl) ?_
                      refine C_callV (As := [.int (Zi (L_at ys i))]) (rest := []) rfl (by decide) rfl (by decide) rfl rfl (by decide +kernel) (Nat.le_of_ble_eq_true rfl) hs rk (C_push _ hr0 (v := L_at ys i) (by first | exact hs.zF _ _ | exact Zor_r _ _ | exact hs.zA _ _ | assumption | exact zA _ _ | exact zS _ | exact Zr_not (hs.zA _ _) | exact hs.1.1 _ _ | exact ⟨by omega, by omega⟩) (by omega)) (fun x h w n hs q => ?_)
                      obtain ⟨rfl, hw⟩ := q
                      show B_R _ _ (154, [(7, .int (Zi 0)), (6, .int (Zi 1)), (5, .int (Zi step)), (4, .int (Zi j)), (3, .int (Zi i)), (0, .ref o), (1, .ref o2), (2, .ref o3)], []) _ _ _
                      refine Z_go (f2 := (155, [(7, .int (Zi 0)), (6, .int (Zi 1)), (5, .int (Zi step)), (4, .int (Zi j)), (3, .int (Zi i)), (0, .ref o), (1, .ref o2), (2, .ref o3)], [.int (Zi i)])) (fun _ => rfl) ?_
                      refine Z_go (f2 := (157, [(7, .int (Zi 0)), (6, .int (Zi 1)), (5, .int (Zi step)), (4, .int (Zi j)), (3, .int (Zi i)), (0, .ref o), (1, .ref o2), (2, .ref o3)], [.int (Zi 1), .int (Zi i)])) (fun _ => rfl) ?_
                      refine Z_ieq rfl rfl (by first | exact hs.zF _ _ | exact Zor_r _ _ | exact hs.zA _ _ | assumption | exact zA _ _ | exact zS _ | exact Zr_not (hs.zA _ _) | exact hs.1.1 _ _ | exact ⟨by omega, by omega⟩) (fun c61 => ?_) (fun c61 => ?_)
                      · exfalso; omega
                      · refine Z_go (f2 := (161, [(7, .int (Zi 0)), (6, .int (Zi 1)), (5, .int (Zi step)), (4, .int (Zi j)), (3, .int (Zi i)), (0, .ref o), (1, .ref o2), (2, .ref o3)], [.int (Zi 1), .int (Zi i)])) (fun _ => rfl) ?_
                        refine Z_go (f2 := (165, [(7, .int (Zi 0)), (6, .int (Zi 1)), (5, .int (Zi step)), (4, .int (Zi j)), (3, .int (Zi i)), (0, .ref o), (1, .ref o2), (2, .ref o3)], [.int (Zi 1), .int (Zi i)])) (fun _ => rfl) ?_
                        refine Z_iadd rfl ?_
                        refine Z_go (f2 := (167, [(3, .int (Zi (i + 1))), (7, .int (Zi 0)), (6, .int (Zi 1)), (5, .int (Zi step)), (4, .int (Zi j)), (0, .ref o), (1, .ref o2), (2, .ref o3)], [])) (fun _ => rfl) ?_
                        refine Z_go (f2 := (169, [(3, .int (Zi (i + 1))), (7, .int (Zi 0)), (6, .int (Zi 1)), (5, .int (Zi step)), (4, .int (Zi j)), (0, .ref o), (1, .ref o2), (2, .ref o3)], [.int (Zi j)])) (fun _ => rfl) ?_
                        refine Z_go (f2 := (171, [(3, .int (Zi (i + 1))), (7, .int (Zi 0)), (6, .int (Zi 1)), (5, .int (Zi step)), (4, .int (Zi j)), (0, .ref o), (1, .ref o2), (2, .ref o3)], [.int (Zi 0), .int (Zi j)])) (fun _ => rfl) ?_
                        refine Z_ieq rfl rfl (by first | exact hs.zF _ _ | exact Zor_r _ _ | exact hs.zA _ _ | assumption | exact zA _ _ | exact zS _ | exact Zr_not (hs.zA _ _) | exact hs.1.1 _ _ | exact ⟨by omega, by omega⟩) (fun c62 => ?_) (fun c62 => ?_)
                        · refine Z_go (f2 := (179, [(3, .int (Zi (i + 1))), (7, .int (Zi 0)), (6, .int (Zi 1)), (5, .int (Zi step)), (4, .int (Zi j)), (0, .ref o), (1, .ref o2), (2, .ref o3)], [.int (Zi 0), .int (Zi j)])) (fun _ => rfl) ?_
                          refine Z_iadd rfl ?_
                          refine Z_go (f2 := (182, [(4, .int (Zi (j + 0))), (3, .int (Zi (i + 1))), (7, .int (Zi 0)), (6, .int (Zi 1)), (5, .int (Zi step)), (0, .ref o), (1, .ref o2), (2, .ref o3)], [])) (fun _ => rfl) ?_
                          refine Z_iinc (L2 := [(5, .int (Zi (step + (-1)))), (4, .int (Zi (j + 0))), (3, .int (Zi (i + 1))), (7, .int (Zi 0)), (6, .int (Zi 1)), (0, .ref o), (1, .ref o2), (2, .ref o3)]) rfl rfl (by decide) rfl ?_
                          refine C_goto (p2 := 33) rfl (by decide +kernel) (by decide +kernel) ?_
                          first
                          | (exfalso; omega)
                          | (refine B_loc (K := [(5, .int (Zi (step + (-1)))), (4, .int (Zi (j + 0))), (3, .int (Zi (i + 1))), (0, .ref o), (1, .ref o2), (2, .ref o3)]) (N_all_sub ⟨rfl, rfl, rfl, rfl, rfl, rfl, trivial⟩) (show ([5, 4, 3, 0, 1, 2] : List Nat).Nodup by decide) ?_
                             have mg2 : L_mg ys ws (zs ++ [L_at ys i]) (i + 1) (j + 0) := L_mg_st sy sw mg i0 j0 (fun z hz => (hlast z hz).1 (by omega)) (by omega) (by omega) (by omega)
                             have hw := D_rw.tr fr g1 g2 g3 hr0 hw (by omega)
                             obtain ⟨a5, cap5, e1, e2, e3, e4, e5⟩ := hw
                             exact ih _ _ _ w _ _ a5 cap5 _ (by omega) hs e1 e2 e3 e4 e5 mg2 (by omega) (by omega) (by omega) (by omega) (by omega) (by omega))
                        · exfalso; omega
                  · refine Z_go (f2 := (125, [(6, .int (Zi 1)), (5, .int (Zi step)), (4, .int (Zi j)), (3, .int (Zi i)), (0, .ref o), (1, .ref o2), (2, .ref o3)], [.int (Zi 1)])) (fun _ => rfl) ?_
                    refine Z_go (f2 := (129, [(6, .int (Zi 1)), (5, .int (Zi step)), (4, .int (Zi j)), (3, .int (Zi i)), (0, .ref o), (1, .ref o2), (2, .ref o3)], [.int (Zi 1)])) (fun _ => rfl) ?_
                    refine Z_go (f2 := (131, [(7, .int (Zi 1)), (6, .int (Zi 1)), (5, .int (Zi step)), (4, .int (Zi j)), (3, .int (Zi i)), (0, .ref o), (1, .ref o2), (2, .ref o3)], [])) (fun _ => rfl) ?_
                    refine Z_go (f2 := (132, [(7, .int (Zi 1)), (6, .int (Zi 1)), (5, .int (Zi step)), (4, .int (Zi j)), (3, .int (Zi i)), (0, .ref o), (1, .ref o2), (2, .ref o3)], [.ref o])) (fun _ => rfl) ?_
                    refine Z_go (f2 := (134, [(7, .int (Zi 1)), (6, .int (Zi 1)), (5, .int (Zi step)), (4, .int (Zi j)), (3, .int (Zi i)), (0, .ref o), (1, .ref o2), (2, .ref o3)], [.int (Zi 1), .ref o])) (fun _ => rfl) ?_
                    refine Z_ieq rfl rfl (by first | exact hs.zF _ _ | exact Zor_r _ _ | exact hs.zA _ _ | assumption | exact zA _ _ | exact zS _ | exact Zr_not (hs.zA _ _) | exact hs.1.1 _ _ | exact ⟨by omega, by omega⟩) (fun c63 => ?_) (fun c63 => ?_)
                    · exfalso; omega
                    · refine Z_go (f2 := (138, [(7, .int (Zi 1)), (6, .int (Zi 1)), (5, .int (Zi step)), (4, .int (Zi j)), (3, .int (Zi i)), (0, .ref o), (1, .ref o2), (2, .ref o3)], [.ref o2, .ref o])) (fun _ => rfl) ?_
                      refine Z_go (f2 := (139, [(7, .int (Zi 1)), (6, .int (Zi 1)), (5, .int (Zi step)), (4, .int (Zi j)), (3, .int (Zi i)), (0, .ref o), (1, .ref o2), (2, .ref o3)], [.int (Zi i), .ref o2, .ref o])) (fun _ => rfl) ?_
                      refine C_callVR (As := [.int (Zi i)]) (rest := [.ref o]) rfl (by decide) rfl (by decide) rfl rfl (by decide +kernel) (Nat.le_of_ble_eq_true rfl) hs qk (C_at_ _ hq0 (i := i) (by first | exact hs.zF _ _ | exact Zor_r _ _ | exact hs.zA _ _ | assumption | exact zA _ _ | exact zS _ | exact Zr_not (hs.zA _ _) | exact hs.1.1 _ _ | exact ⟨by omega, by omega⟩)) (fun x q => ?_)
                      obtain rfl := q
                      have zl39 := D_Row.zat hs hq0 i
                      show B_R _ _ (142, [(7, .int (Zi 1)), (6, .int (Zi 1)), (5, .int (Zi step)), (4, .int (Zi j)), (3, .int (Zi i)), (0, .ref o), (1, .ref o2), (2, .ref o3)], [.int (Zi (L_at ys i)), .ref o]) _ _ _
                      refine Z_go (f2 := (151, [(7, .int (Zi 1)), (6, .int (Zi 1)), (5, .int (Zi step)), (4, .int (Zi j)), (3, .int (Zi i)), (0, .ref o), (1, .ref o2), (2, .ref o3)], [.int (Zi (L_at ys i)), .ref o])) (fun _ => rfl) ?_
                      refine C_callV (As := [.int (Zi (L_at ys i))]) (rest := []) rfl (by decide) rfl (by decide) rfl rfl (by decide +kernel) (Nat.le_of_ble_eq_true rfl) hs rk (C_push _ hr0 (v := L_at ys i) (by first | exact hs.zF _ _ | exact Zor_r _ _ | exact hs.zA _ _ | assumption | exact zA _ _ | exact zS _ | exact Zr_not (hs.zA _ _) | exact hs.1.1 _ _ | exact ⟨by omega, by omega⟩) (by omega)) (fun x h w n hs q => ?_)
                      obtain ⟨rfl, hw⟩ := q
                      show B_R _ _ (154, [(7, .int (Zi 1)), (6, .int (Zi 1)), (5, .int (Zi step)), (4, .int (Zi j)), (3, .int (Zi i)), (0, .ref o), (1, .ref o2), (2, .ref o3)], []) _ _ _
                      refine Z_go (f2 := (155, [(7, .int (Zi 1)), (6, .int (Zi 1)), (5, .int (Zi step)), (4, .int (Zi j)), (3, .int (Zi i)), (0, .ref o), (1, .ref o2), (2, .ref o3)], [.int (Zi i)])) (fun _ => rfl) ?_
                      refine Z_go (f2 := (157, [(7, .int (Zi 1)), (6, .int (Zi 1)), (5, .int (Zi step)), (4, .int (Zi j)), (3, .int (Zi i)), (0, .ref o), (1, .ref o2), (2, .ref o3)], [.int (Zi 1), .int (Zi i)])) (fun _ => rfl) ?_
                      refine Z_ieq rfl rfl (by first | exact hs.zF _ _ | exact Zor_r _ _ | exact hs.zA _ _ | assumption | exact zA _ _ | exact zS _ | exact Zr_not (hs.zA _ _) | exact hs.1.1 _ _ | exact ⟨by omega, by omega⟩) (fun c64 => ?_) (fun c64 => ?_)
                      · exfalso; omega
                      · refine Z_go (f2 := (161, [(7, .int (Zi 1)), (6, .int (Zi 1)), (5, .int (Zi step)), (4, .int (Zi j)), (3, .int (Zi i)), (0, .ref o), (1, .ref o2), (2, .ref o3)], [.int (Zi 1), .int (Zi i)])) (fun _ => rfl) ?_
                        refine Z_go (f2 := (165, [(7, .int (Zi 1)), (6, .int (Zi 1)), (5, .int (Zi step)), (4, .int (Zi j)), (3, .int (Zi i)), (0, .ref o), (1, .ref o2), (2, .ref o3)], [.int (Zi 1), .int (Zi i)])) (fun _ => rfl) ?_
                        refine Z_iadd rfl ?_
                        refine Z_go (f2 := (167, [(3, .int (Zi (i + 1))), (7, .int (Zi 1)), (6, .int (Zi 1)), (5, .int (Zi step)), (4, .int (Zi j)), (0, .ref o), (1, .ref o2), (2, .ref o3)], [])) (fun _ => rfl) ?_
                        refine Z_go (f2 := (169, [(3, .int (Zi (i + 1))), (7, .int (Zi 1)), (6, .int (Zi 1)), (5, .int (Zi step)), (4, .int (Zi j)), (0, .ref o), (1, .ref o2), (2, .ref o3)], [.int (Zi j)])) (fun _ => rfl) ?_
                        refine Z_go (f2 := (171, [(3, .int (Zi (i + 1))), (7, .int (Zi 1)), (6, .int (Zi 1)), (5, .int (Zi step)), (4, .int (Zi j)), (0, .ref o), (1, .ref o2), (2, .ref o3)], [.int (Zi 1), .int (Zi j)])) (fun _ => rfl) ?_
                        refine Z_ieq rfl rfl (by first | exact hs.zF _ _ | exact Zor_r _ _ | exact hs.zA _ _ | assumption | exact zA _ _ | exact zS _ | exact Zr_not (hs.zA _ _) | exact hs.1.1 _ _ | exact ⟨by omega, by omega⟩) (fun c65 => ?_) (fun c65 => ?_)
                        · exfalso; omega
                        · refine Z_go (f2 := (175, [(3, .int (Zi (i + 1))), (7, .int (Zi 1)), (6, .int (Zi 1)), (5, .int (Zi step)), (4, .int (Zi j)), (0, .ref o), (1, .ref o2), (2, .ref o3)], [.int (Zi 1), .int (Zi j)])) (fun _ => rfl) ?_
                          refine Z_go (f2 := (179, [(3, .int (Zi (i + 1))), (7, .int (Zi 1)), (6, .int (Zi 1)), (5, .int (Zi step)), (4, .int (Zi j)), (0, .ref o), (1, .ref o2), (2, .ref o3)], [.int (Zi 1), .int (Zi j)])) (fun _ => rfl) ?_
                          refine Z_iadd rfl ?_
                          refine Z_go (f2 := (182, [(4, .int (Zi (j + 1))), (3, .int (Zi (i + 1))), (7, .int (Zi 1)), (6, .int (Zi 1)), (5, .int (Zi step)), (0, .ref o), (1, .ref o2), (2, .ref o3)], [])) (fun _ => rfl) ?_
                          refine Z_iinc (L2 := [(5, .int (Zi (step + (-1)))), (4, .int (Zi (j + 1))), (3, .int (Zi (i + 1))), (7, .int (Zi 1)), (6, .int (Zi 1)), (0, .ref o), (1, .ref o2), (2, .ref o3)]) rfl rfl (by decide) rfl ?_
                          refine C_goto (p2 := 33) rfl (by decide +kernel) (by decide +kernel) ?_
                          first
                          | (exfalso; omega)
                          | (refine B_loc (K := [(5, .int (Zi (step + (-1)))), (4, .int (Zi (j + 1))), (3, .int (Zi (i + 1))), (0, .ref o), (1, .ref o2), (2, .ref o3)]) (N_all_sub ⟨rfl, rfl, rfl, rfl, rfl, rfl, trivial⟩) (show ([5, 4, 3, 0, 1, 2] : List Nat).Nodup by decide) ?_
                             have mg2 : L_mg ys ws (zs ++ [L_at ys i]) (i + 1) (j + 1) := L_mg_st sy sw mg i0 j0 (fun z hz => (hlast z hz).1 (by omega)) (by omega) (by omega) (by omega)
                             have hw := D_rw.tr fr g1 g2 g3 hr0 hw (by omega)
                             obtain ⟨a5, cap5, e1, e2, e3, e4, e5⟩ := hw
                             exact ih _ _ _ w _ _ a5 cap5 _ (by omega) hs e1 e2 e3 e4 e5 mg2 (by omega) (by omega) (by omega) (by omega) (by omega) (by omega))
      · refine Z_go (f2 := (48, [(5, .int (Zi step)), (4, .int (Zi j)), (3, .int (Zi i)), (0, .ref o), (1, .ref o2), (2, .ref o3)], [.int (Zi j)])) (fun _ => rfl) ?_
        refine Z_go (f2 := (49, [(5, .int (Zi step)), (4, .int (Zi j)), (3, .int (Zi i)), (0, .ref o), (1, .ref o2), (2, .ref o3)], [.ref o3, .int (Zi j)])) (fun _ => rfl) ?_
        refine C_gi rfl hs pk (by decide) (Nat.le_of_ble_eq_true rfl) rfl ?_
        rw [show C_F (u) o3 1 = (ws.length : Int) from (by first | exact pm | exact (if_neg (fun e => absurd e.1 (by assumption))).trans pm)]
        show B_R _ _ (52, [(5, .int (Zi step)), (4, .int (Zi j)), (3, .int (Zi i)), (0, .ref o), (1, .ref o2), (2, .ref o3)], [.int (Zi ((ws.length : Int))), .int (Zi j)]) _ _ _
        refine Z_cge rfl rfl (by first | exact hs.zF _ _ | exact Zor_r _ _ | exact hs.zA _ _ | assumption | exact zA _ _ | exact zS _ | exact Zr_not (hs.zA _ _) | exact hs.1.1 _ _ | exact ⟨by omega, by omega⟩) (by first | exact hs.zF _ _ | exact Zor_r _ _ | exact hs.zA _ _ | assumption | exact zA _ _ | exact zS _ | exact Zr_not (hs.zA _ _) | exact hs.1.1 _ _ | exact ⟨by omega, by omega⟩) (fun c66 => ?_) (fun c66 => ?_)
        · refine Z_ret rfl rfl ⟨_, hs, ?_⟩
          try dsimp only
          have ei : i = ys.length := by omega
          have ej : j = ws.length := by omega
          have e := L_mg_end sw mg ei ej
          subst e
          exact ⟨rfl, a2, cap2, hr0, fr, g1, g2, g3⟩
        · refine Z_go (f2 := (57, [(5, .int (Zi step)), (4, .int (Zi j)), (3, .int (Zi i)), (0, .ref o), (1, .ref o2), (2, .ref o3)], [.int (Zi j)])) (fun _ => rfl) ?_
          refine Z_go (f2 := (58, [(5, .int (Zi step)), (4, .int (Zi j)), (3, .int (Zi i)), (0, .ref o), (1, .ref o2), (2, .ref o3)], [.ref o3, .int (Zi j)])) (fun _ => rfl) ?_
          refine C_gi rfl hs pk (by decide) (Nat.le_of_ble_eq_true rfl) rfl ?_
          rw [show C_F (u) o3 1 = (ws.length : Int) from (by first | exact pm | exact (if_neg (fun e => absurd e.1 (by assumption))).trans pm)]
          show B_R _ _ (61, [(5, .int (Zi step)), (4, .int (Zi j)), (3, .int (Zi i)), (0, .ref o), (1, .ref o2), (2, .ref o3)], [.int (Zi ((ws.length : Int))), .int (Zi j)]) _ _ _
          refine Z_cge rfl rfl (by first | exact hs.zF _ _ | exact Zor_r _ _ | exact hs.zA _ _ | assumption | exact zA _ _ | exact zS _ | exact Zr_not (hs.zA _ _) | exact hs.1.1 _ _ | exact ⟨by omega, by omega⟩) (by first | exact hs.zF _ _ | exact Zor_r _ _ | exact hs.zA _ _ | assumption | exact zA _ _ | exact zS _ | exact Zr_not (hs.zA _ _) | exact hs.1.1 _ _ | exact ⟨by omega, by omega⟩) (fun c67 => ?_) (fun c67 => ?_)
          · refine Z_go (f2 := (87, [(5, .int (Zi step)), (4, .int (Zi j)), (3, .int (Zi i)), (0, .ref o), (1, .ref o2), (2, .ref o3)], [.int (Zi 1)])) (fun _ => rfl) ?_
            refine Z_go (f2 := (91, [(5, .int (Zi step)), (4, .int (Zi j)), (3, .int (Zi i)), (0, .ref o), (1, .ref o2), (2, .ref o3)], [.int (Zi 1)])) (fun _ => rfl) ?_
            refine Z_go (f2 := (93, [(6, .int (Zi 1)), (5, .int (Zi step)), (4, .int (Zi j)), (3, .int (Zi i)), (0, .ref o), (1, .ref o2), (2, .ref o3)], [])) (fun _ => rfl) ?_
            refine Z_go (f2 := (94, [(6, .int (Zi 1)), (5, .int (Zi step)), (4, .int (Zi j)), (3, .int (Zi i)), (0, .ref o), (1, .ref o2), (2, .ref o3)], [.int (Zi i)])) (fun _ => rfl) ?_
            refine Z_go (f2 := (95, [(6, .int (Zi 1)), (5, .int (Zi step)), (4, .int (Zi j)), (3, .int (Zi i)), (0, .ref o), (1, .ref o2), (2, .ref o3)], [.ref o2, .int (Zi i)])) (fun _ => rfl) ?_
            refine C_gi rfl hs qk (by decide) (Nat.le_of_ble_eq_true rfl) rfl ?_
            rw [show C_F (u) o2 1 = (ys.length : Int) from (by first | exact qm | exact (if_neg (fun e => absurd e.1 (by assumption))).trans qm)]
            show B_R _ _ (98, [(6, .int (Zi 1)), (5, .int (Zi step)), (4, .int (Zi j)), (3, .int (Zi i)), (0, .ref o), (1, .ref o2), (2, .ref o3)], [.int (Zi ((ys.length : Int))), .int (Zi i)]) _ _ _
            refine Z_cge rfl rfl (by first | exact hs.zF _ _ | exact Zor_r _ _ | exact hs.zA _ _ | assumption | exact zA _ _ | exact zS _ | exact Zr_not (hs.zA _ _) | exact hs.1.1 _ _ | exact ⟨by omega, by omega⟩) (by first | exact hs.zF _ _ | exact Zor_r _ _ | exact hs.zA _ _ | assumption | exact zA _ _ | exact zS _ | exact Zr_not (hs.zA _ _) | exact hs.1.1 _ _ | exact ⟨by omega, by omega⟩) (fun c68 => ?_) (fun c68 => ?_)
            · refine Z_go (f2 := (125, [(6, .int (Zi 1)), (5, .int (Zi step)), (4, .int (Zi j)), (3, .int (Zi i)), (0, .ref o), (1, .ref o2), (2, .ref o3)], [.int (Zi 1)])) (fun _ => rfl) ?_
              refine Z_go (f2 := (129, [(6, .int (Zi 1)), (5, .int (Zi step)), (4, .int (Zi j)), (3, .int (Zi i)), (0, .ref o), (1, .ref o2), (2, .ref o3)], [.int (Zi 1)])) (fun _ => rfl) ?_
              refine Z_go (f2 := (131, [(7, .int (Zi 1)), (6, .int (Zi 1)), (5, .int (Zi step)), (4, .int (Zi j)), (3, .int (Zi i)), (0, .ref o), (1, .ref o2), (2, .ref o3)], [])) (fun _ => rfl) ?_
              refine Z_go (f2 := (132, [(7, .int (Zi 1)), (6, .int (Zi 1)), (5, .int (Zi step)), (4, .int (Zi j)), (3, .int (Zi i)), (0, .ref o), (1, .ref o2), (2, .ref o3)], [.ref o])) (fun _ => rfl) ?_
              refine Z_go (f2 := (134, [(7, .int (Zi 1)), (6, .int (Zi 1)), (5, .int (Zi step)), (4, .int (Zi j)), (3, .int (Zi i)), (0, .ref o), (1, .ref o2), (2, .ref o3)], [.int (Zi 1), .ref o])) (fun _ => rfl) ?_
              refine Z_ieq rfl rfl (by first | exact hs.zF _ _ | exact Zor_r _ _ | exact hs.zA _ _ | assumption | exact zA _ _ | exact zS _ | exact Zr_not (hs.zA _ _) | exact hs.1.1 _ _ | exact ⟨by omega, by omega⟩) (fun c69 => ?_) (fun c69 => ?_)
              · exfalso; omega
              · refine Z_go (f2 := (138, [(7, .int (Zi 1)), (6, .int (Zi 1)), (5, .int (Zi step)), (4, .int (Zi j)), (3, .int (Zi i)), (0, .ref o), (1, .ref o2), (2, .ref o3)], [.ref o2, .ref o])) (fun _ => rfl) ?_
                refine Z_go (f2 := (139, [(7, .int (Zi 1)), (6, .int (Zi 1)), (5, .int (Zi step)), (4, .int (Zi j)), (3, .int (Zi i)), (0, .ref o), (1, .ref o2), (2, .ref o3)], [.int (Zi i), .ref o2, .ref o])) (fun _ => rfl) ?_
                refine C_callVR (As := [.int (Zi i)]) (rest := [.ref o]) rfl (by decide) rfl (by decide) rfl rfl (by decide +kernel) (Nat.le_of_ble_eq_true rfl) hs qk (C_at_ _ hq0 (i := i) (by first | exact hs.zF _ _ | exact Zor_r _ _ | exact hs.zA _ _ | assumption | exact zA _ _ | exact zS _ | exact Zr_not (hs.zA _ _) | exact hs.1.1 _ _ | exact ⟨by omega, by omega⟩)) (fun x q => ?_)
                obtain rfl := q
                have zl40 := D_Row.zat hs hq0 i
                show B_R _ _ (142, [(7, .int (Zi 1)), (6, .int (Zi 1)), (5, .int (Zi step)), (4, .int (Zi j)), (3, .int (Zi i)), (0, .ref o), (1, .ref o2), (2, .ref o3)], [.int (Zi (L_at ys i)), .ref o]) _ _ _
                refine Z_go (f2 := (151, [(7, .int (Zi 1)), (6, .int (Zi 1)), (5, .int (Zi step)), (4, .int (Zi j)), (3, .int (Zi i)), (0, .ref o), (1, .ref o2), (2, .ref o3)], [.int (Zi (L_at ys i)), .ref o])) (fun _ => rfl) ?_
                refine C_callV (As := [.int (Zi (L_at ys i))]) (rest := []) rfl (by decide) rfl (by decide) rfl rfl (by decide +kernel) (Nat.le_of_ble_eq_true rfl) hs rk (C_push _ hr0 (v := L_at ys i) (by first | exact hs.zF _ _ | exact Zor_r _ _ | exact hs.zA _ _ | assumption | exact zA _ _ | exact zS _ | exact Zr_not (hs.zA _ _) | exact hs.1.1 _ _ | exact ⟨by omega, by omega⟩) (by omega)) (fun x h w n hs q => ?_)
                obtain ⟨rfl, hw⟩ := q
                show B_R _ _ (154, [(7, .int (Zi 1)), (6, .int (Zi 1)), (5, .int (Zi step)), (4, .int (Zi j)), (3, .int (Zi i)), (0, .ref o), (1, .ref o2), (2, .ref o3)], []) _ _ _
                refine Z_go (f2 := (155, [(7, .int (Zi 1)), (6, .int (Zi 1)), (5, .int (Zi step)), (4, .int (Zi j)), (3, .int (Zi i)), (0, .ref o), (1, .ref o2), (2, .ref o3)], [.int (Zi i)])) (fun _ => rfl) ?_
                refine Z_go (f2 := (157, [(7, .int (Zi 1)), (6, .int (Zi 1)), (5, .int (Zi step)), (4, .int (Zi j)), (3, .int (Zi i)), (0, .ref o), (1, .ref o2), (2, .ref o3)], [.int (Zi 1), .int (Zi i)])) (fun _ => rfl) ?_
                refine Z_ieq rfl rfl (by first | exact hs.zF _ _ | exact Zor_r _ _ | exact hs.zA _ _ | assumption | exact zA _ _ | exact zS _ | exact Zr_not (hs.zA _ _) | exact hs.1.1 _ _ | exact ⟨by omega, by omega⟩) (fun c70 => ?_) (fun c70 => ?_)
                · exfalso; omega
                · refine Z_go (f2 := (161, [(7, .int (Zi 1)), (6, .int (Zi 1)), (5, .int (Zi step)), (4, .int (Zi j)), (3, .int (Zi i)), (0, .ref o), (1, .ref o2), (2, .ref o3)], [.int (Zi 1), .int (Zi i)])) (fun _ => rfl) ?_
                  refine Z_go (f2 := (165, [(7, .int (Zi 1)), (6, .int (Zi 1)), (5, .int (Zi step)), (4, .int (Zi j)), (3, .int (Zi i)), (0, .ref o), (1, .ref o2), (2, .ref o3)], [.int (Zi 1), .int (Zi i)])) (fun _ => rfl) ?_
                  refine Z_iadd rfl ?_
                  refine Z_go (f2 := (167, [(3, .int (Zi (i + 1))), (7, .int (Zi 1)), (6, .int (Zi 1)), (5, .int (Zi step)), (4, .int (Zi j)), (0, .ref o), (1, .ref o2), (2, .ref o3)], [])) (fun _ => rfl) ?_
                  refine Z_go (f2 := (169, [(3, .int (Zi (i + 1))), (7, .int (Zi 1)), (6, .int (Zi 1)), (5, .int (Zi step)), (4, .int (Zi j)), (0, .ref o), (1, .ref o2), (2, .ref o3)], [.int (Zi j)])) (fun _ => rfl) ?_
                  refine Z_go (f2 := (171, [(3, .int (Zi (i + 1))), (7, .int (Zi 1)), (6, .int (Zi 1)), (5, .int (Zi step)), (4, .int (Zi j)), (0, .ref o), (1, .ref o2), (2, .ref o3)], [.int (Zi 1), .int (Zi j)])) (fun _ => rfl) ?_
                  refine Z_ieq rfl rfl (by first | exact hs.zF _ _ | exact Zor_r _ _ | exact hs.zA _ _ | assumption | exact zA _ _ | exact zS _ | exact Zr_not (hs.zA _ _) | exact hs.1.1 _ _ | exact ⟨by omega, by omega⟩) (fun c71 => ?_) (fun c71 => ?_)
                  · exfalso; omega
                  · refine Z_go (f2 := (175, [(3, .int (Zi (i + 1))), (7, .int (Zi 1)), (6, .int (Zi 1)), (5, .int (Zi step)), (4, .int (Zi j)), (0, .ref o), (1, .ref o2), (2, .ref o3)], [.int (Zi 1), .int (Zi j)])) (fun _ => rfl) ?_
                    refine Z_go (f2 := (179, [(3, .int (Zi (i + 1))), (7, .int (Zi 1)), (6, .int (Zi 1)), (5, .int (Zi step)), (4, .int (Zi j)), (0, .ref o), (1, .ref o2), (2, .ref o3)], [.int (Zi 1), .int (Zi j)])) (fun _ => rfl) ?_
                    refine Z_iadd rfl ?_
                    refine Z_go (f2 := (182, [(4, .int (Zi (j + 1))), (3, .int (Zi (i + 1))), (7, .int (Zi 1)), (6, .int (Zi 1)), (5, .int (Zi step)), (0, .ref o), (1, .ref o2), (2, .ref o3)], [])) (fun _ => rfl) ?_
                    refine Z_iinc (L2 := [(5, .int (Zi (step + (-1)))), (4, .int (Zi (j + 1))), (3, .int (Zi (i + 1))), (7, .int (Zi 1)), (6, .int (Zi 1)), (0, .ref o), (1, .ref o2), (2, .ref o3)]) rfl rfl (by decide) rfl ?_
                    refine C_goto (p2 := 33) rfl (by decide +kernel) (by decide +kernel) ?_
                    first
                    | (exfalso; omega)
                    | (refine B_loc (K := [(5, .int (Zi (step + (-1)))), (4, .int (Zi (j + 1))), (3, .int (Zi (i + 1))), (0, .ref o), (1, .ref o2), (2, .ref o3)]) (N_all_sub ⟨rfl, rfl, rfl, rfl, rfl, rfl, trivial⟩) (show ([5, 4, 3, 0, 1, 2] : List Nat).Nodup by decide) ?_
                       have mg2 : L_mg ys ws (zs ++ [L_at ys i]) (i + 1) (j + 1) := L_mg_st sy sw mg i0 j0 (fun z hz => (hlast z hz).1 (by omega)) (by omega) (by omega) (by omega)
                       have hw := D_rw.tr fr g1 g2 g3 hr0 hw (by omega)
                       obtain ⟨a5, cap5, e1, e2, e3, e4, e5⟩ := hw
                       exact ih _ _ _ w _ _ a5 cap5 _ (by omega) hs e1 e2 e3 e4 e5 mg2 (by omega) (by omega) (by omega) (by omega) (by omega) (by omega))
            · refine Z_go (f2 := (103, [(6, .int (Zi 1)), (5, .int (Zi step)), (4, .int (Zi j)), (3, .int (Zi i)), (0, .ref o), (1, .ref o2), (2, .ref o3)], [.int (Zi j)])) (fun _ => rfl) ?_
              refine Z_go (f2 := (104, [(6, .int (Zi 1)), (5, .int (Zi step)), (4, .int (Zi j)), (3, .int (Zi i)), (0, .ref o), (1, .ref o2), (2, .ref o3)], [.ref o3, .int (Zi j)])) (fun _ => rfl) ?_
              refine C_gi rfl hs pk (by decide) (Nat.le_of_ble_eq_true rfl) rfl ?_
              rw [show C_F (u) o3 1 = (ws.length : Int) from (by first | exact pm | exact (if_neg (fun e => absurd e.1 (by assumption))).trans pm)]
              show B_R _ _ (107, [(6, .int (Zi 1)), (5, .int (Zi step)), (4, .int (Zi j)), (3, .int (Zi i)), (0, .ref o), (1, .ref o2), (2, .ref o3)], [.int (Zi ((ws.length : Int))), .int (Zi j)]) _ _ _
              refine Z_cge rfl rfl (by first | exact hs.zF _ _ | exact Zor_r _ _ | exact hs.zA _ _ | assumption | exact zA _ _ | exact zS _ | exact Zr_not (hs.zA _ _) | exact hs.1.1 _ _ | exact ⟨by omega, by omega⟩) (by first | exact hs.zF _ _ | exact Zor_r _ _ | exact hs.zA _ _ | assumption | exact zA _ _ | exact zS _ | exact Zr_not (hs.zA _ _) | exact hs.1.1 _ _ | exact ⟨by omega, by omega⟩) (fun c72 => ?_) (fun c72 => ?_)
              · refine Z_go (f2 := (129, [(6, .int (Zi 1)), (5, .int (Zi step)), (4, .int (Zi j)), (3, .int (Zi i)), (0, .ref o), (1, .ref o2), (2, .ref o3)], [.int (Zi 0)])) (fun _ => rfl) ?_
                refine Z_go (f2 := (131, [(7, .int (Zi 0)), (6, .int (Zi 1)), (5, .int (Zi step)), (4, .int (Zi j)), (3, .int (Zi i)), (0, .ref o), (1, .ref o2), (2, .ref o3)], [])) (fun _ => rfl) ?_
                refine Z_go (f2 := (132, [(7, .int (Zi 0)), (6, .int (Zi 1)), (5, .int (Zi step)), (4, .int (Zi j)), (3, .int (Zi i)), (0, .ref o), (1, .ref o2), (2, .ref o3)], [.ref o])) (fun _ => rfl) ?_
                refine Z_go (f2 := (134, [(7, .int (Zi 0)), (6, .int (Zi 1)), (5, .int (Zi step)), (4, .int (Zi j)), (3, .int (Zi i)), (0, .ref o), (1, .ref o2), (2, .ref o3)], [.int (Zi 1), .ref o])) (fun _ => rfl) ?_
                refine Z_ieq rfl rfl (by first | exact hs.zF _ _ | exact Zor_r _ _ | exact hs.zA _ _ | assumption | exact zA _ _ | exact zS _ | exact Zr_not (hs.zA _ _) | exact hs.1.1 _ _ | exact ⟨by omega, by omega⟩) (fun c73 => ?_) (fun c73 => ?_)
                · exfalso; omega
                · refine Z_go (f2 := (138, [(7, .int (Zi 0)), (6, .int (Zi 1)), (5, .int (Zi step)), (4, .int (Zi j)), (3, .int (Zi i)), (0, .ref o), (1, .ref o2), (2, .ref o3)], [.ref o2, .ref o])) (fun _ => rfl) ?_
                  refine Z_go (f2 := (139, [(7, .int (Zi 0)), (6, .int (Zi 1)), (5, .int (Zi step)), (4, .int (Zi j)), (3, .int (Zi i)), (0, .ref o), (1, .ref o2), (2, .ref o3)], [.int (Zi i), .ref o2, .ref o])) (fun _ => rfl) ?_
                  refine C_callVR (As := [.int (Zi i)]) (rest := [.ref o]) rfl (by decide) rfl (by decide) rfl rfl (by decide +kernel) (Nat.le_of_ble_eq_true rfl) hs qk (C_at_ _ hq0 (i := i) (by first | exact hs.zF _ _ | exact Zor_r _ _ | exact hs.zA _ _ | assumption | exact zA _ _ | exact zS _ | exact Zr_not (hs.zA _ _) | exact hs.1.1 _ _ | exact ⟨by omega, by omega⟩)) (fun x q => ?_)
                  obtain rfl := q
                  have zl41 := D_Row.zat hs hq0 i
                  show B_R _ _ (142, [(7, .int (Zi 0)), (6, .int (Zi 1)), (5, .int (Zi step)), (4, .int (Zi j)), (3, .int (Zi i)), (0, .ref o), (1, .ref o2), (2, .ref o3)], [.int (Zi (L_at ys i)), .ref o]) _ _ _
                  refine Z_go (f2 := (151, [(7, .int (Zi 0)), (6, .int (Zi 1)), (5, .int (Zi step)), (4, .int (Zi j)), (3, .int (Zi i)), (0, .ref o), (1, .ref o2), (2, .ref o3)], [.int (Zi (L_at ys i)), .ref o])) (fun _ => rfl) ?_
                  refine C_callV (As := [.int (Zi (L_at ys i))]) (rest := []) rfl (by decide) rfl (by decide) rfl rfl (by decide +kernel) (Nat.le_of_ble_eq_true rfl) hs rk (C_push _ hr0 (v := L_at ys i) (by first | exact hs.zF _ _ | exact Zor_r _ _ | exact hs.zA _ _ | assumption | exact zA _ _ | exact zS _ | exact Zr_not (hs.zA _ _) | exact hs.1.1 _ _ | exact ⟨by omega, by omega⟩) (by omega)) (fun x h w n hs q => ?_)
                  obtain ⟨rfl, hw⟩ := q
                  show B_R _ _ (154, [(7, .int (Zi 0)), (6, .int (Zi 1)), (5, .int (Zi step)), (4, .int (Zi j)), (3, .int (Zi i)), (0, .ref o), (1, .ref o2), (2, .ref o3)], []) _ _ _
                  refine Z_go (f2 := (155, [(7, .int (Zi 0)), (6, .int (Zi 1)), (5, .int (Zi step)), (4, .int (Zi j)), (3, .int (Zi i)), (0, .ref o), (1, .ref o2), (2, .ref o3)], [.int (Zi i)])) (fun _ => rfl) ?_
                  refine Z_go (f2 := (157, [(7, .int (Zi 0)), (6, .int (Zi 1)), (5, .int (Zi step)), (4, .int (Zi j)), (3, .int (Zi i)), (0, .ref o), (1, .ref o2), (2, .ref o3)], [.int (Zi 1), .int (Zi i)])) (fun _ => rfl) ?_
                  refine Z_ieq rfl rfl (by first | exact hs.zF _ _ | exact Zor_r _ _ | exact hs.zA _ _ | assumption | exact zA _ _ | exact zS _ | exact Zr_not (hs.zA _ _) | exact hs.1.1 _ _ | exact ⟨by omega, by omega⟩) (fun c74 => ?_) (fun c74 => ?_)
                  · exfalso; omega
                  · refine Z_go (f2 := (161, [(7, .int (Zi 0)), (6, .int (Zi 1)), (5, .int (Zi step)), (4, .int (Zi j)), (3, .int (Zi i)), (0, .ref o), (1, .ref o2), (2, .ref o3)], [.int (Zi 1), .int (Zi i)])) (fun _ => rfl) ?_
                    refine Z_go (f2 := (165, [(7, .int (Zi 0)), (6, .int (Zi 1)), (5, .int (Zi step)), (4, .int (Zi j)), (3, .int (Zi i)), (0, .ref o), (1, .ref o2), (2, .ref o3)], [.int (Zi 1), .int (Zi i)])) (fun _ => rfl) ?_
                    refine Z_iadd rfl ?_
                    refine Z_go (f2 := (167, [(3, .int (Zi (i + 1))), (7, .int (Zi 0)), (6, .int (Zi 1)), (5, .int (Zi step)), (4, .int (Zi j)), (0, .ref o), (1, .ref o2), (2, .ref o3)], [])) (fun _ => rfl) ?_
                    refine Z_go (f2 := (169, [(3, .int (Zi (i + 1))), (7, .int (Zi 0)), (6, .int (Zi 1)), (5, .int (Zi step)), (4, .int (Zi j)), (0, .ref o), (1, .ref o2), (2, .ref o3)], [.int (Zi j)])) (fun _ => rfl) ?_
                    refine Z_go (f2 := (171, [(3, .int (Zi (i + 1))), (7, .int (Zi 0)), (6, .int (Zi 1)), (5, .int (Zi step)), (4, .int (Zi j)), (0, .ref o), (1, .ref o2), (2, .ref o3)], [.int (Zi 0), .int (Zi j)])) (fun _ => rfl) ?_
                    refine Z_ieq rfl rfl (by first | exact hs.zF _ _ | exact Zor_r _ _ | exact hs.zA _ _ | assumption | exact zA _ _ | exact zS _ | exact Zr_not (hs.zA _ _) | exact hs.1.1 _ _ | exact ⟨by omega, by omega⟩) (fun c75 => ?_) (fun c75 => ?_)
                    · refine Z_go (f2 := (179, [(3, .int (Zi (i + 1))), (7, .int (Zi 0)), (6, .int (Zi 1)), (5, .int (Zi step)), (4, .int (Zi j)), (0, .ref o), (1, .ref o2), (2, .ref o3)], [.int (Zi 0), .int (Zi j)])) (fun _ => rfl) ?_
                      refine Z_iadd rfl ?_
                      refine Z_go (f2 := (182, [(4, .int (Zi (j + 0))), (3, .int (Zi (i + 1))), (7, .int (Zi 0)), (6, .int (Zi 1)), (5, .int (Zi step)), (0, .ref o), (1, .ref o2), (2, .ref o3)], [])) (fun _ => rfl) ?_
                      refine Z_iinc (L2 := [(5, .int (Zi (step + (-1)))), (4, .int (Zi (j + 0))), (3, .int (Zi (i + 1))), (7, .int (Zi 0)), (6, .int (Zi 1)), (0, .ref o), (1, .ref o2), (2, .ref o3)]) rfl rfl (by decide) rfl ?_
                      refine C_goto (p2 := 33) rfl (by decide +kernel) (by decide +kernel) ?_
                      first
                      | (exfalso; omega)
                      | (refine B_loc (K := [(5, .int (Zi (step + (-1)))), (4, .int (Zi (j + 0))), (3, .int (Zi (i + 1))), (0, .ref o), (1, .ref o2), (2, .ref o3)]) (N_all_sub ⟨rfl, rfl, rfl, rfl, rfl, rfl, trivial⟩) (show ([5, 4, 3, 0, 1, 2] : List Nat).Nodup by decide) ?_
                         have mg2 : L_mg ys ws (zs ++ [L_at ys i]) (i + 1) (j + 0) := L_mg_st sy sw mg i0 j0 (fun z hz => (hlast z hz).1 (by omega)) (by omega) (by omega) (by omega)
                         have hw := D_rw.tr fr g1 g2 g3 hr0 hw (by omega)
                         obtain ⟨a5, cap5, e1, e2, e3, e4, e5⟩ := hw
                         exact ih _ _ _ w _ _ a5 cap5 _ (by omega) hs e1 e2 e3 e4 e5 mg2 (by omega) (by omega) (by omega) (by omega) (by omega) (by omega))
                    · exfalso; omega
              · refine Z_go (f2 := (111, [(6, .int (Zi 1)), (5, .int (Zi step)), (4, .int (Zi j)), (3, .int (Zi i)), (0, .ref o), (1, .ref o2), (2, .ref o3)], [.ref o3])) (fun _ => rfl) ?_
                refine Z_go (f2 := (113, [(6, .int (Zi 1)), (5, .int (Zi step)), (4, .int (Zi j)), (3, .int (Zi i)), (0, .ref o), (1, .ref o2), (2, .ref o3)], [.int (Zi j), .ref o3])) (fun _ => rfl) ?_
                refine C_callVR (As := [.int (Zi j)]) (rest := []) rfl (by decide) rfl (by decide) rfl rfl (by decide +kernel) (Nat.le_of_ble_eq_true rfl) hs pk (C_at_ _ hp0 (i := j) (by first | exact hs.zF _ _ | exact Zor_r _ _ | exact hs.zA _ _ | assumption | exact zA _ _ | exact zS _ | exact Zr_not (hs.zA _ _) | exact hs.1.1 _ _ | exact ⟨by omega, by omega⟩)) (fun x q => ?_)
                obtain rfl := q
                have zl42 := D_Row.zat hs hp0 j
                show B_R _ _ (116, [(6, .int (Zi 1)), (5, .int (Zi step)), (4, .int (Zi j)), (3, .int (Zi i)), (0, .ref o), (1, .ref o2), (2, .ref o3)], [.int (Zi (L_at ws j))]) _ _ _
                refine Z_go (f2 := (117, [(6, .int (Zi 1)), (5, .int (Zi step)), (4, .int (Zi j)), (3, .int (Zi i)), (0, .ref o), (1, .ref o2), (2, .ref o3)], [.ref o2, .int (Zi (L_at ws j))])) (fun _ => rfl) ?_
                refine Z_go (f2 := (118, [(6, .int (Zi 1)), (5, .int (Zi step)), (4, .int (Zi j)), (3, .int (Zi i)), (0, .ref o), (1, .ref o2), (2, .ref o3)], [.int (Zi i), .ref o2, .int (Zi (L_at ws j))])) (fun _ => rfl) ?_
                refine C_callVR (As := [.int (Zi i)]) (rest := [.int (Zi (L_at ws j))]) rfl (by decide) rfl (by decide) rfl rfl (by decide +kernel) (Nat.le_of_ble_eq_true rfl) hs qk (C_at_ _ hq0 (i := i) (by first | exact hs.zF _ _ | exact Zor_r _ _ | exact hs.zA _ _ | assumption | exact zA _ _ | exact zS _ | exact Zr_not (hs.zA _ _) | exact hs.1.1 _ _ | exact ⟨by omega, by omega⟩)) (fun x q => ?_)
                obtain rfl := q
                have zl43 := D_Row.zat hs hq0 i
                show B_R _ _ (121, [(6, .int (Zi 1)), (5, .int (Zi step)), (4, .int (Zi j)), (3, .int (Zi i)), (0, .ref o), (1, .ref o2), (2, .ref o3)], [.int (Zi (L_at ys i)), .int (Zi (L_at ws j))]) _ _ _
                refine Z_cgt rfl rfl (by first | exact hs.zF _ _ | exact Zor_r _ _ | exact hs.zA _ _ | assumption | exact zA _ _ | exact zS _ | exact Zr_not (hs.zA _ _) | exact hs.1.1 _ _ | exact ⟨by omega, by omega⟩) (by first | exact hs.zF _ _ | exact Zor_r _ _ | exact hs.zA _ _ | assumption | exact zA _ _ | exact zS _ | exact Zr_not (hs.zA _ _) | exact hs.1.1 _ _ | exact ⟨by omega, by omega⟩) (fun c76 => ?_) (fun c76 => ?_)
                · refine Z_go (f2 := (129, [(6, .int (Zi 1)), (5, .int (Zi step)), (4, .int (Zi j)), (3, .int (Zi i)), (0, .ref o), (1, .ref o2), (2, .ref o3)], [.int (Zi 0)])) (fun _ => rfl) ?_
                  refine Z_go (f2 := (131, [(7, .int (Zi 0)), (6, .int (Zi 1)), (5, .int (Zi step)), (4, .int (Zi j)), (3, .int (Zi i)), (0, .ref o), (1, .ref o2), (2, .ref o3)], [])) (fun _ => rfl) ?_
                  refine Z_go (f2 := (132, [(7, .int (Zi 0)), (6, .int (Zi 1)), (5, .int (Zi step)), (4, .int (Zi j)), (3, .int (Zi i)), (0, .ref o), (1, .ref o2), (2, .ref o3)], [.ref o])) (fun _ => rfl) ?_
                  refine Z_go (f2 := (134, [(7, .int (Zi 0)), (6, .int (Zi 1)), (5, .int (Zi step)), (4, .int (Zi j)), (3, .int (Zi i)), (0, .ref o), (1, .ref o2), (2, .ref o3)], [.int (Zi 1), .ref o])) (fun _ => rfl) ?_
                  refine Z_ieq rfl rfl (by first | exact hs.zF _ _ | exact Zor_r _ _ | exact hs.zA _ _ | assumption | exact zA _ _ | exact zS _ | exact Zr_not (hs.zA _ _) | exact hs.1.1 _ _ | exact ⟨by omega, by omega⟩) (fun c77 => ?_) (fun c77 => ?_)
                  · exfalso; omega
                  · refine Z_go (f2 := (138, [(7, .int (Zi 0)), (6, .int (Zi 1)), (5, .int (Zi step)), (4, .int (Zi j)), (3, .int (Zi i)), (0, .ref o), (1, .ref o2), (2, .ref o3)], [.ref o2, .ref o])) (fun _ => rfl) ?_
                    refine Z_go (f2 := (139, [(7, .int (Zi 0)), (6, .int (Zi 1)), (5, .int (Zi step)), (4, .int (Zi j)), (3, .int (Zi i)), (0, .ref o), (1, .ref o2), (2, .ref o3)], [.int (Zi i), .ref o2, .ref o])) (fun _ => rfl) ?_
                    refine C_callVR (As := [.int (Zi i)]) (rest := [.ref o]) rfl (by decide) rfl (by decide) rfl rfl (by decide +kernel) (Nat.le_of_ble_eq_true rfl) hs qk (C_at_ _ hq0 (i := i) (by first | exact hs.zF _ _ | exact Zor_r _ _ | exact hs.zA _ _ | assumption | exact zA _ _ | exact zS _ | exact Zr_not (hs.zA _ _) | exact hs.1.1 _ _ | exact ⟨by omega, by omega⟩)) (fun x q => ?_)
                    obtain rfl := q
                    have zl44 := D_Row.zat hs hq0 i
                    show B_R _ _ (142, [(7, .int (Zi 0)), (6, .int (Zi 1)), (5, .int (Zi step)), (4, .int (Zi j)), (3, .int (Zi i)), (0, .ref o), (1, .ref o2), (2, .ref o3)], [.int (Zi (L_at ys i)), .ref o]) _ _ _
                    refine Z_go (f2 := (151, [(7, .int (Zi 0)), (6, .int (Zi 1)), (5, .int (Zi step)), (4, .int (Zi j)), (3, .int (Zi i)), (0, .ref o), (1, .ref o2), (2, .ref o3)], [.int (Zi (L_at ys i)), .ref o])) (fun _ => rfl) ?_
                    refine C_callV (As := [.int (Zi (L_at ys i))]) (rest := []) rfl (by decide) rfl (by decide) rfl rfl (by decide +kernel) (Nat.le_of_ble_eq_true rfl) hs rk (C_push _ hr0 (v := L_at ys i) (by first | exact hs.zF _ _ | exact Zor_r _ _ | exact hs.zA _ _ | assumption | exact zA _ _ | exact zS _ | exact Zr_not (hs.zA _ _) | exact hs.1.1 _ _ | exact ⟨by omega, by omega⟩) (by omega)) (fun x h w n hs q => ?_)
                    obtain ⟨rfl, hw⟩ := q
                    show B_R _ _ (154, [(7, .int (Zi 0)), (6, .int (Zi 1)), (5, .int (Zi step)), (4, .int (Zi j)), (3, .int (Zi i)), (0, .ref o), (1, .ref o2), (2, .ref o3)], []) _ _ _
                    refine Z_go (f2 := (155, [(7, .int (Zi 0)), (6, .int (Zi 1)), (5, .int (Zi step)), (4, .int (Zi j)), (3, .int (Zi i)), (0, .ref o), (1, .ref o2), (2, .ref o3)], [.int (Zi i)])) (fun _ => rfl) ?_
                    refine Z_go (f2 := (157, [(7, .int (Zi 0)), (6, .int (Zi 1)), (5, .int (Zi step)), (4, .int (Zi j)), (3, .int (Zi i)), (0, .ref o), (1, .ref o2), (2, .ref o3)], [.int (Zi 1), .int (Zi i)])) (fun _ => rfl) ?_
                    refine Z_ieq rfl rfl (by first | exact hs.zF _ _ | exact Zor_r _ _ | exact hs.zA _ _ | assumption | exact zA _ _ | exact zS _ | exact Zr_not (hs.zA _ _) | exact hs.1.1 _ _ | exact ⟨by omega, by omega⟩) (fun c78 => ?_) (fun c78 => ?_)
                    · exfalso; omega
                    · refine Z_go (f2 := (161, [(7, .int (Zi 0)), (6, .int (Zi 1)), (5, .int (Zi step)), (4, .int (Zi j)), (3, .int (Zi i)), (0, .ref o), (1, .ref o2), (2, .ref o3)], [.int (Zi 1), .int (Zi i)])) (fun _ => rfl) ?_
                      refine Z_go (f2 := (165, [(7, .int (Zi 0)), (6, .int (Zi 1)), (5, .int (Zi step)), (4, .int (Zi j)), (3, .int (Zi i)), (0, .ref o), (1, .ref o2), (2, .ref o3)], [.int (Zi 1), .int (Zi i)])) (fun _ => rfl) ?_
                      refine Z_iadd rfl ?_
                      refine Z_go (f2 := (167, [(3, .int (Zi (i + 1))), (7, .int (Zi 0)), (6, .int (Zi 1)), (5, .int (Zi step)), (4, .int (Zi j)), (0, .ref o), (1, .ref o2), (2, .ref o3)], [])) (fun _ => rfl) ?_
                      refine Z_go (f2 := (169, [(3, .int (Zi (i + 1))), (7, .int (Zi 0)), (6, .int (Zi 1)), (5, .int (Zi step)), (4, .int (Zi j)), (0, .ref o), (1, .ref o2), (2, .ref o3)], [.int (Zi j)])) (fun _ => rfl) ?_
                      refine Z_go (f2 := (171, [(3, .int (Zi (i + 1))), (7, .int (Zi 0)), (6, .int (Zi 1)), (5, .int (Zi step)), (4, .int (Zi j)), (0, .ref o), (1, .ref o2), (2, .ref o3)], [.int (Zi 0), .int (Zi j)])) (fun _ => rfl) ?_
                      refine Z_ieq rfl rfl (by first | exact hs.zF _ _ | exact Zor_r _ _ | exact hs.zA _ _ | assumption | exact zA _ _ | exact zS _ | exact Zr_not (hs.zA _ _) | exact hs.1.1 _ _ | exact ⟨by omega, by omega⟩) (fun c79 => ?_) (fun c79 => ?_)
                      · refine Z_go (f2 := (179, [(3, .int (Zi (i + 1))), (7, .int (Zi 0)), (6, .int (Zi 1)), (5, .int (Zi step)), (4, .int (Zi j)), (0, .ref o), (1, .ref o2), (2, .ref o3)], [.int (Zi 0), .int (Zi j)])) (fun _ => rfl) ?_
                        refine Z_iadd rfl ?_
                        refine Z_go (f2 := (182, [(4, .int (Zi (j + 0))), (3, .int (Zi (i + 1))), (7, .int (Zi 0)), (6, .int (Zi 1)), (5, .int (Zi step)), (0, .ref o), (1, .ref o2), (2, .ref o3)], [])) (fun _ => rfl) ?_
                        refine Z_iinc (L2 := [(5, .int (Zi (step + (-1)))), (4, .int (Zi (j + 0))), (3, .int (Zi (i + 1))), (7, .int (Zi 0)), (6, .int (Zi 1)), (0, .ref o), (1, .ref o2), (2, .ref o3)]) rfl rfl (by decide) rfl ?_
                        refine C_goto (p2 := 33) rfl (by decide +kernel) (by decide +kernel) ?_
                        first
                        | (exfalso; omega)
                        | (refine B_loc (K := [(5, .int (Zi (step + (-1)))), (4, .int (Zi (j + 0))), (3, .int (Zi (i + 1))), (0, .ref o), (1, .ref o2), (2, .ref o3)]) (N_all_sub ⟨rfl, rfl, rfl, rfl, rfl, rfl, trivial⟩) (show ([5, 4, 3, 0, 1, 2] : List Nat).Nodup by decide) ?_
                           have mg2 : L_mg ys ws (zs ++ [L_at ys i]) (i + 1) (j + 0) := L_mg_st sy sw mg i0 j0 (fun z hz => (hlast z hz).1 (by omega)) (by omega) (by omega) (by omega)
                           have hw := D_rw.tr fr g1 g2 g3 hr0 hw (by omega)
                           obtain ⟨a5, cap5, e1, e2, e3, e4, e5⟩ := hw
                           exact ih _ _ _ w _ _ a5 cap5 _ (by omega) hs e1 e2 e3 e4 e5 mg2 (by omega) (by omega) (by omega) (by omega) (by omega) (by omega))
                      · exfalso; omega
                · refine Z_go (f2 := (125, [(6, .int (Zi 1)), (5, .int (Zi step)), (4, .int (Zi j)), (3, .int (Zi i)), (0, .ref o), (1, .ref o2), (2, .ref o3)], [.int (Zi 1)])) (fun _ => rfl) ?_
                  refine Z_go (f2 := (129, [(6, .int (Zi 1)), (5, .int (Zi step)), (4, .int (Zi j)), (3, .int (Zi i)), (0, .ref o), (1, .ref o2), (2, .ref o3)], [.int (Zi 1)])) (fun _ => rfl) ?_
                  refine Z_go (f2 := (131, [(7, .int (Zi 1)), (6, .int (Zi 1)), (5, .int (Zi step)), (4, .int (Zi j)), (3, .int (Zi i)), (0, .ref o), (1, .ref o2), (2, .ref o3)], [])) (fun _ => rfl) ?_
                  refine Z_go (f2 := (132, [(7, .int (Zi 1)), (6, .int (Zi 1)), (5, .int (Zi step)), (4, .int (Zi j)), (3, .int (Zi i)), (0, .ref o), (1, .ref o2), (2, .ref o3)], [.ref o])) (fun _ => rfl) ?_
                  refine Z_go (f2 := (134, [(7, .int (Zi 1)), (6, .int (Zi 1)), (5, .int (Zi step)), (4, .int (Zi j)), (3, .int (Zi i)), (0, .ref o), (1, .ref o2), (2, .ref o3)], [.int (Zi 1), .ref o])) (fun _ => rfl) ?_
                  refine Z_ieq rfl rfl (by first | exact hs.zF _ _ | exact Zor_r _ _ | exact hs.zA _ _ | assumption | exact zA _ _ | exact zS _ | exact Zr_not (hs.zA _ _) | exact hs.1.1 _ _ | exact ⟨by omega, by omega⟩) (fun c80 => ?_) (fun c80 => ?_)
                  · exfalso; omega
                  · refine Z_go (f2 := (138, [(7, .int (Zi 1)), (6, .int (Zi 1)), (5, .int (Zi step)), (4, .int (Zi j)), (3, .int (Zi i)), (0, .ref o), (1, .ref o2), (2, .ref o3)], [.ref o2, .ref o])) (fun _ => rfl) ?_
                    refine Z_go (f2 := (139, [(7, .int (Zi 1)), (6, .int (Zi 1)), (5, .int (Zi step)), (4, .int (Zi j)), (3, .int (Zi i)), (0, .ref o), (1, .ref o2), (2, .ref o3)], [.int (Zi i), .ref o2, .ref o])) (fun _ => rfl) ?_
                    refine C_callVR (As := [.int (Zi i)]) (rest := [.ref o]) rfl (by decide) rfl (by decide) rfl rfl (by decide +kernel) (Nat.le_of_ble_eq_true rfl) hs qk (C_at_ _ hq0 (i := i) (by first | exact hs.zF _ _ | exact Zor_r _ _ | exact hs.zA _ _ | assumption | exact zA _ _ | exact zS _ | exact Zr_not (hs.zA _ _) | exact hs.1.1 _ _ | exact ⟨by omega, by omega⟩)) (fun x q => ?_)
                    obtain rfl := q
                    have zl45 := D_Row.zat hs hq0 i
                    show B_R _ _ (142, [(7, .int (Zi 1)), (6, .int (Zi 1)), (5, .int (Zi step)), (4, .int (Zi j)), (3, .int (Zi i)), (0, .ref o), (1, .ref o2), (2, .ref o3)], [.int (Zi (L_at ys i)), .ref o]) _ _ _
                    refine Z_go (f2 := (151, [(7, .int (Zi 1)), (6, .int (Zi 1)), (5, .int (Zi step)), (4, .int (Zi j)), (3, .int (Zi i)), (0, .ref o), (1, .ref o2), (2, .ref o3)], [.int (Zi (L_at ys i)), .ref o])) (fun _ => rfl) ?_
                    refine C_callV (As := [.int (Zi (L_at ys i))]) (rest := []) rfl (by decide) rfl (by decide) rfl rfl (by decide +kernel) (Nat.le_of_ble_eq_true rfl) hs rk (C_push _ hr0 (v := L_at ys i) (by first | exact hs.zF _ _ | exact Zor_r _ _ | exact hs.zA _ _ | assumption | exact zA _ _ | exact zS _ | exact Zr_not (hs.zA _ _) | exact hs.1.1 _ _ | exact ⟨by omega, by omega⟩) (by omega)) (fun x h w n hs q => ?_)
                    obtain ⟨rfl, hw⟩ := q
                    show B_R _ _ (154, [(7, .int (Zi 1)), (6, .int (Zi 1)), (5, .int (Zi step)), (4, .int (Zi j)), (3, .int (Zi i)), (0, .ref o), (1, .ref o2), (2, .ref o3)], []) _ _ _
                    refine Z_go (f2 := (155, [(7, .int (Zi 1)), (6, .int (Zi 1)), (5, .int (Zi step)), (4, .int (Zi j)), (3, .int (Zi i)), (0, .ref o), (1, .ref o2), (2, .ref o3)], [.int (Zi i)])) (fun _ => rfl) ?_
                    refine Z_go (f2 := (157, [(7, .int (Zi 1)), (6, .int (Zi 1)), (5, .int (Zi step)), (4, .int (Zi j)), (3, .int (Zi i)), (0, .ref o), (1, .ref o2), (2, .ref o3)], [.int (Zi 1), .int (Zi i)])) (fun _ => rfl) ?_
                    refine Z_ieq rfl rfl (by first | exact hs.zF _ _ | exact Zor_r _ _ | exact hs.zA _ _ | assumption | exact zA _ _ | exact zS _ | exact Zr_not (hs.zA _ _) | exact hs.1.1 _ _ | exact ⟨by omega, by omega⟩) (fun c81 => ?_) (fun c81 => ?_)
                    · exfalso; omega
                    · refine Z_go (f2 := (161, [(7, .int (Zi 1)), (6, .int (Zi 1)), (5, .int (Zi step)), (4, .int (Zi j)), (3, .int (Zi i)), (0, .ref o), (1, .ref o2), (2, .ref o3)], [.int (Zi 1), .int (Zi i)])) (fun _ => rfl) ?_
                      refine Z_go (f2 := (165, [(7, .int (Zi 1)), (6, .int (Zi 1)), (5, .int (Zi step)), (4, .int (Zi j)), (3, .int (Zi i)), (0, .ref o), (1, .ref o2), (2, .ref o3)], [.int (Zi 1), .int (Zi i)])) (fun _ => rfl) ?_
                      refine Z_iadd rfl ?_
                      refine Z_go (f2 := (167, [(3, .int (Zi (i + 1))), (7, .int (Zi 1)), (6, .int (Zi 1)), (5, .int (Zi step)), (4, .int (Zi j)), (0, .ref o), (1, .ref o2), (2, .ref o3)], [])) (fun _ => rfl) ?_
                      refine Z_go (f2 := (169, [(3, .int (Zi (i + 1))), (7, .int (Zi 1)), (6, .int (Zi 1)), (5, .int (Zi step)), (4, .int (Zi j)), (0, .ref o), (1, .ref o2), (2, .ref o3)], [.int (Zi j)])) (fun _ => rfl) ?_
                      refine Z_go (f2 := (171, [(3, .int (Zi (i + 1))), (7, .int (Zi 1)), (6, .int (Zi 1)), (5, .int (Zi step)), (4, .int (Zi j)), (0, .ref o), (1, .ref o2), (2, .ref o3)], [.int (Zi 1), .int (Zi j)])) (fun _ => rfl) ?_
                      refine Z_ieq rfl rfl (by first | exact hs.zF _ _ | exact Zor_r _ _ | exact hs.zA _ _ | assumption | exact zA _ _ | exact zS _ | exact Zr_not (hs.zA _ _) | exact hs.1.1 _ _ | exact ⟨by omega, by omega⟩) (fun c82 => ?_) (fun c82 => ?_)
                      · exfalso; omega
                      · refine Z_go (f2 := (175, [(3, .int (Zi (i + 1))), (7, .int (Zi 1)), (6, .int (Zi 1)), (5, .int (Zi step)), (4, .int (Zi j)), (0, .ref o), (1, .ref o2), (2, .ref o3)], [.int (Zi 1), .int (Zi j)])) (fun _ => rfl) ?_
                        refine Z_go (f2 := (179, [(3, .int (Zi (i + 1))), (7, .int (Zi 1)), (6, .int (Zi 1)), (5, .int (Zi step)), (4, .int (Zi j)), (0, .ref o), (1, .ref o2), (2, .ref o3)], [.int (Zi 1), .int (Zi j)])) (fun _ => rfl) ?_
                        refine Z_iadd rfl ?_
                        refine Z_go (f2 := (182, [(4, .int (Zi (j + 1))), (3, .int (Zi (i + 1))), (7, .int (Zi 1)), (6, .int (Zi 1)), (5, .int (Zi step)), (0, .ref o), (1, .ref o2), (2, .ref o3)], [])) (fun _ => rfl) ?_
                        refine Z_iinc (L2 := [(5, .int (Zi (step + (-1)))), (4, .int (Zi (j + 1))), (3, .int (Zi (i + 1))), (7, .int (Zi 1)), (6, .int (Zi 1)), (0, .ref o), (1, .ref o2), (2, .ref o3)]) rfl rfl (by decide) rfl ?_
                        refine C_goto (p2 := 33) rfl (by decide +kernel) (by decide +kernel) ?_
                        first
                        | (exfalso; omega)
                        | (refine B_loc (K := [(5, .int (Zi (step + (-1)))), (4, .int (Zi (j + 1))), (3, .int (Zi (i + 1))), (0, .ref o), (1, .ref o2), (2, .ref o3)]) (N_all_sub ⟨rfl, rfl, rfl, rfl, rfl, rfl, trivial⟩) (show ([5, 4, 3, 0, 1, 2] : List Nat).Nodup by decide) ?_
                           have mg2 : L_mg ys ws (zs ++ [L_at ys i]) (i + 1) (j + 1) := L_mg_st sy sw mg i0 j0 (fun z hz => (hlast z hz).1 (by omega)) (by omega) (by omega) (by omega)
                           have hw := D_rw.tr fr g1 g2 g3 hr0 hw (by omega)
                           obtain ⟨a5, cap5, e1, e2, e3, e4, e5⟩ := hw
                           exact ih _ _ _ w _ _ a5 cap5 _ (by omega) hs e1 e2 e3 e4 e5 mg2 (by omega) (by omega) (by omega) (by omega) (by omega) (by omega))
          · refine Z_go (f2 := (65, [(5, .int (Zi step)), (4, .int (Zi j)), (3, .int (Zi i)), (0, .ref o), (1, .ref o2), (2, .ref o3)], [.int (Zi i)])) (fun _ => rfl) ?_
            refine Z_go (f2 := (66, [(5, .int (Zi step)), (4, .int (Zi j)), (3, .int (Zi i)), (0, .ref o), (1, .ref o2), (2, .ref o3)], [.ref o2, .int (Zi i)])) (fun _ => rfl) ?_
            refine C_gi rfl hs qk (by decide) (Nat.le_of_ble_eq_true rfl) rfl ?_
            rw [show C_F (u) o2 1 = (ys.length : Int) from (by first | exact qm | exact (if_neg (fun e => absurd e.1 (by assumption))).trans qm)]
            show B_R _ _ (69, [(5, .int (Zi step)), (4, .int (Zi j)), (3, .int (Zi i)), (0, .ref o), (1, .ref o2), (2, .ref o3)], [.int (Zi ((ys.length : Int))), .int (Zi i)]) _ _ _
            refine Z_cge rfl rfl (by first | exact hs.zF _ _ | exact Zor_r _ _ | exact hs.zA _ _ | assumption | exact zA _ _ | exact zS _ | exact Zr_not (hs.zA _ _) | exact hs.1.1 _ _ | exact ⟨by omega, by omega⟩) (by first | exact hs.zF _ _ | exact Zor_r _ _ | exact hs.zA _ _ | assumption | exact zA _ _ | exact zS _ | exact Zr_not (hs.zA _ _) | exact hs.1.1 _ _ | exact ⟨by omega, by omega⟩) (fun c83 => ?_) (fun c83 => ?_)
            · refine Z_go (f2 := (91, [(5, .int (Zi step)), (4, .int (Zi j)), (3, .int (Zi i)), (0, .ref o), (1, .ref o2), (2, .ref o3)], [.int (Zi 0)])) (fun _ => rfl) ?_
              refine Z_go (f2 := (93, [(6, .int (Zi 0)), (5, .int (Zi step)), (4, .int (Zi j)), (3, .int (Zi i)), (0, .ref o), (1, .ref o2), (2, .ref o3)], [])) (fun _ => rfl) ?_
              refine Z_go (f2 := (94, [(6, .int (Zi 0)), (5, .int (Zi step)), (4, .int (Zi j)), (3, .int (Zi i)), (0, .ref o), (1, .ref o2), (2, .ref o3)], [.int (Zi i)])) (fun _ => rfl) ?_
              refine Z_go (f2 := (95, [(6, .int (Zi 0)), (5, .int (Zi step)), (4, .int (Zi j)), (3, .int (Zi i)), (0, .ref o), (1, .ref o2), (2, .ref o3)], [.ref o2, .int (Zi i)])) (fun _ => rfl) ?_
              refine C_gi rfl hs qk (by decide) (Nat.le_of_ble_eq_true rfl) rfl ?_
              rw [show C_F (u) o2 1 = (ys.length : Int) from (by first | exact qm | exact (if_neg (fun e => absurd e.1 (by assumption))).trans qm)]
              show B_R _ _ (98, [(6, .int (Zi 0)), (5, .int (Zi step)), (4, .int (Zi j)), (3, .int (Zi i)), (0, .ref o), (1, .ref o2), (2, .ref o3)], [.int (Zi ((ys.length : Int))), .int (Zi i)]) _ _ _
              refine Z_cge rfl rfl (by first | exact hs.zF _ _ | exact Zor_r _ _ | exact hs.zA _ _ | assumption | exact zA _ _ | exact zS _ | exact Zr_not (hs.zA _ _) | exact hs.1.1 _ _ | exact ⟨by omega, by omega⟩) (by first | exact hs.zF _ _ | exact Zor_r _ _ | exact hs.zA _ _ | assumption | exact zA _ _ | exact zS _ | exact Zr_not (hs.zA _ _) | exact hs.1.1 _ _ | exact ⟨by omega, by omega⟩) (fun c84 => ?_) (fun c84 => ?_)
              · refine Z_go (f2 := (125, [(6, .int (Zi 0)), (5, .int (Zi step)), (4, .int (Zi j)), (3, .int (Zi i)), (0, .ref o), (1, .ref o2), (2, .ref o3)], [.int (Zi 1)])) (fun _ => rfl) ?_
                refine Z_go (f2 := (129, [(6, .int (Zi 0)), (5, .int (Zi step)), (4, .int (Zi j)), (3, .int (Zi i)), (0, .ref o), (1, .ref o2), (2, .ref o3)], [.int (Zi 1)])) (fun _ => rfl) ?_
                refine Z_go (f2 := (131, [(7, .int (Zi 1)), (6, .int (Zi 0)), (5, .int (Zi step)), (4, .int (Zi j)), (3, .int (Zi i)), (0, .ref o), (1, .ref o2), (2, .ref o3)], [])) (fun _ => rfl) ?_
                refine Z_go (f2 := (132, [(7, .int (Zi 1)), (6, .int (Zi 0)), (5, .int (Zi step)), (4, .int (Zi j)), (3, .int (Zi i)), (0, .ref o), (1, .ref o2), (2, .ref o3)], [.ref o])) (fun _ => rfl) ?_
                refine Z_go (f2 := (134, [(7, .int (Zi 1)), (6, .int (Zi 0)), (5, .int (Zi step)), (4, .int (Zi j)), (3, .int (Zi i)), (0, .ref o), (1, .ref o2), (2, .ref o3)], [.int (Zi 0), .ref o])) (fun _ => rfl) ?_
                refine Z_ieq rfl rfl (by first | exact hs.zF _ _ | exact Zor_r _ _ | exact hs.zA _ _ | assumption | exact zA _ _ | exact zS _ | exact Zr_not (hs.zA _ _) | exact hs.1.1 _ _ | exact ⟨by omega, by omega⟩) (fun c85 => ?_) (fun c85 => ?_)
                · refine Z_go (f2 := (146, [(7, .int (Zi 1)), (6, .int (Zi 0)), (5, .int (Zi step)), (4, .int (Zi j)), (3, .int (Zi i)), (0, .ref o), (1, .ref o2), (2, .ref o3)], [.ref o3, .ref o])) (fun _ => rfl) ?_
                  refine Z_go (f2 := (148, [(7, .int (Zi 1)), (6, .int (Zi 0)), (5, .int (Zi step)), (4, .int (Zi j)), (3, .int (Zi i)), (0, .ref o), (1, .ref o2), (2, .ref o3)], [.int (Zi j), .ref o3, .ref o])) (fun _ => rfl) ?_
                  refine C_callVR (As := [.int (Zi j)]) (rest := [.ref o]) rfl (by decide) rfl (by decide) rfl rfl (by decide +kernel) (Nat.le_of_ble_eq_true rfl) hs pk (C_at_ _ hp0 (i := j) (by first | exact hs.zF _ _ | exact Zor_r _ _ | exact hs.zA _ _ | assumption | exact zA _ _ | exact zS _ | exact Zr_not (hs.zA _ _) | exact hs.1.1 _ _ | exact ⟨by omega, by omega⟩)) (fun x q => ?_)
                  obtain rfl := q
                  have zl46 := D_Row.zat hs hp0 j
                  show B_R _ _ (151, [(7, .int (Zi 1)), (6, .int (Zi 0)), (5, .int (Zi step)), (4, .int (Zi j)), (3, .int (Zi i)), (0, .ref o), (1, .ref o2), (2, .ref o3)], [.int (Zi (L_at ws j)), .ref o]) _ _ _
                  refine C_callV (As := [.int (Zi (L_at ws j))]) (rest := []) rfl (by decide) rfl (by decide) rfl rfl (by decide +kernel) (Nat.le_of_ble_eq_true rfl) hs rk (C_push _ hr0 (v := L_at ws j) (by first | exact hs.zF _ _ | exact Zor_r _ _ | exact hs.zA _ _ | assumption | exact zA _ _ | exact zS _ | exact Zr_not (hs.zA _ _) | exact hs.1.1 _ _ | exact ⟨by omega, by omega⟩) (by omega)) (fun x h w n hs q => ?_)
                  obtain ⟨rfl, hw⟩ := q
                  show B_R _ _ (154, [(7, .int (Zi 1)), (6, .int (Zi 0)), (5, .int (Zi step)), (4, .int (Zi j)), (3, .int (Zi i)), (0, .ref o), (1, .ref o2), (2, .ref o3)], []) _ _ _
                  refine Z_go (f2 := (155, [(7, .int (Zi 1)), (6, .int (Zi 0)), (5, .int (Zi step)), (4, .int (Zi j)), (3, .int (Zi i)), (0, .ref o), (1, .ref o2), (2, .ref o3)], [.int (Zi i)])) (fun _ => rfl) ?_
                  refine Z_go (f2 := (157, [(7, .int (Zi 1)), (6, .int (Zi 0)), (5, .int (Zi step)), (4, .int (Zi j)), (3, .int (Zi i)), (0, .ref o), (1, .ref o2), (2, .ref o3)], [.int (Zi 0), .int (Zi i)])) (fun _ => rfl) ?_
                  refine Z_ieq rfl rfl (by first | exact hs.zF _ _ | exact Zor_r _ _ | exact hs.zA _ _ | assumption | exact zA _ _ | exact zS _ | exact Zr_not (hs.zA _ _) | exact hs.1.1 _ _ | exact ⟨by omega, by omega⟩) (fun c86 => ?_) (fun c86 => ?_)
                  · refine Z_go (f2 := (165, [(7, .int (Zi 1)), (6, .int (Zi 0)), (5, .int (Zi step)), (4, .int (Zi j)), (3, .int (Zi i)), (0, .ref o), (1, .ref o2), (2, .ref o3)], [.int (Zi 0), .int (Zi i)])) (fun _ => rfl) ?_
                    refine Z_iadd rfl ?_
                    refine Z_go (f2 := (167, [(3, .int (Zi (i + 0))), (7, .int (Zi 1)), (6, .int (Zi 0)), (5, .int (Zi step)), (4, .int (Zi j)), (0, .ref o), (1, .ref o2), (2, .ref o3)], [])) (fun _ => rfl) ?_
                    refine Z_go (f2 := (169, [(3, .int (Zi (i + 0))), (7, .int (Zi 1)), (6, .int (Zi 0)), (5, .int (Zi step)), (4, .int (Zi j)), (0, .ref o), (1, .ref o2), (2, .ref o3)], [.int (Zi j)])) (fun _ => rfl) ?_
                    refine Z_go (f2 := (171, [(3, .int (Zi (i + 0))), (7, .int (Zi 1)), (6, .int (Zi 0)), (5, .int (Zi step)), (4, .int (Zi j)), (0, .ref o), (1, .ref o2), (2, .ref o3)], [.int (Zi 1), .int (Zi j)])) (fun _ => rfl) ?_
                    refine Z_ieq rfl rfl (by first | exact hs.zF _ _ | exact Zor_r _ _ | exact hs.zA _ _ | assumption | exact zA _ _ | exact zS _ | exact Zr_not (hs.zA _ _) | exact hs.1.1 _ _ | exact ⟨by omega, by omega⟩) (fun c87 => ?_) (fun c87 => ?_)
                    · exfalso; omega
                    · refine Z_go (f2 := (175, [(3, .int (Zi (i + 0))), (7, .int (Zi 1)), (6, .int (Zi 0)), (5, .int (Zi step)), (4, .int (Zi j)), (0, .ref o), (1, .ref o2), (2, .ref o3)], [.int (Zi 1), .int (Zi j)])) (fun _ => rfl) ?_
                      refine Z_go (f2 := (179, [(3, .int (Zi (i + 0))), (7, .int (Zi 1)), (6, .int (Zi 0)), (5, .int (Zi step)), (4, .int (Zi j)), (0, .ref o), (1, .ref o2), (2, .ref o3)], [.int (Zi 1), .int (Zi j)])) (fun _ => rfl) ?_
                      refine Z_iadd rfl ?_
                      refine Z_go (f2 := (182, [(4, .int (Zi (j + 1))), (3, .int (Zi (i + 0))), (7, .int (Zi 1)), (6, .int (Zi 0)), (5, .int (Zi step)), (0, .ref o), (1, .ref o2), (2, .ref o3)], [])) (fun _ => rfl) ?_
                      refine Z_iinc (L2 := [(5, .int (Zi (step + (-1)))), (4, .int (Zi (j + 1))), (3, .int (Zi (i + 0))), (7, .int (Zi 1)), (6, .int (Zi 0)), (0, .ref o), (1, .ref o2), (2, .ref o3)]) rfl rfl (by decide) rfl ?_
                      refine C_goto (p2 := 33) rfl (by decide +kernel) (by decide +kernel) ?_
                      first
                      | (exfalso; omega)
                      | (refine B_loc (K := [(5, .int (Zi (step + (-1)))), (4, .int (Zi (j + 1))), (3, .int (Zi (i + 0))), (0, .ref o), (1, .ref o2), (2, .ref o3)]) (N_all_sub ⟨rfl, rfl, rfl, rfl, rfl, rfl, trivial⟩) (show ([5, 4, 3, 0, 1, 2] : List Nat).Nodup by decide) ?_
                         have mg2 : L_mg ys ws (zs ++ [L_at ws j]) (i + 0) (j + 1) := L_mg_st sy sw mg i0 j0 (fun z hz => (hlast z hz).2 (by omega)) (by omega) (by omega) (by omega)
                         have hw := D_rw.tr fr g1 g2 g3 hr0 hw (by omega)
                         obtain ⟨a5, cap5, e1, e2, e3, e4, e5⟩ := hw
                         exact ih _ _ _ w _ _ a5 cap5 _ (by omega) hs e1 e2 e3 e4 e5 mg2 (by omega) (by omega) (by omega) (by omega) (by omega) (by omega))
                  · exfalso; omega
                · exfalso; omega
              · refine Z_go (f2 := (103, [(6, .int (Zi 0)), (5, .int (Zi step)), (4, .int (Zi j)), (3, .int (Zi i)), (0, .ref o), (1, .ref o2), (2, .ref o3)], [.int (Zi j)])) (fun _ => rfl) ?_
                refine Z_go (f2 := (104, [(6, .int (Zi 0)), (5, .int (Zi step)), (4, .int (Zi j)), (3, .int (Zi i)), (0, .ref o), (1, .ref o2), (2, .ref o3)], [.ref o3, .int (Zi j)])) (fun _ => rfl) ?_
                refine C_gi rfl hs pk (by decide) (Nat.le_of_ble_eq_true rfl) rfl ?_
                rw [show C_F (u) o3 1 = (ws.length : Int) from (by first | exact pm | exact (if_neg (fun e => absurd e.1 (by assumption))).trans pm)]
                show B_R _ _ (107, [(6, .int (Zi 0)), (5, .int (Zi step)), (4, .int (Zi j)), (3, .int (Zi i)), (0, .ref o), (1, .ref o2), (2, .ref o3)], [.int (Zi ((ws.length : Int))), .int (Zi j)]) _ _ _
                refine Z_cge rfl rfl (by first | exact hs.zF _ _ | exact Zor_r _ _ | exact hs.zA _ _ | assumption | exact zA _ _ | exact zS _ | exact Zr_not (hs.zA _ _) | exact hs.1.1 _ _ | exact ⟨by omega, by omega⟩) (by first | exact hs.zF _ _ | exact Zor_r _ _ | exact hs.zA _ _ | assumption | exact zA _ _ | exact zS _ | exact Zr_not (hs.zA _ _) | exact hs.1.1 _ _ | exact ⟨by omega, by omega⟩) (fun c88 => ?_) (fun c88 => ?_)
                · refine Z_go (f2 := (129, [(6, .int (Zi 0)), (5, .int (Zi step)), (4, .int (Zi j)), (3, .int (Zi i)), (0, .ref o), (1, .ref o2), (2, .ref o3)], [.int (Zi 0)])) (fun _ => rfl) ?_
                  refine Z_go (f2 := (131, [(7, .int (Zi 0)), (6, .int (Zi 0)), (5, .int (Zi step)), (4, .int (Zi j)), (3, .int (Zi i)), (0, .ref o), (1, .ref o2), (2, .ref o3)], [])) (fun _ => rfl) ?_
                  refine Z_go (f2 := (132, [(7, .int (Zi 0)), (6, .int (Zi 0)), (5, .int (Zi step)), (4, .int (Zi j)), (3, .int (Zi i)), (0, .ref o), (1, .ref o2), (2, .ref o3)], [.ref o])) (fun _ => rfl) ?_
                  refine Z_go (f2 := (134, [(7, .int (Zi 0)), (6, .int (Zi 0)), (5, .int (Zi step)), (4, .int (Zi j)), (3, .int (Zi i)), (0, .ref o), (1, .ref o2), (2, .ref o3)], [.int (Zi 0), .ref o])) (fun _ => rfl) ?_
                  refine Z_ieq rfl rfl (by first | exact hs.zF _ _ | exact Zor_r _ _ | exact hs.zA _ _ | assumption | exact zA _ _ | exact zS _ | exact Zr_not (hs.zA _ _) | exact hs.1.1 _ _ | exact ⟨by omega, by omega⟩) (fun c89 => ?_) (fun c89 => ?_)
                  · refine Z_go (f2 := (146, [(7, .int (Zi 0)), (6, .int (Zi 0)), (5, .int (Zi step)), (4, .int (Zi j)), (3, .int (Zi i)), (0, .ref o), (1, .ref o2), (2, .ref o3)], [.ref o3, .ref o])) (fun _ => rfl) ?_
                    refine Z_go (f2 := (148, [(7, .int (Zi 0)), (6, .int (Zi 0)), (5, .int (Zi step)), (4, .int (Zi j)), (3, .int (Zi i)), (0, .ref o), (1, .ref o2), (2, .ref o3)], [.int (Zi j), .ref o3, .ref o])) (fun _ => rfl) ?_
                    refine C_callVR (As := [.int (Zi j)]) (rest := [.ref o]) rfl (by decide) rfl (by decide) rfl rfl (by decide +kernel) (Nat.le_of_ble_eq_true rfl) hs pk (C_at_ _ hp0 (i := j) (by first | exact hs.zF _ _ | exact Zor_r _ _ | exact hs.zA _ _ | assumption | exact zA _ _ | exact zS _ | exact Zr_not (hs.zA _ _) | exact hs.1.1 _ _ | exact ⟨by omega, by omega⟩)) (fun x q => ?_)
                    obtain rfl := q
                    have zl47 := D_Row.zat hs hp0 j
                    show B_R _ _ (151, [(7, .int (Zi 0)), (6, .int (Zi 0)), (5, .int (Zi step)), (4, .int (Zi j)), (3, .int (Zi i)), (0, .ref o), (1, .ref o2), (2, .ref o3)], [.int (Zi (L_at ws j)), .ref o]) _ _ _
                    refine C_callV (As := [.int (Zi (L_at ws j))]) (rest := []) rfl (by decide) rfl (by decide) rfl rfl (by decide +kernel) (Nat.le_of_ble_eq_true rfl) hs rk (C_push _ hr0 (v := L_at ws j) (by first | exact hs.zF _ _ | exact Zor_r _ _ | exact hs.zA _ _ | assumption | exact zA _ _ | exact zS _ | exact Zr_not (hs.zA _ _) | exact hs.1.1 _ _ | exact ⟨by omega, by omega⟩) (by omega)) (fun x h w n hs q => ?_)
                    obtain ⟨rfl, hw⟩ := q
                    show B_R _ _ (154, [(7, .int (Zi 0)), (6, .int (Zi 0)), (5, .int (Zi step)), (4, .int (Zi j)), (3, .int (Zi i)), (0, .ref o), (1, .ref o2), (2, .ref o3)], []) _ _ _
                    refine Z_go (f2 := (155, [(7, .int (Zi 0)), (6, .int (Zi 0)), (5, .int (Zi step)), (4, .int (Zi j)), (3, .int (Zi i)), (0, .ref o), (1, .ref o2), (2, .ref o3)], [.int (Zi i)])) (fun _ => rfl) ?_
                    refine Z_go (f2 := (157, [(7, .int (Zi 0)), (6, .int (Zi 0)), (5, .int (Zi step)), (4, .int (Zi j)), (3, .int (Zi i)), (0, .ref o), (1, .ref o2), (2, .ref o3)], [.int (Zi 0), .int (Zi i)])) (fun _ => rfl) ?_
                    refine Z_ieq rfl rfl (by first | exact hs.zF _ _ | exact Zor_r _ _ | exact hs.zA _ _ | assumption | exact zA _ _ | exact zS _ | exact Zr_not (hs.zA _ _) | exact hs.1.1 _ _ | exact ⟨by omega, by omega⟩) (fun c90 => ?_) (fun c90 => ?_)
                    · refine Z_go (f2 := (165, [(7, .int (Zi 0)), (6, .int (Zi 0)), (5, .int (Zi step)), (4, .int (Zi j)), (3, .int (Zi i)), (0, .ref o), (1, .ref o2), (2, .ref o3)], [.int (Zi 0), .int (Zi i)])) (fun _ => rfl) ?_
                      refine Z_iadd rfl ?_
                      refine Z_go (f2 := (167, [(3, .int (Zi (i + 0))), (7, .int (Zi 0)), (6, .int (Zi 0)), (5, .int (Zi step)), (4, .int (Zi j)), (0, .ref o), (1, .ref o2), (2, .ref o3)], [])) (fun _ => rfl) ?_
                      refine Z_go (f2 := (169, [(3, .int (Zi (i + 0))), (7, .int (Zi 0)), (6, .int (Zi 0)), (5, .int (Zi step)), (4, .int (Zi j)), (0, .ref o), (1, .ref o2), (2, .ref o3)], [.int (Zi j)])) (fun _ => rfl) ?_
                      refine Z_go (f2 := (171, [(3, .int (Zi (i + 0))), (7, .int (Zi 0)), (6, .int (Zi 0)), (5, .int (Zi step)), (4, .int (Zi j)), (0, .ref o), (1, .ref o2), (2, .ref o3)], [.int (Zi 0), .int (Zi j)])) (fun _ => rfl) ?_
                      refine Z_ieq rfl rfl (by first | exact hs.zF _ _ | exact Zor_r _ _ | exact hs.zA _ _ | assumption | exact zA _ _ | exact zS _ | exact Zr_not (hs.zA _ _) | exact hs.1.1 _ _ | exact ⟨by omega, by omega⟩) (fun c91 => ?_) (fun c91 => ?_)
                      · refine Z_go (f2 := (179, [(3, .int (Zi (i + 0))), (7, .int (Zi 0)), (6, .int (Zi 0)), (5, .int (Zi step)), (4, .int (Zi j)), (0, .ref o), (1, .ref o2), (2, .ref o3)], [.int (Zi 0), .int (Zi j)])) (fun _ => rfl) ?_
                        refine Z_iadd rfl ?_
                        refine Z_go (f2 := (182, [(4, .int (Zi (j + 0))), (3, .int (Zi (i + 0))), (7, .int (Zi 0)), (6, .int (Zi 0)), (5, .int (Zi step)), (0, .ref o), (1, .ref o2), (2, .ref o3)], [])) (fun _ => rfl) ?_
                        refine Z_iinc (L2 := [(5, .int (Zi (step + (-1)))), (4, .int (Zi (j + 0))), (3, .int (Zi (i + 0))), (7, .int (Zi 0)), (6, .int (Zi 0)), (0, .ref o), (1, .ref o2), (2, .ref o3)]) rfl rfl (by decide) rfl ?_
                        refine C_goto (p2 := 33) rfl (by decide +kernel) (by decide +kernel) ?_
                        first
                        | (exfalso; omega)
                        | (refine B_loc (K := [(5, .int (Zi (step + (-1)))), (4, .int (Zi (j + 0))), (3, .int (Zi (i + 0))), (0, .ref o), (1, .ref o2), (2, .ref o3)]) (N_all_sub ⟨rfl, rfl, rfl, rfl, rfl, rfl, trivial⟩) (show ([5, 4, 3, 0, 1, 2] : List Nat).Nodup by decide) ?_
                           have mg2 : L_mg ys ws (zs ++ [L_at ws j]) (i + 0) (j + 0) := L_mg_st sy sw mg i0 j0 (fun z hz => (hlast z hz).2 (by omega)) (by omega) (by omega) (by omega)
                           have hw := D_rw.tr fr g1 g2 g3 hr0 hw (by omega)
                           obtain ⟨a5, cap5, e1, e2, e3, e4, e5⟩ := hw
                           exact ih _ _ _ w _ _ a5 cap5 _ (by omega) hs e1 e2 e3 e4 e5 mg2 (by omega) (by omega) (by omega) (by omega) (by omega) (by omega))
                      · exfalso; omega
                    · exfalso; omega
                  · exfalso; omega
                · refine Z_go (f2 := (111, [(6, .int (Zi 0)), (5, .int (Zi step)), (4, .int (Zi j)), (3, .int (Zi i)), (0, .ref o), (1, .ref o2), (2, .ref o3)], [.ref o3])) (fun _ => rfl) ?_
                  refine Z_go (f2 := (113, [(6, .int (Zi 0)), (5, .int (Zi step)), (4, .int (Zi j)), (3, .int (Zi i)), (0, .ref o), (1, .ref o2), (2, .ref o3)], [.int (Zi j), .ref o3])) (fun _ => rfl) ?_
                  refine C_callVR (As := [.int (Zi j)]) (rest := []) rfl (by decide) rfl (by decide) rfl rfl (by decide +kernel) (Nat.le_of_ble_eq_true rfl) hs pk (C_at_ _ hp0 (i := j) (by first | exact hs.zF _ _ | exact Zor_r _ _ | exact hs.zA _ _ | assumption | exact zA _ _ | exact zS _ | exact Zr_not (hs.zA _ _) | exact hs.1.1 _ _ | exact ⟨by omega, by omega⟩)) (fun x q => ?_)
                  obtain rfl := q
                  have zl48 := D_Row.zat hs hp0 j
                  show B_R _ _ (116, [(6, .int (Zi 0)), (5, .int (Zi step)), (4, .int (Zi j)), (3, .int (Zi i)), (0, .ref o), (1, .ref o2), (2, .ref o3)], [.int (Zi (L_at ws j))]) _ _ _
                  refine Z_go (f2 := (117, [(6, .int (Zi 0)), (5, .int (Zi step)), (4, .int (Zi j)), (3, .int (Zi i)), (0, .ref o), (1, .ref o2), (2, .ref o3)], [.ref o2, .int (Zi (L_at ws j))])) (fun _ => rfl) ?_
                  refine Z_go (f2 := (118, [(6, .int (Zi 0)), (5, .int (Zi step)), (4, .int (Zi j)), (3, .int (Zi i)), (0, .ref o), (1, .ref o2), (2, .ref o3)], [.int (Zi i), .ref o2, .int (Zi (L_at ws j))])) (fun _ => rfl) ?_
                  refine C_callVR (As := [.int (Zi i)]) (rest := [.int (Zi (L_at ws j))]) rfl (by decide) rfl (by decide) rfl rfl (by decide +kernel) (Nat.le_of_ble_eq_true rfl) hs qk (C_at_ _ hq0 (i := i) (by first | exact hs.zF _ _ | exact Zor_r _ _ | exact hs.zA _ _ | assumption | exact zA _ _ | exact zS _ | exact Zr_not (hs.zA _ _) | exact hs.1.1 _ _ | exact ⟨by omega, by omega⟩)) (fun x q => ?_)
                  obtain rfl := q
                  have zl49 := D_Row.zat hs hq0 i
                  show B_R _ _ (121, [(6, .int (Zi 0)), (5, .int (Zi step)), (4, .int (Zi j)), (3, .int (Zi i)), (0, .ref o), (1, .ref o2), (2, .ref o3)], [.int (Zi (L_at ys i)), .int (Zi (L_at ws j))]) _ _ _
                  refine Z_cgt rfl rfl (by first | exact hs.zF _ _ | exact Zor_r _ _ | exact hs.zA _ _ | assumption | exact zA _ _ | exact zS _ | exact Zr_not (hs.zA _ _) | exact hs.1.1 _ _ | exact ⟨by omega, by omega⟩) (by first | exact hs.zF _ _ | exact Zor_r _ _ | exact hs.zA _ _ | assumption | exact zA _ _ | exact zS _ | exact Zr_not (hs.zA _ _) | exact hs.1.1 _ _ | exact ⟨by omega, by omega⟩) (fun c92 => ?_) (fun c92 => ?_)
                  · refine Z_go (f2 := (129, [(6, .int (Zi 0)), (5, .int (Zi step)), (4, .int (Zi j)), (3, .int (Zi i)), (0, .ref o), (1, .ref o2), (2, .ref o3)], [.int (Zi 0)])) (fun _ => rfl) ?_
                    refine Z_go (f2 := (131, [(7, .int (Zi 0)), (6, .int (Zi 0)), (5, .int (Zi step)), (4, .int (Zi j)), (3, .int (Zi i)), (0, .ref o), (1, .ref o2), (2, .ref o3)], [])) (fun _ => rfl) ?_
                    refine Z_go (f2 := (132, [(7, .int (Zi 0)), (6, .int (Zi 0)), (5, .int (Zi step)), (4, .int (Zi j)), (3, .int (Zi i)), (0, .ref o), (1, .ref o2), (2, .ref o3)], [.ref o])) (fun _ => rfl) ?_
                    refine Z_go (f2 := (134, [(7, .int (Zi 0)), (6, .int (Zi 0)), (5, .int (Zi step)), (4, .int (Zi j)), (3, .int (Zi i)), (0, .ref o), (1, .ref o2), (2, .ref o3)], [.int (Zi 0), .ref o])) (fun _ => rfl) ?_
                    refine Z_ieq rfl rfl (by first | exact hs.zF _ _ | exact Zor_r _ _ | exact hs.zA _ _ | assumption | exact zA _ _ | exact zS _ | exact Zr_not (hs.zA _ _) | exact hs.1.1 _ _ | exact ⟨by omega, by omega⟩) (fun c93 => ?_) (fun c93 => ?_)
                    · refine Z_go (f2 := (146, [(7, .int (Zi 0)), (6, .int (Zi 0)), (5, .int (Zi step)), (4, .int (Zi j)), (3, .int (Zi i)), (0, .ref o), (1, .ref o2), (2, .ref o3)], [.ref o3, .ref o])) (fun _ => rfl) ?_
                      refine Z_go (f2 := (148, [(7, .int (Zi 0)), (6, .int (Zi 0)), (5, .int (Zi step)), (4, .int (Zi j)), (3, .int (Zi i)), (0, .ref o), (1, .ref o2), (2, .ref o3)], [.int (Zi j), .ref o3, .ref o])) (fun _ => rfl) ?_
                      refine C_callVR (As := [.int (Zi j)]) (rest := [.ref o]) rfl (by decide) rfl (by decide) rfl rfl (by decide +kernel) (Nat.le_of_ble_eq_true rfl) hs pk (C_at_ _ hp0 (i := j) (by first | exact hs.zF _ _ | exact Zor_r _ _ | exact hs.zA _ _ | assumption | exact zA _ _ | exact zS _ | exact Zr_not (hs.zA _ _) | exact hs.1.1 _ _ | exact ⟨by omega, by omega⟩)) (fun x q => ?_)
                      obtain rfl := q
                      have zl50 := D_Row.zat hs hp0 j
                      show B_R _ _ (151, [(7, .int (Zi 0)), (6, .int (Zi 0)), (5, .int (Zi step)), (4, .int (Zi j)), (3, .int (Zi i)), (0, .ref o), (1, .ref o2), (2, .ref o3)], [.int (Zi (L_at ws j)), .ref o]) _ _ _
                      refine C_callV (As := [.int (Zi (L_at ws j))]) (rest := []) rfl (by decide) rfl (by decide) rfl rfl (by decide +kernel) (Nat.le_of_ble_eq_true rfl) hs rk (C_push _ hr0 (v := L_at ws j) (by first | exact hs.zF _ _ | exact Zor_r _ _ | exact hs.zA _ _ | assumption | exact zA _ _ | exact zS _ | exact Zr_not (hs.zA _ _) | exact hs.1.1 _ _ | exact ⟨by omega, by omega⟩) (by omega)) (fun x h w n hs q => ?_)
                      obtain ⟨rfl, hw⟩ := q
                      show B_R _ _ (154, [(7, .int (Zi 0)), (6, .int (Zi 0)), (5, .int (Zi step)), (4, .int (Zi j)), (3, .int (Zi i)), (0, .ref o), (1, .ref o2), (2, .ref o3)], []) _ _ _
                      refine Z_go (f2 := (155, [(7, .int (Zi 0)), (6, .int (Zi 0)), (5, .int (Zi step)), (4, .int (Zi j)), (3, .int (Zi i)), (0, .ref o), (1, .ref o2), (2, .ref o3)], [.int (Zi i)])) (fun _ => rfl) ?_
                      refine Z_go (f2 := (157, [(7, .int (Zi 0)), (6, .int (Zi 0)), (5, .int (Zi step)), (4, .int (Zi j)), (3, .int (Zi i)), (0, .ref o), (1, .ref o2), (2, .ref o3)], [.int (Zi 0), .int (Zi i)])) (fun _ => rfl) ?_
                      refine Z_ieq rfl rfl (by first | exact hs.zF _ _ | exact Zor_r _ _ | exact hs.zA _ _ | assumption | exact zA _ _ | exact zS _ | exact Zr_not (hs.zA _ _) | exact hs.1.1 _ _ | exact ⟨by omega, by omega⟩) (fun c94 => ?_) (fun c94 => ?_)
                      · refine Z_go (f2 := (165, [(7, .int (Zi 0)), (6, .int (Zi 0)), (5, .int (Zi step)), (4, .int (Zi j)), (3, .int (Zi i)), (0, .ref o), (1, .ref o2), (2, .ref o3)], [.int (Zi 0), .int (Zi i)])) (fun _ => rfl) ?_
                        refine Z_iadd rfl ?_
                        refine Z_go (f2 := (167, [(3, .int (Zi (i + 0))), (7, .int (Zi 0)), (6, .int (Zi 0)), (5, .int (Zi step)), (4, .int (Zi j)), (0, .ref o), (1, .ref o2), (2, .ref o3)], [])) (fun _ => rfl) ?_
                        refine Z_go (f2 := (169, [(3, .int (Zi (i + 0))), (7, .int (Zi 0)), (6, .int (Zi 0)), (5, .int (Zi step)), (4, .int (Zi j)), (0, .ref o), (1, .ref o2), (2, .ref o3)], [.int (Zi j)])) (fun _ => rfl) ?_
                        refine Z_go (f2 := (171, [(3, .int (Zi (i + 0))), (7, .int (Zi 0)), (6, .int (Zi 0)), (5, .int (Zi step)), (4, .int (Zi j)), (0, .ref o), (1, .ref o2), (2, .ref o3)], [.int (Zi 0), .int (Zi j)])) (fun _ => rfl) ?_
                        refine Z_ieq rfl rfl (by first | exact hs.zF _ _ | exact Zor_r _ _ | exact hs.zA _ _ | assumption | exact zA _ _ | exact zS _ | exact Zr_not (hs.zA _ _) | exact hs.1.1 _ _ | exact ⟨by omega, by omega⟩) (fun c95 => ?_) (fun c95 => ?_)
                        · refine Z_go (f2 := (179, [(3, .int (Zi (i + 0))), (7, .int (Zi 0)), (6, .int (Zi 0)), (5, .int (Zi step)), (4, .int (Zi j)), (0, .ref o), (1, .ref o2), (2, .ref o3)], [.int (Zi 0), .int (Zi j)])) (fun _ => rfl) ?_
                          refine Z_iadd rfl ?_
                          refine Z_go (f2 := (182, [(4, .int (Zi (j + 0))), (3, .int (Zi (i + 0))), (7, .int (Zi 0)), (6, .int (Zi 0)), (5, .int (Zi step)), (0, .ref o), (1, .ref o2), (2, .ref o3)], [])) (fun _ => rfl) ?_
                          refine Z_iinc (L2 := [(5, .int (Zi (step + (-1)))), (4, .int (Zi (j + 0))), (3, .int (Zi (i + 0))), (7, .int (Zi 0)), (6, .int (Zi 0)), (0, .ref o), (1, .ref o2), (2, .ref o3)]) rfl rfl (by decide) rfl ?_
                          refine C_goto (p2 := 33) rfl (by decide +kernel) (by decide +kernel) ?_
                          first
                          | (exfalso; omega)
                          | (refine B_loc (K := [(5, .int (Zi (step + (-1)))), (4, .int (Zi (j + 0))), (3, .int (Zi (i + 0))), (0, .ref o), (1, .ref o2), (2, .ref o3)]) (N_all_sub ⟨rfl, rfl, rfl, rfl, rfl, rfl, trivial⟩) (show ([5, 4, 3, 0, 1, 2] : List Nat).Nodup by decide) ?_
                             have mg2 : L_mg ys ws (zs ++ [L_at ws j]) (i + 0) (j + 0) := L_mg_st sy sw mg i0 j0 (fun z hz => (hlast z hz).2 (by omega)) (by omega) (by omega) (by omega)
                             have hw := D_rw.tr fr g1 g2 g3 hr0 hw (by omega)
                             obtain ⟨a5, cap5, e1, e2, e3, e4, e5⟩ := hw
                             exact ih _ _ _ w _ _ a5 cap5 _ (by omega) hs e1 e2 e3 e4 e5 mg2 (by omega) (by omega) (by omega) (by omega) (by omega) (by omega))
                        · exfalso; omega
                      · exfalso; omega
                    · exfalso; omega
                  · refine Z_go (f2 := (125, [(6, .int (Zi 0)), (5, .int (Zi step)), (4, .int (Zi j)), (3, .int (Zi i)), (0, .ref o), (1, .ref o2), (2, .ref o3)], [.int (Zi 1)])) (fun _ => rfl) ?_
                    refine Z_go (f2 := (129, [(6, .int (Zi 0)), (5, .int (Zi step)), (4, .int (Zi j)), (3, .int (Zi i)), (0, .ref o), (1, .ref o2), (2, .ref o3)], [.int (Zi 1)])) (fun _ => rfl) ?_
                    refine Z_go (f2 := (131, [(7, .int (Zi 1)), (6, .int (Zi 0)), (5, .int (Zi step)), (4, .int (Zi j)), (3, .int (Zi i)), (0, .ref o), (1, .ref o2), (2, .ref o3)], [])) (fun _ => rfl) ?_
                    refine Z_go (f2 := (132, [(7, .int (Zi 1)), (6, .int (Zi 0)), (5, .int (Zi step)), (4, .int (Zi j)), (3, .int (Zi i)), (0, .ref o), (1, .ref o2), (2, .ref o3)], [.ref o])) (fun _ => rfl) ?_
                    refine Z_go (f2 := (134, [(7, .int (Zi 1)), (6, .int (Zi 0)), (5, .int (Zi step)), (4, .int (Zi j)), (3, .int (Zi i)), (0, .ref o), (1, .ref o2), (2, .ref o3)], [.int (Zi 0), .ref o])) (fun _ => rfl) ?_
                    refine Z_ieq rfl rfl (by first | exact hs.zF _ _ | exact Zor_r _ _ | exact hs.zA _ _ | assumption | exact zA _ _ | exact zS _ | exact Zr_not (hs.zA _ _) | exact hs.1.1 _ _ | exact ⟨by omega, by omega⟩) (fun c96 => ?_) (fun c96 => ?_)
                    · refine Z_go (f2 := (146, [(7, .int (Zi 1)), (6, .int (Zi 0)), (5, .int (Zi step)), (4, .int (Zi j)), (3, .int (Zi i)), (0, .ref o), (1, .ref o2), (2, .ref o3)], [.ref o3, .ref o])) (fun _ => rfl) ?_
                      refine Z_go (f2 := (148, [(7, .int (Zi 1)), (6, .int (Zi 0)), (5, .int (Zi step)), (4, .int (Zi j)), (3, .int (Zi i)), (0, .ref o), (1, .ref o2), (2, .ref o3)], [.int (Zi j), .ref o3, .ref o])) (fun _ => rfl) ?_
                      refine C_callVR (As := [.int (Zi j)]) (rest := [.ref o]) rfl (by decide) rfl (by decide) rfl rfl (by decide +kernel) (Nat.le_of_ble_eq_true rfl) hs pk (C_at_ _ hp0 (i := j) (by first | exact hs.zF _ _ | exact Zor_r _ _ | exact hs.zA _ _ | assumption | exact zA _ _ | exact zS _ | exact Zr_not (hs.zA _ _) | exact hs.1.1 _ _ | exact ⟨by omega, by omega⟩)) (fun x q => ?_)
                      obtain rfl := q
                      have zl51 := D_Row.zat hs hp0 j
                      show B_R _ _ (151, [(7, .int (Zi 1)), (6, .int (Zi 0)), (5, .int (Zi step)), (4, .int (Zi j)), (3, .int (Zi i)), (0, .ref o), (1, .ref o2), (2, .ref o3)], [.int (Zi (L_at ws j)), .ref o]) _ _ _
                      refine C_callV (As := [.int (Zi (L_at ws j))]) (rest := []) rfl (by decide) rfl (by decide) rfl rfl (by decide +kernel) (Nat.le_of_ble_eq_true rfl) hs rk (C_push _ hr0 (v := L_at ws j) (by first | exact hs.zF _ _ | exact Zor_r _ _ | exact hs.zA _ _ | assumption | exact zA _ _ | exact zS _ | exact Zr_not (hs.zA _ _) | exact hs.1.1 _ _ | exact ⟨by omega, by omega⟩) (by omega)) (fun x h w n hs q => ?_)
                      obtain ⟨rfl, hw⟩ := q
                      show B_R _ _ (154, [(7, .int (Zi 1)), (6, .int (Zi 0)), (5, .int (Zi step)), (4, .int (Zi j)), (3, .int (Zi i)), (0, .ref o), (1, .ref o2), (2, .ref o3)], []) _ _ _
                      refine Z_go (f2 := (155, [(7, .int (Zi 1)), (6, .int (Zi 0)), (5, .int (Zi step)), (4, .int (Zi j)), (3, .int (Zi i)), (0, .ref o), (1, .ref o2), (2, .ref o3)], [.int (Zi i)])) (fun _ => rfl) ?_
                      refine Z_go (f2 := (157, [(7, .int (Zi 1)), (6, .int (Zi 0)), (5, .int (Zi step)), (4, .int (Zi j)), (3, .int (Zi i)), (0, .ref o), (1, .ref o2), (2, .ref o3)], [.int (Zi 0), .int (Zi i)])) (fun _ => rfl) ?_
                      refine Z_ieq rfl rfl (by first | exact hs.zF _ _ | exact Zor_r _ _ | exact hs.zA _ _ | assumption | exact zA _ _ | exact zS _ | exact Zr_not (hs.zA _ _) | exact hs.1.1 _ _ | exact ⟨by omega, by omega⟩) (fun c97 => ?_) (fun c97 => ?_)
                      · refine Z_go (f2 := (165, [(7, .int (Zi 1)), (6, .int (Zi 0)), (5, .int (Zi step)), (4, .int (Zi j)), (3, .int (Zi i)), (0, .ref o), (1, .ref o2), (2, .ref o3)], [.int (Zi 0), .int (Zi i)])) (fun _ => rfl) ?_
                        refine Z_iadd rfl ?_
                        refine Z_go (f2 := (167, [(3, .int (Zi (i + 0))), (7, .int (Zi 1)), (6, .int (Zi 0)), (5, .int (Zi step)), (4, .int (Zi j)), (0, .ref o), (1, .ref o2), (2, .ref o3)], [])) (fun _ => rfl) ?_
                        refine Z_go (f2 := (169, [(3, .int (Zi (i + 0))), (7, .int (Zi 1)), (6, .int (Zi 0)), (5, .int (Zi step)), (4, .int (Zi j)), (0, .ref o), (1, .ref o2), (2, .ref o3)], [.int (Zi j)])) (fun _ => rfl) ?_
                        refine Z_go (f2 := (171, [(3, .int (Zi (i + 0))), (7, .int (Zi 1)), (6, .int (Zi 0)), (5, .int (Zi step)), (4, .int (Zi j)), (0, .ref o), (1, .ref o2), (2, .ref o3)], [.int (Zi 1), .int (Zi j)])) (fun _ => rfl) ?_
                        refine Z_ieq rfl rfl (by first | exact hs.zF _ _ | exact Zor_r _ _ | exact hs.zA _ _ | assumption | exact zA _ _ | exact zS _ | exact Zr_not (hs.zA _ _) | exact hs.1.1 _ _ | exact ⟨by omega, by omega⟩) (fun c98 => ?_) (fun c98 => ?_)
                        · exfalso; omega
                        · refine Z_go (f2 := (175, [(3, .int (Zi (i + 0))), (7, .int (Zi 1)), (6, .int (Zi 0)), (5, .int (Zi step)), (4, .int (Zi j)), (0, .ref o), (1, .ref o2), (2, .ref o3)], [.int (Zi 1), .int (Zi j)])) (fun _ => rfl) ?_
                          refine Z_go (f2 := (179, [(3, .int (Zi (i + 0))), (7, .int (Zi 1)), (6, .int (Zi 0)), (5, .int (Zi step)), (4, .int (Zi j)), (0, .ref o), (1, .ref o2), (2, .ref o3)], [.int (Zi 1), .int (Zi j)])) (fun _ => rfl) ?_
                          refine Z_iadd rfl ?_
                          refine Z_go (f2 := (182, [(4, .int (Zi (j + 1))), (3, .int (Zi (i + 0))), (7, .int (Zi 1)), (6, .int (Zi 0)), (5, .int (Zi step)), (0, .ref o), (1, .ref o2), (2, .ref o3)], [])) (fun _ => rfl) ?_
                          refine Z_iinc (L2 := [(5, .int (Zi (step + (-1)))), (4, .int (Zi (j + 1))), (3, .int (Zi (i + 0))), (7, .int (Zi 1)), (6, .int (Zi 0)), (0, .ref o), (1, .ref o2), (2, .ref o3)]) rfl rfl (by decide) rfl ?_
                          refine C_goto (p2 := 33) rfl (by decide +kernel) (by decide +kernel) ?_
                          first
                          | (exfalso; omega)
                          | (refine B_loc (K := [(5, .int (Zi (step + (-1)))), (4, .int (Zi (j + 1))), (3, .int (Zi (i + 0))), (0, .ref o), (1, .ref o2), (2, .ref o3)]) (N_all_sub ⟨rfl, rfl, rfl, rfl, rfl, rfl, trivial⟩) (show ([5, 4, 3, 0, 1, 2] : List Nat).Nodup by decide) ?_
                             have mg2 : L_mg ys ws (zs ++ [L_at ws j]) (i + 0) (j + 1) := L_mg_st sy sw mg i0 j0 (fun z hz => (hlast z hz).2 (by omega)) (by omega) (by omega) (by omega)
                             have hw := D_rw.tr fr g1 g2 g3 hr0 hw (by omega)
                             obtain ⟨a5, cap5, e1, e2, e3, e4, e5⟩ := hw
                             exact ih _ _ _ w _ _ a5 cap5 _ (by omega) hs e1 e2 e3 e4 e5 mg2 (by omega) (by omega) (by omega) (by omega) (by omega) (by omega))
                      · exfalso; omega
                    · exfalso; omega
            · refine Z_go (f2 := (73, [(5, .int (Zi step)), (4, .int (Zi j)), (3, .int (Zi i)), (0, .ref o), (1, .ref o2), (2, .ref o3)], [.ref o2])) (fun _ => rfl) ?_
              refine Z_go (f2 := (74, [(5, .int (Zi step)), (4, .int (Zi j)), (3, .int (Zi i)), (0, .ref o), (1, .ref o2), (2, .ref o3)], [.int (Zi i), .ref o2])) (fun _ => rfl) ?_
              refine C_callVR (As := [.int (Zi i)]) (rest := []) rfl (by decide) rfl (by decide) rfl rfl (by decide +kernel) (Nat.le_of_ble_eq_true rfl) hs qk (C_at_ _ hq0 (i := i) (by first | exact hs.zF _ _ | exact Zor_r _ _ | exact hs.zA _ _ | assumption | exact zA _ _ | exact zS _ | exact Zr_not (hs.zA _ _) | exact hs.1.1 _ _ | exact ⟨by omega, by omega⟩)) (fun x q => ?_)
              obtain rfl := q
              have zl52 := D_Row.zat hs hq0 i
              show B_R _ _ (77, [(5, .int (Zi step)), (4, .int (Zi j)), (3, .int (Zi i)), (0, .ref o), (1, .ref o2), (2, .ref o3)], [.int (Zi (L_at ys i))]) _ _ _
              refine Z_go (f2 := (78, [(5, .int (Zi step)), (4, .int (Zi j)), (3, .int (Zi i)), (0, .ref o), (1, .ref o2), (2, .ref o3)], [.ref o3, .int (Zi (L_at ys i))])) (fun _ => rfl) ?_
              refine Z_go (f2 := (80, [(5, .int (Zi step)), (4, .int (Zi j)), (3, .int (Zi i)), (0, .ref o), (1, .ref o2), (2, .ref o3)], [.int (Zi j), .ref o3, .int (Zi (L_at ys i))])) (fun _ => rfl) ?_
              refine C_callVR (As := [.int (Zi j)]) (rest := [.int (Zi (L_at ys i))]) rfl (by decide) rfl (by decide) rfl rfl (by decide +kernel) (Nat.le_of_ble_eq_true rfl) hs pk (C_at_ _ hp0 (i := j) (by first | exact hs.zF _ _ | exact Zor_r _ _ | exact hs.zA _ _ | assumption | exact zA _ _ | exact zS _ | exact Zr_not (hs.zA _ _) | exact hs.1.1 _ _ | exact ⟨by omega, by omega⟩)) (fun x q => ?_)
              obtain rfl := q
              have zl53 := D_Row.zat hs hp0 j
              show B_R _ _ (83, [(5, .int (Zi step)), (4, .int (Zi j)), (3, .int (Zi i)), (0, .ref o), (1, .ref o2), (2, .ref o3)], [.int (Zi (L_at ws j)), .int (Zi (L_at ys i))]) _ _ _
              refine Z_cgt rfl rfl (by first | exact hs.zF _ _ | exact Zor_r _ _ | exact hs.zA _ _ | assumption | exact zA _ _ | exact zS _ | exact Zr_not (hs.zA _ _) | exact hs.1.1 _ _ | exact ⟨by omega, by omega⟩) (by first | exact hs.zF _ _ | exact Zor_r _ _ | exact hs.zA _ _ | assumption | exact zA _ _ | exact zS _ | exact Zr_not (hs.zA _ _) | exact hs.1.1 _ _ | exact ⟨by omega, by omega⟩) (fun c99 => ?_) (fun c99 => ?_)
              · refine Z_go (f2 := (91, [(5, .int (Zi step)), (4, .int (Zi j)), (3, .int (Zi i)), (0, .ref o), (1, .ref o2), (2, .ref o3)], [.int (Zi 0)])) (fun _ => rfl) ?_
                refine Z_go (f2 := (93, [(6, .int (Zi 0)), (5, .int (Zi step)), (4, .int (Zi j)), (3, .int (Zi i)), (0, .ref o), (1, .ref o2), (2, .ref o3)], [])) (fun _ => rfl) ?_
                refine Z_go (f2 := (94, [(6, .int (Zi 0)), (5, .int (Zi step)), (4, .int (Zi j)), (3, .int (Zi i)), (0, .ref o), (1, .ref o2), (2, .ref o3)], [.int (Zi i)])) (fun _ => rfl) ?_
                refine Z_go (f2 := (95, [(6, .int (Zi 0)), (5, .int (Zi step)), (4, .int (Zi j)), (3, .int (Zi i)), (0, .ref o), (1, .ref o2), (2, .ref o3)], [.ref o2, .int (Zi i)])) (fun _ => rfl) ?_
                refine C_gi rfl hs qk (by decide) (Nat.le_of_ble_eq_true rfl) rfl ?_
                rw [show C_F (u) o2 1 = (ys.length : Int) from (by first | exact qm | exact (if_neg (fun e => absurd e.1 (by assumption))).trans qm)]
                show B_R _ _ (98, [(6, .int (Zi 0)), (5, .int (Zi step)), (4, .int (Zi j)), (3, .int (Zi i)), (0, .ref o), (1, .ref o2), (2, .ref o3)], [.int (Zi ((ys.length : Int))), .int (Zi i)]) _ _ _
                refine Z_cge rfl rfl (by first | exact hs.zF _ _ | exact Zor_r _ _ | exact hs.zA _ _ | assumption | exact zA _ _ | exact zS _ | exact Zr_not (hs.zA _ _) | exact hs.1.1 _ _ | exact ⟨by omega, by omega⟩) (by first | exact hs.zF _ _ | exact Zor_r _ _ | exact hs.zA _ _ | assumption | exact zA _ _ | exact zS _ | exact Zr_not (hs.zA _ _) | exact hs.1.1 _ _ | exact ⟨by omega, by omega⟩) (fun c100 => ?_) (fun c100 => ?_)
                · refine Z_go (f2 := (125, [(6, .int (Zi 0)), (5, .int (Zi step)), (4, .int (Zi j)), (3, .int (Zi i)), (0, .ref o), (1, .ref o2), (2, .ref o3)], [.int (Zi 1)])) (fun _ => rfl) ?_
                  refine Z_go (f2 := (129, [(6, .int (Zi 0)), (5, .int (Zi step)), (4, .int (Zi j)), (3, .int (Zi i)), (0, .ref o), (1, .ref o2), (2, .ref o3)], [.int (Zi 1)])) (fun _ => rfl) ?_
                  refine Z_go (f2 := (131, [(7, .int (Zi 1)), (6, .int (Zi 0)), (5, .int (Zi step)), (4, .int (Zi j)), (3, .int (Zi i)), (0, .ref o), (1, .ref o2), (2, .ref o3)], [])) (fun _ => rfl) ?_
                  refine Z_go (f2 := (132, [(7, .int (Zi 1)), (6, .int (Zi 0)), (5, .int (Zi step)), (4, .int (Zi j)), (3, .int (Zi i)), (0, .ref o), (1, .ref o2), (2, .ref o3)], [.ref o])) (fun _ => rfl) ?_
                  refine Z_go (f2 := (134, [(7, .int (Zi 1)), (6, .int (Zi 0)), (5, .int (Zi step)), (4, .int (Zi j)), (3, .int (Zi i)), (0, .ref o), (1, .ref o2), (2, .ref o3)], [.int (Zi 0), .ref o])) (fun _ => rfl) ?_
                  refine Z_ieq rfl rfl (by first | exact hs.zF _ _ | exact Zor_r _ _ | exact hs.zA _ _ | assumption | exact zA _ _ | exact zS _ | exact Zr_not (hs.zA _ _) | exact hs.1.1 _ _ | exact ⟨by omega, by omega⟩) (fun c101 => ?_) (fun c101 => ?_)
                  · refine Z_go (f2 := (146, [(7, .int (Zi 1)), (6, .int (Zi 0)), (5, .int (Zi step)), (4, .int (Zi j)), (3, .int (Zi i)), (0, .ref o), (1, .ref o2), (2, .ref o3)], [.ref o3, .ref o])) (fun _ => rfl) ?_
                    refine Z_go (f2 := (148, [(7, .int (Zi 1)), (6, .int (Zi 0)), (5, .int (Zi step)), (4, .int (Zi j)), (3, .int (Zi i)), (0, .ref o), (1, .ref o2), (2, .ref o3)], [.int (Zi j), .ref o3, .ref o])) (fun _ => rfl) ?_
                    refine C_callVR (As := [.int (Zi j)]) (rest := [.ref o]) rfl (by decide) rfl (by decide) rfl rfl (by decide +kernel) (Nat.le_of_ble_eq_true rfl) hs pk (C_at_ _ hp0 (i := j) (by first | exact hs.zF _ _ | exact Zor_r _ _ | exact hs.zA _ _ | assumption | exact zA _ _ | exact zS _ | exact Zr_not (hs.zA _ _) | exact hs.1.1 _ _ | exact ⟨by omega, by omega⟩)) (fun x q => ?_)
                    obtain rfl := q
                    have zl54 := D_Row.zat hs hp0 j
                    show B_R _ _ (151, [(7, .int (Zi 1)), (6, .int (Zi 0)), (5, .int (Zi step)), (4, .int (Zi j)), (3, .int (Zi i)), (0, .ref o), (1, .ref o2), (2, .ref o3)], [.int (Zi (L_at ws j)), .ref o]) _ _ _
                    refine C_callV (As := [.int (Zi (L_at ws j))]) (rest := []) rfl (by decide) rfl (by decide) rfl rfl (by decide +kernel) (Nat.le_of_ble_eq_true rfl) hs rk (C_push _ hr0 (v := L_at ws j) (by first | exact hs.zF _ _ | exact Zor_r _ _ | exact hs.zA _ _ | assumption | exact zA _ _ | exact zS _ | exact Zr_not (hs.zA _ _) | exact hs.1.1 _ _ | exact ⟨by omega, by omega⟩) (by omega)) (fun x h w n hs q => ?_)
                    obtain ⟨rfl, hw⟩ := q
                    show B_R _ _ (154, [(7, .int (Zi 1)), (6, .int (Zi 0)), (5, .int (Zi step)), (4, .int (Zi j)), (3, .int (Zi i)), (0, .ref o), (1, .ref o2), (2, .ref o3)], []) _ _ _
                    refine Z_go (f2 := (155, [(7, .int (Zi 1)), (6, .int (Zi 0)), (5, .int (Zi step)), (4, .int (Zi j)), (3, .int (Zi i)), (0, .ref o), (1, .ref o2), (2, .ref o3)], [.int (Zi i)])) (fun _ => rfl) ?_
                    refine Z_go (f2 := (157, [(7, .int (Zi 1)), (6, .int (Zi 0)), (5, .int (Zi step)), (4, .int (Zi j)), (3, .int (Zi i)), (0, .ref o), (1, .ref o2), (2, .ref o3)], [.int (Zi 0), .int (Zi i)])) (fun _ => rfl) ?_
                    refine Z_ieq rfl rfl (by first | exact hs.zF _ _ | exact Zor_r _ _ | exact hs.zA _ _ | assumption | exact zA _ _ | exact zS _ | exact Zr_not (hs.zA _ _) | exact hs.1.1 _ _ | exact ⟨by omega, by omega⟩) (fun c102 => ?_) (fun c102 => ?_)
                    · refine Z_go (f2 := (165, [(7, .int (Zi 1)), (6, .int (Zi 0)), (5, .int (Zi step)), (4, .int (Zi j)), (3, .int (Zi i)), (0, .ref o), (1, .ref o2), (2, .ref o3)], [.int (Zi 0), .int (Zi i)])) (fun _ => rfl) ?_
                      refine Z_iadd rfl ?_
                      refine Z_go (f2 := (167, [(3, .int (Zi (i + 0))), (7, .int (Zi 1)), (6, .int (Zi 0)), (5, .int (Zi step)), (4, .int (Zi j)), (0, .ref o), (1, .ref o2), (2, .ref o3)], [])) (fun _ => rfl) ?_
                      refine Z_go (f2 := (169, [(3, .int (Zi (i + 0))), (7, .int (Zi 1)), (6, .int (Zi 0)), (5, .int (Zi step)), (4, .int (Zi j)), (0, .ref o), (1, .ref o2), (2, .ref o3)], [.int (Zi j)])) (fun _ => rfl) ?_
                      refine Z_go (f2 := (171, [(3, .int (Zi (i + 0))), (7, .int (Zi 1)), (6, .int (Zi 0)), (5, .int (Zi step)), (4, .int (Zi j)), (0, .ref o), (1, .ref o2), (2, .ref o3)], [.int (Zi 1), .int (Zi j)])) (fun _ => rfl) ?_
                      refine Z_ieq rfl rfl (by first | exact hs.zF _ _ | exact Zor_r _ _ | exact hs.zA _ _ | assumption | exact zA _ _ | exact zS _ | exact Zr_not (hs.zA _ _) | exact hs.1.1 _ _ | exact ⟨by omega, by omega⟩) (fun c103 => ?_) (fun c103 => ?_)
                      · exfalso; omega
                      · refine Z_go (f2 := (175, [(3, .int (Zi (i + 0))), (7, .int (Zi 1)), (6, .int (Zi 0)), (5, .int (Zi step)), (4, .int (Zi j)), (0, .ref o), (1, .ref o2), (2, .ref o3)], [.int (Zi 1), .int (Zi j)])) (fun _ => rfl) ?_
                        refine Z_go (f2 := (179, [(3, .int (Zi (i + 0))), (7, .int (Zi 1)), (6, .int (Zi 0)), (5, .int (Zi step)), (4, .int (Zi j)), (0, .ref o), (1, .ref o2), (2, .ref o3)], [.int (Zi 1), .int (Zi j)])) (fun _ => rfl) ?_
                        refine Z_iadd rfl ?_
                        refine Z_go (f2 := (182, [(4, .int (Zi (j + 1))), (3, .int (Zi (i + 0))), (7, .int (Zi 1)), (6, .int (Zi 0)), (5, .int (Zi step)), (0, .ref o), (1, .ref o2), (2, .ref o3)], [])) (fun _ => rfl) ?_
                        refine Z_iinc (L2 := [(5, .int (Zi (step + (-1)))), (4, .int (Zi (j + 1))), (3, .int (Zi (i + 0))), (7, .int (Zi 1)), (6, .int (Zi 0)), (0, .ref o), (1, .ref o2), (2, .ref o3)]) rfl rfl (by decide) rfl ?_
                        refine C_goto (p2 := 33) rfl (by decide +kernel) (by decide +kernel) ?_
                        first
                        | (exfalso; omega)
                        | (refine B_loc (K := [(5, .int (Zi (step + (-1)))), (4, .int (Zi (j + 1))), (3, .int (Zi (i + 0))), (0, .ref o), (1, .ref o2), (2, .ref o3)]) (N_all_sub ⟨rfl, rfl, rfl, rfl, rfl, rfl, trivial⟩) (show ([5, 4, 3, 0, 1, 2] : List Nat).Nodup by decide) ?_
                           have mg2 : L_mg ys ws (zs ++ [L_at ws j]) (i + 0) (j + 1) := L_mg_st sy sw mg i0 j0 (fun z hz => (hlast z hz).2 (by omega)) (by omega) (by omega) (by omega)
                           have hw := D_rw.tr fr g1 g2 g3 hr0 hw (by omega)
                           obtain ⟨a5, cap5, e1, e2, e3, e4, e5⟩ := hw
                           exact ih _ _ _ w _ _ a5 cap5 _ (by omega) hs e1 e2 e3 e4 e5 mg2 (by omega) (by omega) (by omega) (by omega) (by omega) (by omega))
                    · exfalso; omega
                  · exfalso; omega
                · refine Z_go (f2 := (103, [(6, .int (Zi 0)), (5, .int (Zi step)), (4, .int (Zi j)), (3, .int (Zi i)), (0, .ref o), (1, .ref o2), (2, .ref o3)], [.int (Zi j)])) (fun _ => rfl) ?_
                  refine Z_go (f2 := (104, [(6, .int (Zi 0)), (5, .int (Zi step)), (4, .int (Zi j)), (3, .int (Zi i)), (0, .ref o), (1, .ref o2), (2, .ref o3)], [.ref o3, .int (Zi j)])) (fun _ => rfl) ?_
                  refine C_gi rfl hs pk (by decide) (Nat.le_of_ble_eq_true rfl) rfl ?_
                  rw [show C_F (u) o3 1 = (ws.length : Int) from (by first | exact pm | exact (if_neg (fun e => absurd e.1 (by assumption))).trans pm)]
                  show B_R _ _ (107, [(6, .int (Zi 0)), (5, .int (Zi step)), (4, .int (Zi j)), (3, .int (Zi i)), (0, .ref o), (1, .ref o2), (2, .ref o3)], [.int (Zi ((ws.length : Int))), .int (Zi j)]) _ _ _
                  refine Z_cge rfl rfl (by first | exact hs.zF _ _ | exact Zor_r _ _ | exact hs.zA _ _ | assumption | exact zA _ _ | exact zS _ | exact Zr_not (hs.zA _ _) | exact hs.1.1 _ _ | exact ⟨by omega, by omega⟩) (by first | exact hs.zF _ _ | exact Zor_r _ _ | exact hs.zA _ _ | assumption | exact zA _ _ | exact zS _ | exact Zr_not (hs.zA _ _) | exact hs.1.1 _ _ | exact ⟨by omega, by omega⟩) (fun c104 => ?_) (fun c104 => ?_)
                  · refine Z_go (f2 := (129, [(6, .int (Zi 0)), (5, .int (Zi step)), (4, .int (Zi j)), (3, .int (Zi i)), (0, .ref o), (1, .ref o2), (2, .ref o3)], [.int (Zi 0)])) (fun _ => rfl) ?_
                    refine Z_go (f2 := (131, [(7, .int (Zi 0)), (6, .int (Zi 0)), (5, .int (Zi step)), (4, .int (Zi j)), (3, .int (Zi i)), (0, .ref o), (1, .ref o2), (2, .ref o3)], [])) (fun _ => rfl) ?_
                    refine Z_go (f2 := (132, [(7, .int (Zi 0)), (6, .int (Zi 0)), (5, .int (Zi step)), (4, .int (Zi j)), (3, .int (Zi i)), (0, .ref o), (1, .ref o2), (2, .ref o3)], [.ref o])) (fun _ => rfl) ?_
                    refine Z_go (f2 := (134, [(7, .int (Zi 0)), (6, .int (Zi 0)), (5, .int (Zi step)), (4, .int (Zi j)), (3, .int (Zi i)), (0, .ref o), (1, .ref o2), (2, .ref o3)], [.int (Zi 0), .ref o])) (fun _ => rfl) ?_
                    refine Z_ieq rfl rfl (by first | exact hs.zF _ _ | exact Zor_r _ _ | exact hs.zA _ _ | assumption | exact zA _ _ | exact zS _ | exact Zr_not (hs.zA _ _) | exact hs.1.1 _ _ | exact ⟨by omega, by omega⟩) (fun c105 => ?_) (fun c105 => ?_)
                    · refine Z_go (f2 := (146, [(7, .int (Zi 0)), (6, .int (Zi 0)), (5, .int (Zi step)), (4, .int (Zi j)), (3, .int (Zi i)), (0, .ref o), (1, .ref o2), (2, .ref o3)], [.ref o3, .ref o])) (fun _ => rfl) ?_
                      refine Z_go (f2 := (148, [(7, .int (Zi 0)), (6, .int (Zi 0)), (5, .int (Zi step)), (4, .int (Zi j)), (3, .int (Zi i)), (0, .ref o), (1, .ref o2), (2, .ref o3)], [.int (Zi j), .ref o3, .ref o])) (fun _ => rfl) ?_
                      refine C_callVR (As := [.int (Zi j)]) (rest := [.ref o]) rfl (by decide) rfl (by decide) rfl rfl (by decide +kernel) (Nat.le_of_ble_eq_true rfl) hs pk (C_at_ _ hp0 (i := j) (by first | exact hs.zF _ _ | exact Zor_r _ _ | exact hs.zA _ _ | assumption | exact zA _ _ | exact zS _ | exact Zr_not (hs.zA _ _) | exact hs.1.1 _ _ | exact ⟨by omega, by omega⟩)) (fun x q => ?_)
                      obtain rfl := q
                      have zl55 := D_Row.zat hs hp0 j
                      show B_R _ _ (151, [(7, .int (Zi 0)), (6, .int (Zi 0)), (5, .int (Zi step)), (4, .int (Zi j)), (3, .int (Zi i)), (0, .ref o), (1, .ref o2), (2, .ref o3)], [.int (Zi (L_at ws j)), .ref o]) _ _ _
                      refine C_callV (As := [.int (Zi (L_at ws j))]) (rest := []) rfl (by decide) rfl (by decide) rfl rfl (by decide +kernel) (Nat.le_of_ble_eq_true rfl) hs rk (C_push _ hr0 (v := L_at ws j) (by first | exact hs.zF _ _ | exact Zor_r _ _ | exact hs.zA _ _ | assumption | exact zA _ _ | exact zS _ | exact Zr_not (hs.zA _ _) | exact hs.1.1 _ _ | exact ⟨by omega, by omega⟩) (by omega)) (fun x h w n hs q => ?_)
                      obtain ⟨rfl, hw⟩ := q
                      show B_R _ _ (154, [(7, .int (Zi 0)), (6, .int (Zi 0)), (5, .int (Zi step)), (4, .int (Zi j)), (3, .int (Zi i)), (0, .ref o), (1, .ref o2), (2, .ref o3)], []) _ _ _
                      refine Z_go (f2 := (155, [(7, .int (Zi 0)), (6, .int (Zi 0)), (5, .int (Zi step)), (4, .int (Zi j)), (3, .int (Zi i)), (0, .ref o), (1, .ref o2), (2, .ref o3)], [.int (Zi i)])) (fun _ => rfl) ?_
                      refine Z_go (f2 := (157, [(7, .int (Zi 0)), (6, .int (Zi 0)), (5, .int (Zi step)), (4, .int (Zi j)), (3, .int (Zi i)), (0, .ref o), (1, .ref o2), (2, .ref o3)], [.int (Zi 0), .int (Zi i)])) (fun _ => rfl) ?_
                      refine Z_ieq rfl rfl (by first | exact hs.zF _ _ | exact Zor_r _ _ | exact hs.zA _ _ | assumption | exact zA _ _ | exact zS _ | exact Zr_not (hs.zA _ _) | exact hs.1.1 _ _ | exact ⟨by omega, by omega⟩) (fun c106 => ?_) (fun c106 => ?_)
                      · refine Z_go (f2 := (165, [(7, .int (Zi 0)), (6, .int (Zi 0)), (5, .int (Zi step)), (4, .int (Zi j)), (3, .int (Zi i)), (0, .ref o), (1, .ref o2), (2, .ref o3)], [.int (Zi 0), .int (Zi i)])) (fun _ => rfl) ?_
                        refine Z_iadd rfl ?_
                        refine Z_go (f2 := (167, [(3, .int (Zi (i + 0))), (7, .int (Zi 0)), (6, .int (Zi 0)), (5, .int (Zi step)), (4, .int (Zi j)), (0, .ref o), (1, .ref o2), (2, .ref o3)], [])) (fun _ => rfl) ?_
                        refine Z_go (f2 := (169, [(3, .int (Zi (i + 0))), (7, .int (Zi 0)), (6, .int (Zi 0)), (5, .int (Zi step)), (4, .int (Zi j)), (0, .ref o), (1, .ref o2), (2, .ref o3)], [.int (Zi j)])) (fun _ => rfl) ?_
                        refine Z_go (f2 := (171, [(3, .int (Zi (i + 0))), (7, .int (Zi 0)), (6, .int (Zi 0)), (5, .int (Zi step)), (4, .int (Zi j)), (0, .ref o), (1, .ref o2), (2, .ref o3)], [.int (Zi 0), .int (Zi j)])) (fun _ => rfl) ?_
                        refine Z_ieq rfl rfl (by first | exact hs.zF _ _ | exact Zor_r _ _ | exact hs.zA _ _ | assumption | exact zA _ _ | exact zS _ | exact Zr_not (hs.zA _ _) | exact hs.1.1 _ _ | exact ⟨by omega, by omega⟩) (fun c107 => ?_) (fun c107 => ?_)
                        · refine Z_go (f2 := (179, [(3, .int (Zi (i + 0))), (7, .int (Zi 0)), (6, .int (Zi 0)), (5, .int (Zi step)), (4, .int (Zi j)), (0, .ref o), (1, .ref o2), (2, .ref o3)], [.int (Zi 0), .int (Zi j)])) (fun _ => rfl) ?_
                          refine Z_iadd rfl ?_
                          refine Z_go (f2 := (182, [(4, .int (Zi (j + 0))), (3, .int (Zi (i + 0))), (7, .int (Zi 0)), (6, .int (Zi 0)), (5, .int (Zi step)), (0, .ref o), (1, .ref o2), (2, .ref o3)], [])) (fun _ => rfl) ?_
                          refine Z_iinc (L2 := [(5, .int (Zi (step + (-1)))), (4, .int (Zi (j + 0))), (3, .int (Zi (i + 0))), (7, .int (Zi 0)), (6, .int (Zi 0)), (0, .ref o), (1, .ref o2), (2, .ref o3)]) rfl rfl (by decide) rfl ?_
                          refine C_goto (p2 := 33) rfl (by decide +kernel) (by decide +kernel) ?_
                          first
                          | (exfalso; omega)
                          | (refine B_loc (K := [(5, .int (Zi (step + (-1)))), (4, .int (Zi (j + 0))), (3, .int (Zi (i + 0))), (0, .ref o), (1, .ref o2), (2, .ref o3)]) (N_all_sub ⟨rfl, rfl, rfl, rfl, rfl, rfl, trivial⟩) (show ([5, 4, 3, 0, 1, 2] : List Nat).Nodup by decide) ?_
                             have mg2 : L_mg ys ws (zs ++ [L_at ws j]) (i + 0) (j + 0) := L_mg_st sy sw mg i0 j0 (fun z hz => (hlast z hz).2 (by omega)) (by omega) (by omega) (by omega)
                             have hw := D_rw.tr fr g1 g2 g3 hr0 hw (by omega)
                             obtain ⟨a5, cap5, e1, e2, e3, e4, e5⟩ := hw
                             exact ih _ _ _ w _ _ a5 cap5 _ (by omega) hs e1 e2 e3 e4 e5 mg2 (by omega) (by omega) (by omega) (by omega) (by omega) (by omega))
                        · exfalso; omega
                      · exfalso; omega
                    · exfalso; omega
                  · refine Z_go (f2 := (111, [(6, .int (Zi 0)), (5, .int (Zi step)), (4, .int (Zi j)), (3, .int (Zi i)), (0, .ref o), (1, .ref o2), (2, .ref o3)], [.ref o3])) (fun _ => rfl) ?_
                    refine Z_go (f2 := (113, [(6, .int (Zi 0)), (5, .int (Zi step)), (4, .int (Zi j)), (3, .int (Zi i)), (0, .ref o), (1, .ref o2), (2, .ref o3)], [.int (Zi j), .ref o3])) (fun _ => rfl) ?_
                    refine C_callVR (As := [.int (Zi j)]) (rest := []) rfl (by decide) rfl (by decide) rfl rfl (by decide +kernel) (Nat.le_of_ble_eq_true rfl) hs pk (C_at_ _ hp0 (i := j) (by first | exact hs.zF _ _ | exact Zor_r _ _ | exact hs.zA _ _ | assumption | exact zA _ _ | exact zS _ | exact Zr_not (hs.zA _ _) | exact hs.1.1 _ _ | exact ⟨by omega, by omega⟩)) (fun x q => ?_)
                    obtain rfl := q
                    have zl56 := D_Row.zat hs hp0 j
                    show B_R _ _ (116, [(6, .int (Zi 0)), (5, .int (Zi step)), (4, .int (Zi j)), (3, .int (Zi i)), (0, .ref o), (1, .ref o2), (2, .ref o3)], [.int (Zi (L_at ws j))]) _ _ _
                    refine Z_go (f2 := (117, [(6, .int (Zi 0)), (5, .int (Zi step)), (4, .int (Zi j)), (3, .int (Zi i)), (0, .ref o), (1, .ref o2), (2, .ref o3)], [.ref o2, .int (Zi (L_at ws j))])) (fun _ => rfl) ?_
                    refine Z_go (f2 := (118, [(6, .int (Zi 0)), (5, .int (Zi step)), (4, .int (Zi j)), (3, .int (Zi i)), (0, .ref o), (1, .ref o2), (2, .ref o3)], [.int (Zi i), .ref o2, .int (Zi (L_at ws j))])) (fun _ => rfl) ?_
                    refine C_callVR (As := [.int (Zi i)]) (rest := [.int (Zi (L_at ws j))]) rfl (by decide) rfl (by decide) rfl rfl (by decide +kernel) (Nat.le_of_ble_eq_true rfl) hs qk (C_at_ _ hq0 (i := i) (by first | exact hs.zF _ _ | exact Zor_r _ _ | exact hs.zA _ _ | assumption | exact zA _ _ | exact zS _ | exact Zr_not (hs.zA _ _) | exact hs.1.1 _ _ | exact ⟨by omega, by omega⟩)) (fun x q => ?_)
                    obtain rfl := q
                    have zl57 := D_Row.zat hs hq0 i
                    show B_R _ _ (121, [(6, .int (Zi 0)), (5, .int (Zi step)), (4, .int (Zi j)), (3, .int (Zi i)), (0, .ref o), (1, .ref o2), (2, .ref o3)], [.int (Zi (L_at ys i)), .int (Zi (L_at ws j))]) _ _ _
                    refine Z_cgt rfl rfl (by first | exact hs.zF _ _ | exact Zor_r _ _ | exact hs.zA _ _ | assumption | exact zA _ _ | exact zS _ | exact Zr_not (hs.zA _ _) | exact hs.1.1 _ _ | exact ⟨by omega, by omega⟩) (by first | exact hs.zF _ _ | exact Zor_r _ _ | exact hs.zA _ _ | assumption | exact zA _ _ | exact zS _ | exact Zr_not (hs.zA _ _) | exact hs.1.1 _ _ | exact ⟨by omega, by omega⟩) (fun c108 => ?_) (fun c108 => ?_)
                    · refine Z_go (f2 := (129, [(6, .int (Zi 0)), (5, .int (Zi step)), (4, .int (Zi j)), (3, .int (Zi i)), (0, .ref o), (1, .ref o2), (2, .ref o3)], [.int (Zi 0)])) (fun _ => rfl) ?_
                      refine Z_go (f2 := (131, [(7, .int (Zi 0)), (6, .int (Zi 0)), (5, .int (Zi step)), (4, .int (Zi j)), (3, .int (Zi i)), (0, .ref o), (1, .ref o2), (2, .ref o3)], [])) (fun _ => rfl) ?_
                      refine Z_go (f2 := (132, [(7, .int (Zi 0)), (6, .int (Zi 0)), (5, .int (Zi step)), (4, .int (Zi j)), (3, .int (Zi i)), (0, .ref o), (1, .ref o2), (2, .ref o3)], [.ref o])) (fun _ => rfl) ?_
                      refine Z_go (f2 := (134, [(7, .int (Zi 0)), (6, .int (Zi 0)), (5, .int (Zi step)), (4, .int (Zi j)), (3, .int (Zi i)), (0, .ref o), (1, .ref o2), (2, .ref o3)], [.int (Zi 0), .ref o])) (fun _ => rfl) ?_
                      refine Z_ieq rfl rfl (by first | exact hs.zF _ _ | exact Zor_r _ _ | exact hs.zA _ _ | assumption | exact zA _ _ | exact zS _ | exact Zr_not (hs.zA _ _) | exact hs.1.1 _ _ | exact ⟨by omega, by omega⟩) (fun c109 => ?_) (fun c109 => ?_)
                      · refine Z_go (f2 := (146, [(7, .int (Zi 0)), (6, .int (Zi 0)), (5, .int (Zi step)), (4, .int (Zi j)), (3, .int (Zi i)), (0, .ref o), (1, .ref o2), (2, .ref o3)], [.ref o3, .ref o])) (fun _ => rfl) ?_
                        refine Z_go (f2 := (148, [(7, .int (Zi 0)), (6, .int (Zi 0)), (5, .int (Zi step)), (4, .int (Zi j)), (3, .int (Zi i)), (0, .ref o), (1, .ref o2), (2, .ref o3)], [.int (Zi j), .ref o3, .ref o])) (fun _ => rfl) ?_
                        refine C_callVR (As := [.int (Zi j)]) (rest := [.ref o]) rfl (by decide) rfl (by decide) rfl rfl (by decide +kernel) (Nat.le_of_ble_eq_true rfl) hs pk (C_at_ _ hp0 (i := j) (by first | exact hs.zF _ _ | exact Zor_r _ _ | exact hs.zA _ _ | assumption | exact zA _ _ | exact zS _ | exact Zr_not (hs.zA _ _) | exact hs.1.1 _ _ | exact ⟨by omega, by omega⟩)) (fun x q => ?_)
                        obtain rfl := q
                        have zl58 := D_Row.zat hs hp0 j
                        show B_R _ _ (151, [(7, .int (Zi 0)), (6, .int (Zi 0)), (5, .int (Zi step)), (4, .int (Zi j)), (3, .int (Zi i)), (0, .ref o), (1, .ref o2), (2, .ref o3)], [.int (Zi (L_at ws j)), .ref o]) _ _ _
                        refine C_callV (As := [.int (Zi (L_at ws j))]) (rest := []) rfl (by decide) rfl (by decide) rfl rfl (by decide +kernel) (Nat.le_of_ble_eq_true rfl) hs rk (C_push _ hr0 (v := L_at ws j) (by first | exact hs.zF _ _ | exact Zor_r _ _ | exact hs.zA _ _ | assumption | exact zA _ _ | exact zS _ | exact Zr_not (hs.zA _ _) | exact hs.1.1 _ _ | exact ⟨by omega, by omega⟩) (by omega)) (fun x h w n hs q => ?_)
                        obtain ⟨rfl, hw⟩ := q
                        show B_R _ _ (154, [(7, .int (Zi 0)), (6, .int (Zi 0)), (5, .int (Zi step)), (4, .int (Zi j)), (3, .int (Zi i)), (0, .ref o), (1, .ref o2), (2, .ref o3)], []) _ _ _
                        refine Z_go (f2 := (155, [(7, .int (Zi 0)), (6, .int (Zi 0)), (5, .int (Zi step)), (4, .int (Zi j)), (3, .int (Zi i)), (0, .ref o), (1, .ref o2), (2, .ref o3)], [.int (Zi i)])) (fun _ => rfl) ?_
                        refine Z_go (f2 := (157, [(7, .int (Zi 0)), (6, .int (Zi 0)), (5, .int (Zi step)), (4, .int (Zi j)), (3, .int (Zi i)), (0, .ref o), (1, .ref o2), (2, .ref o3)], [.int (Zi 0), .int (Zi i)])) (fun _ => rfl) ?_
                        refine Z_ieq rfl rfl (by first | exact hs.zF _ _ | exact Zor_r _ _ | exact hs.zA _ _ | assumption | exact zA _ _ | exact zS _ | exact Zr_not (hs.zA _ _) | exact hs.1.1 _ _ | exact ⟨by omega, by omega⟩) (fun c110 => ?_) (fun c110 => ?_)
                        · refine Z_go (f2 := (165, [(7, .int (Zi 0)), (6, .int (Zi 0)), (5, .int (Zi step)), (4, .int (Zi j)), (3, .int (Zi i)), (0, .ref o), (1, .ref o2), (2, .ref o3)], [.int (Zi 0), .int (Zi i)])) (fun _ => rfl) ?_
                          refine Z_iadd rfl ?_
                          refine Z_go (f2 := (167, [(3, .int (Zi (i + 0))), (7, .int (Zi 0)), (6, .int (Zi 0)), (5, .int (Zi step)), (4, .int (Zi j)), (0, .ref o), (1, .ref o2), (2, .ref o3)], [])) (fun _ => rfl) ?_
                          refine Z_go (f2 := (169, [(3, .int (Zi (i + 0))), (7, .int (Zi 0)), (6, .int (Zi 0)), (5, .int (Zi step)), (4, .int (Zi j)), (0, .ref o), (1, .ref o2), (2, .ref o3)], [.int (Zi j)])) (fun _ => rfl) ?_
                          refine Z_go (f2 := (171, [(3, .int (Zi (i + 0))), (7, .int (Zi 0)), (6, .int (Zi 0)), (5, .int (Zi step)), (4, .int (Zi j)), (0, .ref o), (1, .ref o2), (2, .ref o3)], [.int (Zi 0), .int (Zi j)])) (fun _ => rfl) ?_
                          refine Z_ieq rfl rfl (by first | exact hs.zF _ _ | exact Zor_r _ _ | exact hs.zA _ _ | assumption | exact zA _ _ | exact zS _ | exact Zr_not (hs.zA _ _) | exact hs.1.1 _ _ | exact ⟨by omega, by omega⟩) (fun c111 => ?_) (fun c111 => ?_)
                          · refine Z_go (f2 := (179, [(3, .int (Zi (i + 0))), (7, .int (Zi 0)), (6, .int (Zi 0)), (5, .int (Zi step)), (4, .int (Zi j)), (0, .ref o), (1, .ref o2), (2, .ref o3)], [.int (Zi 0), .int (Zi j)])) (fun _ => rfl) ?_
                            refine Z_iadd rfl ?_
                            refine Z_go (f2 := (182, [(4, .int (Zi (j + 0))), (3, .int (Zi (i + 0))), (7, .int (Zi 0)), (6, .int (Zi 0)), (5, .int (Zi step)), (0, .ref o), (1, .ref o2), (2, .ref o3)], [])) (fun _ => rfl) ?_
                            refine Z_iinc (L2 := [(5, .int (Zi (step + (-1)))), (4, .int (Zi (j + 0))), (3, .int (Zi (i + 0))), (7, .int (Zi 0)), (6, .int (Zi 0)), (0, .ref o), (1, .ref o2), (2, .ref o3)]) rfl rfl (by decide) rfl ?_
                            refine C_goto (p2 := 33) rfl (by decide +kernel) (by decide +kernel) ?_
                            first
                            | (exfalso; omega)
                            | (refine B_loc (K := [(5, .int (Zi (step + (-1)))), (4, .int (Zi (j + 0))), (3, .int (Zi (i + 0))), (0, .ref o), (1, .ref o2), (2, .ref o3)]) (N_all_sub ⟨rfl, rfl, rfl, rfl, rfl, rfl, trivial⟩) (show ([5, 4, 3, 0, 1, 2] : List Nat).Nodup by decide) ?_
                               have mg2 : L_mg ys ws (zs ++ [L_at ws j]) (i + 0) (j + 0) := L_mg_st sy sw mg i0 j0 (fun z hz => (hlast z hz).2 (by omega)) (by omega) (by omega) (by omega)
                               have hw := D_rw.tr fr g1 g2 g3 hr0 hw (by omega)
                               obtain ⟨a5, cap5, e1, e2, e3, e4, e5⟩ := hw
                               exact ih _ _ _ w _ _ a5 cap5 _ (by omega) hs e1 e2 e3 e4 e5 mg2 (by omega) (by omega) (by omega) (by omega) (by omega) (by omega))
                          · exfalso; omega
                        · exfalso; omega
                      · exfalso; omega
                    · refine Z_go (f2 := (125, [(6, .int (Zi 0)), (5, .int (Zi step)), (4, .int (Zi j)), (3, .int (Zi i)), (0, .ref o), (1, .ref o2), (2, .ref o3)], [.int (Zi 1)])) (fun _ => rfl) ?_
                      refine Z_go (f2 := (129, [(6, .int (Zi 0)), (5, .int (Zi step)), (4, .int (Zi j)), (3, .int (Zi i)), (0, .ref o), (1, .ref o2), (2, .ref o3)], [.int (Zi 1)])) (fun _ => rfl) ?_
                      refine Z_go (f2 := (131, [(7, .int (Zi 1)), (6, .int (Zi 0)), (5, .int (Zi step)), (4, .int (Zi j)), (3, .int (Zi i)), (0, .ref o), (1, .ref o2), (2, .ref o3)], [])) (fun _ => rfl) ?_
                      refine Z_go (f2 := (132, [(7, .int (Zi 1)), (6, .int (Zi 0)), (5, .int (Zi step)), (4, .int (Zi j)), (3, .int (Zi i)), (0, .ref o), (1, .ref o2), (2, .ref o3)], [.ref o])) (fun _ => rfl) ?_
                      refine Z_go (f2 := (134, [(7, .int (Zi 1)), (6, .int (Zi 0)), (5, .int (Zi step)), (4, .int (Zi j)), (3, .int (Zi i)), (0, .ref o), (1, .ref o2), (2, .ref o3)], [.int (Zi 0), .ref o])) (fun _ => rfl) ?_
                      refine Z_ieq rfl rfl (by first | exact hs.zF _ _ | exact Zor_r _ _ | exact hs.zA _ _ | assumption | exact zA _ _ | exact zS _ | exact Zr_not (hs.zA _ _) | exact hs.1.1 _ _ | exact ⟨by omega, by omega⟩) (fun c112 => ?_) (fun c112 => ?_)
                      · refine Z_go (f2 := (146, [(7, .int (Zi 1)), (6, .int (Zi 0)), (5, .int (Zi step)), (4, .int (Zi j)), (3, .int (Zi i)), (0, .ref o), (1, .ref o2), (2, .ref o3)], [.ref o3, .ref o])) (fun _ => rfl) ?_
                        refine Z_go (f2 := (148, [(7, .int (Zi 1)), (6, .int (Zi 0)), (5, .int (Zi step)), (4, .int (Zi j)), (3, .int (Zi i)), (0, .ref o), (1, .ref o2), (2, .ref o3)], [.int (Zi j), .ref o3, .ref o])) (fun _ => rfl) ?_
                        refine C_callVR (As := [.int (Zi j)]) (rest := [.ref o]) rfl (by decide) rfl (by decide) rfl rfl (by decide +kernel) (Nat.le_of_ble_eq_true rfl) hs pk (C_at_ _ hp0 (i := j) (by first | exact hs.zF _ _ | exact Zor_r _ _ | exact hs.zA _ _ | assumption | exact zA _ _ | exact zS _ | exact Zr_not (hs.zA _ _) | exact hs.1.1 _ _ | exact ⟨by omega, by omega⟩)) (fun x q => ?_)
                        obtain rfl := q
                        have zl59 := D_Row.zat hs hp0 j
                        show B_R _ _ (151, [(7, .int (Zi 1)), (6, .int (Zi 0)), (5, .int (Zi step)), (4, .int (Zi j)), (3, .int (Zi i)), (0, .ref o), (1, .ref o2), (2, .ref o3)], [.int (Zi (L_at ws j)), .ref o]) _ _ _
                        refine C_callV (As := [.int (Zi (L_at ws j))]) (rest := []) rfl (by decide) rfl (by decide) rfl rfl (by decide +kernel) (Nat.le_of_ble_eq_true rfl) hs rk (C_push _ hr0 (v := L_at ws j) (by first | exact hs.zF _ _ | exact Zor_r _ _ | exact hs.zA _ _ | assumption | exact zA _ _ | exact zS _ | exact Zr_not (hs.zA _ _) | exact hs.1.1 _ _ | exact ⟨by omega, by omega⟩) (by omega)) (fun x h w n hs q => ?_)
                        obtain ⟨rfl, hw⟩ := q
                        show B_R _ _ (154, [(7, .int (Zi 1)), (6, .int (Zi 0)), (5, .int (Zi step)), (4, .int (Zi j)), (3, .int (Zi i)), (0, .ref o), (1, .ref o2), (2, .ref o3)], []) _ _ _
                        refine Z_go (f2 := (155, [(7, .int (Zi 1)), (6, .int (Zi 0)), (5, .int (Zi step)), (4, .int (Zi j)), (3, .int (Zi i)), (0, .ref o), (1, .ref o2), (2, .ref o3)], [.int (Zi i)])) (fun _ => rfl) ?_
                        refine Z_go (f2 := (157, [(7, .int (Zi 1)), (6, .int (Zi 0)), (5, .int (Zi step)), (4, .int (Zi j)), (3, .int (Zi i)), (0, .ref o), (1, .ref o2), (2, .ref o3)], [.int (Zi 0), .int (Zi i)])) (fun _ => rfl) ?_
                        refine Z_ieq rfl rfl (by first | exact hs.zF _ _ | exact Zor_r _ _ | exact hs.zA _ _ | assumption | exact zA _ _ | exact zS _ | exact Zr_not (hs.zA _ _) | exact hs.1.1 _ _ | exact ⟨by omega, by omega⟩) (fun c113 => ?_) (fun c113 => ?_)
                        · refine Z_go (f2 := (165, [(7, .int (Zi 1)), (6, .int (Zi 0)), (5, .int (Zi step)), (4, .int (Zi j)), (3, .int (Zi i)), (0, .ref o), (1, .ref o2), (2, .ref o3)], [.int (Zi 0), .int (Zi i)])) (fun _ => rfl) ?_
                          refine Z_iadd rfl ?_
                          refine Z_go (f2 := (167, [(3, .int (Zi (i + 0))), (7, .int (Zi 1)), (6, .int (Zi 0)), (5, .int (Zi step)), (4, .int (Zi j)), (0, .ref o), (1, .ref o2), (2, .ref o3)], [])) (fun _ => rfl) ?_
                          refine Z_go (f2 := (169, [(3, .int (Zi (i + 0))), (7, .int (Zi 1)), (6, .int (Zi 0)), (5, .int (Zi step)), (4, .int (Zi j)), (0, .ref o), (1, .ref o2), (2, .ref o3)], [.int (Zi j)])) (fun _ => rfl) ?_
                          refine Z_go (f2 := (171, [(3, .int (Zi (i + 0))), (7, .int (Zi 1)), (6, .int (Zi 0)), (5, .int (Zi step)), (4, .int (Zi j)), (0, .ref o), (1, .ref o2), (2, .ref o3)], [.int (Zi 1), .int (Zi j)])) (fun _ => rfl) ?_
                          refine Z_ieq rfl rfl (by first | exact hs.zF _ _ | exact Zor_r _ _ | exact hs.zA _ _ | assumption | exact zA _ _ | exact zS _ | exact Zr_not (hs.zA _ _) | exact hs.1.1 _ _ | exact ⟨by omega, by omega⟩) (fun c114 => ?_) (fun c114 => ?_)
                          · exfalso; omega
                          · refine Z_go (f2 := (175, [(3, .int (Zi (i + 0))), (7, .int (Zi 1)), (6, .int (Zi 0)), (5, .int (Zi step)), (4, .int (Zi j)), (0, .ref o), (1, .ref o2), (2, .ref o3)], [.int (Zi 1), .int (Zi j)])) (fun _ => rfl) ?_
                            refine Z_go (f2 := (179, [(3, .int (Zi (i + 0))), (7, .int (Zi 1)), (6, .int (Zi 0)), (5, .int (Zi step)), (4, .int (Zi j)), (0, .ref o), (1, .ref o2), (2, .ref o3)], [.int (Zi 1), .int (Zi j)])) (fun _ => rfl) ?_
                            refine Z_iadd rfl ?_
                            refine Z_go (f2 := (182, [(4, .int (Zi (j + 1))), (3, .int (Zi (i + 0))), (7, .int (Zi 1)), (6, .int (Zi 0)), (5, .int (Zi step)), (0, .ref o), (1, .ref o2), (2, .ref o3)], [])) (fun _ => rfl) ?_
                            refine Z_iinc (L2 := [(5, .int (Zi (step + (-1)))), (4, .int (Zi (j + 1))), (3, .int (Zi (i + 0))), (7, .int (Zi 1)), (6, .int (Zi 0)), (0, .ref o), (1, .ref o2), (2, .ref o3)]) rfl rfl (by decide) rfl ?_
                            refine C_goto (p2 := 33) rfl (by decide +kernel) (by decide +kernel) ?_
                            first
                            | (exfalso; omega)
                            | (refine B_loc (K := [(5, .int (Zi (step + (-1)))), (4, .int (Zi (j + 1))), (3, .int (Zi (i + 0))), (0, .ref o), (1, .ref o2), (2, .ref o3)]) (N_all_sub ⟨rfl, rfl, rfl, rfl, rfl, rfl, trivial⟩) (show ([5, 4, 3, 0, 1, 2] : List Nat).Nodup by decide) ?_
                               have mg2 : L_mg ys ws (zs ++ [L_at ws j]) (i + 0) (j + 1) := L_mg_st sy sw mg i0 j0 (fun z hz => (hlast z hz).2 (by omega)) (by omega) (by omega) (by omega)
                               have hw := D_rw.tr fr g1 g2 g3 hr0 hw (by omega)
                               obtain ⟨a5, cap5, e1, e2, e3, e4, e5⟩ := hw
                               exact ih _ _ _ w _ _ a5 cap5 _ (by omega) hs e1 e2 e3 e4 e5 mg2 (by omega) (by omega) (by omega) (by omega) (by omega) (by omega))
                        · exfalso; omega
                      · exfalso; omega
              · refine Z_go (f2 := (87, [(5, .int (Zi step)), (4, .int (Zi j)), (3, .int (Zi i)), (0, .ref o), (1, .ref o2), (2, .ref o3)], [.int (Zi 1)])) (fun _ => rfl) ?_
                refine Z_go (f2 := (91, [(5, .int (Zi step)), (4, .int (Zi j)), (3, .int (Zi i)), (0, .ref o), (1, .ref o2), (2, .ref o3)], [.int (Zi 1)])) (fun _ => rfl) ?_
                refine Z_go (f2 := (93, [(6, .int (Zi 1)), (5, .int (Zi step)), (4, .int (Zi j)), (3, .int (Zi i)), (0, .ref o), (1, .ref o2), (2, .ref o3)], [])) (fun _ => rfl) ?_
                refine Z_go (f2 := (94, [(6, .int (Zi 1)), (5, .int (Zi step)), (4, .int (Zi j)), (3, .int (Zi i)), (0, .ref o), (1, .ref o2), (2, .ref o3)], [.int (Zi i)])) (fun _ => rfl) ?_
                refine Z_go (f2 := (95, [(6, .int (Zi 1)), (5, .int (Zi step)), (4, .int (Zi j)), (3, .int (Zi i)), (0, .ref o), (1, .ref o2), (2, .ref o3)], [.ref o2, .int (Zi i)])) (fun _ => rfl) ?_
                refine C_gi rfl hs qk (by decide) (Nat.le_of_ble_eq_true rfl) rfl ?_
                rw [show C_F (u) o2 1 = (ys.length : Int) from (by first | exact qm | exact (if_neg (fun e => absurd e.1 (by assumption))).trans qm)]
                show B_R _ _ (98, [(6, .int (Zi 1)), (5, .int (Zi step)), (4, .int (Zi j)), (3, .int (Zi i)), (0, .ref o), (1, .ref o2), (2, .ref o3)], [.int (Zi ((ys.length : Int))), .int (Zi i)]) _ _ _
                refine Z_cge rfl rfl (by first | exact hs.zF _ _ | exact Zor_r _ _ | exact hs.zA _ _ | assumption | exact zA _ _ | exact zS _ | exact Zr_not (hs.zA _ _) | exact hs.1.1 _ _ | exact ⟨by omega, by omega⟩) (by first | exact hs.zF _ _ | exact Zor_r _ _ | exact hs.zA _ _ | assumption | exact zA _ _ | exact zS _ | exact Zr_not (hs.zA _ _) | exact hs.1.1 _ _ | exact ⟨by omega, by omega⟩) (fun c115 => ?_) (fun c115 => ?_)
                · refine Z_go (f2 := (125, [(6, .int (Zi 1)), (5, .int (Zi step)), (4, .int (Zi j)), (3, .int (Zi i)), (0, .ref o), (1, .ref o2), (2, .ref o3)], [.int (Zi 1)])) (fun _ => rfl) ?_
                  refine Z_go (f2 := (129, [(6, .int (Zi 1)), (5, .int (Zi step)), (4, .int (Zi j)), (3, .int (Zi i)), (0, .ref o), (1, .ref o2), (2, .ref o3)], [.int (Zi 1)])) (fun _ => rfl) ?_
                  refine Z_go (f2 := (131, [(7, .int (Zi 1)), (6, .int (Zi 1)), (5, .int (Zi step)), (4, .int (Zi j)), (3, .int (Zi i)), (0, .ref o), (1, .ref o2), (2, .ref o3)], [])) (fun _ => rfl) ?_
                  refine Z_go (f2 := (132, [(7, .int (Zi 1)), (6, .int (Zi 1)), (5, .int (Zi step)), (4, .int (Zi j)), (3, .int (Zi i)), (0, .ref o), (1, .ref o2), (2, .ref o3)], [.ref o])) (fun _ => rfl) ?_
                  refine Z_go (f2 := (134, [(7, .int (Zi 1)), (6, .int (Zi 1)), (5, .int (Zi step)), (4, .int (Zi j)), (3, .int (Zi i)), (0, .ref o), (1, .ref o2), (2, .ref o3)], [.int (Zi 1), .ref o])) (fun _ => rfl) ?_
                  refine Z_ieq rfl rfl (by first | exact hs.zF _ _ | exact Zor_r _ _ | exact hs.zA _ _ | assumption | exact zA _ _ | exact zS _ | exact Zr_not (hs.zA _ _) | exact hs.1.1 _ _ | exact ⟨by omega, by omega⟩) (fun c116 => ?_) (fun c116 => ?_)
                  · exfalso; omega
                  · refine Z_go (f2 := (138, [(7, .int (Zi 1)), (6, .int (Zi 1)), (5, .int (Zi step)), (4, .int (Zi j)), (3, .int (Zi i)), (0, .ref o), (1, .ref o2), (2, .ref o3)], [.ref o2, .ref o])) (fun _ => rfl) ?_
                    refine Z_go (f2 := (139, [(7, .int (Zi 1)), (6, .int (Zi 1)), (5, .int (Zi step)), (4, .int (Zi j)), (3, .int (Zi i)), (0, .ref o), (1, .ref o2), (2, .ref o3)], [.int (Zi i), .ref o2, .ref o])) (fun _ => rfl) ?_
                    refine C_callVR (As := [.int (Zi i)]) (rest := [.ref o]) rfl (by decide) rfl (by decide) rfl rfl (by decide +kernel) (Nat.le_of_ble_eq_true rfl) hs qk (C_at_ _ hq0 (i := i) (by first | exact hs.zF _ _ | exact Zor_r _ _ | exact hs.zA _ _ | assumption | exact zA _ _ | exact zS _ | exact Zr_not (hs.zA _ _) | exact hs.1.1 _ _ | exact ⟨by omega, by omega⟩)) (fun x q => ?_)
                    obtain rfl := q
                    have zl60 := D_Row.zat hs hq0 i
                    show B_R _ _ (142, [(7, .int (Zi 1)), (6, .int (Zi 1)), (5, .int (Zi step)), (4, .int (Zi j)), (3, .int (Zi i)), (0, .ref o), (1, .ref o2), (2, .ref o3)], [.int (Zi (L_at ys i)), .ref o]) _ _ _
                    refine Z_go (f2 := (151, [(7, .int (Zi 1)), (6, .int (Zi 1)), (5, .int (Zi step)), (4, .int (Zi j)), (3, .int (Zi i)), (0, .ref o), (1, .ref o2), (2, .ref o3)], [.int (Zi (L_at ys i)), .ref o])) (fun _ => rfl) ?_
                    refine C_callV (As := [.int (Zi (L_at ys i))]) (rest := []) rfl (by decide) rfl (by decide) rfl rfl (by decide +kernel) (Nat.le_of_ble_eq_true rfl) hs rk (C_push _ hr0 (v := L_at ys i) (by first | exact hs.zF _ _ | exact Zor_r _ _ | exact hs.zA _ _ | assumption | exact zA _ _ | exact zS _ | exact Zr_not (hs.zA _ _) | exact hs.1.1 _ _ | exact ⟨by omega, by omega⟩) (by omega)) (fun x h w n hs q => ?_)
                    obtain ⟨rfl, hw⟩ := q
                    show B_R _ _ (154, [(7, .int (Zi 1)), (6, .int (Zi 1)), (5, .int (Zi step)), (4, .int (Zi j)), (3, .int (Zi i)), (0, .ref o), (1, .ref o2), (2, .ref o3)], []) _ _ _
                    refine Z_go (f2 := (155, [(7, .int (Zi 1)), (6, .int (Zi 1)), (5, .int (Zi step)), (4, .int (Zi j)), (3, .int (Zi i)), (0, .ref o), (1, .ref o2), (2, .ref o3)], [.int (Zi i)])) (fun _ => rfl) ?_
                    refine Z_go (f2 := (157, [(7, .int (Zi 1)), (6, .int (Zi 1)), (5, .int (Zi step)), (4, .int (Zi j)), (3, .int (Zi i)), (0, .ref o), (1, .ref o2), (2, .ref o3)], [.int (Zi 1), .int (Zi i)])) (fun _ => rfl) ?_
                    refine Z_ieq rfl rfl (by first | exact hs.zF _ _ | exact Zor_r _ _ | exact hs.zA _ _ | assumption | exact zA _ _ | exact zS _ | exact Zr_not (hs.zA _ _) | exact hs.1.1 _ _ | exact ⟨by omega, by omega⟩) (fun c117 => ?_) (fun c117 => ?_)
                    · exfalso; omega
                    · refine Z_go (f2 := (161, [(7, .int (Zi 1)), (6, .int (Zi 1)), (5, .int (Zi step)), (4, .int (Zi j)), (3, .int (Zi i)), (0, .ref o), (1, .ref o2), (2, .ref o3)], [.int (Zi 1), .int (Zi i)])) (fun _ => rfl) ?_
                      refine Z_go (f2 := (165, [(7, .int (Zi 1)), (6, .int (Zi 1)), (5, .int (Zi step)), (4, .int (Zi j)), (3, .int (Zi i)), (0, .ref o), (1, .ref o2), (2, .ref o3)], [.int (Zi 1), .int (Zi i)])) (fun _ => rfl) ?_
                      refine Z_iadd rfl ?_
                      refine Z_go (f2 := (167, [(3, .int (Zi (i + 1))), (7, .int (Zi 1)), (6, .int (Zi 1)), (5, .int (Zi step)), (4, .int (Zi j)), (0, .ref o), (1, .ref o2), (2, .ref o3)], [])) (fun _ => rfl) ?_
                      refine Z_go (f2 := (169, [(3, .int (Zi (i + 1))), (7, .int (Zi 1)), (6, .int (Zi 1)), (5, .int (Zi step)), (4, .int (Zi j)), (0, .ref o), (1, .ref o2), (2, .ref o3)], [.int (Zi j)])) (fun _ => rfl) ?_
                      refine Z_go (f2 := (171, [(3, .int (Zi (i + 1))), (7, .int (Zi 1)), (6, .int (Zi 1)), (5, .int (Zi step)), (4, .int (Zi j)), (0, .ref o), (1, .ref o2), (2, .ref o3)], [.int (Zi 1), .int (Zi j)])) (fun _ => rfl) ?_
                      refine Z_ieq rfl rfl (by first | exact hs.zF _ _ | exact Zor_r _ _ | exact hs.zA _ _ | assumption | exact zA _ _ | exact zS _ | exact Zr_not (hs.zA _ _) | exact hs.1.1 _ _ | exact ⟨by omega, by omega⟩) (fun c118 => ?_) (fun c118 => ?_)
                      · exfalso; omega
                      · refine Z_go (f2 := (175, [(3, .int (Zi (i + 1))), (7, .int (Zi 1)), (6, .int (Zi 1)), (5, .int (Zi step)), (4, .int (Zi j)), (0, .ref o), (1, .ref o2), (2, .ref o3)], [.int (Zi 1), .int (Zi j)])) (fun _ => rfl) ?_
                        refine Z_go (f2 := (179, [(3, .int (Zi (i + 1))), (7, .int (Zi 1)), (6, .int (Zi 1)), (5, .int (Zi step)), (4, .int (Zi j)), (0, .ref o), (1, .ref o2), (2, .ref o3)], [.int (Zi 1), .int (Zi j)])) (fun _ => rfl) ?_
                        refine Z_iadd rfl ?_
                        refine Z_go (f2 := (182, [(4, .int (Zi (j + 1))), (3, .int (Zi (i + 1))), (7, .int (Zi 1)), (6, .int (Zi 1)), (5, .int (Zi step)), (0, .ref o), (1, .ref o2), (2, .ref o3)], [])) (fun _ => rfl) ?_
                        refine Z_iinc (L2 := [(5, .int (Zi (step + (-1)))), (4, .int (Zi (j + 1))), (3, .int (Zi (i + 1))), (7, .int (Zi 1)), (6, .int (Zi 1)), (0, .ref o), (1, .ref o2), (2, .ref o3)]) rfl rfl (by decide) rfl ?_
                        refine C_goto (p2 := 33) rfl (by decide +kernel) (by decide +kernel) ?_
                        first
                        | (exfalso; omega)
                        | (refine B_loc (K := [(5, .int (Zi (step + (-1)))), (4, .int (Zi (j + 1))), (3, .int (Zi (i + 1))), (0, .ref o), (1, .ref o2), (2, .ref o3)]) (N_all_sub ⟨rfl, rfl, rfl, rfl, rfl, rfl, trivial⟩) (show ([5, 4, 3, 0, 1, 2] : List Nat).Nodup by decide) ?_
                           have mg2 : L_mg ys ws (zs ++ [L_at ys i]) (i + 1) (j + 1) := L_mg_st sy sw mg i0 j0 (fun z hz => (hlast z hz).1 (by omega)) (by omega) (by omega) (by omega)
                           have hw := D_rw.tr fr g1 g2 g3 hr0 hw (by omega)
                           obtain ⟨a5, cap5, e1, e2, e3, e4, e5⟩ := hw
                           exact ih _ _ _ w _ _ a5 cap5 _ (by omega) hs e1 e2 e3 e4 e5 mg2 (by omega) (by omega) (by omega) (by omega) (by omega) (by omega))
                · refine Z_go (f2 := (103, [(6, .int (Zi 1)), (5, .int (Zi step)), (4, .int (Zi j)), (3, .int (Zi i)), (0, .ref o), (1, .ref o2), (2, .ref o3)], [.int (Zi j)])) (fun _ => rfl) ?_
                  refine Z_go (f2 := (104, [(6, .int (Zi 1)), (5, .int (Zi step)), (4, .int (Zi j)), (3, .int (Zi i)), (0, .ref o), (1, .ref o2), (2, .ref o3)], [.ref o3, .int (Zi j)])) (fun _ => rfl) ?_
                  refine C_gi rfl hs pk (by decide) (Nat.le_of_ble_eq_true rfl) rfl ?_
                  rw [show C_F (u) o3 1 = (ws.length : Int) from (by first | exact pm | exact (if_neg (fun e => absurd e.1 (by assumption))).trans pm)]
                  show B_R _ _ (107, [(6, .int (Zi 1)), (5, .int (Zi step)), (4, .int (Zi j)), (3, .int (Zi i)), (0, .ref o), (1, .ref o2), (2, .ref o3)], [.int (Zi ((ws.length : Int))), .int (Zi j)]) _ _ _
                  refine Z_cge rfl rfl (by first | exact hs.zF _ _ | exact Zor_r _ _ | exact hs.zA _ _ | assumption | exact zA _ _ | exact zS _ | exact Zr_not (hs.zA _ _) | exact hs.1.1 _ _ | exact ⟨by omega, by omega⟩) (by first | exact hs.zF _ _ | exact Zor_r _ _ | exact hs.zA _ _ | assumption | exact zA _ _ | exact zS _ | exact Zr_not (hs.zA _ _) | exact hs.1.1 _ _ | exact ⟨by omega, by omega⟩) (fun c119 => ?_) (fun c119 => ?_)
                  · refine Z_go (f2 := (129, [(6, .int (Zi 1)), (5, .int (Zi step)), (4, .int (Zi j)), (3, .int (Zi i)), (0, .ref o), (1, .ref o2), (2, .ref o3)], [.int (Zi 0)])) (fun _ => rfl) ?_
                    refine Z_go (f2 := (131, [(7, .int (Zi 0)), (6, .int (Zi 1)), (5, .int (Zi step)), (4, .int (Zi j)), (3, .int (Zi i)), (0, .ref o), (1, .ref o2), (2, .ref o3)], [])) (fun _ => rfl) ?_
                    refine Z_go (f2 := (132, [(7, .int (Zi 0)), (6, .int (Zi 1)), (5, .int (Zi step)), (4, .int (Zi j)), (3, .int (Zi i)), (0, .ref o), (1, .ref o2), (2, .ref o3)], [.ref o])) (fun _ => rfl) ?_
                    refine Z_go (f2 := (134, [(7, .int (Zi 0)), (6, .int (Zi 1)), (5, .int (Zi step)), (4, .int (Zi j)), (3, .int (Zi i)), (0, .ref o), (1, .ref o2), (2, .ref o3)], [.int (Zi 1), .ref o])) (fun _ => rfl) ?_
                    refine Z_ieq rfl rfl (by first | exact hs.zF _ _ | exact Zor_r _ _ | exact hs.zA _ _ | assumption | exact zA _ _ | exact zS _ | exact Zr_not (hs.zA _ _) | exact hs.1.1 _ _ | exact ⟨by omega, by omega⟩) (fun c120 => ?_) (fun c120 => ?_)
                    · exfalso; omega
                    · refine Z_go (f2 := (138, [(7, .int (Zi 0)), (6, .int (Zi 1)), (5, .int (Zi step)), (4, .int (Zi j)), (3, .int (Zi i)), (0, .ref o), (1, .ref o2), (2, .ref o3)], [.ref o2, .ref o])) (fun _ => rfl) ?_
                      refine Z_go (f2 := (139, [(7, .int (Zi 0)), (6, .int (Zi 1)), (5, .int (Zi step)), (4, .int (Zi j)), (3, .int (Zi i)), (0, .ref o), (1, .ref o2), (2, .ref o3)], [.int (Zi i), .ref o2, .ref o])) (fun _ => rfl) ?_
                      refine C_callVR (As := [.int (Zi i)]) (rest := [.ref o]) rfl (by decide) rfl (by decide) rfl rfl (by decide +kernel) (Nat.le_of_ble_eq_true rfl) hs qk (C_at_ _ hq0 (i := i) (by first | exact hs.zF _ _ | exact Zor_r _ _ | exact hs.zA _ _ | assumption | exact zA _ _ | exact zS _ | exact Zr_not (hs.zA _ _) | exact hs.1.1 _ _ | exact ⟨by omega, by omega⟩)) (fun x q => ?_)
                      obtain rfl := q
                      have zl61 := D_Row.zat hs hq0 i
                      show B_R _ _ (142, [(7, .int (Zi 0)), (6, .int (Zi 1)), (5, .int (Zi step)), (4, .int (Zi j)), (3, .int (Zi i)), (0, .ref o), (1, .ref o2), (2, .ref o3)], [.int (Zi (L_at ys i)), .ref o]) _ _ _
                      refine Z_go (f2 := (151, [(7, .int (Zi 0)), (6, .int (Zi 1)), (5, .int (Zi step)), (4, .int (Zi j)), (3, .int (Zi i)), (0, .ref o), (1, .ref o2), (2, .ref o3)], [.int (Zi (L_at ys i)), .ref o])) (fun _ => rfl) ?_
                      refine C_callV (As := [.int (Zi (L_at ys i))]) (rest := []) rfl (by decide) rfl (by decide) rfl rfl (by decide +kernel) (Nat.le_of_ble_eq_true rfl) hs rk (C_push _ hr0 (v := L_at ys i) (by first | exact hs.zF _ _ | exact Zor_r _ _ | exact hs.zA _ _ | assumption | exact zA _ _ | exact zS _ | exact Zr_not (hs.zA _ _) | exact hs.1.1 _ _ | exact ⟨by omega, by omega⟩) (by omega)) (fun x h w n hs q => ?_)
                      obtain ⟨rfl, hw⟩ := q
                      show B_R _ _ (154, [(7, .int (Zi 0)), (6, .int (Zi 1)), (5, .int (Zi step)), (4, .int (Zi j)), (3, .int (Zi i)), (0, .ref o), (1, .ref o2), (2, .ref o3)], []) _ _ _
                      refine Z_go (f2 := (155, [(7, .int (Zi 0)), (6, .int (Zi 1)), (5, .int (Zi step)), (4, .int (Zi j)), (3, .int (Zi i)), (0, .ref o), (1, .ref o2), (2, .ref o3)], [.int (Zi i)])) (fun _ => rfl) ?_
                      refine Z_go (f2 := (157, [(7, .int (Zi 0)), (6, .int (Zi 1)), (5, .int (Zi step)), (4, .int (Zi j)), (3, .int (Zi i)), (0, .ref o), (1, .ref o2), (2, .ref o3)], [.int (Zi 1), .int (Zi i)])) (fun _ => rfl) ?_
                      refine Z_ieq rfl rfl (by first | exact hs.zF _ _ | exact Zor_r _ _ | exact hs.zA _ _ | assumption | exact zA _ _ | exact zS _ | exact Zr_not (hs.zA _ _) | exact hs.1.1 _ _ | exact ⟨by omega, by omega⟩) (fun c121 => ?_) (fun c121 => ?_)
                      · exfalso; omega
                      · refine Z_go (f2 := (161, [(7, .int (Zi 0)), (6, .int (Zi 1)), (5, .int (Zi step)), (4, .int (Zi j)), (3, .int (Zi i)), (0, .ref o), (1, .ref o2), (2, .ref o3)], [.int (Zi 1), .int (Zi i)])) (fun _ => rfl) ?_
                        refine Z_go (f2 := (165, [(7, .int (Zi 0)), (6, .int (Zi 1)), (5, .int (Zi step)), (4, .int (Zi j)), (3, .int (Zi i)), (0, .ref o), (1, .ref o2), (2, .ref o3)], [.int (Zi 1), .int (Zi i)])) (fun _ => rfl) ?_
                        refine Z_iadd rfl ?_
                        refine Z_go (f2 := (167, [(3, .int (Zi (i + 1))), (7, .int (Zi 0)), (6, .int (Zi 1)), (5, .int (Zi step)), (4, .int (Zi j)), (0, .ref o), (1, .ref o2), (2, .ref o3)], [])) (fun _ => rfl) ?_
                        refine Z_go (f2 := (169, [(3, .int (Zi (i + 1))), (7, .int (Zi 0)), (6, .int (Zi 1)), (5, .int (Zi step)), (4, .int (Zi j)), (0, .ref o), (1, .ref o2), (2, .ref o3)], [.int (Zi j)])) (fun _ => rfl) ?_
                        refine Z_go (f2 := (171, [(3, .int (Zi (i + 1))), (7, .int (Zi 0)), (6, .int (Zi 1)), (5, .int (Zi step)), (4, .int (Zi j)), (0, .ref o), (1, .ref o2), (2, .ref o3)], [.int (Zi 0), .int (Zi j)])) (fun _ => rfl) ?_
                        refine Z_ieq rfl rfl (by first | exact hs.zF _ _ | exact Zor_r _ _ | exact hs.zA _ _ | assumption | exact zA _ _ | exact zS _ | exact Zr_not (hs.zA _ _) | exact hs.1.1 _ _ | exact ⟨by omega, by omega⟩) (fun c122 => ?_) (fun c122 => ?_)
                        · refine Z_go (f2 := (179, [(3, .int (Zi (i + 1))), (7, .int (Zi 0)), (6, .int (Zi 1)), (5, .int (Zi step)), (4, .int (Zi j)), (0, .ref o), (1, .ref o2), (2, .ref o3)], [.int (Zi 0), .int (Zi j)])) (fun _ => rfl) ?_
                          refine Z_iadd rfl ?_
                          refine Z_go (f2 := (182, [(4, .int (Zi (j + 0))), (3, .int (Zi (i + 1))), (7, .int (Zi 0)), (6, .int (Zi 1)), (5, .int (Zi step)), (0, .ref o), (1, .ref o2), (2, .ref o3)], [])) (fun _ => rfl) ?_
                          refine Z_iinc (L2 := [(5, .int (Zi (step + (-1)))), (4, .int (Zi (j + 0))), (3, .int (Zi (i + 1))), (7, .int (Zi 0)), (6, .int (Zi 1)), (0, .ref o), (1, .ref o2), (2, .ref o3)]) rfl rfl (by decide) rfl ?_
                          refine C_goto (p2 := 33) rfl (by decide +kernel) (by decide +kernel) ?_
                          first
                          | (exfalso; omega)
                          | (refine B_loc (K := [(5, .int (Zi (step + (-1)))), (4, .int (Zi (j + 0))), (3, .int (Zi (i + 1))), (0, .ref o), (1, .ref o2), (2, .ref o3)]) (N_all_sub ⟨rfl, rfl, rfl, rfl, rfl, rfl, trivial⟩) (show ([5, 4, 3, 0, 1, 2] : List Nat).Nodup by decide) ?_
                             have mg2 : L_mg ys ws (zs ++ [L_at ys i]) (i + 1) (j + 0) := L_mg_st sy sw mg i0 j0 (fun z hz => (hlast z hz).1 (by omega)) (by omega) (by omega) (by omega)
                             have hw := D_rw.tr fr g1 g2 g3 hr0 hw (by omega)
                             obtain ⟨a5, cap5, e1, e2, e3, e4, e5⟩ := hw
                             exact ih _ _ _ w _ _ a5 cap5 _ (by omega) hs e1 e2 e3 e4 e5 mg2 (by omega) (by omega) (by omega) (by omega) (by omega) (by omega))
                        · exfalso; omega
                  · refine Z_go (f2 := (111, [(6, .int (Zi 1)), (5, .int (Zi step)), (4, .int (Zi j)), (3, .int (Zi i)), (0, .ref o), (1, .ref o2), (2, .ref o3)], [.ref o3])) (fun _ => rfl) ?_
                    refine Z_go (f2 := (113, [(6, .int (Zi 1)), (5, .int (Zi step)), (4, .int (Zi j)), (3, .int (Zi i)), (0, .ref o), (1, .ref o2), (2, .ref o3)], [.int (Zi j), .ref o3])) (fun _ => rfl) ?_
                    refine C_callVR (As := [.int (Zi j)]) (rest := []) rfl (by decide) rfl (by decide) rfl rfl (by decide +kernel) (Nat.le_of_ble_eq_true rfl) hs pk (C_at_ _ hp0 (i := j) (by first | exact hs.zF _ _ | exact Zor_r _ _ | exact hs.zA _ _ | assumption | exact zA _ _ | exact zS _ | exact Zr_not (hs.zA _ _) | exact hs.1.1 _ _ | exact ⟨by omega, by omega⟩)) (fun x q => ?_)
                    obtain rfl := q
                    have zl62 := D_Row.zat hs hp0 j
                    show B_R _ _ (116, [(6, .int (Zi 1)), (5, .int (Zi step)), (4, .int (Zi j)), (3, .int (Zi i)), (0, .ref o), (1, .ref o2), (2, .ref o3)], [.int (Zi (L_at ws j))]) _ _ _
                    refine Z_go (f2 := (117, [(6, .int (Zi 1)), (5, .int (Zi step)), (4, .int (Zi j)), (3, .int (Zi i)), (0, .ref o), (1, .ref o2), (2, .ref o3)], [.ref o2, .int (Zi (L_at ws j))])) (fun _ => rfl) ?_
                    refine Z_go (f2 := (118, [(6, .int (Zi 1)), (5, .int (Zi step)), (4, .int (Zi j)), (3, .int (Zi i)), (0, .ref o), (1, .ref o2), (2, .ref o3)], [.int (Zi i), .ref o2, .int (Zi (L_at ws j))])) (fun _ => rfl) ?_
                    refine C_callVR (As := [.int (Zi i)]) (rest := [.int (Zi (L_at ws j))]) rfl (by decide) rfl (by decide) rfl rfl (by decide +kernel) (Nat.le_of_ble_eq_true rfl) hs qk (C_at_ _ hq0 (i := i) (by first | exact hs.zF _ _ | exact Zor_r _ _ | exact hs.zA _ _ | assumption | exact zA _ _ | exact zS _ | exact Zr_not (hs.zA _ _) | exact hs.1.1 _ _ | exact ⟨by omega, by omega⟩)) (fun x q => ?_)
                    obtain rfl := q
                    have zl63 := D_Row.zat hs hq0 i
                    show B_R _ _ (121, [(6, .int (Zi 1)), (5, .int (Zi step)), (4, .int (Zi j)), (3, .int (Zi i)), (0, .ref o), (1, .ref o2), (2, .ref o3)], [.int (Zi (L_at ys i)), .int (Zi (L_at ws j))]) _ _ _
                    refine Z_cgt rfl rfl (by first | exact hs.zF _ _ | exact Zor_r _ _ | exact hs.zA _ _ | assumption | exact zA _ _ | exact zS _ | exact Zr_not (hs.zA _ _) | exact hs.1.1 _ _ | exact ⟨by omega, by omega⟩) (by first | exact hs.zF _ _ | exact Zor_r _ _ | exact hs.zA _ _ | assumption | exact zA _ _ | exact zS _ | exact Zr_not (hs.zA _ _) | exact hs.1.1 _ _ | exact ⟨by omega, by omega⟩) (fun c123 => ?_) (fun c123 => ?_)
                    · refine Z_go (f2 := (129, [(6, .int (Zi 1)), (5, .int (Zi step)), (4, .int (Zi j)), (3, .int (Zi i)), (0, .ref o), (1, .ref o2), (2, .ref o3)], [.int (Zi 0)])) (fun _ => rfl) ?_
                      refine Z_go (f2 := (131, [(7, .int (Zi 0)), (6, .int (Zi 1)), (5, .int (Zi step)), (4, .int (Zi j)), (3, .int (Zi i)), (0, .ref o), (1, .ref o2), (2, .ref o3)], [])) (fun _ => rfl) ?_
                      refine Z_go (f2 := (132, [(7, .int (Zi 0)), (6, .int (Zi 1)), (5, .int (Zi step)), (4, .int (Zi j)), (3, .int (Zi i)), (0, .ref o), (1, .ref o2), (2, .ref o3)], [.ref o])) (fun _ => rfl) ?_
                      refine Z_go (f2 := (134, [(7, .int (Zi 0)), (6, .int (Zi 1)), (5, .int (Zi step)), (4, .int (Zi j)), (3, .int (Zi i)), (0, .ref o), (1, .ref o2), (2, .ref o3)], [.int (Zi 1), .ref o])) (fun _ => rfl) ?_
                      refine Z_ieq rfl rfl (by first | exact hs.zF _ _ | exact Zor_r _ _ | exact hs.zA _ _ | assumption | exact zA _ _ | exact zS _ | exact Zr_not (hs.zA _ _) | exact hs.1.1 _ _ | exact ⟨by omega, by omega⟩) (fun c124 => ?_) (fun c124 => ?_)
                      · exfalso; omega
                      · refine Z_go (f2 := (138, [(7, .int (Zi 0)), (6, .int (Zi 1)), (5, .int (Zi step)), (4, .int (Zi j)), (3, .int (Zi i)), (0, .ref o), (1, .ref o2), (2, .ref o3)], [.ref o2, .ref o])) (fun _ => rfl) ?_
                        refine Z_go (f2 := (139, [(7, .int (Zi 0)), (6, .int (Zi 1)), (5, .int (Zi step)), (4, .int (Zi j)), (3, .int (Zi i)), (0, .ref o), (1, .ref o2), (2, .ref o3)], [.int (Zi i), .ref o2, .ref o])) (fun _ => rfl) ?_
                        refine C_callVR (As := [.int (Zi i)]) (rest := [.ref o]) rfl (by decide) rfl (by decide) rfl rfl (by decide +kernel) (Nat.le_of_ble_eq_true rfl) hs qk (C_at_ _ hq0 (i := i) (by first | exact hs.zF _ _ | exact Zor_r _ _ | exact hs.zA _ _ | assumption | exact zA _ _ | exact zS _ | exact Zr_not (hs.zA _ _) | exact hs.1.1 _ _ | exact ⟨by omega, by omega⟩)) (fun x q => ?_)
                        obtain rfl := q
                        have zl64 := D_Row.zat hs hq0 i
                        show B_R _ _ (142, [(7, .int (Zi 0)), (6, .int (Zi 1)), (5, .int (Zi step)), (4, .int (Zi j)), (3, .int (Zi i)), (0, .ref o), (1, .ref o2), (2, .ref o3)], [.int (Zi (L_at ys i)), .ref o]) _ _ _
                        refine Z_go (f2 := (151, [(7, .int (Zi 0)), (6, .int (Zi 1)), (5, .int (Zi step)), (4, .int (Zi j)), (3, .int (Zi i)), (0, .ref o), (1, .ref o2), (2, .ref o3)], [.int (Zi (L_at ys i)), .ref o])) (fun _ => rfl) ?_
                        refine C_callV (As := [.int (Zi (L_at ys i))]) (rest := []) rfl (by decide) rfl (by decide) rfl rfl (by decide +kernel) (Nat.le_of_ble_eq_true rfl) hs rk (C_push _ hr0 (v := L_at ys i) (by first | exact hs.zF _ _ | exact Zor_r _ _ | exact hs.zA _ _ | assumption | exact zA _ _ | exact zS _ | exact Zr_not (hs.zA _ _) | exact hs.1.1 _ _ | exact ⟨by omega, by omega⟩) (by omega)) (fun x h w n hs q => ?_)
                        obtain ⟨rfl, hw⟩ := q
                        show B_R _ _ (154, [(7, .int (Zi 0)), (6, .int (Zi 1)), (5, .int (Zi step)), (4, .int (Zi j)), (3, .int (Zi i)), (0, .ref o), (1, .ref o2), (2, .ref o3)], []) _ _ _
                        refine Z_go (f2 := (155, [(7, .int (Zi 0)), (6, .int (Zi 1)), (5, .int (Zi step)), (4, .int (Zi j)), (3, .int (Zi i)), (0, .ref o), (1, .ref o2), (2, .ref o3)], [.int (Zi i)])) (fun _ => rfl) ?_
                        refine Z_go (f2 := (157, [(7, .int (Zi 0)), (6, .int (Zi 1)), (5, .int (Zi step)), (4, .int (Zi j)), (3, .int (Zi i)), (0, .ref o), (1, .ref o2), (2, .ref o3)], [.int (Zi 1), .int (Zi i)])) (fun _ => rfl) ?_
                        refine Z_ieq rfl rfl (by first | exact hs.zF _ _ | exact Zor_r _ _ | exact hs.zA _ _ | assumption | exact zA _ _ | exact zS _ | exact Zr_not (hs.zA _ _) | exact hs.1.1 _ _ | exact ⟨by omega, by omega⟩) (fun c125 => ?_) (fun c125 => ?_)
                        · exfalso; omega
                        · refine Z_go (f2 := (161, [(7, .int (Zi 0)), (6, .int (Zi 1)), (5, .int (Zi step)), (4, .int (Zi j)), (3, .int (Zi i)), (0, .ref o), (1, .ref o2), (2, .ref o3)], [.int (Zi 1), .int (Zi i)])) (fun _ => rfl) ?_
                          refine Z_go (f2 := (165, [(7, .int (Zi 0)), (6, .int (Zi 1)), (5, .int (Zi step)), (4, .int (Zi j)), (3, .int (Zi i)), (0, .ref o), (1, .ref o2), (2, .ref o3)], [.int (Zi 1), .int (Zi i)])) (fun _ => rfl) ?_
                          refine Z_iadd rfl ?_
                          refine Z_go (f2 := (167, [(3, .int (Zi (i + 1))), (7, .int (Zi 0)), (6, .int (Zi 1)), (5, .int (Zi step)), (4, .int (Zi j)), (0, .ref o), (1, .ref o2), (2, .ref o3)], [])) (fun _ => rfl) ?_
                          refine Z_go (f2 := (169, [(3, .int (Zi (i + 1))), (7, .int (Zi 0)), (6, .int (Zi 1)), (5, .int (Zi step)), (4, .int (Zi j)), (0, .ref o), (1, .ref o2), (2, .ref o3)], [.int (Zi j)])) (fun _ => rfl) ?_
                          refine Z_go (f2 := (171, [(3, .int (Zi (i + 1))), (7, .int (Zi 0)), (6, .int (Zi 1)), (5, .int (Zi step)), (4, .int (Zi j)), (0, .ref o), (1, .ref o2), (2, .ref o3)], [.int (Zi 0), .int (Zi j)])) (fun _ => rfl) ?_
                          refine Z_ieq rfl rfl (by first | exact hs.zF _ _ | exact Zor_r _ _ | exact hs.zA _ _ | assumption | exact zA _ _ | exact zS _ | exact Zr_not (hs.zA _ _) | exact hs.1.1 _ _ | exact ⟨by omega, by omega⟩) (fun c126 => ?_) (fun c126 => ?_)
                          · refine Z_go (f2 := (179, [(3, .int (Zi (i + 1))), (7, .int (Zi 0)), (6, .int (Zi 1)), (5, .int (Zi step)), (4, .int (Zi j)), (0, .ref o), (1, .ref o2), (2, .ref o3)], [.int (Zi 0), .int (Zi j)])) (fun _ => rfl) ?_
                            refine Z_iadd rfl ?_
                            refine Z_go (f2 := (182, [(4, .int (Zi (j + 0))), (3, .int (Zi (i + 1))), (7, .int (Zi 0)), (6, .int (Zi 1)), (5, .int (Zi step)), (0, .ref o), (1, .ref o2), (2, .ref o3)], [])) (fun _ => rfl) ?_
                            refine Z_iinc (L2 := [(5, .int (Zi (step + (-1)))), (4, .int (Zi (j + 0))), (3, .int (Zi (i + 1))), (7, .int (Zi 0)), (6, .int (Zi 1)), (0, .ref o), (1, .ref o2), (2, .ref o3)]) rfl rfl (by decide) rfl ?_
                            refine C_goto (p2 := 33) rfl (by decide +kernel) (by decide +kernel) ?_
                            first
                            | (exfalso; omega)
                            | (refine B_loc (K := [(5, .int (Zi (step + (-1)))), (4, .int (Zi (j + 0))), (3, .int (Zi (i + 1))), (0, .ref o), (1, .ref o2), (2, .ref o3)]) (N_all_sub ⟨rfl, rfl, rfl, rfl, rfl, rfl, trivial⟩) (show ([5, 4, 3, 0, 1, 2] : List Nat).Nodup by decide) ?_
                               have mg2 : L_mg ys ws (zs ++ [L_at ys i]) (i + 1) (j + 0) := L_mg_st sy sw mg i0 j0 (fun z hz => (hlast z hz).1 (by omega)) (by omega) (by omega) (by omega)
                               have hw := D_rw.tr fr g1 g2 g3 hr0 hw (by omega)
                               obtain ⟨a5, cap5, e1, e2, e3, e4, e5⟩ := hw
                               exact ih _ _ _ w _ _ a5 cap5 _ (by omega) hs e1 e2 e3 e4 e5 mg2 (by omega) (by omega) (by omega) (by omega) (by omega) (by omega))
                          · exfalso; omega
                    · refine Z_go (f2 := (125, [(6, .int (Zi 1)), (5, .int (Zi step)), (4, .int (Zi j)), (3, .int (Zi i)), (0, .ref o), (1, .ref o2), (2, .ref o3)], [.int (Zi 1)])) (fun _ => rfl) ?_
                      refine Z_go (f2 := (129, [(6, .int (Zi 1)), (5, .int (Zi step)), (4, .int (Zi j)), (3, .int (Zi i)), (0, .ref o), (1, .ref o2), (2, .ref o3)], [.int (Zi 1)])) (fun _ => rfl) ?_
                      refine Z_go (f2 := (131, [(7, .int (Zi 1)), (6, .int (Zi 1)), (5, .int (Zi step)), (4, .int (Zi j)), (3, .int (Zi i)), (0, .ref o), (1, .ref o2), (2, .ref o3)], [])) (fun _ => rfl) ?_
                      refine Z_go (f2 := (132, [(7, .int (Zi 1)), (6, .int (Zi 1)), (5, .int (Zi step)), (4, .int (Zi j)), (3, .int (Zi i)), (0, .ref o), (1, .ref o2), (2, .ref o3)], [.ref o])) (fun _ => rfl) ?_
                      refine Z_go (f2 := (134, [(7, .int (Zi 1)), (6, .int (Zi 1)), (5, .int (Zi step)), (4, .int (Zi j)), (3, .int (Zi i)), (0, .ref o), (1, .ref o2), (2, .ref o3)], [.int (Zi 1), .ref o])) (fun _ => rfl) ?_
                      refine Z_ieq rfl rfl (by first | exact hs.zF _ _ | exact Zor_r _ _ | exact hs.zA _ _ | assumption | exact zA _ _ | exact zS _ | exact Zr_not (hs.zA _ _) | exact hs.1.1 _ _ | exact ⟨by omega, by omega⟩) (fun c127 => ?_) (fun c127 => ?_)
                      · exfalso; omega
                      · refine Z_go (f2 := (138, [(7, .int (Zi 1)), (6, .int (Zi 1)), (5, .int (Zi step)), (4, .int (Zi j)), (3, .int (Zi i)), (0, .ref o), (1, .ref o2), (2, .ref o3)], [.ref o2, .ref o])) (fun _ => rfl) ?_
                        refine Z_go (f2 := (139, [(7, .int (Zi 1)), (6, .int (Zi 1)), (5, .int (Zi step)), (4, .int (Zi j)), (3, .int (Zi i)), (0, .ref o), (1, .ref o2), (2, .ref o3)], [.int (Zi i), .ref o2, .ref o])) (fun _ => rfl) ?_
                        refine C_callVR (As := [.int (Zi i)]) (rest := [.ref o]) rfl (by decide) rfl (by decide) rfl rfl (by decide +kernel) (Nat.le_of_ble_eq_true rfl) hs qk (C_at_ _ hq0 (i := i) (by first | exact hs.zF _ _ | exact Zor_r _ _ | exact hs.zA _ _ | assumption | exact zA _ _ | exact zS _ | exact Zr_not (hs.zA _ _) | exact hs.1.1 _ _ | exact ⟨by omega, by omega⟩)) (fun x q => ?_)
                        obtain rfl := q
                        have zl65 := D_Row.zat hs hq0 i
                        show B_R _ _ (142, [(7, .int (Zi 1)), (6, .int (Zi 1)), (5, .int (Zi step)), (4, .int (Zi j)), (3, .int (Zi i)), (0, .ref o), (1, .ref o2), (2, .ref o3)], [.int (Zi (L_at ys i)), .ref o]) _ _ _
                        refine Z_go (f2 := (151, [(7, .int (Zi 1)), (6, .int (Zi 1)), (5, .int (Zi step)), (4, .int (Zi j)), (3, .int (Zi i)), (0, .ref o), (1, .ref o2), (2, .ref o3)], [.int (Zi (L_at ys i)), .ref o])) (fun _ => rfl) ?_
                        refine C_callV (As := [.int (Zi (L_at ys i))]) (rest := []) rfl (by decide) rfl (by decide) rfl rfl (by decide +kernel) (Nat.le_of_ble_eq_true rfl) hs rk (C_push _ hr0 (v := L_at ys i) (by first | exact hs.zF _ _ | exact Zor_r _ _ | exact hs.zA _ _ | assumption | exact zA _ _ | exact zS _ | exact Zr_not (hs.zA _ _) | exact hs.1.1 _ _ | exact ⟨by omega, by omega⟩) (by omega)) (fun x h w n hs q => ?_)
                        obtain ⟨rfl, hw⟩ := q
                        show B_R _ _ (154, [(7, .int (Zi 1)), (6, .int (Zi 1)), (5, .int (Zi step)), (4, .int (Zi j)), (3, .int (Zi i)), (0, .ref o), (1, .ref o2), (2, .ref o3)], []) _ _ _
                        refine Z_go (f2 := (155, [(7, .int (Zi 1)), (6, .int (Zi 1)), (5, .int (Zi step)), (4, .int (Zi j)), (3, .int (Zi i)), (0, .ref o), (1, .ref o2), (2, .ref o3)], [.int (Zi i)])) (fun _ => rfl) ?_
                        refine Z_go (f2 := (157, [(7, .int (Zi 1)), (6, .int (Zi 1)), (5, .int (Zi step)), (4, .int (Zi j)), (3, .int (Zi i)), (0, .ref o), (1, .ref o2), (2, .ref o3)], [.int (Zi 1), .int (Zi i)])) (fun _ => rfl) ?_
                        refine Z_ieq rfl rfl (by first | exact hs.zF _ _ | exact Zor_r _ _ | exact hs.zA _ _ | assumption | exact zA _ _ | exact zS _ | exact Zr_not (hs.zA _ _) | exact hs.1.1 _ _ | exact ⟨by omega, by omega⟩) (fun c128 => ?_) (fun c128 => ?_)
                        · exfalso; omega
                        · refine Z_go (f2 := (161, [(7, .int (Zi 1)), (6, .int (Zi 1)), (5, .int (Zi step)), (4, .int (Zi j)), (3, .int (Zi i)), (0, .ref o), (1, .ref o2), (2, .ref o3)], [.int (Zi 1), .int (Zi i)])) (fun _ => rfl) ?_
                          refine Z_go (f2 := (165, [(7, .int (Zi 1)), (6, .int (Zi 1)), (5, .int (Zi step)), (4, .int (Zi j)), (3, .int (Zi i)), (0, .ref o), (1, .ref o2), (2, .ref o3)], [.int (Zi 1), .int (Zi i)])) (fun _ => rfl) ?_
                          refine Z_iadd rfl ?_
                          refine Z_go (f2 := (167, [(3, .int (Zi (i + 1))), (7, .int (Zi 1)), (6, .int (Zi 1)), (5, .int (Zi step)), (4, .int (Zi j)), (0, .ref o), (1, .ref o2), (2, .ref o3)], [])) (fun _ => rfl) ?_
                          refine Z_go (f2 := (169, [(3, .int (Zi (i + 1))), (7, .int (Zi 1)), (6, .int (Zi 1)), (5, .int (Zi step)), (4, .int (Zi j)), (0, .ref o), (1, .ref o2), (2, .ref o3)], [.int (Zi j)])) (fun _ => rfl) ?_
                          refine Z_go (f2 := (171, [(3, .int (Zi (i + 1))), (7, .int (Zi 1)), (6, .int (Zi 1)), (5, .int (Zi step)), (4, .int (Zi j)), (0, .ref o), (1, .ref o2), (2, .ref o3)], [.int (Zi 1), .int (Zi j)])) (fun _ => rfl) ?_
                          refine Z_ieq rfl rfl (by first | exact hs.zF _ _ | exact Zor_r _ _ | exact hs.zA _ _ | assumption | exact zA _ _ | exact zS _ | exact Zr_not (hs.zA _ _) | exact hs.1.1 _ _ | exact ⟨by omega, by omega⟩) (fun c129 => ?_) (fun c129 => ?_)
                          · exfalso; omega
                          · refine Z_go (f2 := (175, [(3, .int (Zi (i + 1))), (7, .int (Zi 1)), (6, .int (Zi 1)), (5, .int (Zi step)), (4, .int (Zi j)), (0, .ref o), (1, .ref o2), (2, .ref o3)], [.int (Zi 1), .int (Zi j)])) (fun _ => rfl) ?_
                            refine Z_go (f2 := (179, [(3, .int (Zi (i + 1))), (7, .int (Zi 1)), (6, .int (Zi 1)), (5, .int (Zi step)), (4, .int (Zi j)), (0, .ref o), (1, .ref o2), (2, .ref o3)], [.int (Zi 1), .int (Zi j)])) (fun _ => rfl) ?_
                            refine Z_iadd rfl ?_
                            refine Z_go (f2 := (182, [(4, .int (Zi (j + 1))), (3, .int (Zi (i + 1))), (7, .int (Zi 1)), (6, .int (Zi 1)), (5, .int (Zi step)), (0, .ref o), (1, .ref o2), (2, .ref o3)], [])) (fun _ => rfl) ?_
                            refine Z_iinc (L2 := [(5, .int (Zi (step + (-1)))), (4, .int (Zi (j + 1))), (3, .int (Zi (i + 1))), (7, .int (Zi 1)), (6, .int (Zi 1)), (0, .ref o), (1, .ref o2), (2, .ref o3)]) rfl rfl (by decide) rfl ?_
                            refine C_goto (p2 := 33) rfl (by decide +kernel) (by decide +kernel) ?_
                            first
                            | (exfalso; omega)
                            | (refine B_loc (K := [(5, .int (Zi (step + (-1)))), (4, .int (Zi (j + 1))), (3, .int (Zi (i + 1))), (0, .ref o), (1, .ref o2), (2, .ref o3)]) (N_all_sub ⟨rfl, rfl, rfl, rfl, rfl, rfl, trivial⟩) (show ([5, 4, 3, 0, 1, 2] : List Nat).Nodup by decide) ?_
                               have mg2 : L_mg ys ws (zs ++ [L_at ys i]) (i + 1) (j + 1) := L_mg_st sy sw mg i0 j0 (fun z hz => (hlast z hz).1 (by omega)) (by omega) (by omega) (by omega)
                               have hw := D_rw.tr fr g1 g2 g3 hr0 hw (by omega)
                               obtain ⟨a5, cap5, e1, e2, e3, e4, e5⟩ := hw
                               exact ih _ _ _ w _ _ a5 cap5 _ (by omega) hs e1 e2 e3 e4 e5 mg2 (by omega) (by omega) (by omega) (by omega) (by omega) (by omega))
theorem C_fill (d : Nat) {s : C_S} {p : List Nat} {o a cap : Nat} {xs : List Int} {q : List Nat} {o2 b cap3 : Nat} {ys : List Int} {q3 : List Nat} {o3 b3 cap4 : Nat} {ws : List Int} (hr : D_Row s p o a cap xs) (hq : D_Row s q o2 b cap3 ys) (hp : D_Row s q3 o3 b3 cap4 ws) (sy : L_srt ys) (sw : L_srt ws) (ne : p ≠ q) (ne3 : p ≠ q3) (m1 : ys.length + ws.length < 33554432) : C_ok (d + 4) 94 [.ref o, .ref o2, .ref o3] s (fun x s2 n => x = none ∧ D_rw p o cap (L_un ys ws) (ys.length + ws.length) s s2 n) := by
  refine C_enter (M := E_m94) rfl (Nat.le_of_ble_eq_true rfl) (fun h0 h hs => ?_)
  show B_R (d + 3) _ (0, [(0, .ref o), (1, .ref o2), (2, .ref o3)], []) _ _ _
  have hr0 := hr
  have hq0 := hq
  have hp0 := hp
  have w := hs.1
  obtain ⟨rk, rt, rp, ra, rs, rm, rl, r8, ri⟩ := hr
  have z := D_Row.zr hs ⟨rk, rt, rp, ra, rs, rm, rl, r8, ri⟩
  have z3 := D_Row.zr hs hq
  obtain ⟨qk, qt, qp, qa, qs, qm, ql, q8, qi⟩ := hq
  have z4 := D_Row.zr hs hp
  obtain ⟨pk, pt, pp, pa, ps, pm, pl, p8, pi⟩ := hp
  refine Z_go (f2 := (1, [(0, .ref o), (1, .ref o2), (2, .ref o3)], [.ref o])) (fun _ => rfl) ?_
  refine C_callV (As := []) (rest := []) rfl (by decide) rfl (by decide) rfl rfl (by decide +kernel) (Nat.le_of_ble_eq_true rfl) hs rk (C_clear _ hr0) (fun x h u0 n0 hs q => ?_)
  obtain ⟨rfl, rfl, hr1, fr0, en0⟩ := q
  have hq1 := hq0.fr w fr0 (fun e => ne e.symm)
  have hp1 := hp0.fr w fr0 (fun e => ne3 e.symm)
  have hr2 := hr1
  have w1 := hs.1
  obtain ⟨rk, rt, rp, ra, rs, rm, rl, r8, ri⟩ := hr2
  have hq2 := hq1
  have hp2 := hp1
  obtain ⟨qk, qt, qp, qa, qs, qm, ql, q8, qi⟩ := hq2
  obtain ⟨pk, pt, pp, pa, ps, pm, pl, p8, pi⟩ := hp2
  show B_R _ _ (4, [(0, .ref o), (1, .ref o2), (2, .ref o3)], []) _ _ _
  refine Z_go (f2 := (5, [(0, .ref o), (1, .ref o2), (2, .ref o3)], [.ref o])) (fun _ => rfl) ?_
  refine Z_go (f2 := (6, [(0, .ref o), (1, .ref o2), (2, .ref o3)], [.ref o2, .ref o])) (fun _ => rfl) ?_
  refine C_gi rfl hs qk (by decide) (Nat.le_of_ble_eq_true rfl) rfl ?_
  rw [show C_F (u0) o2 1 = (ys.length : Int) from (by first | exact qm | exact (if_neg (fun e => absurd e.1 (by assumption))).trans qm)]
  show B_R _ _ (9, [(0, .ref o), (1, .ref o2), (2, .ref o3)], [.int (Zi ((ys.length : Int))), .ref o]) _ _ _
  refine Z_go (f2 := (10, [(0, .ref o), (1, .ref o2), (2, .ref o3)], [.ref o3, .int (Zi ((ys.length : Int))), .ref o])) (fun _ => rfl) ?_
  refine C_gi rfl hs pk (by decide) (Nat.le_of_ble_eq_true rfl) rfl ?_
  rw [show C_F (u0) o3 1 = (ws.length : Int) from (by first | exact pm | exact (if_neg (fun e => absurd e.1 (by assumption))).trans pm)]
  show B_R _ _ (13, [(0, .ref o), (1, .ref o2), (2, .ref o3)], [.int (Zi ((ws.length : Int))), .int (Zi ((ys.length : Int))), .ref o]) _ _ _
  refine Z_iadd rfl ?_
  refine C_callV (As := [.int (Zi ((ys.length : Int) + (ws.length : Int)))]) (rest := []) rfl (by decide) rfl (by decide) rfl rfl (by decide +kernel) (Nat.le_of_ble_eq_true rfl) hs rk (C_room _ hr1 (m := (ys.length : Int) + ws.length) ⟨by omega, by omega⟩ (by omega)) (fun x h u n hs q => ?_)
  obtain ⟨rfl, ⟨a2, cap2, hr2, fr, g1, g2, g3⟩, hc⟩ := q
  have hc := hc a2 cap2 _ hr2
  have hru := hr2
  obtain ⟨rk, rt, rp, ra, rs, rm, rl, r8, ri⟩ := hr2
  have z := D_Row.zr hs ⟨rk, rt, rp, ra, rs, rm, rl, r8, ri⟩
  have fr1 := fr0.tr fr
  have hq2 := hq0.fr w fr1 (fun e => ne e.symm)
  have hp2 := hp0.fr w fr1 (fun e => ne3 e.symm)
  obtain ⟨qk, qt, qp, qa, qs, qm, ql, q8, qi⟩ := hq2
  obtain ⟨pk, pt, pp, pa, ps, pm, pl, p8, pi⟩ := hp2
  show B_R _ _ (17, [(0, .ref o), (1, .ref o2), (2, .ref o3)], []) _ _ _
  refine Z_go (f2 := (18, [(0, .ref o), (1, .ref o2), (2, .ref o3)], [.int (Zi 0)])) (fun _ => rfl) ?_
  refine Z_go (f2 := (19, [(3, .int (Zi 0)), (0, .ref o), (1, .ref o2), (2, .ref o3)], [])) (fun _ => rfl) ?_
  refine Z_go (f2 := (20, [(3, .int (Zi 0)), (0, .ref o), (1, .ref o2), (2, .ref o3)], [.int (Zi 0)])) (fun _ => rfl) ?_
  refine Z_go (f2 := (22, [(4, .int (Zi 0)), (3, .int (Zi 0)), (0, .ref o), (1, .ref o2), (2, .ref o3)], [])) (fun _ => rfl) ?_
  refine Z_go (f2 := (23, [(4, .int (Zi 0)), (3, .int (Zi 0)), (0, .ref o), (1, .ref o2), (2, .ref o3)], [.ref o2])) (fun _ => rfl) ?_
  refine C_gi rfl hs qk (by decide) (Nat.le_of_ble_eq_true rfl) rfl ?_
  rw [show C_F (u) o2 1 = (ys.length : Int) from (by first | exact qm | exact (if_neg (fun e => absurd e.1 (by assumption))).trans qm)]
  show B_R _ _ (26, [(4, .int (Zi 0)), (3, .int (Zi 0)), (0, .ref o), (1, .ref o2), (2, .ref o3)], [.int (Zi ((ys.length : Int)))]) _ _ _
  refine Z_go (f2 := (27, [(4, .int (Zi 0)), (3, .int (Zi 0)), (0, .ref o), (1, .ref o2), (2, .ref o3)], [.ref o3, .int (Zi ((ys.length : Int)))])) (fun _ => rfl) ?_
  refine C_gi rfl hs pk (by decide) (Nat.le_of_ble_eq_true rfl) rfl ?_
  rw [show C_F (u) o3 1 = (ws.length : Int) from (by first | exact pm | exact (if_neg (fun e => absurd e.1 (by assumption))).trans pm)]
  show B_R _ _ (30, [(4, .int (Zi 0)), (3, .int (Zi 0)), (0, .ref o), (1, .ref o2), (2, .ref o3)], [.int (Zi ((ws.length : Int))), .int (Zi ((ys.length : Int)))]) _ _ _
  refine Z_iadd rfl ?_
  refine Z_go (f2 := (33, [(5, .int (Zi ((ys.length : Int) + (ws.length : Int)))), (4, .int (Zi 0)), (3, .int (Zi 0)), (0, .ref o), (1, .ref o2), (2, .ref o3)], [])) (fun _ => rfl) ?_
  refine B_loc (K := [(5, .int (Zi ((ys.length : Int) + (ws.length : Int)))), (4, .int (Zi 0)), (3, .int (Zi 0)), (0, .ref o), (1, .ref o2), (2, .ref o3)]) (N_all_sub ⟨rfl, rfl, rfl, rfl, rfl, rfl, trivial⟩) (show ([5, 4, 3, 0, 1, 2] : List Nat).Nodup by decide) ?_
  exact C_fill_lp w hq0 hp0 sy sw ne ne3 m1 (ys.length + ws.length + 1) _ _ _ u _ _ a2 cap2 _ (by omega) hs hru fr1 (by omega) (by omega) g3 (L_mg_0 _ _) (by omega) (by omega) (by omega) (by omega) (by omega) (by omega)
