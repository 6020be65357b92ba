/-! the class: Planner: both -/
theorem F_tel.core {C : P_X} {xs : List (List Int)} (h : F_tel C xs) (hne : xs ≠ []) {ys : List Int} (hy : F_cl xs ys) : F_core C = ys := by
  refine F_core_eq hy.1 (fun x => ?_)
  rw [hy.2.1]
  exact ⟨fun g c hc => g.2 c ((h.2.2 c).mpr hc), fun g => ⟨hne, fun c hc => g c ((h.2.2 c).mp hc)⟩⟩
theorem F_tel.card {C : P_X} {xs : List (List Int)} (h : F_tel C xs) (n : Nat) : S_card C n ↔ xs.length ≤ n := S_card_of h.1 h.2.2 n
theorem L_un_nl : ∀ {x : List Int}, L_srt x → L_un x [] = x := fun h => L_srt_ext (L_un_srt trivial) h (fun y => by rw [L_un_mem]; exact ⟨fun e => e.elim (fun e => e) (fun e => absurd e List.not_mem_nil), .inl⟩)
theorem L_un_cm {x y : List Int} (hx : L_srt x) (hy : L_srt y) : L_un x y = L_un y x := L_srt_ext (L_un_srt hy) (L_un_srt hx) (fun z => by rw [L_un_mem, L_un_mem]; exact or_comm)
theorem F_both_all {C Q : P_X} {xs : List (List Int)} (h : F_tel C xs) (hl : xs.length ≤ 24) (ha : ∀ x ∈ xs, ∀ y ∈ xs, L_le x y → x = y) (hq : F_tel Q [[]]) : F_both C Q = C := by
  have e : ∀ z, F_un C Q z ↔ C z := fun z => by
    constructor
    · rintro ⟨x, y, hx, hy, rfl⟩
      rw [List.mem_singleton.mp ((hq.2.2 y).mpr hy), L_un_nl (h.2.1 x ((h.2.2 x).mpr hx))]
      exact hx
    · intro hz
      exact ⟨z, [], hz, (hq.2.2 []).mp (List.mem_singleton.mpr rfl), (L_un_nl (h.2.1 z ((h.2.2 z).mpr hz))).symm⟩
  have e2 : F_un C Q = C := funext (fun z => propext (e z))
  have e3 : F_min C = C := funext (fun x => propext ⟨fun q => q.1, fun q => ⟨q, fun y hy hle => ha y ((h.2.2 y).mpr hy) x ((h.2.2 x).mpr q) hle⟩⟩)
  unfold F_both
  rw [e2, e3, c_pos ((h.card 24).mpr hl)]
/-- the first so many unions -/
def X_bt (xp xq : List (List Int)) (i k : Int) : P_X := fun z => ∃ a b : Int, 0 ≤ a ∧ 0 ≤ b ∧ b < xq.length ∧ (a < i ∨ a = i ∧ b < k) ∧ a < xp.length ∧ z = L_un (X_at xp a) (X_at xq b)
theorem X_bt_s {xp xq : List (List Int)} {i k : Int} (i0 : 0 ≤ i) (i1 : i < xp.length) (k0 : 0 ≤ k) (k1 : k < xq.length) (z : List Int) : X_bt xp xq i (k + 1) z ↔ X_bt xp xq i k z ∨ z = L_un (X_at xp i) (X_at xq k) := by
  constructor
  · rintro ⟨a, b, h1, h2, h3, h4, h5, rfl⟩
    by_cases c : a = i ∧ b = k
    · obtain ⟨rfl, rfl⟩ := c; exact .inr rfl
    · exact .inl ⟨a, b, h1, h2, h3, by omega, h5, rfl⟩
  · rintro (⟨a, b, h1, h2, h3, h4, h5, rfl⟩ | rfl)
    · exact ⟨a, b, h1, h2, h3, by omega, h5, rfl⟩
    · exact ⟨i, k, i0, k0, k1, .inr ⟨rfl, by omega⟩, i1, rfl⟩
theorem X_bt_n {xp xq : List (List Int)} {i : Int} (z : List Int) : X_bt xp xq (i + 1) 0 z ↔ X_bt xp xq i xq.length z := by
  constructor
  · rintro ⟨a, b, h1, h2, h3, h4, h5, rfl⟩; exact ⟨a, b, h1, h2, h3, by omega, h5, rfl⟩
  · rintro ⟨a, b, h1, h2, h3, h4, h5, rfl⟩; exact ⟨a, b, h1, h2, h3, by omega, h5, rfl⟩
theorem X_bt_0 {xp xq : List (List Int)} (z : List Int) : X_bt xp xq 0 0 z ↔ False := ⟨fun ⟨a, b, h1, h2, h3, h4, h5, _⟩ => by omega, fun h => h.elim⟩
theorem X_bt_e {xp xq : List (List Int)} {C Q : P_X} (hp : F_tel C xp) (hq : F_tel Q xq) (z : List Int) : F_un C Q z ↔ X_bt xp xq xp.length 0 z := by
  constructor
  · rintro ⟨x, y, hx, hy, rfl⟩
    obtain ⟨i, i0, i1, ei⟩ := X_mem_at ((hp.2.2 x).mpr hx)
    obtain ⟨k, k0, k1, ek⟩ := X_mem_at ((hq.2.2 y).mpr hy)
    exact ⟨i, k, i0, k0, k1, .inl i1, i1, by rw [ei, ek]⟩
  · rintro ⟨a, b, h1, h2, h3, h4, h5, rfl⟩
    exact ⟨_, _, (hp.2.2 _).mp (X_at_mem h1 h5), (hq.2.2 _).mp (X_at_mem h2 h3), rfl⟩
/-- the first so many, with a core -/
def X_bc (xk : List (List Int)) (cr : List Int) (i : Int) : P_X := fun z => ∃ a : Int, 0 ≤ a ∧ a < i ∧ a < xk.length ∧ z = L_un (X_at xk a) cr
theorem X_bc_s {xk : List (List Int)} {cr : List Int} {i : Int} (i0 : 0 ≤ i) (i1 : i < xk.length) (z : List Int) : X_bc xk cr (i + 1) z ↔ X_bc xk cr i z ∨ z = L_un (X_at xk i) cr := by
  constructor
  · rintro ⟨a, h1, h2, h3, rfl⟩
    by_cases c : a = i
    · exact .inr (by rw [c])
    · exact .inl ⟨a, h1, by omega, h3, rfl⟩
  · rintro (⟨a, h1, h2, h3, rfl⟩ | rfl)
    · exact ⟨a, h1, by omega, h3, rfl⟩
    · exact ⟨i, i0, by omega, i1, rfl⟩
theorem X_bc_0 {xk : List (List Int)} {cr : List Int} (z : List Int) : X_bc xk cr 0 z ↔ False := ⟨fun ⟨a, h1, h2, _⟩ => by omega, fun h => h.elim⟩
theorem X_bc_e {xk : List (List Int)} {C : P_X} {cr : List Int} (hp : F_tel C xk) (z : List Int) : F_un C (fun x => x = cr) z ↔ X_bc xk cr xk.length z := by
  constructor
  · rintro ⟨x, y, hx, hy, rfl⟩
    obtain ⟨i, i0, i1, ei⟩ := X_mem_at ((hp.2.2 x).mpr hx)
    exact ⟨i, i0, i1, i1, by rw [ei, show y = cr from hy]⟩
  · rintro ⟨a, h1, h2, h3, rfl⟩
    exact ⟨_, _, (hp.2.2 _).mp (X_at_mem h1 h3), rfl, rfl⟩
theorem L_un_lq (a b : List Int) : (L_un a b).length ≤ a.length + b.length := by
  induction a with
  | nil => show b.length ≤ 0 + b.length; omega
  | cons x a ih =>
    have := L_ins_lq x (L_un a b)
    show (L_ins x (L_un a b)).length ≤ a.length + 1 + b.length
    omega
theorem L_fr_ne {pp : List Nat} {f r : Nat} : pp ++ [0, 0] ≠ pp ++ [1, f] ++ [r] := fun e => by
  have := L_tw2 (L_pre_self (pp ++ [0, 0])) ((L_pre_one (pp ++ [1, f]) r).trans (L_pre_eq e))
  omega
theorem C_bbc_lp {d : Nat} {h0 : E_H} {s : C_S} {pp : List Nat} {pl tr B : Nat} {G : G_t} {P : G_p} {ω : Nat → Nat} {kf : Nat} {xk : List (List Int)} {cr : List Int} (B0 : 1280 ≤ B) (B1 : B ≤ 20000) (hk : Pl_hf P kf) (k0 : kf ≠ 0) (ek : G.2.1 kf = xk) (lk : xk.length ≤ 24) (hcr : L_srt cr) (ec : G.1 1 = cr) (hm : ∀ c ∈ xk, 2 * (c.length + cr.length) ≤ B) : ∀ (t : Nat) (i : Int) (u : C_S) (h : E_H) (sl : Nat) (ω2 : Nat → Nat) (zf : List (List Int)) (j9 : List Int), (xk.length : Int) + 1 - i < t → 0 ≤ i → i ≤ xk.length → C_is h0 h u → D_Pl u pp pl tr B (g_sf (g_sr G 0 j9) 0 zf) P ω2 → D_cs pp s u ω ω2 sl → F_fam (X_bc xk cr i) zf → (zf.length : Int) ≤ i → B_R (d + 5) E_m80 (58, [(6, .int (Zi i)), (4, .ref (P.2.1 kf)), (0, .ref pl)], []) h sl (fun x => ∃ s2 : C_S, C_is h0 x.2.1 s2 ∧ x.1 = none ∧ ∃ zf j9, F_fam (X_bc xk cr xk.length) zf ∧ zf.length ≤ 24 ∧ D_ch pp pl tr B s P ω (g_sf (g_sr G 0 j9) 0 zf) s2 x.2.2) := by
  intro t
  induction t with
  | zero => intro i u h sl ω2 zf j9 ht i0 i1 hs hp cs hF hl; omega
  | succ t ih =>
    intro i u h sl ω2 zf j9 ht i0 i1 hs hp cs hF hl
    have zi : Zr i := ⟨by omega, by omega⟩
    have ek2 : (g_sf (g_sr G 0 j9) 0 zf).2.1 kf = xk := by
      show g_up G.2.1 0 zf kf = xk
      rw [g_up_o k0]; exact ek
    have fk := hp.fF' hk ek2
    have hsr := (hp.fL hk).2
    rw [ek2] at hsr
    have zl : Zr (xk.length : Int) := ⟨by omega, by omega⟩
    have ec2 : (g_sf (g_sr G 0 j9) 0 zf).1 1 = cr := by
      show g_up G.1 0 j9 1 = cr
      rw [g_up_o (by omega)]; exact ec
    refine Z_go (f2 := (60, [(6, .int (Zi i)), (4, .ref (P.2.1 kf)), (0, .ref pl)], [.int (Zi i)])) (fun _ => rfl) ?_
    refine Z_go (f2 := (62, [(6, .int (Zi i)), (4, .ref (P.2.1 kf)), (0, .ref pl)], [.ref (P.2.1 kf), .int (Zi i)])) (fun _ => rfl) ?_
    refine C_gi rfl hs (hp.fK hk) (by decide) (Nat.le_of_ble_eq_true rfl) rfl ?_
    rw [show C_F (u) (P.2.1 kf) 2 = (xk.length : Int) from (by first | exact fk | exact (if_neg (fun e => absurd e.1 (by assumption))).trans fk | exact (if_neg (fun e => absurd e.2 (by decide))).trans fk | exact (if_neg (fun e => absurd e.2 (by decide))).trans ((if_neg (fun e => absurd e.2 (by decide))).trans fk) | exact (if_neg (fun e => absurd e.2 (by decide))).trans ((if_neg (fun e => absurd e.2 (by decide))).trans ((if_neg (fun e => absurd e.2 (by decide))).trans fk)))]
    show B_R _ _ (65, [(6, .int (Zi i)), (4, .ref (P.2.1 kf)), (0, .ref pl)], [.int (Zi ((xk.length : Int))), .int (Zi i)]) _ _ _
    refine Z_cge rfl rfl (by first | exact hs.zF _ _ | exact Zor_r _ _ | exact hs.zA _ _ | assumption | exact zA _ _ | exact zS _ | exact Zr_not (hs.zA _ _) | exact hs.1.1 _ _ | exact ⟨by omega, by omega⟩) (by first | exact hs.zF _ _ | exact Zor_r _ _ | exact hs.zA _ _ | assumption | exact zA _ _ | exact zS _ | exact Zr_not (hs.zA _ _) | exact hs.1.1 _ _ | exact ⟨by omega, by omega⟩) (fun y1 => ?_) (fun y1 => ?_)
    · refine Z_ret rfl rfl ?_
      try dsimp only
      obtain rfl : i = xk.length := by omega
      exact ⟨_, hs, rfl, zf, j9, hF, by omega, _, hp, cs⟩
    · refine Z_go (f2 := (69, [(6, .int (Zi i)), (4, .ref (P.2.1 kf)), (0, .ref pl)], [.ref pl])) (fun _ => rfl) ?_
      refine C_gr rfl hs hp.1.1.1 (by decide) (Nat.le_of_ble_eq_true rfl) rfl hp.1.1.2.2.2.2.2.2.1 ?_
      refine Z_go (f2 := (74, [(6, .int (Zi i)), (4, .ref (P.2.1 kf)), (0, .ref pl)], [.ref (P.2.1 kf), .ref (P.1 0)])) (fun _ => rfl) ?_
      refine Z_go (f2 := (76, [(6, .int (Zi i)), (4, .ref (P.2.1 kf)), (0, .ref pl)], [.int (Zi i), .ref (P.2.1 kf), .ref (P.1 0)])) (fun _ => rfl) ?_
      refine C_callVR (As := [.int (Zi i)]) (rest := [.ref (P.1 0)]) rfl (by decide) rfl (by decide) rfl rfl (by decide +kernel) (Nat.le_of_ble_eq_true rfl) hs (hp.fK hk) (o_frow' _ hp hk ek2 (i := i) i0 (by omega)) (fun x q => ?_)
      obtain ⟨ra, a1, c1, rfl, hra⟩ := q
      have hxm := X_at_mem i0 (show i < (xk.length : Int) by omega)
      have hm1 := hm _ hxm
      have hs1 := hsr _ hxm
      show B_R _ _ (79, [(6, .int (Zi i)), (4, .ref (P.2.1 kf)), (0, .ref pl)], [.ref ra, .ref (P.1 0)]) _ _ _
      refine Z_go (f2 := (80, [(6, .int (Zi i)), (4, .ref (P.2.1 kf)), (0, .ref pl)], [.ref pl, .ref ra, .ref (P.1 0)])) (fun _ => rfl) ?_
      refine C_gr rfl hs hp.1.1.1 (by decide) (Nat.le_of_ble_eq_true rfl) rfl hp.1.1.2.2.2.2.2.2.2.1 ?_
      refine C_callV (As := [.ref ra, .ref (P.1 1)]) (rest := []) rfl (by decide) rfl (by decide) rfl rfl (by decide +kernel) (Nat.le_of_ble_eq_true rfl) hs (hp.rK (.inl (by omega))) ((by obtain ⟨a2, g1, _⟩ := hp.row (r := 1) (.inl (by omega)); rw [ec2] at g1; exact o_fill _ hp (r := 0) (.inl (by omega)) hs.1 hra g1 hs1 hcr L_fr_ne (fun e => by have := (L_tw2 (L_pre_self _) (L_pre_eq e)).2; omega) hm1 B1)) (fun x h v1 n1 hs q => ?_)
      obtain ⟨rfl, ω3, hp, cq⟩ := q
      have cs := cs.tr cq
      rw [g_sr_sf, g_sr_i] at hp
      show B_R _ _ (86, [(6, .int (Zi i)), (4, .ref (P.2.1 kf)), (0, .ref pl)], []) _ _ _
      refine Z_go (f2 := (87, [(6, .int (Zi i)), (4, .ref (P.2.1 kf)), (0, .ref pl)], [.ref pl])) (fun _ => rfl) ?_
      refine C_gr rfl hs hp.1.1.1 (by decide) (Nat.le_of_ble_eq_true rfl) rfl hp.1.1.2.2.2.2.1 ?_
      refine Z_go (f2 := (91, [(6, .int (Zi i)), (4, .ref (P.2.1 kf)), (0, .ref pl)], [.ref pl, .ref (P.2.1 0)])) (fun _ => rfl) ?_
      refine C_gr rfl hs hp.1.1.1 (by decide) (Nat.le_of_ble_eq_true rfl) rfl hp.1.1.2.2.2.2.2.2.1 ?_
      refine C_callV (As := [.ref (P.1 0)]) (rest := []) rfl (by decide) rfl (by decide) rfl rfl (by decide +kernel) (Nat.le_of_ble_eq_true rfl) hs (hp.fK (.inl (by omega))) (o_offerR' _ hp (f := 0) (.inl (by omega)) (r := 0) (.inl (by omega)) (xf := zf) (xs := L_un (X_at xk i) cr) (by simp only [g_sr, g_sf, g_st, g_se, g_su]; repeat (first | rw [g_up_s] | rw [g_up_o (by omega)])) (by simp only [g_sr, g_sf, g_st, g_se, g_su]; repeat (first | rw [g_up_s] | rw [g_up_o (by omega)])) hs.1 (L_un_srt hcr) (by show zf.length < 576; omega) B0 B1 (by have := L_un_lq (X_at xk i) cr; omega)) (fun x h v2 n2 hs q => ?_)
      obtain ⟨rfl, ω4, hp, cq⟩ := q
      have cs := cs.tr cq
      rw [g_sf_i] at hp
      show B_R _ _ (97, [(6, .int (Zi i)), (4, .ref (P.2.1 kf)), (0, .ref pl)], []) _ _ _
      refine Z_iinc (L2 := [(6, .int (Zi (i + 1))), (4, .ref (P.2.1 kf)), (0, .ref pl)]) rfl rfl (by decide) rfl ?_
      refine Z_go (f2 := (58, [(6, .int (Zi (i + 1))), (4, .ref (P.2.1 kf)), (0, .ref pl)], [])) (fun _ => rfl) ?_
      refine B_loc (K := [(6, .int (Zi (i + 1))), (4, .ref (P.2.1 kf)), (0, .ref pl)]) (N_all_sub ⟨rfl, rfl, rfl, trivial⟩) (show ([6, 4, 0] : List Nat).Nodup by decide) ?_
      have hF2 := (hF.off (xs := L_un (X_at xk i) cr) (L_un_srt hcr)).ext (X_bc_s i0 (by omega))
      have hl2 := F_off_len zf (L_un (X_at xk i) cr)
      exact ih _ _ h _ _ _ _ (by omega) (by omega) (by omega) hs hp cs hF2 (by omega)
theorem C_bbc (d : Nat) {s : C_S} {pp : List Nat} {pl tr B : Nat} {G : G_t} {P : G_p} {ω : Nat → Nat} {a b : Nat} {C Q : P_X} {xp xq : List (List Int)} (hp : D_Pl s pp pl tr B G P ω) (B0 : 1280 ≤ B) (B1 : B ≤ 20000) (ha : Pl_hf P a) (hb : Pl_hf P b) (a0 : a ≠ 0) (b0 : b ≠ 0) (ea : G.2.1 a = xp) (eb : G.2.1 b = xq) (hC : F_tel C xp) (hQ : F_tel Q xq) (la : xp.length ≤ 24) (lb : xq.length ≤ 24) (hm : ∀ x ∈ xp, ∀ y ∈ xq, 2 * (x.length + y.length) ≤ B) (nea : xp ≠ []) (neb : xq ≠ []) : C_ok (d + 6) 80 [.ref pl, .ref (P.2.1 a), .ref (P.2.1 b)] s (fun x s2 n => x = none ∧ ∃ zf j9 k9, (F_fam (if xp.length ≤ xq.length then F_un C (fun x => x = F_core Q) else F_un (fun x => x = F_core C) Q) zf ∧ zf.length ≤ 24) ∧ D_ch pp pl tr B s P ω (g_sf (g_sr (g_sr G 1 k9) 0 j9) 0 zf) s2 n) := by
  refine C_enter (M := E_m80) rfl (Nat.le_of_ble_eq_true rfl) (fun h0 h hs => ?_)
  show B_R (d + 5) _ (0, [(0, .ref pl), (1, .ref (P.2.1 a)), (2, .ref (P.2.1 b))], []) _ _ _
  have cs := D_cs.refl pp s ω
  have fa := hp.fF' ha ea
  have fb := hp.fF' hb eb
  have zla : Zr (xp.length : Int) := ⟨by omega, by omega⟩
  have zlb : Zr (xq.length : Int) := ⟨by omega, by omega⟩
  obtain ⟨x0, hx0⟩ := List.exists_mem_of_ne_nil _ nea
  obtain ⟨y0, hy0⟩ := List.exists_mem_of_ne_nil _ neb
  refine Z_go (f2 := (1, [(0, .ref pl), (1, .ref (P.2.1 a)), (2, .ref (P.2.1 b))], [.ref (P.2.1 a)])) (fun _ => rfl) ?_
  refine C_gi rfl hs (hp.fK ha) (by decide) (Nat.le_of_ble_eq_true rfl) rfl ?_
  rw [show C_F (s) (P.2.1 a) 2 = (xp.length : Int) from (by first | exact fa | exact (if_neg (fun e => absurd e.1 (by assumption))).trans fa | exact (if_neg (fun e => absurd e.2 (by decide))).trans fa | exact (if_neg (fun e => absurd e.2 (by decide))).trans ((if_neg (fun e => absurd e.2 (by decide))).trans fa) | exact (if_neg (fun e => absurd e.2 (by decide))).trans ((if_neg (fun e => absurd e.2 (by decide))).trans ((if_neg (fun e => absurd e.2 (by decide))).trans fa)))]
  show B_R _ _ (4, [(0, .ref pl), (1, .ref (P.2.1 a)), (2, .ref (P.2.1 b))], [.int (Zi ((xp.length : Int)))]) _ _ _
  refine Z_go (f2 := (5, [(0, .ref pl), (1, .ref (P.2.1 a)), (2, .ref (P.2.1 b))], [.ref (P.2.1 b), .int (Zi ((xp.length : Int)))])) (fun _ => rfl) ?_
  refine C_gi rfl hs (hp.fK hb) (by decide) (Nat.le_of_ble_eq_true rfl) rfl ?_
  rw [show C_F (s) (P.2.1 b) 2 = (xq.length : Int) from (by first | exact fb | exact (if_neg (fun e => absurd e.1 (by assumption))).trans fb | exact (if_neg (fun e => absurd e.2 (by decide))).trans fb | exact (if_neg (fun e => absurd e.2 (by decide))).trans ((if_neg (fun e => absurd e.2 (by decide))).trans fb) | exact (if_neg (fun e => absurd e.2 (by decide))).trans ((if_neg (fun e => absurd e.2 (by decide))).trans ((if_neg (fun e => absurd e.2 (by decide))).trans fb)))]
  show B_R _ _ (8, [(0, .ref pl), (1, .ref (P.2.1 a)), (2, .ref (P.2.1 b))], [.int (Zi ((xq.length : Int))), .int (Zi ((xp.length : Int)))]) _ _ _
  refine Z_cgt rfl rfl (by first | exact hs.zF _ _ | exact Zor_r _ _ | exact hs.zA _ _ | assumption | exact zA _ _ | exact zS _ | exact Zr_not (hs.zA _ _) | exact hs.1.1 _ _ | exact ⟨by omega, by omega⟩) (by first | exact hs.zF _ _ | exact Zor_r _ _ | exact hs.zA _ _ | assumption | exact zA _ _ | exact zS _ | exact Zr_not (hs.zA _ _) | exact hs.1.1 _ _ | exact ⟨by omega, by omega⟩) (fun y1 => ?_) (fun y1 => ?_)
  · refine Z_go (f2 := (16, [(0, .ref pl), (1, .ref (P.2.1 a)), (2, .ref (P.2.1 b))], [.int (Zi 0)])) (fun _ => rfl) ?_
    refine Z_go (f2 := (17, [(3, .int (Zi 0)), (0, .ref pl), (1, .ref (P.2.1 a)), (2, .ref (P.2.1 b))], [])) (fun _ => rfl) ?_
    refine Z_go (f2 := (18, [(3, .int (Zi 0)), (0, .ref pl), (1, .ref (P.2.1 a)), (2, .ref (P.2.1 b))], [.int (Zi 0)])) (fun _ => rfl) ?_
    refine Z_ieq rfl rfl (by first | exact hs.zF _ _ | exact Zor_r _ _ | exact hs.zA _ _ | assumption | exact zA _ _ | exact zS _ | exact Zr_not (hs.zA _ _) | exact hs.1.1 _ _ | exact ⟨by omega, by omega⟩) (fun y2 => ?_) (fun y2 => ?_)
    · refine Z_go (f2 := (26, [(3, .int (Zi 0)), (0, .ref pl), (1, .ref (P.2.1 a)), (2, .ref (P.2.1 b))], [.ref (P.2.1 b)])) (fun _ => rfl) ?_
      refine Z_go (f2 := (28, [(4, .ref (P.2.1 b)), (3, .int (Zi 0)), (0, .ref pl), (1, .ref (P.2.1 a)), (2, .ref (P.2.1 b))], [])) (fun _ => rfl) ?_
      refine Z_go (f2 := (29, [(4, .ref (P.2.1 b)), (3, .int (Zi 0)), (0, .ref pl), (1, .ref (P.2.1 a)), (2, .ref (P.2.1 b))], [.int (Zi 0)])) (fun _ => rfl) ?_
      refine Z_ieq rfl rfl (by first | exact hs.zF _ _ | exact Zor_r _ _ | exact hs.zA _ _ | assumption | exact zA _ _ | exact zS _ | exact Zr_not (hs.zA _ _) | exact hs.1.1 _ _ | exact ⟨by omega, by omega⟩) (fun y3 => ?_) (fun y3 => ?_)
      · refine Z_go (f2 := (37, [(4, .ref (P.2.1 b)), (3, .int (Zi 0)), (0, .ref pl), (1, .ref (P.2.1 a)), (2, .ref (P.2.1 b))], [.ref (P.2.1 a)])) (fun _ => rfl) ?_
        refine Z_go (f2 := (39, [(5, .ref (P.2.1 a)), (4, .ref (P.2.1 b)), (3, .int (Zi 0)), (0, .ref pl), (1, .ref (P.2.1 a)), (2, .ref (P.2.1 b))], [])) (fun _ => rfl) ?_
        refine Z_go (f2 := (41, [(5, .ref (P.2.1 a)), (4, .ref (P.2.1 b)), (3, .int (Zi 0)), (0, .ref pl), (1, .ref (P.2.1 a)), (2, .ref (P.2.1 b))], [.ref (P.2.1 a)])) (fun _ => rfl) ?_
        refine Z_go (f2 := (42, [(5, .ref (P.2.1 a)), (4, .ref (P.2.1 b)), (3, .int (Zi 0)), (0, .ref pl), (1, .ref (P.2.1 a)), (2, .ref (P.2.1 b))], [.ref pl, .ref (P.2.1 a)])) (fun _ => rfl) ?_
        refine C_gr rfl hs hp.1.1.1 (by decide) (Nat.le_of_ble_eq_true rfl) rfl hp.1.1.2.2.2.2.2.2.2.1 ?_
        refine C_callV (As := [.ref (P.1 1)]) (rest := []) rfl (by decide) rfl (by decide) rfl rfl (by decide +kernel) (Nat.le_of_ble_eq_true rfl) hs (hp.fK ha) (o_core' _ hp ha (r := 1) (.inl (by omega)) ea hs.1 B0 B1 (fun c hc => by have := hm c hc _ hy0; omega)) (fun x h v1 n1 hs q => ?_)
        obtain ⟨rfl, k9, hcl, ω1, hp, cq⟩ := q
        have cs := cs.tr cq
        show B_R _ _ (48, [(5, .ref (P.2.1 a)), (4, .ref (P.2.1 b)), (3, .int (Zi 0)), (0, .ref pl), (1, .ref (P.2.1 a)), (2, .ref (P.2.1 b))], []) _ _ _
        refine Z_go (f2 := (49, [(5, .ref (P.2.1 a)), (4, .ref (P.2.1 b)), (3, .int (Zi 0)), (0, .ref pl), (1, .ref (P.2.1 a)), (2, .ref (P.2.1 b))], [.ref pl])) (fun _ => rfl) ?_
        refine C_gr rfl hs hp.1.1.1 (by decide) (Nat.le_of_ble_eq_true rfl) rfl hp.1.1.2.2.2.2.1 ?_
        refine C_callV (As := []) (rest := []) rfl (by decide) rfl (by decide) rfl rfl (by decide +kernel) (Nat.le_of_ble_eq_true rfl) hs (hp.fK (.inl (by omega))) (o_fclear _ hp (f := 0) (.inl (by omega)) hs.1) (fun x h v2 n2 hs q => ?_)
        obtain ⟨rfl, ω2, hp, cq⟩ := q
        have cs := cs.tr cq
        rw [← g_sr_n (g_sr G 1 k9) 0] at hp
        show B_R _ _ (55, [(5, .ref (P.2.1 a)), (4, .ref (P.2.1 b)), (3, .int (Zi 0)), (0, .ref pl), (1, .ref (P.2.1 a)), (2, .ref (P.2.1 b))], []) _ _ _
        refine Z_go (f2 := (56, [(5, .ref (P.2.1 a)), (4, .ref (P.2.1 b)), (3, .int (Zi 0)), (0, .ref pl), (1, .ref (P.2.1 a)), (2, .ref (P.2.1 b))], [.int (Zi 0)])) (fun _ => rfl) ?_
        refine Z_go (f2 := (58, [(6, .int (Zi 0)), (5, .ref (P.2.1 a)), (4, .ref (P.2.1 b)), (3, .int (Zi 0)), (0, .ref pl), (1, .ref (P.2.1 a)), (2, .ref (P.2.1 b))], [])) (fun _ => rfl) ?_
        refine B_loc (K := [(6, .int (Zi 0)), (4, .ref (P.2.1 b)), (0, .ref pl)]) (N_all_sub ⟨rfl, rfl, rfl, trivial⟩) (show ([6, 4, 0] : List Nat).Nodup by decide) ?_
        refine (C_bbc_lp (s := s) (G := g_sr G 1 k9) (ω := ω) (kf := b) (xk := xq) (cr := k9) B0 B1 hb b0 eb lb hcl.1 (by simp only [g_sr, g_sf, g_st, g_se, g_su]; repeat (first | rw [g_up_s] | rw [g_up_o (by omega)])) (fun c hc => by have := hcl.2.2 _ hx0; have := hm _ hx0 c hc; omega) (xq.length + 2) 0 _ h _ _ [] _ (by omega) (by omega) (by omega) hs hp cs (F_fam.nil.ext X_bc_0) (by show (0 : Int) ≤ _; omega)).weak (fun z ⟨s2, q1, q2, zf, j9, q3, q4, q5⟩ => ⟨s2, q1, q2, zf, j9, k9, ⟨?_, q4⟩, q5⟩)
        rw [if_neg (by omega), hC.core nea hcl]
        refine q3.ext (fun z => Iff.trans ?_ (X_bc_e hQ z))
        constructor
        · rintro ⟨x, y, hx, hy, rfl⟩
          rw [show x = k9 from hx, L_un_cm hcl.1 (hQ.2.1 y ((hQ.2.2 y).mpr hy))]
          exact ⟨y, k9, hy, rfl, rfl⟩
        · rintro ⟨x, y, hx, hy, rfl⟩
          rw [show y = k9 from hy, L_un_cm (hQ.2.1 x ((hQ.2.2 x).mpr hx)) hcl.1]
          exact ⟨k9, x, rfl, hx, rfl⟩
      · exfalso; omega
    · exfalso; omega
  · refine Z_go (f2 := (12, [(0, .ref pl), (1, .ref (P.2.1 a)), (2, .ref (P.2.1 b))], [.int (Zi 1)])) (fun _ => rfl) ?_
    refine Z_go (f2 := (16, [(0, .ref pl), (1, .ref (P.2.1 a)), (2, .ref (P.2.1 b))], [.int (Zi 1)])) (fun _ => rfl) ?_
    refine Z_go (f2 := (17, [(3, .int (Zi 1)), (0, .ref pl), (1, .ref (P.2.1 a)), (2, .ref (P.2.1 b))], [])) (fun _ => rfl) ?_
    refine Z_go (f2 := (18, [(3, .int (Zi 1)), (0, .ref pl), (1, .ref (P.2.1 a)), (2, .ref (P.2.1 b))], [.int (Zi 1)])) (fun _ => rfl) ?_
    refine Z_ieq rfl rfl (by first | exact hs.zF _ _ | exact Zor_r _ _ | exact hs.zA _ _ | assumption | exact zA _ _ | exact zS _ | exact Zr_not (hs.zA _ _) | exact hs.1.1 _ _ | exact ⟨by omega, by omega⟩) (fun y4 => ?_) (fun y4 => ?_)
    · exfalso; omega
    · refine Z_go (f2 := (22, [(3, .int (Zi 1)), (0, .ref pl), (1, .ref (P.2.1 a)), (2, .ref (P.2.1 b))], [.ref (P.2.1 a)])) (fun _ => rfl) ?_
      refine Z_go (f2 := (26, [(3, .int (Zi 1)), (0, .ref pl), (1, .ref (P.2.1 a)), (2, .ref (P.2.1 b))], [.ref (P.2.1 a)])) (fun _ => rfl) ?_
      refine Z_go (f2 := (28, [(4, .ref (P.2.1 a)), (3, .int (Zi 1)), (0, .ref pl), (1, .ref (P.2.1 a)), (2, .ref (P.2.1 b))], [])) (fun _ => rfl) ?_
      refine Z_go (f2 := (29, [(4, .ref (P.2.1 a)), (3, .int (Zi 1)), (0, .ref pl), (1, .ref (P.2.1 a)), (2, .ref (P.2.1 b))], [.int (Zi 1)])) (fun _ => rfl) ?_
      refine Z_ieq rfl rfl (by first | exact hs.zF _ _ | exact Zor_r _ _ | exact hs.zA _ _ | assumption | exact zA _ _ | exact zS _ | exact Zr_not (hs.zA _ _) | exact hs.1.1 _ _ | exact ⟨by omega, by omega⟩) (fun y5 => ?_) (fun y5 => ?_)
      · exfalso; omega
      · refine Z_go (f2 := (33, [(4, .ref (P.2.1 a)), (3, .int (Zi 1)), (0, .ref pl), (1, .ref (P.2.1 a)), (2, .ref (P.2.1 b))], [.ref (P.2.1 b)])) (fun _ => rfl) ?_
        refine Z_go (f2 := (37, [(4, .ref (P.2.1 a)), (3, .int (Zi 1)), (0, .ref pl), (1, .ref (P.2.1 a)), (2, .ref (P.2.1 b))], [.ref (P.2.1 b)])) (fun _ => rfl) ?_
        refine Z_go (f2 := (39, [(5, .ref (P.2.1 b)), (4, .ref (P.2.1 a)), (3, .int (Zi 1)), (0, .ref pl), (1, .ref (P.2.1 a)), (2, .ref (P.2.1 b))], [])) (fun _ => rfl) ?_
        refine Z_go (f2 := (41, [(5, .ref (P.2.1 b)), (4, .ref (P.2.1 a)), (3, .int (Zi 1)), (0, .ref pl), (1, .ref (P.2.1 a)), (2, .ref (P.2.1 b))], [.ref (P.2.1 b)])) (fun _ => rfl) ?_
        refine Z_go (f2 := (42, [(5, .ref (P.2.1 b)), (4, .ref (P.2.1 a)), (3, .int (Zi 1)), (0, .ref pl), (1, .ref (P.2.1 a)), (2, .ref (P.2.1 b))], [.ref pl, .ref (P.2.1 b)])) (fun _ => rfl) ?_
        refine C_gr rfl hs hp.1.1.1 (by decide) (Nat.le_of_ble_eq_true rfl) rfl hp.1.1.2.2.2.2.2.2.2.1 ?_
        refine C_callV (As := [.ref (P.1 1)]) (rest := []) rfl (by decide) rfl (by decide) rfl rfl (by decide +kernel) (Nat.le_of_ble_eq_true rfl) hs (hp.fK hb) (o_core' _ hp hb (r := 1) (.inl (by omega)) eb hs.1 B0 B1 (fun c hc => by have := hm _ hx0 c hc; omega)) (fun x h v1 n1 hs q => ?_)
        obtain ⟨rfl, k9, hcl, ω1, hp, cq⟩ := q
        have cs := cs.tr cq
        show B_R _ _ (48, [(5, .ref (P.2.1 b)), (4, .ref (P.2.1 a)), (3, .int (Zi 1)), (0, .ref pl), (1, .ref (P.2.1 a)), (2, .ref (P.2.1 b))], []) _ _ _
        refine Z_go (f2 := (49, [(5, .ref (P.2.1 b)), (4, .ref (P.2.1 a)), (3, .int (Zi 1)), (0, .ref pl), (1, .ref (P.2.1 a)), (2, .ref (P.2.1 b))], [.ref pl])) (fun _ => rfl) ?_
        refine C_gr rfl hs hp.1.1.1 (by decide) (Nat.le_of_ble_eq_true rfl) rfl hp.1.1.2.2.2.2.1 ?_
        refine C_callV (As := []) (rest := []) rfl (by decide) rfl (by decide) rfl rfl (by decide +kernel) (Nat.le_of_ble_eq_true rfl) hs (hp.fK (.inl (by omega))) (o_fclear _ hp (f := 0) (.inl (by omega)) hs.1) (fun x h v2 n2 hs q => ?_)
        obtain ⟨rfl, ω2, hp, cq⟩ := q
        have cs := cs.tr cq
        rw [← g_sr_n (g_sr G 1 k9) 0] at hp
        show B_R _ _ (55, [(5, .ref (P.2.1 b)), (4, .ref (P.2.1 a)), (3, .int (Zi 1)), (0, .ref pl), (1, .ref (P.2.1 a)), (2, .ref (P.2.1 b))], []) _ _ _
        refine Z_go (f2 := (56, [(5, .ref (P.2.1 b)), (4, .ref (P.2.1 a)), (3, .int (Zi 1)), (0, .ref pl), (1, .ref (P.2.1 a)), (2, .ref (P.2.1 b))], [.int (Zi 0)])) (fun _ => rfl) ?_
        refine Z_go (f2 := (58, [(6, .int (Zi 0)), (5, .ref (P.2.1 b)), (4, .ref (P.2.1 a)), (3, .int (Zi 1)), (0, .ref pl), (1, .ref (P.2.1 a)), (2, .ref (P.2.1 b))], [])) (fun _ => rfl) ?_
        refine B_loc (K := [(6, .int (Zi 0)), (4, .ref (P.2.1 a)), (0, .ref pl)]) (N_all_sub ⟨rfl, rfl, rfl, trivial⟩) (show ([6, 4, 0] : List Nat).Nodup by decide) ?_
        refine (C_bbc_lp (s := s) (G := g_sr G 1 k9) (ω := ω) (kf := a) (xk := xp) (cr := k9) B0 B1 ha a0 ea la hcl.1 (by simp only [g_sr, g_sf, g_st, g_se, g_su]; repeat (first | rw [g_up_s] | rw [g_up_o (by omega)])) (fun c hc => by have := hcl.2.2 _ hy0; have := hm c hc _ hy0; omega) (xp.length + 2) 0 _ h _ _ [] _ (by omega) (by omega) (by omega) hs hp cs (F_fam.nil.ext X_bc_0) (by show (0 : Int) ≤ _; omega)).weak (fun z ⟨s2, q1, q2, zf, j9, q3, q4, q5⟩ => ⟨s2, q1, q2, zf, j9, k9, ⟨?_, q4⟩, q5⟩)
        rw [if_pos (by omega), hQ.core neb hcl]
        exact q3.ext (fun z => X_bc_e hC z)
theorem C_both2 {d : Nat} {h0 : E_H} {s : C_S} {Φ : E_R → Prop} {pp : List Nat} {pl tr B : Nat} {G : G_t} {P : G_p} {ω : Nat → Nat} {a b : Nat} {C Q : P_X} {xp xq : List (List Int)} (B0 : 1280 ≤ B) (B1 : B ≤ 20000) (ha : Pl_hf P a) (hb : Pl_hf P b) (a0 : a ≠ 0) (b0 : b ≠ 0) (ea : G.2.1 a = xp) (eb : G.2.1 b = xq) (hC : F_tel C xp) (hQ : F_tel Q xq) (la : xp.length ≤ 24) (lb : xq.length ≤ 24) (hm : ∀ x ∈ xp, ∀ y ∈ xq, 2 * (x.length + y.length) ≤ B) {i : Int} (i0 : 0 ≤ i) (i1 : i < xp.length) (ret : ∀ (u : C_S) (h : E_H) (sl : Nat) (ω2 : Nat → Nat) (zf : List (List Int)) (j9 : List Int), C_is h0 h u → D_Pl u pp pl tr B (g_sf (g_sr G 0 j9) 0 zf) P ω2 → D_cs pp s u ω ω2 sl → F_fam (X_bt xp xq i xq.length) zf → (zf.length : Int) ≤ 24 * i + 24 → B_R (d + 6) E_m79 (72, [(3, .int (Zi i)), (0, .ref pl), (1, .ref (P.2.1 a)), (2, .ref (P.2.1 b))], []) h sl Φ) : ∀ (t : Nat) (k : Int) (u : C_S) (h : E_H) (sl : Nat) (ω2 : Nat → Nat) (zf : List (List Int)) (j9 : List Int), (xq.length : Int) + 1 - k < t → 0 ≤ k → k ≤ xq.length → C_is h0 h u → D_Pl u pp pl tr B (g_sf (g_sr G 0 j9) 0 zf) P ω2 → D_cs pp s u ω ω2 sl → F_fam (X_bt xp xq i k) zf → (zf.length : Int) ≤ 24 * i + k → B_R (d + 6) E_m79 (28, [(4, .int (Zi k)), (3, .int (Zi i)), (0, .ref pl), (1, .ref (P.2.1 a)), (2, .ref (P.2.1 b))], []) h sl Φ := by
  intro t
  induction t with
  | zero => intro k u h sl ω2 zf j9 ht k0 k1 hs hp cs hF hl; omega
  | succ t ih =>
    intro k u h sl ω2 zf j9 ht k0 k1 hs hp cs hF hl
    have zk : Zr k := ⟨by omega, by omega⟩
    have zi : Zr i := ⟨by omega, by omega⟩
    have ea2 : (g_sf (g_sr G 0 j9) 0 zf).2.1 a = xp := by
      show g_up G.2.1 0 zf a = xp
      rw [g_up_o a0]; exact ea
    have eb2 : (g_sf (g_sr G 0 j9) 0 zf).2.1 b = xq := by
      show g_up G.2.1 0 zf b = xq
      rw [g_up_o b0]; exact eb
    have fa := hp.fF' ha ea2
    have fb := hp.fF' hb eb2
    have zla : Zr (xp.length : Int) := ⟨by omega, by omega⟩
    have zlb : Zr (xq.length : Int) := ⟨by omega, by omega⟩
    refine Z_go (f2 := (30, [(4, .int (Zi k)), (3, .int (Zi i)), (0, .ref pl), (1, .ref (P.2.1 a)), (2, .ref (P.2.1 b))], [.int (Zi k)])) (fun _ => rfl) ?_
    refine Z_go (f2 := (31, [(4, .int (Zi k)), (3, .int (Zi i)), (0, .ref pl), (1, .ref (P.2.1 a)), (2, .ref (P.2.1 b))], [.ref (P.2.1 b), .int (Zi k)])) (fun _ => rfl) ?_
    refine C_gi rfl hs (hp.fK hb) (by decide) (Nat.le_of_ble_eq_true rfl) rfl ?_
    rw [show C_F (u) (P.2.1 b) 2 = (xq.length : Int) from (by first | exact fb | exact (if_neg (fun e => absurd e.1 (by assumption))).trans fb | exact (if_neg (fun e => absurd e.2 (by decide))).trans fb | exact (if_neg (fun e => absurd e.2 (by decide))).trans ((if_neg (fun e => absurd e.2 (by decide))).trans fb) | exact (if_neg (fun e => absurd e.2 (by decide))).trans ((if_neg (fun e => absurd e.2 (by decide))).trans ((if_neg (fun e => absurd e.2 (by decide))).trans fb)))]
    show B_R _ _ (34, [(4, .int (Zi k)), (3, .int (Zi i)), (0, .ref pl), (1, .ref (P.2.1 a)), (2, .ref (P.2.1 b))], [.int (Zi ((xq.length : Int))), .int (Zi k)]) _ _ _
    refine Z_cge rfl rfl (by first | exact hs.zF _ _ | exact Zor_r _ _ | exact hs.zA _ _ | assumption | exact zA _ _ | exact zS _ | exact Zr_not (hs.zA _ _) | exact hs.1.1 _ _ | exact ⟨by omega, by omega⟩) (by first | exact hs.zF _ _ | exact Zor_r _ _ | exact hs.zA _ _ | assumption | exact zA _ _ | exact zS _ | exact Zr_not (hs.zA _ _) | exact hs.1.1 _ _ | exact ⟨by omega, by omega⟩) (fun y1 => ?_) (fun y1 => ?_)
    · refine B_loc (K := [(3, .int (Zi i)), (0, .ref pl), (1, .ref (P.2.1 a)), (2, .ref (P.2.1 b))]) (N_all_sub ⟨rfl, rfl, rfl, rfl, trivial⟩) (show ([3, 0, 1, 2] : List Nat).Nodup by decide) ?_
      obtain rfl : k = xq.length := by omega
      exact ret u h sl ω2 zf j9 hs hp cs hF (by omega)
    · refine Z_go (f2 := (38, [(4, .int (Zi k)), (3, .int (Zi i)), (0, .ref pl), (1, .ref (P.2.1 a)), (2, .ref (P.2.1 b))], [.ref pl])) (fun _ => rfl) ?_
      refine C_gr rfl hs hp.1.1.1 (by decide) (Nat.le_of_ble_eq_true rfl) rfl hp.1.1.2.2.2.2.2.2.1 ?_
      refine Z_go (f2 := (42, [(4, .int (Zi k)), (3, .int (Zi i)), (0, .ref pl), (1, .ref (P.2.1 a)), (2, .ref (P.2.1 b))], [.ref (P.2.1 a), .ref (P.1 0)])) (fun _ => rfl) ?_
      refine Z_go (f2 := (43, [(4, .int (Zi k)), (3, .int (Zi i)), (0, .ref pl), (1, .ref (P.2.1 a)), (2, .ref (P.2.1 b))], [.int (Zi i), .ref (P.2.1 a), .ref (P.1 0)])) (fun _ => rfl) ?_
      refine C_callVR (As := [.int (Zi i)]) (rest := [.ref (P.1 0)]) rfl (by decide) rfl (by decide) rfl rfl (by decide +kernel) (Nat.le_of_ble_eq_true rfl) hs (hp.fK ha) (o_frow' _ hp ha ea2 (i := i) i0 (by omega)) (fun x q => ?_)
      obtain ⟨ra, a1, c1, rfl, hra⟩ := q
      show B_R _ _ (46, [(4, .int (Zi k)), (3, .int (Zi i)), (0, .ref pl), (1, .ref (P.2.1 a)), (2, .ref (P.2.1 b))], [.ref ra, .ref (P.1 0)]) _ _ _
      refine Z_go (f2 := (47, [(4, .int (Zi k)), (3, .int (Zi i)), (0, .ref pl), (1, .ref (P.2.1 a)), (2, .ref (P.2.1 b))], [.ref (P.2.1 b), .ref ra, .ref (P.1 0)])) (fun _ => rfl) ?_
      refine Z_go (f2 := (49, [(4, .int (Zi k)), (3, .int (Zi i)), (0, .ref pl), (1, .ref (P.2.1 a)), (2, .ref (P.2.1 b))], [.int (Zi k), .ref (P.2.1 b), .ref ra, .ref (P.1 0)])) (fun _ => rfl) ?_
      refine C_callVR (As := [.int (Zi k)]) (rest := [.ref ra, .ref (P.1 0)]) rfl (by decide) rfl (by decide) rfl rfl (by decide +kernel) (Nat.le_of_ble_eq_true rfl) hs (hp.fK hb) (o_frow' _ hp hb eb2 (i := k) k0 (by omega)) (fun x q => ?_)
      obtain ⟨rb, a2, c2, rfl, hrb⟩ := q
      have hxa := X_at_mem i0 (show i < (xp.length : Int) by omega)
      have hxb := X_at_mem k0 (show k < (xq.length : Int) by omega)
      have hm1 := hm _ hxa _ hxb
      have hs1 := hC.2.1 _ hxa
      have hs2 := hQ.2.1 _ hxb
      show B_R _ _ (52, [(4, .int (Zi k)), (3, .int (Zi i)), (0, .ref pl), (1, .ref (P.2.1 a)), (2, .ref (P.2.1 b))], [.ref rb, .ref ra, .ref (P.1 0)]) _ _ _
      refine C_callV (As := [.ref ra, .ref rb]) (rest := []) rfl (by decide) rfl (by decide) rfl rfl (by decide +kernel) (Nat.le_of_ble_eq_true rfl) hs (hp.rK (.inl (by omega))) (o_fill _ hp (r := 0) (.inl (by omega)) hs.1 hra hrb hs1 hs2 L_fr_ne L_fr_ne hm1 B1) (fun x h v1 n1 hs q => ?_)
      obtain ⟨rfl, ω3, hp, cq⟩ := q
      have cs := cs.tr cq
      rw [g_sr_sf, g_sr_i] at hp
      show B_R _ _ (55, [(4, .int (Zi k)), (3, .int (Zi i)), (0, .ref pl), (1, .ref (P.2.1 a)), (2, .ref (P.2.1 b))], []) _ _ _
      refine Z_go (f2 := (56, [(4, .int (Zi k)), (3, .int (Zi i)), (0, .ref pl), (1, .ref (P.2.1 a)), (2, .ref (P.2.1 b))], [.ref pl])) (fun _ => rfl) ?_
      refine C_gr rfl hs hp.1.1.1 (by decide) (Nat.le_of_ble_eq_true rfl) rfl hp.1.1.2.2.2.2.1 ?_
      refine Z_go (f2 := (60, [(4, .int (Zi k)), (3, .int (Zi i)), (0, .ref pl), (1, .ref (P.2.1 a)), (2, .ref (P.2.1 b))], [.ref pl, .ref (P.2.1 0)])) (fun _ => rfl) ?_
      refine C_gr rfl hs hp.1.1.1 (by decide) (Nat.le_of_ble_eq_true rfl) rfl hp.1.1.2.2.2.2.2.2.1 ?_
      refine C_callV (As := [.ref (P.1 0)]) (rest := []) rfl (by decide) rfl (by decide) rfl rfl (by decide +kernel) (Nat.le_of_ble_eq_true rfl) hs (hp.fK (.inl (by omega))) (o_offerR' _ hp (f := 0) (.inl (by omega)) (r := 0) (.inl (by omega)) (xf := zf) (xs := L_un (X_at xp i) (X_at xq k)) (by simp only [g_sr, g_sf, g_st, g_se, g_su]; repeat (first | rw [g_up_s] | rw [g_up_o (by omega)])) (by simp only [g_sr, g_sf, g_st, g_se, g_su]; repeat (first | rw [g_up_s] | rw [g_up_o (by omega)])) hs.1 (L_un_srt hs2) (by show zf.length < 576; omega) B0 B1 (by have := L_un_lq (X_at xp i) (X_at xq k); omega)) (fun x h v2 n2 hs q => ?_)
      obtain ⟨rfl, ω4, hp, cq⟩ := q
      have cs := cs.tr cq
      rw [g_sf_i] at hp
      show B_R _ _ (66, [(4, .int (Zi k)), (3, .int (Zi i)), (0, .ref pl), (1, .ref (P.2.1 a)), (2, .ref (P.2.1 b))], []) _ _ _
      refine Z_iinc (L2 := [(4, .int (Zi (k + 1))), (3, .int (Zi i)), (0, .ref pl), (1, .ref (P.2.1 a)), (2, .ref (P.2.1 b))]) rfl rfl (by decide) rfl ?_
      refine Z_go (f2 := (28, [(4, .int (Zi (k + 1))), (3, .int (Zi i)), (0, .ref pl), (1, .ref (P.2.1 a)), (2, .ref (P.2.1 b))], [])) (fun _ => rfl) ?_
      refine B_loc (K := [(4, .int (Zi (k + 1))), (3, .int (Zi i)), (0, .ref pl), (1, .ref (P.2.1 a)), (2, .ref (P.2.1 b))]) (N_all_sub ⟨rfl, rfl, rfl, rfl, rfl, trivial⟩) (show ([4, 3, 0, 1, 2] : List Nat).Nodup by decide) ?_
      have hF2 := (hF.off (xs := L_un (X_at xp i) (X_at xq k)) (L_un_srt hs2)).ext (X_bt_s i0 i1 k0 (by omega))
      have hl2 := F_off_len zf (L_un (X_at xp i) (X_at xq k))
      exact ih _ _ h _ _ _ _ (by omega) (by omega) (by omega) hs hp cs hF2 (by omega)
theorem F_coreP {C : P_X} {xs : List (List Int)} (h : F_tel C xs) (hne : xs ≠ []) : L_srt (F_core C) ∧ ∀ x, x ∈ F_core C ↔ ∀ c, C c → x ∈ c := by
  have : ∃ l, L_srt l ∧ ∀ x, x ∈ l ↔ ∀ c, C c → x ∈ c := by
    obtain ⟨y, hy⟩ := List.exists_mem_of_ne_nil _ hne
    have fl : ∀ l : List Int, L_srt l → ∃ m, L_srt m ∧ ∀ x, x ∈ m ↔ x ∈ l ∧ ∀ c, C c → x ∈ c := by
      intro l
      induction l with
      | nil => exact fun _ => ⟨[], trivial, fun x => ⟨fun e => absurd e List.not_mem_nil, fun e => absurd e.1 List.not_mem_nil⟩⟩
      | cons a l ih =>
        intro hl
        obtain ⟨m, m1, m2⟩ := ih hl.2
        by_cases ca : ∀ c, C c → a ∈ c
        · refine ⟨a :: m, ⟨fun b hb => hl.1 b ((m2 b).mp hb).1, m1⟩, fun x => ?_⟩
          rw [List.mem_cons, List.mem_cons, m2]
          constructor
          · rintro (rfl | ⟨p, q⟩)
            · exact ⟨.inl rfl, ca⟩
            · exact ⟨.inr p, q⟩
          · rintro ⟨p | p, q⟩
            · exact .inl p
            · exact .inr ⟨p, q⟩
        · refine ⟨m, m1, fun x => ?_⟩
          rw [m2, List.mem_cons]
          constructor
          · rintro ⟨p, q⟩; exact ⟨.inr p, q⟩
          · rintro ⟨p | p, q⟩
            · rw [p] at q; exact absurd q ca
            · exact ⟨p, q⟩
    obtain ⟨m, m1, m2⟩ := fl y (h.2.1 y hy)
    exact ⟨m, m1, fun x => ⟨fun hx => ((m2 x).mp hx).2, fun hx => (m2 x).mpr ⟨hx y ((h.2.2 y).mp hy), hx⟩⟩⟩
  exact Classical.epsilon_spec this
theorem C_both1 {d : Nat} {h0 : E_H} {s : C_S} {pp : List Nat} {pl tr B : Nat} {G : G_t} {P : G_p} {ω : Nat → Nat} {a b : Nat} {C Q : P_X} {xp xq : List (List Int)} (B0 : 1280 ≤ B) (B1 : B ≤ 20000) (ha : Pl_hf P a) (hb : Pl_hf P b) (a0 : a ≠ 0) (b0 : b ≠ 0) (ea : G.2.1 a = xp) (eb : G.2.1 b = xq) (hC : F_tel C xp) (hQ : F_tel Q xq) (la : xp.length ≤ 24) (lb : xq.length ≤ 24) (hm : ∀ x ∈ xp, ∀ y ∈ xq, 2 * (x.length + y.length) ≤ B) : ∀ (t : Nat) (i : Int) (u : C_S) (h : E_H) (sl : Nat) (ω2 : Nat → Nat) (zf : List (List Int)) (j9 : List Int), (xp.length : Int) + 1 - i < t → 0 ≤ i → i ≤ xp.length → C_is h0 h u → D_Pl u pp pl tr B (g_sf (g_sr G 0 j9) 0 zf) P ω2 → D_cs pp s u ω ω2 sl → F_fam (X_bt xp xq i 0) zf → (zf.length : Int) ≤ 24 * i → B_R (d + 6) E_m79 (17, [(3, .int (Zi i)), (0, .ref pl), (1, .ref (P.2.1 a)), (2, .ref (P.2.1 b))], []) h sl (fun x => ∃ s2 : C_S, C_is h0 x.2.1 s2 ∧ x.1 = none ∧ ∃ ys j9 k9 zf, F_tel (F_both C Q) ys ∧ ys.length ≤ 24 ∧ (∀ c ∈ ys, 2 * c.length ≤ B) ∧ D_ch pp pl tr B s P ω (g_sf (g_sf (g_sr (g_sr G 0 j9) 1 k9) 0 zf) a ys) s2 x.2.2) := by
  intro t
  induction t with
  | zero => intro i u h sl ω2 zf j9 ht i0 i1 hs hp cs hF hl; omega
  | succ t ih =>
    intro i u h sl ω2 zf j9 ht i0 i1 hs hp cs hF hl
    have zi : Zr i := ⟨by omega, by omega⟩
    have ea2 : (g_sf (g_sr G 0 j9) 0 zf).2.1 a = xp := by
      show g_up G.2.1 0 zf a = xp
      rw [g_up_o a0]; exact ea
    have eb2 : (g_sf (g_sr G 0 j9) 0 zf).2.1 b = xq := by
      show g_up G.2.1 0 zf b = xq
      rw [g_up_o b0]; exact eb
    have fa := hp.fF' ha ea2
    have fb := hp.fF' hb eb2
    have zla : Zr (xp.length : Int) := ⟨by omega, by omega⟩
    have zlb : Zr (xq.length : Int) := ⟨by omega, by omega⟩
    have fz := hp.fF' (f := 0) (.inl (by omega)) (xf := zf) (by simp only [g_sr, g_sf, g_st, g_se, g_su]; repeat (first | rw [g_up_s] | rw [g_up_o (by omega)]))
    have zlz : Zr (zf.length : Int) := ⟨by omega, by omega⟩
    refine Z_go (f2 := (18, [(3, .int (Zi i)), (0, .ref pl), (1, .ref (P.2.1 a)), (2, .ref (P.2.1 b))], [.int (Zi i)])) (fun _ => rfl) ?_
    refine Z_go (f2 := (19, [(3, .int (Zi i)), (0, .ref pl), (1, .ref (P.2.1 a)), (2, .ref (P.2.1 b))], [.ref (P.2.1 a), .int (Zi i)])) (fun _ => rfl) ?_
    refine C_gi rfl hs (hp.fK ha) (by decide) (Nat.le_of_ble_eq_true rfl) rfl ?_
    rw [show C_F (u) (P.2.1 a) 2 = (xp.length : Int) from (by first | exact fa | exact (if_neg (fun e => absurd e.1 (by assumption))).trans fa | exact (if_neg (fun e => absurd e.2 (by decide))).trans fa | exact (if_neg (fun e => absurd e.2 (by decide))).trans ((if_neg (fun e => absurd e.2 (by decide))).trans fa) | exact (if_neg (fun e => absurd e.2 (by decide))).trans ((if_neg (fun e => absurd e.2 (by decide))).trans ((if_neg (fun e => absurd e.2 (by decide))).trans fa)))]
    show B_R _ _ (22, [(3, .int (Zi i)), (0, .ref pl), (1, .ref (P.2.1 a)), (2, .ref (P.2.1 b))], [.int (Zi ((xp.length : Int))), .int (Zi i)]) _ _ _
    refine Z_cge rfl rfl (by first | exact hs.zF _ _ | exact Zor_r _ _ | exact hs.zA _ _ | assumption | exact zA _ _ | exact zS _ | exact Zr_not (hs.zA _ _) | exact hs.1.1 _ _ | exact ⟨by omega, by omega⟩) (by first | exact hs.zF _ _ | exact Zor_r _ _ | exact hs.zA _ _ | assumption | exact zA _ _ | exact zS _ | exact Zr_not (hs.zA _ _) | exact hs.1.1 _ _ | exact ⟨by omega, by omega⟩) (fun y1 => ?_) (fun y1 => ?_)
    · have ei : i = xp.length := by omega
      have hFu : F_fam (F_un C Q) zf := hF.ext (fun z => by rw [X_bt_e hC hQ z, ei])
      refine Z_go (f2 := (79, [(3, .int (Zi i)), (0, .ref pl), (1, .ref (P.2.1 a)), (2, .ref (P.2.1 b))], [.ref pl])) (fun _ => rfl) ?_
      refine C_gr rfl hs hp.1.1.1 (by decide) (Nat.le_of_ble_eq_true rfl) rfl hp.1.1.2.2.2.2.1 ?_
      refine C_gi rfl hs (hp.fK (.inl (by omega))) (by decide) (Nat.le_of_ble_eq_true rfl) rfl ?_
      rw [show C_F (u) (P.2.1 0) 2 = (zf.length : Int) from (by first | exact fz | exact (if_neg (fun e => absurd e.1 (by assumption))).trans fz | exact (if_neg (fun e => absurd e.2 (by decide))).trans fz | exact (if_neg (fun e => absurd e.2 (by decide))).trans ((if_neg (fun e => absurd e.2 (by decide))).trans fz) | exact (if_neg (fun e => absurd e.2 (by decide))).trans ((if_neg (fun e => absurd e.2 (by decide))).trans ((if_neg (fun e => absurd e.2 (by decide))).trans fz)))]
      show B_R _ _ (85, [(3, .int (Zi i)), (0, .ref pl), (1, .ref (P.2.1 a)), (2, .ref (P.2.1 b))], [.int (Zi ((zf.length : Int)))]) _ _ _
      refine Z_go (f2 := (87, [(3, .int (Zi i)), (0, .ref pl), (1, .ref (P.2.1 a)), (2, .ref (P.2.1 b))], [.int (Zi 24), .int (Zi ((zf.length : Int)))])) (fun _ => rfl) ?_
      refine Z_cle rfl rfl (by first | exact hs.zF _ _ | exact Zor_r _ _ | exact hs.zA _ _ | assumption | exact zA _ _ | exact zS _ | exact Zr_not (hs.zA _ _) | exact hs.1.1 _ _ | exact ⟨by omega, by omega⟩) (by first | exact hs.zF _ _ | exact Zor_r _ _ | exact hs.zA _ _ | assumption | exact zA _ _ | exact zS _ | exact Zr_not (hs.zA _ _) | exact hs.1.1 _ _ | exact ⟨by omega, by omega⟩) (fun y2 => ?_) (fun y2 => ?_)
      · have hzl : ∀ c ∈ zf, 2 * c.length ≤ B := fun c hc => by obtain ⟨x_, y_, hx_, hy_, rfl⟩ := hFu.2.1 c hc; have := L_un_lq x_ y_; have := hm x_ ((hC.2.2 x_).mpr hx_) y_ ((hQ.2.2 y_).mpr hy_); omega
        refine Z_go (f2 := (97, [(3, .int (Zi i)), (0, .ref pl), (1, .ref (P.2.1 a)), (2, .ref (P.2.1 b))], [.ref (P.2.1 a)])) (fun _ => rfl) ?_
        refine Z_go (f2 := (98, [(3, .int (Zi i)), (0, .ref pl), (1, .ref (P.2.1 a)), (2, .ref (P.2.1 b))], [.ref pl, .ref (P.2.1 a)])) (fun _ => rfl) ?_
        refine C_gr rfl hs hp.1.1.1 (by decide) (Nat.le_of_ble_eq_true rfl) rfl hp.1.1.2.2.2.2.1 ?_
        refine C_callV (As := [.ref (P.2.1 0)]) (rest := []) rfl (by decide) rfl (by decide) rfl rfl (by decide +kernel) (Nat.le_of_ble_eq_true rfl) hs (hp.fK ha) (o_fcopy' _ hp ha (f2 := 0) (.inl (by omega)) (yf := zf) (by simp only [g_sr, g_sf, g_st, g_se, g_su]; repeat (first | rw [g_up_s] | rw [g_up_o (by omega)])) a0 hs.1 (by unfold Pl_R; rw [if_neg a0]; omega) B0 B1 hzl) (fun x h v4 n4 hs q => ?_)
        obtain ⟨rfl, ω4, hp, cq⟩ := q
        have cs := cs.tr cq
        show B_R _ _ (104, [(3, .int (Zi i)), (0, .ref pl), (1, .ref (P.2.1 a)), (2, .ref (P.2.1 b))], []) _ _ _
        refine Z_ret rfl rfl ?_
        try dsimp only
        refine ⟨_, hs, rfl, zf, j9, G.1 1, zf, ?_, by omega, hzl, ω4, ?_, cs⟩
        · unfold F_both
          rw [c_pos ((hFu.card 24).mpr (by omega))]
          exact hFu.tel
        · rw [show g_sr (g_sr G 0 j9) 1 (G.1 1) = g_sr G 0 j9 from g_sr_n (g_sr G 0 j9) 1]
          exact hp
      · refine Z_go (f2 := (91, [(3, .int (Zi i)), (0, .ref pl), (1, .ref (P.2.1 a)), (2, .ref (P.2.1 b))], [.ref pl])) (fun _ => rfl) ?_
        refine Z_go (f2 := (92, [(3, .int (Zi i)), (0, .ref pl), (1, .ref (P.2.1 a)), (2, .ref (P.2.1 b))], [.ref (P.2.1 a), .ref pl])) (fun _ => rfl) ?_
        refine Z_go (f2 := (93, [(3, .int (Zi i)), (0, .ref pl), (1, .ref (P.2.1 a)), (2, .ref (P.2.1 b))], [.ref (P.2.1 b), .ref (P.2.1 a), .ref pl])) (fun _ => rfl) ?_
        refine C_callV (As := [.ref (P.2.1 a), .ref (P.2.1 b)]) (rest := []) rfl (by decide) rfl (by decide) rfl rfl (by decide +kernel) (Nat.le_of_ble_eq_true rfl) hs hp.1.1.1 (C_bbc _ hp B0 B1 ha hb a0 b0 ea2 eb2 hC hQ la lb hm (fun e => by rw [e] at ei; subst ei; have h9 : F_fam (fun _ => False) zf := hF.ext (fun z => ⟨fun q => q.elim, fun ⟨_, _, h1, _, _, h4, h5, _⟩ => by have : (0 : Int) = (([] : List (List Int)).length : Int) := rfl; omega⟩); match zf, h9.2.1, y2 with | [], _, y2 => have : (24 : Int) < ((0 : Nat) : Int) := y2; omega | c :: l, h9, _ => exact h9 c (List.mem_cons_self ..)) (fun e => by have h9 : F_fam (fun _ => False) zf := hF.ext (fun z => ⟨fun q => q.elim, fun ⟨_, b_, _, h2, h3, _⟩ => by rw [e] at h3; have : b_ < ((0 : Nat) : Int) := h3; omega⟩); match zf, h9.2.1, y2 with | [], _, y2 => have : (24 : Int) < ((0 : Nat) : Int) := y2; omega | c :: l, h9, _ => exact h9 c (List.mem_cons_self ..))) (fun x h v1 n1 hs q => ?_)
        obtain ⟨rfl, z2, j2, k2, ⟨q1, q2⟩, ω3, hp, cq⟩ := q
        have cs := cs.tr cq
        show B_R _ _ (96, [(3, .int (Zi i)), (0, .ref pl), (1, .ref (P.2.1 a)), (2, .ref (P.2.1 b))], []) _ _ _
        have hzl : ∀ c ∈ z2, 2 * c.length ≤ B := (by
      have nea : xp ≠ [] := fun e => by
        rw [e] at ei; subst ei
        have h9 : F_fam (fun _ => False) zf := hF.ext (fun z => ⟨fun q => q.elim, fun ⟨_, _, h1, _, _, h4, h5, _⟩ => by have : (0 : Int) = (([] : List (List Int)).length : Int) := rfl; omega⟩)
        match zf, h9.2.1, y2 with
        | [], _, y2 => have : (24 : Int) < ((0 : Nat) : Int) := y2; omega
        | c :: l, h9, _ => exact h9 c (List.mem_cons_self ..)
      have neb : xq ≠ [] := fun e => by
        have h9 : F_fam (fun _ => False) zf := hF.ext (fun z => ⟨fun q => q.elim, fun ⟨_, b_, _, h2, h3, _⟩ => by rw [e] at h3; have : b_ < ((0 : Nat) : Int) := h3; omega⟩)
        match zf, h9.2.1, y2 with
        | [], _, y2 => have : (24 : Int) < ((0 : Nat) : Int) := y2; omega
        | c :: l, h9, _ => exact h9 c (List.mem_cons_self ..)
      intro c hc
      obtain ⟨x0, hx0⟩ := List.exists_mem_of_ne_nil _ nea
      obtain ⟨y0, hy0⟩ := List.exists_mem_of_ne_nil _ neb
      have hg := q1.2.1 c hc
      have lcC : ∃ l, F_core C = l ∧ l.length ≤ x0.length := by
        have h3 := F_coreP hC nea
        exact ⟨_, rfl, L_srt_len h3.1 (fun x hx => (h3.2 x).mp hx x0 ((hC.2.2 x0).mp hx0))⟩
      have lcQ : ∃ l, F_core Q = l ∧ l.length ≤ y0.length := by
        have h3 := F_coreP hQ neb
        exact ⟨_, rfl, L_srt_len h3.1 (fun x hx => (h3.2 x).mp hx y0 ((hQ.2.2 y0).mp hy0))⟩
      obtain ⟨l1, e1_, b1_⟩ := lcC
      obtain ⟨l2, e2_, b2_⟩ := lcQ
      by_cases cc : xp.length ≤ xq.length
      · rw [if_pos cc] at hg
        obtain ⟨x_, y_, hx_, hy_, rfl⟩ := hg
        have hy_ : y_ = F_core Q := hy_
        rw [e2_] at hy_
        subst hy_
        have := L_un_lq x_ y_
        have := hm x_ ((hC.2.2 x_).mpr hx_) y0 hy0
        omega
      · rw [if_neg cc] at hg
        obtain ⟨x_, y_, hx_, hy_, rfl⟩ := hg
        have hx_ : x_ = F_core C := hx_
        rw [e1_] at hx_
        subst hx_
        have := L_un_lq x_ y_
        have := hm x0 hx0 y_ ((hQ.2.2 y_).mpr hy_)
        omega)
        refine Z_go (f2 := (97, [(3, .int (Zi i)), (0, .ref pl), (1, .ref (P.2.1 a)), (2, .ref (P.2.1 b))], [.ref (P.2.1 a)])) (fun _ => rfl) ?_
        refine Z_go (f2 := (98, [(3, .int (Zi i)), (0, .ref pl), (1, .ref (P.2.1 a)), (2, .ref (P.2.1 b))], [.ref pl, .ref (P.2.1 a)])) (fun _ => rfl) ?_
        refine C_gr rfl hs hp.1.1.1 (by decide) (Nat.le_of_ble_eq_true rfl) rfl hp.1.1.2.2.2.2.1 ?_
        refine C_callV (As := [.ref (P.2.1 0)]) (rest := []) rfl (by decide) rfl (by decide) rfl rfl (by decide +kernel) (Nat.le_of_ble_eq_true rfl) hs (hp.fK ha) (o_fcopy' _ hp ha (f2 := 0) (.inl (by omega)) (yf := z2) (by simp only [g_sr, g_sf, g_st, g_se, g_su]; repeat (first | rw [g_up_s] | rw [g_up_o (by omega)])) a0 hs.1 (by unfold Pl_R; rw [if_neg a0]; exact q2) B0 B1 hzl) (fun x h v4 n4 hs q => ?_)
        obtain ⟨rfl, ω4, hp, cq⟩ := q
        have cs := cs.tr cq
        show B_R _ _ (104, [(3, .int (Zi i)), (0, .ref pl), (1, .ref (P.2.1 a)), (2, .ref (P.2.1 b))], []) _ _ _
        refine Z_ret rfl rfl ?_
        try dsimp only
        refine ⟨_, hs, rfl, z2, j2, k2, z2, ?_, q2, hzl, ω4, ?_, cs⟩
        · have hcard : (∀ n, S_card Q n → S_card C n) ↔ xp.length ≤ xq.length := by
            constructor
            · intro h9
              exact (hC.card _).mp (h9 _ ((hQ.card _).mpr (Nat.le_refl _)))
            · intro h9 n hn
              exact (hC.card n).mpr (Nat.le_trans h9 ((hQ.card n).mp hn))
          unfold F_both
          rw [c_neg (fun e => by have := (hFu.card 24).mp e; omega)]
          by_cases c : xp.length ≤ xq.length
          · rw [c_pos (hcard.mpr c)]
            rw [if_pos c] at q1
            exact q1.tel
          · rw [c_neg (fun e => c (hcard.mp e))]
            rw [if_neg c] at q1
            exact q1.tel
        · rw [show g_sr (g_sr (g_sf (g_sr G 0 j9) 0 zf) 1 k2) 0 j2 = g_sf (g_sr (g_sr (g_sr G 0 j9) 1 k2) 0 j2) 0 zf from rfl, g_sf_i, g_sr_c (by omega), g_sr_i] at hp
          exact hp
    · refine Z_go (f2 := (26, [(3, .int (Zi i)), (0, .ref pl), (1, .ref (P.2.1 a)), (2, .ref (P.2.1 b))], [.int (Zi 0)])) (fun _ => rfl) ?_
      refine Z_go (f2 := (28, [(4, .int (Zi 0)), (3, .int (Zi i)), (0, .ref pl), (1, .ref (P.2.1 a)), (2, .ref (P.2.1 b))], [])) (fun _ => rfl) ?_
      refine B_loc (K := [(4, .int (Zi 0)), (3, .int (Zi i)), (0, .ref pl), (1, .ref (P.2.1 a)), (2, .ref (P.2.1 b))]) (N_all_sub ⟨rfl, rfl, rfl, rfl, rfl, trivial⟩) (show ([4, 3, 0, 1, 2] : List Nat).Nodup by decide) ?_
      refine C_both2 B0 B1 ha hb a0 b0 ea eb hC hQ la lb hm i0 (by omega) (fun u h sl ω2 zf j9 hs hp cs hF hl => ?_) (xq.length + 2) 0 u h _ _ _ _ (by omega) (by omega) (by omega) hs hp cs hF (by omega)
      refine Z_iinc (L2 := [(3, .int (Zi (i + 1))), (0, .ref pl), (1, .ref (P.2.1 a)), (2, .ref (P.2.1 b))]) rfl rfl (by decide) rfl ?_
      refine Z_go (f2 := (17, [(3, .int (Zi (i + 1))), (0, .ref pl), (1, .ref (P.2.1 a)), (2, .ref (P.2.1 b))], [])) (fun _ => rfl) ?_
      exact ih _ u h _ _ _ _ (by omega) (by omega) (by omega) hs hp cs (hF.ext X_bt_n) (by omega)
theorem C_both (d : Nat) {s : C_S} {pp : List Nat} {pl tr B : Nat} {G : G_t} {P : G_p} {ω : Nat → Nat} {a b : Nat} {C Q : P_X} {xp xq : List (List Int)} (hp : D_Pl s pp pl tr B G P ω) (B0 : 1280 ≤ B) (B1 : B ≤ 20000) (ha : Pl_hf P a) (hb : Pl_hf P b) (a0 : a ≠ 0) (b0 : b ≠ 0) (ea : G.2.1 a = xp) (eb : G.2.1 b = xq) (hC : F_tel C xp) (hQ : F_tel Q xq) (la : xp.length ≤ 24) (lb : xq.length ≤ 24) (hm : ∀ x ∈ xp, ∀ y ∈ xq, 2 * (x.length + y.length) ≤ B) (anti : ∀ x ∈ xp, ∀ y ∈ xp, L_le x y → x = y) : C_ok (d + 7) 79 [.ref pl, .ref (P.2.1 a), .ref (P.2.1 b)] s (fun x s2 n => x = none ∧ ∃ ys j9 k9 zf, F_tel (F_both C Q) ys ∧ ys.length ≤ 24 ∧ (∀ c ∈ ys, 2 * c.length ≤ B) ∧ D_ch pp pl tr B s P ω (g_sf (g_sf (g_sr (g_sr G 0 j9) 1 k9) 0 zf) a ys) s2 n) := by
  refine C_enter (M := E_m79) rfl (Nat.le_of_ble_eq_true rfl) (fun h0 h hs => ?_)
  show B_R (d + 6) _ (0, [(0, .ref pl), (1, .ref (P.2.1 a)), (2, .ref (P.2.1 b))], []) _ _ _
  have cs := D_cs.refl pp s ω
  refine Z_go (f2 := (1, [(0, .ref pl), (1, .ref (P.2.1 a)), (2, .ref (P.2.1 b))], [.ref (P.2.1 b)])) (fun _ => rfl) ?_
  refine C_callVR (As := []) (rest := []) rfl (by decide) rfl (by decide) rfl rfl (by decide +kernel) (Nat.le_of_ble_eq_true rfl) hs (hp.fK hb) (o_isAll _ hp hb) (fun x q => ?_)
  obtain ⟨za, rfl, hza⟩ := q
  rw [eb] at hza
  have zza : Zr za := by rcases hza with ⟨e, _⟩ | ⟨e, _⟩ <;> exact ⟨by omega, by omega⟩
  show B_R _ _ (4, [(0, .ref pl), (1, .ref (P.2.1 a)), (2, .ref (P.2.1 b))], [.int (Zi za)]) _ _ _
  refine Z_ieq rfl rfl (by first | exact hs.zF _ _ | exact Zor_r _ _ | exact hs.zA _ _ | assumption | exact zA _ _ | exact zS _ | exact Zr_not (hs.zA _ _) | exact hs.1.1 _ _ | exact ⟨by omega, by omega⟩) (fun y1 => ?_) (fun y1 => ?_)
  · refine Z_go (f2 := (9, [(0, .ref pl), (1, .ref (P.2.1 a)), (2, .ref (P.2.1 b))], [.ref pl])) (fun _ => rfl) ?_
    refine C_gr rfl hs hp.1.1.1 (by decide) (Nat.le_of_ble_eq_true rfl) rfl hp.1.1.2.2.2.2.1 ?_
    refine C_callV (As := []) (rest := []) rfl (by decide) rfl (by decide) rfl rfl (by decide +kernel) (Nat.le_of_ble_eq_true rfl) hs (hp.fK (.inl (by omega))) (o_fclear _ hp (f := 0) (.inl (by omega)) hs.1) (fun x h v2 n2 hs q => ?_)
    obtain ⟨rfl, ω2, hp, cq⟩ := q
    have cs := cs.tr cq
    rw [← g_sr_n G 0] at hp
    show B_R _ _ (15, [(0, .ref pl), (1, .ref (P.2.1 a)), (2, .ref (P.2.1 b))], []) _ _ _
    refine Z_go (f2 := (16, [(0, .ref pl), (1, .ref (P.2.1 a)), (2, .ref (P.2.1 b))], [.int (Zi 0)])) (fun _ => rfl) ?_
    refine Z_go (f2 := (17, [(3, .int (Zi 0)), (0, .ref pl), (1, .ref (P.2.1 a)), (2, .ref (P.2.1 b))], [])) (fun _ => rfl) ?_
    refine B_loc (K := [(3, .int (Zi 0)), (0, .ref pl), (1, .ref (P.2.1 a)), (2, .ref (P.2.1 b))]) (N_all_sub ⟨rfl, rfl, rfl, rfl, trivial⟩) (show ([3, 0, 1, 2] : List Nat).Nodup by decide) ?_
    exact C_both1 B0 B1 ha hb a0 b0 ea eb hC hQ la lb hm (xp.length + 2) 0 _ h _ _ [] _ (by omega) (by omega) (by omega) hs hp cs (F_fam.nil.ext X_bt_0) (by show (0 : Int) ≤ _; omega)
  · refine Z_ret rfl rfl ⟨_, hs, ?_⟩
    try dsimp only
    have eq : xq = [[]] := by rcases hza with ⟨_, e⟩ | ⟨e, _⟩; exact e; omega
    refine ⟨rfl, xp, G.1 0, G.1 1, G.2.1 0, ?_, la, fun c hc => by have := hm c hc [] (by rw [eq]; exact List.mem_singleton.mpr rfl); have e0 : ([] : List Int).length = 0 := rfl; omega, ω, ?_, cs⟩
    · rw [eq] at hQ
      rw [F_both_all hC la anti hQ]
      exact hC
    · have e1_ : g_sr (g_sr G 0 (G.1 0)) 1 (G.1 1) = G := by
        rw [g_sr_n G 0, g_sr_n G 1]
      rw [e1_, g_sf_n G 0, ← ea, g_sf_n G a]
      exact hp
