/-! the reference: counts of grams, a gram's files -/
/-- the files that stand -/
def R_fs (s : R_S) (fs : Int → Option (List Int)) : Prop := ∀ f, 0 ≤ f → f < s.1 8 → (s.2.1 88 f = 0 ∧ fs f = none ∨ s.2.1 88 f = 1 ∧ ∃ X, fs f = some X ∧ (X.length : Int) = s.2.1 87 f ∧ ∀ i : Int, 0 ≤ i → i < X.length → L_at X i = R_by s f i)
theorem R_fs.one {s : R_S} {fs : Int → Option (List Int)} (h : R_fs s fs) {f : Int} (f0 : 0 ≤ f) (f1 : f < s.1 8) {X : List Int} (e : fs f = some X) : s.2.1 88 f = 1 ∧ (X.length : Int) = s.2.1 87 f ∧ R_wb s f = L_at X := by
  rcases h f f0 f1 with ⟨_, h2⟩ | ⟨h1, Y, h2, h3, h4⟩
  · rw [e] at h2; cases h2
  · rw [e] at h2
    injection h2 with h2
    subst h2
    refine ⟨h1, h3, funext (fun i => ?_)⟩
    by_cases c : 0 ≤ i ∧ i < X.length
    · rw [R_wb_in ⟨c.1, by omega⟩, h4 i c.1 c.2]; rfl
    · rw [R_wb_out (by omega), L_at_out (by omega)]
theorem X_G_gr (X : List Int) (g : Int) : X_G (L_at X) X.length g ↔ g ∈ L_gr X := (L_gr_at X g).symm
theorem R_fs.yes {s : R_S} {fs : Int → Option (List Int)} (h : R_fs s fs) {f : Int} (f0 : 0 ≤ f) (f1 : f < s.1 8) (c : s.2.1 88 f ≠ 0) : ∃ X, fs f = some X := by
  rcases h f f0 f1 with ⟨h1, _⟩ | ⟨_, X, h2, _⟩
  · exact absurd h1 c
  · exact ⟨X, h2⟩
theorem R_fs.no {s : R_S} {fs : Int → Option (List Int)} (h : R_fs s fs) {f : Int} (f0 : 0 ≤ f) (f1 : f < s.1 8) (c : s.2.1 88 f = 0) : fs f = none := by
  rcases h f f0 f1 with ⟨_, h2⟩ | ⟨h1, _⟩
  · exact h2
  · omega
theorem D_srt_card {A : Int → Int} {m : Int} {xs : List Int} (m0 : 0 ≤ m) (h : D_srt A m) (hx : L_srt xs) (hm : ∀ v, D_in A m v ↔ v ∈ xs) : (xs.length : Int) = m := by
  have hl : L_srt ((List.range m.toNat).map (fun i : Nat => A i)) := by
    refine L_srt_pw ?_
    rw [List.pairwise_map]
    refine List.Pairwise.imp_of_mem (R := fun a b : Nat => a < b) (fun {a b} ha hb hab => ?_) List.pairwise_lt_range
    have := List.mem_range.mp hb
    exact h _ _ (by omega) (by omega) (by omega)
  have e : (List.range m.toNat).map (fun i : Nat => A i) = xs := L_srt_ext hl hx (fun x => by
    rw [← hm x]
    constructor
    · intro hx
      obtain ⟨i, hi, e⟩ := List.mem_map.mp hx
      have := List.mem_range.mp hi
      exact ⟨i, by omega, by omega, e⟩
    · rintro ⟨i, i0, i1, e⟩
      exact List.mem_map.mpr ⟨i.toNat, List.mem_range.mpr (by omega), by rw [show ((i.toNat : Nat) : Int) = i by omega]; exact e⟩)
  rw [← e, List.length_map, List.length_range]
  omega
def R_goi (s u : R_S) (fs : Int → Option (List Int)) (e k n z : Int) : Prop := R_f4 [] [89] [] s u ∧ 0 ≤ z ∧ 0 ≤ n ∧ (e = 1 → n = 0 ∧ z = D_sm (D_gl fs) k.toNat ∧ z ≤ 1000 * k) ∧ (e = 0 → z = 0 ∧ n ≤ D_sm (D_ln fs) k.toNat ∧ ∀ v, D_in (u.2.1 89) n v ↔ v ∈ D_un fs k.toNat)
def R_goq (fs : Int → Option (List Int)) (e k : Int) : Int := if e = 1 then D_sm (D_gl fs) k.toNat else (D_un fs k.toNat).length
theorem R_gath_f4 {s u : R_S} {f fr k : Int} (h : R_gath s u f fr k) : R_f4 [] [89] [] s u := ⟨fun b _ => congrFun h.1 b, fun q hq j => by rw [h.2.1, if_neg (fun e => hq (by rw [e.1]; exact List.mem_singleton.mpr rfl))], congrArg Prod.fst h.2.2, fun p _ j => congrFun (congrFun (congrArg Prod.snd h.2.2) p) j⟩
theorem R_row_f4 {s u : R_S} (h : R_row s u) : R_f4 [] [89] [] s u := ⟨fun b _ => congrFun h.1 b, fun q hq j => h.2.1 q j (fun e => hq (by rw [e]; exact List.mem_singleton.mpr rfl)), congrArg Prod.fst h.2.2, fun p _ j => congrFun (congrFun (congrArg Prod.snd h.2.2) p) j⟩
/-- what is gathered of a file -/
theorem R_gath_in {s u w : R_S} {f fr k : Int} {X : List Int} (fr4 : R_f4 [] [89] [] s u) (h : R_gath u w f fr k) (e : R_wb s f = L_at X) (el : (X.length : Int) = s.2.1 87 f) (k2 : X.length ≤ k + 2) (k3 : k = 0 ∨ k + 2 = X.length) (v : Int) : (∃ j, fr ≤ j ∧ j < fr + k ∧ w.2.1 89 j = v) ↔ v ∈ L_gr X := by
  rw [L_gr_at]
  have hg : ∀ j : Int, 0 ≤ j → j < k → w.2.1 89 (fr + j) = L_g3 X j := fun j j0 j1 => by
    rw [h.2.1, if_pos ⟨rfl, by omega, by omega⟩]
    unfold L_g3 R_gm
    rw [← e, R_wb_in (by omega), R_wb_in (by omega), R_wb_in (by omega), fr4.2.1 85 (by decide), fr4.2.1 85 (by decide), fr4.2.1 85 (by decide), fr4.2.1 86 (by decide)]
    rw [show s.2.1 86 f + (fr + j - fr) = s.2.1 86 f + j by omega, show s.2.1 86 f + (j + 1) = s.2.1 86 f + j + 1 by omega, show s.2.1 86 f + (j + 2) = s.2.1 86 f + j + 2 by omega]
  constructor
  · rintro ⟨j, j0, j1, q⟩
    refine ⟨j - fr, by omega, by omega, ?_⟩
    rw [← hg (j - fr) (by omega) (by omega), show fr + (j - fr) = j by omega, q]
  · rintro ⟨j, j0, j1, q⟩
    exact ⟨fr + j, by omega, by omega, by rw [hg j j0 (by omega), q]⟩
theorem D_ln_of {fs : Int → Option (List Int)} {f : Int} {X : List Int} (e : fs f = some X) : D_ln fs f = X.length := by unfold D_ln; rw [e]
theorem D_gl_of {fs : Int → Option (List Int)} {f : Int} {X : List Int} (e : fs f = some X) : D_gl fs f = (L_gr X).length := by unfold D_gl; rw [e]
theorem D_ln_no {fs : Int → Option (List Int)} {f : Int} (e : fs f = none) : D_ln fs f = 0 := by unfold D_ln; rw [e]
theorem D_gl_no {fs : Int → Option (List Int)} {f : Int} (e : fs f = none) : D_gl fs f = 0 := by unfold D_gl; rw [e]
theorem R_go_lp {d : Nat} {h0 : E_H} {s : R_S} {sl : Nat} {Φ : E_R → Prop} {e : Int} {fs : Int → Option (List Int)} (e01 : e = 0 ∨ e = 1) (w : R_fw s (-1)) (hf : R_fs s fs) (hsm : D_sm (D_ln fs) (s.1 8).toNat ≤ 16000) (kont : ∀ (n z : Int) (u : R_S) (h : E_H), R_is h0 h u → R_goi s u fs e (s.1 8) n z → B_R (d + 2) E_m285 (64, [(3, .int (Zi z)), (2, .int (Zi n)), (0, .ref 83), (1, .int (Zi e))], []) h sl Φ) : ∀ (t : Nat) (k n z : Int) (u : R_S) (h : E_H), s.1 8 - k < t → R_is h0 h u → R_goi s u fs e k n z → 0 ≤ k → k ≤ s.1 8 → B_R (d + 2) E_m285 (7, [(4, .int (Zi k)), (3, .int (Zi z)), (2, .int (Zi n)), (0, .ref 83), (1, .int (Zi e))], []) h sl Φ := by
  intro t
  induction t with
  | zero => intro k n z u h ht hs hu k0 k1; omega
  | succ t ih =>
    intro k n z u h ht hs hu k0 k1
    obtain ⟨w1, w2, w3⟩ := w.w1
    have f1 := hu.1
    have zk : Zr k := ⟨by omega, by omega⟩
    have ze : Zr e := ⟨by omega, by omega⟩
    have e8 : u.1 8 = s.1 8 := f1.1 8 (by decide)
    have e88 : u.2.1 88 k = s.2.1 88 k := f1.2.1 88 (by decide) k
    have e87 : u.2.1 87 k = s.2.1 87 k := f1.2.1 87 (by decide) k
    have e86 : u.2.1 86 k = s.2.1 86 k := f1.2.1 86 (by decide) k
    have z88 := w3 k
    have n0 := hu.2.2.1
    have z0 := hu.2.1
    have g1 := hu.2.2.2.1
    have g2 := hu.2.2.2.2
    have g3 := D_sm_mono (D_ln fs) (show k.toNat ≤ (s.1 8).toNat by omega)
    refine Z_go (f2 := (9, [(4, .int (Zi k)), (3, .int (Zi z)), (2, .int (Zi n)), (0, .ref 83), (1, .int (Zi e))], [.int (Zi k)])) (fun _ => rfl) ?_
    refine Z_go (f2 := (10, [(4, .int (Zi k)), (3, .int (Zi z)), (2, .int (Zi n)), (0, .ref 83), (1, .int (Zi e))], [.ref 83, .int (Zi k)])) (fun _ => rfl) ?_
    refine R_gi rfl hs rfl ?_
    show B_R _ _ (13, [(4, .int (Zi k)), (3, .int (Zi z)), (2, .int (Zi n)), (0, .ref 83), (1, .int (Zi e))], [.int (Zi (u.1 8)), .int (Zi k)]) _ _ _
    refine Z_cge rfl rfl (by first | exact hs.zF _ | exact Zor_r _ _ | exact hs.zA _ _ | assumption | exact zA _ _ | exact zS _ | exact Zr_not (hs.zA _ _) | exact ⟨by omega, by omega⟩) (by first | exact hs.zF _ | exact Zor_r _ _ | exact hs.zA _ _ | assumption | exact zA _ _ | exact zS _ | exact Zr_not (hs.zA _ _) | exact ⟨by omega, by omega⟩) (fun y1 => ?_) (fun y1 => ?_)
    · refine B_loc (K := [(3, .int (Zi z)), (2, .int (Zi n)), (0, .ref 83), (1, .int (Zi e))]) (N_all_sub ⟨rfl, rfl, rfl, rfl, trivial⟩) (show ([3, 2, 0, 1] : List Nat).Nodup by decide) ?_
      obtain rfl : k = s.1 8 := by omega
      exact kont n z u h hs hu
    · refine Z_go (f2 := (17, [(4, .int (Zi k)), (3, .int (Zi z)), (2, .int (Zi n)), (0, .ref 83), (1, .int (Zi e))], [.ref 83])) (fun _ => rfl) ?_
      refine R_gr (q := 86) rfl hs rfl ?_
      show B_R _ _ (20, [(4, .int (Zi k)), (3, .int (Zi z)), (2, .int (Zi n)), (0, .ref 83), (1, .int (Zi e))], [.ref 88]) _ _ _
      refine Z_go (f2 := (22, [(4, .int (Zi k)), (3, .int (Zi z)), (2, .int (Zi n)), (0, .ref 83), (1, .int (Zi e))], [.int (Zi k), .ref 88])) (fun _ => rfl) ?_
      refine R_ba (q := 4) rfl hs rfl rfl (by omega) (by omega) (by decide) ?_
      refine Z_ine rfl rfl (by first | exact hs.zF _ | exact Zor_r _ _ | exact hs.zA _ _ | assumption | exact zA _ _ | exact zS _ | exact Zr_not (hs.zA _ _) | exact ⟨by omega, by omega⟩) (fun y2 => ?_) (fun y2 => ?_)
      · have c88 : s.2.1 88 k = 1 := by omega
        obtain ⟨X, eX⟩ := hf.yes k0 (by omega) (by omega)
        obtain ⟨_, lX, wX⟩ := hf.one k0 (by omega) eX
        have li := w.fl k ⟨k0, by omega, c88⟩ (by omega)
        obtain ⟨l1, l2, l3, l4, _⟩ := li
        have p1 := w.p1
        have hby : ∀ j, 0 ≤ u.2.1 85 j ∧ u.2.1 85 j < 256 := fun j => by rw [f1.2.1 85 (by decide)]; exact w.by_ j
        have g4 := D_sm_mono (D_ln fs) (show k.toNat + 1 ≤ (s.1 8).toNat by omega)
        have g5 := D_sm_s (φ := D_ln fs) (i := k) k0
        rw [show (k + 1).toNat = k.toNat + 1 by omega, D_ln_of eX] at g5
        have g6 := D_sm_s (φ := D_gl fs) (i := k) k0
        rw [D_gl_of eX] at g6
        refine Z_go (f2 := (30, [(4, .int (Zi k)), (3, .int (Zi z)), (2, .int (Zi n)), (0, .ref 83), (1, .int (Zi e))], [.int (Zi e)])) (fun _ => rfl) ?_
        refine Z_ieq rfl rfl (by first | exact hs.zF _ | exact Zor_r _ _ | exact hs.zA _ _ | assumption | exact zA _ _ | exact zS _ | exact Zr_not (hs.zA _ _) | exact ⟨by omega, by omega⟩) (fun y3 => ?_) (fun y3 => ?_)
        · obtain ⟨a1, a2, a3⟩ := g2 (by omega)
          refine Z_go (f2 := (51, [(4, .int (Zi k)), (3, .int (Zi z)), (2, .int (Zi n)), (0, .ref 83), (1, .int (Zi e))], [.ref 83])) (fun _ => rfl) ?_
          refine Z_go (f2 := (53, [(4, .int (Zi k)), (3, .int (Zi z)), (2, .int (Zi n)), (0, .ref 83), (1, .int (Zi e))], [.int (Zi k), .ref 83])) (fun _ => rfl) ?_
          refine Z_go (f2 := (54, [(4, .int (Zi k)), (3, .int (Zi z)), (2, .int (Zi n)), (0, .ref 83), (1, .int (Zi e))], [.int (Zi n), .int (Zi k), .ref 83])) (fun _ => rfl) ?_
          refine R_call (As := [.int (Zi k), .int (Zi n)]) (rest := []) rfl (by decide) rfl rfl rfl rfl (by decide +kernel) (Nat.le_of_ble_eq_true rfl) hs (R_gathers _ u (f := k) (fr := n) zk ⟨by omega, by omega⟩ k0 (by omega) (by omega) (by omega) (by omega) (by omega) (by omega) (by omega) hby) (fun x h u1 hs q => ?_)
          obtain ⟨m, rfl, gt, m0, m1, m2⟩ := q
          show B_R _ _ (57, [(4, .int (Zi k)), (3, .int (Zi z)), (2, .int (Zi n)), (0, .ref 83), (1, .int (Zi e))], [.int (Zi (n + m))]) _ _ _
          refine Z_go (f2 := (58, [(2, .int (Zi (n + m))), (4, .int (Zi k)), (3, .int (Zi z)), (0, .ref 83), (1, .int (Zi e))], [])) (fun _ => rfl) ?_
          refine Z_iinc (L2 := [(4, .int (Zi (k + 1))), (2, .int (Zi (n + m))), (3, .int (Zi z)), (0, .ref 83), (1, .int (Zi e))]) rfl rfl (by decide) rfl ?_
          refine Z_go (f2 := (7, [(4, .int (Zi (k + 1))), (2, .int (Zi (n + m))), (3, .int (Zi z)), (0, .ref 83), (1, .int (Zi e))], [])) (fun _ => rfl) ?_
          refine B_loc (K := [(4, .int (Zi (k + 1))), (3, .int (Zi z)), (2, .int (Zi (n + m))), (0, .ref 83), (1, .int (Zi e))]) (N_all_sub ⟨rfl, rfl, rfl, rfl, rfl, trivial⟩) (show ([4, 3, 2, 0, 1] : List Nat).Nodup by decide) ?_
          have c : e = 0 := by omega
          obtain ⟨a1, a2, a3⟩ := g2 c
          refine ih (k + 1) (n + m) z u1 h (by omega) hs ?_ (by omega) (by omega)
          refine ⟨f1.tr (R_gath_f4 gt) (by decide) (by decide) (by decide), hu.2.1, by omega, fun c2 => by omega, fun _ => ⟨a1, ?_, fun v => ?_⟩⟩
          · rw [show (k + 1).toNat = k.toNat + 1 by omega]; omega
          rw [D_un_s1 k0 eX, L_un_mem, ← a3 v, ← R_gath_in f1 gt wX lX (by omega) (by omega) v]
          constructor
          · rintro ⟨i, i0, i1, q⟩
            by_cases c3 : i < n
            · refine .inl ⟨i, i0, c3, ?_⟩
              rw [gt.2.1, if_neg (by omega)] at q
              exact q
            · exact .inr ⟨i, by omega, i1, q⟩
          · rintro (⟨i, i0, i1, q⟩ | ⟨i, i0, i1, q⟩)
            · refine ⟨i, i0, by omega, ?_⟩
              rw [gt.2.1, if_neg (by omega)]
              exact q
            · exact ⟨i, by omega, i1, q⟩
        · refine Z_go (f2 := (34, [(4, .int (Zi k)), (3, .int (Zi z)), (2, .int (Zi n)), (0, .ref 83), (1, .int (Zi e))], [.int (Zi z)])) (fun _ => rfl) ?_
          obtain ⟨a1, a2, a3⟩ := g1 (by omega)
          refine Z_go (f2 := (35, [(4, .int (Zi k)), (3, .int (Zi z)), (2, .int (Zi n)), (0, .ref 83), (1, .int (Zi e))], [.ref 83, .int (Zi z)])) (fun _ => rfl) ?_
          refine Z_go (f2 := (36, [(4, .int (Zi k)), (3, .int (Zi z)), (2, .int (Zi n)), (0, .ref 83), (1, .int (Zi e))], [.ref 83, .ref 83, .int (Zi z)])) (fun _ => rfl) ?_
          refine Z_go (f2 := (38, [(4, .int (Zi k)), (3, .int (Zi z)), (2, .int (Zi n)), (0, .ref 83), (1, .int (Zi e))], [.int (Zi k), .ref 83, .ref 83, .int (Zi z)])) (fun _ => rfl) ?_
          refine Z_go (f2 := (39, [(4, .int (Zi k)), (3, .int (Zi z)), (2, .int (Zi n)), (0, .ref 83), (1, .int (Zi e))], [.int (Zi 0), .int (Zi k), .ref 83, .ref 83, .int (Zi z)])) (fun _ => rfl) ?_
          refine R_call (As := [.int (Zi k), .int (Zi 0)]) (rest := [.ref 83, .int (Zi z)]) rfl (by decide) rfl rfl rfl rfl (by decide +kernel) (Nat.le_of_ble_eq_true rfl) hs (R_gathers _ u (f := k) (fr := 0) zk ⟨by omega, by omega⟩ k0 (by omega) (by omega) (by omega) (by omega) (by omega) (by omega) (by omega) hby) (fun x h u1 hs q => ?_)
          obtain ⟨m, rfl, gt, m0, m1, m2⟩ := q
          show B_R _ _ (42, [(4, .int (Zi k)), (3, .int (Zi z)), (2, .int (Zi n)), (0, .ref 83), (1, .int (Zi e))], [.int (Zi (0 + m)), .ref 83, .int (Zi z)]) _ _ _
          refine R_call (As := [.int (Zi (0 + m))]) (rest := [.int (Zi z)]) rfl (by decide) rfl rfl rfl rfl (by decide +kernel) (Nat.le_of_ble_eq_true rfl) hs (R_sorted _ u1 (n := 0 + m) ⟨by omega, by omega⟩ (by omega) (by omega)) (fun x h u2 hs q => ?_)
          obtain ⟨m9, rfl, rw_, n0, n1, sd, sm⟩ := q
          have hc : ((L_gr X).length : Int) = m9 := D_srt_card n0 sd (L_gr_srt X) (fun v => by
            rw [sm v, ← R_gath_in f1 gt wX lX (by omega) (by omega) v]
            exact ⟨fun ⟨i, i0, i1, q⟩ => ⟨i, i0, i1, q⟩, fun ⟨i, i0, i1, q⟩ => ⟨i, i0, i1, q⟩⟩)
          show B_R _ _ (45, [(4, .int (Zi k)), (3, .int (Zi z)), (2, .int (Zi n)), (0, .ref 83), (1, .int (Zi e))], [.int (Zi m9), .int (Zi z)]) _ _ _
          refine Z_iadd rfl ?_
          refine Z_go (f2 := (47, [(3, .int (Zi (z + m9))), (4, .int (Zi k)), (2, .int (Zi n)), (0, .ref 83), (1, .int (Zi e))], [])) (fun _ => rfl) ?_
          refine Z_go (f2 := (58, [(3, .int (Zi (z + m9))), (4, .int (Zi k)), (2, .int (Zi n)), (0, .ref 83), (1, .int (Zi e))], [])) (fun _ => rfl) ?_
          refine Z_iinc (L2 := [(4, .int (Zi (k + 1))), (3, .int (Zi (z + m9))), (2, .int (Zi n)), (0, .ref 83), (1, .int (Zi e))]) rfl rfl (by decide) rfl ?_
          refine Z_go (f2 := (7, [(4, .int (Zi (k + 1))), (3, .int (Zi (z + m9))), (2, .int (Zi n)), (0, .ref 83), (1, .int (Zi e))], [])) (fun _ => rfl) ?_
          refine B_loc (K := [(4, .int (Zi (k + 1))), (3, .int (Zi (z + m9))), (2, .int (Zi n)), (0, .ref 83), (1, .int (Zi e))]) (N_all_sub ⟨rfl, rfl, rfl, rfl, rfl, trivial⟩) (show ([4, 3, 2, 0, 1] : List Nat).Nodup by decide) ?_
          have c : e = 1 := by omega
          obtain ⟨a1, a2, a3⟩ := g1 c
          refine ih (k + 1) n (z + m9) u2 h (by omega) hs ⟨(f1.tr (R_gath_f4 gt) (by decide) (by decide) (by decide)).tr (R_row_f4 rw_) (by decide) (by decide) (by decide), by omega, hu.2.2.1, fun _ => ⟨a1, by omega, by omega⟩, fun c2 => by omega⟩ (by omega) (by omega)
      · refine Z_go (f2 := (58, [(4, .int (Zi k)), (3, .int (Zi z)), (2, .int (Zi n)), (0, .ref 83), (1, .int (Zi e))], [])) (fun _ => rfl) ?_
        refine Z_iinc (L2 := [(4, .int (Zi (k + 1))), (3, .int (Zi z)), (2, .int (Zi n)), (0, .ref 83), (1, .int (Zi e))]) rfl rfl (by decide) rfl ?_
        refine Z_go (f2 := (7, [(4, .int (Zi (k + 1))), (3, .int (Zi z)), (2, .int (Zi n)), (0, .ref 83), (1, .int (Zi e))], [])) (fun _ => rfl) ?_
        refine B_loc (K := [(4, .int (Zi (k + 1))), (3, .int (Zi z)), (2, .int (Zi n)), (0, .ref 83), (1, .int (Zi e))]) (N_all_sub ⟨rfl, rfl, rfl, rfl, rfl, trivial⟩) (show ([4, 3, 2, 0, 1] : List Nat).Nodup by decide) ?_
        have en := hf.no k0 (by omega) (by omega)
        refine ih (k + 1) n z u h (by omega) hs ⟨f1, hu.2.1, hu.2.2.1, fun c => ?_, fun c => ?_⟩ (by omega) (by omega)
        · obtain ⟨a1, a2, a3⟩ := g1 c
          refine ⟨a1, ?_, by omega⟩
          rw [D_sm_s k0, D_gl_no en]
          omega
        · obtain ⟨a1, a2, a3⟩ := g2 c
          refine ⟨a1, ?_, ?_⟩
          · rw [D_sm_s k0, D_ln_no en]; omega
          · rw [D_un_s0 k0 en]; exact a3
theorem R_gramsOf (d : Nat) (s : R_S) {e : Int} {fs : Int → Option (List Int)} (e01 : e = 0 ∨ e = 1) (w : R_fw s (-1)) (hf : R_fs s fs) (hsm : D_sm (D_ln fs) (s.1 8).toNat ≤ 16000) : R_ok (d + 3) 285 [.int (Zi e)] s (fun x u => R_f4 [] [89] [] s u ∧ x = some (.int (Zi (R_goq fs e (s.1 8))))) := by
  refine R_enter (M := E_m285) rfl (Nat.le_of_ble_eq_true rfl) (fun h0 h hs => ?_)
  show B_R (d + 2) _ (0, [(0, .ref 83), (1, .int (Zi e))], []) _ _ _
  have ze : Zr e := ⟨by omega, by omega⟩
  refine Z_go (f2 := (1, [(0, .ref 83), (1, .int (Zi e))], [.int (Zi 0)])) (fun _ => rfl) ?_
  refine Z_go (f2 := (2, [(2, .int (Zi 0)), (0, .ref 83), (1, .int (Zi e))], [])) (fun _ => rfl) ?_
  refine Z_go (f2 := (3, [(2, .int (Zi 0)), (0, .ref 83), (1, .int (Zi e))], [.int (Zi 0)])) (fun _ => rfl) ?_
  refine Z_go (f2 := (4, [(3, .int (Zi 0)), (2, .int (Zi 0)), (0, .ref 83), (1, .int (Zi e))], [])) (fun _ => rfl) ?_
  refine Z_go (f2 := (5, [(3, .int (Zi 0)), (2, .int (Zi 0)), (0, .ref 83), (1, .int (Zi e))], [.int (Zi 0)])) (fun _ => rfl) ?_
  refine Z_go (f2 := (7, [(4, .int (Zi 0)), (3, .int (Zi 0)), (2, .int (Zi 0)), (0, .ref 83), (1, .int (Zi e))], [])) (fun _ => rfl) ?_
  refine B_loc (K := [(4, .int (Zi 0)), (3, .int (Zi 0)), (2, .int (Zi 0)), (0, .ref 83), (1, .int (Zi e))]) (N_all_sub ⟨rfl, rfl, rfl, rfl, rfl, trivial⟩) (show ([4, 3, 2, 0, 1] : List Nat).Nodup by decide) ?_
  refine R_go_lp (s := s) (fs := fs) e01 w hf hsm (fun n z u h hs hu => ?_) ((s.1 8).toNat + 1) 0 0 0 s h (by have := w.w1.1; omega) hs ?_ (Int.le_refl 0) w.w1.1
  rotate_left
  · refine ⟨R_f4.rf _ _ _ _, by omega, by omega, fun _ => ⟨rfl, rfl, by omega⟩, fun _ => ⟨rfl, by show (0 : Int) ≤ ((0 : Nat) : Int); omega, fun v => ⟨fun ⟨i, i0, i1, _⟩ => by omega, fun h => absurd h List.not_mem_nil⟩⟩⟩
  have g3 := hsm
  have g8 := hu.2.2.1
  have g9 := hu.2.2.2.1
  have gz := hu.2.1
  have g7 := w.w1.2.1
  have zz : Zr z := by rcases e01 with c | c; exact ⟨by have := hu.2.2.2.2 c; omega, by have := hu.2.2.2.2 c; omega⟩; exact ⟨by have := g9 c; omega, by have := g9 c; omega⟩
  refine Z_go (f2 := (65, [(3, .int (Zi z)), (2, .int (Zi n)), (0, .ref 83), (1, .int (Zi e))], [.int (Zi e)])) (fun _ => rfl) ?_
  refine Z_ieq rfl rfl (by first | exact hs.zF _ | exact Zor_r _ _ | exact hs.zA _ _ | assumption | exact zA _ _ | exact zS _ | exact Zr_not (hs.zA _ _) | exact ⟨by omega, by omega⟩) (fun y1 => ?_) (fun y1 => ?_)
  · obtain ⟨a1, a2, a3⟩ := hu.2.2.2.2 (by omega)
    refine Z_go (f2 := (73, [(3, .int (Zi z)), (2, .int (Zi n)), (0, .ref 83), (1, .int (Zi e))], [.ref 83])) (fun _ => rfl) ?_
    refine Z_go (f2 := (74, [(3, .int (Zi z)), (2, .int (Zi n)), (0, .ref 83), (1, .int (Zi e))], [.int (Zi n), .ref 83])) (fun _ => rfl) ?_
    refine R_call (As := [.int (Zi n)]) (rest := []) rfl (by decide) rfl rfl rfl rfl (by decide +kernel) (Nat.le_of_ble_eq_true rfl) hs (R_sorted _ u (n := n) ⟨by omega, by omega⟩ (by omega) (by omega)) (fun x h u2 hs q => ?_)
    obtain ⟨m9, rfl, rw_, n0, n1, sd, sm⟩ := q
    show B_R _ _ (77, [(3, .int (Zi z)), (2, .int (Zi n)), (0, .ref 83), (1, .int (Zi e))], [.int (Zi m9)]) _ _ _
    refine Z_iret rfl rfl (by first | rfl | decide | exact narrow_b01 (by omega)) ⟨_, hs, ?_, rfl⟩
    refine ⟨hu.1.tr (R_row_f4 rw_) (by decide) (by decide) (by decide), ?_⟩
    unfold R_goq
    rw [if_neg (by omega), ← D_srt_card n0 sd (D_un_srt fs _) (fun v => (sm v).trans (a3 v))]
  · refine Z_go (f2 := (69, [(3, .int (Zi z)), (2, .int (Zi n)), (0, .ref 83), (1, .int (Zi e))], [.int (Zi z)])) (fun _ => rfl) ?_
    refine Z_go (f2 := (77, [(3, .int (Zi z)), (2, .int (Zi n)), (0, .ref 83), (1, .int (Zi e))], [.int (Zi z)])) (fun _ => rfl) ?_
    refine Z_iret rfl rfl (by first | rfl | decide | exact narrow_b01 (by omega)) ⟨_, hs, ?_, rfl⟩
    refine ⟨hu.1, ?_⟩
    obtain ⟨a1, a2, a3⟩ := g9 (by omega)
    unfold R_goq
    rw [if_pos (by omega), a2]
