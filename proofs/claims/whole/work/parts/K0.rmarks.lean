/-! the reference: what holds in a file, marked -/
/-- the bytes of a file, -1 where there is none -/
def R_wb (s : R_S) (f i : Int) : Int := if 0 ≤ i ∧ i < s.2.1 87 f then R_by s f i else -1
theorem R_wb_in {s : R_S} {f i : Int} (h : 0 ≤ i ∧ i < s.2.1 87 f) : R_wb s f i = s.2.1 85 (s.2.1 86 f + i) := if_pos h
theorem R_wb_out {s : R_S} {f i : Int} (h : ¬ (0 ≤ i ∧ i < s.2.1 87 f)) : R_wb s f i = -1 := if_neg h
/-- where a file lies -/
def R_in (s : R_S) (f : Int) : Prop := 0 ≤ f ∧ f < 200 ∧ 0 ≤ s.2.1 86 f ∧ 0 ≤ s.2.1 87 f ∧ s.2.1 87 f ≤ 1000 ∧ s.2.1 86 f + s.2.1 87 f ≤ 16000 ∧ ∀ j, 0 ≤ s.2.1 85 j ∧ s.2.1 85 j < 256
theorem R_isWordAt (d : Nat) (s : R_S) {f i : Int}  (zf : Zr f) (zi : Zr i) (hf : R_in s f) : R_ok (d + 3) 261 [.int (Zi f), .int (Zi i)] s (fun x s2 => s2 = s ∧ ∃ v : Int, x = some (.int (Zi v)) ∧ (v = 1 ∧ D_wrd (R_wb s f i) ∨ v = 0 ∧ ¬ D_wrd (R_wb s f i))) := by
  refine R_enter (M := E_m261) rfl (Nat.le_of_ble_eq_true rfl) (fun h0 h hs => ?_)
  show B_R (d + 2) _ (0, [(0, .ref 83), (1, .int (Zi f)), (2, .int (Zi i))], []) _ _ _
  obtain ⟨f0, f1, f2, f3, f4, f5, f6⟩ := hf
  refine Z_go (f2 := (1, [(0, .ref 83), (1, .int (Zi f)), (2, .int (Zi i))], [.int (Zi i)])) (fun _ => rfl) ?_
  refine Z_ilt rfl rfl (by first | exact hs.zF _ | exact Zor_r _ _ | exact hs.zA _ _ | assumption | exact zA _ _ | exact zS _ | exact Zr_not (hs.zA _ _) | exact ⟨by omega, by omega⟩) (fun c1 => ?_) (fun c1 => ?_)
  · refine Z_go (f2 := (38, [(0, .ref 83), (1, .int (Zi f)), (2, .int (Zi i))], [.int (Zi 0)])) (fun _ => rfl) ?_
    refine Z_iret rfl rfl (by first | rfl | decide | exact narrow_b01 (by omega)) ⟨_, hs, ?_, rfl⟩
    exact ⟨rfl, _, rfl, .inr ⟨rfl, by rw [R_wb_out (by omega)]; decide⟩⟩
  · refine Z_go (f2 := (5, [(0, .ref 83), (1, .int (Zi f)), (2, .int (Zi i))], [.int (Zi i)])) (fun _ => rfl) ?_
    refine Z_go (f2 := (6, [(0, .ref 83), (1, .int (Zi f)), (2, .int (Zi i))], [.ref 83, .int (Zi i)])) (fun _ => rfl) ?_
    refine R_gr (q := 85) rfl hs rfl ?_
    show B_R _ _ (9, [(0, .ref 83), (1, .int (Zi f)), (2, .int (Zi i))], [.ref 87, .int (Zi i)]) _ _ _
    refine Z_go (f2 := (10, [(0, .ref 83), (1, .int (Zi f)), (2, .int (Zi i))], [.int (Zi f), .ref 87, .int (Zi i)])) (fun _ => rfl) ?_
    refine R_ia (q := 3) rfl hs rfl rfl (by omega) (by omega) (by decide) ?_
    refine Z_cge rfl rfl (by first | exact hs.zF _ | exact Zor_r _ _ | exact hs.zA _ _ | assumption | exact zA _ _ | exact zS _ | exact Zr_not (hs.zA _ _) | exact ⟨by omega, by omega⟩) (by first | exact hs.zF _ | exact Zor_r _ _ | exact hs.zA _ _ | assumption | exact zA _ _ | exact zS _ | exact Zr_not (hs.zA _ _) | exact ⟨by omega, by omega⟩) (fun c2 => ?_) (fun c2 => ?_)
    · refine Z_go (f2 := (38, [(0, .ref 83), (1, .int (Zi f)), (2, .int (Zi i))], [.int (Zi 0)])) (fun _ => rfl) ?_
      refine Z_iret rfl rfl (by first | rfl | decide | exact narrow_b01 (by omega)) ⟨_, hs, ?_, rfl⟩
      exact ⟨rfl, _, rfl, .inr ⟨rfl, by rw [R_wb_out (by omega)]; decide⟩⟩
    · refine Z_go (f2 := (15, [(0, .ref 83), (1, .int (Zi f)), (2, .int (Zi i))], [.ref 83])) (fun _ => rfl) ?_
      refine R_gr (q := 83) rfl hs rfl ?_
      show B_R _ _ (18, [(0, .ref 83), (1, .int (Zi f)), (2, .int (Zi i))], [.ref 85]) _ _ _
      refine Z_go (f2 := (19, [(0, .ref 83), (1, .int (Zi f)), (2, .int (Zi i))], [.ref 83, .ref 85])) (fun _ => rfl) ?_
      refine R_gr (q := 84) rfl hs rfl ?_
      show B_R _ _ (22, [(0, .ref 83), (1, .int (Zi f)), (2, .int (Zi i))], [.ref 86, .ref 85]) _ _ _
      refine Z_go (f2 := (23, [(0, .ref 83), (1, .int (Zi f)), (2, .int (Zi i))], [.int (Zi f), .ref 86, .ref 85])) (fun _ => rfl) ?_
      refine R_ia (q := 2) rfl hs rfl rfl (by omega) (by omega) (by decide) ?_
      refine Z_go (f2 := (25, [(0, .ref 83), (1, .int (Zi f)), (2, .int (Zi i))], [.int (Zi i), .int (Zi (s.2.1 86 f)), .ref 85])) (fun _ => rfl) ?_
      refine Z_iadd rfl ?_
      refine R_ia (q := 1) rfl hs rfl rfl (by omega) (by omega) (by decide) ?_
      refine Z_callQ (vs := [.int (Zi (s.2.1 85 (s.2.1 86 f + i)))]) (rest := []) rfl (by decide) rfl rfl rfl (Nat.le_of_ble_eq_true rfl) (R_isWordByte _ (hs.zA 85 _)) (fun x q => ?_)
      obtain ⟨v, rfl, hv⟩ := q
      show B_R _ _ (30, [(0, .ref 83), (1, .int (Zi f)), (2, .int (Zi i))], [.int (Zi v)]) _ _ _
      refine Z_ieq rfl rfl (by first | exact hs.zF _ | exact Zor_r _ _ | exact hs.zA _ _ | assumption | exact zA _ _ | exact zS _ | exact Zr_not (hs.zA _ _) | exact ⟨by omega, by omega⟩) (fun c3 => ?_) (fun c3 => ?_)
      · refine Z_go (f2 := (38, [(0, .ref 83), (1, .int (Zi f)), (2, .int (Zi i))], [.int (Zi 0)])) (fun _ => rfl) ?_
        refine Z_iret rfl rfl (by first | rfl | decide | exact narrow_b01 (by omega)) ⟨_, hs, ?_, rfl⟩
        refine ⟨rfl, _, rfl, ?_⟩
        rw [R_wb_in (by omega)]
        rcases hv with hv | hv
        · first | exact .inl ⟨rfl, hv.2⟩ | (exfalso; omega)
        · first | exact .inr ⟨rfl, hv.2⟩ | (exfalso; omega)
      · refine Z_go (f2 := (34, [(0, .ref 83), (1, .int (Zi f)), (2, .int (Zi i))], [.int (Zi 1)])) (fun _ => rfl) ?_
        refine Z_go (f2 := (38, [(0, .ref 83), (1, .int (Zi f)), (2, .int (Zi i))], [.int (Zi 1)])) (fun _ => rfl) ?_
        refine Z_iret rfl rfl (by first | rfl | decide | exact narrow_b01 (by omega)) ⟨_, hs, ?_, rfl⟩
        refine ⟨rfl, _, rfl, ?_⟩
        rw [R_wb_in (by omega)]
        rcases hv with hv | hv
        · first | exact .inl ⟨rfl, hv.2⟩ | (exfalso; omega)
        · first | exact .inr ⟨rfl, hv.2⟩ | (exfalso; omega)
theorem R_mk_1 {d : Nat} {h0 : E_H} {s : R_S} {sl : Nat} {Φ : E_R → Prop} {n fr f : Int} (m0 : 0 ≤ s.1 15) (m1 : s.1 15 ≤ 90) (kont : ∀ h : E_H, R_is h0 h (R_fL s 120 0 (16 * s.1 15) (fun _ => 0)) → B_R (d + 3) E_m262 (43, [(2, .int (Zi n)), (3, .int (Zi fr)), (0, .ref 83), (1, .int (Zi f))], []) h sl Φ) : ∀ (t : Nat) (k : Int) (h : E_H), 16 * s.1 15 - k < t → R_is h0 h (R_fL s 120 0 k (fun _ => 0)) → 0 ≤ k → k ≤ 16 * s.1 15 → B_R (d + 3) E_m262 (17, [(4, .int (Zi k)), (2, .int (Zi n)), (3, .int (Zi fr)), (0, .ref 83), (1, .int (Zi f))], []) h sl Φ := by
  intro t
  induction t with
  | zero => intro k h ht hs k0 k1; omega
  | succ t ih =>
    intro k h ht hs k0 k1
    refine Z_go (f2 := (19, [(4, .int (Zi k)), (2, .int (Zi n)), (3, .int (Zi fr)), (0, .ref 83), (1, .int (Zi f))], [.int (Zi k)])) (fun _ => rfl) ?_
    refine Z_go (f2 := (21, [(4, .int (Zi k)), (2, .int (Zi n)), (3, .int (Zi fr)), (0, .ref 83), (1, .int (Zi f))], [.int (Zi 16), .int (Zi k)])) (fun _ => rfl) ?_
    refine Z_go (f2 := (22, [(4, .int (Zi k)), (2, .int (Zi n)), (3, .int (Zi fr)), (0, .ref 83), (1, .int (Zi f))], [.ref 83, .int (Zi 16), .int (Zi k)])) (fun _ => rfl) ?_
    refine R_gi rfl hs rfl ?_
    show B_R _ _ (25, [(4, .int (Zi k)), (2, .int (Zi n)), (3, .int (Zi fr)), (0, .ref 83), (1, .int (Zi f))], [.int (Zi (s.1 15)), .int (Zi 16), .int (Zi k)]) _ _ _
    refine Z_imul rfl ?_
    refine Z_cge rfl rfl (by first | exact hs.zF _ | exact Zor_r _ _ | exact hs.zA _ _ | assumption | exact zA _ _ | exact zS _ | exact Zr_not (hs.zA _ _) | exact ⟨by omega, by omega⟩) (by first | exact hs.zF _ | exact Zor_r _ _ | exact hs.zA _ _ | assumption | exact zA _ _ | exact zS _ | exact Zr_not (hs.zA _ _) | exact ⟨by omega, by omega⟩) (fun c1 => ?_) (fun c1 => ?_)
    · refine B_loc (K := [(2, .int (Zi n)), (3, .int (Zi fr)), (0, .ref 83), (1, .int (Zi f))]) (N_all_sub ⟨rfl, rfl, rfl, rfl, trivial⟩) (show ([2, 3, 0, 1] : List Nat).Nodup by decide) ?_
      obtain rfl : k = 16 * s.1 15 := by omega
      exact kont h hs
    · refine Z_go (f2 := (30, [(4, .int (Zi k)), (2, .int (Zi n)), (3, .int (Zi fr)), (0, .ref 83), (1, .int (Zi f))], [.ref 83])) (fun _ => rfl) ?_
      refine R_gr (q := 118) rfl hs rfl ?_
      show B_R _ _ (33, [(4, .int (Zi k)), (2, .int (Zi n)), (3, .int (Zi fr)), (0, .ref 83), (1, .int (Zi f))], [.ref 120]) _ _ _
      refine Z_go (f2 := (35, [(4, .int (Zi k)), (2, .int (Zi n)), (3, .int (Zi fr)), (0, .ref 83), (1, .int (Zi f))], [.int (Zi k), .ref 120])) (fun _ => rfl) ?_
      refine Z_go (f2 := (36, [(4, .int (Zi k)), (2, .int (Zi n)), (3, .int (Zi fr)), (0, .ref 83), (1, .int (Zi f))], [.long (0), .int (Zi k), .ref 120])) (fun _ => rfl) ?_
      refine R_ls (q := 36) rfl hs rfl rfl (by omega) (by omega) (by decide) (fun h hs => ?_)
      refine Z_iinc (L2 := [(4, .int (Zi (k + 1))), (2, .int (Zi n)), (3, .int (Zi fr)), (0, .ref 83), (1, .int (Zi f))]) rfl rfl (by decide) rfl ?_
      refine Z_go (f2 := (17, [(4, .int (Zi (k + 1))), (2, .int (Zi n)), (3, .int (Zi fr)), (0, .ref 83), (1, .int (Zi f))], [])) (fun _ => rfl) ?_
      refine B_loc (K := [(4, .int (Zi (k + 1))), (2, .int (Zi n)), (3, .int (Zi fr)), (0, .ref 83), (1, .int (Zi f))]) (N_all_sub ⟨rfl, rfl, rfl, rfl, rfl, trivial⟩) (show ([4, 2, 3, 0, 1] : List Nat).Nodup by decide) ?_
      rw [R_fL_st k0 rfl rfl] at hs
      exact ih (k + 1) h (by omega) hs (by omega) (by omega)
theorem R_mk_2 {d : Nat} {h0 : E_H} {s : R_S} {sl : Nat} {Φ : E_R → Prop} {n fr f : Int} (kont : ∀ h : E_H, R_is h0 h (R_fL s 121 0 (80) (fun _ => 0)) → B_R (d + 3) E_m262 (67, [(2, .int (Zi n)), (3, .int (Zi fr)), (0, .ref 83), (1, .int (Zi f))], []) h sl Φ) : ∀ (t : Nat) (k : Int) (h : E_H), 80 - k < t → R_is h0 h (R_fL s 121 0 k (fun _ => 0)) → 0 ≤ k → k ≤ 80 → B_R (d + 3) E_m262 (46, [(4, .int (Zi k)), (2, .int (Zi n)), (3, .int (Zi fr)), (0, .ref 83), (1, .int (Zi f))], []) h sl Φ := by
  intro t
  induction t with
  | zero => intro k h ht hs k0 k1; omega
  | succ t ih =>
    intro k h ht hs k0 k1
    refine Z_go (f2 := (48, [(4, .int (Zi k)), (2, .int (Zi n)), (3, .int (Zi fr)), (0, .ref 83), (1, .int (Zi f))], [.int (Zi k)])) (fun _ => rfl) ?_
    refine Z_go (f2 := (50, [(4, .int (Zi k)), (2, .int (Zi n)), (3, .int (Zi fr)), (0, .ref 83), (1, .int (Zi f))], [.int (Zi 80), .int (Zi k)])) (fun _ => rfl) ?_
    refine Z_cge rfl rfl (by first | exact hs.zF _ | exact Zor_r _ _ | exact hs.zA _ _ | assumption | exact zA _ _ | exact zS _ | exact Zr_not (hs.zA _ _) | exact ⟨by omega, by omega⟩) (by first | exact hs.zF _ | exact Zor_r _ _ | exact hs.zA _ _ | assumption | exact zA _ _ | exact zS _ | exact Zr_not (hs.zA _ _) | exact ⟨by omega, by omega⟩) (fun c1 => ?_) (fun c1 => ?_)
    · refine B_loc (K := [(2, .int (Zi n)), (3, .int (Zi fr)), (0, .ref 83), (1, .int (Zi f))]) (N_all_sub ⟨rfl, rfl, rfl, rfl, trivial⟩) (show ([2, 3, 0, 1] : List Nat).Nodup by decide) ?_
      obtain rfl : k = 80 := by omega
      exact kont h hs
    · refine Z_go (f2 := (54, [(4, .int (Zi k)), (2, .int (Zi n)), (3, .int (Zi fr)), (0, .ref 83), (1, .int (Zi f))], [.ref 83])) (fun _ => rfl) ?_
      refine R_gr (q := 119) rfl hs rfl ?_
      show B_R _ _ (57, [(4, .int (Zi k)), (2, .int (Zi n)), (3, .int (Zi fr)), (0, .ref 83), (1, .int (Zi f))], [.ref 121]) _ _ _
      refine Z_go (f2 := (59, [(4, .int (Zi k)), (2, .int (Zi n)), (3, .int (Zi fr)), (0, .ref 83), (1, .int (Zi f))], [.int (Zi k), .ref 121])) (fun _ => rfl) ?_
      refine Z_go (f2 := (60, [(4, .int (Zi k)), (2, .int (Zi n)), (3, .int (Zi fr)), (0, .ref 83), (1, .int (Zi f))], [.long (0), .int (Zi k), .ref 121])) (fun _ => rfl) ?_
      refine R_ls (q := 37) rfl hs rfl rfl (by omega) (by omega) (by decide) (fun h hs => ?_)
      refine Z_iinc (L2 := [(4, .int (Zi (k + 1))), (2, .int (Zi n)), (3, .int (Zi fr)), (0, .ref 83), (1, .int (Zi f))]) rfl rfl (by decide) rfl ?_
      refine Z_go (f2 := (46, [(4, .int (Zi (k + 1))), (2, .int (Zi n)), (3, .int (Zi fr)), (0, .ref 83), (1, .int (Zi f))], [])) (fun _ => rfl) ?_
      refine B_loc (K := [(4, .int (Zi (k + 1))), (2, .int (Zi n)), (3, .int (Zi fr)), (0, .ref 83), (1, .int (Zi f))]) (N_all_sub ⟨rfl, rfl, rfl, rfl, rfl, trivial⟩) (show ([4, 2, 3, 0, 1] : List Nat).Nodup by decide) ?_
      rw [R_fL_st k0 rfl rfl] at hs
      exact ih (k + 1) h (by omega) hs (by omega) (by omega)
def R_l2 (s u : R_S) : Prop := u.1 = s.1 ∧ u.2.1 = s.2.1 ∧ u.2.2.1 = s.2.2.1 ∧ ∀ p j, p ≠ 120 → p ≠ 121 → u.2.2.2 p j = s.2.2.2 p j
theorem R_l2.a {s u w : R_S} {q : Nat} (h : R_l2 s u) (hq : q = 120 ∨ q = 121) (g : R_lq q u w) : R_l2 s w := ⟨g.1.trans h.1, g.2.1.trans h.2.1, g.2.2.1.trans h.2.2.1, fun p j h1 h2 => (g.2.2.2 p j (by rcases hq with rfl | rfl <;> assumption)).trans (h.2.2.2 p j h1 h2)⟩
/-- the bytes below i are marked, for the sets below c that at i too; so are the places below i -/
def R_mki (s u : R_S) (f i c : Int) : Prop := R_l2 s u ∧ (∀ k, 0 ≤ k → k < s.1 15 → R_bs_ u 120 (16 * k) (fun j => (j < i ∨ j = i ∧ k < c) ∧ 0 ≤ j ∧ j < s.2.1 87 f ∧ R_has s k (R_wb s f j))) ∧ ∀ k, k = 2 ∨ k = 3 ∨ k = 4 → R_bs_ u 121 (16 * k) (fun j => j < i ∧ 0 ≤ j ∧ M_hold (R_wb s f) (s.2.1 87 f) k j)
theorem R_mki.no {s u : R_S} {f i c : Int} (h : R_mki s u f i c) (hc : ¬ R_has s c (R_wb s f i)) : R_mki s u f i (c + 1) := ⟨h.1, fun k k0 k1 => (h.2.1 k k0 k1).weak (fun j j0 j1 => by
  constructor
  · rintro ⟨e1, e2⟩
    exact ⟨by omega, e2⟩
  · rintro ⟨e1, e2, e3, e4⟩
    refine ⟨?_, e2, e3, e4⟩
    by_cases cc : j = i ∧ k = c
    · exact absurd (by rw [← cc.1, ← cc.2]; exact e4) hc
    · omega), h.2.2⟩
theorem R_mki.yes {s u : R_S} {f i c : Int} (h : R_mki s u f i c) (c0 : 0 ≤ c) (i0 : 0 ≤ i) (i1 : i < s.2.1 87 f) (i2 : i < 1024) (hc : R_has s c (R_wb s f i)) : R_mki s (R_sM u 120 (16 * c + i / 64) (u.2.2.2 120 (16 * c + i / 64) ||| (1 <<< ((Zi (i % 64)).toInt64 &&& 63)))) f i (c + 1) := ⟨h.1.a (.inl rfl) (R_lq.st _ _ _ _), fun k k0 k1 => by
  by_cases e : k = c
  · subst e
    refine (R_bs_mark i0 rfl (h.2.1 k k0 k1)).weak (fun j j0 j1 => ?_)
    constructor
    · rintro (⟨e1, e2⟩ | rfl)
      · exact ⟨by omega, e2⟩
      · exact ⟨by omega, i0, i1, hc⟩
    · rintro ⟨e1, e2⟩
      by_cases c2 : j = i
      · exact .inr c2
      · exact .inl ⟨by omega, e2⟩
  · exact ((h.2.1 k k0 k1).at (fun w w0 w1 => R_sM_m _ _ _ (by omega))).weak (fun j j0 j1 => and_congr (by omega) Iff.rfl), fun k hk => (h.2.2 k hk).at (fun w w0 w1 => R_lq.st u 120 _ _ |>.2.2.2 121 _ (by decide))⟩
/-- the places of one kind, below i and it -/
def R_mkh (s u : R_S) (f i : Int) (K : Int → Prop) : Prop := R_l2 s u ∧ (∀ k, 0 ≤ k → k < s.1 15 → R_bs_ u 120 (16 * k) (fun j => j < i + 1 ∧ 0 ≤ j ∧ j < s.2.1 87 f ∧ R_has s k (R_wb s f j))) ∧ ∀ k, k = 2 ∨ k = 3 ∨ k = 4 → R_bs_ u 121 (16 * k) (fun j => (j < i ∨ j = i ∧ K k) ∧ 0 ≤ j ∧ M_hold (R_wb s f) (s.2.1 87 f) k j)
theorem R_mki.h {s u : R_S} {f i c : Int} (h : R_mki s u f i c) (hc : c = s.1 15 ∨ i = s.2.1 87 f) : R_mkh s u f i (fun _ => False) := ⟨h.1, fun k k0 k1 => (h.2.1 k k0 k1).weak (fun j j0 j1 => ⟨fun e => ⟨by omega, e.2⟩, fun e => ⟨by obtain ⟨a, b, c, _⟩ := e; omega, e.2⟩⟩), fun k hk => (h.2.2 k hk).weak (fun j j0 j1 => ⟨fun e => ⟨.inl e.1, e.2⟩, fun e => ⟨e.1.elim id (fun q => q.2.elim), e.2⟩⟩)⟩
theorem R_mkh.no {s u : R_S} {f i : Int} {K : Int → Prop} (h : R_mkh s u f i K) {m : Int} (hm : ¬ M_hold (R_wb s f) (s.2.1 87 f) m i) : R_mkh s u f i (fun k => K k ∨ k = m) := ⟨h.1, h.2.1, fun k hk => (h.2.2 k hk).weak (fun j j0 j1 => by
  constructor
  · rintro ⟨e1, e2⟩
    exact ⟨e1.imp id (fun q => ⟨q.1, .inl q.2⟩), e2⟩
  · rintro ⟨e1, e2, e3⟩
    refine ⟨?_, e2, e3⟩
    rcases e1 with e1 | ⟨e1, e4 | e4⟩
    · exact .inl e1
    · exact .inr ⟨e1, e4⟩
    · exact absurd (by rw [← e1, ← e4]; exact e3) hm)⟩
theorem R_mkh.yes {s u : R_S} {f i : Int} {K : Int → Prop} (h : R_mkh s u f i K) {m : Int} (h2 : m = 2 ∨ m = 3 ∨ m = 4) (i0 : 0 ≤ i) (hm : M_hold (R_wb s f) (s.2.1 87 f) m i) {v : Int64} {x : Int} (hx : x = 16 * m + i / 64) (hv : v = u.2.2.2 121 (16 * m + i / 64) ||| (1 <<< ((Zi (i % 64)).toInt64 &&& 63))) (i2 : i < 1024) : R_mkh s (R_sM u 121 x v) f i (fun k => K k ∨ k = m) := ⟨h.1.a (.inr rfl) (R_lq.st _ _ _ _), fun k k0 k1 => (h.2.1 k k0 k1).at (fun w w0 w1 => (R_lq.st u 121 _ _).2.2.2 120 _ (by decide)), fun k hk => by
  subst hx
  by_cases e : k = m
  · subst e
    refine (R_bs_mark i0 hv (h.2.2 k hk)).weak (fun j j0 j1 => ?_)
    constructor
    · rintro (⟨e1, e2⟩ | rfl)
      · exact ⟨e1.imp id (fun q => ⟨q.1, .inl q.2⟩), e2⟩
      · exact ⟨.inr ⟨rfl, .inr rfl⟩, i0, hm⟩
    · rintro ⟨e1, e2⟩
      by_cases c2 : j = i
      · exact .inr c2
      · exact .inl ⟨.inl (by omega), e2⟩
  · refine ((h.2.2 k hk).at (fun w w0 w1 => R_sM_m _ _ _ (by omega))).weak (fun j j0 j1 => and_congr ?_ Iff.rfl)
    exact ⟨fun q => q.imp id (fun q => ⟨q.1, .inl q.2⟩), fun q => q.imp id (fun q => ⟨q.1, q.2.elim id (fun z => absurd z e)⟩)⟩⟩
theorem R_mkh.fin {s u : R_S} {f i : Int} {K : Int → Prop} (h : R_mkh s u f i K) (hK : ∀ k, k = 2 ∨ k = 3 ∨ k = 4 → K k) : R_mki s u f (i + 1) 0 := ⟨h.1, fun k k0 k1 => (h.2.1 k k0 k1).weak (fun j j0 j1 => and_congr (by omega) Iff.rfl), fun k hk => (h.2.2 k hk).weak (fun j j0 j1 => and_congr ⟨fun q => by omega, fun q => by
  by_cases c : j = i
  · exact .inr ⟨c, hK k hk⟩
  · exact .inl (by omega)⟩ Iff.rfl)⟩
theorem R_mk_in {d : Nat} {h0 : E_H} {s : R_S} {sl : Nat} {Φ : E_R → Prop} {n fr f i : Int} (hf : R_in s f) (hn : n = s.2.1 87 f) (hfr : fr = s.2.1 86 f) (m0 : 0 ≤ s.1 15) (m1 : s.1 15 ≤ 90) (i0 : 0 ≤ i) (i1 : i ≤ n) (kont : ∀ (u : R_S) (h : E_H), R_is h0 h u → R_mkh s u f i (fun _ => False) → B_R (d + 3) E_m262 (133, [(4, .int (Zi i)), (2, .int (Zi n)), (3, .int (Zi fr)), (0, .ref 83), (1, .int (Zi f))], []) h sl Φ) : ∀ (t : Nat) (c : Int) (u : R_S) (h : E_H), s.1 15 - c < t → R_is h0 h u → R_mki s u f i c → 0 ≤ c → c ≤ s.1 15 → B_R (d + 3) E_m262 (79, [(5, .int (Zi c)), (4, .int (Zi i)), (2, .int (Zi n)), (3, .int (Zi fr)), (0, .ref 83), (1, .int (Zi f))], []) h sl Φ := by
  intro t
  induction t with
  | zero => intro c u h ht hs hu c0 c1; omega
  | succ t ih =>
    intro c u h ht hs hu c0 c1
    obtain ⟨f0, f1, f2, f3, f4, f5, f6⟩ := id hf
    have e1 : u.1 = s.1 := hu.1.1
    have e2 : u.2.1 = s.2.1 := hu.1.2.1
    have e15 : u.1 15 = s.1 15 := by rw [e1]
    refine Z_go (f2 := (81, [(5, .int (Zi c)), (4, .int (Zi i)), (2, .int (Zi n)), (3, .int (Zi fr)), (0, .ref 83), (1, .int (Zi f))], [.int (Zi c)])) (fun _ => rfl) ?_
    refine Z_go (f2 := (82, [(5, .int (Zi c)), (4, .int (Zi i)), (2, .int (Zi n)), (3, .int (Zi fr)), (0, .ref 83), (1, .int (Zi f))], [.ref 83, .int (Zi c)])) (fun _ => rfl) ?_
    refine R_gi rfl hs rfl ?_
    show B_R _ _ (85, [(5, .int (Zi c)), (4, .int (Zi i)), (2, .int (Zi n)), (3, .int (Zi fr)), (0, .ref 83), (1, .int (Zi f))], [.int (Zi (u.1 15)), .int (Zi c)]) _ _ _
    refine Z_cge rfl rfl (by first | exact hs.zF _ | exact Zor_r _ _ | exact hs.zA _ _ | assumption | exact zA _ _ | exact zS _ | exact Zr_not (hs.zA _ _) | exact ⟨by omega, by omega⟩) (by first | exact hs.zF _ | exact Zor_r _ _ | exact hs.zA _ _ | assumption | exact zA _ _ | exact zS _ | exact Zr_not (hs.zA _ _) | exact ⟨by omega, by omega⟩) (fun c1 => ?_) (fun c1 => ?_)
    · refine B_loc (K := [(4, .int (Zi i)), (2, .int (Zi n)), (3, .int (Zi fr)), (0, .ref 83), (1, .int (Zi f))]) (N_all_sub ⟨rfl, rfl, rfl, rfl, rfl, trivial⟩) (show ([4, 2, 3, 0, 1] : List Nat).Nodup by decide) ?_
      exact kont u h hs (hu.h (by omega))
    · refine Z_go (f2 := (90, [(5, .int (Zi c)), (4, .int (Zi i)), (2, .int (Zi n)), (3, .int (Zi fr)), (0, .ref 83), (1, .int (Zi f))], [.int (Zi i)])) (fun _ => rfl) ?_
      refine Z_go (f2 := (91, [(5, .int (Zi c)), (4, .int (Zi i)), (2, .int (Zi n)), (3, .int (Zi fr)), (0, .ref 83), (1, .int (Zi f))], [.int (Zi n), .int (Zi i)])) (fun _ => rfl) ?_
      refine Z_cge rfl rfl (by first | exact hs.zF _ | exact Zor_r _ _ | exact hs.zA _ _ | assumption | exact zA _ _ | exact zS _ | exact Zr_not (hs.zA _ _) | exact ⟨by omega, by omega⟩) (by first | exact hs.zF _ | exact Zor_r _ _ | exact hs.zA _ _ | assumption | exact zA _ _ | exact zS _ | exact Zr_not (hs.zA _ _) | exact ⟨by omega, by omega⟩) (fun c2 => ?_) (fun c2 => ?_)
      · refine B_loc (K := [(4, .int (Zi i)), (2, .int (Zi n)), (3, .int (Zi fr)), (0, .ref 83), (1, .int (Zi f))]) (N_all_sub ⟨rfl, rfl, rfl, rfl, rfl, trivial⟩) (show ([4, 2, 3, 0, 1] : List Nat).Nodup by decide) ?_
        exact kont u h hs (hu.h (by omega))
      · refine Z_go (f2 := (95, [(5, .int (Zi c)), (4, .int (Zi i)), (2, .int (Zi n)), (3, .int (Zi fr)), (0, .ref 83), (1, .int (Zi f))], [.ref 83])) (fun _ => rfl) ?_
        refine Z_go (f2 := (97, [(5, .int (Zi c)), (4, .int (Zi i)), (2, .int (Zi n)), (3, .int (Zi fr)), (0, .ref 83), (1, .int (Zi f))], [.int (Zi c), .ref 83])) (fun _ => rfl) ?_
        refine Z_go (f2 := (98, [(5, .int (Zi c)), (4, .int (Zi i)), (2, .int (Zi n)), (3, .int (Zi fr)), (0, .ref 83), (1, .int (Zi f))], [.ref 83, .int (Zi c), .ref 83])) (fun _ => rfl) ?_
        refine R_gr (q := 83) rfl hs rfl ?_
        show B_R _ _ (101, [(5, .int (Zi c)), (4, .int (Zi i)), (2, .int (Zi n)), (3, .int (Zi fr)), (0, .ref 83), (1, .int (Zi f))], [.ref 85, .int (Zi c), .ref 83]) _ _ _
        refine Z_go (f2 := (102, [(5, .int (Zi c)), (4, .int (Zi i)), (2, .int (Zi n)), (3, .int (Zi fr)), (0, .ref 83), (1, .int (Zi f))], [.int (Zi fr), .ref 85, .int (Zi c), .ref 83])) (fun _ => rfl) ?_
        refine Z_go (f2 := (104, [(5, .int (Zi c)), (4, .int (Zi i)), (2, .int (Zi n)), (3, .int (Zi fr)), (0, .ref 83), (1, .int (Zi f))], [.int (Zi i), .int (Zi fr), .ref 85, .int (Zi c), .ref 83])) (fun _ => rfl) ?_
        refine Z_iadd rfl ?_
        refine R_ia (q := 1) rfl hs rfl rfl (by omega) (by omega) (by decide) ?_
        refine R_call (As := [.int (Zi c), .int (Zi (u.2.1 85 (fr + i)))]) (rest := []) rfl (by decide) rfl rfl rfl rfl (by decide +kernel) (Nat.le_of_ble_eq_true rfl) hs (R_has0 _ u ⟨by omega, by omega⟩ (hs.zA 85 _) (by omega) (by omega) (by rw [e2]; exact (f6 _).1) (by rw [e2]; exact (f6 _).2)) (fun x h s2 hs q => ?_)
        obtain ⟨q0, v, rfl, hv⟩ := q
        rw [q0] at hs
        have hW : R_wb s f i = u.2.1 85 (fr + i) := by rw [R_wb_in (by omega), e2, hfr]
        have hH : R_has u c (u.2.1 85 (fr + i)) ↔ R_has s c (R_wb s f i) := by rw [hW]; unfold R_has; rw [e2]
        show B_R _ _ (109, [(5, .int (Zi c)), (4, .int (Zi i)), (2, .int (Zi n)), (3, .int (Zi fr)), (0, .ref 83), (1, .int (Zi f))], [.int (Zi v)]) _ _ _
        refine Z_ieq rfl rfl (by first | exact hs.zF _ | exact Zor_r _ _ | exact hs.zA _ _ | assumption | exact zA _ _ | exact zS _ | exact Zr_not (hs.zA _ _) | exact ⟨by omega, by omega⟩) (fun c3 => ?_) (fun c3 => ?_)
        · refine Z_iinc (L2 := [(5, .int (Zi (c + 1))), (4, .int (Zi i)), (2, .int (Zi n)), (3, .int (Zi fr)), (0, .ref 83), (1, .int (Zi f))]) rfl rfl (by decide) rfl ?_
          refine Z_go (f2 := (79, [(5, .int (Zi (c + 1))), (4, .int (Zi i)), (2, .int (Zi n)), (3, .int (Zi fr)), (0, .ref 83), (1, .int (Zi f))], [])) (fun _ => rfl) ?_
          refine B_loc (K := [(5, .int (Zi (c + 1))), (4, .int (Zi i)), (2, .int (Zi n)), (3, .int (Zi fr)), (0, .ref 83), (1, .int (Zi f))]) (N_all_sub ⟨rfl, rfl, rfl, rfl, rfl, rfl, trivial⟩) (show ([5, 4, 2, 3, 0, 1] : List Nat).Nodup by decide) ?_
          exact ih (c + 1) u h (by omega) hs (hu.no (fun q => by have := hH.mpr q; rcases hv with hv | hv; omega; exact hv.2 this)) (by omega) (by omega)
        · refine Z_go (f2 := (113, [(5, .int (Zi c)), (4, .int (Zi i)), (2, .int (Zi n)), (3, .int (Zi fr)), (0, .ref 83), (1, .int (Zi f))], [.ref 83])) (fun _ => rfl) ?_
          refine Z_go (f2 := (114, [(5, .int (Zi c)), (4, .int (Zi i)), (2, .int (Zi n)), (3, .int (Zi fr)), (0, .ref 83), (1, .int (Zi f))], [.ref 83, .ref 83])) (fun _ => rfl) ?_
          refine R_gr (q := 118) rfl hs rfl ?_
          show B_R _ _ (117, [(5, .int (Zi c)), (4, .int (Zi i)), (2, .int (Zi n)), (3, .int (Zi fr)), (0, .ref 83), (1, .int (Zi f))], [.ref 120, .ref 83]) _ _ _
          refine Z_go (f2 := (119, [(5, .int (Zi c)), (4, .int (Zi i)), (2, .int (Zi n)), (3, .int (Zi fr)), (0, .ref 83), (1, .int (Zi f))], [.int (Zi 16), .ref 120, .ref 83])) (fun _ => rfl) ?_
          refine Z_go (f2 := (121, [(5, .int (Zi c)), (4, .int (Zi i)), (2, .int (Zi n)), (3, .int (Zi fr)), (0, .ref 83), (1, .int (Zi f))], [.int (Zi c), .int (Zi 16), .ref 120, .ref 83])) (fun _ => rfl) ?_
          refine Z_imul rfl ?_
          refine Z_go (f2 := (124, [(5, .int (Zi c)), (4, .int (Zi i)), (2, .int (Zi n)), (3, .int (Zi fr)), (0, .ref 83), (1, .int (Zi f))], [.int (Zi i), .int (Zi (16 * c)), .ref 120, .ref 83])) (fun _ => rfl) ?_
          refine R_call (As := [.ref 120, .int (Zi (16 * c)), .int (Zi i)]) (rest := []) rfl (by decide) rfl rfl rfl rfl (by decide +kernel) (Nat.le_of_ble_eq_true rfl) hs (R_mark120 _ u ⟨by omega, by omega⟩ ⟨by omega, by omega⟩ i0 (by omega) (by omega) (by omega)) (fun x h w40 hs q => ?_)
          obtain ⟨rfl, e9⟩ := q
          show B_R _ _ (127, [(5, .int (Zi c)), (4, .int (Zi i)), (2, .int (Zi n)), (3, .int (Zi fr)), (0, .ref 83), (1, .int (Zi f))], []) _ _ _
          refine Z_iinc (L2 := [(5, .int (Zi (c + 1))), (4, .int (Zi i)), (2, .int (Zi n)), (3, .int (Zi fr)), (0, .ref 83), (1, .int (Zi f))]) rfl rfl (by decide) rfl ?_
          refine Z_go (f2 := (79, [(5, .int (Zi (c + 1))), (4, .int (Zi i)), (2, .int (Zi n)), (3, .int (Zi fr)), (0, .ref 83), (1, .int (Zi f))], [])) (fun _ => rfl) ?_
          refine B_loc (K := [(5, .int (Zi (c + 1))), (4, .int (Zi i)), (2, .int (Zi n)), (3, .int (Zi fr)), (0, .ref 83), (1, .int (Zi f))]) (N_all_sub ⟨rfl, rfl, rfl, rfl, rfl, rfl, trivial⟩) (show ([5, 4, 2, 3, 0, 1] : List Nat).Nodup by decide) ?_
          rw [e9] at hs
          exact ih (c + 1) _ h (by omega) hs (hu.yes c0 i0 (by omega) (by omega) (hH.mp (by rcases hv with hv | hv; exact hv.2; omega))) (by omega) (by omega)
theorem R_mk_h2 {d : Nat} {h0 : E_H} {s : R_S} {sl : Nat} {Φ : E_R → Prop} {n fr f i : Int} (hf : R_in s f) (hn : n = s.2.1 87 f) (hfr : fr = s.2.1 86 f) (m0 : 0 ≤ s.1 15) (m1 : s.1 15 ≤ 90) (i0 : 0 ≤ i) (i1 : i ≤ n) {K : Int → Prop} (kont : ∀ (u : R_S) (h : E_H), R_is h0 h u → R_mkh s u f i (fun k => K k ∨ k = 2) → B_R (d + 3) E_m262 (166, [(4, .int (Zi i)), (2, .int (Zi n)), (3, .int (Zi fr)), (0, .ref 83), (1, .int (Zi f))], []) h sl Φ) (v : R_S) (h : E_H) (hs : R_is h0 h v) (hv : R_mkh s v f i K) : B_R (d + 3) E_m262 (133, [(4, .int (Zi i)), (2, .int (Zi n)), (3, .int (Zi fr)), (0, .ref 83), (1, .int (Zi f))], []) h sl Φ := by
  obtain ⟨f0, f1, f2, f3, f4, f5, f6⟩ := id hf
  have e2 : v.2.1 = s.2.1 := hv.1.2.1
  have zn : Zr n := ⟨by omega, by omega⟩
  have zi : Zr i := ⟨by omega, by omega⟩
  have hW : i ≠ 0 → R_wb s f (i - 1) = v.2.1 85 (fr + i - 1) := fun hi => by rw [R_wb_in (by omega), e2, hfr, show s.2.1 86 f + (i - 1) = s.2.1 86 f + i - 1 by omega]
  refine Z_go (f2 := (135, [(4, .int (Zi i)), (2, .int (Zi n)), (3, .int (Zi fr)), (0, .ref 83), (1, .int (Zi f))], [.int (Zi i)])) (fun _ => rfl) ?_
  refine Z_ieq rfl rfl (by first | exact hs.zF _ | exact Zor_r _ _ | exact hs.zA _ _ | assumption | exact zA _ _ | exact zS _ | exact Zr_not (hs.zA _ _) | exact ⟨by omega, by omega⟩) (fun c1 => ?_) (fun c1 => ?_)
  · refine Z_go (f2 := (155, [(4, .int (Zi i)), (2, .int (Zi n)), (3, .int (Zi fr)), (0, .ref 83), (1, .int (Zi f))], [.ref 83])) (fun _ => rfl) ?_
    refine Z_go (f2 := (156, [(4, .int (Zi i)), (2, .int (Zi n)), (3, .int (Zi fr)), (0, .ref 83), (1, .int (Zi f))], [.ref 83, .ref 83])) (fun _ => rfl) ?_
    refine R_gr (q := 119) rfl hs rfl ?_
    show B_R _ _ (159, [(4, .int (Zi i)), (2, .int (Zi n)), (3, .int (Zi fr)), (0, .ref 83), (1, .int (Zi f))], [.ref 121, .ref 83]) _ _ _
    refine Z_go (f2 := (161, [(4, .int (Zi i)), (2, .int (Zi n)), (3, .int (Zi fr)), (0, .ref 83), (1, .int (Zi f))], [.int (Zi 32), .ref 121, .ref 83])) (fun _ => rfl) ?_
    refine Z_go (f2 := (163, [(4, .int (Zi i)), (2, .int (Zi n)), (3, .int (Zi fr)), (0, .ref 83), (1, .int (Zi f))], [.int (Zi i), .int (Zi 32), .ref 121, .ref 83])) (fun _ => rfl) ?_
    refine R_call (As := [.ref 121, .int (Zi 32), .int (Zi i)]) (rest := []) rfl (by decide) rfl rfl rfl rfl (by decide +kernel) (Nat.le_of_ble_eq_true rfl) hs (R_mark121 _ v ⟨by omega, by omega⟩ ⟨by omega, by omega⟩ i0 (by omega) (by omega) (by omega)) (fun x h w hs q => ?_)
    obtain ⟨rfl, e9⟩ := q
    show B_R _ _ (166, [(4, .int (Zi i)), (2, .int (Zi n)), (3, .int (Zi fr)), (0, .ref 83), (1, .int (Zi f))], []) _ _ _
    refine B_loc (K := [(4, .int (Zi i)), (2, .int (Zi n)), (3, .int (Zi fr)), (0, .ref 83), (1, .int (Zi f))]) (N_all_sub ⟨rfl, rfl, rfl, rfl, rfl, trivial⟩) (show ([4, 2, 3, 0, 1] : List Nat).Nodup by decide) ?_
    rw [e9] at hs
    exact kont _ h hs (hv.yes (by omega) i0 (.inl ⟨rfl, by first | exact .inl (by omega) | exact .inr (by rw [hW (by omega)]; omega)⟩) (by omega) rfl (by omega))
  · refine Z_go (f2 := (139, [(4, .int (Zi i)), (2, .int (Zi n)), (3, .int (Zi fr)), (0, .ref 83), (1, .int (Zi f))], [.ref 83])) (fun _ => rfl) ?_
    refine R_gr (q := 83) rfl hs rfl ?_
    show B_R _ _ (142, [(4, .int (Zi i)), (2, .int (Zi n)), (3, .int (Zi fr)), (0, .ref 83), (1, .int (Zi f))], [.ref 85]) _ _ _
    refine Z_go (f2 := (143, [(4, .int (Zi i)), (2, .int (Zi n)), (3, .int (Zi fr)), (0, .ref 83), (1, .int (Zi f))], [.int (Zi fr), .ref 85])) (fun _ => rfl) ?_
    refine Z_go (f2 := (145, [(4, .int (Zi i)), (2, .int (Zi n)), (3, .int (Zi fr)), (0, .ref 83), (1, .int (Zi f))], [.int (Zi i), .int (Zi fr), .ref 85])) (fun _ => rfl) ?_
    refine Z_iadd rfl ?_
    refine Z_go (f2 := (147, [(4, .int (Zi i)), (2, .int (Zi n)), (3, .int (Zi fr)), (0, .ref 83), (1, .int (Zi f))], [.int (Zi 1), .int (Zi (fr + i)), .ref 85])) (fun _ => rfl) ?_
    refine Z_isub rfl ?_
    refine R_ia (q := 1) rfl hs rfl rfl (by omega) (by omega) (by decide) ?_
    refine Z_go (f2 := (151, [(4, .int (Zi i)), (2, .int (Zi n)), (3, .int (Zi fr)), (0, .ref 83), (1, .int (Zi f))], [.int (Zi 10), .int (Zi (v.2.1 85 (fr + i - 1)))])) (fun _ => rfl) ?_
    refine Z_cne rfl rfl (by first | exact hs.zF _ | exact Zor_r _ _ | exact hs.zA _ _ | assumption | exact zA _ _ | exact zS _ | exact Zr_not (hs.zA _ _) | exact ⟨by omega, by omega⟩) (by first | exact hs.zF _ | exact Zor_r _ _ | exact hs.zA _ _ | assumption | exact zA _ _ | exact zS _ | exact Zr_not (hs.zA _ _) | exact ⟨by omega, by omega⟩) (fun c2 => ?_) (fun c2 => ?_)
    · refine B_loc (K := [(4, .int (Zi i)), (2, .int (Zi n)), (3, .int (Zi fr)), (0, .ref 83), (1, .int (Zi f))]) (N_all_sub ⟨rfl, rfl, rfl, rfl, rfl, trivial⟩) (show ([4, 2, 3, 0, 1] : List Nat).Nodup by decide) ?_
      exact kont v h hs (hv.no (by unfold M_hold; intro q; rcases q with ⟨_, q | q⟩ | q | q <;> first | omega | (rw [hW (by omega)] at q; omega)))
    · refine Z_go (f2 := (155, [(4, .int (Zi i)), (2, .int (Zi n)), (3, .int (Zi fr)), (0, .ref 83), (1, .int (Zi f))], [.ref 83])) (fun _ => rfl) ?_
      refine Z_go (f2 := (156, [(4, .int (Zi i)), (2, .int (Zi n)), (3, .int (Zi fr)), (0, .ref 83), (1, .int (Zi f))], [.ref 83, .ref 83])) (fun _ => rfl) ?_
      refine R_gr (q := 119) rfl hs rfl ?_
      show B_R _ _ (159, [(4, .int (Zi i)), (2, .int (Zi n)), (3, .int (Zi fr)), (0, .ref 83), (1, .int (Zi f))], [.ref 121, .ref 83]) _ _ _
      refine Z_go (f2 := (161, [(4, .int (Zi i)), (2, .int (Zi n)), (3, .int (Zi fr)), (0, .ref 83), (1, .int (Zi f))], [.int (Zi 32), .ref 121, .ref 83])) (fun _ => rfl) ?_
      refine Z_go (f2 := (163, [(4, .int (Zi i)), (2, .int (Zi n)), (3, .int (Zi fr)), (0, .ref 83), (1, .int (Zi f))], [.int (Zi i), .int (Zi 32), .ref 121, .ref 83])) (fun _ => rfl) ?_
      refine R_call (As := [.ref 121, .int (Zi 32), .int (Zi i)]) (rest := []) rfl (by decide) rfl rfl rfl rfl (by decide +kernel) (Nat.le_of_ble_eq_true rfl) hs (R_mark121 _ v ⟨by omega, by omega⟩ ⟨by omega, by omega⟩ i0 (by omega) (by omega) (by omega)) (fun x h w hs q => ?_)
      obtain ⟨rfl, e9⟩ := q
      show B_R _ _ (166, [(4, .int (Zi i)), (2, .int (Zi n)), (3, .int (Zi fr)), (0, .ref 83), (1, .int (Zi f))], []) _ _ _
      refine B_loc (K := [(4, .int (Zi i)), (2, .int (Zi n)), (3, .int (Zi fr)), (0, .ref 83), (1, .int (Zi f))]) (N_all_sub ⟨rfl, rfl, rfl, rfl, rfl, trivial⟩) (show ([4, 2, 3, 0, 1] : List Nat).Nodup by decide) ?_
      rw [e9] at hs
      exact kont _ h hs (hv.yes (by omega) i0 (.inl ⟨rfl, by first | exact .inl (by omega) | exact .inr (by rw [hW (by omega)]; omega)⟩) (by omega) rfl (by omega))
theorem R_mk_h3 {d : Nat} {h0 : E_H} {s : R_S} {sl : Nat} {Φ : E_R → Prop} {n fr f i : Int} (hf : R_in s f) (hn : n = s.2.1 87 f) (hfr : fr = s.2.1 86 f) (m0 : 0 ≤ s.1 15) (m1 : s.1 15 ≤ 90) (i0 : 0 ≤ i) (i1 : i ≤ n) {K : Int → Prop} (kont : ∀ (u : R_S) (h : E_H), R_is h0 h u → R_mkh s u f i (fun k => K k ∨ k = 3) → B_R (d + 3) E_m262 (198, [(4, .int (Zi i)), (2, .int (Zi n)), (3, .int (Zi fr)), (0, .ref 83), (1, .int (Zi f))], []) h sl Φ) (v : R_S) (h : E_H) (hs : R_is h0 h v) (hv : R_mkh s v f i K) : B_R (d + 3) E_m262 (166, [(4, .int (Zi i)), (2, .int (Zi n)), (3, .int (Zi fr)), (0, .ref 83), (1, .int (Zi f))], []) h sl Φ := by
  obtain ⟨f0, f1, f2, f3, f4, f5, f6⟩ := id hf
  have e2 : v.2.1 = s.2.1 := hv.1.2.1
  have zn : Zr n := ⟨by omega, by omega⟩
  have zi : Zr i := ⟨by omega, by omega⟩
  have hW : i ≠ n → R_wb s f i = v.2.1 85 (fr + i) := fun hi => by rw [R_wb_in (by omega), e2, hfr]
  refine Z_go (f2 := (168, [(4, .int (Zi i)), (2, .int (Zi n)), (3, .int (Zi fr)), (0, .ref 83), (1, .int (Zi f))], [.int (Zi i)])) (fun _ => rfl) ?_
  refine Z_go (f2 := (169, [(4, .int (Zi i)), (2, .int (Zi n)), (3, .int (Zi fr)), (0, .ref 83), (1, .int (Zi f))], [.int (Zi n), .int (Zi i)])) (fun _ => rfl) ?_
  refine Z_ceq rfl rfl (by first | exact hs.zF _ | exact Zor_r _ _ | exact hs.zA _ _ | assumption | exact zA _ _ | exact zS _ | exact Zr_not (hs.zA _ _) | exact ⟨by omega, by omega⟩) (by first | exact hs.zF _ | exact Zor_r _ _ | exact hs.zA _ _ | assumption | exact zA _ _ | exact zS _ | exact Zr_not (hs.zA _ _) | exact ⟨by omega, by omega⟩) (fun c1 => ?_) (fun c1 => ?_)
  · refine Z_go (f2 := (187, [(4, .int (Zi i)), (2, .int (Zi n)), (3, .int (Zi fr)), (0, .ref 83), (1, .int (Zi f))], [.ref 83])) (fun _ => rfl) ?_
    refine Z_go (f2 := (188, [(4, .int (Zi i)), (2, .int (Zi n)), (3, .int (Zi fr)), (0, .ref 83), (1, .int (Zi f))], [.ref 83, .ref 83])) (fun _ => rfl) ?_
    refine R_gr (q := 119) rfl hs rfl ?_
    show B_R _ _ (191, [(4, .int (Zi i)), (2, .int (Zi n)), (3, .int (Zi fr)), (0, .ref 83), (1, .int (Zi f))], [.ref 121, .ref 83]) _ _ _
    refine Z_go (f2 := (193, [(4, .int (Zi i)), (2, .int (Zi n)), (3, .int (Zi fr)), (0, .ref 83), (1, .int (Zi f))], [.int (Zi 48), .ref 121, .ref 83])) (fun _ => rfl) ?_
    refine Z_go (f2 := (195, [(4, .int (Zi i)), (2, .int (Zi n)), (3, .int (Zi fr)), (0, .ref 83), (1, .int (Zi f))], [.int (Zi i), .int (Zi 48), .ref 121, .ref 83])) (fun _ => rfl) ?_
    refine R_call (As := [.ref 121, .int (Zi 48), .int (Zi i)]) (rest := []) rfl (by decide) rfl rfl rfl rfl (by decide +kernel) (Nat.le_of_ble_eq_true rfl) hs (R_mark121 _ v ⟨by omega, by omega⟩ ⟨by omega, by omega⟩ i0 (by omega) (by omega) (by omega)) (fun x h w hs q => ?_)
    obtain ⟨rfl, e9⟩ := q
    show B_R _ _ (198, [(4, .int (Zi i)), (2, .int (Zi n)), (3, .int (Zi fr)), (0, .ref 83), (1, .int (Zi f))], []) _ _ _
    refine B_loc (K := [(4, .int (Zi i)), (2, .int (Zi n)), (3, .int (Zi fr)), (0, .ref 83), (1, .int (Zi f))]) (N_all_sub ⟨rfl, rfl, rfl, rfl, rfl, trivial⟩) (show ([4, 2, 3, 0, 1] : List Nat).Nodup by decide) ?_
    rw [e9] at hs
    exact kont _ h hs (hv.yes (by omega) i0 (.inr (.inl ⟨rfl, by first | exact .inl (by omega) | exact .inr (by rw [hW (by omega)]; omega)⟩)) (by omega) rfl (by omega))
  · refine Z_go (f2 := (173, [(4, .int (Zi i)), (2, .int (Zi n)), (3, .int (Zi fr)), (0, .ref 83), (1, .int (Zi f))], [.ref 83])) (fun _ => rfl) ?_
    refine R_gr (q := 83) rfl hs rfl ?_
    show B_R _ _ (176, [(4, .int (Zi i)), (2, .int (Zi n)), (3, .int (Zi fr)), (0, .ref 83), (1, .int (Zi f))], [.ref 85]) _ _ _
    refine Z_go (f2 := (177, [(4, .int (Zi i)), (2, .int (Zi n)), (3, .int (Zi fr)), (0, .ref 83), (1, .int (Zi f))], [.int (Zi fr), .ref 85])) (fun _ => rfl) ?_
    refine Z_go (f2 := (179, [(4, .int (Zi i)), (2, .int (Zi n)), (3, .int (Zi fr)), (0, .ref 83), (1, .int (Zi f))], [.int (Zi i), .int (Zi fr), .ref 85])) (fun _ => rfl) ?_
    refine Z_iadd rfl ?_
    refine R_ia (q := 1) rfl hs rfl rfl (by omega) (by omega) (by decide) ?_
    refine Z_go (f2 := (183, [(4, .int (Zi i)), (2, .int (Zi n)), (3, .int (Zi fr)), (0, .ref 83), (1, .int (Zi f))], [.int (Zi 10), .int (Zi (v.2.1 85 (fr + i)))])) (fun _ => rfl) ?_
    refine Z_cne rfl rfl (by first | exact hs.zF _ | exact Zor_r _ _ | exact hs.zA _ _ | assumption | exact zA _ _ | exact zS _ | exact Zr_not (hs.zA _ _) | exact ⟨by omega, by omega⟩) (by first | exact hs.zF _ | exact Zor_r _ _ | exact hs.zA _ _ | assumption | exact zA _ _ | exact zS _ | exact Zr_not (hs.zA _ _) | exact ⟨by omega, by omega⟩) (fun c2 => ?_) (fun c2 => ?_)
    · refine B_loc (K := [(4, .int (Zi i)), (2, .int (Zi n)), (3, .int (Zi fr)), (0, .ref 83), (1, .int (Zi f))]) (N_all_sub ⟨rfl, rfl, rfl, rfl, rfl, trivial⟩) (show ([4, 2, 3, 0, 1] : List Nat).Nodup by decide) ?_
      exact kont v h hs (hv.no (by unfold M_hold; intro q; rcases q with q | ⟨_, q | q⟩ | q <;> first | omega | (rw [hW (by omega)] at q; omega)))
    · refine Z_go (f2 := (187, [(4, .int (Zi i)), (2, .int (Zi n)), (3, .int (Zi fr)), (0, .ref 83), (1, .int (Zi f))], [.ref 83])) (fun _ => rfl) ?_
      refine Z_go (f2 := (188, [(4, .int (Zi i)), (2, .int (Zi n)), (3, .int (Zi fr)), (0, .ref 83), (1, .int (Zi f))], [.ref 83, .ref 83])) (fun _ => rfl) ?_
      refine R_gr (q := 119) rfl hs rfl ?_
      show B_R _ _ (191, [(4, .int (Zi i)), (2, .int (Zi n)), (3, .int (Zi fr)), (0, .ref 83), (1, .int (Zi f))], [.ref 121, .ref 83]) _ _ _
      refine Z_go (f2 := (193, [(4, .int (Zi i)), (2, .int (Zi n)), (3, .int (Zi fr)), (0, .ref 83), (1, .int (Zi f))], [.int (Zi 48), .ref 121, .ref 83])) (fun _ => rfl) ?_
      refine Z_go (f2 := (195, [(4, .int (Zi i)), (2, .int (Zi n)), (3, .int (Zi fr)), (0, .ref 83), (1, .int (Zi f))], [.int (Zi i), .int (Zi 48), .ref 121, .ref 83])) (fun _ => rfl) ?_
      refine R_call (As := [.ref 121, .int (Zi 48), .int (Zi i)]) (rest := []) rfl (by decide) rfl rfl rfl rfl (by decide +kernel) (Nat.le_of_ble_eq_true rfl) hs (R_mark121 _ v ⟨by omega, by omega⟩ ⟨by omega, by omega⟩ i0 (by omega) (by omega) (by omega)) (fun x h w hs q => ?_)
      obtain ⟨rfl, e9⟩ := q
      show B_R _ _ (198, [(4, .int (Zi i)), (2, .int (Zi n)), (3, .int (Zi fr)), (0, .ref 83), (1, .int (Zi f))], []) _ _ _
      refine B_loc (K := [(4, .int (Zi i)), (2, .int (Zi n)), (3, .int (Zi fr)), (0, .ref 83), (1, .int (Zi f))]) (N_all_sub ⟨rfl, rfl, rfl, rfl, rfl, trivial⟩) (show ([4, 2, 3, 0, 1] : List Nat).Nodup by decide) ?_
      rw [e9] at hs
      exact kont _ h hs (hv.yes (by omega) i0 (.inr (.inl ⟨rfl, by first | exact .inl (by omega) | exact .inr (by rw [hW (by omega)]; omega)⟩)) (by omega) rfl (by omega))
theorem R_mk_h4 {d : Nat} {h0 : E_H} {s : R_S} {sl : Nat} {Φ : E_R → Prop} {n fr f i : Int} (hf : R_in s f) (hn : n = s.2.1 87 f) (hfr : fr = s.2.1 86 f) (m0 : 0 ≤ s.1 15) (m1 : s.1 15 ≤ 90) (i0 : 0 ≤ i) (i1 : i ≤ n) {K : Int → Prop} (kont : ∀ (u : R_S) (h : E_H), R_is h0 h u → R_mkh s u f i (fun k => K k ∨ k = 4) → B_R (d + 3) E_m262 (229, [(4, .int (Zi i)), (2, .int (Zi n)), (3, .int (Zi fr)), (0, .ref 83), (1, .int (Zi f))], []) h sl Φ) (v : R_S) (h : E_H) (hs : R_is h0 h v) (hv : R_mkh s v f i K) : B_R (d + 3) E_m262 (198, [(4, .int (Zi i)), (2, .int (Zi n)), (3, .int (Zi fr)), (0, .ref 83), (1, .int (Zi f))], []) h sl Φ := by
  obtain ⟨f0, f1, f2, f3, f4, f5, f6⟩ := id hf
  have e2 : v.2.1 = s.2.1 := hv.1.2.1
  have zn : Zr n := ⟨by omega, by omega⟩
  have zi : Zr i := ⟨by omega, by omega⟩
  have gin : R_in v f := by unfold R_in; rw [e2]; exact hf
  have gW : ∀ j, R_wb v f j = R_wb s f j := fun j => by unfold R_wb R_by; rw [e2]
  refine Z_go (f2 := (199, [(4, .int (Zi i)), (2, .int (Zi n)), (3, .int (Zi fr)), (0, .ref 83), (1, .int (Zi f))], [.ref 83])) (fun _ => rfl) ?_
  refine Z_go (f2 := (200, [(4, .int (Zi i)), (2, .int (Zi n)), (3, .int (Zi fr)), (0, .ref 83), (1, .int (Zi f))], [.int (Zi f), .ref 83])) (fun _ => rfl) ?_
  refine Z_go (f2 := (202, [(4, .int (Zi i)), (2, .int (Zi n)), (3, .int (Zi fr)), (0, .ref 83), (1, .int (Zi f))], [.int (Zi i), .int (Zi f), .ref 83])) (fun _ => rfl) ?_
  refine Z_go (f2 := (203, [(4, .int (Zi i)), (2, .int (Zi n)), (3, .int (Zi fr)), (0, .ref 83), (1, .int (Zi f))], [.int (Zi 1), .int (Zi i), .int (Zi f), .ref 83])) (fun _ => rfl) ?_
  refine Z_isub rfl ?_
  refine R_call (As := [.int (Zi f), .int (Zi (i - 1))]) (rest := []) rfl (by decide) rfl rfl rfl rfl (by decide +kernel) (Nat.le_of_ble_eq_true rfl) hs (R_isWordAt _ v ⟨by omega, by omega⟩ ⟨by omega, by omega⟩ gin) (fun x h s2 hs q => ?_)
  obtain ⟨q0, wa, rfl, hwa⟩ := q
  rw [gW] at hwa
  rw [q0] at hs
  show B_R _ _ (207, [(4, .int (Zi i)), (2, .int (Zi n)), (3, .int (Zi fr)), (0, .ref 83), (1, .int (Zi f))], [.int (Zi wa)]) _ _ _
  refine Z_go (f2 := (208, [(4, .int (Zi i)), (2, .int (Zi n)), (3, .int (Zi fr)), (0, .ref 83), (1, .int (Zi f))], [.ref 83, .int (Zi wa)])) (fun _ => rfl) ?_
  refine Z_go (f2 := (209, [(4, .int (Zi i)), (2, .int (Zi n)), (3, .int (Zi fr)), (0, .ref 83), (1, .int (Zi f))], [.int (Zi f), .ref 83, .int (Zi wa)])) (fun _ => rfl) ?_
  refine Z_go (f2 := (211, [(4, .int (Zi i)), (2, .int (Zi n)), (3, .int (Zi fr)), (0, .ref 83), (1, .int (Zi f))], [.int (Zi i), .int (Zi f), .ref 83, .int (Zi wa)])) (fun _ => rfl) ?_
  refine R_call (As := [.int (Zi f), .int (Zi i)]) (rest := [.int (Zi wa)]) rfl (by decide) rfl rfl rfl rfl (by decide +kernel) (Nat.le_of_ble_eq_true rfl) hs (R_isWordAt _ v ⟨by omega, by omega⟩ ⟨by omega, by omega⟩ gin) (fun x h s2 hs q => ?_)
  obtain ⟨q0, wb, rfl, hwb⟩ := q
  rw [gW] at hwb
  rw [q0] at hs
  show B_R _ _ (214, [(4, .int (Zi i)), (2, .int (Zi n)), (3, .int (Zi fr)), (0, .ref 83), (1, .int (Zi f))], [.int (Zi wb), .int (Zi wa)]) _ _ _
  refine Z_ceq rfl rfl (by first | exact hs.zF _ | exact Zor_r _ _ | exact hs.zA _ _ | assumption | exact zA _ _ | exact zS _ | exact Zr_not (hs.zA _ _) | exact ⟨by omega, by omega⟩) (by first | exact hs.zF _ | exact Zor_r _ _ | exact hs.zA _ _ | assumption | exact zA _ _ | exact zS _ | exact Zr_not (hs.zA _ _) | exact ⟨by omega, by omega⟩) (fun c1 => ?_) (fun c1 => ?_)
  · refine B_loc (K := [(4, .int (Zi i)), (2, .int (Zi n)), (3, .int (Zi fr)), (0, .ref 83), (1, .int (Zi f))]) (N_all_sub ⟨rfl, rfl, rfl, rfl, rfl, trivial⟩) (show ([4, 2, 3, 0, 1] : List Nat).Nodup by decide) ?_
    exact kont v h hs (hv.no (by unfold M_hold; intro q; rcases q with q | q | ⟨_, q⟩; omega; omega; refine q ?_; rcases hwa with a | a <;> rcases hwb with b | b <;> first | omega | exact ⟨fun _ => b.2, fun _ => a.2⟩ | exact ⟨fun z => absurd z a.2, fun z => absurd z b.2⟩))
  · refine Z_go (f2 := (218, [(4, .int (Zi i)), (2, .int (Zi n)), (3, .int (Zi fr)), (0, .ref 83), (1, .int (Zi f))], [.ref 83])) (fun _ => rfl) ?_
    refine Z_go (f2 := (219, [(4, .int (Zi i)), (2, .int (Zi n)), (3, .int (Zi fr)), (0, .ref 83), (1, .int (Zi f))], [.ref 83, .ref 83])) (fun _ => rfl) ?_
    refine R_gr (q := 119) rfl hs rfl ?_
    show B_R _ _ (222, [(4, .int (Zi i)), (2, .int (Zi n)), (3, .int (Zi fr)), (0, .ref 83), (1, .int (Zi f))], [.ref 121, .ref 83]) _ _ _
    refine Z_go (f2 := (224, [(4, .int (Zi i)), (2, .int (Zi n)), (3, .int (Zi fr)), (0, .ref 83), (1, .int (Zi f))], [.int (Zi 64), .ref 121, .ref 83])) (fun _ => rfl) ?_
    refine Z_go (f2 := (226, [(4, .int (Zi i)), (2, .int (Zi n)), (3, .int (Zi fr)), (0, .ref 83), (1, .int (Zi f))], [.int (Zi i), .int (Zi 64), .ref 121, .ref 83])) (fun _ => rfl) ?_
    refine R_call (As := [.ref 121, .int (Zi 64), .int (Zi i)]) (rest := []) rfl (by decide) rfl rfl rfl rfl (by decide +kernel) (Nat.le_of_ble_eq_true rfl) hs (R_mark121 _ v ⟨by omega, by omega⟩ ⟨by omega, by omega⟩ i0 (by omega) (by omega) (by omega)) (fun x h w hs q => ?_)
    obtain ⟨rfl, e9⟩ := q
    show B_R _ _ (229, [(4, .int (Zi i)), (2, .int (Zi n)), (3, .int (Zi fr)), (0, .ref 83), (1, .int (Zi f))], []) _ _ _
    refine B_loc (K := [(4, .int (Zi i)), (2, .int (Zi n)), (3, .int (Zi fr)), (0, .ref 83), (1, .int (Zi f))]) (N_all_sub ⟨rfl, rfl, rfl, rfl, rfl, trivial⟩) (show ([4, 2, 3, 0, 1] : List Nat).Nodup by decide) ?_
    rw [e9] at hs
    exact kont _ h hs (hv.yes (by omega) i0 (.inr (.inr ⟨rfl, by rcases hwa with a | a <;> rcases hwb with b | b <;> first | omega | exact fun z => b.2 (z.mp a.2) | exact fun z => a.2 (z.mpr b.2)⟩)) (by omega) rfl (by omega))
theorem R_mk_out {d : Nat} {h0 : E_H} {s : R_S} {sl : Nat} {Φ : E_R → Prop} {n fr f : Int} (hf : R_in s f) (hn : n = s.2.1 87 f) (hfr : fr = s.2.1 86 f) (m0 : 0 ≤ s.1 15) (m1 : s.1 15 ≤ 90) (kont : ∀ (u : R_S) (h : E_H), R_is h0 h u → R_mki s u f (n + 1) 0 → Φ (none, h, sl)) : ∀ (t : Nat) (i : Int) (u : R_S) (h : E_H), n + 1 - i < t → R_is h0 h u → R_mki s u f i 0 → 0 ≤ i → i ≤ n + 1 → B_R (d + 3) E_m262 (70, [(4, .int (Zi i)), (2, .int (Zi n)), (3, .int (Zi fr)), (0, .ref 83), (1, .int (Zi f))], []) h sl Φ := by
  intro t
  induction t with
  | zero => intro i u h ht hs hu i0 i1; omega
  | succ t ih =>
    intro i u h ht hs hu i0 i1
    obtain ⟨f0, f1, f2, f3, f4, f5, f6⟩ := id hf
    have zn : Zr n := ⟨by omega, by omega⟩
    have zi : Zr i := ⟨by omega, by omega⟩
    refine Z_go (f2 := (72, [(4, .int (Zi i)), (2, .int (Zi n)), (3, .int (Zi fr)), (0, .ref 83), (1, .int (Zi f))], [.int (Zi i)])) (fun _ => rfl) ?_
    refine Z_go (f2 := (73, [(4, .int (Zi i)), (2, .int (Zi n)), (3, .int (Zi fr)), (0, .ref 83), (1, .int (Zi f))], [.int (Zi n), .int (Zi i)])) (fun _ => rfl) ?_
    refine Z_cgt rfl rfl (by first | exact hs.zF _ | exact Zor_r _ _ | exact hs.zA _ _ | assumption | exact zA _ _ | exact zS _ | exact Zr_not (hs.zA _ _) | exact ⟨by omega, by omega⟩) (by first | exact hs.zF _ | exact Zor_r _ _ | exact hs.zA _ _ | assumption | exact zA _ _ | exact zS _ | exact Zr_not (hs.zA _ _) | exact ⟨by omega, by omega⟩) (fun c1 => ?_) (fun c1 => ?_)
    · refine Z_ret rfl rfl ?_
      obtain rfl : i = n + 1 := by omega
      exact kont u h hs hu
    · refine Z_go (f2 := (77, [(4, .int (Zi i)), (2, .int (Zi n)), (3, .int (Zi fr)), (0, .ref 83), (1, .int (Zi f))], [.int (Zi 0)])) (fun _ => rfl) ?_
      refine Z_go (f2 := (79, [(5, .int (Zi 0)), (4, .int (Zi i)), (2, .int (Zi n)), (3, .int (Zi fr)), (0, .ref 83), (1, .int (Zi f))], [])) (fun _ => rfl) ?_
      refine B_loc (K := [(5, .int (Zi 0)), (4, .int (Zi i)), (2, .int (Zi n)), (3, .int (Zi fr)), (0, .ref 83), (1, .int (Zi f))]) (N_all_sub ⟨rfl, rfl, rfl, rfl, rfl, rfl, trivial⟩) (show ([5, 4, 2, 3, 0, 1] : List Nat).Nodup by decide) ?_
      refine R_mk_in (s := s) hf hn hfr m0 m1 i0 (by omega) (fun v h hs hv => ?_) ((s.1 15).toNat + 1) 0 u h (by omega) hs hu (by omega) m0
      refine R_mk_h2 (s := s) hf hn hfr m0 m1 i0 (by omega) (fun v h hs hv => ?_) v h hs hv
      refine R_mk_h3 (s := s) hf hn hfr m0 m1 i0 (by omega) (fun v h hs hv => ?_) v h hs hv
      refine R_mk_h4 (s := s) hf hn hfr m0 m1 i0 (by omega) (fun v h hs hv => ?_) v h hs hv
      refine Z_iinc (L2 := [(4, .int (Zi (i + 1))), (2, .int (Zi n)), (3, .int (Zi fr)), (0, .ref 83), (1, .int (Zi f))]) rfl rfl (by decide) rfl ?_
      refine Z_goto (p2 := 70) rfl (by decide +kernel) (by decide +kernel) ?_
      exact ih (i + 1) v h (by omega) hs (hv.fin (fun k hk => by rcases hk with rfl | rfl | rfl; exact .inl (.inl (.inr rfl)); exact .inl (.inr rfl); exact .inr rfl)) (by omega) (by omega)
theorem R_marks (d : Nat) (s : R_S) {f : Int} (zf : Zr f) (hf : R_in s f) (m0 : 0 ≤ s.1 15) (m1 : s.1 15 ≤ 90) : R_ok (d + 4) 262 [.int (Zi f)] s (fun x u => x = none ∧ R_l2 s u ∧ (∀ k, 0 ≤ k → k < s.1 15 → R_bs_ u 120 (16 * k) (fun j => 0 ≤ j ∧ j < s.2.1 87 f ∧ R_has s k (R_wb s f j))) ∧ ∀ k, k = 2 ∨ k = 3 ∨ k = 4 → R_bs_ u 121 (16 * k) (fun j => 0 ≤ j ∧ j ≤ s.2.1 87 f ∧ M_hold (R_wb s f) (s.2.1 87 f) k j)) := by
  refine R_enter (M := E_m262) rfl (Nat.le_of_ble_eq_true rfl) (fun h0 h hs => ?_)
  show B_R (d + 3) _ (0, [(0, .ref 83), (1, .int (Zi f))], []) _ _ _
  obtain ⟨f0, f1, f2, f3, f4, f5, f6⟩ := id hf
  refine Z_go (f2 := (1, [(0, .ref 83), (1, .int (Zi f))], [.ref 83])) (fun _ => rfl) ?_
  refine R_gr (q := 85) rfl hs rfl ?_
  show B_R _ _ (4, [(0, .ref 83), (1, .int (Zi f))], [.ref 87]) _ _ _
  refine Z_go (f2 := (5, [(0, .ref 83), (1, .int (Zi f))], [.int (Zi f), .ref 87])) (fun _ => rfl) ?_
  refine R_ia (q := 3) rfl hs rfl rfl (by omega) (by omega) (by decide) ?_
  refine Z_go (f2 := (7, [(2, .int (Zi (s.2.1 87 f))), (0, .ref 83), (1, .int (Zi f))], [])) (fun _ => rfl) ?_
  refine Z_go (f2 := (8, [(2, .int (Zi (s.2.1 87 f))), (0, .ref 83), (1, .int (Zi f))], [.ref 83])) (fun _ => rfl) ?_
  refine R_gr (q := 84) rfl hs rfl ?_
  show B_R _ _ (11, [(2, .int (Zi (s.2.1 87 f))), (0, .ref 83), (1, .int (Zi f))], [.ref 86]) _ _ _
  refine Z_go (f2 := (12, [(2, .int (Zi (s.2.1 87 f))), (0, .ref 83), (1, .int (Zi f))], [.int (Zi f), .ref 86])) (fun _ => rfl) ?_
  refine R_ia (q := 2) rfl hs rfl rfl (by omega) (by omega) (by decide) ?_
  refine Z_go (f2 := (14, [(3, .int (Zi (s.2.1 86 f))), (2, .int (Zi (s.2.1 87 f))), (0, .ref 83), (1, .int (Zi f))], [])) (fun _ => rfl) ?_
  refine Z_go (f2 := (15, [(3, .int (Zi (s.2.1 86 f))), (2, .int (Zi (s.2.1 87 f))), (0, .ref 83), (1, .int (Zi f))], [.int (Zi 0)])) (fun _ => rfl) ?_
  refine Z_go (f2 := (17, [(4, .int (Zi 0)), (3, .int (Zi (s.2.1 86 f))), (2, .int (Zi (s.2.1 87 f))), (0, .ref 83), (1, .int (Zi f))], [])) (fun _ => rfl) ?_
  refine B_loc (K := [(4, .int (Zi 0)), (2, .int (Zi (s.2.1 87 f))), (3, .int (Zi (s.2.1 86 f))), (0, .ref 83), (1, .int (Zi f))]) (N_all_sub ⟨rfl, rfl, rfl, rfl, rfl, trivial⟩) (show ([4, 2, 3, 0, 1] : List Nat).Nodup by decide) ?_
  refine R_mk_1 m0 m1 (fun h hs => ?_) ((16 * s.1 15).toNat + 1) 0 h (by omega) (by rw [R_fL_0]; exact hs) (by omega) (by omega)
  refine Z_go (f2 := (44, [(2, .int (Zi (s.2.1 87 f))), (3, .int (Zi (s.2.1 86 f))), (0, .ref 83), (1, .int (Zi f))], [.int (Zi 0)])) (fun _ => rfl) ?_
  refine Z_go (f2 := (46, [(4, .int (Zi 0)), (2, .int (Zi (s.2.1 87 f))), (3, .int (Zi (s.2.1 86 f))), (0, .ref 83), (1, .int (Zi f))], [])) (fun _ => rfl) ?_
  refine R_mk_2 (s := R_fL s 120 0 (16 * s.1 15) (fun _ => 0)) (fun h hs => ?_) 81 0 h (by omega) (by rw [R_fL_0]; exact hs) (by omega) (by omega)
  refine Z_go (f2 := (68, [(2, .int (Zi (s.2.1 87 f))), (3, .int (Zi (s.2.1 86 f))), (0, .ref 83), (1, .int (Zi f))], [.int (Zi 0)])) (fun _ => rfl) ?_
  refine Z_go (f2 := (70, [(4, .int (Zi 0)), (2, .int (Zi (s.2.1 87 f))), (3, .int (Zi (s.2.1 86 f))), (0, .ref 83), (1, .int (Zi f))], [])) (fun _ => rfl) ?_
  have h0_ : R_mki s (R_fL (R_fL s 120 0 (16 * s.1 15) (fun _ => 0)) 121 0 80 (fun _ => 0)) f 0 0 := by
    refine ⟨⟨rfl, rfl, rfl, fun p j h1 h2 => ?_⟩, fun k k0 k1 i i0 i1 => ?_, fun k hk i i0 i1 => ?_⟩
    · exact ((R_lq.fl _ _ _ _ _).2.2.2 p j h2).trans ((R_lq.fl _ _ _ _ _).2.2.2 p j h1)
    · rw [(R_lq.fl _ 121 _ _ _).2.2.2 120 _ (by decide), R_fL_i (by omega) (by omega)]
      exact ⟨fun e => absurd e (T_bit_0 _), fun e => by obtain ⟨a, b, _⟩ := e; omega⟩
    · rw [R_fL_i (by omega) (by omega)]
      exact ⟨fun e => absurd e (T_bit_0 _), fun e => by obtain ⟨a, b, _⟩ := e; omega⟩
  refine R_mk_out (s := s) hf rfl rfl m0 m1 (fun u h hs hu => ⟨_, hs, ⟨rfl, hu.1, fun k k0 k1 => (hu.2.1 k k0 k1).weak (fun j j0 j1 => ⟨fun e => e.2, fun e => ⟨by omega, e⟩⟩), fun k hk => (hu.2.2 k hk).weak (fun j j0 j1 => ⟨fun e => ⟨e.2.1, by omega, e.2.2⟩, fun e => ⟨by omega, e.1, e.2.2⟩⟩)⟩, rfl⟩) ((s.2.1 87 f).toNat + 2) 0 _ h (by omega) hs h0_ (by omega) (by omega)
