/-! the reference: both -/
theorem L_srt_nd : ∀ {l : List Int}, L_srt l → l.Nodup
  | [], _ => List.nodup_nil
  | x :: l, h => List.nodup_cons.mpr ⟨fun e => by have := h.1 x e; omega, L_srt_nd h.2⟩
theorem L_len_le {a b : List Int} (h : L_srt a) (hm : ∀ x, x ∈ a → x ∈ b) : a.length ≤ b.length := (S_card_of (L_srt_nd h) (A := fun x => x ∈ a) (fun _ => Iff.rfl) b.length).mp ⟨b, Nat.le_refl _, hm⟩
theorem L_un_comm {a b : List Int} (ha : L_srt a) (hb : L_srt b) : L_un a b = L_un b a := L_srt_ext (L_un_srt hb) (L_un_srt ha) (fun x => by rw [L_un_mem, L_un_mem]; exact or_comm)
/-- how many choices there are -/
theorem R_CC.card {s : R_S} {e : Int} {C : P_X} (h : R_CC s e C) (n : Nat) : S_card C n ↔ s.2.1 104 e ≤ n := by
  obtain ⟨c0, c1, c2, c3, c4⟩ := h
  have nd : ((List.range (s.2.1 104 e).toNat).map (fun i : Nat => R_crow s e i)).Nodup := by
    refine List.pairwise_map.mpr (List.Pairwise.imp_of_mem (fun {a b} ha hb hab => ?_) (List.pairwise_lt_range (n := (s.2.1 104 e).toNat)))
    have ha := List.mem_range.mp ha
    have hb := List.mem_range.mp hb
    exact c3 a b (by omega) (by omega) (by omega)
  rw [S_card_of nd (A := C) (fun x => ?_)]
  · rw [List.length_map, List.length_range]
    omega
  · rw [List.mem_map, c4]
    constructor
    · rintro ⟨i, hi, rfl⟩
      have hi := List.mem_range.mp hi
      exact ⟨i, by omega, by omega, rfl⟩
    · rintro ⟨c, a, b, rfl⟩
      exact ⟨c.toNat, List.mem_range.mpr (by omega), by rw [show ((c.toNat : Nat) : Int) = c by omega]⟩
theorem R_CC.srt {s : R_S} {e : Int} {C : P_X} (h : R_CC s e C) {x : List Int} (hx : C x) : L_srt x := by
  obtain ⟨c, a, b, rfl⟩ := (h.2.2.2.2 x).mp hx
  exact D_row_srt (h.2.2.1 c a b).2.2
theorem R_CC.le {s : R_S} {p q : Int} {Cp Cq : P_X} (hp : R_CC s p Cp) (hq : R_CC s q Cq) : (∀ n, S_card Cq n → S_card Cp n) ↔ s.2.1 104 p ≤ s.2.1 104 q := by
  have p0 := hp.1
  have q0 := hq.1
  constructor
  · intro h
    have := (hp.card _).mp (h (s.2.1 104 q).toNat ((hq.card _).mpr (by omega)))
    omega
  · intro h n hn
    exact (hp.card n).mpr (by have := (hq.card n).mp hn; omega)
/-- the core lies in each -/
theorem F_core_le {C : P_X} {y : List Int} (h1 : ∃ l, L_srt l ∧ ∀ x, x ∈ l ↔ ∀ c, C c → x ∈ c) (hy : C y) : ∀ x, x ∈ F_core C → x ∈ y := by
  obtain ⟨l, h2, h3⟩ := h1
  rw [F_core_eq h2 h3]
  exact fun x hx => (h3 x).mp hx y hy
/-- the first k choices of the slot e, each with what the slot 42 begins with -/
def R_b1 (s : R_S) (e k : Int) : P_X := fun x => ∃ c, 0 ≤ c ∧ c < k ∧ x = L_un (R_crow s e c) (R_crow s 42 0)
theorem R_b1_0 (s : R_S) (e : Int) : R_b1 s e 0 = fun _ => False := funext (fun x => propext ⟨fun ⟨c, a, b, _⟩ => by omega, fun h => h.elim⟩)
theorem R_b1_s (s : R_S) (e : Int) {k : Int} (k0 : 0 ≤ k) : F_or (R_b1 s e k) (F_one (L_un (R_crow s e k) (R_crow s 42 0))) = R_b1 s e (k + 1) := by
  funext x
  refine propext ⟨?_, ?_⟩
  · rintro (⟨c, a, b, h⟩ | h)
    · exact ⟨c, a, by omega, h⟩
    · exact ⟨k, k0, by omega, h⟩
  · rintro ⟨j, a, b, h⟩
    by_cases e : j = k
    · exact .inr (by rw [← e]; exact h)
    · exact .inl ⟨j, a, by omega, h⟩
theorem R_b1_un {s : R_S} {e : Int} {C : P_X} {r : List Int} (h : R_CC s e C) (hr : R_crow s 42 0 = r) : R_b1 s e (s.2.1 104 e) = F_un C (fun x => x = r) := by
  funext z
  refine propext ⟨?_, ?_⟩
  · rintro ⟨c, a, b, hz⟩
    exact ⟨_, _, (h.2.2.2.2 _).mpr ⟨c, a, b, rfl⟩, hr, hz⟩
  · rintro ⟨x, y, hx, hy, hz⟩
    obtain ⟨c, a, b, rfl⟩ := (h.2.2.2.2 x).mp hx
    exact ⟨c, a, b, by rw [hr, ← hy]; exact hz⟩
theorem R_b1_card (s : R_S) (e : Int) {k : Int} (k1 : k ≤ 24) : S_card (F_min (R_b1 s e k)) 24 := by
  refine ⟨(List.range k.toNat).map (fun i : Nat => L_un (R_crow s e i) (R_crow s 42 0)), by rw [List.length_map, List.length_range]; omega, fun x hx => ?_⟩
  obtain ⟨⟨c, a, b, h⟩, _⟩ := hx
  exact List.mem_map.mpr ⟨c.toNat, List.mem_range.mpr (by omega), by rw [show ((c.toNat : Nat) : Int) = c by omega]; exact h.symm⟩
theorem R_CC.core {s : R_S} {e : Int} {C : P_X} (h : R_CC s e C) (m : 1 ≤ s.2.1 104 e) : ∃ l, L_srt l ∧ ∀ x, x ∈ l ↔ ∀ c, C c → x ∈ c := by
  obtain ⟨c0, c1, c2, c3, c4⟩ := id h
  have hr := (c4 _).mpr ⟨0, Int.le_refl _, by omega, rfl⟩
  have hsr := h.srt hr
  have key : ∀ l : List Int, L_srt l → ∃ k, L_srt k ∧ ∀ x, x ∈ k ↔ x ∈ l ∧ ∀ c, C c → x ∈ c := by
    intro l
    induction l with
    | nil => intro _; exact ⟨[], trivial, fun x => ⟨fun q => absurd q List.not_mem_nil, fun q => q.1⟩⟩
    | cons y l ih =>
      intro hl
      obtain ⟨k, k1, k2⟩ := ih hl.2
      by_cases q : ∀ c, C c → y ∈ c
      · refine ⟨L_ins y k, L_ins_srt k1, fun x => ?_⟩
        rw [L_ins_mem, k2, List.mem_cons]
        constructor
        · rintro (rfl | z)
          · exact ⟨.inl rfl, q⟩
          · exact ⟨.inr z.1, z.2⟩
        · rintro ⟨rfl | z, r⟩
          · exact .inl rfl
          · exact .inr ⟨z, r⟩
      · refine ⟨k, k1, fun x => ?_⟩
        rw [k2, List.mem_cons]
        constructor
        · exact fun z => ⟨.inr z.1, z.2⟩
        · rintro ⟨rfl | z, r⟩
          · exact absurd r q
          · exact ⟨z, r⟩
  obtain ⟨k, k1, k2⟩ := key _ hsr
  exact ⟨k, k1, fun x => (k2 x).trans ⟨fun q => q.2, fun q => ⟨q _ hr, q⟩⟩⟩
theorem R_b1_lp {d : Nat} {h0 : E_H} {s : R_S} {sl : Nat} {Φ : E_R → Prop} {e to : Int} (p0 : 0 ≤ e) (p1 : e < 44) (ce : R_cv s e) (c42 : R_cv s 42) (m42 : 1 ≤ s.2.1 104 42) (hb : ∀ c, 0 ≤ c → c < s.2.1 104 e → (L_un (R_crow s e c) (R_crow s 42 0)).length ≤ 640) (kont : ∀ (u : R_S) (h : E_H), R_is h0 h u → R_pst s u (s.2.1 104 e) (R_b1 s e (s.2.1 104 e)) → B_R (d + 1) E_m232 (149, [(0, .ref 83), (3, .int (Zi to))], []) h sl Φ) : ∀ (t : Nat) (k : Int) (u : R_S) (h : E_H), s.2.1 104 e - k < t → R_is h0 h u → R_pst s u k (R_b1 s e k) → 0 ≤ k → k ≤ s.2.1 104 e → B_R (d + 1) E_m232 (120, [(6, .int (Zi k)), (5, .int (Zi e)), (0, .ref 83), (3, .int (Zi to))], []) h sl Φ := by
  intro t
  induction t with
  | zero => intro k u h ht hs hu k0 k1; omega
  | succ t ih =>
    intro k u h ht hs hu k0 k1
    have e104 : u.2.1 104 e = s.2.1 104 e := hu.2.2.1 104 _ (by decide) (by decide)
    have e42 : u.2.1 104 42 = s.2.1 104 42 := hu.2.2.1 104 _ (by decide) (by decide)
    have e37 := hu.2.1
    have cp2 := ce.2.1
    refine Z_go (f2 := (122, [(6, .int (Zi k)), (5, .int (Zi e)), (0, .ref 83), (3, .int (Zi to))], [.int (Zi k)])) (fun _ => rfl) ?_
    refine Z_go (f2 := (123, [(6, .int (Zi k)), (5, .int (Zi e)), (0, .ref 83), (3, .int (Zi to))], [.ref 83, .int (Zi k)])) (fun _ => rfl) ?_
    refine R_gr (q := 102) rfl hs rfl ?_
    show B_R _ _ (126, [(6, .int (Zi k)), (5, .int (Zi e)), (0, .ref 83), (3, .int (Zi to))], [.ref 104, .int (Zi k)]) _ _ _
    refine Z_go (f2 := (128, [(6, .int (Zi k)), (5, .int (Zi e)), (0, .ref 83), (3, .int (Zi to))], [.int (Zi e), .ref 104, .int (Zi k)])) (fun _ => rfl) ?_
    refine R_ia (q := 20) rfl hs rfl rfl (by omega) (by omega) (by decide) ?_
    refine Z_cge rfl rfl (by first | exact hs.zF _ | exact Zor_r _ _ | exact hs.zA _ _ | assumption | exact zA _ _ | exact zS _ | exact Zr_not (hs.zA _ _) | exact ⟨by omega, by omega⟩) (by first | exact hs.zF _ | exact Zor_r _ _ | exact hs.zA _ _ | assumption | exact zA _ _ | exact zS _ | exact Zr_not (hs.zA _ _) | exact ⟨by omega, by omega⟩) (fun c1 => ?_) (fun c1 => ?_)
    · refine B_loc (K := [(0, .ref 83), (3, .int (Zi to))]) (N_all_sub ⟨rfl, rfl, trivial⟩) (show ([0, 3] : List Nat).Nodup by decide) ?_
      have q : k = s.2.1 104 e := by omega
      rw [q] at hu
      exact kont u h hs hu
    · refine Z_go (f2 := (133, [(6, .int (Zi k)), (5, .int (Zi e)), (0, .ref 83), (3, .int (Zi to))], [.ref 83])) (fun _ => rfl) ?_
      refine Z_go (f2 := (135, [(6, .int (Zi k)), (5, .int (Zi e)), (0, .ref 83), (3, .int (Zi to))], [.int (Zi e), .ref 83])) (fun _ => rfl) ?_
      refine Z_go (f2 := (137, [(6, .int (Zi k)), (5, .int (Zi e)), (0, .ref 83), (3, .int (Zi to))], [.int (Zi k), .int (Zi e), .ref 83])) (fun _ => rfl) ?_
      refine Z_go (f2 := (139, [(6, .int (Zi k)), (5, .int (Zi e)), (0, .ref 83), (3, .int (Zi to))], [.int (Zi 42), .int (Zi k), .int (Zi e), .ref 83])) (fun _ => rfl) ?_
      refine Z_go (f2 := (140, [(6, .int (Zi k)), (5, .int (Zi e)), (0, .ref 83), (3, .int (Zi to))], [.int (Zi 0), .int (Zi 42), .int (Zi k), .int (Zi e), .ref 83])) (fun _ => rfl) ?_
      refine R_call (As := [.int (Zi e), .int (Zi k), .int (Zi 42), .int (Zi 0)]) (rest := []) rfl (by decide) rfl rfl rfl rfl (by decide +kernel) (Nat.le_of_ble_eq_true rfl) hs (R_addBoth _ u (by first | assumption | exact hs.zF _ | exact hs.zA _ _ | exact ⟨by omega, by omega⟩ | omega) (by first | assumption | exact hs.zF _ | exact hs.zA _ _ | exact ⟨by omega, by omega⟩ | omega) (by first | assumption | exact hs.zF _ | exact hs.zA _ _ | exact ⟨by omega, by omega⟩ | omega) (by first | assumption | exact hs.zF _ | exact hs.zA _ _ | exact ⟨by omega, by omega⟩ | omega) (by omega) (by omega) (by omega) (by rw [e104]; omega) (by omega) (by omega) (by omega) (by rw [e42]; omega) (hu.cv ce) (hu.cv c42) hu.2.2.2.2.1 (by omega) (by rw [hu.crow, hu.crow]; exact hb k k0 (by omega))) (fun x h w hs q => ?_)
      obtain ⟨rfl, q1⟩ := q
      show B_R _ _ (143, [(6, .int (Zi k)), (5, .int (Zi e)), (0, .ref 83), (3, .int (Zi to))], []) _ _ _
      refine Z_iinc (L2 := [(6, .int (Zi (k + 1))), (5, .int (Zi e)), (0, .ref 83), (3, .int (Zi to))]) rfl rfl (by decide) rfl ?_
      refine Z_go (f2 := (120, [(6, .int (Zi (k + 1))), (5, .int (Zi e)), (0, .ref 83), (3, .int (Zi to))], [])) (fun _ => rfl) ?_
      refine B_loc (K := [(6, .int (Zi (k + 1))), (5, .int (Zi e)), (0, .ref 83), (3, .int (Zi to))]) (N_all_sub ⟨rfl, rfl, rfl, rfl, trivial⟩) (show ([6, 5, 0, 3] : List Nat).Nodup by decide) ?_
      refine ih (k + 1) w h (by omega) hs ?_ (by omega) (by omega)
      have := hu.add q1
      rw [hu.crow, hu.crow, R_b1_s s e k0] at this
      exact this
theorem R_both (d : Nat) (s : R_S) {p q to : Int} (zp : Zr p) (zq : Zr q) (zto : Zr to) {Cp Cq : P_X} (p0 : 0 ≤ p) (p1 : p < 44) (q0 : 0 ≤ q) (q1 : q < 44) (t0 : 0 ≤ to) (t1 : to < 44) (np : p ≠ 42) (nq : q ≠ 42) (hp : R_CC s p Cp) (hq : R_CC s q Cq) (hb : ∀ x y, Cp x → Cq y → (L_un x y).length ≤ 640) : R_ok (d + 5) 232 [.int (Zi p), .int (Zi q), .int (Zi to)] s (fun x s2 => x = none ∧ R_CC s2 to (F_both Cp Cq) ∧ R_wk s s2 (fun k => k = to ∨ k = 42)) := by
  refine R_enter (M := E_m232) rfl (Nat.le_of_ble_eq_true rfl) (fun h0 h hs => ?_)
  show B_R (d + 4) _ (0, [(0, .ref 83), (1, .int (Zi p)), (2, .int (Zi q)), (3, .int (Zi to))], []) _ _ _
  have m1 := hp.2.1
  have m0 := hp.1
  have m2 := hq.2.1
  have m3 := hq.1
  refine Z_go (f2 := (1, [(0, .ref 83), (1, .int (Zi p)), (2, .int (Zi q)), (3, .int (Zi to))], [.ref 83])) (fun _ => rfl) ?_
  refine Z_go (f2 := (2, [(0, .ref 83), (1, .int (Zi p)), (2, .int (Zi q)), (3, .int (Zi to))], [.int (Zi 0), .ref 83])) (fun _ => rfl) ?_
  refine R_pf rfl hs rfl (by first | exact hs.zF _ | exact Zor_r _ _ | exact hs.zA _ _ | assumption | exact zA _ _ | exact zS _ | exact Zr_not (hs.zA _ _) | exact ⟨by omega, by omega⟩) ⟨rfl, rfl, rfl⟩ (fun h hs => ?_)
  refine Z_go (f2 := (6, [(0, .ref 83), (1, .int (Zi p)), (2, .int (Zi q)), (3, .int (Zi to))], [.int (Zi 0)])) (fun _ => rfl) ?_
  refine Z_go (f2 := (8, [(4, .int (Zi 0)), (0, .ref 83), (1, .int (Zi p)), (2, .int (Zi q)), (3, .int (Zi to))], [])) (fun _ => rfl) ?_
  refine B_loc (K := [(4, .int (Zi 0)), (0, .ref 83), (1, .int (Zi p)), (2, .int (Zi q)), (3, .int (Zi to))]) (N_all_sub ⟨rfl, rfl, rfl, rfl, rfl, trivial⟩) (show ([4, 0, 1, 2, 3] : List Nat).Nodup by decide) ?_
  refine R_bb_out (to := to) p0 p1 q0 q1 hp.cv hq.cv (fun c j c0 c1 j0 j1 => hb _ _ ((hp.2.2.2.2 _).mpr ⟨c, c0, c1, rfl⟩) ((hq.2.2.2.2 _).mpr ⟨j, j0, j1, rfl⟩)) (fun u h hs hu => ?_) ((s.2.1 104 p).toNat + 1) 0 _ h (by omega) hs (by rw [R_bb_0, Int.zero_mul]; exact R_pst_0 s) (by omega) (by omega)
  rw [R_bb_un hp hq] at hu
  refine Z_go (f2 := (56, [(0, .ref 83), (1, .int (Zi p)), (2, .int (Zi q)), (3, .int (Zi to))], [.ref 83])) (fun _ => rfl) ?_
  refine R_call (As := []) (rest := []) rfl (by decide) rfl rfl rfl rfl (by decide +kernel) (Nat.le_of_ble_eq_true rfl) hs (R_leastPairs _ u hu.2.2.2.2.1) (fun x h v hs q => ?_)
  obtain ⟨m, rfl, r1, r2, r3⟩ := q
  have hcard := R_min_card hu.2.2.2.2.1 r3 24
  rw [hu.2.2.2.2.2] at hcard
  have r3r := D_cn_le r3 hu.2.2.2.2.1.1
  have r3s := hu.2.2.2.2.1.2.1
  have v104 : ∀ j, v.2.1 104 j = s.2.1 104 j := fun j => by rw [r1.2.1 104 j (by decide)]; exact hu.2.2.1 104 j (by decide) (by decide)
  have v104p := v104 p
  have v104q := v104 q
  have wv : R_wk s v (fun k => k = 42) := hu.wk.trans (R_wk_slf (R_slf_109 r1 42)) (fun _ h => h.elim) (fun _ h => h)
  have vp := R_CC_wk wv np hp
  have vq := R_CC_wk wv nq hq
  show B_R _ _ (59, [(0, .ref 83), (1, .int (Zi p)), (2, .int (Zi q)), (3, .int (Zi to))], [.int (Zi m)]) _ _ _
  refine Z_go (f2 := (61, [(0, .ref 83), (1, .int (Zi p)), (2, .int (Zi q)), (3, .int (Zi to))], [.int (Zi 24), .int (Zi m)])) (fun _ => rfl) ?_
  refine Z_cle rfl rfl (by first | exact hs.zF _ | exact Zor_r _ _ | exact hs.zA _ _ | assumption | exact zA _ _ | exact zS _ | exact Zr_not (hs.zA _ _) | exact ⟨by omega, by omega⟩) (by first | exact hs.zF _ | exact Zor_r _ _ | exact hs.zA _ _ | assumption | exact zA _ _ | exact zS _ | exact Zr_not (hs.zA _ _) | exact ⟨by omega, by omega⟩) (fun c1 => ?_) (fun c1 => ?_)
  · refine Z_go (f2 := (150, [(0, .ref 83), (1, .int (Zi p)), (2, .int (Zi q)), (3, .int (Zi to))], [.ref 83])) (fun _ => rfl) ?_
    refine Z_go (f2 := (151, [(0, .ref 83), (1, .int (Zi p)), (2, .int (Zi q)), (3, .int (Zi to))], [.int (Zi to), .ref 83])) (fun _ => rfl) ?_
    refine R_call (As := [.int (Zi to)]) (rest := []) rfl (by decide) rfl rfl rfl rfl (by decide +kernel) (Nat.le_of_ble_eq_true rfl) hs (R_least _ v (by first | assumption | exact hs.zF _ | exact hs.zA _ _ | exact ⟨by omega, by omega⟩ | omega) t0 t1 (R_pv_only r1 hu.2.2.2.2.1)) (fun x h w hs q => ?_)
    obtain ⟨rfl, c1, c2⟩ := q
    rw [R_PF_109 r1, hu.2.2.2.2.2] at c1
    show B_R _ _ (154, [(0, .ref 83), (1, .int (Zi p)), (2, .int (Zi q)), (3, .int (Zi to))], []) _ _ _
    refine Z_ret rfl rfl ⟨_, hs, ?_, rfl⟩
    refine ⟨rfl, ?_, (wv.trans (R_wk_slf c2) (M := fun k => k = to ∨ k = 42) (fun _ h => .inr h) (fun _ h => .inl h))⟩
    unfold F_both
    rw [c_pos (hcard.mpr (by omega))]
    unfold F_least at c1
    rw [c_pos (hcard.mpr (by omega))] at c1
    exact c1
  · have hmany : 1 ≤ s.2.1 104 p ∧ 1 ≤ s.2.1 104 q := by
      have h1 := hu.2.1
      refine ⟨?_, ?_⟩
      · refine Classical.byContradiction (fun hh => ?_)
        have : s.2.1 104 p = 0 := by omega
        rw [this, Int.zero_mul] at h1
        omega
      · refine Classical.byContradiction (fun hh => ?_)
        have : s.2.1 104 q = 0 := by omega
        rw [this, Int.mul_zero] at h1
        omega
    refine Z_go (f2 := (65, [(0, .ref 83), (1, .int (Zi p)), (2, .int (Zi q)), (3, .int (Zi to))], [.ref 83])) (fun _ => rfl) ?_
    refine R_gr (q := 102) rfl hs rfl ?_
    show B_R _ _ (68, [(0, .ref 83), (1, .int (Zi p)), (2, .int (Zi q)), (3, .int (Zi to))], [.ref 104]) _ _ _
    refine Z_go (f2 := (69, [(0, .ref 83), (1, .int (Zi p)), (2, .int (Zi q)), (3, .int (Zi to))], [.int (Zi p), .ref 104])) (fun _ => rfl) ?_
    refine R_ia (q := 20) rfl hs rfl rfl (by omega) (by omega) (by decide) ?_
    refine Z_go (f2 := (71, [(0, .ref 83), (1, .int (Zi p)), (2, .int (Zi q)), (3, .int (Zi to))], [.ref 83, .int (Zi (v.2.1 104 p))])) (fun _ => rfl) ?_
    refine R_gr (q := 102) rfl hs rfl ?_
    show B_R _ _ (74, [(0, .ref 83), (1, .int (Zi p)), (2, .int (Zi q)), (3, .int (Zi to))], [.ref 104, .int (Zi (v.2.1 104 p))]) _ _ _
    refine Z_go (f2 := (75, [(0, .ref 83), (1, .int (Zi p)), (2, .int (Zi q)), (3, .int (Zi to))], [.int (Zi q), .ref 104, .int (Zi (v.2.1 104 p))])) (fun _ => rfl) ?_
    refine R_ia (q := 20) rfl hs rfl rfl (by omega) (by omega) (by decide) ?_
    refine Z_cgt rfl rfl (by first | exact hs.zF _ | exact Zor_r _ _ | exact hs.zA _ _ | assumption | exact zA _ _ | exact zS _ | exact Zr_not (hs.zA _ _) | exact ⟨by omega, by omega⟩) (by first | exact hs.zF _ | exact Zor_r _ _ | exact hs.zA _ _ | assumption | exact zA _ _ | exact zS _ | exact Zr_not (hs.zA _ _) | exact ⟨by omega, by omega⟩) (fun c2 => ?_) (fun c2 => ?_)
    · refine Z_go (f2 := (84, [(0, .ref 83), (1, .int (Zi p)), (2, .int (Zi q)), (3, .int (Zi to))], [.int (Zi 0)])) (fun _ => rfl) ?_
      refine Z_go (f2 := (86, [(4, .int (Zi 0)), (0, .ref 83), (1, .int (Zi p)), (2, .int (Zi q)), (3, .int (Zi to))], [])) (fun _ => rfl) ?_
      refine Z_go (f2 := (88, [(4, .int (Zi 0)), (0, .ref 83), (1, .int (Zi p)), (2, .int (Zi q)), (3, .int (Zi to))], [.int (Zi 0)])) (fun _ => rfl) ?_
      refine Z_ieq rfl rfl (by first | exact hs.zF _ | exact Zor_r _ _ | exact hs.zA _ _ | assumption | exact zA _ _ | exact zS _ | exact Zr_not (hs.zA _ _) | exact ⟨by omega, by omega⟩) (fun c3 => ?_) (fun c3 => ?_)
      · refine Z_go (f2 := (96, [(4, .int (Zi 0)), (0, .ref 83), (1, .int (Zi p)), (2, .int (Zi q)), (3, .int (Zi to))], [.int (Zi q)])) (fun _ => rfl) ?_
        refine Z_go (f2 := (98, [(5, .int (Zi q)), (4, .int (Zi 0)), (0, .ref 83), (1, .int (Zi p)), (2, .int (Zi q)), (3, .int (Zi to))], [])) (fun _ => rfl) ?_
        refine Z_go (f2 := (99, [(5, .int (Zi q)), (4, .int (Zi 0)), (0, .ref 83), (1, .int (Zi p)), (2, .int (Zi q)), (3, .int (Zi to))], [.ref 83])) (fun _ => rfl) ?_
        refine Z_go (f2 := (101, [(5, .int (Zi q)), (4, .int (Zi 0)), (0, .ref 83), (1, .int (Zi p)), (2, .int (Zi q)), (3, .int (Zi to))], [.int (Zi 0), .ref 83])) (fun _ => rfl) ?_
        refine Z_ieq rfl rfl (by first | exact hs.zF _ | exact Zor_r _ _ | exact hs.zA _ _ | assumption | exact zA _ _ | exact zS _ | exact Zr_not (hs.zA _ _) | exact ⟨by omega, by omega⟩) (fun c4 => ?_) (fun c4 => ?_)
        · refine Z_go (f2 := (109, [(5, .int (Zi q)), (4, .int (Zi 0)), (0, .ref 83), (1, .int (Zi p)), (2, .int (Zi q)), (3, .int (Zi to))], [.int (Zi p), .ref 83])) (fun _ => rfl) ?_
          refine R_call (As := [.int (Zi p)]) (rest := []) rfl (by decide) rfl rfl rfl rfl (by decide +kernel) (Nat.le_of_ble_eq_true rfl) hs (R_coreOf _ v (by first | assumption | exact hs.zF _ | exact hs.zA _ _ | exact ⟨by omega, by omega⟩ | omega) (by first | assumption | exact hs.zF _ | exact hs.zA _ _ | exact ⟨by omega, by omega⟩ | omega) (by first | assumption | exact hs.zF _ | exact hs.zA _ _ | exact ⟨by omega, by omega⟩ | omega) vp (by rw [v104]; exact hmany.1)) (fun x h z hs q => ?_)
          obtain ⟨rfl, z1, z2⟩ := q
          show B_R _ _ (112, [(5, .int (Zi q)), (4, .int (Zi 0)), (0, .ref 83), (1, .int (Zi p)), (2, .int (Zi q)), (3, .int (Zi to))], []) _ _ _
          refine Z_go (f2 := (113, [(5, .int (Zi q)), (4, .int (Zi 0)), (0, .ref 83), (1, .int (Zi p)), (2, .int (Zi q)), (3, .int (Zi to))], [.ref 83])) (fun _ => rfl) ?_
          refine Z_go (f2 := (114, [(5, .int (Zi q)), (4, .int (Zi 0)), (0, .ref 83), (1, .int (Zi p)), (2, .int (Zi q)), (3, .int (Zi to))], [.int (Zi 0), .ref 83])) (fun _ => rfl) ?_
          refine R_pf rfl hs rfl (by first | exact hs.zF _ | exact Zor_r _ _ | exact hs.zA _ _ | assumption | exact zA _ _ | exact zS _ | exact Zr_not (hs.zA _ _) | exact ⟨by omega, by omega⟩) ⟨rfl, rfl, rfl⟩ (fun h hs => ?_)
          refine Z_go (f2 := (118, [(5, .int (Zi q)), (4, .int (Zi 0)), (0, .ref 83), (1, .int (Zi p)), (2, .int (Zi q)), (3, .int (Zi to))], [.int (Zi 0)])) (fun _ => rfl) ?_
          refine Z_go (f2 := (120, [(6, .int (Zi 0)), (5, .int (Zi q)), (4, .int (Zi 0)), (0, .ref 83), (1, .int (Zi p)), (2, .int (Zi q)), (3, .int (Zi to))], [])) (fun _ => rfl) ?_
          refine B_loc (K := [(6, .int (Zi 0)), (5, .int (Zi q)), (0, .ref 83), (3, .int (Zi to))]) (N_all_sub ⟨rfl, rfl, rfl, rfl, trivial⟩) (show ([6, 5, 0, 3] : List Nat).Nodup by decide) ?_
          have ze := R_CC_wk z2 nq vq
          have zs : R_crow z 42 0 = F_core Cp := ((z1.2.2.2.2 _).mp rfl).elim (fun c hc => by
            have h42 := z1.card 1
            have : c = 0 := by
              have := h42.mp ⟨[F_core Cp], Nat.le_refl _, fun x hx => by rw [List.mem_singleton]; exact hx⟩
              omega
            rw [this] at hc
            exact hc.2.2.symm)
          have m42 : 1 ≤ z.2.1 104 42 := by
            obtain ⟨c, a, b, _⟩ := (z1.2.2.2.2 _).mp rfl
            omega
          have hcx : ∃ l, L_srt l ∧ ∀ x, x ∈ l ↔ ∀ c, Cp c → x ∈ c := vp.core (by rw [v104]; exact hmany.1)
          refine R_b1_lp (s := z) (to := to) q0 q1 ze.cv z1.cv m42 (fun c c0 c1 => ?_) (fun u2 h hs hu2 => ?_) ((z.2.1 104 q).toNat + 1) 0 _ h (by omega) hs (by rw [R_b1_0]; exact R_pst_0 z) (by omega) ze.1
          · rw [zs]
            have hx := (ze.2.2.2.2 _).mpr ⟨c, c0, c1, rfl⟩
            have hy := (vp.2.2.2.2 _).mpr ⟨0, Int.le_refl _, by rw [v104]; have := hmany.1; omega, rfl⟩
            have hsx := ze.srt hx
            have hsc : L_srt (F_core Cp) := by
              obtain ⟨l, l1, l2⟩ := hcx
              rw [F_core_eq l1 l2]
              exact l1
            refine Nat.le_trans (L_len_le (b := L_un (R_crow v p 0) (R_crow z q c)) (L_un_srt hsc) (fun x hx2 => ?_)) (hb _ _ hy hx)
            rw [L_un_mem] at hx2 ⊢
            exact hx2.symm.imp (fun h => F_core_le hcx hy x h) id
          rw [R_b1_un ze zs] at hu2
          refine Z_go (f2 := (150, [(0, .ref 83), (3, .int (Zi to))], [.ref 83])) (fun _ => rfl) ?_
          refine Z_go (f2 := (151, [(0, .ref 83), (3, .int (Zi to))], [.int (Zi to), .ref 83])) (fun _ => rfl) ?_
          refine R_call (As := [.int (Zi to)]) (rest := []) rfl (by decide) rfl rfl rfl rfl (by decide +kernel) (Nat.le_of_ble_eq_true rfl) hs (R_least _ u2 (by first | assumption | exact hs.zF _ | exact hs.zA _ _ | exact ⟨by omega, by omega⟩ | omega) t0 t1 hu2.2.2.2.2.1) (fun x h w hs q => ?_)
          obtain ⟨rfl, c1, c2⟩ := q
          rw [hu2.2.2.2.2.2] at c1
          show B_R _ _ (154, [(0, .ref 83), (3, .int (Zi to))], []) _ _ _
          refine Z_ret rfl rfl ⟨_, hs, ?_, rfl⟩
          refine ⟨rfl, ?_, ((wv.trans z2 (M := fun k => k = 42) (fun _ h => h) (fun _ h => h)).trans hu2.wk (M := fun k => k = 42) (fun _ h => h) (fun _ h => h.elim)).trans (R_wk_slf c2) (fun _ h => .inr h) (fun _ h => .inl h)⟩
          unfold F_both
          rw [c_neg (fun hh => by have := hcard.mp hh; omega)]
          rw [c_neg (fun hh => by have := (hp.le hq).mp hh; omega)]
          unfold F_least at c1
          rw [c_pos (by have := R_b1_card z q (k := z.2.1 104 q) ze.2.1; rw [R_b1_un ze zs] at this; exact this)] at c1
          have ec : F_un Cq (fun x => x = F_core Cp) = F_un (fun x => x = F_core Cp) Cq := by
            have hsc : L_srt (F_core Cp) := by
              obtain ⟨l, l1, l2⟩ := hcx
              rw [F_core_eq l1 l2]
              exact l1
            funext x
            refine propext ⟨?_, ?_⟩
            · rintro ⟨a, b, ha, hb2, hz⟩
              exact ⟨b, a, hb2, ha, by rw [hz]; exact L_un_comm (vq.srt ha) (by rw [hb2]; exact hsc)⟩
            · rintro ⟨a, b, ha, hb2, hz⟩
              exact ⟨b, a, hb2, ha, by rw [hz]; exact L_un_comm (by rw [ha]; exact hsc) (vq.srt hb2)⟩
          rw [ec] at c1
          exact c1
        · exfalso; omega
      · exfalso; omega
    · refine Z_go (f2 := (80, [(0, .ref 83), (1, .int (Zi p)), (2, .int (Zi q)), (3, .int (Zi to))], [.int (Zi 1)])) (fun _ => rfl) ?_
      refine Z_go (f2 := (84, [(0, .ref 83), (1, .int (Zi p)), (2, .int (Zi q)), (3, .int (Zi to))], [.int (Zi 1)])) (fun _ => rfl) ?_
      refine Z_go (f2 := (86, [(4, .int (Zi 1)), (0, .ref 83), (1, .int (Zi p)), (2, .int (Zi q)), (3, .int (Zi to))], [])) (fun _ => rfl) ?_
      refine Z_go (f2 := (88, [(4, .int (Zi 1)), (0, .ref 83), (1, .int (Zi p)), (2, .int (Zi q)), (3, .int (Zi to))], [.int (Zi 1)])) (fun _ => rfl) ?_
      refine Z_ieq rfl rfl (by first | exact hs.zF _ | exact Zor_r _ _ | exact hs.zA _ _ | assumption | exact zA _ _ | exact zS _ | exact Zr_not (hs.zA _ _) | exact ⟨by omega, by omega⟩) (fun c5 => ?_) (fun c5 => ?_)
      · exfalso; omega
      · refine Z_go (f2 := (92, [(4, .int (Zi 1)), (0, .ref 83), (1, .int (Zi p)), (2, .int (Zi q)), (3, .int (Zi to))], [.int (Zi p)])) (fun _ => rfl) ?_
        refine Z_go (f2 := (96, [(4, .int (Zi 1)), (0, .ref 83), (1, .int (Zi p)), (2, .int (Zi q)), (3, .int (Zi to))], [.int (Zi p)])) (fun _ => rfl) ?_
        refine Z_go (f2 := (98, [(5, .int (Zi p)), (4, .int (Zi 1)), (0, .ref 83), (1, .int (Zi p)), (2, .int (Zi q)), (3, .int (Zi to))], [])) (fun _ => rfl) ?_
        refine Z_go (f2 := (99, [(5, .int (Zi p)), (4, .int (Zi 1)), (0, .ref 83), (1, .int (Zi p)), (2, .int (Zi q)), (3, .int (Zi to))], [.ref 83])) (fun _ => rfl) ?_
        refine Z_go (f2 := (101, [(5, .int (Zi p)), (4, .int (Zi 1)), (0, .ref 83), (1, .int (Zi p)), (2, .int (Zi q)), (3, .int (Zi to))], [.int (Zi 1), .ref 83])) (fun _ => rfl) ?_
        refine Z_ieq rfl rfl (by first | exact hs.zF _ | exact Zor_r _ _ | exact hs.zA _ _ | assumption | exact zA _ _ | exact zS _ | exact Zr_not (hs.zA _ _) | exact ⟨by omega, by omega⟩) (fun c6 => ?_) (fun c6 => ?_)
        · exfalso; omega
        · refine Z_go (f2 := (105, [(5, .int (Zi p)), (4, .int (Zi 1)), (0, .ref 83), (1, .int (Zi p)), (2, .int (Zi q)), (3, .int (Zi to))], [.int (Zi q), .ref 83])) (fun _ => rfl) ?_
          refine Z_go (f2 := (109, [(5, .int (Zi p)), (4, .int (Zi 1)), (0, .ref 83), (1, .int (Zi p)), (2, .int (Zi q)), (3, .int (Zi to))], [.int (Zi q), .ref 83])) (fun _ => rfl) ?_
          refine R_call (As := [.int (Zi q)]) (rest := []) rfl (by decide) rfl rfl rfl rfl (by decide +kernel) (Nat.le_of_ble_eq_true rfl) hs (R_coreOf _ v (by first | assumption | exact hs.zF _ | exact hs.zA _ _ | exact ⟨by omega, by omega⟩ | omega) (by first | assumption | exact hs.zF _ | exact hs.zA _ _ | exact ⟨by omega, by omega⟩ | omega) (by first | assumption | exact hs.zF _ | exact hs.zA _ _ | exact ⟨by omega, by omega⟩ | omega) vq (by rw [v104]; exact hmany.2)) (fun x h z hs q => ?_)
          obtain ⟨rfl, z1, z2⟩ := q
          show B_R _ _ (112, [(5, .int (Zi p)), (4, .int (Zi 1)), (0, .ref 83), (1, .int (Zi p)), (2, .int (Zi q)), (3, .int (Zi to))], []) _ _ _
          refine Z_go (f2 := (113, [(5, .int (Zi p)), (4, .int (Zi 1)), (0, .ref 83), (1, .int (Zi p)), (2, .int (Zi q)), (3, .int (Zi to))], [.ref 83])) (fun _ => rfl) ?_
          refine Z_go (f2 := (114, [(5, .int (Zi p)), (4, .int (Zi 1)), (0, .ref 83), (1, .int (Zi p)), (2, .int (Zi q)), (3, .int (Zi to))], [.int (Zi 0), .ref 83])) (fun _ => rfl) ?_
          refine R_pf rfl hs rfl (by first | exact hs.zF _ | exact Zor_r _ _ | exact hs.zA _ _ | assumption | exact zA _ _ | exact zS _ | exact Zr_not (hs.zA _ _) | exact ⟨by omega, by omega⟩) ⟨rfl, rfl, rfl⟩ (fun h hs => ?_)
          refine Z_go (f2 := (118, [(5, .int (Zi p)), (4, .int (Zi 1)), (0, .ref 83), (1, .int (Zi p)), (2, .int (Zi q)), (3, .int (Zi to))], [.int (Zi 0)])) (fun _ => rfl) ?_
          refine Z_go (f2 := (120, [(6, .int (Zi 0)), (5, .int (Zi p)), (4, .int (Zi 1)), (0, .ref 83), (1, .int (Zi p)), (2, .int (Zi q)), (3, .int (Zi to))], [])) (fun _ => rfl) ?_
          refine B_loc (K := [(6, .int (Zi 0)), (5, .int (Zi p)), (0, .ref 83), (3, .int (Zi to))]) (N_all_sub ⟨rfl, rfl, rfl, rfl, trivial⟩) (show ([6, 5, 0, 3] : List Nat).Nodup by decide) ?_
          have ze := R_CC_wk z2 np vp
          have zs : R_crow z 42 0 = F_core Cq := ((z1.2.2.2.2 _).mp rfl).elim (fun c hc => by
            have h42 := z1.card 1
            have : c = 0 := by
              have := h42.mp ⟨[F_core Cq], Nat.le_refl _, fun x hx => by rw [List.mem_singleton]; exact hx⟩
              omega
            rw [this] at hc
            exact hc.2.2.symm)
          have m42 : 1 ≤ z.2.1 104 42 := by
            obtain ⟨c, a, b, _⟩ := (z1.2.2.2.2 _).mp rfl
            omega
          have hcx : ∃ l, L_srt l ∧ ∀ x, x ∈ l ↔ ∀ c, Cq c → x ∈ c := vq.core (by rw [v104]; exact hmany.2)
          refine R_b1_lp (s := z) (to := to) p0 p1 ze.cv z1.cv m42 (fun c c0 c1 => ?_) (fun u2 h hs hu2 => ?_) ((z.2.1 104 p).toNat + 1) 0 _ h (by omega) hs (by rw [R_b1_0]; exact R_pst_0 z) (by omega) ze.1
          · rw [zs]
            have hx := (ze.2.2.2.2 _).mpr ⟨c, c0, c1, rfl⟩
            have hy := (vq.2.2.2.2 _).mpr ⟨0, Int.le_refl _, by rw [v104]; have := hmany.2; omega, rfl⟩
            have hsx := ze.srt hx
            have hsc : L_srt (F_core Cq) := by
              obtain ⟨l, l1, l2⟩ := hcx
              rw [F_core_eq l1 l2]
              exact l1
            refine Nat.le_trans (L_len_le (b := L_un (R_crow z p c) (R_crow v q 0)) (L_un_srt hsc) (fun x hx2 => ?_)) (hb _ _ hx hy)
            rw [L_un_mem] at hx2 ⊢
            exact hx2.imp id (fun h => F_core_le hcx hy x h)
          rw [R_b1_un ze zs] at hu2
          refine Z_go (f2 := (150, [(0, .ref 83), (3, .int (Zi to))], [.ref 83])) (fun _ => rfl) ?_
          refine Z_go (f2 := (151, [(0, .ref 83), (3, .int (Zi to))], [.int (Zi to), .ref 83])) (fun _ => rfl) ?_
          refine R_call (As := [.int (Zi to)]) (rest := []) rfl (by decide) rfl rfl rfl rfl (by decide +kernel) (Nat.le_of_ble_eq_true rfl) hs (R_least _ u2 (by first | assumption | exact hs.zF _ | exact hs.zA _ _ | exact ⟨by omega, by omega⟩ | omega) t0 t1 hu2.2.2.2.2.1) (fun x h w hs q => ?_)
          obtain ⟨rfl, c1, c2⟩ := q
          rw [hu2.2.2.2.2.2] at c1
          show B_R _ _ (154, [(0, .ref 83), (3, .int (Zi to))], []) _ _ _
          refine Z_ret rfl rfl ⟨_, hs, ?_, rfl⟩
          refine ⟨rfl, ?_, ((wv.trans z2 (M := fun k => k = 42) (fun _ h => h) (fun _ h => h)).trans hu2.wk (M := fun k => k = 42) (fun _ h => h) (fun _ h => h.elim)).trans (R_wk_slf c2) (fun _ h => .inr h) (fun _ h => .inl h)⟩
          unfold F_both
          rw [c_neg (fun hh => by have := hcard.mp hh; omega)]
          rw [c_pos ((hp.le hq).mpr (by omega))]
          unfold F_least at c1
          rw [c_pos (by have := R_b1_card z p (k := z.2.1 104 p) ze.2.1; rw [R_b1_un ze zs] at this; exact this)] at c1
          exact c1
