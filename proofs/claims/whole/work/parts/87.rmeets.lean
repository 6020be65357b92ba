/-! the reference: meets -/
theorem X_dec_row {e : Int} (ve : X_v e) : D_row (fun c => if c = 0 then e / 256 % 256 else e % 256) (e / 65536) = X_dec e := by
  unfold X_v at ve
  unfold X_dec
  rcases ve with h | h | h
  · rw [if_pos (by omega), show e / 65536 = 0 by omega]
    rfl
  · rw [if_neg (by omega), if_pos (by omega), show e / 65536 = 1 by omega]
    rfl
  · rw [if_neg (by omega), if_neg (by omega), show e / 65536 = 2 by omega]
    rfl
theorem X_v.sz {e : Int} (ve : X_v e) : 0 ≤ e / 65536 ∧ e / 65536 ≤ 2 := by unfold X_v at ve; omega
def R_mg (a b c : Int) : Int := if c < a / 65536 then (if c = 0 then a / 256 % 256 else a % 256) else (if c = a / 65536 then b / 256 % 256 else b % 256)
theorem R_mg_row {a b : Int} (va : X_v a) (vb : X_v b) : D_row (R_mg a b) (a / 65536 + b / 65536) = X_dec a ++ X_dec b := by
  rw [D_row_app va.sz.1 vb.sz.1, ← X_dec_row va, ← X_dec_row vb]
  have sa := va.sz
  refine congr (congrArg _ (D_row_eq rfl (fun i i0 i1 => ?_))) (D_row_eq rfl (fun i i0 i1 => ?_))
  · unfold R_mg
    rw [if_pos i1]
  · show R_mg a b (a / 65536 + i) = _
    unfold R_mg
    rw [if_neg (by omega)]
    by_cases c : i = 0
    · rw [if_pos (by omega), if_pos c]
    · rw [if_neg (by omega), if_neg c]
theorem R_mg_b (a b c : Int) : 0 ≤ R_mg a b c ∧ R_mg a b c < 256 := by
  unfold R_mg
  split
  · split <;> omega
  · split <;> omega
def R_mp (s : R_S) (p q i j : Int) : P_X := fun x => ∃ c, 0 ≤ c ∧ c < j ∧ x = X_dec (s.2.1 103 (12 * p + i)) ++ X_dec (s.2.1 101 (12 * q + c))
def R_mq (s : R_S) (p q i : Int) : P_X := fun x => ∃ a, 0 ≤ a ∧ a < i ∧ R_mp s p q a (s.2.1 100 q) x
theorem R_mp_0 (s : R_S) (p q c : Int) : R_mp s p q c 0 = fun _ => False := funext (fun x => propext ⟨fun ⟨c, a, b, _⟩ => by omega, fun h => h.elim⟩)
theorem R_mq_0 (s : R_S) (p q : Int) : R_mq s p q 0 = fun _ => False := funext (fun x => propext ⟨fun ⟨c, a, b, _⟩ => by omega, fun h => h.elim⟩)
theorem R_mp_s (s : R_S) (p q i : Int) {k : Int} (k0 : 0 ≤ k) : F_or (R_mp s p q i k) (F_one (X_dec (s.2.1 103 (12 * p + i)) ++ X_dec (s.2.1 101 (12 * q + k)))) = R_mp s p q i (k + 1) := by
  funext x
  refine propext ⟨?_, ?_⟩
  · rintro (⟨c, a, b, h⟩ | h)
    · exact ⟨c, a, by omega, h⟩
    · exact ⟨k, k0, by omega, h⟩
  · rintro ⟨j, a, b, h⟩
    by_cases e : j = k
    · exact .inr (by rw [← e]; exact h)
    · exact .inl ⟨j, a, by omega, h⟩
theorem R_mq_s (s : R_S) (p q : Int) {k : Int} (k0 : 0 ≤ k) : F_or (R_mq s p q k) (R_mp s p q k (s.2.1 100 q)) = R_mq s p q (k + 1) := by
  funext x
  refine propext ⟨?_, ?_⟩
  · rintro (⟨c, a, b, h⟩ | h)
    · exact ⟨c, a, by omega, h⟩
    · exact ⟨k, k0, by omega, h⟩
  · rintro ⟨j, a, b, h⟩
    by_cases e : j = k
    · exact .inr (by rw [← e]; exact h)
    · exact .inl ⟨j, a, by omega, h⟩
theorem R_mq_im {s : R_S} {p q : Int} {T H : P_X} (hT : R_EN 102 s p T) (hH : R_EN 100 s q H) : F_im L_gr (R_mq s p q (s.2.1 102 p)) = F_im2 (fun t h => L_gr (t ++ h)) T H := by
  funext z
  refine propext ⟨?_, ?_⟩
  · rintro ⟨y, ⟨a, a0, a1, c, c0, c1, rfl⟩, h⟩
    exact ⟨_, _, (hT.2.2.2.2 _).mpr ⟨a, a0, a1, rfl⟩, (hH.2.2.2.2 _).mpr ⟨c, c0, c1, rfl⟩, h⟩
  · rintro ⟨x, y, hx, hy, h⟩
    obtain ⟨a, a0, a1, rfl⟩ := (hT.2.2.2.2 x).mp hx
    obtain ⟨c, c0, c1, rfl⟩ := (hH.2.2.2.2 y).mp hy
    exact ⟨_, ⟨a, a0, a1, c, c0, c1, rfl⟩, h⟩
theorem R_me_j {d : Nat} {h0 : E_H} {s : R_S} {sl : Nat} {Φ : E_R → Prop} {p q i N0 : Int} {P0 : P_X} {T H : P_X} (p0 : 0 ≤ p) (p1 : p < 44) (q0 : 0 ≤ q) (q1 : q < 44) (hT : R_EN 102 s p T) (hH : R_EN 100 s q H) (i0 : 0 ≤ i) (i1 : i < s.2.1 102 p) (n0 : 0 ≤ N0) (n1 : N0 + s.2.1 100 q < 160) (kont : ∀ (u : R_S) (h : E_H), R_is h0 h u → R_lgs s u (N0 + s.2.1 100 q) (F_or P0 (R_mp s p q i (s.2.1 100 q))) → B_R (d + 1) E_m244 (164, [(3, .int (Zi i)), (0, .ref 83), (1, .int (Zi p)), (2, .int (Zi q))], []) h sl Φ) : ∀ (t : Nat) (j : Int) (u : R_S) (h : E_H), s.2.1 100 q - j < t → R_is h0 h u → R_lgs s u (N0 + j) (F_or P0 (R_mp s p q i j)) → 0 ≤ j → j ≤ s.2.1 100 q → B_R (d + 1) E_m244 (20, [(4, .int (Zi j)), (3, .int (Zi i)), (0, .ref 83), (1, .int (Zi p)), (2, .int (Zi q))], []) h sl Φ := by
  intro t
  induction t with
  | zero => intro j u h ht hs hu j0 j1; omega
  | succ t ih =>
    intro j u h ht hs hu j0 j1
    have f100 : u.2.1 100 q = s.2.1 100 q := hu.2.1 100 q (by decide) (by decide)
    have f103 : u.2.1 103 (12 * p + i) = s.2.1 103 (12 * p + i) := hu.2.1 103 _ (by decide) (by decide)
    have f101 : u.2.1 101 (12 * q + j) = s.2.1 101 (12 * q + j) := hu.2.1 101 _ (by decide) (by decide)
    have e43 := hu.2.2.2.1
    have v1 : X_v (u.2.1 103 (12 * p + i)) := by rw [f103]; exact hT.2.2.1 i i0 i1
    have s1 := v1.sz
    have zA : ∀ q j, Zr (u.2.1 q j) := fun q j => hs.zA q j
    have t12 := hT.2.1
    have h12 := hH.2.1
    refine Z_go (f2 := (22, [(4, .int (Zi j)), (3, .int (Zi i)), (0, .ref 83), (1, .int (Zi p)), (2, .int (Zi q))], [.int (Zi j)])) (fun _ => rfl) ?_
    refine Z_go (f2 := (23, [(4, .int (Zi j)), (3, .int (Zi i)), (0, .ref 83), (1, .int (Zi p)), (2, .int (Zi q))], [.ref 83, .int (Zi j)])) (fun _ => rfl) ?_
    refine R_gr (q := 98) rfl hs rfl ?_
    show B_R _ _ (26, [(4, .int (Zi j)), (3, .int (Zi i)), (0, .ref 83), (1, .int (Zi p)), (2, .int (Zi q))], [.ref 100, .int (Zi j)]) _ _ _
    refine Z_go (f2 := (27, [(4, .int (Zi j)), (3, .int (Zi i)), (0, .ref 83), (1, .int (Zi p)), (2, .int (Zi q))], [.int (Zi q), .ref 100, .int (Zi j)])) (fun _ => rfl) ?_
    refine R_ia (q := 16) rfl hs rfl rfl (by omega) (by omega) (by decide) ?_
    refine Z_cge rfl rfl (by first | exact hs.zF _ | exact Zor_r _ _ | exact hs.zA _ _ | assumption | exact zA _ _ | exact zS _ | exact Zr_not (hs.zA _ _) | exact ⟨by omega, by omega⟩) (by first | exact hs.zF _ | exact Zor_r _ _ | exact hs.zA _ _ | assumption | exact zA _ _ | exact zS _ | exact Zr_not (hs.zA _ _) | exact ⟨by omega, by omega⟩) (fun c1 => ?_) (fun c1 => ?_)
    · refine B_loc (K := [(3, .int (Zi i)), (0, .ref 83), (1, .int (Zi p)), (2, .int (Zi q))]) (N_all_sub ⟨rfl, rfl, rfl, rfl, trivial⟩) (show ([3, 0, 1, 2] : List Nat).Nodup by decide) ?_
      obtain rfl : j = s.2.1 100 q := by omega
      exact kont u h hs hu
    · refine Z_go (f2 := (32, [(4, .int (Zi j)), (3, .int (Zi i)), (0, .ref 83), (1, .int (Zi p)), (2, .int (Zi q))], [.int (Zi 0)])) (fun _ => rfl) ?_
      refine Z_go (f2 := (34, [(5, .int (Zi 0)), (4, .int (Zi j)), (3, .int (Zi i)), (0, .ref 83), (1, .int (Zi p)), (2, .int (Zi q))], [])) (fun _ => rfl) ?_
      refine Z_go (f2 := (35, [(5, .int (Zi 0)), (4, .int (Zi j)), (3, .int (Zi i)), (0, .ref 83), (1, .int (Zi p)), (2, .int (Zi q))], [.int (Zi 0)])) (fun _ => rfl) ?_
      refine Z_go (f2 := (37, [(6, .int (Zi 0)), (5, .int (Zi 0)), (4, .int (Zi j)), (3, .int (Zi i)), (0, .ref 83), (1, .int (Zi p)), (2, .int (Zi q))], [])) (fun _ => rfl) ?_
      refine Z_go (f2 := (39, [(6, .int (Zi 0)), (5, .int (Zi 0)), (4, .int (Zi j)), (3, .int (Zi i)), (0, .ref 83), (1, .int (Zi p)), (2, .int (Zi q))], [.int (Zi 0)])) (fun _ => rfl) ?_
      refine Z_go (f2 := (40, [(6, .int (Zi 0)), (5, .int (Zi 0)), (4, .int (Zi j)), (3, .int (Zi i)), (0, .ref 83), (1, .int (Zi p)), (2, .int (Zi q))], [.int (Zi 2), .int (Zi 0)])) (fun _ => rfl) ?_
      refine Z_cge rfl rfl (by first | exact hs.zF _ | exact Zor_r _ _ | exact hs.zA _ _ | assumption | exact zA _ _ | exact zS _ | exact Zr_not (hs.zA _ _) | exact ⟨by omega, by omega⟩) (by first | exact hs.zF _ | exact Zor_r _ _ | exact hs.zA _ _ | assumption | exact zA _ _ | exact zS _ | exact Zr_not (hs.zA _ _) | exact ⟨by omega, by omega⟩) (fun c2 => ?_) (fun c2 => ?_)
      · exfalso; omega
      · refine Z_go (f2 := (45, [(6, .int (Zi 0)), (5, .int (Zi 0)), (4, .int (Zi j)), (3, .int (Zi i)), (0, .ref 83), (1, .int (Zi p)), (2, .int (Zi q))], [.int (Zi 0)])) (fun _ => rfl) ?_
        refine Z_ine rfl rfl (by first | exact hs.zF _ | exact Zor_r _ _ | exact hs.zA _ _ | assumption | exact zA _ _ | exact zS _ | exact Zr_not (hs.zA _ _) | exact ⟨by omega, by omega⟩) (fun c3 => ?_) (fun c3 => ?_)
        · exfalso; omega
        · refine Z_go (f2 := (49, [(6, .int (Zi 0)), (5, .int (Zi 0)), (4, .int (Zi j)), (3, .int (Zi i)), (0, .ref 83), (1, .int (Zi p)), (2, .int (Zi q))], [.ref 83])) (fun _ => rfl) ?_
          refine R_gr (q := 101) rfl hs rfl ?_
          show B_R _ _ (52, [(6, .int (Zi 0)), (5, .int (Zi 0)), (4, .int (Zi j)), (3, .int (Zi i)), (0, .ref 83), (1, .int (Zi p)), (2, .int (Zi q))], [.ref 103]) _ _ _
          refine Z_go (f2 := (54, [(6, .int (Zi 0)), (5, .int (Zi 0)), (4, .int (Zi j)), (3, .int (Zi i)), (0, .ref 83), (1, .int (Zi p)), (2, .int (Zi q))], [.int (Zi 12), .ref 103])) (fun _ => rfl) ?_
          refine Z_go (f2 := (55, [(6, .int (Zi 0)), (5, .int (Zi 0)), (4, .int (Zi j)), (3, .int (Zi i)), (0, .ref 83), (1, .int (Zi p)), (2, .int (Zi q))], [.int (Zi p), .int (Zi 12), .ref 103])) (fun _ => rfl) ?_
          refine Z_imul rfl ?_
          refine Z_go (f2 := (57, [(6, .int (Zi 0)), (5, .int (Zi 0)), (4, .int (Zi j)), (3, .int (Zi i)), (0, .ref 83), (1, .int (Zi p)), (2, .int (Zi q))], [.int (Zi i), .int (Zi (12 * p)), .ref 103])) (fun _ => rfl) ?_
          refine Z_iadd rfl ?_
          refine R_ia (q := 19) rfl hs rfl rfl (by omega) (by omega) (by decide) ?_
          refine Z_go (f2 := (74, [(6, .int (Zi 0)), (5, .int (Zi 0)), (4, .int (Zi j)), (3, .int (Zi i)), (0, .ref 83), (1, .int (Zi p)), (2, .int (Zi q))], [.int (Zi (u.2.1 103 (12 * p + i)))])) (fun _ => rfl) ?_
          refine Z_go (f2 := (76, [(7, .int (Zi (u.2.1 103 (12 * p + i)))), (6, .int (Zi 0)), (5, .int (Zi 0)), (4, .int (Zi j)), (3, .int (Zi i)), (0, .ref 83), (1, .int (Zi p)), (2, .int (Zi q))], [])) (fun _ => rfl) ?_
          refine Z_go (f2 := (77, [(7, .int (Zi (u.2.1 103 (12 * p + i)))), (6, .int (Zi 0)), (5, .int (Zi 0)), (4, .int (Zi j)), (3, .int (Zi i)), (0, .ref 83), (1, .int (Zi p)), (2, .int (Zi q))], [.int (Zi 0)])) (fun _ => rfl) ?_
          refine Z_go (f2 := (79, [(8, .int (Zi 0)), (7, .int (Zi (u.2.1 103 (12 * p + i)))), (6, .int (Zi 0)), (5, .int (Zi 0)), (4, .int (Zi j)), (3, .int (Zi i)), (0, .ref 83), (1, .int (Zi p)), (2, .int (Zi q))], [])) (fun _ => rfl) ?_
          refine B_loc (K := [(8, .int (Zi 0)), (7, .int (Zi (u.2.1 103 (12 * p + i)))), (6, .int (Zi 0)), (5, .int (Zi 0)), (4, .int (Zi j)), (3, .int (Zi i)), (0, .ref 83), (1, .int (Zi p)), (2, .int (Zi q))]) (N_all_sub ⟨rfl, rfl, rfl, rfl, rfl, rfl, rfl, rfl, rfl, trivial⟩) (show ([8, 7, 6, 5, 4, 3, 0, 1, 2] : List Nat).Nodup by decide) ?_
          refine R_me_x (s := u) (n := 0) (e := u.2.1 103 (12 * p + i)) v1 (by omega) (by omega) (by omega) (by omega) (fun h hs => ?_) ((u.2.1 103 (12 * p + i) / 65536).toNat + 1) 0 0 h (by omega) (by omega) (by rw [show 60 * u.1 43 + 0 + 0 = 60 * u.1 43 + 0 from Int.add_zero _, R_fl_0]; exact hs) (by omega) (by omega)
          refine Z_iinc (L2 := [(6, .int (Zi (0 + 1))), (8, .int (Zi (u.2.1 103 (12 * p + i) / 65536))), (7, .int (Zi (u.2.1 103 (12 * p + i)))), (5, .int (Zi (0 + u.2.1 103 (12 * p + i) / 65536))), (4, .int (Zi j)), (3, .int (Zi i)), (0, .ref 83), (1, .int (Zi p)), (2, .int (Zi q))]) rfl rfl (by decide) rfl ?_
          refine Z_go (f2 := (37, [(6, .int (Zi (0 + 1))), (8, .int (Zi (u.2.1 103 (12 * p + i) / 65536))), (7, .int (Zi (u.2.1 103 (12 * p + i)))), (5, .int (Zi (0 + u.2.1 103 (12 * p + i) / 65536))), (4, .int (Zi j)), (3, .int (Zi i)), (0, .ref 83), (1, .int (Zi p)), (2, .int (Zi q))], [])) (fun _ => rfl) ?_
          refine B_loc (K := [(6, .int (Zi 1)), (5, .int (Zi (0 + u.2.1 103 (12 * p + i) / 65536))), (4, .int (Zi j)), (3, .int (Zi i)), (0, .ref 83), (1, .int (Zi p)), (2, .int (Zi q))]) (N_all_sub ⟨rfl, rfl, rfl, rfl, rfl, rfl, rfl, trivial⟩) (show ([6, 5, 4, 3, 0, 1, 2] : List Nat).Nodup by decide) ?_
          have v2 : X_v (u.2.1 101 (12 * q + j)) := by rw [f101]; exact hH.2.2.1 j j0 (by omega)
          have s2 := v2.sz
          refine Z_go (f2 := (39, [(6, .int (Zi 1)), (5, .int (Zi (0 + u.2.1 103 (12 * p + i) / 65536))), (4, .int (Zi j)), (3, .int (Zi i)), (0, .ref 83), (1, .int (Zi p)), (2, .int (Zi q))], [.int (Zi 1)])) (fun _ => rfl) ?_
          refine Z_go (f2 := (40, [(6, .int (Zi 1)), (5, .int (Zi (0 + u.2.1 103 (12 * p + i) / 65536))), (4, .int (Zi j)), (3, .int (Zi i)), (0, .ref 83), (1, .int (Zi p)), (2, .int (Zi q))], [.int (Zi 2), .int (Zi 1)])) (fun _ => rfl) ?_
          refine Z_cge rfl rfl (by first | exact hs.zF _ | exact Zor_r _ _ | exact hs.zA _ _ | assumption | exact zA _ _ | exact zS _ | exact Zr_not (hs.zA _ _) | exact ⟨by omega, by omega⟩) (by first | exact hs.zF _ | exact Zor_r _ _ | exact hs.zA _ _ | assumption | exact zA _ _ | exact zS _ | exact Zr_not (hs.zA _ _) | exact ⟨by omega, by omega⟩) (fun c1 => ?_) (fun c1 => ?_)
          · exfalso; omega
          · refine Z_go (f2 := (45, [(6, .int (Zi 1)), (5, .int (Zi (0 + u.2.1 103 (12 * p + i) / 65536))), (4, .int (Zi j)), (3, .int (Zi i)), (0, .ref 83), (1, .int (Zi p)), (2, .int (Zi q))], [.int (Zi 1)])) (fun _ => rfl) ?_
            refine Z_ine rfl rfl (by first | exact hs.zF _ | exact Zor_r _ _ | exact hs.zA _ _ | assumption | exact zA _ _ | exact zS _ | exact Zr_not (hs.zA _ _) | exact ⟨by omega, by omega⟩) (fun c2 => ?_) (fun c2 => ?_)
            · refine Z_go (f2 := (63, [(6, .int (Zi 1)), (5, .int (Zi (0 + u.2.1 103 (12 * p + i) / 65536))), (4, .int (Zi j)), (3, .int (Zi i)), (0, .ref 83), (1, .int (Zi p)), (2, .int (Zi q))], [.ref 83])) (fun _ => rfl) ?_
              refine R_gr (q := 99) rfl hs rfl ?_
              show B_R _ _ (66, [(6, .int (Zi 1)), (5, .int (Zi (0 + u.2.1 103 (12 * p + i) / 65536))), (4, .int (Zi j)), (3, .int (Zi i)), (0, .ref 83), (1, .int (Zi p)), (2, .int (Zi q))], [.ref 101]) _ _ _
              refine Z_go (f2 := (68, [(6, .int (Zi 1)), (5, .int (Zi (0 + u.2.1 103 (12 * p + i) / 65536))), (4, .int (Zi j)), (3, .int (Zi i)), (0, .ref 83), (1, .int (Zi p)), (2, .int (Zi q))], [.int (Zi 12), .ref 101])) (fun _ => rfl) ?_
              refine Z_go (f2 := (69, [(6, .int (Zi 1)), (5, .int (Zi (0 + u.2.1 103 (12 * p + i) / 65536))), (4, .int (Zi j)), (3, .int (Zi i)), (0, .ref 83), (1, .int (Zi p)), (2, .int (Zi q))], [.int (Zi q), .int (Zi 12), .ref 101])) (fun _ => rfl) ?_
              refine Z_imul rfl ?_
              refine Z_go (f2 := (72, [(6, .int (Zi 1)), (5, .int (Zi (0 + u.2.1 103 (12 * p + i) / 65536))), (4, .int (Zi j)), (3, .int (Zi i)), (0, .ref 83), (1, .int (Zi p)), (2, .int (Zi q))], [.int (Zi j), .int (Zi (12 * q)), .ref 101])) (fun _ => rfl) ?_
              refine Z_iadd rfl ?_
              refine R_ia (q := 17) rfl hs rfl rfl (by omega) (by omega) (by decide) ?_
              rw [show (R_fl u 112 (60 * u.1 43 + 0) (60 * u.1 43 + 0 + u.2.1 103 (12 * p + i) / 65536) (fun c => if c = 60 * u.1 43 + 0 then (u.2.1 103 (12 * p + i)) / 256 % 256 else (u.2.1 103 (12 * p + i)) % 256)).2.1 101 (12 * q + j) = u.2.1 101 (12 * q + j) by first | rfl | simp [R_sA, R_sF, R_up2, R_fl, R_fL, R_sM, R_sL, R_p3, R_em]]; show B_R _ _ (74, [(6, .int (Zi 1)), (5, .int (Zi (0 + u.2.1 103 (12 * p + i) / 65536))), (4, .int (Zi j)), (3, .int (Zi i)), (0, .ref 83), (1, .int (Zi p)), (2, .int (Zi q))], [.int (Zi (u.2.1 101 (12 * q + j)))]) _ _ _
              refine Z_go (f2 := (76, [(7, .int (Zi (u.2.1 101 (12 * q + j)))), (6, .int (Zi 1)), (5, .int (Zi (0 + u.2.1 103 (12 * p + i) / 65536))), (4, .int (Zi j)), (3, .int (Zi i)), (0, .ref 83), (1, .int (Zi p)), (2, .int (Zi q))], [])) (fun _ => rfl) ?_
              refine Z_go (f2 := (77, [(7, .int (Zi (u.2.1 101 (12 * q + j)))), (6, .int (Zi 1)), (5, .int (Zi (0 + u.2.1 103 (12 * p + i) / 65536))), (4, .int (Zi j)), (3, .int (Zi i)), (0, .ref 83), (1, .int (Zi p)), (2, .int (Zi q))], [.int (Zi 0)])) (fun _ => rfl) ?_
              refine Z_go (f2 := (79, [(8, .int (Zi 0)), (7, .int (Zi (u.2.1 101 (12 * q + j)))), (6, .int (Zi 1)), (5, .int (Zi (0 + u.2.1 103 (12 * p + i) / 65536))), (4, .int (Zi j)), (3, .int (Zi i)), (0, .ref 83), (1, .int (Zi p)), (2, .int (Zi q))], [])) (fun _ => rfl) ?_
              refine B_loc (K := [(8, .int (Zi 0)), (7, .int (Zi (u.2.1 101 (12 * q + j)))), (6, .int (Zi 1)), (5, .int (Zi (0 + u.2.1 103 (12 * p + i) / 65536))), (4, .int (Zi j)), (3, .int (Zi i)), (0, .ref 83), (1, .int (Zi p)), (2, .int (Zi q))]) (N_all_sub ⟨rfl, rfl, rfl, rfl, rfl, rfl, rfl, rfl, rfl, trivial⟩) (show ([8, 7, 6, 5, 4, 3, 0, 1, 2] : List Nat).Nodup by decide) ?_
              refine R_me_x (s := R_fl u 112 (60 * u.1 43 + 0) (60 * u.1 43 + 0 + u.2.1 103 (12 * p + i) / 65536) (fun c => if c = 60 * u.1 43 + 0 then (u.2.1 103 (12 * p + i)) / 256 % 256 else (u.2.1 103 (12 * p + i)) % 256)) (n := u.2.1 103 (12 * p + i) / 65536) (e := u.2.1 101 (12 * q + j)) v2 (by omega) (by omega) (show 0 ≤ u.1 43 by omega) (show u.1 43 < 160 by omega) (fun h hs => ?_) ((u.2.1 101 (12 * q + j) / 65536).toNat + 1) 0 (0 + u.2.1 103 (12 * p + i) / 65536) h (by omega) (by omega) (by rw [Int.add_zero (_ + _), R_fl_0]; exact hs) (by omega) (by omega)
              have hs : R_is h0 h (R_fl (R_fl u 112 (60 * u.1 43 + 0) (60 * u.1 43 + 0 + u.2.1 103 (12 * p + i) / 65536) (fun c => if c = 60 * u.1 43 + 0 then (u.2.1 103 (12 * p + i)) / 256 % 256 else (u.2.1 103 (12 * p + i)) % 256)) 112 (60 * u.1 43 + u.2.1 103 (12 * p + i) / 65536) (60 * u.1 43 + u.2.1 103 (12 * p + i) / 65536 + u.2.1 101 (12 * q + j) / 65536) (fun c => if c = 60 * u.1 43 + u.2.1 103 (12 * p + i) / 65536 then (u.2.1 101 (12 * q + j)) / 256 % 256 else (u.2.1 101 (12 * q + j)) % 256)) := hs
              refine Z_iinc (L2 := [(6, .int (Zi (1 + 1))), (8, .int (Zi (u.2.1 101 (12 * q + j) / 65536))), (7, .int (Zi (u.2.1 101 (12 * q + j)))), (5, .int (Zi (u.2.1 103 (12 * p + i) / 65536 + u.2.1 101 (12 * q + j) / 65536))), (4, .int (Zi j)), (3, .int (Zi i)), (0, .ref 83), (1, .int (Zi p)), (2, .int (Zi q))]) rfl rfl (by decide) rfl ?_
              refine Z_go (f2 := (37, [(6, .int (Zi (1 + 1))), (8, .int (Zi (u.2.1 101 (12 * q + j) / 65536))), (7, .int (Zi (u.2.1 101 (12 * q + j)))), (5, .int (Zi (u.2.1 103 (12 * p + i) / 65536 + u.2.1 101 (12 * q + j) / 65536))), (4, .int (Zi j)), (3, .int (Zi i)), (0, .ref 83), (1, .int (Zi p)), (2, .int (Zi q))], [])) (fun _ => rfl) ?_
              refine B_loc (K := [(6, .int (Zi 2)), (5, .int (Zi (u.2.1 103 (12 * p + i) / 65536 + u.2.1 101 (12 * q + j) / 65536))), (4, .int (Zi j)), (3, .int (Zi i)), (0, .ref 83), (1, .int (Zi p)), (2, .int (Zi q))]) (N_all_sub ⟨rfl, rfl, rfl, rfl, rfl, rfl, rfl, trivial⟩) (show ([6, 5, 4, 3, 0, 1, 2] : List Nat).Nodup by decide) ?_
              refine Z_go (f2 := (39, [(6, .int (Zi 2)), (5, .int (Zi (u.2.1 103 (12 * p + i) / 65536 + u.2.1 101 (12 * q + j) / 65536))), (4, .int (Zi j)), (3, .int (Zi i)), (0, .ref 83), (1, .int (Zi p)), (2, .int (Zi q))], [.int (Zi 2)])) (fun _ => rfl) ?_
              refine Z_go (f2 := (40, [(6, .int (Zi 2)), (5, .int (Zi (u.2.1 103 (12 * p + i) / 65536 + u.2.1 101 (12 * q + j) / 65536))), (4, .int (Zi j)), (3, .int (Zi i)), (0, .ref 83), (1, .int (Zi p)), (2, .int (Zi q))], [.int (Zi 2), .int (Zi 2)])) (fun _ => rfl) ?_
              refine Z_cge rfl rfl (by first | exact hs.zF _ | exact Zor_r _ _ | exact hs.zA _ _ | assumption | exact zA _ _ | exact zS _ | exact Zr_not (hs.zA _ _) | exact ⟨by omega, by omega⟩) (by first | exact hs.zF _ | exact Zor_r _ _ | exact hs.zA _ _ | assumption | exact zA _ _ | exact zS _ | exact Zr_not (hs.zA _ _) | exact ⟨by omega, by omega⟩) (fun c1 => ?_) (fun c1 => ?_)
              · refine Z_go (f2 := (138, [(6, .int (Zi 2)), (5, .int (Zi (u.2.1 103 (12 * p + i) / 65536 + u.2.1 101 (12 * q + j) / 65536))), (4, .int (Zi j)), (3, .int (Zi i)), (0, .ref 83), (1, .int (Zi p)), (2, .int (Zi q))], [.ref 83])) (fun _ => rfl) ?_
                refine R_gr (q := 109) rfl hs rfl ?_
                show B_R _ _ (141, [(6, .int (Zi 2)), (5, .int (Zi (u.2.1 103 (12 * p + i) / 65536 + u.2.1 101 (12 * q + j) / 65536))), (4, .int (Zi j)), (3, .int (Zi i)), (0, .ref 83), (1, .int (Zi p)), (2, .int (Zi q))], [.ref 111]) _ _ _
                refine Z_go (f2 := (142, [(6, .int (Zi 2)), (5, .int (Zi (u.2.1 103 (12 * p + i) / 65536 + u.2.1 101 (12 * q + j) / 65536))), (4, .int (Zi j)), (3, .int (Zi i)), (0, .ref 83), (1, .int (Zi p)), (2, .int (Zi q))], [.ref 83, .ref 111])) (fun _ => rfl) ?_
                refine R_gi rfl hs rfl ?_
                show B_R _ _ (145, [(6, .int (Zi 2)), (5, .int (Zi (u.2.1 103 (12 * p + i) / 65536 + u.2.1 101 (12 * q + j) / 65536))), (4, .int (Zi j)), (3, .int (Zi i)), (0, .ref 83), (1, .int (Zi p)), (2, .int (Zi q))], [.int (Zi (u.1 43)), .ref 111]) _ _ _
                refine Z_go (f2 := (147, [(6, .int (Zi 2)), (5, .int (Zi (u.2.1 103 (12 * p + i) / 65536 + u.2.1 101 (12 * q + j) / 65536))), (4, .int (Zi j)), (3, .int (Zi i)), (0, .ref 83), (1, .int (Zi p)), (2, .int (Zi q))], [.int (Zi (u.2.1 103 (12 * p + i) / 65536 + u.2.1 101 (12 * q + j) / 65536)), .int (Zi (u.1 43)), .ref 111])) (fun _ => rfl) ?_
                refine R_is_ (q := 27) rfl hs rfl rfl (by omega) (by omega) (by decide) (by first | exact hs.zF _ | exact Zor_r _ _ | exact hs.zA _ _ | assumption | exact zA _ _ | exact zS _ | exact Zr_not (hs.zA _ _) | exact ⟨by omega, by omega⟩) (fun h hs => ?_)
                refine Z_go (f2 := (149, [(6, .int (Zi 2)), (5, .int (Zi (u.2.1 103 (12 * p + i) / 65536 + u.2.1 101 (12 * q + j) / 65536))), (4, .int (Zi j)), (3, .int (Zi i)), (0, .ref 83), (1, .int (Zi p)), (2, .int (Zi q))], [.ref 83])) (fun _ => rfl) ?_
                refine Z_go (f2 := (150, [(6, .int (Zi 2)), (5, .int (Zi (u.2.1 103 (12 * p + i) / 65536 + u.2.1 101 (12 * q + j) / 65536))), (4, .int (Zi j)), (3, .int (Zi i)), (0, .ref 83), (1, .int (Zi p)), (2, .int (Zi q))], [.ref 83, .ref 83])) (fun _ => rfl) ?_
                refine R_gi rfl hs rfl ?_
                show B_R _ _ (153, [(6, .int (Zi 2)), (5, .int (Zi (u.2.1 103 (12 * p + i) / 65536 + u.2.1 101 (12 * q + j) / 65536))), (4, .int (Zi j)), (3, .int (Zi i)), (0, .ref 83), (1, .int (Zi p)), (2, .int (Zi q))], [.int (Zi (u.1 43)), .ref 83]) _ _ _
                refine Z_go (f2 := (154, [(6, .int (Zi 2)), (5, .int (Zi (u.2.1 103 (12 * p + i) / 65536 + u.2.1 101 (12 * q + j) / 65536))), (4, .int (Zi j)), (3, .int (Zi i)), (0, .ref 83), (1, .int (Zi p)), (2, .int (Zi q))], [.int (Zi 1), .int (Zi (u.1 43)), .ref 83])) (fun _ => rfl) ?_
                refine Z_iadd rfl ?_
                refine R_pf rfl hs rfl (by first | exact hs.zF _ | exact Zor_r _ _ | exact hs.zA _ _ | assumption | exact zA _ _ | exact zS _ | exact Zr_not (hs.zA _ _) | exact ⟨by omega, by omega⟩) ⟨rfl, rfl, rfl⟩ (fun h hs => ?_)
                refine Z_iinc (L2 := [(4, .int (Zi (j + 1))), (6, .int (Zi 2)), (5, .int (Zi (u.2.1 103 (12 * p + i) / 65536 + u.2.1 101 (12 * q + j) / 65536))), (3, .int (Zi i)), (0, .ref 83), (1, .int (Zi p)), (2, .int (Zi q))]) rfl rfl (by decide) rfl ?_
                refine Z_goto (p2 := 20) rfl (by decide +kernel) (by decide +kernel) ?_
                refine B_loc (K := [(4, .int (Zi (j + 1))), (3, .int (Zi i)), (0, .ref 83), (1, .int (Zi p)), (2, .int (Zi q))]) (N_all_sub ⟨rfl, rfl, rfl, rfl, rfl, trivial⟩) (show ([4, 3, 0, 1, 2] : List Nat).Nodup by decide) ?_
                have hw := hu.add (n := u.2.1 103 (12 * p + i) / 65536 + u.2.1 101 (12 * q + j) / 65536) (g := R_mg (u.2.1 103 (12 * p + i)) (u.2.1 101 (12 * q + j))) (w := R_sF (R_sA (R_fl (R_fl u 112 (60 * u.1 43 + 0) (60 * u.1 43 + 0 + u.2.1 103 (12 * p + i) / 65536) (fun c => if c = 60 * u.1 43 + 0 then (u.2.1 103 (12 * p + i)) / 256 % 256 else (u.2.1 103 (12 * p + i)) % 256)) 112 (60 * u.1 43 + u.2.1 103 (12 * p + i) / 65536) (60 * u.1 43 + u.2.1 103 (12 * p + i) / 65536 + u.2.1 101 (12 * q + j) / 65536) (fun c => if c = 60 * u.1 43 + u.2.1 103 (12 * p + i) / 65536 then (u.2.1 101 (12 * q + j)) / 256 % 256 else (u.2.1 101 (12 * q + j)) % 256)) 111 (u.1 43) (u.2.1 103 (12 * p + i) / 65536 + u.2.1 101 (12 * q + j) / 65536)) 43 (u.1 43 + 1)) (by omega) (fun b hb => R_sF_n _ _ hb) (fun q j h7 h8 => by rw [R_sF_a, R_sA_n _ _ _ _ h7, R_fl_n h8, R_fl_n h8]) rfl (by rw [R_sF_s, e43]) (fun j hj => by rw [R_sF_a, R_sA_m _ _ _ _ (by omega), R_fl_n (by decide), R_fl_n (by decide)]) (by rw [R_sF_a, ← e43, R_sA_s]) (fun j hj => by rw [R_sF_a, R_sA_n _ _ _ _ (by decide), R_fl_o (by omega), R_fl_o (by omega)]) (fun c c0 c1 => ?_) (by omega) (by omega) (fun c _ _ => R_mg_b _ _ c)
                have key : ∃ w, w = R_sF (R_sA (R_fl (R_fl u 112 (60 * u.1 43 + 0) (60 * u.1 43 + 0 + u.2.1 103 (12 * p + i) / 65536) (fun c => if c = 60 * u.1 43 + 0 then (u.2.1 103 (12 * p + i)) / 256 % 256 else (u.2.1 103 (12 * p + i)) % 256)) 112 (60 * u.1 43 + u.2.1 103 (12 * p + i) / 65536) (60 * u.1 43 + u.2.1 103 (12 * p + i) / 65536 + u.2.1 101 (12 * q + j) / 65536) (fun c => if c = 60 * u.1 43 + u.2.1 103 (12 * p + i) / 65536 then (u.2.1 101 (12 * q + j)) / 256 % 256 else (u.2.1 101 (12 * q + j)) % 256)) 111 (u.1 43) (u.2.1 103 (12 * p + i) / 65536 + u.2.1 101 (12 * q + j) / 65536)) 43 (u.1 43 + 1) := ⟨_, rfl⟩
                obtain ⟨w, hwd⟩ := key
                have hs : R_is h0 h (R_sF (R_sA (R_fl (R_fl u 112 (60 * u.1 43 + 0) (60 * u.1 43 + 0 + u.2.1 103 (12 * p + i) / 65536) (fun c => if c = 60 * u.1 43 + 0 then (u.2.1 103 (12 * p + i)) / 256 % 256 else (u.2.1 103 (12 * p + i)) % 256)) 112 (60 * u.1 43 + u.2.1 103 (12 * p + i) / 65536) (60 * u.1 43 + u.2.1 103 (12 * p + i) / 65536 + u.2.1 101 (12 * q + j) / 65536) (fun c => if c = 60 * u.1 43 + u.2.1 103 (12 * p + i) / 65536 then (u.2.1 101 (12 * q + j)) / 256 % 256 else (u.2.1 101 (12 * q + j)) % 256)) 111 (u.1 43) (u.2.1 103 (12 * p + i) / 65536 + u.2.1 101 (12 * q + j) / 65536)) 43 (u.1 43 + 1)) := hs
                rw [← hwd] at hs hw
                rw [R_mg_row v1 v2, f103, f101, F_or_assoc, R_mp_s s p q i j0, Int.add_assoc] at hw
                refine ih (j + 1) _ h (by omega) hs hw (by omega) (by omega)
                rw [R_sF_a, R_sA_n _ _ _ _ (by decide)]
                unfold R_mg
                by_cases k : c < u.2.1 103 (12 * p + i) / 65536
                · rw [if_pos k, R_fl_o (by omega), R_fl_i (by omega) (by omega)]
                  by_cases k0 : c = 0
                  · rw [if_pos k0, if_pos (by omega)]
                  · rw [if_neg k0, if_neg (by omega)]
                · rw [if_neg k, R_fl_i (by omega) (by omega)]
                  by_cases k0 : c = u.2.1 103 (12 * p + i) / 65536
                  · rw [if_pos k0, if_pos (by omega)]
                  · rw [if_neg k0, if_neg (by omega)]
              · exfalso; omega
            · exfalso; omega
