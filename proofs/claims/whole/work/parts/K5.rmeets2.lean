/-! the reference: meetsWant -/
/-- a gram of bytes -/
def X_G (W : Int → Int) (n g : Int) : Prop := ∃ k, 0 ≤ k ∧ k + 2 < n ∧ g = 65536 * W k + 256 * W (k + 1) + W (k + 2)
/-- the file has one of the choices -/
def X_me (L : List (List Int)) (G : Int → Prop) : Prop := ∃ r ∈ L, ∀ g ∈ r, G g
/-- the row of grams is that of a file -/
def R_mr (s u : R_S) (f m : Int) : Prop := R_f4 [] [89] [] s u ∧ 0 ≤ m ∧ m ≤ 16000 ∧ D_srt (u.2.1 89) m ∧ ∀ g, D_in (u.2.1 89) m g ↔ X_G (R_wb s f) (s.2.1 87 f) g
def R_mi (L : List (List Int)) (G : Int → Prop) (c a : Int) : Prop := a = 1 ∧ (∃ (p : Nat) (h : p < L.length), (p : Int) < c ∧ ∀ g ∈ L[p], G g) ∨ a = 0 ∧ ∀ (p : Nat) (h : p < L.length), (p : Int) < c → ¬ ∀ g ∈ L[p], G g
def R_mk2 (r : List Int) (G : Int → Prop) (k a : Int) : Prop := a = 1 ∧ (∀ (x : Nat) (h : x < r.length), (x : Int) < k → G r[x]) ∨ a = 0 ∧ ∃ (x : Nat) (h : x < r.length), ¬ G r[x]
theorem R_mw_i {d : Nat} {h0 : E_H} {s u : R_S} {sl : Nat} {Φ : E_R → Prop} {f n : Int} {L : List (List Int)} (hL : R_td s 122 123 0 640 L) (hr : ∀ r ∈ L, r.length ≤ 640) (l24 : L.length ≤ 24) (hm : R_mr s u f n) {c : Nat} (c1 : c < L.length) (kont : ∀ (b : Int) (h : E_H), R_is h0 h u → (b = 1 ∧ (∀ g ∈ L[c], (X_G (R_wb s f) (s.2.1 87 f)) g) ∨ b = 0 ∧ ¬ ∀ g ∈ L[c], (X_G (R_wb s f) (s.2.1 87 f)) g) → B_R (d + 1) E_m269 (76, [(4, .int (Zi (((c : Nat) : Int)))), (3, .int (Zi b)), (2, .int (Zi n)), (0, .ref 83), (1, .int (Zi f))], []) h sl Φ) : ∀ (t : Nat) (k b : Int) (h : E_H), (L[c].length : Int) - k < t → R_is h0 h u → R_mk2 L[c] (X_G (R_wb s f) (s.2.1 87 f)) k b → 0 ≤ k → k ≤ L[c].length → B_R (d + 1) E_m269 (34, [(5, .int (Zi k)), (4, .int (Zi (((c : Nat) : Int)))), (3, .int (Zi b)), (2, .int (Zi n)), (0, .ref 83), (1, .int (Zi f))], []) h sl Φ := by
  intro t
  induction t with
  | zero => intro k b h ht hs hb k0 k1; omega
  | succ t ih =>
    intro k b h ht hs hb k0 k1
    obtain ⟨g1, g2⟩ := hL c c1
    have lr := hr L[c] (List.getElem_mem c1)
    have e122 : u.2.1 122 ((c : Nat) : Int) = L[c].length := by rw [hm.1.2.1 122 (by decide)]; have := g1; rw [Int.zero_add] at this; exact this
    have zb : Zr b := by rcases hb with ⟨e, _⟩ | ⟨e, _⟩ <;> exact ⟨by omega, by omega⟩
    have zk : Zr k := ⟨by omega, by omega⟩
    have e123 : ∀ (hk : k.toNat < L[c].length), u.2.1 123 (640 * ((c : Nat) : Int) + k) = L[c][k.toNat] := fun hk => by
      have := g2 k.toNat hk
      rw [Int.zero_add, show ((k.toNat : Nat) : Int) = k by omega] at this
      rw [hm.1.2.1 123 (by decide)]
      exact this
    refine Z_go (f2 := (36, [(5, .int (Zi k)), (4, .int (Zi (((c : Nat) : Int)))), (3, .int (Zi b)), (2, .int (Zi n)), (0, .ref 83), (1, .int (Zi f))], [.int (Zi k)])) (fun _ => rfl) ?_
    refine Z_go (f2 := (37, [(5, .int (Zi k)), (4, .int (Zi (((c : Nat) : Int)))), (3, .int (Zi b)), (2, .int (Zi n)), (0, .ref 83), (1, .int (Zi f))], [.ref 83, .int (Zi k)])) (fun _ => rfl) ?_
    refine R_gr (q := 120) rfl hs rfl ?_
    show B_R _ _ (40, [(5, .int (Zi k)), (4, .int (Zi (((c : Nat) : Int)))), (3, .int (Zi b)), (2, .int (Zi n)), (0, .ref 83), (1, .int (Zi f))], [.ref 122, .int (Zi k)]) _ _ _
    refine Z_go (f2 := (42, [(5, .int (Zi k)), (4, .int (Zi (((c : Nat) : Int)))), (3, .int (Zi b)), (2, .int (Zi n)), (0, .ref 83), (1, .int (Zi f))], [.int (Zi (((c : Nat) : Int))), .ref 122, .int (Zi k)])) (fun _ => rfl) ?_
    refine R_ia (q := 38) rfl hs rfl rfl (by omega) (by omega) (by decide) ?_
    refine Z_cge rfl rfl (by first | exact hs.zF _ | exact Zor_r _ _ | exact hs.zA _ _ | assumption | exact zA _ _ | exact zS _ | exact Zr_not (hs.zA _ _) | exact ⟨by omega, by omega⟩) (by first | exact hs.zF _ | exact Zor_r _ _ | exact hs.zA _ _ | assumption | exact zA _ _ | exact zS _ | exact Zr_not (hs.zA _ _) | exact ⟨by omega, by omega⟩) (fun y1 => ?_) (fun y1 => ?_)
    · refine B_loc (K := [(4, .int (Zi (((c : Nat) : Int)))), (3, .int (Zi b)), (2, .int (Zi n)), (0, .ref 83), (1, .int (Zi f))]) (N_all_sub ⟨rfl, rfl, rfl, rfl, rfl, trivial⟩) (show ([4, 3, 2, 0, 1] : List Nat).Nodup by decide) ?_
      refine kont b h hs ?_
      rcases hb with ⟨e, q⟩ | ⟨e, x, hx, q⟩
      · by_cases z : b = 0
        · omega
        · refine .inl ⟨e, fun g hg => ?_⟩
          obtain ⟨x, hx, rfl⟩ := List.getElem_of_mem hg
          exact q x hx (by omega)
      · exact .inr ⟨e, fun z => q (z _ (List.getElem_mem hx))⟩
    · refine Z_go (f2 := (47, [(5, .int (Zi k)), (4, .int (Zi (((c : Nat) : Int)))), (3, .int (Zi b)), (2, .int (Zi n)), (0, .ref 83), (1, .int (Zi f))], [.int (Zi b)])) (fun _ => rfl) ?_
      refine Z_ieq rfl rfl (by first | exact hs.zF _ | exact Zor_r _ _ | exact hs.zA _ _ | assumption | exact zA _ _ | exact zS _ | exact Zr_not (hs.zA _ _) | exact ⟨by omega, by omega⟩) (fun y2 => ?_) (fun y2 => ?_)
      · refine B_loc (K := [(4, .int (Zi (((c : Nat) : Int)))), (3, .int (Zi b)), (2, .int (Zi n)), (0, .ref 83), (1, .int (Zi f))]) (N_all_sub ⟨rfl, rfl, rfl, rfl, rfl, trivial⟩) (show ([4, 3, 2, 0, 1] : List Nat).Nodup by decide) ?_
        refine kont b h hs ?_
        rcases hb with ⟨e, q⟩ | ⟨e, x, hx, q⟩
        · by_cases z : b = 0
          · omega
          · refine .inl ⟨e, fun g hg => ?_⟩
            obtain ⟨x, hx, rfl⟩ := List.getElem_of_mem hg
            exact q x hx (by omega)
        · exact .inr ⟨e, fun z => q (z _ (List.getElem_mem hx))⟩
      · refine Z_go (f2 := (51, [(5, .int (Zi k)), (4, .int (Zi (((c : Nat) : Int)))), (3, .int (Zi b)), (2, .int (Zi n)), (0, .ref 83), (1, .int (Zi f))], [.ref 83])) (fun _ => rfl) ?_
        refine Z_go (f2 := (52, [(5, .int (Zi k)), (4, .int (Zi (((c : Nat) : Int)))), (3, .int (Zi b)), (2, .int (Zi n)), (0, .ref 83), (1, .int (Zi f))], [.int (Zi n), .ref 83])) (fun _ => rfl) ?_
        refine Z_go (f2 := (53, [(5, .int (Zi k)), (4, .int (Zi (((c : Nat) : Int)))), (3, .int (Zi b)), (2, .int (Zi n)), (0, .ref 83), (1, .int (Zi f))], [.ref 83, .int (Zi n), .ref 83])) (fun _ => rfl) ?_
        refine R_gr (q := 121) rfl hs rfl ?_
        show B_R _ _ (56, [(5, .int (Zi k)), (4, .int (Zi (((c : Nat) : Int)))), (3, .int (Zi b)), (2, .int (Zi n)), (0, .ref 83), (1, .int (Zi f))], [.ref 123, .int (Zi n), .ref 83]) _ _ _
        refine Z_go (f2 := (59, [(5, .int (Zi k)), (4, .int (Zi (((c : Nat) : Int)))), (3, .int (Zi b)), (2, .int (Zi n)), (0, .ref 83), (1, .int (Zi f))], [.int (Zi 640), .ref 123, .int (Zi n), .ref 83])) (fun _ => rfl) ?_
        refine Z_go (f2 := (61, [(5, .int (Zi k)), (4, .int (Zi (((c : Nat) : Int)))), (3, .int (Zi b)), (2, .int (Zi n)), (0, .ref 83), (1, .int (Zi f))], [.int (Zi (((c : Nat) : Int))), .int (Zi 640), .ref 123, .int (Zi n), .ref 83])) (fun _ => rfl) ?_
        refine Z_imul rfl ?_
        refine Z_go (f2 := (64, [(5, .int (Zi k)), (4, .int (Zi (((c : Nat) : Int)))), (3, .int (Zi b)), (2, .int (Zi n)), (0, .ref 83), (1, .int (Zi f))], [.int (Zi k), .int (Zi (640 * (((c : Nat) : Int)))), .ref 123, .int (Zi n), .ref 83])) (fun _ => rfl) ?_
        refine Z_iadd rfl ?_
        refine R_ia (q := 39) rfl hs rfl rfl (by omega) (by omega) (by decide) ?_
        refine R_call (As := [.int (Zi n), .int (Zi (u.2.1 123 (640 * (((c : Nat) : Int)) + k)))]) (rest := []) rfl (by decide) rfl rfl rfl rfl (by decide +kernel) (Nat.le_of_ble_eq_true rfl) hs (R_isInRow _ u ⟨by have := hm.2.1; omega, by have := hm.2.2.1; omega⟩ (hs.zA 123 _) hm.2.1 hm.2.2.1 hm.2.2.2.1) (fun x h s2 hs q => ?_)
        obtain ⟨q0, v9, rfl, hv9⟩ := q
        rw [q0] at hs
        show B_R _ _ (69, [(5, .int (Zi k)), (4, .int (Zi (((c : Nat) : Int)))), (3, .int (Zi b)), (2, .int (Zi n)), (0, .ref 83), (1, .int (Zi f))], [.int (Zi v9)]) _ _ _
        refine Z_go (f2 := (70, [(3, .int (Zi v9)), (5, .int (Zi k)), (4, .int (Zi (((c : Nat) : Int)))), (2, .int (Zi n)), (0, .ref 83), (1, .int (Zi f))], [])) (fun _ => rfl) ?_
        refine Z_iinc (L2 := [(5, .int (Zi (k + 1))), (3, .int (Zi v9)), (4, .int (Zi (((c : Nat) : Int)))), (2, .int (Zi n)), (0, .ref 83), (1, .int (Zi f))]) rfl rfl (by decide) rfl ?_
        refine Z_go (f2 := (34, [(5, .int (Zi (k + 1))), (3, .int (Zi v9)), (4, .int (Zi (((c : Nat) : Int)))), (2, .int (Zi n)), (0, .ref 83), (1, .int (Zi f))], [])) (fun _ => rfl) ?_
        refine B_loc (K := [(5, .int (Zi (k + 1))), (4, .int (Zi (((c : Nat) : Int)))), (3, .int (Zi v9)), (2, .int (Zi n)), (0, .ref 83), (1, .int (Zi f))]) (N_all_sub ⟨rfl, rfl, rfl, rfl, rfl, rfl, trivial⟩) (show ([5, 4, 3, 2, 0, 1] : List Nat).Nodup by decide) ?_
        have hk : k.toNat < L[c].length := by omega
        have hG := hm.2.2.2.2 (u.2.1 123 (640 * ((c : Nat) : Int) + k))
        rw [e123 hk] at hG hv9
        refine ih (k + 1) v9 h (by omega) hs ?_ (by omega) (by omega)
        rcases hv9 with ⟨e, q⟩ | ⟨e, q⟩
        · refine .inl ⟨e, fun x hx x1 => ?_⟩
          by_cases z : (x : Int) = k
          · have : x = k.toNat := by omega
            subst this
            exact hG.mp q
          · rcases hb with ⟨_, q2⟩ | ⟨e2, _⟩
            · exact q2 x hx (by omega)
            · omega
        · exact .inr ⟨e, k.toNat, hk, fun z => q (hG.mpr z)⟩
theorem R_mw_o {d : Nat} {h0 : E_H} {s u : R_S} {sl : Nat} {Φ : E_R → Prop} {f n : Int} {L : List (List Int)} (hL : R_td s 122 123 0 640 L) (hr : ∀ r ∈ L, r.length ≤ 640) (l24 : L.length ≤ 24) (hm : R_mr s u f n) (h56 : s.1 56 = L.length) (kont : ∀ (a : Int) (h : E_H), R_is h0 h u → (a = 1 ∧ X_me L (X_G (R_wb s f) (s.2.1 87 f)) ∨ a = 0 ∧ ¬ X_me L (X_G (R_wb s f) (s.2.1 87 f))) → Φ (some (.int (Zi a)), h, sl)) : ∀ (t : Nat) (c a : Int) (h : E_H), (L.length : Int) - c < t → R_is h0 h u → R_mi L (X_G (R_wb s f) (s.2.1 87 f)) c a → 0 ≤ c → c ≤ L.length → B_R (d + 1) E_m269 (16, [(4, .int (Zi c)), (3, .int (Zi a)), (2, .int (Zi n)), (0, .ref 83), (1, .int (Zi f))], []) h sl Φ := by
  intro t
  induction t with
  | zero => intro c a h ht hs ha c0 c1; omega
  | succ t ih =>
    intro c a h ht hs ha c0 c1
    have a01 : a = 0 ∨ a = 1 := by rcases ha with ⟨e, _⟩ | ⟨e, _⟩ <;> omega
    have za : Zr a := ⟨by omega, by omega⟩
    have zc : Zr c := ⟨by omega, by omega⟩
    have e56 : u.1 56 = L.length := by rw [hm.1.1 56 (by decide)]; exact h56
    have z56 : Zr (u.1 56) := ⟨by omega, by omega⟩
    refine Z_go (f2 := (18, [(4, .int (Zi c)), (3, .int (Zi a)), (2, .int (Zi n)), (0, .ref 83), (1, .int (Zi f))], [.int (Zi c)])) (fun _ => rfl) ?_
    refine Z_go (f2 := (19, [(4, .int (Zi c)), (3, .int (Zi a)), (2, .int (Zi n)), (0, .ref 83), (1, .int (Zi f))], [.ref 83, .int (Zi c)])) (fun _ => rfl) ?_
    refine R_gi rfl hs rfl ?_
    show B_R _ _ (22, [(4, .int (Zi c)), (3, .int (Zi a)), (2, .int (Zi n)), (0, .ref 83), (1, .int (Zi f))], [.int (Zi (u.1 56)), .int (Zi c)]) _ _ _
    refine Z_cge rfl rfl (by first | exact hs.zF _ | exact Zor_r _ _ | exact hs.zA _ _ | assumption | exact zA _ _ | exact zS _ | exact Zr_not (hs.zA _ _) | exact ⟨by omega, by omega⟩) (by first | exact hs.zF _ | exact Zor_r _ _ | exact hs.zA _ _ | assumption | exact zA _ _ | exact zS _ | exact Zr_not (hs.zA _ _) | exact ⟨by omega, by omega⟩) (fun y1 => ?_) (fun y1 => ?_)
    · refine Z_go (f2 := (83, [(4, .int (Zi c)), (3, .int (Zi a)), (2, .int (Zi n)), (0, .ref 83), (1, .int (Zi f))], [.int (Zi a)])) (fun _ => rfl) ?_
      refine Z_iret rfl rfl (by first | rfl | decide | exact narrow_b01 (by omega)) ?_
      refine kont a h hs ?_
      rcases ha with ⟨e, p, hp, p1, q⟩ | ⟨e, q⟩
      · exact .inl ⟨e, _, List.getElem_mem hp, q⟩
      · refine .inr ⟨e, fun ⟨r, hr2, q2⟩ => ?_⟩
        obtain ⟨p, hp, rfl⟩ := List.getElem_of_mem hr2
        exact q p hp (by omega) q2
    · refine Z_go (f2 := (26, [(4, .int (Zi c)), (3, .int (Zi a)), (2, .int (Zi n)), (0, .ref 83), (1, .int (Zi f))], [.int (Zi a)])) (fun _ => rfl) ?_
      refine Z_ine rfl rfl (by first | exact hs.zF _ | exact Zor_r _ _ | exact hs.zA _ _ | assumption | exact zA _ _ | exact zS _ | exact Zr_not (hs.zA _ _) | exact ⟨by omega, by omega⟩) (fun y2 => ?_) (fun y2 => ?_)
      · refine Z_go (f2 := (83, [(4, .int (Zi c)), (3, .int (Zi a)), (2, .int (Zi n)), (0, .ref 83), (1, .int (Zi f))], [.int (Zi a)])) (fun _ => rfl) ?_
        refine Z_iret rfl rfl (by first | rfl | decide | exact narrow_b01 (by omega)) ?_
        refine kont a h hs ?_
        rcases ha with ⟨e, p, hp, p1, q⟩ | ⟨e, q⟩
        · exact .inl ⟨e, _, List.getElem_mem hp, q⟩
        · refine .inr ⟨e, fun ⟨r, hr2, q2⟩ => ?_⟩
          obtain ⟨p, hp, rfl⟩ := List.getElem_of_mem hr2
          exact q p hp (by omega) q2
      · refine Z_go (f2 := (30, [(4, .int (Zi c)), (3, .int (Zi a)), (2, .int (Zi n)), (0, .ref 83), (1, .int (Zi f))], [.int (Zi 1)])) (fun _ => rfl) ?_
        refine Z_go (f2 := (31, [(3, .int (Zi 1)), (4, .int (Zi c)), (2, .int (Zi n)), (0, .ref 83), (1, .int (Zi f))], [])) (fun _ => rfl) ?_
        refine Z_go (f2 := (32, [(3, .int (Zi 1)), (4, .int (Zi c)), (2, .int (Zi n)), (0, .ref 83), (1, .int (Zi f))], [.int (Zi 0)])) (fun _ => rfl) ?_
        refine Z_go (f2 := (34, [(5, .int (Zi 0)), (3, .int (Zi 1)), (4, .int (Zi c)), (2, .int (Zi n)), (0, .ref 83), (1, .int (Zi f))], [])) (fun _ => rfl) ?_
        refine B_loc (K := [(5, .int (Zi 0)), (4, .int (Zi c)), (3, .int (Zi 1)), (2, .int (Zi n)), (0, .ref 83), (1, .int (Zi f))]) (N_all_sub ⟨rfl, rfl, rfl, rfl, rfl, rfl, trivial⟩) (show ([5, 4, 3, 2, 0, 1] : List Nat).Nodup by decide) ?_
        have hcn : c.toNat < L.length := by omega
        have ec : ((c.toNat : Nat) : Int) = c := by omega
        rw [← ec]
        refine R_mw_i (s := s) (L := L) hL hr l24 hm hcn (fun b h hs hb => ?_) (L[c.toNat].length + 1) 0 1 h (by omega) hs (.inl ⟨rfl, fun x hx x1 => by omega⟩) (Int.le_refl _) (by omega)
        rw [ec]
        refine Z_iinc (L2 := [(4, .int (Zi (c + 1))), (3, .int (Zi b)), (2, .int (Zi n)), (0, .ref 83), (1, .int (Zi f))]) rfl rfl (by decide) rfl ?_
        refine Z_go (f2 := (16, [(4, .int (Zi (c + 1))), (3, .int (Zi b)), (2, .int (Zi n)), (0, .ref 83), (1, .int (Zi f))], [])) (fun _ => rfl) ?_
        refine B_loc (K := [(4, .int (Zi (c + 1))), (3, .int (Zi b)), (2, .int (Zi n)), (0, .ref 83), (1, .int (Zi f))]) (N_all_sub ⟨rfl, rfl, rfl, rfl, rfl, trivial⟩) (show ([4, 3, 2, 0, 1] : List Nat).Nodup by decide) ?_
        refine ih (c + 1) b h (by omega) hs ?_ (by omega) (by omega)
        rcases hb with ⟨e, q⟩ | ⟨e, q⟩
        · exact .inl ⟨e, c.toNat, hcn, by omega, q⟩
        · refine .inr ⟨e, fun p hp p1 => ?_⟩
          by_cases z : p = c.toNat
          · subst z; exact q
          · rcases ha with ⟨e2, _⟩ | ⟨_, q2⟩
            · omega
            · exact q2 p hp (by omega)
theorem R_meetsWant (d : Nat) (s : R_S) {f : Int} {L : List (List Int)} (zf : Zr f) (hf : R_in s f) (hL : R_td s 122 123 0 640 L) (hr : ∀ r ∈ L, r.length ≤ 640) (l24 : L.length ≤ 24) (h56 : s.1 56 = L.length) : R_ok (d + 3) 269 [.int (Zi f)] s (fun x u => R_f4 [] [89] [] s u ∧ ∃ a : Int, x = some (.int (Zi a)) ∧ (a = 1 ∧ X_me L (X_G (R_wb s f) (s.2.1 87 f)) ∨ a = 0 ∧ ¬ X_me L (X_G (R_wb s f) (s.2.1 87 f)))) := by
  refine R_enter (M := E_m269) rfl (Nat.le_of_ble_eq_true rfl) (fun h0 h hs => ?_)
  show B_R (d + 2) _ (0, [(0, .ref 83), (1, .int (Zi f))], []) _ _ _
  obtain ⟨f0, f1, f2, f3, f4, f5, f6⟩ := id hf
  refine Z_go (f2 := (1, [(0, .ref 83), (1, .int (Zi f))], [.ref 83])) (fun _ => rfl) ?_
  refine Z_go (f2 := (2, [(0, .ref 83), (1, .int (Zi f))], [.ref 83, .ref 83])) (fun _ => rfl) ?_
  refine Z_go (f2 := (3, [(0, .ref 83), (1, .int (Zi f))], [.int (Zi f), .ref 83, .ref 83])) (fun _ => rfl) ?_
  refine Z_go (f2 := (4, [(0, .ref 83), (1, .int (Zi f))], [.int (Zi 0), .int (Zi f), .ref 83, .ref 83])) (fun _ => rfl) ?_
  refine R_call (As := [.int (Zi f), .int (Zi 0)]) (rest := [.ref 83]) rfl (by decide) rfl rfl rfl rfl (by decide +kernel) (Nat.le_of_ble_eq_true rfl) hs (R_gathers _ s zf ⟨by omega, by omega⟩ f0 f1 (by omega) (by omega) (by omega) f2 f5 f3 f6) (fun x h u1 hs q => ?_)
  obtain ⟨k9, rfl, gt, k0, k1, k2⟩ := q
  show B_R _ _ (7, [(0, .ref 83), (1, .int (Zi f))], [.int (Zi (0 + k9)), .ref 83]) _ _ _
  refine R_call (As := [.int (Zi (0 + k9))]) (rest := []) rfl (by decide) rfl rfl rfl rfl (by decide +kernel) (Nat.le_of_ble_eq_true rfl) hs (R_sorted _ u1 ⟨by omega, by omega⟩ (by omega) (by omega)) (fun x h u2 hs q => ?_)
  obtain ⟨m, rfl, rw_, m0, m1, sd, sm⟩ := q
  show B_R _ _ (10, [(0, .ref 83), (1, .int (Zi f))], [.int (Zi m)]) _ _ _
  refine Z_go (f2 := (11, [(2, .int (Zi m)), (0, .ref 83), (1, .int (Zi f))], [])) (fun _ => rfl) ?_
  refine Z_go (f2 := (12, [(2, .int (Zi m)), (0, .ref 83), (1, .int (Zi f))], [.int (Zi 0)])) (fun _ => rfl) ?_
  refine Z_go (f2 := (13, [(3, .int (Zi 0)), (2, .int (Zi m)), (0, .ref 83), (1, .int (Zi f))], [])) (fun _ => rfl) ?_
  refine Z_go (f2 := (14, [(3, .int (Zi 0)), (2, .int (Zi m)), (0, .ref 83), (1, .int (Zi f))], [.int (Zi 0)])) (fun _ => rfl) ?_
  refine Z_go (f2 := (16, [(4, .int (Zi 0)), (3, .int (Zi 0)), (2, .int (Zi m)), (0, .ref 83), (1, .int (Zi f))], [])) (fun _ => rfl) ?_
  refine B_loc (K := [(4, .int (Zi 0)), (3, .int (Zi 0)), (2, .int (Zi m)), (0, .ref 83), (1, .int (Zi f))]) (N_all_sub ⟨rfl, rfl, rfl, rfl, rfl, trivial⟩) (show ([4, 3, 2, 0, 1] : List Nat).Nodup by decide) ?_
  have fr2 : R_f4 [] [89] [] s u2 := by
    refine ⟨fun b _ => ?_, fun q hq j => ?_, ?_, fun p _ j => ?_⟩
    · rw [rw_.1, gt.1]
    · have hq : q ≠ 89 := fun e => hq (by rw [e]; exact List.mem_singleton.mpr rfl)
      rw [rw_.2.1 q j hq, gt.2.1, if_neg (fun e => hq e.1)]
    · rw [rw_.2.2, gt.2.2]
    · rw [rw_.2.2, gt.2.2]
  have hm : R_mr s u2 f m := by
    refine ⟨fr2, m0, by omega, sd, fun g => (sm g).trans ?_⟩
    constructor
    · rintro ⟨i, i0, i1, e⟩
      rw [gt.2.1, if_pos ⟨rfl, by omega, by omega⟩] at e
      refine ⟨i, i0, by omega, ?_⟩
      rw [R_wb_in (by omega), R_wb_in (by omega), R_wb_in (by omega), ← e]
      unfold R_gm
      rw [show s.2.1 86 f + (i - 0) = s.2.1 86 f + i by omega, show s.2.1 86 f + (i + 1) = s.2.1 86 f + i + 1 by omega, show s.2.1 86 f + (i + 2) = s.2.1 86 f + i + 2 by omega]
    · rintro ⟨i, i0, i1, e⟩
      refine ⟨i, i0, by omega, ?_⟩
      rw [gt.2.1, if_pos ⟨rfl, by omega, by omega⟩, e]
      rw [R_wb_in (by omega), R_wb_in (by omega), R_wb_in (by omega)]
      unfold R_gm
      rw [show s.2.1 86 f + (i - 0) = s.2.1 86 f + i by omega, show s.2.1 86 f + (i + 1) = s.2.1 86 f + i + 1 by omega, show s.2.1 86 f + (i + 2) = s.2.1 86 f + i + 2 by omega]
  exact R_mw_o (s := s) (L := L) hL hr l24 hm h56 (fun a h hs ha => ⟨_, hs, ⟨fr2, a, rfl, ha⟩, rfl⟩) (L.length + 1) 0 0 h (by omega) hs (.inr ⟨rfl, fun p hp p1 => by omega⟩) (by omega) (by omega)
