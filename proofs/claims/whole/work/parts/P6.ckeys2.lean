/-! the class: Planner: keys of heads and tails of texts -/
theorem K_hd (t : List Int) : K_ky (E_hd t) = K_ky t := by
  match t with
  | [] => rfl
  | [_] => rfl
  | _ :: _ :: _ => rfl
theorem E_hd_by {t : List Int} (h : ∀ x ∈ t, 0 ≤ x ∧ x < 256) : L_by2 (E_hd t) := ⟨by rw [E_hd_len]; omega, fun x hx => h x (List.mem_of_mem_take hx)⟩
theorem E_tl_by {t : List Int} (h : ∀ x ∈ t, 0 ≤ x ∧ x < 256) : L_by2 (E_tl t) := ⟨by rw [E_tl_len]; omega, fun x hx => h x (List.mem_of_mem_drop hx)⟩
theorem E_hd_s {t : List Int} (h : t.length ≤ 2) : E_hd t = t := List.take_of_length_le h
theorem E_tl_s {t : List Int} (h : t.length ≤ 2) : E_tl t = t := by
  unfold E_tl
  rw [show t.length - 2 = 0 by omega]
  rfl
theorem E_tl_2 (z : List Int) (p l : Int) : E_tl (z ++ [p, l]) = [p, l] := by
  unfold E_tl
  rw [List.length_append, show z.length + [p, l].length - 2 = z.length from by show z.length + 2 - 2 = _; omega, List.drop_left]
theorem L_at_lst (z : List Int) (p : Int) (w : List Int) : L_at (z ++ p :: w) z.length = p := by
  unfold L_at
  rw [if_pos (by omega), Int.toNat_natCast, List.getD_eq_getElem?_getD, List.getElem?_append_right (Nat.le_refl _), Nat.sub_self]
  rfl
theorem K_hk {y h : List Int} (hh : L_by2 h) (hy : y ≠ []) : K_ky (E_hd (y ++ h)) = (L_at y 0 + 1) * 257 + (if y.length = 1 then K_sg (K_ky h) 0 else L_at y 1) + 1 := by
  rw [K_hd]
  match y, hy with
  | [a], _ =>
    rw [if_pos (show [a].length = 1 from rfl), K_sg0 hh]
    show (a + 1) * 257 + (L_at h 0 + 1) = (a + 1) * 257 + L_at h 0 + 1
    omega
  | a :: b :: l, _ =>
    rw [if_neg (by rw [List.length_cons, List.length_cons]; omega)]
    show (a + 1) * 257 + (b + 1) = (a + 1) * 257 + b + 1
    omega
theorem K_tk {u y : List Int} (pv : Int) (hu : L_by2 u) (hyb : ∀ x ∈ y, 0 ≤ x ∧ x < 256) (hy : y ≠ []) (hpv : (y.length = 1 ∧ pv = K_ls (K_ky u)) ∨ (y.length ≠ 1 ∧ pv = L_at y (y.length - 2))) : K_ky (E_tl (u ++ y)) = if pv = -1 then (L_at y (y.length - 1) + 1) * 257 + -1 + 1 else (pv + 1) * 257 + L_at y (y.length - 1) + 1 := by
  rcases N_snoc y with rfl | ⟨z, l, rfl⟩
  · exact absurd rfl hy
  have el : L_at (z ++ [l]) (((z ++ [l]).length : Int) - 1) = l := by
    rw [List.length_append, show (((z.length + [l].length : Nat) : Int)) - 1 = z.length from by show ((z.length + 1 : Nat) : Int) - 1 = _; omega]
    exact L_at_lst z l []
  have lb := hyb l (List.mem_append_right _ (List.mem_cons_self ..))
  rw [el]
  rcases N_snoc z with rfl | ⟨z2, p, rfl⟩
  · have hpv : pv = K_ls (K_ky u) := by
      rcases hpv with ⟨_, e⟩ | ⟨e, _⟩
      · exact e
      · exact absurd rfl e
    rw [hpv, K_ls_t hu]
    rcases N_snoc u with rfl | ⟨u2, q, rfl⟩
    · rw [show L_at [] ((([] : List Int).length : Int) - 1) = -1 from rfl, if_pos rfl, List.nil_append, List.nil_append, E_tl_s (by show 1 ≤ 2; omega), K_ky1]
      omega
    · have eq : L_at (u2 ++ [q]) (((u2 ++ [q]).length : Int) - 1) = q := by
        rw [List.length_append, show (((u2.length + [q].length : Nat) : Int)) - 1 = u2.length from by show ((u2.length + 1 : Nat) : Int) - 1 = _; omega]
        exact L_at_lst u2 q []
      have qb := hu.2 q (List.mem_append_right _ (List.mem_cons_self ..))
      rw [eq, if_neg (by omega), List.nil_append, List.append_assoc]
      show K_ky (E_tl (u2 ++ [q, l])) = _
      rw [E_tl_2, K_ky2]
      omega
  · have hl2 : (z2 ++ [p] ++ [l]).length = z2.length + 2 := by rw [List.length_append, List.length_append]; rfl
    have ep : L_at (z2 ++ [p] ++ [l]) (((z2 ++ [p] ++ [l]).length : Int) - 2) = p := by
      rw [hl2, show (((z2.length + 2 : Nat) : Int)) - 2 = z2.length from by omega, List.append_assoc]
      exact L_at_lst z2 p [l]
    have pb := hyb p (List.mem_append_left _ (List.mem_append_right _ (List.mem_cons_self ..)))
    have hpv : pv = p := by
      rcases hpv with ⟨e, _⟩ | ⟨_, e⟩
      · omega
      · rw [e, ep]
    rw [hpv, if_neg (by omega), List.append_assoc, ← List.append_assoc]
    show K_ky (E_tl (u ++ z2 ++ [p, l])) = _
    rw [E_tl_2, K_ky2]
    omega
theorem C_tkey (d : Nat) {s : C_S} {pp : List Nat} {pl tr B : Nat} {G : G_t} {P : G_p} {ω : Nat → Nat} {t : Nat} {xs : List (List Int)} {i : Int} {u : List Int} (hp : D_Pl s pp pl tr B G P ω) (B0 : 1280 ≤ B) (B1 : B ≤ 20000) (ht : Pl_ht P t) (ex : G.2.2.1 t = xs) (i0 : 0 ≤ i) (i1 : i < xs.length) (hu : L_by2 u) : C_rd (d + 3) 71 [.ref (P.2.2.1 t), .int (Zi i), .int (Zi ((K_ky u)))] s (fun x => x = some (.int (Zi (K_ky (E_tl (u ++ X_at xs i)))))) := by
  refine C_enterR (M := E_m71) rfl (Nat.le_of_ble_eq_true rfl) (fun h0 h hs => ?_)
  show B_R (d + 2) _ (0, [(0, .ref (P.2.2.1 t)), (1, .int (Zi i)), (2, .int (Zi ((K_ky u))))], []) _ _ _
  subst ex
  have hl := hp.tL ht
  have hy := hl.2 _ (X_at_mem i0 i1)
  have hkr := K_ky_r hu
  obtain ⟨kr0, kr1⟩ := hkr
  have zi : Zr i := ⟨by omega, by omega⟩
  have zu : Zr (K_ky u) := ⟨by omega, by omega⟩
  have hlen := hy.1
  have hyb := hy.2
  have hat : ∀ k : Int, -1 ≤ L_at (X_at (G.2.2.1 t) i) k ∧ L_at (X_at (G.2.2.1 t) i) k < 256 := fun k => T_at_r hyb k
  have zl : Zr ((X_at (G.2.2.1 t) i).length : Int) := ⟨by omega, by omega⟩
  refine Z_go (f2 := (1, [(0, .ref (P.2.2.1 t)), (1, .int (Zi i)), (2, .int (Zi ((K_ky u))))], [.ref (P.2.2.1 t)])) (fun _ => rfl) ?_
  refine Z_go (f2 := (2, [(0, .ref (P.2.2.1 t)), (1, .int (Zi i)), (2, .int (Zi ((K_ky u))))], [.int (Zi i), .ref (P.2.2.1 t)])) (fun _ => rfl) ?_
  refine C_callVR (As := [.int (Zi i)]) (rest := []) rfl (by decide) rfl (by decide) rfl rfl (by decide +kernel) (Nat.le_of_ble_eq_true rfl) hs (hp.tK ht) (o_len _ hp ht i0 i1) (fun x q => ?_)
  obtain rfl := q
  show B_R _ _ (5, [(0, .ref (P.2.2.1 t)), (1, .int (Zi i)), (2, .int (Zi ((K_ky u))))], [.int (Zi (((X_at (G.2.2.1 t) i).length : Int)))]) _ _ _
  refine Z_go (f2 := (6, [(3, .int (Zi (((X_at (G.2.2.1 t) i).length : Int)))), (0, .ref (P.2.2.1 t)), (1, .int (Zi i)), (2, .int (Zi ((K_ky u))))], [])) (fun _ => rfl) ?_
  refine Z_go (f2 := (7, [(3, .int (Zi (((X_at (G.2.2.1 t) i).length : Int)))), (0, .ref (P.2.2.1 t)), (1, .int (Zi i)), (2, .int (Zi ((K_ky u))))], [.int (Zi (((X_at (G.2.2.1 t) i).length : Int)))])) (fun _ => rfl) ?_
  refine Z_ine rfl rfl (by first | exact hs.zF _ _ | exact Zor_r _ _ | exact hs.zA _ _ | assumption | exact zA _ _ | exact zS _ | exact Zr_not (hs.zA _ _) | exact hs.1.1 _ _ | exact ⟨by omega, by omega⟩) (fun y1 => ?_) (fun y1 => ?_)
  · refine Z_go (f2 := (13, [(3, .int (Zi (((X_at (G.2.2.1 t) i).length : Int)))), (0, .ref (P.2.2.1 t)), (1, .int (Zi i)), (2, .int (Zi ((K_ky u))))], [.ref (P.2.2.1 t)])) (fun _ => rfl) ?_
    refine Z_go (f2 := (14, [(3, .int (Zi (((X_at (G.2.2.1 t) i).length : Int)))), (0, .ref (P.2.2.1 t)), (1, .int (Zi i)), (2, .int (Zi ((K_ky u))))], [.int (Zi i), .ref (P.2.2.1 t)])) (fun _ => rfl) ?_
    refine Z_go (f2 := (15, [(3, .int (Zi (((X_at (G.2.2.1 t) i).length : Int)))), (0, .ref (P.2.2.1 t)), (1, .int (Zi i)), (2, .int (Zi ((K_ky u))))], [.int (Zi (((X_at (G.2.2.1 t) i).length : Int))), .int (Zi i), .ref (P.2.2.1 t)])) (fun _ => rfl) ?_
    refine Z_go (f2 := (16, [(3, .int (Zi (((X_at (G.2.2.1 t) i).length : Int)))), (0, .ref (P.2.2.1 t)), (1, .int (Zi i)), (2, .int (Zi ((K_ky u))))], [.int (Zi 1), .int (Zi (((X_at (G.2.2.1 t) i).length : Int))), .int (Zi i), .ref (P.2.2.1 t)])) (fun _ => rfl) ?_
    refine Z_isub rfl ?_
    refine C_callVR (As := [.int (Zi i), .int (Zi (((X_at (G.2.2.1 t) i).length : Int) - 1))]) (rest := []) rfl (by decide) rfl (by decide) rfl rfl (by decide +kernel) (Nat.le_of_ble_eq_true rfl) hs (hp.tK ht) (o_sgn _ hp ht i0 i1 (k := ((X_at (G.2.2.1 t) i).length : Int) - 1) ⟨by omega, by omega⟩) (fun x q => ?_)
    obtain rfl := q
    have hat81 := hat (((X_at (G.2.2.1 t) i).length : Int) - 1)
    show B_R _ _ (20, [(3, .int (Zi (((X_at (G.2.2.1 t) i).length : Int)))), (0, .ref (P.2.2.1 t)), (1, .int (Zi i)), (2, .int (Zi ((K_ky u))))], [.int (Zi (L_at (X_at (G.2.2.1 t) i) (((X_at (G.2.2.1 t) i).length : Int) - 1)))]) _ _ _
    refine Z_go (f2 := (22, [(4, .int (Zi (L_at (X_at (G.2.2.1 t) i) (((X_at (G.2.2.1 t) i).length : Int) - 1)))), (3, .int (Zi (((X_at (G.2.2.1 t) i).length : Int)))), (0, .ref (P.2.2.1 t)), (1, .int (Zi i)), (2, .int (Zi ((K_ky u))))], [])) (fun _ => rfl) ?_
    refine Z_go (f2 := (23, [(4, .int (Zi (L_at (X_at (G.2.2.1 t) i) (((X_at (G.2.2.1 t) i).length : Int) - 1)))), (3, .int (Zi (((X_at (G.2.2.1 t) i).length : Int)))), (0, .ref (P.2.2.1 t)), (1, .int (Zi i)), (2, .int (Zi ((K_ky u))))], [.int (Zi (((X_at (G.2.2.1 t) i).length : Int)))])) (fun _ => rfl) ?_
    refine Z_go (f2 := (24, [(4, .int (Zi (L_at (X_at (G.2.2.1 t) i) (((X_at (G.2.2.1 t) i).length : Int) - 1)))), (3, .int (Zi (((X_at (G.2.2.1 t) i).length : Int)))), (0, .ref (P.2.2.1 t)), (1, .int (Zi i)), (2, .int (Zi ((K_ky u))))], [.int (Zi 1), .int (Zi (((X_at (G.2.2.1 t) i).length : Int)))])) (fun _ => rfl) ?_
    refine Z_cne rfl rfl (by first | exact hs.zF _ _ | exact Zor_r _ _ | exact hs.zA _ _ | assumption | exact zA _ _ | exact zS _ | exact Zr_not (hs.zA _ _) | exact hs.1.1 _ _ | exact ⟨by omega, by omega⟩) (by first | exact hs.zF _ _ | exact Zor_r _ _ | exact hs.zA _ _ | assumption | exact zA _ _ | exact zS _ | exact Zr_not (hs.zA _ _) | exact hs.1.1 _ _ | exact ⟨by omega, by omega⟩) (fun y2 => ?_) (fun y2 => ?_)
    · refine Z_go (f2 := (35, [(4, .int (Zi (L_at (X_at (G.2.2.1 t) i) (((X_at (G.2.2.1 t) i).length : Int) - 1)))), (3, .int (Zi (((X_at (G.2.2.1 t) i).length : Int)))), (0, .ref (P.2.2.1 t)), (1, .int (Zi i)), (2, .int (Zi ((K_ky u))))], [.ref (P.2.2.1 t)])) (fun _ => rfl) ?_
      refine Z_go (f2 := (36, [(4, .int (Zi (L_at (X_at (G.2.2.1 t) i) (((X_at (G.2.2.1 t) i).length : Int) - 1)))), (3, .int (Zi (((X_at (G.2.2.1 t) i).length : Int)))), (0, .ref (P.2.2.1 t)), (1, .int (Zi i)), (2, .int (Zi ((K_ky u))))], [.int (Zi i), .ref (P.2.2.1 t)])) (fun _ => rfl) ?_
      refine Z_go (f2 := (37, [(4, .int (Zi (L_at (X_at (G.2.2.1 t) i) (((X_at (G.2.2.1 t) i).length : Int) - 1)))), (3, .int (Zi (((X_at (G.2.2.1 t) i).length : Int)))), (0, .ref (P.2.2.1 t)), (1, .int (Zi i)), (2, .int (Zi ((K_ky u))))], [.int (Zi (((X_at (G.2.2.1 t) i).length : Int))), .int (Zi i), .ref (P.2.2.1 t)])) (fun _ => rfl) ?_
      refine Z_go (f2 := (38, [(4, .int (Zi (L_at (X_at (G.2.2.1 t) i) (((X_at (G.2.2.1 t) i).length : Int) - 1)))), (3, .int (Zi (((X_at (G.2.2.1 t) i).length : Int)))), (0, .ref (P.2.2.1 t)), (1, .int (Zi i)), (2, .int (Zi ((K_ky u))))], [.int (Zi 2), .int (Zi (((X_at (G.2.2.1 t) i).length : Int))), .int (Zi i), .ref (P.2.2.1 t)])) (fun _ => rfl) ?_
      refine Z_isub rfl ?_
      refine C_callVR (As := [.int (Zi i), .int (Zi (((X_at (G.2.2.1 t) i).length : Int) - 2))]) (rest := []) rfl (by decide) rfl (by decide) rfl rfl (by decide +kernel) (Nat.le_of_ble_eq_true rfl) hs (hp.tK ht) (o_sgn _ hp ht i0 i1 (k := ((X_at (G.2.2.1 t) i).length : Int) - 2) ⟨by omega, by omega⟩) (fun x q => ?_)
      obtain rfl := q
      have hat82 := hat (((X_at (G.2.2.1 t) i).length : Int) - 2)
      show B_R _ _ (42, [(4, .int (Zi (L_at (X_at (G.2.2.1 t) i) (((X_at (G.2.2.1 t) i).length : Int) - 1)))), (3, .int (Zi (((X_at (G.2.2.1 t) i).length : Int)))), (0, .ref (P.2.2.1 t)), (1, .int (Zi i)), (2, .int (Zi ((K_ky u))))], [.int (Zi (L_at (X_at (G.2.2.1 t) i) (((X_at (G.2.2.1 t) i).length : Int) - 2)))]) _ _ _
      refine Z_go (f2 := (44, [(5, .int (Zi (L_at (X_at (G.2.2.1 t) i) (((X_at (G.2.2.1 t) i).length : Int) - 2)))), (4, .int (Zi (L_at (X_at (G.2.2.1 t) i) (((X_at (G.2.2.1 t) i).length : Int) - 1)))), (3, .int (Zi (((X_at (G.2.2.1 t) i).length : Int)))), (0, .ref (P.2.2.1 t)), (1, .int (Zi i)), (2, .int (Zi ((K_ky u))))], [])) (fun _ => rfl) ?_
      refine Z_go (f2 := (46, [(5, .int (Zi (L_at (X_at (G.2.2.1 t) i) (((X_at (G.2.2.1 t) i).length : Int) - 2)))), (4, .int (Zi (L_at (X_at (G.2.2.1 t) i) (((X_at (G.2.2.1 t) i).length : Int) - 1)))), (3, .int (Zi (((X_at (G.2.2.1 t) i).length : Int)))), (0, .ref (P.2.2.1 t)), (1, .int (Zi i)), (2, .int (Zi ((K_ky u))))], [.int (Zi (L_at (X_at (G.2.2.1 t) i) (((X_at (G.2.2.1 t) i).length : Int) - 2)))])) (fun _ => rfl) ?_
      refine Z_go (f2 := (47, [(5, .int (Zi (L_at (X_at (G.2.2.1 t) i) (((X_at (G.2.2.1 t) i).length : Int) - 2)))), (4, .int (Zi (L_at (X_at (G.2.2.1 t) i) (((X_at (G.2.2.1 t) i).length : Int) - 1)))), (3, .int (Zi (((X_at (G.2.2.1 t) i).length : Int)))), (0, .ref (P.2.2.1 t)), (1, .int (Zi i)), (2, .int (Zi ((K_ky u))))], [.int (Zi (-1)), .int (Zi (L_at (X_at (G.2.2.1 t) i) (((X_at (G.2.2.1 t) i).length : Int) - 2)))])) (fun _ => rfl) ?_
      refine Z_cne rfl rfl (by first | exact hs.zF _ _ | exact Zor_r _ _ | exact hs.zA _ _ | assumption | exact zA _ _ | exact zS _ | exact Zr_not (hs.zA _ _) | exact hs.1.1 _ _ | exact ⟨by omega, by omega⟩) (by first | exact hs.zF _ _ | exact Zor_r _ _ | exact hs.zA _ _ | assumption | exact zA _ _ | exact zS _ | exact Zr_not (hs.zA _ _) | exact hs.1.1 _ _ | exact ⟨by omega, by omega⟩) (fun y3 => ?_) (fun y3 => ?_)
      · refine Z_go (f2 := (61, [(5, .int (Zi (L_at (X_at (G.2.2.1 t) i) (((X_at (G.2.2.1 t) i).length : Int) - 2)))), (4, .int (Zi (L_at (X_at (G.2.2.1 t) i) (((X_at (G.2.2.1 t) i).length : Int) - 1)))), (3, .int (Zi (((X_at (G.2.2.1 t) i).length : Int)))), (0, .ref (P.2.2.1 t)), (1, .int (Zi i)), (2, .int (Zi ((K_ky u))))], [.int (Zi (L_at (X_at (G.2.2.1 t) i) (((X_at (G.2.2.1 t) i).length : Int) - 2)))])) (fun _ => rfl) ?_
        refine Z_go (f2 := (63, [(5, .int (Zi (L_at (X_at (G.2.2.1 t) i) (((X_at (G.2.2.1 t) i).length : Int) - 2)))), (4, .int (Zi (L_at (X_at (G.2.2.1 t) i) (((X_at (G.2.2.1 t) i).length : Int) - 1)))), (3, .int (Zi (((X_at (G.2.2.1 t) i).length : Int)))), (0, .ref (P.2.2.1 t)), (1, .int (Zi i)), (2, .int (Zi ((K_ky u))))], [.int (Zi (L_at (X_at (G.2.2.1 t) i) (((X_at (G.2.2.1 t) i).length : Int) - 1))), .int (Zi (L_at (X_at (G.2.2.1 t) i) (((X_at (G.2.2.1 t) i).length : Int) - 2)))])) (fun _ => rfl) ?_
        refine Z_callQ (vs := [.int (Zi (L_at (X_at (G.2.2.1 t) i) (((X_at (G.2.2.1 t) i).length : Int) - 2))), .int (Zi (L_at (X_at (G.2.2.1 t) i) (((X_at (G.2.2.1 t) i).length : Int) - 1)))]) (rest := []) rfl (by decide) rfl rfl rfl (Nat.le_of_ble_eq_true rfl) (C_keyOf _ (a := L_at (X_at (G.2.2.1 t) i) (((X_at (G.2.2.1 t) i).length : Int) - 2)) (b := L_at (X_at (G.2.2.1 t) i) (((X_at (G.2.2.1 t) i).length : Int) - 1)) (by first | exact zls | exact ⟨by omega, by omega⟩) (by first | exact zls | exact ⟨by omega, by omega⟩)) (fun x q => ?_)
        obtain rfl := q
        show B_R _ _ (66, [(5, .int (Zi (L_at (X_at (G.2.2.1 t) i) (((X_at (G.2.2.1 t) i).length : Int) - 2)))), (4, .int (Zi (L_at (X_at (G.2.2.1 t) i) (((X_at (G.2.2.1 t) i).length : Int) - 1)))), (3, .int (Zi (((X_at (G.2.2.1 t) i).length : Int)))), (0, .ref (P.2.2.1 t)), (1, .int (Zi i)), (2, .int (Zi ((K_ky u))))], [.int (Zi ((L_at (X_at (G.2.2.1 t) i) (((X_at (G.2.2.1 t) i).length : Int) - 2) + 1) * 257 + L_at (X_at (G.2.2.1 t) i) (((X_at (G.2.2.1 t) i).length : Int) - 1) + 1))]) _ _ _
        refine Z_iret rfl rfl (by first | rfl | decide | exact narrow_b01 (by omega)) ⟨rfl, rfl, ?_⟩
        try dsimp only
        have hne : X_at (G.2.2.1 t) i ≠ [] := fun e => by
          have := congrArg List.length e
          rw [List.length_nil] at this
          omega
        first | (rw [K_tk (K_ls (K_ky u)) hu hyb hne (.inl ⟨by omega, rfl⟩), if_pos (by omega)]; done) | (rw [K_tk (K_ls (K_ky u)) hu hyb hne (.inl ⟨by omega, rfl⟩), if_neg (by omega)]; done) | (rw [K_tk _ hu hyb hne (.inr ⟨by omega, rfl⟩), if_pos (by omega)]; done) | (rw [K_tk _ hu hyb hne (.inr ⟨by omega, rfl⟩), if_neg (by omega)]; done)
      · refine Z_go (f2 := (52, [(5, .int (Zi (L_at (X_at (G.2.2.1 t) i) (((X_at (G.2.2.1 t) i).length : Int) - 2)))), (4, .int (Zi (L_at (X_at (G.2.2.1 t) i) (((X_at (G.2.2.1 t) i).length : Int) - 1)))), (3, .int (Zi (((X_at (G.2.2.1 t) i).length : Int)))), (0, .ref (P.2.2.1 t)), (1, .int (Zi i)), (2, .int (Zi ((K_ky u))))], [.int (Zi (L_at (X_at (G.2.2.1 t) i) (((X_at (G.2.2.1 t) i).length : Int) - 1)))])) (fun _ => rfl) ?_
        refine Z_go (f2 := (53, [(5, .int (Zi (L_at (X_at (G.2.2.1 t) i) (((X_at (G.2.2.1 t) i).length : Int) - 2)))), (4, .int (Zi (L_at (X_at (G.2.2.1 t) i) (((X_at (G.2.2.1 t) i).length : Int) - 1)))), (3, .int (Zi (((X_at (G.2.2.1 t) i).length : Int)))), (0, .ref (P.2.2.1 t)), (1, .int (Zi i)), (2, .int (Zi ((K_ky u))))], [.int (Zi (-1)), .int (Zi (L_at (X_at (G.2.2.1 t) i) (((X_at (G.2.2.1 t) i).length : Int) - 1)))])) (fun _ => rfl) ?_
        refine Z_callQ (vs := [.int (Zi (L_at (X_at (G.2.2.1 t) i) (((X_at (G.2.2.1 t) i).length : Int) - 1))), .int (Zi (-1))]) (rest := []) rfl (by decide) rfl rfl rfl (Nat.le_of_ble_eq_true rfl) (C_keyOf _ (a := L_at (X_at (G.2.2.1 t) i) (((X_at (G.2.2.1 t) i).length : Int) - 1)) (b := -1) (by first | exact zls | exact ⟨by omega, by omega⟩) (by first | exact zls | exact ⟨by omega, by omega⟩)) (fun x q => ?_)
        obtain rfl := q
        show B_R _ _ (56, [(5, .int (Zi (L_at (X_at (G.2.2.1 t) i) (((X_at (G.2.2.1 t) i).length : Int) - 2)))), (4, .int (Zi (L_at (X_at (G.2.2.1 t) i) (((X_at (G.2.2.1 t) i).length : Int) - 1)))), (3, .int (Zi (((X_at (G.2.2.1 t) i).length : Int)))), (0, .ref (P.2.2.1 t)), (1, .int (Zi i)), (2, .int (Zi ((K_ky u))))], [.int (Zi ((L_at (X_at (G.2.2.1 t) i) (((X_at (G.2.2.1 t) i).length : Int) - 1) + 1) * 257 + -1 + 1))]) _ _ _
        refine Z_go (f2 := (66, [(5, .int (Zi (L_at (X_at (G.2.2.1 t) i) (((X_at (G.2.2.1 t) i).length : Int) - 2)))), (4, .int (Zi (L_at (X_at (G.2.2.1 t) i) (((X_at (G.2.2.1 t) i).length : Int) - 1)))), (3, .int (Zi (((X_at (G.2.2.1 t) i).length : Int)))), (0, .ref (P.2.2.1 t)), (1, .int (Zi i)), (2, .int (Zi ((K_ky u))))], [.int (Zi ((L_at (X_at (G.2.2.1 t) i) (((X_at (G.2.2.1 t) i).length : Int) - 1) + 1) * 257 + -1 + 1))])) (fun _ => rfl) ?_
        refine Z_iret rfl rfl (by first | rfl | decide | exact narrow_b01 (by omega)) ⟨rfl, rfl, ?_⟩
        try dsimp only
        have hne : X_at (G.2.2.1 t) i ≠ [] := fun e => by
          have := congrArg List.length e
          rw [List.length_nil] at this
          omega
        first | (rw [K_tk (K_ls (K_ky u)) hu hyb hne (.inl ⟨by omega, rfl⟩), if_pos (by omega)]; done) | (rw [K_tk (K_ls (K_ky u)) hu hyb hne (.inl ⟨by omega, rfl⟩), if_neg (by omega)]; done) | (rw [K_tk _ hu hyb hne (.inr ⟨by omega, rfl⟩), if_pos (by omega)]; done) | (rw [K_tk _ hu hyb hne (.inr ⟨by omega, rfl⟩), if_neg (by omega)]; done)
    · refine Z_go (f2 := (28, [(4, .int (Zi (L_at (X_at (G.2.2.1 t) i) (((X_at (G.2.2.1 t) i).length : Int) - 1)))), (3, .int (Zi (((X_at (G.2.2.1 t) i).length : Int)))), (0, .ref (P.2.2.1 t)), (1, .int (Zi i)), (2, .int (Zi ((K_ky u))))], [.int (Zi ((K_ky u)))])) (fun _ => rfl) ?_
      refine Z_callQ (vs := [.int (Zi ((K_ky u)))]) (rest := []) rfl (by decide) rfl rfl rfl (Nat.le_of_ble_eq_true rfl) (C_lastSign _ (a := K_ky u) zu kr0 (by omega)) (fun x q => ?_)
      obtain rfl := q
      have zls : Zr (K_ls (K_ky u)) := by unfold K_ls; split <;> exact ⟨by omega, by omega⟩
      show B_R _ _ (31, [(4, .int (Zi (L_at (X_at (G.2.2.1 t) i) (((X_at (G.2.2.1 t) i).length : Int) - 1)))), (3, .int (Zi (((X_at (G.2.2.1 t) i).length : Int)))), (0, .ref (P.2.2.1 t)), (1, .int (Zi i)), (2, .int (Zi ((K_ky u))))], [.int (Zi (K_ls (K_ky u)))]) _ _ _
      refine Z_go (f2 := (42, [(4, .int (Zi (L_at (X_at (G.2.2.1 t) i) (((X_at (G.2.2.1 t) i).length : Int) - 1)))), (3, .int (Zi (((X_at (G.2.2.1 t) i).length : Int)))), (0, .ref (P.2.2.1 t)), (1, .int (Zi i)), (2, .int (Zi ((K_ky u))))], [.int (Zi (K_ls (K_ky u)))])) (fun _ => rfl) ?_
      refine Z_go (f2 := (44, [(5, .int (Zi (K_ls (K_ky u)))), (4, .int (Zi (L_at (X_at (G.2.2.1 t) i) (((X_at (G.2.2.1 t) i).length : Int) - 1)))), (3, .int (Zi (((X_at (G.2.2.1 t) i).length : Int)))), (0, .ref (P.2.2.1 t)), (1, .int (Zi i)), (2, .int (Zi ((K_ky u))))], [])) (fun _ => rfl) ?_
      refine Z_go (f2 := (46, [(5, .int (Zi (K_ls (K_ky u)))), (4, .int (Zi (L_at (X_at (G.2.2.1 t) i) (((X_at (G.2.2.1 t) i).length : Int) - 1)))), (3, .int (Zi (((X_at (G.2.2.1 t) i).length : Int)))), (0, .ref (P.2.2.1 t)), (1, .int (Zi i)), (2, .int (Zi ((K_ky u))))], [.int (Zi (K_ls (K_ky u)))])) (fun _ => rfl) ?_
      refine Z_go (f2 := (47, [(5, .int (Zi (K_ls (K_ky u)))), (4, .int (Zi (L_at (X_at (G.2.2.1 t) i) (((X_at (G.2.2.1 t) i).length : Int) - 1)))), (3, .int (Zi (((X_at (G.2.2.1 t) i).length : Int)))), (0, .ref (P.2.2.1 t)), (1, .int (Zi i)), (2, .int (Zi ((K_ky u))))], [.int (Zi (-1)), .int (Zi (K_ls (K_ky u)))])) (fun _ => rfl) ?_
      refine Z_cne rfl rfl (by first | exact hs.zF _ _ | exact Zor_r _ _ | exact hs.zA _ _ | assumption | exact zA _ _ | exact zS _ | exact Zr_not (hs.zA _ _) | exact hs.1.1 _ _ | exact ⟨by omega, by omega⟩) (by first | exact hs.zF _ _ | exact Zor_r _ _ | exact hs.zA _ _ | assumption | exact zA _ _ | exact zS _ | exact Zr_not (hs.zA _ _) | exact hs.1.1 _ _ | exact ⟨by omega, by omega⟩) (fun y4 => ?_) (fun y4 => ?_)
      · refine Z_go (f2 := (61, [(5, .int (Zi (K_ls (K_ky u)))), (4, .int (Zi (L_at (X_at (G.2.2.1 t) i) (((X_at (G.2.2.1 t) i).length : Int) - 1)))), (3, .int (Zi (((X_at (G.2.2.1 t) i).length : Int)))), (0, .ref (P.2.2.1 t)), (1, .int (Zi i)), (2, .int (Zi ((K_ky u))))], [.int (Zi (K_ls (K_ky u)))])) (fun _ => rfl) ?_
        refine Z_go (f2 := (63, [(5, .int (Zi (K_ls (K_ky u)))), (4, .int (Zi (L_at (X_at (G.2.2.1 t) i) (((X_at (G.2.2.1 t) i).length : Int) - 1)))), (3, .int (Zi (((X_at (G.2.2.1 t) i).length : Int)))), (0, .ref (P.2.2.1 t)), (1, .int (Zi i)), (2, .int (Zi ((K_ky u))))], [.int (Zi (L_at (X_at (G.2.2.1 t) i) (((X_at (G.2.2.1 t) i).length : Int) - 1))), .int (Zi (K_ls (K_ky u)))])) (fun _ => rfl) ?_
        refine Z_callQ (vs := [.int (Zi (K_ls (K_ky u))), .int (Zi (L_at (X_at (G.2.2.1 t) i) (((X_at (G.2.2.1 t) i).length : Int) - 1)))]) (rest := []) rfl (by decide) rfl rfl rfl (Nat.le_of_ble_eq_true rfl) (C_keyOf _ (a := K_ls (K_ky u)) (b := L_at (X_at (G.2.2.1 t) i) (((X_at (G.2.2.1 t) i).length : Int) - 1)) (by first | exact zls | exact ⟨by omega, by omega⟩) (by first | exact zls | exact ⟨by omega, by omega⟩)) (fun x q => ?_)
        obtain rfl := q
        show B_R _ _ (66, [(5, .int (Zi (K_ls (K_ky u)))), (4, .int (Zi (L_at (X_at (G.2.2.1 t) i) (((X_at (G.2.2.1 t) i).length : Int) - 1)))), (3, .int (Zi (((X_at (G.2.2.1 t) i).length : Int)))), (0, .ref (P.2.2.1 t)), (1, .int (Zi i)), (2, .int (Zi ((K_ky u))))], [.int (Zi ((K_ls (K_ky u) + 1) * 257 + L_at (X_at (G.2.2.1 t) i) (((X_at (G.2.2.1 t) i).length : Int) - 1) + 1))]) _ _ _
        refine Z_iret rfl rfl (by first | rfl | decide | exact narrow_b01 (by omega)) ⟨rfl, rfl, ?_⟩
        try dsimp only
        have hne : X_at (G.2.2.1 t) i ≠ [] := fun e => by
          have := congrArg List.length e
          rw [List.length_nil] at this
          omega
        first | (rw [K_tk (K_ls (K_ky u)) hu hyb hne (.inl ⟨by omega, rfl⟩), if_pos (by omega)]; done) | (rw [K_tk (K_ls (K_ky u)) hu hyb hne (.inl ⟨by omega, rfl⟩), if_neg (by omega)]; done) | (rw [K_tk _ hu hyb hne (.inr ⟨by omega, rfl⟩), if_pos (by omega)]; done) | (rw [K_tk _ hu hyb hne (.inr ⟨by omega, rfl⟩), if_neg (by omega)]; done)
      · refine Z_go (f2 := (52, [(5, .int (Zi (K_ls (K_ky u)))), (4, .int (Zi (L_at (X_at (G.2.2.1 t) i) (((X_at (G.2.2.1 t) i).length : Int) - 1)))), (3, .int (Zi (((X_at (G.2.2.1 t) i).length : Int)))), (0, .ref (P.2.2.1 t)), (1, .int (Zi i)), (2, .int (Zi ((K_ky u))))], [.int (Zi (L_at (X_at (G.2.2.1 t) i) (((X_at (G.2.2.1 t) i).length : Int) - 1)))])) (fun _ => rfl) ?_
        refine Z_go (f2 := (53, [(5, .int (Zi (K_ls (K_ky u)))), (4, .int (Zi (L_at (X_at (G.2.2.1 t) i) (((X_at (G.2.2.1 t) i).length : Int) - 1)))), (3, .int (Zi (((X_at (G.2.2.1 t) i).length : Int)))), (0, .ref (P.2.2.1 t)), (1, .int (Zi i)), (2, .int (Zi ((K_ky u))))], [.int (Zi (-1)), .int (Zi (L_at (X_at (G.2.2.1 t) i) (((X_at (G.2.2.1 t) i).length : Int) - 1)))])) (fun _ => rfl) ?_
        refine Z_callQ (vs := [.int (Zi (L_at (X_at (G.2.2.1 t) i) (((X_at (G.2.2.1 t) i).length : Int) - 1))), .int (Zi (-1))]) (rest := []) rfl (by decide) rfl rfl rfl (Nat.le_of_ble_eq_true rfl) (C_keyOf _ (a := L_at (X_at (G.2.2.1 t) i) (((X_at (G.2.2.1 t) i).length : Int) - 1)) (b := -1) (by first | exact zls | exact ⟨by omega, by omega⟩) (by first | exact zls | exact ⟨by omega, by omega⟩)) (fun x q => ?_)
        obtain rfl := q
        show B_R _ _ (56, [(5, .int (Zi (K_ls (K_ky u)))), (4, .int (Zi (L_at (X_at (G.2.2.1 t) i) (((X_at (G.2.2.1 t) i).length : Int) - 1)))), (3, .int (Zi (((X_at (G.2.2.1 t) i).length : Int)))), (0, .ref (P.2.2.1 t)), (1, .int (Zi i)), (2, .int (Zi ((K_ky u))))], [.int (Zi ((L_at (X_at (G.2.2.1 t) i) (((X_at (G.2.2.1 t) i).length : Int) - 1) + 1) * 257 + -1 + 1))]) _ _ _
        refine Z_go (f2 := (66, [(5, .int (Zi (K_ls (K_ky u)))), (4, .int (Zi (L_at (X_at (G.2.2.1 t) i) (((X_at (G.2.2.1 t) i).length : Int) - 1)))), (3, .int (Zi (((X_at (G.2.2.1 t) i).length : Int)))), (0, .ref (P.2.2.1 t)), (1, .int (Zi i)), (2, .int (Zi ((K_ky u))))], [.int (Zi ((L_at (X_at (G.2.2.1 t) i) (((X_at (G.2.2.1 t) i).length : Int) - 1) + 1) * 257 + -1 + 1))])) (fun _ => rfl) ?_
        refine Z_iret rfl rfl (by first | rfl | decide | exact narrow_b01 (by omega)) ⟨rfl, rfl, ?_⟩
        try dsimp only
        have hne : X_at (G.2.2.1 t) i ≠ [] := fun e => by
          have := congrArg List.length e
          rw [List.length_nil] at this
          omega
        first | (rw [K_tk (K_ls (K_ky u)) hu hyb hne (.inl ⟨by omega, rfl⟩), if_pos (by omega)]; done) | (rw [K_tk (K_ls (K_ky u)) hu hyb hne (.inl ⟨by omega, rfl⟩), if_neg (by omega)]; done) | (rw [K_tk _ hu hyb hne (.inr ⟨by omega, rfl⟩), if_pos (by omega)]; done) | (rw [K_tk _ hu hyb hne (.inr ⟨by omega, rfl⟩), if_neg (by omega)]; done)
  · refine Z_go (f2 := (11, [(3, .int (Zi (((X_at (G.2.2.1 t) i).length : Int)))), (0, .ref (P.2.2.1 t)), (1, .int (Zi i)), (2, .int (Zi ((K_ky u))))], [.int (Zi ((K_ky u)))])) (fun _ => rfl) ?_
    refine Z_iret rfl rfl (by first | rfl | decide | exact narrow_b01 (by omega)) ⟨rfl, rfl, ?_⟩
    try dsimp only
    have e0 : X_at (G.2.2.1 t) i = [] := List.eq_nil_of_length_eq_zero (by omega)
    rw [e0, List.append_nil, E_tl_s hu.1]
theorem C_hkey (d : Nat) {s : C_S} {pp : List Nat} {pl tr B : Nat} {G : G_t} {P : G_p} {ω : Nat → Nat} {t : Nat} {xs : List (List Int)} {i : Int} {u : List Int} (hp : D_Pl s pp pl tr B G P ω) (B0 : 1280 ≤ B) (B1 : B ≤ 20000) (ht : Pl_ht P t) (ex : G.2.2.1 t = xs) (i0 : 0 ≤ i) (i1 : i < xs.length) (hu : L_by2 u) : C_rd (d + 3) 72 [.ref (P.2.2.1 t), .int (Zi i), .int (Zi ((K_ky u)))] s (fun x => x = some (.int (Zi (K_ky (E_hd (X_at xs i ++ u)))))) := by
  refine C_enterR (M := E_m72) rfl (Nat.le_of_ble_eq_true rfl) (fun h0 h hs => ?_)
  show B_R (d + 2) _ (0, [(0, .ref (P.2.2.1 t)), (1, .int (Zi i)), (2, .int (Zi ((K_ky u))))], []) _ _ _
  subst ex
  have hl := hp.tL ht
  have hy := hl.2 _ (X_at_mem i0 i1)
  have hkr := K_ky_r hu
  obtain ⟨kr0, kr1⟩ := hkr
  have zi : Zr i := ⟨by omega, by omega⟩
  have zu : Zr (K_ky u) := ⟨by omega, by omega⟩
  have hlen := hy.1
  have hyb := hy.2
  have hat : ∀ k : Int, -1 ≤ L_at (X_at (G.2.2.1 t) i) k ∧ L_at (X_at (G.2.2.1 t) i) k < 256 := fun k => T_at_r hyb k
  have zl : Zr ((X_at (G.2.2.1 t) i).length : Int) := ⟨by omega, by omega⟩
  refine Z_go (f2 := (1, [(0, .ref (P.2.2.1 t)), (1, .int (Zi i)), (2, .int (Zi ((K_ky u))))], [.ref (P.2.2.1 t)])) (fun _ => rfl) ?_
  refine Z_go (f2 := (2, [(0, .ref (P.2.2.1 t)), (1, .int (Zi i)), (2, .int (Zi ((K_ky u))))], [.int (Zi i), .ref (P.2.2.1 t)])) (fun _ => rfl) ?_
  refine C_callVR (As := [.int (Zi i)]) (rest := []) rfl (by decide) rfl (by decide) rfl rfl (by decide +kernel) (Nat.le_of_ble_eq_true rfl) hs (hp.tK ht) (o_len _ hp ht i0 i1) (fun x q => ?_)
  obtain rfl := q
  show B_R _ _ (5, [(0, .ref (P.2.2.1 t)), (1, .int (Zi i)), (2, .int (Zi ((K_ky u))))], [.int (Zi (((X_at (G.2.2.1 t) i).length : Int)))]) _ _ _
  refine Z_go (f2 := (6, [(3, .int (Zi (((X_at (G.2.2.1 t) i).length : Int)))), (0, .ref (P.2.2.1 t)), (1, .int (Zi i)), (2, .int (Zi ((K_ky u))))], [])) (fun _ => rfl) ?_
  refine Z_go (f2 := (7, [(3, .int (Zi (((X_at (G.2.2.1 t) i).length : Int)))), (0, .ref (P.2.2.1 t)), (1, .int (Zi i)), (2, .int (Zi ((K_ky u))))], [.int (Zi (((X_at (G.2.2.1 t) i).length : Int)))])) (fun _ => rfl) ?_
  refine Z_ine rfl rfl (by first | exact hs.zF _ _ | exact Zor_r _ _ | exact hs.zA _ _ | assumption | exact zA _ _ | exact zS _ | exact Zr_not (hs.zA _ _) | exact hs.1.1 _ _ | exact ⟨by omega, by omega⟩) (fun y1 => ?_) (fun y1 => ?_)
  · refine Z_go (f2 := (13, [(3, .int (Zi (((X_at (G.2.2.1 t) i).length : Int)))), (0, .ref (P.2.2.1 t)), (1, .int (Zi i)), (2, .int (Zi ((K_ky u))))], [.ref (P.2.2.1 t)])) (fun _ => rfl) ?_
    refine Z_go (f2 := (14, [(3, .int (Zi (((X_at (G.2.2.1 t) i).length : Int)))), (0, .ref (P.2.2.1 t)), (1, .int (Zi i)), (2, .int (Zi ((K_ky u))))], [.int (Zi i), .ref (P.2.2.1 t)])) (fun _ => rfl) ?_
    refine Z_go (f2 := (15, [(3, .int (Zi (((X_at (G.2.2.1 t) i).length : Int)))), (0, .ref (P.2.2.1 t)), (1, .int (Zi i)), (2, .int (Zi ((K_ky u))))], [.int (Zi 0), .int (Zi i), .ref (P.2.2.1 t)])) (fun _ => rfl) ?_
    refine C_callVR (As := [.int (Zi i), .int (Zi 0)]) (rest := []) rfl (by decide) rfl (by decide) rfl rfl (by decide +kernel) (Nat.le_of_ble_eq_true rfl) hs (hp.tK ht) (o_sgn _ hp ht i0 i1 (k := 0) ⟨by omega, by omega⟩) (fun x q => ?_)
    obtain rfl := q
    have hat83 := hat 0
    show B_R _ _ (18, [(3, .int (Zi (((X_at (G.2.2.1 t) i).length : Int)))), (0, .ref (P.2.2.1 t)), (1, .int (Zi i)), (2, .int (Zi ((K_ky u))))], [.int (Zi (L_at (X_at (G.2.2.1 t) i) 0))]) _ _ _
    refine Z_go (f2 := (19, [(3, .int (Zi (((X_at (G.2.2.1 t) i).length : Int)))), (0, .ref (P.2.2.1 t)), (1, .int (Zi i)), (2, .int (Zi ((K_ky u))))], [.int (Zi (((X_at (G.2.2.1 t) i).length : Int))), .int (Zi (L_at (X_at (G.2.2.1 t) i) 0))])) (fun _ => rfl) ?_
    refine Z_go (f2 := (20, [(3, .int (Zi (((X_at (G.2.2.1 t) i).length : Int)))), (0, .ref (P.2.2.1 t)), (1, .int (Zi i)), (2, .int (Zi ((K_ky u))))], [.int (Zi 1), .int (Zi (((X_at (G.2.2.1 t) i).length : Int))), .int (Zi (L_at (X_at (G.2.2.1 t) i) 0))])) (fun _ => rfl) ?_
    refine Z_cne rfl rfl (by first | exact hs.zF _ _ | exact Zor_r _ _ | exact hs.zA _ _ | assumption | exact zA _ _ | exact zS _ | exact Zr_not (hs.zA _ _) | exact hs.1.1 _ _ | exact ⟨by omega, by omega⟩) (by first | exact hs.zF _ _ | exact Zor_r _ _ | exact hs.zA _ _ | assumption | exact zA _ _ | exact zS _ | exact Zr_not (hs.zA _ _) | exact hs.1.1 _ _ | exact ⟨by omega, by omega⟩) (fun y2 => ?_) (fun y2 => ?_)
    · refine Z_go (f2 := (32, [(3, .int (Zi (((X_at (G.2.2.1 t) i).length : Int)))), (0, .ref (P.2.2.1 t)), (1, .int (Zi i)), (2, .int (Zi ((K_ky u))))], [.ref (P.2.2.1 t), .int (Zi (L_at (X_at (G.2.2.1 t) i) 0))])) (fun _ => rfl) ?_
      refine Z_go (f2 := (33, [(3, .int (Zi (((X_at (G.2.2.1 t) i).length : Int)))), (0, .ref (P.2.2.1 t)), (1, .int (Zi i)), (2, .int (Zi ((K_ky u))))], [.int (Zi i), .ref (P.2.2.1 t), .int (Zi (L_at (X_at (G.2.2.1 t) i) 0))])) (fun _ => rfl) ?_
      refine Z_go (f2 := (34, [(3, .int (Zi (((X_at (G.2.2.1 t) i).length : Int)))), (0, .ref (P.2.2.1 t)), (1, .int (Zi i)), (2, .int (Zi ((K_ky u))))], [.int (Zi 1), .int (Zi i), .ref (P.2.2.1 t), .int (Zi (L_at (X_at (G.2.2.1 t) i) 0))])) (fun _ => rfl) ?_
      refine C_callVR (As := [.int (Zi i), .int (Zi 1)]) (rest := [.int (Zi (L_at (X_at (G.2.2.1 t) i) 0))]) rfl (by decide) rfl (by decide) rfl rfl (by decide +kernel) (Nat.le_of_ble_eq_true rfl) hs (hp.tK ht) (o_sgn _ hp ht i0 i1 (k := 1) ⟨by omega, by omega⟩) (fun x q => ?_)
      obtain rfl := q
      have hat84 := hat 1
      show B_R _ _ (37, [(3, .int (Zi (((X_at (G.2.2.1 t) i).length : Int)))), (0, .ref (P.2.2.1 t)), (1, .int (Zi i)), (2, .int (Zi ((K_ky u))))], [.int (Zi (L_at (X_at (G.2.2.1 t) i) 1)), .int (Zi (L_at (X_at (G.2.2.1 t) i) 0))]) _ _ _
      refine Z_callQ (vs := [.int (Zi (L_at (X_at (G.2.2.1 t) i) 0)), .int (Zi (L_at (X_at (G.2.2.1 t) i) 1))]) (rest := []) rfl (by decide) rfl rfl rfl (Nat.le_of_ble_eq_true rfl) (C_keyOf _ (a := L_at (X_at (G.2.2.1 t) i) 0) (b := L_at (X_at (G.2.2.1 t) i) 1) (by first | exact zls | exact ⟨by omega, by omega⟩) (by first | exact zls | exact ⟨by omega, by omega⟩)) (fun x q => ?_)
      obtain rfl := q
      show B_R _ _ (40, [(3, .int (Zi (((X_at (G.2.2.1 t) i).length : Int)))), (0, .ref (P.2.2.1 t)), (1, .int (Zi i)), (2, .int (Zi ((K_ky u))))], [.int (Zi ((L_at (X_at (G.2.2.1 t) i) 0 + 1) * 257 + L_at (X_at (G.2.2.1 t) i) 1 + 1))]) _ _ _
      refine Z_iret rfl rfl (by first | rfl | decide | exact narrow_b01 (by omega)) ⟨rfl, rfl, ?_⟩
      try dsimp only
      have hne : X_at (G.2.2.1 t) i ≠ [] := fun e => by
        have := congrArg List.length e
        rw [List.length_nil] at this
        omega
      rw [K_hk hu hne]
      first | (rw [if_pos (by omega)]; done) | (rw [if_neg (by omega)]; done)
    · refine Z_go (f2 := (24, [(3, .int (Zi (((X_at (G.2.2.1 t) i).length : Int)))), (0, .ref (P.2.2.1 t)), (1, .int (Zi i)), (2, .int (Zi ((K_ky u))))], [.int (Zi ((K_ky u))), .int (Zi (L_at (X_at (G.2.2.1 t) i) 0))])) (fun _ => rfl) ?_
      refine Z_go (f2 := (25, [(3, .int (Zi (((X_at (G.2.2.1 t) i).length : Int)))), (0, .ref (P.2.2.1 t)), (1, .int (Zi i)), (2, .int (Zi ((K_ky u))))], [.int (Zi 0), .int (Zi ((K_ky u))), .int (Zi (L_at (X_at (G.2.2.1 t) i) 0))])) (fun _ => rfl) ?_
      refine Z_callQ (vs := [.int (Zi ((K_ky u))), .int (Zi 0)]) (rest := [.int (Zi (L_at (X_at (G.2.2.1 t) i) 0))]) rfl (by decide) rfl rfl rfl (Nat.le_of_ble_eq_true rfl) (C_keySign _ (a := K_ky u) (k := 0) zu ⟨by omega, by omega⟩ kr0 (by omega)) (fun x q => ?_)
      obtain rfl := q
      have zls : Zr (K_sg (K_ky u) 0) := by unfold K_sg; rw [if_pos rfl]; exact ⟨by omega, by omega⟩
      show B_R _ _ (28, [(3, .int (Zi (((X_at (G.2.2.1 t) i).length : Int)))), (0, .ref (P.2.2.1 t)), (1, .int (Zi i)), (2, .int (Zi ((K_ky u))))], [.int (Zi (K_sg (K_ky u) 0)), .int (Zi (L_at (X_at (G.2.2.1 t) i) 0))]) _ _ _
      refine Z_go (f2 := (37, [(3, .int (Zi (((X_at (G.2.2.1 t) i).length : Int)))), (0, .ref (P.2.2.1 t)), (1, .int (Zi i)), (2, .int (Zi ((K_ky u))))], [.int (Zi (K_sg (K_ky u) 0)), .int (Zi (L_at (X_at (G.2.2.1 t) i) 0))])) (fun _ => rfl) ?_
      refine Z_callQ (vs := [.int (Zi (L_at (X_at (G.2.2.1 t) i) 0)), .int (Zi (K_sg (K_ky u) 0))]) (rest := []) rfl (by decide) rfl rfl rfl (Nat.le_of_ble_eq_true rfl) (C_keyOf _ (a := L_at (X_at (G.2.2.1 t) i) 0) (b := K_sg (K_ky u) 0) (by first | exact zls | exact ⟨by omega, by omega⟩) (by first | exact zls | exact ⟨by omega, by omega⟩)) (fun x q => ?_)
      obtain rfl := q
      show B_R _ _ (40, [(3, .int (Zi (((X_at (G.2.2.1 t) i).length : Int)))), (0, .ref (P.2.2.1 t)), (1, .int (Zi i)), (2, .int (Zi ((K_ky u))))], [.int (Zi ((L_at (X_at (G.2.2.1 t) i) 0 + 1) * 257 + K_sg (K_ky u) 0 + 1))]) _ _ _
      refine Z_iret rfl rfl (by first | rfl | decide | exact narrow_b01 (by omega)) ⟨rfl, rfl, ?_⟩
      try dsimp only
      have hne : X_at (G.2.2.1 t) i ≠ [] := fun e => by
        have := congrArg List.length e
        rw [List.length_nil] at this
        omega
      rw [K_hk hu hne]
      first | (rw [if_pos (by omega)]; done) | (rw [if_neg (by omega)]; done)
  · refine Z_go (f2 := (11, [(3, .int (Zi (((X_at (G.2.2.1 t) i).length : Int)))), (0, .ref (P.2.2.1 t)), (1, .int (Zi i)), (2, .int (Zi ((K_ky u))))], [.int (Zi ((K_ky u)))])) (fun _ => rfl) ?_
    refine Z_iret rfl rfl (by first | rfl | decide | exact narrow_b01 (by omega)) ⟨rfl, rfl, ?_⟩
    try dsimp only
    have e0 : X_at (G.2.2.1 t) i = [] := List.eq_nil_of_length_eq_zero (by omega)
    rw [e0, List.nil_append, E_hd_s hu.1]
