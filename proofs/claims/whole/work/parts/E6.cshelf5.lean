/-! the class: Shelf: differentGrams -/
def D_un (fs : Int → Option (List Int)) (k : Nat) : List Int := match k with
  | 0 => []
  | k + 1 => match fs (k : Int) with
    | none => D_un fs k
    | some X => L_un (D_un fs k) (L_gr X)
def D_ln (fs : Int → Option (List Int)) (f : Int) : Nat := match fs f with
  | none => 0
  | some X => X.length
theorem L_un_len (b : List Int) : ∀ a : List Int, (L_un a b).length ≤ a.length + b.length
  | [] => by show b.length ≤ 0 + b.length; omega
  | x :: a => by
    have := L_un_len b a
    have h := L_ins_le (L_un a b) x
    show (L_ins x (L_un a b)).length ≤ (a.length + 1) + b.length
    omega
theorem D_un_srt (fs : Int → Option (List Int)) : ∀ k, L_srt (D_un fs k)
  | 0 => trivial
  | k + 1 => by
    unfold D_un
    cases fs (k : Int) with
    | none => exact D_un_srt fs k
    | some X => exact L_un_srt (L_gr_srt X)
theorem D_un_len (fs : Int → Option (List Int)) : ∀ k, (D_un fs k).length ≤ D_sm (D_ln fs) k
  | 0 => Nat.le_refl _
  | k + 1 => by
    have := D_un_len fs k
    show (D_un fs (k + 1)).length ≤ D_sm (D_ln fs) k + D_ln fs (k : Int)
    unfold D_un D_ln
    cases fs (k : Int) with
    | none => exact this
    | some X =>
      have h1 := L_un_len (L_gr X) (D_un fs k)
      have h2 := L_gr_len X
      show (L_un (D_un fs k) (L_gr X)).length ≤ D_sm (D_ln fs) k + X.length
      omega
theorem D_un_s1 {fs : Int → Option (List Int)} {i : Int} {X : List Int} (i0 : 0 ≤ i) (h : fs i = some X) : D_un fs (i + 1).toNat = L_un (D_un fs i.toNat) (L_gr X) := by
  rw [show (i + 1).toNat = i.toNat + 1 by omega]
  conv => lhs; unfold D_un
  rw [show ((i.toNat : Nat) : Int) = i by omega, h]
theorem D_un_s0 {fs : Int → Option (List Int)} {i : Int} (i0 : 0 ≤ i) (h : fs i = none) : D_un fs (i + 1).toNat = D_un fs i.toNat := by
  rw [show (i + 1).toNat = i.toNat + 1 by omega]
  conv => lhs; unfold D_un
  rw [show ((i.toNat : Nat) : Int) = i by omega, h]
theorem D_sm_mono (φ : Int → Nat) {j k : Nat} (h : j ≤ k) : D_sm φ j ≤ D_sm φ k := by
  induction h with
  | refl => exact Nat.le_refl _
  | step _ ih => exact Nat.le_trans ih (Nat.le_add_right _ _)
/-- the spare row is filled, and the two change places -/
theorem D_Sh.swap {s w2 : C_S} {p : List Nat} {o ea u v : Nat} {fs : Int → Option (List Int)} {ca th tg : Int} {a cap a2 cap2 : Nat} {xs ys : List Int} (hd : D_Sh s p o ea u v fs ca th tg) (w : C_wf s) (hr : D_Row s (p ++ [v]) v a cap xs) (hr2 : D_Row w2 (p ++ [v]) v a2 cap2 ys) (k : C_fr (fun t => t = p ++ [v]) s w2) (hc : cap2 ≤ 33000) : D_Sh (C_sP (C_sP w2 o 2 (some u)) o 1 (some v)) p o ea v u fs ca th tg ∧ D_Row (C_sP (C_sP w2 o 2 (some u)) o 1 (some v)) (p ++ [v]) v a2 cap2 ys ∧ D_ps (C_sP (C_sP w2 o 2 (some u)) o 1 (some v)) o + cap = D_ps s o + cap2 := by
  have hd0 := hd
  obtain ⟨⟨ok, ot, oe, ou, ov, ek, et, oc, oh, og, ca0, ca1, uv⟩, g1, g2, g3, g4⟩ := hd
  have lo := C_lt w ok (show 16 < 20 by decide)
  have le := C_lt w ek (show 6 < 20 by decide)
  have no : ¬ C_T s o = p ++ [v] := fun h => by rw [ot] at h; exact L_app_ne p v h
  have ne : ¬ C_T s ea = p ++ [v] := fun h => by rw [et] at h; exact L_app_ne p v h
  obtain ⟨x1, x2, x3, x4, x5⟩ := k.2.2.1 o lo no
  obtain ⟨b1, b2, b3, b4, b5⟩ := k.2.2.1 ea le ne
  have ot2 : C_T w2 o = p := (k.2.1 o lo).2.trans ot
  have kf : C_fr (fun t => t = p) w2 (C_sP (C_sP w2 o 2 (some u)) o 1 (some v)) := ((C_fr.refl _ w2).sP ot2).sP ot2
  have kk : C_fr (fun t => t = p ∨ t = p ++ [v]) s (C_sP (C_sP w2 o 2 (some u)) o 1 (some v)) := k.trans kf (fun _ e => .inr e) (fun _ e => .inl e)
  have hrF : D_Row (C_sP (C_sP w2 o 2 (some u)) o 1 (some v)) (p ++ [v]) v a2 cap2 ys := by
    obtain ⟨r1, r2, r3, r4, r5, r6, r7, r8, r9⟩ := hr2
    have nov : v ≠ o := fun z => by rw [z, ot2] at r2; exact L_app_ne p _ r2
    exact ⟨r1, r2, (if_neg (fun e => nov e.1)).trans ((if_neg (fun e => nov e.1)).trans r3), r4, r5, r6, r7, r8, r9⟩
  have q3 := g3.fr w kk (fun h => by rcases h with h | h; exact L_app_ne p u h.symm; exact L_app_ne2 uv h)
  refine ⟨⟨⟨by rw [← ok]; exact (k.2.1 o lo).1, ot2, ?_, if_pos ⟨rfl, rfl⟩, ?_, by rw [← ek]; exact (k.2.1 ea le).1, by rw [← et]; exact (k.2.1 ea le).2, by rw [← oc]; exact congrFun x1 3, by rw [← oh]; exact congrFun x1 4, by rw [← og]; exact congrFun x1 5, ca0, ca1, fun e => uv e.symm⟩, fun i j0 j1 => ?_, fun i j a1 a2 b1' b2' e2 q1 q2 => ?_, ⟨a2, cap2, ys, hrF, hc⟩, q3.1⟩, hrF, ?_⟩
  · show (if o = o ∧ 0 = 1 then _ else if o = o ∧ 0 = 2 then _ else C_P w2 o 0) = _
    rw [if_neg (by omega), if_neg (by omega), x2]; exact oe
  · show (if o = o ∧ 2 = 1 then _ else if o = o ∧ 2 = 2 then _ else C_P w2 o 2) = _
    rw [if_neg (by omega), if_pos ⟨rfl, rfl⟩]
  · refine (g1 i j0 j1).fr w kk (fun e he t ht h => ?_) (congrFun b5 i)
    rcases h with h | h
    · exact L_pre_ne ht h
    · rw [h] at ht
      obtain ⟨r, hr9⟩ := ht
      rw [List.append_assoc] at hr9
      have := (List.cons.inj (List.append_cancel_left hr9)).1
      rcases g1 i j0 j1 with ⟨h1, _⟩ | ⟨e3, ba, g, a3, cap3, X, h1, h2, h3, h4⟩
      · rw [h1] at he; cases he
      · have e9 := Option.some.inj (h1.symm.trans he)
        have kv := hr.1
        rw [← this, ← e9] at kv
        have := h3.1
        rw [kv] at this
        cases this
  · have q1 : C_Q w2 ea i = some e2 := q1
    have q2 : C_Q w2 ea j = some e2 := q2
    rw [b5] at q1 q2
    exact g2 i j a1 a2 b1' b2' e2 q1 q2
  · have hP1 : C_P (C_sP (C_sP w2 o 2 (some u)) o 1 (some v)) o 1 = some v := if_pos ⟨rfl, rfl⟩
    have hP2 : C_P (C_sP (C_sP w2 o 2 (some u)) o 1 (some v)) o 2 = some u := by
      show (if o = o ∧ 2 = 1 then _ else if o = o ∧ 2 = 2 then _ else C_P w2 o 2) = _
      rw [if_neg (by omega), if_pos ⟨rfl, rfl⟩]
    unfold D_ps
    rw [hP1, hP2, hrF.rw, q3.2, ou, ov, hr.rw]
    omega
theorem C_dif_lp {d : Nat} {h0 : E_H} {s : C_S} {p : List Nat} {o ea : Nat} {fs : Int → Option (List Int)} {ca th tg : Int} (hsm : D_sm (D_ln fs) ca.toNat ≤ 16000) : ∀ (t : Nat) (i : Int) (s9 : C_S) (u v : Nat) (h : E_H) (sl : Nat), ca - i < t → 0 ≤ i → i ≤ ca → C_is h0 h s9 → D_Sh s9 p o ea u v fs ca th tg → (∃ a cap, D_Row s9 (p ++ [u]) u a cap (D_un fs i.toNat)) → sl + 2 * D_ps s o ≤ 2 * D_ps s9 o → 8 * C_n s9 + D_ps s o ≤ 8 * C_n s + D_ps s9 o → C_fr (fun t => p <+: t) s s9 → B_R (d + 4) E_m107 (9, [(1, .int (Zi i)), (0, .ref o)], []) h sl (fun r => ∃ s2 : C_S, C_is h0 r.2.1 s2 ∧ (fun (x : Option Value) (s2 : C_S) (n : Nat) => x = some (.int (Zi ((D_un fs ca.toNat).length))) ∧ (∃ u v, D_Sh s2 p o ea u v fs ca th tg) ∧ n + 2 * D_ps s o ≤ 2 * D_ps s2 o ∧ 8 * C_n s2 + D_ps s o ≤ 8 * C_n s + D_ps s2 o ∧ C_fr (fun t => p <+: t) s s2) r.1 s2 r.2.2) := by
  intro t
  induction t with
  | zero => intro i s9 u v h sl ht i0 i1 hs hd hI n1 n2 fr; omega
  | succ t ih =>
    intro i s9 u v h sl ht i0 i1 hs hd hI n1 n2 fr
    have hd0 := hd
    have w := hs.1
    obtain ⟨⟨ok, ot, oe, ou, ov, ek, et, oc, oh, og, ca0, ca1, uv⟩, g1, g2, g3, g4⟩ := hd
    have zc : Zr ca := ⟨by omega, by omega⟩
    have zf : Zr i := ⟨by omega, by omega⟩
    obtain ⟨ua, uc, hru⟩ := hI
    have zru := D_Row.zr hs hru
    obtain ⟨va, vc, vxs, hrv, hvc⟩ := id g4
    have hUl := D_un_len fs i.toNat
    have hUm := D_sm_mono (D_ln fs) (show i.toNat ≤ ca.toNat by omega)
    have nvu : p ++ [v] ≠ p ++ [u] := L_app_ne2 (fun e => uv e.symm)
    by_cases hi2 : i < ca
    · rcases hd0.one i with ⟨e, ba, g, a, cap, X, hi, hq, he, hx, hcap⟩ | ⟨hn, hno⟩
      · have hl := L_gr_len X
        have hs1 : D_sm (D_ln fs) (i + 1).toNat = D_sm (D_ln fs) i.toNat + X.length := by rw [D_sm_s i0]; unfold D_ln; rw [hi.2.2]
        have hs2 := D_sm_mono (D_ln fs) (show (i + 1).toNat ≤ ca.toNat by omega)
        have nvg : p ++ [v] ≠ p ++ [e] ++ [g] := fun h9 => by have := congrArg List.length h9; simp at this
        refine Z_go (f2 := (10, [(1, .int (Zi i)), (0, .ref o)], [.int (Zi i)])) (fun _ => rfl) ?_
        refine Z_go (f2 := (11, [(1, .int (Zi i)), (0, .ref o)], [.ref o, .int (Zi i)])) (fun _ => rfl) ?_
        refine C_gi rfl hs ok (by decide) (Nat.le_of_ble_eq_true rfl) rfl ?_
        rw [show C_F (s9) o 3 = ca from (by first | exact oc | exact (if_neg (fun e => absurd e.1 (by assumption))).trans oc | exact (if_neg (fun e => absurd e.2 (by decide))).trans oc | exact (if_neg (fun e => absurd e.2 (by decide))).trans ((if_neg (fun e => absurd e.2 (by decide))).trans oc) | exact (if_neg (fun e => absurd e.2 (by decide))).trans ((if_neg (fun e => absurd e.2 (by decide))).trans ((if_neg (fun e => absurd e.2 (by decide))).trans oc)))]
        show B_R _ _ (14, [(1, .int (Zi i)), (0, .ref o)], [.int (Zi ca), .int (Zi i)]) _ _ _
        refine Z_cge rfl rfl (by first | exact hs.zF _ _ | exact Zor_r _ _ | exact hs.zA _ _ | assumption | exact zA _ _ | exact zS _ | exact Zr_not (hs.zA _ _) | exact hs.1.1 _ _ | exact ⟨by omega, by omega⟩) (by first | exact hs.zF _ _ | exact Zor_r _ _ | exact hs.zA _ _ | assumption | exact zA _ _ | exact zS _ | exact Zr_not (hs.zA _ _) | exact hs.1.1 _ _ | exact ⟨by omega, by omega⟩) (fun c1 => ?_) (fun c1 => ?_)
        · refine Z_go (f2 := (67, [(1, .int (Zi i)), (0, .ref o)], [.ref o])) (fun _ => rfl) ?_
          refine C_gr rfl hs ok (by decide) (Nat.le_of_ble_eq_true rfl) rfl ou ?_
          refine C_gi rfl hs hru.1 (by decide) (Nat.le_of_ble_eq_true rfl) rfl ?_
          rw [show C_F (s9) u 1 = ((D_un fs i.toNat).length : Int) from (by first | exact hru.2.2.2.2.2.1 | exact (if_neg (fun e => absurd e.1 (by assumption))).trans hru.2.2.2.2.2.1 | exact (if_neg (fun e => absurd e.2 (by decide))).trans hru.2.2.2.2.2.1 | exact (if_neg (fun e => absurd e.2 (by decide))).trans ((if_neg (fun e => absurd e.2 (by decide))).trans hru.2.2.2.2.2.1) | exact (if_neg (fun e => absurd e.2 (by decide))).trans ((if_neg (fun e => absurd e.2 (by decide))).trans ((if_neg (fun e => absurd e.2 (by decide))).trans hru.2.2.2.2.2.1)))]
          show B_R _ _ (73, [(1, .int (Zi i)), (0, .ref o)], [.int (Zi (((D_un fs i.toNat).length : Int)))]) _ _ _
          refine Z_iret rfl rfl (by first | rfl | decide | exact narrow_b01 (by omega)) ⟨_, hs, ?_⟩
          try dsimp only
          exfalso; omega
        · refine Z_go (f2 := (18, [(1, .int (Zi i)), (0, .ref o)], [.ref o])) (fun _ => rfl) ?_
          refine Z_go (f2 := (19, [(1, .int (Zi i)), (0, .ref o)], [.int (Zi i), .ref o])) (fun _ => rfl) ?_
          refine C_callVR (As := [.int (Zi i)]) (rest := []) rfl (by decide) rfl (by decide) rfl rfl (by decide +kernel) (Nat.le_of_ble_eq_true rfl) hs ok (C_find1 _ hd0 (by omega) (by omega) hq) (fun x q => ?_)
          obtain rfl := q
          show B_R _ _ (22, [(1, .int (Zi i)), (0, .ref o)], [.ref e]) _ _ _
          refine Z_go (f2 := (23, [(2, .ref e), (1, .int (Zi i)), (0, .ref o)], [])) (fun _ => rfl) ?_
          refine Z_go (f2 := (24, [(2, .ref e), (1, .int (Zi i)), (0, .ref o)], [.ref e])) (fun _ => rfl) ?_
          refine Z_go (f2 := (27, [(2, .ref e), (1, .int (Zi i)), (0, .ref o)], [])) (fun _ => rfl) ?_
          refine Z_go (f2 := (28, [(2, .ref e), (1, .int (Zi i)), (0, .ref o)], [.ref o])) (fun _ => rfl) ?_
          refine C_gr rfl hs ok (by decide) (Nat.le_of_ble_eq_true rfl) rfl ov ?_
          refine Z_go (f2 := (32, [(2, .ref e), (1, .int (Zi i)), (0, .ref o)], [.ref o, .ref v])) (fun _ => rfl) ?_
          refine C_gr rfl hs ok (by decide) (Nat.le_of_ble_eq_true rfl) rfl ou ?_
          refine Z_go (f2 := (36, [(2, .ref e), (1, .int (Zi i)), (0, .ref o)], [.ref e, .ref u, .ref v])) (fun _ => rfl) ?_
          refine C_gr rfl hs he.1 (by decide) (Nat.le_of_ble_eq_true rfl) rfl he.2.2.2.1 ?_
          refine C_callV (As := [.ref u, .ref g]) (rest := []) rfl (by decide) rfl (by decide) rfl rfl (by decide +kernel) (Nat.le_of_ble_eq_true rfl) hs hrv.1 (C_fill _ hrv hru he.2.2.2.2.2.2.2.2 (D_un_srt fs _) (L_gr_srt X) nvu nvg (by omega)) (fun x h w9 n9 hs q => ?_)
          obtain ⟨rfl, a9, c9, r9, f9, e1, e2, e3⟩ := q
          have lo := C_lt w ok (show 16 < 20 by decide)
          have no : ¬ C_T s9 o = p ++ [v] := fun h => by rw [ot] at h; exact L_app_ne p v h
          obtain ⟨x1, x2, x3, x4, x5⟩ := f9.2.2.1 o lo no
          have ok2 := (f9.2.1 o lo).1.trans ok
          have oe2 := (congrFun x2 0).trans oe
          have ou2 := (congrFun x2 1).trans ou
          have ov2 := (congrFun x2 2).trans ov
          show B_R _ _ (42, [(2, .ref e), (1, .int (Zi i)), (0, .ref o)], []) _ _ _
          refine Z_go (f2 := (43, [(2, .ref e), (1, .int (Zi i)), (0, .ref o)], [.ref o])) (fun _ => rfl) ?_
          refine C_gr rfl hs ok2 (by decide) (Nat.le_of_ble_eq_true rfl) rfl ov2 ?_
          refine Z_go (f2 := (47, [(3, .ref v), (2, .ref e), (1, .int (Zi i)), (0, .ref o)], [])) (fun _ => rfl) ?_
          refine Z_go (f2 := (48, [(3, .ref v), (2, .ref e), (1, .int (Zi i)), (0, .ref o)], [.ref o])) (fun _ => rfl) ?_
          refine Z_go (f2 := (49, [(3, .ref v), (2, .ref e), (1, .int (Zi i)), (0, .ref o)], [.ref o, .ref o])) (fun _ => rfl) ?_
          refine C_gr rfl hs ok2 (by decide) (Nat.le_of_ble_eq_true rfl) rfl ou2 ?_
          refine C_pr rfl hs (r := some u) rfl ok2 (by decide) (Nat.le_of_ble_eq_true rfl) (.inl rfl) rfl (fun h hs => ?_)
          refine Z_go (f2 := (56, [(3, .ref v), (2, .ref e), (1, .int (Zi i)), (0, .ref o)], [.ref o])) (fun _ => rfl) ?_
          refine Z_go (f2 := (57, [(3, .ref v), (2, .ref e), (1, .int (Zi i)), (0, .ref o)], [.ref v, .ref o])) (fun _ => rfl) ?_
          refine C_pr rfl hs (r := some v) rfl ok2 (by decide) (Nat.le_of_ble_eq_true rfl) (.inl rfl) rfl (fun h hs => ?_)
          refine Z_iinc (L2 := [(1, .int (Zi (i + 1))), (3, .ref v), (2, .ref e), (0, .ref o)]) rfl rfl (by decide) rfl ?_
          refine Z_go (f2 := (9, [(1, .int (Zi (i + 1))), (3, .ref v), (2, .ref e), (0, .ref o)], [])) (fun _ => rfl) ?_
          have hS := hd0.swap w hrv r9 f9 (by omega)
          refine B_loc (K := [(1, .int (Zi (i + 1))), (0, .ref o)]) (N_all_sub ⟨rfl, rfl, trivial⟩) (show ([1, 0] : List Nat).Nodup by decide) ?_
          refine ih (i + 1) _ v u h _ (by omega) (by omega) (by omega) hs hS.1 ⟨a9, c9, by rw [D_un_s1 i0 hi.2.2]; exact hS.2.1⟩ (by omega) (by show 8 * C_n w9 + _ ≤ _; omega) ?_
          have tO : C_T w9 o = p := (f9.2.1 o lo).2.trans ot
          exact ((fr.trans f9 (fun t e => e) (fun t e => by rw [e]; exact L_pre_one p v)).sP (by show p <+: C_T w9 o; rw [tO]; exact L_pre_self p)).sP (by show p <+: C_T w9 o; rw [tO]; exact L_pre_self p)
      · refine Z_go (f2 := (10, [(1, .int (Zi i)), (0, .ref o)], [.int (Zi i)])) (fun _ => rfl) ?_
        refine Z_go (f2 := (11, [(1, .int (Zi i)), (0, .ref o)], [.ref o, .int (Zi i)])) (fun _ => rfl) ?_
        refine C_gi rfl hs ok (by decide) (Nat.le_of_ble_eq_true rfl) rfl ?_
        rw [show C_F (s9) o 3 = ca from (by first | exact oc | exact (if_neg (fun e => absurd e.1 (by assumption))).trans oc | exact (if_neg (fun e => absurd e.2 (by decide))).trans oc | exact (if_neg (fun e => absurd e.2 (by decide))).trans ((if_neg (fun e => absurd e.2 (by decide))).trans oc) | exact (if_neg (fun e => absurd e.2 (by decide))).trans ((if_neg (fun e => absurd e.2 (by decide))).trans ((if_neg (fun e => absurd e.2 (by decide))).trans oc)))]
        show B_R _ _ (14, [(1, .int (Zi i)), (0, .ref o)], [.int (Zi ca), .int (Zi i)]) _ _ _
        refine Z_cge rfl rfl (by first | exact hs.zF _ _ | exact Zor_r _ _ | exact hs.zA _ _ | assumption | exact zA _ _ | exact zS _ | exact Zr_not (hs.zA _ _) | exact hs.1.1 _ _ | exact ⟨by omega, by omega⟩) (by first | exact hs.zF _ _ | exact Zor_r _ _ | exact hs.zA _ _ | assumption | exact zA _ _ | exact zS _ | exact Zr_not (hs.zA _ _) | exact hs.1.1 _ _ | exact ⟨by omega, by omega⟩) (fun c1 => ?_) (fun c1 => ?_)
        · refine Z_go (f2 := (67, [(1, .int (Zi i)), (0, .ref o)], [.ref o])) (fun _ => rfl) ?_
          refine C_gr rfl hs ok (by decide) (Nat.le_of_ble_eq_true rfl) rfl ou ?_
          refine C_gi rfl hs hru.1 (by decide) (Nat.le_of_ble_eq_true rfl) rfl ?_
          rw [show C_F (s9) u 1 = ((D_un fs i.toNat).length : Int) from (by first | exact hru.2.2.2.2.2.1 | exact (if_neg (fun e => absurd e.1 (by assumption))).trans hru.2.2.2.2.2.1 | exact (if_neg (fun e => absurd e.2 (by decide))).trans hru.2.2.2.2.2.1 | exact (if_neg (fun e => absurd e.2 (by decide))).trans ((if_neg (fun e => absurd e.2 (by decide))).trans hru.2.2.2.2.2.1) | exact (if_neg (fun e => absurd e.2 (by decide))).trans ((if_neg (fun e => absurd e.2 (by decide))).trans ((if_neg (fun e => absurd e.2 (by decide))).trans hru.2.2.2.2.2.1)))]
          show B_R _ _ (73, [(1, .int (Zi i)), (0, .ref o)], [.int (Zi (((D_un fs i.toNat).length : Int)))]) _ _ _
          refine Z_iret rfl rfl (by first | rfl | decide | exact narrow_b01 (by omega)) ⟨_, hs, ?_⟩
          try dsimp only
          exfalso; omega
        · refine Z_go (f2 := (18, [(1, .int (Zi i)), (0, .ref o)], [.ref o])) (fun _ => rfl) ?_
          refine Z_go (f2 := (19, [(1, .int (Zi i)), (0, .ref o)], [.int (Zi i), .ref o])) (fun _ => rfl) ?_
          refine C_callVR (As := [.int (Zi i)]) (rest := []) rfl (by decide) rfl (by decide) rfl rfl (by decide +kernel) (Nat.le_of_ble_eq_true rfl) hs ok (C_find0 _ hd0 hn zf) (fun x q => ?_)
          obtain rfl := q
          show B_R _ _ (22, [(1, .int (Zi i)), (0, .ref o)], [.null]) _ _ _
          refine Z_go (f2 := (23, [(2, .null), (1, .int (Zi i)), (0, .ref o)], [])) (fun _ => rfl) ?_
          refine Z_go (f2 := (24, [(2, .null), (1, .int (Zi i)), (0, .ref o)], [.null])) (fun _ => rfl) ?_
          refine Z_go (f2 := (60, [(2, .null), (1, .int (Zi i)), (0, .ref o)], [])) (fun _ => rfl) ?_
          refine Z_iinc (L2 := [(1, .int (Zi (i + 1))), (2, .null), (0, .ref o)]) rfl rfl (by decide) rfl ?_
          refine Z_go (f2 := (9, [(1, .int (Zi (i + 1))), (2, .null), (0, .ref o)], [])) (fun _ => rfl) ?_
          have hN : fs i = none := by
            cases e : fs i with
            | none => rfl
            | some X => exact absurd ⟨i0, hi2, e⟩ (hno X)
          refine B_loc (K := [(1, .int (Zi (i + 1))), (0, .ref o)]) (N_all_sub ⟨rfl, rfl, trivial⟩) (show ([1, 0] : List Nat).Nodup by decide) ?_
          exact ih (i + 1) _ u v h _ (by omega) (by omega) (by omega) hs hd0 ⟨ua, uc, by rw [D_un_s0 i0 hN]; exact hru⟩ n1 n2 fr
    · have hn : i < 0 ∨ ca ≤ i ∨ C_Q s9 ea i = none := by omega
      refine Z_go (f2 := (10, [(1, .int (Zi i)), (0, .ref o)], [.int (Zi i)])) (fun _ => rfl) ?_
      refine Z_go (f2 := (11, [(1, .int (Zi i)), (0, .ref o)], [.ref o, .int (Zi i)])) (fun _ => rfl) ?_
      refine C_gi rfl hs ok (by decide) (Nat.le_of_ble_eq_true rfl) rfl ?_
      rw [show C_F (s9) o 3 = ca from (by first | exact oc | exact (if_neg (fun e => absurd e.1 (by assumption))).trans oc | exact (if_neg (fun e => absurd e.2 (by decide))).trans oc | exact (if_neg (fun e => absurd e.2 (by decide))).trans ((if_neg (fun e => absurd e.2 (by decide))).trans oc) | exact (if_neg (fun e => absurd e.2 (by decide))).trans ((if_neg (fun e => absurd e.2 (by decide))).trans ((if_neg (fun e => absurd e.2 (by decide))).trans oc)))]
      show B_R _ _ (14, [(1, .int (Zi i)), (0, .ref o)], [.int (Zi ca), .int (Zi i)]) _ _ _
      refine Z_cge rfl rfl (by first | exact hs.zF _ _ | exact Zor_r _ _ | exact hs.zA _ _ | assumption | exact zA _ _ | exact zS _ | exact Zr_not (hs.zA _ _) | exact hs.1.1 _ _ | exact ⟨by omega, by omega⟩) (by first | exact hs.zF _ _ | exact Zor_r _ _ | exact hs.zA _ _ | assumption | exact zA _ _ | exact zS _ | exact Zr_not (hs.zA _ _) | exact hs.1.1 _ _ | exact ⟨by omega, by omega⟩) (fun c1 => ?_) (fun c1 => ?_)
      · refine Z_go (f2 := (67, [(1, .int (Zi i)), (0, .ref o)], [.ref o])) (fun _ => rfl) ?_
        refine C_gr rfl hs ok (by decide) (Nat.le_of_ble_eq_true rfl) rfl ou ?_
        refine C_gi rfl hs hru.1 (by decide) (Nat.le_of_ble_eq_true rfl) rfl ?_
        rw [show C_F (s9) u 1 = ((D_un fs i.toNat).length : Int) from (by first | exact hru.2.2.2.2.2.1 | exact (if_neg (fun e => absurd e.1 (by assumption))).trans hru.2.2.2.2.2.1 | exact (if_neg (fun e => absurd e.2 (by decide))).trans hru.2.2.2.2.2.1 | exact (if_neg (fun e => absurd e.2 (by decide))).trans ((if_neg (fun e => absurd e.2 (by decide))).trans hru.2.2.2.2.2.1) | exact (if_neg (fun e => absurd e.2 (by decide))).trans ((if_neg (fun e => absurd e.2 (by decide))).trans ((if_neg (fun e => absurd e.2 (by decide))).trans hru.2.2.2.2.2.1)))]
        show B_R _ _ (73, [(1, .int (Zi i)), (0, .ref o)], [.int (Zi (((D_un fs i.toNat).length : Int)))]) _ _ _
        refine Z_iret rfl rfl (by first | rfl | decide | exact narrow_b01 (by omega)) ⟨_, hs, ?_⟩
        try dsimp only
        have ei : i = ca := by omega
        subst ei
        exact ⟨rfl, ⟨u, v, hd0⟩, n1, n2, fr⟩
      · refine Z_go (f2 := (18, [(1, .int (Zi i)), (0, .ref o)], [.ref o])) (fun _ => rfl) ?_
        refine Z_go (f2 := (19, [(1, .int (Zi i)), (0, .ref o)], [.int (Zi i), .ref o])) (fun _ => rfl) ?_
        refine C_callVR (As := [.int (Zi i)]) (rest := []) rfl (by decide) rfl (by decide) rfl rfl (by decide +kernel) (Nat.le_of_ble_eq_true rfl) hs ok (C_find0 _ hd0 hn zf) (fun x q => ?_)
        obtain rfl := q
        show B_R _ _ (22, [(1, .int (Zi i)), (0, .ref o)], [.null]) _ _ _
        refine Z_go (f2 := (23, [(2, .null), (1, .int (Zi i)), (0, .ref o)], [])) (fun _ => rfl) ?_
        refine Z_go (f2 := (24, [(2, .null), (1, .int (Zi i)), (0, .ref o)], [.null])) (fun _ => rfl) ?_
        refine Z_go (f2 := (60, [(2, .null), (1, .int (Zi i)), (0, .ref o)], [])) (fun _ => rfl) ?_
        refine Z_iinc (L2 := [(1, .int (Zi (i + 1))), (2, .null), (0, .ref o)]) rfl rfl (by decide) rfl ?_
        refine Z_go (f2 := (9, [(1, .int (Zi (i + 1))), (2, .null), (0, .ref o)], [])) (fun _ => rfl) ?_
        exfalso; omega
theorem C_dif (d : Nat) {s : C_S} {p : List Nat} {o ea u0 v0 : Nat} {fs : Int → Option (List Int)} {ca th tg : Int} (hd : D_Sh s p o ea u0 v0 fs ca th tg) (hsm : D_sm (D_ln fs) ca.toNat ≤ 16000) : C_ok (d + 5) 107 [.ref o] s (fun x s2 n => x = some (.int (Zi ((D_un fs ca.toNat).length))) ∧ (∃ u v, D_Sh s2 p o ea u v fs ca th tg) ∧ n + 2 * D_ps s o ≤ 2 * D_ps s2 o ∧ 8 * C_n s2 + D_ps s o ≤ 8 * C_n s + D_ps s2 o ∧ C_fr (fun t => p <+: t) s s2) := by
  refine C_enter (M := E_m107) rfl (Nat.le_of_ble_eq_true rfl) (fun h0 h hs => ?_)
  show B_R (d + 4) _ (0, [(0, .ref o)], []) _ _ _
  have hd0 := hd
  have w := hs.1
  obtain ⟨⟨ok, ot, oe, ou, ov, ek, et, oc, oh, og, ca0, ca1, uv⟩, g1, g2, g3, g4⟩ := hd
  obtain ⟨ua, uc, uxs, hru, huc⟩ := id g3
  have lo := C_lt w ok (show 16 < 20 by decide)
  refine Z_go (f2 := (1, [(0, .ref o)], [.ref o])) (fun _ => rfl) ?_
  refine C_gr rfl hs ok (by decide) (Nat.le_of_ble_eq_true rfl) rfl ou ?_
  refine C_callV (As := []) (rest := []) rfl (by decide) rfl (by decide) rfl rfl (by decide +kernel) (Nat.le_of_ble_eq_true rfl) hs hru.1 (C_clear _ hru) (fun x h s9 n9 hs q => ?_)
  obtain ⟨rfl, rfl, r9, f9, e9⟩ := q
  show B_R _ _ (7, [(0, .ref o)], []) _ _ _
  refine Z_go (f2 := (8, [(0, .ref o)], [.int (Zi 0)])) (fun _ => rfl) ?_
  refine Z_go (f2 := (9, [(1, .int (Zi 0)), (0, .ref o)], [])) (fun _ => rfl) ?_
  have hS : D_Sh s9 p o ea u0 v0 fs ca th tg ∧ D_ps s9 o = D_ps s o := by
    have no : ¬ C_T s o = p ++ [u0] := fun h => by rw [ot] at h; exact L_app_ne p u0 h
    have ne : ¬ C_T s ea = p ++ [u0] := fun h => by rw [et] at h; exact L_app_ne p u0 h
    have le := C_lt w ek (show 6 < 20 by decide)
    obtain ⟨x1, x2, x3, x4, x5⟩ := f9.2.2.1 o lo no
    obtain ⟨b1, b2, b3, b4, b5⟩ := f9.2.2.1 ea le ne
    have q4 := g4.fr w f9 (fun h => L_app_ne2 (fun e => uv e.symm) h)
    refine ⟨⟨⟨by rw [← ok]; exact (f9.2.1 o lo).1, by rw [← ot]; exact (f9.2.1 o lo).2, by rw [x2]; exact oe, by rw [x2]; exact ou, by rw [x2]; exact ov, by rw [← ek]; exact (f9.2.1 ea le).1, by rw [← et]; exact (f9.2.1 ea le).2, by rw [x1]; exact oc, by rw [x1]; exact oh, by rw [x1]; exact og, ca0, ca1, uv⟩, fun i j0 j1 => ?_, fun i j a1 a2 b1' b2' e2 q1 q2 => ?_, ⟨ua, uc, [], r9, huc⟩, q4.1⟩, ?_⟩
    · refine (g1 i j0 j1).fr w f9 (fun e he t ht h => ?_) (congrFun b5 i)
      rw [h] at ht
      obtain ⟨r, hr9⟩ := ht
      rw [List.append_assoc] at hr9
      have := (List.cons.inj (List.append_cancel_left hr9)).1
      rcases g1 i j0 j1 with ⟨h1, _⟩ | ⟨e3, ba, g, a3, cap3, X, h1, h2, h3, h4⟩
      · rw [h1] at he; cases he
      · have e9 := Option.some.inj (h1.symm.trans he)
        have kv := hru.1
        rw [← this, ← e9] at kv
        have := h3.1
        rw [kv] at this
        cases this
    · rw [b5] at q1 q2
      exact g2 i j a1 a2 b1' b2' e2 q1 q2
    · unfold D_ps
      rw [x2, ou, ov, q4.2, r9.rw, hru.rw]
  refine B_loc (K := [(1, .int (Zi 0)), (0, .ref o)]) (N_all_sub ⟨rfl, rfl, trivial⟩) (show ([1, 0] : List Nat).Nodup by decide) ?_
  exact C_dif_lp hsm (ca.toNat + 1) 0 s9 u0 v0 h 0 (by omega) (by omega) (by omega) hs hS.1 ⟨ua, uc, r9⟩ (by omega) (by omega) (f9.weak (fun t e => by rw [e]; exact L_pre_one p u0))
