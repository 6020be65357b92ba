/-! the reference: behind -/
theorem R_j40.vk {s u : R_S} (h : R_j40 s u) : R_vk s u (fun e => e = 40) := by
  refine ⟨⟨fun b _ => congrFun h.1.1 b, fun q hq j => h.1.2.1 q j (fun e => hq (by simp at e ⊢; omega)), h.1.2.2⟩, fun q q0 q1 j hj => ?_⟩
  by_cases c6 : q = 96
  · subst c6
    exact h.2.1 j (fun e => hj (by show _ / (1 : Int) = 40; rw [Int.ediv_one]; exact e))
  · by_cases c7 : q = 97
    · subst c7
      exact h.2.2.1 j (fun e => hj (by show _ / (1 : Int) = 40; rw [Int.ediv_one]; exact e))
    · by_cases c8 : q = 98
      · subst c8
        exact h.2.2.2.1 j (fun e => hj (by show _ / (8 : Int) = 40; omega))
      · by_cases c9 : q = 99
        · subst c9
          exact h.2.2.2.2 j (fun e => hj (by show _ / (480 : Int) = 40; omega))
        · exact h.1.2.1 q j (by simp; omega)
theorem R_behind (d : Nat) (s : R_S) {p q : Int} {v w : P_V} (zp : Zr p) (zq : Zr q) (p0 : 0 ≤ p) (p1 : p < 40) (q0 : 0 ≤ q) (q1 : q < 40) (ne : p ≠ q) (hp : R_V s p v) (hq : R_V s q w) (fv : V_fix v) (fw : V_fix w) (hb1 : ∀ x y, V_C v x → V_C w y → (L_un x y).length ≤ 640) (hb2 : ∀ x y, F_both (V_C v) (V_C w) x → F_least (F_im2 (fun t h => L_gr (t ++ h)) (V_T v) (V_H w)) y → (L_un x y).length ≤ 640) : R_ok (d + 7) 243 [.int (Zi p), .int (Zi q)] s (fun x s2 => x = none ∧ R_V s2 p (V_beh v w) ∧ R_V s2 q w ∧ R_vk s s2 (R_bK p q)) := by
  refine R_enter (M := E_m243) rfl (Nat.le_of_ble_eq_true rfl) (fun h0 h hs => ?_)
  show B_R (d + 6) _ (0, [(0, .ref 83), (1, .int (Zi p)), (2, .int (Zi q))], []) _ _ _
  match v, w, hp, hq, fv, fw, hb1, hb2 with
  | .inr x, .inr y, hp, hq, fv, fw, hb1, hb2 =>
    have f1 := hp.1
    have f2 := hq.1
    refine Z_go (f2 := (1, [(0, .ref 83), (1, .int (Zi p)), (2, .int (Zi q))], [.ref 83])) (fun _ => rfl) ?_
    refine R_gr (q := 94) rfl hs rfl ?_
    show B_R _ _ (4, [(0, .ref 83), (1, .int (Zi p)), (2, .int (Zi q))], [.ref 96]) _ _ _
    refine Z_go (f2 := (5, [(0, .ref 83), (1, .int (Zi p)), (2, .int (Zi q))], [.int (Zi p), .ref 96])) (fun _ => rfl) ?_
    refine R_ba (q := 12) rfl hs rfl rfl (by omega) (by omega) (by decide) ?_
    refine Z_ieq rfl rfl (by first | exact hs.zF _ | exact Zor_r _ _ | exact hs.zA _ _ | assumption | exact zA _ _ | exact zS _ | exact Zr_not (hs.zA _ _) | exact ⟨by omega, by omega⟩) (fun c1 => ?_) (fun c1 => ?_)
    · exact R_be_35 p0 p1 q0 q1 ne hp hq fv fw hb1 hb2 (fun u h hs hv hv2 hk => ⟨_, hs, ⟨rfl, hv, hv2, hk⟩, rfl⟩) h hs
    · refine Z_go (f2 := (10, [(0, .ref 83), (1, .int (Zi p)), (2, .int (Zi q))], [.ref 83])) (fun _ => rfl) ?_
      refine R_gr (q := 94) rfl hs rfl ?_
      show B_R _ _ (13, [(0, .ref 83), (1, .int (Zi p)), (2, .int (Zi q))], [.ref 96]) _ _ _
      refine Z_go (f2 := (14, [(0, .ref 83), (1, .int (Zi p)), (2, .int (Zi q))], [.int (Zi q), .ref 96])) (fun _ => rfl) ?_
      refine R_ba (q := 12) rfl hs rfl rfl (by omega) (by omega) (by decide) ?_
      refine Z_ieq rfl rfl (by first | exact hs.zF _ | exact Zor_r _ _ | exact hs.zA _ _ | assumption | exact zA _ _ | exact zS _ | exact Zr_not (hs.zA _ _) | exact ⟨by omega, by omega⟩) (fun c2 => ?_) (fun c2 => ?_)
      · exact R_be_35 p0 p1 q0 q1 ne hp hq fv fw hb1 hb2 (fun u h hs hv hv2 hk => ⟨_, hs, ⟨rfl, hv, hv2, hk⟩, rfl⟩) h hs
      · exfalso; omega
  | .inr x, .inl B, hp, hq, fv, fw, hb1, hb2 =>
    have f1 := hp.1
    have f2 := hq.1
    refine Z_go (f2 := (1, [(0, .ref 83), (1, .int (Zi p)), (2, .int (Zi q))], [.ref 83])) (fun _ => rfl) ?_
    refine R_gr (q := 94) rfl hs rfl ?_
    show B_R _ _ (4, [(0, .ref 83), (1, .int (Zi p)), (2, .int (Zi q))], [.ref 96]) _ _ _
    refine Z_go (f2 := (5, [(0, .ref 83), (1, .int (Zi p)), (2, .int (Zi q))], [.int (Zi p), .ref 96])) (fun _ => rfl) ?_
    refine R_ba (q := 12) rfl hs rfl rfl (by omega) (by omega) (by decide) ?_
    refine Z_ieq rfl rfl (by first | exact hs.zF _ | exact Zor_r _ _ | exact hs.zA _ _ | assumption | exact zA _ _ | exact zS _ | exact Zr_not (hs.zA _ _) | exact ⟨by omega, by omega⟩) (fun c1 => ?_) (fun c1 => ?_)
    · exact R_be_35 p0 p1 q0 q1 ne hp hq fv fw hb1 hb2 (fun u h hs hv hv2 hk => ⟨_, hs, ⟨rfl, hv, hv2, hk⟩, rfl⟩) h hs
    · refine Z_go (f2 := (10, [(0, .ref 83), (1, .int (Zi p)), (2, .int (Zi q))], [.ref 83])) (fun _ => rfl) ?_
      refine R_gr (q := 94) rfl hs rfl ?_
      show B_R _ _ (13, [(0, .ref 83), (1, .int (Zi p)), (2, .int (Zi q))], [.ref 96]) _ _ _
      refine Z_go (f2 := (14, [(0, .ref 83), (1, .int (Zi p)), (2, .int (Zi q))], [.int (Zi q), .ref 96])) (fun _ => rfl) ?_
      refine R_ba (q := 12) rfl hs rfl rfl (by omega) (by omega) (by decide) ?_
      refine Z_ieq rfl rfl (by first | exact hs.zF _ | exact Zor_r _ _ | exact hs.zA _ _ | assumption | exact zA _ _ | exact zS _ | exact Zr_not (hs.zA _ _) | exact ⟨by omega, by omega⟩) (fun c2 => ?_) (fun c2 => ?_)
      · exact R_be_35 p0 p1 q0 q1 ne hp hq fv fw hb1 hb2 (fun u h hs hv hv2 hk => ⟨_, hs, ⟨rfl, hv, hv2, hk⟩, rfl⟩) h hs
      · exfalso; omega
  | .inl A, .inr y, hp, hq, fv, fw, hb1, hb2 =>
    have f1 := hp.1
    have f2 := hq.1
    refine Z_go (f2 := (1, [(0, .ref 83), (1, .int (Zi p)), (2, .int (Zi q))], [.ref 83])) (fun _ => rfl) ?_
    refine R_gr (q := 94) rfl hs rfl ?_
    show B_R _ _ (4, [(0, .ref 83), (1, .int (Zi p)), (2, .int (Zi q))], [.ref 96]) _ _ _
    refine Z_go (f2 := (5, [(0, .ref 83), (1, .int (Zi p)), (2, .int (Zi q))], [.int (Zi p), .ref 96])) (fun _ => rfl) ?_
    refine R_ba (q := 12) rfl hs rfl rfl (by omega) (by omega) (by decide) ?_
    refine Z_ieq rfl rfl (by first | exact hs.zF _ | exact Zor_r _ _ | exact hs.zA _ _ | assumption | exact zA _ _ | exact zS _ | exact Zr_not (hs.zA _ _) | exact ⟨by omega, by omega⟩) (fun c1 => ?_) (fun c1 => ?_)
    · exfalso; omega
    · refine Z_go (f2 := (10, [(0, .ref 83), (1, .int (Zi p)), (2, .int (Zi q))], [.ref 83])) (fun _ => rfl) ?_
      refine R_gr (q := 94) rfl hs rfl ?_
      show B_R _ _ (13, [(0, .ref 83), (1, .int (Zi p)), (2, .int (Zi q))], [.ref 96]) _ _ _
      refine Z_go (f2 := (14, [(0, .ref 83), (1, .int (Zi p)), (2, .int (Zi q))], [.int (Zi q), .ref 96])) (fun _ => rfl) ?_
      refine R_ba (q := 12) rfl hs rfl rfl (by omega) (by omega) (by decide) ?_
      refine Z_ieq rfl rfl (by first | exact hs.zF _ | exact Zor_r _ _ | exact hs.zA _ _ | assumption | exact zA _ _ | exact zS _ | exact Zr_not (hs.zA _ _) | exact ⟨by omega, by omega⟩) (fun c2 => ?_) (fun c2 => ?_)
      · exact R_be_35 p0 p1 q0 q1 ne hp hq fv fw hb1 hb2 (fun u h hs hv hv2 hk => ⟨_, hs, ⟨rfl, hv, hv2, hk⟩, rfl⟩) h hs
      · exfalso; omega
  | .inl A, .inl B, hp, hq, fv, fw, hb1, hb2 =>
    have f1 := hp.1
    have f2 := hq.1
    refine Z_go (f2 := (1, [(0, .ref 83), (1, .int (Zi p)), (2, .int (Zi q))], [.ref 83])) (fun _ => rfl) ?_
    refine R_gr (q := 94) rfl hs rfl ?_
    show B_R _ _ (4, [(0, .ref 83), (1, .int (Zi p)), (2, .int (Zi q))], [.ref 96]) _ _ _
    refine Z_go (f2 := (5, [(0, .ref 83), (1, .int (Zi p)), (2, .int (Zi q))], [.int (Zi p), .ref 96])) (fun _ => rfl) ?_
    refine R_ba (q := 12) rfl hs rfl rfl (by omega) (by omega) (by decide) ?_
    refine Z_ieq rfl rfl (by first | exact hs.zF _ | exact Zor_r _ _ | exact hs.zA _ _ | assumption | exact zA _ _ | exact zS _ | exact Zr_not (hs.zA _ _) | exact ⟨by omega, by omega⟩) (fun c1 => ?_) (fun c1 => ?_)
    · exfalso; omega
    · refine Z_go (f2 := (10, [(0, .ref 83), (1, .int (Zi p)), (2, .int (Zi q))], [.ref 83])) (fun _ => rfl) ?_
      refine R_gr (q := 94) rfl hs rfl ?_
      show B_R _ _ (13, [(0, .ref 83), (1, .int (Zi p)), (2, .int (Zi q))], [.ref 96]) _ _ _
      refine Z_go (f2 := (14, [(0, .ref 83), (1, .int (Zi p)), (2, .int (Zi q))], [.int (Zi q), .ref 96])) (fun _ => rfl) ?_
      refine R_ba (q := 12) rfl hs rfl rfl (by omega) (by omega) (by decide) ?_
      refine Z_ieq rfl rfl (by first | exact hs.zF _ | exact Zor_r _ _ | exact hs.zA _ _ | assumption | exact zA _ _ | exact zS _ | exact Zr_not (hs.zA _ _) | exact ⟨by omega, by omega⟩) (fun c2 => ?_) (fun c2 => ?_)
      · exfalso; omega
      · refine Z_go (f2 := (19, [(0, .ref 83), (1, .int (Zi p)), (2, .int (Zi q))], [.ref 83])) (fun _ => rfl) ?_
        refine Z_go (f2 := (20, [(0, .ref 83), (1, .int (Zi p)), (2, .int (Zi q))], [.int (Zi p), .ref 83])) (fun _ => rfl) ?_
        refine Z_go (f2 := (21, [(0, .ref 83), (1, .int (Zi p)), (2, .int (Zi q))], [.int (Zi q), .int (Zi p), .ref 83])) (fun _ => rfl) ?_
        refine R_call (As := [.int (Zi p), .int (Zi q)]) (rest := []) rfl (by decide) rfl rfl rfl rfl (by decide +kernel) (Nat.le_of_ble_eq_true rfl) hs (R_joins _ s p0 (by omega) q0 (by omega) (by omega) (by omega) hp.2 hq.2 zp zq) (fun x h s1 hs q => ?_)
        obtain ⟨r, rfl, hr⟩ := q
        have zr : Zr r := by rcases hr with h | h <;> exact ⟨by omega, by omega⟩
        show B_R _ _ (24, [(0, .ref 83), (1, .int (Zi p)), (2, .int (Zi q))], [.int (Zi r)]) _ _ _
        refine Z_ieq rfl rfl (by first | exact hs.zF _ | exact Zor_r _ _ | exact hs.zA _ _ | assumption | exact zA _ _ | exact zS _ | exact Zr_not (hs.zA _ _) | exact ⟨by omega, by omega⟩) (fun c3 => ?_) (fun c3 => ?_)
        · have hr2 : R_j40 s s1 ∧ ¬ F_fit (F_im2 (fun a b => a ++ b) A B) := by rcases hr with h | h; omega; exact h.2
          have k1 := hr2.1.vk
          refine R_be_35 p0 p1 q0 q1 ne (R_V_vk k1 (by omega) hp) (R_V_vk k1 (by omega) hq) fv fw hb1 hb2 (fun u h hs hv hv2 hk => ⟨_, hs, ⟨rfl, ?_, hv2, k1.trans hk (fun e h => .inr (.inr (.inl h))) (fun _ h => h)⟩, rfl⟩) h hs
          show R_V u p (c_if _ _ _)
          rw [c_neg hr2.2]
          exact hv
        · have hr2 : R_EX s1 40 (F_im2 (fun a b => a ++ b) A B) ∧ s1.2.1 96 40 = 1 ∧ R_j40 s s1 := by rcases hr with h | h; exact h.2.2; omega
          have hfit : F_fit (F_im2 (fun a b => a ++ b) A B) := by rcases hr with h | h; exact h.2.1; omega
          refine Z_go (f2 := (28, [(0, .ref 83), (1, .int (Zi p)), (2, .int (Zi q))], [.ref 83])) (fun _ => rfl) ?_
          refine Z_go (f2 := (30, [(0, .ref 83), (1, .int (Zi p)), (2, .int (Zi q))], [.int (Zi 40), .ref 83])) (fun _ => rfl) ?_
          refine Z_go (f2 := (31, [(0, .ref 83), (1, .int (Zi p)), (2, .int (Zi q))], [.int (Zi p), .int (Zi 40), .ref 83])) (fun _ => rfl) ?_
          refine R_call (As := [.int (Zi 40), .int (Zi p)]) (rest := []) rfl (by decide) rfl rfl rfl rfl (by decide +kernel) (Nat.le_of_ble_eq_true rfl) hs (R_copies _ s1 (e := 40) (k := p) (v := .inl (F_im2 (fun a b => a ++ b) A B)) ⟨by omega, by omega⟩ zp (by omega) (by omega) p0 (by omega) (by omega) ⟨hr2.2.1, hr2.1⟩) (fun x h s2 hs q => ?_)
          obtain ⟨rfl, e1, e2⟩ := q
          show B_R _ _ (34, [(0, .ref 83), (1, .int (Zi p)), (2, .int (Zi q))], []) _ _ _
          refine Z_ret rfl rfl ⟨_, hs, ?_, rfl⟩
          refine ⟨rfl, ?_, R_V_vk e2 (fun e => ne e.symm) (R_V_vk hr2.2.2.vk (by omega) hq), hr2.2.2.vk.trans e2 (fun e h => .inr (.inr (.inl h))) (fun e h => .inl h)⟩
          show R_V s2 p (c_if _ _ _)
          rw [c_pos hfit]
          exact e1
