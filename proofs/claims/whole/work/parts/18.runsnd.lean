section ER
variable {p : Program} {l : Launch} {e : Env} {R : Room} {s : State} {m : MethodId} {args : Array Value} {below : List Frame} {meth : Method} {c : Code} {Q : State → Prop} {sz n0 : Nat} {D : va_G} {TY : List (ClassId × FieldType)}
theorem E_rk1 {oc i a b : Nat} (h : E_rok oc (.invokestatic i) a b = true) (h1 : a ≠ 900) (h2 : a ≠ 998) : (bif b == 1 then E_has3 E_MN oc i a else E_has3 E_ML oc i a) = true := by
  have h : (a == 900 || (bif a == 998 then E_has2 E_AC oc i else (bif b == 1 then E_has3 E_MN oc i a else E_has3 E_ML oc i a))) = true := h
  rw [show (a == 900) = false by simpa using h1, show (a == 998) = false by simpa using h2] at h
  exact h
theorem E_rk1c {oc i b : Nat} (h : E_rok oc (.invokestatic i) 998 b = true) : E_has2 E_AC oc i = true := h
theorem E_rk2 {oc i a b : Nat} (h : E_rok oc (.invokevirtual i) a b = true) (h1 : a < 900) : (bif b == 1 then E_has3 E_MN oc i a else E_has3 E_ML oc i a) = true := by
  have h : (a == 900 || a == 997 || a == 996 || (bif b == 1 then E_has3 E_MN oc i a else E_has3 E_ML oc i a)) = true := h
  rw [show (a == 900) = false by simp; omega, show (a == 997) = false by simp; omega, show (a == 996) = false by simp; omega] at h
  exact h
theorem E_rk3 {oc i a b : Nat} (h : E_rok oc (.invokespecial i) a b = true) (h1 : a ≠ 900) (h2 : a ≠ 999) : (bif b == 1 then E_has3 E_MN oc i a else E_has3 E_ML oc i a) = true := by
  have h : (a == 900 || (bif a == 999 then E_has2 E_OI oc i else (bif b == 1 then E_has3 E_MN oc i a else E_has3 E_ML oc i a))) = true := h
  rw [show (a == 900) = false by simpa using h1, show (a == 999) = false by simpa using h2] at h
  exact h
theorem E_rk3c {oc i b : Nat} (h : E_rok oc (.invokespecial i) 999 b = true) : E_has2 E_OI oc i = true := h
theorem E_mm_ok {cc : ByteArray} {nL oc : Nat} {isI : Bool} (X : E_X p s m args meth c cc nL oc isI D TY sz n0) {i a b : Nat} {f f' : E_F} {h : E_H} {sl : Nat} (ham : a = 288 ∨ a = 289) (hb0 : b = 0) (hr : (bif b == 1 then E_has3 E_MN oc i a else E_has3 E_ML oc i a) = true) (q : E_mm a f = some f') (hcat : E_catS f.2.2 ≤ 16) (hd : decode cc f.1 = .ok (.invokestatic i, 3)) (hRf : 1 ≤ R.frames) (hRl : 48 ≤ R.locals) (hR : h.length - n0 ≤ R.cells ∧ sl ≤ R.slots) (kk : E_G p l e R s m args below meth c sz nL n0 D TY Q f' h sl) : E_G p l e R s m args below meth c sz nL n0 D TY Q f h sl := by
  obtain ⟨hx, hb, hml, hts, hown, hK, hT, hN, hI, hz⟩ := X
  subst hb0
  have hw := hts _ (E_ML_ok _ (List.mem_map.mpr ⟨_, E_has3_m hr, rfl⟩))
  unfold E_mm at q
  split at q
  · rename_i pc L y x st
    cases q
    intro H locs hS ls hl
    have hc2 : (((st.map (E_v sz)).map fun v => v.category).sum) + 13 ≤ R.locals := by
      rw [E_cat_map]
      unfold E_catS at hcat ⊢
      simp only [List.map_cons, List.sum_cons] at hcat
      omega
    rcases ham with rfl | rfl
    · exact va_mmax hx hb (hml.trans hl.1.symm) hown hw (hts _ E_wmx1) (hts _ E_wmx0) (hts _ E_wmx2) hRf hc2 hR.1 hR.2 hd (kk H locs hS ls hl)
    · exact va_mmin hx hb (hml.trans hl.1.symm) hown hw (hts _ E_wmn1) (hts _ E_wmx0) (hts _ E_wmn2) hRf hc2 hR.1 hR.2 hd (kk H locs hS ls hl)
  · cases q
set_option maxHeartbeats 4000000 in
theorem E_stepL {M : E_MI} (hM : E_mf M) (X : E_X p s m args meth c M.2.2.1 M.2.2.2.1 M.1 (E_isI M) D TY sz n0) {d : Nat} {orc : Nat → List Value → E_H → Option E_R}
    (hO : ∀ (a : Nat) (M : E_MI) (vs : List Value) (h : E_H) (r : E_R), E_mi a = some M → orc a vs h = some r → E_Met l D TY sz d M vs h r ∧ h.length ≤ r.2.1.length)
    (hRf : d + 1 ≤ R.frames) (hRl : 48 * (d + 1) ≤ R.locals) {f f' : E_F} {h h' : E_H} {sl sl' : Nat} (q : E_step orc M f h sl = some (.inl (f', h', sl'))) (hR : h'.length - n0 ≤ R.cells ∧ sl' ≤ R.slots) (kk : E_G p l e R s m args below meth c sz M.2.2.2.1 n0 D TY Q f' h' sl') : E_G p l e R s m args below meth c sz M.2.2.2.1 n0 D TY Q f h sl := by
  obtain ⟨g1, -⟩ := hM
  unfold E_step at q
  split at q
  · cases q
  · rename_i ins len a b hf
    obtain ⟨hd, hrk⟩ := g1 _ (E_find_m hf)
    have hd : decode M.2.2.1 f.1 = .ok (ins, len) := hd
    have hrk : E_rok M.1 ins a b = true := hrk
    cases ins
    case ireturn => dsimp only at q; repeat' split at q
                    all_goals cases q
    case lreturn => dsimp only at q; repeat' split at q
                    all_goals cases q
    case areturn => dsimp only at q; repeat' split at q
                    all_goals cases q
    case return_ => dsimp only at q; repeat' split at q
                    all_goals cases q
    case invokestatic i =>
      dsimp only at q
      split at q
      · rename_i w
        obtain ⟨rfl, ha⟩ := w
        split at q
        · rename_i ha2
          subst ha2
          split at q
          · rename_i hc
            split at q
            · rename_i f2 h2 hq
              cases q
              exact E_copy_ok X (E_rk1c hrk) hq hc hd (by omega) (by omega) kk
            · cases q
          · cases q
        · rename_i ha2
          split at q
          · rename_i ham
            split at q
            · rename_i hbc
              split at q
              · rename_i f2 hq
                cases q
                exact E_mm_ok X ham hbc.1 (E_rk1 hrk ha ha2) hq hbc.2 hd (by omega) (by omega) hR kk
              · cases q
            · cases q
          · split at q
            · rename_i z hq
              obtain ⟨f2, h2, s2⟩ := z
              cases q
              exact E_inv_ok X hO hRf hRl (Or.inl ⟨rfl, rfl⟩) (E_rk1 hrk ha ha2) hq hd hR kk
            · cases q
      · cases q
    case invokevirtual i =>
      dsimp only at q
      split at q
      · rename_i w
        obtain ⟨rfl, ha⟩ := w
        split at q
        · rename_i z hq
          obtain ⟨f2, h2, s2⟩ := z
          cases q
          exact E_inv_ok X hO hRf hRl (Or.inr (Or.inl ⟨rfl, rfl⟩)) (E_rk2 hrk ha) hq hd hR kk
        · cases q
      · split at q
        · rename_i f2 h2 n hq
          cases q
          exact E_cln_ok X hq hd (by omega) (by omega) hR kk
        · cases q
    case invokespecial i =>
      dsimp only at q
      split at q
      · rename_i w
        obtain ⟨rfl, ha⟩ := w
        split at q
        · rename_i ha2
          subst ha2
          split at q
          · rename_i pc L o st hd9
            split at q
            · rename_i hc
              cases q
              obtain ⟨hx, hb, hml, hts, hown, hK, hT, hN, hI, hz⟩ := X
              intro H locs hS ls hl
              have hw := hts _ (E_OI_ok _ (List.mem_map.mpr ⟨_, E_has2_m (E_rk3c hrk), rfl⟩))
              refine W.objInit hx hb hown hw (hts _ E_wo1) (hts _ E_wo2) (g := F0 m pc ls (.ref (sz + o) :: st.map (E_v sz))) rfl (by rw [hml]; exact hl.1) rfl hd (by omega) (by show 2 * 0 + _ + 12 ≤ _; rw [E_cat_map]; omega) ?_
              exact kk H locs hS ls hl
            · cases q
          · cases q
        · rename_i ha2
          split at q
          · rename_i z hq
            obtain ⟨f2, h2, s2⟩ := z
            cases q
            exact E_inv_ok X hO hRf hRl (Or.inr (Or.inr ⟨rfl, rfl⟩)) (E_rk3 hrk ha ha2) hq hd hR kk
          · cases q
      · cases q
    all_goals
      dsimp only at q
      split at q
      · rename_i f2 h2 n hq
        cases q
        exact E_heap_ok X hrk hq hd hR kk
      · cases q
set_option maxHeartbeats 4000000 in
/-- a return -/
theorem E_stepR {M : E_MI} (hM : E_mf M) (X : E_X p s m args meth c M.2.2.1 M.2.2.2.1 M.1 (E_isI M) D TY sz n0) (hret : meth.sig.returnType = M.2.2.2.2.1) (hlk : meth.locks = false) {orc : Nat → List Value → E_H → Option E_R} {f : E_F} {h : E_H} {sl : Nat} {r : E_R} (q : E_step orc M f h sl = some (.inr r)) :
    r.2.1 = h ∧ r.2.2 = sl ∧ E_G p l e R s m args below meth c sz M.2.2.2.1 n0 D TY (MQ below (E_Qc D TY sz r.1 h) args s (h.length - n0) sl (fun q => sz ≤ q)) f h sl := by
  obtain ⟨g1, -⟩ := hM
  obtain ⟨hx, hb, hml, hts, hown, hK, hT, hN, hI, hz⟩ := X
  unfold E_step at q
  split at q
  · cases q
  · rename_i ins len a b hf
    obtain ⟨hd, hrk⟩ := g1 _ (E_find_m hf)
    have hd : decode M.2.2.1 f.1 = .ok (ins, len) := hd
    obtain ⟨pc, L, st⟩ := f
    have hd : decode M.2.2.1 pc = .ok (ins, len) := hd
    cases ins
    case ireturn =>
      dsimp only at q
      split at q
      · rename_i v ty h1 h2
        split at q
        · rename_i w
          obtain ⟨rfl, hn⟩ := w
          cases q
          refine ⟨rfl, rfl, fun H locs hS ls hl => ?_⟩
          exact W.zret (v := v) hx hb (hret.trans h1) hn (fun t ht hW => ⟨⟨rfl, by rw [ht]; exact hS.1⟩, hS.2.1.F ht⟩) hS.2.1.2.2 hd hlk
        · cases q
      · cases q
    case lreturn =>
      dsimp only at q
      split at q
      · rename_i v h1 h2
        split at q
        · rename_i w
          subst w
          cases q
          refine ⟨rfl, rfl, fun H locs hS ls hl => ?_⟩
          exact W.lret (v := v) hx hb (hret.trans h1) (fun t ht hW => ⟨⟨rfl, by rw [ht]; exact hS.1⟩, hS.2.1.F ht⟩) hS.2.1.2.2 hd hlk
        · cases q
      · cases q
    case areturn =>
      dsimp only at q
      split at q
      · rename_i v C h1 h2
        split at q
        · rename_i w
          subst w
          cases q
          refine ⟨rfl, rfl, fun H locs hS ls hl => ?_⟩
          exact W.aret (v := .ref (sz + v)) hx hb (hret.trans h1) (Or.inl ⟨_, rfl⟩) (Or.inr ⟨_, rfl⟩) (fun t ht hW => ⟨⟨rfl, by rw [ht]; exact hS.1⟩, hS.2.1.F ht⟩) hS.2.1.2.2 hd hlk
        · cases q
      · rename_i v C h1 h2
        split at q
        · rename_i w
          subst w
          cases q
          refine ⟨rfl, rfl, fun H locs hS ls hl => ?_⟩
          exact W.aret (v := .ref (sz + v)) hx hb (hret.trans h1) (Or.inr ⟨_, rfl⟩) (Or.inr ⟨_, rfl⟩) (fun t ht hW => ⟨⟨rfl, by rw [ht]; exact hS.1⟩, hS.2.1.F ht⟩) hS.2.1.2.2 hd hlk
        · cases q
      · rename_i C h1 h2
        split at q
        · rename_i w
          subst w
          cases q
          refine ⟨rfl, rfl, fun H locs hS ls hl => ?_⟩
          exact W.aret (v := .null) hx hb (hret.trans h1) (Or.inl ⟨_, rfl⟩) (Or.inl rfl) (fun t ht hW => ⟨⟨rfl, by rw [ht]; exact hS.1⟩, hS.2.1.F ht⟩) hS.2.1.2.2 hd hlk
        · cases q
      · cases q
    case return_ =>
      dsimp only at q
      split at q
      · rename_i h1 h2
        split at q
        · rename_i w
          subst w
          cases q
          refine ⟨rfl, rfl, fun H locs hS ls hl => ?_⟩
          exact W.vret hx hb (hret.trans h1) (fun t ht hW => ⟨⟨rfl, by rw [ht]; exact hS.1⟩, hS.2.1.F ht⟩) hS.2.1.2.2 hd hlk
        · cases q
      · cases q
    case invokestatic i => dsimp only at q; repeat' split at q
                           all_goals cases q
    case invokevirtual i => dsimp only at q; repeat' split at q
                            all_goals cases q
    case invokespecial i => dsimp only at q; repeat' split at q
                            all_goals cases q
    all_goals
      dsimp only at q
      split at q
      · cases q
      · cases q
end ER
