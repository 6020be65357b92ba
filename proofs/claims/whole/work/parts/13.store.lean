section EHT
variable {p : Program} {l : Launch} {e : Env} {R : Room} {s : State} {m : MethodId} {args : Array Value} {below : List Frame} {meth : Method} {c : Code} {H : Heap} {locs : List Loc} {cells slots : Nat} {Q : State → Prop} {cc : ByteArray} {sz nL n0 oc : Nat} {D : va_G} {TY : List (ClassId × FieldType)} {isI : Bool}
/-- behind a store: the world has the new cell -/
theorem E_st_k {f' : E_F} {h : E_H} {o : Nat} {x : E_O} {sl : Nat} (kk : E_G p l e R s m args below meth c sz nL n0 D TY Q f' (h.set o x) sl) (hn : n0 ≤ h.length) {ls : Array Slot} (hl : lv_has ls nL (f'.2.1.map (E_q sz))) {y : va_E} (hy : y = E_e TY sz x) (H1 : Heap) (locs1 : List Loc) (hP : va_P D E_CL ((E_ws TY sz h).set o (sz + o, y)) H1) (hV : va_S (fun q => sz ≤ q) s.heap H1 locs1) :
    W p l e R s m args below meth c H1 locs1 (h.length - n0) sl Q (F0 m f'.1 ls (f'.2.2.map (E_v sz))) := by
  subst hy
  have := kk H1 locs1 (E_stored hn hP hV) ls hl
  rw [List.length_set] at this
  exact this
theorem E_ast_ok (X : E_X p s m args meth c cc nL oc isI D TY sz n0) {len : Nat} {f f' : E_F} {h h' : E_H} {sl : Nat} (q : E_ast len f h = some (f', h')) (hd : decode cc f.1 = .ok (.iastore, len)) (kk : E_G p l e R s m args below meth c sz nL n0 D TY Q f' h' sl) : E_G p l e R s m args below meth c sz nL n0 D TY Q f h sl := by
  obtain ⟨hx, hb, hml, hts, hown, hK, hT, hN, hI, hz⟩ := X
  unfold E_ast at q
  split at q
  · rename_i pc L x i o st
    split at q
    · rename_i t n g ho
      split at q
      · rename_i w
        obtain ⟨rfl, rfl, hin⟩ := w
        cases q
        intro H locs hS ls hl
        have hg : (E_ws TY sz h)[o]? = some (sz + o, .inl (E_aT TY 0, n, .inl g)) := E_ws_get ho
        exact va_iast hx hb hK hS.1 E_ws_D hS.2.1 o 0 hg (E_ty hT rfl) (E_inb_ok hin) hd (fun H1 locs1 hP hD hV => E_st_k kk hS.2.2 hl rfl H1 locs1 hP hV)
      · cases q
    · cases q
  · cases q
theorem E_bst_ok (X : E_X p s m args meth c cc nL oc isI D TY sz n0) {len : Nat} {f f' : E_F} {h h' : E_H} {sl : Nat} (q : E_bst len f h = some (f', h')) (hd : decode cc f.1 = .ok (.bastore, len)) (kk : E_G p l e R s m args below meth c sz nL n0 D TY Q f' h' sl) : E_G p l e R s m args below meth c sz nL n0 D TY Q f h sl := by
  obtain ⟨hx, hb, hml, hts, hown, hK, hT, hN, hI, hz⟩ := X
  unfold E_bst at q
  split at q
  · rename_i pc L x i o st
    split at q
    · rename_i t n g ho
      split at q
      · rename_i w
        obtain ⟨rfl, hin⟩ := w
        split at q
        · rename_i w2
          subst w2
          cases q
          intro H locs hS ls hl
          have hg : (E_ws TY sz h)[o]? = some (sz + o, .inl (E_aT TY 1, n, .inl g)) := E_ws_get ho
          exact va_bast hx hb hK hS.1 E_ws_D hS.2.1 o 1 hg (E_ty hT rfl) (E_inb_ok hin) hd (fun H1 locs1 hP hD hV => E_st_k kk hS.2.2 hl rfl H1 locs1 hP hV)
        · split at q
          · rename_i w2
            subst w2
            cases q
            intro H locs hS ls hl
            have hg : (E_ws TY sz h)[o]? = some (sz + o, .inl (E_aT TY 2, n, .inl g)) := E_ws_get ho
            exact va_zast hx hb hK hS.1 E_ws_D hS.2.1 o 2 hg (E_ty hT rfl) (E_inb_ok hin) hd (fun H1 locs1 hP hD hV => E_st_k kk hS.2.2 hl rfl H1 locs1 hP hV)
          · cases q
      · cases q
    · cases q
  · cases q
theorem E_lst_ok (X : E_X p s m args meth c cc nL oc isI D TY sz n0) {len : Nat} {f f' : E_F} {h h' : E_H} {sl : Nat} (q : E_lst len f h = some (f', h')) (hd : decode cc f.1 = .ok (.lastore, len)) (kk : E_G p l e R s m args below meth c sz nL n0 D TY Q f' h' sl) : E_G p l e R s m args below meth c sz nL n0 D TY Q f h sl := by
  obtain ⟨hx, hb, hml, hts, hown, hK, hT, hN, hI, hz⟩ := X
  unfold E_lst at q
  split at q
  · rename_i pc L x i o st
    split at q
    · rename_i t n g ho
      split at q
      · rename_i w
        obtain ⟨rfl, rfl, hin⟩ := w
        cases q
        intro H locs hS ls hl
        have hg : (E_ws TY sz h)[o]? = some (sz + o, .inl (E_aT TY 3, n, .inr (.inl g))) := E_ws_get ho
        exact va_last hx hb hK hS.1 E_ws_D hS.2.1 o 3 hg (E_ty hT rfl) (E_inb_ok hin) hd (fun H1 locs1 hP hD hV => E_st_k kk hS.2.2 hl rfl H1 locs1 hP hV)
      · cases q
    · cases q
  · cases q
theorem E_up_map {sz : Nat} {g : Nat → Option Nat} {i : Nat} {r : Option Nat} : va_up (fun j => (g j).map (fun k => sz + k)) i (r.map (fun k => sz + k)) = fun j => (va_up g i r j).map (fun k => sz + k) := by
  funext j
  unfold va_up
  by_cases hj : j = i
  · simp [hj]
  · simp [hj]
theorem E_aast_ok (X : E_X p s m args meth c cc nL oc isI D TY sz n0) {len : Nat} {f f' : E_F} {h h' : E_H} {sl : Nat} (q : E_aast len f h = some (f', h')) (hd : decode cc f.1 = .ok (.aastore, len)) (kk : E_G p l e R s m args below meth c sz nL n0 D TY Q f' h' sl) : E_G p l e R s m args below meth c sz nL n0 D TY Q f h sl := by
  obtain ⟨hx, hb, hml, hts, hown, hK, hT, hN, hI, hz⟩ := X
  unfold E_aast at q
  split at q
  · rename_i pc L v i o st
    split at q
    · rename_i t n g ci fs ho hv
      split at q
      · rename_i C T N hc
        split at q
        · rename_i w
          obtain ⟨rfl, ht, hin⟩ := w
          cases q
          intro H locs hS ls hl
          have hg : (E_ws TY sz h)[o]? = some (sz + o, .inl (E_aT TY t, n, .inr (.inr (.inr (.inr (fun j => (g j).map (fun k => sz + k))))))) := E_ws_get ho
          have hgv : (E_ws TY sz h)[v]? = some (sz + v, .inr (ci, fs.map (E_v sz))) := E_ws_get hv
          exact va_astq hx hb hK hS.1 E_ws_D hS.2.1 o t v ci hg (E_ty hT ht) hgv hc (E_inb_ok hin) hd (fun H1 locs1 hP hD hV => E_st_k kk hS.2.2 hl (by show (Sum.inl (E_aT TY t, n, _) : va_E) = .inl (E_aT TY t, n, .inr (.inr (.inr (.inr (fun j => (va_up g i.toNatClampNeg (some v) j).map (fun k => sz + k)))))); rw [← E_up_map]; rfl) H1 locs1 hP hV)
        · cases q
      · cases q
    · cases q
  · rename_i pc L i o st
    split at q
    · rename_i t n g ho
      split at q
      · rename_i w
        obtain ⟨rfl, ht1, ht2, hin⟩ := w
        cases q
        intro H locs hS ls hl
        have hg : (E_ws TY sz h)[o]? = some (sz + o, .inl (E_aT TY t, n, .inr (.inr (.inr (.inr (fun j => (g j).map (fun k => sz + k))))))) := E_ws_get ho
        obtain ⟨C, hC⟩ := E_aty_obj ht1 ht2
        exact va_astqN hx hb hK hS.1 E_ws_D hS.2.1 o t hg (E_ty hT hC) (E_inb_ok hin) hd (fun H1 locs1 hP hD hV => E_st_k kk hS.2.2 hl (by show (Sum.inl (E_aT TY t, n, _) : va_E) = .inl (E_aT TY t, n, .inr (.inr (.inr (.inr (fun j => (va_up g i.toNatClampNeg none j).map (fun k => sz + k)))))); rw [← E_up_map]; rfl) H1 locs1 hP hV)
      · cases q
    · cases q
  · cases q
theorem E_aasb_ok (X : E_X p s m args meth c cc nL oc isI D TY sz n0) {len : Nat} {f f' : E_F} {h h' : E_H} {sl : Nat} (q : E_aasb len f h = some (f', h')) (hd : decode cc f.1 = .ok (.aastore, len)) (kk : E_G p l e R s m args below meth c sz nL n0 D TY Q f' h' sl) : E_G p l e R s m args below meth c sz nL n0 D TY Q f h sl := by
  obtain ⟨hx, hb, hml, hts, hown, hK, hT, hN, hI, hz⟩ := X
  unfold E_aasb at q
  split at q
  · rename_i pc L v i o st
    split at q
    · rename_i t n g tv av ho hv
      split at q
      · rename_i w
        obtain ⟨rfl, rfl, rfl, hin⟩ := w
        cases q
        intro H locs hS ls hl
        have hg : (E_ws TY sz h)[o]? = some (sz + o, .inl (E_aT TY 7, n, .inr (.inr (.inr (.inr (fun j => (g j).map (fun k => sz + k))))))) := E_ws_get ho
        have hgv : (E_ws TY sz h)[v]? = some (sz + v, .inl (E_aT TY 1, E_dat sz av)) := E_ws_get hv
        have hin2 := E_inb_ok hin
        have hlt : i.toNatClampNeg < n := Nat.not_le.mp fun q => hin2 (Or.inr q)
        have h0 : ¬ i < 0 := fun q => hin2 (Or.inl q)
        obtain ⟨comp, cx, kx, c1, c2, c3, c4⟩ := Cond.arrayOver_specA hN.2.2.2.2.1
        have hcx : cx = E_aT TY 7 := va_RA_one (show va_RA s cx (.array .byte) from c4) (hK.2 7 _ (E_ty hT (t := 7) (ty := .array .byte) rfl)).2
        subst hcx
        have hB : s.vm.findClass "[B" = some (E_aT TY 1) := va_nm_byte (hK.2 1 _ (E_ty hT (t := 1) (ty := .byte) rfl)).2
        obtain ⟨-, kB, hkB, -⟩ := (hK.2 1 _ (E_ty hT (t := 1) (ty := .byte) rfl)).1 0 (fun _ => .null)
        have hcomp : comp = E_aT TY 1 := by
          have e : s.vm.findClass "[B" = some comp := c1
          exact Option.some.inj (e.symm.trans hB)
        subst hcomp
        have hvm0 : (vp_cell (E_aT TY 1) (E_dat sz av)).vm = .none := by
          generalize E_dat sz av = y
          obtain ⟨n, f | f | f | f | f⟩ := y <;> rfl
        have hcl0 : (vp_cell (E_aT TY 1) (E_dat sz av)).cls = E_aT TY 1 := by
          generalize E_dat sz av = y
          obtain ⟨n, f | f | f | f | f⟩ := y <;> rfl
        refine W.aast hx hb (hS.1 o _ hg) (fun q h => by cases h) (fun h => by cases h) c2 c3 rfl hkB ⟨h0, by show _ < (arrV _ _ _).slots.size; rw [arrV_size]; exact hlt⟩ (hS.1 v _ hgv) (fun q h => by rw [hvm0] at h; cases h) (by rw [hcl0]; exact hkB) (by rw [hcl0]; exact va_asg _ _) rfl rfl hd fun H1 e z oq => ?_
        refine E_st_k kk hS.2.2 hl (y := .inl (E_aT TY 7, n, .inr (.inr (.inr (.inr (va_up (fun j => (g j).map (fun k => sz + k)) i.toNatClampNeg (some (sz + v)))))))) (by show (Sum.inl (E_aT TY 7, n, _) : va_E) = .inl (E_aT TY 7, n, .inr (.inr (.inr (.inr (fun j => (va_up g i.toNatClampNeg (some v) j).map (fun k => sz + k)))))); rw [← E_up_map]; rfl) H1 _ (hS.1.set E_ws_D hg ?_ oq) (hS.2.1.put z oq (E_ws_D.2 o _ hg))
        show H1[sz + o]? = some (vp_cell _ _)
        rw [e]
        rw [vp_cell_q, vp_cell_q, arrV_store]
        congr 2
        funext q
        by_cases hq : q = i.toNatClampNeg
        · subst hq
          simp [updV, va_up, va_rf]
        · simp [updV, va_up, hq]
      · cases q
    · cases q
  · cases q
theorem E_aas_ok (X : E_X p s m args meth c cc nL oc isI D TY sz n0) {len : Nat} {f f' : E_F} {h h' : E_H} {sl : Nat} (q : E_aas len f h = some (f', h')) (hd : decode cc f.1 = .ok (.aastore, len)) (kk : E_G p l e R s m args below meth c sz nL n0 D TY Q f' h' sl) : E_G p l e R s m args below meth c sz nL n0 D TY Q f h sl := by
  unfold E_aas at q
  split at q
  · rename_i z hq
    cases q
    exact E_aasb_ok X hq hd kk
  · exact E_aast_ok X q hd kk
theorem E_cst_ok (X : E_X p s m args meth c cc nL oc isI D TY sz n0) {i len : Nat} {f f' : E_F} {h : E_H} {sl : Nat} (q : E_cst oc i len f h = some f') (hd : decode cc f.1 = .ok (.checkcast i, len)) (kk : E_G p l e R s m args below meth c sz nL n0 D TY Q f' h sl) : E_G p l e R s m args below meth c sz nL n0 D TY Q f h sl := by
  obtain ⟨hx, hb, hml, hts, hown, hK, hT, hN, hI, hz⟩ := X
  unfold E_cst at q
  split at q
  · rename_i pc L o st
    split at q
    · rename_i t av ho
      split at q
      · rename_i w
        obtain ⟨rfl, rfl, rfl, rfl⟩ := w
        cases q
        intro H locs hS ls hl
        have hg : (E_ws TY sz h)[o]? = some (sz + o, .inl (E_aT TY 1, E_dat sz av)) := E_ws_get ho
        have hB : s.vm.findClass "[B" = some (E_aT TY 1) := va_nm_byte (hK.2 1 _ (E_ty hT (t := 1) (ty := .byte) rfl)).2
        exact va_castA hx hb hown (hts _ E_wcl6) hS.1 o hg hB hd (kk H locs hS ls hl)
      · cases q
    · cases q
  · cases q
theorem E_aty_some {t : Nat} (h : t < 8) : ∃ ty, E_ATY[t]? = some ty := ⟨_, List.getElem?_eq_getElem (show t < E_ATY.length from h)⟩
theorem E_alen_ok (X : E_X p s m args meth c cc nL oc isI D TY sz n0) {len : Nat} {f f' : E_F} {h : E_H} {sl : Nat} (q : E_alen len f h = some f') (hd : decode cc f.1 = .ok (.arraylength, len)) (kk : E_G p l e R s m args below meth c sz nL n0 D TY Q f' h sl) : E_G p l e R s m args below meth c sz nL n0 D TY Q f h sl := by
  obtain ⟨hx, hb, hml, hts, hown, hK, hT, hN, hI, hz⟩ := X
  unfold E_alen at q
  split at q
  · rename_i pc L o st
    split at q
    · rename_i t a ho
      split at q
      · rename_i w
        obtain ⟨rfl, ht⟩ := w
        cases q
        intro H locs hS ls hl
        obtain ⟨ty, hty⟩ := E_aty_some ht
        exact va_alen (x := E_dat sz a) hx hb hK hS.1 o t (E_ws_get ho) (E_ty hT hty) rfl hd (kk H locs hS ls hl)
      · cases q
    · cases q
  · cases q
theorem E_kI_m {oc i : Nat} {v : Int32} (h : E_kI oc i = some v) : (oc, i, v) ∈ E_KI := by
  unfold E_kI at h
  cases hf : E_KI.find? (fun q => q.1 == oc && q.2.1 == i) with
  | none => rw [hf] at h; cases h
  | some q =>
    rw [hf] at h
    cases h
    have h1 := List.find?_some hf
    simp only [Bool.and_eq_true, beq_iff_eq] at h1
    obtain ⟨e1, e2⟩ := h1
    subst e1; subst e2
    exact List.mem_of_find?_eq_some hf
theorem E_kL_m {oc i : Nat} {v : Int64} (h : E_kL oc i = some v) : (oc, i, v) ∈ E_KL := by
  unfold E_kL at h
  cases hf : E_KL.find? (fun q => q.1 == oc && q.2.1 == i) with
  | none => rw [hf] at h; cases h
  | some q =>
    rw [hf] at h
    cases h
    have h1 := List.find?_some hf
    simp only [Bool.and_eq_true, beq_iff_eq] at h1
    obtain ⟨e1, e2⟩ := h1
    subst e1; subst e2
    exact List.mem_of_find?_eq_some hf
theorem E_ldc_ok (X : E_X p s m args meth c cc nL oc isI D TY sz n0) {n i len : Nat} {f f' : E_F} {h : E_H} {sl : Nat} {ins : Instr} (q : E_ldc n oc i len f = some f') (hd : decode cc f.1 = .ok (ins, len)) (hi : (ins = .ldc i ∧ n = 2) ∨ (ins = .ldc_w i ∧ n = 3)) (kk : E_G p l e R s m args below meth c sz nL n0 D TY Q f' h sl) : E_G p l e R s m args below meth c sz nL n0 D TY Q f h sl := by
  obtain ⟨hx, hb, hml, hts, hown, hK, hT, hN, hI, hz⟩ := X
  unfold E_ldc at q
  split at q
  · rename_i v hv
    split at q
    · rename_i w
      subst w
      cases q
      intro H locs hS ls hl
      have hw := hts _ (E_KI_ok _ (List.mem_map.mpr ⟨_, E_kI_m hv, rfl⟩))
      rcases hi with ⟨rfl, rfl⟩ | ⟨rfl, rfl⟩
      · exact lv_ldc hx hb hown hw hd (kk H locs hS ls hl)
      · exact lv_ldcw hx hb hown hw hd (kk H locs hS ls hl)
    · cases q
  · cases q
theorem E_ldc2_ok (X : E_X p s m args meth c cc nL oc isI D TY sz n0) {i len : Nat} {f f' : E_F} {h : E_H} {sl : Nat} (q : E_ldc2 oc i len f = some f') (hd : decode cc f.1 = .ok (.ldc2_w i, len)) (kk : E_G p l e R s m args below meth c sz nL n0 D TY Q f' h sl) : E_G p l e R s m args below meth c sz nL n0 D TY Q f h sl := by
  obtain ⟨hx, hb, hml, hts, hown, hK, hT, hN, hI, hz⟩ := X
  unfold E_ldc2 at q
  split at q
  · rename_i v hv
    split at q
    · rename_i w
      subst w
      cases q
      intro H locs hS ls hl
      have hw := hts _ (E_KL_ok _ (List.mem_map.mpr ⟨_, E_kL_m hv, rfl⟩))
      exact lv_ldc2 hx hb hown hw hd (kk H locs hS ls hl)
    · cases q
  · cases q
/-- behind an allocation of one cell -/
theorem E_new_k (hz : s.heap.size = sz + n0) {f' : E_F} {h : E_H} {x : E_O} {sl : Nat} (kk : E_G p l e R s m args below meth c sz nL n0 D TY Q f' (h ++ [x]) sl) (hn : n0 ≤ h.length) {ls : Array Slot} (hl : lv_has ls nL (f'.2.1.map (E_q sz))) {st : List Value} (hf : f'.2.2 = .ref h.length :: st) {y : va_E} (hy : y = E_e TY sz x) (q : Nat) (H1 : Heap) (hP : va_P D E_CL (E_ws TY sz h ++ [(q, y)]) H1) (hD : va_D (fun q => sz ≤ q) (E_ws TY sz h ++ [(q, y)])) (hV : va_S (fun q => sz ≤ q) s.heap H1 locs) :
    W p l e R s m args below meth c H1 locs (h.length - n0 + 1) sl Q (F0 m f'.1 ls (.ref q :: st.map (E_v sz))) := by
  subst hy
  refine E_wsz (fun hb => ?_)
  have hq := E_addr hP hD (by omega)
  subst hq
  rw [E_ws_app] at hP
  have := kk H1 locs ⟨hP, hV, by rw [List.length_append]; omega⟩ ls hl
  rw [hf, List.length_append, show h.length + ([x] : List E_O).length - n0 = h.length - n0 + 1 by simp; omega] at this
  exact this
theorem E_dfl_v (sz ci : Nat) (h : ∀ k, E_v sz (defaultValue (E_cty ci k)) = defaultValue (E_cty ci k)) : (E_dfl ci).map (E_v sz) = E_dfl ci := by
  unfold E_dfl
  rw [List.map_map]
  apply List.map_congr_left
  intro k _
  exact h k
theorem E_dv_v (sz : Nat) (ty : FieldType) : E_v sz (defaultValue ty) = defaultValue ty := by cases ty <;> rfl
theorem E_dfl_V {ci j : Nat} (h : j < E_N ci) : defaultValue (E_cty ci j) = vp_V (E_dfl ci) j := by
  unfold vp_V E_dfl
  rw [List.getD_eq_getElem?_getD, List.getElem?_map, List.getElem?_range h]
  rfl
theorem E_new_ok (X : E_X p s m args meth c cc nL oc isI D TY sz n0) {i len a b : Nat} {f f' : E_F} {h h' : E_H} {sl : Nat} (hr : E_rok oc (.new i) a b = true) (q : E_new len a f h = some (f', h')) (hd : decode cc f.1 = .ok (.new i, len)) (hR : h'.length - n0 ≤ R.cells ∧ sl + E_N a ≤ R.slots) (kk : E_G p l e R s m args below meth c sz nL n0 D TY Q f' h' (sl + E_N a)) : E_G p l e R s m args below meth c sz nL n0 D TY Q f h sl := by
  obtain ⟨hx, hb, hml, hts, hown, hK, hT, hN, hI, hz⟩ := X
  unfold E_new at q
  split at q
  · rename_i w
    obtain ⟨rfl, ha⟩ := w
    cases q
    intro H locs hS ls hl
    obtain ⟨C, T, hc⟩ := E_cl_13 ha
    obtain ⟨c1, c2, c3, c4, c5, c6, c7, c8, c9⟩ := E_cl_ok _ _ _ _ hc
    have hk : Cond.classLink (E_cn oc) i C ∈ E_GT := by
      have hr' : (a == 900 || E_KN.any (fun q => q.1 == oc && (q.2.1 == i && decide (q.2.2 = E_cn a)))) = true := hr
      rw [Bool.or_eq_true] at hr'
      rcases hr' with z | z
      · rw [beq_iff_eq] at z
        omega
      · obtain ⟨w, hw, h1⟩ := List.any_eq_true.mp z
        simp only [Bool.and_eq_true, beq_iff_eq, decide_eq_true_eq] at h1
        obtain ⟨e1, e2, e3⟩ := h1
        have := E_KN_ok _ (List.mem_map.mpr ⟨w, hw, rfl⟩)
        rw [e1, e2, e3, c7] at this
        exact this
    rw [List.length_append] at hR
    refine va_new hx hb hts c3 (E_cty a) c1 hown (hts _ hk) (hts _ c4) (hts _ c5) hK hS.1 E_ws_D hS.2.1 (fun q hq => by show sz ≤ q; omega) hc (fs := E_dfl a) (fun j hj => E_dfl_V hj) (by have := hR.1; have := hS.2.2; simp at *; omega) hR.2 hd (fun q H1 hP hD hV => ?_)
    exact E_new_k hz kk hS.2.2 hl rfl (by show (Sum.inr (a, E_dfl a) : va_E) = .inr (a, (E_dfl a).map (E_v sz)); rw [E_dfl_v sz a (fun k => E_dv_v sz _)]) q H1 hP hD hV
  · cases q
theorem E_newa_ok (X : E_X p s m args meth c cc nL oc isI D TY sz n0) {t : ArrayType} {len a b n : Nat} {f f' : E_F} {h h' : E_H} {sl : Nat} (hr : E_rok oc (.newarray t) a b = true) (q : E_newa len a f h = some (f', h', n)) (hd : decode cc f.1 = .ok (.newarray t, len)) (hR : h'.length - n0 ≤ R.cells ∧ sl + n ≤ R.slots) (kk : E_G p l e R s m args below meth c sz nL n0 D TY Q f' h' (sl + n)) : E_G p l e R s m args below meth c sz nL n0 D TY Q f h sl := by
  obtain ⟨hx, hb, hml, hts, hown, hK, hT, hN, hI, hz⟩ := X
  unfold E_newa at q
  split at q
  · rename_i pc L k st
    split at q
    · rename_i w
      obtain ⟨rfl, ha, hk, hbt⟩ := w
      cases q
      intro H locs hS ls hl
      have hty : E_ATY[a]? = some (newarray.typeOf t) := of_decide_eq_true hr
      have hsm : ∀ cA : ClassId, vp_cell cA (E_zer a k.toNatClampNeg) = arrV cA k.toNatClampNeg (fun _ => defaultValue (newarray.typeOf t)) ∧ componentBytes (newarray.typeOf t) ≤ 8 ∧ Cond.arrayClass (newarray.typeOf t) ∈ E_GT ∧ E_dat sz (E_zer a k.toNatClampNeg) = E_zer a k.toNatClampNeg := by
        intro cA
        rcases (show a = 0 ∨ a = 1 ∨ a = 2 ∨ a = 3 by omega) with rfl | rfl | rfl | rfl
        · have ht : newarray.typeOf t = .int := (Option.some.inj hty).symm
          rw [ht]
          exact ⟨rfl, by decide, E_aw0, rfl⟩
        · have ht : newarray.typeOf t = .byte := (Option.some.inj hty).symm
          rw [ht]
          exact ⟨rfl, by decide, E_aw1, rfl⟩
        · have ht : newarray.typeOf t = .boolean := (Option.some.inj hty).symm
          rw [ht]
          exact ⟨rfl, by decide, E_aw2, rfl⟩
        · have ht : newarray.typeOf t = .long := (Option.some.inj hty).symm
          rw [ht]
          exact ⟨rfl, by decide, E_aw3, rfl⟩
      rw [List.length_append] at hR
      refine va_newa hx hb (hts _ (hsm 0).2.2.1) rfl hK hS.1 E_ws_D hS.2.1 (fun q hq => by show sz ≤ q; omega) (fun cA => (hsm cA).1) hk rfl (Nat.le_trans (Nat.mul_le_mul_left _ (hsm 0).2.1) hbt) (by have := hR.1; have := hS.2.2; simp at *; omega) hR.2 hd (fun q cA H1 hK2 hP hD hV => ?_)
      have hc := E_K_new hT hty hK hK2
      exact E_new_k hz kk hS.2.2 hl rfl (by rw [hc]; show (Sum.inl (E_aT TY a, E_zer a k.toNatClampNeg) : va_E) = .inl (E_aT TY a, E_dat sz (E_zer a k.toNatClampNeg)); rw [(hsm 0).2.2.2]) q H1 hP hD hV
    · cases q
  · cases q
theorem E_newq_ok (X : E_X p s m args meth c cc nL oc isI D TY sz n0) {i len a b n : Nat} {f f' : E_F} {h h' : E_H} {sl : Nat} (hr : E_rok oc (.anewarray i) a b = true) (q : E_newq len a f h = some (f', h', n)) (hd : decode cc f.1 = .ok (.anewarray i, len)) (hR : h'.length - n0 ≤ R.cells ∧ sl + n ≤ R.slots) (kk : E_G p l e R s m args below meth c sz nL n0 D TY Q f' h' (sl + n)) : E_G p l e R s m args below meth c sz nL n0 D TY Q f h sl := by
  obtain ⟨hx, hb, hml, hts, hown, hK, hT, hN, hI, hz⟩ := X
  unfold E_newq at q
  split at q
  · rename_i pc L k st
    split at q
    · rename_i w
      obtain ⟨rfl, ha1, ha2, hk, hbt⟩ := w
      cases q
      intro H locs hS ls hl
      obtain ⟨C, hC, hov⟩ : ∃ C, E_ATY[a]? = some (.object C) ∧ va_AO C s := by
        rcases (show a = 4 ∨ a = 5 ∨ a = 6 by omega) with rfl | rfl | rfl
        · exact ⟨_, rfl, hN.2.1⟩
        · exact ⟨_, rfl, hN.2.2.1⟩
        · exact ⟨_, rfl, hN.2.2.2.1⟩
      have hkw : Cond.classLink (E_cn oc) i C ∈ E_GT := by
        have hr' : E_KN.any (fun q => q.1 == oc && (q.2.1 == i && decide (E_ATY[a]? = some (.object q.2.2)))) = true := hr
        obtain ⟨w, hw, h1⟩ := List.any_eq_true.mp hr'
        simp only [Bool.and_eq_true, beq_iff_eq, decide_eq_true_eq] at h1
        obtain ⟨e1, e2, e3⟩ := h1
        have := E_KN_ok _ (List.mem_map.mpr ⟨w, hw, rfl⟩)
        have e4 : C = w.2.2 := by
          have := hC.symm.trans e3
          cases this
          rfl
        rw [e1, e2, ← e4] at this
        exact this
      rw [List.length_append] at hR
      refine va_newq hx hb hown (hts _ hkw) hov hK hS.1 E_ws_D hS.2.1 (fun q hq => by show sz ≤ q; omega) hk rfl (by omega) (by have := hR.1; have := hS.2.2; simp at *; omega) hR.2 hd (fun q cA H1 hK2 hP hD hV => ?_)
      have hc := E_K_new hT hC hK hK2
      exact E_new_k hz kk hS.2.2 hl rfl (by rw [hc]; rfl) q H1 hP hD hV
    · cases q
  · cases q
theorem E_cln_ok (X : E_X p s m args meth c cc nL oc isI D TY sz n0) {i len a n : Nat} {f f' : E_F} {h h' : E_H} {sl : Nat} (q : E_cln oc i len a f h = some (f', h', n)) (hd : decode cc f.1 = .ok (.invokevirtual i, len)) (hRf : 1 ≤ R.frames) (hRl : 48 ≤ R.locals) (hR : h'.length - n0 ≤ R.cells ∧ sl + n ≤ R.slots) (kk : E_G p l e R s m args below meth c sz nL n0 D TY Q f' h' (sl + n)) : E_G p l e R s m args below meth c sz nL n0 D TY Q f h sl := by
  obtain ⟨hx, hb, hml, hts, hown, hK, hT, hN, hI, hz⟩ := X
  unfold E_cln at q
  split at q
  · rename_i pc L o st
    split at q
    · rename_i t k g ho
      split at q
      · rename_i w
        obtain ⟨rfl, rfl, rfl, rfl, rfl, hcat, hfit⟩ := w
        cases q
        intro H locs hS ls hl
        have hg : (E_ws TY sz h)[o]? = some (sz + o, .inl (E_aT TY 1, n, .inl g)) := E_ws_get ho
        have hty := E_ty hT (t := 1) (ty := .byte) rfl
        have hB : s.vm.findClass "[B" = some (E_aT TY 1) := va_nm_byte (hK.2 1 _ hty).2
        have hc2 : (((st.map (E_v sz)).map fun v => v.category).sum) + 14 ≤ R.locals := by
          have e : (((st.map (E_v sz)).map fun v => v.category).sum) = (st.map (fun v => v.category)).sum := by
            rw [List.map_map]
            congr 1
            refine List.map_congr_left (fun v _ => ?_)
            cases v <;> rfl
          rw [e]
          omega
        rw [List.length_append] at hR
        refine va_clone hx hb (hml.trans hl.1.symm) hown (hts _ E_wcl1) (hts _ E_wcl2) (hts _ E_wcl3) (hts _ E_wcl4) (hts _ E_wcl5) hN.2.2.2.2.2 hK hS.1 E_ws_D hS.2.1 (fun q hq => by show sz ≤ q; omega) o 1 hg hty hB (va_fit (fun i hi => ?_)) hRf hc2 (by have := hR.1; have := hS.2.2; simp at *; omega) hR.2 hd (fun q H1 hK2 hP hD hV => ?_)
        · exact List.all_eq_true.mp hfit i (List.mem_range.mpr hi)
        · exact E_new_k hz kk hS.2.2 hl rfl rfl q H1 hP hD hV
      · cases q
    · cases q
  · cases q
end EHT
