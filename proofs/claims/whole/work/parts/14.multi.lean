theorem E_AOA_moved {u U : State} (hvm : u.vm.Alike U.vm) (h : (Cond.arrayOver (.array .byte)).before #[] u = true) : (Cond.arrayOver (.array .byte)).before #[] U = true := by
  have h0 := h
  unfold Cond.before at h0
  simp only [Cond.holds, Cond.value, beq_iff_eq] at h0
  cases hc : u.vm.findClass (FieldType.array .byte).toString with
  | none => simp [hc] at h0
  | some comp =>
    simp only [hc, Option.bind_some, Option.bind_eq_some_iff, Option.map_eq_some_iff] at h0
    obtain ⟨c, hi, k, hk, hb⟩ := h0
    obtain ⟨k', hk', he⟩ := hvm.2.2 _ _ hk
    have hi' : (U.vm.classes.findIdx? fun (x : Class) => match x.kind with | .array component _ => component == comp | _ => false) = some c := by
      have e1 := va_idx_bare U.vm comp
      have e2 := va_idx_bare u.vm comp
      have hb9 := hvm.bare_eq
      first | rw [hb9] at e2 | rw [← hb9] at e2
      exact e1.symm.trans (e2.trans hi)
    have hkind : k'.kind = k.kind := by rw [he]
    have f1 : U.vm.findClass (FieldType.array .byte).toString = some comp := by rw [hvm.findClass]; exact hc
    unfold Cond.before
    simp only [Cond.holds, Cond.value, beq_iff_eq]
    simp only [f1, Option.bind_some, Option.bind_eq_some_iff, Option.map_eq_some_iff]
    refine ⟨c, hi', k', hk', ?_⟩
    rw [hkind, hvm.findClass]
    exact hb
theorem E_NW_moved {s U : State} (hW : s.WarmedH U.vm) (h : E_NW s) : E_NW U := by
  obtain ⟨h1, h2, h3, h4, h5, h6⟩ := h
  exact ⟨fun q hq => va_Nw.warmM hW (h1 q hq), h2.moved hW.alike, h3.moved hW.alike, h4.moved hW.alike, E_AOA_moved hW.alike h5, va_Nw.warmC hW h6⟩
theorem E_outer (c : ClassId) (N h0 : Nat) : ∀ i : Nat, Jvm.Free.Multi.outerC c N h0 i = arrV c N (fun j => va_rf (if j < i then some (h0 + 1 + j) else none))
  | 0 => by
    show ({ cls := c, slots := Array.replicate N .null, vm := .none } : Cell) = _
    rw [arrV_new]
    refine congrArg (arrV c N) (funext fun j => ?_)
    simp [va_rf]
  | i + 1 => by
    show (Jvm.Free.Multi.outerC c N h0 i).setSlot i (.ref (h0 + 1 + i)) = _
    rw [E_outer c N h0 i, arrV_store]
    refine congrArg (arrV c N) (funext fun j => ?_)
    by_cases e : j = i
    · subst e
      simp [updV, va_rf]
    · by_cases h : j < i
      · simp [updV, e, h, Nat.lt_succ_of_lt h]
      · simp [updV, e, h, show ¬ j < i + 1 by omega]
theorem E_P_of {D : va_G} {TY : List (ClassId × FieldType)} {sz : Nat} {h : E_H} {H : Heap} (k : ∀ (i : Nat) (x : E_O), h[i]? = some x → va_at D E_CL (sz + i, E_e TY sz x) H) : va_P D E_CL (E_ws TY sz h) H := by
  intro i q hq
  obtain ⟨h1, h2⟩ := E_ws_inv hq
  have h3 := E_ws_get (TY := TY) (sz := sz) (List.getElem?_eq_getElem h2)
  rw [h3] at hq
  cases hq
  exact k i _ (List.getElem?_eq_getElem h2)
section EHM
variable {p : Program} {l : Launch} {e : Env} {R : Room} {s : State} {m : MethodId} {args : Array Value} {below : List Frame} {meth : Method} {c : Code} {H : Heap} {locs : List Loc} {cells slots : Nat} {Q : State → Prop} {cc : ByteArray} {sz nL n0 oc : Nat} {D : va_G} {TY : List (ClassId × FieldType)} {isI : Bool}
theorem E_mna_ok (X : E_X p s m args meth c cc nL oc isI D TY sz n0) {i len a b n : Nat} {f f' : E_F} {h h' : E_H} {sl : Nat} (hr : E_rok oc (.multianewarray i 2) a b = true) (q : E_mna len f h = some (f', h', n)) (hd : decode cc f.1 = .ok (.multianewarray i 2, len)) (hR : h'.length - n0 ≤ R.cells ∧ sl + n ≤ R.slots) (kk : E_G p l e R s m args below meth c sz nL n0 D TY Q f' h' (sl + n)) : E_G p l e R s m args below meth c sz nL n0 D TY Q f h sl := by
  obtain ⟨hx, hb, hml, hts, hown, hK, hT, hN, hI, hz⟩ := X
  have hkw : Cond.classLink (E_cn oc) i "[[B" ∈ E_GT := by
    have hr' : E_KN.any (fun q => q.1 == oc && (q.2.1 == i && decide (q.2.2 = "[[B"))) = true := hr
    obtain ⟨w, hw, h1⟩ := List.any_eq_true.mp hr'
    simp only [Bool.and_eq_true, beq_iff_eq, decide_eq_true_eq] at h1
    obtain ⟨e1, e2, e3⟩ := h1
    have := E_KN_ok _ (List.mem_map.mpr ⟨w, hw, rfl⟩)
    rw [e1, e2, e3] at this
    exact this
  unfold E_mna at q
  split at q
  · rename_i pc L k k2 st
    split at q
    · rename_i w
      obtain ⟨rfl, hn, hk, hb1, hb2⟩ := w
      cases q
      intro H locs hS ls hl
      refine E_wsz (fun hbd => ?_)
      have hsz := E_size hS hz hbd
      have hS2 := hS
      obtain ⟨hP, hV, hn0⟩ := hS2
      rw [List.length_append, List.length_cons, List.length_replicate] at hR
      intro T hTH Xs
      obtain ⟨vm₁, cA, comp, -, fA, fC, hO, hI9, X', step⟩ := Xs.multianewarray2F hx (own := E_cn oc) (ty := .byte) hown (show (Cond.classLink (E_cn oc) i ("[" ++ (FieldType.array .byte).toString)).before args s = true from hts _ hkw) (show (Cond.arrayOver (.array .byte)).before args s = true from hN.2.2.2.2.1) (hts _ E_aw1) (g := F0 m pc ls (.int k :: .int k2 :: st.map (E_v sz))) rfl (by rw [hb]; exact hd) rfl hn hk (by omega) (by show k.toNatClampNeg * 1 ≤ _; omega) (by omega) rfl rfl (by have := hR.1; omega) hR.2
      generalize hF : Jvm.Free.Multi.fill (T.setVm vm₁) cA comp k2.toNatClampNeg k.toNatClampNeg (defaultValue .byte) k2.toNatClampNeg = F at X' step
      have hTh : (T.setVm vm₁).heap = H := hTH
      obtain ⟨f1, f2, -, -⟩ := Jvm.Free.Multi.fill_facts (T.setVm vm₁) cA comp k2.toNatClampNeg k.toNatClampNeg (defaultValue .byte) k2.toNatClampNeg
      rw [hF, hTh] at f1 f2
      have hold : ∀ x : Nat, x < H.size → F.heap[x]? = H[x]? := fun x hx => by
        have := Jvm.Free.Multi.fill_old (T.setVm vm₁) cA comp k2.toNatClampNeg k.toNatClampNeg (defaultValue .byte) (a := x) (by rw [hTh]; exact hx) k2.toNatClampNeg
        rw [hF, hTh] at this
        exact this
      have hrow : ∀ j : Nat, j < k2.toNatClampNeg → F.heap[H.size + 1 + j]? = some (Jvm.Free.Multi.innerC comp k.toNatClampNeg (defaultValue .byte)) := fun j hj => by
        have := Jvm.Free.Multi.fill_inner (T.setVm vm₁) cA comp k2.toNatClampNeg k.toNatClampNeg (defaultValue .byte) k2.toNatClampNeg j hj
        rw [hF, hTh] at this
        exact this
      have ec1 : cA = E_aT TY 7 := va_RA_one (ty := .array .byte) fA (hK.2 7 _ (E_ty hT rfl)).2
      have ec2 : comp = E_aT TY 1 := va_RA_one (ty := .byte) (show s.vm.findClass ("[" ++ FieldType.byte.toString) = some comp from fC) (hK.2 1 _ (E_ty hT rfl)).2
      have hP' : va_P D E_CL (E_ws TY sz (h ++ (.inl (7, (k2.toNatClampNeg, .inr (.inr (.inr (.inr (fun i => if i < k2.toNatClampNeg then some (h.length + 1 + i) else none)))))) :: List.replicate k2.toNatClampNeg (.inl (1, (k.toNatClampNeg, .inl (fun _ => 0))))))) F.heap := by
        refine E_P_of (fun j x hj => ?_)
        rcases Nat.lt_trichotomy j h.length with q1 | q1 | q1
        · rw [List.getElem?_append_left q1] at hj
          exact (hP j _ (E_ws_get hj)).kept (hold _ (by show sz + j < _; omega))
        · subst q1
          rw [List.getElem?_append_right (Nat.le_refl _), Nat.sub_self] at hj
          cases hj
          show F.heap[sz + h.length]? = some (vp_cell _ _)
          rw [← hsz, f2, E_outer, ec1]
          show some (arrV (E_aT TY 7) k2.toNatClampNeg _) = some (arrV (E_aT TY 7) k2.toNatClampNeg (fun j => va_rf ((if j < k2.toNatClampNeg then some (h.length + 1 + j) else none).map (fun k => sz + k))))
          congr 2
          funext y
          by_cases hy : y < k2.toNatClampNeg
          · rw [if_pos hy, if_pos hy]
            exact congrArg Value.ref (show (H.size + 1 + y : Nat) = sz + (h.length + 1 + y) by omega)
          · rw [if_neg hy, if_neg hy]
            rfl
        · rw [List.getElem?_append_right (by omega)] at hj
          obtain ⟨y, hy⟩ : ∃ y, j - h.length = y + 1 := ⟨j - h.length - 1, by omega⟩
          rw [hy, List.getElem?_cons_succ] at hj
          have hyl : y < k2.toNatClampNeg := by
            have := (List.getElem?_eq_some_iff.mp hj).1
            rwa [List.length_replicate] at this
          rw [List.getElem?_replicate_of_lt hyl] at hj
          cases hj
          show F.heap[sz + j]? = some (vp_cell _ _)
          rw [show sz + j = H.size + 1 + y by omega, hrow y hyl, ec2]
          show some ({ cls := E_aT TY 1, slots := Array.replicate k.toNatClampNeg (defaultValue .byte), vm := .none } : Cell) = _
          rw [arrV_new]
          rfl
      have hV' : va_S (fun q => sz ≤ q) s.heap F.heap locs := ⟨by have := hV.1; omega, fun x h1 h2 => (hold x (Nat.lt_of_lt_of_le h1 hV.1)).trans (hV.2.1 x h1 h2), hV.2.2⟩
      have k9 := kk F.heap locs ⟨hP', hV', by rw [List.length_append]; omega⟩ ls hl
      rw [List.length_append, List.length_cons, List.length_replicate, show h.length + (k2.toNatClampNeg + 1) - n0 = h.length - n0 + 1 + k2.toNatClampNeg by omega, ← Nat.add_assoc] at k9
      obtain ⟨t, a1, b1⟩ := k9 F rfl X'
      refine ⟨t, step t ?_, b1⟩
      rw [show T.heap.size = sz + h.length by rw [hTH]; exact hsz]
      exact a1
    · cases q
  · cases q
theorem E_copy_ok (X : E_X p s m args meth c cc nL oc isI D TY sz n0) {i len : Nat} {f f' : E_F} {h h' : E_H} {sl : Nat} (hr : E_has2 E_AC oc i = true) (q : E_copy len f h = some (f', h')) (hcat : E_catS f.2.2 ≤ 16) (hd : decode cc f.1 = .ok (.invokestatic i, len)) (hRf : 1 ≤ R.frames) (hRl : 48 ≤ R.locals) (kk : E_G p l e R s m args below meth c sz nL n0 D TY Q f' h' sl) : E_G p l e R s m args below meth c sz nL n0 D TY Q f h sl := by
  obtain ⟨hx, hb, hml, hts, hown, hK, hT, hN, hI, hz⟩ := X
  have hw := hts _ (E_AC_ok _ (List.mem_map.mpr ⟨_, E_has2_m hr, rfl⟩))
  unfold E_copy at q
  split at q
  · rename_i pc L n dp d sp o st
    split at q
    · rename_i t0 n0' g0 t1 n1 g1 ho hd1
      split at q
      · rename_i w
        obtain ⟨rfl, rfl, ht, hsp, hdp, hn, h4, h5, hfit⟩ := w
        cases q
        intro H locs hS ls hl
        have hg0 : (E_ws TY sz h)[o]? = some (sz + o, .inl (E_aT TY t0, n0', .inl g0)) := E_ws_get ho
        have hg1 : (E_ws TY sz h)[d]? = some (sz + d, .inl (E_aT TY t0, n1, .inl g1)) := E_ws_get hd1
        have hls : (((st.map (E_v sz)).map fun v => v.category).sum) ≤ 16 := by
          have h1 : ((st.map (E_v sz)).map fun v => v.category) = st.map (fun v => v.category) := by
            rw [List.map_map]
            exact List.map_congr_left (fun v _ => E_v_cat sz v)
          rw [h1]
          have h2 : E_catS st ≤ 16 := by
            unfold E_catS at hcat ⊢
            simp only [List.map_cons, List.sum_cons] at hcat
            omega
          exact h2
        have hnf : nativeFrameWords "java/lang/System" "arraycopy" 5 + 11 ≤ 32 := by decide +kernel
        rcases (show t0 = 0 ∨ t0 = 1 by omega) with rfl | rfl
        · exact va_copyi (ty := .int) hx hb (hml.trans hl.1.symm) hown hw (hts _ E_wac1) (hts _ E_wac2) (hts _ E_wac3) hK hS.1 E_ws_D hS.2.1 o d 0 0 hg0 hg1 (E_ty hT rfl) (E_ty hT rfl) rfl hsp hdp hn h4 h5 (fun _ _ => rfl) hRf (by omega) hd (fun H1 locs1 hP hD hV => E_st_k kk hS.2.2 hl rfl H1 locs1 hP hV)
        · exact va_copyi (ty := .byte) hx hb (hml.trans hl.1.symm) hown hw (hts _ E_wac1) (hts _ E_wac2) (hts _ E_wac3) hK hS.1 E_ws_D hS.2.1 o d 1 1 hg0 hg1 (E_ty hT rfl) (E_ty hT rfl) rfl hsp hdp hn h4 h5 (fun j hj => List.all_eq_true.mp (hfit.resolve_left (by omega)) j (List.mem_range.mpr hj)) hRf (by omega) hd (fun H1 locs1 hP hD hV => E_st_k kk hS.2.2 hl rfl H1 locs1 hP hV)
      · cases q
    · cases q
  · cases q
end EHM
