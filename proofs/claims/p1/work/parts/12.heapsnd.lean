section EHS
variable {p : Program} {l : Launch} {e : Env} {R : Room} {s : State} {m : MethodId} {args : Array Value} {below : List Frame} {meth : Method} {c : Code} {H : Heap} {locs : List Loc} {cells slots : Nat} {Q : State → Prop} {cc : ByteArray} {sz nL n0 oc : Nat} {D : va_G} {TY : List (ClassId × FieldType)} {isI : Bool}
theorem E_f1_i {x : Option E_F} {h h' : E_H} {f' : E_F} {n : Nat} (q : E_f1 x h = some (f', h', n)) : x = some f' ∧ h' = h ∧ n = 0 := by
  cases x with
  | none => cases q
  | some y => cases q; exact ⟨rfl, rfl, rfl⟩
theorem E_f2_i {x : Option (E_F × E_H)} {h' : E_H} {f' : E_F} {n k : Nat} (q : E_f2 x k = some (f', h', n)) : x = some (f', h') ∧ n = k := by
  cases x with
  | none => cases q
  | some y => cases q; exact ⟨rfl, rfl⟩
theorem E_inb_ok {i : Int32} {n : Nat} (h : E_inb i n = true) : vp_in i n := (of_decide_eq_true h : ¬ (i < 0 ∨ n ≤ i.toNatClampNeg))
theorem E_rf_v {sz : Nat} (r : Option Nat) : va_rf (r.map (fun k => sz + k)) = E_v sz (va_rf r) := by cases r <;> rfl
theorem E_getf_ok (X : E_X p s m args meth c cc nL oc isI D TY sz n0) {i len a b : Nat} {f f' : E_F} {h : E_H} {sl : Nat} (hr : E_has4 E_FL oc i a b = true) (q : E_getf len a b f h = some f') (hd : decode cc f.1 = .ok (.getfield i, len)) (kk : E_G p l e R s m args below meth c sz nL n0 D TY Q f' h sl) : E_G p l e R s m args below meth c sz nL n0 D TY Q f h sl := by
  obtain ⟨hx, hb, hml, hts, hown, hK, hT, hN, hI, hz⟩ := X
  unfold E_getf at q
  split at q
  · rename_i pc L o st
    split at q
    · rename_i ci fs ho
      split at q
      · rename_i v hv
        split at q
        · rename_i g
          obtain ⟨rfl, rfl, hN'⟩ := g
          cases q
          intro H locs hS ls hl
          obtain ⟨C, T, hc⟩ := E_cl_some hN'
          obtain ⟨c1, c2, c3, c4, c5, c6, c7, c8, c9⟩ := E_cl_ok _ _ _ _ hc
          have hw := E_FL_ok _ (List.mem_map.mpr ⟨_, E_has4_m hr, rfl⟩)
          unfold E_FLw at hw
          rw [show E_CL[((oc, i, ci, b) : Nat × Nat × Nat × Nat).2.2.1]? = some (C, T, E_N ci) from hc] at hw
          exact va_get hx hb hts c3 hown hK hS.1 o (E_ws_get ho) hc b hN' (hts _ hw) (fun _ z => z) (by show (fs.map (E_v sz))[b]? = some (E_v sz v); rw [List.getElem?_map, hv]; rfl) hd (kk H locs hS ls hl)
        · cases q
      · cases q
    · cases q
  · cases q
theorem E_fits_v (sz : Nat) (ty : FieldType) (v : Value) : fits ty (E_v sz v) = fits ty v := by cases v <;> cases ty <;> rfl
theorem E_nar_v (sz : Nat) (ty : FieldType) (v : Value) (h : narrow ty v = v) : narrow ty (E_v sz v) = E_v sz v := by
  cases v <;> first | exact h | (cases ty <;> rfl)
theorem E_putf_ok (X : E_X p s m args meth c cc nL oc isI D TY sz n0) {i len a b : Nat} {f f' : E_F} {h h' : E_H} {sl : Nat} (hr : E_has4 E_FL oc i a b = true) (q : E_putf isI oc len a b f h = some (f', h')) (hd : decode cc f.1 = .ok (.putfield i, len)) (kk : E_G p l e R s m args below meth c sz nL n0 D TY Q f' h' sl) : E_G p l e R s m args below meth c sz nL n0 D TY Q f h sl := by
  obtain ⟨hx, hb, hml, hts, hown, hK, hT, hN, hI, hz⟩ := X
  unfold E_putf at q
  split at q
  · rename_i pc L v o st
    split at q
    · rename_i ci fs ho
      split at q
      · rename_i g
        obtain ⟨rfl, rfl, hN', hfl, hfin, hnar, hfit⟩ := g
        cases q
        intro H locs hS ls hl
        obtain ⟨C, T, hc⟩ := E_cl_some hN'
        obtain ⟨c1, c2, c3, c4, c5, c6, c7, c8, c9⟩ := E_cl_ok _ _ _ _ hc
        have hw := E_FL_ok _ (List.mem_map.mpr ⟨_, E_has4_m hr, rfl⟩)
        unfold E_FLw at hw
        rw [show E_CL[((oc, i, ci, b) : Nat × Nat × Nat × Nat).2.2.1]? = some (C, T, E_N ci) from hc] at hw
        have hset : (sz + o, (.inr (ci, (fs.map (E_v sz)).set b (E_v sz v)) : va_E)) = (sz + o, E_e TY sz (.inr (ci, fs.set b v))) := by
          show _ = (sz + o, (.inr (ci, (fs.set b v).map (E_v sz)) : va_E))
          rw [List.map_set]
        by_cases hfb : E_fin ci b = false
        · refine va_put hx hb hts c3 (E_cty ci) c1 c2 hown hK hS.1 E_ws_D hS.2.1 o (E_ws_get ho) hc b hN' (hts _ hw) (fun _ z => z) (by rw [← c9]; exact hfb) (c1 b hN') (E_nar_v sz _ _ hnar) (by rw [E_fits_v]; exact hfit) (by rw [List.length_map]; exact hfl) hd (fun H1 locs1 hP hD hV => ?_)
          rw [hset] at hP
          have := kk H1 locs1 (E_stored hS.2.2 hP hV) ls hl
          rw [List.length_set] at this
          exact this
        · obtain ⟨hI1, rfl⟩ := hfin.resolve_left hfb
          refine va_putF hx hb hts c3 (E_cty oc) c1 c2 hown hK hS.1 E_ws_D hS.2.1 o (E_ws_get ho) hc b hN' (hts _ hw) (fun _ z => z) (by rw [← c9]; cases hfz : E_fin oc b <;> first | exact absurd hfz hfb | rfl) (hI hI1) (by rw [c6 b hN', c7]) (c1 b hN') (E_nar_v sz _ _ hnar) (by rw [E_fits_v]; exact hfit) (by rw [List.length_map]; exact hfl) hd (fun H1 locs1 hP hD hV => ?_)
          rw [hset] at hP
          have := kk H1 locs1 (E_stored hS.2.2 hP hV) ls hl
          rw [List.length_set] at this
          exact this
      · cases q
    · cases q
  · cases q
theorem E_ald_ok (X : E_X p s m args meth c cc nL oc isI D TY sz n0) {ins : Instr} {tok : Nat → Bool} {len : Nat} {f f' : E_F} {h : E_H} {sl : Nat} (q : E_ald len tok f h = some f') (hd : decode cc f.1 = .ok (ins, len)) (hi : (ins = .iaload ∧ ∀ t, tok t = true → t = 0) ∨ (ins = .baload ∧ ∀ t, tok t = true → t = 1 ∨ t = 2)) (kk : E_G p l e R s m args below meth c sz nL n0 D TY Q f' h sl) : E_G p l e R s m args below meth c sz nL n0 D TY Q f h sl := by
  obtain ⟨hx, hb, hml, hts, hown, hK, hT, hN, hI, hz⟩ := X
  unfold E_ald at q
  split at q
  · rename_i pc L i o st
    split at q
    · rename_i t n g ho
      split at q
      · rename_i w
        obtain ⟨rfl, ht, hin⟩ := w
        cases q
        intro H locs hS ls hl
        have hg : (E_ws TY sz h)[o]? = some (sz + o, .inl (E_aT TY t, n, .inl g)) := E_ws_get ho
        rcases hi with ⟨rfl, hq⟩ | ⟨rfl, hq⟩
        · have := hq t ht
          subst this
          exact va_iald hx hb hK hS.1 o 0 hg (E_ty hT rfl) (E_inb_ok hin) hd (kk H locs hS ls hl)
        · rcases hq t ht with rfl | rfl
          · exact va_bald hx hb hK hS.1 o 1 hg (E_ty hT rfl) (E_inb_ok hin) hd (kk H locs hS ls hl)
          · exact va_zald hx hb hK hS.1 o 2 hg (E_ty hT rfl) (E_inb_ok hin) hd (kk H locs hS ls hl)
      · cases q
    · cases q
  · cases q
theorem E_lald_ok (X : E_X p s m args meth c cc nL oc isI D TY sz n0) {len : Nat} {f f' : E_F} {h : E_H} {sl : Nat} (q : E_lald len f h = some f') (hd : decode cc f.1 = .ok (.laload, len)) (kk : E_G p l e R s m args below meth c sz nL n0 D TY Q f' h sl) : E_G p l e R s m args below meth c sz nL n0 D TY Q f h sl := by
  obtain ⟨hx, hb, hml, hts, hown, hK, hT, hN, hI, hz⟩ := X
  unfold E_lald at q
  split at q
  · rename_i pc L i o st
    split at q
    · rename_i t n g ho
      split at q
      · rename_i w
        obtain ⟨rfl, rfl, hin⟩ := w
        cases q
        intro H locs hS ls hl
        have hg : (E_ws TY sz h)[o]? = some (sz + o, .inl (E_aT TY 3, n, .inr (.inl g))) := E_ws_get ho
        exact va_lald hx hb hK hS.1 o 3 hg (E_ty hT rfl) (E_inb_ok hin) hd (kk H locs hS ls hl)
      · cases q
    · cases q
  · cases q
theorem E_aty_ref {t : Nat} (h1 : 4 ≤ t) (h2 : t < 8) : ∃ ty, E_ATY[t]? = some ty ∧ ty.isReference = true := by
  rcases (show t = 4 ∨ t = 5 ∨ t = 6 ∨ t = 7 by omega) with rfl | rfl | rfl | rfl <;> exact ⟨_, rfl, rfl⟩
theorem E_aty_obj {t : Nat} (h1 : 4 ≤ t) (h2 : t < 7) : ∃ C, E_ATY[t]? = some (.object C) := by
  rcases (show t = 4 ∨ t = 5 ∨ t = 6 by omega) with rfl | rfl | rfl <;> exact ⟨_, rfl⟩
theorem E_aald_ok (X : E_X p s m args meth c cc nL oc isI D TY sz n0) {len : Nat} {f f' : E_F} {h : E_H} {sl : Nat} (q : E_aald len f h = some f') (hd : decode cc f.1 = .ok (.aaload, len)) (kk : E_G p l e R s m args below meth c sz nL n0 D TY Q f' h sl) : E_G p l e R s m args below meth c sz nL n0 D TY Q f h sl := by
  obtain ⟨hx, hb, hml, hts, hown, hK, hT, hN, hI, hz⟩ := X
  unfold E_aald at q
  split at q
  · rename_i pc L i o st
    split at q
    · rename_i t n g ho
      split at q
      · rename_i w
        obtain ⟨rfl, ht1, ht2, hin⟩ := w
        cases q
        intro H locs hS ls hl
        have hg : (E_ws TY sz h)[o]? = some (sz + o, .inl (E_aT TY t, n, .inr (.inr (.inr (.inr (fun j => (g j).map (fun k => sz + k))))))) := E_ws_get ho
        obtain ⟨ty, e1, e2⟩ := E_aty_ref ht1 ht2
        have hin' := E_inb_ok hin
        have hlt : i.toNatClampNeg < n := Nat.not_le.mp fun z => hin' (Or.inr z)
        have k2 := kk H locs hS ls hl
        rw [show ((pc + 1, L, va_rf (g i.toNatClampNeg) :: st) : E_F).2.2.map (E_v sz) = va_rf ((g i.toNatClampNeg).map (fun k => sz + k)) :: st.map (E_v sz) by rw [E_rf_v]; rfl] at k2
        exact W.aald (v := va_rf ((g i.toNatClampNeg).map (fun k => sz + k))) (ty := ty) hx hb (hS.1 o _ hg) ((hK.2 t _ (E_ty hT e1)).1 n (fun j => va_rf ((g j).map (fun k => sz + k)))) e2 (fun z => by cases z) (by show ¬ (i < 0 ∨ (arrV _ _ _).slots.size ≤ _); rw [arrV_size]; exact hin') (by show (arrV _ _ _).slots[_]? = _; rw [arrV_read _ _ hlt]) rfl rfl hd k2
      · cases q
    · cases q
  · cases q
end EHS
