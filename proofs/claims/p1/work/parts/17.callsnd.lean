theorem E_gt_m {i : Nat} {w : Cond} (h : decide (lw_tbl[i]? = some w) = true) (g : goodWord w = true) : w ∈ E_GT := List.mem_filter.mpr ⟨List.mem_of_getElem? (of_decide_eq_true h), g⟩
/-- what the tables say of a method -/
def E_mf (M : E_MI) : Prop := (∀ r ∈ M.2.2.2.2.2.2.2, decode M.2.2.1 r.1 = .ok (r.2.1, r.2.2.1) ∧ E_rok M.1 r.2.1 r.2.2.2.1 r.2.2.2.2 = true) ∧ Cond.code M.2.1 M.2.2.1 M.2.2.2.1 M.2.2.2.2.1 ∈ E_GT ∧ Cond.initialized M.2.1.cls ∈ E_GT ∧ (M.2.2.2.2.2.1 = true → Cond.static M.2.1 ∈ E_GT) ∧ (M.2.2.2.2.2.1 = false → Cond.instanceMethod M.2.1 ∈ E_GT ∧ (M.2.1.name = "<init>" ∨ Cond.selects M.2.1.cls M.2.1 M.2.1 ∈ E_GT)) ∧ M.2.1.cls = E_cn M.1 ∧ plainName M.2.1.cls = true ∧ (M.2.1.cls ≠ "java/lang/invoke/MethodHandle" ∧ M.2.1.cls ≠ "java/lang/invoke/VarHandle") ∧ (parseMethodDescriptor M.2.1.desc).map (fun d => d.parameters.length) = some M.2.2.2.2.2.2.1 ∧ M.2.2.2.1 ≤ 29
theorem E_mf_ok {a : Nat} {M : E_MI} (hM : E_mi a = some M) : E_mf M := by
  obtain ⟨ix, h⟩ := E_M_ok hM
  obtain ⟨oc, y, bytes, mx, ret, st, na, code⟩ := M
  unfold E_mok at h
  dsimp only at h
  simp only [Bool.and_eq_true] at h
  obtain ⟨⟨⟨⟨⟨⟨⟨⟨⟨⟨h1, h2⟩, h3⟩, h4⟩, h5⟩, h6⟩, h7⟩, h8⟩, h9⟩, h10⟩, h11⟩ := h
  refine ⟨fun r hr => ?_, E_gt_m h2 h3, E_gt_m h4 h5, fun hs => ?_, fun hs => ?_, of_decide_eq_true h7, h8, of_decide_eq_true h9, of_decide_eq_true h10, of_decide_eq_true h11⟩
  · have := List.all_eq_true.mp h1 r hr
    rw [Bool.and_eq_true] at this
    exact ⟨of_decide_eq_true this.1, this.2⟩
  · have hs : st = true := hs
    subst hs
    rw [cond_true, Bool.and_eq_true] at h6
    exact E_gt_m h6.1 h6.2
  · have hs : st = false := hs
    subst hs
    rw [cond_false, Bool.and_eq_true, Bool.and_eq_true, Bool.or_eq_true] at h6
    refine ⟨E_gt_m h6.1.1 h6.1.2, h6.2.elim (fun z => Or.inl (of_decide_eq_true z)) (fun z => ?_)⟩
    rw [Bool.and_eq_true] at z
    exact Or.inr (E_gt_m z.1 z.2)
theorem E_find_m {t : List E_C} {pc : Nat} {z : Instr × Nat × Nat × Nat} : E_find t pc = some z → (pc, z) ∈ t := by
  induction t with
  | nil => intro h; cases h
  | cons r t ih =>
    intro h
    unfold E_find at h
    split at h
    · rename_i hr
      cases h
      rw [← hr]
      exact List.mem_cons_self
    · exact List.mem_cons_of_mem _ (ih h)
theorem E_good (M : E_MI) (h : Cond.code M.2.1 M.2.2.1 M.2.2.2.1 M.2.2.2.2.1 ∈ E_GT) : GoodIn E_GT (E_w M) := by
  intro w hw
  unfold E_w at hw
  have hm : w ∈ E_GT := (List.mem_cons.mp hw).elim (fun q => by rw [q]; exact h) (fun q => q)
  exact ⟨hm, good_of_word (List.mem_filter.mp hm).2⟩
section EC
variable {p : Program} {l : Launch} {e : Env} {R : Room} {s : State} {m : MethodId} {args : Array Value} {below : List Frame} {meth : Method} {c : Code} {H : Heap} {locs : List Loc} {cells slots : Nat} {Q : State → Prop} {cc : ByteArray} {sz nL n0 oc : Nat} {D : va_G} {TY : List (ClassId × FieldType)} {isI : Bool}
theorem E_call_k {mc ms pc : Nat} {ls : Array Slot} {st0 rest : List Value} {r : Option Value} {h2 : E_H} {a : Array Value} (hr : va_Run p l e R s m args below meth c H locs cells slots mc ms (F0 m pc ls st0) rest (E_Qc D TY sz r h2 a) (fun q => sz ≤ q)) (hV : va_S (fun q => sz ≤ q) s.heap H locs)
    (kk : ∀ (H1 : Heap) (locs1 : List Loc), va_P D E_CL (E_ws TY sz h2) H1 → va_S (fun q => sz ≤ q) s.heap H1 locs1 → W p l e R s m args below meth c H1 locs1 (cells + mc) (slots + ms) Q (F0 m (pc + 3) ls ((r.map (E_v sz)).toList ++ rest))) : W p l e R s m args below meth c H locs cells slots Q (F0 m pc ls st0) := by
  intro T hT X
  obtain ⟨v, st₀, t, T', L, h0, X', hL, e1, e2, ⟨⟨hv, hb⟩, hz, hk⟩, st⟩ := hr T hT X
  cases hv
  rw [h0] at hz hk
  obtain ⟨t2, a1, b1⟩ := kk T'.heap (locs ++ L) (by rw [e1]; exact hb)
    ⟨Nat.le_trans hV.1 (by rw [e1]; exact hz), fun q h1 h2 => by rw [e1, hk q (Nat.lt_of_lt_of_le h1 hV.1) h2]; exact hV.2.1 q h1 h2, fun q hq => by
      rcases List.mem_append.mp hq with h | h
      · exact hV.2.2 q h
      · exact hL q h⟩ T' rfl X'
  exact ⟨t2, st t2 a1, b1⟩
theorem E_blind {vs : List Value} {h : E_H} : FrameBlind (E_Pc D TY sz vs h) := by
  intro a U g mk q
  obtain ⟨q0, q1, q2, q3, q4⟩ := q
  exact ⟨q0, q1, q2, va_K.moved (u := U) (U := U.calling g mk a) (Vm.Alike.refl U.vm) q3, E_NW_moved (s := U) (U := U.calling g mk a) (State.WarmedH.refl U) q4⟩
theorem E_cat_map (st : List Value) : (((st.map (E_v sz)).map fun v => v.category).sum) = E_catS st := by
  unfold E_catS
  rw [List.map_map]
  exact congrArg List.sum (List.map_congr_left (fun v _ => E_v_cat sz v))
/-- a call -/
theorem E_inv_ok (X : E_X p s m args meth c cc nL oc isI D TY sz n0) {d kind i a b : Nat} {orc : Nat → List Value → E_H → Option E_R}
    (hO : ∀ (a : Nat) (M : E_MI) (vs : List Value) (h : E_H) (r : E_R), E_mi a = some M → orc a vs h = some r → E_Met l D TY sz d M vs h r ∧ h.length ≤ r.2.1.length)
    (hRf : d + 1 ≤ R.frames) (hRl : 48 * (d + 1) ≤ R.locals) {ins : Instr} (hi : (kind = 0 ∧ ins = .invokestatic i) ∨ (kind = 1 ∧ ins = .invokevirtual i) ∨ (kind = 2 ∧ ins = .invokespecial i))
    (hr : (bif b == 1 then E_has3 E_MN oc i a else E_has3 E_ML oc i a) = true) {f f' : E_F} {h h' : E_H} {sl sl' : Nat} (q : E_inv orc kind a f h sl = some (f', h', sl')) (hd : decode cc f.1 = .ok (ins, 3)) (hR : h'.length - n0 ≤ R.cells ∧ sl' ≤ R.slots) (kk : E_G p l e R s m args below meth c sz nL n0 D TY Q f' h' sl') : E_G p l e R s m args below meth c sz nL n0 D TY Q f h sl := by
  obtain ⟨hx, hb, hml, hts, hown, hK, hT, hN, hI, hz⟩ := X
  unfold E_inv at q
  split at q
  · cases q
  · rename_i M hM
    split at q
    · cases q
    · rename_i vs rest hp
      split at q
      · rename_i hk
        split at q
        · rename_i hc
          split at q
          · cases q
          · rename_i r h2 s2 ho
            cases q
            obtain ⟨g1, g2, g3, g4, g5, g6, g7, g8, g9, g10⟩ := E_mf_ok hM
            obtain ⟨hMet, hlen⟩ := hO a M vs h _ hM ho
            have hlen : h.length ≤ h'.length := hlen
            have hey : E_y a = M.2.1 := by unfold E_y; rw [E_mi_get hM]
            have hG := E_good M g2
            intro H locs hS ls hl
            refine E_wsz (fun hbd => ?_)
            have hsz := E_size hS hz hbd
            obtain ⟨hP, hV, hn0⟩ := hS
            have hpre : ∀ U : State, U.heap = H → s.WarmedH U.vm → E_Pc D TY sz vs h (vs.map (E_v sz)).toArray U := fun U hU hW => ⟨rfl, by rw [hU]; exact hsz, by rw [hU]; exact hP, va_K.moved hW.alike hK, E_NW_moved hW hN⟩
            have hroom : (E_rm d (h'.length - h.length) s2).frames + 1 ≤ R.frames ∧ 8 + (M.2.2.2.1 + 11) + (E_rm d (h'.length - h.length) s2).locals ≤ R.locals := ⟨hRf, by show 8 + (M.2.2.2.1 + 11) + 48 * d ≤ R.locals; omega⟩
            have hlinkL : b ≠ 1 → (Cond.methodLink (E_cn oc) i M.2.1).before args s = true := fun hb1 => by
              have h1 : E_has3 E_ML oc i a = true := by
                have : (b == 1) = false := by simpa using hb1
                rw [this] at hr
                exact hr
              have := hts _ (E_ML_ok _ (List.mem_map.mpr ⟨_, E_has3_m h1, rfl⟩))
              unfold E_MLw at this
              rw [hey] at this
              exact this
            have hlinkN : b = 1 → va_Nw (.methodLinkNest (E_cn oc) i M.2.1 "GramFinder") s := fun hb1 => by
              subst hb1
              have := hN.1 _ (E_has3_m hr)
              unfold E_MNw at this
              rw [hey] at this
              exact this
            have hf : h.length - n0 + (h'.length - h.length) ≤ R.cells ∧ sl + s2 ≤ R.slots := ⟨by have := hR.1; omega, hR.2⟩
            have hk2 : ∀ (H1 : Heap) (locs1 : List Loc), va_P D E_CL (E_ws TY sz h') H1 → va_S (fun q => sz ≤ q) s.heap H1 locs1 → W p l e R s m args below meth c H1 locs1 (h.length - n0 + (h'.length - h.length)) (sl + s2) Q (F0 m (f.1 + 3) ls ((r.map (E_v sz)).toList ++ rest.map (E_v sz))) := fun H1 locs1 hP1 hV1 => by
              have k9 := kk H1 locs1 ⟨hP1, hV1, Nat.le_trans hn0 hlen⟩ ls hl
              rw [show h'.length - n0 = h.length - n0 + (h'.length - h.length) by omega] at k9
              have e9 : ((f.1 + 3, f.2.1, r.toList ++ rest) : E_F).2.2.map (E_v sz) = (r.map (E_v sz)).toList ++ rest.map (E_v sz) := by
                rw [show ((f.1 + 3, f.2.1, r.toList ++ rest) : E_F).2.2 = r.toList ++ rest from rfl, List.map_append]
                cases r <;> rfl
              rw [e9] at k9
              exact k9
            have hcat : ((rest.map (E_v sz)).map fun v => v.category).sum ≤ 8 := by rw [E_cat_map]; exact hc
            have hnL : ls.size = nL := hl.1
            rcases E_pop2_i hp with ⟨hst, hvl, hstk⟩ | ⟨hst, o, As, rfl, hvl, hstk⟩
            · -- static
              have hst1 : M.2.2.2.2.2.1 = true := by simpa using hst
              have hkind : kind = 0 := by
                unfold E_kok at hk
                split at hk
                · rfl
                · rw [hst1] at hk; simp at hk
                · rw [hst1] at hk; simp at hk
                · cases hk
              have hins : ins = .invokestatic i := by
                rcases hi with ⟨-, z⟩ | ⟨z, -⟩ | ⟨z, -⟩
                · exact z
                · omega
                · omega
              subst hins
              have hstack : (F0 m f.1 ls (f.2.2.map (E_v sz))).stack = (vs.map (E_v sz)).reverse ++ rest.map (E_v sz) := by
                show f.2.2.map (E_v sz) = _
                rw [hstk, List.map_append, List.map_reverse]
              have hPS : PreS s H (E_Pc D TY sz vs h) (vs.map (E_v sz)) := ⟨E_blind, fun U hU hW => hpre U hU hW⟩
              by_cases hb1 : b = 1
              · exact E_call_k (va_runSN (Ts := E_GT) ⟨hx, hb, hml, hown, hts⟩ hMet ⟨va_cnB M.2.2.2.2.2.2.1 hts hG rfl rfl rfl (hlinkN hb1) (hts _ g3) ⟨g8.1, g8.2, g9⟩ hroom, hts _ (g4 hst1), trivial⟩ hPS rfl (by rw [List.length_map]; exact hvl) hnL hstack (lv_room hcat) hd hf) hV hk2
              · exact E_call_k (va_runS (Ts := E_GT) ⟨hx, hb, hml, hown, hts⟩ hMet ⟨callB_of M.2.2.2.2.2.2.1 hts hG rfl rfl rfl (hts _ g3) (hlinkL hb1) ⟨g8.1, g8.2, g9⟩ hroom, hts _ (g4 hst1)⟩ hPS rfl (by rw [List.length_map]; exact hvl) hnL hstack (lv_room hcat) hd hf) hV hk2
            · have hst0 : M.2.2.2.2.2.1 = false := by simpa using hst
              have hstack : (F0 m f.1 ls (f.2.2.map (E_v sz))).stack = (As.map (E_v sz)).reverse ++ .ref (sz + o) :: rest.map (E_v sz) := by
                show f.2.2.map (E_v sz) = _
                rw [hstk, List.map_append, List.map_reverse]
                rfl
              have hk0 : kind ≠ 0 := by
                intro hz0
                subst hz0
                unfold E_kok at hk
                rw [hst0] at hk
                cases hk
              rcases hi with ⟨z, -⟩ | ⟨hkk, rfl⟩ | ⟨hkk, rfl⟩
              · exact absurd z hk0
              · -- virtual
                subst hkk
                unfold E_kok at hk
                simp only [Bool.and_eq_true] at hk
                obtain ⟨⟨-, hnI⟩, hrc⟩ := hk
                have hnI : M.2.1.name ≠ "<init>" := by
                  intro z
                  unfold E_isI at hnI
                  rw [z] at hnI
                  simp at hnI
                have hsel := (g5 hst0).2.resolve_left hnI
                have hrcv : ∃ cell : Cell, H[sz + o]? = some cell ∧ cell.vm.isStatics = false ∧ s.vm.findClass M.2.1.cls = some cell.cls := by
                  unfold E_rcv at hrc
                  dsimp only at hrc
                  split at hrc
                  · rename_i ci fs ho9
                    rw [Bool.and_eq_true, beq_iff_eq, decide_eq_true_eq] at hrc
                    obtain ⟨C, T, hcl⟩ := E_cl_13 hrc.2
                    have := va_recv hK hP hcl (q0 := o) (E_ws_get ho9)
                    rw [g6, ← hrc.1, (E_cl_ok _ _ _ _ hcl).2.2.2.2.2.2.1]
                    exact this
                  · cases hrc
                have hPV : PreV s H M.2.1.cls (sz + o) (E_Pc D TY sz (.ref o :: As) h) (As.map (E_v sz)) := ⟨E_blind, hrcv, fun U hU hW => hpre U hU hW⟩
                by_cases hb1 : b = 1
                · exact E_call_k (va_runVN (Ts := E_GT) ⟨hx, hb, hml, hown, hts⟩ hMet ⟨va_cnB M.2.2.2.2.2.2.1 hts hG rfl rfl rfl (hlinkN hb1) (hts _ g3) ⟨g8.1, g8.2, g9⟩ hroom, hts _ (g5 hst0).1, hts _ hsel⟩ hPV rfl (by rw [List.length_map]; exact hvl) hnL hstack (lv_room hcat) hd hf) hV hk2
                · exact E_call_k (va_runV (Ts := E_GT) ⟨hx, hb, hml, hown, hts⟩ hMet ⟨callB_of M.2.2.2.2.2.2.1 hts hG rfl rfl rfl (hts _ g3) (hlinkL hb1) ⟨g8.1, g8.2, g9⟩ hroom, hts _ (g5 hst0).1, hts _ hsel⟩ hPV rfl (by rw [List.length_map]; exact hvl) hnL hstack (lv_room hcat) hd hf) hV hk2
              · -- a constructor
                subst hkk
                unfold E_kok at hk
                simp only [Bool.and_eq_true] at hk
                obtain ⟨⟨-, hnI⟩, hret⟩ := hk
                have hnm : M.2.1.name = "<init>" := of_decide_eq_true hnI
                have hret : M.2.2.2.2.1 = none := of_decide_eq_true hret
                unfold E_Met at hMet
                have hG' := hG
                unfold E_w at hMet hG'
                rw [hret] at hMet hG'
                have hPS : PreS s H (E_Pc D TY sz (.ref o :: As) h) (.ref (sz + o) :: As.map (E_v sz)) := ⟨E_blind, fun U hU hW => hpre U hU hW⟩
                by_cases hb1 : b = 1
                · exact E_call_k (va_runIN (Ts := E_GT) ⟨hx, hb, hml, hown, hts⟩ hMet ⟨va_cnB M.2.2.2.2.2.2.1 hts hG' rfl rfl rfl (hlinkN hb1) (hts _ g3) ⟨g8.1, g8.2, g9⟩ hroom, hnm, hts _ (g5 hst0).1⟩ hPS rfl (by rw [List.length_map]; exact hvl) hnL hstack (lv_room hcat) hd hf) hV hk2
                · exact E_call_k (va_runI (Ts := E_GT) ⟨hx, hb, hml, hown, hts⟩ hMet ⟨callB_of M.2.2.2.2.2.2.1 hts hG' rfl rfl rfl (hts _ g3) (hlinkL hb1) ⟨g8.1, g8.2, g9⟩ hroom, hnm, hts _ (g5 hst0).1⟩ hPS rfl (by rw [List.length_map]; exact hvl) hnL hstack (lv_room hcat) hd hf) hV hk2
        · cases q
      · cases q
end EC
