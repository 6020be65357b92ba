/-! the law's own steps -/
def R_law : String := "GramFinderLaw"
section LW
variable {p : Program} {l : Launch} {e : Env} {R : Room} {s : State} {m : MethodId} {args : Array Value} {below : List Frame} {meth : Method} {c : Code} {H : Heap} {locs : List Loc} {cells sl : Nat} {Q : State → Prop} {sz : Nat} {D : va_G} {TY : List (ClassId × FieldType)}
/-- what holds throughout the law's run -/
def L_X (p : Program) (s : State) (m : MethodId) (args : Array Value) (c : Code) (D : va_G) (TY : List (ClassId × FieldType)) (b L : Nat) (xs : Nat → Int32) (sz : Nat) : Prop :=
  p.tables.exec = Jvm.exec ∧ c.code = code ∧ c.maxLocals = 4 ∧ s.vm.findClass R_law = some m.cls ∧ (∀ w ∈ lw_tbl, w.before args s = true) ∧ va_X b L xs s s.heap ∧ b < s.heap.size ∧ s.heap.size = sz ∧ va_K D E_CL TY s ∧ TY.map Prod.snd = E_ATY ∧ E_NW s ∧ L < 2 ^ 30
theorem L_arg {b L i k pc x y : Nat} {xs : Nat → Int32} {ls : Array Slot} {rest : List Value} {n : Int} (X : L_X p s m args c D TY b L xs sz) (hl : lv_has ls 4 [(0, .ref b), (1, .ref x), (2, .ref y), (3, .int (nI i))]) (hV : va_S (fun q => sz ≤ q) s.heap H locs) (hik : i + k < L) (hn : Int32.ofInt n = nI k)
    (d0 : decode code pc = .ok (.aload_n 0, 1)) (d1 : decode code (pc + 1) = .ok (.iload_n 3, 1)) (d2 : decode code (pc + 2) = .ok (.iconst n, 1)) (d3 : decode code (pc + 3) = .ok (.iadd, 1)) (d4 : decode code (pc + 4) = .ok (.iaload, 1))
    (kk : W p l e R s m args below meth c H locs cells sl Q (F0 m (pc + 5) ls (.int (xs (i + k)) :: rest))) : W p l e R s m args below meth c H locs cells sl Q (F0 m pc ls rest) := by
  obtain ⟨hx, hb, hml, hown, hts, hX, hbl, hz, hK, hT, hN, hL⟩ := X
  refine lv_aload_n hx hb d0 rfl (lv_at hl 0 rfl) ?_
  refine lv_iload_n hx hb d1 rfl (lv_at hl 3 rfl) ?_
  refine lv_iconst hx hb d2 hn ?_
  refine lv_iadd hx hb d3 ?_
  rw [nI_add]
  refine va_sld hx hb hX hbl (by show ¬ sz ≤ b; omega) hV (vp_in_nI hik (by omega)) d4 ?_
  rw [nI_clamp (show i + k < 2 ^ 31 by omega)]
  exact kk
theorem L_arg0 {b L i pc x y : Nat} {xs : Nat → Int32} {ls : Array Slot} {rest : List Value} (X : L_X p s m args c D TY b L xs sz) (hl : lv_has ls 4 [(0, .ref b), (1, .ref x), (2, .ref y), (3, .int (nI i))]) (hV : va_S (fun q => sz ≤ q) s.heap H locs) (hik : i < L)
    (d0 : decode code pc = .ok (.aload_n 0, 1)) (d1 : decode code (pc + 1) = .ok (.iload_n 3, 1)) (d4 : decode code (pc + 2) = .ok (.iaload, 1))
    (kk : W p l e R s m args below meth c H locs cells sl Q (F0 m (pc + 3) ls (.int (xs i) :: rest))) : W p l e R s m args below meth c H locs cells sl Q (F0 m pc ls rest) := by
  obtain ⟨hx, hb, hml, hown, hts, hX, hbl, hz, hK, hT, hN, hL⟩ := X
  refine lv_aload_n hx hb d0 rfl (lv_at hl 0 rfl) ?_
  refine lv_iload_n hx hb d1 rfl (lv_at hl 3 rfl) ?_
  refine va_sld hx hb hX hbl (by show ¬ sz ≤ b; omega) hV (vp_in_nI hik (by omega)) d4 ?_
  rw [nI_clamp (show i < 2 ^ 31 by omega)]
  exact kk
theorem L_good (M : E_MI) (h : Cond.code M.2.1 M.2.2.1 M.2.2.2.1 M.2.2.2.2.1 ∈ E_GT) : GoodIn lw_tbl (E_w M) := fun w hw => ⟨(List.mem_filter.mp (E_good M h w hw).1).1, (E_good M h w hw).2⟩
theorem L_gt {s : State} {args : Array Value} (hts : ∀ w ∈ lw_tbl, w.before args s = true) : ∀ w ∈ E_GT, w.before args s = true := fun w hw => hts w (List.mem_filter.mp hw).1
/-- a call out of the law on an object -/
theorem L_call {b L pc o a idx fuel d s2 : Nat} {xs : Nat → Int32} {ls : Array Slot} {rest : List Value} {M : E_MI} {is : List Int32} {v : Int32} {h h2 : E_H} {fs : List Value} (X : L_X p s m args c D TY b L xs sz) (hls : ls.size = 4) (hS : E_S D TY sz 0 s h H locs)
    (hM : E_mi a = some M) (hq : E_call fuel d a (.ref o :: is.map Value.int) h = some (some (.int v), h2, s2)) (ho : h[o]? = some (.inr (M.1, fs))) (h13 : M.1 < 13) (hst : M.2.2.2.2.2.1 = false) (hnI : M.2.1.name ≠ "<init>") (hna : is.length = M.2.2.2.2.2.2.1)
    (hlink : Cond.methodLink R_law idx M.2.1 ∈ lw_tbl) (hdg : decode code pc = .ok (.invokevirtual idx, 3)) (hRf : d + 1 ≤ R.frames) (hRl : 48 * (d + 1) ≤ R.locals) (hcat : (rest.map fun v => v.category).sum ≤ 8) (hR : h2.length ≤ R.cells ∧ sl + s2 ≤ R.slots)
    (kk : ∀ (H1 : Heap) (locs1 : List Loc), E_S D TY sz 0 s h2 H1 locs1 → W p l e R s m args below meth c H1 locs1 h2.length (sl + s2) Q (F0 m (pc + 3) ls (.int v :: rest))) : W p l e R s m args below meth c H locs h.length sl Q (F0 m pc ls ((is.map Value.int).reverse ++ .ref (sz + o) :: rest)) := by
  obtain ⟨hx, hb, hml, hown, hts, hX, hbl, hz, hK, hT, hN, hL⟩ := X
  obtain ⟨hMet, hlen⟩ := E_call_met l D TY hT sz fuel d a M _ h _ hM hq
  have hlen : h.length ≤ h2.length := hlen
  obtain ⟨g1, g2, g3, g4, g5, g6, g7, g8, g9, g10⟩ := E_mf_ok hM
  have hts2 := L_gt hts
  refine E_wsz (fun hbd => ?_)
  have hsz := E_size hS hz (by omega)
  obtain ⟨hP, hV, hn0⟩ := hS
  have hei : (is.map Value.int).map (E_v sz) = is.map Value.int := by
    rw [List.map_map]
    rfl
  have hrcv : ∃ cell : Cell, H[sz + o]? = some cell ∧ cell.vm.isStatics = false ∧ s.vm.findClass M.2.1.cls = some cell.cls := by
    obtain ⟨C, T, hcl⟩ := E_cl_13 h13
    have := va_recv hK hP hcl (q0 := o) (E_ws_get ho)
    rw [g6, (E_cl_ok _ _ _ _ hcl).2.2.2.2.2.2.1]
    exact this
  have hPV : PreV s H M.2.1.cls (sz + o) (E_Pc D TY sz (.ref o :: is.map Value.int) h) (is.map Value.int) := ⟨E_blind, hrcv, fun U hU hW => by
    refine ⟨?_, by rw [hU]; exact hsz, by rw [hU]; exact hP, va_K.moved hW.alike hK, E_NW_moved hW hN⟩
    rw [List.map_cons, hei]
    rfl⟩
  have hroom : (E_rm d (h2.length - h.length) s2).frames + 1 ≤ R.frames ∧ 8 + (M.2.2.2.1 + 11) + (E_rm d (h2.length - h.length) s2).locals ≤ R.locals := ⟨hRf, by show 8 + (M.2.2.2.1 + 11) + 48 * d ≤ R.locals; omega⟩
  refine E_call_k (va_runV (Ts := lw_tbl) ⟨hx, hb, hml, hown, hts⟩ hMet ⟨callB_of M.2.2.2.2.2.2.1 hts (L_good M g2) rfl rfl rfl (hts2 _ g3) (hts _ hlink) ⟨g8.1, g8.2, g9⟩ hroom, hts2 _ (g5 hst).1, hts2 _ ((g5 hst).2.resolve_left hnI)⟩ hPV rfl (by rw [List.length_map]; exact hna) hls rfl (lv_room hcat) hdg ⟨by show h.length + (h2.length - h.length) ≤ R.cells; omega, hR.2⟩) hV (fun H1 locs1 hP1 hV1 => ?_)
  have k9 := kk H1 locs1 ⟨hP1, hV1, Nat.zero_le _⟩
  rw [show h2.length = h.length + (h2.length - h.length) by omega] at k9
  exact k9
/-- a constructor's call out of the law -/
theorem L_init {b L pc o a idx fuel d s2 : Nat} {xs : Nat → Int32} {ls : Array Slot} {rest : List Value} {M : E_MI} {h h2 : E_H} (X : L_X p s m args c D TY b L xs sz) (hls : ls.size = 4) (hS : E_S D TY sz 0 s h H locs)
    (hM : E_mi a = some M) (hq : E_call fuel d a [.ref o] h = some (none, h2, s2)) (hst : M.2.2.2.2.2.1 = false) (hnm : M.2.1.name = "<init>") (hret : M.2.2.2.2.1 = none) (hna : 0 = M.2.2.2.2.2.2.1)
    (hlink : Cond.methodLink R_law idx M.2.1 ∈ lw_tbl) (hdg : decode code pc = .ok (.invokespecial idx, 3)) (hRf : d + 1 ≤ R.frames) (hRl : 48 * (d + 1) ≤ R.locals) (hcat : (rest.map fun v => v.category).sum ≤ 8) (hR : h2.length ≤ R.cells ∧ sl + s2 ≤ R.slots)
    (kk : ∀ (H1 : Heap) (locs1 : List Loc), E_S D TY sz 0 s h2 H1 locs1 → W p l e R s m args below meth c H1 locs1 h2.length (sl + s2) Q (F0 m (pc + 3) ls rest)) : W p l e R s m args below meth c H locs h.length sl Q (F0 m pc ls (.ref (sz + o) :: rest)) := by
  obtain ⟨hx, hb, hml, hown, hts, hX, hbl, hz, hK, hT, hN, hL⟩ := X
  obtain ⟨hMet, hlen⟩ := E_call_met l D TY hT sz fuel d a M _ h _ hM hq
  have hlen : h.length ≤ h2.length := hlen
  obtain ⟨g1, g2, g3, g4, g5, g6, g7, g8, g9, g10⟩ := E_mf_ok hM
  have hts2 := L_gt hts
  refine E_wsz (fun hbd => ?_)
  have hsz := E_size hS hz (by omega)
  obtain ⟨hP, hV, hn0⟩ := hS
  have hPS : PreS s H (E_Pc D TY sz [.ref o] h) (.ref (sz + o) :: []) := ⟨E_blind, fun U hU hW => ⟨rfl, by rw [hU]; exact hsz, by rw [hU]; exact hP, va_K.moved hW.alike hK, E_NW_moved hW hN⟩⟩
  have hroom : (E_rm d (h2.length - h.length) s2).frames + 1 ≤ R.frames ∧ 8 + (M.2.2.2.1 + 11) + (E_rm d (h2.length - h.length) s2).locals ≤ R.locals := ⟨hRf, by show 8 + (M.2.2.2.1 + 11) + 48 * d ≤ R.locals; omega⟩
  have hG := L_good M g2
  unfold E_Met at hMet
  unfold E_w at hMet hG
  rw [hret] at hMet hG
  refine E_call_k (va_runI (Ts := lw_tbl) (As := []) ⟨hx, hb, hml, hown, hts⟩ hMet ⟨callB_of M.2.2.2.2.2.2.1 hts hG rfl rfl rfl (hts2 _ g3) (hts _ hlink) ⟨g8.1, g8.2, g9⟩ hroom, hnm, hts2 _ (g5 hst).1⟩ hPS rfl hna hls rfl (lv_room hcat) hdg ⟨by show h.length + (h2.length - h.length) ≤ R.cells; omega, hR.2⟩) hV (fun H1 locs1 hP1 hV1 => ?_)
  have k9 := kk H1 locs1 ⟨hP1, hV1, Nat.zero_le _⟩
  rw [show h2.length = h.length + (h2.length - h.length) by omega] at k9
  exact k9
/-- 'new' out of the law -/
theorem L_new {b L pc a idx : Nat} {xs : Nat → Int32} {ls : Array Slot} {rest : List Value} {C : String} {h : E_H} (X : L_X p s m args c D TY b L xs sz) (hS : E_S D TY sz 0 s h H locs) (ha : a < 13) (hC : E_cn a = C)
    (hlink : Cond.classLink R_law idx C ∈ lw_tbl) (hdg : decode code pc = .ok (.new idx, 3)) (hR : h.length + 1 ≤ R.cells ∧ sl + E_N a ≤ R.slots)
    (kk : ∀ (H1 : Heap), E_S D TY sz 0 s (h ++ [.inr (a, E_dfl a)]) H1 locs → W p l e R s m args below meth c H1 locs (h ++ [(.inr (a, E_dfl a) : E_O)]).length (sl + E_N a) Q (F0 m (pc + 3) ls (.ref (sz + h.length) :: rest))) : W p l e R s m args below meth c H locs h.length sl Q (F0 m pc ls rest) := by
  obtain ⟨hx, hb, hml, hown, hts, hX, hbl, hz, hK, hT, hN, hL⟩ := X
  obtain ⟨C', T, hc⟩ := E_cl_13 ha
  obtain ⟨c1, c2, c3, c4, c5, c6, c7, c8, c9⟩ := E_cl_ok _ _ _ _ hc
  have hts2 := L_gt hts
  have hCC : C = C' := hC.symm.trans c7
  subst hCC
  refine va_new (Ts := E_GT) hx hb hts2 c3 (E_cty a) c1 hown (hts _ hlink) (hts2 _ c4) (hts2 _ c5) hK hS.1 E_ws_D hS.2.1 (fun q hq => by show sz ≤ q; omega) hc (fs := E_dfl a) (fun j hj => E_dfl_V hj) hR.1 hR.2 hdg (fun q H1 hP hD hV => ?_)
  refine E_wsz (fun hbd => ?_)
  have hq := E_addr hP hD (by omega)
  subst hq
  rw [show ((sz + h.length, .inr (a, E_dfl a)) : Nat × va_E) = (sz + h.length, E_e TY sz (.inr (a, E_dfl a))) by show _ = ((sz + h.length, .inr (a, (E_dfl a).map (E_v sz))) : Nat × va_E); rw [E_dfl_v sz a (fun k => E_dv_v sz _)], E_ws_app] at hP
  have k9 := kk H1 ⟨hP, hV, Nat.zero_le _⟩
  rw [List.length_append] at k9
  exact k9
end LW
