theorem L_ao4 : Cond.arrayOver (.object "GramFinder$Row") ∈ lw_tbl := List.mem_of_getElem? (i := 312) (by decide +kernel)
theorem L_ao5 : Cond.arrayOver (.object "GramFinder$Part") ∈ lw_tbl := List.mem_of_getElem? (i := 301) (by decide +kernel)
theorem L_ao6 : Cond.arrayOver (.object "GramFinder$Entry") ∈ lw_tbl := List.mem_of_getElem? (i := 177) (by decide +kernel)
theorem L_cst : Cond.castable "[B" "java/lang/Cloneable" ∈ lw_tbl := List.mem_of_getElem? (i := 589) (by decide +kernel)
theorem L_ao7 : Cond.arrayOver (.array .byte) ∈ lw_tbl := List.mem_of_getElem? (i := 334) (by decide +kernel)
/-! the law's head, from the start to the loop -/
theorem L_exT {s : State} {args : Array Value} (hts : ∀ w ∈ lw_tbl, w.before args s = true) : ∃ TY : List (ClassId × FieldType), TY.map Prod.snd = E_ATY ∧ ∀ (k : Nat) (q : ClassId × FieldType), TY[k]? = some q → ArrOfT s q.1 q.2 ∧ va_RA s q.1 q.2 := by
  have hp : ∀ ty : FieldType, Cond.arrayClass ty ∈ E_GT → (∀ C, ty ≠ .object C) → ∃ cA, ArrOfT s cA ty ∧ va_RA s cA ty := by
    intro ty hw ho
    obtain ⟨c, k, comp, h1, h2, h3⟩ := Cond.arrayClass_spec (L_gt hts _ hw)
    refine ⟨c, fun n z => ⟨fun k h => (by cases h), k, h2, comp, h3⟩, ?_⟩
    cases ty with
    | object C => exact absurd rfl (ho C)
    | _ => exact h1
  have ho : ∀ C : String, Cond.arrayOver (.object C) ∈ lw_tbl → ∃ cA, ArrOfT s cA (.object C) ∧ va_RA s cA (.object C) := by
    intro C hw
    obtain ⟨comp, c, k, h1, h2, h3, h4, h5⟩ := Cond.arrayOver_spec (hts _ hw)
    exact ⟨c, fun n z => ⟨fun k h => (by cases h), k, h3, comp, h4⟩, k, comp, h3, h4, h1, h5⟩
  obtain ⟨c0, a0⟩ := hp .int E_aw0 (fun C h => by cases h)
  obtain ⟨c1, a1⟩ := hp .byte E_aw1 (fun C h => by cases h)
  obtain ⟨c2, a2⟩ := hp .boolean E_aw2 (fun C h => by cases h)
  obtain ⟨c3, a3⟩ := hp .long E_aw3 (fun C h => by cases h)
  obtain ⟨c4, a4⟩ := ho "GramFinder$Row" L_ao4
  obtain ⟨c5, a5⟩ := ho "GramFinder$Part" L_ao5
  obtain ⟨c6, a6⟩ := ho "GramFinder$Entry" L_ao6
  obtain ⟨c7, a7⟩ : ∃ cA, ArrOfT s cA (.array .byte) ∧ va_RA s cA (.array .byte) := by
    obtain ⟨comp, c, k, h1, h2, h3, h4⟩ := Cond.arrayOver_specA (hts _ L_ao7)
    exact ⟨c, fun n z => ⟨fun k h => (by cases h), k, h2, comp, h3⟩, h4⟩
  refine ⟨[(c0, .int), (c1, .byte), (c2, .boolean), (c3, .long), (c4, .object "GramFinder$Row"), (c5, .object "GramFinder$Part"), (c6, .object "GramFinder$Entry"), (c7, .array .byte)], rfl, fun k q hq => ?_⟩
  match k, hq with
  | 0, hq => cases hq; exact a0
  | 1, hq => cases hq; exact a1
  | 2, hq => cases hq; exact a2
  | 3, hq => cases hq; exact a3
  | 4, hq => cases hq; exact a4
  | 5, hq => cases hq; exact a5
  | 6, hq => cases hq; exact a6
  | 7, hq => cases hq; exact a7
  | k + 8, hq => exact absurd hq (by simp)
theorem L_exD {s : State} {args : Array Value} (hts : ∀ w ∈ lw_tbl, w.before args s = true) : ∃ D : va_G, ∀ (ci : Nat) (q : vw_C), E_CL[ci]? = some q → u_Kn s q.1 q.2.1 q.2.2 (D.1 ci) (D.2 ci) := by
  have h1 : ∀ ci : Nat, ∃ g : ClassId × (Nat → Nat), ∀ q : vw_C, E_CL[ci]? = some q → u_Kn s q.1 q.2.1 q.2.2 g.1 g.2 := by
    intro ci
    cases hq : E_CL[ci]? with
    | none => exact ⟨(0, fun _ => 0), fun q h => by cases h⟩
    | some q =>
      obtain ⟨C, T, N⟩ := q
      obtain ⟨c1, c2, c3, c4, -⟩ := E_cl_ok _ _ _ _ hq
      obtain ⟨cC, iS, hK⟩ := u_known (L_gt hts) c3 (L_gt hts _ c4)
      exact ⟨(cC, iS), fun q h => by cases h; exact hK⟩
  obtain ⟨g, hg⟩ := Classical.axiomOfChoice h1
  exact ⟨(fun k => (g k).1, fun k => (g k).2), fun ci q hq => hg ci q hq⟩
theorem L_NW {s : State} {args : Array Value} (hts : ∀ w ∈ lw_tbl, w.before args s = true) : E_NW s := by
  refine ⟨fun q hq => va_Nw.of rfl (hts _ (E_MN_ok _ (List.mem_map.mpr ⟨q, hq, rfl⟩))), va_AO.of (hts _ L_ao4), va_AO.of (hts _ L_ao5), va_AO.of (hts _ L_ao6), hts _ L_ao7, va_Nw.of rfl (hts _ L_cst)⟩
set_option maxHeartbeats 4000000 in
/-- THE LAW'S LOOP, by turns: J says what holds of the heap behind t turns -/
theorem L_loop {p : Program} {l : Launch} {e : Env} {s : State} {m : MethodId} {below : List Frame} {meth : Method} {c : Code} {D : va_G} {TY : List (ClassId × FieldType)} {b L sz d TT : Nat} {xs : Nat → Int32} {J : Nat → E_H → Nat → Prop} (X : L_X p s m #[Value.ref b] c D TY b L xs sz) (hr : meth.sig.returnType = ret) (hlocks : meth.locks = false) (hd : d ≤ 1000)
    (hJ : ∀ (t : Nat) (h : E_H) (sl : Nat), t < TT → J t h sl → ∀ (a : Nat → Int32) (j : Nat), j < 32 → L_turn d room_1.cells room_1.slots j a h sl (J (t + 1))) (hB : ∀ (t : Nat) (h : E_H) (sl : Nat), J t h sl → h.length ≤ room_1.cells ∧ sl ≤ room_1.slots) (hTT : L < 6 * TT + 6) (hT512 : TT ≤ 512) :
    ∀ (n t : Nat), TT + 1 ≤ t + n → ∀ (h : E_H) (sl : Nat), J t h sl → ∀ (H : Heap) (locs : List Loc) (ls : Array Slot), lv_has ls 4 [(0, .ref b), (1, .ref (sz + 0)), (2, .ref (sz + 83)), (3, .int (nI (6 * t)))] → E_S D TY sz 0 s h H locs → t ≤ TT → W p l e room_1 s m #[Value.ref b] below meth c H locs h.length sl (lw_Z below #[Value.ref b] s) (F0 m 18 ls []) := by
  have hx := X.1
  have hb := X.2.1
  intro n
  induction n with
  | zero => intro t h1 h sl hJt H locs ls hl hS ht; omega
  | succ n ih =>
    intro t h1 h sl hJt H locs ls hl hS ht
    obtain ⟨-, -, hml, hown, hts, hX, hbl, hz, hK, hT, hN, hL⟩ := id X
    refine lv_iload_n hx hb d_law_18 rfl (lv_at hl 3 rfl) ?_
    refine lv_aload_n hx hb d_law_19 rfl (lv_at hl 0 rfl) ?_
    refine va_slen hx hb hX hbl (by show ¬ sz ≤ b; omega) hS.2.1 d_law_20 ?_
    refine lv_bipush (v := 6) hx hb d_law_21 (by decide) ?_
    refine lv_isub hx hb d_law_23 ?_
    have hti : (nI L - nI 6).toInt = (L : Int) - 6 := pk_sub_toInt (by omega) (by omega)
    have hi6 : (nI (6 * t)).toInt = ((6 * t : Nat) : Int) := by
      exact nI_toInt (by omega)
    refine lv_icmp_gt (tgt := 619) hx hb d_law_24 (by decide) (fun cg => ?_) (fun cg => ?_)
    · obtain ⟨b1, b2⟩ := hB t h sl hJt
      refine lv_iconst (v := 1) hx hb d_law_619 (by decide) ?_
      refine va_forget (fun q hq => by rw [hz]; exact hS.2.1.2.2 q hq) ?_
      refine W.widen (k := room_1.cells) (n := room_1.slots) b1 b2 ?_
      exact lw_ret hx hb hr hlocks d_law_620
    · have hle : 6 * t + 6 ≤ L := by
        have c2 : ¬ (nI L - nI 6 < nI (6 * t)) := cg
        rw [Int32.lt_iff_toInt_lt, hti, hi6] at c2
        omega
      obtain ⟨j, hj, hop⟩ := pk_andE (xs (6 * t)) (m := 31) 5 (by decide)
      refine L_disp X hl hS hle hj hop (by show d + 1 ≤ 2048; omega) (by show 48 * (d + 1) ≤ 84000; omega) (hJ t h sl (by omega) hJt (fun k => xs (6 * t + k)) j hj) (fun h2 sl2 H1 locs1 hJ2 hS2 => ?_)
      refine lv_iinc (v := nI (6 * (t + 1))) (k := 3) (lv' := [(3, .int (nI (6 * (t + 1)))), (0, .ref b), (1, .ref (sz + 0)), (2, .ref (sz + 83))]) hx hb d_law_613 hl rfl (by rw [show Int32.ofInt 6 = nI 6 from rfl, nI_add]; rfl) (by decide) rfl (fun ls2 hl2 => ?_)
      refine lv_goto (tgt := 18) hx hb d_law_616 (by decide) ?_
      exact ih (t + 1) (by omega) h2 sl2 hJ2 H1 locs1 ls2 (lv_sub hl2 [1, 2, 3, 0] rfl) hS2 (by omega)
set_option maxHeartbeats 4000000 in
/-- THE LAW, from its entry, out of what the evaluator computes: h2 is the heap behind both constructors -/
theorem L_start {p : Program} {e : Env} {s : State} {m : MethodId} {below : List Frame} {meth : Method} {c : Code} (l : Launch) {b L : Nat} {xs : Nat → Int32} (C0 : lw_At p s m meth c b L xs) {fuel d TT s1 s2 : Nat} {h1 h2 : E_H} {J : Nat → E_H → Nat → Prop} (hd : d ≤ 1000) (hTT : L < 6 * TT + 6) (hT512 : TT ≤ 512)
    (e1 : E_call fuel d 144 [.ref 0] [.inr (11, E_dfl 11)] = some (none, h1, s1)) (l1 : h1.length = 83) (e2 : E_call fuel d 174 [.ref 83] (h1 ++ [.inr (12, E_dfl 12)]) = some (none, h2, s2)) (r1 : h2.length ≤ room_1.cells) (r2 : 0 + 7 + s1 + 74 + s2 ≤ room_1.slots)
    (hJ : ∀ (t : Nat) (h : E_H) (sl : Nat), t < TT → J t h sl → ∀ (a : Nat → Int32) (j : Nat), j < 32 → L_turn d room_1.cells room_1.slots j a h sl (J (t + 1))) (hB : ∀ (t : Nat) (h : E_H) (sl : Nat), J t h sl → h.length ≤ room_1.cells ∧ sl ≤ room_1.slots) (hJ0 : J 0 h2 (0 + 7 + s1 + 74 + s2)) :
    W p l e room_1 s m #[Value.ref b] below meth c s.heap [] 0 0 (lw_Z below #[Value.ref b] s) (entryFrame m ([Value.ref b] : List Value).toArray 4) := by
  obtain ⟨hx, hb, hr, hml, hown, hts, hX, hbl, hlocks, hgv⟩ := id C0
  obtain ⟨TY, hT, hTK⟩ := L_exT hts
  obtain ⟨D, hD⟩ := L_exD hts
  have hK : va_K D E_CL TY s := ⟨fun c q hq => hD c q hq, hTK⟩
  have X : L_X p s m #[Value.ref b] c D TY b L xs s.heap.size := ⟨hx, hb, hml, hown, hts, hX, hbl, rfl, hK, hT, L_NW hts, by omega⟩
  have hl := lv_entry ([.ref b]) (n := 4) (Nat.le_of_ble_eq_true rfl)
  rw [lg_entry_eq]
  generalize (lg_sl ([.ref b]) ++ List.replicate (4 - (lg_sl ([.ref b])).length) Slot.unset).toArray = ls at hl ⊢
  have hl : lv_has ls 4 [(0, .ref b)] := hl
  have hS0 : E_S D TY s.heap.size 0 s [] s.heap [] := ⟨fun k q h => by simp [E_ws] at h, va_S.rf, Nat.zero_le _⟩
  have hRf : d + 1 ≤ room_1.frames := by show d + 1 ≤ 2048; omega
  have hRl : 48 * (d + 1) ≤ room_1.locals := by show 48 * (d + 1) ≤ 84000; omega
  have hl12 : 83 ≤ h2.length := by
    have := E_call_len fuel d 174 E_m174 _ _ _ rfl e2
    rw [List.length_append, l1] at this
    exact Nat.le_of_succ_le this
  show W p l e room_1 s m #[Value.ref b] below meth c s.heap [] ([] : E_H).length 0 (lw_Z below #[Value.ref b] s) (F0 m 0 ls [])
  refine L_new (a := 11) (C := "GramFinder") X hS0 (by decide) rfl l_law_c7 d_law_0 ⟨Nat.le_of_ble_eq_true rfl, Nat.le_of_ble_eq_true rfl⟩ (fun H1 hS1 => ?_)
  refine lv_dup hx hb d_law_3 rfl ?_
  refine L_init (M := E_m144) X hl.1 hS1 rfl e1 rfl (by decide +kernel) rfl rfl l_law_9 d_law_4 hRf hRl (Nat.le_of_ble_eq_true rfl) ⟨by omega, by show 0 + 7 + s1 ≤ _; omega⟩ (fun H2 locs2 hS2 => ?_)
  refine lv_astore_n (lv' := [(1, .ref (s.heap.size + 0)), (0, .ref b)]) hx hb d_law_7 rfl hl (by decide) rfl (fun ls hl => ?_)
  refine L_new (a := 12) (C := "GramFinderModel") X hS2 (by decide) rfl l_law_c10 d_law_8 ⟨by rw [l1]; exact Nat.le_of_ble_eq_true rfl, by show 0 + 7 + s1 + 74 ≤ _; omega⟩ (fun H3 hS3 => ?_)
  rw [l1]
  refine lv_dup hx hb d_law_11 rfl ?_
  refine L_init (M := E_m174) X hl.1 hS3 rfl e2 rfl (by decide +kernel) rfl rfl l_law_12 d_law_12 hRf hRl (Nat.le_of_ble_eq_true rfl) ⟨r1, r2⟩ (fun H4 locs4 hS4 => ?_)
  refine lv_astore_n (lv' := [(2, .ref (s.heap.size + 83)), (1, .ref (s.heap.size + 0)), (0, .ref b)]) hx hb d_law_15 rfl hl (by decide) rfl (fun ls hl => ?_)
  refine lv_iconst (v := 0) hx hb d_law_16 (by decide) ?_
  refine lv_istore_n (lv' := [(3, .int 0), (2, .ref (s.heap.size + 83)), (1, .ref (s.heap.size + 0)), (0, .ref b)]) hx hb d_law_17 rfl hl (by decide) rfl (fun ls hl => ?_)
  exact L_loop X hr hlocks hd hJ hB hTT hT512 (TT + 1) 0 (by omega) h2 _ hJ0 H4 locs4 ls (lv_sub hl [3, 2, 1, 0] rfl) hS4 (Nat.zero_le _)
