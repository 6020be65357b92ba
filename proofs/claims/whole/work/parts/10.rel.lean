/-! the abstract heap and the machine's -/
def E_aT (TY : List (ClassId × FieldType)) (t : Nat) : ClassId := (TY.getD t (0, .int)).1
def E_dat (sz : Nat) (a : vp_A) : vp_A := (a.1, match a.2 with
  | .inr (.inr (.inr (.inr g))) => .inr (.inr (.inr (.inr (fun j => (g j).map (fun k => sz + k)))))
  | x => x)
def E_e (TY : List (ClassId × FieldType)) (sz : Nat) (x : E_O) : va_E := match x with
  | .inl (t, a) => .inl (E_aT TY t, E_dat sz a)
  | .inr (ci, fs) => .inr (ci, fs.map (E_v sz))
def E_ws (TY : List (ClassId × FieldType)) (sz : Nat) (h : E_H) : va_W := h.mapIdx (fun k x => (sz + k, E_e TY sz x))
theorem E_ws_get {TY : List (ClassId × FieldType)} {sz : Nat} {h : E_H} {k : Nat} {x : E_O} (hk : h[k]? = some x) : (E_ws TY sz h)[k]? = some (sz + k, E_e TY sz x) := by
  unfold E_ws
  rw [List.getElem?_mapIdx, hk]
  rfl
theorem E_ws_inv {TY : List (ClassId × FieldType)} {sz : Nat} {h : E_H} {k : Nat} {q : Nat × va_E} (hk : (E_ws TY sz h)[k]? = some q) : q.1 = sz + k ∧ k < h.length := by
  unfold E_ws at hk
  rw [List.getElem?_mapIdx] at hk
  cases hh : h[k]? with
  | none => rw [hh] at hk; cases hk
  | some x =>
    rw [hh] at hk
    cases hk
    exact ⟨rfl, (List.getElem?_eq_some_iff.mp hh).1⟩
theorem E_ws_len {TY : List (ClassId × FieldType)} {sz : Nat} {h : E_H} : (E_ws TY sz h).length = h.length := by unfold E_ws; simp
theorem E_ws_set {TY : List (ClassId × FieldType)} {sz : Nat} {h : E_H} {k : Nat} {x : E_O} : (E_ws TY sz h).set k (sz + k, E_e TY sz x) = E_ws TY sz (h.set k x) := by
  apply List.ext_getElem?
  intro i
  unfold E_ws
  rw [List.getElem?_mapIdx, List.getElem?_set, List.getElem?_set, List.getElem?_mapIdx, List.length_mapIdx]
  by_cases e : k = i
  · subst e
    simp only [if_true]
    by_cases hk : k < h.length
    · simp [hk]
    · simp [hk]
  · simp [e]
theorem E_ws_app {TY : List (ClassId × FieldType)} {sz : Nat} {h : E_H} {x : E_O} : E_ws TY sz h ++ [(sz + h.length, E_e TY sz x)] = E_ws TY sz (h ++ [x]) := by
  unfold E_ws
  rw [List.mapIdx_append]
  simp
theorem E_ws_D {TY : List (ClassId × FieldType)} {sz : Nat} {h : E_H} : va_D (fun q => sz ≤ q) (E_ws TY sz h) := by
  refine ⟨fun i j x y hi hj hxy => ?_, fun k x hk => ?_⟩
  · have h1 := (E_ws_inv hi).1
    have h2 := (E_ws_inv hj).1
    omega
  · have h1 := (E_ws_inv hk).1
    show sz ≤ x.1
    omega
def E_NW (s : State) : Prop := (∀ q ∈ E_MN, va_Nw (E_MNw q) s) ∧ va_AO "GramFinder$Row" s ∧ va_AO "GramFinder$Part" s ∧ va_AO "GramFinder$Entry" s ∧ (Cond.arrayOver (.array .byte)).before #[] s = true ∧ va_Nw (.castable "[B" "java/lang/Cloneable") s
/-- what stays the same within a method's run -/
def E_X (p : Program) (s : State) (m : MethodId) (args : Array Value) (meth : Method) (c : Code) (cc : ByteArray) (nL oc : Nat) (isI : Bool) (D : va_G) (TY : List (ClassId × FieldType)) (sz n0 : Nat) : Prop :=
  p.tables.exec = Jvm.exec ∧ c.code = cc ∧ c.maxLocals = nL ∧ (∀ w ∈ E_GT, w.before args s = true) ∧ s.vm.findClass (E_cn oc) = some m.cls ∧ va_K D E_CL TY s ∧ TY.map Prod.snd = E_ATY ∧ E_NW s ∧ (isI = true → meth.name = "<init>") ∧ s.heap.size = sz + n0
def E_S (D : va_G) (TY : List (ClassId × FieldType)) (sz n0 : Nat) (s : State) (h : E_H) (H : Heap) (locs : List Loc) : Prop :=
  va_P D E_CL (E_ws TY sz h) H ∧ va_S (fun q => sz ≤ q) s.heap H locs ∧ n0 ≤ h.length
theorem E_ty {TY : List (ClassId × FieldType)} (hT : TY.map Prod.snd = E_ATY) {t : Nat} {ty : FieldType} (ht : E_ATY[t]? = some ty) : TY[t]? = some (E_aT TY t, ty) := by
  rw [← hT, List.getElem?_map] at ht
  unfold E_aT
  cases hq : TY[t]? with
  | none => rw [hq] at ht; cases ht
  | some q =>
    rw [hq] at ht
    cases ht
    rw [List.getD_eq_getElem?_getD, hq]
    rfl
theorem va_RA_one {s : State} {c1 c2 : ClassId} {ty : FieldType} (h1 : va_RA s c1 ty) (h2 : va_RA s c2 ty) : c1 = c2 := by
  cases ty with
  | object C =>
    obtain ⟨_, _, _, _, _, e1⟩ := h1
    obtain ⟨_, _, _, _, _, e2⟩ := h2
    exact Option.some.inj (e1.symm.trans e2)
  | _ => exact Option.some.inj (Eq.trans (Eq.symm h1) h2)
theorem E_K_new {D : va_G} {TY : List (ClassId × FieldType)} {s : State} {cA : ClassId} {ty : FieldType} {t : Nat} (hT : TY.map Prod.snd = E_ATY) (ht : E_ATY[t]? = some ty) (hK : va_K D E_CL TY s) (hK2 : va_K D E_CL (TY ++ [(cA, ty)]) s) : cA = E_aT TY t := by
  have h1 := (hK.2 t _ (E_ty hT ht)).2
  have h2 := (hK2.2 TY.length (cA, ty) (by rw [List.getElem?_append_right (Nat.le_refl _), Nat.sub_self]; rfl)).2
  exact va_RA_one h2 h1
/-- where a new cell lies -/
theorem E_addr {D : va_G} {TY : List (ClassId × FieldType)} {sz : Nat} {h : E_H} {H1 : Heap} {q : Nat} {x : va_E} (hP : va_P D E_CL (E_ws TY sz h ++ [(q, x)]) H1) (hD : va_D (fun q => sz ≤ q) (E_ws TY sz h ++ [(q, x)])) (hz : H1.size ≤ sz + h.length + 1) : q = sz + h.length := by
  have hl : (E_ws TY sz h ++ [(q, x)])[h.length]? = some (q, x) := by
    rw [List.getElem?_append_right (by rw [E_ws_len]; exact Nat.le_refl _), E_ws_len, Nat.sub_self]
    rfl
  have h1 : q < H1.size := (hP _ _ hl).lt
  have h2 : sz ≤ q := hD.2 _ _ hl
  rcases Nat.lt_or_ge q (sz + h.length) with h3 | h3
  · exfalso
    have hk : q - sz < h.length := by omega
    have hg : (E_ws TY sz h ++ [(q, x)])[q - sz]? = some (sz + (q - sz), E_e TY sz h[q - sz]) := by
      rw [List.getElem?_append_left (by rw [E_ws_len]; exact hk)]
      exact E_ws_get (List.getElem?_eq_getElem hk)
    have := hD.1 _ _ _ _ hg hl (by show sz + (q - sz) = q; omega)
    omega
  · omega
section EH
variable {p : Program} {l : Launch} {e : Env} {R : Room} {s : State} {m : MethodId} {args : Array Value} {below : List Frame} {meth : Method} {c : Code} {H : Heap} {locs : List Loc} {cells slots : Nat} {Q : State → Prop} {cc : ByteArray} {sz nL n0 oc : Nat} {D : va_G} {TY : List (ClassId × FieldType)} {isI : Bool}
theorem E_wsz {g : JFrame} (k : H.size ≤ s.heap.size + cells → W p l e R s m args below meth c H locs cells slots Q g) : W p l e R s m args below meth c H locs cells slots Q g := fun T hT X => k (by rw [← hT]; exact X.heapSize) T hT X
theorem E_size {h : E_H} (hS : E_S D TY sz n0 s h H locs) (hz : s.heap.size = sz + n0) (hb : H.size ≤ s.heap.size + (h.length - n0)) : H.size = sz + h.length := by
  obtain ⟨hP, hV, hn⟩ := hS
  have h1 := hV.1
  rcases Nat.eq_or_lt_of_le hn with q | q
  · omega
  · have hk : h.length - 1 < h.length := by omega
    have h2 : sz + (h.length - 1) < H.size := (hP _ _ (E_ws_get (List.getElem?_eq_getElem hk))).lt
    omega
def E_G (p : Program) (l : Launch) (e : Env) (R : Room) (s : State) (m : MethodId) (args : Array Value) (below : List Frame) (meth : Method) (c : Code) (sz nL n0 : Nat) (D : va_G) (TY : List (ClassId × FieldType)) (Q : State → Prop) (f : E_F) (h : E_H) (sl : Nat) : Prop :=
  ∀ (H : Heap) (locs : List Loc), E_S D TY sz n0 s h H locs → E_W p l e R s m args below meth c sz nL Q H locs (h.length - n0) sl f
/-- a store's end -/
theorem E_stored {h : E_H} {o : Nat} {x : E_O} {H1 : Heap} {locs1 : List Loc} (hn : n0 ≤ h.length) (hP : va_P D E_CL ((E_ws TY sz h).set o (sz + o, E_e TY sz x)) H1) (hV : va_S (fun q => sz ≤ q) s.heap H1 locs1) : E_S D TY sz n0 s (h.set o x) H1 locs1 := ⟨by rw [← E_ws_set]; exact hP, hV, by rw [List.length_set]; exact hn⟩
end EH
