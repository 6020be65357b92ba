theorem E_len_inv {orc : Nat → List Value → E_H → Option E_R} (hO : ∀ (a : Nat) (M : E_MI) (vs : List Value) (h : E_H) (r : E_R), E_mi a = some M → orc a vs h = some r → h.length ≤ r.2.1.length) {kind a : Nat} {f f' : E_F} {h h' : E_H} {sl sl' : Nat} (q : E_inv orc kind a f h sl = some (f', h', sl')) : h.length ≤ h'.length ∧ sl ≤ sl' := by
  unfold E_inv at q
  split at q
  · cases q
  · rename_i M hM
    split at q
    · cases q
    · split at q
      · split at q
        · split at q
          · cases q
          · rename_i r h2 s2 ho
            cases q
            exact ⟨hO a M _ h _ hM ho, Nat.le_add_right _ _⟩
        · cases q
      · cases q
set_option maxHeartbeats 4000000 in
theorem E_len_step {orc : Nat → List Value → E_H → Option E_R} (hO : ∀ (a : Nat) (M : E_MI) (vs : List Value) (h : E_H) (r : E_R), E_mi a = some M → orc a vs h = some r → h.length ≤ r.2.1.length) {M : E_MI} {f f' : E_F} {h h' : E_H} {sl sl' : Nat} (q : E_step orc M f h sl = some (.inl (f', h', sl'))) : h.length ≤ h'.length ∧ sl ≤ sl' := by
  unfold E_step at q
  split at q
  · cases q
  · rename_i ins len a b hf
    cases ins
    case ireturn => dsimp only at q; repeat' split at q
                    all_goals cases q
    case lreturn => dsimp only at q; repeat' split at q
                    all_goals cases q
    case areturn => dsimp only at q; repeat' split at q
                    all_goals cases q
    case return_ => dsimp only at q; repeat' split at q
                    all_goals cases q
    case invokestatic i =>
      dsimp only at q
      split at q
      · split at q
        · split at q
          · split at q
            · rename_i f2 h2 hq
              cases q
              exact ⟨E_len_copy hq, Nat.le_refl _⟩
            · cases q
          · cases q
        · split at q
          · split at q
            · split at q
              · cases q
                exact ⟨Nat.le_refl _, Nat.le_refl _⟩
              · cases q
            · cases q
          · split at q
            · rename_i z hq
              obtain ⟨f2, h2, s2⟩ := z
              cases q
              exact E_len_inv hO hq
            · cases q
      · cases q
    case invokevirtual i =>
      dsimp only at q
      split at q
      · split at q
        · rename_i z hq
          obtain ⟨f2, h2, s2⟩ := z
          cases q
          exact E_len_inv hO hq
        · cases q
      · split at q
        · rename_i f2 h2 n hq
          cases q
          exact ⟨E_len_cln hq, Nat.le_add_right _ _⟩
        · cases q
    case invokespecial i =>
      dsimp only at q
      split at q
      · split at q
        · split at q
          · split at q
            · cases q
              exact ⟨Nat.le_refl _, Nat.le_refl _⟩
            · cases q
          · cases q
        · split at q
          · rename_i z hq
            obtain ⟨f2, h2, s2⟩ := z
            cases q
            exact E_len_inv hO hq
          · cases q
      · cases q
    all_goals
      dsimp only at q
      split at q
      · rename_i f2 h2 n hq
        cases q
        exact ⟨E_len_heap hq, Nat.le_add_right _ _⟩
      · cases q
theorem E_len_ret {orc : Nat → List Value → E_H → Option E_R} {M : E_MI} {f : E_F} {h : E_H} {sl : Nat} {r : E_R} (q : E_step orc M f h sl = some (.inr r)) : r.2.1 = h ∧ r.2.2 = sl := by
  unfold E_step at q
  split at q
  · cases q
  · rename_i ins len a b hf
    cases ins
    case ireturn => dsimp only at q; repeat' split at q
                    all_goals first | (cases q; done) | (cases q; exact ⟨rfl, rfl⟩)
    case lreturn => dsimp only at q; repeat' split at q
                    all_goals first | (cases q; done) | (cases q; exact ⟨rfl, rfl⟩)
    case areturn => dsimp only at q; repeat' split at q
                    all_goals first | (cases q; done) | (cases q; exact ⟨rfl, rfl⟩)
    case return_ => dsimp only at q; repeat' split at q
                    all_goals first | (cases q; done) | (cases q; exact ⟨rfl, rfl⟩)
    all_goals
      dsimp only at q
      repeat' split at q
      all_goals cases q
theorem E_run_len {orc : Nat → List Value → E_H → Option E_R} (hO : ∀ (a : Nat) (M : E_MI) (vs : List Value) (h : E_H) (r : E_R), E_mi a = some M → orc a vs h = some r → h.length ≤ r.2.1.length) {M : E_MI} : ∀ (n : Nat) (f : E_F) (h : E_H) (sl : Nat) (r : E_R), E_run orc M n f h sl = some r → h.length ≤ r.2.1.length ∧ sl ≤ r.2.2 := by
  intro n
  induction n with
  | zero => intro f h sl r q; cases q
  | succ n ih =>
    intro f h sl r q
    unfold E_run at q
    split at q
    · cases q
    · rename_i r2 hs
      cases q
      obtain ⟨e1, e2⟩ := E_len_ret hs
      exact ⟨by rw [e1]; exact Nat.le_refl _, by rw [e2]; exact Nat.le_refl _⟩
    · rename_i f2 h2 s2 hs
      obtain ⟨a1, a2⟩ := E_len_step hO hs
      obtain ⟨b1, b2⟩ := ih _ _ _ _ q
      exact ⟨Nat.le_trans a1 b1, Nat.le_trans a2 b2⟩
theorem E_call_len (fuel : Nat) : ∀ (d a : Nat) (M : E_MI) (vs : List Value) (h : E_H) (r : E_R), E_mi a = some M → E_call fuel d a vs h = some r → h.length ≤ r.2.1.length := by
  intro d
  induction d with
  | zero => intro a M vs h r hM q; cases q
  | succ d ih =>
    intro a M vs h r hM q
    unfold E_call at q
    rw [hM] at q
    dsimp only at q
    split at q
    · exact (E_run_len ih _ _ _ _ _ q).1
    · cases q
section EM
variable {p : Program} {l : Launch} {e : Env} {R : Room} {s : State} {m : MethodId} {args : Array Value} {below : List Frame} {meth : Method} {c : Code} {sz n0 : Nat} {D : va_G} {TY : List (ClassId × FieldType)}
theorem E_run_ok {M : E_MI} (hM : E_mf M) (X : E_X p s m args meth c M.2.2.1 M.2.2.2.1 M.1 (E_isI M) D TY sz n0) (hret : meth.sig.returnType = M.2.2.2.2.1) (hlk : meth.locks = false) {d : Nat} {orc : Nat → List Value → E_H → Option E_R}
    (hO : ∀ (a : Nat) (M : E_MI) (vs : List Value) (h : E_H) (r : E_R), E_mi a = some M → orc a vs h = some r → E_Met l D TY sz d M vs h r ∧ h.length ≤ r.2.1.length) (hRf : d + 1 ≤ R.frames) (hRl : 48 * (d + 1) ≤ R.locals) :
    ∀ (n : Nat) (f : E_F) (h : E_H) (sl : Nat) (r : E_R), E_run orc M n f h sl = some r → r.2.1.length - n0 ≤ R.cells → r.2.2 ≤ R.slots → E_G p l e R s m args below meth c sz M.2.2.2.1 n0 D TY (MQ below (E_Qc D TY sz r.1 r.2.1) args s (r.2.1.length - n0) r.2.2 (fun q => sz ≤ q)) f h sl := by
  intro n
  induction n with
  | zero => intro f h sl r q; cases q
  | succ n ih =>
    intro f h sl r q hc hs
    unfold E_run at q
    split at q
    · cases q
    · rename_i r2 hs2
      cases q
      obtain ⟨e1, e2, k⟩ := E_stepR hM X hret hlk (R := R) (l := l) (e := e) (below := below) hs2
      obtain ⟨rv, rh, rs⟩ := r
      cases e1
      cases e2
      exact k
    · rename_i f2 h2 s2 hs2
      obtain ⟨b1, b2⟩ := E_run_len (fun a M vs h r x y => (hO a M vs h r x y).2) _ _ _ _ _ q
      exact E_stepL hM X hO hRf hRl hs2 ⟨by omega, by omega⟩ (ih _ _ _ _ q hc hs)
/-- WHAT THE EVALUATOR COMPUTES IS THE METHOD'S CONTRACT -/
theorem E_call_met (l : Launch) (D : va_G) (TY : List (ClassId × FieldType)) (hT : TY.map Prod.snd = E_ATY) (sz fuel : Nat) : ∀ (d a : Nat) (M : E_MI) (vs : List Value) (h : E_H) (r : E_R), E_mi a = some M → E_call fuel d a vs h = some r → E_Met l D TY sz d M vs h r ∧ h.length ≤ r.2.1.length := by
  intro d
  induction d with
  | zero => intro a M vs h r hM q; cases q
  | succ d ih =>
    intro a M vs h r hM q
    refine ⟨?_, E_call_len fuel _ _ _ _ _ _ hM q⟩
    unfold E_call at q
    rw [hM] at q
    dsimp only at q
    split at q
    · rename_i hls
      have hmem := E_mf_ok hM
      obtain ⟨g1, g2, g3, g4, g5, g6, g7, g8, g9, g10⟩ := id hmem
      unfold E_Met
      refine Met.ofW (cc := M.2.2.1) (maxL := M.2.2.2.1) (ret := M.2.2.2.2.1) g7 rfl ?_
      intro p e s m args below meth c s₁ B hml hv
      obtain ⟨rfl, hsz, hP, hK, hN⟩ := hv
      have hts := atoms_spec (ws := E_w M) B.pre
      have hown0 : s.vm.findClass M.2.1.cls = some m.cls := findClass_of_methodNamed B.named
      have X : E_X p s m (vs.map (E_v sz)).toArray meth c M.2.2.1 M.2.2.2.1 M.1 (E_isI M) D TY sz h.length := ⟨B.exec, B.bytes, hml, fun w hw => hts w (List.mem_cons_of_mem _ hw), by rw [← g6]; exact hown0, hK, hT, hN, fun hI => by
        have := (name_of_methodNamed B.named B.method).1
        rw [this]
        exact of_decide_eq_true hI, hsz⟩
      have k := E_run_ok (l := l) (e := e) (below := below) (R := (headSpec (E_w M) (E_rm (d + 1) (r.2.1.length - h.length) r.2.2)).room) hmem X B.returns B.notSynchronized ih (Nat.le_refl _) (Nat.le_refl _) fuel _ _ _ _ q (Nat.le_refl _) (Nat.le_refl _)
      have hl := lv_entry (vs.map (E_v sz)) (n := M.2.2.2.1) (by rw [E_lg_sl]; exact hls)
      rw [lg_entry_eq]
      generalize (lg_sl (vs.map (E_v sz)) ++ List.replicate (M.2.2.2.1 - (lg_sl (vs.map (E_v sz))).length) Slot.unset).toArray = ls at hl ⊢
      have k2 := k s.heap [] ⟨hP, va_S.rf, Nat.le_refl _⟩ ls (by rw [E_args_map] at hl; exact hl)
      rw [Nat.sub_self] at k2
      exact k2
    · cases q
end EM
