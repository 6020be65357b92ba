section EHA
variable {p : Program} {l : Launch} {e : Env} {R : Room} {s : State} {m : MethodId} {args : Array Value} {below : List Frame} {meth : Method} {c : Code} {Q : State → Prop} {cc : ByteArray} {sz nL n0 oc : Nat} {D : va_G} {TY : List (ClassId × FieldType)} {isI : Bool}
set_option maxHeartbeats 4000000 in
theorem E_heap_ok (X : E_X p s m args meth c cc nL oc isI D TY sz n0) {ins : Instr} {len a b n : Nat} {f f' : E_F} {h h' : E_H} {sl : Nat} (hr : E_rok oc ins a b = true) (q : E_heap nL oc isI ins len a b f h = some (f', h', n)) (hd : decode cc f.1 = .ok (ins, len)) (hR : h'.length - n0 ≤ R.cells ∧ sl + n ≤ R.slots) (kk : E_G p l e R s m args below meth c sz nL n0 D TY Q f' h' (sl + n)) : E_G p l e R s m args below meth c sz nL n0 D TY Q f h sl := by
  cases ins
  case getfield i => obtain ⟨q2, rfl, rfl⟩ := E_f1_i q; exact E_getf_ok X hr q2 hd kk
  case putfield i => obtain ⟨q2, rfl⟩ := E_f2_i q; exact E_putf_ok X hr q2 hd kk
  case iaload => obtain ⟨q2, rfl, rfl⟩ := E_f1_i q; exact E_ald_ok X q2 hd (Or.inl ⟨rfl, fun t ht => by simpa using ht⟩) kk
  case baload => obtain ⟨q2, rfl, rfl⟩ := E_f1_i q; exact E_ald_ok X q2 hd (Or.inr ⟨rfl, fun t ht => by simpa using ht⟩) kk
  case laload => obtain ⟨q2, rfl, rfl⟩ := E_f1_i q; exact E_lald_ok X q2 hd kk
  case aaload => obtain ⟨q2, rfl, rfl⟩ := E_f1_i q; exact E_aald_ok X q2 hd kk
  case iastore => obtain ⟨q2, rfl⟩ := E_f2_i q; exact E_ast_ok X q2 hd kk
  case bastore => obtain ⟨q2, rfl⟩ := E_f2_i q; exact E_bst_ok X q2 hd kk
  case lastore => obtain ⟨q2, rfl⟩ := E_f2_i q; exact E_lst_ok X q2 hd kk
  case aastore => obtain ⟨q2, rfl⟩ := E_f2_i q; exact E_aas_ok X q2 hd kk
  case checkcast i => obtain ⟨q2, rfl, rfl⟩ := E_f1_i q; exact E_cst_ok X q2 hd kk
  case arraylength => obtain ⟨q2, rfl, rfl⟩ := E_f1_i q; exact E_alen_ok X q2 hd kk
  case new i => obtain ⟨q2, rfl⟩ := E_f2_i q; exact E_new_ok X hr q2 hd hR kk
  case newarray t => exact E_newa_ok X hr q hd hR kk
  case anewarray i => exact E_newq_ok X hr q hd hR kk
  case multianewarray i d =>
    have q : (if d = 2 then E_mna len f h else none) = some (f', h', n) := q
    split at q
    · rename_i hd2
      subst hd2
      exact E_mna_ok X hr q hd hR kk
    · cases q
  case ldc i => obtain ⟨q2, rfl, rfl⟩ := E_f1_i q; exact E_ldc_ok X q2 hd (Or.inl ⟨rfl, rfl⟩) kk
  case ldc_w i => obtain ⟨q2, rfl, rfl⟩ := E_f1_i q; exact E_ldc_ok X q2 hd (Or.inr ⟨rfl, rfl⟩) kk
  case ldc2_w i => obtain ⟨q2, rfl, rfl⟩ := E_f1_i q; exact E_ldc2_ok X q2 hd kk
  all_goals
    unfold E_heap at q
    dsimp only at q
    obtain ⟨q2, rfl, rfl⟩ := E_f1_i q
    exact fun H locs hS => E_pure_ok X.1 X.2.1 q2 hd (kk H locs hS)
end EHA
theorem E_l_i {x : Option E_F} {h h' : E_H} {f' : E_F} {n : Nat} (q : E_f1 x h = some (f', h', n)) : h.length ≤ h'.length := by
  obtain ⟨-, rfl, -⟩ := E_f1_i q
  exact Nat.le_refl _
theorem E_len_put {isI : Bool} {oc len a b : Nat} {f f' : E_F} {h h' : E_H} (q : E_putf isI oc len a b f h = some (f', h')) : h.length ≤ h'.length := by
  unfold E_putf at q
  repeat' split at q
  all_goals first | (cases q; done) | (cases q; rw [List.length_set]; exact Nat.le_refl _)
theorem E_len_ast {len : Nat} {f f' : E_F} {h h' : E_H} (q : E_ast len f h = some (f', h')) : h.length ≤ h'.length := by
  unfold E_ast at q
  repeat' split at q
  all_goals first | (cases q; done) | (cases q; rw [List.length_set]; exact Nat.le_refl _)
theorem E_len_bst {len : Nat} {f f' : E_F} {h h' : E_H} (q : E_bst len f h = some (f', h')) : h.length ≤ h'.length := by
  unfold E_bst at q
  repeat' split at q
  all_goals first | (cases q; done) | (cases q; rw [List.length_set]; exact Nat.le_refl _)
theorem E_len_lst {len : Nat} {f f' : E_F} {h h' : E_H} (q : E_lst len f h = some (f', h')) : h.length ≤ h'.length := by
  unfold E_lst at q
  repeat' split at q
  all_goals first | (cases q; done) | (cases q; rw [List.length_set]; exact Nat.le_refl _)
theorem E_len_aast {len : Nat} {f f' : E_F} {h h' : E_H} (q : E_aast len f h = some (f', h')) : h.length ≤ h'.length := by
  unfold E_aast at q
  repeat' split at q
  all_goals first | (cases q; done) | (cases q; rw [List.length_set]; exact Nat.le_refl _)
theorem E_len_aas {len : Nat} {f f' : E_F} {h h' : E_H} (q : E_aas len f h = some (f', h')) : h.length ≤ h'.length := by
  unfold E_aas at q
  split at q
  · rename_i z hq
    cases q
    unfold E_aasb at hq
    repeat' split at hq
    all_goals first | (cases hq; done) | (cases hq; rw [List.length_set]; exact Nat.le_refl _)
  · exact E_len_aast q
theorem E_len_cln {oc i len a n : Nat} {f f' : E_F} {h h' : E_H} (q : E_cln oc i len a f h = some (f', h', n)) : h.length ≤ h'.length := by
  unfold E_cln at q
  repeat' split at q
  all_goals first | (cases q; done) | (cases q; rw [List.length_append]; exact Nat.le_add_right _ _)
theorem E_len_copy {len : Nat} {f f' : E_F} {h h' : E_H} (q : E_copy len f h = some (f', h')) : h.length ≤ h'.length := by
  unfold E_copy at q
  repeat' split at q
  all_goals first | (cases q; done) | (cases q; rw [List.length_set]; exact Nat.le_refl _)
theorem E_len_heap {mx oc : Nat} {isI : Bool} {ins : Instr} {len a b n : Nat} {f f' : E_F} {h h' : E_H} (q : E_heap mx oc isI ins len a b f h = some (f', h', n)) : h.length ≤ h'.length := by
  cases ins
  case putfield i => obtain ⟨q2, -⟩ := E_f2_i q; exact E_len_put q2
  case iastore => obtain ⟨q2, -⟩ := E_f2_i q; exact E_len_ast q2
  case bastore => obtain ⟨q2, -⟩ := E_f2_i q; exact E_len_bst q2
  case lastore => obtain ⟨q2, -⟩ := E_f2_i q; exact E_len_lst q2
  case aastore => obtain ⟨q2, -⟩ := E_f2_i q; exact E_len_aas q2
  case new i =>
    obtain ⟨q2, -⟩ := E_f2_i q
    unfold E_new at q2
    split at q2
    · cases q2; rw [List.length_append]; omega
    · cases q2
  case newarray t =>
    have q : E_newa len a f h = some (f', h', n) := q
    unfold E_newa at q
    repeat' split at q
    all_goals first | (cases q; done) | (cases q; rw [List.length_append]; omega)
  case anewarray i =>
    have q : E_newq len a f h = some (f', h', n) := q
    unfold E_newq at q
    repeat' split at q
    all_goals first | (cases q; done) | (cases q; rw [List.length_append]; omega)
  case multianewarray i d =>
    have q : (if d = 2 then E_mna len f h else none) = some (f', h', n) := q
    unfold E_mna at q
    repeat' split at q
    all_goals first | (cases q; done) | (cases q; rw [List.length_append]; omega)
  all_goals
    unfold E_heap at q
    dsimp only at q
    exact E_l_i q
