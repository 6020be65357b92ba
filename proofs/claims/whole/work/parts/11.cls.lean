theorem E_cl_ok (ci : Nat) (C : String) (T : u_T) (N : Nat) (h : E_CL[ci]? = some (C, T, N)) : (∀ k, k < N → parseFieldDescriptor (T k).2.2.1 = some (E_cty ci k)) ∧ (∀ a, a < N → ∀ b, b < N → a ≠ b → (T a).2.1 ≠ (T b).2.1) ∧ (∀ w ∈ u_ws C T N, w ∈ E_GT) ∧ Cond.instantiable C N ∈ E_GT ∧ Cond.initialized C ∈ E_GT ∧ (∀ k, k < N → (T k).1 = C) ∧ E_cn ci = C ∧ E_N ci = N ∧ (∀ k, E_fin ci k = (T k).2.2.2) := by
  match ci, h with
  | 0, h =>
    have q : (E_R0, E_T0, _) = (C, T, N) := Option.some.inj h
    cases q
    exact ⟨E_ct0, E_cn0, E_cw0, E_ci0, E_cz0, E_cd0, rfl, rfl, fun _ => rfl⟩
  | 1, h =>
    have q : (E_R1, E_T1, _) = (C, T, N) := Option.some.inj h
    cases q
    exact ⟨E_ct1, E_cn1, E_cw1, E_ci1, E_cz1, E_cd1, rfl, rfl, fun _ => rfl⟩
  | 2, h =>
    have q : (E_R2, E_T2, _) = (C, T, N) := Option.some.inj h
    cases q
    exact ⟨E_ct2, E_cn2, E_cw2, E_ci2, E_cz2, E_cd2, rfl, rfl, fun _ => rfl⟩
  | 3, h =>
    have q : (E_R3, E_T3, _) = (C, T, N) := Option.some.inj h
    cases q
    exact ⟨E_ct3, E_cn3, E_cw3, E_ci3, E_cz3, E_cd3, rfl, rfl, fun _ => rfl⟩
  | 4, h =>
    have q : (E_R4, E_T4, _) = (C, T, N) := Option.some.inj h
    cases q
    exact ⟨E_ct4, E_cn4, E_cw4, E_ci4, E_cz4, E_cd4, rfl, rfl, fun _ => rfl⟩
  | 5, h =>
    have q : (E_R5, E_T5, _) = (C, T, N) := Option.some.inj h
    cases q
    exact ⟨E_ct5, E_cn5, E_cw5, E_ci5, E_cz5, E_cd5, rfl, rfl, fun _ => rfl⟩
  | 6, h =>
    have q : (E_R6, E_T6, _) = (C, T, N) := Option.some.inj h
    cases q
    exact ⟨E_ct6, E_cn6, E_cw6, E_ci6, E_cz6, E_cd6, rfl, rfl, fun _ => rfl⟩
  | 7, h =>
    have q : (E_R7, E_T7, _) = (C, T, N) := Option.some.inj h
    cases q
    exact ⟨E_ct7, E_cn7, E_cw7, E_ci7, E_cz7, E_cd7, rfl, rfl, fun _ => rfl⟩
  | 8, h =>
    have q : (E_R8, E_T8, _) = (C, T, N) := Option.some.inj h
    cases q
    exact ⟨E_ct8, E_cn8, E_cw8, E_ci8, E_cz8, E_cd8, rfl, rfl, fun _ => rfl⟩
  | 9, h =>
    have q : (E_R9, E_T9, _) = (C, T, N) := Option.some.inj h
    cases q
    exact ⟨E_ct9, E_cn9, E_cw9, E_ci9, E_cz9, E_cd9, rfl, rfl, fun _ => rfl⟩
  | 10, h =>
    have q : (E_R10, E_T10, _) = (C, T, N) := Option.some.inj h
    cases q
    exact ⟨E_ct10, E_cn10, E_cw10, E_ci10, E_cz10, E_cd10, rfl, rfl, fun _ => rfl⟩
  | 11, h =>
    have q : (E_R11, E_T11, _) = (C, T, N) := Option.some.inj h
    cases q
    exact ⟨E_ct11, E_cn11, E_cw11, E_ci11, E_cz11, E_cd11, rfl, rfl, fun _ => rfl⟩
  | 12, h =>
    have q : (E_R12, E_T12, _) = (C, T, N) := Option.some.inj h
    cases q
    exact ⟨E_ct12, E_cn12, E_cw12, E_ci12, E_cz12, E_cd12, rfl, rfl, fun _ => rfl⟩
  | n + 13, h => exact absurd h (by simp [E_CL])
theorem E_cl_some {ci k : Nat} (h : k < E_N ci) : ∃ C T, E_CL[ci]? = some (C, T, E_N ci) := by
  cases hq : E_CL[ci]? with
  | none =>
    unfold E_N at h
    rw [hq] at h
    exact absurd h (Nat.not_lt_zero _)
  | some q =>
    obtain ⟨C, T, N⟩ := q
    refine ⟨C, T, ?_⟩
    unfold E_N
    rw [hq]
theorem E_cl_13 {ci : Nat} (h : ci < 13) : ∃ C T, E_CL[ci]? = some (C, T, E_N ci) := by
  have hl : ci < E_CL.length := h
  have hq := List.getElem?_eq_getElem hl
  refine ⟨E_CL[ci].1, E_CL[ci].2.1, ?_⟩
  unfold E_N
  rw [hq]
theorem E_aw0 : Cond.arrayClass .int ∈ E_GT := List.mem_filter.mpr ⟨List.mem_of_getElem? (i := 196) (by decide +kernel), rfl⟩
theorem E_aw1 : Cond.arrayClass .byte ∈ E_GT := List.mem_filter.mpr ⟨List.mem_of_getElem? (i := 195) (by decide +kernel), rfl⟩
theorem E_aw2 : Cond.arrayClass .boolean ∈ E_GT := List.mem_filter.mpr ⟨List.mem_of_getElem? (i := 1531) (by decide +kernel), rfl⟩
theorem E_aw3 : Cond.arrayClass .long ∈ E_GT := List.mem_filter.mpr ⟨List.mem_of_getElem? (i := 268) (by decide +kernel), rfl⟩
theorem E_wac1 : Cond.native arraycopyName ∈ E_GT := List.mem_filter.mpr ⟨List.mem_of_getElem? (i := 596) (by decide +kernel), rfl⟩
theorem E_wac2 : Cond.static arraycopyName ∈ E_GT := List.mem_filter.mpr ⟨List.mem_of_getElem? (i := 595) (by decide +kernel), rfl⟩
theorem E_wac3 : Cond.initialized "java/lang/System" ∈ E_GT := List.mem_filter.mpr ⟨List.mem_of_getElem? (i := 159) (by decide +kernel), rfl⟩
theorem E_wo1 : Cond.instanceMethod Lib.objectInit ∈ E_GT := List.mem_filter.mpr ⟨List.mem_of_getElem? (i := 168) (by decide +kernel), rfl⟩
theorem E_wo2 : Cond.code Lib.objectInit ⟨#[0xb1]⟩ 1 none ∈ E_GT := List.mem_filter.mpr ⟨List.mem_of_getElem? (i := 169) (by decide +kernel), rfl⟩
theorem E_wmx0 : Cond.initialized "java/lang/Math" ∈ E_GT := List.mem_filter.mpr ⟨List.mem_of_getElem? (i := 151) (by decide +kernel), rfl⟩
theorem E_wmx1 : Cond.static Lib.Math.max.name ∈ E_GT := List.mem_filter.mpr ⟨List.mem_of_getElem? (i := 309) (by decide +kernel), rfl⟩
theorem E_wmx2 : Cond.code Lib.Math.max.name Lib.Math.max.code 2 (some .int) ∈ E_GT := List.mem_filter.mpr ⟨List.mem_of_getElem? (i := 310) (by decide +kernel), rfl⟩
theorem E_wmn1 : Cond.static Lib.Math.min.name ∈ E_GT := List.mem_filter.mpr ⟨List.mem_of_getElem? (i := 592) (by decide +kernel), rfl⟩
theorem E_wmn2 : Cond.code Lib.Math.min.name Lib.Math.min.code 2 (some .int) ∈ E_GT := List.mem_filter.mpr ⟨List.mem_of_getElem? (i := 593) (by decide +kernel), rfl⟩
theorem E_wcl1 : Cond.methodLink "java/util/Arrays" 310 ⟨"[B", "clone", "()Ljava/lang/Object;"⟩ ∈ E_GT := List.mem_filter.mpr ⟨List.mem_of_getElem? (i := 584) (by decide +kernel), rfl⟩
theorem E_wcl2 : Cond.sameMethod "[B" "java/lang/Object" "clone" "()Ljava/lang/Object;" ∈ E_GT := List.mem_filter.mpr ⟨List.mem_of_getElem? (i := 585) (by decide +kernel), rfl⟩
theorem E_wcl3 : Cond.native ⟨"java/lang/Object", "clone", "()Ljava/lang/Object;"⟩ ∈ E_GT := List.mem_filter.mpr ⟨List.mem_of_getElem? (i := 586) (by decide +kernel), rfl⟩
theorem E_wcl4 : Cond.instanceMethod ⟨"java/lang/Object", "clone", "()Ljava/lang/Object;"⟩ ∈ E_GT := List.mem_filter.mpr ⟨List.mem_of_getElem? (i := 587) (by decide +kernel), rfl⟩
theorem E_wcl5 : Cond.selects "[B" ⟨"[B", "clone", "()Ljava/lang/Object;"⟩ ⟨"java/lang/Object", "clone", "()Ljava/lang/Object;"⟩ ∈ E_GT := List.mem_filter.mpr ⟨List.mem_of_getElem? (i := 588) (by decide +kernel), rfl⟩
theorem E_wcl6 : Cond.classLink "java/util/Arrays" 311 "[B" ∈ E_GT := List.mem_filter.mpr ⟨List.mem_of_getElem? (i := 590) (by decide +kernel), rfl⟩
