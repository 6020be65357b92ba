section EP2
variable {p : Program} {l : Launch} {e : Env} {R : Room} {s : State} {m : MethodId} {args : Array Value} {below : List Frame} {meth : Method} {c : Code} {H : Heap} {locs : List Loc} {cells slots : Nat} {Q : State → Prop} {cc : ByteArray} {sz nL : Nat}
theorem E_bin_ok {f f' : E_F} {g : Int32 → Int32 → Int32} {ins : Instr} {len : Nat} (h : E_bin len f g = some f') (hd : decode cc f.1 = .ok (ins, len)) (kk : E_W p l e R s m args below meth c sz nL Q H locs cells slots f')
    (row : ∀ {pc : Nat} {ls : Array Slot} {x y : Int32} {rest : List Value}, decode cc pc = .ok (ins, 1) → W p l e R s m args below meth c H locs cells slots Q (F0 m (pc + 1) ls (.int (g x y) :: rest)) → W p l e R s m args below meth c H locs cells slots Q (F0 m pc ls (.int y :: .int x :: rest))) : E_W p l e R s m args below meth c sz nL Q H locs cells slots f := by
  obtain ⟨pc, L, x, y, st, rfl, rfl, rfl⟩ := E_bin_i h
  exact fun ls hl => row hd (kk ls hl)
theorem E_binN_ok {f f' : E_F} {g : Int32 → Int32 → Int32} {ins : Instr} {len : Nat} (h : E_binN len f g = some f') (hd : decode cc f.1 = .ok (ins, len)) (kk : E_W p l e R s m args below meth c sz nL Q H locs cells slots f')
    (row : ∀ {pc : Nat} {ls : Array Slot} {x y : Int32} {rest : List Value}, decode cc pc = .ok (ins, 1) → ¬ y = 0 → W p l e R s m args below meth c H locs cells slots Q (F0 m (pc + 1) ls (.int (g x y) :: rest)) → W p l e R s m args below meth c H locs cells slots Q (F0 m pc ls (.int y :: .int x :: rest))) : E_W p l e R s m args below meth c sz nL Q H locs cells slots f := by
  obtain ⟨pc, L, x, y, st, rfl, hy, rfl, rfl⟩ := E_binN_i h
  exact fun ls hl => row hd hy (kk ls hl)
theorem E_binL_ok {f f' : E_F} {g : Int64 → Int64 → Int64} {ins : Instr} {len : Nat} (h : E_binL len f g = some f') (hd : decode cc f.1 = .ok (ins, len)) (kk : E_W p l e R s m args below meth c sz nL Q H locs cells slots f')
    (row : ∀ {pc : Nat} {ls : Array Slot} {x y : Int64} {rest : List Value}, decode cc pc = .ok (ins, 1) → W p l e R s m args below meth c H locs cells slots Q (F0 m (pc + 1) ls (.long (g x y) :: rest)) → W p l e R s m args below meth c H locs cells slots Q (F0 m pc ls (.long y :: .long x :: rest))) : E_W p l e R s m args below meth c sz nL Q H locs cells slots f := by
  obtain ⟨pc, L, x, y, st, rfl, rfl, rfl⟩ := E_binL_i h
  exact fun ls hl => row hd (kk ls hl)
theorem E_shL_ok {f f' : E_F} {g : Int64 → Int32 → Int64} {ins : Instr} {len : Nat} (h : E_shL len f g = some f') (hd : decode cc f.1 = .ok (ins, len)) (kk : E_W p l e R s m args below meth c sz nL Q H locs cells slots f')
    (row : ∀ {pc : Nat} {ls : Array Slot} {x : Int64} {y : Int32} {rest : List Value}, decode cc pc = .ok (ins, 1) → W p l e R s m args below meth c H locs cells slots Q (F0 m (pc + 1) ls (.long (g x y) :: rest)) → W p l e R s m args below meth c H locs cells slots Q (F0 m pc ls (.int y :: .long x :: rest))) : E_W p l e R s m args below meth c sz nL Q H locs cells slots f := by
  obtain ⟨pc, L, x, y, st, rfl, rfl, rfl⟩ := E_shL_i h
  exact fun ls hl => row hd (kk ls hl)
theorem E_push_ok {n : Nat} {f f' : E_F} {v : Value} {ins : Instr} {len : Nat} (h : E_push n len f v = some f') (hd : decode cc f.1 = .ok (ins, len)) (kk : E_W p l e R s m args below meth c sz nL Q H locs cells slots f')
    (row : ∀ {pc : Nat} {ls : Array Slot} {rest : List Value}, decode cc pc = .ok (ins, n) → W p l e R s m args below meth c H locs cells slots Q (F0 m (pc + n) ls (E_v sz v :: rest)) → W p l e R s m args below meth c H locs cells slots Q (F0 m pc ls rest)) : E_W p l e R s m args below meth c sz nL Q H locs cells slots f := by
  obtain ⟨rfl, rfl⟩ := E_push_i h
  exact fun ls hl => row hd (kk ls hl)
theorem E_if_ok {f f' : E_F} {off : Int} {g : Int32 → Bool} {ins : Instr} {len : Nat} {P : Int32 → Prop} (h : E_if len off f g = some f') (hd : decode cc f.1 = .ok (ins, len)) (hP : ∀ x, g x = true ↔ P x) (kk : E_W p l e R s m args below meth c sz nL Q H locs cells slots f')
    (row : ∀ {pc tgt : Nat} {ls : Array Slot} {x : Int32} {rest : List Value}, decode cc pc = .ok (ins, 3) → (pc : Int) + off = (tgt : Int) → (P x → W p l e R s m args below meth c H locs cells slots Q (F0 m tgt ls rest)) → (¬ P x → W p l e R s m args below meth c H locs cells slots Q (F0 m (pc + 3) ls rest)) → W p l e R s m args below meth c H locs cells slots Q (F0 m pc ls (.int x :: rest))) : E_W p l e R s m args below meth c sz nL Q H locs cells slots f := by
  obtain ⟨pc, L, x, st, rfl, ht, rfl, rfl⟩ := E_if_i h
  intro ls hl
  obtain ⟨a, b⟩ := E_if_w (hP x) kk hl
  exact row hd (E_tg_ok ht) a b
theorem E_icmp_ok {f f' : E_F} {off : Int} {g : Int32 → Int32 → Bool} {ins : Instr} {len : Nat} {P : Int32 → Int32 → Prop} (h : E_icmp len off f g = some f') (hd : decode cc f.1 = .ok (ins, len)) (hP : ∀ x y, g x y = true ↔ P x y) (kk : E_W p l e R s m args below meth c sz nL Q H locs cells slots f')
    (row : ∀ {pc tgt : Nat} {ls : Array Slot} {x y : Int32} {rest : List Value}, decode cc pc = .ok (ins, 3) → (pc : Int) + off = (tgt : Int) → (P x y → W p l e R s m args below meth c H locs cells slots Q (F0 m tgt ls rest)) → (¬ P x y → W p l e R s m args below meth c H locs cells slots Q (F0 m (pc + 3) ls rest)) → W p l e R s m args below meth c H locs cells slots Q (F0 m pc ls (.int y :: .int x :: rest))) : E_W p l e R s m args below meth c sz nL Q H locs cells slots f := by
  obtain ⟨pc, L, x, y, st, rfl, ht, rfl, rfl⟩ := E_icmp_i h
  intro ls hl
  obtain ⟨a, b⟩ := E_if_w (hP x y) kk hl
  exact row hd (E_tg_ok ht) a b
theorem E_d {P : Prop} [Decidable P] : decide P = true ↔ P := decide_eq_true_iff
set_option maxHeartbeats 4000000 in
theorem E_pure_ok (hx : p.tables.exec = Jvm.exec) (hb : c.code = cc) {ins : Instr} {len : Nat} {f f' : E_F} (h : E_pure nL ins len f = some f') (hd : decode cc f.1 = .ok (ins, len)) (kk : E_W p l e R s m args below meth c sz nL Q H locs cells slots f') : E_W p l e R s m args below meth c sz nL Q H locs cells slots f := by
  cases ins
  case iconst n => exact E_push_ok h hd kk (fun d k => lv_iconst hx hb d rfl k)
  case bipush n => exact E_push_ok h hd kk (fun d k => lv_bipush hx hb d rfl k)
  case sipush n => exact E_push_ok h hd kk (fun d k => lv_sipush hx hb d rfl k)
  case lconst n => exact E_push_ok h hd kk (fun d k => lv_lconst hx hb d rfl k)
  case aconst_null => exact E_push_ok h hd kk (fun d k => lv_null hx hb d k)
  case iload_n k =>
    obtain ⟨x, rfl, hv, rfl⟩ := E_ildk_i h
    exact fun ls hl => lv_iload_n hx hb hd rfl (E_has hl hv) (kk ls hl)
  case iload k =>
    obtain ⟨x, rfl, hv, rfl⟩ := E_ildk_i h
    exact fun ls hl => lv_iload hx hb hd (E_has hl hv) (kk ls hl)
  case lload_n k =>
    obtain ⟨x, rfl, hv, rfl⟩ := E_lldk_i h
    exact fun ls hl => lv_lload_n hx hb hd rfl (E_has hl hv) (kk ls hl)
  case lload k =>
    obtain ⟨x, rfl, hv, rfl⟩ := E_lldk_i h
    exact fun ls hl => lv_lload hx hb hd (E_has hl hv) (kk ls hl)
  case aload_n k =>
    obtain ⟨rfl, ⟨x, hv, rfl⟩ | ⟨hv, rfl⟩⟩ := E_aldk_i h
    · exact fun ls hl => lv_aload_n hx hb hd rfl (E_has hl hv) (kk ls hl)
    · exact fun ls hl => lv_aload_nN hx hb hd rfl (E_has hl hv) (kk ls hl)
  case aload k =>
    obtain ⟨rfl, ⟨x, hv, rfl⟩ | ⟨hv, rfl⟩⟩ := E_aldk_i h
    · exact fun ls hl => lv_aload hx hb hd (E_has hl hv) (kk ls hl)
    · exact fun ls hl => lv_aloadN hx hb hd (E_has hl hv) (kk ls hl)
  case istore_n k =>
    obtain ⟨pc, L, x, st, rfl, hi, rfl, rfl⟩ := E_istk_i h
    exact fun ls hl => lv_istore_n hx hb hd rfl hl hi (E_s1_map sz L _ (.int x)) (fun ls' hl' => kk ls' hl')
  case istore k =>
    obtain ⟨pc, L, x, st, rfl, hi, rfl, rfl⟩ := E_istk_i h
    exact fun ls hl => lv_istore hx hb hd hl hi (E_s1_map sz L _ (.int x)) (fun ls' hl' => kk ls' hl')
  case lstore_n k =>
    obtain ⟨pc, L, x, st, rfl, hi, rfl, rfl⟩ := E_lstk_i h
    exact fun ls hl => lv_lstore_n hx hb hd rfl hl hi (E_s2_map sz L _ (.long x)) (fun ls' hl' => kk ls' hl')
  case lstore k =>
    obtain ⟨pc, L, x, st, rfl, hi, rfl, rfl⟩ := E_lstk_i h
    exact fun ls hl => lv_lstore hx hb hd hl hi (E_s2_map sz L _ (.long x)) (fun ls' hl' => kk ls' hl')
  case astore_n k =>
    obtain ⟨pc, L, st, rfl, hi, ⟨x, rfl, rfl⟩ | ⟨rfl, rfl⟩⟩ := E_astk_i h
    · exact fun ls hl => lv_astore_n hx hb hd rfl hl hi (E_s1_map sz L _ (.ref x)) (fun ls' hl' => kk ls' hl')
    · exact fun ls hl => lv_astore_nN hx hb hd rfl hl hi (E_s1_map sz L _ .null) (fun ls' hl' => kk ls' hl')
  case astore k =>
    obtain ⟨pc, L, st, rfl, hi, ⟨x, rfl, rfl⟩ | ⟨rfl, rfl⟩⟩ := E_astk_i h
    · exact fun ls hl => lv_astore hx hb hd hl hi (E_s1_map sz L _ (.ref x)) (fun ls' hl' => kk ls' hl')
    · exact fun ls hl => lv_astoreN hx hb hd hl hi (E_s1_map sz L _ .null) (fun ls' hl' => kk ls' hl')
  case iinc i n =>
    obtain ⟨x, rfl, hi, hv, rfl⟩ := E_iinck_i h
    intro ls hl
    obtain ⟨k, hk⟩ := List.mem_iff_getElem?.mp (List.mem_map.mpr ⟨(i, .int x), E_lk_mem hv, rfl⟩ : E_q sz (i, .int x) ∈ f.2.1.map (E_q sz))
    exact lv_iinc hx hb hd hl hk rfl hi (E_s1_map sz f.2.1 _ (.int _)) (fun ls' hl' => kk ls' hl')
  case iadd => exact E_bin_ok h hd kk (fun d k => lv_iadd hx hb d k)
  case isub => exact E_bin_ok h hd kk (fun d k => lv_isub hx hb d k)
  case imul => exact E_bin_ok h hd kk (fun d k => lv_imul hx hb d k)
  case iand => exact E_bin_ok h hd kk (fun d k => lv_iand hx hb d k)
  case ior => exact E_bin_ok h hd kk (fun d k => lv_ior hx hb d k)
  case ixor => exact E_bin_ok h hd kk (fun d k => lv_ixor hx hb d k)
  case ishl => exact E_bin_ok h hd kk (fun d k => lv_ishl hx hb d k)
  case ishr => exact E_bin_ok h hd kk (fun d k => lv_ishr hx hb d k)
  case iushr => exact E_bin_ok h hd kk (fun d k => lv_iushr hx hb d rfl k)
  case idiv => exact E_binN_ok h hd kk (fun d hy k => lv_idiv hx hb d hy k)
  case irem => exact E_binN_ok h hd kk (fun d hy k => lv_irem hx hb d hy k)
  case ladd => exact E_binL_ok h hd kk (fun d k => lv_ladd hx hb d k)
  case lsub => exact E_binL_ok h hd kk (fun d k => lv_lsub hx hb d k)
  case lmul => exact E_binL_ok h hd kk (fun d k => lv_lmul hx hb d k)
  case land => exact E_binL_ok h hd kk (fun d k => lv_land hx hb d k)
  case lor => exact E_binL_ok h hd kk (fun d k => lv_lor hx hb d k)
  case lxor => exact E_binL_ok h hd kk (fun d k => lv_lxor hx hb d k)
  case lushr => exact E_shL_ok h hd kk (fun d k => lv_lushr hx hb d rfl k)
  case lshl => exact E_shL_ok h hd kk (fun d k => lv_lshl hx hb d rfl k)
  case lcmp =>
    unfold E_pure at h
    dsimp only at h
    split at h
    · split at h
      · rename_i hl
        cases h
        subst hl
        exact fun ls hl => W.lcmp hx hb hd (kk ls hl)
      · cases h
    · cases h
  case i2l =>
    obtain ⟨pc, L, x, st, rfl, rfl, rfl⟩ := E_un_i h
    exact fun ls hl => lv_i2l hx hb hd rfl (kk ls hl)
  case i2b =>
    obtain ⟨pc, L, x, st, rfl, rfl, rfl⟩ := E_un_i h
    exact fun ls hl => lv_i2b hx hb hd rfl (kk ls hl)
  case l2i =>
    obtain ⟨pc, L, x, st, rfl, rfl, rfl⟩ := E_unL_i h
    exact fun ls hl => lv_l2i hx hb hd rfl (kk ls hl)
  case ifCond cnd off =>
    cases cnd
    · exact E_if_ok h hd (fun _ => E_d) kk (fun d t a b => lv_if_eq hx hb d t a b)
    · exact E_if_ok (P := fun x => ¬ x = 0) h hd (fun _ => E_d) kk (fun d t a b => lv_if_ne hx hb d t a (fun q => b (fun r => r q)))
    · exact E_if_ok h hd (fun _ => E_d) kk (fun d t a b => lv_if_lt hx hb d t a b)
    · exact E_if_ok h hd (fun _ => E_d) kk (fun d t a b => lv_if_ge hx hb d t a b)
    · exact E_if_ok h hd (fun _ => E_d) kk (fun d t a b => lv_if_gt hx hb d t a b)
    · exact E_if_ok h hd (fun _ => E_d) kk (fun d t a b => lv_if_le hx hb d t a b)
  case if_icmp cnd off =>
    cases cnd
    · exact E_icmp_ok h hd (fun _ _ => E_d) kk (fun d t a b => lv_icmp_eq hx hb d t a b)
    · exact E_icmp_ok (P := fun x y => ¬ x = y) h hd (fun _ _ => E_d) kk (fun d t a b => lv_icmp_ne hx hb d t a (fun q => b (fun r => r q)))
    · exact E_icmp_ok h hd (fun _ _ => E_d) kk (fun d t a b => lv_icmp_lt hx hb d t a b)
    · exact E_icmp_ok h hd (fun _ _ => E_d) kk (fun d t a b => lv_icmp_ge hx hb d t a b)
    · exact E_icmp_ok h hd (fun _ _ => E_d) kk (fun d t a b => lv_icmp_gt hx hb d t a b)
    · exact E_icmp_ok h hd (fun _ _ => E_d) kk (fun d t a b => lv_icmp_le hx hb d t a b)
  case goto off =>
    have h : E_goto len off f = some f' := h
    unfold E_goto at h
    split at h
    · rename_i q
      cases h
      obtain ⟨rfl, ht⟩ := q
      exact fun ls hl => lv_goto hx hb hd (E_tg_ok ht) (kk ls hl)
    · cases h
  case dup =>
    obtain ⟨pc, L, v, st, rfl, hv, rfl, rfl⟩ := E_dup_i h
    exact fun ls hl => lv_dup hx hb hd (by rw [E_v_cat]; exact hv) (kk ls hl)
  case pop =>
    obtain ⟨pc, L, v, st, rfl, hv, rfl, rfl⟩ := E_pop_i h
    exact fun ls hl => lv_pop hx hb hd (by rw [E_v_cat]; exact hv) (kk ls hl)
  case dup2 =>
    obtain ⟨pc, L, v, w, st, rfl, hv, hw, rfl, rfl⟩ := E_dup2_i h
    exact fun ls hl => lv_dup2_11 hx hb hd (by rw [E_v_cat]; exact hv) (by rw [E_v_cat]; exact hw) (kk ls hl)
  case ifnull off =>
    obtain ⟨pc, L, st, rfl, ht, ⟨x, rfl, rfl⟩ | ⟨rfl, rfl⟩⟩ := E_nul_i h
    · exact fun ls hl => lv_ifnull hx hb hd (kk ls hl)
    · exact fun ls hl => lv_ifnullN hx hb hd (E_tg_ok ht) (kk ls hl)
  case ifnonnull off =>
    obtain ⟨pc, L, st, rfl, ht, ⟨x, rfl, rfl⟩ | ⟨rfl, rfl⟩⟩ := E_nul_i h
    · exact fun ls hl => lv_ifnonnull hx hb hd (E_tg_ok ht) (kk ls hl)
    · exact fun ls hl => lv_ifnonnullN hx hb hd (kk ls hl)
  case tableswitch d lo hi offs =>
    have h : E_tsw d lo hi offs f = some f' := h
    unfold E_tsw at h
    split at h
    · rename_i pc L x st z
      cases hq : (decide (x.toInt < lo) || decide (hi < x.toInt))
      · rw [hq] at h
        rw [Bool.or_eq_false_iff] at hq
        dsimp only [cond_false] at h
        split at h
        · rename_i off ho
          split at h
          · rename_i ht
            cases h
            exact fun ls hl => lv_tableIn hx hb hd (of_decide_eq_false hq.1) (of_decide_eq_false hq.2) ho (E_tg_ok ht) (kk ls hl)
          · cases h
        · cases h
      · rw [hq] at h
        rw [Bool.or_eq_true] at hq
        dsimp only [cond_true] at h
        split at h
        · rename_i ht
          cases h
          exact fun ls hl => lv_tableOut hx hb hd (hq.elim (fun q => Or.inl (of_decide_eq_true q)) (fun q => Or.inr (of_decide_eq_true q))) (E_tg_ok ht) (kk ls hl)
        · cases h
    · cases h
  case lookupswitch d ps =>
    have h : E_lsw d ps f = some f' := h
    unfold E_lsw at h
    split at h
    · split at h
      · rename_i q
        cases h
        exact fun ls hl => lv_lookup hx hb hd q.1 rfl (E_tg_ok q.2) (kk ls hl)
      · cases h
    · cases h
  all_goals exact absurd (show none = some f' from h) (fun q => by cases q)
end EP2
