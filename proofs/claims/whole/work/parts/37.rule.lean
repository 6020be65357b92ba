/-! the rules of the road: one step each, in whole numbers; for the reference its state goes along -/
section ZR
variable {d : Nat} {M : E_MI} {h : E_H} {sl pc a b : Nat} {L : E_L} {st : List Value} {Φ : E_R → Prop}
theorem Z_go {f f2 : E_F} (hs : ∀ o : E_orc, E_step o M f h sl = some (.inl (f2, h, sl))) (k : B_R d M f2 h sl Φ) : B_R d M f h sl Φ := B_go hs k
theorem Z_iadd {x y : Int} (hf : E_find M.2.2.2.2.2.2.2 pc = some (.iadd, 1, a, b)) (k : B_R d M (pc + 1, L, .int (Zi (x + y)) :: st) h sl Φ) : B_R d M (pc, L, .int (Zi y) :: .int (Zi x) :: st) h sl Φ := by
  refine Z_go (f2 := (pc + 1, L, .int (Zi (x + y)) :: st)) (fun o => ?_) k
  unfold E_step
  rw [hf, ← Zi_add]
  rfl
theorem Z_isub {x y : Int} (hf : E_find M.2.2.2.2.2.2.2 pc = some (.isub, 1, a, b)) (k : B_R d M (pc + 1, L, .int (Zi (x - y)) :: st) h sl Φ) : B_R d M (pc, L, .int (Zi y) :: .int (Zi x) :: st) h sl Φ := by
  refine Z_go (f2 := (pc + 1, L, .int (Zi (x - y)) :: st)) (fun o => ?_) k
  unfold E_step
  rw [hf, ← Zi_sub]
  rfl
theorem Z_imul {x y : Int} (hf : E_find M.2.2.2.2.2.2.2 pc = some (.imul, 1, a, b)) (k : B_R d M (pc + 1, L, .int (Zi (x * y)) :: st) h sl Φ) : B_R d M (pc, L, .int (Zi y) :: .int (Zi x) :: st) h sl Φ := by
  refine Z_go (f2 := (pc + 1, L, .int (Zi (x * y)) :: st)) (fun o => ?_) k
  unfold E_step
  rw [hf, ← Zi_mul]
  rfl
theorem Z_ishl {x y p : Int} (hf : E_find M.2.2.2.2.2.2.2 pc = some (.ishl, 1, a, b)) (y0 : 0 ≤ y) (y1 : y < 32) (hp : (2 : Int) ^ y.toNat = p) (k : B_R d M (pc + 1, L, .int (Zi (x * p)) :: st) h sl Φ) : B_R d M (pc, L, .int (Zi y) :: .int (Zi x) :: st) h sl Φ := by
  subst hp
  refine Z_go (f2 := (pc + 1, L, .int (Zi (x * 2 ^ y.toNat)) :: st)) (fun o => ?_) k
  unfold E_step
  rw [hf, ← Zi_shl x y0 y1]
  rfl
theorem Z_ishr {x y p : Int} (hf : E_find M.2.2.2.2.2.2.2 pc = some (.ishr, 1, a, b)) (hx : Zr x) (y0 : 0 ≤ y) (y1 : y < 32) (hp : (2 : Int) ^ y.toNat = p) (k : B_R d M (pc + 1, L, .int (Zi (x / p)) :: st) h sl Φ) : B_R d M (pc, L, .int (Zi y) :: .int (Zi x) :: st) h sl Φ := by
  subst hp
  refine Z_go (f2 := (pc + 1, L, .int (Zi (x / 2 ^ y.toNat)) :: st)) (fun o => ?_) k
  unfold E_step
  rw [hf, ← Zi_shr hx y0 y1]
  rfl
theorem Z_and255 {x : Int} (hf : E_find M.2.2.2.2.2.2.2 pc = some (.iand, 1, a, b)) (k : B_R d M (pc + 1, L, .int (Zi (x % 256)) :: st) h sl Φ) : B_R d M (pc, L, .int (Zi 255) :: .int (Zi x) :: st) h sl Φ := by
  refine Z_go (f2 := (pc + 1, L, .int (Zi (x % 256)) :: st)) (fun o => ?_) k
  unfold E_step
  rw [hf, ← Zi_and255]
  rfl
theorem Z_and31 {x : Int} (hf : E_find M.2.2.2.2.2.2.2 pc = some (.iand, 1, a, b)) (k : B_R d M (pc + 1, L, .int (Zi (x % 32)) :: st) h sl Φ) : B_R d M (pc, L, .int (Zi 31) :: .int (Zi x) :: st) h sl Φ := by
  refine Z_go (f2 := (pc + 1, L, .int (Zi (x % 32)) :: st)) (fun o => ?_) k
  unfold E_step
  rw [hf, ← Zi_and31]
  rfl
theorem Z_and63 {x : Int} (hf : E_find M.2.2.2.2.2.2.2 pc = some (.iand, 1, a, b)) (k : B_R d M (pc + 1, L, .int (Zi (x % 64)) :: st) h sl Φ) : B_R d M (pc, L, .int (Zi 63) :: .int (Zi x) :: st) h sl Φ := by
  refine Z_go (f2 := (pc + 1, L, .int (Zi (x % 64)) :: st)) (fun o => ?_) k
  unfold E_step
  rw [hf, ← Zi_and63]
  rfl
theorem Z_idiv {x y : Int} (hf : E_find M.2.2.2.2.2.2.2 pc = some (.idiv, 1, a, b)) (x0 : 0 ≤ x) (x1 : x < 2147483648) (y0 : 0 < y) (y1 : y < 2147483648) (k : B_R d M (pc + 1, L, .int (Zi (x / y)) :: st) h sl Φ) : B_R d M (pc, L, .int (Zi y) :: .int (Zi x) :: st) h sl Φ := by
  refine Z_go (f2 := (pc + 1, L, .int (Zi (x / y)) :: st)) (fun o => ?_) k
  have hy : ¬ Zi y = 0 := by
    rw [show (0 : Int32) = Zi 0 from rfl, Zi_eq ⟨by omega, by omega⟩ ⟨by omega, by omega⟩]
    omega
  unfold E_step
  rw [hf, ← Zi_div x0 x1 y0 y1]
  dsimp only
  unfold E_heap E_f1 E_pure E_binN
  dsimp only
  rw [if_pos ⟨rfl, hy⟩]
  rfl
theorem Z_irem {x y : Int} (hf : E_find M.2.2.2.2.2.2.2 pc = some (.irem, 1, a, b)) (x0 : 0 ≤ x) (x1 : x < 2147483648) (y0 : 0 < y) (y1 : y < 2147483648) (k : B_R d M (pc + 1, L, .int (Zi (x % y)) :: st) h sl Φ) : B_R d M (pc, L, .int (Zi y) :: .int (Zi x) :: st) h sl Φ := by
  refine Z_go (f2 := (pc + 1, L, .int (Zi (x % y)) :: st)) (fun o => ?_) k
  have hy : ¬ Zi y = 0 := by
    rw [show (0 : Int32) = Zi 0 from rfl, Zi_eq ⟨by omega, by omega⟩ ⟨by omega, by omega⟩]
    omega
  unfold E_step
  rw [hf, ← Zi_mod x0 x1 y0 y1]
  dsimp only
  unfold E_heap E_f1 E_pure E_binN
  dsimp only
  rw [if_pos ⟨rfl, hy⟩]
  rfl
theorem Z_iinc {i : Nat} {n z : Int} {L2 : E_L} (hf : E_find M.2.2.2.2.2.2.2 pc = some (.iinc i n, 3, a, b)) (hk : E_lk L i = some (.int (Zi z))) (hm : i < M.2.2.2.1) (hL : E_s1 L i (.int (Zi (z + n))) = L2) (k : B_R d M (pc + 3, L2, st) h sl Φ) : B_R d M (pc, L, st) h sl Φ := by
  refine Z_go (f2 := (pc + 3, L2, st)) (fun o => ?_) k
  unfold E_step
  rw [hf, ← hL, ← Zi_add]
  dsimp only
  unfold E_heap E_f1 E_pure E_iinck
  dsimp only
  rw [hk]
  dsimp only
  rw [if_pos ⟨rfl, hm⟩]
  rfl
theorem Z_ceq {off : Int} {x y : Int} (hf : E_find M.2.2.2.2.2.2.2 pc = some (.if_icmp .eq off, 3, a, b)) (ht : E_tok pc off = true) (hx : Zr x) (hy : Zr y) (kt : x = y → B_R d M (E_tg pc off, L, st) h sl Φ) (kf : x ≠ y → B_R d M (pc + 3, L, st) h sl Φ) : B_R d M (pc, L, .int (Zi y) :: .int (Zi x) :: st) h sl Φ := by
  refine B_icmp (fun _ => rfl) hf ht (fun q => kt ?_) (fun q => kf ?_)
  · exact (Zi_eq hx hy).mp (of_decide_eq_true q)
  · exact fun e => of_decide_eq_false q (by rw [e])
theorem Z_cne {off : Int} {x y : Int} (hf : E_find M.2.2.2.2.2.2.2 pc = some (.if_icmp .ne off, 3, a, b)) (ht : E_tok pc off = true) (hx : Zr x) (hy : Zr y) (kt : x ≠ y → B_R d M (E_tg pc off, L, st) h sl Φ) (kf : x = y → B_R d M (pc + 3, L, st) h sl Φ) : B_R d M (pc, L, .int (Zi y) :: .int (Zi x) :: st) h sl Φ := by
  refine B_icmp (fun _ => rfl) hf ht (fun q => kt ?_) (fun q => kf ?_)
  · have q := of_decide_eq_true q
    exact fun e => q (by rw [e])
  · have q := of_decide_eq_false q
    exact Classical.byContradiction fun e => q (fun z => e ((Zi_eq hx hy).mp z))
theorem Z_clt {off : Int} {x y : Int} (hf : E_find M.2.2.2.2.2.2.2 pc = some (.if_icmp .lt off, 3, a, b)) (ht : E_tok pc off = true) (hx : Zr x) (hy : Zr y) (kt : x < y → B_R d M (E_tg pc off, L, st) h sl Φ) (kf : y ≤ x → B_R d M (pc + 3, L, st) h sl Φ) : B_R d M (pc, L, .int (Zi y) :: .int (Zi x) :: st) h sl Φ := by
  refine B_icmp (fun _ => rfl) hf ht (fun q => kt ?_) (fun q => kf ?_)
  · exact (Zi_lt hx hy).mp (of_decide_eq_true q)
  · have q : ¬ (x < y) := fun z => of_decide_eq_false q ((Zi_lt hx hy).mpr z)
    omega
theorem Z_cge {off : Int} {x y : Int} (hf : E_find M.2.2.2.2.2.2.2 pc = some (.if_icmp .ge off, 3, a, b)) (ht : E_tok pc off = true) (hx : Zr x) (hy : Zr y) (kt : y ≤ x → B_R d M (E_tg pc off, L, st) h sl Φ) (kf : x < y → B_R d M (pc + 3, L, st) h sl Φ) : B_R d M (pc, L, .int (Zi y) :: .int (Zi x) :: st) h sl Φ := by
  refine B_icmp (fun _ => rfl) hf ht (fun q => kt ?_) (fun q => kf ?_)
  · exact (Zi_le hy hx).mp (of_decide_eq_true q)
  · have q : ¬ (y ≤ x) := fun z => of_decide_eq_false q ((Zi_le hy hx).mpr z)
    omega
theorem Z_cgt {off : Int} {x y : Int} (hf : E_find M.2.2.2.2.2.2.2 pc = some (.if_icmp .gt off, 3, a, b)) (ht : E_tok pc off = true) (hx : Zr x) (hy : Zr y) (kt : y < x → B_R d M (E_tg pc off, L, st) h sl Φ) (kf : x ≤ y → B_R d M (pc + 3, L, st) h sl Φ) : B_R d M (pc, L, .int (Zi y) :: .int (Zi x) :: st) h sl Φ := by
  refine B_icmp (fun _ => rfl) hf ht (fun q => kt ?_) (fun q => kf ?_)
  · exact (Zi_lt hy hx).mp (of_decide_eq_true q)
  · have q : ¬ (y < x) := fun z => of_decide_eq_false q ((Zi_lt hy hx).mpr z)
    omega
theorem Z_cle {off : Int} {x y : Int} (hf : E_find M.2.2.2.2.2.2.2 pc = some (.if_icmp .le off, 3, a, b)) (ht : E_tok pc off = true) (hx : Zr x) (hy : Zr y) (kt : x ≤ y → B_R d M (E_tg pc off, L, st) h sl Φ) (kf : y < x → B_R d M (pc + 3, L, st) h sl Φ) : B_R d M (pc, L, .int (Zi y) :: .int (Zi x) :: st) h sl Φ := by
  refine B_icmp (fun _ => rfl) hf ht (fun q => kt ?_) (fun q => kf ?_)
  · exact (Zi_le hx hy).mp (of_decide_eq_true q)
  · have q : ¬ (x ≤ y) := fun z => of_decide_eq_false q ((Zi_le hx hy).mpr z)
    omega
theorem Z_ieq {off : Int} {x : Int} (hf : E_find M.2.2.2.2.2.2.2 pc = some (.ifCond .eq off, 3, a, b)) (ht : E_tok pc off = true) (hx : Zr x) (kt : x = 0 → B_R d M (E_tg pc off, L, st) h sl Φ) (kf : x ≠ 0 → B_R d M (pc + 3, L, st) h sl Φ) : B_R d M (pc, L, .int (Zi x) :: st) h sl Φ := by
  have h0 : Zr 0 := ⟨by omega, by omega⟩
  refine B_ifc (fun _ => rfl) hf ht (fun q => kt ?_) (fun q => kf ?_)
  · exact (Zi_eq hx h0).mp (of_decide_eq_true q)
  · exact fun e => of_decide_eq_false q (by rw [e]; rfl)
theorem Z_ine {off : Int} {x : Int} (hf : E_find M.2.2.2.2.2.2.2 pc = some (.ifCond .ne off, 3, a, b)) (ht : E_tok pc off = true) (hx : Zr x) (kt : x ≠ 0 → B_R d M (E_tg pc off, L, st) h sl Φ) (kf : x = 0 → B_R d M (pc + 3, L, st) h sl Φ) : B_R d M (pc, L, .int (Zi x) :: st) h sl Φ := by
  have h0 : Zr 0 := ⟨by omega, by omega⟩
  refine B_ifc (fun _ => rfl) hf ht (fun q => kt ?_) (fun q => kf ?_)
  · have q := of_decide_eq_true q
    exact fun e => q (by rw [e]; rfl)
  · have q := of_decide_eq_false q
    exact Classical.byContradiction fun e => q (fun z => e ((Zi_eq hx h0).mp z))
theorem Z_ilt {off : Int} {x : Int} (hf : E_find M.2.2.2.2.2.2.2 pc = some (.ifCond .lt off, 3, a, b)) (ht : E_tok pc off = true) (hx : Zr x) (kt : x < 0 → B_R d M (E_tg pc off, L, st) h sl Φ) (kf : 0 ≤ x → B_R d M (pc + 3, L, st) h sl Φ) : B_R d M (pc, L, .int (Zi x) :: st) h sl Φ := by
  have h0 : Zr 0 := ⟨by omega, by omega⟩
  refine B_ifc (fun _ => rfl) hf ht (fun q => kt ?_) (fun q => kf ?_)
  · exact (Zi_lt hx h0).mp (of_decide_eq_true q)
  · have q : ¬ (x < 0) := fun z => of_decide_eq_false q ((Zi_lt hx h0).mpr z)
    omega
theorem Z_ige {off : Int} {x : Int} (hf : E_find M.2.2.2.2.2.2.2 pc = some (.ifCond .ge off, 3, a, b)) (ht : E_tok pc off = true) (hx : Zr x) (kt : 0 ≤ x → B_R d M (E_tg pc off, L, st) h sl Φ) (kf : x < 0 → B_R d M (pc + 3, L, st) h sl Φ) : B_R d M (pc, L, .int (Zi x) :: st) h sl Φ := by
  have h0 : Zr 0 := ⟨by omega, by omega⟩
  refine B_ifc (fun _ => rfl) hf ht (fun q => kt ?_) (fun q => kf ?_)
  · exact (Zi_le h0 hx).mp (of_decide_eq_true q)
  · have q : ¬ (0 ≤ x) := fun z => of_decide_eq_false q ((Zi_le h0 hx).mpr z)
    omega
theorem Z_igt {off : Int} {x : Int} (hf : E_find M.2.2.2.2.2.2.2 pc = some (.ifCond .gt off, 3, a, b)) (ht : E_tok pc off = true) (hx : Zr x) (kt : 0 < x → B_R d M (E_tg pc off, L, st) h sl Φ) (kf : x ≤ 0 → B_R d M (pc + 3, L, st) h sl Φ) : B_R d M (pc, L, .int (Zi x) :: st) h sl Φ := by
  have h0 : Zr 0 := ⟨by omega, by omega⟩
  refine B_ifc (fun _ => rfl) hf ht (fun q => kt ?_) (fun q => kf ?_)
  · exact (Zi_lt h0 hx).mp (of_decide_eq_true q)
  · have q : ¬ (0 < x) := fun z => of_decide_eq_false q ((Zi_lt h0 hx).mpr z)
    omega
theorem Z_ile {off : Int} {x : Int} (hf : E_find M.2.2.2.2.2.2.2 pc = some (.ifCond .le off, 3, a, b)) (ht : E_tok pc off = true) (hx : Zr x) (kt : x ≤ 0 → B_R d M (E_tg pc off, L, st) h sl Φ) (kf : 0 < x → B_R d M (pc + 3, L, st) h sl Φ) : B_R d M (pc, L, .int (Zi x) :: st) h sl Φ := by
  have h0 : Zr 0 := ⟨by omega, by omega⟩
  refine B_ifc (fun _ => rfl) hf ht (fun q => kt ?_) (fun q => kf ?_)
  · exact (Zi_le hx h0).mp (of_decide_eq_true q)
  · have q : ¬ (x ≤ 0) := fun z => of_decide_eq_false q ((Zi_le hx h0).mpr z)
    omega
variable {h0 : E_H} {s : R_S}
theorem R_gi {i b : Nat} (hf : E_find M.2.2.2.2.2.2.2 pc = some (.getfield i, 3, 12, b)) (hs : R_is h0 h s) (hb : R_ft[b]? = some 0) (k : B_R d M (pc + 3, L, .int (Zi (s.1 b)) :: st) h sl Φ) : B_R d M (pc, L, .ref 83 :: st) h sl Φ := by
  have hl : b < 74 := (List.getElem?_eq_some_iff.mp hb).1
  refine B_get hf hs.o (v := .int (Zi (s.1 b))) ?_ hl k
  rw [List.getElem?_map, List.getElem?_range hl]
  show some (R_fv s b) = _
  unfold R_fv
  rw [hb]
  rfl
theorem R_gr {i b q : Nat} (hf : E_find M.2.2.2.2.2.2.2 pc = some (.getfield i, 3, 12, b)) (hs : R_is h0 h s) (hb : R_ft[b]? = some (q + 2)) (k : B_R d M (pc + 3, L, .ref (q + 2) :: st) h sl Φ) : B_R d M (pc, L, .ref 83 :: st) h sl Φ := by
  have hl : b < 74 := (List.getElem?_eq_some_iff.mp hb).1
  refine B_get hf hs.o (v := .ref (q + 2)) ?_ hl k
  rw [List.getElem?_map, List.getElem?_range hl]
  show some (R_fv s b) = _
  unfold R_fv
  rw [hb]
  rfl
theorem R_gl {i b : Nat} (hf : E_find M.2.2.2.2.2.2.2 pc = some (.getfield i, 3, 12, b)) (hs : R_is h0 h s) (hb : R_ft[b]? = some 1) (k : B_R d M (pc + 3, L, .long (s.2.2.1 b) :: st) h sl Φ) : B_R d M (pc, L, .ref 83 :: st) h sl Φ := by
  have hl : b < 74 := (List.getElem?_eq_some_iff.mp hb).1
  refine B_get hf hs.o (v := .long (s.2.2.1 b)) ?_ hl k
  rw [List.getElem?_map, List.getElem?_range hl]
  show some (R_fv s b) = _
  unfold R_fv
  rw [hb]
  rfl
theorem R_pf {i b : Nat} {z : Int} (hf : E_find M.2.2.2.2.2.2.2 pc = some (.putfield i, 3, 12, b)) (hs : R_is h0 h s) (hb : R_ft[b]? = some 0) (hz : Zr z) (hN : E_fin 12 b = false ∧ narrow (E_cty 12 b) (.int (Zi z)) = .int (Zi z) ∧ fits (E_cty 12 b) (.int (Zi z)) = true) (k : ∀ h : E_H, R_is h0 h (R_sF s b z) → B_R d M (pc + 3, L, st) h sl Φ) : B_R d M (pc, L, .int (Zi z) :: .ref 83 :: st) h sl Φ := by
  have hl : b < 74 := (List.getElem?_eq_some_iff.mp hb).1
  obtain ⟨m, n, r, e, q⟩ := k _ (hs.putF hb hz)
  exact ⟨m, n + 1, r, S_putf hf hs.o ⟨hl, by rw [List.length_map, List.length_range]; exact hl, hN.1, hN.2.1, hN.2.2⟩ e, q⟩
theorem R_ia {q n p : Nat} {z : Int} (hf : E_find M.2.2.2.2.2.2.2 pc = some (.iaload, 1, a, b)) (hs : R_is h0 h s) (hp : q + 84 = p) (hq : R_at[q]? = some (0, n)) (h1 : 0 ≤ z) (h2 : z < n) (hn : n < 2147483648) (k : B_R d M (pc + 1, L, .int (Zi (s.2.1 p z)) :: st) h sl Φ) : B_R d M (pc, L, .int (Zi z) :: .ref p :: st) h sl Φ := by
  subst hp
  obtain ⟨i, rfl⟩ := Int.eq_ofNat_of_zero_le h1
  have hq48 : q < 48 := (List.getElem?_eq_some_iff.mp hq).1
  have ho := hs.aI hq
  exact B_ald (i := i) hf ho (.inl ⟨rfl, rfl⟩) (Zi_nI i).symm (by omega) hn k
theorem R_ba {q n p : Nat} {z : Int} (hf : E_find M.2.2.2.2.2.2.2 pc = some (.baload, 1, a, b)) (hs : R_is h0 h s) (hp : q + 84 = p) (hq : R_at[q]? = some (2, n)) (h1 : 0 ≤ z) (h2 : z < n) (hn : n < 2147483648) (k : B_R d M (pc + 1, L, .int (Zi (s.2.1 p z)) :: st) h sl Φ) : B_R d M (pc, L, .int (Zi z) :: .ref p :: st) h sl Φ := by
  subst hp
  obtain ⟨i, rfl⟩ := Int.eq_ofNat_of_zero_le h1
  have hq48 : q < 48 := (List.getElem?_eq_some_iff.mp hq).1
  have ho := hs.aB hq
  exact B_ald (i := i) hf ho (.inr ⟨rfl, .inr rfl⟩) (Zi_nI i).symm (by omega) hn k
theorem R_is_ {q n p : Nat} {z v : Int} (hf : E_find M.2.2.2.2.2.2.2 pc = some (.iastore, 1, a, b)) (hs : R_is h0 h s) (hp : q + 84 = p) (hq : R_at[q]? = some (0, n)) (h1 : 0 ≤ z) (h2 : z < n) (hn : n < 2147483648) (hv : Zr v) (k : ∀ h : E_H, R_is h0 h (R_sA s p z v) → B_R d M (pc + 1, L, st) h sl Φ) : B_R d M (pc, L, .int (Zi v) :: .int (Zi z) :: .ref p :: st) h sl Φ := by
  subst hp
  obtain ⟨i, rfl⟩ := Int.eq_ofNat_of_zero_le h1
  have hq48 : q < 48 := (List.getElem?_eq_some_iff.mp hq).1
  have ho := hs.aI hq
  have hin : E_inb (Zi (i : Int)) n = true := Zi_inb h1 h2 hn
  have hcl : (Zi (i : Int)).toNatClampNeg = i := Zi_clamp h1 (by omega)
  obtain ⟨m1, n1, r, e, q1⟩ := k _ (hs.putA hq (by decide) (j := i) hv)
  refine ⟨m1, n1 + 1, r, S_go (f2 := (pc + 1, L, st)) (s2 := sl) ?_ e, q1⟩
  unfold E_step
  rw [hf]
  try dsimp only
  unfold E_heap E_ast
  try dsimp only
  rw [ho]
  try dsimp only
  rw [if_pos ⟨rfl, rfl, hin⟩, hcl]
  rfl
theorem R_bs {q n p : Nat} {z v : Int} (hf : E_find M.2.2.2.2.2.2.2 pc = some (.bastore, 1, a, b)) (hs : R_is h0 h s) (hp : q + 84 = p) (hq : R_at[q]? = some (2, n)) (h1 : 0 ≤ z) (h2 : z < n) (hn : n < 2147483648) (hv : v = 0 ∨ v = 1) (k : ∀ h : E_H, R_is h0 h (R_sA s p z v) → B_R d M (pc + 1, L, st) h sl Φ) : B_R d M (pc, L, .int (Zi v) :: .int (Zi z) :: .ref p :: st) h sl Φ := by
  subst hp
  obtain ⟨i, rfl⟩ := Int.eq_ofNat_of_zero_le h1
  have hq48 : q < 48 := (List.getElem?_eq_some_iff.mp hq).1
  have ho := hs.aB hq
  have hin : E_inb (Zi (i : Int)) n = true := Zi_inb h1 h2 hn
  have hcl : (Zi (i : Int)).toNatClampNeg = i := Zi_clamp h1 (by omega)
  have hnar : vp_nar .boolean (Zi v) = Zi v := by rcases hv with rfl | rfl <;> decide
  obtain ⟨m1, n1, r, e, q1⟩ := k _ (hs.putA hq (by decide) (j := i) (z := v) (by rcases hv with rfl | rfl <;> exact ⟨by omega, by omega⟩))
  refine ⟨m1, n1 + 1, r, S_go (f2 := (pc + 1, L, st)) (s2 := sl) ?_ e, q1⟩
  unfold E_step
  rw [hf]
  try dsimp only
  unfold E_heap E_bst
  try dsimp only
  rw [ho]
  try dsimp only
  rw [if_pos ⟨rfl, hin⟩, if_neg (by decide), if_pos rfl, hcl, hnar]
  rfl
/-- what a method of the reference does to its state -/
def R_ok (d a : Nat) (as : List Value) (s : R_S) (post : Option Value → R_S → Prop) : Prop := ∀ (h0 h : E_H), R_is h0 h s → B_C d a (.ref 83 :: as) h (fun r => ∃ s2 : R_S, R_is h0 r.2.1 s2 ∧ post r.1 s2 ∧ r.2.2 = 0)
theorem R_call {i : Nat} {M2 : E_MI} {As rest : List Value} {post : Option Value → R_S → Prop} (hf : E_find M.2.2.2.2.2.2.2 pc = some (.invokevirtual i, 3, a, b)) (ha : a < 900) (hM : E_mi a = some M2) (hM1 : M2.1 = 12) (hp : E_pop2 (!M2.2.2.2.2.2.1) M2.2.2.2.2.2.2.1 st = some (.ref 83 :: As, rest)) (hk1 : M2.2.2.2.2.2.1 = false) (hk2 : E_isI M2 = false) (hc : E_catS rest ≤ 8) (hs : R_is h0 h s) (hO : R_ok d a As s post) (k : ∀ (x : Option Value) (h : E_H) (s2 : R_S), R_is h0 h s2 → post x s2 → B_R d M (pc + 3, L, x.toList ++ rest) h sl Φ) : B_R d M (pc, L, st) h sl Φ := by
  have ho := hs.o
  rw [← hM1] at ho
  refine B_callV hf ha hM hp hk1 hk2 ho (by rw [hM1]; decide) hc (hO h0 h hs) (fun x h2 s2 q => ?_)
  obtain ⟨s3, q1, q2, q3⟩ := q
  have q3 : s2 = 0 := q3
  subst q3
  exact k x h2 s3 q1 q2
theorem R_enter {as : List Value} {post : Option Value → R_S → Prop} (hM : E_mi a = some M) (hl : (lg_sl (.ref 83 :: as)).length ≤ M.2.2.2.1) (k : ∀ (h0 h : E_H), R_is h0 h s → B_R d M (0, lv_args 0 (.ref 83 :: as), []) h 0 (fun r => ∃ s2 : R_S, R_is h0 r.2.1 s2 ∧ post r.1 s2 ∧ r.2.2 = 0)) : R_ok (d + 1) a as s post := fun h0 h hs => B_enter hM hl (k h0 h hs)
/-- a call of a static method -/
theorem Z_callS {i : Nat} {M2 : E_MI} {vs rest : List Value} {Ψ : E_R → Prop} (hf : E_find M.2.2.2.2.2.2.2 pc = some (.invokestatic i, 3, a, b)) (ha : a < 288) (hM : E_mi a = some M2) (hp : E_pop2 (!M2.2.2.2.2.2.1) M2.2.2.2.2.2.2.1 st = some (vs, rest)) (hk : M2.2.2.2.2.2.1 = true) (hc : E_catS rest ≤ 8) (hO : B_C d a vs h Ψ) (k : ∀ (x : Option Value) (h2 : E_H) (s2 : Nat), Ψ (x, h2, s2) → B_R d M (pc + 3, L, x.toList ++ rest) h2 (sl + s2) Φ) : B_R d M (pc, L, st) h sl Φ := by
  obtain ⟨m1, ⟨x, h2, s2⟩, e1, q1⟩ := hO
  obtain ⟨m2, n, r, e, q⟩ := k x h2 s2 q1
  refine ⟨m1 + m2, n + 1, r, ?_, q⟩
  have e1' := B_call_le m1 m2 d _ _ _ _ e1
  have e' := B_run_le (B_call_le m2 m1 d) n 0 _ _ _ _ e
  rw [show m2 + m1 = m1 + m2 by omega] at e'
  refine S_go ?_ e'
  unfold E_step
  rw [hf]
  dsimp only
  rw [if_pos ⟨rfl, by omega⟩, if_neg (by omega), if_neg (by omega)]
  unfold E_inv
  rw [hM]
  dsimp only
  rw [hp]
  dsimp only
  rw [if_pos (show E_kok 0 M2 vs h = true from hk), if_pos hc, e1']
/-- a static method that sees no heap -/
def Q_ok (d a : Nat) (as : List Value) (post : Option Value → Prop) : Prop := ∀ h : E_H, B_C d a as h (fun r => r.2.1 = h ∧ r.2.2 = 0 ∧ post r.1)
theorem Z_callQ {i : Nat} {M2 : E_MI} {vs rest : List Value} {post : Option Value → Prop} (hf : E_find M.2.2.2.2.2.2.2 pc = some (.invokestatic i, 3, a, b)) (ha : a < 288) (hM : E_mi a = some M2) (hp : E_pop2 (!M2.2.2.2.2.2.1) M2.2.2.2.2.2.2.1 st = some (vs, rest)) (hk : M2.2.2.2.2.2.1 = true) (hc : E_catS rest ≤ 8) (hO : Q_ok d a vs post) (k : ∀ (x : Option Value), post x → B_R d M (pc + 3, L, x.toList ++ rest) h sl Φ) : B_R d M (pc, L, st) h sl Φ := by
  refine Z_callS hf ha hM hp hk hc (hO h) (fun x h2 s2 q => ?_)
  obtain ⟨q1, q2, q3⟩ := q
  have q1 : h2 = h := q1
  have q2 : s2 = 0 := q2
  subst q1
  subst q2
  exact k x q3
theorem Q_enter {as : List Value} {post : Option Value → Prop} (hM : E_mi a = some M) (hl : (lg_sl as).length ≤ M.2.2.2.1) (k : ∀ (h : E_H), B_R d M (0, lv_args 0 as, []) h 0 (fun r => r.2.1 = h ∧ r.2.2 = 0 ∧ post r.1)) : Q_ok (d + 1) a as post := fun h => B_enter hM hl (k h)
theorem Z_iret {v : Int32} {ty : FieldType} (hf : E_find M.2.2.2.2.2.2.2 pc = some (.ireturn, 1, a, b)) (hty : M.2.2.2.2.1 = some ty) (hn : narrow ty (.int v) = .int v) (q : Φ (some (.int v), h, sl)) : B_R d M (pc, L, [.int v]) h sl Φ := by
  refine B_end (x := (some (.int v), h, sl)) (fun o => ?_) q
  unfold E_step
  rw [hf]
  dsimp only
  rw [hty]
  dsimp only
  rw [if_pos ⟨rfl, hn⟩]
theorem Z_lret {v : Int64} (hf : E_find M.2.2.2.2.2.2.2 pc = some (.lreturn, 1, a, b)) (hty : M.2.2.2.2.1 = some .long) (q : Φ (some (.long v), h, sl)) : B_R d M (pc, L, [.long v]) h sl Φ := by
  refine B_end (x := (some (.long v), h, sl)) (fun o => ?_) q
  unfold E_step
  rw [hf]
  dsimp only
  rw [hty]
  dsimp only
  rw [if_pos rfl]
theorem Z_ret (hf : E_find M.2.2.2.2.2.2.2 pc = some (.return_, 1, a, b)) (hty : M.2.2.2.2.1 = none) (q : Φ (none, h, sl)) : B_R d M (pc, L, []) h sl Φ := by
  refine B_end (x := (none, h, sl)) (fun o => ?_) q
  unfold E_step
  rw [hf]
  dsimp only
  rw [hty]
  dsimp only
  rw [if_pos rfl]
end ZR
