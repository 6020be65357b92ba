/-! the class: Planner: what its rows, families, texts do, over the store -/
def X_at (xs : List (List Int)) (i : Int) : List Int := xs.getD i.toNat []
theorem X_at_li {m : Nat} {ψ : Int → List Int} {xs : List (List Int)} (h : F_li m ψ = xs) : xs.length = m ∧ ∀ i : Int, 0 ≤ i → i < m → X_at xs i = ψ i := by
  subst h
  refine ⟨F_li_len m ψ, fun i i0 i1 => ?_⟩
  unfold X_at F_li
  rw [List.getD_eq_getElem?_getD, List.getElem?_map, List.getElem?_range (show i.toNat < m by omega)]
  show ψ ((i.toNat : Nat) : Int) = ψ i
  rw [show ((i.toNat : Nat) : Int) = i by omega]
theorem X_at_mem {xs : List (List Int)} {i : Int} (i0 : 0 ≤ i) (i1 : i < xs.length) : X_at xs i ∈ xs := by
  unfold X_at
  rw [List.getD_eq_getElem?_getD, List.getElem?_eq_getElem (show i.toNat < xs.length by omega)]
  exact List.getElem_mem _
theorem X_mem_at {xs : List (List Int)} {x : List Int} (h : x ∈ xs) : ∃ i : Int, 0 ≤ i ∧ i < xs.length ∧ X_at xs i = x := by
  obtain ⟨k, hk, e⟩ := List.mem_iff_getElem.mp h
  refine ⟨k, by omega, by omega, ?_⟩
  unfold X_at
  rw [List.getD_eq_getElem?_getD, show ((k : Nat) : Int).toNat = k by omega, List.getElem?_eq_getElem hk]
  exact e
theorem C_rd.weak {d a : Nat} {vs : List Value} {s : C_S} {p q : Option Value → Prop} (k : C_rd d a vs s p) (i : ∀ x, p x → q x) : C_rd d a vs s q := fun h0 h hs => (k h0 h hs).weak (fun r ⟨a, b, c⟩ => ⟨a, b, i _ c⟩)
section PO
variable {s : C_S} {pp : List Nat} {pl tr B : Nat} {G : G_t} {P : G_p} {ω : Nat → Nat}
theorem D_Pl.rK (h : D_Pl s pp pl tr B G P ω) {r : Nat} (hr : Pl_hr P r) : C_K s (P.1 r) = (15, 0) := (h.row hr).choose_spec.1.1
theorem D_Pl.rF (h : D_Pl s pp pl tr B G P ω) {r : Nat} (hr : Pl_hr P r) : C_F s (P.1 r) 1 = (G.1 r).length := (h.row hr).choose_spec.1.2.2.2.2.2.1
theorem D_Pl.fK (h : D_Pl s pp pl tr B G P ω) {f : Nat} (hf : Pl_hf P f) : C_K s (P.2.1 f) = (9, 0) := by
  obtain ⟨qa, ma, m, ψ, h1, _⟩ := h.fam hf
  exact h1.1.1
theorem D_Pl.fF (h : D_Pl s pp pl tr B G P ω) {f : Nat} (hf : Pl_hf P f) : C_F s (P.2.1 f) 2 = (G.2.1 f).length := by
  obtain ⟨qa, ma, m, ψ, h1, h2, _⟩ := h.fam hf
  rw [← h2, F_li_len]
  exact h1.1.2.2.2.2.2.2.2.2.1
theorem D_Pl.fL (h : D_Pl s pp pl tr B G P ω) {f : Nat} (hf : Pl_hf P f) : (G.2.1 f).length ≤ Pl_R f ∧ ∀ c ∈ G.2.1 f, L_srt c := by
  obtain ⟨qa, ma, m, ψ, h1, h2, _⟩ := h.fam hf
  refine ⟨by rw [← h2, F_li_len]; exact h1.1.2.2.2.2.2.2.2.2.2.1, fun c hc => ?_⟩
  rw [← h2] at hc
  obtain ⟨j, j0, j1, rfl⟩ := F_li_mem.mp hc
  exact (h1.2.2.2 j j0 j1).2
theorem D_Pl.tK (h : D_Pl s pp pl tr B G P ω) {t : Nat} (ht : Pl_ht P t) : C_K s (P.2.2.1 t) = (17, 0) := by
  obtain ⟨ra, la, m, σ, h1, _⟩ := h.txt ht
  exact h1.1.1.1
theorem D_Pl.tF (h : D_Pl s pp pl tr B G P ω) {t : Nat} (ht : Pl_ht P t) : C_F s (P.2.2.1 t) 2 = (G.2.2.1 t).length := by
  obtain ⟨ra, la, m, σ, h1, h2⟩ := h.txt ht
  rw [← h2, F_li_len]
  exact h1.1.1.2.2.2.2.2.2.2.2.1
theorem D_Pl.tL (h : D_Pl s pp pl tr B G P ω) {t : Nat} (ht : Pl_ht P t) : (G.2.2.1 t).length ≤ 8 ∧ ∀ c ∈ G.2.2.1 t, c.length ≤ 60 ∧ ∀ x ∈ c, 0 ≤ x ∧ x < 256 := by
  obtain ⟨ra, la, m, σ, h1, h2⟩ := h.txt ht
  refine ⟨by rw [← h2, F_li_len]; exact h1.1.1.2.2.2.2.2.2.2.2.2, fun c hc => ?_⟩
  rw [← h2] at hc
  obtain ⟨j, j0, j1, rfl⟩ := F_li_mem.mp hc
  obtain ⟨_, g2, g3, _⟩ := h1.2 j ⟨j0, j1⟩
  exact ⟨g2, g3⟩
/-- reads -/
theorem o_at (d : Nat) (h : D_Pl s pp pl tr B G P ω) {r : Nat} (hr : Pl_hr P r) {i : Int} (zi : Zr i) : C_rd (d + 1) 88 [.ref (P.1 r), .int (Zi i)] s (fun x => x = some (.int (Zi (L_at (G.1 r) i)))) := by
  obtain ⟨a, h1, _⟩ := h.row hr
  exact C_at_ d h1 zi
theorem o_holds (d : Nat) (h : D_Pl s pp pl tr B G P ω) {r : Nat} (hr : Pl_hr P r) {v : Int} (so : L_srt (G.1 r)) (zv : Zr v) : C_rd (d + 2) 92 [.ref (P.1 r), .int (Zi v)] s (fun x => ∃ z : Int, x = some (.int (Zi z)) ∧ (z = 1 ∧ v ∈ G.1 r ∨ z = 0 ∧ v ∉ G.1 r)) := by
  obtain ⟨a, h1, _⟩ := h.row hr
  exact C_holds d h1 so zv
theorem o_len (d : Nat) (h : D_Pl s pp pl tr B G P ω) {t : Nat} (ht : Pl_ht P t) {i : Int} (i0 : 0 ≤ i) (i1 : i < (G.2.2.1 t).length) : C_rd (d + 1) 110 [.ref (P.2.2.1 t), .int (Zi i)] s (fun x => x = some (.int (Zi ((X_at (G.2.2.1 t) i).length)))) := by
  have hl := (h.tL ht).1
  obtain ⟨ra, la, m, σ, h1, h2⟩ := h.txt ht
  obtain ⟨e1, e2⟩ := X_at_li h2
  refine (C_lenOf d h1 (i := i) ⟨by omega, by omega⟩).weak (fun x q => ?_)
  rw [q, if_pos (by omega), e2 i i0 (by omega)]
theorem o_sgn (d : Nat) (h : D_Pl s pp pl tr B G P ω) {t : Nat} (ht : Pl_ht P t) {i k : Int} (i0 : 0 ≤ i) (i1 : i < (G.2.2.1 t).length) (zk : Zr k) : C_rd (d + 2) 111 [.ref (P.2.2.1 t), .int (Zi i), .int (Zi k)] s (fun x => x = some (.int (Zi (L_at (X_at (G.2.2.1 t) i) k)))) := by
  have hl := (h.tL ht).1
  obtain ⟨ra, la, m, σ, h1, h2⟩ := h.txt ht
  obtain ⟨e1, e2⟩ := X_at_li h2
  refine (C_signAt d h1 (i := i) ⟨by omega, by omega⟩ zk).weak (fun x q => ?_)
  rw [q, if_pos (by omega), e2 i i0 (by omega)]
theorem o_isAll (d : Nat) (h : D_Pl s pp pl tr B G P ω) {f : Nat} (hf : Pl_hf P f) : C_rd (d + 2) 9 [.ref (P.2.1 f)] s (fun x => ∃ z : Int, x = some (.int (Zi z)) ∧ (z = 1 ∧ G.2.1 f = [[]] ∨ z = 0 ∧ ¬ G.2.1 f = [[]])) := by
  obtain ⟨qa, ma, m, ψ, h1, h2, _⟩ := h.fam hf
  refine (C_isAll d h1).weak (fun x ⟨z, q1, q2⟩ => ⟨z, q1, ?_⟩)
  have key : G.2.1 f = [[]] ↔ m = 1 ∧ ψ 0 = [] := by
    obtain ⟨e1, e2⟩ := X_at_li h2
    constructor
    · intro e
      rw [e] at e1 e2
      have e1 : 1 = m := e1
      exact ⟨e1.symm, (e2 0 (by omega) (by omega)).symm⟩
    · rintro ⟨rfl, e3⟩
      rw [← h2]
      show [ψ 0] = [[]]
      rw [e3]
  rcases q2 with ⟨a, b⟩ | ⟨a, b⟩
  · exact .inl ⟨a, key.mpr b⟩
  · exact .inr ⟨a, fun e => b (key.mp e)⟩
theorem o_frow (d : Nat) (h : D_Pl s pp pl tr B G P ω) {f : Nat} (hf : Pl_hf P f) {i : Int} (i0 : 0 ≤ i) (i1 : i < (G.2.1 f).length) : C_rd (d + 1) 5 [.ref (P.2.1 f), .int (Zi i)] s (fun x => ∃ r a cap, x = some (.ref r) ∧ D_Row s (pp ++ [1, f] ++ [r]) r a cap (X_at (G.2.1 f) i)) := by
  obtain ⟨qa, ma, m, ψ, h1, h2, _⟩ := h.fam hf
  obtain ⟨e1, e2⟩ := X_at_li h2
  refine (C_row_rd d h1 (i := i) i0 (by omega)).weak (fun x ⟨r, a, cap, q1, q2, q3, q4⟩ => ⟨r, a, cap, q1, ?_⟩)
  rw [e2 i i0 (by omega)]
  exact q3
/-- rows -/
theorem o_clear (d : Nat) (h : D_Pl s pp pl tr B G P ω) {r : Nat} (hr : Pl_hr P r) (w : C_wf s) : C_ok (d + 1) 89 [.ref (P.1 r)] s (fun x s2 n => x = none ∧ D_ch pp pl tr B s P ω (g_sr G r []) s2 n) := by
  obtain ⟨a, h1, h2⟩ := h.row hr
  refine (C_clear d h1).weak (fun x s2 n q => ?_)
  obtain ⟨rfl, rfl, q1, q2, q3⟩ := q
  exact ⟨rfl, h.upR w hr (need := 0) ⟨a, ω r, q1, q2, by omega, by omega, .inl (Int.le_refl _)⟩ (by omega)⟩
theorem o_push (d : Nat) (h : D_Pl s pp pl tr B G P ω) {r : Nat} (hr : Pl_hr P r) (w : C_wf s) {v : Int} (zv : Zr v) (m1 : 2 * ((G.1 r).length + 1) ≤ B) (hB : B ≤ 20000) : C_ok (d + 3) 90 [.ref (P.1 r), .int (Zi v)] s (fun x s2 n => x = none ∧ D_ch pp pl tr B s P ω (g_sr G r (G.1 r ++ [v])) s2 n) := by
  obtain ⟨a, h1, h2⟩ := h.row hr
  refine (C_push d h1 zv (by omega)).weak (fun x s2 n q => ?_)
  exact ⟨q.1, h.upR w hr q.2 (by omega)⟩
theorem o_insert (d : Nat) (h : D_Pl s pp pl tr B G P ω) {r : Nat} (hr : Pl_hr P r) (w : C_wf s) {v : Int} (so : L_srt (G.1 r)) (zv : Zr v) (m1 : 2 * ((G.1 r).length + 1) ≤ B) (hB : B ≤ 20000) : C_ok (d + 3) 91 [.ref (P.1 r), .int (Zi v)] s (fun x s2 n => x = none ∧ D_ch pp pl tr B s P ω (g_sr G r (L_ins v (G.1 r))) s2 n) := by
  obtain ⟨a, h1, h2⟩ := h.row hr
  refine (C_insert d h1 so zv (by omega)).weak (fun x s2 n q => ?_)
  exact ⟨q.1, h.upR w hr q.2 (by omega)⟩
theorem o_copy (d : Nat) (h : D_Pl s pp pl tr B G P ω) {r r2 : Nat} (hr : Pl_hr P r) (hr2 : Pl_hr P r2) (ne : r ≠ r2) (w : C_wf s) (m1 : 2 * (G.1 r2).length ≤ B) (hB : B ≤ 20000) : C_ok (d + 3) 93 [.ref (P.1 r), .ref (P.1 r2)] s (fun x s2 n => x = none ∧ D_ch pp pl tr B s P ω (g_sr G r (G.1 r2)) s2 n) := by
  obtain ⟨a, h1, h2⟩ := h.row hr
  obtain ⟨a2, h3, h4⟩ := h.row hr2
  refine (C_copyRow d h1 h3 (fun e => ne (L_tw2 (L_pre_self _) (L_pre_eq e)).2) (by omega)).weak (fun x s2 n q => ?_)
  exact ⟨q.1, h.upR w hr q.2 (by omega)⟩
theorem o_fill (d : Nat) (h : D_Pl s pp pl tr B G P ω) {r : Nat} (hr : Pl_hr P r) (w : C_wf s) {q : List Nat} {o2 b cap3 : Nat} {ys : List Int} {q3 : List Nat} {o3 b3 cap4 : Nat} {ws : List Int} (hq : D_Row s q o2 b cap3 ys) (hp : D_Row s q3 o3 b3 cap4 ws) (sy : L_srt ys) (sw : L_srt ws) (ne : pp ++ [0, r] ≠ q) (ne3 : pp ++ [0, r] ≠ q3) (m1 : 2 * (ys.length + ws.length) ≤ B) (hB : B ≤ 20000) : C_ok (d + 4) 94 [.ref (P.1 r), .ref o2, .ref o3] s (fun x s2 n => x = none ∧ D_ch pp pl tr B s P ω (g_sr G r (L_un ys ws)) s2 n) := by
  obtain ⟨a, h1, h2⟩ := h.row hr
  refine (C_fill d h1 hq hp sy sw ne ne3 (by omega)).weak (fun x s2 n q => ?_)
  exact ⟨q.1, h.upR w hr q.2 (by omega)⟩
theorem o_fillR (d : Nat) (h : D_Pl s pp pl tr B G P ω) {r r2 r3 : Nat} (hr : Pl_hr P r) (hr2 : Pl_hr P r2) (hr3 : Pl_hr P r3) (n2 : r ≠ r2) (n3 : r ≠ r3) (w : C_wf s) (sy : L_srt (G.1 r2)) (sw : L_srt (G.1 r3)) (m1 : 2 * ((G.1 r2).length + (G.1 r3).length) ≤ B) (hB : B ≤ 20000) : C_ok (d + 4) 94 [.ref (P.1 r), .ref (P.1 r2), .ref (P.1 r3)] s (fun x s2 n => x = none ∧ D_ch pp pl tr B s P ω (g_sr G r (L_un (G.1 r2) (G.1 r3))) s2 n) := by
  obtain ⟨a2, h3, h4⟩ := h.row hr2
  obtain ⟨a3, h5, h6⟩ := h.row hr3
  exact o_fill d h hr w h3 h5 sy sw (fun e => n2 (L_tw2 (L_pre_self _) (L_pre_eq e)).2) (fun e => n3 (L_tw2 (L_pre_self _) (L_pre_eq e)).2) m1 hB
/-- families -/
theorem o_fclear (d : Nat) (h : D_Pl s pp pl tr B G P ω) {f : Nat} (hf : Pl_hf P f) (w : C_wf s) : C_ok (d + 1) 4 [.ref (P.2.1 f)] s (fun x s2 n => x = none ∧ D_ch pp pl tr B s P ω (g_sf G f []) s2 n) := by
  obtain ⟨qa, ma, m, ψ, h1, h2, h3⟩ := h.fam hf
  refine (C_fclear d h1).weak (fun x s2 n q => ?_)
  obtain ⟨rfl, rfl, q1, q2, q3, q4⟩ := q
  exact ⟨rfl, h.upF w hf q1 q2 h3 (by omega) (by omega) rfl⟩
theorem o_offer (d : Nat) (h : D_Pl s pp pl tr B G P ω) {f : Nat} (hf : Pl_hf P f) (w : C_wf s) {q : List Nat} {o a cap : Nat} {xs : List Int} (hr : D_Row s q o a cap xs) (sx : L_srt xs) (ne : ¬ pp ++ [1, f] <+: q) (hm : (G.2.1 f).length < Pl_R f) (hB0 : 8 ≤ B) (hB : B ≤ 20000) (m1 : 2 * xs.length ≤ B) : C_ok (d + 4) 6 [.ref (P.2.1 f), .ref o] s (fun x s2 n => x = none ∧ D_ch pp pl tr B s P ω (g_sf G f (F_off (G.2.1 f) xs)) s2 n) := by
  obtain ⟨qa, ma, m, ψ, h1, h2, h3⟩ := h.fam hf
  rw [← h2, F_li_len] at hm
  refine (C_offer d h1 hr sx ne hm hB0 m1 (by omega)).weak (fun x s2 n q => ?_)
  rw [h2] at q
  exact ⟨q.1, h.upO w hf h3 q.2⟩
theorem o_offerR (d : Nat) (h : D_Pl s pp pl tr B G P ω) {f r : Nat} (hf : Pl_hf P f) (hr : Pl_hr P r) (w : C_wf s) (sx : L_srt (G.1 r)) (hm : (G.2.1 f).length < Pl_R f) (hB0 : 8 ≤ B) (hB : B ≤ 20000) (m1 : 2 * (G.1 r).length ≤ B) : C_ok (d + 4) 6 [.ref (P.2.1 f), .ref (P.1 r)] s (fun x s2 n => x = none ∧ D_ch pp pl tr B s P ω (g_sf G f (F_off (G.2.1 f) (G.1 r))) s2 n) := by
  obtain ⟨a, h1, h2⟩ := h.row hr
  exact o_offer d h hf w h1 sx (fun e => by have := L_tw2 e (L_pre_self _); omega) hm hB0 hB m1
theorem L_inc2 {pp : List Nat} {f f2 : Nat} (ne : f ≠ f2) : L_inc (pp ++ [1, f]) (pp ++ [1, f2]) := ⟨fun e => ne (L_tw2 e (L_pre_self _)).2, fun e => ne (L_tw2 e (L_pre_self _)).2.symm⟩
theorem o_offerAll (d : Nat) (h : D_Pl s pp pl tr B G P ω) {f f2 : Nat} (hf : Pl_hf P f) (hf2 : Pl_hf P f2) (ne : f ≠ f2) (w : C_wf s) (hm : (G.2.1 f).length + (G.2.1 f2).length ≤ Pl_R f) (hB0 : 8 ≤ B) (hB : B ≤ 20000) (m1 : ∀ c ∈ G.2.1 f2, 2 * c.length ≤ B) : C_ok (d + 5) 7 [.ref (P.2.1 f), .ref (P.2.1 f2)] s (fun x s2 n => x = none ∧ D_ch pp pl tr B s P ω (g_sf G f (F_offs (G.2.1 f) (G.2.1 f2))) s2 n) := by
  obtain ⟨qa, ma, m, ψ, h1, h2, h3⟩ := h.fam hf
  obtain ⟨qa2, ma2, m2, ψ2, g1, g2, g3⟩ := h.fam hf2
  rw [← h2, ← g2, F_li_len, F_li_len] at hm
  refine (C_offAll d h1 g1 (L_inc2 ne) hm hB0 (fun i i0 i1 => ?_)).weak (fun x s2 n q => ?_)
  · have := m1 (ψ2 i) (by rw [← g2]; exact F_li_mem.mpr ⟨i, i0, i1, rfl⟩)
    exact ⟨this, by omega⟩
  · rw [h2, g2] at q
    exact ⟨q.1, h.upO w hf h3 q.2⟩
theorem o_fcopy (d : Nat) (h : D_Pl s pp pl tr B G P ω) {f f2 : Nat} (hf : Pl_hf P f) (hf2 : Pl_hf P f2) (ne : f ≠ f2) (w : C_wf s) (hm : (G.2.1 f2).length ≤ Pl_R f) (hB0 : 8 ≤ B) (hB : B ≤ 20000) (m1 : ∀ c ∈ G.2.1 f2, 2 * c.length ≤ B) : C_ok (d + 4) 8 [.ref (P.2.1 f), .ref (P.2.1 f2)] s (fun x s2 n => x = none ∧ D_ch pp pl tr B s P ω (g_sf G f (G.2.1 f2)) s2 n) := by
  obtain ⟨qa, ma, m, ψ, h1, h2, h3⟩ := h.fam hf
  obtain ⟨qa2, ma2, m2, ψ2, g1, g2, g3⟩ := h.fam hf2
  rw [← g2, F_li_len] at hm
  refine (C_fcopy d h1 g1 (L_inc2 ne) hm hB0 (fun i i0 i1 => ?_)).weak (fun x s2 n q => ?_)
  · have := m1 (ψ2 i) (by rw [← g2]; exact F_li_mem.mpr ⟨i, i0, i1, rfl⟩)
    exact ⟨this, by omega⟩
  · rw [g2] at q
    exact ⟨q.1, h.upO w hf h3 q.2⟩
/-- what stands in all of them -/
def F_cl (xs : List (List Int)) (ys : List Int) : Prop := L_srt ys ∧ (∀ x, x ∈ ys ↔ xs ≠ [] ∧ ∀ c ∈ xs, x ∈ c) ∧ ∀ c ∈ xs, ys.length ≤ c.length
theorem L_srt_filter {f : Int → Bool} : ∀ {l : List Int}, L_srt l → L_srt (l.filter f)
  | [], _ => trivial
  | x :: l, h => by
    rw [List.filter_cons]
    split
    · exact ⟨fun y hy => h.1 y ((List.mem_filter.mp hy).1), L_srt_filter h.2⟩
    · exact L_srt_filter h.2
theorem L_srt_len {a b : List Int} (ha : L_srt a) (h : ∀ x ∈ a, x ∈ b) : a.length ≤ b.length := by
  induction a generalizing b with
  | nil => exact Nat.zero_le _
  | cons x a ih =>
    obtain ⟨b1, b2, rfl⟩ := List.append_of_mem (h x (List.mem_cons_self ..))
    have := ih (b := b1 ++ b2) ha.2 (fun y hy => by
      have hne : y ≠ x := fun e => by have := ha.1 y hy; omega
      rcases List.mem_append.mp (h y (List.mem_cons_of_mem _ hy)) with g | g
      · exact List.mem_append_left _ g
      · rcases List.mem_cons.mp g with g | g
        · exact absurd g hne
        · exact List.mem_append_right _ g)
    rw [List.length_append] at this
    rw [List.length_append, List.length_cons, List.length_cons]
    omega
theorem F_cl_coreL {m : Nat} {ψ : Int → List Int} (hs : ∀ i : Int, 0 ≤ i → i < m → L_srt (ψ i)) : F_cl (F_li m ψ) (F_coreL m ψ) := by
  have hmem : ∀ x, x ∈ F_coreL m ψ ↔ F_li m ψ ≠ [] ∧ ∀ c ∈ F_li m ψ, x ∈ c := by
    intro x
    unfold F_coreL
    by_cases c : m = 0
    · rw [if_pos c]
      subst c
      constructor
      · intro h; cases h
      · intro h; exact absurd rfl h.1
    · rw [if_neg c, List.mem_filter]
      have hne : F_li m ψ ≠ [] := fun e => by have := F_li_len m ψ; rw [e] at this; exact c this.symm
      constructor
      · rintro ⟨_, h⟩
        have h := F_ai_t.mp h
        refine ⟨hne, fun c hc => ?_⟩
        obtain ⟨j, j0, j1, rfl⟩ := F_li_mem.mp hc
        exact h j j0 j1
      · rintro ⟨_, h⟩
        exact ⟨h _ (F_li_mem.mpr ⟨0, by omega, by omega, rfl⟩), F_ai_t.mpr (fun j j0 j1 => h _ (F_li_mem.mpr ⟨j, j0, j1, rfl⟩))⟩
  have hsrt : L_srt (F_coreL m ψ) := by
    unfold F_coreL
    split
    · trivial
    · exact L_srt_filter (hs 0 (by omega) (by omega))
  exact ⟨hsrt, hmem, fun c hc => L_srt_len hsrt (fun x hx => ((hmem x).mp hx).2 c hc)⟩
theorem o_core (d : Nat) (h : D_Pl s pp pl tr B G P ω) {f r : Nat} (hf : Pl_hf P f) (hr : Pl_hr P r) (w : C_wf s) (hB0 : 8 ≤ B) (hB : B ≤ 20000) (m1 : ∀ c ∈ G.2.1 f, 2 * c.length ≤ B) : C_ok (d + 4) 11 [.ref (P.2.1 f), .ref (P.1 r)] s (fun x s2 n => x = none ∧ ∃ ys, F_cl (G.2.1 f) ys ∧ D_ch pp pl tr B s P ω (g_sr G r ys) s2 n) := by
  obtain ⟨qa, ma, m, ψ, h1, h2, h3⟩ := h.fam hf
  obtain ⟨a, g1, g2⟩ := h.row hr
  have key := F_cl_coreL (m := m) (ψ := ψ) (fun i i0 i1 => (h1.2.2.2 i i0 i1).2)
  rw [h2] at key
  by_cases c : m = 0
  · subst c
    -- nothing there
    by_cases e : (ψ 0).length < 33554432 ∧ 2 * ((ψ 0).length : Int) ≤ B
    · refine (C_core d h1 g1 (fun e => by have := L_tw2 e (L_pre_self _); omega) e.1).weak (fun x s2 n q => ?_)
      exact ⟨q.1, _, key, h.upR w hr q.2 (by omega)⟩
    · -- the first set is free: take another picture of the same family
      have h1' : D_Fm s (pp ++ [1, f]) (P.2.1 f) qa ma (Pl_R f) B 0 (fun _ => []) := ⟨h1.1, fun i i0 i1 => by
        rcases h1.2.1 i i0 i1 with q | ⟨r, a, cap, xs, q1, q2, q3, q4⟩
        · exact .inl q
        · exact .inr ⟨r, a, cap, xs, q1, q2, q3, fun hi => by omega⟩, h1.2.2.1, fun i i0 i1 => by omega⟩
      refine (C_core d h1' g1 (fun e => by have := L_tw2 e (L_pre_self _); omega) (by show (0 : Nat) < _; omega)).weak (fun x s2 n q => ?_)
      exact ⟨q.1, _, key, h.upR w hr q.2 (by show 2 * ((0 : Nat) : Int) ≤ _; omega)⟩
  · have := m1 (ψ 0) (by rw [← h2]; exact F_li_mem.mpr ⟨0, by omega, by omega, rfl⟩)
    refine (C_core d h1 g1 (fun e => by have := L_tw2 e (L_pre_self _); omega) (by omega)).weak (fun x s2 n q => ?_)
    exact ⟨q.1, _, key, h.upR w hr q.2 (by omega)⟩
/-- texts -/
def X_so (xs : List (List Int)) : Prop := ∀ a b : Int, 0 ≤ a → a < b → b < xs.length → L_lt (X_at xs a) (X_at xs b)
theorem o_tclear (d : Nat) (h : D_Pl s pp pl tr B G P ω) {t : Nat} (ht : Pl_ht P t) (w : C_wf s) : C_ok (d + 1) 109 [.ref (P.2.2.1 t)] s (fun x s2 n => x = none ∧ D_ch pp pl tr B s P ω (g_st G t []) s2 n) := by
  obtain ⟨ra, la, m, σ, h1, h2⟩ := h.txt ht
  refine (C_tclear d h1).weak (fun x s2 n q => ?_)
  obtain ⟨rfl, rfl, q1, q2, q3⟩ := q
  exact ⟨rfl, h.upT w q2 q3 q1 rfl⟩
theorem o_tcopy (d : Nat) (h : D_Pl s pp pl tr B G P ω) {t t2 : Nat} (ht : Pl_ht P t) (ht2 : Pl_ht P t2) (ne : t ≠ t2) (w : C_wf s) : C_ok (d + 4) 114 [.ref (P.2.2.1 t), .ref (P.2.2.1 t2)] s (fun x s2 n => x = none ∧ D_ch pp pl tr B s P ω (g_st G t (G.2.2.1 t2)) s2 n) := by
  obtain ⟨ra, la, m, σ, h1, h2⟩ := h.txt ht
  obtain ⟨ra2, la2, m2, σ2, g1, g2⟩ := h.txt ht2
  refine (C_tcopy d h1 g1 (fun e => ne (L_tw2 (L_pre_self _) (L_pre_eq e)).2)).weak (fun x s2 n q => ?_)
  obtain ⟨rfl, rfl, q1, q2, q3⟩ := q
  exact ⟨rfl, h.upT w q2 q1 q3 g2⟩
theorem o_put (d : Nat) (h : D_Pl s pp pl tr B G P ω) {t : Nat} (ht : Pl_ht P t) (w : C_wf s) {X : List Int} (hx : D_by s P.2.2.2.2.2.2 60 X) (hX : X.length ≤ 1000) (so : X_so (G.2.2.1 t)) {L : Int} (hL : L = X.length) : C_ok (d + 5) 112 [.ref (P.2.2.1 t), .ref P.2.2.2.2.2.2, .int (Zi L)] s (fun x s2 n => ∃ z : Int, x = some (.int (Zi z)) ∧ ∃ ys, D_ch pp pl tr B s P ω (g_st G t ys) s2 n ∧ D_by s2 P.2.2.2.2.2.2 60 X ∧ X_so ys ∧ (z = 1 ∧ (∀ y, y ∈ ys ↔ y ∈ G.2.2.1 t ∨ y = X) ∨ z = 0 ∧ ys = G.2.2.1 t ∧ X ∉ G.2.2.1 t ∧ ((G.2.2.1 t).length = 8 ∨ 60 < X.length))) := by
  obtain ⟨ra, la, m, σ, h1, h2⟩ := h.txt ht
  obtain ⟨e1, e2⟩ := X_at_li h2
  have tT := h.1.2.2.1.2
  have nt : C_T s P.2.2.2.2.2.2 ≠ pp ++ [2, t] := fun e => by
    rw [tT] at e
    have := L_tw2 (L_pre_self _) (L_pre_eq e)
    omega
  subst hL
  refine (C_put d h1 hx hX (fun a b a0 ab bm => by have := so a b a0 ab (by omega); rw [e2 a a0 (by omega), e2 b (by omega) bm] at this; exact this) nt).weak (fun x s2 n q => ?_)
  obtain ⟨rfl, q1, q2, z, q3, q4⟩ := q
  have hx2 := hx.fr w q2 nt
  refine ⟨z, q3, ?_⟩
  rcases q4 with ⟨a1, m2, τ2, a2, a3, a4⟩ | ⟨a1, a2, a3, a4⟩
  · refine ⟨F_li m2 τ2, h.upT w q2 q1 a2 rfl, hx2, fun a b a0 ab bm => ?_, .inl ⟨a1, fun y => by rw [a4, h2]⟩⟩
    obtain ⟨f1, f2⟩ := X_at_li (rfl : F_li m2 τ2 = _)
    rw [f1] at bm
    rw [f2 a a0 (by omega), f2 b (by omega) bm]
    exact a3 a b a0 ab bm
  · rw [h2] at a3
    exact ⟨G.2.2.1 t, h.upT w q2 q1 a2 h2, hx2, so, .inr ⟨a1, rfl, a3, by rcases a4 with e | e; exact .inl (by omega); exact .inr e⟩⟩
end PO
