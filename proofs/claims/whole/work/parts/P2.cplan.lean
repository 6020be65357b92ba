/-! the class: Planner: its store: rows, families, texts, parts, and what room they take -/
abbrev G_t : Type := (Nat → List Int) × (Nat → List (List Int)) × (Nat → List (List Int)) × (Nat → Int) × (Nat → Int)
abbrev G_p : Type := (Nat → Nat) × (Nat → Nat) × (Nat → Nat) × (Nat → Nat) × (Nat → Bool) × Nat × Nat
def g_up {α : Type} (f : Nat → α) (i : Nat) (v : α) : Nat → α := fun k => if k = i then v else f k
theorem g_up_s {α : Type} {f : Nat → α} {i : Nat} {v : α} : g_up f i v i = v := if_pos rfl
theorem g_up_o {α : Type} {f : Nat → α} {i k : Nat} {v : α} (h : k ≠ i) : g_up f i v k = f k := if_neg h
def g_sr (G : G_t) (r : Nat) (xs : List Int) : G_t := (g_up G.1 r xs, G.2)
def g_sf (G : G_t) (f : Nat) (xs : List (List Int)) : G_t := (G.1, g_up G.2.1 f xs, G.2.2)
def g_st (G : G_t) (t : Nat) (xs : List (List Int)) : G_t := (G.1, G.2.1, g_up G.2.2.1 t xs, G.2.2.2)
def g_se (G : G_t) (j : Nat) (v : Int) : G_t := (G.1, G.2.1, G.2.2.1, g_up G.2.2.2.1 j v, G.2.2.2.2)
def g_su (G : G_t) (j : Nat) (v : Int) : G_t := (G.1, G.2.1, G.2.2.1, G.2.2.2.1, g_up G.2.2.2.2 j v)
def Pl_R (f : Nat) : Nat := if f = 0 then 576 else 24
def Pl_hr (P : G_p) (r : Nat) : Prop := r < 4 ∨ (r < 82 ∧ P.2.2.2.2.1 ((r - 4) / 2) = true)
def Pl_hf (P : G_p) (f : Nat) : Prop := f < 2 ∨ (f < 41 ∧ P.2.2.2.2.1 (f - 2) = true)
def Pl_ht (P : G_p) (t : Nat) : Prop := t = 0 ∨ (t < 40 ∧ P.2.2.2.2.1 (t - 1) = true)
def Pl_row (s : C_S) (pp : List Nat) (B : Nat) (G : G_t) (P : G_p) (ω : Nat → Nat) (r : Nat) : Prop := ∃ a, D_Row s (pp ++ [0, r]) (P.1 r) a (ω r) (G.1 r) ∧ ω r ≤ B
def Pl_fam (s : C_S) (pp : List Nat) (B : Nat) (G : G_t) (P : G_p) (ω : Nat → Nat) (f : Nat) : Prop := ∃ qa ma m ψ, D_Fm s (pp ++ [1, f]) (P.2.1 f) qa ma (Pl_R f) B m ψ ∧ F_li m ψ = G.2.1 f ∧ ω (100 + f) = C_fw s qa (Pl_R f)
def Pl_txt (s : C_S) (pp : List Nat) (G : G_t) (P : G_p) (t : Nat) : Prop := ∃ ra la m σ, D_Tx s (pp ++ [2, t]) (P.2.2.1 t) ra la m σ ∧ F_li m σ = G.2.2.1 t
def Pl_prt (s : C_S) (pp : List Nat) (G : G_t) (P : G_p) (j : Nat) : Prop := C_K s (P.2.2.2.1 j) = (12, 0) ∧ C_T s (P.2.2.2.1 j) = pp ++ [4, j] ∧ C_P s (P.2.2.2.1 j) 2 = some (P.2.2.1 (1 + j)) ∧ C_P s (P.2.2.2.1 j) 3 = some (P.1 (4 + 2 * j)) ∧ C_P s (P.2.2.2.1 j) 4 = some (P.1 (5 + 2 * j)) ∧ C_P s (P.2.2.2.1 j) 5 = some (P.2.1 (2 + j)) ∧ C_F s (P.2.2.2.1 j) 0 = G.2.2.2.1 j ∧ C_F s (P.2.2.2.1 j) 1 = G.2.2.2.2 j ∧ (G.2.2.2.1 j = 0 ∨ G.2.2.2.1 j = 1) ∧ (G.2.2.2.2 j = 0 ∨ G.2.2.2.2 j = 1)
def Pl_top (s : C_S) (pp : List Nat) (pl tr : Nat) (P : G_p) : Prop := (C_K s pl = (13, 0) ∧ C_T s pl = pp ∧ C_P s pl 0 = some tr ∧ C_P s pl 1 = some P.2.2.2.2.2.1 ∧ C_P s pl 2 = some (P.2.1 0) ∧ C_P s pl 3 = some (P.2.1 1) ∧ C_P s pl 4 = some (P.1 0) ∧ C_P s pl 5 = some (P.1 1) ∧ C_P s pl 6 = some (P.1 2) ∧ C_P s pl 7 = some (P.1 3) ∧ C_P s pl 8 = some (P.2.2.1 0) ∧ C_P s pl 9 = some P.2.2.2.2.2.2 ∧ C_P s pl 10 = some (P.2.2.2.1 38)) ∧ (C_K s P.2.2.2.2.2.1 = (5, 38) ∧ C_T s P.2.2.2.2.2.1 = pp ++ [5, 0]) ∧ (C_K s P.2.2.2.2.2.2 = (1, 60) ∧ C_T s P.2.2.2.2.2.2 = pp ++ [3, 0]) ∧ (∀ j : Nat, j < 38 → C_Q s P.2.2.2.2.2.1 (j : Int) = if P.2.2.2.2.1 j = true then some (P.2.2.2.1 j) else none) ∧ P.2.2.2.2.1 38 = true
def D_Pl (s : C_S) (pp : List Nat) (pl tr B : Nat) (G : G_t) (P : G_p) (ω : Nat → Nat) : Prop := Pl_top s pp pl tr P ∧ (∀ j, j ≤ 38 → P.2.2.2.2.1 j = true → Pl_prt s pp G P j) ∧ (∀ r, Pl_hr P r → Pl_row s pp B G P ω r) ∧ (∀ f, Pl_hf P f → Pl_fam s pp B G P ω f) ∧ (∀ t, Pl_ht P t → Pl_txt s pp G P t) ∧ (∀ r, r < 82 → ¬ Pl_hr P r → ω r = 0) ∧ (∀ f, f < 41 → ¬ Pl_hf P f → ω (100 + f) = 0) ∧ (∀ j, j ≤ 38 → ω (150 + j) = if P.2.2.2.2.1 j = true then 300 else 0) ∧ ∀ i, (82 ≤ i ∧ i < 100 ∨ 141 ≤ i ∧ i < 150 ∨ 189 ≤ i) → ω i = 0
def Pl_w (ω : Nat → Nat) : Nat := ((List.range 200).map ω).sum
theorem Pl_w_up {ω : Nat → Nat} {i v : Nat} (hi : i < 200) : Pl_w (g_up ω i v) + ω i = Pl_w ω + v := by
  have := L_sum_upd (f := ω) (g := g_up ω i v) (k := i) (R := 200) (fun j _ hj => g_up_o hj) hi
  rw [g_up_s] at this
  exact this
/-- paths -/
theorem L_pre_eq {t q : List Nat} (e : t = q) : q <+: t := by
  rw [e]
  exact L_pre_self _
theorem L_tw2 {pp t : List Nat} {a b c d : Nat} (h : pp ++ [a, b] <+: t) (g : pp ++ [c, d] <+: t) : a = c ∧ b = d := by
  obtain ⟨x, hx⟩ := h
  obtain ⟨y, hy⟩ := g
  have e : pp ++ ([a, b] ++ x) = pp ++ ([c, d] ++ y) := by rw [← List.append_assoc, ← List.append_assoc, hx, hy]
  have e := List.append_cancel_left e
  injection e with e1 e2
  injection e2 with e2 e3
  exact ⟨e1, e2⟩
theorem L_tw_n {pp : List Nat} {a b : Nat} : ¬ pp ++ [a, b] <+: pp := fun h => by
  have := h.length_le
  rw [List.length_append] at this
  have e : [a, b].length = 2 := rfl
  omega
theorem L_tw_p {pp : List Nat} {a b : Nat} : pp <+: pp ++ [a, b] := ⟨[a, b], rfl⟩
section PS
variable {s s2 : C_S} {pp : List Nat} {pl tr B : Nat} {G : G_t} {P : G_p} {ω : Nat → Nat} {X : List Nat → Prop}
theorem Pl_row.fr {r : Nat} (h : Pl_row s pp B G P ω r) (w : C_wf s) (k : C_fr X s s2) (hX : ∀ t, pp ++ [0, r] <+: t → ¬ X t) : Pl_row s2 pp B G P ω r := by
  obtain ⟨a, h1, h2⟩ := h
  exact ⟨a, h1.fr w k (hX _ (L_pre_self _)), h2⟩
theorem Pl_fam.fr {f : Nat} (h : Pl_fam s pp B G P ω f) (w : C_wf s) (k : C_fr X s s2) (hX : ∀ t, pp ++ [1, f] <+: t → ¬ X t) : Pl_fam s2 pp B G P ω f := by
  obtain ⟨qa, ma, m, ψ, h1, h2, h3⟩ := h
  obtain ⟨g1, g2⟩ := h1.fr w k hX
  exact ⟨qa, ma, m, ψ, g1, h2, by rw [g2]; exact h3⟩
theorem Pl_txt.fr {t : Nat} (h : Pl_txt s pp G P t) (w : C_wf s) (k : C_fr X s s2) (hX : ∀ q, pp ++ [2, t] <+: q → ¬ X q) : Pl_txt s2 pp G P t := by
  obtain ⟨ra, la, m, σ, h1, h2⟩ := h
  exact ⟨ra, la, m, σ, h1.fr w k (hX _ (L_pre_self _)), h2⟩
theorem Pl_prt.fr {j : Nat} (h : Pl_prt s pp G P j) (w : C_wf s) (k : C_fr X s s2) (hX : ∀ q, pp ++ [4, j] <+: q → ¬ X q) : Pl_prt s2 pp G P j := by
  obtain ⟨h1, h2, h3, h4, h5, h6, h7, h8, h9⟩ := h
  have lo := C_lt w h1 (show 12 < 20 by decide)
  obtain ⟨e1, e2, e3, e4, e5⟩ := k.2.2.1 _ lo (by rw [h2]; exact hX _ (L_pre_self _))
  exact ⟨by rw [(k.2.1 _ lo).1]; exact h1, by rw [(k.2.1 _ lo).2]; exact h2, by rw [e2]; exact h3, by rw [e2]; exact h4, by rw [e2]; exact h5, by rw [e2]; exact h6, by rw [e1]; exact h7, by rw [e1]; exact h8, h9⟩
theorem Pl_top.fr (h : Pl_top s pp pl tr P) (w : C_wf s) (k : C_fr X s s2) (hX : ¬ X pp) (h5 : ¬ X (pp ++ [5, 0])) : Pl_top s2 pp pl tr P := by
  obtain ⟨⟨h1, h2, hp⟩, ⟨a1, a2⟩, ⟨b1, b2⟩, c1, c2⟩ := h
  have lo := C_lt w h1 (show 13 < 20 by decide)
  have la := C_lt w a1 (show 5 < 20 by decide)
  have lb := C_lt w b1 (show 1 < 20 by decide)
  obtain ⟨e1, e2, e3, e4, e5⟩ := k.2.2.1 _ lo (by rw [h2]; exact hX)
  obtain ⟨f1, f2, f3, f4, f5⟩ := k.2.2.1 _ la (by rw [a2]; exact h5)
  exact ⟨⟨by rw [(k.2.1 _ lo).1]; exact h1, by rw [(k.2.1 _ lo).2]; exact h2, by rw [e2]; exact hp⟩, ⟨by rw [(k.2.1 _ la).1]; exact a1, by rw [(k.2.1 _ la).2]; exact a2⟩, ⟨by rw [(k.2.1 _ lb).1]; exact b1, by rw [(k.2.1 _ lb).2]; exact b2⟩, fun j hj => by rw [f5]; exact c1 j hj, c2⟩
theorem D_Pl.fr (h : D_Pl s pp pl tr B G P ω) (w : C_wf s) (k : C_fr X s s2) (hX : ∀ t, pp <+: t → ¬ X t) : D_Pl s2 pp pl tr B G P ω := by
  obtain ⟨h1, h2, h3, h4, h5, h6⟩ := h
  have out : ∀ a b q, pp ++ [a, b] <+: q → ¬ X q := fun a b q hq => hX q (L_tw_p.trans hq)
  exact ⟨h1.fr w k (hX _ (L_pre_self _)) (hX _ L_tw_p), fun j hj hT => (h2 j hj hT).fr w k (out _ _), fun r hr => (h3 r hr).fr w k (out _ _), fun f hf => (h4 f hf).fr w k (out _ _), fun t ht => (h5 t ht).fr w k (out _ _), h6⟩
/-- what a step within the planner does to room and places -/
def D_ch (pp : List Nat) (pl tr B : Nat) (s : C_S) (P : G_p) (ω : Nat → Nat) (G2 : G_t) (s2 : C_S) (n : Nat) : Prop := ∃ ω2, D_Pl s2 pp pl tr B G2 P ω2 ∧ n + 2 * Pl_w ω ≤ 2 * Pl_w ω2 ∧ 8 * C_n s2 + Pl_w ω ≤ 8 * C_n s + Pl_w ω2 ∧ C_fr (fun t => pp <+: t) s s2
theorem D_Pl.row (h : D_Pl s pp pl tr B G P ω) {r : Nat} (hr : Pl_hr P r) : ∃ a, D_Row s (pp ++ [0, r]) (P.1 r) a (ω r) (G.1 r) ∧ ω r ≤ B := h.2.2.1 r hr
theorem D_Pl.fam (h : D_Pl s pp pl tr B G P ω) {f : Nat} (hf : Pl_hf P f) : ∃ qa ma m ψ, D_Fm s (pp ++ [1, f]) (P.2.1 f) qa ma (Pl_R f) B m ψ ∧ F_li m ψ = G.2.1 f ∧ ω (100 + f) = C_fw s qa (Pl_R f) := h.2.2.2.1 f hf
theorem D_Pl.txt (h : D_Pl s pp pl tr B G P ω) {t : Nat} (ht : Pl_ht P t) : ∃ ra la m σ, D_Tx s (pp ++ [2, t]) (P.2.2.1 t) ra la m σ ∧ F_li m σ = G.2.2.1 t := h.2.2.2.2.1 t ht
/-- a row changes -/
theorem D_Pl.upR (h : D_Pl s pp pl tr B G P ω) (w : C_wf s) {r : Nat} (hr : Pl_hr P r) {ys : List Int} {need : Int} {n : Nat} (q : D_rw (pp ++ [0, r]) (P.1 r) (ω r) ys need s s2 n) (hn : 2 * need ≤ B) : D_ch pp pl tr B s P ω (g_sr G r ys) s2 n := by
  obtain ⟨a2, cap2, q1, k, q3, q4, q5⟩ := q
  obtain ⟨_, _, hb⟩ := h.row hr
  have hr82 : r < 82 := by rcases hr with e | e; omega; exact e.1
  have hpl := h
  obtain ⟨h1, h2, h3, h4, h5, h6, h7, h8, h9⟩ := h
  have hu := Pl_w_up (ω := ω) (i := r) (v := cap2) (by omega)
  have ne : ∀ a b : Nat, (a ≠ 0 ∨ b ≠ r) → ∀ q, pp ++ [a, b] <+: q → ¬ q = pp ++ [0, r] := fun a b hne q hq e => by
    have := L_tw2 hq (L_pre_eq e)
    omega
  refine ⟨g_up ω r cap2, ⟨h1.fr w k (fun e => L_tw_n (a := 0) (b := r) (L_pre_eq e)) (ne 5 0 (by omega) _ (L_pre_self _)), fun j hj hT => ?_, fun r' hr' => ?_, fun f hf => ?_, fun t ht => ?_, fun r' h82 hr' => ?_, fun f h41 hf => ?_, fun j hj => ?_, fun i hi => ?_⟩, by omega, by omega, k.weak (fun t e => by rw [e]; exact L_tw_p)⟩
  · exact (h2 j hj hT).fr w k (ne _ _ (by omega))
  · by_cases c : r' = r
    · subst c
      refine ⟨a2, ?_, ?_⟩
      · show D_Row s2 _ _ a2 (g_up ω r' cap2 r') (g_up G.1 r' ys r')
        rw [g_up_s, g_up_s]; exact q1
      · rw [g_up_s]; omega
    · obtain ⟨a, g1, g2⟩ := (h3 r' hr').fr w k (ne _ _ (by omega))
      refine ⟨a, ?_, ?_⟩
      · show D_Row s2 _ _ a (g_up ω r cap2 r') (g_up G.1 r ys r')
        rw [g_up_o c, g_up_o c]; exact g1
      · rw [g_up_o c]; exact g2
  · obtain ⟨qa, ma, m, ψ, g1, g2, g3⟩ := (h4 f hf).fr w k (ne _ _ (by omega))
    exact ⟨qa, ma, m, ψ, g1, g2, by rw [g_up_o (by omega)]; exact g3⟩
  · exact (h5 t ht).fr w k (ne _ _ (by omega))
  · by_cases c : r' = r
    · subst c; exact absurd hr hr'
    · rw [g_up_o c]; exact h6 r' h82 hr'
  · rw [g_up_o (by omega)]; exact h7 f h41 hf
  · rw [g_up_o (by omega)]; exact h8 j hj
  · rw [g_up_o (by omega)]; exact h9 i hi
/-- a family changes -/
theorem D_Pl.upF (h : D_Pl s pp pl tr B G P ω) (w : C_wf s) {f : Nat} (hf : Pl_hf P f) {qa ma m2 : Nat} {ψ : Int → List Int} {n : Nat} (q1 : D_Fm s2 (pp ++ [1, f]) (P.2.1 f) qa ma (Pl_R f) B m2 ψ) (k : C_fr (fun t => pp ++ [1, f] <+: t) s s2) (e : ω (100 + f) = C_fw s qa (Pl_R f)) (q3 : n + 2 * C_fw s qa (Pl_R f) ≤ 2 * C_fw s2 qa (Pl_R f)) (q4 : 8 * C_n s2 + C_fw s qa (Pl_R f) ≤ 8 * C_n s + C_fw s2 qa (Pl_R f)) {fam : List (List Int)} (hfam : F_li m2 ψ = fam) : D_ch pp pl tr B s P ω (g_sf G f fam) s2 n := by
  have hf41 : f < 41 := by rcases hf with e | e; omega; exact e.1
  obtain ⟨h1, h2, h3, h4, h5, h6, h7, h8, h9⟩ := h
  have hu := Pl_w_up (ω := ω) (i := 100 + f) (v := C_fw s2 qa (Pl_R f)) (by omega)
  have ne : ∀ a b : Nat, (a ≠ 1 ∨ b ≠ f) → ∀ q, pp ++ [a, b] <+: q → ¬ pp ++ [1, f] <+: q := fun a b hne q hq e => by
    have := L_tw2 hq e
    omega
  refine ⟨g_up ω (100 + f) (C_fw s2 qa (Pl_R f)), ⟨h1.fr w k L_tw_n (ne 5 0 (by omega) _ (L_pre_self _)), fun j hj hT => ?_, fun r' hr' => ?_, fun f' hf' => ?_, fun t ht => ?_, fun r' h82 hr' => ?_, fun f' h41 hf' => ?_, fun j hj => ?_, fun i hi => ?_⟩, by omega, by omega, k.weak (fun t e => L_tw_p.trans e)⟩
  · exact (h2 j hj hT).fr w k (ne _ _ (by omega))
  · have h82 : r' < 82 := by rcases hr' with e | e; omega; exact e.1
    obtain ⟨a, g1, g2⟩ := (h3 r' hr').fr w k (ne _ _ (by omega))
    exact ⟨a, by rw [g_up_o (by omega)]; exact g1, by rw [g_up_o (by omega)]; exact g2⟩
  · by_cases c : f' = f
    · subst c
      exact ⟨qa, ma, m2, ψ, q1, by show _ = g_up G.2.1 f' fam f'; rw [g_up_s]; exact hfam, by rw [g_up_s]⟩
    · obtain ⟨qa', ma', m, ψ', g1, g2, g3⟩ := (h4 f' hf').fr w k (ne _ _ (by omega))
      exact ⟨qa', ma', m, ψ', g1, by show _ = g_up G.2.1 f fam f'; rw [g_up_o c]; exact g2, by rw [g_up_o (by omega)]; exact g3⟩
  · exact (h5 t ht).fr w k (ne _ _ (by omega))
  · rw [g_up_o (by omega)]; exact h6 r' h82 hr'
  · by_cases c : f' = f
    · subst c; exact absurd hf hf'
    · rw [g_up_o (by omega)]; exact h7 f' h41 hf'
  · rw [g_up_o (by omega)]; exact h8 j hj
  · rw [g_up_o (by omega)]; exact h9 i hi
theorem D_Pl.upO (h : D_Pl s pp pl tr B G P ω) (w : C_wf s) {f : Nat} (hf : Pl_hf P f) {qa ma : Nat} (e : ω (100 + f) = C_fw s qa (Pl_R f)) {n : Nat} {fam : List (List Int)} (q : D_of (pp ++ [1, f]) (P.2.1 f) qa ma (Pl_R f) B fam s s2 n) : D_ch pp pl tr B s P ω (g_sf G f fam) s2 n := by
  obtain ⟨m2, ψ, q1, q2, q3, q4, q5⟩ := q
  exact h.upF w hf q1 q3 e q4 q5 q2
/-- texts change -/
theorem D_Pl.upT (h : D_Pl s pp pl tr B G P ω) (w : C_wf s) {t : Nat} {ra la m : Nat} {σ : Int → List Int} (k : C_fr (fun q => q = pp ++ [2, t]) s s2) (en : C_n s2 = C_n s) (q : D_Tx s2 (pp ++ [2, t]) (P.2.2.1 t) ra la m σ) {xs : List (List Int)} (hx : F_li m σ = xs) : D_ch pp pl tr B s P ω (g_st G t xs) s2 0 := by
  obtain ⟨h1, h2, h3, h4, h5, h6⟩ := h
  have ne : ∀ a b : Nat, (a ≠ 2 ∨ b ≠ t) → ∀ q, pp ++ [a, b] <+: q → ¬ q = pp ++ [2, t] := fun a b hne q hq e => by
    have := L_tw2 hq (L_pre_eq e)
    omega
  refine ⟨ω, ⟨h1.fr w k (fun e => L_tw_n (a := 2) (b := t) (L_pre_eq e)) (ne 5 0 (by omega) _ (L_pre_self _)), fun j hj hT => (h2 j hj hT).fr w k (ne _ _ (by omega)), fun r' hr' => (h3 r' hr').fr w k (ne _ _ (by omega)), fun f hf => (h4 f hf).fr w k (ne _ _ (by omega)), fun t' ht' => ?_, h6⟩, by omega, by omega, k.weak (fun t e => by rw [e]; exact L_tw_p)⟩
  by_cases c : t' = t
  · subst c
    exact ⟨ra, la, m, σ, q, by show _ = g_up G.2.2.1 t' xs t'; rw [g_up_s]; exact hx⟩
  · obtain ⟨ra', la', m', σ', g1, g2⟩ := (h5 t' ht').fr w k (ne _ _ (by omega))
    exact ⟨ra', la', m', σ', g1, by show _ = g_up G.2.2.1 t xs t'; rw [g_up_o c]; exact g2⟩
/-- the text's bytes change -/
theorem D_Pl.upB (h : D_Pl s pp pl tr B G P ω) (w : C_wf s) (k : C_fr (fun q => q = pp ++ [3, 0]) s s2) (en : C_n s2 = C_n s) : D_ch pp pl tr B s P ω G s2 0 := by
  obtain ⟨h1, h2, h3, h4, h5, h6⟩ := h
  have ne : ∀ a b : Nat, (a ≠ 3 ∨ b ≠ 0) → ∀ q, pp ++ [a, b] <+: q → ¬ q = pp ++ [3, 0] := fun a b hne q hq e => by
    have := L_tw2 hq (L_pre_eq e)
    omega
  exact ⟨ω, ⟨h1.fr w k (fun e => L_tw_n (a := 3) (b := 0) (L_pre_eq e)) (ne 5 0 (by omega) _ (L_pre_self _)), fun j hj hT => (h2 j hj hT).fr w k (ne _ _ (by omega)), fun r' hr' => (h3 r' hr').fr w k (ne _ _ (by omega)), fun f hf => (h4 f hf).fr w k (ne _ _ (by omega)), fun t' ht' => (h5 t' ht').fr w k (ne _ _ (by omega)), h6⟩, by omega, by omega, k.weak (fun t e => by rw [e]; exact L_tw_p)⟩
/-- a part's flags change -/
theorem D_Pl.upE (h : D_Pl s pp pl tr B G P ω) (w : C_wf s) {j : Nat} (hj : j ≤ 38) (hT : P.2.2.2.2.1 j = true) {v : Int} (hv : v = 0 ∨ v = 1) : D_Pl (C_sF s (P.2.2.2.1 j) 0 v) pp pl tr B (g_se G j v) P ω := by
  have hT2 := (h.2.1 j hj hT).2.1
  obtain ⟨h1, h2, h3, h4, h5, h6⟩ := h
  have k : C_fr (fun q => q = pp ++ [4, j]) s (C_sF s (P.2.2.2.1 j) 0 v) := (C_fr.refl _ _).sF hT2
  have ne : ∀ a b : Nat, (a ≠ 4 ∨ b ≠ j) → ∀ q, pp ++ [a, b] <+: q → ¬ q = pp ++ [4, j] := fun a b hne q hq e => by
    have := L_tw2 hq (L_pre_eq e)
    omega
  refine ⟨h1.fr w k (fun e => L_tw_n (a := 4) (b := j) (L_pre_eq e)) (ne 5 0 (by omega) _ (L_pre_self _)), fun j' hj' hT' => ?_, fun r' hr' => (h3 r' hr').fr w k (ne _ _ (by omega)), fun f hf => (h4 f hf).fr w k (ne _ _ (by omega)), fun t' ht' => (h5 t' ht').fr w k (ne _ _ (by omega)), h6⟩
  by_cases c : j' = j
  · subst c
    obtain ⟨g1, g2, g3, g4, g5, g6, g7, g8, g9, g10⟩ := h2 j' hj' hT'
    have e0 : g_up G.2.2.2.1 j' v j' = v := g_up_s
    exact ⟨g1, g2, g3, g4, g5, g6, (if_pos ⟨rfl, rfl⟩ : C_F (C_sF s (P.2.2.2.1 j') 0 v) _ 0 = v).trans e0.symm, (if_neg (by omega) : C_F (C_sF s (P.2.2.2.1 j') 0 v) _ 1 = _).trans g8, by show g_up G.2.2.2.1 j' v j' = 0 ∨ g_up G.2.2.2.1 j' v j' = 1; rw [e0]; exact hv, g10⟩
  · obtain ⟨g1, g2, g3, g4, g5, g6, g7, g8, g9, g10⟩ := (h2 j' hj' hT').fr w k (ne _ _ (by omega))
    have e0 : g_up G.2.2.2.1 j v j' = G.2.2.2.1 j' := g_up_o c
    exact ⟨g1, g2, g3, g4, g5, g6, g7.trans e0.symm, g8, by show g_up G.2.2.2.1 j v j' = 0 ∨ g_up G.2.2.2.1 j v j' = 1; rw [e0]; exact g9, g10⟩
theorem D_Pl.upU (h : D_Pl s pp pl tr B G P ω) (w : C_wf s) {j : Nat} (hj : j ≤ 38) (hT : P.2.2.2.2.1 j = true) {v : Int} (hv : v = 0 ∨ v = 1) : D_Pl (C_sF s (P.2.2.2.1 j) 1 v) pp pl tr B (g_su G j v) P ω := by
  have hT2 := (h.2.1 j hj hT).2.1
  obtain ⟨h1, h2, h3, h4, h5, h6⟩ := h
  have k : C_fr (fun q => q = pp ++ [4, j]) s (C_sF s (P.2.2.2.1 j) 1 v) := (C_fr.refl _ _).sF hT2
  have ne : ∀ a b : Nat, (a ≠ 4 ∨ b ≠ j) → ∀ q, pp ++ [a, b] <+: q → ¬ q = pp ++ [4, j] := fun a b hne q hq e => by
    have := L_tw2 hq (L_pre_eq e)
    omega
  refine ⟨h1.fr w k (fun e => L_tw_n (a := 4) (b := j) (L_pre_eq e)) (ne 5 0 (by omega) _ (L_pre_self _)), fun j' hj' hT' => ?_, fun r' hr' => (h3 r' hr').fr w k (ne _ _ (by omega)), fun f hf => (h4 f hf).fr w k (ne _ _ (by omega)), fun t' ht' => (h5 t' ht').fr w k (ne _ _ (by omega)), h6⟩
  by_cases c : j' = j
  · subst c
    obtain ⟨g1, g2, g3, g4, g5, g6, g7, g8, g9, g10⟩ := h2 j' hj' hT'
    have e0 : g_up G.2.2.2.2 j' v j' = v := g_up_s
    exact ⟨g1, g2, g3, g4, g5, g6, (if_neg (by omega) : C_F (C_sF s (P.2.2.2.1 j') 1 v) _ 0 = _).trans g7, (if_pos ⟨rfl, rfl⟩ : C_F (C_sF s (P.2.2.2.1 j') 1 v) _ 1 = v).trans e0.symm, g9, by show g_up G.2.2.2.2 j' v j' = 0 ∨ g_up G.2.2.2.2 j' v j' = 1; rw [e0]; exact hv⟩
  · obtain ⟨g1, g2, g3, g4, g5, g6, g7, g8, g9, g10⟩ := (h2 j' hj' hT').fr w k (ne _ _ (by omega))
    have e0 : g_up G.2.2.2.2 j v j' = G.2.2.2.2 j' := g_up_o c
    exact ⟨g1, g2, g3, g4, g5, g6, g7, g8.trans e0.symm, g9, by show g_up G.2.2.2.2 j v j' = 0 ∨ g_up G.2.2.2.2 j v j' = 1; rw [e0]; exact g10⟩
end PS
