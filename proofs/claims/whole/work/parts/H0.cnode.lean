/-! the class: nodes that stand for regexes -/
def N_hd (L : List (Int × P_T)) : Int := match L with
  | [] => -1
  | q :: _ => q.1
def N_la (w : Int) (L : List (Int × P_T)) : Int := match L with
  | [] => w
  | q :: L => N_la q.1 L
/-- elements side by side, each in an interval of its own -/
def N_seq (P : Int → Int → Int → P_T → Prop) (lo hi : Int) (L : List (Int × P_T)) : Prop := match L with
  | [] => lo = hi
  | q :: L => ∃ mid, P lo mid q.1 q.2 ∧ N_seq P mid hi L
/-- what stands before and behind each -/
def N_lk (τ : Nat → Int → Int) (prev : Int) (L : List (Int × P_T)) : Prop := match L with
  | [] => True
  | q :: L => τ 4 q.1 = prev ∧ τ 3 q.1 = N_hd L ∧ N_lk τ q.1 L
def N_ch (τ : Nat → Int → Int) (i : Int) (L : List (Int × P_T)) : Prop := τ 1 i = N_hd L ∧ τ 2 i = N_la (-1) L ∧ N_lk τ (-1) L
def N_beh (L : List (Int × P_T)) : P_T := L.foldl (fun c q => T_beh c q.2) T_emp
def N_or (t : P_T) (L : List (Int × P_T)) : P_T := L.foldl (fun c q => T_or c q.2) t
def N_lh (op lo hi : Int) : Int × Int := if op = 8 then (0, -1) else if op = 9 then (1, -1) else if op = 10 then (0, 1) else (lo, hi)
def N_atm (τ : Nat → Int → Int) (H : Int → Int → Prop) (sm i : Int) (At : P_A) : Prop := match At with
  | .inl k => τ 0 i = k + 2
  | .inr B => τ 0 i = 3 ∧ 0 ≤ τ 7 i ∧ τ 7 i < sm ∧ ∀ j, 0 ≤ j → j ≤ 255 → (H (τ 7 i) j ↔ B j)
/-- node i, in [lo, hi), stands for t: kind 0 what may be counted, 1 a CAT, 2 an ALT -/
def N_is (τ : Nat → Int → Int) (H : Int → Int → Prop) (sm : Int) (d k : Nat) (lo hi i : Int) (t : P_T) : Prop := match d with
  | 0 => False
  | d + 1 => lo ≤ i ∧ i < hi ∧
    if k = 0 then (∃ At, A_ok At ∧ t = T_atm At ∧ N_atm τ H sm i At ∧ τ 8 i = 1)
      ∨ (∃ u op l h, T_cok op l h ∧ t = T_cnt u op l h ∧ τ 0 i = 2 ∧ τ 0 (τ 1 i) ≠ 2 ∧ τ 5 i = (N_lh op l h).1 ∧ τ 6 i = (N_lh op l h).2 ∧ τ 8 i = T_mn (T_sz t) ∧ N_is τ H sm d 0 lo i (τ 1 i) u)
      ∨ N_is τ H sm d 2 lo hi i t
    else if k = 1 then i = lo ∧ τ 0 i = 1 ∧ τ 8 i = T_mn (T_sz t) ∧ ∃ L, t = N_beh L ∧ N_ch τ i L ∧ N_seq (fun a b x t => N_is τ H sm d 0 a b x t) (lo + 1) hi L
    else i = lo ∧ τ 0 i = 0 ∧ τ 8 i = T_mn (T_sz t) ∧ ∃ q L, t = N_or q.2 L ∧ N_ch τ i (q :: L) ∧ N_seq (fun a b x t => N_is τ H sm d 1 a b x t) (lo + 1) hi (q :: L)
theorem N_is.r {τ : Nat → Int → Int} {H : Int → Int → Prop} {sm : Int} {d k : Nat} {lo hi i : Int} {t : P_T} (h : N_is τ H sm d k lo hi i t) : lo ≤ i ∧ i < hi := by
  cases d with
  | zero => exact False.elim h
  | succ d => exact ⟨h.1, h.2.1⟩
theorem N_is.k2 {τ : Nat → Int → Int} {H : Int → Int → Prop} {sm : Int} {d : Nat} {lo hi i : Int} {t : P_T} (h : N_is τ H sm d 2 lo hi i t) : τ 0 i = 0 := by
  cases d with
  | zero => exact False.elim h
  | succ d =>
    have h := h.2.2
    rw [if_neg (by decide), if_neg (by decide)] at h
    exact h.2.1
theorem N_seq.le {P : Int → Int → Int → P_T → Prop} (hP : ∀ a b x t, P a b x t → a ≤ x ∧ x < b) : ∀ {L : List (Int × P_T)} {lo hi : Int}, N_seq P lo hi L → lo ≤ hi
  | [], _, _, h => Int.le_of_eq h
  | q :: L, lo, hi, ⟨mid, h1, h2⟩ => by
    have := hP _ _ _ _ h1
    have := N_seq.le hP h2
    omega
theorem N_seq.la {P : Int → Int → Int → P_T → Prop} (hP : ∀ a b x t, P a b x t → a ≤ x ∧ x < b) : ∀ {L : List (Int × P_T)} {lo hi w : Int}, N_seq P lo hi L → N_la w L = w ∧ L = [] ∨ lo ≤ N_la w L ∧ N_la w L < hi
  | [], _, _, _, _ => .inl ⟨rfl, rfl⟩
  | q :: L, lo, hi, w, ⟨mid, h1, h2⟩ => by
    have r := hP _ _ _ _ h1
    have l := N_seq.le hP h2
    rcases N_seq.la hP (w := q.1) h2 with ⟨e, _⟩ | ⟨a, b⟩
    · refine .inr ?_
      show lo ≤ N_la q.1 L ∧ N_la q.1 L < hi
      rw [e]
      omega
    · refine .inr ?_
      show lo ≤ N_la q.1 L ∧ N_la q.1 L < hi
      omega
theorem N_seq.keep {P Q : Int → Int → Int → P_T → Prop} {τ τ' : Nat → Int → Int} (hP : ∀ a b x t, P a b x t → a ≤ x ∧ x < b) (hPQ : ∀ a b x t, P a b x t → (∀ f j, a ≤ j → j < b → (j ≠ x ∨ (f ≠ 3 ∧ f ≠ 4)) → τ' f j = τ f j) → Q a b x t) : ∀ {L : List (Int × P_T)} {lo hi w : Int}, N_seq P lo hi L → (∀ f j, lo ≤ j → j < hi → ¬ (f = 3 ∧ j = N_la w L) → τ' f j = τ f j) → N_seq Q lo hi L
  | [], _, _, _, h, _ => h
  | q :: L, lo, hi, w, ⟨mid, h1, h2⟩, hf => by
    have r := hP _ _ _ _ h1
    have l := N_seq.le hP h2
    refine ⟨mid, hPQ _ _ _ _ h1 (fun f j j0 j1 hj => hf f j j0 (by omega) (fun e => ?_)), N_seq.keep hP hPQ (w := q.1) h2 (fun f j j0 j1 hj => hf f j (by omega) j1 hj)⟩
    have e2 : j = N_la q.1 L := e.2
    rcases N_seq.la hP (w := q.1) h2 with ⟨e3, _⟩ | ⟨a, b⟩
    · rcases hj with hj | hj
      · exact hj (by rw [e2, e3])
      · exact hj.1 e.1
    · omega
theorem N_seq.app {P : Int → Int → Int → P_T → Prop} {x : Int} {t : P_T} : ∀ {L : List (Int × P_T)} {lo mid hi : Int}, N_seq P lo mid L → P mid hi x t → N_seq P lo hi (L ++ [(x, t)])
  | [], lo, mid, hi, h, g => ⟨hi, by rw [show lo = mid from h]; exact g, rfl⟩
  | q :: L, lo, mid, hi, ⟨m, h1, h2⟩, g => ⟨m, h1, N_seq.app h2 g⟩
theorem N_hd_app {L : List (Int × P_T)} {q : Int × P_T} : N_hd (L ++ [q]) = if L = [] then q.1 else N_hd L := by
  cases L with
  | nil => rfl
  | cons a L => rfl
theorem N_la_app {q : Int × P_T} : ∀ (L : List (Int × P_T)) (w : Int), N_la w (L ++ [q]) = q.1
  | [], _ => rfl
  | _ :: L, _ => N_la_app L _
theorem N_lk.app {P : Int → Int → Int → P_T → Prop} {τ τ' : Nat → Int → Int} (hP : ∀ a b x t, P a b x t → a ≤ x ∧ x < b) {x : Int} {t : P_T} : ∀ {L : List (Int × P_T)} {lo hi prev : Int}, N_seq P lo hi L → N_lk τ prev L → (∀ f j, lo ≤ j → j < hi → ¬ (f = 3 ∧ j = N_la prev L) → τ' f j = τ f j) → (L ≠ [] → τ' 3 (N_la prev L) = x) → τ' 4 x = N_la prev L → τ' 3 x = -1 → N_lk τ' prev (L ++ [(x, t)])
  | [], _, _, _, _, _, _, _, h4, h3 => ⟨h4, h3, trivial⟩
  | q :: L, lo, hi, prev, ⟨mid, h1, h2⟩, ⟨k1, k2, k3⟩, hf, hl, h4, h3 => by
    have r := hP _ _ _ _ h1
    have l := N_seq.le hP h2
    have hl2 := hl (fun e => by cases e)
    refine ⟨?_, ?_, N_lk.app hP h2 k3 (fun f j j0 j1 hj => hf f j (by omega) j1 hj) (fun _ => hl2) h4 h3⟩
    · rw [hf 4 q.1 r.1 (by omega) (fun e => absurd e.1 (by decide))]
      exact k1
    · show τ' 3 q.1 = N_hd (L ++ [(x, t)])
      rw [N_hd_app]
      rcases N_seq.la hP (w := q.1) h2 with ⟨e3, e4⟩ | ⟨a, b⟩
      · rw [if_pos e4]
        have : N_la prev (q :: L) = q.1 := e3
        rw [this] at hl2
        exact hl2
      · rw [hf 3 q.1 r.1 (by omega) (fun e => by have e2 : q.1 = N_la q.1 L := e.2; omega), k2]
        by_cases c : L = []
        · subst c
          have : N_la q.1 [] = q.1 := rfl
          omega
        · rw [if_neg c]
theorem N_beh_app (L : List (Int × P_T)) (q : Int × P_T) : N_beh (L ++ [q]) = T_beh (N_beh L) q.2 := by
  unfold N_beh
  rw [List.foldl_append]
  rfl
theorem N_or_app (t : P_T) (L : List (Int × P_T)) (q : Int × P_T) : N_or t (L ++ [q]) = T_or (N_or t L) q.2 := by
  unfold N_or
  rw [List.foldl_append]
  rfl
theorem N_lk.keep {P : Int → Int → Int → P_T → Prop} {τ τ' : Nat → Int → Int} (hP : ∀ a b x t, P a b x t → a ≤ x ∧ x < b) : ∀ {L : List (Int × P_T)} {lo hi prev : Int}, N_seq P lo hi L → N_lk τ prev L → (∀ f j, lo ≤ j → j < hi → τ' f j = τ f j) → N_lk τ' prev L
  | [], _, _, _, _, _, _ => trivial
  | q :: L, lo, hi, prev, ⟨mid, h1, h2⟩, ⟨k1, k2, k3⟩, hf => by
    have r := hP _ _ _ _ h1
    have l := N_seq.le hP h2
    exact ⟨by rw [hf 4 q.1 r.1 (by omega)]; exact k1, by rw [hf 3 q.1 r.1 (by omega)]; exact k2, N_lk.keep hP h2 k3 (fun f j j0 j1 => hf f j (by omega) j1)⟩
theorem N_is.keep {τ τ' : Nat → Int → Int} {H H' : Int → Int → Prop} {sm sm' : Int} (hH : ∀ c j, 0 ≤ c → c < sm → 0 ≤ j → j ≤ 255 → (H' c j ↔ H c j)) (hsm : sm ≤ sm') : ∀ (d k : Nat) (lo hi i : Int) (t : P_T), N_is τ H sm d k lo hi i t → (∀ f j, lo ≤ j → j < hi → (j ≠ i ∨ (f ≠ 3 ∧ f ≠ 4)) → τ' f j = τ f j) → N_is τ' H' sm' d k lo hi i t := by
  intro d
  induction d with
  | zero => intro k lo hi i t h; exact False.elim h
  | succ d ih =>
    intro k lo hi i t h hf
    obtain ⟨r1, r2, h⟩ := h
    have own : ∀ f, f ≠ 3 → f ≠ 4 → τ' f i = τ f i := fun f f3 f4 => hf f i r1 r2 (.inr ⟨f3, f4⟩)
    refine ⟨r1, r2, ?_⟩
    by_cases k0 : k = 0
    · rw [if_pos k0] at h ⊢
      rcases h with ⟨At, a1, a2, a3, a4⟩ | ⟨u, op, l, hh, a1, a2, a3, a33, a4, a5, a6, a7⟩ | h
      · refine .inl ⟨At, a1, a2, ?_, by rw [own 8 (by decide) (by decide)]; exact a4⟩
        cases At with
        | inl q =>
          show τ' 0 i = q + 2
          rw [own 0 (by decide) (by decide)]
          exact a3
        | inr B =>
          obtain ⟨b1, b2, b3, b4⟩ := (a3 : _ ∧ _ ∧ _ ∧ _)
          show τ' 0 i = 3 ∧ 0 ≤ τ' 7 i ∧ τ' 7 i < sm' ∧ ∀ j, 0 ≤ j → j ≤ 255 → (H' (τ' 7 i) j ↔ B j)
          rw [own 0 (by decide) (by decide), own 7 (by decide) (by decide)]
          exact ⟨b1, b2, by omega, fun j j0 j1 => (hH _ j b2 b3 j0 j1).trans (b4 j j0 j1)⟩
      · refine .inr (.inl ⟨u, op, l, hh, a1, a2, by rw [own 0 (by decide) (by decide)]; exact a3, by rw [own 1 (by decide) (by decide), hf 0 (τ 1 i) (N_is.r a7).1 (by have := (N_is.r a7).2; omega) (.inl (by have := (N_is.r a7).2; omega))]; exact a33, by rw [own 5 (by decide) (by decide)]; exact a4, by rw [own 6 (by decide) (by decide)]; exact a5, by rw [own 8 (by decide) (by decide)]; exact a6, ?_⟩)
        rw [own 1 (by decide) (by decide)]
        exact ih _ _ _ _ _ a7 (fun f j j0 j1 _ => hf f j j0 (by omega) (.inl (by omega)))
      · exact .inr (.inr (ih _ _ _ _ _ h hf))
    · rw [if_neg k0] at h ⊢
      by_cases k1 : k = 1
      · rw [if_pos k1] at h ⊢
        obtain ⟨e, a1, a2, L, a3, ⟨c1, c2, c3⟩, a5⟩ := h
        subst e
        refine ⟨rfl, by rw [own 0 (by decide) (by decide)]; exact a1, by rw [own 8 (by decide) (by decide)]; exact a2, L, a3, ⟨by rw [own 1 (by decide) (by decide)]; exact c1, by rw [own 2 (by decide) (by decide)]; exact c2, ?_⟩, ?_⟩
        · exact N_lk.keep (fun a b x t h => N_is.r h) a5 c3 (fun f j j0 j1 => hf f j (by omega) j1 (.inl (by omega)))
        · exact N_seq.keep (w := -1) (fun a b x t h => N_is.r h) (fun a b x t h g => ih _ _ _ _ _ h g) a5 (fun f j j0 j1 _ => hf f j (by omega) j1 (.inl (by omega)))
      · rw [if_neg k1] at h ⊢
        obtain ⟨e, a1, a2, q, L, a3, ⟨c1, c2, c3⟩, a5⟩ := h
        subst e
        refine ⟨rfl, by rw [own 0 (by decide) (by decide)]; exact a1, by rw [own 8 (by decide) (by decide)]; exact a2, q, L, a3, ⟨by rw [own 1 (by decide) (by decide)]; exact c1, by rw [own 2 (by decide) (by decide)]; exact c2, ?_⟩, ?_⟩
        · exact N_lk.keep (fun a b x t h => N_is.r h) a5 c3 (fun f j j0 j1 => hf f j (by omega) j1 (.inl (by omega)))
        · exact N_seq.keep (w := -1) (fun a b x t h => N_is.r h) (fun a b x t h g => ih _ _ _ _ _ h g) a5 (fun f j j0 j1 _ => hf f j (by omega) j1 (.inl (by omega)))
theorem N_is.up {τ : Nat → Int → Int} {H : Int → Int → Prop} {sm : Int} : ∀ (d k : Nat) (lo hi i : Int) (t : P_T), N_is τ H sm d k lo hi i t → N_is τ H sm (d + 1) k lo hi i t := by
  intro d
  induction d with
  | zero => intro k lo hi i t h; exact False.elim h
  | succ d ih =>
    intro k lo hi i t h
    obtain ⟨r1, r2, h⟩ := h
    refine ⟨r1, r2, ?_⟩
    by_cases k0 : k = 0
    · rw [if_pos k0] at h ⊢
      rcases h with h | ⟨u, op, l, hh, a1, a2, a3, a33, a4, a5, a6, a7⟩ | h
      · exact .inl h
      · exact .inr (.inl ⟨u, op, l, hh, a1, a2, a3, a33, a4, a5, a6, ih _ _ _ _ _ a7⟩)
      · exact .inr (.inr (ih _ _ _ _ _ h))
    · rw [if_neg k0] at h ⊢
      by_cases k1 : k = 1
      · rw [if_pos k1] at h ⊢
        obtain ⟨e, a1, a2, L, a3, c, a5⟩ := h
        exact ⟨e, a1, a2, L, a3, c, N_seq.keep (τ := τ) (τ' := τ) (w := -1) (fun a b x t h => N_is.r h) (fun a b x t h _ => ih _ _ _ _ _ h) a5 (fun _ _ _ _ _ => rfl)⟩
      · rw [if_neg k1] at h ⊢
        obtain ⟨e, a1, a2, q, L, a3, c, a5⟩ := h
        exact ⟨e, a1, a2, q, L, a3, c, N_seq.keep (τ := τ) (τ' := τ) (w := -1) (fun a b x t h => N_is.r h) (fun a b x t h _ => ih _ _ _ _ _ h) a5 (fun _ _ _ _ _ => rfl)⟩
theorem N_is.ups {τ : Nat → Int → Int} {H : Int → Int → Prop} {sm : Int} {d e k : Nat} {lo hi i : Int} {t : P_T} (h : N_is τ H sm d k lo hi i t) (he : d ≤ e) : N_is τ H sm e k lo hi i t := by
  induction he with
  | refl => exact h
  | step _ ih => exact N_is.up _ _ _ _ _ _ ih
theorem N_seq.all {P : Int → Int → Int → P_T → Prop} {Z : P_T → Prop} (hP : ∀ a b x t, P a b x t → Z t) : ∀ {L : List (Int × P_T)} {lo hi : Int}, N_seq P lo hi L → ∀ q ∈ L, Z q.2
  | [], _, _, _, q, hq => absurd hq List.not_mem_nil
  | r :: L, lo, hi, ⟨mid, h1, h2⟩, q, hq => by
    rcases List.mem_cons.mp hq with e | e
    · rw [e]; exact hP _ _ _ _ h1
    · exact N_seq.all hP h2 q e
theorem N_beh_is : ∀ (L : List (Int × P_T)) (c : P_T), T_is c → (∀ q ∈ L, T_is q.2) → T_is (L.foldl (fun c q => T_beh c q.2) c)
  | [], c, hc, _ => hc
  | q :: L, c, hc, h => N_beh_is L _ (hc.beh (h q (List.mem_cons_self ..))) (fun r hr => h r (List.mem_cons_of_mem _ hr))
theorem N_or_is : ∀ (L : List (Int × P_T)) (c : P_T), T_is c → (∀ q ∈ L, T_is q.2) → T_is (L.foldl (fun c q => T_or c q.2) c)
  | [], c, hc, _ => hc
  | q :: L, c, hc, h => N_or_is L _ (hc.or (h q (List.mem_cons_self ..))) (fun r hr => h r (List.mem_cons_of_mem _ hr))
theorem N_is.is {τ : Nat → Int → Int} {H : Int → Int → Prop} {sm : Int} : ∀ (d k : Nat) (lo hi i : Int) (t : P_T), N_is τ H sm d k lo hi i t → T_is t := by
  intro d
  induction d with
  | zero => intro k lo hi i t h; exact False.elim h
  | succ d ih =>
    intro k lo hi i t h
    obtain ⟨r1, r2, h⟩ := h
    by_cases k0 : k = 0
    · rw [if_pos k0] at h
      rcases h with ⟨At, a1, rfl, _⟩ | ⟨u, op, l, hh, a1, rfl, a3, a33, a4, a5, a6, a7⟩ | h
      · exact T_is.atm a1
      · exact T_is.cnt a1 (ih _ _ _ _ _ a7)
      · exact ih _ _ _ _ _ h
    · rw [if_neg k0] at h
      by_cases k1 : k = 1
      · rw [if_pos k1] at h
        obtain ⟨e, a1, a2, L, rfl, c, a5⟩ := h
        exact N_beh_is L _ T_is.emp (N_seq.all (fun a b x t h => ih _ _ _ _ _ h) a5)
      · rw [if_neg k1] at h
        obtain ⟨e, a1, a2, q, L, rfl, c, a5⟩ := h
        have hall := N_seq.all (Z := T_is) (fun a b x t h => ih _ _ _ _ _ h) a5
        exact N_or_is L _ (hall q (List.mem_cons_self ..)) (fun r hr => hall r (List.mem_cons_of_mem _ hr))
theorem T_mn_add {a b : Int} (a0 : 0 ≤ a) (b0 : 0 ≤ b) : T_mn (T_mn a + T_mn b) = T_mn (a + b) := by
  unfold T_mn
  omega
theorem T_mn_add1 {a b : Int} (a0 : 0 ≤ a) (b0 : 0 ≤ b) : T_mn (T_mn a + b) = T_mn (a + b) := by
  unfold T_mn
  omega
theorem T_sz_pos {t : P_T} (h : T_is t) : 0 ≤ T_sz t := (T_sz_b h).1
/-- a node's size -/
theorem N_is.gs {τ : Nat → Int → Int} {H : Int → Int → Prop} {sm : Int} : ∀ {d k : Nat} {lo hi i : Int} {t : P_T}, N_is τ H sm d k lo hi i t → 0 ≤ lo → hi ≤ 168 → T_gs τ i = T_mn (T_sz t) := by
  intro d
  induction d with
  | zero => intro k lo hi i t h; exact False.elim h
  | succ d ih =>
    intro k lo hi i t h l0 h1
    have hi9 := N_is.is _ _ _ _ _ _ h
    have hp := T_sz_pos hi9
    obtain ⟨r1, r2, h⟩ := h
    have key : τ 8 i = T_mn (T_sz t) → T_gs τ i = T_mn (T_sz t) := fun e => by
      have eg : T_g τ 8 i = T_mn (T_sz t) := by
        unfold T_g
        rw [if_pos (show 0 ≤ i ∧ i < 168 by omega), e]
      unfold T_gs
      rw [eg]
      unfold T_mn
      omega
    by_cases k0 : k = 0
    · rw [if_pos k0] at h
      rcases h with ⟨At, a1, rfl, _, a2⟩ | ⟨u, op, l, hh, a1, a2, a3, a33, a4, a5, a6, a7⟩ | h
      · exact key (by rw [a2, T_sz_atm a1]; rfl)
      · exact key a6
      · exact ih h l0 h1
    · rw [if_neg k0] at h
      by_cases k1 : k = 1
      · rw [if_pos k1] at h
        exact key h.2.2.1
      · rw [if_neg k1] at h
        exact key h.2.2.1
