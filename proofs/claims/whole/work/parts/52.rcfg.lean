/-! the reference's operators and sets as those of the trees that stand there -/
theorem P_tail_D {S : Int → Int} {n : Int} (hn : ∀ k, n ≤ k → S k = -1) (t : P_T) (a f p : Int) (o : Option P_T) (c : P_T) (st : P_K) (a1 : a ≤ n) (hf : f = 0) : match P_tail S t a o c st with
    | none => False
    | some (.inl (k, w)) => (D_cnt S a f p).2.2.1 = k ∧ (D_cnt S a f p).2.2.2.1 = w ∧ k ≠ 0 ∧ ((D_cnt S a f p).1 = 0 ∨ (D_cnt S a f p).1 = 1 ∧ w < (D_cnt S a f p).2.1)
    | some (.inr (b, st2)) => (D_cnt S a f p).1 = 1 ∧ (D_cnt S a f p).2.2.1 = 0 ∧ (D_cnt S a f p).2.1 = b ∧ st2 = (o, T_beh c (P_cnj t (D_cnt S a f p).2.2.2.2)) :: st := by
  have h := (D_cnt_P hn a f p a1).1 hf
  unfold P_tail
  cases e : P_cnt S a using P_R_el with
  | bad k w =>
    rw [e] at h
    exact ⟨h.1, h.2.1, h.2.2.1, h.2.2.2.2⟩
  | ok x b =>
    rw [e] at h
    obtain ⟨y1, y2, y3, y4⟩ := (h : _ ∧ _ ∧ _ ∧ _)
    exact ⟨y1, y3, y2, by rw [y4]⟩
theorem P_atom_D {S : Int → Int} {n : Int} (hn : ∀ k, n ≤ k → S k = -1) (n0 : n ≤ 80) (fold : Prop) (a f p : Int) (o : Option P_T) (c : P_T) (st : P_K) (a0 : 0 ≤ a) (a1 : a < n) (hf : f = 0) (d1 : S a ≠ -1) (d2 : S a ≠ 124) (d3 : S a ≠ 40) (d4 : S a ≠ 41) {r1 : Int × Int × Int × Int × P_A} {r2 : Int × Int × Int × Int × Option (Int × Int × Int)} (e1 : r1 = D_atom S fold a f p) (e2 : r2 = D_cnt S r1.2.1 r1.2.2.1 r1.2.2.2.1) : match P_step S fold a ((o, c) :: st) with
    | none => False
    | some (.inl (k, w)) => k ≠ 0 ∧ (r1.1 = 0 → r1.2.2.1 = k ∧ r1.2.2.2.1 = w) ∧ (r1.1 = 1 → r2.2.2.1 = k ∧ r2.2.2.2.1 = w ∧ (r2.1 = 0 ∨ w < r2.2.1))
    | some (.inr (b, st2)) => r1.1 = 1 ∧ r2.1 = 1 ∧ r2.2.2.1 = 0 ∧ r2.2.1 = b ∧ st2 = (o, T_beh c (P_cnj (T_atm r1.2.2.2.2) r2.2.2.2.2)) :: st := by
  obtain ⟨g1, g2, g3, g4⟩ := D_atom_P hn n0 fold a f p a0 a1
  rw [← e1] at g1 g2 g3 g4
  unfold P_step
  dsimp only
  rw [if_neg d1, if_neg d2, if_neg d3, if_neg d4]
  have h := g1.1 hf
  cases e : P_atom S fold a using P_R_el with
  | bad k w =>
    rw [e] at h
    obtain ⟨y1, y2, y3, y4, y5⟩ := (h : _ ∧ _ ∧ _ ∧ _ ∧ _)
    refine ⟨y3, fun _ => ⟨y1, y2⟩, fun hv => ?_⟩
    have hd := (D_cnt_P hn r1.2.1 r1.2.2.1 r1.2.2.2.1 g3).2 (by omega) (by omega)
    have hn2 := D_cnt_n hn r1.2.1 r1.2.2.1 r1.2.2.2.1 g3
    rw [← e2] at hd hn2
    exact ⟨by rw [hd.1, y1], by rw [hd.2.1, y2], by omega⟩
  | ok A b =>
    rw [e] at h
    obtain ⟨y1, y2, y3, y4⟩ := (h : _ ∧ _ ∧ _ ∧ _)
    have ht := P_tail_D hn (T_atm A) r1.2.1 r1.2.2.1 r1.2.2.2.1 o c st g3 y3
    rw [← e2, y2] at ht
    dsimp only
    cases e3 : P_tail S (T_atm A) b o c st using P_M_el with
    | done => rw [e3] at ht; exact ht
    | bad k w =>
      rw [e3] at ht
      obtain ⟨z1, z2, z3, z4⟩ := (ht : _ ∧ _ ∧ _ ∧ _)
      exact ⟨z3, fun h0 => by omega, fun _ => ⟨z1, z2, z4.imp id (fun h => h.2)⟩⟩
    | go b2 st2 =>
      rw [e3] at ht
      obtain ⟨z1, z2, z3, z4⟩ := (ht : _ ∧ _ ∧ _ ∧ _)
      exact ⟨y1, z1, z2, z3, by rw [z4, y4]⟩
def R_tl (s : R_S) (L : P_T) : Prop := (s.1 13 = (T_ops 0 L).length) ∧ (s.1 15 = (T_sets L).length) ∧ (∀ (i : Nat) (h : i < (T_ops 0 L).length), s.2.1 90 i = (T_ops 0 L)[i].1 ∧ s.2.1 91 i = (T_ops 0 L)[i].2.1 ∧ s.2.1 92 i = (T_ops 0 L)[i].2.2) ∧ (∀ (i : Nat) (h : i < (T_sets L).length) (b : Int), 0 ≤ b → b < 256 → (R_has s i b ↔ (T_sets L)[i] b))
theorem R_tl.n13 {s : R_S} {L : P_T} (h : R_tl s L) : s.1 13 = (T_ops 0 L).length := h.1
theorem R_tl.n15 {s : R_S} {L : P_T} (h : R_tl s L) : s.1 15 = (T_sets L).length := h.2.1
theorem R_tl.e {s : R_S} {L : P_T} (h : R_tl s L) : ∀ (i : Nat) (h : i < (T_ops 0 L).length), s.2.1 90 i = (T_ops 0 L)[i].1 ∧ s.2.1 91 i = (T_ops 0 L)[i].2.1 ∧ s.2.1 92 i = (T_ops 0 L)[i].2.2 := h.2.2.1
theorem R_tl.h {s : R_S} {L : P_T} (h : R_tl s L) : ∀ (i : Nat) (h : i < (T_sets L).length) (b : Int), 0 ≤ b → b < 256 → (R_has s i b ↔ (T_sets L)[i] b) := h.2.2.2
theorem R_tl.ap {s w : R_S} {L K : P_T} {E : List (Int × Int × Int)} {Hs : List (Int → Prop)} (h : R_tl s L) (g : R_ap s w E Hs) (hE : T_ops 0 K = T_ops 0 L ++ E) (hS : T_sets K = T_sets L ++ Hs) : R_tl w K := by
  refine ⟨by rw [g.f13, h.n13, hE, List.length_append]; push_cast; rfl, by rw [g.f15, h.n15, hS, List.length_append]; push_cast; rfl, fun i hi => ?_, fun i hi b b0 b1 => ?_⟩
  · simp only [hE] at hi ⊢
    by_cases c : i < (T_ops 0 L).length
    · rw [List.getElem_append_left c, g.p 90 _ (.inl rfl) (by rw [h.n13]; omega), g.p 91 _ (.inr (.inl rfl)) (by rw [h.n13]; omega), g.p 92 _ (.inr (.inr rfl)) (by rw [h.n13]; omega)]
      exact h.e i c
    · rw [List.getElem_append_right (by omega)]
      have := g.e (i - (T_ops 0 L).length) (by rw [List.length_append] at hi; omega)
      rw [h.n13, show (((T_ops 0 L).length : Nat) : Int) + ((i - (T_ops 0 L).length : Nat) : Int) = (i : Int) by omega] at this
      exact this
  · rw [List.getElem_of_eq hS hi]
    rw [hS] at hi
    by_cases c : i < (T_sets L).length
    · rw [List.getElem_append_left c]
      exact (g.k i b (by omega) (by rw [h.n15]; omega) b0 b1).trans (h.h i c b b0 b1)
    · rw [List.getElem_append_right (by omega)]
      have := g.h (i - (T_sets L).length) (by rw [List.length_append] at hi; omega) b b0 b1
      rw [h.n15, show (((T_sets L).length : Nat) : Int) + ((i - (T_sets L).length : Nat) : Int) = (i : Int) by omega] at this
      exact this
theorem R_tl.cong {s w : R_S} {L : P_T} (h : R_tl s L) (e13 : w.1 13 = s.1 13) (e15 : w.1 15 = s.1 15) (q : ∀ q j, q = 90 ∨ q = 91 ∨ q = 92 ∨ q = 93 → w.2.1 q j = s.2.1 q j) : R_tl w L := by
  refine ⟨by rw [e13, h.n13], by rw [e15, h.n15], fun i hi => ?_, fun i hi b b0 b1 => ?_⟩
  · rw [q 90 _ (.inl rfl), q 91 _ (.inr (.inl rfl)), q 92 _ (.inr (.inr (.inl rfl)))]
    exact h.e i hi
  · unfold R_has
    rw [q 93 _ (.inr (.inr (.inr rfl)))]
    exact h.h i hi b b0 b1
theorem R_tl.op1 {s : R_S} {L : P_T} {q : P_O} (h : R_tl s L) (hq : q.1 ≠ 1) : R_tl (R_em s q.1 q.2.1 q.2.2.1) (L ++ [q]) := h.ap (R_ap_em s _ _ _) (by rw [T_ops_app, T_ops_one hq]) (by rw [T_sets_app, T_sets_one hq])
theorem R_tl.emp {s : R_S} {L : P_T} (h : R_tl s L) : R_tl (R_em s 5 0 0) (L ++ T_emp) := h.op1 (q := (5, 0, 0, fun _ => False)) (by decide)
theorem R_tl.or {s : R_S} {L : P_T} {x y : P_T} (h : R_tl s (L ++ x ++ y)) : R_tl (R_em s 7 0 0) (L ++ T_or x y) := by
  have := h.op1 (q := (7, 0, 0, fun _ => False)) (by decide)
  unfold T_or
  simpa using this
theorem R_tl.beh {s : R_S} {L : P_T} {x y : P_T} (h : R_tl s (L ++ x ++ y)) : R_tl (R_em s 6 0 0) (L ++ T_beh x y) := by
  have := h.op1 (q := (6, 0, 0, fun _ => False)) (by decide)
  unfold T_beh
  simpa using this
theorem R_tl.cnp {s w : R_S} {L : P_T} {x : P_T} {e : Option (Int × Int × Int)} (h : R_tl s (L ++ x)) (g : R_cnp s w e) (hn : ∀ q, e = some q → q.1 ≠ 1) : R_tl w (L ++ P_cnj x e) := by
  cases e with
  | none => exact h.ap g (by rw [List.append_nil]; rfl) (by rw [List.append_nil]; rfl)
  | some e =>
    have hn := hn e rfl
    have ec : L ++ P_cnj x (some e) = (L ++ x) ++ [(e.1, e.2.1, e.2.2, fun _ => False)] := by
      show L ++ (x ++ [(e.1, e.2.1, e.2.2, fun _ => False)]) = _
      rw [List.append_assoc]
    exact h.ap g (by rw [ec, T_ops_app, T_ops_one hn]) (by rw [ec, T_sets_app, T_sets_one hn])
theorem R_tl.atp {s w : R_S} {L : P_T} {A : P_A} (h : R_tl s L) (g : R_atp s w A) (hA : ∀ op, A = .inl op → op ≠ 1) : R_tl w (L ++ T_atm A) := by
  cases A with
  | inl op => exact h.ap g (by unfold T_atm; rw [T_ops_app, T_ops_one (hA op rfl)]) (by unfold T_atm; rw [T_sets_app, T_sets_one (hA op rfl)])
  | inr B =>
    refine h.ap g ?_ ?_
    · rw [h.n15]
      unfold T_atm
      rw [T_ops_app]
      show _ ++ (if (1 : Int) = 1 then (1, ((0 + (T_sets L).length : Nat) : Int), 0) :: [] else _) = _
      rw [if_pos rfl, Nat.zero_add]
    · unfold T_atm
      rw [T_sets_app]
      show _ ++ (if (1 : Int) = 1 then B :: [] else _) = _
      rw [if_pos rfl]
/-- what is told of alternatives -/
def R_kp (s : R_S) (st : P_K) : Prop := match st with
  | [] => True
  | (o, _) :: st => s.2.1 94 (st.length : Int) = (match o with | none => 0 | some _ => 1) ∧ R_kp s st
theorem R_kp.cong {s w : R_S} : ∀ {st : P_K}, R_kp s st → (∀ j, j < (st.length : Int) → w.2.1 94 j = s.2.1 94 j) → R_kp w st
  | [], _, _ => trivial
  | (o, c) :: st, h, q => ⟨by rw [q _ (by simp only [List.length_cons]; omega)]; exact h.1, R_kp.cong h.2 (fun j hj => q j (by simp only [List.length_cons]; omega))⟩
def R_cf (s : R_S) (st : P_K) : Prop := (R_tl s (K_code st)) ∧ (R_kp s st) ∧ (s.1 22 = (st.length : Int) - 1)
theorem R_cf.tl {s : R_S} {st : P_K} (h : R_cf s st) : R_tl s (K_code st) := h.1
theorem R_cf.kp {s : R_S} {st : P_K} (h : R_cf s st) : R_kp s st := h.2.1
theorem R_cf.op {s : R_S} {st : P_K} (h : R_cf s st) : s.1 22 = (st.length : Int) - 1 := h.2.2
/-- how much there is -/
def R_nb (s : R_S) (a : Int) : Prop := 0 ≤ s.1 13 ∧ s.1 13 ≤ 3 * a + 1 ∧ 0 ≤ s.1 15 ∧ s.1 15 ≤ a ∧ 0 ≤ s.1 22 ∧ s.1 22 ≤ 10
/-- what one step of the reading does -/
def R_stp (s : R_S) (a f p : Int) (x : Option Value) (s2 : R_S) : Prop := ∃ (v A F P : Int) (w : R_S), x = some (.int (Zi v)) ∧ s2 = R_p3 w A F P ∧ (v = 0 ∨ v = 1) ∧ R_fr [13, 15, 22] [90, 91, 92, 93, 94] s w ∧ a ≤ A ∧ A ≤ s.1 1 ∧ (v = 1 → a < A ∧ R_nb w A) ∧
  (f = 0 → ∀ o c st, R_cf s ((o, c) :: st) → match P_step (D_see s) (s.1 17 ≠ 0) a ((o, c) :: st) with
    | none => v = 0 ∧ F = 0 ∧ A = a ∧ w = s
    | some (.inl (k, wh)) => F = k ∧ P = wh ∧ k ≠ 0 ∧ (v = 0 ∨ wh < A)
    | some (.inr (b, st2)) => v = 1 ∧ F = 0 ∧ A = b ∧ R_cf w st2) ∧ (f ≠ 0 → p < a → F = f ∧ P = p)
theorem R_ap.fr {s w : R_S} {E : List (Int × Int × Int)} {Hs : List (Int → Prop)} (h : R_ap s w E Hs) : R_fr [13, 15, 22] [90, 91, 92, 93, 94] s w := by
  refine ⟨fun b hb => h.f b (fun e => hb (by rw [e]; decide)) (fun e => hb (by rw [e]; decide)), fun q hq j => h.q q j (fun e => hq (by rw [e]; decide)) (fun e => hq (by rw [e]; decide)) (fun e => hq (by rw [e]; decide)) (fun e => hq (by rw [e]; decide)), h.l⟩
theorem R_fr.tr {bs qs : List Nat} {s s2 s3 : R_S} (h : R_fr bs qs s s2) (k : R_fr bs qs s2 s3) : R_fr bs qs s s3 := h.trans k (fun _ e => e.elim id id) (fun _ e => e.elim id id)
theorem R_fr_22 (s : R_S) (z : Int) : R_fr [13, 15, 22] [90, 91, 92, 93, 94] s (R_sF s 22 z) := ⟨fun b hb => R_sF_n _ _ (fun e => hb (by rw [e]; decide)), fun _ _ _ => rfl, rfl⟩
theorem R_fr_94 (s : R_S) (i z : Int) : R_fr [13, 15, 22] [90, 91, 92, 93, 94] s (R_sA s 94 i z) := ⟨fun _ _ => rfl, fun q hq j => R_sA_n s _ _ _ (fun e => hq (by rw [e]; decide)), rfl⟩
theorem R_fr_see {s w : R_S} (h : R_fr [13, 15, 22] [90, 91, 92, 93, 94] s w) : D_see w = D_see s := by
  funext k
  unfold D_see
  rw [h.1 1 (by decide), h.2.1 84 (by decide)]
theorem R_p3_22 (s : R_S) (a f p z : Int) : R_sF (R_p3 s a f p) 22 z = R_p3 (R_sF s 22 z) a f p := by
  have e : R_up (R_up (R_up (R_up s.1 16 a) 18 f) 19 p) 22 z = R_up (R_up (R_up (R_up s.1 22 z) 16 a) 18 f) 19 p := by
    funext b
    unfold R_up
    by_cases c1 : b = 22
    · simp [c1]
    · simp [c1]
  exact congrArg (fun x => (x, s.2)) e
theorem R_ap.kp {s w : R_S} {E : List (Int × Int × Int)} {Hs : List (Int → Prop)} {st : P_K} (h : R_ap s w E Hs) (k : R_kp s st) : R_kp w st := k.cong (fun j _ => h.q 94 j (by decide) (by decide) (by decide) (by decide))
/-- an end of an alternative -/
def R_bar1 (s : R_S) : R_S := if s.2.1 94 (s.1 22) = 0 then s else R_em s 7 0 0
theorem R_cf_orj {s : R_S} {o : Option P_T} {c : P_T} {st : P_K} (h : R_cf s ((o, c) :: st)) (b : s.2.1 94 (s.1 22) ≠ 0 → True) : (s.2.1 94 (s.1 22) = 0 ∧ R_tl s (K_code st ++ P_orj o c) ∨ s.2.1 94 (s.1 22) ≠ 0 ∧ R_tl (R_em s 7 0 0) (K_code st ++ P_orj o c)) := by
  have e := h.kp.1
  have e2 := h.op
  simp only [List.length_cons] at e2
  rw [show s.1 22 = (st.length : Int) by omega]
  have t := h.tl
  unfold K_code at t
  cases o with
  | none =>
    refine .inl ⟨e, ?_⟩
    have t2 : R_tl s (K_code st ++ [] ++ c) := t
    rw [List.append_nil] at t2
    exact t2
  | some x =>
    refine .inr ⟨by rw [e]; exact Int.one_ne_zero, ?_⟩
    have t2 : R_tl s (K_code st ++ x ++ c) := t
    exact t2.or
