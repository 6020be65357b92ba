/-! lists in their order, ranks; the reference: what is told of the choices -/
/-- by the first that differs, a beginning ahead of what goes on -/
def L_lx : List Int → List Int → Prop
  | [], [] => False
  | [], _ :: _ => True
  | _ :: _, [] => False
  | a :: as, b :: bs => a < b ∨ a = b ∧ L_lx as bs
theorem L_lx_irr : ∀ a : List Int, ¬ L_lx a a
  | [] => fun h => h
  | a :: as => fun h => h.elim (fun q => by omega) (fun q => L_lx_irr as q.2)
theorem L_lx_tr : ∀ {a b c : List Int}, L_lx a b → L_lx b c → L_lx a c
  | [], [], _, h, _ => h.elim
  | [], _ :: _, [], _, h => h.elim
  | [], _ :: _, _ :: _, _, _ => trivial
  | _ :: _, [], _, h, _ => h.elim
  | _ :: _, _ :: _, [], _, h => h.elim
  | a :: as, b :: bs, c :: cs, h, g => by
    rcases h with h | ⟨h1, h2⟩
    · rcases g with g | ⟨g1, g2⟩
      · exact .inl (by omega)
      · exact .inl (by omega)
    · rcases g with g | ⟨g1, g2⟩
      · exact .inl (by omega)
      · exact .inr ⟨by omega, L_lx_tr h2 g2⟩
theorem L_lx_tot : ∀ a b : List Int, a = b ∨ L_lx a b ∨ L_lx b a
  | [], [] => .inl rfl
  | [], _ :: _ => .inr (.inl trivial)
  | _ :: _, [] => .inr (.inr trivial)
  | a :: as, b :: bs => by
    rcases Int.lt_trichotomy a b with h | h | h
    · exact .inr (.inl (.inl h))
    · subst h
      rcases L_lx_tot as bs with e | e | e
      · exact .inl (by rw [e])
      · exact .inr (.inl (.inr ⟨rfl, e⟩))
      · exact .inr (.inr (.inr ⟨rfl, e⟩))
    · exact .inr (.inr (.inl h))
theorem D_row_nil (A : Int → Int) {n : Int} (h : n ≤ 0) : D_row A n = [] := by
  unfold D_row
  rw [show n.toNat = 0 by omega]
  rfl
theorem D_row_co (A : Int → Int) {n : Int} (h : 0 < n) : D_row A n = A 0 :: D_row (fun i => A (i + 1)) (n - 1) := by
  unfold D_row
  rw [show n.toNat = (n - 1).toNat + 1 by omega, List.range_succ_eq_map, List.map_cons, List.map_map]
  rfl
theorem D_row_lx (k : Nat) : ∀ (A B : Int → Int) (n m : Int), (k : Int) ≤ n → (k : Int) ≤ m → (∀ j, 0 ≤ j → j < (k : Int) → A j = B j) → (L_lx (D_row A n) (D_row B m) ↔ L_lx (D_row (fun i => A (i + k)) (n - k)) (D_row (fun i => B (i + k)) (m - k))) := by
  induction k with
  | zero =>
    intro A B n m _ _ _
    rw [show (fun i : Int => A (i + ((0 : Nat) : Int))) = A from funext (fun i => congrArg A (Int.add_zero i)), show (fun i : Int => B (i + ((0 : Nat) : Int))) = B from funext (fun i => congrArg B (Int.add_zero i)), show n - ((0 : Nat) : Int) = n by omega, show m - ((0 : Nat) : Int) = m by omega]
  | succ k ih =>
    intro A B n m hn hm he
    rw [D_row_co A (n := n) (by omega), D_row_co B (n := m) (by omega)]
    have e0 := he 0 (by omega) (by omega)
    have := ih (fun i => A (i + 1)) (fun i => B (i + 1)) (n - 1) (m - 1) (by omega) (by omega) (fun j j0 j1 => he (j + 1) (by omega) (by omega))
    show (A 0 < B 0 ∨ A 0 = B 0 ∧ L_lx _ _) ↔ _
    rw [this, show (fun i : Int => A (i + (k : Int) + 1)) = (fun i => A (i + ((k + 1 : Nat) : Int))) from funext (fun i => congrArg A (by omega)), show (fun i : Int => B (i + (k : Int) + 1)) = (fun i => B (i + ((k + 1 : Nat) : Int))) from funext (fun i => congrArg B (by omega)), show n - 1 - (k : Int) = n - ((k + 1 : Nat) : Int) by omega, show m - 1 - (k : Int) = m - ((k + 1 : Nat) : Int) by omega]
    exact ⟨fun q => q.elim (fun z => by omega) (fun z => z.2), fun q => .inr ⟨e0, q⟩⟩
theorem D_lx {A B : Int → Int} {n m k : Int} (k0 : 0 ≤ k) (kn : k ≤ n) (km : k ≤ m) (he : ∀ j, 0 ≤ j → j < k → A j = B j) : (k = n → (L_lx (D_row A n) (D_row B m) ↔ k < m)) ∧ (k < n → k = m → ¬ L_lx (D_row A n) (D_row B m)) ∧ (k < n → k < m → A k ≠ B k → (L_lx (D_row A n) (D_row B m) ↔ A k < B k)) := by
  have e : ((k.toNat : Nat) : Int) = k := by omega
  have h := D_row_lx k.toNat A B n m (by omega) (by omega) (fun j j0 j1 => he j j0 (by omega))
  rw [e] at h
  refine ⟨fun c => ?_, fun c1 c2 => ?_, fun c1 c2 c3 => ?_⟩
  · rw [h, D_row_nil _ (n := n - k) (by omega)]
    by_cases c2 : k < m
    · rw [D_row_co _ (n := m - k) (by omega)]
      exact ⟨fun _ => c2, fun _ => trivial⟩
    · rw [D_row_nil _ (n := m - k) (by omega)]
      exact ⟨fun q => q.elim, fun q => absurd q c2⟩
  · rw [h, D_row_nil _ (n := m - k) (by omega), D_row_co _ (n := n - k) (by omega)]
    exact fun q => q
  · rw [h, D_row_co _ (n := m - k) (by omega), D_row_co _ (n := n - k) (by omega)]
    show (A (0 + k) < B (0 + k) ∨ A (0 + k) = B (0 + k) ∧ _) ↔ _
    rw [Int.zero_add]
    exact ⟨fun q => q.elim id (fun z => absurd z.1 c3), .inl⟩
/-! ranks -/
def X_rk (row : Int → List Int) (m e p : Int) : Prop := D_cn (fun j => L_lx (row j) (row e)) m p
theorem D_cn_ex (P : Int → Prop) : ∀ k : Nat, ∃ m, D_cn P k m
  | 0 => ⟨0, D_cn_0 P⟩
  | k + 1 => by
    obtain ⟨m, h⟩ := D_cn_ex P k
    by_cases c : P k
    · exact ⟨m + 1, by have := D_cn_yes h (by omega) c; rw [show ((k + 1 : Nat) : Int) = (k : Int) + 1 by omega]; exact this⟩
    · exact ⟨m, by have := D_cn_no h c; rw [show ((k + 1 : Nat) : Int) = (k : Int) + 1 by omega]; exact this⟩
theorem D_cn_sub {P Q : Int → Prop} {k m n : Int} (h : D_cn P k m) (g : D_cn Q k n) (hs : ∀ j, 0 ≤ j → j < k → P j → Q j) : m ≤ n := by
  obtain ⟨l, l1, l2, l3⟩ := h
  obtain ⟨r, r1, r2, r3⟩ := g
  have := (S_card_of (A := fun j => j ∈ l) l1 (fun x => Iff.rfl) r.length).mp ⟨r, Nat.le_refl _, fun x hx => by
    obtain ⟨a, b, c⟩ := (l3 x).mp hx
    exact (r3 x).mpr ⟨a, b, hs x a b c⟩⟩
  omega
theorem D_cn_sub1 {P Q : Int → Prop} {k m n e : Int} (h : D_cn P k m) (g : D_cn Q k n) (hs : ∀ j, 0 ≤ j → j < k → P j → Q j) (e0 : 0 ≤ e) (e1 : e < k) (hP : ¬ P e) (hQ : Q e) : m < n := by
  obtain ⟨l, l1, l2, l3⟩ := h
  obtain ⟨r, r1, r2, r3⟩ := g
  have nd : (e :: l).Nodup := List.nodup_cons.mpr ⟨fun q => hP ((l3 e).mp q).2.2, l1⟩
  have := (S_card_of (A := fun j => j ∈ e :: l) nd (fun x => Iff.rfl) r.length).mp ⟨r, Nat.le_refl _, fun x hx => by
    rcases List.mem_cons.mp hx with rfl | hx
    · exact (r3 x).mpr ⟨e0, e1, hQ⟩
    · obtain ⟨a, b, c⟩ := (l3 x).mp hx
      exact (r3 x).mpr ⟨a, b, hs x a b c⟩⟩
  rw [List.length_cons] at this
  omega
section RK
variable {row : Int → List Int} {m : Int}
theorem X_rk_fn {e p q : Int} (h : X_rk row m e p) (g : X_rk row m e q) : p = q := by
  have h1 := D_cn_sub h g (fun _ _ _ z => z)
  have h2 := D_cn_sub g h (fun _ _ _ z => z)
  omega
theorem X_rk_lt {e c p q : Int} (h : X_rk row m e p) (g : X_rk row m c q) (e0 : 0 ≤ e) (e1 : e < m) (hl : L_lx (row e) (row c)) : p < q := D_cn_sub1 h g (fun _ _ _ z => L_lx_tr z hl) e0 e1 (L_lx_irr _) hl
theorem X_rk_b {e p : Int} (h : X_rk row m e p) (e0 : 0 ≤ e) (e1 : e < m) : 0 ≤ p ∧ p < m := by
  have h1 := D_cn_le h (by omega)
  have h2 : D_cn (fun _ => True) m m := by
    refine ⟨(List.range m.toNat).map (fun i : Nat => (i : Int)), List.pairwise_map.mpr (List.Pairwise.imp_of_mem (fun {a b} _ _ hab => by omega) (List.pairwise_lt_range (n := m.toNat))), by rw [List.length_map, List.length_range]; omega, fun j => ?_⟩
    rw [List.mem_map]
    constructor
    · rintro ⟨i, hi, rfl⟩
      have := List.mem_range.mp hi
      exact ⟨by omega, by omega, trivial⟩
    · rintro ⟨j0, j1, _⟩
      exact ⟨j.toNat, List.mem_range.mpr (by omega), by omega⟩
  have h3 := D_cn_sub1 h h2 (fun _ _ _ _ => trivial) e0 e1 (L_lx_irr _) trivial
  omega
theorem X_rk_ne {e c p q : Int} (ds : ∀ i j, 0 ≤ i → i < j → j < m → row i ≠ row j) (h : X_rk row m e p) (g : X_rk row m c q) (e0 : 0 ≤ e) (e1 : e < m) (c0 : 0 ≤ c) (c1 : c < m) (ne : e ≠ c) : p ≠ q := by
  have hr : row e ≠ row c := by
    rcases Int.lt_or_gt_of_ne ne with k | k
    · exact ds e c e0 k c1
    · exact fun z => ds c e c0 k e1 z.symm
  rcases L_lx_tot (row e) (row c) with k | k | k
  · exact absurd k hr
  · have := X_rk_lt h g e0 e1 k; omega
  · have := X_rk_lt g h c0 c1 k; omega
theorem X_rk_on (ds : ∀ i j, 0 ≤ i → i < j → j < m → row i ≠ row j) {p : Int} (p0 : 0 ≤ p) (p1 : p < m) : ∃ e, 0 ≤ e ∧ e < m ∧ X_rk row m e p := by
  refine Classical.byContradiction (fun hno => ?_)
  have hx : ∀ e : Int, ∃ q, X_rk row m e q := fun e => by
    obtain ⟨q, hq⟩ := D_cn_ex (fun j => L_lx (row j) (row e)) m.toNat
    exact ⟨q, by rw [show ((m.toNat : Nat) : Int) = m by omega] at hq; exact hq⟩
  obtain ⟨g, hg⟩ := Classical.axiomOfChoice hx
  have nd : (p :: (List.range m.toNat).map (fun i : Nat => g (i : Int))).Nodup := by
    refine List.nodup_cons.mpr ⟨fun q => ?_, List.pairwise_map.mpr (List.Pairwise.imp_of_mem (fun {a b} ha hb hab => ?_) (List.pairwise_lt_range (n := m.toNat)))⟩
    · obtain ⟨i, hi, e⟩ := List.mem_map.mp q
      have := List.mem_range.mp hi
      exact hno ⟨i, by omega, by omega, by rw [← e]; exact hg _⟩
    · have ha := List.mem_range.mp ha
      have hb := List.mem_range.mp hb
      exact X_rk_ne ds (hg _) (hg _) (by omega) (by omega) (by omega) (by omega) (by omega)
  have := (S_card_of (A := fun j => j ∈ p :: (List.range m.toNat).map (fun i : Nat => g (i : Int))) nd (fun x => Iff.rfl) m.toNat).mp ⟨(List.range m.toNat).map (fun i : Nat => (i : Int)), by rw [List.length_map, List.length_range]; exact Nat.le_refl _, fun x hx => by
    rcases List.mem_cons.mp hx with rfl | hx
    · exact List.mem_map.mpr ⟨x.toNat, List.mem_range.mpr (by omega), by omega⟩
    · obtain ⟨i, hi, rfl⟩ := List.mem_map.mp hx
      have hi := List.mem_range.mp hi
      have := X_rk_b (hg i) (by omega) (by omega)
      exact List.mem_map.mpr ⟨(g i).toNat, List.mem_range.mpr (by omega), by omega⟩⟩
  rw [List.length_cons, List.length_map, List.length_range] at this
  omega
end RK
/-- a list in its order that tells a set -/
def X_srt (L : List (List Int)) (C : P_X) : Prop := L.Pairwise L_lx ∧ ∀ x, C x ↔ x ∈ L
theorem X_srt_eq : ∀ {L K : List (List Int)} {C : P_X}, X_srt L C → X_srt K C → L = K := by
  have main : ∀ (L K : List (List Int)), L.Pairwise L_lx → K.Pairwise L_lx → (∀ x, x ∈ L ↔ x ∈ K) → L = K := by
    intro L
    induction L with
    | nil =>
      intro K _ _ h
      cases K with
      | nil => rfl
      | cons y K => exact absurd ((h y).mpr (List.mem_cons_self ..)) List.not_mem_nil
    | cons x L ih =>
      intro K hL hK h
      cases K with
      | nil => exact absurd ((h x).mp (List.mem_cons_self ..)) List.not_mem_nil
      | cons y K =>
        obtain ⟨hL1, hL2⟩ := List.pairwise_cons.mp hL
        obtain ⟨hK1, hK2⟩ := List.pairwise_cons.mp hK
        have e : x = y := by
          rcases List.mem_cons.mp ((h x).mp (List.mem_cons_self ..)) with e | e1
          · exact e
          · rcases List.mem_cons.mp ((h y).mpr (List.mem_cons_self ..)) with e | e2
            · exact e.symm
            · exact absurd (L_lx_tr (hL1 y e2) (hK1 x e1)) (L_lx_irr _)
        subst e
        rw [ih K hL2 hK2 (fun z => ⟨fun hz => by
          rcases List.mem_cons.mp ((h z).mp (List.mem_cons_of_mem _ hz)) with e | e
          · have q := hL1 z hz
            rw [e] at q
            exact absurd q (L_lx_irr _)
          · exact e, fun hz => by
          rcases List.mem_cons.mp ((h z).mpr (List.mem_cons_of_mem _ hz)) with e | e
          · have q := hK1 z hz
            rw [e] at q
            exact absurd q (L_lx_irr _)
          · exact e⟩)]
  intro L K C h g
  exact main L K h.1 g.1 (fun x => (h.2 x).symm.trans (g.2 x))
/-- the lists of L stand in the array q, their lengths in r, from place b on, d places apart -/
def R_td (u : R_S) (r q : Nat) (b d : Int) (L : List (List Int)) : Prop := ∀ (p : Nat) (h : p < L.length), u.2.1 r (b + p) = L[p].length ∧ ∀ (x : Nat) (h2 : x < L[p].length), u.2.1 q (d * (b + p) + x) = L[p][x]
theorem D_rw_len (A : Int → Int) (n : Int) : (D_row A n).length = n.toNat := by unfold D_row; rw [List.length_map, List.length_range]
theorem X_told {row : Int → List Int} {m : Int} {u : R_S} {r q : Nat} {b d : Int} (m0 : 0 ≤ m) (ds : ∀ i j, 0 ≤ i → i < j → j < m → row i ≠ row j) (h : ∀ e, 0 ≤ e → e < m → ∃ p, X_rk row m e p ∧ u.2.1 r (b + p) = (row e).length ∧ ∀ (x : Nat) (h2 : x < (row e).length), u.2.1 q (d * (b + p) + x) = (row e)[x]) : ∃ L, X_srt L (fun x => ∃ e, 0 ≤ e ∧ e < m ∧ x = row e) ∧ (L.length : Int) = m ∧ R_td u r q b d L := by
  have hon : ∀ p : Int, ∃ e, 0 ≤ p → p < m → 0 ≤ e ∧ e < m ∧ X_rk row m e p := fun p => by
    by_cases c : 0 ≤ p ∧ p < m
    · obtain ⟨e, e0, e1, e2⟩ := X_rk_on ds c.1 c.2
      exact ⟨e, fun _ _ => ⟨e0, e1, e2⟩⟩
    · exact ⟨0, fun a b => absurd ⟨a, b⟩ c⟩
  obtain ⟨g, hg⟩ := Classical.axiomOfChoice hon
  refine ⟨(List.range m.toNat).map (fun p : Nat => row (g (p : Int))), ⟨?_, fun x => ?_⟩, by rw [List.length_map, List.length_range]; omega, fun p hp => ?_⟩
  · refine List.pairwise_map.mpr (List.Pairwise.imp_of_mem (fun {a c} ha hc hac => ?_) (List.pairwise_lt_range (n := m.toNat)))
    have ha := List.mem_range.mp ha
    have hc := List.mem_range.mp hc
    obtain ⟨a0, a1, a2⟩ := hg a (by omega) (by omega)
    obtain ⟨c0, c1, c2⟩ := hg c (by omega) (by omega)
    rcases L_lx_tot (row (g a)) (row (g c)) with k | k | k
    · exfalso
      by_cases e : g a = g c
      · rw [e] at a2
        have := X_rk_fn a2 c2
        omega
      · rcases Int.lt_or_gt_of_ne e with z | z
        · exact ds _ _ a0 z c1 k
        · exact ds _ _ c0 z a1 k.symm
    · exact k
    · have := X_rk_lt c2 a2 c0 c1 k
      omega
  · rw [List.mem_map]
    constructor
    · rintro ⟨e, e0, e1, rfl⟩
      obtain ⟨p, p1, _⟩ := h e e0 e1
      have pb := X_rk_b p1 e0 e1
      refine ⟨p.toNat, List.mem_range.mpr (by omega), ?_⟩
      rw [show ((p.toNat : Nat) : Int) = p by omega]
      obtain ⟨c0, c1, c2⟩ := hg p pb.1 pb.2
      by_cases k : g p = e
      · rw [k]
      · exact absurd rfl (X_rk_ne ds c2 p1 c0 c1 e0 e1 k)
    · rintro ⟨p, hp, rfl⟩
      have hp := List.mem_range.mp hp
      obtain ⟨c0, c1, c2⟩ := hg p (by omega) (by omega)
      exact ⟨_, c0, c1, rfl⟩
  · rw [List.length_map, List.length_range] at hp
    obtain ⟨c0, c1, c2⟩ := hg p (by omega) (by omega)
    obtain ⟨z, z1, z2, z3⟩ := h _ c0 c1
    have := X_rk_fn z1 c2
    subst this
    rw [List.getElem_map, List.getElem_range]
    exact ⟨z2, z3⟩
theorem R_isAhead_lp {d : Nat} {h0 h : E_H} {s : R_S} {sl : Nat} {Φ : E_R → Prop} {c e : Int} (hc : 0 ≤ c ∧ c < 24 ∧ 0 ≤ s.2.1 105 c ∧ s.2.1 105 c ≤ 640) (he : 0 ≤ e ∧ e < 24 ∧ 0 ≤ s.2.1 105 e ∧ s.2.1 105 e ≤ 640) (hs : R_is h0 h s) (kont : ∀ k : Int, 0 ≤ k → k ≤ s.2.1 105 c → k ≤ s.2.1 105 e → (∀ j, 0 ≤ j → j < k → (fun x => s.2.1 106 (640 * c + x)) j = (fun x => s.2.1 106 (640 * e + x)) j) → (k < s.2.1 105 c → k < s.2.1 105 e → (fun x => s.2.1 106 (640 * c + x)) k ≠ (fun x => s.2.1 106 (640 * e + x)) k) → B_R d E_m270 (63, [(3, .int (Zi k)), (5, .int (Zi (s.2.1 105 e))), (4, .int (Zi (s.2.1 105 c))), (0, .ref 83), (1, .int (Zi c)), (2, .int (Zi e))], []) h sl Φ) : ∀ (t : Nat) (k : Int), s.2.1 105 c - k < t → 0 ≤ k → k ≤ s.2.1 105 c → k ≤ s.2.1 105 e → (∀ j, 0 ≤ j → j < k → (fun x => s.2.1 106 (640 * c + x)) j = (fun x => s.2.1 106 (640 * e + x)) j) → B_R d E_m270 (18, [(3, .int (Zi k)), (5, .int (Zi (s.2.1 105 e))), (4, .int (Zi (s.2.1 105 c))), (0, .ref 83), (1, .int (Zi c)), (2, .int (Zi e))], []) h sl Φ := by
  intro t
  induction t with
  | zero => intro k ht k0 k1 k2 hk; omega
  | succ t ih =>
    intro k ht k0 k1 k2 hk
    have zk : Zr k := ⟨by omega, by omega⟩
    have zn : Zr (s.2.1 105 c) := hs.zA _ _
    have zm : Zr (s.2.1 105 e) := hs.zA _ _
    refine Z_go (f2 := (19, [(3, .int (Zi k)), (5, .int (Zi (s.2.1 105 e))), (4, .int (Zi (s.2.1 105 c))), (0, .ref 83), (1, .int (Zi c)), (2, .int (Zi e))], [.int (Zi k)])) (fun _ => rfl) ?_
    refine Z_go (f2 := (21, [(3, .int (Zi k)), (5, .int (Zi (s.2.1 105 e))), (4, .int (Zi (s.2.1 105 c))), (0, .ref 83), (1, .int (Zi c)), (2, .int (Zi e))], [.int (Zi (s.2.1 105 c)), .int (Zi k)])) (fun _ => rfl) ?_
    refine Z_cge rfl rfl (by first | exact hs.zF _ | exact Zor_r _ _ | exact hs.zA _ _ | assumption | exact zA _ _ | exact zS _ | exact Zr_not (hs.zA _ _) | exact ⟨by omega, by omega⟩) (by first | exact hs.zF _ | exact Zor_r _ _ | exact hs.zA _ _ | assumption | exact zA _ _ | exact zS _ | exact Zr_not (hs.zA _ _) | exact ⟨by omega, by omega⟩) (fun c1 => ?_) (fun c1 => ?_)
    · refine B_loc (K := [(3, .int (Zi k)), (5, .int (Zi (s.2.1 105 e))), (4, .int (Zi (s.2.1 105 c))), (0, .ref 83), (1, .int (Zi c)), (2, .int (Zi e))]) (N_all_sub ⟨rfl, rfl, rfl, rfl, rfl, rfl, trivial⟩) (show ([3, 5, 4, 0, 1, 2] : List Nat).Nodup by decide) ?_
      exact kont k k0 k1 k2 hk (fun a b => by first | omega | assumption)
    · refine Z_go (f2 := (25, [(3, .int (Zi k)), (5, .int (Zi (s.2.1 105 e))), (4, .int (Zi (s.2.1 105 c))), (0, .ref 83), (1, .int (Zi c)), (2, .int (Zi e))], [.int (Zi k)])) (fun _ => rfl) ?_
      refine Z_go (f2 := (27, [(3, .int (Zi k)), (5, .int (Zi (s.2.1 105 e))), (4, .int (Zi (s.2.1 105 c))), (0, .ref 83), (1, .int (Zi c)), (2, .int (Zi e))], [.int (Zi (s.2.1 105 e)), .int (Zi k)])) (fun _ => rfl) ?_
      refine Z_cge rfl rfl (by first | exact hs.zF _ | exact Zor_r _ _ | exact hs.zA _ _ | assumption | exact zA _ _ | exact zS _ | exact Zr_not (hs.zA _ _) | exact ⟨by omega, by omega⟩) (by first | exact hs.zF _ | exact Zor_r _ _ | exact hs.zA _ _ | assumption | exact zA _ _ | exact zS _ | exact Zr_not (hs.zA _ _) | exact ⟨by omega, by omega⟩) (fun c2 => ?_) (fun c2 => ?_)
      · refine B_loc (K := [(3, .int (Zi k)), (5, .int (Zi (s.2.1 105 e))), (4, .int (Zi (s.2.1 105 c))), (0, .ref 83), (1, .int (Zi c)), (2, .int (Zi e))]) (N_all_sub ⟨rfl, rfl, rfl, rfl, rfl, rfl, trivial⟩) (show ([3, 5, 4, 0, 1, 2] : List Nat).Nodup by decide) ?_
        exact kont k k0 k1 k2 hk (fun a b => by first | omega | assumption)
      · refine Z_go (f2 := (31, [(3, .int (Zi k)), (5, .int (Zi (s.2.1 105 e))), (4, .int (Zi (s.2.1 105 c))), (0, .ref 83), (1, .int (Zi c)), (2, .int (Zi e))], [.ref 83])) (fun _ => rfl) ?_
        refine R_gr (q := 104) rfl hs rfl ?_
        show B_R _ _ (34, [(3, .int (Zi k)), (5, .int (Zi (s.2.1 105 e))), (4, .int (Zi (s.2.1 105 c))), (0, .ref 83), (1, .int (Zi c)), (2, .int (Zi e))], [.ref 106]) _ _ _
        refine Z_go (f2 := (37, [(3, .int (Zi k)), (5, .int (Zi (s.2.1 105 e))), (4, .int (Zi (s.2.1 105 c))), (0, .ref 83), (1, .int (Zi c)), (2, .int (Zi e))], [.int (Zi 640), .ref 106])) (fun _ => rfl) ?_
        refine Z_go (f2 := (38, [(3, .int (Zi k)), (5, .int (Zi (s.2.1 105 e))), (4, .int (Zi (s.2.1 105 c))), (0, .ref 83), (1, .int (Zi c)), (2, .int (Zi e))], [.int (Zi c), .int (Zi 640), .ref 106])) (fun _ => rfl) ?_
        refine Z_imul rfl ?_
        refine Z_go (f2 := (40, [(3, .int (Zi k)), (5, .int (Zi (s.2.1 105 e))), (4, .int (Zi (s.2.1 105 c))), (0, .ref 83), (1, .int (Zi c)), (2, .int (Zi e))], [.int (Zi k), .int (Zi (640 * c)), .ref 106])) (fun _ => rfl) ?_
        refine Z_iadd rfl ?_
        refine R_ia (q := 22) rfl hs rfl rfl (by omega) (by omega) (by decide) ?_
        refine Z_go (f2 := (43, [(3, .int (Zi k)), (5, .int (Zi (s.2.1 105 e))), (4, .int (Zi (s.2.1 105 c))), (0, .ref 83), (1, .int (Zi c)), (2, .int (Zi e))], [.ref 83, .int (Zi (s.2.1 106 (640 * c + k)))])) (fun _ => rfl) ?_
        refine R_gr (q := 104) rfl hs rfl ?_
        show B_R _ _ (46, [(3, .int (Zi k)), (5, .int (Zi (s.2.1 105 e))), (4, .int (Zi (s.2.1 105 c))), (0, .ref 83), (1, .int (Zi c)), (2, .int (Zi e))], [.ref 106, .int (Zi (s.2.1 106 (640 * c + k)))]) _ _ _
        refine Z_go (f2 := (49, [(3, .int (Zi k)), (5, .int (Zi (s.2.1 105 e))), (4, .int (Zi (s.2.1 105 c))), (0, .ref 83), (1, .int (Zi c)), (2, .int (Zi e))], [.int (Zi 640), .ref 106, .int (Zi (s.2.1 106 (640 * c + k)))])) (fun _ => rfl) ?_
        refine Z_go (f2 := (50, [(3, .int (Zi k)), (5, .int (Zi (s.2.1 105 e))), (4, .int (Zi (s.2.1 105 c))), (0, .ref 83), (1, .int (Zi c)), (2, .int (Zi e))], [.int (Zi e), .int (Zi 640), .ref 106, .int (Zi (s.2.1 106 (640 * c + k)))])) (fun _ => rfl) ?_
        refine Z_imul rfl ?_
        refine Z_go (f2 := (52, [(3, .int (Zi k)), (5, .int (Zi (s.2.1 105 e))), (4, .int (Zi (s.2.1 105 c))), (0, .ref 83), (1, .int (Zi c)), (2, .int (Zi e))], [.int (Zi k), .int (Zi (640 * e)), .ref 106, .int (Zi (s.2.1 106 (640 * c + k)))])) (fun _ => rfl) ?_
        refine Z_iadd rfl ?_
        refine R_ia (q := 22) rfl hs rfl rfl (by omega) (by omega) (by decide) ?_
        refine Z_cne rfl rfl (by first | exact hs.zF _ | exact Zor_r _ _ | exact hs.zA _ _ | assumption | exact zA _ _ | exact zS _ | exact Zr_not (hs.zA _ _) | exact ⟨by omega, by omega⟩) (by first | exact hs.zF _ | exact Zor_r _ _ | exact hs.zA _ _ | assumption | exact zA _ _ | exact zS _ | exact Zr_not (hs.zA _ _) | exact ⟨by omega, by omega⟩) (fun c3 => ?_) (fun c3 => ?_)
        · refine B_loc (K := [(3, .int (Zi k)), (5, .int (Zi (s.2.1 105 e))), (4, .int (Zi (s.2.1 105 c))), (0, .ref 83), (1, .int (Zi c)), (2, .int (Zi e))]) (N_all_sub ⟨rfl, rfl, rfl, rfl, rfl, rfl, trivial⟩) (show ([3, 5, 4, 0, 1, 2] : List Nat).Nodup by decide) ?_
          exact kont k k0 k1 k2 hk (fun a b => by first | omega | assumption)
        · refine Z_iinc (L2 := [(3, .int (Zi (k + 1))), (5, .int (Zi (s.2.1 105 e))), (4, .int (Zi (s.2.1 105 c))), (0, .ref 83), (1, .int (Zi c)), (2, .int (Zi e))]) rfl rfl (by decide) rfl ?_
          refine Z_go (f2 := (18, [(3, .int (Zi (k + 1))), (5, .int (Zi (s.2.1 105 e))), (4, .int (Zi (s.2.1 105 c))), (0, .ref 83), (1, .int (Zi c)), (2, .int (Zi e))], [])) (fun _ => rfl) ?_
          refine B_loc (K := [(3, .int (Zi (k + 1))), (5, .int (Zi (s.2.1 105 e))), (4, .int (Zi (s.2.1 105 c))), (0, .ref 83), (1, .int (Zi c)), (2, .int (Zi e))]) (N_all_sub ⟨rfl, rfl, rfl, rfl, rfl, rfl, trivial⟩) (show ([3, 5, 4, 0, 1, 2] : List Nat).Nodup by decide) ?_
          exact ih (k + 1) (by omega) (by omega) (by omega) (by omega) (fun j j0 j1 => by
            by_cases z : j = k
            · rw [z]; assumption
            · exact hk j j0 (by omega))
theorem R_isAhead (d : Nat) (s : R_S) {c e : Int}  (zc : Zr c) (ze : Zr e) (hc : 0 ≤ c ∧ c < 24 ∧ 0 ≤ s.2.1 105 c ∧ s.2.1 105 c ≤ 640) (he : 0 ≤ e ∧ e < 24 ∧ 0 ≤ s.2.1 105 e ∧ s.2.1 105 e ≤ 640) : R_ok (d + 1) 270 [.int (Zi c), .int (Zi e)] s (fun x s2 => s2 = s ∧ ∃ v : Int, x = some (.int (Zi v)) ∧ (v = 1 ∧ L_lx (D_row (fun x => s.2.1 106 (640 * c + x)) (s.2.1 105 c)) (D_row (fun x => s.2.1 106 (640 * e + x)) (s.2.1 105 e)) ∨ v = 0 ∧ ¬ L_lx (D_row (fun x => s.2.1 106 (640 * c + x)) (s.2.1 105 c)) (D_row (fun x => s.2.1 106 (640 * e + x)) (s.2.1 105 e)))) := by
  refine R_enter (M := E_m270) rfl (Nat.le_of_ble_eq_true rfl) (fun h0 h hs => ?_)
  show B_R d _ (0, [(0, .ref 83), (1, .int (Zi c)), (2, .int (Zi e))], []) _ _ _
  refine Z_go (f2 := (1, [(0, .ref 83), (1, .int (Zi c)), (2, .int (Zi e))], [.int (Zi 0)])) (fun _ => rfl) ?_
  refine Z_go (f2 := (2, [(3, .int (Zi 0)), (0, .ref 83), (1, .int (Zi c)), (2, .int (Zi e))], [])) (fun _ => rfl) ?_
  refine Z_go (f2 := (3, [(3, .int (Zi 0)), (0, .ref 83), (1, .int (Zi c)), (2, .int (Zi e))], [.ref 83])) (fun _ => rfl) ?_
  refine R_gr (q := 103) rfl hs rfl ?_
  show B_R _ _ (6, [(3, .int (Zi 0)), (0, .ref 83), (1, .int (Zi c)), (2, .int (Zi e))], [.ref 105]) _ _ _
  refine Z_go (f2 := (7, [(3, .int (Zi 0)), (0, .ref 83), (1, .int (Zi c)), (2, .int (Zi e))], [.int (Zi c), .ref 105])) (fun _ => rfl) ?_
  refine R_ia (q := 21) rfl hs rfl rfl (by omega) (by omega) (by decide) ?_
  refine Z_go (f2 := (10, [(4, .int (Zi (s.2.1 105 c))), (3, .int (Zi 0)), (0, .ref 83), (1, .int (Zi c)), (2, .int (Zi e))], [])) (fun _ => rfl) ?_
  refine Z_go (f2 := (11, [(4, .int (Zi (s.2.1 105 c))), (3, .int (Zi 0)), (0, .ref 83), (1, .int (Zi c)), (2, .int (Zi e))], [.ref 83])) (fun _ => rfl) ?_
  refine R_gr (q := 103) rfl hs rfl ?_
  show B_R _ _ (14, [(4, .int (Zi (s.2.1 105 c))), (3, .int (Zi 0)), (0, .ref 83), (1, .int (Zi c)), (2, .int (Zi e))], [.ref 105]) _ _ _
  refine Z_go (f2 := (15, [(4, .int (Zi (s.2.1 105 c))), (3, .int (Zi 0)), (0, .ref 83), (1, .int (Zi c)), (2, .int (Zi e))], [.int (Zi e), .ref 105])) (fun _ => rfl) ?_
  refine R_ia (q := 21) rfl hs rfl rfl (by omega) (by omega) (by decide) ?_
  refine Z_go (f2 := (18, [(5, .int (Zi (s.2.1 105 e))), (4, .int (Zi (s.2.1 105 c))), (3, .int (Zi 0)), (0, .ref 83), (1, .int (Zi c)), (2, .int (Zi e))], [])) (fun _ => rfl) ?_
  refine B_loc (K := [(3, .int (Zi 0)), (5, .int (Zi (s.2.1 105 e))), (4, .int (Zi (s.2.1 105 c))), (0, .ref 83), (1, .int (Zi c)), (2, .int (Zi e))]) (N_all_sub ⟨rfl, rfl, rfl, rfl, rfl, rfl, trivial⟩) (show ([3, 5, 4, 0, 1, 2] : List Nat).Nodup by decide) ?_
  refine R_isAhead_lp hc he hs (fun k k0 k1 k2 hk k3 => ?_) ((s.2.1 105 c).toNat + 1) 0 (by omega) (by omega) (by omega) (by omega) (fun j j0 j1 => by omega)
  have zn : Zr (s.2.1 105 c) := hs.zA _ _
  have zm : Zr (s.2.1 105 e) := hs.zA _ _
  have zk : Zr k := ⟨by omega, by omega⟩
  refine Z_go (f2 := (64, [(3, .int (Zi k)), (5, .int (Zi (s.2.1 105 e))), (4, .int (Zi (s.2.1 105 c))), (0, .ref 83), (1, .int (Zi c)), (2, .int (Zi e))], [.int (Zi k)])) (fun _ => rfl) ?_
  refine Z_go (f2 := (66, [(3, .int (Zi k)), (5, .int (Zi (s.2.1 105 e))), (4, .int (Zi (s.2.1 105 c))), (0, .ref 83), (1, .int (Zi c)), (2, .int (Zi e))], [.int (Zi (s.2.1 105 c)), .int (Zi k)])) (fun _ => rfl) ?_
  refine Z_cne rfl rfl (by first | exact hs.zF _ | exact Zor_r _ _ | exact hs.zA _ _ | assumption | exact zA _ _ | exact zS _ | exact Zr_not (hs.zA _ _) | exact ⟨by omega, by omega⟩) (by first | exact hs.zF _ | exact Zor_r _ _ | exact hs.zA _ _ | assumption | exact zA _ _ | exact zS _ | exact Zr_not (hs.zA _ _) | exact ⟨by omega, by omega⟩) (fun c1 => ?_) (fun c1 => ?_)
  · refine Z_go (f2 := (84, [(3, .int (Zi k)), (5, .int (Zi (s.2.1 105 e))), (4, .int (Zi (s.2.1 105 c))), (0, .ref 83), (1, .int (Zi c)), (2, .int (Zi e))], [.int (Zi k)])) (fun _ => rfl) ?_
    refine Z_go (f2 := (86, [(3, .int (Zi k)), (5, .int (Zi (s.2.1 105 e))), (4, .int (Zi (s.2.1 105 c))), (0, .ref 83), (1, .int (Zi c)), (2, .int (Zi e))], [.int (Zi (s.2.1 105 e)), .int (Zi k)])) (fun _ => rfl) ?_
    refine Z_cge rfl rfl (by first | exact hs.zF _ | exact Zor_r _ _ | exact hs.zA _ _ | assumption | exact zA _ _ | exact zS _ | exact Zr_not (hs.zA _ _) | exact ⟨by omega, by omega⟩) (by first | exact hs.zF _ | exact Zor_r _ _ | exact hs.zA _ _ | assumption | exact zA _ _ | exact zS _ | exact Zr_not (hs.zA _ _) | exact ⟨by omega, by omega⟩) (fun c2 => ?_) (fun c2 => ?_)
    · refine Z_go (f2 := (121, [(3, .int (Zi k)), (5, .int (Zi (s.2.1 105 e))), (4, .int (Zi (s.2.1 105 c))), (0, .ref 83), (1, .int (Zi c)), (2, .int (Zi e))], [.int (Zi 0)])) (fun _ => rfl) ?_
      refine Z_iret rfl rfl (by first | rfl | decide | exact narrow_b01 (by omega)) ⟨_, hs, ?_, rfl⟩
      refine ⟨rfl, _, rfl, ?_⟩
      obtain ⟨x1, x2, x3⟩ := D_lx (A := (fun x => s.2.1 106 (640 * c + x))) (B := (fun x => s.2.1 106 (640 * e + x))) k0 k1 k2 hk
      first
      | exact .inl ⟨rfl, (x1 (by omega)).mpr (by omega)⟩
      | exact .inl ⟨rfl, (x3 (by omega) (by omega) (k3 (by omega) (by omega))).mpr (by assumption)⟩
      | exact .inr ⟨rfl, fun q => by have := (x1 (by omega)).mp q; omega⟩
      | exact .inr ⟨rfl, x2 (by omega) (by omega)⟩
      | exact .inr ⟨rfl, fun q => absurd ((x3 (by omega) (by omega) (k3 (by omega) (by omega))).mp q) (by show ¬ _; omega)⟩
    · refine Z_go (f2 := (90, [(3, .int (Zi k)), (5, .int (Zi (s.2.1 105 e))), (4, .int (Zi (s.2.1 105 c))), (0, .ref 83), (1, .int (Zi c)), (2, .int (Zi e))], [.ref 83])) (fun _ => rfl) ?_
      refine R_gr (q := 104) rfl hs rfl ?_
      show B_R _ _ (93, [(3, .int (Zi k)), (5, .int (Zi (s.2.1 105 e))), (4, .int (Zi (s.2.1 105 c))), (0, .ref 83), (1, .int (Zi c)), (2, .int (Zi e))], [.ref 106]) _ _ _
      refine Z_go (f2 := (96, [(3, .int (Zi k)), (5, .int (Zi (s.2.1 105 e))), (4, .int (Zi (s.2.1 105 c))), (0, .ref 83), (1, .int (Zi c)), (2, .int (Zi e))], [.int (Zi 640), .ref 106])) (fun _ => rfl) ?_
      refine Z_go (f2 := (97, [(3, .int (Zi k)), (5, .int (Zi (s.2.1 105 e))), (4, .int (Zi (s.2.1 105 c))), (0, .ref 83), (1, .int (Zi c)), (2, .int (Zi e))], [.int (Zi c), .int (Zi 640), .ref 106])) (fun _ => rfl) ?_
      refine Z_imul rfl ?_
      refine Z_go (f2 := (99, [(3, .int (Zi k)), (5, .int (Zi (s.2.1 105 e))), (4, .int (Zi (s.2.1 105 c))), (0, .ref 83), (1, .int (Zi c)), (2, .int (Zi e))], [.int (Zi k), .int (Zi (640 * c)), .ref 106])) (fun _ => rfl) ?_
      refine Z_iadd rfl ?_
      refine R_ia (q := 22) rfl hs rfl rfl (by omega) (by omega) (by decide) ?_
      refine Z_go (f2 := (102, [(3, .int (Zi k)), (5, .int (Zi (s.2.1 105 e))), (4, .int (Zi (s.2.1 105 c))), (0, .ref 83), (1, .int (Zi c)), (2, .int (Zi e))], [.ref 83, .int (Zi (s.2.1 106 (640 * c + k)))])) (fun _ => rfl) ?_
      refine R_gr (q := 104) rfl hs rfl ?_
      show B_R _ _ (105, [(3, .int (Zi k)), (5, .int (Zi (s.2.1 105 e))), (4, .int (Zi (s.2.1 105 c))), (0, .ref 83), (1, .int (Zi c)), (2, .int (Zi e))], [.ref 106, .int (Zi (s.2.1 106 (640 * c + k)))]) _ _ _
      refine Z_go (f2 := (108, [(3, .int (Zi k)), (5, .int (Zi (s.2.1 105 e))), (4, .int (Zi (s.2.1 105 c))), (0, .ref 83), (1, .int (Zi c)), (2, .int (Zi e))], [.int (Zi 640), .ref 106, .int (Zi (s.2.1 106 (640 * c + k)))])) (fun _ => rfl) ?_
      refine Z_go (f2 := (109, [(3, .int (Zi k)), (5, .int (Zi (s.2.1 105 e))), (4, .int (Zi (s.2.1 105 c))), (0, .ref 83), (1, .int (Zi c)), (2, .int (Zi e))], [.int (Zi e), .int (Zi 640), .ref 106, .int (Zi (s.2.1 106 (640 * c + k)))])) (fun _ => rfl) ?_
      refine Z_imul rfl ?_
      refine Z_go (f2 := (111, [(3, .int (Zi k)), (5, .int (Zi (s.2.1 105 e))), (4, .int (Zi (s.2.1 105 c))), (0, .ref 83), (1, .int (Zi c)), (2, .int (Zi e))], [.int (Zi k), .int (Zi (640 * e)), .ref 106, .int (Zi (s.2.1 106 (640 * c + k)))])) (fun _ => rfl) ?_
      refine Z_iadd rfl ?_
      refine R_ia (q := 22) rfl hs rfl rfl (by omega) (by omega) (by decide) ?_
      refine Z_cge rfl rfl (by first | exact hs.zF _ | exact Zor_r _ _ | exact hs.zA _ _ | assumption | exact zA _ _ | exact zS _ | exact Zr_not (hs.zA _ _) | exact ⟨by omega, by omega⟩) (by first | exact hs.zF _ | exact Zor_r _ _ | exact hs.zA _ _ | assumption | exact zA _ _ | exact zS _ | exact Zr_not (hs.zA _ _) | exact ⟨by omega, by omega⟩) (fun c3 => ?_) (fun c3 => ?_)
      · refine Z_go (f2 := (121, [(3, .int (Zi k)), (5, .int (Zi (s.2.1 105 e))), (4, .int (Zi (s.2.1 105 c))), (0, .ref 83), (1, .int (Zi c)), (2, .int (Zi e))], [.int (Zi 0)])) (fun _ => rfl) ?_
        refine Z_iret rfl rfl (by first | rfl | decide | exact narrow_b01 (by omega)) ⟨_, hs, ?_, rfl⟩
        refine ⟨rfl, _, rfl, ?_⟩
        obtain ⟨x1, x2, x3⟩ := D_lx (A := (fun x => s.2.1 106 (640 * c + x))) (B := (fun x => s.2.1 106 (640 * e + x))) k0 k1 k2 hk
        first
        | exact .inl ⟨rfl, (x1 (by omega)).mpr (by omega)⟩
        | exact .inl ⟨rfl, (x3 (by omega) (by omega) (k3 (by omega) (by omega))).mpr (by assumption)⟩
        | exact .inr ⟨rfl, fun q => by have := (x1 (by omega)).mp q; omega⟩
        | exact .inr ⟨rfl, x2 (by omega) (by omega)⟩
        | exact .inr ⟨rfl, fun q => absurd ((x3 (by omega) (by omega) (k3 (by omega) (by omega))).mp q) (by show ¬ _; omega)⟩
      · refine Z_go (f2 := (117, [(3, .int (Zi k)), (5, .int (Zi (s.2.1 105 e))), (4, .int (Zi (s.2.1 105 c))), (0, .ref 83), (1, .int (Zi c)), (2, .int (Zi e))], [.int (Zi 1)])) (fun _ => rfl) ?_
        refine Z_go (f2 := (121, [(3, .int (Zi k)), (5, .int (Zi (s.2.1 105 e))), (4, .int (Zi (s.2.1 105 c))), (0, .ref 83), (1, .int (Zi c)), (2, .int (Zi e))], [.int (Zi 1)])) (fun _ => rfl) ?_
        refine Z_iret rfl rfl (by first | rfl | decide | exact narrow_b01 (by omega)) ⟨_, hs, ?_, rfl⟩
        refine ⟨rfl, _, rfl, ?_⟩
        obtain ⟨x1, x2, x3⟩ := D_lx (A := (fun x => s.2.1 106 (640 * c + x))) (B := (fun x => s.2.1 106 (640 * e + x))) k0 k1 k2 hk
        first
        | exact .inl ⟨rfl, (x1 (by omega)).mpr (by omega)⟩
        | exact .inl ⟨rfl, (x3 (by omega) (by omega) (k3 (by omega) (by omega))).mpr (by assumption)⟩
        | exact .inr ⟨rfl, fun q => by have := (x1 (by omega)).mp q; omega⟩
        | exact .inr ⟨rfl, x2 (by omega) (by omega)⟩
        | exact .inr ⟨rfl, fun q => absurd ((x3 (by omega) (by omega) (k3 (by omega) (by omega))).mp q) (by show ¬ _; omega)⟩
  · refine Z_go (f2 := (70, [(3, .int (Zi k)), (5, .int (Zi (s.2.1 105 e))), (4, .int (Zi (s.2.1 105 c))), (0, .ref 83), (1, .int (Zi c)), (2, .int (Zi e))], [.int (Zi k)])) (fun _ => rfl) ?_
    refine Z_go (f2 := (72, [(3, .int (Zi k)), (5, .int (Zi (s.2.1 105 e))), (4, .int (Zi (s.2.1 105 c))), (0, .ref 83), (1, .int (Zi c)), (2, .int (Zi e))], [.int (Zi (s.2.1 105 e)), .int (Zi k)])) (fun _ => rfl) ?_
    refine Z_cge rfl rfl (by first | exact hs.zF _ | exact Zor_r _ _ | exact hs.zA _ _ | assumption | exact zA _ _ | exact zS _ | exact Zr_not (hs.zA _ _) | exact ⟨by omega, by omega⟩) (by first | exact hs.zF _ | exact Zor_r _ _ | exact hs.zA _ _ | assumption | exact zA _ _ | exact zS _ | exact Zr_not (hs.zA _ _) | exact ⟨by omega, by omega⟩) (fun c4 => ?_) (fun c4 => ?_)
    · refine Z_go (f2 := (80, [(3, .int (Zi k)), (5, .int (Zi (s.2.1 105 e))), (4, .int (Zi (s.2.1 105 c))), (0, .ref 83), (1, .int (Zi c)), (2, .int (Zi e))], [.int (Zi 0)])) (fun _ => rfl) ?_
      refine Z_go (f2 := (121, [(3, .int (Zi k)), (5, .int (Zi (s.2.1 105 e))), (4, .int (Zi (s.2.1 105 c))), (0, .ref 83), (1, .int (Zi c)), (2, .int (Zi e))], [.int (Zi 0)])) (fun _ => rfl) ?_
      refine Z_iret rfl rfl (by first | rfl | decide | exact narrow_b01 (by omega)) ⟨_, hs, ?_, rfl⟩
      refine ⟨rfl, _, rfl, ?_⟩
      obtain ⟨x1, x2, x3⟩ := D_lx (A := (fun x => s.2.1 106 (640 * c + x))) (B := (fun x => s.2.1 106 (640 * e + x))) k0 k1 k2 hk
      first
      | exact .inl ⟨rfl, (x1 (by omega)).mpr (by omega)⟩
      | exact .inl ⟨rfl, (x3 (by omega) (by omega) (k3 (by omega) (by omega))).mpr (by assumption)⟩
      | exact .inr ⟨rfl, fun q => by have := (x1 (by omega)).mp q; omega⟩
      | exact .inr ⟨rfl, x2 (by omega) (by omega)⟩
      | exact .inr ⟨rfl, fun q => absurd ((x3 (by omega) (by omega) (k3 (by omega) (by omega))).mp q) (by show ¬ _; omega)⟩
    · refine Z_go (f2 := (76, [(3, .int (Zi k)), (5, .int (Zi (s.2.1 105 e))), (4, .int (Zi (s.2.1 105 c))), (0, .ref 83), (1, .int (Zi c)), (2, .int (Zi e))], [.int (Zi 1)])) (fun _ => rfl) ?_
      refine Z_go (f2 := (121, [(3, .int (Zi k)), (5, .int (Zi (s.2.1 105 e))), (4, .int (Zi (s.2.1 105 c))), (0, .ref 83), (1, .int (Zi c)), (2, .int (Zi e))], [.int (Zi 1)])) (fun _ => rfl) ?_
      refine Z_iret rfl rfl (by first | rfl | decide | exact narrow_b01 (by omega)) ⟨_, hs, ?_, rfl⟩
      refine ⟨rfl, _, rfl, ?_⟩
      obtain ⟨x1, x2, x3⟩ := D_lx (A := (fun x => s.2.1 106 (640 * c + x))) (B := (fun x => s.2.1 106 (640 * e + x))) k0 k1 k2 hk
      first
      | exact .inl ⟨rfl, (x1 (by omega)).mpr (by omega)⟩
      | exact .inl ⟨rfl, (x3 (by omega) (by omega) (k3 (by omega) (by omega))).mpr (by assumption)⟩
      | exact .inr ⟨rfl, fun q => by have := (x1 (by omega)).mp q; omega⟩
      | exact .inr ⟨rfl, x2 (by omega) (by omega)⟩
      | exact .inr ⟨rfl, fun q => absurd ((x3 (by omega) (by omega) (k3 (by omega) (by omega))).mp q) (by show ¬ _; omega)⟩
theorem R_isTextAhead_lp {d : Nat} {h0 h : E_H} {s : R_S} {sl : Nat} {Φ : E_R → Prop} {c e : Int} (hc : 0 ≤ c ∧ c < 160 ∧ 0 ≤ s.2.1 111 c ∧ s.2.1 111 c ≤ 60) (he : 0 ≤ e ∧ e < 160 ∧ 0 ≤ s.2.1 111 e ∧ s.2.1 111 e ≤ 60) (hs : R_is h0 h s) (kont : ∀ k : Int, 0 ≤ k → k ≤ s.2.1 111 c → k ≤ s.2.1 111 e → (∀ j, 0 ≤ j → j < k → (fun x => s.2.1 112 (60 * c + x)) j = (fun x => s.2.1 112 (60 * e + x)) j) → (k < s.2.1 111 c → k < s.2.1 111 e → (fun x => s.2.1 112 (60 * c + x)) k ≠ (fun x => s.2.1 112 (60 * e + x)) k) → B_R d E_m272 (53, [(3, .int (Zi k)), (0, .ref 83), (1, .int (Zi c)), (2, .int (Zi e))], []) h sl Φ) : ∀ (t : Nat) (k : Int), s.2.1 111 c - k < t → 0 ≤ k → k ≤ s.2.1 111 c → k ≤ s.2.1 111 e → (∀ j, 0 ≤ j → j < k → (fun x => s.2.1 112 (60 * c + x)) j = (fun x => s.2.1 112 (60 * e + x)) j) → B_R d E_m272 (2, [(3, .int (Zi k)), (0, .ref 83), (1, .int (Zi c)), (2, .int (Zi e))], []) h sl Φ := by
  intro t
  induction t with
  | zero => intro k ht k0 k1 k2 hk; omega
  | succ t ih =>
    intro k ht k0 k1 k2 hk
    have zk : Zr k := ⟨by omega, by omega⟩
    have zn : Zr (s.2.1 111 c) := hs.zA _ _
    have zm : Zr (s.2.1 111 e) := hs.zA _ _
    refine Z_go (f2 := (3, [(3, .int (Zi k)), (0, .ref 83), (1, .int (Zi c)), (2, .int (Zi e))], [.int (Zi k)])) (fun _ => rfl) ?_
    refine Z_go (f2 := (4, [(3, .int (Zi k)), (0, .ref 83), (1, .int (Zi c)), (2, .int (Zi e))], [.ref 83, .int (Zi k)])) (fun _ => rfl) ?_
    refine R_gr (q := 109) rfl hs rfl ?_
    show B_R _ _ (7, [(3, .int (Zi k)), (0, .ref 83), (1, .int (Zi c)), (2, .int (Zi e))], [.ref 111, .int (Zi k)]) _ _ _
    refine Z_go (f2 := (8, [(3, .int (Zi k)), (0, .ref 83), (1, .int (Zi c)), (2, .int (Zi e))], [.int (Zi c), .ref 111, .int (Zi k)])) (fun _ => rfl) ?_
    refine R_ia (q := 27) rfl hs rfl rfl (by omega) (by omega) (by decide) ?_
    refine Z_cge rfl rfl (by first | exact hs.zF _ | exact Zor_r _ _ | exact hs.zA _ _ | assumption | exact zA _ _ | exact zS _ | exact Zr_not (hs.zA _ _) | exact ⟨by omega, by omega⟩) (by first | exact hs.zF _ | exact Zor_r _ _ | exact hs.zA _ _ | assumption | exact zA _ _ | exact zS _ | exact Zr_not (hs.zA _ _) | exact ⟨by omega, by omega⟩) (fun c1 => ?_) (fun c1 => ?_)
    · refine B_loc (K := [(3, .int (Zi k)), (0, .ref 83), (1, .int (Zi c)), (2, .int (Zi e))]) (N_all_sub ⟨rfl, rfl, rfl, rfl, trivial⟩) (show ([3, 0, 1, 2] : List Nat).Nodup by decide) ?_
      exact kont k k0 k1 k2 hk (fun a b => by first | omega | assumption)
    · refine Z_go (f2 := (13, [(3, .int (Zi k)), (0, .ref 83), (1, .int (Zi c)), (2, .int (Zi e))], [.int (Zi k)])) (fun _ => rfl) ?_
      refine Z_go (f2 := (14, [(3, .int (Zi k)), (0, .ref 83), (1, .int (Zi c)), (2, .int (Zi e))], [.ref 83, .int (Zi k)])) (fun _ => rfl) ?_
      refine R_gr (q := 109) rfl hs rfl ?_
      show B_R _ _ (17, [(3, .int (Zi k)), (0, .ref 83), (1, .int (Zi c)), (2, .int (Zi e))], [.ref 111, .int (Zi k)]) _ _ _
      refine Z_go (f2 := (18, [(3, .int (Zi k)), (0, .ref 83), (1, .int (Zi c)), (2, .int (Zi e))], [.int (Zi e), .ref 111, .int (Zi k)])) (fun _ => rfl) ?_
      refine R_ia (q := 27) rfl hs rfl rfl (by omega) (by omega) (by decide) ?_
      refine Z_cge rfl rfl (by first | exact hs.zF _ | exact Zor_r _ _ | exact hs.zA _ _ | assumption | exact zA _ _ | exact zS _ | exact Zr_not (hs.zA _ _) | exact ⟨by omega, by omega⟩) (by first | exact hs.zF _ | exact Zor_r _ _ | exact hs.zA _ _ | assumption | exact zA _ _ | exact zS _ | exact Zr_not (hs.zA _ _) | exact ⟨by omega, by omega⟩) (fun c2 => ?_) (fun c2 => ?_)
      · refine B_loc (K := [(3, .int (Zi k)), (0, .ref 83), (1, .int (Zi c)), (2, .int (Zi e))]) (N_all_sub ⟨rfl, rfl, rfl, rfl, trivial⟩) (show ([3, 0, 1, 2] : List Nat).Nodup by decide) ?_
        exact kont k k0 k1 k2 hk (fun a b => by first | omega | assumption)
      · refine Z_go (f2 := (23, [(3, .int (Zi k)), (0, .ref 83), (1, .int (Zi c)), (2, .int (Zi e))], [.ref 83])) (fun _ => rfl) ?_
        refine R_gr (q := 110) rfl hs rfl ?_
        show B_R _ _ (26, [(3, .int (Zi k)), (0, .ref 83), (1, .int (Zi c)), (2, .int (Zi e))], [.ref 112]) _ _ _
        refine Z_go (f2 := (28, [(3, .int (Zi k)), (0, .ref 83), (1, .int (Zi c)), (2, .int (Zi e))], [.int (Zi 60), .ref 112])) (fun _ => rfl) ?_
        refine Z_go (f2 := (29, [(3, .int (Zi k)), (0, .ref 83), (1, .int (Zi c)), (2, .int (Zi e))], [.int (Zi c), .int (Zi 60), .ref 112])) (fun _ => rfl) ?_
        refine Z_imul rfl ?_
        refine Z_go (f2 := (31, [(3, .int (Zi k)), (0, .ref 83), (1, .int (Zi c)), (2, .int (Zi e))], [.int (Zi k), .int (Zi (60 * c)), .ref 112])) (fun _ => rfl) ?_
        refine Z_iadd rfl ?_
        refine R_ia (q := 28) rfl hs rfl rfl (by omega) (by omega) (by decide) ?_
        refine Z_go (f2 := (34, [(3, .int (Zi k)), (0, .ref 83), (1, .int (Zi c)), (2, .int (Zi e))], [.ref 83, .int (Zi (s.2.1 112 (60 * c + k)))])) (fun _ => rfl) ?_
        refine R_gr (q := 110) rfl hs rfl ?_
        show B_R _ _ (37, [(3, .int (Zi k)), (0, .ref 83), (1, .int (Zi c)), (2, .int (Zi e))], [.ref 112, .int (Zi (s.2.1 112 (60 * c + k)))]) _ _ _
        refine Z_go (f2 := (39, [(3, .int (Zi k)), (0, .ref 83), (1, .int (Zi c)), (2, .int (Zi e))], [.int (Zi 60), .ref 112, .int (Zi (s.2.1 112 (60 * c + k)))])) (fun _ => rfl) ?_
        refine Z_go (f2 := (40, [(3, .int (Zi k)), (0, .ref 83), (1, .int (Zi c)), (2, .int (Zi e))], [.int (Zi e), .int (Zi 60), .ref 112, .int (Zi (s.2.1 112 (60 * c + k)))])) (fun _ => rfl) ?_
        refine Z_imul rfl ?_
        refine Z_go (f2 := (42, [(3, .int (Zi k)), (0, .ref 83), (1, .int (Zi c)), (2, .int (Zi e))], [.int (Zi k), .int (Zi (60 * e)), .ref 112, .int (Zi (s.2.1 112 (60 * c + k)))])) (fun _ => rfl) ?_
        refine Z_iadd rfl ?_
        refine R_ia (q := 28) rfl hs rfl rfl (by omega) (by omega) (by decide) ?_
        refine Z_cne rfl rfl (by first | exact hs.zF _ | exact Zor_r _ _ | exact hs.zA _ _ | assumption | exact zA _ _ | exact zS _ | exact Zr_not (hs.zA _ _) | exact ⟨by omega, by omega⟩) (by first | exact hs.zF _ | exact Zor_r _ _ | exact hs.zA _ _ | assumption | exact zA _ _ | exact zS _ | exact Zr_not (hs.zA _ _) | exact ⟨by omega, by omega⟩) (fun c3 => ?_) (fun c3 => ?_)
        · refine B_loc (K := [(3, .int (Zi k)), (0, .ref 83), (1, .int (Zi c)), (2, .int (Zi e))]) (N_all_sub ⟨rfl, rfl, rfl, rfl, trivial⟩) (show ([3, 0, 1, 2] : List Nat).Nodup by decide) ?_
          exact kont k k0 k1 k2 hk (fun a b => by first | omega | assumption)
        · refine Z_iinc (L2 := [(3, .int (Zi (k + 1))), (0, .ref 83), (1, .int (Zi c)), (2, .int (Zi e))]) rfl rfl (by decide) rfl ?_
          refine Z_go (f2 := (2, [(3, .int (Zi (k + 1))), (0, .ref 83), (1, .int (Zi c)), (2, .int (Zi e))], [])) (fun _ => rfl) ?_
          refine B_loc (K := [(3, .int (Zi (k + 1))), (0, .ref 83), (1, .int (Zi c)), (2, .int (Zi e))]) (N_all_sub ⟨rfl, rfl, rfl, rfl, trivial⟩) (show ([3, 0, 1, 2] : List Nat).Nodup by decide) ?_
          exact ih (k + 1) (by omega) (by omega) (by omega) (by omega) (fun j j0 j1 => by
            by_cases z : j = k
            · rw [z]; assumption
            · exact hk j j0 (by omega))
theorem R_isTextAhead (d : Nat) (s : R_S) {c e : Int}  (zc : Zr c) (ze : Zr e) (hc : 0 ≤ c ∧ c < 160 ∧ 0 ≤ s.2.1 111 c ∧ s.2.1 111 c ≤ 60) (he : 0 ≤ e ∧ e < 160 ∧ 0 ≤ s.2.1 111 e ∧ s.2.1 111 e ≤ 60) : R_ok (d + 1) 272 [.int (Zi c), .int (Zi e)] s (fun x s2 => s2 = s ∧ ∃ v : Int, x = some (.int (Zi v)) ∧ (v = 1 ∧ L_lx (D_row (fun x => s.2.1 112 (60 * c + x)) (s.2.1 111 c)) (D_row (fun x => s.2.1 112 (60 * e + x)) (s.2.1 111 e)) ∨ v = 0 ∧ ¬ L_lx (D_row (fun x => s.2.1 112 (60 * c + x)) (s.2.1 111 c)) (D_row (fun x => s.2.1 112 (60 * e + x)) (s.2.1 111 e)))) := by
  refine R_enter (M := E_m272) rfl (Nat.le_of_ble_eq_true rfl) (fun h0 h hs => ?_)
  show B_R d _ (0, [(0, .ref 83), (1, .int (Zi c)), (2, .int (Zi e))], []) _ _ _
  refine Z_go (f2 := (1, [(0, .ref 83), (1, .int (Zi c)), (2, .int (Zi e))], [.int (Zi 0)])) (fun _ => rfl) ?_
  refine Z_go (f2 := (2, [(3, .int (Zi 0)), (0, .ref 83), (1, .int (Zi c)), (2, .int (Zi e))], [])) (fun _ => rfl) ?_
  refine B_loc (K := [(3, .int (Zi 0)), (0, .ref 83), (1, .int (Zi c)), (2, .int (Zi e))]) (N_all_sub ⟨rfl, rfl, rfl, rfl, trivial⟩) (show ([3, 0, 1, 2] : List Nat).Nodup by decide) ?_
  refine R_isTextAhead_lp hc he hs (fun k k0 k1 k2 hk k3 => ?_) ((s.2.1 111 c).toNat + 1) 0 (by omega) (by omega) (by omega) (by omega) (fun j j0 j1 => by omega)
  have zn : Zr (s.2.1 111 c) := hs.zA _ _
  have zm : Zr (s.2.1 111 e) := hs.zA _ _
  have zk : Zr k := ⟨by omega, by omega⟩
  refine Z_go (f2 := (54, [(3, .int (Zi k)), (0, .ref 83), (1, .int (Zi c)), (2, .int (Zi e))], [.int (Zi k)])) (fun _ => rfl) ?_
  refine Z_go (f2 := (55, [(3, .int (Zi k)), (0, .ref 83), (1, .int (Zi c)), (2, .int (Zi e))], [.ref 83, .int (Zi k)])) (fun _ => rfl) ?_
  refine R_gr (q := 109) rfl hs rfl ?_
  show B_R _ _ (58, [(3, .int (Zi k)), (0, .ref 83), (1, .int (Zi c)), (2, .int (Zi e))], [.ref 111, .int (Zi k)]) _ _ _
  refine Z_go (f2 := (59, [(3, .int (Zi k)), (0, .ref 83), (1, .int (Zi c)), (2, .int (Zi e))], [.int (Zi c), .ref 111, .int (Zi k)])) (fun _ => rfl) ?_
  refine R_ia (q := 27) rfl hs rfl rfl (by omega) (by omega) (by decide) ?_
  refine Z_cne rfl rfl (by first | exact hs.zF _ | exact Zor_r _ _ | exact hs.zA _ _ | assumption | exact zA _ _ | exact zS _ | exact Zr_not (hs.zA _ _) | exact ⟨by omega, by omega⟩) (by first | exact hs.zF _ | exact Zor_r _ _ | exact hs.zA _ _ | assumption | exact zA _ _ | exact zS _ | exact Zr_not (hs.zA _ _) | exact ⟨by omega, by omega⟩) (fun c1 => ?_) (fun c1 => ?_)
  · refine Z_go (f2 := (82, [(3, .int (Zi k)), (0, .ref 83), (1, .int (Zi c)), (2, .int (Zi e))], [.int (Zi k)])) (fun _ => rfl) ?_
    refine Z_go (f2 := (83, [(3, .int (Zi k)), (0, .ref 83), (1, .int (Zi c)), (2, .int (Zi e))], [.ref 83, .int (Zi k)])) (fun _ => rfl) ?_
    refine R_gr (q := 109) rfl hs rfl ?_
    show B_R _ _ (86, [(3, .int (Zi k)), (0, .ref 83), (1, .int (Zi c)), (2, .int (Zi e))], [.ref 111, .int (Zi k)]) _ _ _
    refine Z_go (f2 := (87, [(3, .int (Zi k)), (0, .ref 83), (1, .int (Zi c)), (2, .int (Zi e))], [.int (Zi e), .ref 111, .int (Zi k)])) (fun _ => rfl) ?_
    refine R_ia (q := 27) rfl hs rfl rfl (by omega) (by omega) (by decide) ?_
    refine Z_cge rfl rfl (by first | exact hs.zF _ | exact Zor_r _ _ | exact hs.zA _ _ | assumption | exact zA _ _ | exact zS _ | exact Zr_not (hs.zA _ _) | exact ⟨by omega, by omega⟩) (by first | exact hs.zF _ | exact Zor_r _ _ | exact hs.zA _ _ | assumption | exact zA _ _ | exact zS _ | exact Zr_not (hs.zA _ _) | exact ⟨by omega, by omega⟩) (fun c2 => ?_) (fun c2 => ?_)
    · refine Z_go (f2 := (121, [(3, .int (Zi k)), (0, .ref 83), (1, .int (Zi c)), (2, .int (Zi e))], [.int (Zi 0)])) (fun _ => rfl) ?_
      refine Z_iret rfl rfl (by first | rfl | decide | exact narrow_b01 (by omega)) ⟨_, hs, ?_, rfl⟩
      refine ⟨rfl, _, rfl, ?_⟩
      obtain ⟨x1, x2, x3⟩ := D_lx (A := (fun x => s.2.1 112 (60 * c + x))) (B := (fun x => s.2.1 112 (60 * e + x))) k0 k1 k2 hk
      first
      | exact .inl ⟨rfl, (x1 (by omega)).mpr (by omega)⟩
      | exact .inl ⟨rfl, (x3 (by omega) (by omega) (k3 (by omega) (by omega))).mpr (by assumption)⟩
      | exact .inr ⟨rfl, fun q => by have := (x1 (by omega)).mp q; omega⟩
      | exact .inr ⟨rfl, x2 (by omega) (by omega)⟩
      | exact .inr ⟨rfl, fun q => absurd ((x3 (by omega) (by omega) (k3 (by omega) (by omega))).mp q) (by show ¬ _; omega)⟩
    · refine Z_go (f2 := (92, [(3, .int (Zi k)), (0, .ref 83), (1, .int (Zi c)), (2, .int (Zi e))], [.ref 83])) (fun _ => rfl) ?_
      refine R_gr (q := 110) rfl hs rfl ?_
      show B_R _ _ (95, [(3, .int (Zi k)), (0, .ref 83), (1, .int (Zi c)), (2, .int (Zi e))], [.ref 112]) _ _ _
      refine Z_go (f2 := (97, [(3, .int (Zi k)), (0, .ref 83), (1, .int (Zi c)), (2, .int (Zi e))], [.int (Zi 60), .ref 112])) (fun _ => rfl) ?_
      refine Z_go (f2 := (98, [(3, .int (Zi k)), (0, .ref 83), (1, .int (Zi c)), (2, .int (Zi e))], [.int (Zi c), .int (Zi 60), .ref 112])) (fun _ => rfl) ?_
      refine Z_imul rfl ?_
      refine Z_go (f2 := (100, [(3, .int (Zi k)), (0, .ref 83), (1, .int (Zi c)), (2, .int (Zi e))], [.int (Zi k), .int (Zi (60 * c)), .ref 112])) (fun _ => rfl) ?_
      refine Z_iadd rfl ?_
      refine R_ia (q := 28) rfl hs rfl rfl (by omega) (by omega) (by decide) ?_
      refine Z_go (f2 := (103, [(3, .int (Zi k)), (0, .ref 83), (1, .int (Zi c)), (2, .int (Zi e))], [.ref 83, .int (Zi (s.2.1 112 (60 * c + k)))])) (fun _ => rfl) ?_
      refine R_gr (q := 110) rfl hs rfl ?_
      show B_R _ _ (106, [(3, .int (Zi k)), (0, .ref 83), (1, .int (Zi c)), (2, .int (Zi e))], [.ref 112, .int (Zi (s.2.1 112 (60 * c + k)))]) _ _ _
      refine Z_go (f2 := (108, [(3, .int (Zi k)), (0, .ref 83), (1, .int (Zi c)), (2, .int (Zi e))], [.int (Zi 60), .ref 112, .int (Zi (s.2.1 112 (60 * c + k)))])) (fun _ => rfl) ?_
      refine Z_go (f2 := (109, [(3, .int (Zi k)), (0, .ref 83), (1, .int (Zi c)), (2, .int (Zi e))], [.int (Zi e), .int (Zi 60), .ref 112, .int (Zi (s.2.1 112 (60 * c + k)))])) (fun _ => rfl) ?_
      refine Z_imul rfl ?_
      refine Z_go (f2 := (111, [(3, .int (Zi k)), (0, .ref 83), (1, .int (Zi c)), (2, .int (Zi e))], [.int (Zi k), .int (Zi (60 * e)), .ref 112, .int (Zi (s.2.1 112 (60 * c + k)))])) (fun _ => rfl) ?_
      refine Z_iadd rfl ?_
      refine R_ia (q := 28) rfl hs rfl rfl (by omega) (by omega) (by decide) ?_
      refine Z_cge rfl rfl (by first | exact hs.zF _ | exact Zor_r _ _ | exact hs.zA _ _ | assumption | exact zA _ _ | exact zS _ | exact Zr_not (hs.zA _ _) | exact ⟨by omega, by omega⟩) (by first | exact hs.zF _ | exact Zor_r _ _ | exact hs.zA _ _ | assumption | exact zA _ _ | exact zS _ | exact Zr_not (hs.zA _ _) | exact ⟨by omega, by omega⟩) (fun c3 => ?_) (fun c3 => ?_)
      · refine Z_go (f2 := (121, [(3, .int (Zi k)), (0, .ref 83), (1, .int (Zi c)), (2, .int (Zi e))], [.int (Zi 0)])) (fun _ => rfl) ?_
        refine Z_iret rfl rfl (by first | rfl | decide | exact narrow_b01 (by omega)) ⟨_, hs, ?_, rfl⟩
        refine ⟨rfl, _, rfl, ?_⟩
        obtain ⟨x1, x2, x3⟩ := D_lx (A := (fun x => s.2.1 112 (60 * c + x))) (B := (fun x => s.2.1 112 (60 * e + x))) k0 k1 k2 hk
        first
        | exact .inl ⟨rfl, (x1 (by omega)).mpr (by omega)⟩
        | exact .inl ⟨rfl, (x3 (by omega) (by omega) (k3 (by omega) (by omega))).mpr (by assumption)⟩
        | exact .inr ⟨rfl, fun q => by have := (x1 (by omega)).mp q; omega⟩
        | exact .inr ⟨rfl, x2 (by omega) (by omega)⟩
        | exact .inr ⟨rfl, fun q => absurd ((x3 (by omega) (by omega) (k3 (by omega) (by omega))).mp q) (by show ¬ _; omega)⟩
      · refine Z_go (f2 := (117, [(3, .int (Zi k)), (0, .ref 83), (1, .int (Zi c)), (2, .int (Zi e))], [.int (Zi 1)])) (fun _ => rfl) ?_
        refine Z_go (f2 := (121, [(3, .int (Zi k)), (0, .ref 83), (1, .int (Zi c)), (2, .int (Zi e))], [.int (Zi 1)])) (fun _ => rfl) ?_
        refine Z_iret rfl rfl (by first | rfl | decide | exact narrow_b01 (by omega)) ⟨_, hs, ?_, rfl⟩
        refine ⟨rfl, _, rfl, ?_⟩
        obtain ⟨x1, x2, x3⟩ := D_lx (A := (fun x => s.2.1 112 (60 * c + x))) (B := (fun x => s.2.1 112 (60 * e + x))) k0 k1 k2 hk
        first
        | exact .inl ⟨rfl, (x1 (by omega)).mpr (by omega)⟩
        | exact .inl ⟨rfl, (x3 (by omega) (by omega) (k3 (by omega) (by omega))).mpr (by assumption)⟩
        | exact .inr ⟨rfl, fun q => by have := (x1 (by omega)).mp q; omega⟩
        | exact .inr ⟨rfl, x2 (by omega) (by omega)⟩
        | exact .inr ⟨rfl, fun q => absurd ((x3 (by omega) (by omega) (k3 (by omega) (by omega))).mp q) (by show ¬ _; omega)⟩
  · refine Z_go (f2 := (64, [(3, .int (Zi k)), (0, .ref 83), (1, .int (Zi c)), (2, .int (Zi e))], [.int (Zi k)])) (fun _ => rfl) ?_
    refine Z_go (f2 := (65, [(3, .int (Zi k)), (0, .ref 83), (1, .int (Zi c)), (2, .int (Zi e))], [.ref 83, .int (Zi k)])) (fun _ => rfl) ?_
    refine R_gr (q := 109) rfl hs rfl ?_
    show B_R _ _ (68, [(3, .int (Zi k)), (0, .ref 83), (1, .int (Zi c)), (2, .int (Zi e))], [.ref 111, .int (Zi k)]) _ _ _
    refine Z_go (f2 := (69, [(3, .int (Zi k)), (0, .ref 83), (1, .int (Zi c)), (2, .int (Zi e))], [.int (Zi e), .ref 111, .int (Zi k)])) (fun _ => rfl) ?_
    refine R_ia (q := 27) rfl hs rfl rfl (by omega) (by omega) (by decide) ?_
    refine Z_cge rfl rfl (by first | exact hs.zF _ | exact Zor_r _ _ | exact hs.zA _ _ | assumption | exact zA _ _ | exact zS _ | exact Zr_not (hs.zA _ _) | exact ⟨by omega, by omega⟩) (by first | exact hs.zF _ | exact Zor_r _ _ | exact hs.zA _ _ | assumption | exact zA _ _ | exact zS _ | exact Zr_not (hs.zA _ _) | exact ⟨by omega, by omega⟩) (fun c4 => ?_) (fun c4 => ?_)
    · refine Z_go (f2 := (78, [(3, .int (Zi k)), (0, .ref 83), (1, .int (Zi c)), (2, .int (Zi e))], [.int (Zi 0)])) (fun _ => rfl) ?_
      refine Z_go (f2 := (121, [(3, .int (Zi k)), (0, .ref 83), (1, .int (Zi c)), (2, .int (Zi e))], [.int (Zi 0)])) (fun _ => rfl) ?_
      refine Z_iret rfl rfl (by first | rfl | decide | exact narrow_b01 (by omega)) ⟨_, hs, ?_, rfl⟩
      refine ⟨rfl, _, rfl, ?_⟩
      obtain ⟨x1, x2, x3⟩ := D_lx (A := (fun x => s.2.1 112 (60 * c + x))) (B := (fun x => s.2.1 112 (60 * e + x))) k0 k1 k2 hk
      first
      | exact .inl ⟨rfl, (x1 (by omega)).mpr (by omega)⟩
      | exact .inl ⟨rfl, (x3 (by omega) (by omega) (k3 (by omega) (by omega))).mpr (by assumption)⟩
      | exact .inr ⟨rfl, fun q => by have := (x1 (by omega)).mp q; omega⟩
      | exact .inr ⟨rfl, x2 (by omega) (by omega)⟩
      | exact .inr ⟨rfl, fun q => absurd ((x3 (by omega) (by omega) (k3 (by omega) (by omega))).mp q) (by show ¬ _; omega)⟩
    · refine Z_go (f2 := (74, [(3, .int (Zi k)), (0, .ref 83), (1, .int (Zi c)), (2, .int (Zi e))], [.int (Zi 1)])) (fun _ => rfl) ?_
      refine Z_go (f2 := (121, [(3, .int (Zi k)), (0, .ref 83), (1, .int (Zi c)), (2, .int (Zi e))], [.int (Zi 1)])) (fun _ => rfl) ?_
      refine Z_iret rfl rfl (by first | rfl | decide | exact narrow_b01 (by omega)) ⟨_, hs, ?_, rfl⟩
      refine ⟨rfl, _, rfl, ?_⟩
      obtain ⟨x1, x2, x3⟩ := D_lx (A := (fun x => s.2.1 112 (60 * c + x))) (B := (fun x => s.2.1 112 (60 * e + x))) k0 k1 k2 hk
      first
      | exact .inl ⟨rfl, (x1 (by omega)).mpr (by omega)⟩
      | exact .inl ⟨rfl, (x3 (by omega) (by omega) (k3 (by omega) (by omega))).mpr (by assumption)⟩
      | exact .inr ⟨rfl, fun q => by have := (x1 (by omega)).mp q; omega⟩
      | exact .inr ⟨rfl, x2 (by omega) (by omega)⟩
      | exact .inr ⟨rfl, fun q => absurd ((x3 (by omega) (by omega) (k3 (by omega) (by omega))).mp q) (by show ¬ _; omega)⟩
