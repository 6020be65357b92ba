/-! how many texts there are behind each other -/
def L_byt (t : List Int) : Prop := ∀ x ∈ t, 0 ≤ x ∧ x < 256
def L_nm : List Int → Nat
  | [] => 0
  | a :: l => (a + 1).toNat * 257 ^ l.length + L_nm l
theorem L_nm_lt : ∀ {t : List Int}, L_byt t → L_nm t < 257 ^ t.length
  | [], _ => by decide
  | a :: l, h => by
    have ih := L_nm_lt (t := l) (fun x hx => h x (List.mem_cons_of_mem _ hx))
    have ha := h a (List.mem_cons_self ..)
    have h1 : (a + 1).toNat * 257 ^ l.length ≤ 256 * 257 ^ l.length := Nat.mul_le_mul_right _ (by omega)
    show (a + 1).toNat * 257 ^ l.length + L_nm l < 257 ^ (l.length + 1)
    rw [Nat.pow_succ]
    omega
theorem L_nm_ge {a : Int} {l : List Int} (h : L_byt (a :: l)) : 257 ^ l.length ≤ L_nm (a :: l) := by
  have ha := h a (List.mem_cons_self ..)
  have h1 : 1 * 257 ^ l.length ≤ (a + 1).toNat * 257 ^ l.length := Nat.mul_le_mul_right _ (by omega)
  show _ ≤ (a + 1).toNat * 257 ^ l.length + L_nm l
  omega
theorem L_nm_len {a b : List Int} (ha : L_byt a) (hb : L_byt b) (h : L_nm a ≤ L_nm b) : a.length ≤ b.length := by
  cases a with
  | nil => exact Nat.zero_le _
  | cons x l =>
    have h1 := L_nm_ge ha
    have h2 := L_nm_lt hb
    have h3 : 257 ^ l.length < 257 ^ b.length := by omega
    have := (Nat.pow_lt_pow_iff_right (show 1 < 257 by decide)).mp h3
    rw [List.length_cons]
    omega
theorem L_nm_inj : ∀ {a b : List Int}, L_byt a → L_byt b → a.length = b.length → L_nm a = L_nm b → a = b
  | [], [], _, _, _, _ => rfl
  | [], _ :: _, _, _, h, _ => by simp at h
  | _ :: _, [], _, _, h, _ => by simp at h
  | x :: l, y :: k, ha, hb, hl, h => by
    have hl2 : l.length = k.length := by simpa using hl
    have h1 := L_nm_lt (t := l) (fun z hz => ha z (List.mem_cons_of_mem _ hz))
    have h2 := L_nm_lt (t := k) (fun z hz => hb z (List.mem_cons_of_mem _ hz))
    have hx := ha x (List.mem_cons_self ..)
    have hy := hb y (List.mem_cons_self ..)
    have h : (x + 1).toNat * 257 ^ l.length + L_nm l = (y + 1).toNat * 257 ^ k.length + L_nm k := h
    rw [← hl2] at h h2
    have key : ∀ (u v P p q : Nat), u * P + p = v * P + q → p < P → q < P → ¬ u < v := by
      intro u v P p q e hp hq c
      have := Nat.mul_le_mul_right P (show u + 1 ≤ v by omega)
      rw [Nat.add_mul, Nat.one_mul] at this
      omega
    have n1 := key _ _ _ _ _ h h1 h2
    have n2 := key _ _ _ _ _ h.symm h2 h1
    have e : x = y := by omega
    subst e
    rw [L_nm_inj (fun z hz => ha z (List.mem_cons_of_mem _ hz)) (fun z hz => hb z (List.mem_cons_of_mem _ hz)) hl2 (by omega)]
theorem L_nm_app (a b : List Int) : L_nm (a ++ b) = L_nm a * 257 ^ b.length + L_nm b := by
  induction a with
  | nil => show L_nm b = 0 * _ + _; omega
  | cons x l ih =>
    show (x + 1).toNat * 257 ^ (l ++ b).length + L_nm (l ++ b) = ((x + 1).toNat * 257 ^ l.length + L_nm l) * 257 ^ b.length + L_nm b
    rw [ih, List.length_append, Nat.pow_add, Nat.add_mul, Nat.mul_assoc]
    omega
theorem L_nm_mono {a a2 b b2 : List Int} (hb : L_byt b) (hb2 : L_byt b2) (h : L_nm a < L_nm a2) (g : L_nm b ≤ L_nm b2) : L_nm (a ++ b) < L_nm (a2 ++ b2) := by
  rw [L_nm_app, L_nm_app]
  have hl := L_nm_len hb hb2 g
  have h1 : 257 ^ b.length ≤ 257 ^ b2.length := Nat.pow_le_pow_right (by decide) hl
  have h2 : L_nm a * 257 ^ b.length ≤ L_nm a * 257 ^ b2.length := Nat.mul_le_mul_left _ h1
  have h3 : L_nm a * 257 ^ b2.length < L_nm a2 * 257 ^ b2.length := Nat.mul_lt_mul_of_pos_right h (Nat.pow_pos (by decide))
  omega
theorem L_max : ∀ (l : List (List Int)), l ≠ [] → ∃ a ∈ l, ∀ x ∈ l, L_nm x ≤ L_nm a
  | [], h => absurd rfl h
  | [a], _ => ⟨a, List.mem_cons_self .., fun x hx => by rw [List.mem_singleton.mp hx]; exact Nat.le_refl _⟩
  | a :: b :: l, _ => by
    obtain ⟨m, hm, h⟩ := L_max (b :: l) (by simp)
    by_cases c : L_nm a ≤ L_nm m
    · refine ⟨m, List.mem_cons_of_mem _ hm, fun x hx => ?_⟩
      rcases List.mem_cons.mp hx with rfl | hx
      · exact c
      · exact h x hx
    · refine ⟨a, List.mem_cons_self .., fun x hx => ?_⟩
      rcases List.mem_cons.mp hx with rfl | hx
      · exact Nat.le_refl _
      · have := h x hx; omega
theorem S_list {α : Type} {A : α → Prop} {n : Nat} (h : S_card A n) : ∃ l : List α, l.Nodup ∧ (∀ x, x ∈ l ↔ A x) ∧ l.length ≤ n := by
  obtain ⟨l, l1, l2⟩ := h
  have hd : ∀ l : List α, ∃ m : List α, m.Nodup ∧ (∀ x, x ∈ m ↔ x ∈ l ∧ A x) ∧ m.length ≤ l.length := by
    intro l
    induction l with
    | nil => exact ⟨[], List.nodup_nil, fun x => ⟨fun h => absurd h List.not_mem_nil, fun h => absurd h.1 List.not_mem_nil⟩, Nat.le_refl _⟩
    | cons a l ih =>
      obtain ⟨m, m1, m2, m3⟩ := ih
      by_cases c : a ∈ m ∨ ¬ A a
      · refine ⟨m, m1, fun x => ?_, by rw [List.length_cons]; omega⟩
        rw [m2 x, List.mem_cons]
        constructor
        · rintro ⟨h1, h2⟩; exact ⟨.inr h1, h2⟩
        · rintro ⟨rfl | h1, h2⟩
          · rcases c with c | c
            · exact (m2 x).mp c
            · exact absurd h2 c
          · exact ⟨h1, h2⟩
      · have c1 : a ∉ m := fun q => c (.inl q)
        have c2 : A a := Classical.byContradiction (fun q => c (.inr q))
        refine ⟨a :: m, List.nodup_cons.mpr ⟨c1, m1⟩, fun x => ?_, by rw [List.length_cons, List.length_cons]; omega⟩
        rw [List.mem_cons, List.mem_cons, m2 x]
        constructor
        · rintro (rfl | ⟨h1, h2⟩)
          · exact ⟨.inl rfl, c2⟩
          · exact ⟨.inr h1, h2⟩
        · rintro ⟨h1 | h1, h2⟩
          · exact .inl h1
          · exact .inr ⟨h1, h2⟩
  obtain ⟨m, m1, m2, m3⟩ := hd l
  exact ⟨m, m1, fun x => (m2 x).trans ⟨fun h => h.2, fun h => ⟨l2 x h, h⟩⟩, by omega⟩
theorem L_sum {B : P_X} {lb : List (List Int)} (nb : lb.Nodup) (hb : ∀ x, x ∈ lb ↔ B x) (bb : ∀ x, B x → L_byt x) (b0 : lb ≠ []) : ∀ (n : Nat) (la : List (List Int)), la.length = n + 1 → la.Nodup → (∀ x ∈ la, L_byt x) → ∃ r : List (List Int), r.Nodup ∧ r.length = n + lb.length ∧ ∀ z ∈ r, ∃ a b, a ∈ la ∧ B b ∧ z = a ++ b := by
  obtain ⟨bm, hbm, mb⟩ := L_max lb b0
  intro n
  induction n with
  | zero =>
    intro la hl nd ba
    match la, hl with
    | [a], _ =>
      refine ⟨lb.map (fun b => a ++ b), ?_, by rw [List.length_map, Nat.zero_add], fun z hz => ?_⟩
      · exact List.Pairwise.map _ (fun x y hxy e => hxy (List.append_cancel_left e)) nb
      · obtain ⟨b, h1, h2⟩ := List.mem_map.mp hz
        exact ⟨a, b, List.mem_cons_self .., (hb b).mp h1, h2.symm⟩
  | succ n ih =>
    intro la hl nd ba
    obtain ⟨am, ham, ma⟩ := L_max la (by intro e; rw [e] at hl; simp at hl)
    obtain ⟨l1, l2, rfl⟩ := List.append_of_mem ham
    have nd2 : (am :: (l1 ++ l2)).Nodup := (List.perm_middle.nodup_iff).mp nd
    obtain ⟨nm, nd3⟩ := List.nodup_cons.mp nd2
    have sub : ∀ x, x ∈ l1 ++ l2 → x ∈ l1 ++ am :: l2 := fun x hx => by
      rcases List.mem_append.mp hx with h | h
      · exact List.mem_append_left _ h
      · exact List.mem_append_right _ (List.mem_cons_of_mem _ h)
    obtain ⟨r, r1, r2, r3⟩ := ih (l1 ++ l2) (by simp only [List.length_append, List.length_cons] at hl ⊢; omega) nd3 (fun x hx => ba x (sub x hx))
    refine ⟨(am ++ bm) :: r, List.nodup_cons.mpr ⟨fun hq => ?_, r1⟩, by rw [List.length_cons]; omega, fun z hz => ?_⟩
    · obtain ⟨a, b, ha, hb2, e⟩ := r3 _ hq
      have q1 : L_nm a ≤ L_nm am := ma a (sub a ha)
      have q2 : L_nm a ≠ L_nm am := fun e2 => by
        have h1 := L_nm_len (ba a (sub a ha)) (ba am ham) (by omega)
        have h2 := L_nm_len (ba am ham) (ba a (sub a ha)) (by omega)
        have := L_nm_inj (ba a (sub a ha)) (ba am ham) (by omega) e2
        rw [this] at ha
        exact nm ha
      have := L_nm_mono (a := a) (a2 := am) (bb b hb2) (bb bm ((hb bm).mp hbm)) (by omega) (mb b ((hb b).mpr hb2))
      rw [e] at this
      omega
    · rcases List.mem_cons.mp hz with rfl | hz
      · exact ⟨am, bm, ham, (hb bm).mp hbm, rfl⟩
      · obtain ⟨a, b, ha, hb2, e⟩ := r3 z hz
        exact ⟨a, b, sub a ha, hb2, e⟩
/-- at least as many as both together, but one -/
theorem F_sum {A B : P_X} {la lb : List (List Int)} (na : la.Nodup) (ha : ∀ x, x ∈ la ↔ A x) (nb : lb.Nodup) (hb : ∀ x, x ∈ lb ↔ B x) (ba : ∀ x, A x → L_byt x) (bb : ∀ x, B x → L_byt x) (a0 : la ≠ []) (b0 : lb ≠ []) {n : Nat} (h : S_card (F_im2 (fun a b => a ++ b) A B) n) : la.length + lb.length ≤ n + 1 := by
  have l0 : 0 < la.length := List.length_pos_iff.mpr a0
  obtain ⟨r, r1, r2, r3⟩ := L_sum nb hb bb b0 (la.length - 1) la (by omega) na (fun x hx => ba x ((ha x).mp hx))
  obtain ⟨l, l1, l2⟩ := h
  have := (S_card_of (A := fun x => x ∈ r) r1 (fun _ => Iff.rfl) l.length).mp ⟨l, Nat.le_refl _, fun z hz => by
    obtain ⟨a, b, h1, h2, e⟩ := r3 z hz
    exact l2 z ⟨a, b, (ha a).mp h1, h2, e⟩⟩
  omega
