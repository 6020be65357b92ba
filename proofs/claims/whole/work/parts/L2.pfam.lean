/-! families of sets of grams, purely: unions, what stays -/
theorem L_le_tr {a b c : List Int} (h : L_le a b) (g : L_le b c) : L_le a c := fun x hx => g x (h x hx)
theorem L_le_rf (a : List Int) : L_le a a := fun _ h => h
theorem L_le_as {a b : List Int} (ha : L_srt a) (hb : L_srt b) (h : L_le a b) (g : L_le b a) : a = b := L_srt_ext ha hb (fun x => ⟨h x, g x⟩)
theorem L_le_l (a b : List Int) : L_le a (L_un a b) := fun _ h => L_un_mem.mpr (.inl h)
theorem L_le_r (a b : List Int) : L_le b (L_un a b) := fun _ h => L_un_mem.mpr (.inr h)
theorem L_le_un {a b c : List Int} (h : L_le a c) (g : L_le b c) : L_le (L_un a b) c := fun x hx => (L_un_mem.mp hx).elim (h x) (g x)
theorem L_un_abs {a b : List Int} (ha : L_srt a) (hb : L_srt b) (h : L_le b a) : L_un a b = a := L_le_as (L_un_srt hb) ha (L_le_un (L_le_rf _) h) (L_le_l a b)
theorem L_le_len {a b : List Int} (ha : L_srt a) (h : L_le a b) : a.length ≤ b.length := by
  have := (S_card_of (A := fun x => x ∈ a) (L_srt_nd ha) (fun _ => Iff.rfl) b.length).mp ⟨b, Nat.le_refl _, h⟩
  exact this
/-- lists that are sets -/
def F_S (F : P_X) : Prop := ∀ x, F x → L_srt x
/-- a family: sets, some, none in another, at most 24 -/
def F_G (F : P_X) : Prop := F_S F ∧ (∃ x, F x) ∧ (∀ x y, F x → F y → L_le x y → x = y) ∧ S_card F 24
theorem F_min_below {F : P_X} (hS : F_S F) : ∀ (n : Nat) (x : List Int), x.length ≤ n → F x → ∃ y, F_min F y ∧ L_le y x := by
  intro n
  induction n with
  | zero =>
    intro x hx hF
    refine ⟨x, ⟨hF, fun y hy hle => ?_⟩, L_le_rf _⟩
    have e1 : x = [] := List.length_eq_zero_iff.mp (by omega)
    subst e1
    exact List.length_eq_zero_iff.mp (by have := L_le_len (hS y hy) hle; simpa using this)
  | succ n ih =>
    intro x hx hF
    by_cases c : F_min F x
    · exact ⟨x, c, L_le_rf _⟩
    · have : ∃ y, F y ∧ L_le y x ∧ y ≠ x := Classical.byContradiction (fun q => c ⟨hF, fun y hy hle => Classical.byContradiction (fun e => q ⟨y, hy, hle, e⟩)⟩)
      obtain ⟨y, hy, hle, hne⟩ := this
      have hl : y.length < x.length := by
        refine Nat.lt_of_le_of_ne (L_le_len (hS y hy) hle) (fun e => hne ?_)
        refine L_le_as (hS y hy) (hS x hF) hle (fun z hz => ?_)
        refine Classical.byContradiction (fun q => ?_)
        have hq := (S_card_of (A := fun w => w ∈ z :: y) (List.nodup_cons.mpr ⟨q, L_srt_nd (hS y hy)⟩) (fun _ => Iff.rfl) x.length).mp ⟨x, Nat.le_refl _, fun w hw => by
          rcases List.mem_cons.mp hw with rfl | hw
          · exact hz
          · exact hle w hw⟩
        rw [List.length_cons] at hq
        omega
      obtain ⟨w, hw, hle2⟩ := ih y (by omega) hy
      exact ⟨w, hw, L_le_tr hle2 hle⟩
theorem F_below {F : P_X} (hS : F_S F) {x : List Int} (h : F x) : ∃ y, F_min F y ∧ L_le y x := F_min_below hS x.length x (Nat.le_refl _) h
theorem F_S_min {F : P_X} (h : F_S F) : F_S (F_min F) := fun x hx => h x hx.1
theorem F_S_un {P Q : P_X} (h : F_S Q) : F_S (F_un P Q) := fun z ⟨_, y, _, hy, e⟩ => by rw [e]; exact L_un_srt (h y hy)
theorem F_G_min {F : P_X} (h : F_S F) (g : ∃ x, F x) (c : S_card (F_min F) 24) : F_G (F_min F) := by
  obtain ⟨x, hx⟩ := g
  obtain ⟨y, hy, _⟩ := F_below h hx
  exact ⟨F_S_min h, ⟨y, hy⟩, fun a b ha hb hle => hb.2 a ha.1 hle, c⟩
theorem F_G_one {x : List Int} (h : L_srt x) : F_G (fun y => y = x) := ⟨fun y e => by rw [e]; exact h, ⟨x, rfl⟩, fun a b ha hb _ => by rw [ha, hb], ⟨[x], by show 1 ≤ 24; decide, fun y e => by rw [e]; exact List.mem_cons_self ..⟩⟩
theorem F_core_sp {C : P_X} (hS : F_S C) (g : ∃ x, C x) : L_srt (F_core C) ∧ ∀ x, x ∈ F_core C ↔ ∀ c, C c → x ∈ c := by
  obtain ⟨y, hy⟩ := g
  have h : ∃ l, L_srt l ∧ ∀ x, x ∈ l ↔ ∀ c, C c → x ∈ c := by
    have hd : ∀ l : List Int, L_srt l → ∃ m, L_srt m ∧ ∀ x, x ∈ m ↔ x ∈ l ∧ ∀ c, C c → x ∈ c := by
      intro l
      induction l with
      | nil => intro _; exact ⟨[], trivial, fun x => ⟨fun h => absurd h List.not_mem_nil, fun h => absurd h.1 List.not_mem_nil⟩⟩
      | cons a l ih =>
        intro hl
        obtain ⟨m, m1, m2⟩ := ih hl.2
        by_cases ca : ∀ c, C c → a ∈ c
        · refine ⟨a :: m, ⟨fun z hz => hl.1 z ((m2 z).mp hz).1, m1⟩, fun x => ?_⟩
          rw [List.mem_cons, List.mem_cons, m2 x]
          constructor
          · rintro (rfl | ⟨h1, h2⟩)
            · exact ⟨.inl rfl, ca⟩
            · exact ⟨.inr h1, h2⟩
          · rintro ⟨h1 | h1, h2⟩
            · exact .inl h1
            · exact .inr ⟨h1, h2⟩
        · refine ⟨m, m1, fun x => ?_⟩
          rw [List.mem_cons, m2 x]
          constructor
          · rintro ⟨h1, h2⟩; exact ⟨.inr h1, h2⟩
          · rintro ⟨h1 | h1, h2⟩
            · rw [h1] at h2; exact absurd h2 ca
            · exact ⟨h1, h2⟩
    obtain ⟨m, m1, m2⟩ := hd y (hS y hy)
    exact ⟨m, m1, fun x => (m2 x).trans ⟨fun h => h.2, fun h => ⟨h y hy, h⟩⟩⟩
  exact Classical.epsilon_spec h
theorem F_core_lb {C : P_X} (h : F_G C) {c : List Int} (hc : C c) : L_le (F_core C) c := fun x hx => ((F_core_sp h.1 h.2.1).2 x).mp hx c hc
theorem F_core_gr {C : P_X} (h : F_G C) {l : List Int} (hl : ∀ c, C c → L_le l c) : L_le l (F_core C) := fun x hx => ((F_core_sp h.1 h.2.1).2 x).mpr (fun c hc => hl c hc x hx)
/-- families that lie over each other have the same least sets -/
theorem F_min_eq {U V : P_X} (hU : F_S U) (hV : F_S V) (h1 : ∀ u, U u → ∃ v, V v ∧ L_le v u) (h2 : ∀ v, V v → ∃ u, U u ∧ L_le u v) : F_min U = F_min V := by
  have one : ∀ (U V : P_X), F_S U → F_S V → (∀ u, U u → ∃ v, V v ∧ L_le v u) → (∀ v, V v → ∃ u, U u ∧ L_le u v) → ∀ x, F_min U x → F_min V x := by
    intro U V hU hV h1 h2 x hx
    obtain ⟨v, hv, l1⟩ := h1 x hx.1
    obtain ⟨u, hu, l2⟩ := h2 v hv
    have e1 := hx.2 u hu (L_le_tr l2 l1)
    have e2 : v = x := L_le_as (hV v hv) (hU x hx.1) l1 (by rw [← e1]; exact l2)
    refine ⟨e2 ▸ hv, fun y hy hle => ?_⟩
    obtain ⟨w, hw, l3⟩ := h2 y hy
    have e3 := hx.2 w hw (L_le_tr l3 hle)
    exact L_le_as (hV y hy) (hU x hx.1) hle (by rw [← e3]; exact l3)
  funext x
  exact propext ⟨one U V hU hV h1 h2 x, one V U hV hU h2 h1 x⟩
/-- what contains one of Q already stays -/
theorem F_un_abs {F Q : P_X} (hF : F_G F) (hQ : F_S Q) (h : ∀ f, F f → ∃ q, Q q ∧ L_le q f) : F_min (F_un F Q) = F := by
  funext x
  refine propext ⟨?_, ?_⟩
  · rintro ⟨⟨f, q, hf, hq, e⟩, hm⟩
    obtain ⟨q0, hq0, l0⟩ := h f hf
    have e1 := hm f ⟨f, q0, hf, hq0, (L_un_abs (hF.1 f hf) (hQ q0 hq0) l0).symm⟩ (by rw [e]; exact L_le_l _ _)
    rw [← e1]; exact hf
  · intro hx
    obtain ⟨q0, hq0, l0⟩ := h x hx
    refine ⟨⟨x, q0, hx, hq0, (L_un_abs (hF.1 x hx) (hQ q0 hq0) l0).symm⟩, ?_⟩
    rintro y ⟨f, q, hf, hq, e⟩ hle
    have l1 : L_le f x := L_le_tr (by rw [e]; exact L_le_l _ _) hle
    have e1 := hF.2.2.1 f x hf hx l1
    exact L_le_as (by rw [e]; exact L_un_srt (hQ q hq)) (hF.1 x hx) hle (by rw [← e1, e]; exact L_le_l _ _)
theorem F_both_abs {F Q : P_X} (hF : F_G F) (hQ : F_S Q) (h : ∀ f, F f → ∃ q, Q q ∧ L_le q f) : F_both F Q = F := by
  unfold F_both
  rw [F_un_abs hF hQ h, c_pos hF.2.2.2]
theorem F_card_im {A B : P_X} {g : List Int → List Int} (h : ∀ y, B y → ∃ x, A x ∧ y = g x) {n : Nat} (hA : S_card A n) : S_card B n := by
  obtain ⟨l, l1, l2⟩ := hA
  refine ⟨l.map g, by rw [List.length_map]; exact l1, fun y hy => ?_⟩
  obtain ⟨x, hx, e⟩ := h y hy
  exact List.mem_map.mpr ⟨x, l2 x hx, e.symm⟩
theorem F_G_core {C : P_X} (h : F_G C) : F_G (fun x => x = F_core C) := F_G_one (F_core_sp h.1 h.2.1).1
theorem F_ex_un {P Q : P_X} (h : ∃ x, P x) (g : ∃ x, Q x) : ∃ x, F_un P Q x := by
  obtain ⟨x, hx⟩ := h
  obtain ⟨y, hy⟩ := g
  exact ⟨_, x, y, hx, hy, rfl⟩
/-- unions, one way or another -/
theorem F_both_G {P Q : P_X} (hP : F_G P) (hQ : F_G Q) : F_G (F_both P Q) ∧ ∀ z, F_both P Q z → (∃ x y, P x ∧ Q y ∧ z = L_un x y) ∨ (∃ x, P x ∧ z = L_un x (F_core Q)) ∨ ∃ y, Q y ∧ z = L_un (F_core P) y := by
  unfold F_both
  by_cases c1 : S_card (F_min (F_un P Q)) 24
  · rw [c_pos c1]
    exact ⟨F_G_min (F_S_un hQ.1) (F_ex_un hP.2.1 hQ.2.1) c1, fun z hz => .inl hz.1⟩
  · rw [c_neg c1]
    by_cases c2 : ∀ n, S_card Q n → S_card P n
    · rw [c_pos c2]
      refine ⟨F_G_min (F_S_un (F_G_core hQ).1) (F_ex_un hP.2.1 (F_G_core hQ).2.1) (F_card_im (A := P) (g := fun x => L_un x (F_core Q)) ?_ hP.2.2.2), fun z hz => ?_⟩
      · rintro y ⟨⟨x, c, hx, hc, e⟩, _⟩
        exact ⟨x, hx, by rw [e, hc]⟩
      · obtain ⟨⟨x, c, hx, hc, e⟩, _⟩ := hz
        exact .inr (.inl ⟨x, hx, by rw [e, hc]⟩)
    · rw [c_neg c2]
      refine ⟨F_G_min (F_S_un hQ.1) (F_ex_un (F_G_core hP).2.1 hQ.2.1) (F_card_im (A := Q) (g := fun y => L_un (F_core P) y) ?_ hQ.2.2.2), fun z hz => ?_⟩
      · rintro y ⟨⟨c, x, hc, hx, e⟩, _⟩
        exact ⟨x, hx, by rw [e, hc]⟩
      · obtain ⟨⟨c, x, hc, hx, e⟩, _⟩ := hz
        exact .inr (.inr ⟨x, hx, by rw [e, hc]⟩)
theorem F_core_len {C : P_X} (h : F_G C) {a : Nat} (ha : ∀ c, C c → c.length ≤ a) : (F_core C).length ≤ a := by
  obtain ⟨c, hc⟩ := h.2.1
  exact Nat.le_trans (L_le_len (F_core_sp h.1 h.2.1).1 (F_core_lb h hc)) (ha c hc)
theorem F_both_len {P Q : P_X} (hP : F_G P) (hQ : F_G Q) {a b : Nat} (ha : ∀ x, P x → x.length ≤ a) (hb : ∀ x, Q x → x.length ≤ b) : ∀ z, F_both P Q z → z.length ≤ a + b := by
  intro z hz
  have h1 := F_core_len hP ha
  have h2 := F_core_len hQ hb
  rcases (F_both_G hP hQ).2 z hz with ⟨x, y, hx, hy, e⟩ | ⟨x, hx, e⟩ | ⟨y, hy, e⟩
  · have := L_un_len y x; have := ha x hx; have := hb y hy; rw [e]; omega
  · have := L_un_len (F_core Q) x; have := ha x hx; rw [e]; omega
  · have := L_un_len y (F_core P); have := hb y hy; rw [e]; omega
