/-! families built by offers, purely -/
def F_fam (S : P_X) (fam : List (List Int)) : Prop := fam.Nodup ∧ (∀ c ∈ fam, S c) ∧ (∀ y, S y → L_srt y) ∧ (∀ y, S y → ∃ g ∈ fam, L_le g y) ∧ ∀ x ∈ fam, ∀ y ∈ fam, L_le x y → x = y
/-- the family tells C -/
def F_tel (C : P_X) (fam : List (List Int)) : Prop := fam.Nodup ∧ (∀ c ∈ fam, L_srt c) ∧ ∀ x, x ∈ fam ↔ C x
theorem F_fam.min {S : P_X} {fam : List (List Int)} (h : F_fam S fam) (x : List Int) : x ∈ fam ↔ F_min S x := by
  obtain ⟨h1, h2, h3, h4, h5⟩ := h
  constructor
  · intro hx
    refine ⟨h2 x hx, fun y hy hle => ?_⟩
    obtain ⟨g, hg, hgy⟩ := h4 y hy
    have e := h5 g hg x hx (fun z hz => hle z (hgy z hz))
    subst e
    exact L_le_anti (h3 y hy) (h3 g (h2 g hg)) hle hgy
  · rintro ⟨hS, hm⟩
    obtain ⟨g, hg, hgx⟩ := h4 x hS
    rw [← hm g (h2 g hg) hgx]
    exact hg
theorem F_fam.nil : F_fam (fun _ => False) [] := ⟨List.nodup_nil, fun c hc => absurd hc List.not_mem_nil, fun y hy => hy.elim, fun y hy => hy.elim, fun x hx => absurd hx List.not_mem_nil⟩
theorem F_fam.ext {S T : P_X} {fam : List (List Int)} (h : F_fam S fam) (e : ∀ x, T x ↔ S x) : F_fam T fam := by
  rw [show T = S from funext (fun x => propext (e x))]
  exact h
theorem F_fam.off {S : P_X} {fam : List (List Int)} (h : F_fam S fam) {xs : List Int} (hx : L_srt xs) : F_fam (fun y => S y ∨ y = xs) (F_off fam xs) := by
  obtain ⟨h1, h2, h3, h4, h5⟩ := h
  have hsrt : ∀ y, (S y ∨ y = xs) → L_srt y := fun y hy => by
    rcases hy with hy | rfl
    · exact h3 y hy
    · exact hx
  unfold F_off
  by_cases c : ∃ g, g ∈ fam ∧ L_le g xs
  · rw [c_pos c]
    refine ⟨h1, fun x hx => .inl (h2 x hx), hsrt, fun y hy => ?_, h5⟩
    rcases hy with hy | rfl
    · exact h4 y hy
    · exact c
  · rw [c_neg c]
    have hmem : ∀ y, y ∈ fam.filter (F_kp xs) ++ [xs] ↔ (y ∈ fam ∧ ¬ L_le xs y) ∨ y = xs := fun y => by
      rw [List.mem_append, List.mem_filter, List.mem_singleton]
      constructor
      · rintro (⟨a, b⟩ | a)
        · exact .inl ⟨a, F_kp_t.mp b⟩
        · exact .inr a
      · rintro (⟨a, b⟩ | a)
        · exact .inl ⟨a, F_kp_t.mpr b⟩
        · exact .inr a
    refine ⟨?_, fun y hy => ?_, hsrt, fun y hy => ?_, fun x hx2 y hy2 hle => ?_⟩
    · refine List.nodup_append.mpr ⟨h1.filter _, List.nodup_cons.mpr ⟨List.not_mem_nil, List.nodup_nil⟩, fun a ha b hb e => ?_⟩
      rw [List.mem_singleton] at hb
      rw [hb] at e
      have := F_kp_t.mp (List.mem_filter.mp ha).2
      rw [e] at this
      exact this (fun z hz => hz)
    · rcases (hmem y).mp hy with ⟨a, _⟩ | a
      · exact .inl (h2 y a)
      · exact .inr a
    · rcases hy with hy | rfl
      · obtain ⟨g, hg, hgy⟩ := h4 y hy
        by_cases d : L_le xs g
        · exact ⟨xs, (hmem xs).mpr (.inr rfl), fun z hz => hgy z (d z hz)⟩
        · exact ⟨g, (hmem g).mpr (.inl ⟨hg, d⟩), hgy⟩
      · exact ⟨y, (hmem y).mpr (.inr rfl), fun z hz => hz⟩
    · rcases (hmem x).mp hx2 with ⟨a, a2⟩ | rfl <;> rcases (hmem y).mp hy2 with ⟨b, b2⟩ | rfl
      · exact h5 x a y b hle
      · exact absurd ⟨x, a, hle⟩ c
      · exact absurd hle b2
      · rfl
theorem F_fam.offs {S : P_X} : ∀ (l : List (List Int)) {fam : List (List Int)} (_ : F_fam S fam) (_ : ∀ c ∈ l, L_srt c), F_fam (fun y => S y ∨ y ∈ l) (F_offs fam l) := by
  intro l
  induction l generalizing S with
  | nil =>
    intro fam h _
    exact h.ext (fun x => ⟨fun e => e.elim (fun e => e) (fun e => absurd e List.not_mem_nil), .inl⟩)
  | cons c l ih =>
    intro fam h hs
    have := ih (h.off (hs c (List.mem_cons_self ..))) (fun c hc => hs c (List.mem_cons_of_mem _ hc))
    refine F_fam.ext (S := fun y => (S y ∨ y = c) ∨ y ∈ l) this (fun x => ?_)
    rw [List.mem_cons]
    exact (or_assoc).symm
theorem F_fam.card {S : P_X} {fam : List (List Int)} (h : F_fam S fam) (n : Nat) : S_card (F_min S) n ↔ fam.length ≤ n := S_card_of h.1 h.min n
theorem F_fam.core {S : P_X} {fam : List (List Int)} (h : F_fam S fam) (hne : fam ≠ []) {ys : List Int} (hy : F_cl fam ys) : F_core S = ys := by
  obtain ⟨h1, h2, h3, h4, h5⟩ := h
  refine F_core_eq hy.1 (fun x => ?_)
  rw [hy.2.1]
  constructor
  · rintro ⟨_, g⟩ c hc
    obtain ⟨f, hf, hfc⟩ := h4 c hc
    exact hfc x (g f hf)
  · intro g
    exact ⟨hne, fun c hc => g c (h2 c hc)⟩
theorem F_fam.tel {S : P_X} {fam : List (List Int)} (h : F_fam S fam) : F_tel (F_min S) fam := ⟨h.1, fun c hc => h.2.2.1 c (h.2.1 c hc), h.min⟩
theorem F_tel_one {ys : List Int} (hy : L_srt ys) : F_tel (fun x => x = ys) [ys] := ⟨List.nodup_cons.mpr ⟨List.not_mem_nil, List.nodup_nil⟩, fun c hc => by rw [List.mem_singleton.mp hc]; exact hy, fun x => List.mem_singleton⟩
theorem F_off_nil (xs : List Int) : F_off [] xs = [xs] := by
  unfold F_off
  rw [c_neg (fun ⟨g, hg, _⟩ => absurd hg List.not_mem_nil)]
  rfl
/-- the least of what is gathered: the family itself, or its core -/
theorem F_least_tel {S : P_X} {fam ys : List (List Int)} (h : F_fam S fam) (h1 : fam.length ≤ 24 → ys = fam) (h2 : 24 < fam.length → ∃ c, F_cl fam c ∧ ys = [c]) : F_tel (F_least S) ys ∧ ys.length ≤ 24 := by
  unfold F_least
  by_cases c : fam.length ≤ 24
  · rw [c_pos ((h.card 24).mpr c), h1 c]
    exact ⟨h.tel, c⟩
  · obtain ⟨k, hk, rfl⟩ := h2 (by omega)
    rw [c_neg (fun e => c ((h.card 24).mp e)), h.core (fun e => by rw [e] at c; exact c (Nat.zero_le _)) hk]
    exact ⟨F_tel_one hk.1, by show 1 ≤ 24; omega⟩
/-- texts of keys -/
def K_tx (k : Int) : List Int := if k = 0 then [] else if k % 257 = 0 then [k / 257 - 1] else [k / 257 - 1, k % 257 - 1]
theorem K_tx_ky {t : List Int} (h : L_by2 t) : K_tx (K_ky t) = t := by
  unfold K_tx
  rcases L_by2_cases h with rfl | ⟨a, rfl, h1, h2⟩ | ⟨a, b, rfl, h1, h2, h3, h4⟩
  · rfl
  · rw [K_ky1, if_neg (by omega), if_pos (by omega), show (a + 1) * 257 / 257 - 1 = a by omega]
  · rw [K_ky2, if_neg (by omega), if_neg (by omega), show ((a + 1) * 257 + (b + 1)) / 257 - 1 = a by omega, show ((a + 1) * 257 + (b + 1)) % 257 - 1 = b by omega]
theorem K_is.at {S : P_X} {ks : List Int} (h : K_is S ks) {k : Int} (hk : k ∈ ks) : S (K_tx k) ∧ L_by2 (K_tx k) ∧ K_ky (K_tx k) = k := by
  obtain ⟨t, ht, rfl⟩ := (h.2.1 k).mp hk
  rw [K_tx_ky (h.2.2 t ht)]
  exact ⟨ht, h.2.2 t ht, rfl⟩
theorem K_is.of {S : P_X} {ks : List Int} (h : K_is S ks) {t : List Int} (ht : S t) : K_ky t ∈ ks ∧ K_tx (K_ky t) = t := ⟨(h.2.1 _).mpr ⟨t, ht, rfl⟩, K_tx_ky (h.2.2 t ht)⟩
/-- what a tail and a head tell -/
theorem L_gr_cr {u h : List Int} (hu : L_by2 u) (hh : L_by2 h) : L_gr (u ++ h) = if u.length = 2 ∧ 1 ≤ h.length then (if h.length = 2 then L_ins (65536 * L_at u (u.length - 1) + 256 * L_at h 0 + L_at h 1) (L_ins (65536 * L_at u 0 + 256 * L_at u (u.length - 1) + L_at h 0) []) else L_ins (65536 * L_at u 0 + 256 * L_at u (u.length - 1) + L_at h 0) []) else if 1 ≤ u.length ∧ h.length = 2 then L_ins (65536 * L_at u (u.length - 1) + 256 * L_at h 0 + L_at h 1) [] else [] := by
  rcases L_by2_cases hu with rfl | ⟨a, rfl, h1, h2⟩ | ⟨a, b, rfl, h1, h2, h3, h4⟩ <;> rcases L_by2_cases hh with rfl | ⟨c, rfl, g1, g2⟩ | ⟨c, d, rfl, g1, g2, g3, g4⟩
  · rfl
  · rfl
  · rfl
  · rfl
  · rfl
  · rfl
  · rfl
  · rfl
  · rw [if_pos (show [a, b].length = 2 ∧ 1 ≤ [c, d].length from ⟨rfl, by show 1 ≤ 2; omega⟩), if_pos (show [c, d].length = 2 from rfl)]
    show L_ins (65536 * a + 256 * b + c) (L_ins (65536 * b + 256 * c + d) []) = L_ins (65536 * b + 256 * c + d) (L_ins (65536 * a + 256 * b + c) [])
    refine L_srt_ext (L_ins_srt (L_ins_srt trivial)) (L_ins_srt (L_ins_srt trivial)) (fun x => ?_)
    simp only [L_ins_mem]
    constructor
    · rintro (h | h | h)
      · exact .inr (.inl h)
      · exact .inl h
      · exact .inr (.inr h)
    · rintro (h | h | h)
      · exact .inr (.inl h)
      · exact .inl h
      · exact .inr (.inr h)
