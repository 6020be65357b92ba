/-! the run of the machine, purely: one place i, begins that rise, the least begin B -/
def M_ac (κ : Nat → Int → Int) (H : Int → Int → Prop) (W : Int → Int) (n : Int) (q i j : Int) : Prop := ∃ N, M_acc κ H W n N q i j
section MR
variable {κ : Nat → Int → Int} {H : Int → Int → Prop} {W : Int → Int} {n m e B i : Int}
theorem M_ac.k8 {q : Int} (h : κ 1 q = 8) (i : Int) : M_ac κ H W n q i i := ⟨1, .inl ⟨h, rfl⟩⟩
theorem M_ac.k7a {q i j : Int} (h : κ 1 q = 7) (g : M_ac κ H W n (κ 2 q) i j) : M_ac κ H W n q i j := by
  obtain ⟨N, g⟩ := g
  exact ⟨N + 1, .inr (.inl ⟨h, .inl g⟩)⟩
theorem M_ac.k7b {q i j : Int} (h : κ 1 q = 7) (g : M_ac κ H W n (κ 3 q) i j) : M_ac κ H W n q i j := by
  obtain ⟨N, g⟩ := g
  exact ⟨N + 1, .inr (.inl ⟨h, .inr g⟩)⟩
theorem M_ac.k3 {q i j : Int} (h : κ 1 q = 3) (h1 : i < n) (h2 : H (κ 4 q) (W i)) (g : M_ac κ H W n (κ 2 q) (i + 1) j) : M_ac κ H W n q i j := by
  obtain ⟨N, g⟩ := g
  exact ⟨N + 1, .inr (.inr (.inl ⟨h, h1, h2, g⟩))⟩
theorem M_ac.k4 {q i j : Int} (h : 4 ≤ κ 1 q ∧ κ 1 q ≤ 6) (h1 : M_hold W n (κ 1 q - 2) i) (g : M_ac κ H W n (κ 2 q) i j) : M_ac κ H W n q i j := by
  obtain ⟨N, g⟩ := g
  exact ⟨N + 1, .inr (.inr (.inr ⟨h, h1, g⟩))⟩
theorem M_ac.k3i {q i j : Int} (h : κ 1 q = 3) (g : M_ac κ H W n q i j) : i < n ∧ H (κ 4 q) (W i) ∧ M_ac κ H W n (κ 2 q) (i + 1) j := by
  obtain ⟨N, g⟩ := g
  cases N with
  | zero => exact False.elim g
  | succ N =>
    rcases g with ⟨a, _⟩ | ⟨a, _⟩ | ⟨_, a, b, c⟩ | ⟨a, _⟩
    · omega
    · omega
    · exact ⟨a, b, N, c⟩
    · omega
/-- the states are in order -/
def M_kok (κ : Nat → Int → Int) (m : Int) : Prop := ∀ q, 0 ≤ q → q < m → κ 1 q = 8 ∨ (κ 1 q = 7 ∧ 0 ≤ κ 2 q ∧ κ 2 q < m ∧ 0 ≤ κ 3 q ∧ κ 3 q < m) ∨ (3 ≤ κ 1 q ∧ κ 1 q ≤ 6 ∧ 0 ≤ κ 2 q ∧ κ 2 q < m)
/-- the end j of what begins at B is not lost -/
def M_fn (κ : Nat → Int → Int) (H : Int → Int → Prop) (W : Int → Int) (n m B i : Int) (w : Int → Int) (c g z j : Int) : Prop := (g = B ∧ j ≤ z) ∨ ∃ k q, 0 ≤ k ∧ k < c ∧ w k = B * 256 + q ∧ 0 ≤ q ∧ q < m ∧ κ 1 q = 3 ∧ M_ac κ H W n q i j
def M_dn (κ : Nat → Int → Int) (H : Int → Int → Prop) (W : Int → Int) (n m B i : Int) (μ : Int → Int) (w : Int → Int) (c g z q : Int) : Prop := (κ 1 q = 8 → M_fn κ H W n m B i w c g z i) ∧ (κ 1 q = 3 → ∀ j, M_ac κ H W n q i j → M_fn κ H W n m B i w c g z j) ∧ (κ 1 q = 7 → μ (κ 2 q) = i ∧ μ (κ 3 q) = i) ∧ (4 ≤ κ 1 q ∧ κ 1 q ≤ 6 → M_hold W n (κ 1 q - 2) i → μ (κ 2 q) = i)
def M_up (f : Int → Int) (a v : Int) : Int → Int := fun j => if j = a then v else f j
def M_un (μ : Int → Int) (i : Int) : Nat → Int
  | 0 => 0
  | k + 1 => M_un μ i k + (if μ k = i then 0 else 1)
theorem M_un_b (μ : Int → Int) (i : Int) : ∀ k : Nat, 0 ≤ M_un μ i k ∧ M_un μ i k ≤ k
  | 0 => by unfold M_un; omega
  | k + 1 => by
    have := M_un_b μ i k
    unfold M_un
    split <;> omega
theorem M_un_up {μ : Int → Int} {i q : Int} (h : μ q ≠ i) (q0 : 0 ≤ q) : ∀ k : Nat, M_un (M_up μ q i) i k = M_un μ i k - (if q < k then 1 else 0)
  | 0 => by
    unfold M_un
    rw [if_neg (by omega)]; rfl
  | k + 1 => by
    have := M_un_up h q0 k
    unfold M_un
    rw [this]
    unfold M_up
    by_cases c : (k : Int) = q
    · rw [if_pos c, if_pos rfl, c, if_neg h, if_neg (by omega), if_pos (by omega)]; omega
    · rw [if_neg c]
      by_cases d : q < k
      · rw [if_pos d, show (if q < ((k + 1 : Nat) : Int) then (1 : Int) else 0) = 1 from if_pos (by omega)]
        generalize (if μ ↑k = i then (0 : Int) else 1) = z
        omega
      · rw [if_neg d, show (if q < ((k + 1 : Nat) : Int) then (1 : Int) else 0) = 0 from if_neg (by omega)]
        generalize (if μ ↑k = i then (0 : Int) else 1) = z
        omega
def M_iv (κ : Nat → Int → Int) (H : Int → Int → Prop) (W : Int → Int) (n m e B i : Int) (μ σ : Int → Int) (t : Int) (w : Int → Int) (c g z b x : Int) : Prop :=
  (∀ k, 0 ≤ k → k < t → 0 ≤ σ k ∧ σ k < m ∧ ∀ j, M_ac κ H W n (σ k) i j → M_ac κ H W n e b j) ∧
  (∀ k, 0 ≤ k → k < c → ∃ b' q, w k = b' * 256 + q ∧ 0 ≤ b' ∧ b' ≤ b ∧ 0 ≤ q ∧ q < m ∧ κ 1 q = 3 ∧ ∀ j, M_ac κ H W n q i j → M_ac κ H W n e b' j) ∧
  (∀ k k2, 0 ≤ k → k ≤ k2 → k2 < c → w k / 256 ≤ w k2 / 256) ∧
  (g = -1 ∨ 0 ≤ g ∧ (g < i ∨ b = i ∧ g = i) ∧ z ≤ i ∧ M_ac κ H W n e g z) ∧
  (b ≤ B → ∀ q, 0 ≤ q → q < m → μ q = i → (∃ k, 0 ≤ k ∧ k < t ∧ σ k = q) ∨ q = x ∨ M_dn κ H W n m B i μ w c g z q)
theorem M_dn.mono {μ μ2 w w2 : Int → Int} {c c2 g g2 z z2 q : Int} (h : M_dn κ H W n m B i μ w c g z q) (hm : ∀ q, μ q = i → μ2 q = i) (hf : ∀ j, M_fn κ H W n m B i w c g z j → M_fn κ H W n m B i w2 c2 g2 z2 j) : M_dn κ H W n m B i μ2 w2 c2 g2 z2 q :=
  ⟨fun a => hf _ (h.1 a), fun a j b => hf _ (h.2.1 a j b), fun a => ⟨hm _ (h.2.2.1 a).1, hm _ (h.2.2.1 a).2⟩, fun a b => hm _ (h.2.2.2 a b)⟩
theorem M_iv.pop {μ σ w : Int → Int} {t c g z b : Int} (h : M_iv κ H W n m e B i μ σ t w c g z b (-1)) (t0 : 0 < t) : M_iv κ H W n m e B i μ σ (t - 1) w c g z b (σ (t - 1)) ∧ 0 ≤ σ (t - 1) ∧ σ (t - 1) < m ∧ ∀ j, M_ac κ H W n (σ (t - 1)) i j → M_ac κ H W n e b j := by
  obtain ⟨h1, h2, h3, h4, h5⟩ := h
  refine ⟨⟨fun k k0 k1 => h1 k k0 (by omega), h2, h3, h4, fun hb q q0 q1 hq => ?_⟩, h1 _ (by omega) (by omega)⟩
  rcases h5 hb q q0 q1 hq with ⟨k, k0, k1, e1⟩ | e1 | e1
  · by_cases d : k = t - 1
    · exact .inr (.inl (by rw [← d]; exact e1.symm))
    · exact .inl ⟨k, k0, by omega, e1⟩
  · omega
  · exact .inr (.inr e1)
theorem M_iv.done {μ σ w : Int → Int} {t c g z b x : Int} (h : M_iv κ H W n m e B i μ σ t w c g z b x) (d : b ≤ B → M_dn κ H W n m B i μ w c g z x) : M_iv κ H W n m e B i μ σ t w c g z b (-1) := by
  obtain ⟨h1, h2, h3, h4, h5⟩ := h
  refine ⟨h1, h2, h3, h4, fun hb q q0 q1 hq => ?_⟩
  rcases h5 hb q q0 q1 hq with e1 | e1 | e1
  · exact .inl e1
  · rw [e1]; exact .inr (.inr (d hb))
  · exact .inr (.inr e1)
theorem M_iv.push {μ σ w : Int → Int} {t c g z b x q : Int} (h : M_iv κ H W n m e B i μ σ t w c g z b x) (t0 : 0 ≤ t) (q0 : 0 ≤ q) (q1 : q < m) (hs : ∀ j, M_ac κ H W n q i j → M_ac κ H W n e b j) : M_iv κ H W n m e B i (M_up μ q i) (M_up σ t q) (t + 1) w c g z b x := by
  obtain ⟨h1, h2, h3, h4, h5⟩ := h
  refine ⟨fun k k0 k1 => ?_, h2, h3, h4, fun hb p p0 p1 hp => ?_⟩
  · unfold M_up
    by_cases d : k = t
    · rw [if_pos d]; exact ⟨q0, q1, hs⟩
    · rw [if_neg d]; exact h1 k k0 (by omega)
  · by_cases d : p = q
    · exact .inl ⟨t, by omega, by omega, by rw [d]; exact if_pos rfl⟩
    · have hp : μ p = i := by unfold M_up at hp; rw [if_neg d] at hp; exact hp
      rcases h5 hb p p0 p1 hp with ⟨k, k0, k1, e1⟩ | e1 | e1
      · exact .inl ⟨k, k0, by omega, by unfold M_up; rw [if_neg (by omega)]; exact e1⟩
      · exact .inr (.inl e1)
      · exact .inr (.inr (e1.mono (fun p hp => by unfold M_up; split; rfl; exact hp) (fun j hj => hj)))
theorem M_fn.note {w : Int → Int} {c g z b j : Int} (hB : ∀ b j, 0 ≤ b → M_ac κ H W n e b j → B ≤ b) (b0 : 0 ≤ b) (hb : M_ac κ H W n e b i) (hg : g = -1 ∨ 0 ≤ g ∧ (g < i ∨ b = i ∧ g = i) ∧ z ≤ i ∧ M_ac κ H W n e g z) (hc : g = -1 ∨ b ≤ g) (B0 : 0 ≤ B) (h : M_fn κ H W n m B i w c g z j) : M_fn κ H W n m B i w c b i j := by
  have := hB b i b0 hb
  rcases h with ⟨h1, h2⟩ | h
  · exact .inl ⟨by omega, by omega⟩
  · exact .inr h
theorem M_iv.note {μ σ w : Int → Int} {t c g z b x : Int} (hB : ∀ b j, 0 ≤ b → M_ac κ H W n e b j → B ≤ b) (B0 : 0 ≤ B) (h : M_iv κ H W n m e B i μ σ t w c g z b x) (b0 : 0 ≤ b) (bi : b ≤ i) (k8 : κ 1 x = 8) (hs : ∀ j, M_ac κ H W n x i j → M_ac κ H W n e b j) {g2 z2 : Int} (e2 : (g = -1 ∨ b ≤ g) ∧ g2 = b ∧ z2 = i ∨ ¬ (g = -1 ∨ b ≤ g) ∧ g2 = g ∧ z2 = z) : M_iv κ H W n m e B i μ σ t w c g2 z2 b (-1) ∧ ∀ j, M_fn κ H W n m B i w c g z j → M_fn κ H W n m B i w c g2 z2 j := by
  obtain ⟨h1, h2, h3, h4, h5⟩ := h
  have hb := hs i (M_ac.k8 k8 i)
  have hle := hB b i b0 hb
  have mono : ∀ j, M_fn κ H W n m B i w c g z j → M_fn κ H W n m B i w c g2 z2 j := by
    intro j hj
    rcases e2 with ⟨a1, rfl, rfl⟩ | ⟨a1, rfl, rfl⟩
    · exact hj.note hB b0 hb h4 a1 B0
    · exact hj
  refine ⟨⟨h1, h2, h3, ?_, fun hbB q q0 q1 hq => ?_⟩, mono⟩
  · rcases e2 with ⟨a1, rfl, rfl⟩ | ⟨a1, rfl, rfl⟩
    · exact .inr ⟨b0, by omega, by omega, hb⟩
    · exact h4
  · rcases h5 hbB q q0 q1 hq with e1 | e1 | e1
    · exact .inl e1
    · refine .inr (.inr ⟨fun _ => .inl ?_, fun a => by rw [e1] at a; omega, fun a => by rw [e1] at a; omega, fun a => by rw [e1] at a; omega⟩)
      rcases e2 with ⟨a1, rfl, rfl⟩ | ⟨a1, rfl, rfl⟩
      · exact ⟨by omega, by omega⟩
      · exfalso
        rcases h4 with a | ⟨a2, a3, a4, a5⟩
        · exact a1 (.inl a)
        · have := hB _ _ a2 a5
          exact a1 (.inr (by omega))
    · exact .inr (.inr (e1.mono (fun p hp => hp) mono))
theorem M_fn.way {w : Int → Int} {c g z v j : Int} (h : M_fn κ H W n m B i w c g z j) : M_fn κ H W n m B i (M_up w c v) (c + 1) g z j := by
  rcases h with h | ⟨k, q, k0, k1, k2, k3⟩
  · exact .inl h
  · exact .inr ⟨k, q, k0, by omega, by unfold M_up; rw [if_neg (by omega)]; exact k2, k3⟩
theorem M_iv.way {μ σ w : Int → Int} {t c g z b x : Int} (hB : ∀ b j, 0 ≤ b → M_ac κ H W n e b j → B ≤ b) (h : M_iv κ H W n m e B i μ σ t w c g z b x) (c0 : 0 ≤ c) (b0 : 0 ≤ b) (k3 : κ 1 x = 3) (x0 : 0 ≤ x) (x1 : x < m) (m1 : m ≤ 202) (hs : ∀ j, M_ac κ H W n x i j → M_ac κ H W n e b j) : M_iv κ H W n m e B i μ σ t (M_up w c (b * 256 + x)) (c + 1) g z b (-1) := by
  obtain ⟨h1, h2, h3, h4, h5⟩ := h
  refine ⟨h1, fun k k0 k1 => ?_, fun k k2 k0 k1 k4 => ?_, h4, fun hbB q q0 q1 hq => ?_⟩
  · by_cases d : k = c
    · exact ⟨b, x, by unfold M_up; rw [if_pos d], b0, by omega, x0, x1, k3, hs⟩
    · unfold M_up; rw [if_neg d]; exact h2 k k0 (by omega)
  · unfold M_up
    by_cases d : k2 = c
    · rw [if_pos d]
      by_cases d2 : k = c
      · rw [if_pos d2]; omega
      · rw [if_neg d2]
        obtain ⟨b', q, a1, a2, a3, a4, a5, _⟩ := h2 k k0 (by omega)
        rw [a1]; omega
    · rw [if_neg d, if_neg (by omega)]
      exact h3 k k2 k0 k1 (by omega)
  · rcases h5 hbB q q0 q1 hq with e1 | e1 | e1
    · exact .inl e1
    · refine .inr (.inr ⟨fun a => by rw [e1] at a; omega, fun _ j hj => ?_, fun a => by rw [e1] at a; omega, fun a => by rw [e1] at a; omega⟩)
      rw [e1] at hj
      have := hB _ _ b0 (hs j hj)
      obtain rfl : b = B := by omega
      exact .inr ⟨c, x, by omega, by omega, if_pos rfl, x0, x1, k3, hj⟩
    · exact .inr (.inr (e1.mono (fun p hp => hp) (fun j hj => hj.way)))
/-- at the end what is marked is not lost -/
theorem M_iv.ends {μ σ w : Int → Int} {t c g z b : Int} (hk : M_kok κ m) (h : M_iv κ H W n m e B i μ σ t w c g z b (-1)) (t0 : t ≤ 0) (hb : b ≤ B) : ∀ (N : Nat) (q j : Int), 0 ≤ q → q < m → μ q = i → M_acc κ H W n N q i j → M_fn κ H W n m B i w c g z j := by
  intro N
  induction N with
  | zero => intro q j _ _ _ ha; exact False.elim ha
  | succ N ih =>
    intro q j q0 q1 hq ha
    have hd : M_dn κ H W n m B i μ w c g z q := by
      rcases h.2.2.2.2 hb q q0 q1 hq with ⟨k, k0, k1, _⟩ | e1 | e1
      · omega
      · omega
      · exact e1
    have hok := hk q q0 q1
    have ha' := ha
    rcases ha with ⟨a1, a2⟩ | ⟨a1, a2⟩ | ⟨a1, a2⟩ | ⟨a1, a2, a3⟩
    · rw [← a2]; exact hd.1 a1
    · have hm := hd.2.2.1 a1
      rcases a2 with a2 | a2
      · exact ih _ j (by omega) (by omega) hm.1 a2
      · exact ih _ j (by omega) (by omega) hm.2 a2
    · exact hd.2.1 a1 j ⟨_, ha'⟩
    · exact ih _ j (by omega) (by omega) (hd.2.2.2 a1 a2) a3
theorem M_iv.up {μ σ w : Int → Int} {t c g z b b2 : Int} (h : M_iv κ H W n m e B i μ σ t w c g z b (-1)) (t0 : t ≤ 0) (hb : b ≤ b2) (hb2 : b2 ≤ i) : M_iv κ H W n m e B i μ σ 0 w c g z b2 (-1) := by
  obtain ⟨h1, h2, h3, h4, h5⟩ := h
  refine ⟨fun k k0 k1 => by omega, fun k k0 k1 => ?_, h3, ?_, fun hbB q q0 q1 hq => ?_⟩
  · obtain ⟨b', q, a1, a2, a3, a4⟩ := h2 k k0 k1
    exact ⟨b', q, a1, a2, by omega, a4⟩
  · rcases h4 with h | ⟨a1, a2, a3⟩
    · exact .inl h
    · exact .inr ⟨a1, by omega, a3⟩
  · rcases h5 (by omega) q q0 q1 hq with ⟨k, k0, k1, _⟩ | e1 | e1
    · omega
    · omega
    · exact .inr (.inr e1)
end MR
