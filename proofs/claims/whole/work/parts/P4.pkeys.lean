/-! keys of ends, purely -/
def K_ky (t : List Int) : Int := (L_at t 0 + 1) * 257 + (L_at t 1 + 1)
def L_by2 (t : List Int) : Prop := t.length ≤ 2 ∧ ∀ x ∈ t, 0 ≤ x ∧ x < 256
theorem L_by2_cases {t : List Int} (h : L_by2 t) : t = [] ∨ (∃ a, t = [a] ∧ 0 ≤ a ∧ a < 256) ∨ ∃ a b, t = [a, b] ∧ 0 ≤ a ∧ a < 256 ∧ 0 ≤ b ∧ b < 256 := by
  obtain ⟨h1, h2⟩ := h
  match t, h1, h2 with
  | [], _, _ => exact .inl rfl
  | [a], _, h2 =>
    have := h2 a (List.mem_cons_self ..)
    exact .inr (.inl ⟨a, rfl, this.1, this.2⟩)
  | [a, b], _, h2 =>
    have g1 := h2 a (List.mem_cons_self ..)
    have g2 := h2 b (List.mem_cons_of_mem _ (List.mem_cons_self ..))
    exact .inr (.inr ⟨a, b, rfl, g1.1, g1.2, g2.1, g2.2⟩)
  | a :: b :: c :: l, h1, _ => exact absurd h1 (by rw [List.length_cons, List.length_cons, List.length_cons]; omega)
theorem K_ky0 : K_ky [] = 0 := rfl
theorem K_ky1 (a : Int) : K_ky [a] = (a + 1) * 257 := by
  show (a + 1) * 257 + (-1 + 1) = _
  omega
theorem K_ky2 (a b : Int) : K_ky [a, b] = (a + 1) * 257 + (b + 1) := rfl
theorem K_ky_r {t : List Int} (h : L_by2 t) : 0 ≤ K_ky t ∧ K_ky t < 66049 := by
  rcases L_by2_cases h with rfl | ⟨a, rfl, h1, h2⟩ | ⟨a, b, rfl, h1, h2, h3, h4⟩
  · rw [K_ky0]; omega
  · rw [K_ky1]; omega
  · rw [K_ky2]; omega
theorem K_ky_inj {t u : List Int} (h : L_by2 t) (g : L_by2 u) (e : K_ky t = K_ky u) : t = u := by
  rcases L_by2_cases h with rfl | ⟨a, rfl, h1, h2⟩ | ⟨a, b, rfl, h1, h2, h3, h4⟩ <;> rcases L_by2_cases g with rfl | ⟨c, rfl, g1, g2⟩ | ⟨c, d, rfl, g1, g2, g3, g4⟩ <;> simp only [K_ky0, K_ky1, K_ky2] at e
  · rfl
  · omega
  · omega
  · omega
  · rw [show a = c by omega]
  · omega
  · omega
  · omega
  · rw [show a = c by omega, show b = d by omega]
theorem K_sg0 {t : List Int} (h : L_by2 t) : K_sg (K_ky t) 0 = L_at t 0 := by
  unfold K_sg
  rw [if_pos rfl]
  rcases L_by2_cases h with rfl | ⟨a, rfl, h1, h2⟩ | ⟨a, b, rfl, h1, h2, h3, h4⟩
  · rfl
  · rw [K_ky1]; show _ = a; omega
  · rw [K_ky2]; show _ = a; omega
theorem K_sg1 {t : List Int} (h : L_by2 t) : K_sg (K_ky t) 1 = L_at t 1 := by
  unfold K_sg
  rw [if_neg (by omega), if_pos rfl]
  rcases L_by2_cases h with rfl | ⟨a, rfl, h1, h2⟩ | ⟨a, b, rfl, h1, h2, h3, h4⟩
  · rfl
  · rw [K_ky1]; show _ = -1; omega
  · rw [K_ky2]; show _ = b; omega
theorem K_ls_t {t : List Int} (h : L_by2 t) : K_ls (K_ky t) = L_at t (t.length - 1) := by
  unfold K_ls
  rcases L_by2_cases h with rfl | ⟨a, rfl, h1, h2⟩ | ⟨a, b, rfl, h1, h2, h3, h4⟩
  · rfl
  · rw [K_ky1, if_pos (by omega)]; show _ = a; omega
  · rw [K_ky2, if_neg (by omega)]; show _ = b; omega
theorem K_md {t : List Int} (h : L_by2 t) : K_ky t % 257 = 0 ↔ t.length ≤ 1 := by
  rcases L_by2_cases h with rfl | ⟨a, rfl, h1, h2⟩ | ⟨a, b, rfl, h1, h2, h3, h4⟩
  · exact ⟨fun _ => by decide, fun _ => rfl⟩
  · rw [K_ky1]; exact ⟨fun _ => by show 1 ≤ 1; omega, fun _ => by omega⟩
  · rw [K_ky2]; exact ⟨fun _ => by omega, fun e => by have : (2 : Nat) ≤ 1 := e; omega⟩
theorem K_ky_0 {t : List Int} (h : L_by2 t) : K_ky t = 0 ↔ t = [] := ⟨fun e => K_ky_inj h ⟨Nat.zero_le _, fun x hx => absurd hx List.not_mem_nil⟩ (e.trans K_ky0.symm), fun e => by rw [e]; rfl⟩
/-- a list of keys tells a set of ends -/
def K_is (S : P_X) (ks : List Int) : Prop := L_srt ks ∧ (∀ x, x ∈ ks ↔ ∃ t, S t ∧ x = K_ky t) ∧ ∀ t, S t → L_by2 t
theorem K_is.mem {S : P_X} {ks : List Int} (h : K_is S ks) {t : List Int} (ht : L_by2 t) : K_ky t ∈ ks ↔ S t := by
  rw [h.2.1]
  constructor
  · rintro ⟨u, hu, e⟩
    rw [K_ky_inj ht (h.2.2 u hu) e]; exact hu
  · intro hS; exact ⟨t, hS, rfl⟩
theorem K_is.card {S : P_X} {ks : List Int} (h : K_is S ks) (n : Nat) : S_card S n ↔ ks.length ≤ n := by
  -- the texts behind the keys, each once
  have key : ∃ l : List (List Int), l.length = ks.length ∧ l.Nodup ∧ ∀ t, t ∈ l ↔ S t := by
    have gen : ∀ ks : List Int, ks.Nodup → (∀ x ∈ ks, ∃ t, S t ∧ x = K_ky t) → ∃ l : List (List Int), l.length = ks.length ∧ l.Nodup ∧ ∀ t, t ∈ l ↔ S t ∧ K_ky t ∈ ks := by
      intro ks
      induction ks with
      | nil => intro _ _; exact ⟨[], rfl, List.nodup_nil, fun t => ⟨fun e => absurd e List.not_mem_nil, fun e => absurd e.2 List.not_mem_nil⟩⟩
      | cons x ks ih =>
        intro hd hx
        have hd2 := List.nodup_cons.mp hd
        obtain ⟨l, l1, l2, l3⟩ := ih hd2.2 (fun y hy => hx y (List.mem_cons_of_mem _ hy))
        obtain ⟨t, ht, et⟩ := hx x (List.mem_cons_self ..)
        refine ⟨t :: l, by rw [List.length_cons, List.length_cons, l1], List.nodup_cons.mpr ⟨fun hm => hd2.1 (by rw [et]; exact ((l3 t).mp hm).2), l2⟩, fun u => ?_⟩
        rw [List.mem_cons, List.mem_cons, l3]
        constructor
        · rintro (rfl | ⟨g1, g2⟩)
          · exact ⟨ht, .inl et.symm⟩
          · exact ⟨g1, .inr g2⟩
        · rintro ⟨g1, g2 | g2⟩
          · exact .inl (K_ky_inj (h.2.2 u g1) (h.2.2 t ht) (g2.trans et))
          · exact .inr ⟨g1, g2⟩
    obtain ⟨l, l1, l2, l3⟩ := gen ks (L_srt_nd h.1) (fun x hx => (h.2.1 x).mp hx)
    exact ⟨l, l1, l2, fun t => ⟨fun ht => ((l3 t).mp ht).1, fun ht => (l3 t).mpr ⟨ht, (h.2.1 _).mpr ⟨t, ht, rfl⟩⟩⟩⟩
  obtain ⟨l, l1, l2, l3⟩ := key
  rw [S_card_of l2 l3 n, l1]
theorem K_is.ext {S T : P_X} {ks : List Int} (h : K_is S ks) (e : ∀ t, T t ↔ S t) : K_is T ks := by
  rw [show T = S from funext (fun t => propext (e t))]
  exact h
/-- the short form of a key, from the front or from behind -/
def K_one (b : Int) (k : Int) : Int := if k % 257 = 0 then k else (K_sg k (if b = 0 then 0 else 1) + 1) * 257
def E_pre (b : Int) (u t : List Int) : Prop := if b = 0 then u <+: t else u <:+ t
def E_sh (b : Int) (t : List Int) : List Int := if b = 0 then t.take 1 else t.drop (t.length - 1)
noncomputable def E_bb (b : Int) (S : P_X) : P_X := E_bnd (E_pre b) (E_sh b) S
theorem E_bb0 (S : P_X) : E_bb 0 S = E_hs S := by
  unfold E_bb E_hs
  rw [show E_pre 0 = (fun a b => a <+: b) from by funext u t; exact if_pos rfl, show E_sh 0 = (fun t => t.take 1) from by funext t; exact if_pos rfl]
theorem E_bb1 (S : P_X) : E_bb 1 S = E_ts S := by
  unfold E_bb E_ts
  rw [show E_pre 1 = (fun a b => a <:+ b) from by funext u t; exact if_neg (by decide), show E_sh 1 = (fun t => t.drop (t.length - 1)) from by funext t; exact if_neg (by decide)]
theorem E_sh_l {b : Int} (t : List Int) : (E_sh b t).length = min 1 t.length := by
  unfold E_sh
  split
  · rw [List.length_take]
  · rw [List.length_drop]; omega
theorem E_sh_s {b : Int} {t : List Int} (h : t.length ≤ 1) : E_sh b t = t := by
  match t, h with
  | [], _ => unfold E_sh; split <;> rfl
  | [a], _ => unfold E_sh; split <;> rfl
theorem E_sh_by {b : Int} {t : List Int} (h : L_by2 t) : L_by2 (E_sh b t) := by
  refine ⟨by rw [E_sh_l]; omega, fun x hx => h.2 x ?_⟩
  unfold E_sh at hx
  split at hx
  · exact List.mem_of_mem_take hx
  · exact List.mem_of_mem_drop hx
theorem K_one_t {b : Int} {t : List Int} (h : L_by2 t) : K_one b (K_ky t) = K_ky (E_sh b t) := by
  unfold K_one
  by_cases c : t.length ≤ 1
  · rw [if_pos ((K_md h).mpr c), E_sh_s c]
  · rw [if_neg (fun e => c ((K_md h).mp e))]
    rcases L_by2_cases h with rfl | ⟨a, rfl, h1, h2⟩ | ⟨a, d, rfl, h1, h2, h3, h4⟩
    · exact absurd (by decide) c
    · exact absurd (by show 1 ≤ 1; omega) c
    · unfold E_sh
      split
      · rw [K_sg0 h]
        show (a + 1) * 257 = K_ky [a]
        rw [K_ky1]
      · rw [K_sg1 h]
        show (d + 1) * 257 = K_ky [d]
        rw [K_ky1]
theorem E_pre_2 {b : Int} {u t : List Int} (h : L_by2 t) : E_pre b u t ∧ u ≠ t ↔ (u = [] ∧ t ≠ []) ∨ (t.length = 2 ∧ u = E_sh b t) := by
  rcases L_by2_cases h with rfl | ⟨a, rfl, h1, h2⟩ | ⟨a, d, rfl, h1, h2, h3, h4⟩
  · constructor
    · rintro ⟨h1, h2⟩
      refine absurd ?_ h2
      unfold E_pre at h1
      split at h1
      · exact List.prefix_nil.mp h1
      · exact List.suffix_nil.mp h1
    · rintro (⟨_, h⟩ | ⟨h, _⟩)
      · exact absurd rfl h
      · cases h
  · constructor
    · rintro ⟨h1, h2⟩
      have hl : u.length ≤ 1 := by
        unfold E_pre at h1
        split at h1
        · exact h1.length_le
        · exact h1.length_le
      match u, hl with
      | [], _ => exact .inl ⟨rfl, List.cons_ne_nil _ _⟩
      | [x], _ =>
        unfold E_pre at h1
        split at h1
        · exact absurd (h1.eq_of_length rfl) h2
        · exact absurd (h1.eq_of_length rfl) h2
    · rintro (⟨rfl, _⟩ | ⟨h, _⟩)
      · refine ⟨?_, (List.cons_ne_nil _ _).symm⟩
        unfold E_pre
        split
        · exact List.nil_prefix
        · exact List.nil_suffix
      · have h : 1 = 2 := h; omega
  · constructor
    · rintro ⟨h1, h2⟩
      have hl : u.length ≤ 2 := by
        unfold E_pre at h1
        split at h1
        · exact h1.length_le
        · exact h1.length_le
      match u, hl with
      | [], _ => exact .inl ⟨rfl, List.cons_ne_nil _ _⟩
      | [x], _ =>
        refine .inr ⟨rfl, ?_⟩
        unfold E_pre at h1
        unfold E_sh
        split at h1
        · rename_i e
          rw [if_pos e]
          obtain ⟨l, hl⟩ := h1
          injection hl with e1 e2
          rw [e1]; rfl
        · rename_i e
          rw [if_neg e]
          obtain ⟨l, hl⟩ := h1
          match l, hl with
          | [], hl => injection hl with _ e2; cases e2
          | [y], hl =>
            injection hl with _ e2
          | y :: z :: l, hl =>
            have := congrArg List.length hl
            rw [List.length_append] at this
            simp at this
      | [x, y], _ =>
        unfold E_pre at h1
        split at h1
        · exact absurd (h1.eq_of_length rfl) h2
        · exact absurd (h1.eq_of_length rfl) h2
    · rintro (⟨rfl, _⟩ | ⟨_, rfl⟩)
      · refine ⟨?_, (List.cons_ne_nil _ _).symm⟩
        unfold E_pre
        split
        · exact List.nil_prefix
        · exact List.nil_suffix
      · refine ⟨?_, fun e => ?_⟩
        · unfold E_pre E_sh
          split
          · exact List.take_prefix _ _
          · exact List.drop_suffix _ _
        · have := congrArg List.length e
          rw [E_sh_l] at this
          have h2 : [a, d].length = 2 := rfl
          omega
def K_go (b : Int) (ks : List Int) (k : Int) : Prop := k ≠ 0 ∧ (0 : Int) ∈ ks ∨ k ≠ K_one b k ∧ K_one b k ∈ ks
theorem K_go_t {b : Int} {S : P_X} {ks : List Int} (h : K_is S ks) {t : List Int} (ht : S t) : ¬ K_go b ks (K_ky t) ↔ S_min (E_pre b) S t := by
  have hb := h.2.2 t ht
  have nil2 : L_by2 [] := ⟨Nat.zero_le _, fun x hx => absurd hx List.not_mem_nil⟩
  have e0 : (0 : Int) ∈ ks ↔ S [] := h.mem nil2
  have e1 : K_one b (K_ky t) ∈ ks ↔ S (E_sh b t) := by rw [K_one_t hb]; exact h.mem (E_sh_by hb)
  have e2 : K_ky t = K_one b (K_ky t) ↔ t = E_sh b t := by
    rw [K_one_t hb]
    exact ⟨fun e => K_ky_inj hb (E_sh_by hb) e, fun e => congrArg K_ky e⟩
  unfold K_go
  rw [e0, e1, Ne, Ne, K_ky_0 hb, e2]
  constructor
  · intro hn
    refine ⟨ht, fun y hy hp => ?_⟩
    by_cases c : y = t
    · exact c
    · exfalso
      rcases (E_pre_2 hb).mp ⟨hp, c⟩ with ⟨rfl, h2⟩ | ⟨h1, rfl⟩
      · exact hn (.inl ⟨h2, hy⟩)
      · exact hn (.inr ⟨fun e => c e.symm, hy⟩)
  · rintro ⟨_, hmin⟩ (⟨h1, h2⟩ | ⟨h1, h2⟩)
    · have := (E_pre_2 (b := b) (u := []) hb).mpr (.inl ⟨rfl, h1⟩)
      exact h1 (hmin [] h2 this.1).symm
    · have hl : t.length = 2 := by
        by_cases c : t.length ≤ 1
        · exact absurd (E_sh_s c).symm h1
        · have := hb.1; omega
      have := (E_pre_2 (b := b) (u := E_sh b t) hb).mpr (.inr ⟨hl, rfl⟩)
      exact h1 (hmin _ h2 this.1).symm
/-- what shorten leaves of keys -/
theorem K_short {b : Int} {S : P_X} {ks kp sh : List Int} (h : K_is S ks) (hk : L_srt kp) (hkm : ∀ x, x ∈ kp ↔ x ∈ ks ∧ ¬ K_go b ks x) (hs : L_srt sh) (hsm : ∀ x, x ∈ sh ↔ ∃ k, k ∈ kp ∧ x = K_one b k) : K_is (E_bb b S) (if 12 < kp.length then (if 12 < sh.length then [0] else sh) else kp) := by
  have hkp : K_is (S_min (E_pre b) S) kp := by
    refine ⟨hk, fun x => ?_, fun t ht => h.2.2 t ht.1⟩
    rw [hkm]
    constructor
    · rintro ⟨h1, h2⟩
      obtain ⟨t, ht, rfl⟩ := (h.2.1 x).mp h1
      exact ⟨t, (K_go_t h ht).mp h2, rfl⟩
    · rintro ⟨t, ht, rfl⟩
      exact ⟨(h.mem (h.2.2 t ht.1)).mpr ht.1, (K_go_t h ht.1).mpr ht⟩
  have hc := hkp.card 12
  unfold E_bb E_bnd
  by_cases c : 12 < kp.length
  · rw [if_pos c, c_neg (fun e => by have := hc.mp e; omega)]
    -- no empty end stands among them
    have hne : ∀ t, S_min (E_pre b) S t → t ≠ [] := by
      intro t ht e
      subst e
      have hall : ∀ u, S_min (E_pre b) S u → u = [] := fun u hu => by
        by_cases cu : u = []
        · exact cu
        · have := (E_pre_2 (b := b) (u := []) (h.2.2 u hu.1)).mpr (.inl ⟨rfl, cu⟩)
          exact (hu.2 [] ht.1 this.1).symm
      have : S_card (S_min (E_pre b) S) 12 := ⟨[[]], by show 1 ≤ 12; omega, fun u hu => by rw [hall u hu]; exact List.mem_cons_self ..⟩
      have := hc.mp this
      omega
    have hsi : K_is (fun y => ∃ x, S_min (E_pre b) S x ∧ y = E_sh b x) sh := by
      refine ⟨hs, fun x => ?_, ?_⟩
      · rw [hsm]
        constructor
        · rintro ⟨k, hk, rfl⟩
          obtain ⟨t, ht, rfl⟩ := (hkp.2.1 k).mp hk
          exact ⟨E_sh b t, ⟨t, ht, rfl⟩, K_one_t (h.2.2 t ht.1)⟩
        · rintro ⟨u, ⟨t, ht, rfl⟩, rfl⟩
          exact ⟨K_ky t, (hkp.2.1 _).mpr ⟨t, ht, rfl⟩, (K_one_t (h.2.2 t ht.1)).symm⟩
      · rintro u ⟨t, ht, rfl⟩
        exact E_sh_by (h.2.2 t ht.1)
    have hmin : ∀ u, S_min (E_pre b) (fun y => ∃ x, S_min (E_pre b) S x ∧ y = E_sh b x) u ↔ ∃ x, S_min (E_pre b) S x ∧ u = E_sh b x := by
      intro u
      constructor
      · intro hu; exact hu.1
      · intro hu
        refine ⟨hu, fun y hy hp => ?_⟩
        by_cases cy : y = u
        · exact cy
        · exfalso
          obtain ⟨x, hx, rfl⟩ := hu
          obtain ⟨x2, hx2, rfl⟩ := hy
          have l1 := E_sh_l (b := b) x
          have l2 := E_sh_l (b := b) x2
          have n2 := hne x2 hx2
          have n2l : 0 < x2.length := List.length_pos_iff.mpr n2
          rcases (E_pre_2 (E_sh_by (h.2.2 x hx.1))).mp ⟨hp, cy⟩ with ⟨e, _⟩ | ⟨e, _⟩
          · rw [e] at l2
            have : (0 : Nat) = min 1 x2.length := l2
            omega
          · omega
    have hsi2 := hsi.ext hmin
    have hc2 := hsi2.card 12
    by_cases c2 : 12 < sh.length
    · rw [if_pos c2, c_neg (fun e => by have := hc2.mp e; omega)]
      refine ⟨⟨fun y hy => absurd hy List.not_mem_nil, trivial⟩, fun x => ?_, fun t ht => ?_⟩
      · rw [List.mem_singleton]
        exact ⟨fun e => ⟨[], rfl, e⟩, fun ⟨t, ht, e⟩ => by rw [show t = [] from ht] at e; exact e⟩
      · rw [show t = [] from ht]
        exact ⟨Nat.zero_le _, fun x hx => absurd hx List.not_mem_nil⟩
    · rw [if_neg c2, c_pos (hc2.mpr (by omega))]
      exact hsi2
  · rw [if_neg c, c_pos (hc.mpr (by omega))]
    exact hkp
