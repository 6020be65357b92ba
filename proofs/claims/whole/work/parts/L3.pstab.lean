/-! families: what a count does to the choices -/
theorem S_card_up {α : Type} {A : α → Prop} {m n : Nat} (h : S_card A m) (hn : m ≤ n) : S_card A n := by
  obtain ⟨l, l1, l2⟩ := h
  exact ⟨l, by omega, l2⟩
theorem F_both_a {P Q : P_X} (c : S_card (F_min (F_un P Q)) 24) : F_both P Q = F_min (F_un P Q) := by unfold F_both; exact c_pos c
theorem F_both_b {P Q : P_X} (c : ¬ S_card (F_min (F_un P Q)) 24) (c2 : ∀ n, S_card Q n → S_card P n) : F_both P Q = F_min (F_un P (fun x => x = F_core Q)) := by unfold F_both; rw [c_neg c, c_pos c2]
theorem F_both_c {P Q : P_X} (c : ¬ S_card (F_min (F_un P Q)) 24) (c2 : ¬ ∀ n, S_card Q n → S_card P n) : F_both P Q = F_min (F_un (fun x => x = F_core P) Q) := by unfold F_both; rw [c_neg c, c_neg c2]
noncomputable def F_stp (E X F : P_X) : P_X := F_both (F_both F E) X
/-- a fixed point: each has one of E and one of X -/
theorem F_stp_fix {E X F : P_X} (hF : F_G F) (hE : F_G E) (hX : F_G X) (h1 : ∀ f, F f → ∃ e, E e ∧ L_le e f) (h2 : ∀ f, F f → ∃ e, X e ∧ L_le e f) : F_stp E X F = F := by
  unfold F_stp
  rw [F_both_abs hF hE.1 h1, F_both_abs hF hX.1 h2]
theorem F_stable {B E X : P_X} (hB : F_G B) (hE : F_G E) (hX : F_G X) (h1 : ∀ f, B f → ∃ e, E e ∧ L_le e f) {M : Nat} (m1 : ∀ f, B f → f.length ≤ M) (m2 : ∀ e, E e → (L_un (F_core B) e).length ≤ M) (x2 : ∀ x, X x → x.length ≤ 2) : (∀ z, F_stp E X B z → z.length ≤ M + 2) ∧ (∀ z, F_stp E X (F_stp E X B) z → z.length ≤ M + 2) ∧ F_stp E X (F_stp E X (F_stp E X B)) = F_stp E X (F_stp E X B) := by
  have sB := F_core_sp hB.1 hB.2.1
  have sX := F_core_sp hX.1 hX.2.1
  have sE := F_core_sp hE.1 hE.2.1
  have eB : F_both B E = B := F_both_abs hB hE.1 h1
  have fx : ∀ F, F_stp E X B = F → F_stp E X F = F → (∀ z, F z → z.length ≤ M + 2) → (∀ z, F_stp E X B z → z.length ≤ M + 2) ∧ (∀ z, F_stp E X (F_stp E X B) z → z.length ≤ M + 2) ∧ F_stp E X (F_stp E X (F_stp E X B)) = F_stp E X (F_stp E X B) := by
    intro F e1 e2 hz
    rw [e1, e2, e2]
    exact ⟨hz, hz, rfl⟩
  have e0 : F_stp E X B = F_both B X := by unfold F_stp; rw [eB]
  by_cases cA : S_card (F_min (F_un B X)) 24
  · have e1 : F_stp E X B = F_min (F_un B X) := by rw [e0, F_both_a cA]
    have hG : F_G (F_min (F_un B X)) := F_G_min (F_S_un hX.1) (F_ex_un hB.2.1 hX.2.1) cA
    refine fx _ e1 (F_stp_fix hG hE hX ?_ ?_) ?_
    · rintro z ⟨⟨f, x, hf, hx, e⟩, _⟩
      obtain ⟨q, hq, l⟩ := h1 f hf
      exact ⟨q, hq, by rw [e]; exact L_le_tr l (L_le_l _ _)⟩
    · rintro z ⟨⟨f, x, hf, hx, e⟩, _⟩
      exact ⟨x, hx, by rw [e]; exact L_le_r _ _⟩
    · rintro z ⟨⟨f, x, hf, hx, e⟩, _⟩
      have := L_un_len x f
      have := m1 f hf
      have := x2 x hx
      rw [e]; omega
  have hcx : F_S (fun y => y = F_core X) := (F_G_core hX).1
  by_cases cB : ∀ n, S_card X n → S_card B n
  · have e1 : F_stp E X B = F_min (F_un B (fun y => y = F_core X)) := by rw [e0, F_both_b cA cB]
    have hcd : ∀ n, S_card B n → S_card (F_min (F_un B (fun y => y = F_core X))) n := fun n hn => F_card_im (A := B) (g := fun x => L_un x (F_core X)) (fun y hy => by
      obtain ⟨⟨x, c, hx, hc, e⟩, _⟩ := hy
      exact ⟨x, hx, by rw [e, hc]⟩) hn
    have hG : F_G (F_min (F_un B (fun y => y = F_core X))) := F_G_min (F_S_un hcx) (F_ex_un hB.2.1 ⟨_, rfl⟩) (hcd 24 hB.2.2.2)
    have hcE : ∀ f, F_min (F_un B (fun y => y = F_core X)) f → ∃ e, E e ∧ L_le e f := by
      rintro z ⟨⟨f, x, hf, hx, e⟩, _⟩
      obtain ⟨q, hq, l⟩ := h1 f hf
      exact ⟨q, hq, by rw [e]; exact L_le_tr l (L_le_l _ _)⟩
    have hcX : ∀ f, F_min (F_un B (fun y => y = F_core X)) f → ∃ e, e = F_core X ∧ L_le e f := by
      rintro z ⟨⟨f, x, hf, hx, e⟩, _⟩
      exact ⟨_, rfl, by rw [e, hx]; exact L_le_r _ _⟩
    have em : F_min (F_un (F_min (F_un B (fun y => y = F_core X))) X) = F_min (F_un B X) := by
      refine F_min_eq (F_S_un hX.1) (F_S_un hX.1) ?_ ?_
      · rintro u ⟨w, x, ⟨⟨f, c, hf, hc, e⟩, _⟩, hx, e2⟩
        refine ⟨L_un f x, ⟨f, x, hf, hx, rfl⟩, L_le_un ?_ ?_⟩
        · rw [e2, e]; exact L_le_tr (L_le_l _ _) (L_le_l _ _)
        · rw [e2]; exact L_le_r _ _
      · rintro v ⟨f, x, hf, hx, e⟩
        obtain ⟨w, hw, l⟩ := F_below (F_S_un hcx) (x := L_un f (F_core X)) ⟨f, _, hf, rfl, rfl⟩
        refine ⟨L_un w x, ⟨w, x, hw, hx, rfl⟩, L_le_un (L_le_tr l (L_le_un ?_ ?_)) ?_⟩
        · rw [e]; exact L_le_l _ _
        · rw [e]; exact L_le_tr (F_core_lb hX hx) (L_le_r _ _)
        · rw [e]; exact L_le_r _ _
    refine fx _ e1 ?_ ?_
    · unfold F_stp
      rw [F_both_abs hG hE.1 hcE, F_both_b (by rw [em]; exact cA) (fun n hn => hcd n (cB n hn))]
      exact F_un_abs hG hcx hcX
    · rintro z ⟨⟨f, x, hf, hx, e⟩, _⟩
      have := L_un_len x f
      have := m1 f hf
      have := F_core_len hX x2
      rw [e, hx] at *
      omega
  have e1 : F_stp E X B = F_min (F_un (fun y => y = F_core B) X) := by rw [e0, F_both_c cA cB]
  have hcdX : ∀ n, S_card X n → S_card (F_min (F_un (fun y => y = F_core B) X)) n := fun n hn => F_card_im (A := X) (g := fun x => L_un (F_core B) x) (fun y hy => by
    obtain ⟨⟨c, x, hc, hx, e⟩, _⟩ := hy
    exact ⟨x, hx, by rw [e, hc]⟩) hn
  have hG : F_G (F_min (F_un (fun y => y = F_core B) X)) := F_G_min (F_S_un hX.1) (F_ex_un ⟨_, rfl⟩ hX.2.1) (hcdX 24 hX.2.2.2)
  have hcX : ∀ f, F_min (F_un (fun y => y = F_core B) X) f → ∃ e, X e ∧ L_le e f := by
    rintro z ⟨⟨f, x, hf, hx, e⟩, _⟩
    exact ⟨x, hx, by rw [e]; exact L_le_r _ _⟩
  have hcB : ∀ f, F_min (F_un (fun y => y = F_core B) X) f → L_le (F_core B) f := by
    rintro z ⟨⟨f, x, hf, hx, e⟩, _⟩
    rw [e, hf]; exact L_le_l _ _
  have cBl : (F_core B).length ≤ M := F_core_len hB m1
  have z1 : ∀ z, F_min (F_un (fun y => y = F_core B) X) z → z.length ≤ M + 2 := by
    rintro z ⟨⟨f, x, hf, hx, e⟩, _⟩
    have := L_un_len x f
    have := x2 x hx
    rw [e]
    rw [hf] at *
    omega
  have hcl : ∀ x, X x → L_le (F_core (F_min (F_un (fun y => y = F_core B) X))) (L_un (F_core B) x) := fun x hx => by
    obtain ⟨w, hw, l⟩ := F_below (F := F_un (fun y => y = F_core B) X) (F_S_un hX.1) (x := L_un (F_core B) x) ⟨_, x, rfl, hx, rfl⟩
    exact L_le_tr (F_core_lb hG hw) l
  generalize hC : F_min (F_un (fun y => y = F_core B) X) = C at *
  have eD : F_stp E X C = F_both (F_both C E) X := rfl
  have nx : ∀ D, F_stp E X C = D → F_stp E X D = D → (∀ z, D z → z.length ≤ M + 2) → (∀ z, F_stp E X B z → z.length ≤ M + 2) ∧ (∀ z, F_stp E X (F_stp E X B) z → z.length ≤ M + 2) ∧ F_stp E X (F_stp E X (F_stp E X B)) = F_stp E X (F_stp E X B) := by
    intro D d1 d2 dz
    rw [e1, d1, d2]
    exact ⟨z1, dz, rfl⟩
  have bnd : ∀ e x, E e → X x → (L_un (L_un (F_core B) x) e).length ≤ M + 2 := fun e x he hx => by
    have q1 : L_le (L_un (L_un (F_core B) x) e) (L_un x (L_un (F_core B) e)) := L_le_un (L_le_un (L_le_tr (L_le_l _ _) (L_le_r _ _)) (L_le_l _ _)) (L_le_tr (L_le_r _ _) (L_le_r _ _))
    have q2 := L_le_len (L_un_srt (hE.1 e he)) q1
    have q3 := L_un_len (L_un (F_core B) e) x
    have := m2 e he
    have := x2 x hx
    omega
  have hCm : ∀ c, C c → ∃ x, X x ∧ c = L_un (F_core B) x := by
    intro c hc
    rw [← hC] at hc
    obtain ⟨⟨f, x, hf, hx, e⟩, _⟩ := hc
    exact ⟨x, hx, by rw [e, hf]⟩
  by_cases ca : S_card (F_min (F_un C E)) 24
  · have d0 : F_both C E = F_min (F_un C E) := F_both_a ca
    have hD : F_G (F_min (F_un C E)) := F_G_min (F_S_un hE.1) (F_ex_un hG.2.1 hE.2.1) ca
    have dX : ∀ f, F_min (F_un C E) f → ∃ e, X e ∧ L_le e f := by
      rintro z ⟨⟨f, x, hf, hx, e⟩, _⟩
      obtain ⟨q, hq, l⟩ := hcX f hf
      exact ⟨q, hq, by rw [e]; exact L_le_tr l (L_le_l _ _)⟩
    have dE : ∀ f, F_min (F_un C E) f → ∃ e, E e ∧ L_le e f := by
      rintro z ⟨⟨f, x, hf, hx, e⟩, _⟩
      exact ⟨x, hx, by rw [e]; exact L_le_r _ _⟩
    refine nx (F_min (F_un C E)) ?_ (F_stp_fix hD hE hX dE dX) ?_
    · rw [eD, d0]; exact F_both_abs hD hX.1 dX
    · rintro z ⟨⟨f, q, hf, hq, e⟩, _⟩
      obtain ⟨x, hx, e2⟩ := hCm f hf
      rw [e, e2]
      exact bnd q x hq hx
  by_cases cb : ∀ n, S_card E n → S_card C n
  · have d0 : F_both C E = C := by
      rw [F_both_b ca cb]
      refine F_un_abs hG (F_G_core hE).1 (fun f hf => ⟨_, rfl, L_le_tr ?_ (hcB f hf)⟩)
      exact F_core_gr hB (fun b hb => by
        obtain ⟨q, hq, l⟩ := h1 b hb
        exact L_le_tr (F_core_lb hE hq) l)
    have d1 : F_stp E X C = C := by rw [eD, d0]; exact F_both_abs hG hX.1 hcX
    exact nx C d1 d1 z1
  · have d0 : F_both C E = F_min (F_un (fun y => y = F_core C) E) := F_both_c ca cb
    have hcdE : ∀ n, S_card E n → S_card (F_min (F_un (fun y => y = F_core C) E)) n := fun n hn => F_card_im (A := E) (g := fun x => L_un (F_core C) x) (fun y hy => by
      obtain ⟨⟨c, x, hc, hx, e⟩, _⟩ := hy
      exact ⟨x, hx, by rw [e, hc]⟩) hn
    have hD : F_G (F_min (F_un (fun y => y = F_core C) E)) := F_G_min (F_S_un hE.1) (F_ex_un ⟨_, rfl⟩ hE.2.1) (hcdE 24 hE.2.2.2)
    have dE : ∀ f, F_min (F_un (fun y => y = F_core C) E) f → ∃ e, E e ∧ L_le e f := by
      rintro z ⟨⟨f, x, hf, hx, e⟩, _⟩
      exact ⟨x, hx, by rw [e]; exact L_le_r _ _⟩
    have cXC : L_le (F_core X) (F_core C) := F_core_gr hG (fun c hc => by
      obtain ⟨x, hx, l⟩ := hcX c hc
      exact L_le_tr (F_core_lb hX hx) l)
    have cBC : L_le (F_core B) (F_core C) := F_core_gr hG hcB
    have dcX : ∀ f, F_min (F_un (fun y => y = F_core C) E) f → ∃ e, e = F_core X ∧ L_le e f := by
      rintro z ⟨⟨f, x, hf, hx, e⟩, _⟩
      exact ⟨_, rfl, by rw [e, hf]; exact L_le_tr cXC (L_le_l _ _)⟩
    have em : F_min (F_un (F_min (F_un (fun y => y = F_core C) E)) X) = F_min (F_un C E) := by
      refine F_min_eq (F_S_un hX.1) (F_S_un hE.1) ?_ ?_
      · rintro u ⟨w, x, ⟨⟨f, q, hf, hq, e⟩, _⟩, hx, e2⟩
        have hw : F_un (fun y => y = F_core B) X (L_un (F_core B) x) := ⟨_, x, rfl, hx, rfl⟩
        obtain ⟨c, hc, l⟩ := F_below (F_S_un hX.1) hw
        rw [hC] at hc
        refine ⟨L_un c q, ⟨c, q, hc, hq, rfl⟩, L_le_un (L_le_tr l (L_le_un ?_ ?_)) ?_⟩
        · rw [e2, e, hf]; exact L_le_tr cBC (L_le_tr (L_le_l _ _) (L_le_l _ _))
        · rw [e2]; exact L_le_r _ _
        · rw [e2, e]; exact L_le_tr (L_le_r _ _) (L_le_l _ _)
      · rintro v ⟨c, q, hc, hq, e⟩
        obtain ⟨x, hx, l2⟩ := hcX c hc
        have hw : F_un (fun y => y = F_core C) E (L_un (F_core C) q) := ⟨_, q, rfl, hq, rfl⟩
        obtain ⟨w, hw2, l⟩ := F_below (F_S_un hE.1) hw
        refine ⟨L_un w x, ⟨w, x, hw2, hx, rfl⟩, L_le_un (L_le_tr l (L_le_un ?_ ?_)) ?_⟩
        · rw [e]; exact L_le_tr (F_core_lb hG hc) (L_le_l _ _)
        · rw [e]; exact L_le_r _ _
        · rw [e]; exact L_le_tr l2 (L_le_l _ _)
    have cd : ∀ n, S_card X n → S_card (F_min (F_un (fun y => y = F_core C) E)) n := fun m hm => by
      obtain ⟨n, hn⟩ := Classical.not_forall.mp cb
      obtain ⟨n1, n2⟩ := Classical.not_imp.mp hn
      have h3 := hcdX m hm
      have : n ≤ m := Nat.le_of_not_lt (fun q => n2 (S_card_up h3 (Nat.le_of_lt q)))
      exact S_card_up (hcdE n n1) this
    have d2 : F_both (F_min (F_un (fun y => y = F_core C) E)) X = F_min (F_un (fun y => y = F_core C) E) := by
      rw [F_both_b (by rw [em]; exact ca) cd]
      exact F_un_abs hD hcx dcX
    refine nx (F_min (F_un (fun y => y = F_core C) E)) (by rw [eD, d0, d2]) ?_ ?_
    · unfold F_stp
      rw [F_both_abs hD hE.1 dE, d2]
    · rintro z ⟨⟨f, q, hf, hq, e⟩, _⟩
      obtain ⟨x, hx⟩ := hX.2.1
      have l : L_le z (L_un (L_un (F_core B) x) q) := by
        rw [e, hf]
        exact L_le_un (L_le_tr (hcl x hx) (L_le_l _ _)) (L_le_r _ _)
      have := L_le_len (by rw [e]; exact L_un_srt (hE.1 q hq)) l
      have := bnd q x hq hx
      omega
noncomputable def F_it (E X B : P_X) : Nat → P_X
  | 0 => B
  | n + 1 => F_stp E X (F_it E X B n)
theorem F_it_len {B E X : P_X} (hB : F_G B) (hE : F_G E) (hX : F_G X) (h1 : ∀ f, B f → ∃ e, E e ∧ L_le e f) {M : Nat} (m1 : ∀ f, B f → f.length ≤ M) (m2 : ∀ e, E e → (L_un (F_core B) e).length ≤ M) (x2 : ∀ x, X x → x.length ≤ 2) : ∀ n, F_G (F_it E X B n) ∧ ∀ z, F_it E X B n z → z.length ≤ M + 2 := by
  obtain ⟨s1, s2, s3⟩ := F_stable hB hE hX h1 m1 m2 x2
  have hc : ∀ n, F_it E X B (n + 2) = F_it E X B 2 := by
    intro n
    induction n with
    | zero => rfl
    | succ n ih =>
      show F_stp E X (F_it E X B (n + 2)) = _
      rw [ih]
      exact s3
  have hg : ∀ n, F_G (F_it E X B n) := by
    intro n
    induction n with
    | zero => exact hB
    | succ n ih => exact (F_both_G (F_both_G ih hE).1 hX).1
  intro n
  refine ⟨hg n, ?_⟩
  match n with
  | 0 => intro z hz; have := m1 z hz; omega
  | 1 => exact s1
  | n + 2 => rw [hc n]; exact s2
