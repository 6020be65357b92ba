/-! the joining: the room is bounded -/
theorem L_sum_le {f g : Nat → Nat} : ∀ (R : Nat), (∀ i, i < R → f i ≤ g i) → ((List.range R).map f).sum ≤ ((List.range R).map g).sum
  | 0, _ => Nat.le_refl _
  | R + 1, h => by
    have ih := L_sum_le R (fun i hi => h i (by omega))
    have := h R (by omega)
    rw [List.range_succ, List.map_append, List.map_append, List.sum_append, List.sum_append]
    show _ + (f R + 0) ≤ _ + (g R + 0)
    omega
theorem L_sum_c (c : Nat) : ∀ (R : Nat), ((List.range R).map (fun _ => c)).sum = R * c
  | 0 => (Nat.zero_mul c).symm
  | R + 1 => by
    rw [List.range_succ, List.map_append, List.sum_append, L_sum_c c R, Nat.succ_mul]
    rfl
theorem D_Fm.fw {s : C_S} {p : List Nat} {f qa ma R B m : Nat} {φ : Int → List Int} (h : D_Fm s p f qa ma R B m φ) : C_fw s qa R ≤ R * (B + 16) := by
  unfold C_fw
  rw [← L_sum_c]
  refine L_sum_le R (fun i hi => ?_)
  rcases h.2.1 i (by omega) (by omega) with ⟨e, _⟩ | ⟨r, a, cap, xs, e1, e2, e3, _⟩
  · rw [e]; exact Nat.zero_le _
  · rw [e1, e2.rw]; omega
def J_wb (i : Nat) : Nat := if i < 82 then 1280 else if i < 100 then 0 else if i = 100 then 746496 else if i < 141 then 31104 else if i < 150 then 0 else if i < 189 then 300 else 0
theorem J_wb_sum : ((List.range 200).map J_wb).sum = 2107316 := by decide +kernel
theorem D_Pl.wb {s : C_S} {pp : List Nat} {pl tr : Nat} {G : G_t} {P : G_p} {ω : Nat → Nat} (h : D_Pl s pp pl tr 1280 G P ω) : Pl_w ω ≤ 2107316 := by
  rw [← J_wb_sum]
  unfold Pl_w
  refine L_sum_le 200 (fun i hi => ?_)
  obtain ⟨h1, h2, h3, h4, h5, h6, h7, h8, h9⟩ := h
  unfold J_wb
  by_cases c1 : i < 82
  · rw [if_pos c1]
    by_cases c : Pl_hr P i
    · obtain ⟨a, _, g⟩ := h3 i c
      exact g
    · rw [h6 i c1 c]; exact Nat.zero_le _
  · rw [if_neg c1]
    by_cases c2 : i < 100
    · rw [if_pos c2, h9 i (by omega)]; exact Nat.le_refl _
    · rw [if_neg c2]
      by_cases c3 : i < 141
      · have hb : ω i ≤ Pl_R (i - 100) * 1296 := by
          have ei : 100 + (i - 100) = i := by omega
          by_cases c : Pl_hf P (i - 100)
          · obtain ⟨qa, ma, m, ψ, g1, _, g3⟩ := h4 (i - 100) c
            rw [ei] at g3
            rw [g3]
            exact g1.fw
          · have := h7 (i - 100) (by omega) c
            rw [ei] at this
            rw [this]; exact Nat.zero_le _
        unfold Pl_R at hb
        by_cases c4 : i = 100
        · subst c4; rw [if_pos rfl]; exact hb
        · rw [if_neg c4, if_pos c3]
          rw [if_neg (by omega)] at hb
          exact hb
      · rw [if_neg (by omega), if_neg c3]
        by_cases c5 : i < 150
        · rw [if_pos c5, h9 i (by omega)]; exact Nat.le_refl _
        · rw [if_neg c5]
          by_cases c6 : i < 189
          · have := h8 (i - 150) (by omega)
            rw [show 150 + (i - 150) = i by omega] at this
            rw [if_pos c6, this]
            split <;> omega
          · rw [if_neg c6, h9 i (by omega)]; exact Nat.le_refl _
theorem J_c.wb {s : C_S} {tb sh pa pl ma re : Nat} {X : List Int} {fs : Int → Option (List Int)} {ca th tg f pq : Int} {Q : Option P_T} {O : List Int} {H : List (List Int)} {n3 n4 n5 n6 : Int} {W : Nat} (jc : J_c s 0 tb sh pa pl ma re X fs ca th tg f pq Q O H n3 n4 n5 n6 W) : W ≤ 2174180 := by
  obtain ⟨ea, u0, v0, tr, A2, m2, sm, τ, β, G, P, ω, Am, ru, rv, hg, hby, hd, hq, htr, hzb, hp, hQ, hm, e0, hrp, eW⟩ := jc
  have h1 := hp.wb
  have h2 : D_ps s sh ≤ 66032 := by
    obtain ⟨a, c, xs, g1, g2⟩ := hd.2.2.2.1
    obtain ⟨a3, c3, xs3, g3, g4⟩ := hd.2.2.2.2
    unfold D_ps
    rw [hd.1.2.2.2.1, hd.1.2.2.2.2.1, g1.rw, g3.rw]
    omega
  have h3 : D_pr s re ≤ 832 := by
    obtain ⟨a, c, g1, g2⟩ := hrp.2.1
    obtain ⟨a3, c3, g3, g4⟩ := hrp.2.2
    unfold D_pr
    rw [hrp.1.2.2.1, hrp.1.2.2.2.1, g1.rw, g3.rw]
    omega
  omega
theorem J_bd_ok {z t RC RS : Nat} (ht : t < 512) (hz : z ≤ 1300000) (h1 : 600000 ≤ RC) (h2 : 7300000 ≤ RS) : J_bd z t RC RS := by
  intro s2 tb sh pa pl ma re X2 fs2 ca2 th2 tg2 f2 pq2 Q2 O2 H2 k3 k4 k5 k6 W2 jc
  have := jc.wb
  omega
