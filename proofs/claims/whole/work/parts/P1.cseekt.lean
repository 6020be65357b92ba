/-! the class: Machine: seek tells the first longest match -/
theorem C_wb_b {s : C_S} {tb N : Nat} : ∀ k : Int, 0 ≤ k → k < N → 0 ≤ C_wb s tb N k ∧ C_wb s tb N k ≤ 255 := fun k k0 k1 => by
  unfold C_wb
  rw [if_pos ⟨k0, k1⟩]
  omega
theorem C_seekT (d : Nat) {s : C_S} {p : List Nat} {o : Nat} {A : Nat → Nat} {tb N tr : Nat} {p2 : List Nat} {A2 : Nat → Nat} {m2 sm : Int} {τ : Nat → Int → Int} {β : Int → Int64} {t : P_T} (hM : D_M1 s p o A β t) (ht : T_is t) (kt : C_K s tb = (1, N)) (N1 : N ≤ 1000) (e0 : C_P s o 0 = some tr) (htr : D_Tr s p2 tr A2 m2 sm τ β) (np : p2 ≠ p) : C_ok (d + 6) 23 [.ref o, .ref tb] s (fun x s2 n => x = none ∧ n = 0 ∧ C_fr (fun t => t = p) s s2 ∧ C_n s2 = C_n s ∧ D_M1 s2 p o A β t ∧ C_P s2 o 0 = some tr ∧ ((C_F s2 o 15 = -1 ∧ ∀ b e, ¬ M_of (C_wb s tb N) N t b e) ∨ (C_F s2 o 15 ≠ -1 ∧ M_hit (C_wb s tb N) N t (C_F s2 o 15) (C_F s2 o 16)))) := by
  obtain ⟨hm, m, e, g1, g2, g3, g4, g5, g6, g7, g8⟩ := hM
  have hκ : ∀ f, (f = 1 ∨ f = 2 ∨ f = 3 ∨ f = 4) → C_A s (A f) = M_κ s A f := fun f hf => by
    unfold M_κ
    rw [if_pos (by omega)]
  refine (C_seek (κ := M_κ s A) (W := C_wb s tb N) (m := m) (e := e) d hm kt rfl hκ g6 (fun q q0 q1 hq => by have := g7 q q0 q1 hq; omega) g5 N1 e0 htr np g2 g3 g4).weak (fun x s2 n q => ?_)
  obtain ⟨rfl, rfl, q1, q2, q3, q4, q5, q6, q7, q8⟩ := q
  have hG := g8 (C_wb s tb N) N C_wb_b
  have eκ : M_κ s2 A = M_κ s A := by
    funext f
    unfold M_κ
    by_cases c : 1 ≤ f ∧ f ≤ 4
    · rw [if_pos c, if_pos c, q4 f (by omega), hκ f (by omega)]
    · rw [if_neg c, if_neg c]
  refine ⟨rfl, rfl, q1, q2, ⟨q3, m, e, q6.trans g1, q5, g3, g4, g5, by rw [eκ]; exact g6, by rw [eκ]; exact g7, by rw [eκ]; exact g8⟩, q7, ?_⟩
  have rg := M_of_rg (W := C_wb s tb N) (n := (N : Int)) ht
  rcases q8 with ⟨a1, a2⟩ | ⟨a1, a2, a3, a4, a5⟩
  · refine .inl ⟨a1, fun b j hb => ?_⟩
    have := rg b j hb
    exact a2 b j (by omega) (by omega) ((hG b j (by omega) (by omega)).mpr hb)
  · refine .inr ⟨by omega, (hG _ _ a1 a2).mp a3, fun b j hb => ?_, fun j hj => ?_⟩
    · have := rg b j hb
      exact a4 b j (by omega) ((hG b j (by omega) (by omega)).mpr hb)
    · exact a5 j ((hG _ _ a1 a2).mpr hj)
