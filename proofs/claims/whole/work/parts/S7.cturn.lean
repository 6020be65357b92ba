/-! the joining: a turn -/
theorem Zr_i32 (x : Int32) : Zr x.toInt := by
  have h1 := Int32.le_toInt x
  have h2 := Int32.toInt_lt x
  exact ⟨by omega, by omega⟩
theorem J_turn {z t RC RS j : Nat} {a : Nat → Int32} {h : E_H} {sl : Nat} (ht : t < 512) (hz : z ≤ 1300000) (h1 : 600000 ≤ RC) (h2 : 7300000 ≤ RS) (hJ : J_st z t h sl) : L_turn 300 RC RS j a h sl (J_st z (t + 1)) := by
  have b : J_bd z t RC RS := J_bd_ok ht hz h1 h2
  have t5 : t ≤ 512 := by omega
  obtain ⟨s, u, tb, sh, pa, pl, ma, re, X, fs, ca, th, tg, f, pq, Q, O, H, n3, n4, n5, n6, W, hc, hr, jc, jr, ji, r1, r2⟩ := hJ
  unfold L_turn
  split
  · have q := J_0 hc hr jc jr ji r1 r2 t5 b (Zr_i32 (a 1)) (Zr_i32 (a 2)) (Zr_i32 (a 3)) (Zr_i32 (a 4)) (Zr_i32 (a 5))
    simp only [Zi_of] at q
    exact q
  · have q := J_1 hc hr jc jr ji r1 r2 t5 b (Zr_i32 (a 1))
    simp only [Zi_of] at q
    exact q
  · exact J_2 hc hr jc jr ji r1 r2 t5 b
  · have q := J_3 hc hr jc jr ji r1 r2 t5 b (Zr_i32 (a 1))
    simp only [Zi_of] at q
    exact q
  · have q := J_4 hc hr jc jr ji r1 r2 t5 b (Zr_i32 (a 1))
    simp only [Zi_of] at q
    exact q
  · have q := J_5 hc hr jc jr ji r1 r2 t5 b (Zr_i32 (a 1))
    simp only [Zi_of] at q
    exact q
  · have q := J_6 hc hr jc jr ji r1 r2 t5 b (Zr_i32 (a 1)) (Zr_i32 (a 2))
    simp only [Zi_of] at q
    exact q
  · have q := J_7 hc hr jc jr ji r1 r2 t5 b (Zr_i32 (a 1)) (Zr_i32 (a 2))
    simp only [Zi_of] at q
    exact q
  · split
    · exact J_8 hc hr jc jr ji r1 r2 t5 b (fo := 0) (.inl rfl)
    · exact J_8 hc hr jc jr ji r1 r2 t5 b (fo := 1) (.inr rfl)
  · have q := J_9 hc hr jc jr ji r1 r2 t5 b (Zr_i32 (a 1))
    simp only [Zi_of] at q
    exact q
  · have q := J_10 hc hr jc jr ji r1 r2 t5 b (Zr_i32 (a 1)) (Zr_i32 (a 2))
    simp only [Zi_of] at q
    exact q
  · have q := J_11 hc hr jc jr ji r1 r2 t5 b (Zr_i32 (a 1))
    simp only [Zi_of] at q
    exact q
  · have q := J_12 hc hr jc jr ji r1 r2 t5 b (Zr_i32 (a 1))
    simp only [Zi_of] at q
    exact q
  · have q := J_13 hc hr jc jr ji r1 r2 t5 b (Zr_i32 (a 1)) (Zr_i32 (a 2))
    simp only [Zi_of] at q
    exact q
  · have q := J_14 hc hr jc jr ji r1 r2 t5 b (Zr_i32 (a 1))
    simp only [Zi_of] at q
    exact q
  · have q := J_15 hc hr jc jr ji r1 r2 t5 b (Zr_i32 (a 1)) (Zr_i32 (a 2)) (Zr_i32 (a 3))
    simp only [Zi_of] at q
    exact q
  · have q := J_16 hc hr jc jr ji r1 r2 t5 b (Zr_i32 (a 1))
    simp only [Zi_of] at q
    exact q
  · exact ⟨s, u, tb, sh, pa, pl, ma, re, X, fs, ca, th, tg, f, pq, Q, O, H, n3, n4, n5, n6, W, hc, hr, jc, jr, ji.up, by omega, by omega⟩
