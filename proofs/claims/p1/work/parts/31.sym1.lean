theorem Z_ge {n : Int32} (h : ¬ n < 0) : 0 ≤ n := by rw [Int32.lt_iff_toInt_lt] at h; rw [Int32.le_iff_toInt_le]; omega
theorem Z_gt {n : Int32} (h : ¬ n < 0) (h0 : ¬ n = 0) : ¬ n ≤ 0 := fun q => h0 (Int32.le_antisymm q (Z_ge h))
theorem Z_m1 {n : Int32} (h : ¬ n < 0) : ¬ n < -1 := by
  intro q
  rw [Int32.lt_iff_toInt_lt] at h q
  have h1 : (-1 : Int32).toInt = -1 := by decide
  have h0 : (0 : Int32).toInt = 0 := by decide
  omega
theorem S_tswo {orc : Nat → List Value → E_H → Option E_R} {M : E_MI} {h : E_H} {sl n pc a b len : Nat} {L : E_L} {st : List Value} {r : Option E_R} {dflt lo hi : Int} {offs : Array Int} {x : Int32} (hf : E_find M.2.2.2.2.2.2.2 pc = some (.tableswitch dflt lo hi offs, len, a, b)) (hx : x.toInt < lo ∨ hi < x.toInt) (ht : E_tok pc dflt = true) (k : E_run orc M n (E_tg pc dflt, L, st) h sl = r) : E_run orc M (n + 1) (pc, L, .int x :: st) h sl = r := by
  refine S_go ?_ k
  have hb : (decide (x.toInt < lo) || decide (hi < x.toInt)) = true := by
    rw [Bool.or_eq_true]
    exact hx.elim (fun q => Or.inl (decide_eq_true q)) (fun q => Or.inr (decide_eq_true q))
  unfold E_step
  rw [hf]
  dsimp only
  unfold E_heap
  dsimp only
  unfold E_pure
  dsimp only
  unfold E_tsw
  dsimp only
  rw [hb]
  dsimp only [cond_true]
  rw [if_pos ht]
  rfl
theorem X_find {h : E_H} (d : Nat) (f : Int32) (O2 : h[2]? = some (.inr (8, [.ref 3, .ref 4, .ref 6, .int 0, .int 0, .int 0]))) : E_call 4000 (d + 1) 101 [.ref 2, .int f] h = some (some (.null), h, 0) := by
  by_cases hn : f < 0
  · refine S_call (M := E_m101) rfl (Nat.le_of_ble_eq_true rfl) ?_
    refine S_go rfl ?_
    refine S_ifc (g := fun x => decide (x < 0)) (fun _ => rfl) rfl rfl (fun _ => ?_) (fun hq => absurd (hn) (of_decide_eq_false hq))
    refine S_go rfl ?_
    exact S_end rfl
  refine S_call (M := E_m101) rfl (Nat.le_of_ble_eq_true rfl) ?_
  refine S_go rfl ?_
  refine S_ifc (g := fun x => decide (x < 0)) (fun _ => rfl) rfl rfl (fun hq => absurd (of_decide_eq_true hq) (hn)) (fun _ => ?_)
  refine S_go rfl ?_
  refine S_go rfl ?_
  refine S_get rfl O2 rfl (by decide) ?_
  refine S_icmp (g := fun x y => decide (y ≤ x)) (fun _ => rfl) rfl rfl (fun _ => ?_) (fun hq => absurd (Z_ge hn) (of_decide_eq_false hq))
  refine S_go rfl ?_
  exact S_end rfl
theorem X_size {h : E_H} (d : Nat) (f : Int32) (O0 : h[0]? = some (.inr (11, [.ref 1, .int 0, .ref 2, .ref 8, .ref 21, .ref 68, .ref 78]))) (O2 : h[2]? = some (.inr (8, [.ref 3, .ref 4, .ref 6, .int 0, .int 0, .int 0]))) : E_call 4000 (d + 2) 150 [.ref 0, .int f] h = some (some (.int (-1)), h, 0) := by
  refine S_call (M := E_m150) rfl (Nat.le_of_ble_eq_true rfl) ?_
  refine S_go rfl ?_
  refine S_get rfl O0 rfl (by decide) ?_
  refine S_go rfl ?_
  refine S_callV (M2 := E_m101) (o := 2) (As := [.int f]) rfl (by decide) rfl rfl rfl (by decide +kernel) O2 (by decide) (Nat.le_of_ble_eq_true rfl) (X_find _ f O2) ?_
  refine S_go rfl ?_
  refine S_go rfl ?_
  refine S_go rfl ?_
  refine S_go rfl ?_
  refine S_go rfl ?_
  exact S_end rfl
theorem X_byteAt {h : E_H} (d : Nat) (f i : Int32) (O0 : h[0]? = some (.inr (11, [.ref 1, .int 0, .ref 2, .ref 8, .ref 21, .ref 68, .ref 78]))) (O2 : h[2]? = some (.inr (8, [.ref 3, .ref 4, .ref 6, .int 0, .int 0, .int 0]))) : E_call 4000 (d + 2) 151 [.ref 0, .int f, .int i] h = some (some (.int (-1)), h, 0) := by
  refine S_call (M := E_m151) rfl (Nat.le_of_ble_eq_true rfl) ?_
  refine S_go rfl ?_
  refine S_get rfl O0 rfl (by decide) ?_
  refine S_go rfl ?_
  refine S_callV (M2 := E_m101) (o := 2) (As := [.int f]) rfl (by decide) rfl rfl rfl (by decide +kernel) O2 (by decide) (Nat.le_of_ble_eq_true rfl) (X_find _ f O2) ?_
  refine S_go rfl ?_
  refine S_go rfl ?_
  refine S_go rfl ?_
  refine S_go rfl ?_
  refine S_go rfl ?_
  exact S_end rfl
theorem X_exch {h : E_H} (d : Nat) (f : Int32) (O2 : h[2]? = some (.inr (8, [.ref 3, .ref 4, .ref 6, .int 0, .int 0, .int 0]))) : E_call 4000 (d + 2) 103 [.ref 2, .int f, .ref 1, .int 0] h = some (some (.int (-1)), h, 0) := by
  refine S_call (M := E_m103) rfl (Nat.le_of_ble_eq_true rfl) ?_
  refine S_go rfl ?_
  refine S_go rfl ?_
  refine S_callV (M2 := E_m101) (o := 2) (As := [.int f]) rfl (by decide) rfl rfl rfl (by decide +kernel) O2 (by decide) (Nat.le_of_ble_eq_true rfl) (X_find _ f O2) ?_
  refine S_go rfl ?_
  refine S_go rfl ?_
  refine S_go rfl ?_
  refine S_go rfl ?_
  exact S_end rfl
theorem X_change {h : E_H} (d : Nat) (f : Int32) (O0 : h[0]? = some (.inr (11, [.ref 1, .int 0, .ref 2, .ref 8, .ref 21, .ref 68, .ref 78]))) (O2 : h[2]? = some (.inr (8, [.ref 3, .ref 4, .ref 6, .int 0, .int 0, .int 0]))) : E_call 4000 (d + 3) 148 [.ref 0, .int f] h = some (some (.int (-1)), h, 0) := by
  refine S_call (M := E_m148) rfl (Nat.le_of_ble_eq_true rfl) ?_
  refine S_go rfl ?_
  refine S_get rfl O0 rfl (by decide) ?_
  refine S_go rfl ?_
  refine S_go rfl ?_
  refine S_get rfl O0 rfl (by decide) ?_
  refine S_go rfl ?_
  refine S_get rfl O0 rfl (by decide) ?_
  refine S_callV (M2 := E_m103) (o := 2) (As := [.int f, .ref 1, .int 0]) rfl (by decide) rfl rfl rfl (by decide +kernel) O2 (by decide) (Nat.le_of_ble_eq_true rfl) (X_exch _ f O2) ?_
  refine S_go rfl ?_
  refine S_go rfl ?_
  refine S_go rfl ?_
  refine S_go rfl ?_
  refine S_go rfl ?_
  exact S_end rfl
theorem X_drop {h : E_H} (d : Nat) (f : Int32) (O2 : h[2]? = some (.inr (8, [.ref 3, .ref 4, .ref 6, .int 0, .int 0, .int 0]))) : E_call 4000 (d + 2) 104 [.ref 2, .int f] h = some (some (.int 0), h, 0) := by
  refine S_call (M := E_m104) rfl (Nat.le_of_ble_eq_true rfl) ?_
  refine S_go rfl ?_
  refine S_go rfl ?_
  refine S_callV (M2 := E_m101) (o := 2) (As := [.int f]) rfl (by decide) rfl rfl rfl (by decide +kernel) O2 (by decide) (Nat.le_of_ble_eq_true rfl) (X_find _ f O2) ?_
  refine S_go rfl ?_
  refine S_go rfl ?_
  refine S_go rfl ?_
  refine S_go rfl ?_
  exact S_end rfl
theorem X_remove {h : E_H} (d : Nat) (f : Int32) (O0 : h[0]? = some (.inr (11, [.ref 1, .int 0, .ref 2, .ref 8, .ref 21, .ref 68, .ref 78]))) (O2 : h[2]? = some (.inr (8, [.ref 3, .ref 4, .ref 6, .int 0, .int 0, .int 0]))) : E_call 4000 (d + 3) 149 [.ref 0, .int f] h = some (some (.int 0), h, 0) := by
  refine S_call (M := E_m149) rfl (Nat.le_of_ble_eq_true rfl) ?_
  refine S_go rfl ?_
  refine S_get rfl O0 rfl (by decide) ?_
  refine S_go rfl ?_
  refine S_callV (M2 := E_m104) (o := 2) (As := [.int f]) rfl (by decide) rfl rfl rfl (by decide +kernel) O2 (by decide) (Nat.le_of_ble_eq_true rfl) (X_drop _ f O2) ?_
  exact S_end rfl
theorem X_holder {h : E_H} (d : Nat) (g i : Int32) (O2 : h[2]? = some (.inr (8, [.ref 3, .ref 4, .ref 6, .int 0, .int 0, .int 0]))) : E_call 4000 (d + 1) 105 [.ref 2, .int g, .int i] h = some (some (.int (-1)), h, 0) := by
  refine S_call (M := E_m105) rfl (Nat.le_of_ble_eq_true rfl) ?_
  refine S_go rfl ?_
  refine S_go rfl ?_
  refine S_go rfl ?_
  refine S_go rfl ?_
  refine S_go rfl ?_
  refine S_go rfl ?_
  refine S_get rfl O2 rfl (by decide) ?_
  refine S_go rfl ?_
  refine S_go rfl ?_
  exact S_end rfl
theorem X_posting {h : E_H} (d : Nat) (g i : Int32) (O0 : h[0]? = some (.inr (11, [.ref 1, .int 0, .ref 2, .ref 8, .ref 21, .ref 68, .ref 78]))) (O2 : h[2]? = some (.inr (8, [.ref 3, .ref 4, .ref 6, .int 0, .int 0, .int 0]))) : E_call 4000 (d + 2) 152 [.ref 0, .int g, .int i] h = some (some (.int (-1)), h, 0) := by
  refine S_call (M := E_m152) rfl (Nat.le_of_ble_eq_true rfl) ?_
  refine S_go rfl ?_
  refine S_get rfl O0 rfl (by decide) ?_
  refine S_go rfl ?_
  refine S_go rfl ?_
  refine S_callV (M2 := E_m105) (o := 2) (As := [.int g, .int i]) rfl (by decide) rfl rfl rfl (by decide +kernel) O2 (by decide) (Nat.le_of_ble_eq_true rfl) (X_holder _ g i O2) ?_
  exact S_end rfl
theorem X_hf {h : E_H} (d : Nat) (i w : Int32) (O78 : h[78]? = some (.inr (6, [.ref 79, .ref 81, .int 0, .int 0, .int 0, .int 0, .int 0]))) : E_call 4000 (d + 1) 86 [.ref 78, .int i, .int w] h = some (some (.int (-1)), h, 0) := by
  by_cases hn : i < 0
  · refine S_call (M := E_m86) rfl (Nat.le_of_ble_eq_true rfl) ?_
    refine S_go rfl ?_
    refine S_ifc (g := fun x => decide (x < 0)) (fun _ => rfl) rfl rfl (fun _ => ?_) (fun hq => absurd (hn) (of_decide_eq_false hq))
    refine S_go rfl ?_
    refine S_go rfl ?_
    refine S_go rfl ?_
    refine S_go rfl ?_
    refine S_go rfl ?_
    exact S_end rfl
  refine S_call (M := E_m86) rfl (Nat.le_of_ble_eq_true rfl) ?_
  refine S_go rfl ?_
  refine S_ifc (g := fun x => decide (x < 0)) (fun _ => rfl) rfl rfl (fun hq => absurd (of_decide_eq_true hq) (hn)) (fun _ => ?_)
  refine S_go rfl ?_
  refine S_go rfl ?_
  refine S_get rfl O78 rfl (by decide) ?_
  refine S_icmp (g := fun x y => decide (y ≤ x)) (fun _ => rfl) rfl rfl (fun _ => ?_) (fun hq => absurd (Z_ge hn) (of_decide_eq_false hq))
  refine S_go rfl ?_
  refine S_go rfl ?_
  refine S_go rfl ?_
  refine S_go rfl ?_
  refine S_go rfl ?_
  exact S_end rfl
theorem X_hit {h : E_H} (d : Nat) (i w : Int32) (O0 : h[0]? = some (.inr (11, [.ref 1, .int 0, .ref 2, .ref 8, .ref 21, .ref 68, .ref 78]))) (O78 : h[78]? = some (.inr (6, [.ref 79, .ref 81, .int 0, .int 0, .int 0, .int 0, .int 0]))) : E_call 4000 (d + 2) 155 [.ref 0, .int i, .int w] h = some (some (.int (-1)), h, 0) := by
  refine S_call (M := E_m155) rfl (Nat.le_of_ble_eq_true rfl) ?_
  refine S_go rfl ?_
  refine S_get rfl O0 rfl (by decide) ?_
  refine S_go rfl ?_
  refine S_go rfl ?_
  refine S_callV (M2 := E_m86) (o := 78) (As := [.int i, .int w]) rfl (by decide) rfl rfl rfl (by decide +kernel) O78 (by decide) (Nat.le_of_ble_eq_true rfl) (X_hf _ i w O78) ?_
  exact S_end rfl
theorem X_at {h : E_H} (d : Nat) (i : Int32) (O79 : h[79]? = some (.inr (7, [.ref 80, .int 0]))) : E_call 4000 (d + 1) 88 [.ref 79, .int i] h = some (some (.int (-1)), h, 0) := by
  by_cases hn : i < 0
  · refine S_call (M := E_m88) rfl (Nat.le_of_ble_eq_true rfl) ?_
    refine S_go rfl ?_
    refine S_ifc (g := fun x => decide (x < 0)) (fun _ => rfl) rfl rfl (fun _ => ?_) (fun hq => absurd (hn) (of_decide_eq_false hq))
    refine S_go rfl ?_
    exact S_end rfl
  refine S_call (M := E_m88) rfl (Nat.le_of_ble_eq_true rfl) ?_
  refine S_go rfl ?_
  refine S_ifc (g := fun x => decide (x < 0)) (fun _ => rfl) rfl rfl (fun hq => absurd (of_decide_eq_true hq) (hn)) (fun _ => ?_)
  refine S_go rfl ?_
  refine S_go rfl ?_
  refine S_get rfl O79 rfl (by decide) ?_
  refine S_icmp (g := fun x y => decide (y ≤ x)) (fun _ => rfl) rfl rfl (fun _ => ?_) (fun hq => absurd (Z_ge hn) (of_decide_eq_false hq))
  refine S_go rfl ?_
  exact S_end rfl
theorem X_on {h : E_H} (d : Nat) (i : Int32) (O78 : h[78]? = some (.inr (6, [.ref 79, .ref 81, .int 0, .int 0, .int 0, .int 0, .int 0]))) (O79 : h[79]? = some (.inr (7, [.ref 80, .int 0]))) : E_call 4000 (d + 2) 85 [.ref 78, .int i] h = some (some (.int (-1)), h, 0) := by
  refine S_call (M := E_m85) rfl (Nat.le_of_ble_eq_true rfl) ?_
  refine S_go rfl ?_
  refine S_get rfl O78 rfl (by decide) ?_
  refine S_go rfl ?_
  refine S_callV (M2 := E_m88) (o := 79) (As := [.int i]) rfl (by decide) rfl rfl rfl (by decide +kernel) O79 (by decide) (Nat.le_of_ble_eq_true rfl) (X_at _ i O79) ?_
  exact S_end rfl
theorem X_opened {h : E_H} (d : Nat) (i : Int32) (O0 : h[0]? = some (.inr (11, [.ref 1, .int 0, .ref 2, .ref 8, .ref 21, .ref 68, .ref 78]))) (O78 : h[78]? = some (.inr (6, [.ref 79, .ref 81, .int 0, .int 0, .int 0, .int 0, .int 0]))) (O79 : h[79]? = some (.inr (7, [.ref 80, .int 0]))) : E_call 4000 (d + 3) 156 [.ref 0, .int i] h = some (some (.int (-1)), h, 0) := by
  refine S_call (M := E_m156) rfl (Nat.le_of_ble_eq_true rfl) ?_
  refine S_go rfl ?_
  refine S_get rfl O0 rfl (by decide) ?_
  refine S_go rfl ?_
  refine S_callV (M2 := E_m85) (o := 78) (As := [.int i]) rfl (by decide) rfl rfl rfl (by decide +kernel) O78 (by decide) (Nat.le_of_ble_eq_true rfl) (X_on _ i O78 O79) ?_
  exact S_end rfl
theorem X_choice {h : E_H} (d : Nat) (i : Int32) (O0 : h[0]? = some (.inr (11, [.ref 1, .int 0, .ref 2, .ref 8, .ref 21, .ref 68, .ref 78]))) (O78 : h[78]? = some (.inr (6, [.ref 79, .ref 81, .int 0, .int 0, .int 0, .int 0, .int 0]))) : E_call 4000 (d + 1) 157 [.ref 0, .int i] h = some (some (.int (-1)), h, 0) := by
  refine S_call (M := E_m157) rfl (Nat.le_of_ble_eq_true rfl) ?_
  refine S_go rfl ?_
  refine S_get rfl O0 rfl (by decide) ?_
  refine S_get rfl O78 rfl (by decide) ?_
  refine S_go rfl ?_
  refine S_go rfl ?_
  exact S_end rfl
theorem X_texts {h : E_H} (d : Nat) (w : Int32) (O0 : h[0]? = some (.inr (11, [.ref 1, .int 0, .ref 2, .ref 8, .ref 21, .ref 68, .ref 78]))) (O78 : h[78]? = some (.inr (6, [.ref 79, .ref 81, .int 0, .int 0, .int 0, .int 0, .int 0]))) : E_call 4000 (d + 1) 159 [.ref 0, .int w] h = some (some (.int (-1)), h, 0) := by
  refine S_call (M := E_m159) rfl (Nat.le_of_ble_eq_true rfl) ?_
  refine S_go rfl ?_
  refine S_get rfl O0 rfl (by decide) ?_
  refine S_get rfl O78 rfl (by decide) ?_
  refine S_go rfl ?_
  refine S_go rfl ?_
  exact S_end rfl
theorem X_text {h : E_H} (d : Nat) (w i k : Int32) (O0 : h[0]? = some (.inr (11, [.ref 1, .int 0, .ref 2, .ref 8, .ref 21, .ref 68, .ref 78]))) (O78 : h[78]? = some (.inr (6, [.ref 79, .ref 81, .int 0, .int 0, .int 0, .int 0, .int 0]))) : E_call 4000 (d + 2) 160 [.ref 0, .int w, .int i, .int k] h = some (some (.int (-1)), h, 0) := by
  by_cases hn : i < 0
  · refine S_call (M := E_m160) rfl (Nat.le_of_ble_eq_true rfl) ?_
    refine S_go rfl ?_
    refine S_ifc (g := fun x => decide (x < 0)) (fun _ => rfl) rfl rfl (fun _ => ?_) (fun hq => absurd (hn) (of_decide_eq_false hq))
    refine S_go rfl ?_
    exact S_end rfl
  refine S_call (M := E_m160) rfl (Nat.le_of_ble_eq_true rfl) ?_
  refine S_go rfl ?_
  refine S_ifc (g := fun x => decide (x < 0)) (fun _ => rfl) rfl rfl (fun hq => absurd (of_decide_eq_true hq) (hn)) (fun _ => ?_)
  refine S_go rfl ?_
  refine S_go rfl ?_
  refine S_go rfl ?_
  refine S_callV (M2 := E_m159) (o := 0) (As := [.int w]) rfl (by decide) rfl rfl rfl (by decide +kernel) O0 (by decide) (Nat.le_of_ble_eq_true rfl) (X_texts _ w O0 O78) ?_
  refine S_icmp (g := fun x y => decide (x < y)) (fun _ => rfl) rfl rfl (fun hq => absurd (of_decide_eq_true hq) (Z_m1 hn)) (fun _ => ?_)
  refine S_go rfl ?_
  exact S_end rfl
theorem X_fault {h : E_H} (d : Nat) (w : Int32) (h0 : ¬ w = 0) (h1 : ¬ w = 1) (O0 : h[0]? = some (.inr (11, [.ref 1, .int 0, .ref 2, .ref 8, .ref 21, .ref 68, .ref 78]))) : E_call 4000 (d + 1) 154 [.ref 0, .int w] h = some (some (.int (-1)), h, 0) := by
  refine S_call (M := E_m154) rfl (Nat.le_of_ble_eq_true rfl) ?_
  refine S_go rfl ?_
  refine S_ifc (g := fun x => decide (x ≠ 0)) (fun _ => rfl) rfl rfl (fun _ => ?_) (fun hq => absurd (h0) (of_decide_eq_false hq))
  refine S_go rfl ?_
  refine S_go rfl ?_
  refine S_icmp (g := fun x y => decide (x ≠ y)) (fun _ => rfl) rfl rfl (fun _ => ?_) (fun hq => absurd (h1) (of_decide_eq_false hq))
  refine S_go rfl ?_
  exact S_end rfl
theorem X_count {h : E_H} (d : Nat) (w : Int32) (hw : w.toInt < 0 ∨ 9 < w.toInt) (O0 : h[0]? = some (.inr (11, [.ref 1, .int 0, .ref 2, .ref 8, .ref 21, .ref 68, .ref 78]))) : E_call 4000 (d + 1) 161 [.ref 0, .int w] h = some (some (.int (-1)), h, 0) := by
  refine S_call (M := E_m161) rfl (Nat.le_of_ble_eq_true rfl) ?_
  refine S_go rfl ?_
  refine S_tswo rfl (hw) rfl ?_
  refine S_go rfl ?_
  exact S_end rfl
theorem X_end {h : E_H} (d : Nat) (n : Int32) (h0 : ¬ n = 0) (O0 : h[0]? = some (.inr (11, [.ref 1, .int 0, .ref 2, .ref 8, .ref 21, .ref 68, .ref 78]))) : E_call 4000 (d + 1) 146 [.ref 0, .int n] h = some (some (.int 0), h, 0) := by
  by_cases hn : n < 0
  · refine S_call (M := E_m146) rfl (Nat.le_of_ble_eq_true rfl) ?_
    refine S_go rfl ?_
    refine S_ifc (g := fun x => decide (x < 0)) (fun _ => rfl) rfl rfl (fun _ => ?_) (fun hq => absurd (hn) (of_decide_eq_false hq))
    refine S_go rfl ?_
    exact S_end rfl
  refine S_call (M := E_m146) rfl (Nat.le_of_ble_eq_true rfl) ?_
  refine S_go rfl ?_
  refine S_ifc (g := fun x => decide (x < 0)) (fun _ => rfl) rfl rfl (fun hq => absurd (of_decide_eq_true hq) (hn)) (fun _ => ?_)
  refine S_go rfl ?_
  refine S_go rfl ?_
  refine S_get rfl O0 rfl (by decide) ?_
  refine S_icmp (g := fun x y => decide (x ≤ y)) (fun _ => rfl) rfl rfl (fun hq => absurd (of_decide_eq_true hq) (Z_gt hn h0)) (fun _ => ?_)
  refine S_go rfl ?_
  exact S_end rfl
theorem Y_isf {h : E_H} (d : Nat) (f : Int32) (O83 : h[83]? = some (.inr (12, [.ref 84, .int 0, .ref 85, .int 0, .ref 86, .ref 87, .ref 88, .int 0, .int 0, .ref 89, .ref 90, .ref 91, .ref 92, .int 0, .ref 93, .int 0, .int 0, .int 0, .int 0, .int 0, .int 0, .int (-1), .int 0, .ref 94, .ref 95, .long 0, .ref 96, .ref 97, .ref 98, .ref 99, .ref 100, .ref 101, .ref 102, .ref 103, .ref 104, .ref 105, .ref 106, .int 0, .ref 107, .ref 108, .ref 109, .int 0, .ref 110, .int 0, .ref 111, .ref 112, .ref 113, .ref 114, .int 0, .ref 115, .ref 116, .ref 117, .ref 118, .ref 119, .ref 120, .ref 121, .int 0, .ref 122, .ref 123, .int 0, .ref 124, .ref 125, .ref 126, .int 0, .ref 127, .ref 128, .ref 129, .ref 130, .int 0, .ref 131, .int 0, .int 0, .int 0, .long 0]))) : E_call 4000 (d + 1) 177 [.ref 83, .int f] h = some (some (.int 0), h, 0) := by
  by_cases hn : f < 0
  · refine S_call (M := E_m177) rfl (Nat.le_of_ble_eq_true rfl) ?_
    refine S_go rfl ?_
    refine S_ifc (g := fun x => decide (x < 0)) (fun _ => rfl) rfl rfl (fun _ => ?_) (fun hq => absurd (hn) (of_decide_eq_false hq))
    refine S_go rfl ?_
    exact S_end rfl
  refine S_call (M := E_m177) rfl (Nat.le_of_ble_eq_true rfl) ?_
  refine S_go rfl ?_
  refine S_ifc (g := fun x => decide (x < 0)) (fun _ => rfl) rfl rfl (fun hq => absurd (of_decide_eq_true hq) (hn)) (fun _ => ?_)
  refine S_go rfl ?_
  refine S_go rfl ?_
  refine S_get rfl O83 rfl (by decide) ?_
  refine S_icmp (g := fun x y => decide (y ≤ x)) (fun _ => rfl) rfl rfl (fun _ => ?_) (fun hq => absurd (Z_ge hn) (of_decide_eq_false hq))
  refine S_go rfl ?_
  exact S_end rfl
theorem Y_size {h : E_H} (d : Nat) (f : Int32) (O83 : h[83]? = some (.inr (12, [.ref 84, .int 0, .ref 85, .int 0, .ref 86, .ref 87, .ref 88, .int 0, .int 0, .ref 89, .ref 90, .ref 91, .ref 92, .int 0, .ref 93, .int 0, .int 0, .int 0, .int 0, .int 0, .int 0, .int (-1), .int 0, .ref 94, .ref 95, .long 0, .ref 96, .ref 97, .ref 98, .ref 99, .ref 100, .ref 101, .ref 102, .ref 103, .ref 104, .ref 105, .ref 106, .int 0, .ref 107, .ref 108, .ref 109, .int 0, .ref 110, .int 0, .ref 111, .ref 112, .ref 113, .ref 114, .int 0, .ref 115, .ref 116, .ref 117, .ref 118, .ref 119, .ref 120, .ref 121, .int 0, .ref 122, .ref 123, .int 0, .ref 124, .ref 125, .ref 126, .int 0, .ref 127, .ref 128, .ref 129, .ref 130, .int 0, .ref 131, .int 0, .int 0, .int 0, .long 0]))) : E_call 4000 (d + 2) 183 [.ref 83, .int f] h = some (some (.int (-1)), h, 0) := by
  refine S_call (M := E_m183) rfl (Nat.le_of_ble_eq_true rfl) ?_
  refine S_go rfl ?_
  refine S_go rfl ?_
  refine S_callV (M2 := E_m177) (o := 83) (As := [.int f]) rfl (by decide) rfl rfl rfl (by decide +kernel) O83 (by decide) (Nat.le_of_ble_eq_true rfl) (Y_isf _ f O83) ?_
  refine S_go rfl ?_
  refine S_go rfl ?_
  exact S_end rfl
theorem Y_byteAt {h : E_H} (d : Nat) (f i : Int32) (O83 : h[83]? = some (.inr (12, [.ref 84, .int 0, .ref 85, .int 0, .ref 86, .ref 87, .ref 88, .int 0, .int 0, .ref 89, .ref 90, .ref 91, .ref 92, .int 0, .ref 93, .int 0, .int 0, .int 0, .int 0, .int 0, .int 0, .int (-1), .int 0, .ref 94, .ref 95, .long 0, .ref 96, .ref 97, .ref 98, .ref 99, .ref 100, .ref 101, .ref 102, .ref 103, .ref 104, .ref 105, .ref 106, .int 0, .ref 107, .ref 108, .ref 109, .int 0, .ref 110, .int 0, .ref 111, .ref 112, .ref 113, .ref 114, .int 0, .ref 115, .ref 116, .ref 117, .ref 118, .ref 119, .ref 120, .ref 121, .int 0, .ref 122, .ref 123, .int 0, .ref 124, .ref 125, .ref 126, .int 0, .ref 127, .ref 128, .ref 129, .ref 130, .int 0, .ref 131, .int 0, .int 0, .int 0, .long 0]))) : E_call 4000 (d + 2) 184 [.ref 83, .int f, .int i] h = some (some (.int (-1)), h, 0) := by
  refine S_call (M := E_m184) rfl (Nat.le_of_ble_eq_true rfl) ?_
  refine S_go rfl ?_
  refine S_go rfl ?_
  refine S_callV (M2 := E_m177) (o := 83) (As := [.int f]) rfl (by decide) rfl rfl rfl (by decide +kernel) O83 (by decide) (Nat.le_of_ble_eq_true rfl) (Y_isf _ f O83) ?_
  refine S_go rfl ?_
  refine S_go rfl ?_
  exact S_end rfl
theorem Y_change {h : E_H} (d : Nat) (f : Int32) (O83 : h[83]? = some (.inr (12, [.ref 84, .int 0, .ref 85, .int 0, .ref 86, .ref 87, .ref 88, .int 0, .int 0, .ref 89, .ref 90, .ref 91, .ref 92, .int 0, .ref 93, .int 0, .int 0, .int 0, .int 0, .int 0, .int 0, .int (-1), .int 0, .ref 94, .ref 95, .long 0, .ref 96, .ref 97, .ref 98, .ref 99, .ref 100, .ref 101, .ref 102, .ref 103, .ref 104, .ref 105, .ref 106, .int 0, .ref 107, .ref 108, .ref 109, .int 0, .ref 110, .int 0, .ref 111, .ref 112, .ref 113, .ref 114, .int 0, .ref 115, .ref 116, .ref 117, .ref 118, .ref 119, .ref 120, .ref 121, .int 0, .ref 122, .ref 123, .int 0, .ref 124, .ref 125, .ref 126, .int 0, .ref 127, .ref 128, .ref 129, .ref 130, .int 0, .ref 131, .int 0, .int 0, .int 0, .long 0]))) : E_call 4000 (d + 2) 181 [.ref 83, .int f] h = some (some (.int (-1)), h, 0) := by
  refine S_call (M := E_m181) rfl (Nat.le_of_ble_eq_true rfl) ?_
  refine S_go rfl ?_
  refine S_go rfl ?_
  refine S_callV (M2 := E_m177) (o := 83) (As := [.int f]) rfl (by decide) rfl rfl rfl (by decide +kernel) O83 (by decide) (Nat.le_of_ble_eq_true rfl) (Y_isf _ f O83) ?_
  refine S_go rfl ?_
  refine S_go rfl ?_
  exact S_end rfl
theorem Y_remove {h : E_H} (d : Nat) (f : Int32) (O83 : h[83]? = some (.inr (12, [.ref 84, .int 0, .ref 85, .int 0, .ref 86, .ref 87, .ref 88, .int 0, .int 0, .ref 89, .ref 90, .ref 91, .ref 92, .int 0, .ref 93, .int 0, .int 0, .int 0, .int 0, .int 0, .int 0, .int (-1), .int 0, .ref 94, .ref 95, .long 0, .ref 96, .ref 97, .ref 98, .ref 99, .ref 100, .ref 101, .ref 102, .ref 103, .ref 104, .ref 105, .ref 106, .int 0, .ref 107, .ref 108, .ref 109, .int 0, .ref 110, .int 0, .ref 111, .ref 112, .ref 113, .ref 114, .int 0, .ref 115, .ref 116, .ref 117, .ref 118, .ref 119, .ref 120, .ref 121, .int 0, .ref 122, .ref 123, .int 0, .ref 124, .ref 125, .ref 126, .int 0, .ref 127, .ref 128, .ref 129, .ref 130, .int 0, .ref 131, .int 0, .int 0, .int 0, .long 0]))) : E_call 4000 (d + 2) 182 [.ref 83, .int f] h = some (some (.int 0), h, 0) := by
  refine S_call (M := E_m182) rfl (Nat.le_of_ble_eq_true rfl) ?_
  refine S_go rfl ?_
  refine S_go rfl ?_
  refine S_callV (M2 := E_m177) (o := 83) (As := [.int f]) rfl (by decide) rfl rfl rfl (by decide +kernel) O83 (by decide) (Nat.le_of_ble_eq_true rfl) (Y_isf _ f O83) ?_
  refine S_go rfl ?_
  refine S_go rfl ?_
  exact S_end rfl
theorem Y_posting {h : E_H} (d : Nat) (g i : Int32) (O83 : h[83]? = some (.inr (12, [.ref 84, .int 0, .ref 85, .int 0, .ref 86, .ref 87, .ref 88, .int 0, .int 0, .ref 89, .ref 90, .ref 91, .ref 92, .int 0, .ref 93, .int 0, .int 0, .int 0, .int 0, .int 0, .int 0, .int (-1), .int 0, .ref 94, .ref 95, .long 0, .ref 96, .ref 97, .ref 98, .ref 99, .ref 100, .ref 101, .ref 102, .ref 103, .ref 104, .ref 105, .ref 106, .int 0, .ref 107, .ref 108, .ref 109, .int 0, .ref 110, .int 0, .ref 111, .ref 112, .ref 113, .ref 114, .int 0, .ref 115, .ref 116, .ref 117, .ref 118, .ref 119, .ref 120, .ref 121, .int 0, .ref 122, .ref 123, .int 0, .ref 124, .ref 125, .ref 126, .int 0, .ref 127, .ref 128, .ref 129, .ref 130, .int 0, .ref 131, .int 0, .int 0, .int 0, .long 0]))) : E_call 4000 (d + 1) 186 [.ref 83, .int g, .int i] h = some (some (.int (-1)), h, 0) := by
  refine S_call (M := E_m186) rfl (Nat.le_of_ble_eq_true rfl) ?_
  refine S_go rfl ?_
  refine S_go rfl ?_
  refine S_go rfl ?_
  refine S_go rfl ?_
  refine S_go rfl ?_
  refine S_go rfl ?_
  refine S_get rfl O83 rfl (by decide) ?_
  refine S_go rfl ?_
  refine S_go rfl ?_
  exact S_end rfl
theorem Y_fault {h : E_H} (d : Nat) (w : Int32) (h0 : ¬ w = 0) (h1 : ¬ w = 1) (O83 : h[83]? = some (.inr (12, [.ref 84, .int 0, .ref 85, .int 0, .ref 86, .ref 87, .ref 88, .int 0, .int 0, .ref 89, .ref 90, .ref 91, .ref 92, .int 0, .ref 93, .int 0, .int 0, .int 0, .int 0, .int 0, .int 0, .int (-1), .int 0, .ref 94, .ref 95, .long 0, .ref 96, .ref 97, .ref 98, .ref 99, .ref 100, .ref 101, .ref 102, .ref 103, .ref 104, .ref 105, .ref 106, .int 0, .ref 107, .ref 108, .ref 109, .int 0, .ref 110, .int 0, .ref 111, .ref 112, .ref 113, .ref 114, .int 0, .ref 115, .ref 116, .ref 117, .ref 118, .ref 119, .ref 120, .ref 121, .int 0, .ref 122, .ref 123, .int 0, .ref 124, .ref 125, .ref 126, .int 0, .ref 127, .ref 128, .ref 129, .ref 130, .int 0, .ref 131, .int 0, .int 0, .int 0, .long 0]))) : E_call 4000 (d + 1) 277 [.ref 83, .int w] h = some (some (.int (-1)), h, 0) := by
  refine S_call (M := E_m277) rfl (Nat.le_of_ble_eq_true rfl) ?_
  refine S_go rfl ?_
  refine S_ifc (g := fun x => decide (x ≠ 0)) (fun _ => rfl) rfl rfl (fun _ => ?_) (fun hq => absurd (h0) (of_decide_eq_false hq))
  refine S_go rfl ?_
  refine S_go rfl ?_
  refine S_icmp (g := fun x y => decide (x ≠ y)) (fun _ => rfl) rfl rfl (fun _ => ?_) (fun hq => absurd (h1) (of_decide_eq_false hq))
  refine S_go rfl ?_
  exact S_end rfl
theorem Y_hit {h : E_H} (d : Nat) (i w : Int32) (O83 : h[83]? = some (.inr (12, [.ref 84, .int 0, .ref 85, .int 0, .ref 86, .ref 87, .ref 88, .int 0, .int 0, .ref 89, .ref 90, .ref 91, .ref 92, .int 0, .ref 93, .int 0, .int 0, .int 0, .int 0, .int 0, .int 0, .int (-1), .int 0, .ref 94, .ref 95, .long 0, .ref 96, .ref 97, .ref 98, .ref 99, .ref 100, .ref 101, .ref 102, .ref 103, .ref 104, .ref 105, .ref 106, .int 0, .ref 107, .ref 108, .ref 109, .int 0, .ref 110, .int 0, .ref 111, .ref 112, .ref 113, .ref 114, .int 0, .ref 115, .ref 116, .ref 117, .ref 118, .ref 119, .ref 120, .ref 121, .int 0, .ref 122, .ref 123, .int 0, .ref 124, .ref 125, .ref 126, .int 0, .ref 127, .ref 128, .ref 129, .ref 130, .int 0, .ref 131, .int 0, .int 0, .int 0, .long 0]))) : E_call 4000 (d + 1) 278 [.ref 83, .int i, .int w] h = some (some (.int (-1)), h, 0) := by
  by_cases hn : i < 0
  · refine S_call (M := E_m278) rfl (Nat.le_of_ble_eq_true rfl) ?_
    refine S_go rfl ?_
    refine S_ifc (g := fun x => decide (x < 0)) (fun _ => rfl) rfl rfl (fun _ => ?_) (fun hq => absurd (hn) (of_decide_eq_false hq))
    refine S_go rfl ?_
    exact S_end rfl
  refine S_call (M := E_m278) rfl (Nat.le_of_ble_eq_true rfl) ?_
  refine S_go rfl ?_
  refine S_ifc (g := fun x => decide (x < 0)) (fun _ => rfl) rfl rfl (fun hq => absurd (of_decide_eq_true hq) (hn)) (fun _ => ?_)
  refine S_go rfl ?_
  refine S_go rfl ?_
  refine S_get rfl O83 rfl (by decide) ?_
  refine S_icmp (g := fun x y => decide (x < y)) (fun _ => rfl) rfl rfl (fun hq => absurd (of_decide_eq_true hq) (hn)) (fun _ => ?_)
  refine S_go rfl ?_
  exact S_end rfl
theorem Y_opened {h : E_H} (d : Nat) (i : Int32) (O83 : h[83]? = some (.inr (12, [.ref 84, .int 0, .ref 85, .int 0, .ref 86, .ref 87, .ref 88, .int 0, .int 0, .ref 89, .ref 90, .ref 91, .ref 92, .int 0, .ref 93, .int 0, .int 0, .int 0, .int 0, .int 0, .int 0, .int (-1), .int 0, .ref 94, .ref 95, .long 0, .ref 96, .ref 97, .ref 98, .ref 99, .ref 100, .ref 101, .ref 102, .ref 103, .ref 104, .ref 105, .ref 106, .int 0, .ref 107, .ref 108, .ref 109, .int 0, .ref 110, .int 0, .ref 111, .ref 112, .ref 113, .ref 114, .int 0, .ref 115, .ref 116, .ref 117, .ref 118, .ref 119, .ref 120, .ref 121, .int 0, .ref 122, .ref 123, .int 0, .ref 124, .ref 125, .ref 126, .int 0, .ref 127, .ref 128, .ref 129, .ref 130, .int 0, .ref 131, .int 0, .int 0, .int 0, .long 0]))) : E_call 4000 (d + 1) 279 [.ref 83, .int i] h = some (some (.int (-1)), h, 0) := by
  by_cases hn : i < 0
  · refine S_call (M := E_m279) rfl (Nat.le_of_ble_eq_true rfl) ?_
    refine S_go rfl ?_
    refine S_ifc (g := fun x => decide (x < 0)) (fun _ => rfl) rfl rfl (fun _ => ?_) (fun hq => absurd (hn) (of_decide_eq_false hq))
    refine S_go rfl ?_
    exact S_end rfl
  refine S_call (M := E_m279) rfl (Nat.le_of_ble_eq_true rfl) ?_
  refine S_go rfl ?_
  refine S_ifc (g := fun x => decide (x < 0)) (fun _ => rfl) rfl rfl (fun hq => absurd (of_decide_eq_true hq) (hn)) (fun _ => ?_)
  refine S_go rfl ?_
  refine S_go rfl ?_
  refine S_get rfl O83 rfl (by decide) ?_
  refine S_icmp (g := fun x y => decide (y ≤ x)) (fun _ => rfl) rfl rfl (fun _ => ?_) (fun hq => absurd (Z_ge hn) (of_decide_eq_false hq))
  refine S_go rfl ?_
  exact S_end rfl
theorem Y_choice {h : E_H} (d : Nat) (i : Int32) (O83 : h[83]? = some (.inr (12, [.ref 84, .int 0, .ref 85, .int 0, .ref 86, .ref 87, .ref 88, .int 0, .int 0, .ref 89, .ref 90, .ref 91, .ref 92, .int 0, .ref 93, .int 0, .int 0, .int 0, .int 0, .int 0, .int 0, .int (-1), .int 0, .ref 94, .ref 95, .long 0, .ref 96, .ref 97, .ref 98, .ref 99, .ref 100, .ref 101, .ref 102, .ref 103, .ref 104, .ref 105, .ref 106, .int 0, .ref 107, .ref 108, .ref 109, .int 0, .ref 110, .int 0, .ref 111, .ref 112, .ref 113, .ref 114, .int 0, .ref 115, .ref 116, .ref 117, .ref 118, .ref 119, .ref 120, .ref 121, .int 0, .ref 122, .ref 123, .int 0, .ref 124, .ref 125, .ref 126, .int 0, .ref 127, .ref 128, .ref 129, .ref 130, .int 0, .ref 131, .int 0, .int 0, .int 0, .long 0]))) : E_call 4000 (d + 1) 280 [.ref 83, .int i] h = some (some (.int (-1)), h, 0) := by
  refine S_call (M := E_m280) rfl (Nat.le_of_ble_eq_true rfl) ?_
  refine S_go rfl ?_
  refine S_get rfl O83 rfl (by decide) ?_
  refine S_go rfl ?_
  refine S_go rfl ?_
  exact S_end rfl
theorem Y_gram {h : E_H} (d : Nat) (i k : Int32) (O83 : h[83]? = some (.inr (12, [.ref 84, .int 0, .ref 85, .int 0, .ref 86, .ref 87, .ref 88, .int 0, .int 0, .ref 89, .ref 90, .ref 91, .ref 92, .int 0, .ref 93, .int 0, .int 0, .int 0, .int 0, .int 0, .int 0, .int (-1), .int 0, .ref 94, .ref 95, .long 0, .ref 96, .ref 97, .ref 98, .ref 99, .ref 100, .ref 101, .ref 102, .ref 103, .ref 104, .ref 105, .ref 106, .int 0, .ref 107, .ref 108, .ref 109, .int 0, .ref 110, .int 0, .ref 111, .ref 112, .ref 113, .ref 114, .int 0, .ref 115, .ref 116, .ref 117, .ref 118, .ref 119, .ref 120, .ref 121, .int 0, .ref 122, .ref 123, .int 0, .ref 124, .ref 125, .ref 126, .int 0, .ref 127, .ref 128, .ref 129, .ref 130, .int 0, .ref 131, .int 0, .int 0, .int 0, .long 0]))) : E_call 4000 (d + 1) 281 [.ref 83, .int i, .int k] h = some (some (.int (-1)), h, 0) := by
  refine S_call (M := E_m281) rfl (Nat.le_of_ble_eq_true rfl) ?_
  refine S_go rfl ?_
  refine S_get rfl O83 rfl (by decide) ?_
  refine S_go rfl ?_
  refine S_go rfl ?_
  exact S_end rfl
theorem Y_texts {h : E_H} (d : Nat) (w : Int32) (O83 : h[83]? = some (.inr (12, [.ref 84, .int 0, .ref 85, .int 0, .ref 86, .ref 87, .ref 88, .int 0, .int 0, .ref 89, .ref 90, .ref 91, .ref 92, .int 0, .ref 93, .int 0, .int 0, .int 0, .int 0, .int 0, .int 0, .int (-1), .int 0, .ref 94, .ref 95, .long 0, .ref 96, .ref 97, .ref 98, .ref 99, .ref 100, .ref 101, .ref 102, .ref 103, .ref 104, .ref 105, .ref 106, .int 0, .ref 107, .ref 108, .ref 109, .int 0, .ref 110, .int 0, .ref 111, .ref 112, .ref 113, .ref 114, .int 0, .ref 115, .ref 116, .ref 117, .ref 118, .ref 119, .ref 120, .ref 121, .int 0, .ref 122, .ref 123, .int 0, .ref 124, .ref 125, .ref 126, .int 0, .ref 127, .ref 128, .ref 129, .ref 130, .int 0, .ref 131, .int 0, .int 0, .int 0, .long 0]))) : E_call 4000 (d + 1) 282 [.ref 83, .int w] h = some (some (.int (-1)), h, 0) := by
  refine S_call (M := E_m282) rfl (Nat.le_of_ble_eq_true rfl) ?_
  refine S_go rfl ?_
  refine S_get rfl O83 rfl (by decide) ?_
  refine S_go rfl ?_
  refine S_go rfl ?_
  exact S_end rfl
theorem Y_text {h : E_H} (d : Nat) (w i k : Int32) (O83 : h[83]? = some (.inr (12, [.ref 84, .int 0, .ref 85, .int 0, .ref 86, .ref 87, .ref 88, .int 0, .int 0, .ref 89, .ref 90, .ref 91, .ref 92, .int 0, .ref 93, .int 0, .int 0, .int 0, .int 0, .int 0, .int 0, .int (-1), .int 0, .ref 94, .ref 95, .long 0, .ref 96, .ref 97, .ref 98, .ref 99, .ref 100, .ref 101, .ref 102, .ref 103, .ref 104, .ref 105, .ref 106, .int 0, .ref 107, .ref 108, .ref 109, .int 0, .ref 110, .int 0, .ref 111, .ref 112, .ref 113, .ref 114, .int 0, .ref 115, .ref 116, .ref 117, .ref 118, .ref 119, .ref 120, .ref 121, .int 0, .ref 122, .ref 123, .int 0, .ref 124, .ref 125, .ref 126, .int 0, .ref 127, .ref 128, .ref 129, .ref 130, .int 0, .ref 131, .int 0, .int 0, .int 0, .long 0]))) : E_call 4000 (d + 1) 283 [.ref 83, .int w, .int i, .int k] h = some (some (.int (-1)), h, 0) := by
  refine S_call (M := E_m283) rfl (Nat.le_of_ble_eq_true rfl) ?_
  refine S_go rfl ?_
  refine S_get rfl O83 rfl (by decide) ?_
  refine S_go rfl ?_
  refine S_go rfl ?_
  exact S_end rfl
theorem Y_count {h : E_H} (d : Nat) (w : Int32) (hw : w.toInt < 0 ∨ 9 < w.toInt) (O83 : h[83]? = some (.inr (12, [.ref 84, .int 0, .ref 85, .int 0, .ref 86, .ref 87, .ref 88, .int 0, .int 0, .ref 89, .ref 90, .ref 91, .ref 92, .int 0, .ref 93, .int 0, .int 0, .int 0, .int 0, .int 0, .int 0, .int (-1), .int 0, .ref 94, .ref 95, .long 0, .ref 96, .ref 97, .ref 98, .ref 99, .ref 100, .ref 101, .ref 102, .ref 103, .ref 104, .ref 105, .ref 106, .int 0, .ref 107, .ref 108, .ref 109, .int 0, .ref 110, .int 0, .ref 111, .ref 112, .ref 113, .ref 114, .int 0, .ref 115, .ref 116, .ref 117, .ref 118, .ref 119, .ref 120, .ref 121, .int 0, .ref 122, .ref 123, .int 0, .ref 124, .ref 125, .ref 126, .int 0, .ref 127, .ref 128, .ref 129, .ref 130, .int 0, .ref 131, .int 0, .int 0, .int 0, .long 0]))) : E_call 4000 (d + 1) 284 [.ref 83, .int w] h = some (some (.int (-1)), h, 0) := by
  refine S_call (M := E_m284) rfl (Nat.le_of_ble_eq_true rfl) ?_
  refine S_go rfl ?_
  refine S_tswo rfl (hw) rfl ?_
  refine S_go rfl ?_
  exact S_end rfl
theorem Y_end {h : E_H} (d : Nat) (n : Int32) (h0 : ¬ n = 0) (O83 : h[83]? = some (.inr (12, [.ref 84, .int 0, .ref 85, .int 0, .ref 86, .ref 87, .ref 88, .int 0, .int 0, .ref 89, .ref 90, .ref 91, .ref 92, .int 0, .ref 93, .int 0, .int 0, .int 0, .int 0, .int 0, .int 0, .int (-1), .int 0, .ref 94, .ref 95, .long 0, .ref 96, .ref 97, .ref 98, .ref 99, .ref 100, .ref 101, .ref 102, .ref 103, .ref 104, .ref 105, .ref 106, .int 0, .ref 107, .ref 108, .ref 109, .int 0, .ref 110, .int 0, .ref 111, .ref 112, .ref 113, .ref 114, .int 0, .ref 115, .ref 116, .ref 117, .ref 118, .ref 119, .ref 120, .ref 121, .int 0, .ref 122, .ref 123, .int 0, .ref 124, .ref 125, .ref 126, .int 0, .ref 127, .ref 128, .ref 129, .ref 130, .int 0, .ref 131, .int 0, .int 0, .int 0, .long 0]))) : E_call 4000 (d + 1) 176 [.ref 83, .int n] h = some (some (.int 0), h, 0) := by
  by_cases hn : n < 0
  · refine S_call (M := E_m176) rfl (Nat.le_of_ble_eq_true rfl) ?_
    refine S_go rfl ?_
    refine S_ifc (g := fun x => decide (x < 0)) (fun _ => rfl) rfl rfl (fun _ => ?_) (fun hq => absurd (hn) (of_decide_eq_false hq))
    refine S_go rfl ?_
    exact S_end rfl
  refine S_call (M := E_m176) rfl (Nat.le_of_ble_eq_true rfl) ?_
  refine S_go rfl ?_
  refine S_ifc (g := fun x => decide (x < 0)) (fun _ => rfl) rfl rfl (fun hq => absurd (of_decide_eq_true hq) (hn)) (fun _ => ?_)
  refine S_go rfl ?_
  refine S_go rfl ?_
  refine S_get rfl O83 rfl (by decide) ?_
  refine S_icmp (g := fun x y => decide (x ≤ y)) (fun _ => rfl) rfl rfl (fun hq => absurd (of_decide_eq_true hq) (Z_gt hn h0)) (fun _ => ?_)
  refine S_go rfl ?_
  exact S_end rfl
