/-! the class: a Part is made -/
theorem C_txi (d : Nat) {s : C_S} {o : Nat} {q : List Nat} (ok : C_K s o = (17, 0)) (ot : C_T s o = q) (o2 : C_F s o 2 = 0) : C_ok (d + 1) 108 [.ref o] s (fun x s2 n => x = none ∧ n = 496 ∧ C_n s2 = C_n s + 10 ∧ C_fr (fun t => t = q) s s2 ∧ ∃ ra la σ, D_Tx s2 q o ra la 0 σ) := by
  refine C_enter (M := E_m108) rfl (Nat.le_of_ble_eq_true rfl) (fun h0 h hs => ?_)
  show B_R (d + 0) _ (0, [(0, .ref o)], []) _ _ _
  have w := hs.1
  have lo := C_lt w ok (show 17 < 20 by decide)
  refine Z_go (f2 := (1, [(0, .ref o)], [.ref o])) (fun _ => rfl) ?_
  refine C_obj rfl (Nat.le_of_ble_eq_true rfl) ?_
  show B_R _ _ (4, [(0, .ref o)], []) _ _ _
  refine Z_go (f2 := (5, [(0, .ref o)], [.ref o])) (fun _ => rfl) ?_
  refine Z_go (f2 := (7, [(0, .ref o)], [.int (Zi 8), .ref o])) (fun _ => rfl) ?_
  refine Z_go (f2 := (9, [(0, .ref o)], [.int (Zi 60), .int (Zi 8), .ref o])) (fun _ => rfl) ?_
  refine C_mna (t := q) rfl hs (by omega) (by omega) (by omega) (by omega) (fun h hs => ?_)
  show B_R _ _ (13, [(0, .ref o)], [.ref (C_n s), .ref o]) _ _ _
  have hs : C_is h0 h (C_newM s 8 60 q) := hs
  have ok1 : C_K (C_newM s 8 60 q) o = (17, 0) := (if_pos lo).trans ok
  refine C_pr rfl hs (r := some (C_n s)) rfl ok1 (by decide) (Nat.le_of_ble_eq_true rfl) (.inr ⟨by decide +kernel, rfl⟩) rfl (fun h hs => ?_)
  refine Z_go (f2 := (17, [(0, .ref o)], [.ref o])) (fun _ => rfl) ?_
  refine Z_go (f2 := (19, [(0, .ref o)], [.int (Zi 8), .ref o])) (fun _ => rfl) ?_
  refine C_na (t := q) rfl hs (by decide) (by decide) (by omega) (by omega) (fun h hs => ?_)
  show B_R _ _ (21, [(0, .ref o)], [.ref (C_n s + 9), .ref o]) _ _ _
  have hs : C_is h0 h (C_new (C_sP (C_newM s 8 60 q) o 0 (some (C_n s))) (0, 8) q) := hs
  have ok2 : C_K (C_new (C_sP (C_newM s 8 60 q) o 0 (some (C_n s))) (0, 8) q) o = (17, 0) := (if_neg (show ¬ o = C_n s + 9 by omega)).trans ok1
  refine C_pr rfl hs (r := some (C_n s + 9)) rfl ok2 (by decide) (Nat.le_of_ble_eq_true rfl) (.inr ⟨by decide +kernel, rfl⟩) rfl (fun h hs => ?_)
  refine Z_ret rfl rfl ⟨_, hs, ?_⟩
  have K : ∀ j, C_K (C_sP (C_new (C_sP (C_newM s 8 60 q) o 0 (some (C_n s))) (0, 8) q) o 1 (some (C_n s + 9))) j = if j = C_n s + 9 then (0, 8) else if j < C_n s then C_K s j else if j = C_n s then (7, 8) else if j < C_n s + 9 then (1, 60) else C_K s j := fun _ => rfl
  have T : ∀ j, C_T (C_sP (C_new (C_sP (C_newM s 8 60 q) o 0 (some (C_n s))) (0, 8) q) o 1 (some (C_n s + 9))) j = if j = C_n s + 9 then q else if C_n s ≤ j ∧ j < C_n s + 9 then q else C_T s j := fun _ => rfl
  have To : C_T (C_sP (C_newM s 8 60 q) o 0 (some (C_n s))) o = q := (if_neg (by omega)).trans ot
  have To2 : C_T (C_new (C_sP (C_newM s 8 60 q) o 0 (some (C_n s))) (0, 8) q) o = q := (if_neg (show ¬ o = C_n s + 9 by omega)).trans To
  have To1 : C_T (C_newM s 8 60 q) o = q := (if_neg (by omega)).trans ot
  have Q : ∀ i : Int, 0 ≤ i → i < 8 → C_Q (C_sP (C_new (C_sP (C_newM s 8 60 q) o 0 (some (C_n s))) (0, 8) q) o 1 (some (C_n s + 9))) (C_n s) i = some (C_n s + 1 + i.toNat) := fun i i0 i1 => by
    show (if C_n s = C_n s + 9 then fun _ => none else (if C_n s = C_n s then (fun i : Int => if 0 ≤ i ∧ i < ((8 : Nat) : Int) then some (C_n s + 1 + i.toNat) else none) else C_Q s (C_n s))) i = _
    rw [if_neg (by omega), if_pos rfl]
    exact if_pos ⟨i0, by omega⟩
  refine ⟨rfl, rfl, rfl, ((((C_fr.refl (fun t => t = q) s).newM (n := 8) (k := 60) (t := q) rfl).sP To1).new (t := q) rfl).sP To2, C_n s, C_n s + 9, fun _ => [], ⟨⟨?_, ?_, ?_, ?_, ?_, ?_, ?_, ?_, ?_, by omega⟩, fun i i0 i1 => ⟨_, Q i i0 i1, ?_, ?_⟩, fun i j i0 i1 j0 j1 b hb hb2 => ?_⟩, fun i hi => by have := hi.1; have := hi.2; omega⟩
  · rw [K, if_neg (by omega), if_pos lo]; exact ok
  · rw [T, if_neg (by omega), if_neg (by omega)]; exact ot
  · show (if o = o ∧ 0 = 1 then _ else (if o = C_n s + 9 then fun _ => none else (fun c => if o = o ∧ c = 0 then some (C_n s) else C_P s o c)) 0) = _
    rw [if_neg (by omega), if_neg (by omega)]
    exact if_pos ⟨rfl, rfl⟩
  · exact if_pos ⟨rfl, rfl⟩
  · rw [K, if_neg (by omega), if_neg (by omega), if_pos rfl]
  · rw [T, if_neg (by omega), if_pos (by omega)]
  · rw [K, if_pos rfl]
  · rw [T, if_pos rfl]
  · show (if o = C_n s + 9 then fun _ => 0 else C_F s o) 2 = ((0 : Nat) : Int)
    rw [if_neg (by omega)]
    exact o2
  · rw [K, if_neg (by omega), if_neg (by omega), if_neg (by omega), if_pos (by omega)]
  · rw [T, if_neg (by omega), if_pos (by omega)]
  · rw [Q i i0 i1] at hb
    rw [Q j j0 j1] at hb2
    cases hb
    injection hb2 with e
    omega
theorem C_rowi (d : Nat) {s : C_S} {o : Nat} {q : List Nat} (w : C_wf s) (ok : C_K s o = (15, 0)) (ot : C_T s o = q) (of_ : C_F s o 1 = 0) : C_ok (d + 1) 87 [.ref o] s (fun x s2 n => x = none ∧ n = 8 ∧ C_n s2 = C_n s + 1 ∧ C_fr (fun t => t = q) s s2 ∧ ∃ a, D_Row s2 q o a 8 []) := by
  have lo := C_lt w ok (show 15 < 20 by decide)
  refine (C_rowInit d ok ot).weak (fun x s2 n h => ?_)
  obtain ⟨rfl, rfl, rfl⟩ := h
  exact ⟨rfl, rfl, rfl, ((C_fr.refl (fun t => t = q) s).new (t := q) rfl).sP ((if_neg (by omega)).trans ot), _, D_Row_new w ok ot of_⟩
theorem C_fami (d : Nat) {s : C_S} {f : Nat} {q : List Nat} {B : Nat} (w : C_wf s) (fk : C_K s f = (9, 0)) (ft : C_T s f = q) (f2 : C_F s f 2 = 0) : C_ok (d + 1) 3 [.ref f, .int (Zi 24)] s (fun x s2 n => x = none ∧ n = 48 ∧ C_n s2 = C_n s + 2 ∧ C_fr (fun t => t = q) s s2 ∧ ∃ qa ma φ, D_Fm s2 q f qa ma 24 B 0 φ ∧ C_fw s2 qa 24 = 0) := by
  have lo := C_lt w fk (show 9 < 20 by decide)
  refine (C_famInit d fk ft (z := 24) (by omega) (by omega)).weak (fun x s2 n h => ?_)
  obtain ⟨rfl, rfl, hs2⟩ := h
  have hs2 : s2 = C_sP (C_new (C_sP (C_new s (4, 24) q) f 0 (some (C_n s))) (3, 24) q) f 1 (some (C_n s + 1)) := hs2
  subst hs2
  have K : ∀ j, C_K (C_sP (C_new (C_sP (C_new s (4, 24) q) f 0 (some (C_n s))) (3, 24) q) f 1 (some (C_n s + 1))) j = if j = C_n s + 1 then (3, 24) else if j = C_n s then (4, 24) else C_K s j := fun _ => rfl
  have T : ∀ j, C_T (C_sP (C_new (C_sP (C_new s (4, 24) q) f 0 (some (C_n s))) (3, 24) q) f 1 (some (C_n s + 1))) j = if j = C_n s + 1 then q else if j = C_n s then q else C_T s j := fun _ => rfl
  have Q : ∀ i : Int, C_Q (C_sP (C_new (C_sP (C_new s (4, 24) q) f 0 (some (C_n s))) (3, 24) q) f 1 (some (C_n s + 1))) (C_n s) i = none := fun i => by
    show (if C_n s = C_n s + 1 then fun _ => none else (if C_n s = C_n s then fun _ => none else C_Q s (C_n s))) i = none
    rw [if_neg (by omega), if_pos rfl]
  refine ⟨rfl, rfl, rfl, ((((C_fr.refl (fun t => t = q) s).new (t := q) rfl).sP ((if_neg (by omega)).trans ft)).new (t := q) rfl).sP ((if_neg (show ¬ f = C_n s + 1 by omega)).trans ((if_neg (by omega)).trans ft)), C_n s, C_n s + 1, fun _ => [], ⟨⟨?_, ?_, ?_, ?_, ?_, ?_, ?_, ?_, ?_, by omega, by omega⟩, fun i i0 i1 => .inl ⟨Q i, by omega⟩, fun i j i0 i1 j0 j1 r hr _ => (by rw [Q i] at hr; cases hr), fun i i0 i1 => (by omega)⟩, ?_⟩
  · rw [K, if_neg (by omega), if_neg (by omega)]; exact fk
  · rw [T, if_neg (by omega), if_neg (by omega)]; exact ft
  · show (if f = f ∧ 0 = 1 then _ else (if f = C_n s + 1 then fun _ => none else (fun c => if f = f ∧ c = 0 then some (C_n s) else (if f = C_n s then fun _ => none else C_P s f) c)) 0) = _
    rw [if_neg (by omega), if_neg (by omega)]
    exact if_pos ⟨rfl, rfl⟩
  · exact if_pos ⟨rfl, rfl⟩
  · rw [K, if_neg (by omega), if_pos rfl]
  · rw [T, if_neg (by omega), if_pos rfl]
  · rw [K, if_pos rfl]
  · rw [T, if_pos rfl]
  · show (if f = C_n s + 1 then fun _ => 0 else (if f = C_n s then fun _ => 0 else C_F s f)) 2 = ((0 : Nat) : Int)
    rw [if_neg (by omega), if_neg (by omega)]
    exact f2
  · have e : C_fw (C_sP (C_new (C_sP (C_new s (4, 24) q) f 0 (some (C_n s))) (3, 24) q) f 1 (some (C_n s + 1))) (C_n s) 24 = ((List.range 24).map (fun _ : Nat => 0)).sum := by
      unfold C_fw
      refine L_sum_eq (fun i hi => ?_)
      rw [Q]
      rfl
    rw [e]
    rfl
def Pl_X (pp : List Nat) (l : Nat) : List Nat → Prop := fun t => pp ++ [4, l] <+: t ∨ pp ++ [2, 1 + l] <+: t ∨ pp ++ [0, 4 + 2 * l] <+: t ∨ pp ++ [0, 5 + 2 * l] <+: t ∨ pp ++ [1, 2 + l] <+: t
theorem C_pinit (d : Nat) {s : C_S} {o l B : Nat} {pp : List Nat} (ok : C_K s o = (12, 0)) (ot : C_T s o = pp ++ [4, l]) (f0 : C_F s o 0 = 0) (f1 : C_F s o 1 = 0) : C_ok (d + 2) 51 [.ref o] s (fun x s2 n => x = none ∧ n ≤ 600 ∧ C_n s2 = C_n s + 18 ∧ C_fr (Pl_X pp l) s s2 ∧ ∃ tx hd tl wf, (C_P s2 o 2 = some tx ∧ C_P s2 o 3 = some hd ∧ C_P s2 o 4 = some tl ∧ C_P s2 o 5 = some wf ∧ C_F s2 o 0 = 0 ∧ C_F s2 o 1 = 0) ∧ (∃ ra la σ, D_Tx s2 (pp ++ [2, 1 + l]) tx ra la 0 σ) ∧ (∃ a, D_Row s2 (pp ++ [0, 4 + 2 * l]) hd a 8 []) ∧ (∃ a, D_Row s2 (pp ++ [0, 5 + 2 * l]) tl a 8 []) ∧ ∃ qa ma φ, D_Fm s2 (pp ++ [1, 2 + l]) wf qa ma 24 B 0 φ ∧ C_fw s2 qa 24 = 0) := by
  refine C_enter (M := E_m51) rfl (Nat.le_of_ble_eq_true rfl) (fun h0 h hs => ?_)
  show B_R (d + 1) _ (0, [(0, .ref o)], []) _ _ _
  have w := hs.1
  have fr := C_fr.refl (Pl_X pp l) s
  have lo := C_lt w ok (show 12 < 20 by decide)
  have ok0 := ok
  have pno : ∀ a b : Nat, a ≠ 4 → ¬ pp ++ [4, l] = pp ++ [a, b] := fun a b ha e => by
    have := L_tw2 (L_pre_self (pp ++ [4, l])) (L_pre_eq e)
    omega
  have e0 := f0
  have e1 := f1
  have en : C_n s = C_n s := rfl
  refine Z_go (f2 := (1, [(0, .ref o)], [.ref o])) (fun _ => rfl) ?_
  refine C_obj rfl (Nat.le_of_ble_eq_true rfl) ?_
  show B_R _ _ (4, [(0, .ref o)], []) _ _ _
  refine Z_go (f2 := (5, [(0, .ref o)], [.ref o])) (fun _ => rfl) ?_
  refine C_nw (t := pp ++ [2, 1 + l]) rfl hs (by decide) (fun h hs => ?_)
  obtain ⟨tx, etx⟩ : ∃ z, z = C_n s := ⟨_, rfl⟩
  rw [← etx]
  have wtx := hs.1
  have ktx : C_K (C_new s (17, 0) (pp ++ [2, 1 + l])) tx = (17, 0) := by rw [etx]; exact if_pos rfl
  have ttx : C_T (C_new s (17, 0) (pp ++ [2, 1 + l])) tx = (pp ++ [2, 1 + l]) := by rw [etx]; exact if_pos rfl
  have ftx : C_F (C_new s (17, 0) (pp ++ [2, 1 + l])) tx 2 = 0 := by rw [etx]; show (if C_n _ = C_n _ then fun _ => (0 : Int) else _) 2 = 0; rw [if_pos rfl]
  have frtx : C_fr (Pl_X pp l) s (C_new s (17, 0) (pp ++ [2, 1 + l])) := fr.new (t := (pp ++ [2, 1 + l])) (.inr (.inl (L_pre_self _)))
  have entx : C_n (C_new s (17, 0) (pp ++ [2, 1 + l])) = C_n s + 1 := rfl
  have lon : o ≠ C_n s := by show o ≠ C_n s; have := lo; omega
  show B_R _ _ (8, [(0, .ref o)], [.ref tx, .ref o]) _ _ _
  refine Z_go (f2 := (9, [(0, .ref o)], [.ref tx, .ref tx, .ref o])) (fun _ => rfl) ?_
  refine C_callI (As := []) (rest := [.ref tx, .ref o]) rfl (by decide) rfl rfl rfl (by decide +kernel) rfl (Nat.le_of_ble_eq_true rfl) hs (C_txi _ ktx ttx ftx) (fun x h u1 n1 hs q => ?_)
  obtain ⟨rfl, rfl, en1, frq, hcomp0⟩ := q
  have fr2 : C_fr (Pl_X pp l) s u1 := frtx.tr (frq.weak (fun t e => by rw [e]; exact .inr (.inl (L_pre_self _))))
  have okN : C_K (C_new s (17, 0) (pp ++ [2, 1 + l])) o = (12, 0) := frtx.K w ok0 (by decide)
  have loN := C_lt wtx okN (show 12 < 20 by decide)
  have otN : C_T (C_new s (17, 0) (pp ++ [2, 1 + l])) o = pp ++ [4, l] := by rw [(frtx.2.1 o lo).2]; exact ot
  obtain ⟨eo1, eo2, _⟩ := frq.2.2.1 o loN (by rw [otN]; exact pno _ _ (by omega))
  have ok : C_K u1 o = (12, 0) := fr2.K w ok0 (by decide)
  have otu1 : C_T u1 o = pp ++ [4, l] := by rw [(fr2.2.1 o lo).2]; exact ot
  have fr : C_fr (Pl_X pp l) s (C_sP u1 o 2 (some tx)) := fr2.sP (by rw [otu1]; exact .inl (L_pre_self _))
  have eF0 : C_F (C_sP u1 o 2 (some tx)) o = C_F s o := by show C_F u1 o = _; rw [eo1]; show (if o = C_n _ then _ else _) = _; rw [if_neg lon]
  have eP0 : ∀ f, f ≠ 2 → C_P (C_sP u1 o 2 (some tx)) o f = C_P s o f := fun f hf => by rw [show C_P (C_sP u1 o 2 (some tx)) o f = C_P u1 o f from if_neg (fun e => hf e.2), eo2]; show (if o = C_n _ then _ else _ : Nat → Option Nat) f = _; rw [if_neg lon]
  have eS0 : C_P (C_sP u1 o 2 (some tx)) o 2 = some tx := if_pos ⟨rfl, rfl⟩
  have frK0 := frq
  have frT0 := frtx
  have wU1 := hs.1
  show B_R _ _ (12, [(0, .ref o)], [.ref tx, .ref o]) _ _ _
  refine C_pr rfl hs (r := some tx) rfl ok (by decide) (Nat.le_of_ble_eq_true rfl) (.inr ⟨by decide +kernel, rfl⟩) rfl (fun h hs => ?_)
  refine Z_go (f2 := (16, [(0, .ref o)], [.ref o])) (fun _ => rfl) ?_
  refine C_nw (t := pp ++ [0, 4 + 2 * l]) rfl hs (by decide) (fun h hs => ?_)
  obtain ⟨hd, ehd⟩ : ∃ z, z = C_n (C_sP u1 o 2 (some tx)) := ⟨_, rfl⟩
  rw [← ehd]
  have whd := hs.1
  have khd : C_K (C_new (C_sP u1 o 2 (some tx)) (15, 0) (pp ++ [0, 4 + 2 * l])) hd = (15, 0) := by rw [ehd]; exact if_pos rfl
  have thd : C_T (C_new (C_sP u1 o 2 (some tx)) (15, 0) (pp ++ [0, 4 + 2 * l])) hd = (pp ++ [0, 4 + 2 * l]) := by rw [ehd]; exact if_pos rfl
  have fhd : C_F (C_new (C_sP u1 o 2 (some tx)) (15, 0) (pp ++ [0, 4 + 2 * l])) hd 1 = 0 := by rw [ehd]; show (if C_n _ = C_n _ then fun _ => (0 : Int) else _) 1 = 0; rw [if_pos rfl]
  have frhd : C_fr (Pl_X pp l) s (C_new (C_sP u1 o 2 (some tx)) (15, 0) (pp ++ [0, 4 + 2 * l])) := fr.new (t := (pp ++ [0, 4 + 2 * l])) (.inr (.inr (.inl (L_pre_self _))))
  have enhd : C_n (C_new (C_sP u1 o 2 (some tx)) (15, 0) (pp ++ [0, 4 + 2 * l])) = C_n (C_sP u1 o 2 (some tx)) + 1 := rfl
  have lon : o ≠ C_n (C_sP u1 o 2 (some tx)) := by show o ≠ C_n u1; have := C_lt wU1 ok (show 12 < 20 by decide); omega
  show B_R _ _ (19, [(0, .ref o)], [.ref hd, .ref o]) _ _ _
  refine Z_go (f2 := (20, [(0, .ref o)], [.ref hd, .ref hd, .ref o])) (fun _ => rfl) ?_
  refine C_callI (As := []) (rest := [.ref hd, .ref o]) rfl (by decide) rfl rfl rfl (by decide +kernel) rfl (Nat.le_of_ble_eq_true rfl) hs (C_rowi _ whd khd thd fhd) (fun x h u2 n2 hs q => ?_)
  obtain ⟨rfl, rfl, en2, frq, hcomp1⟩ := q
  have fr2 : C_fr (Pl_X pp l) s u2 := frhd.tr (frq.weak (fun t e => by rw [e]; exact .inr (.inr (.inl (L_pre_self _)))))
  have okN : C_K (C_new (C_sP u1 o 2 (some tx)) (15, 0) (pp ++ [0, 4 + 2 * l])) o = (12, 0) := frhd.K w ok0 (by decide)
  have loN := C_lt whd okN (show 12 < 20 by decide)
  have otN : C_T (C_new (C_sP u1 o 2 (some tx)) (15, 0) (pp ++ [0, 4 + 2 * l])) o = pp ++ [4, l] := by rw [(frhd.2.1 o lo).2]; exact ot
  obtain ⟨eo1, eo2, _⟩ := frq.2.2.1 o loN (by rw [otN]; exact pno _ _ (by omega))
  have ok : C_K u2 o = (12, 0) := fr2.K w ok0 (by decide)
  have otu2 : C_T u2 o = pp ++ [4, l] := by rw [(fr2.2.1 o lo).2]; exact ot
  have fr : C_fr (Pl_X pp l) s (C_sP u2 o 3 (some hd)) := fr2.sP (by rw [otu2]; exact .inl (L_pre_self _))
  have eF1 : C_F (C_sP u2 o 3 (some hd)) o = C_F (C_sP u1 o 2 (some tx)) o := by show C_F u2 o = _; rw [eo1]; show (if o = C_n _ then _ else _) = _; rw [if_neg lon]
  have eP1 : ∀ f, f ≠ 3 → C_P (C_sP u2 o 3 (some hd)) o f = C_P (C_sP u1 o 2 (some tx)) o f := fun f hf => by rw [show C_P (C_sP u2 o 3 (some hd)) o f = C_P u2 o f from if_neg (fun e => hf e.2), eo2]; show (if o = C_n _ then _ else _ : Nat → Option Nat) f = _; rw [if_neg lon]
  have eS1 : C_P (C_sP u2 o 3 (some hd)) o 3 = some hd := if_pos ⟨rfl, rfl⟩
  have frK1 := frq
  have frT1 := frhd
  have wU2 := hs.1
  show B_R _ _ (23, [(0, .ref o)], [.ref hd, .ref o]) _ _ _
  refine C_pr rfl hs (r := some hd) rfl ok (by decide) (Nat.le_of_ble_eq_true rfl) (.inr ⟨by decide +kernel, rfl⟩) rfl (fun h hs => ?_)
  refine Z_go (f2 := (27, [(0, .ref o)], [.ref o])) (fun _ => rfl) ?_
  refine C_nw (t := pp ++ [0, 5 + 2 * l]) rfl hs (by decide) (fun h hs => ?_)
  obtain ⟨tl, etl⟩ : ∃ z, z = C_n (C_sP u2 o 3 (some hd)) := ⟨_, rfl⟩
  rw [← etl]
  have wtl := hs.1
  have ktl : C_K (C_new (C_sP u2 o 3 (some hd)) (15, 0) (pp ++ [0, 5 + 2 * l])) tl = (15, 0) := by rw [etl]; exact if_pos rfl
  have ttl : C_T (C_new (C_sP u2 o 3 (some hd)) (15, 0) (pp ++ [0, 5 + 2 * l])) tl = (pp ++ [0, 5 + 2 * l]) := by rw [etl]; exact if_pos rfl
  have ftl : C_F (C_new (C_sP u2 o 3 (some hd)) (15, 0) (pp ++ [0, 5 + 2 * l])) tl 1 = 0 := by rw [etl]; show (if C_n _ = C_n _ then fun _ => (0 : Int) else _) 1 = 0; rw [if_pos rfl]
  have frtl : C_fr (Pl_X pp l) s (C_new (C_sP u2 o 3 (some hd)) (15, 0) (pp ++ [0, 5 + 2 * l])) := fr.new (t := (pp ++ [0, 5 + 2 * l])) (.inr (.inr (.inr (.inl (L_pre_self _)))))
  have entl : C_n (C_new (C_sP u2 o 3 (some hd)) (15, 0) (pp ++ [0, 5 + 2 * l])) = C_n (C_sP u2 o 3 (some hd)) + 1 := rfl
  have lon : o ≠ C_n (C_sP u2 o 3 (some hd)) := by show o ≠ C_n u2; have := C_lt wU2 ok (show 12 < 20 by decide); omega
  show B_R _ _ (30, [(0, .ref o)], [.ref tl, .ref o]) _ _ _
  refine Z_go (f2 := (31, [(0, .ref o)], [.ref tl, .ref tl, .ref o])) (fun _ => rfl) ?_
  refine C_callI (As := []) (rest := [.ref tl, .ref o]) rfl (by decide) rfl rfl rfl (by decide +kernel) rfl (Nat.le_of_ble_eq_true rfl) hs (C_rowi _ wtl ktl ttl ftl) (fun x h u3 n3 hs q => ?_)
  obtain ⟨rfl, rfl, en3, frq, hcomp2⟩ := q
  have fr2 : C_fr (Pl_X pp l) s u3 := frtl.tr (frq.weak (fun t e => by rw [e]; exact .inr (.inr (.inr (.inl (L_pre_self _))))))
  have okN : C_K (C_new (C_sP u2 o 3 (some hd)) (15, 0) (pp ++ [0, 5 + 2 * l])) o = (12, 0) := frtl.K w ok0 (by decide)
  have loN := C_lt wtl okN (show 12 < 20 by decide)
  have otN : C_T (C_new (C_sP u2 o 3 (some hd)) (15, 0) (pp ++ [0, 5 + 2 * l])) o = pp ++ [4, l] := by rw [(frtl.2.1 o lo).2]; exact ot
  obtain ⟨eo1, eo2, _⟩ := frq.2.2.1 o loN (by rw [otN]; exact pno _ _ (by omega))
  have ok : C_K u3 o = (12, 0) := fr2.K w ok0 (by decide)
  have otu3 : C_T u3 o = pp ++ [4, l] := by rw [(fr2.2.1 o lo).2]; exact ot
  have fr : C_fr (Pl_X pp l) s (C_sP u3 o 4 (some tl)) := fr2.sP (by rw [otu3]; exact .inl (L_pre_self _))
  have eF2 : C_F (C_sP u3 o 4 (some tl)) o = C_F (C_sP u2 o 3 (some hd)) o := by show C_F u3 o = _; rw [eo1]; show (if o = C_n _ then _ else _) = _; rw [if_neg lon]
  have eP2 : ∀ f, f ≠ 4 → C_P (C_sP u3 o 4 (some tl)) o f = C_P (C_sP u2 o 3 (some hd)) o f := fun f hf => by rw [show C_P (C_sP u3 o 4 (some tl)) o f = C_P u3 o f from if_neg (fun e => hf e.2), eo2]; show (if o = C_n _ then _ else _ : Nat → Option Nat) f = _; rw [if_neg lon]
  have eS2 : C_P (C_sP u3 o 4 (some tl)) o 4 = some tl := if_pos ⟨rfl, rfl⟩
  have frK2 := frq
  have frT2 := frtl
  have wU3 := hs.1
  show B_R _ _ (34, [(0, .ref o)], [.ref tl, .ref o]) _ _ _
  refine C_pr rfl hs (r := some tl) rfl ok (by decide) (Nat.le_of_ble_eq_true rfl) (.inr ⟨by decide +kernel, rfl⟩) rfl (fun h hs => ?_)
  refine Z_go (f2 := (38, [(0, .ref o)], [.ref o])) (fun _ => rfl) ?_
  refine C_nw (t := pp ++ [1, 2 + l]) rfl hs (by decide) (fun h hs => ?_)
  obtain ⟨wf, ewf⟩ : ∃ z, z = C_n (C_sP u3 o 4 (some tl)) := ⟨_, rfl⟩
  rw [← ewf]
  have wwf := hs.1
  have kwf : C_K (C_new (C_sP u3 o 4 (some tl)) (9, 0) (pp ++ [1, 2 + l])) wf = (9, 0) := by rw [ewf]; exact if_pos rfl
  have twf : C_T (C_new (C_sP u3 o 4 (some tl)) (9, 0) (pp ++ [1, 2 + l])) wf = (pp ++ [1, 2 + l]) := by rw [ewf]; exact if_pos rfl
  have fwf : C_F (C_new (C_sP u3 o 4 (some tl)) (9, 0) (pp ++ [1, 2 + l])) wf 2 = 0 := by rw [ewf]; show (if C_n _ = C_n _ then fun _ => (0 : Int) else _) 2 = 0; rw [if_pos rfl]
  have frwf : C_fr (Pl_X pp l) s (C_new (C_sP u3 o 4 (some tl)) (9, 0) (pp ++ [1, 2 + l])) := fr.new (t := (pp ++ [1, 2 + l])) (.inr (.inr (.inr (.inr (L_pre_self _)))))
  have enwf : C_n (C_new (C_sP u3 o 4 (some tl)) (9, 0) (pp ++ [1, 2 + l])) = C_n (C_sP u3 o 4 (some tl)) + 1 := rfl
  have lon : o ≠ C_n (C_sP u3 o 4 (some tl)) := by show o ≠ C_n u3; have := C_lt wU3 ok (show 12 < 20 by decide); omega
  show B_R _ _ (41, [(0, .ref o)], [.ref wf, .ref o]) _ _ _
  refine Z_go (f2 := (42, [(0, .ref o)], [.ref wf, .ref wf, .ref o])) (fun _ => rfl) ?_
  refine Z_go (f2 := (44, [(0, .ref o)], [.int (Zi 24), .ref wf, .ref wf, .ref o])) (fun _ => rfl) ?_
  refine C_callI (As := [.int (Zi 24)]) (rest := [.ref wf, .ref o]) rfl (by decide) rfl rfl rfl (by decide +kernel) rfl (Nat.le_of_ble_eq_true rfl) hs (C_fami (B := B) _ wwf kwf twf fwf) (fun x h u4 n4 hs q => ?_)
  obtain ⟨rfl, rfl, en4, frq, hcomp3⟩ := q
  have fr2 : C_fr (Pl_X pp l) s u4 := frwf.tr (frq.weak (fun t e => by rw [e]; exact .inr (.inr (.inr (.inr (L_pre_self _))))))
  have okN : C_K (C_new (C_sP u3 o 4 (some tl)) (9, 0) (pp ++ [1, 2 + l])) o = (12, 0) := frwf.K w ok0 (by decide)
  have loN := C_lt wwf okN (show 12 < 20 by decide)
  have otN : C_T (C_new (C_sP u3 o 4 (some tl)) (9, 0) (pp ++ [1, 2 + l])) o = pp ++ [4, l] := by rw [(frwf.2.1 o lo).2]; exact ot
  obtain ⟨eo1, eo2, _⟩ := frq.2.2.1 o loN (by rw [otN]; exact pno _ _ (by omega))
  have ok : C_K u4 o = (12, 0) := fr2.K w ok0 (by decide)
  have otu4 : C_T u4 o = pp ++ [4, l] := by rw [(fr2.2.1 o lo).2]; exact ot
  have fr : C_fr (Pl_X pp l) s (C_sP u4 o 5 (some wf)) := fr2.sP (by rw [otu4]; exact .inl (L_pre_self _))
  have eF3 : C_F (C_sP u4 o 5 (some wf)) o = C_F (C_sP u3 o 4 (some tl)) o := by show C_F u4 o = _; rw [eo1]; show (if o = C_n _ then _ else _) = _; rw [if_neg lon]
  have eP3 : ∀ f, f ≠ 5 → C_P (C_sP u4 o 5 (some wf)) o f = C_P (C_sP u3 o 4 (some tl)) o f := fun f hf => by rw [show C_P (C_sP u4 o 5 (some wf)) o f = C_P u4 o f from if_neg (fun e => hf e.2), eo2]; show (if o = C_n _ then _ else _ : Nat → Option Nat) f = _; rw [if_neg lon]
  have eS3 : C_P (C_sP u4 o 5 (some wf)) o 5 = some wf := if_pos ⟨rfl, rfl⟩
  have frK3 := frq
  have frT3 := frwf
  have wU4 := hs.1
  show B_R _ _ (47, [(0, .ref o)], [.ref wf, .ref o]) _ _ _
  refine C_pr rfl hs (r := some wf) rfl ok (by decide) (Nat.le_of_ble_eq_true rfl) (.inr ⟨by decide +kernel, rfl⟩) rfl (fun h hs => ?_)
  refine Z_ret rfl rfl ⟨_, hs, ?_⟩
  try dsimp only
  obtain ⟨ra, la, σ, c0⟩ := hcomp0
  obtain ⟨a1, c1⟩ := hcomp1
  obtain ⟨a2, c2⟩ := hcomp2
  obtain ⟨qa, ma, φ, c3, c4⟩ := hcomp3
  have g0 : C_fr (fun t => pp ++ [4, l] <+: t ∨ t = pp ++ [0, 4 + 2 * l] ∨ t = pp ++ [0, 5 + 2 * l] ∨ t = pp ++ [1, 2 + l]) u1 (C_sP u4 o 5 (some wf)) := (((((((((((C_fr.refl _ u1).sP (o := o) (b := 2) (z := some tx) (by rw [otu1]; exact .inl ((L_pre_self _)))).new (k := (15, 0)) (t := pp ++ [0, 4 + 2 * l]) (.inr (.inl rfl))).tr (frK1.weak (fun t e => .inr (.inl e)))).sP (o := o) (b := 3) (z := some hd) (by rw [otu2]; exact .inl (L_pre_self _))).new (k := (15, 0)) (t := pp ++ [0, 5 + 2 * l]) (.inr (.inr (.inl rfl)))).tr (frK2.weak (fun t e => .inr (.inr (.inl e))))).sP (o := o) (b := 4) (z := some tl) (by rw [otu3]; exact .inl (L_pre_self _))).new (k := (9, 0)) (t := pp ++ [1, 2 + l]) (.inr (.inr (.inr (rfl))))).tr (frK3.weak (fun t e => .inr (.inr (.inr (e)))))).sP (o := o) (b := 5) (z := some wf) (by rw [otu4]; exact .inl (L_pre_self _)))
  have g1 : C_fr (fun t => pp ++ [4, l] <+: t ∨ t = pp ++ [0, 5 + 2 * l] ∨ t = pp ++ [1, 2 + l]) u2 (C_sP u4 o 5 (some wf)) := ((((((((C_fr.refl _ u2).sP (o := o) (b := 3) (z := some hd) (by rw [otu2]; exact .inl ((L_pre_self _)))).new (k := (15, 0)) (t := pp ++ [0, 5 + 2 * l]) (.inr (.inl rfl))).tr (frK2.weak (fun t e => .inr (.inl e)))).sP (o := o) (b := 4) (z := some tl) (by rw [otu3]; exact .inl (L_pre_self _))).new (k := (9, 0)) (t := pp ++ [1, 2 + l]) (.inr (.inr (rfl)))).tr (frK3.weak (fun t e => .inr (.inr (e))))).sP (o := o) (b := 5) (z := some wf) (by rw [otu4]; exact .inl (L_pre_self _)))
  have g2 : C_fr (fun t => pp ++ [4, l] <+: t ∨ t = pp ++ [1, 2 + l]) u3 (C_sP u4 o 5 (some wf)) := (((((C_fr.refl _ u3).sP (o := o) (b := 4) (z := some tl) (by rw [otu3]; exact .inl ((L_pre_self _)))).new (k := (9, 0)) (t := pp ++ [1, 2 + l]) (.inr (rfl))).tr (frK3.weak (fun t e => .inr (e)))).sP (o := o) (b := 5) (z := some wf) (by rw [otu4]; exact .inl (L_pre_self _)))
  have g3 : C_fr (fun t => pp ++ [4, l] <+: t) u4 (C_sP u4 o 5 (some wf)) := ((C_fr.refl _ u4).sP (o := o) (b := 5) (z := some wf) (by rw [otu4]; exact ((L_pre_self _))))
  have nX0 : ∀ t, pp ++ [2, 1 + l] <+: t → ¬ (pp ++ [4, l] <+: t ∨ t = pp ++ [0, 4 + 2 * l] ∨ t = pp ++ [0, 5 + 2 * l] ∨ t = pp ++ [1, 2 + l]) := fun t ht e => by
    rcases e with e | e | e | e
    · have := L_tw2 ht e; omega
    · have := L_tw2 ht (L_pre_eq e); omega
    · have := L_tw2 ht (L_pre_eq e); omega
    · have := L_tw2 ht (L_pre_eq e); omega
  have nX1 : ∀ t, pp ++ [0, 4 + 2 * l] <+: t → ¬ (pp ++ [4, l] <+: t ∨ t = pp ++ [0, 5 + 2 * l] ∨ t = pp ++ [1, 2 + l]) := fun t ht e => by
    rcases e with e | e | e
    · have := L_tw2 ht e; omega
    · have := L_tw2 ht (L_pre_eq e); omega
    · have := L_tw2 ht (L_pre_eq e); omega
  have nX2 : ∀ t, pp ++ [0, 5 + 2 * l] <+: t → ¬ (pp ++ [4, l] <+: t ∨ t = pp ++ [1, 2 + l]) := fun t ht e => by
    rcases e with e | e
    · have := L_tw2 ht e; omega
    · have := L_tw2 ht (L_pre_eq e); omega
  have nX3 : ∀ t, pp ++ [1, 2 + l] <+: t → ¬ (pp ++ [4, l] <+: t) := fun t ht e => by
    have := L_tw2 ht e; omega
  have em1 : C_n u1 = C_n s + 1 + 10 := en1
  have em2 : C_n u2 = C_n u1 + 1 + 1 := en2
  have em3 : C_n u3 = C_n u2 + 1 + 1 := en3
  have em4 : C_n u4 = C_n u3 + 1 + 2 := en4
  refine ⟨rfl, by rw [show E_N 9 = 3 from by decide +kernel, show E_N 7 = 2 from by decide +kernel, show E_N 1 = 3 from by decide +kernel]; omega, by show C_n u4 = tx + 18; omega, fr, tx, hd, tl, wf, ⟨(eP3 2 (by omega)).trans ((eP2 2 (by omega)).trans ((eP1 2 (by omega)).trans eS0)), (eP3 3 (by omega)).trans ((eP2 3 (by omega)).trans eS1), (eP3 4 (by omega)).trans eS2, eS3, by rw [eF3, eF2, eF1, eF0]; exact f0, by rw [eF3, eF2, eF1, eF0]; exact f1⟩, ⟨ra, la, σ, c0.fr wU1 g0 (nX0 _ (L_pre_self _))⟩, ⟨a1, c1.fr wU2 g1 (nX1 _ (L_pre_self _))⟩, ⟨a2, c2.fr wU3 g2 (nX2 _ (L_pre_self _))⟩, qa, ma, φ, (c3.fr wU4 g3 (nX3)).1, (c3.fr wU4 g3 (nX3)).2.trans c4⟩
