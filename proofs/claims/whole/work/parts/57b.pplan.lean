/-! what is wanted, purely: families, ends, values -/
abbrev P_X : Type := List Int → Prop
/-- what stands in all of them -/
noncomputable def F_core (C : P_X) : List Int := Classical.epsilon (fun l => L_srt l ∧ ∀ x, x ∈ l ↔ ∀ c, C c → x ∈ c)
theorem F_core_eq {C : P_X} {l : List Int} (h1 : L_srt l) (h2 : ∀ x, x ∈ l ↔ ∀ c, C c → x ∈ c) : F_core C = l := by
  have h : ∃ l, L_srt l ∧ ∀ x, x ∈ l ↔ ∀ c, C c → x ∈ c := ⟨l, h1, h2⟩
  have h3 : L_srt (F_core C) ∧ ∀ x, x ∈ F_core C ↔ ∀ c, C c → x ∈ c := Classical.epsilon_spec h
  exact L_srt_ext h3.1 h1 (fun x => (h3.2 x).trans (h2 x).symm)
def F_min (C : P_X) : P_X := S_min L_le C
noncomputable def F_least (C : P_X) : P_X := c_if (S_card (F_min C) 24) (F_min C) (fun x => x = F_core C)
def F_un (p q : P_X) : P_X := fun z => ∃ x y, p x ∧ q y ∧ z = L_un x y
noncomputable def F_both (p q : P_X) : P_X := c_if (S_card (F_min (F_un p q)) 24) (F_min (F_un p q)) (c_if (∀ n, S_card q n → S_card p n) (F_min (F_un p (fun x => x = F_core q))) (F_min (F_un (fun x => x = F_core p) q)))
/-- the least ends, at most twelve -/
noncomputable def E_bnd (pre : List Int → List Int → Prop) (sh : List Int → List Int) (H : P_X) : P_X := c_if (S_card (S_min pre H) 12) (S_min pre H) (c_if (S_card (S_min pre (fun y => ∃ x, S_min pre H x ∧ y = sh x)) 12) (S_min pre (fun y => ∃ x, S_min pre H x ∧ y = sh x)) (fun x => x = []))
def E_hd (t : List Int) : List Int := t.take 2
def E_tl (t : List Int) : List Int := t.drop (t.length - 2)
noncomputable def E_hs (H : P_X) : P_X := E_bnd (fun a b => a <+: b) (fun t => t.take 1) H
noncomputable def E_ts (H : P_X) : P_X := E_bnd (fun a b => a <:+ b) (fun t => t.drop (t.length - 1)) H
/-- what is known of a part: its texts, or heads, tails and what is wanted -/
abbrev P_V : Type := P_X ⊕ (P_X × P_X × P_X)
def F_im (f : List Int → List Int) (A : P_X) : P_X := fun y => ∃ x, A x ∧ y = f x
def F_im2 (f : List Int → List Int → List Int) (A B : P_X) : P_X := fun z => ∃ x y, A x ∧ B y ∧ z = f x y
def F_one (x : List Int) : P_X := fun y => y = x
def F_or (A B : P_X) : P_X := fun x => A x ∨ B x
/-- texts that may stand -/
def F_fit (A : P_X) : Prop := S_card A 8 ∧ ∀ t, A t → t.length ≤ 60
noncomputable def V_H (v : P_V) : P_X := match v with
  | .inl A => E_hs (F_im E_hd A)
  | .inr q => q.1
noncomputable def V_T (v : P_V) : P_X := match v with
  | .inl A => E_ts (F_im E_tl A)
  | .inr q => q.2.1
noncomputable def V_C (v : P_V) : P_X := match v with
  | .inl A => F_least (F_im L_gr A)
  | .inr q => q.2.2
noncomputable def V_open (v : P_V) : P_V := .inr (V_H v, V_T v, V_C v)
noncomputable def V_nil : P_V := .inl (F_one [])
noncomputable def V_shut : P_V := .inr (F_one [], F_one [], F_one [])
noncomputable def V_beh2 (v w : P_V) : P_V := .inr
  (match v with | .inl A => E_hs (F_im2 (fun t h => E_hd (t ++ h)) A (V_H w)) | .inr q => q.1,
  match w with | .inl B => E_ts (F_im2 (fun t u => E_tl (u ++ t)) B (V_T v)) | .inr q => q.2.1,
  F_both (F_both (V_C v) (V_C w)) (F_least (F_im2 (fun t h => L_gr (t ++ h)) (V_T v) (V_H w))))
noncomputable def V_beh (v w : P_V) : P_V := match v, w with
  | .inl A, .inl B => c_if (F_fit (F_im2 (fun a b => a ++ b) A B)) (.inl (F_im2 (fun a b => a ++ b) A B)) (V_beh2 v w)
  | _, _ => V_beh2 v w
noncomputable def V_or2 (v w : P_V) : P_V := .inr (E_hs (F_or (V_H v) (V_H w)), E_ts (F_or (V_T v) (V_T w)), F_least (F_or (V_C v) (V_C w)))
noncomputable def V_or (v w : P_V) : P_V := match v, w with
  | .inl A, .inl B => c_if (F_fit (F_or A B)) (.inl (F_or A B)) (V_or2 v w)
  | _, _ => V_or2 v w
noncomputable def V_may (v : P_V) : P_V := V_or v V_nil
/-- so many times behind -/
noncomputable def V_rep (v w : P_V) (n : Nat) : P_V := match n with
  | 0 => v
  | n + 1 => V_beh (V_rep v w n) w
noncomputable def V_times (v : P_V) (lo hi : Int) : P_V :=
  if hi = -1 then (if lo = 0 then V_shut else V_beh (V_rep V_nil v (lo.toNat - 1)) (V_open v))
  else V_rep (V_rep V_nil v lo.toNat) (V_may v) (hi - lo).toNat
noncomputable def V_set (B : Int → Prop) : P_V := c_if (S_card (fun b => B b ∧ 0 ≤ b ∧ b < 256) 8) (.inl (fun t => ∃ b, B b ∧ 0 ≤ b ∧ b < 256 ∧ t = [b])) V_shut
noncomputable def V_cnt (v : P_V) (op lo hi : Int) : P_V := if op = 8 then V_shut else if op = 9 then V_open v else if op = 10 then V_may v else V_times v lo hi
noncomputable def V_atm (A : P_A) : P_V := match A with
  | .inl _ => V_nil
  | .inr B => V_set B
noncomputable def P_plan (t : P_T) : P_V := T_ev (V_nil, V_atm, V_beh, V_or, V_cnt) t
/-- a list that tells a set, each once -/
theorem S_card_of {α : Type} {A : α → Prop} {l : List α} (hd : l.Nodup) (h : ∀ x, x ∈ l ↔ A x) (n : Nat) : S_card A n ↔ l.length ≤ n := by
  constructor
  · rintro ⟨k, hk, hm⟩
    have : ∀ (l k : List α), l.Nodup → (∀ x, x ∈ l → x ∈ k) → l.length ≤ k.length := by
      intro l
      induction l with
      | nil => intro k _ _; exact Nat.zero_le _
      | cons x l ih =>
        intro k hd hs
        obtain ⟨k1, k2, rfl⟩ := List.append_of_mem (hs x (List.mem_cons_self ..))
        have hd2 := List.nodup_cons.mp hd
        have := ih (k1 ++ k2) hd2.2 (fun y hy => by
          have hne : y ≠ x := fun e => hd2.1 (e ▸ hy)
          have := hs y (List.mem_cons_of_mem _ hy)
          rcases List.mem_append.mp this with h | h
          · exact List.mem_append_left _ h
          · rcases List.mem_cons.mp h with h | h
            · exact absurd h hne
            · exact List.mem_append_right _ h)
        simp only [List.length_append, List.length_cons] at this ⊢
        omega
    exact Nat.le_trans (this l k hd (fun x hx => hm x ((h x).mp hx))) hk
  · intro hn
    exact ⟨l, hn, fun x hx => (h x).mpr hx⟩
