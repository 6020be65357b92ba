/-! ends once made least stay so -/
theorem S_min_idem {α : Type} (le : α → α → Prop) (A : α → Prop) : S_min le (S_min le A) = S_min le A := by
  funext x
  refine propext ⟨fun h => h.1, fun h => ⟨h, fun y hy hle => h.2 y hy.1 hle⟩⟩
theorem E_bnd_fix {pre : List Int → List Int → Prop} {sh : List Int → List Int} {X : P_X} (h1 : S_min pre X = X) (h2 : S_card X 12) : E_bnd pre sh X = X := by
  unfold E_bnd
  rw [h1, c_pos h2]
theorem E_bnd_idem (pre : List Int → List Int → Prop) (sh : List Int → List Int) (H : P_X) : E_bnd pre sh (E_bnd pre sh H) = E_bnd pre sh H := by
  by_cases c1 : S_card (S_min pre H) 12
  · have e : E_bnd pre sh H = S_min pre H := by unfold E_bnd; exact c_pos c1
    rw [e]
    exact E_bnd_fix (S_min_idem pre H) c1
  · by_cases c2 : S_card (S_min pre (fun y => ∃ x, S_min pre H x ∧ y = sh x)) 12
    · have e : E_bnd pre sh H = S_min pre (fun y => ∃ x, S_min pre H x ∧ y = sh x) := by
        unfold E_bnd
        rw [c_neg c1]
        exact c_pos c2
      rw [e]
      exact E_bnd_fix (S_min_idem pre _) c2
    · have e : E_bnd pre sh H = fun x => x = [] := by
        unfold E_bnd
        rw [c_neg c1]
        exact c_neg c2
      rw [e]
      refine E_bnd_fix ?_ ⟨[[]], by decide, fun x hx => by rw [hx]; exact List.mem_cons_self ..⟩
      funext x
      exact propext ⟨fun h => h.1, fun h => ⟨h, fun y hy _ => by rw [hy, h]⟩⟩
theorem E_hs_idem (H : P_X) : E_hs (E_hs H) = E_hs H := E_bnd_idem _ _ _
theorem E_ts_idem (H : P_X) : E_ts (E_ts H) = E_ts H := E_bnd_idem _ _ _
theorem E_bnd_one (pre : List Int → List Int → Prop) (sh : List Int → List Int) (t : List Int) : E_bnd pre sh (F_one t) = F_one t := by
  refine E_bnd_fix ?_ ⟨[t], (show 1 ≤ 12 by decide), fun x hx => by rw [show x = t from hx]; exact List.mem_cons_self ..⟩
  funext x
  exact propext ⟨fun h => h.1, fun h => ⟨h, fun y hy _ => by rw [show y = t from hy, show x = t from h]⟩⟩
/-- the ends of a part that is no texts are least already -/
def V_fix (v : P_V) : Prop := match v with
  | .inl _ => True
  | .inr q => E_hs q.1 = q.1 ∧ E_ts q.2.1 = q.2.1
theorem V_H_fix {v : P_V} (h : V_fix v) : E_hs (V_H v) = V_H v := match v, h with
  | .inl _, _ => E_hs_idem _
  | .inr _, h => h.1
theorem V_T_fix {v : P_V} (h : V_fix v) : E_ts (V_T v) = V_T v := match v, h with
  | .inl _, _ => E_ts_idem _
  | .inr _, h => h.2
theorem V_fix_open {v : P_V} (h : V_fix v) : V_fix (V_open v) := ⟨V_H_fix h, V_T_fix h⟩
theorem V_fix_shut : V_fix V_shut := ⟨E_bnd_one _ _ _, E_bnd_one _ _ _⟩
theorem V_fix_nil : V_fix V_nil := trivial
theorem V_fix_set (B : Int → Prop) : V_fix (V_set B) := by
  unfold V_set
  by_cases c : S_card (fun b => B b ∧ 0 ≤ b ∧ b < 256) 8
  · rw [c_pos c]; trivial
  · rw [c_neg c]; exact V_fix_shut
theorem V_fix_beh2 {v w : P_V} (hv : V_fix v) (hw : V_fix w) : V_fix (V_beh2 v w) := by
  match v, w, hv, hw with
  | .inl A, .inl B, _, _ => exact ⟨E_hs_idem _, E_ts_idem _⟩
  | .inl A, .inr q, _, hw => exact ⟨E_hs_idem _, hw.2⟩
  | .inr q, .inl B, hv, _ => exact ⟨hv.1, E_ts_idem _⟩
  | .inr q, .inr r, hv, hw => exact ⟨hv.1, hw.2⟩
theorem V_fix_or2 (v w : P_V) : V_fix (V_or2 v w) := ⟨E_hs_idem _, E_ts_idem _⟩
theorem V_fix_beh {v w : P_V} (hv : V_fix v) (hw : V_fix w) : V_fix (V_beh v w) := by
  match v, w, hv, hw with
  | .inl A, .inl B, hv, hw =>
    show V_fix (c_if _ _ _)
    by_cases c : F_fit (F_im2 (fun a b => a ++ b) A B)
    · rw [c_pos c]; trivial
    · rw [c_neg c]; exact V_fix_beh2 hv hw
  | .inl A, .inr q, hv, hw => exact V_fix_beh2 hv hw
  | .inr q, .inl B, hv, hw => exact V_fix_beh2 hv hw
  | .inr q, .inr r, hv, hw => exact V_fix_beh2 hv hw
theorem V_fix_or (v w : P_V) : V_fix (V_or v w) := by
  match v, w with
  | .inl A, .inl B =>
    show V_fix (c_if _ _ _)
    by_cases c : F_fit (F_or A B)
    · rw [c_pos c]; trivial
    · rw [c_neg c]; exact V_fix_or2 _ _
  | .inl A, .inr q => exact V_fix_or2 _ _
  | .inr q, .inl B => exact V_fix_or2 _ _
  | .inr q, .inr r => exact V_fix_or2 _ _
theorem V_fix_rep {v w : P_V} (hv : V_fix v) (hw : V_fix w) : ∀ n, V_fix (V_rep v w n)
  | 0 => hv
  | n + 1 => V_fix_beh (V_fix_rep hv hw n) hw
theorem V_fix_times {v : P_V} (hv : V_fix v) (lo hi : Int) : V_fix (V_times v lo hi) := by
  unfold V_times
  split
  · split
    · exact V_fix_shut
    · exact V_fix_beh (V_fix_rep V_fix_nil hv _) (V_fix_open hv)
  · exact V_fix_rep (V_fix_rep V_fix_nil hv _) (V_fix_or _ _) _
theorem V_fix_cnt {v : P_V} (hv : V_fix v) (op lo hi : Int) : V_fix (V_cnt v op lo hi) := by
  unfold V_cnt
  split
  · exact V_fix_shut
  · split
    · exact V_fix_open hv
    · split
      · exact V_fix_or _ _
      · exact V_fix_times hv lo hi
theorem V_fix_atm (A : P_A) : V_fix (V_atm A) := match A with
  | .inl _ => V_fix_nil
  | .inr B => V_fix_set B
