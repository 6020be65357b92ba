/-! what is wanted of a file, purely: sets of texts, of ends, of sets of grams -/
/-- one of two, as P holds or not -/
noncomputable def c_if {α : Type} (P : Prop) (a b : α) : α := @ite α P (Classical.propDecidable P) a b
theorem c_pos {α : Type} {P : Prop} {a b : α} (h : P) : c_if P a b = a := by unfold c_if; exact if_pos h
theorem c_neg {α : Type} {P : Prop} {a b : α} (h : ¬ P) : c_if P a b = b := by unfold c_if; exact if_neg h
/-- at most n -/
def S_card {α : Type} (A : α → Prop) (n : Nat) : Prop := ∃ l : List α, l.length ≤ n ∧ ∀ x, A x → x ∈ l
def S_min {α : Type} (le : α → α → Prop) (A : α → Prop) : α → Prop := fun x => A x ∧ ∀ y, A y → le y x → y = x
/-- rising lists as sets -/
def L_srt (l : List Int) : Prop := match l with
  | [] => True
  | x :: l => (∀ y ∈ l, x < y) ∧ L_srt l
def L_ins (x : Int) (l : List Int) : List Int := match l with
  | [] => [x]
  | y :: l => if x < y then x :: y :: l else if x = y then y :: l else y :: L_ins x l
def L_un (a b : List Int) : List Int := a.foldr L_ins b
def L_le (a b : List Int) : Prop := ∀ x ∈ a, x ∈ b
theorem L_ins_mem {x y : Int} {l : List Int} : y ∈ L_ins x l ↔ y = x ∨ y ∈ l := by
  induction l with
  | nil => simp [L_ins]
  | cons z l ih =>
    unfold L_ins
    split
    · simp
    · split
      · rename_i h1 h2
        subst h2
        simp
      · simp only [List.mem_cons, ih]
        constructor
        · rintro (h | h | h)
          · exact .inr (.inl h)
          · exact .inl h
          · exact .inr (.inr h)
        · rintro (h | h | h)
          · exact .inr (.inl h)
          · exact .inl h
          · exact .inr (.inr h)
theorem L_ins_srt {x : Int} {l : List Int} (h : L_srt l) : L_srt (L_ins x l) := by
  induction l with
  | nil =>
    show (∀ y ∈ ([] : List Int), x < y) ∧ True
    exact ⟨fun y hy => absurd hy List.not_mem_nil, trivial⟩
  | cons z l ih =>
    unfold L_ins
    split
    · rename_i c
      refine ⟨fun y hy => ?_, h⟩
      rcases List.mem_cons.mp hy with rfl | hy
      · exact c
      · have := h.1 y hy; omega
    · split
      · exact h
      · refine ⟨fun y hy => ?_, ih h.2⟩
        rcases L_ins_mem.mp hy with rfl | hy
        · omega
        · exact h.1 y hy
theorem L_un_mem {a b : List Int} {x : Int} : x ∈ L_un a b ↔ x ∈ a ∨ x ∈ b := by
  induction a with
  | nil => simp [L_un]
  | cons y a ih =>
    show x ∈ L_ins y (L_un a b) ↔ _
    rw [L_ins_mem, ih, List.mem_cons]
    exact or_assoc.symm
theorem L_un_srt {a b : List Int} (h : L_srt b) : L_srt (L_un a b) := by
  induction a with
  | nil => exact h
  | cons y a ih => exact L_ins_srt ih
theorem L_srt_ext : ∀ {a b : List Int}, L_srt a → L_srt b → (∀ x, x ∈ a ↔ x ∈ b) → a = b
  | [], [], _, _, _ => rfl
  | [], y :: b, _, _, h => by have := (h y).mpr (List.mem_cons_self ..); cases this
  | x :: a, [], _, _, h => by have := (h x).mp (List.mem_cons_self ..); cases this
  | x :: a, y :: b, ha, hb, h => by
    have e : x = y := by
      rcases List.mem_cons.mp ((h x).mp (List.mem_cons_self ..)) with e | h1
      · exact e
      · rcases List.mem_cons.mp ((h y).mpr (List.mem_cons_self ..)) with e | h2
        · exact e.symm
        · have := hb.1 x h1; have := ha.1 y h2; omega
    subst e
    have : a = b := L_srt_ext ha.2 hb.2 (fun z => by
      constructor
      · intro hz
        rcases List.mem_cons.mp ((h z).mp (List.mem_cons_of_mem _ hz)) with e | h1
        · have := ha.1 z hz; omega
        · exact h1
      · intro hz
        rcases List.mem_cons.mp ((h z).mpr (List.mem_cons_of_mem _ hz)) with e | h1
        · have := hb.1 z hz; omega
        · exact h1)
    rw [this]
/-- the grams of a text -/
def L_gr : List Int → List Int
  | a :: b :: c :: r => L_ins (65536 * a + 256 * b + c) (L_gr (b :: c :: r))
  | _ => []
theorem L_gr_srt : ∀ t : List Int, L_srt (L_gr t)
  | [] => trivial
  | [_] => trivial
  | [_, _] => trivial
  | a :: b :: c :: r => L_ins_srt (L_gr_srt (b :: c :: r))
theorem L_gr_mem : ∀ (t : List Int) (x : Int), x ∈ L_gr t ↔ ∃ (i : Nat) (h : i + 2 < t.length), x = 65536 * t[i] + 256 * t[i + 1] + t[i + 2]
  | [], x => by simp [L_gr]
  | [_], x => by simp [L_gr]
  | [_, _], x => by simp [L_gr]; intro i hi; omega
  | a :: b :: c :: r, x => by
    show x ∈ L_ins _ (L_gr (b :: c :: r)) ↔ _
    rw [L_ins_mem, L_gr_mem (b :: c :: r) x]
    constructor
    · rintro (h | ⟨i, hi, h⟩)
      · exact ⟨0, by simp, h⟩
      · exact ⟨i + 1, by simp only [List.length_cons] at hi ⊢; omega, h⟩
    · rintro ⟨i, hi, h⟩
      cases i with
      | zero => exact .inl h
      | succ i => exact .inr ⟨i, by simp only [List.length_cons] at hi ⊢; omega, h⟩
