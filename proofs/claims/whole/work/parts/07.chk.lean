theorem E_M_ok : ∀ M ∈ E_M, ∃ ix, E_mok M ix = true := sorry
