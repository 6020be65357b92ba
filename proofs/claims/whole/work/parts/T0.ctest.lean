/-! the closed heap: its cells -/
set_option maxRecDepth 100000 in
theorem P_c1 : P_h[1]? = some (.inl (1, 1000, .inl (fun _ => 0))) := by eq_refl
theorem P_slb : P_le P_sl 1250000 = true := by decide +kernel
