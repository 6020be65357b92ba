/-! the reference: search, without a premise on the regex -/
theorem R_srch (d : Nat) (s : R_S) {fo : Int} (f01 : fo = 0 ∨ fo = 1) (w : R_fw s (-1)) (hc : D_cn (fun f => s.2.1 88 f = 1) (s.1 8) (s.1 7)) (h7 : s.1 7 ≤ 40) (c70 : 0 ≤ s.1 70 ∧ s.1 70 ≤ 2000000000) (c71 : 0 ≤ s.1 71 ∧ s.1 71 ≤ 2000000000) (c72 : 0 ≤ s.1 72 ∧ s.1 72 ≤ 2000000000) : R_ok (d + 12) 276 [.int (Zi fo)] s (fun x u => R_srP s fo x u) :=
  R_search d s f01 w (fun t b hR _ => by
    have ok := P_reads_ok (D_see_n s) w.t0 hR
    exact (P_hb_ok ok.1.wf (by omega)).2) hc h7 c70 c71 c72
