def zl_h0 : zm_H := (fun _ => .inr (0, []), 0, 0, 0)
theorem zl_run (X : zm_X) (hX : X.1 ≤ 3072) : zp_wp X y_Law_law 0 (zm_ent [.retAddr 0] 7) [] zl_h0 (fun r h => r = .inl (some (.int 1)) ∧ zm_uc h ≤ 601024 ∧ zm_us h ≤ 7293034) := sorry
