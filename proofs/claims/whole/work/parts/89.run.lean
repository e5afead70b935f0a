/-! the law from its entry -/
def zl_h0 : zm_H := (fun _ => .inr (0, []), 0, 0, 0)
theorem zl_h0e : zl_h0 = hl [] 0 := rfl
set_option maxHeartbeats 4000000 in
theorem zl_run0 (X : zm_X) (hX : X.1 ≤ 3072) : zp_wp X y_Law_law 0 [.retAddr 0, zm_mk, zm_mk, zm_mk, zm_mk, zm_mk, zm_mk] [] (hl [] 0) zl_Q := by
  refine zp_new (n := 11) (fs := [.null, .null, .null, .null, .null, .null, .null, .null, .null, .null, .int 0]) rfl rfl rfl rfl ?_
  rw [hl_new]
  show zp_wp X y_Law_law 3 [.retAddr 0, zm_mk, zm_mk, zm_mk, zm_mk, zm_mk, zm_mk] [.ref 0] (hl [.inr (6, [.null, .null, .null, .null, .null, .null, .null, .null, .null, .null, .int 0])] 11) zl_Q
  refine zp_dup_a rfl ?_
  refine zp_call rfl rfl (s_RR_init (k := 11) rfl (fun f0 g0 hf0 hg0 f1 g1 hf1 hg1 f2 g2 hf2 hg2 f3 g3 hf3 hg3 r4 hr4 f5_0 g5_0 hf5_0 hg5_0 f5_1 g5_1 hf5_1 hg5_1 f5_2 g5_2 hf5_2 hg5_2 r5_0 hr5_0 r5_1 hr5_1 f7 g7 hf7 hg7 => ?_))
  show zp_wp X y_Law_law 7 [.retAddr 0, zm_mk, zm_mk, zm_mk, zm_mk, zm_mk, zm_mk] [.ref 0] (hl (([] : List zm_E) ++ .inr (6, [.ref 1, .ref 8, .ref 15, .ref 22, .ref 29, .ref 61, .ref 62, .ref 150, .ref 155, .ref 170, .int (nI 0)]) :: (rcell f0 g0 f1 g1 f2 g2 f3 g3 r4 f5_0 g5_0 f5_1 g5_1 f5_2 g5_2 r5_0 r5_1 f7 g7)) 2160) zl_Q
  refine zp_astore_n_1 rfl rfl ?_
  refine zn_new (n := 25) (fs := [.null, .null, .null, .null, .null, .null, .null, .null, .int 0, .int 0, .int 0, .null, .null, .null, .null, .null, .null, .null, .null, .null, .int 0, .int 0, .int 0, .int 0, .int 0]) (m := 171) rfl rfl rfl rfl ?_
  show zp_wp X y_Law_law 11 [.retAddr 0, .ref 0, zm_mk, zm_mk, zm_mk, zm_mk, zm_mk] [.ref 171] (hl (([] : List zm_E) ++ .inr (6, [.ref 1, .ref 8, .ref 15, .ref 22, .ref 29, .ref 61, .ref 62, .ref 150, .ref 155, .ref 170, .int (nI 0)]) :: (rcell f0 g0 f1 g1 f2 g2 f3 g3 r4 f5_0 g5_0 f5_1 g5_1 f5_2 g5_2 r5_0 r5_1 f7 g7 ++ [.inr (7, [.null, .null, .null, .null, .null, .null, .null, .null, .int 0, .int 0, .int 0, .null, .null, .null, .null, .null, .null, .null, .null, .null, .int 0, .int 0, .int 0, .int 0, .int 0])])) 2185) zl_Q
  refine zp_dup_a rfl ?_
  refine zp_call rfl rfl (s_Mod_init (P := ([] : List zm_E) ++ .inr (6, [.ref 1, .ref 8, .ref 15, .ref 22, .ref 29, .ref 61, .ref 62, .ref 150, .ref 155, .ref 170, .int (nI 0)]) :: (rcell f0 g0 f1 g1 f2 g2 f3 g3 r4 f5_0 g5_0 f5_1 g5_1 f5_2 g5_2 r5_0 r5_1 f7 g7)) (a := 171) (k := 2185) rfl (by rw [zn_app]) ?_)
  rw [zn_app]
  show zp_wp X y_Law_law 15 [.retAddr 0, .ref 0, zm_mk, zm_mk, zm_mk, zm_mk, zm_mk] [.ref 171] (hl (([] : List zm_E) ++ .inr (6, [.ref 1, .ref 8, .ref 15, .ref 22, .ref 29, .ref 61, .ref 62, .ref 150, .ref 155, .ref 170, .int (nI 0)]) :: (rcell f0 g0 f1 g1 f2 g2 f3 g3 r4 f5_0 g5_0 f5_1 g5_1 f5_2 g5_2 r5_0 r5_1 f7 g7 ++ dcell 171)) 16389) zl_Q
  refine zp_astore_n_2 rfl rfl ?_
  refine zp_iconst (v := nI 1) rfl (by decide +kernel) ?_
  refine zn_newl (m := 189) rfl (by decide) rfl ?_
  show zp_wp X y_Law_law 19 [.retAddr 0, .ref 0, .ref 171, zm_mk, zm_mk, zm_mk, zm_mk] [.ref 189] (hl (([] : List zm_E) ++ .inr (6, [.ref 1, .ref 8, .ref 15, .ref 22, .ref 29, .ref 61, .ref 62, .ref 150, .ref 155, .ref 170, .int (nI 0)]) :: ((rcell f0 g0 f1 g1 f2 g2 f3 g3 r4 f5_0 g5_0 f5_1 g5_1 f5_2 g5_2 r5_0 r5_1 f7 g7 ++ dcell 171) ++ [.inl (1, 1, .inr (.inl (fun _ => 0)))])) 16390) zl_Q
  refine zp_astore_n_3 rfl rfl ?_
  refine zp_iconst (v := nI 0) rfl (by decide +kernel) ?_
  refine zp_istore_4 rfl rfl ?_
  exact zl_loop hX 512 0 0 s_0 _ zm_mk zm_mk (by omega) rfl (by decide) (zl_init (f3 := f3) (g3 := g3) (f5_0 := f5_0) (g5_0 := g5_0) (f5_1 := f5_1) (g5_1 := g5_1) (f5_2 := f5_2) (g5_2 := g5_2) (f7 := f7) (g7 := g7) (K := 16390) (by decide) hf0 hg0 hf1 hg1 hf2 hg2 hr4 hr5_0 hr5_1)
theorem zl_run (X : zm_X) (hX : X.1 ≤ 3072) : zp_wp X y_Law_law 0 (zm_ent [.retAddr 0] 7) [] zl_h0 (fun r h => r = .inl (some (.int 1)) ∧ zm_uc h ≤ room_1.cells ∧ zm_us h ≤ room_1.slots) := by
  obtain ⟨n, r, h2, h3, h4, h5, h6⟩ := zl_run0 X hX
  exact ⟨n, r, h2, h3, h4, Nat.le_trans h5 (by decide +kernel), Nat.le_trans h6 (by decide +kernel)⟩
