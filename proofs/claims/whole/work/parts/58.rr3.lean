/-! the class: the log's changes, matches, replaying, the fingerprint -/
section ZP18
variable {X : zm_X} {h : zm_H} {Q : zm_O → zm_H → Prop} {s : zst} {V : zv} {p : Nat}
theorem s_RR_undo (hs : zc_S s h) (hW : zc_W s) (hq : zc_R (z_undo s) (fun _ => 2) h Q) : zp_wm X y_RR_undo [.ref 0] h Q := by
  have hS := hs.1
  have wn := hW.2.2.2.1
  obtain ⟨s1, s2, s3, s4, s5, s6, s7, s8⟩ := id hs
  unfold z_undo at hq
  show zp_wp X y_RR_undo 0 [.ref 0] [] h Q
  by_cases h0 : g_n s = 0
  · rw [if_pos h0] at hq
    refine zp_aload_n (x := 0) rfl rfl ?_
    refine zq_getr (k9 := 29) hS rfl (by first | assumption | exact ⟨by decide, rfl⟩) rfl ?_
    refine zq_geti hS rfl (by first | assumption | exact ⟨by decide, rfl⟩) rfl ?_
    rw [s6]
    refine zp_ifN_ne (tgt := 20) rfl rfl (by omega) (fun b7 => ?_) (fun b7 => ?_)
    · exact absurd h0 b7
    · refine zp_throw rfl (by decide) ?_
      exact hq.2 n10 _ hs.x zc_F.x
  · rw [if_neg h0] at hq
    have hlg : ∀ i, i < g_n s - 1 → zc_leg (g_L s i) := fun i hi => (hW.2.1 i (by omega)).1
    refine zp_aload_n (x := 0) rfl rfl ?_
    refine zq_getr (k9 := 29) hS rfl (by first | assumption | exact ⟨by decide, rfl⟩) rfl ?_
    refine zq_geti hS rfl (by first | assumption | exact ⟨by decide, rfl⟩) rfl ?_
    rw [s6]
    refine zp_ifN_ne (tgt := 20) rfl rfl (by omega) (fun b7 => ?_) (fun b7 => ?_)
    · refine zp_aload_n (x := 0) rfl rfl ?_
      refine zq_getr (k9 := 29) hS rfl (by first | assumption | exact ⟨by decide, rfl⟩) rfl ?_
      refine zp_dup_a rfl ?_
      refine zq_geti hS rfl (by first | assumption | exact ⟨by decide, rfl⟩) rfl ?_
      rw [s6]
      refine zp_iconst (v := (nI 1)) rfl (by decide +kernel) ?_
      refine zp_isubN rfl (by omega) ?_
      refine zq_put hS rfl (by first | assumption | exact ⟨by decide, rfl⟩) rfl rfl (fun hS30 => ?_)
      have hS := hS30
      refine zp_aload_n (x := 0) rfl rfl ?_
      refine zq_getr (k9 := 8) hS rfl (by first | assumption | exact ⟨by decide, rfl⟩) rfl ?_
      refine zp_aload_n (x := 0) rfl rfl ?_
      refine zq_getr (k9 := 1) hS rfl (by first | assumption | exact ⟨by decide, rfl⟩) rfl ?_
      refine zq_virt hS rfl rfl (by first | assumption | exact ⟨by decide, rfl⟩) rfl (s_Prog_copyFrom hS qA_8 qA_1 (s2.eq (zh_onf zh_eq.rf) (fun x _ _ => by omega)) (by decide) (fun h2 p2 => ?_))
      have k2 : cf h2 29 1 = nI (g_n s - 1) := by rw [p2.2.1.gf (by omega)]; exact zf_at9 hS ⟨by decide, rfl⟩ rfl
      have e2 : zh_eq (fun x => x = 29 ∨ (8 < x ∧ x ≤ 14)) h h2 := ((zh_onf (d := 29) zh_eq.rf).mono (fun x e => Or.inl e)).trans (p2.2.1.mono (fun x e => Or.inr e))
      have hS := p2.1
      show zp_wp X y_RR_undo 44 [.ref 0] [] h2 Q
      refine zp_aload_n (x := 0) rfl rfl ?_
      refine zq_getr (k9 := 8) hS rfl (by first | assumption | exact ⟨by decide, rfl⟩) rfl ?_
      refine zp_aload_n (x := 0) rfl rfl ?_
      refine zq_getr (k9 := 29) hS rfl (by first | assumption | exact ⟨by decide, rfl⟩) rfl ?_
      refine zp_aload_n (x := 0) rfl rfl ?_
      refine zq_getr (k9 := 29) hS rfl (by first | assumption | exact ⟨by decide, rfl⟩) rfl ?_
      refine zq_geti hS rfl (by first | assumption | exact ⟨by decide, rfl⟩) rfl ?_
      rw [k2]
      refine zq_virt hS rfl rfl (by first | assumption | exact ⟨by decide, rfl⟩) rfl (s_Prog_makeFirst p2.1 qA_8 p2.2.2 hW.1.1 qK_29 (s5.eq e2 (fun x _ _ => by omega)) (by decide) (by omega) hlg (fun h3 p3 => ?_))
      have k3 : cf h3 29 1 = nI (g_n s - 1) := by rw [p3.2.1.gf (by omega)]; exact k2
      have e3 : zh_eq (fun x => x = 29 ∨ (8 < x ∧ x ≤ 14)) h h3 := e2.trans (p3.2.1.mono (fun x e => Or.inr e))
      have hS := p3.1
      show zp_wp X y_RR_undo 62 [.ref 0] [] h3 Q
      refine zp_aload_n (x := 0) rfl rfl ?_
      refine zq_getr (k9 := 29) hS rfl (by first | assumption | exact ⟨by decide, rfl⟩) rfl ?_
      refine zq_geti hS rfl (by first | assumption | exact ⟨by decide, rfl⟩) rfl ?_
      rw [k3]
      refine zp_iret rfl rfl ?_
      exact hq.1 rfl _ ⟨p3.1, s2.eq e3 (fun x _ _ => by omega), p3.2.2, s4.eq e3 (fun x _ _ => by omega), s5.eq e3 (fun x _ _ => by omega), k3, by rw [e3.gf (by omega)]; exact s7, by rw [e3.gi (by omega)]; exact s8⟩ (zc_F.of e3 (fun x e => by omega))
    · exact absurd b7 h0
theorem s_RR_commutes {i : Int32} (hs : zc_S s h) (hW : zc_W s) (hq : zc_R (z_commutes s i) (fun k => k - 1) h Q) : zp_wm X y_RR_commutes [.ref 0, .int i] h Q := by
  have hS := hs.1
  have hn := hs.2.2.2.2.2.1
  have wn := hW.2.2.2.1
  unfold z_commutes at hq
  show zp_wp X y_RR_commutes 0 [.ref 0, .int i] [] h Q
  cases hv : g_lt (g_n s - 1) i with
  | false =>
    rw [hv] at hq
    refine zp_aload_n (x := 0) rfl rfl ?_
    refine zp_iload_n (x := i) rfl rfl ?_
    refine zq_virt hS rfl rfl (by first | assumption | exact ⟨by decide, rfl⟩) rfl (s_RR_requireNeighbours hS hn wn (fun q => by rw [hv] at q; cases q) (fun _ => hq.2 n10 _ hs.x zc_F.x))
  | true =>
    rw [hv] at hq
    obtain ⟨i1, i2⟩ := g_lt_n hv
    generalize i2n i = j at *
    subst i1
    refine zp_aload_n (x := 0) rfl rfl ?_
    refine zp_iload_n (x := (nI j)) rfl rfl ?_
    refine zq_virt hS rfl rfl (by first | assumption | exact ⟨by decide, rfl⟩) rfl (s_RR_requireNeighbours hS hn wn (fun _ => ?_) (fun q => by rw [hv] at q; cases q))
    show zp_wp X y_RR_commutes 5 [.ref 0, .int (nI j)] [] h Q
    refine zp_aload_n (x := 0) rfl rfl ?_
    refine zq_getr (k9 := 62) hS rfl (by first | assumption | exact ⟨by decide, rfl⟩) rfl ?_
    refine zp_aload_n (x := 0) rfl rfl ?_
    refine zq_getr (k9 := 1) hS rfl (by first | assumption | exact ⟨by decide, rfl⟩) rfl ?_
    refine zp_aload_n (x := 0) rfl rfl ?_
    refine zq_getr (k9 := 29) hS rfl (by first | assumption | exact ⟨by decide, rfl⟩) rfl ?_
    refine zp_iload_n (x := (nI j)) rfl rfl ?_
    refine zq_virt hS rfl rfl (by first | assumption | exact ⟨by decide, rfl⟩) rfl (s_Comm_testAt hS hs.2.1 hW.1.1 hs.2.2.2.2.1 (by omega) (fun k hk => (hW.2.1 k (by omega)).1) (fun h2 hS2 he2 hb2 hf2 => ?_))
    show zp_wp X y_RR_commutes 21 [.ref 0, .int (nI j)] [.int (zf_b (v_com (g_b s) (g_L s) j))] h2 Q
    refine zp_zret rfl rfl (zf_b01 _) ?_
    exact hq.1 rfl _ (hs.eq hS2 he2 (fun x e => by omega)) (zc_F.of he2 (fun x e => by omega))
theorem s_RR_exchange {i : Int32} (hs : zc_S s h) (hW : zc_W s) (hq : zc_R (z_exchange s i) (fun k => k - 1) h Q) : zp_wm X y_RR_exchange [.ref 0, .int i] h Q := by
  have hS := hs.1
  have hn := hs.2.2.2.2.2.1
  have wn := hW.2.2.2.1
  unfold z_exchange at hq
  show zp_wp X y_RR_exchange 0 [.ref 0, .int i] [] h Q
  cases hv : g_lt (g_n s - 1) i with
  | false =>
    rw [hv] at hq
    refine zp_aload_n (x := 0) rfl rfl ?_
    refine zp_iload_n (x := i) rfl rfl ?_
    refine zq_virt hS rfl rfl (by first | assumption | exact ⟨by decide, rfl⟩) rfl (s_RR_requireNeighbours hS hn wn (fun q => by rw [hv] at q; cases q) (fun _ => hq.2 n10 _ hs.x zc_F.x))
  | true =>
    rw [hv] at hq
    obtain ⟨i1, i2⟩ := g_lt_n hv
    generalize i2n i = j at *
    subst i1
    refine zp_aload_n (x := 0) rfl rfl ?_
    refine zp_iload_n (x := (nI j)) rfl rfl ?_
    refine zq_virt hS rfl rfl (by first | assumption | exact ⟨by decide, rfl⟩) rfl (s_RR_requireNeighbours hS hn wn (fun _ => ?_) (fun q => by rw [hv] at q; cases q))
    show zp_wp X y_RR_exchange 5 [.ref 0, .int (nI j)] [] h Q
    refine zp_aload_n (x := 0) rfl rfl ?_
    refine zq_getr (k9 := 62) hS rfl (by first | assumption | exact ⟨by decide, rfl⟩) rfl ?_
    refine zp_aload_n (x := 0) rfl rfl ?_
    refine zq_getr (k9 := 1) hS rfl (by first | assumption | exact ⟨by decide, rfl⟩) rfl ?_
    refine zp_aload_n (x := 0) rfl rfl ?_
    refine zq_getr (k9 := 29) hS rfl (by first | assumption | exact ⟨by decide, rfl⟩) rfl ?_
    refine zp_iload_n (x := (nI j)) rfl rfl ?_
    refine zq_virt hS rfl rfl (by first | assumption | exact ⟨by decide, rfl⟩) rfl (s_Comm_testAt hS hs.2.1 hW.1.1 hs.2.2.2.2.1 (by omega) (fun k hk => (hW.2.1 k (by omega)).1) (fun h2 hS2 he2 hb2 hf2 => ?_))
    have hs2 : zc_S s h2 := hs.eq hS2 he2 (fun x e => by omega)
    have hS := hS2
    cases ec : v_com (g_b s) (g_L s) j with
    | false =>
      show zp_wp X y_RR_exchange 21 [.ref 0, .int (nI j)] [.int (nI 0)] h2 Q
      refine zp_ifF (tgt := 26) rfl rfl (by decide +kernel) ?_
      refine zp_iconst (v := (nI 0)) rfl (by decide +kernel) ?_
      refine zp_zret rfl rfl (by decide) ?_
      rw [ec] at hq
      exact hq.1 rfl _ hs2 (zc_F.of he2 (fun x e => by omega))
    | true =>
      show zp_wp X y_RR_exchange 21 [.ref 0, .int (nI j)] [.int (nI 1)] h2 Q
      refine zp_ifT (tgt := 26) rfl rfl (by decide +kernel) ?_
      refine zp_aload_n (x := 0) rfl rfl ?_
      refine zq_getr (k9 := 62) hS rfl (by first | assumption | exact ⟨by decide, rfl⟩) rfl ?_
      refine zp_aload_n (x := 0) rfl rfl ?_
      refine zq_getr (k9 := 29) hS rfl (by first | assumption | exact ⟨by decide, rfl⟩) rfl ?_
      refine zp_iload_n (x := (nI j)) rfl rfl ?_
      refine zq_virt hS rfl rfl (by first | assumption | exact ⟨by decide, rfl⟩) rfl (s_Comm_storeAt hS2 qK_29 (Or.inl rfl) hs2.2.2.2.2.1 (by omega) hb2 hf2 (fun h3 hS3 he3 hL3 => ?_))
      show zp_wp X y_RR_exchange 38 [.ref 0, .int (nI j)] [] h3 Q
      refine zp_iconst (v := (nI 1)) rfl (by decide +kernel) ?_
      refine zp_zret rfl rfl (by decide) ?_
      rw [ec] at hq
      refine hq.1 rfl _ ⟨hS3, hs2.2.1.eq he3 (fun x _ _ => by omega), hs2.2.2.1.eq he3 (fun x _ _ => by omega), hs2.2.2.2.1.eq he3 (fun x _ _ => by omega), hL3, by rw [he3.gf (by omega)]; exact hs2.2.2.2.2.2.1, by rw [he3.gf (by omega)]; exact hs2.2.2.2.2.2.2.1, by rw [he3.gi (by omega)]; exact hs2.2.2.2.2.2.2.2⟩ (zc_F.of (S := fun x => (63 ≤ x ∧ x ≤ 85) ∨ (31 ≤ x ∧ x ≤ 60)) ((he2.mono (fun x e => Or.inl e)).trans (he3.mono (fun x e => Or.inr (by omega)))) (fun x e => by omega))
theorem s_RR_needs {i : Int32} (hs : zc_S s h) (hW : zc_W s) (hq : zc_R (z_needs s i) (fun k => k - 1) h Q) : zp_wm X y_RR_needs [.ref 0, .int i] h Q := by
  have hS := hs.1
  have hn := hs.2.2.2.2.2.1
  have wn := hW.2.2.2.1
  unfold z_needs at hq
  show zp_wp X y_RR_needs 0 [.ref 0, .int i] [] h Q
  cases hv : g_lt (g_n s) i with
  | false =>
    rw [hv] at hq
    refine zp_aload_n (x := 0) rfl rfl ?_
    refine zp_iload_n (x := i) rfl rfl ?_
    refine zq_virt hS rfl rfl (by first | assumption | exact ⟨by decide, rfl⟩) rfl (s_RR_requireChange hS hn wn (fun q => by rw [hv] at q; cases q) (fun _ => hq.2 n10 _ hs.x zc_F.x))
  | true =>
    rw [hv] at hq
    obtain ⟨i1, i2⟩ := g_lt_n hv
    generalize i2n i = j at *
    subst i1
    refine zp_aload_n (x := 0) rfl rfl ?_
    refine zp_iload_n (x := (nI j)) rfl rfl ?_
    refine zq_virt hS rfl rfl (by first | assumption | exact ⟨by decide, rfl⟩) rfl (s_RR_requireChange hS hn wn (fun _ => ?_) (fun q => by rw [hv] at q; cases q))
    show zp_wp X y_RR_needs 5 [.ref 0, .int (nI j)] [] h Q
    refine zp_aload_n (x := 0) rfl rfl ?_
    refine zq_getr (k9 := 62) hS rfl (by first | assumption | exact ⟨by decide, rfl⟩) rfl ?_
    refine zp_aload_n (x := 0) rfl rfl ?_
    refine zq_getr (k9 := 1) hS rfl (by first | assumption | exact ⟨by decide, rfl⟩) rfl ?_
    refine zp_aload_n (x := 0) rfl rfl ?_
    refine zq_getr (k9 := 29) hS rfl (by first | assumption | exact ⟨by decide, rfl⟩) rfl ?_
    refine zp_iload_n (x := (nI j)) rfl rfl ?_
    refine zq_virt hS rfl rfl (by first | assumption | exact ⟨by decide, rfl⟩) rfl (s_Comm_needsOf hS hs.2.1 hW.1.1 hs.2.2.2.2.1 hn i2 wn (fun k hk => (hW.2.1 k hk).1) (fun h2 hS2 he2 => ?_))
    show zp_wp X y_RR_needs 21 [.ref 0, .int (nI j)] [.int (v_needs (g_b s) (g_L s) j)] h2 Q
    refine zp_iret rfl rfl ?_
    exact hq.1 rfl _ (hs.eq hS2 he2 (fun x e => by omega)) (zc_F.of he2 (fun x e => by omega))
theorem s_RR_matchOfClass {a : Int32} (hs : zc_S s h) (hW : zc_W s) (hq : zc_R (z_matchC s a) (fun _ => 1) h Q) : zp_wm X y_RR_matchOfClass [.ref 0, .int a] h Q := by
  have hS := hs.1
  unfold z_matchC at hq
  show zp_wp X y_RR_matchOfClass 0 [.ref 0, .int a, zm_mk] [] h Q
  cases ea : g_isC a with
  | false =>
    rw [ea] at hq
    refine zp_iload_n (x := a) rfl rfl ?_
    refine zp_call rfl rfl (s_RR_requireClassName (fun q => by rw [ea] at q; cases q) (fun _ => hq.2 n10 _ hs.x zc_F.x))
  | true =>
    rw [ea] at hq
    obtain ⟨a1, a2⟩ := g_isC_n ea
    generalize i2n a = a9 at *
    subst a1
    refine zp_iload_n (x := (nI a9)) rfl rfl ?_
    refine zp_call rfl rfl (s_RR_requireClassName (fun _ => ?_) (fun q => by rw [ea] at q; cases q))
    show zp_wp X y_RR_matchOfClass 4 [.ref 0, .int (nI a9), zm_mk] [] h Q
    refine zp_aload_n (x := 0) rfl rfl ?_
    refine zq_getr (k9 := 1) hS rfl (by first | assumption | exact ⟨by decide, rfl⟩) rfl ?_
    refine zp_iload_n (x := (nI a9)) rfl rfl ?_
    refine zq_virt hS rfl rfl (by first | assumption | exact ⟨by decide, rfl⟩) rfl (s_Prog_classAt hS qA_1 hs.2.1 hW.1.1.B (by omega) ?_)
    cases hz : v_cls (g_b s) a9 with
    | none =>
      show zp_wp X y_RR_matchOfClass 12 [.ref 0, .int (nI a9), zm_mk] [.int (-1)] h Q
      refine zp_istore_n_2 rfl rfl ?_
      refine zp_iload_n (x := (-1)) rfl rfl ?_
      refine zp_ifF (tgt := 19) rfl rfl (by decide +kernel) ?_
      refine zp_iconst (v := (-1)) rfl (by decide +kernel) ?_
      refine zp_iret rfl rfl ?_
      rw [hz] at hq
      exact hq.1 rfl h hs zc_F.rf
    | some c9 =>
      have hc9 := (v_cls_lt hz).1
      show zp_wp X y_RR_matchOfClass 12 [.ref 0, .int (nI a9), zm_mk] [.int (nI c9)] h Q
      refine zp_istore_n_2 rfl rfl ?_
      refine zp_iload_n (x := (nI c9)) rfl rfl ?_
      refine zp_ifT (tgt := 19) rfl rfl (zc_ge (by omega)) ?_
      refine zp_aload_n (x := 0) rfl rfl ?_
      refine zq_getr (k9 := 150) hS rfl (by first | assumption | exact ⟨by decide, rfl⟩) rfl ?_
      refine zp_aload_n (x := 0) rfl rfl ?_
      refine zq_getr (k9 := 1) hS rfl (by first | assumption | exact ⟨by decide, rfl⟩) rfl ?_
      refine zp_aload_n (x := 0) rfl rfl ?_
      refine zq_getr (k9 := 15) hS rfl (by first | assumption | exact ⟨by decide, rfl⟩) rfl ?_
      refine zq_virt hS rfl rfl (by first | assumption | exact ⟨by decide, rfl⟩) rfl (s_Match_find hS qM_150 qA_1 hs.2.1 hW.1.1 qA_15 hs.2.2.2.1 hW.1.2.2 (by decide) (fun h2 hS2 he2 hm2 => ?_))
      have hS := hS2
      have m1 : zr_M (v_mC (g_b s) (g_1 s)) 12 (ci h2 151) := hm2.1.1
      have P15 := hs.2.2.2.1.eq he2 (fun x _ _ => by omega)
      have hs2 : zc_S s h2 := hs.eq hS2 he2 (fun x e => by omega)
      have f2 : zc_F h h2 := zc_F.of he2 (fun x e => by omega)
      show zp_wp X y_RR_matchOfClass 34 [.ref 0, .int (nI a9), .int (nI c9)] [] h2 Q
      refine zp_aload_n (x := 0) rfl rfl ?_
      refine zq_getr (k9 := 15) hS rfl (by first | assumption | exact ⟨by decide, rfl⟩) rfl ?_
      refine zp_aload_n (x := 0) rfl rfl ?_
      refine zq_getr (k9 := 150) hS rfl (by first | assumption | exact ⟨by decide, rfl⟩) rfl ?_
      refine zq_getr (k9 := 151) hS rfl (by first | assumption | exact ⟨by decide, rfl⟩) rfl ?_
      refine zp_iload_n (x := (nI c9)) rfl rfl ?_
      refine zq_iald hS rfl (by first | assumption | exact ⟨by decide, rfl⟩) (by omega) (by first | decide | omega) ?_
      rw [m1 (c9) hc9]
      refine zq_virt hS rfl rfl (by first | assumption | exact ⟨by decide, rfl⟩) rfl (s_Prog_classNameAt (k := v_mC (g_b s) (g_1 s) c9) hS2 qA_15 P15 hW.1.2.2.B (fun i hi => ((zj_mC hW.1.1).1 c9 hc9 i hi).1) ?_)
      show zp_wp X y_RR_matchOfClass 50 [.ref 0, .int (nI a9), .int (nI c9)] [.int (nI (v_cnm (g_1 s) (v_mC (g_b s) (g_1 s) c9)))] h2 Q
      refine zp_iret rfl rfl ?_
      rw [hz] at hq
      cases hF : v_mC (g_b s) (g_1 s) c9 with
      | none => simp only [hF] at hq; exact hq.1 rfl h2 hs2 f2
      | some p9 => simp only [hF] at hq; exact hq.1 rfl h2 hs2 f2
theorem s_RR_matchOfMember {a m : Int32} (hs : zc_S s h) (hW : zc_W s) (hq : zc_R (z_matchM s a m) (fun _ => 1) h Q) : zp_wm X y_RR_matchOfMember [.ref 0, .int a, .int m] h Q := by
  have hS := hs.1
  unfold z_matchM at hq
  show zp_wp X y_RR_matchOfMember 0 [.ref 0, .int a, .int m, zm_mk, zm_mk] [] h Q
  cases ea : g_isC a with
  | false =>
    rw [ea, Bool.false_and] at hq
    refine zp_iload_n (x := a) rfl rfl ?_
    refine zp_call rfl rfl (s_RR_requireClassName (fun q => by rw [ea] at q; cases q) (fun _ => hq.2 n10 _ hs.x zc_F.x))
  | true =>
    rw [ea, Bool.true_and] at hq
    cases em : g_isM m with
    | false =>
      rw [em] at hq
      refine zp_iload_n (x := a) rfl rfl ?_
      refine zp_call rfl rfl (s_RR_requireClassName (fun _ => ?_) (fun q => by rw [ea] at q; cases q))
      show zp_wp X y_RR_matchOfMember 4 [.ref 0, .int a, .int m, zm_mk, zm_mk] [] h Q
      refine zp_iload_n (x := m) rfl rfl ?_
      refine zp_call rfl rfl (s_RR_requireMemberName (fun q => by rw [em] at q; cases q) (fun _ => hq.2 n10 _ hs.x zc_F.x))
    | true =>
      rw [em] at hq
      obtain ⟨a1, a2⟩ := g_isC_n ea
      obtain ⟨m1, m2⟩ := g_isM_n em
      generalize i2n a = a9 at *
      generalize i2n m = m9 at *
      subst a1
      subst m1
      refine zp_iload_n (x := (nI a9)) rfl rfl ?_
      refine zp_call rfl rfl (s_RR_requireClassName (fun _ => ?_) (fun q => by rw [ea] at q; cases q))
      show zp_wp X y_RR_matchOfMember 4 [.ref 0, .int (nI a9), .int (nI m9), zm_mk, zm_mk] [] h Q
      refine zp_iload_n (x := (nI m9)) rfl rfl ?_
      refine zp_call rfl rfl (s_RR_requireMemberName (fun _ => ?_) (fun q => by rw [em] at q; cases q))
      show zp_wp X y_RR_matchOfMember 8 [.ref 0, .int (nI a9), .int (nI m9), zm_mk, zm_mk] [] h Q
      refine zp_aload_n (x := 0) rfl rfl ?_
      refine zq_getr (k9 := 1) hS rfl (by first | assumption | exact ⟨by decide, rfl⟩) rfl ?_
      refine zp_iload_n (x := (nI a9)) rfl rfl ?_
      refine zp_iload_n (x := (nI m9)) rfl rfl ?_
      refine zq_virt hS rfl rfl (by first | assumption | exact ⟨by decide, rfl⟩) rfl (s_Prog_memberAt hS qA_1 hs.2.1 hW.1.1 (by omega) (by omega) (by omega) ?_)
      cases hz : v_mem (g_b s) (v_cls (g_b s) a9) m9 with
      | none =>
        show zp_wp X y_RR_matchOfMember 17 [.ref 0, .int (nI a9), .int (nI m9), zm_mk, zm_mk] [.int (-1)] h Q
        refine zp_istore_n_3 rfl rfl ?_
        refine zp_iload_n (x := (-1)) rfl rfl ?_
        refine zp_ifF (tgt := 24) rfl rfl (by decide +kernel) ?_
        refine zp_iconst (v := (-1)) rfl (by decide +kernel) ?_
        refine zp_iret rfl rfl ?_
        rw [hz] at hq
        exact hq.1 rfl h hs zc_F.rf
      | some c9 =>
        have hc9 := (v_mem_lt hz).1
        show zp_wp X y_RR_matchOfMember 17 [.ref 0, .int (nI a9), .int (nI m9), zm_mk, zm_mk] [.int (nI c9)] h Q
        refine zp_istore_n_3 rfl rfl ?_
        refine zp_iload_n (x := (nI c9)) rfl rfl ?_
        refine zp_ifT (tgt := 24) rfl rfl (zc_ge (by omega)) ?_
        refine zp_aload_n (x := 0) rfl rfl ?_
        refine zq_getr (k9 := 150) hS rfl (by first | assumption | exact ⟨by decide, rfl⟩) rfl ?_
        refine zp_aload_n (x := 0) rfl rfl ?_
        refine zq_getr (k9 := 1) hS rfl (by first | assumption | exact ⟨by decide, rfl⟩) rfl ?_
        refine zp_aload_n (x := 0) rfl rfl ?_
        refine zq_getr (k9 := 15) hS rfl (by first | assumption | exact ⟨by decide, rfl⟩) rfl ?_
        refine zq_virt hS rfl rfl (by first | assumption | exact ⟨by decide, rfl⟩) rfl (s_Match_find hS qM_150 qA_1 hs.2.1 hW.1.1 qA_15 hs.2.2.2.1 hW.1.2.2 (by decide) (fun h2 hS2 he2 hm2 => ?_))
        have hS := hS2
        have mm : zr_M (v_mM (g_b s) (g_1 s)) 40 (ci h2 153) := hm2.2.1
        have P15 := hs.2.2.2.1.eq he2 (fun x _ _ => by omega)
        have hs2 : zc_S s h2 := hs.eq hS2 he2 (fun x e => by omega)
        have f2 : zc_F h h2 := zc_F.of he2 (fun x e => by omega)
        show zp_wp X y_RR_matchOfMember 39 [.ref 0, .int (nI a9), .int (nI m9), .int (nI c9), zm_mk] [] h2 Q
        refine zp_aload_n (x := 0) rfl rfl ?_
        refine zq_getr (k9 := 150) hS rfl (by first | assumption | exact ⟨by decide, rfl⟩) rfl ?_
        refine zq_getr (k9 := 153) hS rfl (by first | assumption | exact ⟨by decide, rfl⟩) rfl ?_
        refine zp_iload_n (x := (nI c9)) rfl rfl ?_
        refine zq_iald hS rfl (by first | assumption | exact ⟨by decide, rfl⟩) (by omega) (by first | decide | omega) ?_
        rw [mm (c9) hc9]
        refine zp_istore_4 rfl rfl ?_
        refine zp_sipush (v := (nI 256)) rfl (by decide +kernel) ?_
        refine zp_aload_n (x := 0) rfl rfl ?_
        refine zq_getr (k9 := 15) hS rfl (by first | assumption | exact ⟨by decide, rfl⟩) rfl ?_
        refine zp_iload (x := (zf_o (v_mM (g_b s) (g_1 s) (c9)))) rfl rfl ?_
        refine zq_virt hS rfl rfl (by first | assumption | exact ⟨by decide, rfl⟩) rfl (s_Prog_ownerNameOf (m := v_mM (g_b s) (g_1 s) c9) hS2 qA_15 P15 hW.1.2.2 (fun i hi => ⟨((zj_mM hW.1.1).1 c9 hc9 i hi).1, ((zj_mM hW.1.1).1 c9 hc9 i hi).2.2⟩) ?_)
        show zp_wp X y_RR_matchOfMember 62 [.ref 0, .int (nI a9), .int (nI m9), .int (nI c9), .int (zf_o (v_mM (g_b s) (g_1 s) (c9)))] [.int (nI (v_onm (g_1 s) (v_mM (g_b s) (g_1 s) c9))), .int (nI 256)] h2 Q
        refine zp_imulN rfl ?_
        refine zp_aload_n (x := 0) rfl rfl ?_
        refine zq_getr (k9 := 15) hS rfl (by first | assumption | exact ⟨by decide, rfl⟩) rfl ?_
        refine zp_iload (x := (zf_o (v_mM (g_b s) (g_1 s) (c9)))) rfl rfl ?_
        refine zq_virt hS rfl rfl (by first | assumption | exact ⟨by decide, rfl⟩) rfl (s_Prog_memberNameAt (k := v_mM (g_b s) (g_1 s) c9) hS2 qA_15 P15 hW.1.2.2.B (fun i hi => ((zj_mM hW.1.1).1 c9 hc9 i hi).1) ?_)
        show zp_wp X y_RR_matchOfMember 72 [.ref 0, .int (nI a9), .int (nI m9), .int (nI c9), .int (zf_o (v_mM (g_b s) (g_1 s) (c9)))] [.int (nI (v_mnm (g_1 s) (v_mM (g_b s) (g_1 s) c9))), .int (nI (256 * (v_onm (g_1 s) (v_mM (g_b s) (g_1 s) c9))))] h2 Q
        refine zp_iaddN rfl ?_
        refine zp_iret rfl rfl ?_
        rw [hz] at hq
        cases hF : v_mM (g_b s) (g_1 s) c9 with
        | none => simp only [hF] at hq; exact hq.1 rfl h2 hs2 f2
        | some p9 => simp only [hF] at hq; exact hq.1 rfl h2 hs2 f2
theorem s_RR_replay {sel : Int32} {mend : Bool} (hs : zc_S s h) (hW : zc_W s) (hq : zc_R (z_replay s sel mend) (fun _ => 1) h Q) : zp_wm X y_RR_replay [.ref 0, .int sel, .int (zf_b mend)] h Q := by
  have hS := hs.1
  obtain ⟨s1, s2, s3, s4, s5, s6, s7, s8⟩ := id hs
  have wn := hW.2.2.2.1
  unfold z_replay at hq
  show zp_wp X y_RR_replay 0 [.ref 0, .int sel, .int (zf_b mend), zm_mk] [] h Q
  cases hv : g_sel (g_n s) sel with
  | false =>
    rw [hv] at hq
    refine zp_aload_n (x := 0) rfl rfl ?_
    refine zp_iload_n (x := sel) rfl rfl ?_
    refine zq_virt hS rfl rfl (by first | assumption | exact ⟨by decide, rfl⟩) rfl (s_RR_requireSelection hS s6 wn (fun q => by rw [hv] at q; cases q) (fun _ => hq.2 n10 _ hs.x zc_F.x))
  | true =>
    rw [hv] at hq
    refine zp_aload_n (x := 0) rfl rfl ?_
    refine zp_iload_n (x := sel) rfl rfl ?_
    refine zq_virt hS rfl rfl (by first | assumption | exact ⟨by decide, rfl⟩) rfl (s_RR_requireSelection hS s6 wn (fun _ => ?_) (fun q => by rw [hv] at q; cases q))
    show zp_wp X y_RR_replay 5 [.ref 0, .int sel, .int (zf_b mend), zm_mk] [] h Q
    refine zp_aload_n (x := 0) rfl rfl ?_
    refine zq_getr (k9 := 155) hS rfl (by first | assumption | exact ⟨by decide, rfl⟩) rfl ?_
    refine zp_aload_n (x := 0) rfl rfl ?_
    refine zq_getr (k9 := 1) hS rfl (by first | assumption | exact ⟨by decide, rfl⟩) rfl ?_
    refine zp_aload_n (x := 0) rfl rfl ?_
    refine zq_getr (k9 := 15) hS rfl (by first | assumption | exact ⟨by decide, rfl⟩) rfl ?_
    refine zp_aload_n (x := 0) rfl rfl ?_
    refine zq_getr (k9 := 29) hS rfl (by first | assumption | exact ⟨by decide, rfl⟩) rfl ?_
    refine zp_iload_n (x := sel) rfl rfl ?_
    refine zp_iload_n (x := (zf_b mend)) rfl rfl ?_
    refine zq_virt hS rfl rfl (by first | assumption | exact ⟨by decide, rfl⟩) rfl (s_Repl_run hS qA_15 (by decide) s2 hW.1.1 s4 hW.1.2.2 s5 s6 wn hW.2.1 (fun h2 hS2 he2 hP2 hO2 => ?_))
    have hS := hS2
    have he2 : zh_eq (fun x => (15 < x ∧ x ≤ 21) ∨ (156 < x ∧ x ≤ 169)) h h2 := he2
    have k2 : cf h2 29 1 = nI (g_n s) := by rw [he2.gf (by omega)]; exact s6
    show zp_wp X y_RR_replay 26 [.ref 0, .int sel, .int (zf_b mend), zm_mk] [.int (nI ((v_rp sel mend (g_b s) (g_1 s) (g_L s) (g_n s)).2.1))] h2 Q
    refine zp_istore_n_3 rfl rfl ?_
    refine zp_aload_n (x := 0) rfl rfl ?_
    refine zp_aload_n (x := 0) rfl rfl ?_
    refine zq_getr (k9 := 29) hS rfl (by first | assumption | exact ⟨by decide, rfl⟩) rfl ?_
    refine zq_geti hS rfl (by first | assumption | exact ⟨by decide, rfl⟩) rfl ?_
    rw [k2]
    refine zq_put hS rfl (by first | assumption | exact ⟨by decide, rfl⟩) rfl rfl (fun hS35 => ?_)
    have hS := hS35
    refine zp_aload_n (x := 0) rfl rfl ?_
    refine zq_getr (k9 := 155) hS rfl (by first | assumption | exact ⟨by decide, rfl⟩) rfl ?_
    refine zq_getr (k9 := 169) hS rfl (by first | assumption | exact ⟨by decide, rfl⟩) rfl ?_
    refine zp_iconst (v := (nI 0)) rfl (by decide +kernel) ?_
    refine zp_aload_n (x := 0) rfl rfl ?_
    refine zq_getr (k9 := 170) hS rfl (by first | assumption | exact ⟨by decide, rfl⟩) rfl ?_
    refine zp_iconst (v := (nI 0)) rfl (by decide +kernel) ?_
    refine zp_bipush (v := (nI 30)) rfl (by decide +kernel) ?_
    refine zq_cpyi hS rfl (by first | assumption | exact ⟨by decide, rfl⟩) (by first | assumption | exact ⟨by decide, rfl⟩) (by omega) (by decide) (by omega) (fun hS53 => ?_)
    have hS := hS53
    refine zp_iload_n (x := (nI ((v_rp sel mend (g_b s) (g_1 s) (g_L s) (g_n s)).2.1))) rfl rfl ?_
    refine zp_iret rfl rfl ?_
    have ex : ∀ (f : Nat → Int32), zh_eq (fun x => (15 < x ∧ x ≤ 21) ∨ (156 < x ∧ x ≤ 169) ∨ x = 0 ∨ x = 170) h (zi_put (zf_put h2 0 10 (nI (g_n s))) 170 f) := fun f => ((he2.mono (fun x e => by omega)).zf (by omega)).zi (by omega)
    refine hq.1 rfl _ ⟨hS, s2.eq (ex _) (fun x _ _ => by omega), s3.eq (ex _) (fun x _ _ => by omega), ?_, s5.eq (ex _) (fun x _ _ => by omega), ?_, ?_, ?_⟩ (zc_F.of (ex _) (fun x e => by omega))
    · exact (hP2.eq (S := fun x => x = 0) (zh_onf zh_eq.rf) (fun x _ _ => by omega)).eq (S := fun x => x = 170) (zh_one zh_eq.rf) (fun x _ _ => by omega)
    · rw [(ex _).gf (by omega)]; exact s6
    · rw [zi_cf (by decide)]; exact zf_at9 (by assumption) ⟨by decide, rfl⟩ rfl
    · intro i hi
      have hi : i < g_n s := hi
      rw [zi_at, zcp_at (by omega), zf_ci (by decide)]
      exact hO2 i hi
theorem s_RR_forecast {sel : Int32} {mend : Bool} (hs : zc_S s h) (hW : zc_W s) (hq : zc_R (z_forecast s sel mend) (fun _ => 1) h Q) : zp_wm X y_RR_forecast [.ref 0, .int sel, .int (zf_b mend)] h Q := by
  have hS := hs.1
  obtain ⟨s1, s2, s3, s4, s5, s6, s7, s8⟩ := id hs
  have wn := hW.2.2.2.1
  unfold z_forecast at hq
  show zp_wp X y_RR_forecast 0 [.ref 0, .int sel, .int (zf_b mend)] [] h Q
  cases hv : g_sel (g_n s) sel with
  | false =>
    rw [hv] at hq
    refine zp_aload_n (x := 0) rfl rfl ?_
    refine zp_iload_n (x := sel) rfl rfl ?_
    refine zq_virt hS rfl rfl (by first | assumption | exact ⟨by decide, rfl⟩) rfl (s_RR_requireSelection hS s6 wn (fun q => by rw [hv] at q; cases q) (fun _ => hq.2 n10 _ hs.x zc_F.x))
  | true =>
    rw [hv] at hq
    refine zp_aload_n (x := 0) rfl rfl ?_
    refine zp_iload_n (x := sel) rfl rfl ?_
    refine zq_virt hS rfl rfl (by first | assumption | exact ⟨by decide, rfl⟩) rfl (s_RR_requireSelection hS s6 wn (fun _ => ?_) (fun q => by rw [hv] at q; cases q))
    show zp_wp X y_RR_forecast 5 [.ref 0, .int sel, .int (zf_b mend)] [] h Q
    refine zp_aload_n (x := 0) rfl rfl ?_
    refine zq_getr (k9 := 22) hS rfl (by first | assumption | exact ⟨by decide, rfl⟩) rfl ?_
    refine zp_aload_n (x := 0) rfl rfl ?_
    refine zq_getr (k9 := 15) hS rfl (by first | assumption | exact ⟨by decide, rfl⟩) rfl ?_
    refine zq_virt hS rfl rfl (by first | assumption | exact ⟨by decide, rfl⟩) rfl (s_Prog_copyFrom hS qA_22 qA_15 s4 (by decide) (fun ha pa => ?_))
    have hS := pa.1
    have sa : zc_S s ha := hs.eq pa.1 pa.2.1 (fun x e => by omega)
    show zp_wp X y_RR_forecast 16 [.ref 0, .int sel, .int (zf_b mend)] [] ha Q
    refine zp_aload_n (x := 0) rfl rfl ?_
    refine zq_getr (k9 := 155) hS rfl (by first | assumption | exact ⟨by decide, rfl⟩) rfl ?_
    refine zp_aload_n (x := 0) rfl rfl ?_
    refine zq_getr (k9 := 1) hS rfl (by first | assumption | exact ⟨by decide, rfl⟩) rfl ?_
    refine zp_aload_n (x := 0) rfl rfl ?_
    refine zq_getr (k9 := 22) hS rfl (by first | assumption | exact ⟨by decide, rfl⟩) rfl ?_
    refine zp_aload_n (x := 0) rfl rfl ?_
    refine zq_getr (k9 := 29) hS rfl (by first | assumption | exact ⟨by decide, rfl⟩) rfl ?_
    refine zp_iload_n (x := sel) rfl rfl ?_
    refine zp_iload_n (x := (zf_b mend)) rfl rfl ?_
    refine zq_virt hS rfl rfl (by first | assumption | exact ⟨by decide, rfl⟩) rfl (s_Repl_run pa.1 qA_22 (by decide) sa.2.1 hW.1.1 pa.2.2 hW.1.2.2 sa.2.2.2.2.1 sa.2.2.2.2.2.1 wn hW.2.1 (fun h2 hS2 he2 hP2 hO2 => ?_))
    have he2 : zh_eq (fun x => (22 < x ∧ x ≤ 28) ∨ (156 < x ∧ x ≤ 169)) ha h2 := he2
    show zp_wp X y_RR_forecast 37 [.ref 0, .int sel, .int (zf_b mend)] [.int (nI ((v_rp sel mend (g_b s) (g_1 s) (g_L s) (g_n s)).2.1))] h2 Q
    refine zp_iret rfl rfl ?_
    exact hq.1 rfl _ (sa.eq hS2 he2 (fun x e => by omega)) (zc_F.of (S := fun x => (22 < x ∧ x ≤ 28) ∨ (156 < x ∧ x ≤ 169)) ((pa.2.1.mono (fun x e => by omega)).trans he2) (fun x e => by omega))
theorem s_RR_outcome {i : Int32} (hs : zc_S s h) (hW : zc_W s) (hq : zc_R (z_outcome s i) (fun k => k - 1) h Q) : zp_wm X y_RR_outcome [.ref 0, .int i] h Q := by
  have hS := hs.1
  have hk := hs.2.2.2.2.2.2.1
  have wk := hW.2.2.2.2.1
  unfold z_outcome at hq
  show zp_wp X y_RR_outcome 0 [.ref 0, .int i] [] h Q
  cases hv : g_lt (g_k s) i with
  | false =>
    rw [hv] at hq
    refine zp_iload_n (x := i) rfl rfl ?_
    refine zp_if_lt (tgt := 12) rfl rfl (fun b1 => ?_) (fun b1 => ?_)
    · refine zp_throw rfl (by decide) ?_
      exact hq.2 n10 _ hs.x zc_F.x
    · refine zp_iload_n (x := i) rfl rfl ?_
      refine zp_aload_n (x := 0) rfl rfl ?_
      refine zq_geti hS rfl (by first | assumption | exact ⟨by decide, rfl⟩) rfl ?_
      rw [hk]
      refine zp_icmp_lt (tgt := 22) rfl rfl (fun b9 => ?_) (fun b9 => ?_)
      · exfalso
        unfold g_lt at hv
        rw [decide_eq_true (Int32.not_lt.mp b1), decide_eq_true ((i2n_lt b1 (by omega)).mp b9)] at hv
        cases hv
      · refine zp_throw rfl (by decide) ?_
        exact hq.2 n10 _ hs.x zc_F.x
  | true =>
    rw [hv] at hq
    obtain ⟨i1, i2⟩ := g_lt_n hv
    generalize i2n i = j at *
    subst i1
    refine zp_iload_n (x := (nI j)) rfl rfl ?_
    refine zp_ifF (tgt := 12) rfl rfl (zc_lt (by omega)) ?_
    refine zp_iload_n (x := (nI j)) rfl rfl ?_
    refine zp_aload_n (x := 0) rfl rfl ?_
    refine zq_geti hS rfl (by first | assumption | exact ⟨by decide, rfl⟩) rfl ?_
    rw [hk]
    refine zp_icmpN_lt (tgt := 22) rfl rfl (by omega) (by omega) (fun b9 => ?_) (fun b9 => ?_)
    · refine zp_aload_n (x := 0) rfl rfl ?_
      refine zq_getr (k9 := 170) hS rfl (by first | assumption | exact ⟨by decide, rfl⟩) rfl ?_
      refine zp_iload_n (x := (nI j)) rfl rfl ?_
      refine zq_iald hS rfl (by first | assumption | exact ⟨by decide, rfl⟩) (by omega) (by first | decide | omega) ?_
      rw [hs.2.2.2.2.2.2.2 (j) i2]
      refine zp_iret rfl rfl ?_
      exact hq.1 rfl h hs zc_F.rf
    · omega
/-! the fingerprint -/
theorem s_RR_blendMembers {f : Int64} {c : Nat} (hS : zs_H h) (hA : zq_A p) (hP : zq_P V p h) (hW : zv_W V) (hc : c < 12) (hq : Q (.inl (some (.long (zf_fold (v_mixM V c) 97 26 f)))) h) : zp_wm X y_RR_blendMembers [.long f, .ref p, .int (nI c)] h Q := by
  have hA' := hA
  obtain ⟨hA0, hA1, hA2, hA3, hA4, hA5, hA6⟩ := hA
  show zp_wp X y_RR_blendMembers 0 [.long f, zm_mk, .ref p, .int (nI c), zm_mk, zm_mk, zm_mk, zm_mk] [] h Q
  have lp : ∀ k nm g x, nm + k = 123 → 97 ≤ nm → zf_fold (v_mixM V c) 97 26 f = zf_fold (v_mixM V c) nm k g → zp_wp X y_RR_blendMembers 7 [.long f, zm_mk, .ref p, .int (nI c), .long g, zm_mk, .int (nI nm), x] [] h Q := by
    intro k
    induction k with
    | zero =>
      intro nm g x hk h97 he
      have he : zf_fold (v_mixM V c) 97 26 f = g := he
      rw [he] at hq
      refine zp_iload (x := (nI nm)) rfl rfl ?_
      refine zp_bipush (v := (nI 122)) rfl (by decide +kernel) ?_
      refine zp_icmpN_gt (tgt := 70) rfl rfl (by omega) (by omega) (fun b11 => ?_) (fun b11 => ?_)
      · refine zp_lload (x := g) rfl rfl ?_
        refine zp_lret rfl rfl ?_
        exact hq
      · omega
    | succ k ih =>
      intro nm g x hk h97 he
      rw [show zf_fold (v_mixM V c) nm (k + 1) g = zf_fold (v_mixM V c) (nm + 1) k (v_mixM V c nm g) from rfl] at he
      refine zp_iload (x := (nI nm)) rfl rfl ?_
      refine zp_bipush (v := (nI 122)) rfl (by decide +kernel) ?_
      refine zp_icmpN_gt (tgt := 70) rfl rfl (by omega) (by omega) (fun b11 => ?_) (fun b11 => ?_)
      · omega
      · refine zp_aload_n (x := p) rfl rfl ?_
        refine zp_iload_n (x := (nI c)) rfl rfl ?_
        refine zp_iload (x := (nI nm)) rfl rfl ?_
        refine zq_virt hS rfl rfl (by first | assumption | exact ⟨by decide, rfl⟩) rfl (s_Prog_memberIn hS hA' hP hW hc (by omega) (by omega) ?_)
        cases hz : v_mem V (some c) nm with
        | none =>
          show zp_wp X y_RR_blendMembers 21 [.long f, zm_mk, .ref p, .int (nI c), .long g, zm_mk, .int (nI nm), x] [.int (-1)] h Q
          refine zp_istore_7 rfl rfl ?_
          refine zp_iload (x := (-1)) rfl rfl ?_
          refine zp_ifT (tgt := 64) rfl rfl (by decide +kernel) ?_
          refine zp_iincN_6 rfl rfl ?_
          refine zp_goto (tgt := 7) rfl rfl ?_
          first
          | exact ih (nm + 1) _ _ (by omega) (by omega) (by rw [he]; simp only [v_mixM, hz])
          | omega
        | some m9 =>
          have hm9 := (v_mem_lt hz).1
          show zp_wp X y_RR_blendMembers 21 [.long f, zm_mk, .ref p, .int (nI c), .long g, zm_mk, .int (nI nm), x] [.int (nI m9)] h Q
          refine zp_istore_7 rfl rfl ?_
          refine zp_iload (x := (nI m9)) rfl rfl ?_
          refine zp_ifF (tgt := 64) rfl rfl (zc_lt (by omega)) ?_
          refine zp_ldc2 rfl ?_
          refine zp_lload (x := g) rfl rfl ?_
          refine zp_lmul rfl rfl ?_
          refine zp_aload_n (x := p) rfl rfl ?_
          refine zq_getr (k9 := (p + 6)) hS rfl (by first | assumption | exact ⟨by decide, rfl⟩) rfl ?_
          refine zp_iload (x := (nI m9)) rfl rfl ?_
          refine zq_lald hS rfl (by first | assumption | exact ⟨by decide, rfl⟩) (by omega) (by first | decide | omega) ?_
          refine zp_call rfl rfl (s_Long_bitCount ?_)
          rw [hP.bc hm9]
          show zp_wp X y_RR_blendMembers 44 [.long f, zm_mk, .ref p, .int (nI c), .long g, zm_mk, .int (nI nm), .int (nI m9)] [.int (nI (zf_ct (v_us V m9) 0 40)), .long ((lN 31) * g)] h Q
          refine zp_i2l rfl rfl ?_
          refine zp_ladd rfl rfl ?_
          refine zp_lstore_4 rfl rfl ?_
          refine zp_ldc2 rfl ?_
          refine zp_lload (x := (((lN 31) * g) + (Int32.toInt64 (nI (zf_ct (v_us V m9) 0 40))))) rfl rfl ?_
          refine zp_lmul rfl rfl ?_
          refine zp_aload_n (x := p) rfl rfl ?_
          refine zp_iload (x := (nI m9)) rfl rfl ?_
          refine zq_virt hS rfl rfl (by first | assumption | exact ⟨by decide, rfl⟩) rfl (s_Prog_usersOf hS hA' hP hm9 ?_)
          show zp_wp X y_RR_blendMembers 60 [.long f, zm_mk, .ref p, .int (nI c), .long (((lN 31) * g) + (Int32.toInt64 (nI (zf_ct (v_us V m9) 0 40)))), zm_mk, .int (nI nm), .int (nI m9)] [.int (nI (zf_ct (fun k => v_us V k m9) 0 40)), .long ((lN 31) * (((lN 31) * g) + (Int32.toInt64 (nI (zf_ct (v_us V m9) 0 40)))))] h Q
          refine zp_i2l rfl rfl ?_
          refine zp_ladd rfl rfl ?_
          refine zp_lstore_4 rfl rfl ?_
          refine zp_iincN_6 rfl rfl ?_
          refine zp_goto (tgt := 7) rfl rfl ?_
          first
          | exact ih (nm + 1) _ _ (by omega) (by omega) (by rw [he]; simp only [v_mixM, hz])
          | omega
  refine zp_lload_n (x := f) rfl rfl ?_
  refine zp_lstore_4 rfl rfl ?_
  refine zp_bipush (v := (nI 97)) rfl (by decide +kernel) ?_
  refine zp_istore_6 rfl rfl ?_
  exact lp 26 97 f _ rfl (by decide) rfl
theorem v_mix_n (V : zv) (f : Int64) : v_mix V f = zf_fold (v_byn V (v_mixC V)) 65 26 f := by
  unfold v_mix
  have e : v_mixI V = v_byk V (v_mixC V) 65 26 := by
    funext i b
    unfold v_mixI v_byk v_ord
    cases v_ol V 65 26 i <;> rfl
  rw [e, v_byo]
theorem s_RR_blend {f : Int64} (hS : zs_H h) (hA : zq_A p) (hP : zq_P V p h) (hW : zv_W V) (hq : Q (.inl (some (.long (v_mix V f)))) h) : zp_wm X y_RR_blend [.long f, .ref p] h Q := by
  have hA0 := hA.1
  rw [v_mix_n] at hq
  show zp_wp X y_RR_blend 0 [.long f, zm_mk, .ref p, zm_mk, zm_mk, zm_mk, zm_mk] [] h Q
  have lp : ∀ k nm g x, nm + k = 91 → zf_fold (v_byn V (v_mixC V)) 65 26 f = zf_fold (v_byn V (v_mixC V)) nm k g → zp_wp X y_RR_blend 6 [.long f, zm_mk, .ref p, .long g, zm_mk, .int (nI nm), x] [] h Q := by
    intro k
    induction k with
    | zero =>
      intro nm g x hk he
      have he : zf_fold (v_byn V (v_mixC V)) 65 26 f = g := he
      rw [he] at hq
      refine zp_iload (x := (nI nm)) rfl rfl ?_
      refine zp_bipush (v := (nI 90)) rfl (by decide +kernel) ?_
      refine zp_icmpN_gt (tgt := 80) rfl rfl (by omega) (by omega) (fun b10 => ?_) (fun b10 => ?_)
      · refine zp_lload_n (x := g) rfl rfl ?_
        refine zp_lret rfl rfl ?_
        exact hq
      · omega
    | succ k ih =>
      intro nm g x hk he
      rw [show zf_fold (v_byn V (v_mixC V)) nm (k + 1) g = zf_fold (v_byn V (v_mixC V)) (nm + 1) k (v_byn V (v_mixC V) nm g) from rfl] at he
      refine zp_iload (x := (nI nm)) rfl rfl ?_
      refine zp_bipush (v := (nI 90)) rfl (by decide +kernel) ?_
      refine zp_icmpN_gt (tgt := 80) rfl rfl (by omega) (by omega) (fun b10 => ?_) (fun b10 => ?_)
      · omega
      · refine zp_aload_n (x := p) rfl rfl ?_
        refine zp_iload (x := (nI nm)) rfl rfl ?_
        refine zq_virt hS rfl rfl (by first | assumption | exact ⟨by decide, rfl⟩) rfl (s_Prog_classAt hS hA hP hW.B (by omega) ?_)
        cases hz : v_cls V nm with
        | none =>
          show zp_wp X y_RR_blend 19 [.long f, zm_mk, .ref p, .long g, zm_mk, .int (nI nm), x] [.int (-1)] h Q
          refine zp_istore_6 rfl rfl ?_
          refine zp_iload (x := (-1)) rfl rfl ?_
          refine zp_ifT (tgt := 74) rfl rfl (by decide +kernel) ?_
          refine zp_iincN_5 rfl rfl ?_
          refine zp_goto (tgt := 6) rfl rfl ?_
          first
          | exact ih (nm + 1) _ _ (by omega) (by rw [he]; simp only [v_byn, hz])
          | omega
        | some c9 =>
          have hc9 := v_cls_l _ hz
          have hcn := (v_cls_lt hz).2.1
          show zp_wp X y_RR_blend 19 [.long f, zm_mk, .ref p, .long g, zm_mk, .int (nI nm), x] [.int (nI c9)] h Q
          refine zp_istore_6 rfl rfl ?_
          refine zp_iload (x := (nI c9)) rfl rfl ?_
          refine zp_ifF (tgt := 74) rfl rfl (zc_lt (by omega)) ?_
          refine zp_ldc2 rfl ?_
          refine zp_lload_n (x := g) rfl rfl ?_
          refine zp_lmul rfl rfl ?_
          refine zp_iload (x := (nI nm)) rfl rfl ?_
          refine zp_i2l rfl rfl ?_
          refine zp_ladd rfl rfl ?_
          refine zp_lstore_n_3 rfl rfl ?_
          refine zp_ldc2 rfl ?_
          refine zp_lload_n (x := (((lN 31) * g) + (Int32.toInt64 (nI nm)))) rfl rfl ?_
          refine zp_lmul rfl rfl ?_
          refine zp_aload_n (x := p) rfl rfl ?_
          refine zp_iload (x := (nI c9)) rfl rfl ?_
          refine zq_virt hS rfl rfl (by first | assumption | exact ⟨by decide, rfl⟩) rfl (s_Prog_superNameOf hS hA hP hW.B hc9.1 hc9.2 ?_)
          show zp_wp X y_RR_blend 47 [.long f, zm_mk, .ref p, .long (((lN 31) * g) + (Int32.toInt64 (nI nm))), zm_mk, .int (nI nm), .int (nI c9)] [.int (nI (v_sn V c9)), .long ((lN 31) * (((lN 31) * g) + (Int32.toInt64 (nI nm))))] h Q
          refine zp_i2l rfl rfl ?_
          refine zp_ladd rfl rfl ?_
          refine zp_lstore_n_3 rfl rfl ?_
          refine zp_ldc2 rfl ?_
          refine zp_lload_n (x := (((lN 31) * (((lN 31) * g) + (Int32.toInt64 (nI nm)))) + (Int32.toInt64 (nI (v_sn V c9))))) rfl rfl ?_
          refine zp_lmul rfl rfl ?_
          refine zp_aload_n (x := p) rfl rfl ?_
          refine zp_iconst (v := (nI 1)) rfl (by decide +kernel) ?_
          refine zp_iload (x := (nI c9)) rfl rfl ?_
          refine zp_ishl rfl rfl ?_
          refine zq_virt hS rfl rfl (by first | assumption | exact ⟨by decide, rfl⟩) rfl (s_Prog_namesIn hS hA hP hW ?_)
          rw [v_msk_1 hc9.1 hW]
          show zp_wp X y_RR_blend 63 [.long f, zm_mk, .ref p, .long (((lN 31) * (((lN 31) * g) + (Int32.toInt64 (nI nm)))) + (Int32.toInt64 (nI (v_sn V c9)))), zm_mk, .int (nI nm), .int (nI c9)] [.int (v_msk V (fun o => o == c9)), .long ((lN 31) * (((lN 31) * (((lN 31) * g) + (Int32.toInt64 (nI nm)))) + (Int32.toInt64 (nI (v_sn V c9)))))] h Q
          refine zp_i2l rfl rfl ?_
          refine zp_ladd rfl rfl ?_
          refine zp_lstore_n_3 rfl rfl ?_
          refine zp_lload_n (x := (((lN 31) * (((lN 31) * (((lN 31) * g) + (Int32.toInt64 (nI nm)))) + (Int32.toInt64 (nI (v_sn V c9))))) + (Int32.toInt64 (v_msk V (fun o => o == c9))))) rfl rfl ?_
          refine zp_aload_n (x := p) rfl rfl ?_
          refine zp_iload (x := (nI c9)) rfl rfl ?_
          refine zp_call rfl rfl (s_RR_blendMembers hS hA hP hW hc9.1 ?_)
          rw [show zf_fold (v_mixM V c9) 97 26 ((lN 31 * ((lN 31 * ((lN 31 * g) + Int32.toInt64 (nI nm))) + Int32.toInt64 (nI (v_sn V c9)))) + Int32.toInt64 (v_msk V (fun o => o == c9))) = v_mixC V c9 g by unfold v_mixC; rw [hcn]]
          show zp_wp X y_RR_blend 73 [.long f, zm_mk, .ref p, .long (((lN 31) * (((lN 31) * (((lN 31) * g) + (Int32.toInt64 (nI nm)))) + (Int32.toInt64 (nI (v_sn V c9))))) + (Int32.toInt64 (v_msk V (fun o => o == c9)))), zm_mk, .int (nI nm), .int (nI c9)] [.long (v_mixC V c9 g)] h Q
          refine zp_lstore_n_3 rfl rfl ?_
          refine zp_iincN_5 rfl rfl ?_
          refine zp_goto (tgt := 6) rfl rfl ?_
          first
          | exact ih (nm + 1) _ _ (by omega) (by rw [he]; simp only [v_byn, hz])
          | omega
  refine zp_lload_n (x := f) rfl rfl ?_
  refine zp_lstore_n_3 rfl rfl ?_
  refine zp_bipush (v := (nI 65)) rfl (by decide +kernel) ?_
  refine zp_istore_5 rfl rfl ?_
  exact lp 26 65 f _ rfl rfl
theorem s_RR_fingerprint (hs : zc_S s h) (hW : zc_W s) (hq : Q (.inl (some (.long (z_print s)))) h) : zp_wm X y_RR_fingerprint [.ref 0] h Q := by
  have hS := hs.1
  have hn := hs.2.2.2.2.2.1
  show zp_wp X y_RR_fingerprint 0 [.ref 0, zm_mk, zm_mk] [] h Q
  refine zp_ldc2 rfl ?_
  refine zp_aload_n (x := 0) rfl rfl ?_
  refine zq_getr (k9 := 8) hS rfl (by first | assumption | exact ⟨by decide, rfl⟩) rfl ?_
  refine zp_call rfl rfl (s_RR_blend hS qA_8 hs.2.2.1 hW.1.2.1 ?_)
  show zp_wp X y_RR_fingerprint 10 [.ref 0, zm_mk, zm_mk] [.long (v_mix (g_0 s) (lN 43))] h Q
  refine zp_lstore_n_1 rfl rfl ?_
  refine zp_lload_n (x := (v_mix (g_0 s) (lN 43))) rfl rfl ?_
  refine zp_aload_n (x := 0) rfl rfl ?_
  refine zq_getr (k9 := 15) hS rfl (by first | assumption | exact ⟨by decide, rfl⟩) rfl ?_
  refine zp_call rfl rfl (s_RR_blend hS qA_15 hs.2.2.2.1 hW.1.2.2 ?_)
  show zp_wp X y_RR_fingerprint 19 [.ref 0, .long (v_mix (g_0 s) (lN 43)), zm_mk] [.long (v_mix (g_1 s) (v_mix (g_0 s) (lN 43)))] h Q
  refine zp_lstore_n_1 rfl rfl ?_
  refine zp_ldc2 rfl ?_
  refine zp_lload_n (x := (v_mix (g_1 s) (v_mix (g_0 s) (lN 43)))) rfl rfl ?_
  refine zp_lmul rfl rfl ?_
  refine zp_aload_n (x := 0) rfl rfl ?_
  refine zq_getr (k9 := 29) hS rfl (by first | assumption | exact ⟨by decide, rfl⟩) rfl ?_
  refine zq_geti hS rfl (by first | assumption | exact ⟨by decide, rfl⟩) rfl ?_
  rw [hn]
  refine zp_i2l rfl rfl ?_
  refine zp_ladd rfl rfl ?_
  refine zp_lret rfl rfl ?_
  exact hq
end ZP18
