/-! the reference: matches told, replaying -/
def zr_at (c : zch) (i : Nat) (A : Nat → Int32) : Prop := A (5 * i) = nI c.1 ∧ A (5 * i + 1) = nI c.2.1 ∧ A (5 * i + 2) = nI c.2.2.1 ∧ A (5 * i + 3) = nI c.2.2.2.1 ∧ A (5 * i + 4) = nI c.2.2.2.2
def zr_st (MV TG : zv) (C M : Nat → Option Nat) (h : zm_H) : Prop := zv_R MV (ci h 185) ∧ zv_R TG (ci h 186) ∧ zr_M C 12 (ci h 183) ∧ zr_M M 40 (ci h 184)
def zr_p (pl : zch) (h : zm_H) : Prop := cf h 171 21 = nI pl.2.1 ∧ cf h 171 22 = nI pl.2.2.1 ∧ cf h 171 23 = nI pl.2.2.2.1 ∧ cf h 171 24 = nI pl.2.2.2.2
def z_matchC (s : zst) (a : Int32) : Nat × Int32 × zst := cond (g_isC a) (0, (match v_cls (g_b s) (i2n a) with
  | none => -1
  | some c => (match v_mC (g_b s) (g_1 s) c with
    | none => nI 0
    | some p => nI (v_cn (g_1 s) p))), s) (1, nI 0, s)
def z_matchM (s : zst) (a m : Int32) : Nat × Int32 × zst := cond (g_isC a && g_isM m) (0, (match v_mem (g_b s) (v_cls (g_b s) (i2n a)) (i2n m) with
  | none => -1
  | some c => (match v_mM (g_b s) (g_1 s) c with
    | none => nI 0
    | some p => nI (256 * v_cn (g_1 s) (v_ow (g_1 s) p) + v_mn (g_1 s) p))), s) (1, nI 0, s)
def g_sel (n : Nat) (sel : Int32) : Bool := decide (sel = -1) || (decide (0 ≤ sel) && decide (sel >>> (nI n &&& 31) = 0))
section ZR13
variable {X : zm_X} {h h1 h2 : zm_H} {Q : zm_O → zm_H → Prop} {V W B MV TG : zv} {s : zst} {T : List Nat} {r o l d : Nat} {L : Nat → zch} {c pl : zch} {C M : Nat → Option Nat}
theorem s_Mod_matchOfClass {a : Int32} (hs : zr_S s h) (hB : zr_B s) (hq : ∀ h', zr_D (z_matchC s a).2.2 (z_matchC s a).1 h h' → Q (.inl (some (.int (z_matchC s a).2.1))) h') : zp_wm X y_Mod_matchOfClass [.ref 171, .int a] h Q := by
  have hS := hs.1
  unfold z_matchC at hq
  show zp_wp X y_Mod_matchOfClass 0 [.ref 171, .int a, zm_mk] [] h Q
  cases ha : g_isC a with
  | false =>
    rw [ha] at hq
    refine zp_aload_n (x := 171) rfl rfl ?_
    refine zp_iconst (v := (nI 0)) rfl (by decide +kernel) ?_
    refine zq_put hS rfl (by first | assumption | exact ⟨by decide, rfl⟩) rfl rfl (fun hS2 => ?_)
    have hS := hS2
    refine zp_iload_n (x := a) rfl rfl ?_
    refine zp_call rfl rfl (s_Mod_isClassName ?_)
    rw [ha]
    show zp_wp X y_Mod_matchOfClass 9 [.ref 171, .int a, zm_mk] [.int (nI 0)] (zf_put h 171 9 (nI 0)) Q
    refine zp_ifF (tgt := 18) rfl rfl (by decide +kernel) ?_
    refine zp_aload_n (x := 171) rfl rfl ?_
    refine zp_iconst (v := (nI 1)) rfl (by decide +kernel) ?_
    refine zq_virt hS rfl rfl (by first | assumption | exact ⟨by decide, rfl⟩) rfl (s_Mod_fails hS (fun hS3 => ?_))
    show zp_wp X y_Mod_matchOfClass 17 [.ref 171, .int a, zm_mk] [.int (nI 0)] (zf_put (zf_put h 171 9 (nI 0)) 171 9 (nI 1)) Q
    refine zp_iret rfl rfl ?_
    exact hq _ (zr_9 hs hS hS3)
  | true =>
    rw [ha] at hq
    obtain ⟨ha1, ha2⟩ := g_okC ha
    refine zp_aload_n (x := 171) rfl rfl ?_
    refine zp_iconst (v := (nI 0)) rfl (by decide +kernel) ?_
    refine zq_put hS rfl (by first | assumption | exact ⟨by decide, rfl⟩) rfl rfl (fun hS2 => ?_)
    have hS := hS2
    refine zp_iload_n (x := a) rfl rfl ?_
    refine zp_call rfl rfl (s_Mod_isClassName ?_)
    rw [ha]
    show zp_wp X y_Mod_matchOfClass 9 [.ref 171, .int a, zm_mk] [.int (nI 1)] (zf_put h 171 9 (nI 0)) Q
    refine zp_ifT (tgt := 18) rfl rfl (by decide +kernel) ?_
    clear ha
    generalize i2n a = a' at *
    subst ha1
    have hs1 := zr_hs9 hs hS
    show zp_wp X y_Mod_matchOfClass 18 [.ref 171, .int (nI a'), zm_mk] [] (zf_put h 171 9 (nI 0)) Q
    refine zp_aload_n (x := 171) rfl rfl ?_
    refine zq_getr (k9 := 174) hS rfl (by first | assumption | exact ⟨by decide, rfl⟩) rfl ?_
    refine zp_iload_n (x := (nI a')) rfl rfl ?_
    refine zp_call rfl rfl (t_Mod_classAt hS ⟨by decide, rfl⟩ hs1.2.1.2.2 hB.1.2.2 (by omega) ?_)
    cases hz : v_cls (g_b s) a' with
    | none =>
      show zp_wp X y_Mod_matchOfClass 26 [.ref 171, .int (nI a'), zm_mk] [.int (-1)] (zf_put h 171 9 (nI 0)) Q
      refine zp_istore_n_2 rfl rfl ?_
      refine zp_iload_n (x := (-1)) rfl rfl ?_
      refine zp_ifF (tgt := 33) rfl rfl (by decide +kernel) ?_
      refine zp_iconst (v := (-1)) rfl (by decide +kernel) ?_
      refine zp_iret rfl rfl ?_
      first | (simp only [hz, hm] at hq; exact hq _ hD) | (rw [hz] at hq; exact hq _ ((zr_F.f9 (T := []) hS).D hs (by decide) (by decide) (zf_at9 hS zs_M rfl)))
    | some c =>
      have hc := (v_cls_lt hz).1
      show zp_wp X y_Mod_matchOfClass 26 [.ref 171, .int (nI a'), zm_mk] [.int (nI c)] (zf_put h 171 9 (nI 0)) Q
      refine zp_istore_n_2 rfl rfl ?_
      refine zp_iload_n (x := (nI c)) rfl rfl ?_
      refine zp_ifT (tgt := 33) rfl rfl (zc_ge (by omega)) ?_
      refine zp_aload_n (x := 171) rfl rfl ?_
      refine zp_aload_n (x := 171) rfl rfl ?_
      refine zq_getr (k9 := 173) hS rfl (by first | assumption | exact ⟨by decide, rfl⟩) rfl ?_
      refine zq_virt hS rfl rfl (by first | assumption | exact ⟨by decide, rfl⟩) rfl (s_Mod_matches (V := g_b s) (W := g_1 s) hS ⟨by decide, rfl⟩ hs1.2.1.2.2 hB.1.2.2 hs1.2.1.2.1 hB.1.2.1 (fun h2 hG hC hM hCl hMl => ?_))
      have hD : zr_D s 0 h h2 := hG.D hs1 (by decide) (by decide) (zf_at9 hS zs_M rfl) (zr_F.f9 hS)
      have hS := hG.1.1
      have hV2 := hD.1.2.1.2.1
      have hB2 := hB.1.2.1
      show zp_wp X y_Mod_matchOfClass 41 [.ref 171, .int (nI a'), .int (nI c)] [] h2 Q
      refine zp_aload_n (x := 171) rfl rfl ?_
      refine zq_getr (k9 := 183) hS rfl (by first | assumption | exact ⟨by decide, rfl⟩) rfl ?_
      refine zp_iload_n (x := (nI c)) rfl rfl ?_
      refine zq_iald hS rfl (by first | assumption | exact ⟨by decide, rfl⟩) (by omega) (by first | decide | omega) ?_
      rw [hC c (by omega)]
      cases hm : v_mC (g_b s) (g_1 s) c with
      | none =>
        show zp_wp X y_Mod_matchOfClass 47 [.ref 171, .int (nI a'), .int (nI c)] [.int (-1)] h2 Q
        refine zp_ifF (tgt := 54) rfl rfl (by decide +kernel) ?_
        refine zp_iconst (v := (nI 0)) rfl (by decide +kernel) ?_
        refine zp_goto (tgt := 65) rfl rfl ?_
        refine zp_iret rfl rfl ?_
        first | (simp only [hz, hm] at hq; exact hq _ hD) | (rw [hz] at hq; exact hq _ ((zr_F.f9 (T := []) hS).D hs (by decide) (by decide) (zf_at9 hS zs_M rfl)))
      | some p =>
        have hp := hCl c hc p hm
        show zp_wp X y_Mod_matchOfClass 47 [.ref 171, .int (nI a'), .int (nI c)] [.int (nI p)] h2 Q
        refine zp_ifT (tgt := 54) rfl rfl (zc_ge (by omega)) ?_
        refine zp_aload_n (x := 171) rfl rfl ?_
        refine zq_getr (k9 := 173) hS rfl (by first | assumption | exact ⟨by decide, rfl⟩) rfl ?_
        refine zp_aload_n (x := 171) rfl rfl ?_
        refine zq_getr (k9 := 183) hS rfl (by first | assumption | exact ⟨by decide, rfl⟩) rfl ?_
        refine zp_iload_n (x := (nI c)) rfl rfl ?_
        refine zq_iald hS rfl (by first | assumption | exact ⟨by decide, rfl⟩) (by omega) (by first | decide | omega) ?_
        rw [hC c (by omega)]
        rw [hm]
        show zp_wp X y_Mod_matchOfClass 64 [.ref 171, .int (nI a'), .int (nI c)] [.int (nI p), .ref 173] h2 Q
        refine zq_iald hS rfl (by first | assumption | exact ⟨by decide, rfl⟩) (by omega) (by first | decide | omega) ?_
        rw [hV2.1 (p) (by omega)]
        have q64 := hB2.1 (p) (by omega)
        refine zp_iret rfl rfl ?_
        first | (simp only [hz, hm] at hq; exact hq _ hD) | (rw [hz] at hq; exact hq _ ((zr_F.f9 (T := []) hS).D hs (by decide) (by decide) (zf_at9 hS zs_M rfl)))
theorem s_Mod_matchOfMember {a m : Int32} (hs : zr_S s h) (hB : zr_B s) (hq : ∀ h', zr_D (z_matchM s a m).2.2 (z_matchM s a m).1 h h' → Q (.inl (some (.int (z_matchM s a m).2.1))) h') : zp_wm X y_Mod_matchOfMember [.ref 171, .int a, .int m] h Q := by
  have hS := hs.1
  unfold z_matchM at hq
  show zp_wp X y_Mod_matchOfMember 0 [.ref 171, .int a, .int m, zm_mk, zm_mk] [] h Q
  cases ha : g_isC a with
  | false =>
    rw [ha] at hq
    refine zp_aload_n (x := 171) rfl rfl ?_
    refine zp_iconst (v := (nI 0)) rfl (by decide +kernel) ?_
    refine zq_put hS rfl (by first | assumption | exact ⟨by decide, rfl⟩) rfl rfl (fun hS2 => ?_)
    have hS := hS2
    refine zp_iload_n (x := a) rfl rfl ?_
    refine zp_call rfl rfl (s_Mod_isClassName ?_)
    rw [ha]
    show zp_wp X y_Mod_matchOfMember 9 [.ref 171, .int a, .int m, zm_mk, zm_mk] [.int (nI 0)] (zf_put h 171 9 (nI 0)) Q
    refine zp_ifT (tgt := 19) rfl rfl (by decide +kernel) ?_
    refine zp_aload_n (x := 171) rfl rfl ?_
    refine zp_iconst (v := (nI 1)) rfl (by decide +kernel) ?_
    refine zq_virt hS rfl rfl (by first | assumption | exact ⟨by decide, rfl⟩) rfl (s_Mod_fails hS (fun hS3 => ?_))
    show zp_wp X y_Mod_matchOfMember 24 [.ref 171, .int a, .int m, zm_mk, zm_mk] [.int (nI 0)] (zf_put (zf_put h 171 9 (nI 0)) 171 9 (nI 1)) Q
    refine zp_iret rfl rfl ?_
    exact hq _ (zr_9 hs hS hS3)
  | true =>
    cases hm : g_isM m with
    | false =>
      rw [ha, hm] at hq
      refine zp_aload_n (x := 171) rfl rfl ?_
      refine zp_iconst (v := (nI 0)) rfl (by decide +kernel) ?_
      refine zq_put hS rfl (by first | assumption | exact ⟨by decide, rfl⟩) rfl rfl (fun hS2 => ?_)
      have hS := hS2
      refine zp_iload_n (x := a) rfl rfl ?_
      refine zp_call rfl rfl (s_Mod_isClassName ?_)
      rw [ha]
      show zp_wp X y_Mod_matchOfMember 9 [.ref 171, .int a, .int m, zm_mk, zm_mk] [.int (nI 1)] (zf_put h 171 9 (nI 0)) Q
      refine zp_ifF (tgt := 19) rfl rfl (by decide +kernel) ?_
      refine zp_iload_n (x := m) rfl rfl ?_
      refine zp_call rfl rfl (s_Mod_isMemberName ?_)
      rw [hm]
      show zp_wp X y_Mod_matchOfMember 16 [.ref 171, .int a, .int m, zm_mk, zm_mk] [.int (nI 0)] (zf_put h 171 9 (nI 0)) Q
      refine zp_ifF (tgt := 25) rfl rfl (by decide +kernel) ?_
      refine zp_aload_n (x := 171) rfl rfl ?_
      refine zp_iconst (v := (nI 1)) rfl (by decide +kernel) ?_
      refine zq_virt hS rfl rfl (by first | assumption | exact ⟨by decide, rfl⟩) rfl (s_Mod_fails hS (fun hS3 => ?_))
      show zp_wp X y_Mod_matchOfMember 24 [.ref 171, .int a, .int m, zm_mk, zm_mk] [.int (nI 0)] (zf_put (zf_put h 171 9 (nI 0)) 171 9 (nI 1)) Q
      refine zp_iret rfl rfl ?_
      exact hq _ (zr_9 hs hS hS3)
    | true =>
      rw [ha, hm] at hq
      obtain ⟨ha1, ha2⟩ := g_okC ha
      obtain ⟨hm1, hm2⟩ := g_okM hm
      refine zp_aload_n (x := 171) rfl rfl ?_
      refine zp_iconst (v := (nI 0)) rfl (by decide +kernel) ?_
      refine zq_put hS rfl (by first | assumption | exact ⟨by decide, rfl⟩) rfl rfl (fun hS2 => ?_)
      have hS := hS2
      refine zp_iload_n (x := a) rfl rfl ?_
      refine zp_call rfl rfl (s_Mod_isClassName ?_)
      rw [ha]
      show zp_wp X y_Mod_matchOfMember 9 [.ref 171, .int a, .int m, zm_mk, zm_mk] [.int (nI 1)] (zf_put h 171 9 (nI 0)) Q
      refine zp_ifF (tgt := 19) rfl rfl (by decide +kernel) ?_
      refine zp_iload_n (x := m) rfl rfl ?_
      refine zp_call rfl rfl (s_Mod_isMemberName ?_)
      rw [hm]
      show zp_wp X y_Mod_matchOfMember 16 [.ref 171, .int a, .int m, zm_mk, zm_mk] [.int (nI 1)] (zf_put h 171 9 (nI 0)) Q
      refine zp_ifT (tgt := 25) rfl rfl (by decide +kernel) ?_
      clear ha hm
      generalize i2n a = a', i2n m = m' at *
      subst ha1 hm1
      have hs1 := zr_hs9 hs hS
      show zp_wp X y_Mod_matchOfMember 25 [.ref 171, .int (nI a'), .int (nI m'), zm_mk, zm_mk] [] (zf_put h 171 9 (nI 0)) Q
      refine zp_aload_n (x := 171) rfl rfl ?_
      refine zq_getr (k9 := 174) hS rfl (by first | assumption | exact ⟨by decide, rfl⟩) rfl ?_
      refine zp_iload_n (x := (nI a')) rfl rfl ?_
      refine zp_iload_n (x := (nI m')) rfl rfl ?_
      refine zp_call rfl rfl (t_Mod_memberOf hS ⟨by decide, rfl⟩ hs1.2.1.2.2 hB.1.2.2 (by omega) (by omega) ?_)
      cases hz : v_mem (g_b s) (v_cls (g_b s) a') m' with
      | none =>
        show zp_wp X y_Mod_matchOfMember 34 [.ref 171, .int (nI a'), .int (nI m'), zm_mk, zm_mk] [.int (-1)] (zf_put h 171 9 (nI 0)) Q
        refine zp_istore_n_3 rfl rfl ?_
        refine zp_iload_n (x := (-1)) rfl rfl ?_
        refine zp_ifF (tgt := 41) rfl rfl (by decide +kernel) ?_
        refine zp_iconst (v := (-1)) rfl (by decide +kernel) ?_
        refine zp_iret rfl rfl ?_
        first | (simp only [hz, hm] at hq; exact hq _ hD) | (rw [hz] at hq; exact hq _ ((zr_F.f9 (T := []) hS).D hs (by decide) (by decide) (zf_at9 hS zs_M rfl)))
      | some c =>
        have hc := (v_mem_lt hz).1
        show zp_wp X y_Mod_matchOfMember 34 [.ref 171, .int (nI a'), .int (nI m'), zm_mk, zm_mk] [.int (nI c)] (zf_put h 171 9 (nI 0)) Q
        refine zp_istore_n_3 rfl rfl ?_
        refine zp_iload_n (x := (nI c)) rfl rfl ?_
        refine zp_ifT (tgt := 41) rfl rfl (zc_ge (by omega)) ?_
        refine zp_aload_n (x := 171) rfl rfl ?_
        refine zp_aload_n (x := 171) rfl rfl ?_
        refine zq_getr (k9 := 173) hS rfl (by first | assumption | exact ⟨by decide, rfl⟩) rfl ?_
        refine zq_virt hS rfl rfl (by first | assumption | exact ⟨by decide, rfl⟩) rfl (s_Mod_matches (V := g_b s) (W := g_1 s) hS ⟨by decide, rfl⟩ hs1.2.1.2.2 hB.1.2.2 hs1.2.1.2.1 hB.1.2.1 (fun h2 hG hC hM hCl hMl => ?_))
        have hD : zr_D s 0 h h2 := hG.D hs1 (by decide) (by decide) (zf_at9 hS zs_M rfl) (zr_F.f9 hS)
        have hS := hG.1.1
        have hV2 := hD.1.2.1.2.1
        have hB2 := hB.1.2.1
        show zp_wp X y_Mod_matchOfMember 49 [.ref 171, .int (nI a'), .int (nI m'), .int (nI c), zm_mk] [] h2 Q
        refine zp_aload_n (x := 171) rfl rfl ?_
        refine zq_getr (k9 := 184) hS rfl (by first | assumption | exact ⟨by decide, rfl⟩) rfl ?_
        refine zp_iload_n (x := (nI c)) rfl rfl ?_
        refine zq_iald hS rfl (by first | assumption | exact ⟨by decide, rfl⟩) (by omega) (by first | decide | omega) ?_
        rw [hM c (by omega)]
        cases hm : v_mM (g_b s) (g_1 s) c with
        | none =>
          show zp_wp X y_Mod_matchOfMember 55 [.ref 171, .int (nI a'), .int (nI m'), .int (nI c), zm_mk] [.int (-1)] h2 Q
          refine zp_istore_4 rfl rfl ?_
          refine zp_iload (x := (-1)) rfl rfl ?_
          refine zp_ifF (tgt := 66) rfl rfl (by decide +kernel) ?_
          refine zp_iconst (v := (nI 0)) rfl (by decide +kernel) ?_
          refine zp_goto (tgt := 96) rfl rfl ?_
          refine zp_iret rfl rfl ?_
          first | (simp only [hz, hm] at hq; exact hq _ hD) | (rw [hz] at hq; exact hq _ ((zr_F.f9 (T := []) hS).D hs (by decide) (by decide) (zf_at9 hS zs_M rfl)))
        | some p =>
          have hp := hMl c hc p hm
          show zp_wp X y_Mod_matchOfMember 55 [.ref 171, .int (nI a'), .int (nI m'), .int (nI c), zm_mk] [.int (nI p)] h2 Q
          refine zp_istore_4 rfl rfl ?_
          refine zp_iload (x := (nI p)) rfl rfl ?_
          refine zp_ifT (tgt := 66) rfl rfl (zc_ge (by omega)) ?_
          refine zp_sipush (v := (nI 256)) rfl (by decide +kernel) ?_
          refine zp_aload_n (x := 171) rfl rfl ?_
          refine zq_getr (k9 := 173) hS rfl (by first | assumption | exact ⟨by decide, rfl⟩) rfl ?_
          refine zp_aload_n (x := 171) rfl rfl ?_
          refine zq_getr (k9 := 173) hS rfl (by first | assumption | exact ⟨by decide, rfl⟩) rfl ?_
          refine zp_bipush (v := (nI 64)) rfl (by decide +kernel) ?_
          refine zp_iload (x := (nI p)) rfl rfl ?_
          refine zp_iaddN rfl ?_
          refine zq_iald hS rfl (by first | assumption | exact ⟨by decide, rfl⟩) (by omega) (by first | decide | omega) ?_
          rw [hV2.2.2.2.1 (p) (by omega)]
          have q82 := hB2.2.2.2 (p) (by omega)
          refine zq_iald hS rfl (by first | assumption | exact ⟨by decide, rfl⟩) (by omega) (by first | decide | omega) ?_
          rw [hV2.1 (v_ow (g_1 s) (p)) (by omega)]
          have q83 := hB2.1 (v_ow (g_1 s) (p)) (by omega)
          refine zp_imulN rfl ?_
          refine zp_aload_n (x := 171) rfl rfl ?_
          refine zq_getr (k9 := 173) hS rfl (by first | assumption | exact ⟨by decide, rfl⟩) rfl ?_
          refine zp_bipush (v := (nI 24)) rfl (by decide +kernel) ?_
          refine zp_iload (x := (nI p)) rfl rfl ?_
          refine zp_iaddN rfl ?_
          refine zq_iald hS rfl (by first | assumption | exact ⟨by decide, rfl⟩) (by omega) (by first | decide | omega) ?_
          rw [hV2.2.2.1 (p) (by omega)]
          have q94 := hB2.2.2.1 (p) (by omega)
          refine zp_iaddN rfl ?_
          refine zp_iret rfl rfl ?_
          first | (simp only [hz, hm] at hq; exact hq _ hD) | (rw [hz] at hq; exact hq _ ((zr_F.f9 (T := []) hS).D hs (by decide) (by decide) (zf_at9 hS zs_M rfl)))
theorem s_Mod_isSelection {sel : Int32} {n : Nat} (hS : zs_H h) (hn : cf h 171 8 = nI n) (hq : Q (.inl (some (.int (zf_b (g_sel n sel))))) h) : zp_wm X y_Mod_isSelection [.ref 171, .int sel] h Q := by
  show zp_wp X y_Mod_isSelection 0 [.ref 171, .int sel] [] h Q
  unfold g_sel at hq
  refine zp_iload_n (x := sel) rfl rfl ?_
  refine zp_iconst (v := (-1)) rfl (by decide +kernel) ?_
  refine zp_icmp_eq (tgt := 18) rfl rfl (fun b2 => ?_) (fun b2 => ?_)
  · refine zp_iconst (v := (nI 1)) rfl (by decide +kernel) ?_
    refine zp_goto (tgt := 23) rfl rfl ?_
    refine zp_zret rfl rfl (by decide) ?_
    first
    | (rw [decide_eq_true b2] at hq; exact hq)
    | (rw [decide_eq_false b2, decide_eq_false (Int32.not_le.mpr b6)] at hq; exact hq)
    | (rw [decide_eq_false b2, decide_eq_true (Int32.not_lt.mp b6), decide_eq_false b15] at hq; exact hq)
    | (rw [decide_eq_false b2, decide_eq_true (Int32.not_lt.mp b6), decide_eq_true (Decidable.not_not.mp b15)] at hq; exact hq)
  · refine zp_iload_n (x := sel) rfl rfl ?_
    refine zp_if_lt (tgt := 22) rfl rfl (fun b6 => ?_) (fun b6 => ?_)
    · refine zp_iconst (v := (nI 0)) rfl (by decide +kernel) ?_
      refine zp_zret rfl rfl (by decide) ?_
      first
      | (rw [decide_eq_true b2] at hq; exact hq)
      | (rw [decide_eq_false b2, decide_eq_false (Int32.not_le.mpr b6)] at hq; exact hq)
      | (rw [decide_eq_false b2, decide_eq_true (Int32.not_lt.mp b6), decide_eq_false b15] at hq; exact hq)
      | (rw [decide_eq_false b2, decide_eq_true (Int32.not_lt.mp b6), decide_eq_true (Decidable.not_not.mp b15)] at hq; exact hq)
    · refine zp_iload_n (x := sel) rfl rfl ?_
      refine zp_aload_n (x := 171) rfl rfl ?_
      refine zq_geti hS rfl (by first | assumption | exact ⟨by decide, rfl⟩) rfl ?_
      rw [hn]
      refine zp_ishr rfl rfl ?_
      refine zp_if_ne (tgt := 22) rfl rfl (fun b15 => ?_) (fun b15 => ?_)
      · refine zp_iconst (v := (nI 0)) rfl (by decide +kernel) ?_
        refine zp_zret rfl rfl (by decide) ?_
        first
        | (rw [decide_eq_true b2] at hq; exact hq)
        | (rw [decide_eq_false b2, decide_eq_false (Int32.not_le.mpr b6)] at hq; exact hq)
        | (rw [decide_eq_false b2, decide_eq_true (Int32.not_lt.mp b6), decide_eq_false b15] at hq; exact hq)
        | (rw [decide_eq_false b2, decide_eq_true (Int32.not_lt.mp b6), decide_eq_true (Decidable.not_not.mp b15)] at hq; exact hq)
      · refine zp_iconst (v := (nI 1)) rfl (by decide +kernel) ?_
        refine zp_goto (tgt := 23) rfl rfl ?_
        refine zp_zret rfl rfl (by decide) ?_
        first
        | (rw [decide_eq_true b2] at hq; exact hq)
        | (rw [decide_eq_false b2, decide_eq_false (Int32.not_le.mpr b6)] at hq; exact hq)
        | (rw [decide_eq_false b2, decide_eq_true (Int32.not_lt.mp b6), decide_eq_false b15] at hq; exact hq)
        | (rw [decide_eq_false b2, decide_eq_true (Int32.not_lt.mp b6), decide_eq_true (Decidable.not_not.mp b15)] at hq; exact hq)
theorem zr_st.f {j : Nat} {x : Int32} (a : zr_st MV TG C M h) : zr_st MV TG C M (zf_put h 171 j x) := by
  obtain ⟨a1, a2, a3, a4⟩ := a
  refine ⟨?_, ?_, ?_, ?_⟩
  · rw [zf_ci (by decide)]; exact a1
  · rw [zf_ci (by decide)]; exact a2
  · rw [zf_ci (by decide)]; exact a3
  · rw [zf_ci (by decide)]; exact a4
theorem zr_st.G (a : zr_st MV TG C M h) (g : zr_G [] h h1) : zr_st MV TG C M h1 := by
  obtain ⟨a1, a2, a3, a4⟩ := a
  refine ⟨?_, ?_, ?_, ?_⟩
  · rw [g.gi (by decide) (by decide)]; exact a1
  · rw [g.gi (by decide) (by decide)]; exact a2
  · rw [g.gi (by decide) (by decide)]; exact a3
  · rw [g.gi (by decide) (by decide)]; exact a4
theorem s_Mod_nameFor {k : Option Nat} (hS : zs_H h) (hst : zr_st MV TG C M h) (hB : zv_B TG) (hCl : zo_lt C 12 12) (hk : ∀ i, k = some i → i < 12) (hq : Q (.inl (some (.int (nI (v_nmF TG C k))))) h) : zp_wm X y_Mod_nameFor [.ref 171, .int (zf_o k)] h Q := by
  obtain ⟨a1, a2, a3, a4⟩ := hst
  unfold v_nmF at hq
  cases k with
  | none =>
    show zp_wp X y_Mod_nameFor 0 [.ref 171, .int (-1)] [] h Q
    refine zp_iload_n (x := (-1)) rfl rfl ?_
    refine zp_ifT (tgt := 13) rfl rfl (by decide +kernel) ?_
    refine zp_iconst (v := (nI 0)) rfl (by decide +kernel) ?_
    refine zp_goto (tgt := 28) rfl rfl ?_
    refine zp_iret rfl rfl ?_
    exact hq
  | some k =>
    have hk := hk k rfl
    show zp_wp X y_Mod_nameFor 0 [.ref 171, .int (nI k)] [] h Q
    refine zp_iload_n (x := (nI k)) rfl rfl ?_
    refine zp_ifF (tgt := 13) rfl rfl (zc_lt (by omega)) ?_
    refine zp_aload_n (x := 171) rfl rfl ?_
    refine zq_getr (k9 := 183) hS rfl (by first | assumption | exact ⟨by decide, rfl⟩) rfl ?_
    refine zp_iload_n (x := (nI k)) rfl rfl ?_
    refine zq_iald hS rfl (by first | assumption | exact ⟨by decide, rfl⟩) (by omega) (by first | decide | omega) ?_
    rw [a3 k (by omega)]
    cases hm : C k with
    | none =>
      show zp_wp X y_Mod_nameFor 10 [.ref 171, .int (nI k)] [.int (-1)] h Q
      refine zp_ifF (tgt := 17) rfl rfl (by decide +kernel) ?_
      refine zp_iconst (v := (nI 0)) rfl (by decide +kernel) ?_
      refine zp_goto (tgt := 28) rfl rfl ?_
      refine zp_iret rfl rfl ?_
      simp only [hm] at hq; exact hq
    | some p =>
      have hp := hCl k hk p hm
      show zp_wp X y_Mod_nameFor 10 [.ref 171, .int (nI k)] [.int (nI p)] h Q
      refine zp_ifT (tgt := 17) rfl rfl (zc_ge (by omega)) ?_
      refine zp_aload_n (x := 171) rfl rfl ?_
      refine zq_getr (k9 := 186) hS rfl (by first | assumption | exact ⟨by decide, rfl⟩) rfl ?_
      refine zp_aload_n (x := 171) rfl rfl ?_
      refine zq_getr (k9 := 183) hS rfl (by first | assumption | exact ⟨by decide, rfl⟩) rfl ?_
      refine zp_iload_n (x := (nI k)) rfl rfl ?_
      refine zq_iald hS rfl (by first | assumption | exact ⟨by decide, rfl⟩) (by omega) (by first | decide | omega) ?_
      rw [a3 k (by omega)]
      rw [hm]
      show zp_wp X y_Mod_nameFor 27 [.ref 171, .int (nI k)] [.int (nI p), .ref 186] h Q
      refine zq_iald hS rfl (by first | assumption | exact ⟨by decide, rfl⟩) (by omega) (by first | decide | omega) ?_
      rw [a2.1 (p) (by omega)]
      have q27 := hB.1 (p) (by omega)
      refine zp_iret rfl rfl ?_
      simp only [hm] at hq; exact hq
theorem s_Mod_memberFor {a m : Nat} (hS : zs_H h) (hst : zr_st MV TG C M h) (hB : zv_B MV) (ha : a < 128) (hm : m < 128) (hq : Q (.inl (some (.int (zf_o (v_mbF MV M a m))))) h) : zp_wm X y_Mod_memberFor [.ref 171, .int (nI a), .int (nI m)] h Q := by
  obtain ⟨a1, a2, a3, a4⟩ := hst
  unfold v_mbF at hq
  show zp_wp X y_Mod_memberFor 0 [.ref 171, .int (nI a), .int (nI m), zm_mk] [] h Q
  refine zp_aload_n (x := 171) rfl rfl ?_
  refine zq_getr (k9 := 185) hS rfl (by first | assumption | exact ⟨by decide, rfl⟩) rfl ?_
  refine zp_iload_n (x := (nI a)) rfl rfl ?_
  refine zp_iload_n (x := (nI m)) rfl rfl ?_
  refine zp_call rfl rfl (t_Mod_memberOf hS ⟨by decide, rfl⟩ a1 hB (by omega) (by omega) ?_)
  cases hz : v_mem MV (v_cls MV a) m with
  | none =>
    show zp_wp X y_Mod_memberFor 9 [.ref 171, .int (nI a), .int (nI m), zm_mk] [.int (-1)] h Q
    refine zp_istore_n_3 rfl rfl ?_
    refine zp_iload_n (x := (-1)) rfl rfl ?_
    refine zp_ifF (tgt := 18) rfl rfl (by decide +kernel) ?_
    refine zp_iconst (v := (-1)) rfl (by decide +kernel) ?_
    refine zp_goto (tgt := 24) rfl rfl ?_
    refine zp_iret rfl rfl ?_
    rw [hz] at hq; exact hq
  | some k =>
    have hk := (v_mem_lt hz).1
    show zp_wp X y_Mod_memberFor 9 [.ref 171, .int (nI a), .int (nI m), zm_mk] [.int (nI k)] h Q
    refine zp_istore_n_3 rfl rfl ?_
    refine zp_iload_n (x := (nI k)) rfl rfl ?_
    refine zp_ifT (tgt := 18) rfl rfl (zc_ge (by omega)) ?_
    refine zp_aload_n (x := 171) rfl rfl ?_
    refine zq_getr (k9 := 184) hS rfl (by first | assumption | exact ⟨by decide, rfl⟩) rfl ?_
    refine zp_iload_n (x := (nI k)) rfl rfl ?_
    refine zq_iald hS rfl (by first | assumption | exact ⟨by decide, rfl⟩) (by omega) (by first | decide | omega) ?_
    rw [a4 k (by omega)]
    refine zp_iret rfl rfl ?_
    rw [hz] at hq; exact hq
theorem v_nmF_lt {k : Option Nat} (hB : zv_B TG) (hCl : zo_lt C 12 12) (hk : ∀ i, k = some i → i < 12) : v_nmF TG C k < 128 := by
  unfold v_nmF
  split
  · decide
  · rename_i c
    split
    · decide
    · rename_i p hp
      exact hB.1 p (hCl c (hk c rfl) p hp)
theorem v_mbF_40 {a m : Nat} (hMl : zo_lt M 40 40) : ∀ p, v_mbF MV M a m = some p → p < 40 := by
  intro p hp
  unfold v_mbF at hp
  split at hp
  · cases hp
  · rename_i k hk
    exact hMl k (v_mem_lt hk).1 p hp
theorem zr_G.f (g : zr_G T h h1) {j : Nat} {x : Int32} (hj : 21 ≤ j) (hS : zs_H (zf_put h1 171 j x)) : zr_G T h (zf_put h1 171 j x) := g.tr (zr_G.f21 (T := T) hj hS) (fun _ q => q)
theorem s_Mod_means {i : Nat} (hS : zs_H h) (hst : zr_st MV TG C M h) (hB : zv_B MV) (hB2 : zv_B TG) (hCl : zo_lt C 12 12) (hMl : zo_lt M 40 40) (hi : i < 30) (hw : zr_at c i (ci h 178)) (hc : zc_ok c) (hq : ∀ h', zr_G [] h h' → zr_p (v_plan MV TG C M c) h' → cf h' 171 10 = cf h 171 10 → Q (.inl (some (.int (zf_b (v_hasP MV TG C M c))))) h') : zp_wm X y_Mod_means [.ref 171, .int (nI i)] h Q := by
  show zp_wp X y_Mod_means 0 [.ref 171, .int (nI i), zm_mk, zm_mk, zm_mk, zm_mk] [] h Q
  have hS0 := hS
  obtain ⟨kind, a, m, b, n⟩ := c
  obtain ⟨k1, k2, k3, k4, k5⟩ := hc
  dsimp only at k1 k2 k3 k4 k5
  have mid : ∀ h', zr_G [] h h' → zr_p (kind, a, m, b, n) h' → cf h' 171 10 = cf h 171 10 → zp_wp X y_Mod_means 59 [.ref 171, .int (nI i), .int (nI (5 * i)), .int (nI kind), zm_mk, zm_mk] [] h' Q := by
    intro h' hG hp h10
    have hS := hG.1.1
    have hst := hst.G hG
    have hw : zr_at (kind, a, m, b, n) i (ci h' 178) := by rw [hG.gi (by decide) (by decide)]; exact hw
    obtain ⟨p1, p2, p3, p4⟩ := id hp
    obtain ⟨w0, w1, w2, w3, w4⟩ := hw
    dsimp only at w0 w1 w2 w3 w4 p1 p2 p3 p4
    have nA := v_nmF_lt (k := v_cls MV a) hB2 hCl v_cls_12
    have nB := v_nmF_lt (k := v_cls MV b) hB2 hCl v_cls_12
    have a2 := hst.2.1
    match kind, k1, hp, hq with
    | 0, _, hp, hq =>
      refine zp_iload_n (x := (nI 0)) rfl rfl ?_
      refine zp_ifF (tgt := 65) rfl rfl (by decide +kernel) ?_
      refine zp_iconst (v := (nI 1)) rfl (by decide +kernel) ?_
      refine zp_zret rfl rfl (by decide) ?_
      exact hq _ hG hp h10
    | 1, _, hp, hq =>
      refine zp_iload_n (x := (nI 1)) rfl rfl ?_
      refine zp_ifT (tgt := 65) rfl rfl (by decide +kernel) ?_
      refine zp_iload_n (x := (nI 1)) rfl rfl ?_
      refine zp_iconst (v := (nI 4)) rfl (by decide +kernel) ?_
      refine zp_icF (tgt := 96) rfl rfl (by decide +kernel) ?_
      refine zp_aload_n (x := 171) rfl rfl ?_
      refine zp_aload_n (x := 171) rfl rfl ?_
      refine zp_aload_n (x := 171) rfl rfl ?_
      refine zq_getr (k9 := 185) hS rfl (by first | assumption | exact ⟨by decide, rfl⟩) rfl ?_
      refine zp_aload_n (x := 171) rfl rfl ?_
      refine zq_getr (k9 := 178) hS rfl (by first | assumption | exact ⟨by decide, rfl⟩) rfl ?_
      refine zp_iload_n (x := (nI (5 * i))) rfl rfl ?_
      refine zp_iconst (v := (nI 1)) rfl (by decide +kernel) ?_
      refine zp_iaddN rfl ?_
      refine zq_iald hS rfl (by first | assumption | exact ⟨by decide, rfl⟩) (by omega) (by first | decide | omega) ?_
      rw [w1]
      refine zp_call rfl rfl (t_Mod_classAt hS ⟨by decide, rfl⟩ ((by first | exact hst | exact hst.f | exact hst.f.f | exact hst.f.f.f : zr_st MV TG C M _)).1 hB (by omega) ?_)
      show zp_wp X y_Mod_means 87 [.ref 171, .int (nI i), .int (nI (5 * i)), .int (nI 1), zm_mk, zm_mk] [.int (zf_o (v_cls MV a)), .ref 171, .ref 171] h' Q
      refine zq_virt hS rfl rfl (by first | assumption | exact ⟨by decide, rfl⟩) rfl (s_Mod_nameFor hS ((by first | exact hst | exact hst.f | exact hst.f.f | exact hst.f.f.f : zr_st MV TG C M _)) hB2 hCl v_cls_12 ?_)
      show zp_wp X y_Mod_means 90 [.ref 171, .int (nI i), .int (nI (5 * i)), .int (nI 1), zm_mk, zm_mk] [.int (nI (v_nmF TG C (v_cls MV a))), .ref 171] h' Q
      refine zq_put hS rfl (by first | assumption | exact ⟨by decide, rfl⟩) rfl rfl (fun hS90 => ?_)
      have hS := hS90
      refine zp_goto (tgt := 169) rfl rfl ?_
      refine zp_aload_n (x := 171) rfl rfl ?_
      refine zq_geti hS rfl (by first | assumption | exact ⟨by decide, rfl⟩) rfl ?_
      rw [zf_at9 hS90 (by first | assumption | exact ⟨by decide, rfl⟩) rfl]
      refine zp_ifN_eq (tgt := 180) rfl rfl (by omega) (fun b173 => ?_) (fun b173 => ?_)
      · refine zp_iconst (v := (nI 0)) rfl (by decide +kernel) ?_
        refine zp_istore_4 rfl rfl ?_
        refine zp_iload_n (x := (nI 1)) rfl rfl ?_
        refine zp_bipush (v := (nI 7)) rfl (by decide +kernel) ?_
        refine zp_icF (tgt := 201) rfl rfl (by decide +kernel) ?_
        refine zp_iload_n (x := (nI 1)) rfl rfl ?_
        refine zp_iconst (v := (nI 3)) rfl (by decide +kernel) ?_
        refine zp_icT (tgt := 243) rfl rfl (by decide +kernel) ?_
        refine zp_iload_n (x := (nI 1)) rfl rfl ?_
        refine zp_bipush (v := (nI 8)) rfl (by decide +kernel) ?_
        refine zp_icT (tgt := 339) rfl rfl (by decide +kernel) ?_
        refine zp_iload (x := (nI 0)) rfl rfl ?_
        refine zp_zret rfl rfl (by decide) ?_
        have hv : v_hasP MV TG C M (1, a, m, b, n) = false := by first | (simp [v_hasP, v_plan, v_pA, v_pM, v_pB, v_pN, v_onm, v_mnm, b173]; done)
        have hpl : v_plan MV TG C M (1, a, m, b, n) = (1, (v_nmF TG C (v_cls MV a)), m, b, n) := by first | (simp [v_hasP, v_plan, v_pA, v_pM, v_pB, v_pN, v_onm, v_mnm, b173]; done)
        rw [hv, hpl] at hq
        exact hq _ (hG.f (by decide) hS90) ⟨(by exact zf_at9 hS90 zs_M rfl), (by rw [zf_nj (by decide)]; exact p2), (by rw [zf_nj (by decide)]; exact p3), (by rw [zf_nj (by decide)]; exact p4)⟩ (by rw [zf_nj (by decide)]; exact h10)
      · refine zp_iconst (v := (nI 1)) rfl (by decide +kernel) ?_
        refine zp_goto (tgt := 181) rfl rfl ?_
        refine zp_istore_4 rfl rfl ?_
        refine zp_iload_n (x := (nI 1)) rfl rfl ?_
        refine zp_bipush (v := (nI 7)) rfl (by decide +kernel) ?_
        refine zp_icF (tgt := 201) rfl rfl (by decide +kernel) ?_
        refine zp_iload_n (x := (nI 1)) rfl rfl ?_
        refine zp_iconst (v := (nI 3)) rfl (by decide +kernel) ?_
        refine zp_icT (tgt := 243) rfl rfl (by decide +kernel) ?_
        refine zp_iload_n (x := (nI 1)) rfl rfl ?_
        refine zp_bipush (v := (nI 8)) rfl (by decide +kernel) ?_
        refine zp_icT (tgt := 339) rfl rfl (by decide +kernel) ?_
        refine zp_iload (x := (nI 1)) rfl rfl ?_
        refine zp_zret rfl rfl (by decide) ?_
        have hv : v_hasP MV TG C M (1, a, m, b, n) = true := by first | (simp [v_hasP, v_plan, v_pA, v_pM, v_pB, v_pN, v_onm, v_mnm, b173]; done)
        have hpl : v_plan MV TG C M (1, a, m, b, n) = (1, (v_nmF TG C (v_cls MV a)), m, b, n) := by first | (simp [v_hasP, v_plan, v_pA, v_pM, v_pB, v_pN, v_onm, v_mnm, b173]; done)
        rw [hv, hpl] at hq
        exact hq _ (hG.f (by decide) hS90) ⟨(by exact zf_at9 hS90 zs_M rfl), (by rw [zf_nj (by decide)]; exact p2), (by rw [zf_nj (by decide)]; exact p3), (by rw [zf_nj (by decide)]; exact p4)⟩ (by rw [zf_nj (by decide)]; exact h10)
    | 2, _, hp, hq =>
      refine zp_iload_n (x := (nI 2)) rfl rfl ?_
      refine zp_ifT (tgt := 65) rfl rfl (by decide +kernel) ?_
      refine zp_iload_n (x := (nI 2)) rfl rfl ?_
      refine zp_iconst (v := (nI 4)) rfl (by decide +kernel) ?_
      refine zp_icF (tgt := 96) rfl rfl (by decide +kernel) ?_
      refine zp_aload_n (x := 171) rfl rfl ?_
      refine zp_aload_n (x := 171) rfl rfl ?_
      refine zp_aload_n (x := 171) rfl rfl ?_
      refine zq_getr (k9 := 185) hS rfl (by first | assumption | exact ⟨by decide, rfl⟩) rfl ?_
      refine zp_aload_n (x := 171) rfl rfl ?_
      refine zq_getr (k9 := 178) hS rfl (by first | assumption | exact ⟨by decide, rfl⟩) rfl ?_
      refine zp_iload_n (x := (nI (5 * i))) rfl rfl ?_
      refine zp_iconst (v := (nI 1)) rfl (by decide +kernel) ?_
      refine zp_iaddN rfl ?_
      refine zq_iald hS rfl (by first | assumption | exact ⟨by decide, rfl⟩) (by omega) (by first | decide | omega) ?_
      rw [w1]
      refine zp_call rfl rfl (t_Mod_classAt hS ⟨by decide, rfl⟩ ((by first | exact hst | exact hst.f | exact hst.f.f | exact hst.f.f.f : zr_st MV TG C M _)).1 hB (by omega) ?_)
      show zp_wp X y_Mod_means 87 [.ref 171, .int (nI i), .int (nI (5 * i)), .int (nI 2), zm_mk, zm_mk] [.int (zf_o (v_cls MV a)), .ref 171, .ref 171] h' Q
      refine zq_virt hS rfl rfl (by first | assumption | exact ⟨by decide, rfl⟩) rfl (s_Mod_nameFor hS ((by first | exact hst | exact hst.f | exact hst.f.f | exact hst.f.f.f : zr_st MV TG C M _)) hB2 hCl v_cls_12 ?_)
      show zp_wp X y_Mod_means 90 [.ref 171, .int (nI i), .int (nI (5 * i)), .int (nI 2), zm_mk, zm_mk] [.int (nI (v_nmF TG C (v_cls MV a))), .ref 171] h' Q
      refine zq_put hS rfl (by first | assumption | exact ⟨by decide, rfl⟩) rfl rfl (fun hS90 => ?_)
      have hS := hS90
      refine zp_goto (tgt := 169) rfl rfl ?_
      refine zp_aload_n (x := 171) rfl rfl ?_
      refine zq_geti hS rfl (by first | assumption | exact ⟨by decide, rfl⟩) rfl ?_
      rw [zf_at9 hS90 (by first | assumption | exact ⟨by decide, rfl⟩) rfl]
      refine zp_ifN_eq (tgt := 180) rfl rfl (by omega) (fun b173 => ?_) (fun b173 => ?_)
      · refine zp_iconst (v := (nI 0)) rfl (by decide +kernel) ?_
        refine zp_istore_4 rfl rfl ?_
        refine zp_iload_n (x := (nI 2)) rfl rfl ?_
        refine zp_bipush (v := (nI 7)) rfl (by decide +kernel) ?_
        refine zp_icF (tgt := 201) rfl rfl (by decide +kernel) ?_
        refine zp_iload_n (x := (nI 2)) rfl rfl ?_
        refine zp_iconst (v := (nI 3)) rfl (by decide +kernel) ?_
        refine zp_icT (tgt := 243) rfl rfl (by decide +kernel) ?_
        refine zp_iload_n (x := (nI 2)) rfl rfl ?_
        refine zp_bipush (v := (nI 8)) rfl (by decide +kernel) ?_
        refine zp_icT (tgt := 339) rfl rfl (by decide +kernel) ?_
        refine zp_iload (x := (nI 0)) rfl rfl ?_
        refine zp_zret rfl rfl (by decide) ?_
        have hv : v_hasP MV TG C M (2, a, m, b, n) = false := by first | (simp [v_hasP, v_plan, v_pA, v_pM, v_pB, v_pN, v_onm, v_mnm, b173]; done)
        have hpl : v_plan MV TG C M (2, a, m, b, n) = (2, (v_nmF TG C (v_cls MV a)), m, b, n) := by first | (simp [v_hasP, v_plan, v_pA, v_pM, v_pB, v_pN, v_onm, v_mnm, b173]; done)
        rw [hv, hpl] at hq
        exact hq _ (hG.f (by decide) hS90) ⟨(by exact zf_at9 hS90 zs_M rfl), (by rw [zf_nj (by decide)]; exact p2), (by rw [zf_nj (by decide)]; exact p3), (by rw [zf_nj (by decide)]; exact p4)⟩ (by rw [zf_nj (by decide)]; exact h10)
      · refine zp_iconst (v := (nI 1)) rfl (by decide +kernel) ?_
        refine zp_goto (tgt := 181) rfl rfl ?_
        refine zp_istore_4 rfl rfl ?_
        refine zp_iload_n (x := (nI 2)) rfl rfl ?_
        refine zp_bipush (v := (nI 7)) rfl (by decide +kernel) ?_
        refine zp_icF (tgt := 201) rfl rfl (by decide +kernel) ?_
        refine zp_iload_n (x := (nI 2)) rfl rfl ?_
        refine zp_iconst (v := (nI 3)) rfl (by decide +kernel) ?_
        refine zp_icT (tgt := 243) rfl rfl (by decide +kernel) ?_
        refine zp_iload_n (x := (nI 2)) rfl rfl ?_
        refine zp_bipush (v := (nI 8)) rfl (by decide +kernel) ?_
        refine zp_icT (tgt := 339) rfl rfl (by decide +kernel) ?_
        refine zp_iload (x := (nI 1)) rfl rfl ?_
        refine zp_zret rfl rfl (by decide) ?_
        have hv : v_hasP MV TG C M (2, a, m, b, n) = true := by first | (simp [v_hasP, v_plan, v_pA, v_pM, v_pB, v_pN, v_onm, v_mnm, b173]; done)
        have hpl : v_plan MV TG C M (2, a, m, b, n) = (2, (v_nmF TG C (v_cls MV a)), m, b, n) := by first | (simp [v_hasP, v_plan, v_pA, v_pM, v_pB, v_pN, v_onm, v_mnm, b173]; done)
        rw [hv, hpl] at hq
        exact hq _ (hG.f (by decide) hS90) ⟨(by exact zf_at9 hS90 zs_M rfl), (by rw [zf_nj (by decide)]; exact p2), (by rw [zf_nj (by decide)]; exact p3), (by rw [zf_nj (by decide)]; exact p4)⟩ (by rw [zf_nj (by decide)]; exact h10)
    | 3, _, hp, hq =>
      refine zp_iload_n (x := (nI 3)) rfl rfl ?_
      refine zp_ifT (tgt := 65) rfl rfl (by decide +kernel) ?_
      refine zp_iload_n (x := (nI 3)) rfl rfl ?_
      refine zp_iconst (v := (nI 4)) rfl (by decide +kernel) ?_
      refine zp_icF (tgt := 96) rfl rfl (by decide +kernel) ?_
      refine zp_aload_n (x := 171) rfl rfl ?_
      refine zp_aload_n (x := 171) rfl rfl ?_
      refine zp_aload_n (x := 171) rfl rfl ?_
      refine zq_getr (k9 := 185) hS rfl (by first | assumption | exact ⟨by decide, rfl⟩) rfl ?_
      refine zp_aload_n (x := 171) rfl rfl ?_
      refine zq_getr (k9 := 178) hS rfl (by first | assumption | exact ⟨by decide, rfl⟩) rfl ?_
      refine zp_iload_n (x := (nI (5 * i))) rfl rfl ?_
      refine zp_iconst (v := (nI 1)) rfl (by decide +kernel) ?_
      refine zp_iaddN rfl ?_
      refine zq_iald hS rfl (by first | assumption | exact ⟨by decide, rfl⟩) (by omega) (by first | decide | omega) ?_
      rw [w1]
      refine zp_call rfl rfl (t_Mod_classAt hS ⟨by decide, rfl⟩ ((by first | exact hst | exact hst.f | exact hst.f.f | exact hst.f.f.f : zr_st MV TG C M _)).1 hB (by omega) ?_)
      show zp_wp X y_Mod_means 87 [.ref 171, .int (nI i), .int (nI (5 * i)), .int (nI 3), zm_mk, zm_mk] [.int (zf_o (v_cls MV a)), .ref 171, .ref 171] h' Q
      refine zq_virt hS rfl rfl (by first | assumption | exact ⟨by decide, rfl⟩) rfl (s_Mod_nameFor hS ((by first | exact hst | exact hst.f | exact hst.f.f | exact hst.f.f.f : zr_st MV TG C M _)) hB2 hCl v_cls_12 ?_)
      show zp_wp X y_Mod_means 90 [.ref 171, .int (nI i), .int (nI (5 * i)), .int (nI 3), zm_mk, zm_mk] [.int (nI (v_nmF TG C (v_cls MV a))), .ref 171] h' Q
      refine zq_put hS rfl (by first | assumption | exact ⟨by decide, rfl⟩) rfl rfl (fun hS90 => ?_)
      have hS := hS90
      refine zp_goto (tgt := 169) rfl rfl ?_
      refine zp_aload_n (x := 171) rfl rfl ?_
      refine zq_geti hS rfl (by first | assumption | exact ⟨by decide, rfl⟩) rfl ?_
      rw [zf_at9 hS90 (by first | assumption | exact ⟨by decide, rfl⟩) rfl]
      refine zp_ifN_eq (tgt := 180) rfl rfl (by omega) (fun b173 => ?_) (fun b173 => ?_)
      · refine zp_iconst (v := (nI 0)) rfl (by decide +kernel) ?_
        refine zp_istore_4 rfl rfl ?_
        refine zp_iload_n (x := (nI 3)) rfl rfl ?_
        refine zp_bipush (v := (nI 7)) rfl (by decide +kernel) ?_
        refine zp_icF (tgt := 201) rfl rfl (by decide +kernel) ?_
        refine zp_iload_n (x := (nI 3)) rfl rfl ?_
        refine zp_iconst (v := (nI 3)) rfl (by decide +kernel) ?_
        refine zp_icF (tgt := 243) rfl rfl (by decide +kernel) ?_
        refine zp_aload_n (x := 171) rfl rfl ?_
        refine zq_geti hS rfl (by first | assumption | exact ⟨by decide, rfl⟩) rfl ?_
        rw [zf_nj (by decide)]
        rw [p3]
        refine zp_ifN_eq (tgt := 243) rfl rfl (by omega) (fun b198 => ?_) (fun b198 => ?_)
        · refine zp_iload_n (x := (nI 3)) rfl rfl ?_
          refine zp_bipush (v := (nI 8)) rfl (by decide +kernel) ?_
          refine zp_icT (tgt := 339) rfl rfl (by decide +kernel) ?_
          refine zp_iload (x := (nI 0)) rfl rfl ?_
          refine zp_zret rfl rfl (by decide) ?_
          have hv : v_hasP MV TG C M (3, a, m, b, n) = false := by first | (simp [v_hasP, v_plan, v_pA, v_pM, v_pB, v_pN, v_onm, v_mnm, b173, b198, b233]; done) | (simp [v_hasP, v_plan, v_pA, v_pM, v_pB, v_pN, v_onm, v_mnm, b173, b198]; done)
          have hpl : v_plan MV TG C M (3, a, m, b, n) = (3, (v_nmF TG C (v_cls MV a)), m, b, n) := by first | (simp [v_hasP, v_plan, v_pA, v_pM, v_pB, v_pN, v_onm, v_mnm, b173, b198, b233]; done) | (simp [v_hasP, v_plan, v_pA, v_pM, v_pB, v_pN, v_onm, v_mnm, b173, b198]; done)
          rw [hv, hpl] at hq
          exact hq _ (hG.f (by decide) hS90) ⟨(by exact zf_at9 hS90 zs_M rfl), (by rw [zf_nj (by decide)]; exact p2), (by rw [zf_nj (by decide)]; exact p3), (by rw [zf_nj (by decide)]; exact p4)⟩ (by rw [zf_nj (by decide)]; exact h10)
        · refine zp_aload_n (x := 171) rfl rfl ?_
          refine zp_aload_n (x := 171) rfl rfl ?_
          refine zp_aload_n (x := 171) rfl rfl ?_
          refine zq_getr (k9 := 185) hS rfl (by first | assumption | exact ⟨by decide, rfl⟩) rfl ?_
          refine zp_aload_n (x := 171) rfl rfl ?_
          refine zq_getr (k9 := 178) hS rfl (by first | assumption | exact ⟨by decide, rfl⟩) rfl ?_
          refine zp_iload_n (x := (nI (5 * i))) rfl rfl ?_
          refine zp_iconst (v := (nI 3)) rfl (by decide +kernel) ?_
          refine zp_iaddN rfl ?_
          refine zq_iald hS rfl (by first | assumption | exact ⟨by decide, rfl⟩) (by omega) (by first | decide | omega) ?_
          rw [zf_ci (a := 171) (b := 178) (by decide)]
          rw [w3]
          refine zp_call rfl rfl (t_Mod_classAt hS ⟨by decide, rfl⟩ ((by first | exact hst | exact hst.f | exact hst.f.f | exact hst.f.f.f : zr_st MV TG C M _)).1 hB (by omega) ?_)
          show zp_wp X y_Mod_means 218 [.ref 171, .int (nI i), .int (nI (5 * i)), .int (nI 3), .int (nI 0), zm_mk] [.int (zf_o (v_cls MV b)), .ref 171, .ref 171] (zf_put h' 171 21 (nI (v_nmF TG C (v_cls MV a)))) Q
          refine zq_virt hS rfl rfl (by first | assumption | exact ⟨by decide, rfl⟩) rfl (s_Mod_nameFor hS ((by first | exact hst | exact hst.f | exact hst.f.f | exact hst.f.f.f : zr_st MV TG C M _)) hB2 hCl v_cls_12 ?_)
          show zp_wp X y_Mod_means 221 [.ref 171, .int (nI i), .int (nI (5 * i)), .int (nI 3), .int (nI 0), zm_mk] [.int (nI (v_nmF TG C (v_cls MV b))), .ref 171] (zf_put h' 171 21 (nI (v_nmF TG C (v_cls MV a)))) Q
          refine zq_put hS rfl (by first | assumption | exact ⟨by decide, rfl⟩) rfl rfl (fun hS221 => ?_)
          have hS := hS221
          refine zp_iload (x := (nI 0)) rfl rfl ?_
          refine zp_ifT (tgt := 240) rfl rfl (by decide +kernel) ?_
          refine zp_iconst (v := (nI 0)) rfl (by decide +kernel) ?_
          refine zp_istore_4 rfl rfl ?_
          refine zp_iload_n (x := (nI 3)) rfl rfl ?_
          refine zp_bipush (v := (nI 8)) rfl (by decide +kernel) ?_
          refine zp_icT (tgt := 339) rfl rfl (by decide +kernel) ?_
          refine zp_iload (x := (nI 0)) rfl rfl ?_
          refine zp_zret rfl rfl (by decide) ?_
          have hv : v_hasP MV TG C M (3, a, m, b, n) = false := by first | (simp [v_hasP, v_plan, v_pA, v_pM, v_pB, v_pN, v_onm, v_mnm, b173, b198, b233]; done) | (simp [v_hasP, v_plan, v_pA, v_pM, v_pB, v_pN, v_onm, v_mnm, b173, b198]; done)
          have hpl : v_plan MV TG C M (3, a, m, b, n) = (3, (v_nmF TG C (v_cls MV a)), m, (v_nmF TG C (v_cls MV b)), n) := by first | (simp [v_hasP, v_plan, v_pA, v_pM, v_pB, v_pN, v_onm, v_mnm, b173, b198, b233]; done) | (simp [v_hasP, v_plan, v_pA, v_pM, v_pB, v_pN, v_onm, v_mnm, b173, b198]; done)
          rw [hv, hpl] at hq
          exact hq _ ((hG.f (by decide) hS90).f (by decide) hS221) ⟨(by rw [zf_nj (by decide)]; exact zf_at9 hS90 zs_M rfl), (by rw [zf_nj (by decide), zf_nj (by decide)]; exact p2), (by exact zf_at9 hS221 zs_M rfl), (by rw [zf_nj (by decide), zf_nj (by decide)]; exact p4)⟩ (by rw [zf_nj (by decide), zf_nj (by decide)]; exact h10)
      · refine zp_iconst (v := (nI 1)) rfl (by decide +kernel) ?_
        refine zp_goto (tgt := 181) rfl rfl ?_
        refine zp_istore_4 rfl rfl ?_
        refine zp_iload_n (x := (nI 3)) rfl rfl ?_
        refine zp_bipush (v := (nI 7)) rfl (by decide +kernel) ?_
        refine zp_icF (tgt := 201) rfl rfl (by decide +kernel) ?_
        refine zp_iload_n (x := (nI 3)) rfl rfl ?_
        refine zp_iconst (v := (nI 3)) rfl (by decide +kernel) ?_
        refine zp_icF (tgt := 243) rfl rfl (by decide +kernel) ?_
        refine zp_aload_n (x := 171) rfl rfl ?_
        refine zq_geti hS rfl (by first | assumption | exact ⟨by decide, rfl⟩) rfl ?_
        rw [zf_nj (by decide)]
        rw [p3]
        refine zp_ifN_eq (tgt := 243) rfl rfl (by omega) (fun b198 => ?_) (fun b198 => ?_)
        · refine zp_iload_n (x := (nI 3)) rfl rfl ?_
          refine zp_bipush (v := (nI 8)) rfl (by decide +kernel) ?_
          refine zp_icT (tgt := 339) rfl rfl (by decide +kernel) ?_
          refine zp_iload (x := (nI 1)) rfl rfl ?_
          refine zp_zret rfl rfl (by decide) ?_
          have hv : v_hasP MV TG C M (3, a, m, b, n) = true := by first | (simp [v_hasP, v_plan, v_pA, v_pM, v_pB, v_pN, v_onm, v_mnm, b173, b198, b233]; done) | (simp [v_hasP, v_plan, v_pA, v_pM, v_pB, v_pN, v_onm, v_mnm, b173, b198]; done)
          have hpl : v_plan MV TG C M (3, a, m, b, n) = (3, (v_nmF TG C (v_cls MV a)), m, b, n) := by first | (simp [v_hasP, v_plan, v_pA, v_pM, v_pB, v_pN, v_onm, v_mnm, b173, b198, b233]; done) | (simp [v_hasP, v_plan, v_pA, v_pM, v_pB, v_pN, v_onm, v_mnm, b173, b198]; done)
          rw [hv, hpl] at hq
          exact hq _ (hG.f (by decide) hS90) ⟨(by exact zf_at9 hS90 zs_M rfl), (by rw [zf_nj (by decide)]; exact p2), (by rw [zf_nj (by decide)]; exact p3), (by rw [zf_nj (by decide)]; exact p4)⟩ (by rw [zf_nj (by decide)]; exact h10)
        · refine zp_aload_n (x := 171) rfl rfl ?_
          refine zp_aload_n (x := 171) rfl rfl ?_
          refine zp_aload_n (x := 171) rfl rfl ?_
          refine zq_getr (k9 := 185) hS rfl (by first | assumption | exact ⟨by decide, rfl⟩) rfl ?_
          refine zp_aload_n (x := 171) rfl rfl ?_
          refine zq_getr (k9 := 178) hS rfl (by first | assumption | exact ⟨by decide, rfl⟩) rfl ?_
          refine zp_iload_n (x := (nI (5 * i))) rfl rfl ?_
          refine zp_iconst (v := (nI 3)) rfl (by decide +kernel) ?_
          refine zp_iaddN rfl ?_
          refine zq_iald hS rfl (by first | assumption | exact ⟨by decide, rfl⟩) (by omega) (by first | decide | omega) ?_
          rw [zf_ci (a := 171) (b := 178) (by decide)]
          rw [w3]
          refine zp_call rfl rfl (t_Mod_classAt hS ⟨by decide, rfl⟩ ((by first | exact hst | exact hst.f | exact hst.f.f | exact hst.f.f.f : zr_st MV TG C M _)).1 hB (by omega) ?_)
          show zp_wp X y_Mod_means 218 [.ref 171, .int (nI i), .int (nI (5 * i)), .int (nI 3), .int (nI 1), zm_mk] [.int (zf_o (v_cls MV b)), .ref 171, .ref 171] (zf_put h' 171 21 (nI (v_nmF TG C (v_cls MV a)))) Q
          refine zq_virt hS rfl rfl (by first | assumption | exact ⟨by decide, rfl⟩) rfl (s_Mod_nameFor hS ((by first | exact hst | exact hst.f | exact hst.f.f | exact hst.f.f.f : zr_st MV TG C M _)) hB2 hCl v_cls_12 ?_)
          show zp_wp X y_Mod_means 221 [.ref 171, .int (nI i), .int (nI (5 * i)), .int (nI 3), .int (nI 1), zm_mk] [.int (nI (v_nmF TG C (v_cls MV b))), .ref 171] (zf_put h' 171 21 (nI (v_nmF TG C (v_cls MV a)))) Q
          refine zq_put hS rfl (by first | assumption | exact ⟨by decide, rfl⟩) rfl rfl (fun hS221 => ?_)
          have hS := hS221
          refine zp_iload (x := (nI 1)) rfl rfl ?_
          refine zp_ifF (tgt := 240) rfl rfl (by decide +kernel) ?_
          refine zp_aload_n (x := 171) rfl rfl ?_
          refine zq_geti hS rfl (by first | assumption | exact ⟨by decide, rfl⟩) rfl ?_
          rw [zf_at9 hS221 (by first | assumption | exact ⟨by decide, rfl⟩) rfl]
          refine zp_ifN_eq (tgt := 240) rfl rfl (by omega) (fun b233 => ?_) (fun b233 => ?_)
          · refine zp_iconst (v := (nI 0)) rfl (by decide +kernel) ?_
            refine zp_istore_4 rfl rfl ?_
            refine zp_iload_n (x := (nI 3)) rfl rfl ?_
            refine zp_bipush (v := (nI 8)) rfl (by decide +kernel) ?_
            refine zp_icT (tgt := 339) rfl rfl (by decide +kernel) ?_
            refine zp_iload (x := (nI 0)) rfl rfl ?_
            refine zp_zret rfl rfl (by decide) ?_
            have hv : v_hasP MV TG C M (3, a, m, b, n) = false := by first | (simp [v_hasP, v_plan, v_pA, v_pM, v_pB, v_pN, v_onm, v_mnm, b173, b198, b233]; done) | (simp [v_hasP, v_plan, v_pA, v_pM, v_pB, v_pN, v_onm, v_mnm, b173, b198]; done)
            have hpl : v_plan MV TG C M (3, a, m, b, n) = (3, (v_nmF TG C (v_cls MV a)), m, (v_nmF TG C (v_cls MV b)), n) := by first | (simp [v_hasP, v_plan, v_pA, v_pM, v_pB, v_pN, v_onm, v_mnm, b173, b198, b233]; done) | (simp [v_hasP, v_plan, v_pA, v_pM, v_pB, v_pN, v_onm, v_mnm, b173, b198]; done)
            rw [hv, hpl] at hq
            exact hq _ ((hG.f (by decide) hS90).f (by decide) hS221) ⟨(by rw [zf_nj (by decide)]; exact zf_at9 hS90 zs_M rfl), (by rw [zf_nj (by decide), zf_nj (by decide)]; exact p2), (by exact zf_at9 hS221 zs_M rfl), (by rw [zf_nj (by decide), zf_nj (by decide)]; exact p4)⟩ (by rw [zf_nj (by decide), zf_nj (by decide)]; exact h10)
          · refine zp_iconst (v := (nI 1)) rfl (by decide +kernel) ?_
            refine zp_goto (tgt := 241) rfl rfl ?_
            refine zp_istore_4 rfl rfl ?_
            refine zp_iload_n (x := (nI 3)) rfl rfl ?_
            refine zp_bipush (v := (nI 8)) rfl (by decide +kernel) ?_
            refine zp_icT (tgt := 339) rfl rfl (by decide +kernel) ?_
            refine zp_iload (x := (nI 1)) rfl rfl ?_
            refine zp_zret rfl rfl (by decide) ?_
            have hv : v_hasP MV TG C M (3, a, m, b, n) = true := by first | (simp [v_hasP, v_plan, v_pA, v_pM, v_pB, v_pN, v_onm, v_mnm, b173, b198, b233]; done) | (simp [v_hasP, v_plan, v_pA, v_pM, v_pB, v_pN, v_onm, v_mnm, b173, b198]; done)
            have hpl : v_plan MV TG C M (3, a, m, b, n) = (3, (v_nmF TG C (v_cls MV a)), m, (v_nmF TG C (v_cls MV b)), n) := by first | (simp [v_hasP, v_plan, v_pA, v_pM, v_pB, v_pN, v_onm, v_mnm, b173, b198, b233]; done) | (simp [v_hasP, v_plan, v_pA, v_pM, v_pB, v_pN, v_onm, v_mnm, b173, b198]; done)
            rw [hv, hpl] at hq
            exact hq _ ((hG.f (by decide) hS90).f (by decide) hS221) ⟨(by rw [zf_nj (by decide)]; exact zf_at9 hS90 zs_M rfl), (by rw [zf_nj (by decide), zf_nj (by decide)]; exact p2), (by exact zf_at9 hS221 zs_M rfl), (by rw [zf_nj (by decide), zf_nj (by decide)]; exact p4)⟩ (by rw [zf_nj (by decide), zf_nj (by decide)]; exact h10)
    | 4, _, hp, hq =>
      refine zp_iload_n (x := (nI 4)) rfl rfl ?_
      refine zp_ifT (tgt := 65) rfl rfl (by decide +kernel) ?_
      refine zp_iload_n (x := (nI 4)) rfl rfl ?_
      refine zp_iconst (v := (nI 4)) rfl (by decide +kernel) ?_
      refine zp_icF (tgt := 96) rfl rfl (by decide +kernel) ?_
      refine zp_aload_n (x := 171) rfl rfl ?_
      refine zp_aload_n (x := 171) rfl rfl ?_
      refine zp_aload_n (x := 171) rfl rfl ?_
      refine zq_getr (k9 := 185) hS rfl (by first | assumption | exact ⟨by decide, rfl⟩) rfl ?_
      refine zp_aload_n (x := 171) rfl rfl ?_
      refine zq_getr (k9 := 178) hS rfl (by first | assumption | exact ⟨by decide, rfl⟩) rfl ?_
      refine zp_iload_n (x := (nI (5 * i))) rfl rfl ?_
      refine zp_iconst (v := (nI 1)) rfl (by decide +kernel) ?_
      refine zp_iaddN rfl ?_
      refine zq_iald hS rfl (by first | assumption | exact ⟨by decide, rfl⟩) (by omega) (by first | decide | omega) ?_
      rw [w1]
      refine zp_call rfl rfl (t_Mod_classAt hS ⟨by decide, rfl⟩ ((by first | exact hst | exact hst.f | exact hst.f.f | exact hst.f.f.f : zr_st MV TG C M _)).1 hB (by omega) ?_)
      show zp_wp X y_Mod_means 87 [.ref 171, .int (nI i), .int (nI (5 * i)), .int (nI 4), zm_mk, zm_mk] [.int (zf_o (v_cls MV a)), .ref 171, .ref 171] h' Q
      refine zq_virt hS rfl rfl (by first | assumption | exact ⟨by decide, rfl⟩) rfl (s_Mod_nameFor hS ((by first | exact hst | exact hst.f | exact hst.f.f | exact hst.f.f.f : zr_st MV TG C M _)) hB2 hCl v_cls_12 ?_)
      show zp_wp X y_Mod_means 90 [.ref 171, .int (nI i), .int (nI (5 * i)), .int (nI 4), zm_mk, zm_mk] [.int (nI (v_nmF TG C (v_cls MV a))), .ref 171] h' Q
      refine zq_put hS rfl (by first | assumption | exact ⟨by decide, rfl⟩) rfl rfl (fun hS90 => ?_)
      have hS := hS90
      refine zp_goto (tgt := 169) rfl rfl ?_
      refine zp_aload_n (x := 171) rfl rfl ?_
      refine zq_geti hS rfl (by first | assumption | exact ⟨by decide, rfl⟩) rfl ?_
      rw [zf_at9 hS90 (by first | assumption | exact ⟨by decide, rfl⟩) rfl]
      refine zp_ifN_eq (tgt := 180) rfl rfl (by omega) (fun b173 => ?_) (fun b173 => ?_)
      · refine zp_iconst (v := (nI 0)) rfl (by decide +kernel) ?_
        refine zp_istore_4 rfl rfl ?_
        refine zp_iload_n (x := (nI 4)) rfl rfl ?_
        refine zp_bipush (v := (nI 7)) rfl (by decide +kernel) ?_
        refine zp_icF (tgt := 201) rfl rfl (by decide +kernel) ?_
        refine zp_iload_n (x := (nI 4)) rfl rfl ?_
        refine zp_iconst (v := (nI 3)) rfl (by decide +kernel) ?_
        refine zp_icT (tgt := 243) rfl rfl (by decide +kernel) ?_
        refine zp_iload_n (x := (nI 4)) rfl rfl ?_
        refine zp_bipush (v := (nI 8)) rfl (by decide +kernel) ?_
        refine zp_icT (tgt := 339) rfl rfl (by decide +kernel) ?_
        refine zp_iload (x := (nI 0)) rfl rfl ?_
        refine zp_zret rfl rfl (by decide) ?_
        have hv : v_hasP MV TG C M (4, a, m, b, n) = false := by first | (simp [v_hasP, v_plan, v_pA, v_pM, v_pB, v_pN, v_onm, v_mnm, b173]; done)
        have hpl : v_plan MV TG C M (4, a, m, b, n) = (4, (v_nmF TG C (v_cls MV a)), m, b, n) := by first | (simp [v_hasP, v_plan, v_pA, v_pM, v_pB, v_pN, v_onm, v_mnm, b173]; done)
        rw [hv, hpl] at hq
        exact hq _ (hG.f (by decide) hS90) ⟨(by exact zf_at9 hS90 zs_M rfl), (by rw [zf_nj (by decide)]; exact p2), (by rw [zf_nj (by decide)]; exact p3), (by rw [zf_nj (by decide)]; exact p4)⟩ (by rw [zf_nj (by decide)]; exact h10)
      · refine zp_iconst (v := (nI 1)) rfl (by decide +kernel) ?_
        refine zp_goto (tgt := 181) rfl rfl ?_
        refine zp_istore_4 rfl rfl ?_
        refine zp_iload_n (x := (nI 4)) rfl rfl ?_
        refine zp_bipush (v := (nI 7)) rfl (by decide +kernel) ?_
        refine zp_icF (tgt := 201) rfl rfl (by decide +kernel) ?_
        refine zp_iload_n (x := (nI 4)) rfl rfl ?_
        refine zp_iconst (v := (nI 3)) rfl (by decide +kernel) ?_
        refine zp_icT (tgt := 243) rfl rfl (by decide +kernel) ?_
        refine zp_iload_n (x := (nI 4)) rfl rfl ?_
        refine zp_bipush (v := (nI 8)) rfl (by decide +kernel) ?_
        refine zp_icT (tgt := 339) rfl rfl (by decide +kernel) ?_
        refine zp_iload (x := (nI 1)) rfl rfl ?_
        refine zp_zret rfl rfl (by decide) ?_
        have hv : v_hasP MV TG C M (4, a, m, b, n) = true := by first | (simp [v_hasP, v_plan, v_pA, v_pM, v_pB, v_pN, v_onm, v_mnm, b173]; done)
        have hpl : v_plan MV TG C M (4, a, m, b, n) = (4, (v_nmF TG C (v_cls MV a)), m, b, n) := by first | (simp [v_hasP, v_plan, v_pA, v_pM, v_pB, v_pN, v_onm, v_mnm, b173]; done)
        rw [hv, hpl] at hq
        exact hq _ (hG.f (by decide) hS90) ⟨(by exact zf_at9 hS90 zs_M rfl), (by rw [zf_nj (by decide)]; exact p2), (by rw [zf_nj (by decide)]; exact p3), (by rw [zf_nj (by decide)]; exact p4)⟩ (by rw [zf_nj (by decide)]; exact h10)
    | 5, _, hp, hq =>
      refine zp_iload_n (x := (nI 5)) rfl rfl ?_
      refine zp_ifT (tgt := 65) rfl rfl (by decide +kernel) ?_
      refine zp_iload_n (x := (nI 5)) rfl rfl ?_
      refine zp_iconst (v := (nI 4)) rfl (by decide +kernel) ?_
      refine zp_icT (tgt := 96) rfl rfl (by decide +kernel) ?_
      refine zp_aload_n (x := 171) rfl rfl ?_
      refine zp_aload_n (x := 171) rfl rfl ?_
      refine zq_getr (k9 := 178) hS rfl (by first | assumption | exact ⟨by decide, rfl⟩) rfl ?_
      refine zp_iload_n (x := (nI (5 * i))) rfl rfl ?_
      refine zp_iconst (v := (nI 1)) rfl (by decide +kernel) ?_
      refine zp_iaddN rfl ?_
      refine zq_iald hS rfl (by first | assumption | exact ⟨by decide, rfl⟩) (by omega) (by first | decide | omega) ?_
      rw [w1]
      refine zp_aload_n (x := 171) rfl rfl ?_
      refine zq_getr (k9 := 178) hS rfl (by first | assumption | exact ⟨by decide, rfl⟩) rfl ?_
      refine zp_iload_n (x := (nI (5 * i))) rfl rfl ?_
      refine zp_iconst (v := (nI 2)) rfl (by decide +kernel) ?_
      refine zp_iaddN rfl ?_
      refine zq_iald hS rfl (by first | assumption | exact ⟨by decide, rfl⟩) (by omega) (by first | decide | omega) ?_
      rw [w2]
      refine zq_virt hS rfl rfl (by first | assumption | exact ⟨by decide, rfl⟩) rfl (s_Mod_memberFor hS ((by first | exact hst | exact hst.f | exact hst.f.f | exact hst.f.f.f : zr_st MV TG C M _)) hB (by omega) (by omega) ?_)
      cases hz : v_mbF MV M a m with
      | none =>
        show zp_wp X y_Mod_means 116 [.ref 171, .int (nI i), .int (nI (5 * i)), .int (nI 5), zm_mk, zm_mk] [.int (-1)] h' Q
        refine zp_istore_4 rfl rfl ?_
        refine zp_aload_n (x := 171) rfl rfl ?_
        refine zp_iload (x := (-1)) rfl rfl ?_
        refine zp_ifF (tgt := 128) rfl rfl (by decide +kernel) ?_
        refine zp_iconst (v := (nI 0)) rfl (by decide +kernel) ?_
        refine zp_goto (tgt := 143) rfl rfl ?_
        refine zq_put hS rfl (by first | assumption | exact ⟨by decide, rfl⟩) rfl rfl (fun hS143 => ?_)
        have hS := hS143
        refine zp_aload_n (x := 171) rfl rfl ?_
        refine zp_iload (x := (-1)) rfl rfl ?_
        refine zp_ifF (tgt := 156) rfl rfl (by decide +kernel) ?_
        refine zp_iconst (v := (nI 0)) rfl (by decide +kernel) ?_
        refine zp_goto (tgt := 166) rfl rfl ?_
        refine zq_put hS rfl (by first | assumption | exact ⟨by decide, rfl⟩) rfl rfl (fun hS166 => ?_)
        have hS := hS166
        refine zp_aload_n (x := 171) rfl rfl ?_
        refine zq_geti hS rfl (by first | assumption | exact ⟨by decide, rfl⟩) rfl ?_
        rw [zf_nj (by decide), zf_at9 hS143 (by first | assumption | exact ⟨by decide, rfl⟩) rfl]
        refine zp_ifT (tgt := 180) rfl rfl (by decide +kernel) ?_
        refine zp_iconst (v := (nI 0)) rfl (by decide +kernel) ?_
        refine zp_istore_4 rfl rfl ?_
        refine zp_iload_n (x := (nI 5)) rfl rfl ?_
        refine zp_bipush (v := (nI 7)) rfl (by decide +kernel) ?_
        refine zp_icF (tgt := 201) rfl rfl (by decide +kernel) ?_
        refine zp_iload_n (x := (nI 5)) rfl rfl ?_
        refine zp_iconst (v := (nI 3)) rfl (by decide +kernel) ?_
        refine zp_icT (tgt := 243) rfl rfl (by decide +kernel) ?_
        refine zp_iload_n (x := (nI 5)) rfl rfl ?_
        refine zp_bipush (v := (nI 8)) rfl (by decide +kernel) ?_
        refine zp_icT (tgt := 339) rfl rfl (by decide +kernel) ?_
        refine zp_iload (x := (nI 0)) rfl rfl ?_
        refine zp_zret rfl rfl (by decide) ?_
        have hv : v_hasP MV TG C M (5, a, m, b, n) = false := by first | (simp [v_hasP, v_plan, v_pA, v_pM, v_pB, v_pN, v_onm, v_mnm, hz, b173]; done) | (simp [v_hasP, v_plan, v_pA, v_pM, v_pB, v_pN, v_onm, v_mnm, hz]; done)
        have hpl : v_plan MV TG C M (5, a, m, b, n) = (5, 0, 0, b, n) := by first | (simp [v_hasP, v_plan, v_pA, v_pM, v_pB, v_pN, v_onm, v_mnm, hz, b173]; done) | (simp [v_hasP, v_plan, v_pA, v_pM, v_pB, v_pN, v_onm, v_mnm, hz]; done)
        rw [hv, hpl] at hq
        exact hq _ ((hG.f (by decide) hS143).f (by decide) hS166) ⟨(by rw [zf_nj (by decide)]; exact zf_at9 hS143 zs_M rfl), (by exact zf_at9 hS166 zs_M rfl), (by rw [zf_nj (by decide), zf_nj (by decide)]; exact p3), (by rw [zf_nj (by decide), zf_nj (by decide)]; exact p4)⟩ (by rw [zf_nj (by decide), zf_nj (by decide)]; exact h10)
      | some p =>
        have hp40 := v_mbF_40 hMl p hz
        show zp_wp X y_Mod_means 116 [.ref 171, .int (nI i), .int (nI (5 * i)), .int (nI 5), zm_mk, zm_mk] [.int (nI p)] h' Q
        refine zp_istore_4 rfl rfl ?_
        refine zp_aload_n (x := 171) rfl rfl ?_
        refine zp_iload (x := (nI p)) rfl rfl ?_
        refine zp_ifT (tgt := 128) rfl rfl (zc_ge (by omega)) ?_
        refine zp_aload_n (x := 171) rfl rfl ?_
        refine zq_getr (k9 := 186) hS rfl (by first | assumption | exact ⟨by decide, rfl⟩) rfl ?_
        refine zp_aload_n (x := 171) rfl rfl ?_
        refine zq_getr (k9 := 186) hS rfl (by first | assumption | exact ⟨by decide, rfl⟩) rfl ?_
        refine zp_bipush (v := (nI 64)) rfl (by decide +kernel) ?_
        refine zp_iload (x := (nI p)) rfl rfl ?_
        refine zp_iaddN rfl ?_
        refine zq_iald hS rfl (by first | assumption | exact ⟨by decide, rfl⟩) (by omega) (by first | decide | omega) ?_
        rw [a2.2.2.2.1 (p) (by omega)]
        have q141 := hB2.2.2.2 (p) (by omega)
        refine zq_iald hS rfl (by first | assumption | exact ⟨by decide, rfl⟩) (by omega) (by first | decide | omega) ?_
        rw [a2.1 (v_ow TG (p)) (by omega)]
        have q142 := hB2.1 (v_ow TG (p)) (by omega)
        refine zq_put hS rfl (by first | assumption | exact ⟨by decide, rfl⟩) rfl rfl (fun hS143 => ?_)
        have hS := hS143
        refine zp_aload_n (x := 171) rfl rfl ?_
        refine zp_iload (x := (nI p)) rfl rfl ?_
        refine zp_ifT (tgt := 156) rfl rfl (zc_ge (by omega)) ?_
        refine zp_aload_n (x := 171) rfl rfl ?_
        refine zq_getr (k9 := 186) hS rfl (by first | assumption | exact ⟨by decide, rfl⟩) rfl ?_
        refine zp_bipush (v := (nI 24)) rfl (by decide +kernel) ?_
        refine zp_iload (x := (nI p)) rfl rfl ?_
        refine zp_iaddN rfl ?_
        refine zq_iald hS rfl (by first | assumption | exact ⟨by decide, rfl⟩) (by omega) (by first | decide | omega) ?_
        rw [zf_ci (a := 171) (b := 186) (by decide)]
        rw [a2.2.2.1 (p) (by omega)]
        have q165 := hB2.2.2.1 (p) (by omega)
        refine zq_put hS rfl (by first | assumption | exact ⟨by decide, rfl⟩) rfl rfl (fun hS166 => ?_)
        have hS := hS166
        refine zp_aload_n (x := 171) rfl rfl ?_
        refine zq_geti hS rfl (by first | assumption | exact ⟨by decide, rfl⟩) rfl ?_
        rw [zf_nj (by decide), zf_at9 hS143 (by first | assumption | exact ⟨by decide, rfl⟩) rfl]
        refine zp_ifN_eq (tgt := 180) rfl rfl (by omega) (fun b173 => ?_) (fun b173 => ?_)
        · refine zp_iconst (v := (nI 0)) rfl (by decide +kernel) ?_
          refine zp_istore_4 rfl rfl ?_
          refine zp_iload_n (x := (nI 5)) rfl rfl ?_
          refine zp_bipush (v := (nI 7)) rfl (by decide +kernel) ?_
          refine zp_icF (tgt := 201) rfl rfl (by decide +kernel) ?_
          refine zp_iload_n (x := (nI 5)) rfl rfl ?_
          refine zp_iconst (v := (nI 3)) rfl (by decide +kernel) ?_
          refine zp_icT (tgt := 243) rfl rfl (by decide +kernel) ?_
          refine zp_iload_n (x := (nI 5)) rfl rfl ?_
          refine zp_bipush (v := (nI 8)) rfl (by decide +kernel) ?_
          refine zp_icT (tgt := 339) rfl rfl (by decide +kernel) ?_
          refine zp_iload (x := (nI 0)) rfl rfl ?_
          refine zp_zret rfl rfl (by decide) ?_
          have hv : v_hasP MV TG C M (5, a, m, b, n) = false := by first | (simp [v_hasP, v_plan, v_pA, v_pM, v_pB, v_pN, v_onm, v_mnm, hz, b173]; done) | (simp [v_hasP, v_plan, v_pA, v_pM, v_pB, v_pN, v_onm, v_mnm, hz]; done)
          have hpl : v_plan MV TG C M (5, a, m, b, n) = (5, (v_cn TG (v_ow TG (p))), (v_mn TG (p)), b, n) := by first | (simp [v_hasP, v_plan, v_pA, v_pM, v_pB, v_pN, v_onm, v_mnm, hz, b173]; done) | (simp [v_hasP, v_plan, v_pA, v_pM, v_pB, v_pN, v_onm, v_mnm, hz]; done)
          rw [hv, hpl] at hq
          exact hq _ ((hG.f (by decide) hS143).f (by decide) hS166) ⟨(by rw [zf_nj (by decide)]; exact zf_at9 hS143 zs_M rfl), (by exact zf_at9 hS166 zs_M rfl), (by rw [zf_nj (by decide), zf_nj (by decide)]; exact p3), (by rw [zf_nj (by decide), zf_nj (by decide)]; exact p4)⟩ (by rw [zf_nj (by decide), zf_nj (by decide)]; exact h10)
        · refine zp_iconst (v := (nI 1)) rfl (by decide +kernel) ?_
          refine zp_goto (tgt := 181) rfl rfl ?_
          refine zp_istore_4 rfl rfl ?_
          refine zp_iload_n (x := (nI 5)) rfl rfl ?_
          refine zp_bipush (v := (nI 7)) rfl (by decide +kernel) ?_
          refine zp_icF (tgt := 201) rfl rfl (by decide +kernel) ?_
          refine zp_iload_n (x := (nI 5)) rfl rfl ?_
          refine zp_iconst (v := (nI 3)) rfl (by decide +kernel) ?_
          refine zp_icT (tgt := 243) rfl rfl (by decide +kernel) ?_
          refine zp_iload_n (x := (nI 5)) rfl rfl ?_
          refine zp_bipush (v := (nI 8)) rfl (by decide +kernel) ?_
          refine zp_icT (tgt := 339) rfl rfl (by decide +kernel) ?_
          refine zp_iload (x := (nI 1)) rfl rfl ?_
          refine zp_zret rfl rfl (by decide) ?_
          have hv : v_hasP MV TG C M (5, a, m, b, n) = true := by first | (simp [v_hasP, v_plan, v_pA, v_pM, v_pB, v_pN, v_onm, v_mnm, hz, b173]; done) | (simp [v_hasP, v_plan, v_pA, v_pM, v_pB, v_pN, v_onm, v_mnm, hz]; done)
          have hpl : v_plan MV TG C M (5, a, m, b, n) = (5, (v_cn TG (v_ow TG (p))), (v_mn TG (p)), b, n) := by first | (simp [v_hasP, v_plan, v_pA, v_pM, v_pB, v_pN, v_onm, v_mnm, hz, b173]; done) | (simp [v_hasP, v_plan, v_pA, v_pM, v_pB, v_pN, v_onm, v_mnm, hz]; done)
          rw [hv, hpl] at hq
          exact hq _ ((hG.f (by decide) hS143).f (by decide) hS166) ⟨(by rw [zf_nj (by decide)]; exact zf_at9 hS143 zs_M rfl), (by exact zf_at9 hS166 zs_M rfl), (by rw [zf_nj (by decide), zf_nj (by decide)]; exact p3), (by rw [zf_nj (by decide), zf_nj (by decide)]; exact p4)⟩ (by rw [zf_nj (by decide), zf_nj (by decide)]; exact h10)
    | 6, _, hp, hq =>
      refine zp_iload_n (x := (nI 6)) rfl rfl ?_
      refine zp_ifT (tgt := 65) rfl rfl (by decide +kernel) ?_
      refine zp_iload_n (x := (nI 6)) rfl rfl ?_
      refine zp_iconst (v := (nI 4)) rfl (by decide +kernel) ?_
      refine zp_icT (tgt := 96) rfl rfl (by decide +kernel) ?_
      refine zp_aload_n (x := 171) rfl rfl ?_
      refine zp_aload_n (x := 171) rfl rfl ?_
      refine zq_getr (k9 := 178) hS rfl (by first | assumption | exact ⟨by decide, rfl⟩) rfl ?_
      refine zp_iload_n (x := (nI (5 * i))) rfl rfl ?_
      refine zp_iconst (v := (nI 1)) rfl (by decide +kernel) ?_
      refine zp_iaddN rfl ?_
      refine zq_iald hS rfl (by first | assumption | exact ⟨by decide, rfl⟩) (by omega) (by first | decide | omega) ?_
      rw [w1]
      refine zp_aload_n (x := 171) rfl rfl ?_
      refine zq_getr (k9 := 178) hS rfl (by first | assumption | exact ⟨by decide, rfl⟩) rfl ?_
      refine zp_iload_n (x := (nI (5 * i))) rfl rfl ?_
      refine zp_iconst (v := (nI 2)) rfl (by decide +kernel) ?_
      refine zp_iaddN rfl ?_
      refine zq_iald hS rfl (by first | assumption | exact ⟨by decide, rfl⟩) (by omega) (by first | decide | omega) ?_
      rw [w2]
      refine zq_virt hS rfl rfl (by first | assumption | exact ⟨by decide, rfl⟩) rfl (s_Mod_memberFor hS ((by first | exact hst | exact hst.f | exact hst.f.f | exact hst.f.f.f : zr_st MV TG C M _)) hB (by omega) (by omega) ?_)
      cases hz : v_mbF MV M a m with
      | none =>
        show zp_wp X y_Mod_means 116 [.ref 171, .int (nI i), .int (nI (5 * i)), .int (nI 6), zm_mk, zm_mk] [.int (-1)] h' Q
        refine zp_istore_4 rfl rfl ?_
        refine zp_aload_n (x := 171) rfl rfl ?_
        refine zp_iload (x := (-1)) rfl rfl ?_
        refine zp_ifF (tgt := 128) rfl rfl (by decide +kernel) ?_
        refine zp_iconst (v := (nI 0)) rfl (by decide +kernel) ?_
        refine zp_goto (tgt := 143) rfl rfl ?_
        refine zq_put hS rfl (by first | assumption | exact ⟨by decide, rfl⟩) rfl rfl (fun hS143 => ?_)
        have hS := hS143
        refine zp_aload_n (x := 171) rfl rfl ?_
        refine zp_iload (x := (-1)) rfl rfl ?_
        refine zp_ifF (tgt := 156) rfl rfl (by decide +kernel) ?_
        refine zp_iconst (v := (nI 0)) rfl (by decide +kernel) ?_
        refine zp_goto (tgt := 166) rfl rfl ?_
        refine zq_put hS rfl (by first | assumption | exact ⟨by decide, rfl⟩) rfl rfl (fun hS166 => ?_)
        have hS := hS166
        refine zp_aload_n (x := 171) rfl rfl ?_
        refine zq_geti hS rfl (by first | assumption | exact ⟨by decide, rfl⟩) rfl ?_
        rw [zf_nj (by decide), zf_at9 hS143 (by first | assumption | exact ⟨by decide, rfl⟩) rfl]
        refine zp_ifT (tgt := 180) rfl rfl (by decide +kernel) ?_
        refine zp_iconst (v := (nI 0)) rfl (by decide +kernel) ?_
        refine zp_istore_4 rfl rfl ?_
        refine zp_iload_n (x := (nI 6)) rfl rfl ?_
        refine zp_bipush (v := (nI 7)) rfl (by decide +kernel) ?_
        refine zp_icF (tgt := 201) rfl rfl (by decide +kernel) ?_
        refine zp_iload_n (x := (nI 6)) rfl rfl ?_
        refine zp_iconst (v := (nI 3)) rfl (by decide +kernel) ?_
        refine zp_icT (tgt := 243) rfl rfl (by decide +kernel) ?_
        refine zp_iload_n (x := (nI 6)) rfl rfl ?_
        refine zp_bipush (v := (nI 8)) rfl (by decide +kernel) ?_
        refine zp_icT (tgt := 339) rfl rfl (by decide +kernel) ?_
        refine zp_iload (x := (nI 0)) rfl rfl ?_
        refine zp_zret rfl rfl (by decide) ?_
        have hv : v_hasP MV TG C M (6, a, m, b, n) = false := by first | (simp [v_hasP, v_plan, v_pA, v_pM, v_pB, v_pN, v_onm, v_mnm, hz, b173]; done) | (simp [v_hasP, v_plan, v_pA, v_pM, v_pB, v_pN, v_onm, v_mnm, hz]; done)
        have hpl : v_plan MV TG C M (6, a, m, b, n) = (6, 0, 0, b, n) := by first | (simp [v_hasP, v_plan, v_pA, v_pM, v_pB, v_pN, v_onm, v_mnm, hz, b173]; done) | (simp [v_hasP, v_plan, v_pA, v_pM, v_pB, v_pN, v_onm, v_mnm, hz]; done)
        rw [hv, hpl] at hq
        exact hq _ ((hG.f (by decide) hS143).f (by decide) hS166) ⟨(by rw [zf_nj (by decide)]; exact zf_at9 hS143 zs_M rfl), (by exact zf_at9 hS166 zs_M rfl), (by rw [zf_nj (by decide), zf_nj (by decide)]; exact p3), (by rw [zf_nj (by decide), zf_nj (by decide)]; exact p4)⟩ (by rw [zf_nj (by decide), zf_nj (by decide)]; exact h10)
      | some p =>
        have hp40 := v_mbF_40 hMl p hz
        show zp_wp X y_Mod_means 116 [.ref 171, .int (nI i), .int (nI (5 * i)), .int (nI 6), zm_mk, zm_mk] [.int (nI p)] h' Q
        refine zp_istore_4 rfl rfl ?_
        refine zp_aload_n (x := 171) rfl rfl ?_
        refine zp_iload (x := (nI p)) rfl rfl ?_
        refine zp_ifT (tgt := 128) rfl rfl (zc_ge (by omega)) ?_
        refine zp_aload_n (x := 171) rfl rfl ?_
        refine zq_getr (k9 := 186) hS rfl (by first | assumption | exact ⟨by decide, rfl⟩) rfl ?_
        refine zp_aload_n (x := 171) rfl rfl ?_
        refine zq_getr (k9 := 186) hS rfl (by first | assumption | exact ⟨by decide, rfl⟩) rfl ?_
        refine zp_bipush (v := (nI 64)) rfl (by decide +kernel) ?_
        refine zp_iload (x := (nI p)) rfl rfl ?_
        refine zp_iaddN rfl ?_
        refine zq_iald hS rfl (by first | assumption | exact ⟨by decide, rfl⟩) (by omega) (by first | decide | omega) ?_
        rw [a2.2.2.2.1 (p) (by omega)]
        have q141 := hB2.2.2.2 (p) (by omega)
        refine zq_iald hS rfl (by first | assumption | exact ⟨by decide, rfl⟩) (by omega) (by first | decide | omega) ?_
        rw [a2.1 (v_ow TG (p)) (by omega)]
        have q142 := hB2.1 (v_ow TG (p)) (by omega)
        refine zq_put hS rfl (by first | assumption | exact ⟨by decide, rfl⟩) rfl rfl (fun hS143 => ?_)
        have hS := hS143
        refine zp_aload_n (x := 171) rfl rfl ?_
        refine zp_iload (x := (nI p)) rfl rfl ?_
        refine zp_ifT (tgt := 156) rfl rfl (zc_ge (by omega)) ?_
        refine zp_aload_n (x := 171) rfl rfl ?_
        refine zq_getr (k9 := 186) hS rfl (by first | assumption | exact ⟨by decide, rfl⟩) rfl ?_
        refine zp_bipush (v := (nI 24)) rfl (by decide +kernel) ?_
        refine zp_iload (x := (nI p)) rfl rfl ?_
        refine zp_iaddN rfl ?_
        refine zq_iald hS rfl (by first | assumption | exact ⟨by decide, rfl⟩) (by omega) (by first | decide | omega) ?_
        rw [zf_ci (a := 171) (b := 186) (by decide)]
        rw [a2.2.2.1 (p) (by omega)]
        have q165 := hB2.2.2.1 (p) (by omega)
        refine zq_put hS rfl (by first | assumption | exact ⟨by decide, rfl⟩) rfl rfl (fun hS166 => ?_)
        have hS := hS166
        refine zp_aload_n (x := 171) rfl rfl ?_
        refine zq_geti hS rfl (by first | assumption | exact ⟨by decide, rfl⟩) rfl ?_
        rw [zf_nj (by decide), zf_at9 hS143 (by first | assumption | exact ⟨by decide, rfl⟩) rfl]
        refine zp_ifN_eq (tgt := 180) rfl rfl (by omega) (fun b173 => ?_) (fun b173 => ?_)
        · refine zp_iconst (v := (nI 0)) rfl (by decide +kernel) ?_
          refine zp_istore_4 rfl rfl ?_
          refine zp_iload_n (x := (nI 6)) rfl rfl ?_
          refine zp_bipush (v := (nI 7)) rfl (by decide +kernel) ?_
          refine zp_icF (tgt := 201) rfl rfl (by decide +kernel) ?_
          refine zp_iload_n (x := (nI 6)) rfl rfl ?_
          refine zp_iconst (v := (nI 3)) rfl (by decide +kernel) ?_
          refine zp_icT (tgt := 243) rfl rfl (by decide +kernel) ?_
          refine zp_iload_n (x := (nI 6)) rfl rfl ?_
          refine zp_bipush (v := (nI 8)) rfl (by decide +kernel) ?_
          refine zp_icT (tgt := 339) rfl rfl (by decide +kernel) ?_
          refine zp_iload (x := (nI 0)) rfl rfl ?_
          refine zp_zret rfl rfl (by decide) ?_
          have hv : v_hasP MV TG C M (6, a, m, b, n) = false := by first | (simp [v_hasP, v_plan, v_pA, v_pM, v_pB, v_pN, v_onm, v_mnm, hz, b173]; done) | (simp [v_hasP, v_plan, v_pA, v_pM, v_pB, v_pN, v_onm, v_mnm, hz]; done)
          have hpl : v_plan MV TG C M (6, a, m, b, n) = (6, (v_cn TG (v_ow TG (p))), (v_mn TG (p)), b, n) := by first | (simp [v_hasP, v_plan, v_pA, v_pM, v_pB, v_pN, v_onm, v_mnm, hz, b173]; done) | (simp [v_hasP, v_plan, v_pA, v_pM, v_pB, v_pN, v_onm, v_mnm, hz]; done)
          rw [hv, hpl] at hq
          exact hq _ ((hG.f (by decide) hS143).f (by decide) hS166) ⟨(by rw [zf_nj (by decide)]; exact zf_at9 hS143 zs_M rfl), (by exact zf_at9 hS166 zs_M rfl), (by rw [zf_nj (by decide), zf_nj (by decide)]; exact p3), (by rw [zf_nj (by decide), zf_nj (by decide)]; exact p4)⟩ (by rw [zf_nj (by decide), zf_nj (by decide)]; exact h10)
        · refine zp_iconst (v := (nI 1)) rfl (by decide +kernel) ?_
          refine zp_goto (tgt := 181) rfl rfl ?_
          refine zp_istore_4 rfl rfl ?_
          refine zp_iload_n (x := (nI 6)) rfl rfl ?_
          refine zp_bipush (v := (nI 7)) rfl (by decide +kernel) ?_
          refine zp_icF (tgt := 201) rfl rfl (by decide +kernel) ?_
          refine zp_iload_n (x := (nI 6)) rfl rfl ?_
          refine zp_iconst (v := (nI 3)) rfl (by decide +kernel) ?_
          refine zp_icT (tgt := 243) rfl rfl (by decide +kernel) ?_
          refine zp_iload_n (x := (nI 6)) rfl rfl ?_
          refine zp_bipush (v := (nI 8)) rfl (by decide +kernel) ?_
          refine zp_icT (tgt := 339) rfl rfl (by decide +kernel) ?_
          refine zp_iload (x := (nI 1)) rfl rfl ?_
          refine zp_zret rfl rfl (by decide) ?_
          have hv : v_hasP MV TG C M (6, a, m, b, n) = true := by first | (simp [v_hasP, v_plan, v_pA, v_pM, v_pB, v_pN, v_onm, v_mnm, hz, b173]; done) | (simp [v_hasP, v_plan, v_pA, v_pM, v_pB, v_pN, v_onm, v_mnm, hz]; done)
          have hpl : v_plan MV TG C M (6, a, m, b, n) = (6, (v_cn TG (v_ow TG (p))), (v_mn TG (p)), b, n) := by first | (simp [v_hasP, v_plan, v_pA, v_pM, v_pB, v_pN, v_onm, v_mnm, hz, b173]; done) | (simp [v_hasP, v_plan, v_pA, v_pM, v_pB, v_pN, v_onm, v_mnm, hz]; done)
          rw [hv, hpl] at hq
          exact hq _ ((hG.f (by decide) hS143).f (by decide) hS166) ⟨(by rw [zf_nj (by decide)]; exact zf_at9 hS143 zs_M rfl), (by exact zf_at9 hS166 zs_M rfl), (by rw [zf_nj (by decide), zf_nj (by decide)]; exact p3), (by rw [zf_nj (by decide), zf_nj (by decide)]; exact p4)⟩ (by rw [zf_nj (by decide), zf_nj (by decide)]; exact h10)
    | 7, _, hp, hq =>
      refine zp_iload_n (x := (nI 7)) rfl rfl ?_
      refine zp_ifT (tgt := 65) rfl rfl (by decide +kernel) ?_
      refine zp_iload_n (x := (nI 7)) rfl rfl ?_
      refine zp_iconst (v := (nI 4)) rfl (by decide +kernel) ?_
      refine zp_icT (tgt := 96) rfl rfl (by decide +kernel) ?_
      refine zp_aload_n (x := 171) rfl rfl ?_
      refine zp_aload_n (x := 171) rfl rfl ?_
      refine zq_getr (k9 := 178) hS rfl (by first | assumption | exact ⟨by decide, rfl⟩) rfl ?_
      refine zp_iload_n (x := (nI (5 * i))) rfl rfl ?_
      refine zp_iconst (v := (nI 1)) rfl (by decide +kernel) ?_
      refine zp_iaddN rfl ?_
      refine zq_iald hS rfl (by first | assumption | exact ⟨by decide, rfl⟩) (by omega) (by first | decide | omega) ?_
      rw [w1]
      refine zp_aload_n (x := 171) rfl rfl ?_
      refine zq_getr (k9 := 178) hS rfl (by first | assumption | exact ⟨by decide, rfl⟩) rfl ?_
      refine zp_iload_n (x := (nI (5 * i))) rfl rfl ?_
      refine zp_iconst (v := (nI 2)) rfl (by decide +kernel) ?_
      refine zp_iaddN rfl ?_
      refine zq_iald hS rfl (by first | assumption | exact ⟨by decide, rfl⟩) (by omega) (by first | decide | omega) ?_
      rw [w2]
      refine zq_virt hS rfl rfl (by first | assumption | exact ⟨by decide, rfl⟩) rfl (s_Mod_memberFor hS ((by first | exact hst | exact hst.f | exact hst.f.f | exact hst.f.f.f : zr_st MV TG C M _)) hB (by omega) (by omega) ?_)
      cases hz : v_mbF MV M a m with
      | none =>
        show zp_wp X y_Mod_means 116 [.ref 171, .int (nI i), .int (nI (5 * i)), .int (nI 7), zm_mk, zm_mk] [.int (-1)] h' Q
        refine zp_istore_4 rfl rfl ?_
        refine zp_aload_n (x := 171) rfl rfl ?_
        refine zp_iload (x := (-1)) rfl rfl ?_
        refine zp_ifF (tgt := 128) rfl rfl (by decide +kernel) ?_
        refine zp_iconst (v := (nI 0)) rfl (by decide +kernel) ?_
        refine zp_goto (tgt := 143) rfl rfl ?_
        refine zq_put hS rfl (by first | assumption | exact ⟨by decide, rfl⟩) rfl rfl (fun hS143 => ?_)
        have hS := hS143
        refine zp_aload_n (x := 171) rfl rfl ?_
        refine zp_iload (x := (-1)) rfl rfl ?_
        refine zp_ifF (tgt := 156) rfl rfl (by decide +kernel) ?_
        refine zp_iconst (v := (nI 0)) rfl (by decide +kernel) ?_
        refine zp_goto (tgt := 166) rfl rfl ?_
        refine zq_put hS rfl (by first | assumption | exact ⟨by decide, rfl⟩) rfl rfl (fun hS166 => ?_)
        have hS := hS166
        refine zp_aload_n (x := 171) rfl rfl ?_
        refine zq_geti hS rfl (by first | assumption | exact ⟨by decide, rfl⟩) rfl ?_
        rw [zf_nj (by decide), zf_at9 hS143 (by first | assumption | exact ⟨by decide, rfl⟩) rfl]
        refine zp_ifT (tgt := 180) rfl rfl (by decide +kernel) ?_
        refine zp_iconst (v := (nI 0)) rfl (by decide +kernel) ?_
        refine zp_istore_4 rfl rfl ?_
        refine zp_iload_n (x := (nI 7)) rfl rfl ?_
        refine zp_bipush (v := (nI 7)) rfl (by decide +kernel) ?_
        refine zp_icT (tgt := 201) rfl rfl (by decide +kernel) ?_
        refine zp_aload_n (x := 171) rfl rfl ?_
        refine zp_aload_n (x := 171) rfl rfl ?_
        refine zp_aload_n (x := 171) rfl rfl ?_
        refine zq_getr (k9 := 185) hS rfl (by first | assumption | exact ⟨by decide, rfl⟩) rfl ?_
        refine zp_aload_n (x := 171) rfl rfl ?_
        refine zq_getr (k9 := 178) hS rfl (by first | assumption | exact ⟨by decide, rfl⟩) rfl ?_
        refine zp_iload_n (x := (nI (5 * i))) rfl rfl ?_
        refine zp_iconst (v := (nI 3)) rfl (by decide +kernel) ?_
        refine zp_iaddN rfl ?_
        refine zq_iald hS rfl (by first | assumption | exact ⟨by decide, rfl⟩) (by omega) (by first | decide | omega) ?_
        rw [zf_ci (a := 171) (b := 178) (by decide), zf_ci (a := 171) (b := 178) (by decide)]
        rw [w3]
        refine zp_call rfl rfl (t_Mod_classAt hS ⟨by decide, rfl⟩ ((by first | exact hst | exact hst.f | exact hst.f.f | exact hst.f.f.f : zr_st MV TG C M _)).1 hB (by omega) ?_)
        show zp_wp X y_Mod_means 218 [.ref 171, .int (nI i), .int (nI (5 * i)), .int (nI 7), .int (nI 0), zm_mk] [.int (zf_o (v_cls MV b)), .ref 171, .ref 171] (zf_put (zf_put h' 171 21 (nI 0)) 171 22 (nI 0)) Q
        refine zq_virt hS rfl rfl (by first | assumption | exact ⟨by decide, rfl⟩) rfl (s_Mod_nameFor hS ((by first | exact hst | exact hst.f | exact hst.f.f | exact hst.f.f.f : zr_st MV TG C M _)) hB2 hCl v_cls_12 ?_)
        show zp_wp X y_Mod_means 221 [.ref 171, .int (nI i), .int (nI (5 * i)), .int (nI 7), .int (nI 0), zm_mk] [.int (nI (v_nmF TG C (v_cls MV b))), .ref 171] (zf_put (zf_put h' 171 21 (nI 0)) 171 22 (nI 0)) Q
        refine zq_put hS rfl (by first | assumption | exact ⟨by decide, rfl⟩) rfl rfl (fun hS221 => ?_)
        have hS := hS221
        refine zp_iload (x := (nI 0)) rfl rfl ?_
        refine zp_ifT (tgt := 240) rfl rfl (by decide +kernel) ?_
        refine zp_iconst (v := (nI 0)) rfl (by decide +kernel) ?_
        refine zp_istore_4 rfl rfl ?_
        refine zp_iload_n (x := (nI 7)) rfl rfl ?_
        refine zp_bipush (v := (nI 8)) rfl (by decide +kernel) ?_
        refine zp_icT (tgt := 339) rfl rfl (by decide +kernel) ?_
        refine zp_iload (x := (nI 0)) rfl rfl ?_
        refine zp_zret rfl rfl (by decide) ?_
        have hv : v_hasP MV TG C M (7, a, m, b, n) = false := by first | (simp [v_hasP, v_plan, v_pA, v_pM, v_pB, v_pN, v_onm, v_mnm, hz, b173, b233]; done) | (simp [v_hasP, v_plan, v_pA, v_pM, v_pB, v_pN, v_onm, v_mnm, hz, b173]; done) | (simp [v_hasP, v_plan, v_pA, v_pM, v_pB, v_pN, v_onm, v_mnm, hz, b233]; done) | (simp [v_hasP, v_plan, v_pA, v_pM, v_pB, v_pN, v_onm, v_mnm, hz]; done)
        have hpl : v_plan MV TG C M (7, a, m, b, n) = (7, 0, 0, (v_nmF TG C (v_cls MV b)), n) := by first | (simp [v_hasP, v_plan, v_pA, v_pM, v_pB, v_pN, v_onm, v_mnm, hz, b173, b233]; done) | (simp [v_hasP, v_plan, v_pA, v_pM, v_pB, v_pN, v_onm, v_mnm, hz, b173]; done) | (simp [v_hasP, v_plan, v_pA, v_pM, v_pB, v_pN, v_onm, v_mnm, hz, b233]; done) | (simp [v_hasP, v_plan, v_pA, v_pM, v_pB, v_pN, v_onm, v_mnm, hz]; done)
        rw [hv, hpl] at hq
        exact hq _ (((hG.f (by decide) hS143).f (by decide) hS166).f (by decide) hS221) ⟨(by rw [zf_nj (by decide), zf_nj (by decide)]; exact zf_at9 hS143 zs_M rfl), (by rw [zf_nj (by decide)]; exact zf_at9 hS166 zs_M rfl), (by exact zf_at9 hS221 zs_M rfl), (by rw [zf_nj (by decide), zf_nj (by decide), zf_nj (by decide)]; exact p4)⟩ (by rw [zf_nj (by decide), zf_nj (by decide), zf_nj (by decide)]; exact h10)
      | some p =>
        have hp40 := v_mbF_40 hMl p hz
        show zp_wp X y_Mod_means 116 [.ref 171, .int (nI i), .int (nI (5 * i)), .int (nI 7), zm_mk, zm_mk] [.int (nI p)] h' Q
        refine zp_istore_4 rfl rfl ?_
        refine zp_aload_n (x := 171) rfl rfl ?_
        refine zp_iload (x := (nI p)) rfl rfl ?_
        refine zp_ifT (tgt := 128) rfl rfl (zc_ge (by omega)) ?_
        refine zp_aload_n (x := 171) rfl rfl ?_
        refine zq_getr (k9 := 186) hS rfl (by first | assumption | exact ⟨by decide, rfl⟩) rfl ?_
        refine zp_aload_n (x := 171) rfl rfl ?_
        refine zq_getr (k9 := 186) hS rfl (by first | assumption | exact ⟨by decide, rfl⟩) rfl ?_
        refine zp_bipush (v := (nI 64)) rfl (by decide +kernel) ?_
        refine zp_iload (x := (nI p)) rfl rfl ?_
        refine zp_iaddN rfl ?_
        refine zq_iald hS rfl (by first | assumption | exact ⟨by decide, rfl⟩) (by omega) (by first | decide | omega) ?_
        rw [a2.2.2.2.1 (p) (by omega)]
        have q141 := hB2.2.2.2 (p) (by omega)
        refine zq_iald hS rfl (by first | assumption | exact ⟨by decide, rfl⟩) (by omega) (by first | decide | omega) ?_
        rw [a2.1 (v_ow TG (p)) (by omega)]
        have q142 := hB2.1 (v_ow TG (p)) (by omega)
        refine zq_put hS rfl (by first | assumption | exact ⟨by decide, rfl⟩) rfl rfl (fun hS143 => ?_)
        have hS := hS143
        refine zp_aload_n (x := 171) rfl rfl ?_
        refine zp_iload (x := (nI p)) rfl rfl ?_
        refine zp_ifT (tgt := 156) rfl rfl (zc_ge (by omega)) ?_
        refine zp_aload_n (x := 171) rfl rfl ?_
        refine zq_getr (k9 := 186) hS rfl (by first | assumption | exact ⟨by decide, rfl⟩) rfl ?_
        refine zp_bipush (v := (nI 24)) rfl (by decide +kernel) ?_
        refine zp_iload (x := (nI p)) rfl rfl ?_
        refine zp_iaddN rfl ?_
        refine zq_iald hS rfl (by first | assumption | exact ⟨by decide, rfl⟩) (by omega) (by first | decide | omega) ?_
        rw [zf_ci (a := 171) (b := 186) (by decide)]
        rw [a2.2.2.1 (p) (by omega)]
        have q165 := hB2.2.2.1 (p) (by omega)
        refine zq_put hS rfl (by first | assumption | exact ⟨by decide, rfl⟩) rfl rfl (fun hS166 => ?_)
        have hS := hS166
        refine zp_aload_n (x := 171) rfl rfl ?_
        refine zq_geti hS rfl (by first | assumption | exact ⟨by decide, rfl⟩) rfl ?_
        rw [zf_nj (by decide), zf_at9 hS143 (by first | assumption | exact ⟨by decide, rfl⟩) rfl]
        refine zp_ifN_eq (tgt := 180) rfl rfl (by omega) (fun b173 => ?_) (fun b173 => ?_)
        · refine zp_iconst (v := (nI 0)) rfl (by decide +kernel) ?_
          refine zp_istore_4 rfl rfl ?_
          refine zp_iload_n (x := (nI 7)) rfl rfl ?_
          refine zp_bipush (v := (nI 7)) rfl (by decide +kernel) ?_
          refine zp_icT (tgt := 201) rfl rfl (by decide +kernel) ?_
          refine zp_aload_n (x := 171) rfl rfl ?_
          refine zp_aload_n (x := 171) rfl rfl ?_
          refine zp_aload_n (x := 171) rfl rfl ?_
          refine zq_getr (k9 := 185) hS rfl (by first | assumption | exact ⟨by decide, rfl⟩) rfl ?_
          refine zp_aload_n (x := 171) rfl rfl ?_
          refine zq_getr (k9 := 178) hS rfl (by first | assumption | exact ⟨by decide, rfl⟩) rfl ?_
          refine zp_iload_n (x := (nI (5 * i))) rfl rfl ?_
          refine zp_iconst (v := (nI 3)) rfl (by decide +kernel) ?_
          refine zp_iaddN rfl ?_
          refine zq_iald hS rfl (by first | assumption | exact ⟨by decide, rfl⟩) (by omega) (by first | decide | omega) ?_
          rw [zf_ci (a := 171) (b := 178) (by decide), zf_ci (a := 171) (b := 178) (by decide)]
          rw [w3]
          refine zp_call rfl rfl (t_Mod_classAt hS ⟨by decide, rfl⟩ ((by first | exact hst | exact hst.f | exact hst.f.f | exact hst.f.f.f : zr_st MV TG C M _)).1 hB (by omega) ?_)
          show zp_wp X y_Mod_means 218 [.ref 171, .int (nI i), .int (nI (5 * i)), .int (nI 7), .int (nI 0), zm_mk] [.int (zf_o (v_cls MV b)), .ref 171, .ref 171] (zf_put (zf_put h' 171 21 (nI (v_cn TG (v_ow TG (p))))) 171 22 (nI (v_mn TG (p)))) Q
          refine zq_virt hS rfl rfl (by first | assumption | exact ⟨by decide, rfl⟩) rfl (s_Mod_nameFor hS ((by first | exact hst | exact hst.f | exact hst.f.f | exact hst.f.f.f : zr_st MV TG C M _)) hB2 hCl v_cls_12 ?_)
          show zp_wp X y_Mod_means 221 [.ref 171, .int (nI i), .int (nI (5 * i)), .int (nI 7), .int (nI 0), zm_mk] [.int (nI (v_nmF TG C (v_cls MV b))), .ref 171] (zf_put (zf_put h' 171 21 (nI (v_cn TG (v_ow TG (p))))) 171 22 (nI (v_mn TG (p)))) Q
          refine zq_put hS rfl (by first | assumption | exact ⟨by decide, rfl⟩) rfl rfl (fun hS221 => ?_)
          have hS := hS221
          refine zp_iload (x := (nI 0)) rfl rfl ?_
          refine zp_ifT (tgt := 240) rfl rfl (by decide +kernel) ?_
          refine zp_iconst (v := (nI 0)) rfl (by decide +kernel) ?_
          refine zp_istore_4 rfl rfl ?_
          refine zp_iload_n (x := (nI 7)) rfl rfl ?_
          refine zp_bipush (v := (nI 8)) rfl (by decide +kernel) ?_
          refine zp_icT (tgt := 339) rfl rfl (by decide +kernel) ?_
          refine zp_iload (x := (nI 0)) rfl rfl ?_
          refine zp_zret rfl rfl (by decide) ?_
          have hv : v_hasP MV TG C M (7, a, m, b, n) = false := by first | (simp [v_hasP, v_plan, v_pA, v_pM, v_pB, v_pN, v_onm, v_mnm, hz, b173, b233]; done) | (simp [v_hasP, v_plan, v_pA, v_pM, v_pB, v_pN, v_onm, v_mnm, hz, b173]; done) | (simp [v_hasP, v_plan, v_pA, v_pM, v_pB, v_pN, v_onm, v_mnm, hz, b233]; done) | (simp [v_hasP, v_plan, v_pA, v_pM, v_pB, v_pN, v_onm, v_mnm, hz]; done)
          have hpl : v_plan MV TG C M (7, a, m, b, n) = (7, (v_cn TG (v_ow TG (p))), (v_mn TG (p)), (v_nmF TG C (v_cls MV b)), n) := by first | (simp [v_hasP, v_plan, v_pA, v_pM, v_pB, v_pN, v_onm, v_mnm, hz, b173, b233]; done) | (simp [v_hasP, v_plan, v_pA, v_pM, v_pB, v_pN, v_onm, v_mnm, hz, b173]; done) | (simp [v_hasP, v_plan, v_pA, v_pM, v_pB, v_pN, v_onm, v_mnm, hz, b233]; done) | (simp [v_hasP, v_plan, v_pA, v_pM, v_pB, v_pN, v_onm, v_mnm, hz]; done)
          rw [hv, hpl] at hq
          exact hq _ (((hG.f (by decide) hS143).f (by decide) hS166).f (by decide) hS221) ⟨(by rw [zf_nj (by decide), zf_nj (by decide)]; exact zf_at9 hS143 zs_M rfl), (by rw [zf_nj (by decide)]; exact zf_at9 hS166 zs_M rfl), (by exact zf_at9 hS221 zs_M rfl), (by rw [zf_nj (by decide), zf_nj (by decide), zf_nj (by decide)]; exact p4)⟩ (by rw [zf_nj (by decide), zf_nj (by decide), zf_nj (by decide)]; exact h10)
        · refine zp_iconst (v := (nI 1)) rfl (by decide +kernel) ?_
          refine zp_goto (tgt := 181) rfl rfl ?_
          refine zp_istore_4 rfl rfl ?_
          refine zp_iload_n (x := (nI 7)) rfl rfl ?_
          refine zp_bipush (v := (nI 7)) rfl (by decide +kernel) ?_
          refine zp_icT (tgt := 201) rfl rfl (by decide +kernel) ?_
          refine zp_aload_n (x := 171) rfl rfl ?_
          refine zp_aload_n (x := 171) rfl rfl ?_
          refine zp_aload_n (x := 171) rfl rfl ?_
          refine zq_getr (k9 := 185) hS rfl (by first | assumption | exact ⟨by decide, rfl⟩) rfl ?_
          refine zp_aload_n (x := 171) rfl rfl ?_
          refine zq_getr (k9 := 178) hS rfl (by first | assumption | exact ⟨by decide, rfl⟩) rfl ?_
          refine zp_iload_n (x := (nI (5 * i))) rfl rfl ?_
          refine zp_iconst (v := (nI 3)) rfl (by decide +kernel) ?_
          refine zp_iaddN rfl ?_
          refine zq_iald hS rfl (by first | assumption | exact ⟨by decide, rfl⟩) (by omega) (by first | decide | omega) ?_
          rw [zf_ci (a := 171) (b := 178) (by decide), zf_ci (a := 171) (b := 178) (by decide)]
          rw [w3]
          refine zp_call rfl rfl (t_Mod_classAt hS ⟨by decide, rfl⟩ ((by first | exact hst | exact hst.f | exact hst.f.f | exact hst.f.f.f : zr_st MV TG C M _)).1 hB (by omega) ?_)
          show zp_wp X y_Mod_means 218 [.ref 171, .int (nI i), .int (nI (5 * i)), .int (nI 7), .int (nI 1), zm_mk] [.int (zf_o (v_cls MV b)), .ref 171, .ref 171] (zf_put (zf_put h' 171 21 (nI (v_cn TG (v_ow TG (p))))) 171 22 (nI (v_mn TG (p)))) Q
          refine zq_virt hS rfl rfl (by first | assumption | exact ⟨by decide, rfl⟩) rfl (s_Mod_nameFor hS ((by first | exact hst | exact hst.f | exact hst.f.f | exact hst.f.f.f : zr_st MV TG C M _)) hB2 hCl v_cls_12 ?_)
          show zp_wp X y_Mod_means 221 [.ref 171, .int (nI i), .int (nI (5 * i)), .int (nI 7), .int (nI 1), zm_mk] [.int (nI (v_nmF TG C (v_cls MV b))), .ref 171] (zf_put (zf_put h' 171 21 (nI (v_cn TG (v_ow TG (p))))) 171 22 (nI (v_mn TG (p)))) Q
          refine zq_put hS rfl (by first | assumption | exact ⟨by decide, rfl⟩) rfl rfl (fun hS221 => ?_)
          have hS := hS221
          refine zp_iload (x := (nI 1)) rfl rfl ?_
          refine zp_ifF (tgt := 240) rfl rfl (by decide +kernel) ?_
          refine zp_aload_n (x := 171) rfl rfl ?_
          refine zq_geti hS rfl (by first | assumption | exact ⟨by decide, rfl⟩) rfl ?_
          rw [zf_at9 hS221 (by first | assumption | exact ⟨by decide, rfl⟩) rfl]
          refine zp_ifN_eq (tgt := 240) rfl rfl (by omega) (fun b233 => ?_) (fun b233 => ?_)
          · refine zp_iconst (v := (nI 0)) rfl (by decide +kernel) ?_
            refine zp_istore_4 rfl rfl ?_
            refine zp_iload_n (x := (nI 7)) rfl rfl ?_
            refine zp_bipush (v := (nI 8)) rfl (by decide +kernel) ?_
            refine zp_icT (tgt := 339) rfl rfl (by decide +kernel) ?_
            refine zp_iload (x := (nI 0)) rfl rfl ?_
            refine zp_zret rfl rfl (by decide) ?_
            have hv : v_hasP MV TG C M (7, a, m, b, n) = false := by first | (simp [v_hasP, v_plan, v_pA, v_pM, v_pB, v_pN, v_onm, v_mnm, hz, b173, b233]; done) | (simp [v_hasP, v_plan, v_pA, v_pM, v_pB, v_pN, v_onm, v_mnm, hz, b173]; done) | (simp [v_hasP, v_plan, v_pA, v_pM, v_pB, v_pN, v_onm, v_mnm, hz, b233]; done) | (simp [v_hasP, v_plan, v_pA, v_pM, v_pB, v_pN, v_onm, v_mnm, hz]; done)
            have hpl : v_plan MV TG C M (7, a, m, b, n) = (7, (v_cn TG (v_ow TG (p))), (v_mn TG (p)), (v_nmF TG C (v_cls MV b)), n) := by first | (simp [v_hasP, v_plan, v_pA, v_pM, v_pB, v_pN, v_onm, v_mnm, hz, b173, b233]; done) | (simp [v_hasP, v_plan, v_pA, v_pM, v_pB, v_pN, v_onm, v_mnm, hz, b173]; done) | (simp [v_hasP, v_plan, v_pA, v_pM, v_pB, v_pN, v_onm, v_mnm, hz, b233]; done) | (simp [v_hasP, v_plan, v_pA, v_pM, v_pB, v_pN, v_onm, v_mnm, hz]; done)
            rw [hv, hpl] at hq
            exact hq _ (((hG.f (by decide) hS143).f (by decide) hS166).f (by decide) hS221) ⟨(by rw [zf_nj (by decide), zf_nj (by decide)]; exact zf_at9 hS143 zs_M rfl), (by rw [zf_nj (by decide)]; exact zf_at9 hS166 zs_M rfl), (by exact zf_at9 hS221 zs_M rfl), (by rw [zf_nj (by decide), zf_nj (by decide), zf_nj (by decide)]; exact p4)⟩ (by rw [zf_nj (by decide), zf_nj (by decide), zf_nj (by decide)]; exact h10)
          · refine zp_iconst (v := (nI 1)) rfl (by decide +kernel) ?_
            refine zp_goto (tgt := 241) rfl rfl ?_
            refine zp_istore_4 rfl rfl ?_
            refine zp_iload_n (x := (nI 7)) rfl rfl ?_
            refine zp_bipush (v := (nI 8)) rfl (by decide +kernel) ?_
            refine zp_icT (tgt := 339) rfl rfl (by decide +kernel) ?_
            refine zp_iload (x := (nI 1)) rfl rfl ?_
            refine zp_zret rfl rfl (by decide) ?_
            have hv : v_hasP MV TG C M (7, a, m, b, n) = true := by first | (simp [v_hasP, v_plan, v_pA, v_pM, v_pB, v_pN, v_onm, v_mnm, hz, b173, b233]; done) | (simp [v_hasP, v_plan, v_pA, v_pM, v_pB, v_pN, v_onm, v_mnm, hz, b173]; done) | (simp [v_hasP, v_plan, v_pA, v_pM, v_pB, v_pN, v_onm, v_mnm, hz, b233]; done) | (simp [v_hasP, v_plan, v_pA, v_pM, v_pB, v_pN, v_onm, v_mnm, hz]; done)
            have hpl : v_plan MV TG C M (7, a, m, b, n) = (7, (v_cn TG (v_ow TG (p))), (v_mn TG (p)), (v_nmF TG C (v_cls MV b)), n) := by first | (simp [v_hasP, v_plan, v_pA, v_pM, v_pB, v_pN, v_onm, v_mnm, hz, b173, b233]; done) | (simp [v_hasP, v_plan, v_pA, v_pM, v_pB, v_pN, v_onm, v_mnm, hz, b173]; done) | (simp [v_hasP, v_plan, v_pA, v_pM, v_pB, v_pN, v_onm, v_mnm, hz, b233]; done) | (simp [v_hasP, v_plan, v_pA, v_pM, v_pB, v_pN, v_onm, v_mnm, hz]; done)
            rw [hv, hpl] at hq
            exact hq _ (((hG.f (by decide) hS143).f (by decide) hS166).f (by decide) hS221) ⟨(by rw [zf_nj (by decide), zf_nj (by decide)]; exact zf_at9 hS143 zs_M rfl), (by rw [zf_nj (by decide)]; exact zf_at9 hS166 zs_M rfl), (by exact zf_at9 hS221 zs_M rfl), (by rw [zf_nj (by decide), zf_nj (by decide), zf_nj (by decide)]; exact p4)⟩ (by rw [zf_nj (by decide), zf_nj (by decide), zf_nj (by decide)]; exact h10)
    | 8, _, hp, hq =>
      refine zp_iload_n (x := (nI 8)) rfl rfl ?_
      refine zp_ifT (tgt := 65) rfl rfl (by decide +kernel) ?_
      refine zp_iload_n (x := (nI 8)) rfl rfl ?_
      refine zp_iconst (v := (nI 4)) rfl (by decide +kernel) ?_
      refine zp_icT (tgt := 96) rfl rfl (by decide +kernel) ?_
      refine zp_aload_n (x := 171) rfl rfl ?_
      refine zp_aload_n (x := 171) rfl rfl ?_
      refine zq_getr (k9 := 178) hS rfl (by first | assumption | exact ⟨by decide, rfl⟩) rfl ?_
      refine zp_iload_n (x := (nI (5 * i))) rfl rfl ?_
      refine zp_iconst (v := (nI 1)) rfl (by decide +kernel) ?_
      refine zp_iaddN rfl ?_
      refine zq_iald hS rfl (by first | assumption | exact ⟨by decide, rfl⟩) (by omega) (by first | decide | omega) ?_
      rw [w1]
      refine zp_aload_n (x := 171) rfl rfl ?_
      refine zq_getr (k9 := 178) hS rfl (by first | assumption | exact ⟨by decide, rfl⟩) rfl ?_
      refine zp_iload_n (x := (nI (5 * i))) rfl rfl ?_
      refine zp_iconst (v := (nI 2)) rfl (by decide +kernel) ?_
      refine zp_iaddN rfl ?_
      refine zq_iald hS rfl (by first | assumption | exact ⟨by decide, rfl⟩) (by omega) (by first | decide | omega) ?_
      rw [w2]
      refine zq_virt hS rfl rfl (by first | assumption | exact ⟨by decide, rfl⟩) rfl (s_Mod_memberFor hS ((by first | exact hst | exact hst.f | exact hst.f.f | exact hst.f.f.f : zr_st MV TG C M _)) hB (by omega) (by omega) ?_)
      cases hz : v_mbF MV M a m with
      | none =>
        show zp_wp X y_Mod_means 116 [.ref 171, .int (nI i), .int (nI (5 * i)), .int (nI 8), zm_mk, zm_mk] [.int (-1)] h' Q
        refine zp_istore_4 rfl rfl ?_
        refine zp_aload_n (x := 171) rfl rfl ?_
        refine zp_iload (x := (-1)) rfl rfl ?_
        refine zp_ifF (tgt := 128) rfl rfl (by decide +kernel) ?_
        refine zp_iconst (v := (nI 0)) rfl (by decide +kernel) ?_
        refine zp_goto (tgt := 143) rfl rfl ?_
        refine zq_put hS rfl (by first | assumption | exact ⟨by decide, rfl⟩) rfl rfl (fun hS143 => ?_)
        have hS := hS143
        refine zp_aload_n (x := 171) rfl rfl ?_
        refine zp_iload (x := (-1)) rfl rfl ?_
        refine zp_ifF (tgt := 156) rfl rfl (by decide +kernel) ?_
        refine zp_iconst (v := (nI 0)) rfl (by decide +kernel) ?_
        refine zp_goto (tgt := 166) rfl rfl ?_
        refine zq_put hS rfl (by first | assumption | exact ⟨by decide, rfl⟩) rfl rfl (fun hS166 => ?_)
        have hS := hS166
        refine zp_aload_n (x := 171) rfl rfl ?_
        refine zq_geti hS rfl (by first | assumption | exact ⟨by decide, rfl⟩) rfl ?_
        rw [zf_nj (by decide), zf_at9 hS143 (by first | assumption | exact ⟨by decide, rfl⟩) rfl]
        refine zp_ifT (tgt := 180) rfl rfl (by decide +kernel) ?_
        refine zp_iconst (v := (nI 0)) rfl (by decide +kernel) ?_
        refine zp_istore_4 rfl rfl ?_
        refine zp_iload_n (x := (nI 8)) rfl rfl ?_
        refine zp_bipush (v := (nI 7)) rfl (by decide +kernel) ?_
        refine zp_icF (tgt := 201) rfl rfl (by decide +kernel) ?_
        refine zp_iload_n (x := (nI 8)) rfl rfl ?_
        refine zp_iconst (v := (nI 3)) rfl (by decide +kernel) ?_
        refine zp_icT (tgt := 243) rfl rfl (by decide +kernel) ?_
        refine zp_iload_n (x := (nI 8)) rfl rfl ?_
        refine zp_bipush (v := (nI 8)) rfl (by decide +kernel) ?_
        refine zp_icF (tgt := 339) rfl rfl (by decide +kernel) ?_
        refine zp_aload_n (x := 171) rfl rfl ?_
        refine zp_aload_n (x := 171) rfl rfl ?_
        refine zq_getr (k9 := 178) hS rfl (by first | assumption | exact ⟨by decide, rfl⟩) rfl ?_
        refine zp_iload_n (x := (nI (5 * i))) rfl rfl ?_
        refine zp_iconst (v := (nI 3)) rfl (by decide +kernel) ?_
        refine zp_iaddN rfl ?_
        refine zq_iald hS rfl (by first | assumption | exact ⟨by decide, rfl⟩) (by omega) (by first | decide | omega) ?_
        rw [zf_ci (a := 171) (b := 178) (by decide), zf_ci (a := 171) (b := 178) (by decide)]
        rw [w3]
        refine zp_aload_n (x := 171) rfl rfl ?_
        refine zq_getr (k9 := 178) hS rfl (by first | assumption | exact ⟨by decide, rfl⟩) rfl ?_
        refine zp_iload_n (x := (nI (5 * i))) rfl rfl ?_
        refine zp_iconst (v := (nI 4)) rfl (by decide +kernel) ?_
        refine zp_iaddN rfl ?_
        refine zq_iald hS rfl (by first | assumption | exact ⟨by decide, rfl⟩) (by omega) (by first | decide | omega) ?_
        rw [zf_ci (a := 171) (b := 178) (by decide), zf_ci (a := 171) (b := 178) (by decide)]
        rw [w4]
        refine zq_virt hS rfl rfl (by first | assumption | exact ⟨by decide, rfl⟩) rfl (s_Mod_memberFor hS ((by first | exact hst | exact hst.f | exact hst.f.f | exact hst.f.f.f : zr_st MV TG C M _)) hB (by omega) (by omega) ?_)
        cases hy : v_mbF MV M b n with
        | none =>
          show zp_wp X y_Mod_means 269 [.ref 171, .int (nI i), .int (nI (5 * i)), .int (nI 8), .int (nI 0), zm_mk] [.int (-1)] (zf_put (zf_put h' 171 21 (nI 0)) 171 22 (nI 0)) Q
          refine zp_istore_5 rfl rfl ?_
          refine zp_aload_n (x := 171) rfl rfl ?_
          refine zp_iload (x := (-1)) rfl rfl ?_
          refine zp_ifF (tgt := 281) rfl rfl (by decide +kernel) ?_
          refine zp_iconst (v := (nI 0)) rfl (by decide +kernel) ?_
          refine zp_goto (tgt := 296) rfl rfl ?_
          refine zq_put hS rfl (by first | assumption | exact ⟨by decide, rfl⟩) rfl rfl (fun hS296 => ?_)
          have hS := hS296
          refine zp_aload_n (x := 171) rfl rfl ?_
          refine zp_iload (x := (-1)) rfl rfl ?_
          refine zp_ifF (tgt := 309) rfl rfl (by decide +kernel) ?_
          refine zp_iconst (v := (nI 0)) rfl (by decide +kernel) ?_
          refine zp_goto (tgt := 319) rfl rfl ?_
          refine zq_put hS rfl (by first | assumption | exact ⟨by decide, rfl⟩) rfl rfl (fun hS319 => ?_)
          have hS := hS319
          refine zp_iload (x := (nI 0)) rfl rfl ?_
          refine zp_ifT (tgt := 336) rfl rfl (by decide +kernel) ?_
          refine zp_iconst (v := (nI 0)) rfl (by decide +kernel) ?_
          refine zp_istore_4 rfl rfl ?_
          refine zp_iload (x := (nI 0)) rfl rfl ?_
          refine zp_zret rfl rfl (by decide) ?_
          have hv : v_hasP MV TG C M (8, a, m, b, n) = false := by first | (simp [v_hasP, v_plan, v_pA, v_pM, v_pB, v_pN, v_onm, v_mnm, hz, hy, b173]; done) | (simp [v_hasP, v_plan, v_pA, v_pM, v_pB, v_pN, v_onm, v_mnm, hz, hy]; done)
          have hpl : v_plan MV TG C M (8, a, m, b, n) = (8, 0, 0, 0, 0) := by first | (simp [v_hasP, v_plan, v_pA, v_pM, v_pB, v_pN, v_onm, v_mnm, hz, hy, b173]; done) | (simp [v_hasP, v_plan, v_pA, v_pM, v_pB, v_pN, v_onm, v_mnm, hz, hy]; done)
          rw [hv, hpl] at hq
          exact hq _ ((((hG.f (by decide) hS143).f (by decide) hS166).f (by decide) hS296).f (by decide) hS319) ⟨(by rw [zf_nj (by decide), zf_nj (by decide), zf_nj (by decide)]; exact zf_at9 hS143 zs_M rfl), (by rw [zf_nj (by decide), zf_nj (by decide)]; exact zf_at9 hS166 zs_M rfl), (by rw [zf_nj (by decide)]; exact zf_at9 hS296 zs_M rfl), (by exact zf_at9 hS319 zs_M rfl)⟩ (by rw [zf_nj (by decide), zf_nj (by decide), zf_nj (by decide), zf_nj (by decide)]; exact h10)
        | some q =>
          have hq40 := v_mbF_40 hMl q hy
          show zp_wp X y_Mod_means 269 [.ref 171, .int (nI i), .int (nI (5 * i)), .int (nI 8), .int (nI 0), zm_mk] [.int (nI q)] (zf_put (zf_put h' 171 21 (nI 0)) 171 22 (nI 0)) Q
          refine zp_istore_5 rfl rfl ?_
          refine zp_aload_n (x := 171) rfl rfl ?_
          refine zp_iload (x := (nI q)) rfl rfl ?_
          refine zp_ifT (tgt := 281) rfl rfl (zc_ge (by omega)) ?_
          refine zp_aload_n (x := 171) rfl rfl ?_
          refine zq_getr (k9 := 186) hS rfl (by first | assumption | exact ⟨by decide, rfl⟩) rfl ?_
          refine zp_aload_n (x := 171) rfl rfl ?_
          refine zq_getr (k9 := 186) hS rfl (by first | assumption | exact ⟨by decide, rfl⟩) rfl ?_
          refine zp_bipush (v := (nI 64)) rfl (by decide +kernel) ?_
          refine zp_iload (x := (nI q)) rfl rfl ?_
          refine zp_iaddN rfl ?_
          refine zq_iald hS rfl (by first | assumption | exact ⟨by decide, rfl⟩) (by omega) (by first | decide | omega) ?_
          rw [zf_ci (a := 171) (b := 186) (by decide), zf_ci (a := 171) (b := 186) (by decide)]
          rw [a2.2.2.2.1 (q) (by omega)]
          have q294 := hB2.2.2.2 (q) (by omega)
          refine zq_iald hS rfl (by first | assumption | exact ⟨by decide, rfl⟩) (by omega) (by first | decide | omega) ?_
          rw [zf_ci (a := 171) (b := 186) (by decide), zf_ci (a := 171) (b := 186) (by decide)]
          rw [a2.1 (v_ow TG (q)) (by omega)]
          have q295 := hB2.1 (v_ow TG (q)) (by omega)
          refine zq_put hS rfl (by first | assumption | exact ⟨by decide, rfl⟩) rfl rfl (fun hS296 => ?_)
          have hS := hS296
          refine zp_aload_n (x := 171) rfl rfl ?_
          refine zp_iload (x := (nI q)) rfl rfl ?_
          refine zp_ifT (tgt := 309) rfl rfl (zc_ge (by omega)) ?_
          refine zp_aload_n (x := 171) rfl rfl ?_
          refine zq_getr (k9 := 186) hS rfl (by first | assumption | exact ⟨by decide, rfl⟩) rfl ?_
          refine zp_bipush (v := (nI 24)) rfl (by decide +kernel) ?_
          refine zp_iload (x := (nI q)) rfl rfl ?_
          refine zp_iaddN rfl ?_
          refine zq_iald hS rfl (by first | assumption | exact ⟨by decide, rfl⟩) (by omega) (by first | decide | omega) ?_
          rw [zf_ci (a := 171) (b := 186) (by decide), zf_ci (a := 171) (b := 186) (by decide), zf_ci (a := 171) (b := 186) (by decide)]
          rw [a2.2.2.1 (q) (by omega)]
          have q318 := hB2.2.2.1 (q) (by omega)
          refine zq_put hS rfl (by first | assumption | exact ⟨by decide, rfl⟩) rfl rfl (fun hS319 => ?_)
          have hS := hS319
          refine zp_iload (x := (nI 0)) rfl rfl ?_
          refine zp_ifT (tgt := 336) rfl rfl (by decide +kernel) ?_
          refine zp_iconst (v := (nI 0)) rfl (by decide +kernel) ?_
          refine zp_istore_4 rfl rfl ?_
          refine zp_iload (x := (nI 0)) rfl rfl ?_
          refine zp_zret rfl rfl (by decide) ?_
          have hv : v_hasP MV TG C M (8, a, m, b, n) = false := by first | (simp [v_hasP, v_plan, v_pA, v_pM, v_pB, v_pN, v_onm, v_mnm, hz, hy, b173]; done) | (simp [v_hasP, v_plan, v_pA, v_pM, v_pB, v_pN, v_onm, v_mnm, hz, hy]; done)
          have hpl : v_plan MV TG C M (8, a, m, b, n) = (8, 0, 0, (v_cn TG (v_ow TG (q))), (v_mn TG (q))) := by first | (simp [v_hasP, v_plan, v_pA, v_pM, v_pB, v_pN, v_onm, v_mnm, hz, hy, b173]; done) | (simp [v_hasP, v_plan, v_pA, v_pM, v_pB, v_pN, v_onm, v_mnm, hz, hy]; done)
          rw [hv, hpl] at hq
          exact hq _ ((((hG.f (by decide) hS143).f (by decide) hS166).f (by decide) hS296).f (by decide) hS319) ⟨(by rw [zf_nj (by decide), zf_nj (by decide), zf_nj (by decide)]; exact zf_at9 hS143 zs_M rfl), (by rw [zf_nj (by decide), zf_nj (by decide)]; exact zf_at9 hS166 zs_M rfl), (by rw [zf_nj (by decide)]; exact zf_at9 hS296 zs_M rfl), (by exact zf_at9 hS319 zs_M rfl)⟩ (by rw [zf_nj (by decide), zf_nj (by decide), zf_nj (by decide), zf_nj (by decide)]; exact h10)
      | some p =>
        have hp40 := v_mbF_40 hMl p hz
        show zp_wp X y_Mod_means 116 [.ref 171, .int (nI i), .int (nI (5 * i)), .int (nI 8), zm_mk, zm_mk] [.int (nI p)] h' Q
        refine zp_istore_4 rfl rfl ?_
        refine zp_aload_n (x := 171) rfl rfl ?_
        refine zp_iload (x := (nI p)) rfl rfl ?_
        refine zp_ifT (tgt := 128) rfl rfl (zc_ge (by omega)) ?_
        refine zp_aload_n (x := 171) rfl rfl ?_
        refine zq_getr (k9 := 186) hS rfl (by first | assumption | exact ⟨by decide, rfl⟩) rfl ?_
        refine zp_aload_n (x := 171) rfl rfl ?_
        refine zq_getr (k9 := 186) hS rfl (by first | assumption | exact ⟨by decide, rfl⟩) rfl ?_
        refine zp_bipush (v := (nI 64)) rfl (by decide +kernel) ?_
        refine zp_iload (x := (nI p)) rfl rfl ?_
        refine zp_iaddN rfl ?_
        refine zq_iald hS rfl (by first | assumption | exact ⟨by decide, rfl⟩) (by omega) (by first | decide | omega) ?_
        rw [a2.2.2.2.1 (p) (by omega)]
        have q141 := hB2.2.2.2 (p) (by omega)
        refine zq_iald hS rfl (by first | assumption | exact ⟨by decide, rfl⟩) (by omega) (by first | decide | omega) ?_
        rw [a2.1 (v_ow TG (p)) (by omega)]
        have q142 := hB2.1 (v_ow TG (p)) (by omega)
        refine zq_put hS rfl (by first | assumption | exact ⟨by decide, rfl⟩) rfl rfl (fun hS143 => ?_)
        have hS := hS143
        refine zp_aload_n (x := 171) rfl rfl ?_
        refine zp_iload (x := (nI p)) rfl rfl ?_
        refine zp_ifT (tgt := 156) rfl rfl (zc_ge (by omega)) ?_
        refine zp_aload_n (x := 171) rfl rfl ?_
        refine zq_getr (k9 := 186) hS rfl (by first | assumption | exact ⟨by decide, rfl⟩) rfl ?_
        refine zp_bipush (v := (nI 24)) rfl (by decide +kernel) ?_
        refine zp_iload (x := (nI p)) rfl rfl ?_
        refine zp_iaddN rfl ?_
        refine zq_iald hS rfl (by first | assumption | exact ⟨by decide, rfl⟩) (by omega) (by first | decide | omega) ?_
        rw [zf_ci (a := 171) (b := 186) (by decide)]
        rw [a2.2.2.1 (p) (by omega)]
        have q165 := hB2.2.2.1 (p) (by omega)
        refine zq_put hS rfl (by first | assumption | exact ⟨by decide, rfl⟩) rfl rfl (fun hS166 => ?_)
        have hS := hS166
        refine zp_aload_n (x := 171) rfl rfl ?_
        refine zq_geti hS rfl (by first | assumption | exact ⟨by decide, rfl⟩) rfl ?_
        rw [zf_nj (by decide), zf_at9 hS143 (by first | assumption | exact ⟨by decide, rfl⟩) rfl]
        refine zp_ifN_eq (tgt := 180) rfl rfl (by omega) (fun b173 => ?_) (fun b173 => ?_)
        · refine zp_iconst (v := (nI 0)) rfl (by decide +kernel) ?_
          refine zp_istore_4 rfl rfl ?_
          refine zp_iload_n (x := (nI 8)) rfl rfl ?_
          refine zp_bipush (v := (nI 7)) rfl (by decide +kernel) ?_
          refine zp_icF (tgt := 201) rfl rfl (by decide +kernel) ?_
          refine zp_iload_n (x := (nI 8)) rfl rfl ?_
          refine zp_iconst (v := (nI 3)) rfl (by decide +kernel) ?_
          refine zp_icT (tgt := 243) rfl rfl (by decide +kernel) ?_
          refine zp_iload_n (x := (nI 8)) rfl rfl ?_
          refine zp_bipush (v := (nI 8)) rfl (by decide +kernel) ?_
          refine zp_icF (tgt := 339) rfl rfl (by decide +kernel) ?_
          refine zp_aload_n (x := 171) rfl rfl ?_
          refine zp_aload_n (x := 171) rfl rfl ?_
          refine zq_getr (k9 := 178) hS rfl (by first | assumption | exact ⟨by decide, rfl⟩) rfl ?_
          refine zp_iload_n (x := (nI (5 * i))) rfl rfl ?_
          refine zp_iconst (v := (nI 3)) rfl (by decide +kernel) ?_
          refine zp_iaddN rfl ?_
          refine zq_iald hS rfl (by first | assumption | exact ⟨by decide, rfl⟩) (by omega) (by first | decide | omega) ?_
          rw [zf_ci (a := 171) (b := 178) (by decide), zf_ci (a := 171) (b := 178) (by decide)]
          rw [w3]
          refine zp_aload_n (x := 171) rfl rfl ?_
          refine zq_getr (k9 := 178) hS rfl (by first | assumption | exact ⟨by decide, rfl⟩) rfl ?_
          refine zp_iload_n (x := (nI (5 * i))) rfl rfl ?_
          refine zp_iconst (v := (nI 4)) rfl (by decide +kernel) ?_
          refine zp_iaddN rfl ?_
          refine zq_iald hS rfl (by first | assumption | exact ⟨by decide, rfl⟩) (by omega) (by first | decide | omega) ?_
          rw [zf_ci (a := 171) (b := 178) (by decide), zf_ci (a := 171) (b := 178) (by decide)]
          rw [w4]
          refine zq_virt hS rfl rfl (by first | assumption | exact ⟨by decide, rfl⟩) rfl (s_Mod_memberFor hS ((by first | exact hst | exact hst.f | exact hst.f.f | exact hst.f.f.f : zr_st MV TG C M _)) hB (by omega) (by omega) ?_)
          cases hy : v_mbF MV M b n with
          | none =>
            show zp_wp X y_Mod_means 269 [.ref 171, .int (nI i), .int (nI (5 * i)), .int (nI 8), .int (nI 0), zm_mk] [.int (-1)] (zf_put (zf_put h' 171 21 (nI (v_cn TG (v_ow TG (p))))) 171 22 (nI (v_mn TG (p)))) Q
            refine zp_istore_5 rfl rfl ?_
            refine zp_aload_n (x := 171) rfl rfl ?_
            refine zp_iload (x := (-1)) rfl rfl ?_
            refine zp_ifF (tgt := 281) rfl rfl (by decide +kernel) ?_
            refine zp_iconst (v := (nI 0)) rfl (by decide +kernel) ?_
            refine zp_goto (tgt := 296) rfl rfl ?_
            refine zq_put hS rfl (by first | assumption | exact ⟨by decide, rfl⟩) rfl rfl (fun hS296 => ?_)
            have hS := hS296
            refine zp_aload_n (x := 171) rfl rfl ?_
            refine zp_iload (x := (-1)) rfl rfl ?_
            refine zp_ifF (tgt := 309) rfl rfl (by decide +kernel) ?_
            refine zp_iconst (v := (nI 0)) rfl (by decide +kernel) ?_
            refine zp_goto (tgt := 319) rfl rfl ?_
            refine zq_put hS rfl (by first | assumption | exact ⟨by decide, rfl⟩) rfl rfl (fun hS319 => ?_)
            have hS := hS319
            refine zp_iload (x := (nI 0)) rfl rfl ?_
            refine zp_ifT (tgt := 336) rfl rfl (by decide +kernel) ?_
            refine zp_iconst (v := (nI 0)) rfl (by decide +kernel) ?_
            refine zp_istore_4 rfl rfl ?_
            refine zp_iload (x := (nI 0)) rfl rfl ?_
            refine zp_zret rfl rfl (by decide) ?_
            have hv : v_hasP MV TG C M (8, a, m, b, n) = false := by first | (simp [v_hasP, v_plan, v_pA, v_pM, v_pB, v_pN, v_onm, v_mnm, hz, hy, b173]; done) | (simp [v_hasP, v_plan, v_pA, v_pM, v_pB, v_pN, v_onm, v_mnm, hz, hy]; done)
            have hpl : v_plan MV TG C M (8, a, m, b, n) = (8, (v_cn TG (v_ow TG (p))), (v_mn TG (p)), 0, 0) := by first | (simp [v_hasP, v_plan, v_pA, v_pM, v_pB, v_pN, v_onm, v_mnm, hz, hy, b173]; done) | (simp [v_hasP, v_plan, v_pA, v_pM, v_pB, v_pN, v_onm, v_mnm, hz, hy]; done)
            rw [hv, hpl] at hq
            exact hq _ ((((hG.f (by decide) hS143).f (by decide) hS166).f (by decide) hS296).f (by decide) hS319) ⟨(by rw [zf_nj (by decide), zf_nj (by decide), zf_nj (by decide)]; exact zf_at9 hS143 zs_M rfl), (by rw [zf_nj (by decide), zf_nj (by decide)]; exact zf_at9 hS166 zs_M rfl), (by rw [zf_nj (by decide)]; exact zf_at9 hS296 zs_M rfl), (by exact zf_at9 hS319 zs_M rfl)⟩ (by rw [zf_nj (by decide), zf_nj (by decide), zf_nj (by decide), zf_nj (by decide)]; exact h10)
          | some q =>
            have hq40 := v_mbF_40 hMl q hy
            show zp_wp X y_Mod_means 269 [.ref 171, .int (nI i), .int (nI (5 * i)), .int (nI 8), .int (nI 0), zm_mk] [.int (nI q)] (zf_put (zf_put h' 171 21 (nI (v_cn TG (v_ow TG (p))))) 171 22 (nI (v_mn TG (p)))) Q
            refine zp_istore_5 rfl rfl ?_
            refine zp_aload_n (x := 171) rfl rfl ?_
            refine zp_iload (x := (nI q)) rfl rfl ?_
            refine zp_ifT (tgt := 281) rfl rfl (zc_ge (by omega)) ?_
            refine zp_aload_n (x := 171) rfl rfl ?_
            refine zq_getr (k9 := 186) hS rfl (by first | assumption | exact ⟨by decide, rfl⟩) rfl ?_
            refine zp_aload_n (x := 171) rfl rfl ?_
            refine zq_getr (k9 := 186) hS rfl (by first | assumption | exact ⟨by decide, rfl⟩) rfl ?_
            refine zp_bipush (v := (nI 64)) rfl (by decide +kernel) ?_
            refine zp_iload (x := (nI q)) rfl rfl ?_
            refine zp_iaddN rfl ?_
            refine zq_iald hS rfl (by first | assumption | exact ⟨by decide, rfl⟩) (by omega) (by first | decide | omega) ?_
            rw [zf_ci (a := 171) (b := 186) (by decide), zf_ci (a := 171) (b := 186) (by decide)]
            rw [a2.2.2.2.1 (q) (by omega)]
            have q294 := hB2.2.2.2 (q) (by omega)
            refine zq_iald hS rfl (by first | assumption | exact ⟨by decide, rfl⟩) (by omega) (by first | decide | omega) ?_
            rw [zf_ci (a := 171) (b := 186) (by decide), zf_ci (a := 171) (b := 186) (by decide)]
            rw [a2.1 (v_ow TG (q)) (by omega)]
            have q295 := hB2.1 (v_ow TG (q)) (by omega)
            refine zq_put hS rfl (by first | assumption | exact ⟨by decide, rfl⟩) rfl rfl (fun hS296 => ?_)
            have hS := hS296
            refine zp_aload_n (x := 171) rfl rfl ?_
            refine zp_iload (x := (nI q)) rfl rfl ?_
            refine zp_ifT (tgt := 309) rfl rfl (zc_ge (by omega)) ?_
            refine zp_aload_n (x := 171) rfl rfl ?_
            refine zq_getr (k9 := 186) hS rfl (by first | assumption | exact ⟨by decide, rfl⟩) rfl ?_
            refine zp_bipush (v := (nI 24)) rfl (by decide +kernel) ?_
            refine zp_iload (x := (nI q)) rfl rfl ?_
            refine zp_iaddN rfl ?_
            refine zq_iald hS rfl (by first | assumption | exact ⟨by decide, rfl⟩) (by omega) (by first | decide | omega) ?_
            rw [zf_ci (a := 171) (b := 186) (by decide), zf_ci (a := 171) (b := 186) (by decide), zf_ci (a := 171) (b := 186) (by decide)]
            rw [a2.2.2.1 (q) (by omega)]
            have q318 := hB2.2.2.1 (q) (by omega)
            refine zq_put hS rfl (by first | assumption | exact ⟨by decide, rfl⟩) rfl rfl (fun hS319 => ?_)
            have hS := hS319
            refine zp_iload (x := (nI 0)) rfl rfl ?_
            refine zp_ifT (tgt := 336) rfl rfl (by decide +kernel) ?_
            refine zp_iconst (v := (nI 0)) rfl (by decide +kernel) ?_
            refine zp_istore_4 rfl rfl ?_
            refine zp_iload (x := (nI 0)) rfl rfl ?_
            refine zp_zret rfl rfl (by decide) ?_
            have hv : v_hasP MV TG C M (8, a, m, b, n) = false := by first | (simp [v_hasP, v_plan, v_pA, v_pM, v_pB, v_pN, v_onm, v_mnm, hz, hy, b173]; done) | (simp [v_hasP, v_plan, v_pA, v_pM, v_pB, v_pN, v_onm, v_mnm, hz, hy]; done)
            have hpl : v_plan MV TG C M (8, a, m, b, n) = (8, (v_cn TG (v_ow TG (p))), (v_mn TG (p)), (v_cn TG (v_ow TG (q))), (v_mn TG (q))) := by first | (simp [v_hasP, v_plan, v_pA, v_pM, v_pB, v_pN, v_onm, v_mnm, hz, hy, b173]; done) | (simp [v_hasP, v_plan, v_pA, v_pM, v_pB, v_pN, v_onm, v_mnm, hz, hy]; done)
            rw [hv, hpl] at hq
            exact hq _ ((((hG.f (by decide) hS143).f (by decide) hS166).f (by decide) hS296).f (by decide) hS319) ⟨(by rw [zf_nj (by decide), zf_nj (by decide), zf_nj (by decide)]; exact zf_at9 hS143 zs_M rfl), (by rw [zf_nj (by decide), zf_nj (by decide)]; exact zf_at9 hS166 zs_M rfl), (by rw [zf_nj (by decide)]; exact zf_at9 hS296 zs_M rfl), (by exact zf_at9 hS319 zs_M rfl)⟩ (by rw [zf_nj (by decide), zf_nj (by decide), zf_nj (by decide), zf_nj (by decide)]; exact h10)
        · refine zp_iconst (v := (nI 1)) rfl (by decide +kernel) ?_
          refine zp_goto (tgt := 181) rfl rfl ?_
          refine zp_istore_4 rfl rfl ?_
          refine zp_iload_n (x := (nI 8)) rfl rfl ?_
          refine zp_bipush (v := (nI 7)) rfl (by decide +kernel) ?_
          refine zp_icF (tgt := 201) rfl rfl (by decide +kernel) ?_
          refine zp_iload_n (x := (nI 8)) rfl rfl ?_
          refine zp_iconst (v := (nI 3)) rfl (by decide +kernel) ?_
          refine zp_icT (tgt := 243) rfl rfl (by decide +kernel) ?_
          refine zp_iload_n (x := (nI 8)) rfl rfl ?_
          refine zp_bipush (v := (nI 8)) rfl (by decide +kernel) ?_
          refine zp_icF (tgt := 339) rfl rfl (by decide +kernel) ?_
          refine zp_aload_n (x := 171) rfl rfl ?_
          refine zp_aload_n (x := 171) rfl rfl ?_
          refine zq_getr (k9 := 178) hS rfl (by first | assumption | exact ⟨by decide, rfl⟩) rfl ?_
          refine zp_iload_n (x := (nI (5 * i))) rfl rfl ?_
          refine zp_iconst (v := (nI 3)) rfl (by decide +kernel) ?_
          refine zp_iaddN rfl ?_
          refine zq_iald hS rfl (by first | assumption | exact ⟨by decide, rfl⟩) (by omega) (by first | decide | omega) ?_
          rw [zf_ci (a := 171) (b := 178) (by decide), zf_ci (a := 171) (b := 178) (by decide)]
          rw [w3]
          refine zp_aload_n (x := 171) rfl rfl ?_
          refine zq_getr (k9 := 178) hS rfl (by first | assumption | exact ⟨by decide, rfl⟩) rfl ?_
          refine zp_iload_n (x := (nI (5 * i))) rfl rfl ?_
          refine zp_iconst (v := (nI 4)) rfl (by decide +kernel) ?_
          refine zp_iaddN rfl ?_
          refine zq_iald hS rfl (by first | assumption | exact ⟨by decide, rfl⟩) (by omega) (by first | decide | omega) ?_
          rw [zf_ci (a := 171) (b := 178) (by decide), zf_ci (a := 171) (b := 178) (by decide)]
          rw [w4]
          refine zq_virt hS rfl rfl (by first | assumption | exact ⟨by decide, rfl⟩) rfl (s_Mod_memberFor hS ((by first | exact hst | exact hst.f | exact hst.f.f | exact hst.f.f.f : zr_st MV TG C M _)) hB (by omega) (by omega) ?_)
          cases hy : v_mbF MV M b n with
          | none =>
            show zp_wp X y_Mod_means 269 [.ref 171, .int (nI i), .int (nI (5 * i)), .int (nI 8), .int (nI 1), zm_mk] [.int (-1)] (zf_put (zf_put h' 171 21 (nI (v_cn TG (v_ow TG (p))))) 171 22 (nI (v_mn TG (p)))) Q
            refine zp_istore_5 rfl rfl ?_
            refine zp_aload_n (x := 171) rfl rfl ?_
            refine zp_iload (x := (-1)) rfl rfl ?_
            refine zp_ifF (tgt := 281) rfl rfl (by decide +kernel) ?_
            refine zp_iconst (v := (nI 0)) rfl (by decide +kernel) ?_
            refine zp_goto (tgt := 296) rfl rfl ?_
            refine zq_put hS rfl (by first | assumption | exact ⟨by decide, rfl⟩) rfl rfl (fun hS296 => ?_)
            have hS := hS296
            refine zp_aload_n (x := 171) rfl rfl ?_
            refine zp_iload (x := (-1)) rfl rfl ?_
            refine zp_ifF (tgt := 309) rfl rfl (by decide +kernel) ?_
            refine zp_iconst (v := (nI 0)) rfl (by decide +kernel) ?_
            refine zp_goto (tgt := 319) rfl rfl ?_
            refine zq_put hS rfl (by first | assumption | exact ⟨by decide, rfl⟩) rfl rfl (fun hS319 => ?_)
            have hS := hS319
            refine zp_iload (x := (nI 1)) rfl rfl ?_
            refine zp_ifF (tgt := 336) rfl rfl (by decide +kernel) ?_
            refine zp_iload (x := (-1)) rfl rfl ?_
            refine zp_ifT (tgt := 336) rfl rfl (by decide +kernel) ?_
            refine zp_iconst (v := (nI 0)) rfl (by decide +kernel) ?_
            refine zp_istore_4 rfl rfl ?_
            refine zp_iload (x := (nI 0)) rfl rfl ?_
            refine zp_zret rfl rfl (by decide) ?_
            have hv : v_hasP MV TG C M (8, a, m, b, n) = false := by first | (simp [v_hasP, v_plan, v_pA, v_pM, v_pB, v_pN, v_onm, v_mnm, hz, hy, b173]; done) | (simp [v_hasP, v_plan, v_pA, v_pM, v_pB, v_pN, v_onm, v_mnm, hz, hy]; done)
            have hpl : v_plan MV TG C M (8, a, m, b, n) = (8, (v_cn TG (v_ow TG (p))), (v_mn TG (p)), 0, 0) := by first | (simp [v_hasP, v_plan, v_pA, v_pM, v_pB, v_pN, v_onm, v_mnm, hz, hy, b173]; done) | (simp [v_hasP, v_plan, v_pA, v_pM, v_pB, v_pN, v_onm, v_mnm, hz, hy]; done)
            rw [hv, hpl] at hq
            exact hq _ ((((hG.f (by decide) hS143).f (by decide) hS166).f (by decide) hS296).f (by decide) hS319) ⟨(by rw [zf_nj (by decide), zf_nj (by decide), zf_nj (by decide)]; exact zf_at9 hS143 zs_M rfl), (by rw [zf_nj (by decide), zf_nj (by decide)]; exact zf_at9 hS166 zs_M rfl), (by rw [zf_nj (by decide)]; exact zf_at9 hS296 zs_M rfl), (by exact zf_at9 hS319 zs_M rfl)⟩ (by rw [zf_nj (by decide), zf_nj (by decide), zf_nj (by decide), zf_nj (by decide)]; exact h10)
          | some q =>
            have hq40 := v_mbF_40 hMl q hy
            show zp_wp X y_Mod_means 269 [.ref 171, .int (nI i), .int (nI (5 * i)), .int (nI 8), .int (nI 1), zm_mk] [.int (nI q)] (zf_put (zf_put h' 171 21 (nI (v_cn TG (v_ow TG (p))))) 171 22 (nI (v_mn TG (p)))) Q
            refine zp_istore_5 rfl rfl ?_
            refine zp_aload_n (x := 171) rfl rfl ?_
            refine zp_iload (x := (nI q)) rfl rfl ?_
            refine zp_ifT (tgt := 281) rfl rfl (zc_ge (by omega)) ?_
            refine zp_aload_n (x := 171) rfl rfl ?_
            refine zq_getr (k9 := 186) hS rfl (by first | assumption | exact ⟨by decide, rfl⟩) rfl ?_
            refine zp_aload_n (x := 171) rfl rfl ?_
            refine zq_getr (k9 := 186) hS rfl (by first | assumption | exact ⟨by decide, rfl⟩) rfl ?_
            refine zp_bipush (v := (nI 64)) rfl (by decide +kernel) ?_
            refine zp_iload (x := (nI q)) rfl rfl ?_
            refine zp_iaddN rfl ?_
            refine zq_iald hS rfl (by first | assumption | exact ⟨by decide, rfl⟩) (by omega) (by first | decide | omega) ?_
            rw [zf_ci (a := 171) (b := 186) (by decide), zf_ci (a := 171) (b := 186) (by decide)]
            rw [a2.2.2.2.1 (q) (by omega)]
            have q294 := hB2.2.2.2 (q) (by omega)
            refine zq_iald hS rfl (by first | assumption | exact ⟨by decide, rfl⟩) (by omega) (by first | decide | omega) ?_
            rw [zf_ci (a := 171) (b := 186) (by decide), zf_ci (a := 171) (b := 186) (by decide)]
            rw [a2.1 (v_ow TG (q)) (by omega)]
            have q295 := hB2.1 (v_ow TG (q)) (by omega)
            refine zq_put hS rfl (by first | assumption | exact ⟨by decide, rfl⟩) rfl rfl (fun hS296 => ?_)
            have hS := hS296
            refine zp_aload_n (x := 171) rfl rfl ?_
            refine zp_iload (x := (nI q)) rfl rfl ?_
            refine zp_ifT (tgt := 309) rfl rfl (zc_ge (by omega)) ?_
            refine zp_aload_n (x := 171) rfl rfl ?_
            refine zq_getr (k9 := 186) hS rfl (by first | assumption | exact ⟨by decide, rfl⟩) rfl ?_
            refine zp_bipush (v := (nI 24)) rfl (by decide +kernel) ?_
            refine zp_iload (x := (nI q)) rfl rfl ?_
            refine zp_iaddN rfl ?_
            refine zq_iald hS rfl (by first | assumption | exact ⟨by decide, rfl⟩) (by omega) (by first | decide | omega) ?_
            rw [zf_ci (a := 171) (b := 186) (by decide), zf_ci (a := 171) (b := 186) (by decide), zf_ci (a := 171) (b := 186) (by decide)]
            rw [a2.2.2.1 (q) (by omega)]
            have q318 := hB2.2.2.1 (q) (by omega)
            refine zq_put hS rfl (by first | assumption | exact ⟨by decide, rfl⟩) rfl rfl (fun hS319 => ?_)
            have hS := hS319
            refine zp_iload (x := (nI 1)) rfl rfl ?_
            refine zp_ifF (tgt := 336) rfl rfl (by decide +kernel) ?_
            refine zp_iload (x := (nI q)) rfl rfl ?_
            refine zp_ifF (tgt := 336) rfl rfl (zc_lt (by omega)) ?_
            refine zp_iconst (v := (nI 1)) rfl (by decide +kernel) ?_
            refine zp_goto (tgt := 337) rfl rfl ?_
            refine zp_istore_4 rfl rfl ?_
            refine zp_iload (x := (nI 1)) rfl rfl ?_
            refine zp_zret rfl rfl (by decide) ?_
            have hv : v_hasP MV TG C M (8, a, m, b, n) = true := by first | (simp [v_hasP, v_plan, v_pA, v_pM, v_pB, v_pN, v_onm, v_mnm, hz, hy, b173]; done) | (simp [v_hasP, v_plan, v_pA, v_pM, v_pB, v_pN, v_onm, v_mnm, hz, hy]; done)
            have hpl : v_plan MV TG C M (8, a, m, b, n) = (8, (v_cn TG (v_ow TG (p))), (v_mn TG (p)), (v_cn TG (v_ow TG (q))), (v_mn TG (q))) := by first | (simp [v_hasP, v_plan, v_pA, v_pM, v_pB, v_pN, v_onm, v_mnm, hz, hy, b173]; done) | (simp [v_hasP, v_plan, v_pA, v_pM, v_pB, v_pN, v_onm, v_mnm, hz, hy]; done)
            rw [hv, hpl] at hq
            exact hq _ ((((hG.f (by decide) hS143).f (by decide) hS166).f (by decide) hS296).f (by decide) hS319) ⟨(by rw [zf_nj (by decide), zf_nj (by decide), zf_nj (by decide)]; exact zf_at9 hS143 zs_M rfl), (by rw [zf_nj (by decide), zf_nj (by decide)]; exact zf_at9 hS166 zs_M rfl), (by rw [zf_nj (by decide)]; exact zf_at9 hS296 zs_M rfl), (by exact zf_at9 hS319 zs_M rfl)⟩ (by rw [zf_nj (by decide), zf_nj (by decide), zf_nj (by decide), zf_nj (by decide)]; exact h10)
    | 9, _, hp, hq =>
      refine zp_iload_n (x := (nI 9)) rfl rfl ?_
      refine zp_ifT (tgt := 65) rfl rfl (by decide +kernel) ?_
      refine zp_iload_n (x := (nI 9)) rfl rfl ?_
      refine zp_iconst (v := (nI 4)) rfl (by decide +kernel) ?_
      refine zp_icT (tgt := 96) rfl rfl (by decide +kernel) ?_
      refine zp_aload_n (x := 171) rfl rfl ?_
      refine zp_aload_n (x := 171) rfl rfl ?_
      refine zq_getr (k9 := 178) hS rfl (by first | assumption | exact ⟨by decide, rfl⟩) rfl ?_
      refine zp_iload_n (x := (nI (5 * i))) rfl rfl ?_
      refine zp_iconst (v := (nI 1)) rfl (by decide +kernel) ?_
      refine zp_iaddN rfl ?_
      refine zq_iald hS rfl (by first | assumption | exact ⟨by decide, rfl⟩) (by omega) (by first | decide | omega) ?_
      rw [w1]
      refine zp_aload_n (x := 171) rfl rfl ?_
      refine zq_getr (k9 := 178) hS rfl (by first | assumption | exact ⟨by decide, rfl⟩) rfl ?_
      refine zp_iload_n (x := (nI (5 * i))) rfl rfl ?_
      refine zp_iconst (v := (nI 2)) rfl (by decide +kernel) ?_
      refine zp_iaddN rfl ?_
      refine zq_iald hS rfl (by first | assumption | exact ⟨by decide, rfl⟩) (by omega) (by first | decide | omega) ?_
      rw [w2]
      refine zq_virt hS rfl rfl (by first | assumption | exact ⟨by decide, rfl⟩) rfl (s_Mod_memberFor hS ((by first | exact hst | exact hst.f | exact hst.f.f | exact hst.f.f.f : zr_st MV TG C M _)) hB (by omega) (by omega) ?_)
      cases hz : v_mbF MV M a m with
      | none =>
        show zp_wp X y_Mod_means 116 [.ref 171, .int (nI i), .int (nI (5 * i)), .int (nI 9), zm_mk, zm_mk] [.int (-1)] h' Q
        refine zp_istore_4 rfl rfl ?_
        refine zp_aload_n (x := 171) rfl rfl ?_
        refine zp_iload (x := (-1)) rfl rfl ?_
        refine zp_ifF (tgt := 128) rfl rfl (by decide +kernel) ?_
        refine zp_iconst (v := (nI 0)) rfl (by decide +kernel) ?_
        refine zp_goto (tgt := 143) rfl rfl ?_
        refine zq_put hS rfl (by first | assumption | exact ⟨by decide, rfl⟩) rfl rfl (fun hS143 => ?_)
        have hS := hS143
        refine zp_aload_n (x := 171) rfl rfl ?_
        refine zp_iload (x := (-1)) rfl rfl ?_
        refine zp_ifF (tgt := 156) rfl rfl (by decide +kernel) ?_
        refine zp_iconst (v := (nI 0)) rfl (by decide +kernel) ?_
        refine zp_goto (tgt := 166) rfl rfl ?_
        refine zq_put hS rfl (by first | assumption | exact ⟨by decide, rfl⟩) rfl rfl (fun hS166 => ?_)
        have hS := hS166
        refine zp_aload_n (x := 171) rfl rfl ?_
        refine zq_geti hS rfl (by first | assumption | exact ⟨by decide, rfl⟩) rfl ?_
        rw [zf_nj (by decide), zf_at9 hS143 (by first | assumption | exact ⟨by decide, rfl⟩) rfl]
        refine zp_ifT (tgt := 180) rfl rfl (by decide +kernel) ?_
        refine zp_iconst (v := (nI 0)) rfl (by decide +kernel) ?_
        refine zp_istore_4 rfl rfl ?_
        refine zp_iload_n (x := (nI 9)) rfl rfl ?_
        refine zp_bipush (v := (nI 7)) rfl (by decide +kernel) ?_
        refine zp_icF (tgt := 201) rfl rfl (by decide +kernel) ?_
        refine zp_iload_n (x := (nI 9)) rfl rfl ?_
        refine zp_iconst (v := (nI 3)) rfl (by decide +kernel) ?_
        refine zp_icT (tgt := 243) rfl rfl (by decide +kernel) ?_
        refine zp_iload_n (x := (nI 9)) rfl rfl ?_
        refine zp_bipush (v := (nI 8)) rfl (by decide +kernel) ?_
        refine zp_icF (tgt := 339) rfl rfl (by decide +kernel) ?_
        refine zp_aload_n (x := 171) rfl rfl ?_
        refine zp_aload_n (x := 171) rfl rfl ?_
        refine zq_getr (k9 := 178) hS rfl (by first | assumption | exact ⟨by decide, rfl⟩) rfl ?_
        refine zp_iload_n (x := (nI (5 * i))) rfl rfl ?_
        refine zp_iconst (v := (nI 3)) rfl (by decide +kernel) ?_
        refine zp_iaddN rfl ?_
        refine zq_iald hS rfl (by first | assumption | exact ⟨by decide, rfl⟩) (by omega) (by first | decide | omega) ?_
        rw [zf_ci (a := 171) (b := 178) (by decide), zf_ci (a := 171) (b := 178) (by decide)]
        rw [w3]
        refine zp_aload_n (x := 171) rfl rfl ?_
        refine zq_getr (k9 := 178) hS rfl (by first | assumption | exact ⟨by decide, rfl⟩) rfl ?_
        refine zp_iload_n (x := (nI (5 * i))) rfl rfl ?_
        refine zp_iconst (v := (nI 4)) rfl (by decide +kernel) ?_
        refine zp_iaddN rfl ?_
        refine zq_iald hS rfl (by first | assumption | exact ⟨by decide, rfl⟩) (by omega) (by first | decide | omega) ?_
        rw [zf_ci (a := 171) (b := 178) (by decide), zf_ci (a := 171) (b := 178) (by decide)]
        rw [w4]
        refine zq_virt hS rfl rfl (by first | assumption | exact ⟨by decide, rfl⟩) rfl (s_Mod_memberFor hS ((by first | exact hst | exact hst.f | exact hst.f.f | exact hst.f.f.f : zr_st MV TG C M _)) hB (by omega) (by omega) ?_)
        cases hy : v_mbF MV M b n with
        | none =>
          show zp_wp X y_Mod_means 269 [.ref 171, .int (nI i), .int (nI (5 * i)), .int (nI 9), .int (nI 0), zm_mk] [.int (-1)] (zf_put (zf_put h' 171 21 (nI 0)) 171 22 (nI 0)) Q
          refine zp_istore_5 rfl rfl ?_
          refine zp_aload_n (x := 171) rfl rfl ?_
          refine zp_iload (x := (-1)) rfl rfl ?_
          refine zp_ifF (tgt := 281) rfl rfl (by decide +kernel) ?_
          refine zp_iconst (v := (nI 0)) rfl (by decide +kernel) ?_
          refine zp_goto (tgt := 296) rfl rfl ?_
          refine zq_put hS rfl (by first | assumption | exact ⟨by decide, rfl⟩) rfl rfl (fun hS296 => ?_)
          have hS := hS296
          refine zp_aload_n (x := 171) rfl rfl ?_
          refine zp_iload (x := (-1)) rfl rfl ?_
          refine zp_ifF (tgt := 309) rfl rfl (by decide +kernel) ?_
          refine zp_iconst (v := (nI 0)) rfl (by decide +kernel) ?_
          refine zp_goto (tgt := 319) rfl rfl ?_
          refine zq_put hS rfl (by first | assumption | exact ⟨by decide, rfl⟩) rfl rfl (fun hS319 => ?_)
          have hS := hS319
          refine zp_iload (x := (nI 0)) rfl rfl ?_
          refine zp_ifT (tgt := 336) rfl rfl (by decide +kernel) ?_
          refine zp_iconst (v := (nI 0)) rfl (by decide +kernel) ?_
          refine zp_istore_4 rfl rfl ?_
          refine zp_iload (x := (nI 0)) rfl rfl ?_
          refine zp_zret rfl rfl (by decide) ?_
          have hv : v_hasP MV TG C M (9, a, m, b, n) = false := by first | (simp [v_hasP, v_plan, v_pA, v_pM, v_pB, v_pN, v_onm, v_mnm, hz, hy, b173]; done) | (simp [v_hasP, v_plan, v_pA, v_pM, v_pB, v_pN, v_onm, v_mnm, hz, hy]; done)
          have hpl : v_plan MV TG C M (9, a, m, b, n) = (9, 0, 0, 0, 0) := by first | (simp [v_hasP, v_plan, v_pA, v_pM, v_pB, v_pN, v_onm, v_mnm, hz, hy, b173]; done) | (simp [v_hasP, v_plan, v_pA, v_pM, v_pB, v_pN, v_onm, v_mnm, hz, hy]; done)
          rw [hv, hpl] at hq
          exact hq _ ((((hG.f (by decide) hS143).f (by decide) hS166).f (by decide) hS296).f (by decide) hS319) ⟨(by rw [zf_nj (by decide), zf_nj (by decide), zf_nj (by decide)]; exact zf_at9 hS143 zs_M rfl), (by rw [zf_nj (by decide), zf_nj (by decide)]; exact zf_at9 hS166 zs_M rfl), (by rw [zf_nj (by decide)]; exact zf_at9 hS296 zs_M rfl), (by exact zf_at9 hS319 zs_M rfl)⟩ (by rw [zf_nj (by decide), zf_nj (by decide), zf_nj (by decide), zf_nj (by decide)]; exact h10)
        | some q =>
          have hq40 := v_mbF_40 hMl q hy
          show zp_wp X y_Mod_means 269 [.ref 171, .int (nI i), .int (nI (5 * i)), .int (nI 9), .int (nI 0), zm_mk] [.int (nI q)] (zf_put (zf_put h' 171 21 (nI 0)) 171 22 (nI 0)) Q
          refine zp_istore_5 rfl rfl ?_
          refine zp_aload_n (x := 171) rfl rfl ?_
          refine zp_iload (x := (nI q)) rfl rfl ?_
          refine zp_ifT (tgt := 281) rfl rfl (zc_ge (by omega)) ?_
          refine zp_aload_n (x := 171) rfl rfl ?_
          refine zq_getr (k9 := 186) hS rfl (by first | assumption | exact ⟨by decide, rfl⟩) rfl ?_
          refine zp_aload_n (x := 171) rfl rfl ?_
          refine zq_getr (k9 := 186) hS rfl (by first | assumption | exact ⟨by decide, rfl⟩) rfl ?_
          refine zp_bipush (v := (nI 64)) rfl (by decide +kernel) ?_
          refine zp_iload (x := (nI q)) rfl rfl ?_
          refine zp_iaddN rfl ?_
          refine zq_iald hS rfl (by first | assumption | exact ⟨by decide, rfl⟩) (by omega) (by first | decide | omega) ?_
          rw [zf_ci (a := 171) (b := 186) (by decide), zf_ci (a := 171) (b := 186) (by decide)]
          rw [a2.2.2.2.1 (q) (by omega)]
          have q294 := hB2.2.2.2 (q) (by omega)
          refine zq_iald hS rfl (by first | assumption | exact ⟨by decide, rfl⟩) (by omega) (by first | decide | omega) ?_
          rw [zf_ci (a := 171) (b := 186) (by decide), zf_ci (a := 171) (b := 186) (by decide)]
          rw [a2.1 (v_ow TG (q)) (by omega)]
          have q295 := hB2.1 (v_ow TG (q)) (by omega)
          refine zq_put hS rfl (by first | assumption | exact ⟨by decide, rfl⟩) rfl rfl (fun hS296 => ?_)
          have hS := hS296
          refine zp_aload_n (x := 171) rfl rfl ?_
          refine zp_iload (x := (nI q)) rfl rfl ?_
          refine zp_ifT (tgt := 309) rfl rfl (zc_ge (by omega)) ?_
          refine zp_aload_n (x := 171) rfl rfl ?_
          refine zq_getr (k9 := 186) hS rfl (by first | assumption | exact ⟨by decide, rfl⟩) rfl ?_
          refine zp_bipush (v := (nI 24)) rfl (by decide +kernel) ?_
          refine zp_iload (x := (nI q)) rfl rfl ?_
          refine zp_iaddN rfl ?_
          refine zq_iald hS rfl (by first | assumption | exact ⟨by decide, rfl⟩) (by omega) (by first | decide | omega) ?_
          rw [zf_ci (a := 171) (b := 186) (by decide), zf_ci (a := 171) (b := 186) (by decide), zf_ci (a := 171) (b := 186) (by decide)]
          rw [a2.2.2.1 (q) (by omega)]
          have q318 := hB2.2.2.1 (q) (by omega)
          refine zq_put hS rfl (by first | assumption | exact ⟨by decide, rfl⟩) rfl rfl (fun hS319 => ?_)
          have hS := hS319
          refine zp_iload (x := (nI 0)) rfl rfl ?_
          refine zp_ifT (tgt := 336) rfl rfl (by decide +kernel) ?_
          refine zp_iconst (v := (nI 0)) rfl (by decide +kernel) ?_
          refine zp_istore_4 rfl rfl ?_
          refine zp_iload (x := (nI 0)) rfl rfl ?_
          refine zp_zret rfl rfl (by decide) ?_
          have hv : v_hasP MV TG C M (9, a, m, b, n) = false := by first | (simp [v_hasP, v_plan, v_pA, v_pM, v_pB, v_pN, v_onm, v_mnm, hz, hy, b173]; done) | (simp [v_hasP, v_plan, v_pA, v_pM, v_pB, v_pN, v_onm, v_mnm, hz, hy]; done)
          have hpl : v_plan MV TG C M (9, a, m, b, n) = (9, 0, 0, (v_cn TG (v_ow TG (q))), (v_mn TG (q))) := by first | (simp [v_hasP, v_plan, v_pA, v_pM, v_pB, v_pN, v_onm, v_mnm, hz, hy, b173]; done) | (simp [v_hasP, v_plan, v_pA, v_pM, v_pB, v_pN, v_onm, v_mnm, hz, hy]; done)
          rw [hv, hpl] at hq
          exact hq _ ((((hG.f (by decide) hS143).f (by decide) hS166).f (by decide) hS296).f (by decide) hS319) ⟨(by rw [zf_nj (by decide), zf_nj (by decide), zf_nj (by decide)]; exact zf_at9 hS143 zs_M rfl), (by rw [zf_nj (by decide), zf_nj (by decide)]; exact zf_at9 hS166 zs_M rfl), (by rw [zf_nj (by decide)]; exact zf_at9 hS296 zs_M rfl), (by exact zf_at9 hS319 zs_M rfl)⟩ (by rw [zf_nj (by decide), zf_nj (by decide), zf_nj (by decide), zf_nj (by decide)]; exact h10)
      | some p =>
        have hp40 := v_mbF_40 hMl p hz
        show zp_wp X y_Mod_means 116 [.ref 171, .int (nI i), .int (nI (5 * i)), .int (nI 9), zm_mk, zm_mk] [.int (nI p)] h' Q
        refine zp_istore_4 rfl rfl ?_
        refine zp_aload_n (x := 171) rfl rfl ?_
        refine zp_iload (x := (nI p)) rfl rfl ?_
        refine zp_ifT (tgt := 128) rfl rfl (zc_ge (by omega)) ?_
        refine zp_aload_n (x := 171) rfl rfl ?_
        refine zq_getr (k9 := 186) hS rfl (by first | assumption | exact ⟨by decide, rfl⟩) rfl ?_
        refine zp_aload_n (x := 171) rfl rfl ?_
        refine zq_getr (k9 := 186) hS rfl (by first | assumption | exact ⟨by decide, rfl⟩) rfl ?_
        refine zp_bipush (v := (nI 64)) rfl (by decide +kernel) ?_
        refine zp_iload (x := (nI p)) rfl rfl ?_
        refine zp_iaddN rfl ?_
        refine zq_iald hS rfl (by first | assumption | exact ⟨by decide, rfl⟩) (by omega) (by first | decide | omega) ?_
        rw [a2.2.2.2.1 (p) (by omega)]
        have q141 := hB2.2.2.2 (p) (by omega)
        refine zq_iald hS rfl (by first | assumption | exact ⟨by decide, rfl⟩) (by omega) (by first | decide | omega) ?_
        rw [a2.1 (v_ow TG (p)) (by omega)]
        have q142 := hB2.1 (v_ow TG (p)) (by omega)
        refine zq_put hS rfl (by first | assumption | exact ⟨by decide, rfl⟩) rfl rfl (fun hS143 => ?_)
        have hS := hS143
        refine zp_aload_n (x := 171) rfl rfl ?_
        refine zp_iload (x := (nI p)) rfl rfl ?_
        refine zp_ifT (tgt := 156) rfl rfl (zc_ge (by omega)) ?_
        refine zp_aload_n (x := 171) rfl rfl ?_
        refine zq_getr (k9 := 186) hS rfl (by first | assumption | exact ⟨by decide, rfl⟩) rfl ?_
        refine zp_bipush (v := (nI 24)) rfl (by decide +kernel) ?_
        refine zp_iload (x := (nI p)) rfl rfl ?_
        refine zp_iaddN rfl ?_
        refine zq_iald hS rfl (by first | assumption | exact ⟨by decide, rfl⟩) (by omega) (by first | decide | omega) ?_
        rw [zf_ci (a := 171) (b := 186) (by decide)]
        rw [a2.2.2.1 (p) (by omega)]
        have q165 := hB2.2.2.1 (p) (by omega)
        refine zq_put hS rfl (by first | assumption | exact ⟨by decide, rfl⟩) rfl rfl (fun hS166 => ?_)
        have hS := hS166
        refine zp_aload_n (x := 171) rfl rfl ?_
        refine zq_geti hS rfl (by first | assumption | exact ⟨by decide, rfl⟩) rfl ?_
        rw [zf_nj (by decide), zf_at9 hS143 (by first | assumption | exact ⟨by decide, rfl⟩) rfl]
        refine zp_ifN_eq (tgt := 180) rfl rfl (by omega) (fun b173 => ?_) (fun b173 => ?_)
        · refine zp_iconst (v := (nI 0)) rfl (by decide +kernel) ?_
          refine zp_istore_4 rfl rfl ?_
          refine zp_iload_n (x := (nI 9)) rfl rfl ?_
          refine zp_bipush (v := (nI 7)) rfl (by decide +kernel) ?_
          refine zp_icF (tgt := 201) rfl rfl (by decide +kernel) ?_
          refine zp_iload_n (x := (nI 9)) rfl rfl ?_
          refine zp_iconst (v := (nI 3)) rfl (by decide +kernel) ?_
          refine zp_icT (tgt := 243) rfl rfl (by decide +kernel) ?_
          refine zp_iload_n (x := (nI 9)) rfl rfl ?_
          refine zp_bipush (v := (nI 8)) rfl (by decide +kernel) ?_
          refine zp_icF (tgt := 339) rfl rfl (by decide +kernel) ?_
          refine zp_aload_n (x := 171) rfl rfl ?_
          refine zp_aload_n (x := 171) rfl rfl ?_
          refine zq_getr (k9 := 178) hS rfl (by first | assumption | exact ⟨by decide, rfl⟩) rfl ?_
          refine zp_iload_n (x := (nI (5 * i))) rfl rfl ?_
          refine zp_iconst (v := (nI 3)) rfl (by decide +kernel) ?_
          refine zp_iaddN rfl ?_
          refine zq_iald hS rfl (by first | assumption | exact ⟨by decide, rfl⟩) (by omega) (by first | decide | omega) ?_
          rw [zf_ci (a := 171) (b := 178) (by decide), zf_ci (a := 171) (b := 178) (by decide)]
          rw [w3]
          refine zp_aload_n (x := 171) rfl rfl ?_
          refine zq_getr (k9 := 178) hS rfl (by first | assumption | exact ⟨by decide, rfl⟩) rfl ?_
          refine zp_iload_n (x := (nI (5 * i))) rfl rfl ?_
          refine zp_iconst (v := (nI 4)) rfl (by decide +kernel) ?_
          refine zp_iaddN rfl ?_
          refine zq_iald hS rfl (by first | assumption | exact ⟨by decide, rfl⟩) (by omega) (by first | decide | omega) ?_
          rw [zf_ci (a := 171) (b := 178) (by decide), zf_ci (a := 171) (b := 178) (by decide)]
          rw [w4]
          refine zq_virt hS rfl rfl (by first | assumption | exact ⟨by decide, rfl⟩) rfl (s_Mod_memberFor hS ((by first | exact hst | exact hst.f | exact hst.f.f | exact hst.f.f.f : zr_st MV TG C M _)) hB (by omega) (by omega) ?_)
          cases hy : v_mbF MV M b n with
          | none =>
            show zp_wp X y_Mod_means 269 [.ref 171, .int (nI i), .int (nI (5 * i)), .int (nI 9), .int (nI 0), zm_mk] [.int (-1)] (zf_put (zf_put h' 171 21 (nI (v_cn TG (v_ow TG (p))))) 171 22 (nI (v_mn TG (p)))) Q
            refine zp_istore_5 rfl rfl ?_
            refine zp_aload_n (x := 171) rfl rfl ?_
            refine zp_iload (x := (-1)) rfl rfl ?_
            refine zp_ifF (tgt := 281) rfl rfl (by decide +kernel) ?_
            refine zp_iconst (v := (nI 0)) rfl (by decide +kernel) ?_
            refine zp_goto (tgt := 296) rfl rfl ?_
            refine zq_put hS rfl (by first | assumption | exact ⟨by decide, rfl⟩) rfl rfl (fun hS296 => ?_)
            have hS := hS296
            refine zp_aload_n (x := 171) rfl rfl ?_
            refine zp_iload (x := (-1)) rfl rfl ?_
            refine zp_ifF (tgt := 309) rfl rfl (by decide +kernel) ?_
            refine zp_iconst (v := (nI 0)) rfl (by decide +kernel) ?_
            refine zp_goto (tgt := 319) rfl rfl ?_
            refine zq_put hS rfl (by first | assumption | exact ⟨by decide, rfl⟩) rfl rfl (fun hS319 => ?_)
            have hS := hS319
            refine zp_iload (x := (nI 0)) rfl rfl ?_
            refine zp_ifT (tgt := 336) rfl rfl (by decide +kernel) ?_
            refine zp_iconst (v := (nI 0)) rfl (by decide +kernel) ?_
            refine zp_istore_4 rfl rfl ?_
            refine zp_iload (x := (nI 0)) rfl rfl ?_
            refine zp_zret rfl rfl (by decide) ?_
            have hv : v_hasP MV TG C M (9, a, m, b, n) = false := by first | (simp [v_hasP, v_plan, v_pA, v_pM, v_pB, v_pN, v_onm, v_mnm, hz, hy, b173]; done) | (simp [v_hasP, v_plan, v_pA, v_pM, v_pB, v_pN, v_onm, v_mnm, hz, hy]; done)
            have hpl : v_plan MV TG C M (9, a, m, b, n) = (9, (v_cn TG (v_ow TG (p))), (v_mn TG (p)), 0, 0) := by first | (simp [v_hasP, v_plan, v_pA, v_pM, v_pB, v_pN, v_onm, v_mnm, hz, hy, b173]; done) | (simp [v_hasP, v_plan, v_pA, v_pM, v_pB, v_pN, v_onm, v_mnm, hz, hy]; done)
            rw [hv, hpl] at hq
            exact hq _ ((((hG.f (by decide) hS143).f (by decide) hS166).f (by decide) hS296).f (by decide) hS319) ⟨(by rw [zf_nj (by decide), zf_nj (by decide), zf_nj (by decide)]; exact zf_at9 hS143 zs_M rfl), (by rw [zf_nj (by decide), zf_nj (by decide)]; exact zf_at9 hS166 zs_M rfl), (by rw [zf_nj (by decide)]; exact zf_at9 hS296 zs_M rfl), (by exact zf_at9 hS319 zs_M rfl)⟩ (by rw [zf_nj (by decide), zf_nj (by decide), zf_nj (by decide), zf_nj (by decide)]; exact h10)
          | some q =>
            have hq40 := v_mbF_40 hMl q hy
            show zp_wp X y_Mod_means 269 [.ref 171, .int (nI i), .int (nI (5 * i)), .int (nI 9), .int (nI 0), zm_mk] [.int (nI q)] (zf_put (zf_put h' 171 21 (nI (v_cn TG (v_ow TG (p))))) 171 22 (nI (v_mn TG (p)))) Q
            refine zp_istore_5 rfl rfl ?_
            refine zp_aload_n (x := 171) rfl rfl ?_
            refine zp_iload (x := (nI q)) rfl rfl ?_
            refine zp_ifT (tgt := 281) rfl rfl (zc_ge (by omega)) ?_
            refine zp_aload_n (x := 171) rfl rfl ?_
            refine zq_getr (k9 := 186) hS rfl (by first | assumption | exact ⟨by decide, rfl⟩) rfl ?_
            refine zp_aload_n (x := 171) rfl rfl ?_
            refine zq_getr (k9 := 186) hS rfl (by first | assumption | exact ⟨by decide, rfl⟩) rfl ?_
            refine zp_bipush (v := (nI 64)) rfl (by decide +kernel) ?_
            refine zp_iload (x := (nI q)) rfl rfl ?_
            refine zp_iaddN rfl ?_
            refine zq_iald hS rfl (by first | assumption | exact ⟨by decide, rfl⟩) (by omega) (by first | decide | omega) ?_
            rw [zf_ci (a := 171) (b := 186) (by decide), zf_ci (a := 171) (b := 186) (by decide)]
            rw [a2.2.2.2.1 (q) (by omega)]
            have q294 := hB2.2.2.2 (q) (by omega)
            refine zq_iald hS rfl (by first | assumption | exact ⟨by decide, rfl⟩) (by omega) (by first | decide | omega) ?_
            rw [zf_ci (a := 171) (b := 186) (by decide), zf_ci (a := 171) (b := 186) (by decide)]
            rw [a2.1 (v_ow TG (q)) (by omega)]
            have q295 := hB2.1 (v_ow TG (q)) (by omega)
            refine zq_put hS rfl (by first | assumption | exact ⟨by decide, rfl⟩) rfl rfl (fun hS296 => ?_)
            have hS := hS296
            refine zp_aload_n (x := 171) rfl rfl ?_
            refine zp_iload (x := (nI q)) rfl rfl ?_
            refine zp_ifT (tgt := 309) rfl rfl (zc_ge (by omega)) ?_
            refine zp_aload_n (x := 171) rfl rfl ?_
            refine zq_getr (k9 := 186) hS rfl (by first | assumption | exact ⟨by decide, rfl⟩) rfl ?_
            refine zp_bipush (v := (nI 24)) rfl (by decide +kernel) ?_
            refine zp_iload (x := (nI q)) rfl rfl ?_
            refine zp_iaddN rfl ?_
            refine zq_iald hS rfl (by first | assumption | exact ⟨by decide, rfl⟩) (by omega) (by first | decide | omega) ?_
            rw [zf_ci (a := 171) (b := 186) (by decide), zf_ci (a := 171) (b := 186) (by decide), zf_ci (a := 171) (b := 186) (by decide)]
            rw [a2.2.2.1 (q) (by omega)]
            have q318 := hB2.2.2.1 (q) (by omega)
            refine zq_put hS rfl (by first | assumption | exact ⟨by decide, rfl⟩) rfl rfl (fun hS319 => ?_)
            have hS := hS319
            refine zp_iload (x := (nI 0)) rfl rfl ?_
            refine zp_ifT (tgt := 336) rfl rfl (by decide +kernel) ?_
            refine zp_iconst (v := (nI 0)) rfl (by decide +kernel) ?_
            refine zp_istore_4 rfl rfl ?_
            refine zp_iload (x := (nI 0)) rfl rfl ?_
            refine zp_zret rfl rfl (by decide) ?_
            have hv : v_hasP MV TG C M (9, a, m, b, n) = false := by first | (simp [v_hasP, v_plan, v_pA, v_pM, v_pB, v_pN, v_onm, v_mnm, hz, hy, b173]; done) | (simp [v_hasP, v_plan, v_pA, v_pM, v_pB, v_pN, v_onm, v_mnm, hz, hy]; done)
            have hpl : v_plan MV TG C M (9, a, m, b, n) = (9, (v_cn TG (v_ow TG (p))), (v_mn TG (p)), (v_cn TG (v_ow TG (q))), (v_mn TG (q))) := by first | (simp [v_hasP, v_plan, v_pA, v_pM, v_pB, v_pN, v_onm, v_mnm, hz, hy, b173]; done) | (simp [v_hasP, v_plan, v_pA, v_pM, v_pB, v_pN, v_onm, v_mnm, hz, hy]; done)
            rw [hv, hpl] at hq
            exact hq _ ((((hG.f (by decide) hS143).f (by decide) hS166).f (by decide) hS296).f (by decide) hS319) ⟨(by rw [zf_nj (by decide), zf_nj (by decide), zf_nj (by decide)]; exact zf_at9 hS143 zs_M rfl), (by rw [zf_nj (by decide), zf_nj (by decide)]; exact zf_at9 hS166 zs_M rfl), (by rw [zf_nj (by decide)]; exact zf_at9 hS296 zs_M rfl), (by exact zf_at9 hS319 zs_M rfl)⟩ (by rw [zf_nj (by decide), zf_nj (by decide), zf_nj (by decide), zf_nj (by decide)]; exact h10)
        · refine zp_iconst (v := (nI 1)) rfl (by decide +kernel) ?_
          refine zp_goto (tgt := 181) rfl rfl ?_
          refine zp_istore_4 rfl rfl ?_
          refine zp_iload_n (x := (nI 9)) rfl rfl ?_
          refine zp_bipush (v := (nI 7)) rfl (by decide +kernel) ?_
          refine zp_icF (tgt := 201) rfl rfl (by decide +kernel) ?_
          refine zp_iload_n (x := (nI 9)) rfl rfl ?_
          refine zp_iconst (v := (nI 3)) rfl (by decide +kernel) ?_
          refine zp_icT (tgt := 243) rfl rfl (by decide +kernel) ?_
          refine zp_iload_n (x := (nI 9)) rfl rfl ?_
          refine zp_bipush (v := (nI 8)) rfl (by decide +kernel) ?_
          refine zp_icF (tgt := 339) rfl rfl (by decide +kernel) ?_
          refine zp_aload_n (x := 171) rfl rfl ?_
          refine zp_aload_n (x := 171) rfl rfl ?_
          refine zq_getr (k9 := 178) hS rfl (by first | assumption | exact ⟨by decide, rfl⟩) rfl ?_
          refine zp_iload_n (x := (nI (5 * i))) rfl rfl ?_
          refine zp_iconst (v := (nI 3)) rfl (by decide +kernel) ?_
          refine zp_iaddN rfl ?_
          refine zq_iald hS rfl (by first | assumption | exact ⟨by decide, rfl⟩) (by omega) (by first | decide | omega) ?_
          rw [zf_ci (a := 171) (b := 178) (by decide), zf_ci (a := 171) (b := 178) (by decide)]
          rw [w3]
          refine zp_aload_n (x := 171) rfl rfl ?_
          refine zq_getr (k9 := 178) hS rfl (by first | assumption | exact ⟨by decide, rfl⟩) rfl ?_
          refine zp_iload_n (x := (nI (5 * i))) rfl rfl ?_
          refine zp_iconst (v := (nI 4)) rfl (by decide +kernel) ?_
          refine zp_iaddN rfl ?_
          refine zq_iald hS rfl (by first | assumption | exact ⟨by decide, rfl⟩) (by omega) (by first | decide | omega) ?_
          rw [zf_ci (a := 171) (b := 178) (by decide), zf_ci (a := 171) (b := 178) (by decide)]
          rw [w4]
          refine zq_virt hS rfl rfl (by first | assumption | exact ⟨by decide, rfl⟩) rfl (s_Mod_memberFor hS ((by first | exact hst | exact hst.f | exact hst.f.f | exact hst.f.f.f : zr_st MV TG C M _)) hB (by omega) (by omega) ?_)
          cases hy : v_mbF MV M b n with
          | none =>
            show zp_wp X y_Mod_means 269 [.ref 171, .int (nI i), .int (nI (5 * i)), .int (nI 9), .int (nI 1), zm_mk] [.int (-1)] (zf_put (zf_put h' 171 21 (nI (v_cn TG (v_ow TG (p))))) 171 22 (nI (v_mn TG (p)))) Q
            refine zp_istore_5 rfl rfl ?_
            refine zp_aload_n (x := 171) rfl rfl ?_
            refine zp_iload (x := (-1)) rfl rfl ?_
            refine zp_ifF (tgt := 281) rfl rfl (by decide +kernel) ?_
            refine zp_iconst (v := (nI 0)) rfl (by decide +kernel) ?_
            refine zp_goto (tgt := 296) rfl rfl ?_
            refine zq_put hS rfl (by first | assumption | exact ⟨by decide, rfl⟩) rfl rfl (fun hS296 => ?_)
            have hS := hS296
            refine zp_aload_n (x := 171) rfl rfl ?_
            refine zp_iload (x := (-1)) rfl rfl ?_
            refine zp_ifF (tgt := 309) rfl rfl (by decide +kernel) ?_
            refine zp_iconst (v := (nI 0)) rfl (by decide +kernel) ?_
            refine zp_goto (tgt := 319) rfl rfl ?_
            refine zq_put hS rfl (by first | assumption | exact ⟨by decide, rfl⟩) rfl rfl (fun hS319 => ?_)
            have hS := hS319
            refine zp_iload (x := (nI 1)) rfl rfl ?_
            refine zp_ifF (tgt := 336) rfl rfl (by decide +kernel) ?_
            refine zp_iload (x := (-1)) rfl rfl ?_
            refine zp_ifT (tgt := 336) rfl rfl (by decide +kernel) ?_
            refine zp_iconst (v := (nI 0)) rfl (by decide +kernel) ?_
            refine zp_istore_4 rfl rfl ?_
            refine zp_iload (x := (nI 0)) rfl rfl ?_
            refine zp_zret rfl rfl (by decide) ?_
            have hv : v_hasP MV TG C M (9, a, m, b, n) = false := by first | (simp [v_hasP, v_plan, v_pA, v_pM, v_pB, v_pN, v_onm, v_mnm, hz, hy, b173]; done) | (simp [v_hasP, v_plan, v_pA, v_pM, v_pB, v_pN, v_onm, v_mnm, hz, hy]; done)
            have hpl : v_plan MV TG C M (9, a, m, b, n) = (9, (v_cn TG (v_ow TG (p))), (v_mn TG (p)), 0, 0) := by first | (simp [v_hasP, v_plan, v_pA, v_pM, v_pB, v_pN, v_onm, v_mnm, hz, hy, b173]; done) | (simp [v_hasP, v_plan, v_pA, v_pM, v_pB, v_pN, v_onm, v_mnm, hz, hy]; done)
            rw [hv, hpl] at hq
            exact hq _ ((((hG.f (by decide) hS143).f (by decide) hS166).f (by decide) hS296).f (by decide) hS319) ⟨(by rw [zf_nj (by decide), zf_nj (by decide), zf_nj (by decide)]; exact zf_at9 hS143 zs_M rfl), (by rw [zf_nj (by decide), zf_nj (by decide)]; exact zf_at9 hS166 zs_M rfl), (by rw [zf_nj (by decide)]; exact zf_at9 hS296 zs_M rfl), (by exact zf_at9 hS319 zs_M rfl)⟩ (by rw [zf_nj (by decide), zf_nj (by decide), zf_nj (by decide), zf_nj (by decide)]; exact h10)
          | some q =>
            have hq40 := v_mbF_40 hMl q hy
            show zp_wp X y_Mod_means 269 [.ref 171, .int (nI i), .int (nI (5 * i)), .int (nI 9), .int (nI 1), zm_mk] [.int (nI q)] (zf_put (zf_put h' 171 21 (nI (v_cn TG (v_ow TG (p))))) 171 22 (nI (v_mn TG (p)))) Q
            refine zp_istore_5 rfl rfl ?_
            refine zp_aload_n (x := 171) rfl rfl ?_
            refine zp_iload (x := (nI q)) rfl rfl ?_
            refine zp_ifT (tgt := 281) rfl rfl (zc_ge (by omega)) ?_
            refine zp_aload_n (x := 171) rfl rfl ?_
            refine zq_getr (k9 := 186) hS rfl (by first | assumption | exact ⟨by decide, rfl⟩) rfl ?_
            refine zp_aload_n (x := 171) rfl rfl ?_
            refine zq_getr (k9 := 186) hS rfl (by first | assumption | exact ⟨by decide, rfl⟩) rfl ?_
            refine zp_bipush (v := (nI 64)) rfl (by decide +kernel) ?_
            refine zp_iload (x := (nI q)) rfl rfl ?_
            refine zp_iaddN rfl ?_
            refine zq_iald hS rfl (by first | assumption | exact ⟨by decide, rfl⟩) (by omega) (by first | decide | omega) ?_
            rw [zf_ci (a := 171) (b := 186) (by decide), zf_ci (a := 171) (b := 186) (by decide)]
            rw [a2.2.2.2.1 (q) (by omega)]
            have q294 := hB2.2.2.2 (q) (by omega)
            refine zq_iald hS rfl (by first | assumption | exact ⟨by decide, rfl⟩) (by omega) (by first | decide | omega) ?_
            rw [zf_ci (a := 171) (b := 186) (by decide), zf_ci (a := 171) (b := 186) (by decide)]
            rw [a2.1 (v_ow TG (q)) (by omega)]
            have q295 := hB2.1 (v_ow TG (q)) (by omega)
            refine zq_put hS rfl (by first | assumption | exact ⟨by decide, rfl⟩) rfl rfl (fun hS296 => ?_)
            have hS := hS296
            refine zp_aload_n (x := 171) rfl rfl ?_
            refine zp_iload (x := (nI q)) rfl rfl ?_
            refine zp_ifT (tgt := 309) rfl rfl (zc_ge (by omega)) ?_
            refine zp_aload_n (x := 171) rfl rfl ?_
            refine zq_getr (k9 := 186) hS rfl (by first | assumption | exact ⟨by decide, rfl⟩) rfl ?_
            refine zp_bipush (v := (nI 24)) rfl (by decide +kernel) ?_
            refine zp_iload (x := (nI q)) rfl rfl ?_
            refine zp_iaddN rfl ?_
            refine zq_iald hS rfl (by first | assumption | exact ⟨by decide, rfl⟩) (by omega) (by first | decide | omega) ?_
            rw [zf_ci (a := 171) (b := 186) (by decide), zf_ci (a := 171) (b := 186) (by decide), zf_ci (a := 171) (b := 186) (by decide)]
            rw [a2.2.2.1 (q) (by omega)]
            have q318 := hB2.2.2.1 (q) (by omega)
            refine zq_put hS rfl (by first | assumption | exact ⟨by decide, rfl⟩) rfl rfl (fun hS319 => ?_)
            have hS := hS319
            refine zp_iload (x := (nI 1)) rfl rfl ?_
            refine zp_ifF (tgt := 336) rfl rfl (by decide +kernel) ?_
            refine zp_iload (x := (nI q)) rfl rfl ?_
            refine zp_ifF (tgt := 336) rfl rfl (zc_lt (by omega)) ?_
            refine zp_iconst (v := (nI 1)) rfl (by decide +kernel) ?_
            refine zp_goto (tgt := 337) rfl rfl ?_
            refine zp_istore_4 rfl rfl ?_
            refine zp_iload (x := (nI 1)) rfl rfl ?_
            refine zp_zret rfl rfl (by decide) ?_
            have hv : v_hasP MV TG C M (9, a, m, b, n) = true := by first | (simp [v_hasP, v_plan, v_pA, v_pM, v_pB, v_pN, v_onm, v_mnm, hz, hy, b173]; done) | (simp [v_hasP, v_plan, v_pA, v_pM, v_pB, v_pN, v_onm, v_mnm, hz, hy]; done)
            have hpl : v_plan MV TG C M (9, a, m, b, n) = (9, (v_cn TG (v_ow TG (p))), (v_mn TG (p)), (v_cn TG (v_ow TG (q))), (v_mn TG (q))) := by first | (simp [v_hasP, v_plan, v_pA, v_pM, v_pB, v_pN, v_onm, v_mnm, hz, hy, b173]; done) | (simp [v_hasP, v_plan, v_pA, v_pM, v_pB, v_pN, v_onm, v_mnm, hz, hy]; done)
            rw [hv, hpl] at hq
            exact hq _ ((((hG.f (by decide) hS143).f (by decide) hS166).f (by decide) hS296).f (by decide) hS319) ⟨(by rw [zf_nj (by decide), zf_nj (by decide), zf_nj (by decide)]; exact zf_at9 hS143 zs_M rfl), (by rw [zf_nj (by decide), zf_nj (by decide)]; exact zf_at9 hS166 zs_M rfl), (by rw [zf_nj (by decide)]; exact zf_at9 hS296 zs_M rfl), (by exact zf_at9 hS319 zs_M rfl)⟩ (by rw [zf_nj (by decide), zf_nj (by decide), zf_nj (by decide), zf_nj (by decide)]; exact h10)
    | k + 10, k1, _, _ => exact absurd k1 (by omega)
  obtain ⟨w0, w1, w2, w3, w4⟩ := hw
  dsimp only at w0 w1 w2 w3 w4
  refine zp_iconst (v := (nI 5)) rfl (by decide +kernel) ?_
  refine zp_iload_n (x := (nI i)) rfl rfl ?_
  refine zp_imulN rfl ?_
  refine zp_istore_n_2 rfl rfl ?_
  refine zp_aload_n (x := 171) rfl rfl ?_
  refine zq_getr (k9 := 178) hS rfl (by first | assumption | exact ⟨by decide, rfl⟩) rfl ?_
  refine zp_iload_n (x := (nI (5 * i))) rfl rfl ?_
  refine zq_iald hS rfl (by first | assumption | exact ⟨by decide, rfl⟩) (by omega) (by first | decide | omega) ?_
  rw [w0]
  refine zp_istore_n_3 rfl rfl ?_
  refine zp_aload_n (x := 171) rfl rfl ?_
  refine zp_aload_n (x := 171) rfl rfl ?_
  refine zq_getr (k9 := 178) hS rfl (by first | assumption | exact ⟨by decide, rfl⟩) rfl ?_
  refine zp_iload_n (x := (nI (5 * i))) rfl rfl ?_
  refine zp_iconst (v := (nI 1)) rfl (by decide +kernel) ?_
  refine zp_iaddN rfl ?_
  refine zq_iald hS rfl (by first | assumption | exact ⟨by decide, rfl⟩) (by omega) (by first | decide | omega) ?_
  rw [w1]
  refine zq_put hS rfl (by first | assumption | exact ⟨by decide, rfl⟩) rfl rfl (fun hS20 => ?_)
  have hS := hS20
  refine zp_aload_n (x := 171) rfl rfl ?_
  refine zp_aload_n (x := 171) rfl rfl ?_
  refine zq_getr (k9 := 178) hS rfl (by first | assumption | exact ⟨by decide, rfl⟩) rfl ?_
  refine zp_iload_n (x := (nI (5 * i))) rfl rfl ?_
  refine zp_iconst (v := (nI 2)) rfl (by decide +kernel) ?_
  refine zp_iaddN rfl ?_
  refine zq_iald hS rfl (by first | assumption | exact ⟨by decide, rfl⟩) (by omega) (by first | decide | omega) ?_
  rw [zf_ci (a := 171) (b := 178) (by decide)]
  rw [w2]
  refine zq_put hS rfl (by first | assumption | exact ⟨by decide, rfl⟩) rfl rfl (fun hS32 => ?_)
  have hS := hS32
  refine zp_aload_n (x := 171) rfl rfl ?_
  refine zp_aload_n (x := 171) rfl rfl ?_
  refine zq_getr (k9 := 178) hS rfl (by first | assumption | exact ⟨by decide, rfl⟩) rfl ?_
  refine zp_iload_n (x := (nI (5 * i))) rfl rfl ?_
  refine zp_iconst (v := (nI 3)) rfl (by decide +kernel) ?_
  refine zp_iaddN rfl ?_
  refine zq_iald hS rfl (by first | assumption | exact ⟨by decide, rfl⟩) (by omega) (by first | decide | omega) ?_
  rw [zf_ci (a := 171) (b := 178) (by decide), zf_ci (a := 171) (b := 178) (by decide)]
  rw [w3]
  refine zq_put hS rfl (by first | assumption | exact ⟨by decide, rfl⟩) rfl rfl (fun hS44 => ?_)
  have hS := hS44
  refine zp_aload_n (x := 171) rfl rfl ?_
  refine zp_aload_n (x := 171) rfl rfl ?_
  refine zq_getr (k9 := 178) hS rfl (by first | assumption | exact ⟨by decide, rfl⟩) rfl ?_
  refine zp_iload_n (x := (nI (5 * i))) rfl rfl ?_
  refine zp_iconst (v := (nI 4)) rfl (by decide +kernel) ?_
  refine zp_iaddN rfl ?_
  refine zq_iald hS rfl (by first | assumption | exact ⟨by decide, rfl⟩) (by omega) (by first | decide | omega) ?_
  rw [zf_ci (a := 171) (b := 178) (by decide), zf_ci (a := 171) (b := 178) (by decide), zf_ci (a := 171) (b := 178) (by decide)]
  rw [w4]
  refine zq_put hS rfl (by first | assumption | exact ⟨by decide, rfl⟩) rfl rfl (fun hS56 => ?_)
  have hS := hS56
  exact mid _ (((((zr_G.rf hS0).f (by decide) hS20).f (by decide) hS32).f (by decide) hS44).f (by decide) hS56) ⟨by rw [zf_nj (by decide), zf_nj (by decide), zf_nj (by decide)]; exact zf_at9 hS20 zs_M rfl, by rw [zf_nj (by decide), zf_nj (by decide)]; exact zf_at9 hS32 zs_M rfl, by rw [zf_nj (by decide)]; exact zf_at9 hS44 zs_M rfl, zf_at9 hS56 zs_M rfl⟩ (by rw [zf_nj (by decide), zf_nj (by decide), zf_nj (by decide), zf_nj (by decide)])
end ZR13
