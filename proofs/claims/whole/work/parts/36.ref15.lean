/-! the reference: replaying -/
section ZR15
variable {X : zm_X} {h h1 h2 : zm_H} {Q : zm_O → zm_H → Prop} {V W B MV TG : zv} {s : zst} {T : List Nat} {r o l d : Nat} {L : Nat → zch} {c pl : zch} {C M : Nat → Option Nat}
theorem zj.Cl (h : zj MV TG C M) : zo_lt C 12 12 := fun i hi j hj => (h.2.2.1.1 i hi j hj).1
theorem zj.Ml (h : zj MV TG C M) : zo_lt M 40 40 := fun i hi j hj => (h.2.2.2.1 i hi j hj).1
theorem zo_lt.le {n k k2 : Nat} (h : zo_lt C n k) (hk : k ≤ k2) : zo_lt C n k2 := fun i hi j hj => Nat.lt_of_lt_of_le (h i hi j hj) hk
theorem zj_T.none {TG' : zv} {mt : Option Nat} (h : zj_T MV TG C M c TG' mt) : zj_T MV TG C M c TG' none := ⟨h.1, h.2.1, h.2.2.1, fun _ p q => (by cases q), fun _ p q => (by cases q)⟩
theorem v_mend_lt (TG : zv) (f : Nat) (hf : f < 101) : ∀ (k : Nat) (pl : zch), (v_mend TG f k pl).1 < 101
  | 0, _ => hf
  | k + 1, pl => by
    unfold v_mend
    have := v_make_9 (V := TG) (kind := (v_adv pl).1) (a := (v_adv pl).2.1) (m := (v_adv pl).2.2.1) (b := (v_adv pl).2.2.2.1) (n := (v_adv pl).2.2.2.2)
    split
    · simp
    · split
      · show (v_mk TG (v_adv pl)).1 < 101
        unfold v_mk
        omega
      · exact v_mend_lt TG f hf k _
theorem v_tryR_lt (mend : Bool) (MV TG : zv) (C M : Nat → Option Nat) (c : zch) : (v_tryR mend MV TG C M c).1 < 101 := by
  unfold v_tryR
  dsimp only
  generalize v_plan MV TG C M c = pl
  have : (v_mk TG pl).1 < 10 := v_make_9
  split
  · simp
  · split
    · simp
    · split
      · cases v_els TG C M pl <;> simp
      · split
        · exact v_mend_lt TG _ (by omega) 25 pl
        · show (v_mk TG pl).1 < 101; omega
theorem mk_01 {pl : zch} (h0 : pl.1 = 0) (hf : (v_mk TG pl).1 = 1) : ∃ p, v_cls TG pl.2.1 = some p := by
  obtain ⟨kind, a, m, b, n⟩ := pl
  dsimp only at *
  subst h0
  have e : v_mk TG (0, a, m, b, n) = v_addC TG (v_cls TG a) a := rfl
  rw [e] at hf
  unfold v_addC at hf
  cases hc : v_cls TG a with
  | some p => exact ⟨p, rfl⟩
  | none =>
    rw [hc] at hf
    rw [if_neg (by simp)] at hf
    split at hf
    · cases hf
    · split at hf <;> cases hf
theorem mk_41 {pl : zch} (h0 : pl.1 = 4) (hf : (v_mk TG pl).1 = 1) : ∃ p, v_mem TG (v_cls TG pl.2.1) pl.2.2.1 = some p := by
  obtain ⟨kind, a, m, b, n⟩ := pl
  dsimp only at *
  subst h0
  have e : v_mk TG (4, a, m, b, n) = v_addM TG (v_cls TG a) m := rfl
  rw [e] at hf
  unfold v_addM at hf
  cases hc : v_cls TG a with
  | none => rw [hc] at hf; cases hf
  | some c =>
    rw [hc] at hf
    dsimp only at hf
    cases hm : v_mem TG (some c) m with
    | some p => exact ⟨p, rfl⟩
    | none =>
      rw [hm] at hf
      rw [if_neg (by simp)] at hf
      split at hf
      · cases hf
      · split at hf
        · cases hf
        · split at hf <;> cases hf
theorem s_Mod_tries {i : Nat} {mend : Bool} (hS : zs_H h) (hst : zr_st MV TG C M h) (hj : zj MV TG C M) (hi : i < 30) (hw : zr_at c i (ci h 178)) (hc : zc_leg c) (hq : ∀ h', zr_G [186] h h' → zv_R (v_tryR mend MV TG C M c).2.1 (ci h' 186) → cf h' 171 10 = zf_o (v_tryR mend MV TG C M c).2.2 → Q (.inl (some (.int (nI (v_tryR mend MV TG C M c).1)))) h') : zp_wm X y_Mod_tries [.ref 171, .int (nI i), .int (zf_b mend)] h Q := by
  show zp_wp X y_Mod_tries 0 [.ref 171, .int (nI i), .int (zf_b mend), zm_mk, zm_mk, zm_mk] [] h Q
  have hS0 := hS
  have k10 := hc.ok.1
  unfold v_tryR at hq
  dsimp only at hq
  generalize hpl : v_plan MV TG C M c = pl at hq
  have e1 : pl.1 = c.1 := by rw [← hpl]; exact v_plan_1
  have hlg : v_hasP MV TG C M c = true → zc_leg pl := fun q => by rw [← hpl]; exact hj.leg hc q
  -- a fault that counts as made
  have t68 : ∀ h', zr_G [186] h h' → zr_st MV TG C M h' → zr_p pl h' → cf h' 171 10 = -1 → v_hasP MV TG C M c = true → (v_mk TG pl).1 ≠ 0 → v_cnt pl (v_mk TG pl).1 = true → zp_wp X y_Mod_tries 68 [.ref 171, .int (nI i), .int (zf_b mend), .int (nI c.1), .int (nI (v_mk TG pl).1), zm_mk] [] h' Q := by
    intro h' hG hst' hp had hh hf hcn
    have hS := hG.1.1
    have hl := hlg hh
    have ho := hl.ok
    rw [if_neg (by rw [hh]; decide), if_neg hf, if_pos hcn] at hq
    obtain ⟨p1, p2, p3, p4⟩ := id hp
    obtain ⟨s1, s2, s3, s4⟩ := id hst'
    have fin0 : ∀ (x : Int32) H, H = zf_put h' 171 10 x → zs_H H → zr_G [186] h (zf_put h' 171 10 x) := fun x H e hH => hG.tr (zr_G.f10 (T := [186]) (by rw [← e]; exact hH)) (fun _ q => q)
    match hkk : c.1, k10 with
    | 0, _ =>
      have hf1 : (v_mk TG pl).1 = 1 := by
        unfold v_cnt at hcn
        rw [if_neg (by omega), if_neg (by omega)] at hcn
        simp only [Bool.and_eq_true, beq_iff_eq] at hcn
        exact hcn.1
      obtain ⟨p, hpz⟩ := mk_01 (by omega) hf1
      have hp12 := (v_cls_lt hpz).1
      have hold : v_old TG pl = some p := by unfold v_old; rw [if_pos (by omega)]; exact hpz
      have hels : v_els TG C M pl = v_isM C 12 p := by unfold v_els; rw [hold]; dsimp only; rw [if_pos (by omega)]
      rw [hels, hold] at hq
      refine zp_aload_n (x := 171) rfl rfl ?_
      refine zp_iload_n (x := (nI 0)) rfl rfl ?_
      refine zp_ifF (tgt := 87) rfl rfl (by decide +kernel) ?_
      refine zp_aload_n (x := 171) rfl rfl ?_
      refine zq_getr (k9 := 186) hS rfl (by first | assumption | exact ⟨by decide, rfl⟩) rfl ?_
      refine zp_aload_n (x := 171) rfl rfl ?_
      refine zq_geti hS rfl (by first | assumption | exact ⟨by decide, rfl⟩) rfl ?_
      rw [p1]
      refine zp_call rfl rfl (t_Mod_classAt hS ⟨by decide, rfl⟩ s2 hj.2.1.B (by have := ho.2.1; omega) ?_)
      rw [hpz]
      show zp_wp X y_Mod_tries 84 [.ref 171, .int (nI i), .int (zf_b mend), .int (nI 0), .int (nI ((v_mk TG pl).1)), zm_mk] [.int (nI p), .ref 171] h' Q
      refine zp_goto (tgt := 111) rfl rfl ?_
      refine zq_put hS rfl (by first | assumption | exact ⟨by decide, rfl⟩) rfl rfl (fun hS111 => ?_)
      have hS := hS111
      refine zp_iload_n (x := (nI 0)) rfl rfl ?_
      refine zp_ifF (tgt := 135) rfl rfl (by decide +kernel) ?_
      refine zp_aload_n (x := 171) rfl rfl ?_
      refine zp_aload_n (x := 171) rfl rfl ?_
      refine zq_getr (k9 := 183) hS rfl (by first | assumption | exact ⟨by decide, rfl⟩) rfl ?_
      refine zp_bipush (v := (nI 12)) rfl (by decide +kernel) ?_
      refine zp_aload_n (x := 171) rfl rfl ?_
      refine zq_geti hS rfl (by first | assumption | exact ⟨by decide, rfl⟩) rfl ?_
      rw [zf_at9 hS111 (by first | assumption | exact ⟨by decide, rfl⟩) rfl]
      refine zq_virt hS rfl rfl (by first | assumption | exact ⟨by decide, rfl⟩) rfl (s_Mod_isMatched (C := C) hS ⟨by decide, rfl⟩ (by decide) (by omega) (by rw [zf_ci (by decide)]; exact s3) (hj.Cl.le (by decide)) ?_)
      cases em : v_isM C 12 p with
      | false =>
        show zp_wp X y_Mod_tries 132 [.ref 171, .int (nI i), .int (zf_b mend), .int (nI 0), .int (nI ((v_mk TG pl).1)), zm_mk] [.int (nI 0)] (zf_put h' 171 10 (nI p)) Q
        refine zp_ifF (tgt := 157) rfl rfl (by decide +kernel) ?_
        refine zp_iload_n (x := (nI 0)) rfl rfl ?_
        refine zp_iconst (v := (nI 4)) rfl (by decide +kernel) ?_
        refine zp_icT (tgt := 161) rfl rfl (by decide +kernel) ?_
        refine zp_iconst (v := (nI 0)) rfl (by decide +kernel) ?_
        refine zp_istore_5 rfl rfl ?_
        refine zp_aload_n (x := 171) rfl rfl ?_
        refine zp_iload (x := (nI 0)) rfl rfl ?_
        refine zp_ifT (tgt := 174) rfl rfl (by decide +kernel) ?_
        refine zp_aload_n (x := 171) rfl rfl ?_
        refine zq_geti hS rfl (by first | assumption | exact ⟨by decide, rfl⟩) rfl ?_
        rw [zf_at9 hS111 (by first | assumption | exact ⟨by decide, rfl⟩) rfl]
        refine zq_put hS rfl (by first | assumption | exact ⟨by decide, rfl⟩) rfl rfl (fun hS178 => ?_)
        have hS := hS178
        refine zp_iload (x := (nI 0)) rfl rfl ?_
        refine zp_ifT (tgt := 191) rfl rfl (by decide +kernel) ?_
        refine zp_iconst (v := (nI 0)) rfl (by decide +kernel) ?_
        refine zp_iret rfl rfl ?_
        simp only [em] at hq
        refine hq _ ((fin0 _ _ rfl hS111).tr (zr_G.f10 (T := [186]) hS178) (fun _ q => q)) (by rw [zf_ci (by decide), zf_ci (by decide)]; exact s2) (zf_at9 hS178 zs_M rfl)
      | true =>
        show zp_wp X y_Mod_tries 132 [.ref 171, .int (nI i), .int (zf_b mend), .int (nI 0), .int (nI ((v_mk TG pl).1)), zm_mk] [.int (nI 1)] (zf_put h' 171 10 (nI p)) Q
        refine zp_ifT (tgt := 157) rfl rfl (by decide +kernel) ?_
        refine zp_iconst (v := (nI 1)) rfl (by decide +kernel) ?_
        refine zp_goto (tgt := 162) rfl rfl ?_
        refine zp_istore_5 rfl rfl ?_
        refine zp_aload_n (x := 171) rfl rfl ?_
        refine zp_iload (x := (nI 1)) rfl rfl ?_
        refine zp_ifF (tgt := 174) rfl rfl (by decide +kernel) ?_
        refine zp_iconst (v := (-1)) rfl (by decide +kernel) ?_
        refine zp_goto (tgt := 178) rfl rfl ?_
        refine zq_put hS rfl (by first | assumption | exact ⟨by decide, rfl⟩) rfl rfl (fun hS178 => ?_)
        have hS := hS178
        refine zp_iload (x := (nI 1)) rfl rfl ?_
        refine zp_ifF (tgt := 191) rfl rfl (by decide +kernel) ?_
        refine zp_bipush (v := (nI 6)) rfl (by decide +kernel) ?_
        refine zp_goto (tgt := 192) rfl rfl ?_
        refine zp_iret rfl rfl ?_
        simp only [em] at hq
        refine hq _ ((fin0 _ _ rfl hS111).tr (zr_G.f10 (T := [186]) hS178) (fun _ q => q)) (by rw [zf_ci (by decide), zf_ci (by decide)]; exact s2) (zf_at9 hS178 zs_M rfl)
    | 1, _ =>
      exfalso
      unfold v_cnt at hcn
      rw [if_neg (by omega), if_neg (by omega)] at hcn
      simp only [Bool.and_eq_true, Bool.or_eq_true, beq_iff_eq] at hcn
      omega
    | 2, _ =>
      have hold : v_old TG pl = none := by unfold v_old; rw [if_neg (by omega), if_neg (by omega)]
      have hels : v_els TG C M pl = false := by unfold v_els; rw [hold]
      rw [hels, hold] at hq
      refine zp_aload_n (x := 171) rfl rfl ?_
      refine zp_iload_n (x := (nI 2)) rfl rfl ?_
      refine zp_ifT (tgt := 87) rfl rfl (by decide +kernel) ?_
      refine zp_iload_n (x := (nI 2)) rfl rfl ?_
      refine zp_iconst (v := (nI 4)) rfl (by decide +kernel) ?_
      refine zp_icT (tgt := 110) rfl rfl (by decide +kernel) ?_
      refine zp_iconst (v := (-1)) rfl (by decide +kernel) ?_
      refine zq_put hS rfl (by first | assumption | exact ⟨by decide, rfl⟩) rfl rfl (fun hS111 => ?_)
      have hS := hS111
      refine zp_iload_n (x := (nI 2)) rfl rfl ?_
      refine zp_ifT (tgt := 135) rfl rfl (by decide +kernel) ?_
      refine zp_iload_n (x := (nI 2)) rfl rfl ?_
      refine zp_iconst (v := (nI 4)) rfl (by decide +kernel) ?_
      refine zp_icT (tgt := 161) rfl rfl (by decide +kernel) ?_
      refine zp_iconst (v := (nI 0)) rfl (by decide +kernel) ?_
      refine zp_istore_5 rfl rfl ?_
      refine zp_aload_n (x := 171) rfl rfl ?_
      refine zp_iload (x := (nI 0)) rfl rfl ?_
      refine zp_ifT (tgt := 174) rfl rfl (by decide +kernel) ?_
      refine zp_aload_n (x := 171) rfl rfl ?_
      refine zq_geti hS rfl (by first | assumption | exact ⟨by decide, rfl⟩) rfl ?_
      rw [zf_at9 hS111 (by first | assumption | exact ⟨by decide, rfl⟩) rfl]
      refine zq_put hS rfl (by first | assumption | exact ⟨by decide, rfl⟩) rfl rfl (fun hS178 => ?_)
      have hS := hS178
      refine zp_iload (x := (nI 0)) rfl rfl ?_
      refine zp_ifT (tgt := 191) rfl rfl (by decide +kernel) ?_
      refine zp_iconst (v := (nI 0)) rfl (by decide +kernel) ?_
      refine zp_iret rfl rfl ?_
      refine hq _ ((fin0 _ _ rfl hS111).tr (zr_G.f10 (T := [186]) hS178) (fun _ q => q)) (by rw [zf_ci (by decide), zf_ci (by decide)]; exact s2) (zf_at9 hS178 zs_M rfl)
    | 3, _ =>
      exfalso
      unfold v_cnt at hcn
      rw [if_neg (by omega), if_neg (by omega)] at hcn
      simp only [Bool.and_eq_true, Bool.or_eq_true, beq_iff_eq] at hcn
      omega
    | 4, _ =>
      have hf1 : (v_mk TG pl).1 = 1 := by
        unfold v_cnt at hcn
        rw [if_neg (by omega), if_neg (by omega)] at hcn
        simp only [Bool.and_eq_true, beq_iff_eq] at hcn
        exact hcn.1
      obtain ⟨p, hpz⟩ := mk_41 (by omega) hf1
      have hp40 := (v_mem_lt hpz).1
      have hold : v_old TG pl = some p := by unfold v_old; rw [if_neg (by omega), if_pos (by omega)]; exact hpz
      have hels : v_els TG C M pl = v_isM M 40 p := by unfold v_els; rw [hold]; dsimp only; rw [if_neg (by omega)]
      rw [hels, hold] at hq
      refine zp_aload_n (x := 171) rfl rfl ?_
      refine zp_iload_n (x := (nI 4)) rfl rfl ?_
      refine zp_ifT (tgt := 87) rfl rfl (by decide +kernel) ?_
      refine zp_iload_n (x := (nI 4)) rfl rfl ?_
      refine zp_iconst (v := (nI 4)) rfl (by decide +kernel) ?_
      refine zp_icF (tgt := 110) rfl rfl (by decide +kernel) ?_
      refine zp_aload_n (x := 171) rfl rfl ?_
      refine zq_getr (k9 := 186) hS rfl (by first | assumption | exact ⟨by decide, rfl⟩) rfl ?_
      refine zp_aload_n (x := 171) rfl rfl ?_
      refine zq_geti hS rfl (by first | assumption | exact ⟨by decide, rfl⟩) rfl ?_
      rw [p1]
      refine zp_aload_n (x := 171) rfl rfl ?_
      refine zq_geti hS rfl (by first | assumption | exact ⟨by decide, rfl⟩) rfl ?_
      rw [p2]
      refine zp_call rfl rfl (t_Mod_memberOf hS ⟨by decide, rfl⟩ s2 hj.2.1.B (by have := ho.2.1; omega) (by have := ho.2.2.1; omega) ?_)
      rw [hpz]
      show zp_wp X y_Mod_tries 107 [.ref 171, .int (nI i), .int (zf_b mend), .int (nI 4), .int (nI ((v_mk TG pl).1)), zm_mk] [.int (nI p), .ref 171] h' Q
      refine zp_goto (tgt := 111) rfl rfl ?_
      refine zq_put hS rfl (by first | assumption | exact ⟨by decide, rfl⟩) rfl rfl (fun hS111 => ?_)
      have hS := hS111
      refine zp_iload_n (x := (nI 4)) rfl rfl ?_
      refine zp_ifT (tgt := 135) rfl rfl (by decide +kernel) ?_
      refine zp_iload_n (x := (nI 4)) rfl rfl ?_
      refine zp_iconst (v := (nI 4)) rfl (by decide +kernel) ?_
      refine zp_icF (tgt := 161) rfl rfl (by decide +kernel) ?_
      refine zp_aload_n (x := 171) rfl rfl ?_
      refine zp_aload_n (x := 171) rfl rfl ?_
      refine zq_getr (k9 := 184) hS rfl (by first | assumption | exact ⟨by decide, rfl⟩) rfl ?_
      refine zp_bipush (v := (nI 40)) rfl (by decide +kernel) ?_
      refine zp_aload_n (x := 171) rfl rfl ?_
      refine zq_geti hS rfl (by first | assumption | exact ⟨by decide, rfl⟩) rfl ?_
      rw [zf_at9 hS111 (by first | assumption | exact ⟨by decide, rfl⟩) rfl]
      refine zq_virt hS rfl rfl (by first | assumption | exact ⟨by decide, rfl⟩) rfl (s_Mod_isMatched (C := M) hS ⟨by decide, rfl⟩ (by decide) (by omega) (by rw [zf_ci (by decide)]; exact s4) hj.Ml ?_)
      cases em : v_isM M 40 p with
      | false =>
        show zp_wp X y_Mod_tries 154 [.ref 171, .int (nI i), .int (zf_b mend), .int (nI 4), .int (nI ((v_mk TG pl).1)), zm_mk] [.int (nI 0)] (zf_put h' 171 10 (nI p)) Q
        refine zp_ifT (tgt := 161) rfl rfl (by decide +kernel) ?_
        refine zp_iconst (v := (nI 0)) rfl (by decide +kernel) ?_
        refine zp_istore_5 rfl rfl ?_
        refine zp_aload_n (x := 171) rfl rfl ?_
        refine zp_iload (x := (nI 0)) rfl rfl ?_
        refine zp_ifT (tgt := 174) rfl rfl (by decide +kernel) ?_
        refine zp_aload_n (x := 171) rfl rfl ?_
        refine zq_geti hS rfl (by first | assumption | exact ⟨by decide, rfl⟩) rfl ?_
        rw [zf_at9 hS111 (by first | assumption | exact ⟨by decide, rfl⟩) rfl]
        refine zq_put hS rfl (by first | assumption | exact ⟨by decide, rfl⟩) rfl rfl (fun hS178 => ?_)
        have hS := hS178
        refine zp_iload (x := (nI 0)) rfl rfl ?_
        refine zp_ifT (tgt := 191) rfl rfl (by decide +kernel) ?_
        refine zp_iconst (v := (nI 0)) rfl (by decide +kernel) ?_
        refine zp_iret rfl rfl ?_
        simp only [em] at hq
        refine hq _ ((fin0 _ _ rfl hS111).tr (zr_G.f10 (T := [186]) hS178) (fun _ q => q)) (by rw [zf_ci (by decide), zf_ci (by decide)]; exact s2) (zf_at9 hS178 zs_M rfl)
      | true =>
        show zp_wp X y_Mod_tries 154 [.ref 171, .int (nI i), .int (zf_b mend), .int (nI 4), .int (nI ((v_mk TG pl).1)), zm_mk] [.int (nI 1)] (zf_put h' 171 10 (nI p)) Q
        refine zp_ifF (tgt := 161) rfl rfl (by decide +kernel) ?_
        refine zp_iconst (v := (nI 1)) rfl (by decide +kernel) ?_
        refine zp_goto (tgt := 162) rfl rfl ?_
        refine zp_istore_5 rfl rfl ?_
        refine zp_aload_n (x := 171) rfl rfl ?_
        refine zp_iload (x := (nI 1)) rfl rfl ?_
        refine zp_ifF (tgt := 174) rfl rfl (by decide +kernel) ?_
        refine zp_iconst (v := (-1)) rfl (by decide +kernel) ?_
        refine zp_goto (tgt := 178) rfl rfl ?_
        refine zq_put hS rfl (by first | assumption | exact ⟨by decide, rfl⟩) rfl rfl (fun hS178 => ?_)
        have hS := hS178
        refine zp_iload (x := (nI 1)) rfl rfl ?_
        refine zp_ifF (tgt := 191) rfl rfl (by decide +kernel) ?_
        refine zp_bipush (v := (nI 6)) rfl (by decide +kernel) ?_
        refine zp_goto (tgt := 192) rfl rfl ?_
        refine zp_iret rfl rfl ?_
        simp only [em] at hq
        refine hq _ ((fin0 _ _ rfl hS111).tr (zr_G.f10 (T := [186]) hS178) (fun _ q => q)) (by rw [zf_ci (by decide), zf_ci (by decide)]; exact s2) (zf_at9 hS178 zs_M rfl)
    | 5, _ =>
      exfalso
      unfold v_cnt at hcn
      rw [if_neg (by omega), if_neg (by omega)] at hcn
      simp only [Bool.and_eq_true, Bool.or_eq_true, beq_iff_eq] at hcn
      omega
    | 6, _ =>
      have hold : v_old TG pl = none := by unfold v_old; rw [if_neg (by omega), if_neg (by omega)]
      have hels : v_els TG C M pl = false := by unfold v_els; rw [hold]
      rw [hels, hold] at hq
      refine zp_aload_n (x := 171) rfl rfl ?_
      refine zp_iload_n (x := (nI 6)) rfl rfl ?_
      refine zp_ifT (tgt := 87) rfl rfl (by decide +kernel) ?_
      refine zp_iload_n (x := (nI 6)) rfl rfl ?_
      refine zp_iconst (v := (nI 4)) rfl (by decide +kernel) ?_
      refine zp_icT (tgt := 110) rfl rfl (by decide +kernel) ?_
      refine zp_iconst (v := (-1)) rfl (by decide +kernel) ?_
      refine zq_put hS rfl (by first | assumption | exact ⟨by decide, rfl⟩) rfl rfl (fun hS111 => ?_)
      have hS := hS111
      refine zp_iload_n (x := (nI 6)) rfl rfl ?_
      refine zp_ifT (tgt := 135) rfl rfl (by decide +kernel) ?_
      refine zp_iload_n (x := (nI 6)) rfl rfl ?_
      refine zp_iconst (v := (nI 4)) rfl (by decide +kernel) ?_
      refine zp_icT (tgt := 161) rfl rfl (by decide +kernel) ?_
      refine zp_iconst (v := (nI 0)) rfl (by decide +kernel) ?_
      refine zp_istore_5 rfl rfl ?_
      refine zp_aload_n (x := 171) rfl rfl ?_
      refine zp_iload (x := (nI 0)) rfl rfl ?_
      refine zp_ifT (tgt := 174) rfl rfl (by decide +kernel) ?_
      refine zp_aload_n (x := 171) rfl rfl ?_
      refine zq_geti hS rfl (by first | assumption | exact ⟨by decide, rfl⟩) rfl ?_
      rw [zf_at9 hS111 (by first | assumption | exact ⟨by decide, rfl⟩) rfl]
      refine zq_put hS rfl (by first | assumption | exact ⟨by decide, rfl⟩) rfl rfl (fun hS178 => ?_)
      have hS := hS178
      refine zp_iload (x := (nI 0)) rfl rfl ?_
      refine zp_ifT (tgt := 191) rfl rfl (by decide +kernel) ?_
      refine zp_iconst (v := (nI 0)) rfl (by decide +kernel) ?_
      refine zp_iret rfl rfl ?_
      refine hq _ ((fin0 _ _ rfl hS111).tr (zr_G.f10 (T := [186]) hS178) (fun _ q => q)) (by rw [zf_ci (by decide), zf_ci (by decide)]; exact s2) (zf_at9 hS178 zs_M rfl)
    | 7, _ =>
      have hold : v_old TG pl = none := by unfold v_old; rw [if_neg (by omega), if_neg (by omega)]
      have hels : v_els TG C M pl = false := by unfold v_els; rw [hold]
      rw [hels, hold] at hq
      refine zp_aload_n (x := 171) rfl rfl ?_
      refine zp_iload_n (x := (nI 7)) rfl rfl ?_
      refine zp_ifT (tgt := 87) rfl rfl (by decide +kernel) ?_
      refine zp_iload_n (x := (nI 7)) rfl rfl ?_
      refine zp_iconst (v := (nI 4)) rfl (by decide +kernel) ?_
      refine zp_icT (tgt := 110) rfl rfl (by decide +kernel) ?_
      refine zp_iconst (v := (-1)) rfl (by decide +kernel) ?_
      refine zq_put hS rfl (by first | assumption | exact ⟨by decide, rfl⟩) rfl rfl (fun hS111 => ?_)
      have hS := hS111
      refine zp_iload_n (x := (nI 7)) rfl rfl ?_
      refine zp_ifT (tgt := 135) rfl rfl (by decide +kernel) ?_
      refine zp_iload_n (x := (nI 7)) rfl rfl ?_
      refine zp_iconst (v := (nI 4)) rfl (by decide +kernel) ?_
      refine zp_icT (tgt := 161) rfl rfl (by decide +kernel) ?_
      refine zp_iconst (v := (nI 0)) rfl (by decide +kernel) ?_
      refine zp_istore_5 rfl rfl ?_
      refine zp_aload_n (x := 171) rfl rfl ?_
      refine zp_iload (x := (nI 0)) rfl rfl ?_
      refine zp_ifT (tgt := 174) rfl rfl (by decide +kernel) ?_
      refine zp_aload_n (x := 171) rfl rfl ?_
      refine zq_geti hS rfl (by first | assumption | exact ⟨by decide, rfl⟩) rfl ?_
      rw [zf_at9 hS111 (by first | assumption | exact ⟨by decide, rfl⟩) rfl]
      refine zq_put hS rfl (by first | assumption | exact ⟨by decide, rfl⟩) rfl rfl (fun hS178 => ?_)
      have hS := hS178
      refine zp_iload (x := (nI 0)) rfl rfl ?_
      refine zp_ifT (tgt := 191) rfl rfl (by decide +kernel) ?_
      refine zp_iconst (v := (nI 0)) rfl (by decide +kernel) ?_
      refine zp_iret rfl rfl ?_
      refine hq _ ((fin0 _ _ rfl hS111).tr (zr_G.f10 (T := [186]) hS178) (fun _ q => q)) (by rw [zf_ci (by decide), zf_ci (by decide)]; exact s2) (zf_at9 hS178 zs_M rfl)
    | 8, _ =>
      have hold : v_old TG pl = none := by unfold v_old; rw [if_neg (by omega), if_neg (by omega)]
      have hels : v_els TG C M pl = false := by unfold v_els; rw [hold]
      rw [hels, hold] at hq
      refine zp_aload_n (x := 171) rfl rfl ?_
      refine zp_iload_n (x := (nI 8)) rfl rfl ?_
      refine zp_ifT (tgt := 87) rfl rfl (by decide +kernel) ?_
      refine zp_iload_n (x := (nI 8)) rfl rfl ?_
      refine zp_iconst (v := (nI 4)) rfl (by decide +kernel) ?_
      refine zp_icT (tgt := 110) rfl rfl (by decide +kernel) ?_
      refine zp_iconst (v := (-1)) rfl (by decide +kernel) ?_
      refine zq_put hS rfl (by first | assumption | exact ⟨by decide, rfl⟩) rfl rfl (fun hS111 => ?_)
      have hS := hS111
      refine zp_iload_n (x := (nI 8)) rfl rfl ?_
      refine zp_ifT (tgt := 135) rfl rfl (by decide +kernel) ?_
      refine zp_iload_n (x := (nI 8)) rfl rfl ?_
      refine zp_iconst (v := (nI 4)) rfl (by decide +kernel) ?_
      refine zp_icT (tgt := 161) rfl rfl (by decide +kernel) ?_
      refine zp_iconst (v := (nI 0)) rfl (by decide +kernel) ?_
      refine zp_istore_5 rfl rfl ?_
      refine zp_aload_n (x := 171) rfl rfl ?_
      refine zp_iload (x := (nI 0)) rfl rfl ?_
      refine zp_ifT (tgt := 174) rfl rfl (by decide +kernel) ?_
      refine zp_aload_n (x := 171) rfl rfl ?_
      refine zq_geti hS rfl (by first | assumption | exact ⟨by decide, rfl⟩) rfl ?_
      rw [zf_at9 hS111 (by first | assumption | exact ⟨by decide, rfl⟩) rfl]
      refine zq_put hS rfl (by first | assumption | exact ⟨by decide, rfl⟩) rfl rfl (fun hS178 => ?_)
      have hS := hS178
      refine zp_iload (x := (nI 0)) rfl rfl ?_
      refine zp_ifT (tgt := 191) rfl rfl (by decide +kernel) ?_
      refine zp_iconst (v := (nI 0)) rfl (by decide +kernel) ?_
      refine zp_iret rfl rfl ?_
      refine hq _ ((fin0 _ _ rfl hS111).tr (zr_G.f10 (T := [186]) hS178) (fun _ q => q)) (by rw [zf_ci (by decide), zf_ci (by decide)]; exact s2) (zf_at9 hS178 zs_M rfl)
    | 9, _ =>
      exfalso
      unfold v_cnt at hcn
      rw [if_neg (by omega), if_neg (by omega)] at hcn
      simp only [Bool.and_eq_true, Bool.or_eq_true, beq_iff_eq] at hcn
      omega
    | k + 10, k10 => exact absurd k10 (by omega)
  have t193 : ∀ h', zr_G [186] h h' → zr_st MV TG C M h' → zr_p pl h' → cf h' 171 10 = -1 → v_hasP MV TG C M c = true → (v_mk TG pl).1 ≠ 0 → v_cnt pl (v_mk TG pl).1 = false → zp_wp X y_Mod_tries 193 [.ref 171, .int (nI i), .int (zf_b mend), .int (nI c.1), .int (nI (v_mk TG pl).1), zm_mk] [] h' Q := by
    intro h' hG hst' hp had hh hf hcn
    have hS := hG.1.1
    have hl := hlg hh
    have m9 : (v_mk TG pl).1 < 10 := v_make_9
    rw [if_neg (by rw [hh]; decide), if_neg hf, if_neg (by rw [hcn]; decide)] at hq
    obtain ⟨s1, s2, s3, s4⟩ := id hst'
    refine zp_iload_n (x := (zf_b mend)) rfl rfl ?_
    cases hmd : mend with
    | false =>
      show zp_wp X y_Mod_tries 194 [.ref 171, .int (nI i), .int (nI 0), .int (nI c.1), .int (nI ((v_mk TG pl).1)), zm_mk] [.int (nI 0)] h' Q
      refine zp_ifT (tgt := 229) rfl rfl (by decide +kernel) ?_
      refine zp_iconst (v := (nI 0)) rfl (by decide +kernel) ?_
      refine zp_istore_5 rfl rfl ?_
      refine zp_iload (x := (nI 0)) rfl rfl ?_
      refine zp_ifT (tgt := 247) rfl rfl (by decide +kernel) ?_
      refine zp_iload (x := (nI ((v_mk TG pl).1))) rfl rfl ?_
      refine zp_iret rfl rfl ?_
      first
      | (rw [if_pos (by rw [hmd]; simp only [v_may, Bool.true_and, Bool.or_eq_true, Bool.and_eq_true, beq_iff_eq]; omega)] at hq
         exact hq _ (hG.tr hG2 (fun _ q => q)) hV2 ha2)
      | (rw [if_neg (by rw [hmd]; simp only [v_may, Bool.true_and, Bool.false_and, Bool.or_eq_true, Bool.and_eq_true, beq_iff_eq]; first | omega | decide)] at hq
         exact hq _ hG s2 had)
    | true =>
      show zp_wp X y_Mod_tries 194 [.ref 171, .int (nI i), .int (nI 1), .int (nI c.1), .int (nI ((v_mk TG pl).1)), zm_mk] [.int (nI 1)] h' Q
      refine zp_ifF (tgt := 229) rfl rfl (by decide +kernel) ?_
      refine zp_iload (x := (nI ((v_mk TG pl).1))) rfl rfl ?_
      refine zp_iconst (v := (nI 1)) rfl (by decide +kernel) ?_
      refine zp_icmpN_ne (tgt := 208) rfl rfl (by omega) (by omega) (fun b200 => ?_) (fun b200 => ?_)
      · refine zp_iload (x := (nI ((v_mk TG pl).1))) rfl rfl ?_
        refine zp_iconst (v := (nI 5)) rfl (by decide +kernel) ?_
        refine zp_icmpN_ne (tgt := 229) rfl rfl (by omega) (by omega) (fun b211 => ?_) (fun b211 => ?_)
        · refine zp_iconst (v := (nI 0)) rfl (by decide +kernel) ?_
          refine zp_istore_5 rfl rfl ?_
          refine zp_iload (x := (nI 0)) rfl rfl ?_
          refine zp_ifT (tgt := 247) rfl rfl (by decide +kernel) ?_
          refine zp_iload (x := (nI ((v_mk TG pl).1))) rfl rfl ?_
          refine zp_iret rfl rfl ?_
          first
          | (rw [if_pos (by rw [hmd]; simp only [v_may, Bool.true_and, Bool.or_eq_true, Bool.and_eq_true, beq_iff_eq]; omega)] at hq
             exact hq _ (hG.tr hG2 (fun _ q => q)) hV2 ha2)
          | (rw [if_neg (by rw [hmd]; simp only [v_may, Bool.true_and, Bool.false_and, Bool.or_eq_true, Bool.and_eq_true, beq_iff_eq]; first | omega | decide)] at hq
             exact hq _ hG s2 had)
        · refine zp_iload_n (x := (nI c.1)) rfl rfl ?_
          refine zp_iconst (v := (nI 4)) rfl (by decide +kernel) ?_
          refine zp_icmpN_eq (tgt := 225) rfl rfl (by omega) (by omega) (fun b216 => ?_) (fun b216 => ?_)
          · refine zp_iconst (v := (nI 1)) rfl (by decide +kernel) ?_
            refine zp_goto (tgt := 230) rfl rfl ?_
            refine zp_istore_5 rfl rfl ?_
            refine zp_iload (x := (nI 1)) rfl rfl ?_
            refine zp_ifF (tgt := 247) rfl rfl (by decide +kernel) ?_
            refine zp_aload_n (x := 171) rfl rfl ?_
            refine zp_iload_n (x := (nI c.1)) rfl rfl ?_
            refine zp_iload (x := (nI ((v_mk TG pl).1))) rfl rfl ?_
            refine zq_virt hS rfl rfl (by first | assumption | exact ⟨by decide, rfl⟩) rfl (s_Mod_mends (pl := pl) (TG := TG) (f := (v_mk TG pl).1) hS e1 (by omega) hl hj.2.1 s2 hp had (fun h2 hG2 hV2 ha2 => ?_))
            show zp_wp X y_Mod_tries 244 [.ref 171, .int (nI i), .int (nI 1), .int (nI c.1), .int (nI ((v_mk TG pl).1)), .int (nI 1)] [.int (nI ((v_mend TG (v_mk TG pl).1 25 pl).1))] h2 Q
            refine zp_goto (tgt := 249) rfl rfl ?_
            refine zp_iret rfl rfl ?_
            first
            | (rw [if_pos (by rw [hmd]; simp only [v_may, Bool.true_and, Bool.or_eq_true, Bool.and_eq_true, beq_iff_eq]; omega)] at hq
               exact hq _ (hG.tr hG2 (fun _ q => q)) hV2 ha2)
            | (rw [if_neg (by rw [hmd]; simp only [v_may, Bool.true_and, Bool.false_and, Bool.or_eq_true, Bool.and_eq_true, beq_iff_eq]; first | omega | decide)] at hq
               exact hq _ hG s2 had)
          · refine zp_iload_n (x := (nI c.1)) rfl rfl ?_
            refine zp_bipush (v := (nI 6)) rfl (by decide +kernel) ?_
            refine zp_icmpN_ne (tgt := 229) rfl rfl (by omega) (by omega) (fun b222 => ?_) (fun b222 => ?_)
            · refine zp_iconst (v := (nI 0)) rfl (by decide +kernel) ?_
              refine zp_istore_5 rfl rfl ?_
              refine zp_iload (x := (nI 0)) rfl rfl ?_
              refine zp_ifT (tgt := 247) rfl rfl (by decide +kernel) ?_
              refine zp_iload (x := (nI ((v_mk TG pl).1))) rfl rfl ?_
              refine zp_iret rfl rfl ?_
              first
              | (rw [if_pos (by rw [hmd]; simp only [v_may, Bool.true_and, Bool.or_eq_true, Bool.and_eq_true, beq_iff_eq]; omega)] at hq
                 exact hq _ (hG.tr hG2 (fun _ q => q)) hV2 ha2)
              | (rw [if_neg (by rw [hmd]; simp only [v_may, Bool.true_and, Bool.false_and, Bool.or_eq_true, Bool.and_eq_true, beq_iff_eq]; first | omega | decide)] at hq
                 exact hq _ hG s2 had)
            · refine zp_iconst (v := (nI 1)) rfl (by decide +kernel) ?_
              refine zp_goto (tgt := 230) rfl rfl ?_
              refine zp_istore_5 rfl rfl ?_
              refine zp_iload (x := (nI 1)) rfl rfl ?_
              refine zp_ifF (tgt := 247) rfl rfl (by decide +kernel) ?_
              refine zp_aload_n (x := 171) rfl rfl ?_
              refine zp_iload_n (x := (nI c.1)) rfl rfl ?_
              refine zp_iload (x := (nI ((v_mk TG pl).1))) rfl rfl ?_
              refine zq_virt hS rfl rfl (by first | assumption | exact ⟨by decide, rfl⟩) rfl (s_Mod_mends (pl := pl) (TG := TG) (f := (v_mk TG pl).1) hS e1 (by omega) hl hj.2.1 s2 hp had (fun h2 hG2 hV2 ha2 => ?_))
              show zp_wp X y_Mod_tries 244 [.ref 171, .int (nI i), .int (nI 1), .int (nI c.1), .int (nI ((v_mk TG pl).1)), .int (nI 1)] [.int (nI ((v_mend TG (v_mk TG pl).1 25 pl).1))] h2 Q
              refine zp_goto (tgt := 249) rfl rfl ?_
              refine zp_iret rfl rfl ?_
              first
              | (rw [if_pos (by rw [hmd]; simp only [v_may, Bool.true_and, Bool.or_eq_true, Bool.and_eq_true, beq_iff_eq]; omega)] at hq
                 exact hq _ (hG.tr hG2 (fun _ q => q)) hV2 ha2)
              | (rw [if_neg (by rw [hmd]; simp only [v_may, Bool.true_and, Bool.false_and, Bool.or_eq_true, Bool.and_eq_true, beq_iff_eq]; first | omega | decide)] at hq
                 exact hq _ hG s2 had)
      · refine zp_iload_n (x := (nI c.1)) rfl rfl ?_
        refine zp_iconst (v := (nI 2)) rfl (by decide +kernel) ?_
        refine zp_icmpN_eq (tgt := 225) rfl rfl (by omega) (by omega) (fun b205 => ?_) (fun b205 => ?_)
        · refine zp_iconst (v := (nI 1)) rfl (by decide +kernel) ?_
          refine zp_goto (tgt := 230) rfl rfl ?_
          refine zp_istore_5 rfl rfl ?_
          refine zp_iload (x := (nI 1)) rfl rfl ?_
          refine zp_ifF (tgt := 247) rfl rfl (by decide +kernel) ?_
          refine zp_aload_n (x := 171) rfl rfl ?_
          refine zp_iload_n (x := (nI c.1)) rfl rfl ?_
          refine zp_iload (x := (nI ((v_mk TG pl).1))) rfl rfl ?_
          refine zq_virt hS rfl rfl (by first | assumption | exact ⟨by decide, rfl⟩) rfl (s_Mod_mends (pl := pl) (TG := TG) (f := (v_mk TG pl).1) hS e1 (by omega) hl hj.2.1 s2 hp had (fun h2 hG2 hV2 ha2 => ?_))
          show zp_wp X y_Mod_tries 244 [.ref 171, .int (nI i), .int (nI 1), .int (nI c.1), .int (nI ((v_mk TG pl).1)), .int (nI 1)] [.int (nI ((v_mend TG (v_mk TG pl).1 25 pl).1))] h2 Q
          refine zp_goto (tgt := 249) rfl rfl ?_
          refine zp_iret rfl rfl ?_
          first
          | (rw [if_pos (by rw [hmd]; simp only [v_may, Bool.true_and, Bool.or_eq_true, Bool.and_eq_true, beq_iff_eq]; omega)] at hq
             exact hq _ (hG.tr hG2 (fun _ q => q)) hV2 ha2)
          | (rw [if_neg (by rw [hmd]; simp only [v_may, Bool.true_and, Bool.false_and, Bool.or_eq_true, Bool.and_eq_true, beq_iff_eq]; first | omega | decide)] at hq
             exact hq _ hG s2 had)
        · refine zp_iload (x := (nI ((v_mk TG pl).1))) rfl rfl ?_
          refine zp_iconst (v := (nI 5)) rfl (by decide +kernel) ?_
          refine zp_icmpN_ne (tgt := 229) rfl rfl (by omega) (by omega) (fun b211 => ?_) (fun b211 => ?_)
          · refine zp_iconst (v := (nI 0)) rfl (by decide +kernel) ?_
            refine zp_istore_5 rfl rfl ?_
            refine zp_iload (x := (nI 0)) rfl rfl ?_
            refine zp_ifT (tgt := 247) rfl rfl (by decide +kernel) ?_
            refine zp_iload (x := (nI ((v_mk TG pl).1))) rfl rfl ?_
            refine zp_iret rfl rfl ?_
            first
            | (rw [if_pos (by rw [hmd]; simp only [v_may, Bool.true_and, Bool.or_eq_true, Bool.and_eq_true, beq_iff_eq]; omega)] at hq
               exact hq _ (hG.tr hG2 (fun _ q => q)) hV2 ha2)
            | (rw [if_neg (by rw [hmd]; simp only [v_may, Bool.true_and, Bool.false_and, Bool.or_eq_true, Bool.and_eq_true, beq_iff_eq]; first | omega | decide)] at hq
               exact hq _ hG s2 had)
          · refine zp_iload_n (x := (nI c.1)) rfl rfl ?_
            refine zp_iconst (v := (nI 4)) rfl (by decide +kernel) ?_
            refine zp_icmpN_eq (tgt := 225) rfl rfl (by omega) (by omega) (fun b216 => ?_) (fun b216 => ?_)
            · refine zp_iconst (v := (nI 1)) rfl (by decide +kernel) ?_
              refine zp_goto (tgt := 230) rfl rfl ?_
              refine zp_istore_5 rfl rfl ?_
              refine zp_iload (x := (nI 1)) rfl rfl ?_
              refine zp_ifF (tgt := 247) rfl rfl (by decide +kernel) ?_
              refine zp_aload_n (x := 171) rfl rfl ?_
              refine zp_iload_n (x := (nI c.1)) rfl rfl ?_
              refine zp_iload (x := (nI ((v_mk TG pl).1))) rfl rfl ?_
              refine zq_virt hS rfl rfl (by first | assumption | exact ⟨by decide, rfl⟩) rfl (s_Mod_mends (pl := pl) (TG := TG) (f := (v_mk TG pl).1) hS e1 (by omega) hl hj.2.1 s2 hp had (fun h2 hG2 hV2 ha2 => ?_))
              show zp_wp X y_Mod_tries 244 [.ref 171, .int (nI i), .int (nI 1), .int (nI c.1), .int (nI ((v_mk TG pl).1)), .int (nI 1)] [.int (nI ((v_mend TG (v_mk TG pl).1 25 pl).1))] h2 Q
              refine zp_goto (tgt := 249) rfl rfl ?_
              refine zp_iret rfl rfl ?_
              first
              | (rw [if_pos (by rw [hmd]; simp only [v_may, Bool.true_and, Bool.or_eq_true, Bool.and_eq_true, beq_iff_eq]; omega)] at hq
                 exact hq _ (hG.tr hG2 (fun _ q => q)) hV2 ha2)
              | (rw [if_neg (by rw [hmd]; simp only [v_may, Bool.true_and, Bool.false_and, Bool.or_eq_true, Bool.and_eq_true, beq_iff_eq]; first | omega | decide)] at hq
                 exact hq _ hG s2 had)
            · refine zp_iload_n (x := (nI c.1)) rfl rfl ?_
              refine zp_bipush (v := (nI 6)) rfl (by decide +kernel) ?_
              refine zp_icmpN_ne (tgt := 229) rfl rfl (by omega) (by omega) (fun b222 => ?_) (fun b222 => ?_)
              · refine zp_iconst (v := (nI 0)) rfl (by decide +kernel) ?_
                refine zp_istore_5 rfl rfl ?_
                refine zp_iload (x := (nI 0)) rfl rfl ?_
                refine zp_ifT (tgt := 247) rfl rfl (by decide +kernel) ?_
                refine zp_iload (x := (nI ((v_mk TG pl).1))) rfl rfl ?_
                refine zp_iret rfl rfl ?_
                first
                | (rw [if_pos (by rw [hmd]; simp only [v_may, Bool.true_and, Bool.or_eq_true, Bool.and_eq_true, beq_iff_eq]; omega)] at hq
                   exact hq _ (hG.tr hG2 (fun _ q => q)) hV2 ha2)
                | (rw [if_neg (by rw [hmd]; simp only [v_may, Bool.true_and, Bool.false_and, Bool.or_eq_true, Bool.and_eq_true, beq_iff_eq]; first | omega | decide)] at hq
                   exact hq _ hG s2 had)
              · refine zp_iconst (v := (nI 1)) rfl (by decide +kernel) ?_
                refine zp_goto (tgt := 230) rfl rfl ?_
                refine zp_istore_5 rfl rfl ?_
                refine zp_iload (x := (nI 1)) rfl rfl ?_
                refine zp_ifF (tgt := 247) rfl rfl (by decide +kernel) ?_
                refine zp_aload_n (x := 171) rfl rfl ?_
                refine zp_iload_n (x := (nI c.1)) rfl rfl ?_
                refine zp_iload (x := (nI ((v_mk TG pl).1))) rfl rfl ?_
                refine zq_virt hS rfl rfl (by first | assumption | exact ⟨by decide, rfl⟩) rfl (s_Mod_mends (pl := pl) (TG := TG) (f := (v_mk TG pl).1) hS e1 (by omega) hl hj.2.1 s2 hp had (fun h2 hG2 hV2 ha2 => ?_))
                show zp_wp X y_Mod_tries 244 [.ref 171, .int (nI i), .int (nI 1), .int (nI c.1), .int (nI ((v_mk TG pl).1)), .int (nI 1)] [.int (nI ((v_mend TG (v_mk TG pl).1 25 pl).1))] h2 Q
                refine zp_goto (tgt := 249) rfl rfl ?_
                refine zp_iret rfl rfl ?_
                first
                | (rw [if_pos (by rw [hmd]; simp only [v_may, Bool.true_and, Bool.or_eq_true, Bool.and_eq_true, beq_iff_eq]; omega)] at hq
                   exact hq _ (hG.tr hG2 (fun _ q => q)) hV2 ha2)
                | (rw [if_neg (by rw [hmd]; simp only [v_may, Bool.true_and, Bool.false_and, Bool.or_eq_true, Bool.and_eq_true, beq_iff_eq]; first | omega | decide)] at hq
                   exact hq _ hG s2 had)
  obtain ⟨w0, w1, w2, w3, w4⟩ := id hw
  refine zp_aload_n (x := 171) rfl rfl ?_
  refine zq_getr (k9 := 178) hS rfl (by first | assumption | exact ⟨by decide, rfl⟩) rfl ?_
  refine zp_iconst (v := (nI 5)) rfl (by decide +kernel) ?_
  refine zp_iload_n (x := (nI i)) rfl rfl ?_
  refine zp_imulN rfl ?_
  refine zq_iald hS rfl (by first | assumption | exact ⟨by decide, rfl⟩) (by omega) (by first | decide | omega) ?_
  rw [w0]
  refine zp_istore_n_3 rfl rfl ?_
  refine zp_aload_n (x := 171) rfl rfl ?_
  refine zp_iconst (v := (-1)) rfl (by decide +kernel) ?_
  refine zq_put hS rfl (by first | assumption | exact ⟨by decide, rfl⟩) rfl rfl (fun hS11 => ?_)
  have hS := hS11
  refine zp_aload_n (x := 171) rfl rfl ?_
  refine zp_iload_n (x := (nI i)) rfl rfl ?_
  refine zq_virt hS rfl rfl (by first | assumption | exact ⟨by decide, rfl⟩) rfl (s_Mod_means (c := c) hS hst.f hj.1.B hj.2.1.B hj.Cl hj.Ml hi (by rw [zf_ci (by decide)]; exact hw) hc.ok (fun h2 hG2 hp h10 => ?_))
  have hG3 : zr_G [186] h h2 := (zr_G.f10 (T := [186]) hS).tr hG2 (by decide)
  have hst2 : zr_st MV TG C M h2 := hst.f.G hG2
  have ha2 : cf h2 171 10 = -1 := by rw [h10]; exact zf_at9 hS zs_M rfl
  have hS := hG2.1.1
  rw [hpl] at hp
  obtain ⟨p1, p2, p3, p4⟩ := id hp
  cases hh : v_hasP MV TG C M c with
  | false =>
    show zp_wp X y_Mod_tries 19 [.ref 171, .int (nI i), .int (zf_b mend), .int (nI c.1), zm_mk, zm_mk] [.int (nI 0)] h2 Q
    refine zp_ifF (tgt := 24) rfl rfl (by decide +kernel) ?_
    refine zp_iconst (v := (nI 2)) rfl (by decide +kernel) ?_
    refine zp_iret rfl rfl ?_
    rw [if_pos hh] at hq; exact hq _ hG3 hst2.2.1 ha2
  | true =>
    show zp_wp X y_Mod_tries 19 [.ref 171, .int (nI i), .int (zf_b mend), .int (nI c.1), zm_mk, zm_mk] [.int (nI 1)] h2 Q
    refine zp_ifT (tgt := 24) rfl rfl (by decide +kernel) ?_
    refine zp_aload_n (x := 171) rfl rfl ?_
    refine zp_aload_n (x := 171) rfl rfl ?_
    refine zq_getr (k9 := 186) hS rfl (by first | assumption | exact ⟨by decide, rfl⟩) rfl ?_
    refine zp_iload_n (x := (nI c.1)) rfl rfl ?_
    refine zp_aload_n (x := 171) rfl rfl ?_
    refine zq_geti hS rfl (by first | assumption | exact ⟨by decide, rfl⟩) rfl ?_
    rw [p1]
    refine zp_aload_n (x := 171) rfl rfl ?_
    refine zq_geti hS rfl (by first | assumption | exact ⟨by decide, rfl⟩) rfl ?_
    rw [p2]
    refine zp_aload_n (x := 171) rfl rfl ?_
    refine zq_geti hS rfl (by first | assumption | exact ⟨by decide, rfl⟩) rfl ?_
    rw [p3]
    refine zp_aload_n (x := 171) rfl rfl ?_
    refine zq_geti hS rfl (by first | assumption | exact ⟨by decide, rfl⟩) rfl ?_
    rw [p4]
    refine zq_virt hS rfl rfl (by first | assumption | exact ⟨by decide, rfl⟩) rfl (s_Mod_makes (V := TG) hS ⟨by decide, rfl⟩ hst2.2.1 hj.2.1.B (by omega) (hlg hh).ok.2.1 (hlg hh).ok.2.2.1 (hlg hh).ok.2.2.2.1 (hlg hh).ok.2.2.2.2 (fun h3 hp3 => ?_))
    have ee : v_make TG c.1 pl.2.1 pl.2.2.1 pl.2.2.2.1 pl.2.2.2.2 = v_mk TG pl := by unfold v_mk; rw [e1]
    rw [ee] at hp3 ⊢
    rw [← ee]
    show zp_wp X y_Mod_tries 49 [.ref 171, .int (nI i), .int (zf_b mend), .int (nI c.1), zm_mk, zm_mk] [.int (nI ((v_make TG c.1 pl.2.1 pl.2.2.1 pl.2.2.2.1 pl.2.2.2.2).1))] h3 Q
    rw [ee]
    have hG4 : zr_G [186] h h3 := hG3.tr (zr_G.mk (T := [186]) hp3 (by decide)) (fun _ q => q)
    have m9 : (v_mk TG pl).1 < 10 := v_make_9
    have hS := hp3.1
    have hp4 := hp.post hp3
    show zp_wp X y_Mod_tries 49 [.ref 171, .int (nI i), .int (zf_b mend), .int (nI c.1), zm_mk, zm_mk] [.int (nI ((v_mk TG pl).1))] h3 Q
    refine zp_istore_4 rfl rfl ?_
    refine zp_iload (x := (nI ((v_mk TG pl).1))) rfl rfl ?_
    refine zp_ifN_ne (tgt := 58) rfl rfl (by omega) (fun b53 => ?_) (fun b53 => ?_)
    · obtain ⟨z1, z2⟩ := mk_fail b53
      have hV3 := hp3.2.2.1
      have ha3 := hp3.2.2.2.1
      rw [z1] at hV3
      rw [z2] at ha3
      have hst3 : zr_st MV TG C M h3 := ⟨by rw [hp3.2.1.gi (by decide)]; exact hst2.1, hV3, by rw [hp3.2.1.gi (by decide)]; exact hst2.2.2.1, by rw [hp3.2.1.gi (by decide)]; exact hst2.2.2.2⟩
      refine zp_aload_n (x := 171) rfl rfl ?_
      refine zp_iload_n (x := (nI c.1)) rfl rfl ?_
      refine zp_iload (x := (nI ((v_mk TG pl).1))) rfl rfl ?_
      refine zq_virt hS rfl rfl (by first | assumption | exact ⟨by decide, rfl⟩) rfl (s_Mod_counts (pl := pl) hS hp4 e1 (hlg hh).ok m9 ?_)
      cases hcn : v_cnt pl (v_mk TG pl).1 with
      | false =>
        show zp_wp X y_Mod_tries 65 [.ref 171, .int (nI i), .int (zf_b mend), .int (nI c.1), .int (nI ((v_mk TG pl).1)), zm_mk] [.int (nI 0)] h3 Q
        refine zp_ifT (tgt := 193) rfl rfl (by decide +kernel) ?_
        exact t193 _ hG4 hst3 hp4 ha3 hh b53 hcn
      | true =>
        show zp_wp X y_Mod_tries 65 [.ref 171, .int (nI i), .int (zf_b mend), .int (nI c.1), .int (nI ((v_mk TG pl).1)), zm_mk] [.int (nI 1)] h3 Q
        refine zp_ifF (tgt := 193) rfl rfl (by decide +kernel) ?_
        exact t68 _ hG4 hst3 hp4 ha3 hh b53 hcn
    · refine zp_iconst (v := (nI 0)) rfl (by decide +kernel) ?_
      refine zp_iret rfl rfl ?_
      rw [if_neg (by rw [hh]; decide), if_pos b53] at hq; exact hq _ hG4 hp3.2.2.1 hp3.2.2.2.1
def zr_O (O : Nat → Option Nat) (n : Nat) (A : Nat → Int32) : Prop := ∀ i, i < n → A i = zf_o (O i)
theorem s_Mod_goesOn {i : Nat} {mt : Option Nat} (hS : zs_H h) (hst : zr_st MV TG C M h) (hW : zv_W MV) (hi : i < 30) (hL : zr_L L (ci h 178)) (hc : zc_leg (L i)) (hs : (v_mk MV (L i)).1 = 0) (hq : ∀ h', zr_G [183, 184, 185] h h' → zr_st (v_mk MV (L i)).2.1 TG (v_onC MV C (L i) mt) (v_onM MV M (L i) mt) h' → Q (.inl none) h') : zp_wm X y_Mod_goesOn [.ref 171, .int (nI i), .int (zf_o mt)] h Q := by
  show zp_wp X y_Mod_goesOn 0 [.ref 171, .int (nI i), .int (zf_o mt), zm_mk, zm_mk, zm_mk, zm_mk] [] h Q
  obtain ⟨w0, w1, w2, w3, w4⟩ := hL i hi
  obtain ⟨a1, a2, a3, a4⟩ := hst
  have o := hc.ok
  have k10 := o.1
  have o1 := o.2.1
  have o2 := o.2.2.1
  have hS0 := hS
  have b1 := hW.B
  match hk : (L i).1, k10 with
  | 0, _ =>
    obtain ⟨i0, hi0, hi12, -, -⟩ := mk_add0 hc hk hs
    refine zp_iconst (v := (nI 5)) rfl (by decide +kernel) ?_
    refine zp_iload_n (x := (nI i)) rfl rfl ?_
    refine zp_imulN rfl ?_
    refine zp_istore_n_3 rfl rfl ?_
    refine zp_aload_n (x := 171) rfl rfl ?_
    refine zq_getr (k9 := 185) hS rfl (by first | assumption | exact ⟨by decide, rfl⟩) rfl ?_
    refine zp_aload_n (x := 171) rfl rfl ?_
    refine zq_getr (k9 := 178) hS rfl (by first | assumption | exact ⟨by decide, rfl⟩) rfl ?_
    refine zp_iload_n (x := (nI (5 * i))) rfl rfl ?_
    refine zp_iconst (v := (nI 1)) rfl (by decide +kernel) ?_
    refine zp_iaddN rfl ?_
    refine zq_iald hS rfl (by first | assumption | exact ⟨by decide, rfl⟩) (by omega) (by first | decide | omega) ?_
    rw [w1]
    refine zp_call rfl rfl (t_Mod_classAt hS ⟨by decide, rfl⟩ a1 b1 (by omega) ?_)
    show zp_wp X y_Mod_goesOn 19 [.ref 171, .int (nI i), .int (zf_o mt), .int (nI (5 * i)), zm_mk, zm_mk, zm_mk] [.int (zf_o (v_cls MV (L i).2.1))] h Q
    refine zp_istore_4 rfl rfl ?_
    refine zp_aload_n (x := 171) rfl rfl ?_
    refine zq_getr (k9 := 185) hS rfl (by first | assumption | exact ⟨by decide, rfl⟩) rfl ?_
    refine zp_iload (x := (zf_o (v_cls MV (L i).2.1))) rfl rfl ?_
    refine zp_aload_n (x := 171) rfl rfl ?_
    refine zq_getr (k9 := 178) hS rfl (by first | assumption | exact ⟨by decide, rfl⟩) rfl ?_
    refine zp_iload_n (x := (nI (5 * i))) rfl rfl ?_
    refine zp_iconst (v := (nI 2)) rfl (by decide +kernel) ?_
    refine zp_iaddN rfl ?_
    refine zq_iald hS rfl (by first | assumption | exact ⟨by decide, rfl⟩) (by omega) (by first | decide | omega) ?_
    rw [w2]
    refine zp_call rfl rfl (t_Mod_memberAt hS ⟨by decide, rfl⟩ a1 b1 v_cls_12 (by omega) ?_)
    show zp_wp X y_Mod_goesOn 38 [.ref 171, .int (nI i), .int (zf_o mt), .int (nI (5 * i)), .int (zf_o (v_cls MV (L i).2.1)), zm_mk, zm_mk] [.int (zf_o (v_mem MV (v_cls MV (L i).2.1) (L i).2.2.1))] h Q
    refine zp_istore_5 rfl rfl ?_
    refine zp_aload_n (x := 171) rfl rfl ?_
    refine zq_getr (k9 := 178) hS rfl (by first | assumption | exact ⟨by decide, rfl⟩) rfl ?_
    refine zp_iload_n (x := (nI (5 * i))) rfl rfl ?_
    refine zq_iald hS rfl (by first | assumption | exact ⟨by decide, rfl⟩) (by omega) (by first | decide | omega) ?_
    rw [w0, hk]
    refine zp_iconst (v := (nI 1)) rfl (by decide +kernel) ?_
    refine zp_icT (tgt := 58) rfl rfl (by decide +kernel) ?_
    refine zp_aload_n (x := 171) rfl rfl ?_
    refine zq_getr (k9 := 178) hS rfl (by first | assumption | exact ⟨by decide, rfl⟩) rfl ?_
    refine zp_iload_n (x := (nI (5 * i))) rfl rfl ?_
    refine zq_iald hS rfl (by first | assumption | exact ⟨by decide, rfl⟩) (by omega) (by first | decide | omega) ?_
    rw [w0, hk]
    refine zp_iconst (v := (nI 5)) rfl (by decide +kernel) ?_
    refine zp_icT (tgt := 76) rfl rfl (by decide +kernel) ?_
    refine zp_aload_n (x := 171) rfl rfl ?_
    refine zp_aload_n (x := 171) rfl rfl ?_
    refine zq_getr (k9 := 185) hS rfl (by first | assumption | exact ⟨by decide, rfl⟩) rfl ?_
    refine zp_aload_n (x := 171) rfl rfl ?_
    refine zq_getr (k9 := 178) hS rfl (by first | assumption | exact ⟨by decide, rfl⟩) rfl ?_
    refine zp_iload_n (x := (nI i)) rfl rfl ?_
    refine zq_virt hS rfl rfl (by first | assumption | exact ⟨by decide, rfl⟩) rfl (s_Mod_makesOf hS ⟨by decide, rfl⟩ a1 b1 ⟨by decide, rfl⟩ hL hi o (fun h2 hp => ?_))
    have hG2 : zr_G [183, 184, 185] h h2 := zr_G.mk hp (by decide)
    have v0 : ci h2 178 (5 * i) = nI 0 := by rw [hG2.gi (by decide) (by decide), w0, hk]
    have g183 := hp.2.1.gi (a := 183) (by decide)
    have g184 := hp.2.1.gi (a := 184) (by decide)
    have g186 := hp.2.1.gi (a := 186) (by decide)
    have hS := hp.1
    have h10 : cf h2 171 10 = nI i0 := by rw [hp.2.2.2.1, hi0]; rfl
    show zp_wp X y_Mod_goesOn 89 [.ref 171, .int (nI i), .int (zf_o mt), .int (nI (5 * i)), .int (zf_o (v_cls MV (L i).2.1)), .int (zf_o (v_mem MV (v_cls MV (L i).2.1) (L i).2.2.1)), zm_mk] [.int (nI ((v_mk MV (L i)).1))] h2 Q
    refine zp_istore_6 rfl rfl ?_
    refine zp_aload_n (x := 171) rfl rfl ?_
    refine zq_getr (k9 := 178) hS rfl (by first | assumption | exact ⟨by decide, rfl⟩) rfl ?_
    refine zp_iload_n (x := (nI (5 * i))) rfl rfl ?_
    refine zq_iald hS rfl (by first | assumption | exact ⟨by decide, rfl⟩) (by omega) (by first | decide | omega) ?_
    rw [v0]
    refine zp_ifF (tgt := 113) rfl rfl (by decide +kernel) ?_
    refine zp_aload_n (x := 171) rfl rfl ?_
    refine zq_getr (k9 := 183) hS rfl (by first | assumption | exact ⟨by decide, rfl⟩) rfl ?_
    refine zp_aload_n (x := 171) rfl rfl ?_
    refine zq_geti hS rfl (by first | assumption | exact ⟨by decide, rfl⟩) rfl ?_
    rw [h10]
    refine zp_iload_n (x := (zf_o mt)) rfl rfl ?_
    refine zq_iast hS rfl (by first | assumption | exact ⟨by decide, rfl⟩) (by omega) (by decide) (fun hS109 => ?_)
    have hS := hS109
    refine zp_goto (tgt := 133) rfl rfl ?_
    refine zp_vret rfl rfl ?_
    have eC : v_onC MV C (L i) mt = va_up C i0 mt := by unfold v_onC; rw [if_pos hk, hi0]
    have eM : v_onM MV M (L i) mt = M := by unfold v_onM; rw [if_neg (by omega), if_neg (by omega)]
    rw [eC, eM] at hq
    refine hq _ (hG2.tr (zr_G.zi (T := [183, 184, 185]) (by decide) (by decide) hS) (fun _ q => q)) ⟨?_, ?_, ?_, ?_⟩
    · rw [zi_ne (by decide)]; exact hp.2.2.1
    · rw [zi_ne (by decide), g186]; exact a2
    · rw [zi_at, g183]; exact a3.up
    · rw [zi_ne (by decide), g184]; exact a4
  | 1, _ =>
    obtain ⟨c0, hc0, -⟩ := mk_1 hk hs
    have hc12 := (v_cls_lt hc0).1
    refine zp_iconst (v := (nI 5)) rfl (by decide +kernel) ?_
    refine zp_iload_n (x := (nI i)) rfl rfl ?_
    refine zp_imulN rfl ?_
    refine zp_istore_n_3 rfl rfl ?_
    refine zp_aload_n (x := 171) rfl rfl ?_
    refine zq_getr (k9 := 185) hS rfl (by first | assumption | exact ⟨by decide, rfl⟩) rfl ?_
    refine zp_aload_n (x := 171) rfl rfl ?_
    refine zq_getr (k9 := 178) hS rfl (by first | assumption | exact ⟨by decide, rfl⟩) rfl ?_
    refine zp_iload_n (x := (nI (5 * i))) rfl rfl ?_
    refine zp_iconst (v := (nI 1)) rfl (by decide +kernel) ?_
    refine zp_iaddN rfl ?_
    refine zq_iald hS rfl (by first | assumption | exact ⟨by decide, rfl⟩) (by omega) (by first | decide | omega) ?_
    rw [w1]
    refine zp_call rfl rfl (t_Mod_classAt hS ⟨by decide, rfl⟩ a1 b1 (by omega) ?_)
    rw [hc0]
    show zp_wp X y_Mod_goesOn 19 [.ref 171, .int (nI i), .int (zf_o mt), .int (nI (5 * i)), zm_mk, zm_mk, zm_mk] [.int (nI c0)] h Q
    refine zp_istore_4 rfl rfl ?_
    refine zp_aload_n (x := 171) rfl rfl ?_
    refine zq_getr (k9 := 185) hS rfl (by first | assumption | exact ⟨by decide, rfl⟩) rfl ?_
    refine zp_iload (x := (nI c0)) rfl rfl ?_
    refine zp_aload_n (x := 171) rfl rfl ?_
    refine zq_getr (k9 := 178) hS rfl (by first | assumption | exact ⟨by decide, rfl⟩) rfl ?_
    refine zp_iload_n (x := (nI (5 * i))) rfl rfl ?_
    refine zp_iconst (v := (nI 2)) rfl (by decide +kernel) ?_
    refine zp_iaddN rfl ?_
    refine zq_iald hS rfl (by first | assumption | exact ⟨by decide, rfl⟩) (by omega) (by first | decide | omega) ?_
    rw [w2]
    refine zp_call rfl rfl (t_Mod_memberAt (c := some c0) hS ⟨by decide, rfl⟩ a1 b1 (fun j hj => by cases hj; exact hc12) (by omega) ?_)
    show zp_wp X y_Mod_goesOn 38 [.ref 171, .int (nI i), .int (zf_o mt), .int (nI (5 * i)), .int (nI c0), zm_mk, zm_mk] [.int (zf_o (v_mem MV (some c0) (L i).2.2.1))] h Q
    refine zp_istore_5 rfl rfl ?_
    refine zp_aload_n (x := 171) rfl rfl ?_
    refine zq_getr (k9 := 178) hS rfl (by first | assumption | exact ⟨by decide, rfl⟩) rfl ?_
    refine zp_iload_n (x := (nI (5 * i))) rfl rfl ?_
    refine zq_iald hS rfl (by first | assumption | exact ⟨by decide, rfl⟩) (by omega) (by first | decide | omega) ?_
    rw [w0, hk]
    refine zp_iconst (v := (nI 1)) rfl (by decide +kernel) ?_
    refine zp_icF (tgt := 58) rfl rfl (by decide +kernel) ?_
    refine zp_aload_n (x := 171) rfl rfl ?_
    refine zq_getr (k9 := 183) hS rfl (by first | assumption | exact ⟨by decide, rfl⟩) rfl ?_
    refine zp_iload (x := (nI c0)) rfl rfl ?_
    refine zp_iconst (v := (-1)) rfl (by decide +kernel) ?_
    refine zq_iast hS rfl (by first | assumption | exact ⟨by decide, rfl⟩) (by omega) (by decide) (fun hS57 => ?_)
    have hS := hS57
    refine zp_aload_n (x := 171) rfl rfl ?_
    refine zq_getr (k9 := 178) hS rfl (by first | assumption | exact ⟨by decide, rfl⟩) rfl ?_
    refine zp_iload_n (x := (nI (5 * i))) rfl rfl ?_
    refine zq_iald hS rfl (by first | assumption | exact ⟨by decide, rfl⟩) (by omega) (by first | decide | omega) ?_
    rw [zi_ne (a := 183) (b := 178) (by decide)]
    rw [w0, hk]
    refine zp_iconst (v := (nI 5)) rfl (by decide +kernel) ?_
    refine zp_icT (tgt := 76) rfl rfl (by decide +kernel) ?_
    refine zp_aload_n (x := 171) rfl rfl ?_
    refine zp_aload_n (x := 171) rfl rfl ?_
    refine zq_getr (k9 := 185) hS rfl (by first | assumption | exact ⟨by decide, rfl⟩) rfl ?_
    refine zp_aload_n (x := 171) rfl rfl ?_
    refine zq_getr (k9 := 178) hS rfl (by first | assumption | exact ⟨by decide, rfl⟩) rfl ?_
    refine zp_iload_n (x := (nI i)) rfl rfl ?_
    refine zq_virt hS rfl rfl (by first | assumption | exact ⟨by decide, rfl⟩) rfl (s_Mod_makesOf hS ⟨by decide, rfl⟩ (by rw [zi_ne (by decide)]; exact a1) b1 ⟨by decide, rfl⟩ (by rw [zi_ne (by decide)]; exact hL) hi o (fun h2 hp => ?_))
    have hG2 : zr_G [183, 184, 185] h h2 := (zr_G.zi (T := [183, 184, 185]) (by decide) (by decide) hS).tr (zr_G.mk (T := [183, 184, 185]) hp (by decide)) (fun _ q => q)
    have v0 : ci h2 178 (5 * i) = nI 1 := by rw [hG2.gi (by decide) (by decide), w0, hk]
    have g183 := hp.2.1.gi (a := 183) (by decide)
    have g184 := hp.2.1.gi (a := 184) (by decide)
    have g186 := hp.2.1.gi (a := 186) (by decide)
    have hS := hp.1
    show zp_wp X y_Mod_goesOn 89 [.ref 171, .int (nI i), .int (zf_o mt), .int (nI (5 * i)), .int (nI c0), .int (zf_o (v_mem MV (some c0) (L i).2.2.1)), zm_mk] [.int (nI ((v_mk MV (L i)).1))] h2 Q
    refine zp_istore_6 rfl rfl ?_
    refine zp_aload_n (x := 171) rfl rfl ?_
    refine zq_getr (k9 := 178) hS rfl (by first | assumption | exact ⟨by decide, rfl⟩) rfl ?_
    refine zp_iload_n (x := (nI (5 * i))) rfl rfl ?_
    refine zq_iald hS rfl (by first | assumption | exact ⟨by decide, rfl⟩) (by omega) (by first | decide | omega) ?_
    rw [v0]
    refine zp_ifT (tgt := 113) rfl rfl (by decide +kernel) ?_
    refine zp_aload_n (x := 171) rfl rfl ?_
    refine zq_getr (k9 := 178) hS rfl (by first | assumption | exact ⟨by decide, rfl⟩) rfl ?_
    refine zp_iload_n (x := (nI (5 * i))) rfl rfl ?_
    refine zq_iald hS rfl (by first | assumption | exact ⟨by decide, rfl⟩) (by omega) (by first | decide | omega) ?_
    rw [v0]
    refine zp_iconst (v := (nI 4)) rfl (by decide +kernel) ?_
    refine zp_icT (tgt := 133) rfl rfl (by decide +kernel) ?_
    refine zp_vret rfl rfl ?_
    have eC : v_onC MV C (L i) mt = va_up C c0 none := by unfold v_onC; rw [if_neg (by omega), if_pos hk, hc0]
    have eM : v_onM MV M (L i) mt = M := by unfold v_onM; rw [if_neg (by omega), if_neg (by omega)]
    rw [eC, eM] at hq
    refine hq _ hG2 ⟨hp.2.2.1, ?_, ?_, ?_⟩
    · rw [g186, zi_ne (by decide)]; exact a2
    · rw [g183, zi_at]; exact a3.up (x := none)
    · rw [g184, zi_ne (by decide)]; exact a4
  | 2, _ =>
    refine zp_iconst (v := (nI 5)) rfl (by decide +kernel) ?_
    refine zp_iload_n (x := (nI i)) rfl rfl ?_
    refine zp_imulN rfl ?_
    refine zp_istore_n_3 rfl rfl ?_
    refine zp_aload_n (x := 171) rfl rfl ?_
    refine zq_getr (k9 := 185) hS rfl (by first | assumption | exact ⟨by decide, rfl⟩) rfl ?_
    refine zp_aload_n (x := 171) rfl rfl ?_
    refine zq_getr (k9 := 178) hS rfl (by first | assumption | exact ⟨by decide, rfl⟩) rfl ?_
    refine zp_iload_n (x := (nI (5 * i))) rfl rfl ?_
    refine zp_iconst (v := (nI 1)) rfl (by decide +kernel) ?_
    refine zp_iaddN rfl ?_
    refine zq_iald hS rfl (by first | assumption | exact ⟨by decide, rfl⟩) (by omega) (by first | decide | omega) ?_
    rw [w1]
    refine zp_call rfl rfl (t_Mod_classAt hS ⟨by decide, rfl⟩ a1 b1 (by omega) ?_)
    show zp_wp X y_Mod_goesOn 19 [.ref 171, .int (nI i), .int (zf_o mt), .int (nI (5 * i)), zm_mk, zm_mk, zm_mk] [.int (zf_o (v_cls MV (L i).2.1))] h Q
    refine zp_istore_4 rfl rfl ?_
    refine zp_aload_n (x := 171) rfl rfl ?_
    refine zq_getr (k9 := 185) hS rfl (by first | assumption | exact ⟨by decide, rfl⟩) rfl ?_
    refine zp_iload (x := (zf_o (v_cls MV (L i).2.1))) rfl rfl ?_
    refine zp_aload_n (x := 171) rfl rfl ?_
    refine zq_getr (k9 := 178) hS rfl (by first | assumption | exact ⟨by decide, rfl⟩) rfl ?_
    refine zp_iload_n (x := (nI (5 * i))) rfl rfl ?_
    refine zp_iconst (v := (nI 2)) rfl (by decide +kernel) ?_
    refine zp_iaddN rfl ?_
    refine zq_iald hS rfl (by first | assumption | exact ⟨by decide, rfl⟩) (by omega) (by first | decide | omega) ?_
    rw [w2]
    refine zp_call rfl rfl (t_Mod_memberAt hS ⟨by decide, rfl⟩ a1 b1 v_cls_12 (by omega) ?_)
    show zp_wp X y_Mod_goesOn 38 [.ref 171, .int (nI i), .int (zf_o mt), .int (nI (5 * i)), .int (zf_o (v_cls MV (L i).2.1)), zm_mk, zm_mk] [.int (zf_o (v_mem MV (v_cls MV (L i).2.1) (L i).2.2.1))] h Q
    refine zp_istore_5 rfl rfl ?_
    refine zp_aload_n (x := 171) rfl rfl ?_
    refine zq_getr (k9 := 178) hS rfl (by first | assumption | exact ⟨by decide, rfl⟩) rfl ?_
    refine zp_iload_n (x := (nI (5 * i))) rfl rfl ?_
    refine zq_iald hS rfl (by first | assumption | exact ⟨by decide, rfl⟩) (by omega) (by first | decide | omega) ?_
    rw [w0, hk]
    refine zp_iconst (v := (nI 1)) rfl (by decide +kernel) ?_
    refine zp_icT (tgt := 58) rfl rfl (by decide +kernel) ?_
    refine zp_aload_n (x := 171) rfl rfl ?_
    refine zq_getr (k9 := 178) hS rfl (by first | assumption | exact ⟨by decide, rfl⟩) rfl ?_
    refine zp_iload_n (x := (nI (5 * i))) rfl rfl ?_
    refine zq_iald hS rfl (by first | assumption | exact ⟨by decide, rfl⟩) (by omega) (by first | decide | omega) ?_
    rw [w0, hk]
    refine zp_iconst (v := (nI 5)) rfl (by decide +kernel) ?_
    refine zp_icT (tgt := 76) rfl rfl (by decide +kernel) ?_
    refine zp_aload_n (x := 171) rfl rfl ?_
    refine zp_aload_n (x := 171) rfl rfl ?_
    refine zq_getr (k9 := 185) hS rfl (by first | assumption | exact ⟨by decide, rfl⟩) rfl ?_
    refine zp_aload_n (x := 171) rfl rfl ?_
    refine zq_getr (k9 := 178) hS rfl (by first | assumption | exact ⟨by decide, rfl⟩) rfl ?_
    refine zp_iload_n (x := (nI i)) rfl rfl ?_
    refine zq_virt hS rfl rfl (by first | assumption | exact ⟨by decide, rfl⟩) rfl (s_Mod_makesOf hS ⟨by decide, rfl⟩ a1 b1 ⟨by decide, rfl⟩ hL hi o (fun h2 hp => ?_))
    have hG2 : zr_G [183, 184, 185] h h2 := zr_G.mk hp (by decide)
    have v0 : ci h2 178 (5 * i) = nI 2 := by rw [hG2.gi (by decide) (by decide), w0, hk]
    have g183 := hp.2.1.gi (a := 183) (by decide)
    have g184 := hp.2.1.gi (a := 184) (by decide)
    have g186 := hp.2.1.gi (a := 186) (by decide)
    have hS := hp.1
    show zp_wp X y_Mod_goesOn 89 [.ref 171, .int (nI i), .int (zf_o mt), .int (nI (5 * i)), .int (zf_o (v_cls MV (L i).2.1)), .int (zf_o (v_mem MV (v_cls MV (L i).2.1) (L i).2.2.1)), zm_mk] [.int (nI ((v_mk MV (L i)).1))] h2 Q
    refine zp_istore_6 rfl rfl ?_
    refine zp_aload_n (x := 171) rfl rfl ?_
    refine zq_getr (k9 := 178) hS rfl (by first | assumption | exact ⟨by decide, rfl⟩) rfl ?_
    refine zp_iload_n (x := (nI (5 * i))) rfl rfl ?_
    refine zq_iald hS rfl (by first | assumption | exact ⟨by decide, rfl⟩) (by omega) (by first | decide | omega) ?_
    rw [v0]
    refine zp_ifT (tgt := 113) rfl rfl (by decide +kernel) ?_
    refine zp_aload_n (x := 171) rfl rfl ?_
    refine zq_getr (k9 := 178) hS rfl (by first | assumption | exact ⟨by decide, rfl⟩) rfl ?_
    refine zp_iload_n (x := (nI (5 * i))) rfl rfl ?_
    refine zq_iald hS rfl (by first | assumption | exact ⟨by decide, rfl⟩) (by omega) (by first | decide | omega) ?_
    rw [v0]
    refine zp_iconst (v := (nI 4)) rfl (by decide +kernel) ?_
    refine zp_icT (tgt := 133) rfl rfl (by decide +kernel) ?_
    refine zp_vret rfl rfl ?_
    have eC : v_onC MV C (L i) mt = C := by unfold v_onC; rw [if_neg (by omega), if_neg (by omega)]
    have eM : v_onM MV M (L i) mt = M := by unfold v_onM; rw [if_neg (by omega), if_neg (by omega)]
    rw [eC, eM] at hq
    exact hq _ hG2 ⟨hp.2.2.1, by rw [g186]; exact a2, by rw [g183]; exact a3, by rw [g184]; exact a4⟩
  | 3, _ =>
    refine zp_iconst (v := (nI 5)) rfl (by decide +kernel) ?_
    refine zp_iload_n (x := (nI i)) rfl rfl ?_
    refine zp_imulN rfl ?_
    refine zp_istore_n_3 rfl rfl ?_
    refine zp_aload_n (x := 171) rfl rfl ?_
    refine zq_getr (k9 := 185) hS rfl (by first | assumption | exact ⟨by decide, rfl⟩) rfl ?_
    refine zp_aload_n (x := 171) rfl rfl ?_
    refine zq_getr (k9 := 178) hS rfl (by first | assumption | exact ⟨by decide, rfl⟩) rfl ?_
    refine zp_iload_n (x := (nI (5 * i))) rfl rfl ?_
    refine zp_iconst (v := (nI 1)) rfl (by decide +kernel) ?_
    refine zp_iaddN rfl ?_
    refine zq_iald hS rfl (by first | assumption | exact ⟨by decide, rfl⟩) (by omega) (by first | decide | omega) ?_
    rw [w1]
    refine zp_call rfl rfl (t_Mod_classAt hS ⟨by decide, rfl⟩ a1 b1 (by omega) ?_)
    show zp_wp X y_Mod_goesOn 19 [.ref 171, .int (nI i), .int (zf_o mt), .int (nI (5 * i)), zm_mk, zm_mk, zm_mk] [.int (zf_o (v_cls MV (L i).2.1))] h Q
    refine zp_istore_4 rfl rfl ?_
    refine zp_aload_n (x := 171) rfl rfl ?_
    refine zq_getr (k9 := 185) hS rfl (by first | assumption | exact ⟨by decide, rfl⟩) rfl ?_
    refine zp_iload (x := (zf_o (v_cls MV (L i).2.1))) rfl rfl ?_
    refine zp_aload_n (x := 171) rfl rfl ?_
    refine zq_getr (k9 := 178) hS rfl (by first | assumption | exact ⟨by decide, rfl⟩) rfl ?_
    refine zp_iload_n (x := (nI (5 * i))) rfl rfl ?_
    refine zp_iconst (v := (nI 2)) rfl (by decide +kernel) ?_
    refine zp_iaddN rfl ?_
    refine zq_iald hS rfl (by first | assumption | exact ⟨by decide, rfl⟩) (by omega) (by first | decide | omega) ?_
    rw [w2]
    refine zp_call rfl rfl (t_Mod_memberAt hS ⟨by decide, rfl⟩ a1 b1 v_cls_12 (by omega) ?_)
    show zp_wp X y_Mod_goesOn 38 [.ref 171, .int (nI i), .int (zf_o mt), .int (nI (5 * i)), .int (zf_o (v_cls MV (L i).2.1)), zm_mk, zm_mk] [.int (zf_o (v_mem MV (v_cls MV (L i).2.1) (L i).2.2.1))] h Q
    refine zp_istore_5 rfl rfl ?_
    refine zp_aload_n (x := 171) rfl rfl ?_
    refine zq_getr (k9 := 178) hS rfl (by first | assumption | exact ⟨by decide, rfl⟩) rfl ?_
    refine zp_iload_n (x := (nI (5 * i))) rfl rfl ?_
    refine zq_iald hS rfl (by first | assumption | exact ⟨by decide, rfl⟩) (by omega) (by first | decide | omega) ?_
    rw [w0, hk]
    refine zp_iconst (v := (nI 1)) rfl (by decide +kernel) ?_
    refine zp_icT (tgt := 58) rfl rfl (by decide +kernel) ?_
    refine zp_aload_n (x := 171) rfl rfl ?_
    refine zq_getr (k9 := 178) hS rfl (by first | assumption | exact ⟨by decide, rfl⟩) rfl ?_
    refine zp_iload_n (x := (nI (5 * i))) rfl rfl ?_
    refine zq_iald hS rfl (by first | assumption | exact ⟨by decide, rfl⟩) (by omega) (by first | decide | omega) ?_
    rw [w0, hk]
    refine zp_iconst (v := (nI 5)) rfl (by decide +kernel) ?_
    refine zp_icT (tgt := 76) rfl rfl (by decide +kernel) ?_
    refine zp_aload_n (x := 171) rfl rfl ?_
    refine zp_aload_n (x := 171) rfl rfl ?_
    refine zq_getr (k9 := 185) hS rfl (by first | assumption | exact ⟨by decide, rfl⟩) rfl ?_
    refine zp_aload_n (x := 171) rfl rfl ?_
    refine zq_getr (k9 := 178) hS rfl (by first | assumption | exact ⟨by decide, rfl⟩) rfl ?_
    refine zp_iload_n (x := (nI i)) rfl rfl ?_
    refine zq_virt hS rfl rfl (by first | assumption | exact ⟨by decide, rfl⟩) rfl (s_Mod_makesOf hS ⟨by decide, rfl⟩ a1 b1 ⟨by decide, rfl⟩ hL hi o (fun h2 hp => ?_))
    have hG2 : zr_G [183, 184, 185] h h2 := zr_G.mk hp (by decide)
    have v0 : ci h2 178 (5 * i) = nI 3 := by rw [hG2.gi (by decide) (by decide), w0, hk]
    have g183 := hp.2.1.gi (a := 183) (by decide)
    have g184 := hp.2.1.gi (a := 184) (by decide)
    have g186 := hp.2.1.gi (a := 186) (by decide)
    have hS := hp.1
    show zp_wp X y_Mod_goesOn 89 [.ref 171, .int (nI i), .int (zf_o mt), .int (nI (5 * i)), .int (zf_o (v_cls MV (L i).2.1)), .int (zf_o (v_mem MV (v_cls MV (L i).2.1) (L i).2.2.1)), zm_mk] [.int (nI ((v_mk MV (L i)).1))] h2 Q
    refine zp_istore_6 rfl rfl ?_
    refine zp_aload_n (x := 171) rfl rfl ?_
    refine zq_getr (k9 := 178) hS rfl (by first | assumption | exact ⟨by decide, rfl⟩) rfl ?_
    refine zp_iload_n (x := (nI (5 * i))) rfl rfl ?_
    refine zq_iald hS rfl (by first | assumption | exact ⟨by decide, rfl⟩) (by omega) (by first | decide | omega) ?_
    rw [v0]
    refine zp_ifT (tgt := 113) rfl rfl (by decide +kernel) ?_
    refine zp_aload_n (x := 171) rfl rfl ?_
    refine zq_getr (k9 := 178) hS rfl (by first | assumption | exact ⟨by decide, rfl⟩) rfl ?_
    refine zp_iload_n (x := (nI (5 * i))) rfl rfl ?_
    refine zq_iald hS rfl (by first | assumption | exact ⟨by decide, rfl⟩) (by omega) (by first | decide | omega) ?_
    rw [v0]
    refine zp_iconst (v := (nI 4)) rfl (by decide +kernel) ?_
    refine zp_icT (tgt := 133) rfl rfl (by decide +kernel) ?_
    refine zp_vret rfl rfl ?_
    have eC : v_onC MV C (L i) mt = C := by unfold v_onC; rw [if_neg (by omega), if_neg (by omega)]
    have eM : v_onM MV M (L i) mt = M := by unfold v_onM; rw [if_neg (by omega), if_neg (by omega)]
    rw [eC, eM] at hq
    exact hq _ hG2 ⟨hp.2.2.1, by rw [g186]; exact a2, by rw [g183]; exact a3, by rw [g184]; exact a4⟩
  | 4, _ =>
    obtain ⟨i0, k0, hi0, hi40, -⟩ := mk_add4 hc hk hs
    refine zp_iconst (v := (nI 5)) rfl (by decide +kernel) ?_
    refine zp_iload_n (x := (nI i)) rfl rfl ?_
    refine zp_imulN rfl ?_
    refine zp_istore_n_3 rfl rfl ?_
    refine zp_aload_n (x := 171) rfl rfl ?_
    refine zq_getr (k9 := 185) hS rfl (by first | assumption | exact ⟨by decide, rfl⟩) rfl ?_
    refine zp_aload_n (x := 171) rfl rfl ?_
    refine zq_getr (k9 := 178) hS rfl (by first | assumption | exact ⟨by decide, rfl⟩) rfl ?_
    refine zp_iload_n (x := (nI (5 * i))) rfl rfl ?_
    refine zp_iconst (v := (nI 1)) rfl (by decide +kernel) ?_
    refine zp_iaddN rfl ?_
    refine zq_iald hS rfl (by first | assumption | exact ⟨by decide, rfl⟩) (by omega) (by first | decide | omega) ?_
    rw [w1]
    refine zp_call rfl rfl (t_Mod_classAt hS ⟨by decide, rfl⟩ a1 b1 (by omega) ?_)
    show zp_wp X y_Mod_goesOn 19 [.ref 171, .int (nI i), .int (zf_o mt), .int (nI (5 * i)), zm_mk, zm_mk, zm_mk] [.int (zf_o (v_cls MV (L i).2.1))] h Q
    refine zp_istore_4 rfl rfl ?_
    refine zp_aload_n (x := 171) rfl rfl ?_
    refine zq_getr (k9 := 185) hS rfl (by first | assumption | exact ⟨by decide, rfl⟩) rfl ?_
    refine zp_iload (x := (zf_o (v_cls MV (L i).2.1))) rfl rfl ?_
    refine zp_aload_n (x := 171) rfl rfl ?_
    refine zq_getr (k9 := 178) hS rfl (by first | assumption | exact ⟨by decide, rfl⟩) rfl ?_
    refine zp_iload_n (x := (nI (5 * i))) rfl rfl ?_
    refine zp_iconst (v := (nI 2)) rfl (by decide +kernel) ?_
    refine zp_iaddN rfl ?_
    refine zq_iald hS rfl (by first | assumption | exact ⟨by decide, rfl⟩) (by omega) (by first | decide | omega) ?_
    rw [w2]
    refine zp_call rfl rfl (t_Mod_memberAt hS ⟨by decide, rfl⟩ a1 b1 v_cls_12 (by omega) ?_)
    show zp_wp X y_Mod_goesOn 38 [.ref 171, .int (nI i), .int (zf_o mt), .int (nI (5 * i)), .int (zf_o (v_cls MV (L i).2.1)), zm_mk, zm_mk] [.int (zf_o (v_mem MV (v_cls MV (L i).2.1) (L i).2.2.1))] h Q
    refine zp_istore_5 rfl rfl ?_
    refine zp_aload_n (x := 171) rfl rfl ?_
    refine zq_getr (k9 := 178) hS rfl (by first | assumption | exact ⟨by decide, rfl⟩) rfl ?_
    refine zp_iload_n (x := (nI (5 * i))) rfl rfl ?_
    refine zq_iald hS rfl (by first | assumption | exact ⟨by decide, rfl⟩) (by omega) (by first | decide | omega) ?_
    rw [w0, hk]
    refine zp_iconst (v := (nI 1)) rfl (by decide +kernel) ?_
    refine zp_icT (tgt := 58) rfl rfl (by decide +kernel) ?_
    refine zp_aload_n (x := 171) rfl rfl ?_
    refine zq_getr (k9 := 178) hS rfl (by first | assumption | exact ⟨by decide, rfl⟩) rfl ?_
    refine zp_iload_n (x := (nI (5 * i))) rfl rfl ?_
    refine zq_iald hS rfl (by first | assumption | exact ⟨by decide, rfl⟩) (by omega) (by first | decide | omega) ?_
    rw [w0, hk]
    refine zp_iconst (v := (nI 5)) rfl (by decide +kernel) ?_
    refine zp_icT (tgt := 76) rfl rfl (by decide +kernel) ?_
    refine zp_aload_n (x := 171) rfl rfl ?_
    refine zp_aload_n (x := 171) rfl rfl ?_
    refine zq_getr (k9 := 185) hS rfl (by first | assumption | exact ⟨by decide, rfl⟩) rfl ?_
    refine zp_aload_n (x := 171) rfl rfl ?_
    refine zq_getr (k9 := 178) hS rfl (by first | assumption | exact ⟨by decide, rfl⟩) rfl ?_
    refine zp_iload_n (x := (nI i)) rfl rfl ?_
    refine zq_virt hS rfl rfl (by first | assumption | exact ⟨by decide, rfl⟩) rfl (s_Mod_makesOf hS ⟨by decide, rfl⟩ a1 b1 ⟨by decide, rfl⟩ hL hi o (fun h2 hp => ?_))
    have hG2 : zr_G [183, 184, 185] h h2 := zr_G.mk hp (by decide)
    have v0 : ci h2 178 (5 * i) = nI 4 := by rw [hG2.gi (by decide) (by decide), w0, hk]
    have g183 := hp.2.1.gi (a := 183) (by decide)
    have g184 := hp.2.1.gi (a := 184) (by decide)
    have g186 := hp.2.1.gi (a := 186) (by decide)
    have hS := hp.1
    have h10 : cf h2 171 10 = nI i0 := by rw [hp.2.2.2.1, hi0]; rfl
    show zp_wp X y_Mod_goesOn 89 [.ref 171, .int (nI i), .int (zf_o mt), .int (nI (5 * i)), .int (zf_o (v_cls MV (L i).2.1)), .int (zf_o (v_mem MV (v_cls MV (L i).2.1) (L i).2.2.1)), zm_mk] [.int (nI ((v_mk MV (L i)).1))] h2 Q
    refine zp_istore_6 rfl rfl ?_
    refine zp_aload_n (x := 171) rfl rfl ?_
    refine zq_getr (k9 := 178) hS rfl (by first | assumption | exact ⟨by decide, rfl⟩) rfl ?_
    refine zp_iload_n (x := (nI (5 * i))) rfl rfl ?_
    refine zq_iald hS rfl (by first | assumption | exact ⟨by decide, rfl⟩) (by omega) (by first | decide | omega) ?_
    rw [v0]
    refine zp_ifT (tgt := 113) rfl rfl (by decide +kernel) ?_
    refine zp_aload_n (x := 171) rfl rfl ?_
    refine zq_getr (k9 := 178) hS rfl (by first | assumption | exact ⟨by decide, rfl⟩) rfl ?_
    refine zp_iload_n (x := (nI (5 * i))) rfl rfl ?_
    refine zq_iald hS rfl (by first | assumption | exact ⟨by decide, rfl⟩) (by omega) (by first | decide | omega) ?_
    rw [v0]
    refine zp_iconst (v := (nI 4)) rfl (by decide +kernel) ?_
    refine zp_icF (tgt := 133) rfl rfl (by decide +kernel) ?_
    refine zp_aload_n (x := 171) rfl rfl ?_
    refine zq_getr (k9 := 184) hS rfl (by first | assumption | exact ⟨by decide, rfl⟩) rfl ?_
    refine zp_aload_n (x := 171) rfl rfl ?_
    refine zq_geti hS rfl (by first | assumption | exact ⟨by decide, rfl⟩) rfl ?_
    rw [h10]
    refine zp_iload_n (x := (zf_o mt)) rfl rfl ?_
    refine zq_iast hS rfl (by first | assumption | exact ⟨by decide, rfl⟩) (by omega) (by decide) (fun hS132 => ?_)
    have hS := hS132
    refine zp_vret rfl rfl ?_
    have eC : v_onC MV C (L i) mt = C := by unfold v_onC; rw [if_neg (by omega), if_neg (by omega)]
    have eM : v_onM MV M (L i) mt = va_up M i0 mt := by unfold v_onM; rw [if_pos hk, hi0]
    rw [eC, eM] at hq
    refine hq _ (hG2.tr (zr_G.zi (T := [183, 184, 185]) (by decide) (by decide) hS) (fun _ q => q)) ⟨?_, ?_, ?_, ?_⟩
    · rw [zi_ne (by decide)]; exact hp.2.2.1
    · rw [zi_ne (by decide), g186]; exact a2
    · rw [zi_ne (by decide), g183]; exact a3
    · rw [zi_at, g184]; exact a4.up
  | 5, _ =>
    obtain ⟨m0, hm0, -⟩ := mk_5 hk hs
    have hm40 := (v_mem_lt hm0).1
    refine zp_iconst (v := (nI 5)) rfl (by decide +kernel) ?_
    refine zp_iload_n (x := (nI i)) rfl rfl ?_
    refine zp_imulN rfl ?_
    refine zp_istore_n_3 rfl rfl ?_
    refine zp_aload_n (x := 171) rfl rfl ?_
    refine zq_getr (k9 := 185) hS rfl (by first | assumption | exact ⟨by decide, rfl⟩) rfl ?_
    refine zp_aload_n (x := 171) rfl rfl ?_
    refine zq_getr (k9 := 178) hS rfl (by first | assumption | exact ⟨by decide, rfl⟩) rfl ?_
    refine zp_iload_n (x := (nI (5 * i))) rfl rfl ?_
    refine zp_iconst (v := (nI 1)) rfl (by decide +kernel) ?_
    refine zp_iaddN rfl ?_
    refine zq_iald hS rfl (by first | assumption | exact ⟨by decide, rfl⟩) (by omega) (by first | decide | omega) ?_
    rw [w1]
    refine zp_call rfl rfl (t_Mod_classAt hS ⟨by decide, rfl⟩ a1 b1 (by omega) ?_)
    show zp_wp X y_Mod_goesOn 19 [.ref 171, .int (nI i), .int (zf_o mt), .int (nI (5 * i)), zm_mk, zm_mk, zm_mk] [.int (zf_o (v_cls MV (L i).2.1))] h Q
    refine zp_istore_4 rfl rfl ?_
    refine zp_aload_n (x := 171) rfl rfl ?_
    refine zq_getr (k9 := 185) hS rfl (by first | assumption | exact ⟨by decide, rfl⟩) rfl ?_
    refine zp_iload (x := (zf_o (v_cls MV (L i).2.1))) rfl rfl ?_
    refine zp_aload_n (x := 171) rfl rfl ?_
    refine zq_getr (k9 := 178) hS rfl (by first | assumption | exact ⟨by decide, rfl⟩) rfl ?_
    refine zp_iload_n (x := (nI (5 * i))) rfl rfl ?_
    refine zp_iconst (v := (nI 2)) rfl (by decide +kernel) ?_
    refine zp_iaddN rfl ?_
    refine zq_iald hS rfl (by first | assumption | exact ⟨by decide, rfl⟩) (by omega) (by first | decide | omega) ?_
    rw [w2]
    refine zp_call rfl rfl (t_Mod_memberAt hS ⟨by decide, rfl⟩ a1 b1 v_cls_12 (by omega) ?_)
    rw [hm0]
    show zp_wp X y_Mod_goesOn 38 [.ref 171, .int (nI i), .int (zf_o mt), .int (nI (5 * i)), .int (zf_o (v_cls MV (L i).2.1)), zm_mk, zm_mk] [.int (nI m0)] h Q
    refine zp_istore_5 rfl rfl ?_
    refine zp_aload_n (x := 171) rfl rfl ?_
    refine zq_getr (k9 := 178) hS rfl (by first | assumption | exact ⟨by decide, rfl⟩) rfl ?_
    refine zp_iload_n (x := (nI (5 * i))) rfl rfl ?_
    refine zq_iald hS rfl (by first | assumption | exact ⟨by decide, rfl⟩) (by omega) (by first | decide | omega) ?_
    rw [w0, hk]
    refine zp_iconst (v := (nI 1)) rfl (by decide +kernel) ?_
    refine zp_icT (tgt := 58) rfl rfl (by decide +kernel) ?_
    refine zp_aload_n (x := 171) rfl rfl ?_
    refine zq_getr (k9 := 178) hS rfl (by first | assumption | exact ⟨by decide, rfl⟩) rfl ?_
    refine zp_iload_n (x := (nI (5 * i))) rfl rfl ?_
    refine zq_iald hS rfl (by first | assumption | exact ⟨by decide, rfl⟩) (by omega) (by first | decide | omega) ?_
    rw [w0, hk]
    refine zp_iconst (v := (nI 5)) rfl (by decide +kernel) ?_
    refine zp_icF (tgt := 76) rfl rfl (by decide +kernel) ?_
    refine zp_aload_n (x := 171) rfl rfl ?_
    refine zq_getr (k9 := 184) hS rfl (by first | assumption | exact ⟨by decide, rfl⟩) rfl ?_
    refine zp_iload (x := (nI m0)) rfl rfl ?_
    refine zp_iconst (v := (-1)) rfl (by decide +kernel) ?_
    refine zq_iast hS rfl (by first | assumption | exact ⟨by decide, rfl⟩) (by omega) (by decide) (fun hS75 => ?_)
    have hS := hS75
    refine zp_aload_n (x := 171) rfl rfl ?_
    refine zp_aload_n (x := 171) rfl rfl ?_
    refine zq_getr (k9 := 185) hS rfl (by first | assumption | exact ⟨by decide, rfl⟩) rfl ?_
    refine zp_aload_n (x := 171) rfl rfl ?_
    refine zq_getr (k9 := 178) hS rfl (by first | assumption | exact ⟨by decide, rfl⟩) rfl ?_
    refine zp_iload_n (x := (nI i)) rfl rfl ?_
    refine zq_virt hS rfl rfl (by first | assumption | exact ⟨by decide, rfl⟩) rfl (s_Mod_makesOf hS ⟨by decide, rfl⟩ (by rw [zi_ne (by decide)]; exact a1) b1 ⟨by decide, rfl⟩ (by rw [zi_ne (by decide)]; exact hL) hi o (fun h2 hp => ?_))
    have hG2 : zr_G [183, 184, 185] h h2 := (zr_G.zi (T := [183, 184, 185]) (by decide) (by decide) hS).tr (zr_G.mk (T := [183, 184, 185]) hp (by decide)) (fun _ q => q)
    have v0 : ci h2 178 (5 * i) = nI 5 := by rw [hG2.gi (by decide) (by decide), w0, hk]
    have g183 := hp.2.1.gi (a := 183) (by decide)
    have g184 := hp.2.1.gi (a := 184) (by decide)
    have g186 := hp.2.1.gi (a := 186) (by decide)
    have hS := hp.1
    show zp_wp X y_Mod_goesOn 89 [.ref 171, .int (nI i), .int (zf_o mt), .int (nI (5 * i)), .int (zf_o (v_cls MV (L i).2.1)), .int (nI m0), zm_mk] [.int (nI ((v_mk MV (L i)).1))] h2 Q
    refine zp_istore_6 rfl rfl ?_
    refine zp_aload_n (x := 171) rfl rfl ?_
    refine zq_getr (k9 := 178) hS rfl (by first | assumption | exact ⟨by decide, rfl⟩) rfl ?_
    refine zp_iload_n (x := (nI (5 * i))) rfl rfl ?_
    refine zq_iald hS rfl (by first | assumption | exact ⟨by decide, rfl⟩) (by omega) (by first | decide | omega) ?_
    rw [v0]
    refine zp_ifT (tgt := 113) rfl rfl (by decide +kernel) ?_
    refine zp_aload_n (x := 171) rfl rfl ?_
    refine zq_getr (k9 := 178) hS rfl (by first | assumption | exact ⟨by decide, rfl⟩) rfl ?_
    refine zp_iload_n (x := (nI (5 * i))) rfl rfl ?_
    refine zq_iald hS rfl (by first | assumption | exact ⟨by decide, rfl⟩) (by omega) (by first | decide | omega) ?_
    rw [v0]
    refine zp_iconst (v := (nI 4)) rfl (by decide +kernel) ?_
    refine zp_icT (tgt := 133) rfl rfl (by decide +kernel) ?_
    refine zp_vret rfl rfl ?_
    have eC : v_onC MV C (L i) mt = C := by unfold v_onC; rw [if_neg (by omega), if_neg (by omega)]
    have eM : v_onM MV M (L i) mt = va_up M m0 none := by unfold v_onM; rw [if_neg (by omega), if_pos hk, hm0]
    rw [eC, eM] at hq
    refine hq _ hG2 ⟨hp.2.2.1, ?_, ?_, ?_⟩
    · rw [g186, zi_ne (by decide)]; exact a2
    · rw [g183, zi_ne (by decide)]; exact a3
    · rw [g184, zi_at]; exact a4.up (x := none)
  | 6, _ =>
    refine zp_iconst (v := (nI 5)) rfl (by decide +kernel) ?_
    refine zp_iload_n (x := (nI i)) rfl rfl ?_
    refine zp_imulN rfl ?_
    refine zp_istore_n_3 rfl rfl ?_
    refine zp_aload_n (x := 171) rfl rfl ?_
    refine zq_getr (k9 := 185) hS rfl (by first | assumption | exact ⟨by decide, rfl⟩) rfl ?_
    refine zp_aload_n (x := 171) rfl rfl ?_
    refine zq_getr (k9 := 178) hS rfl (by first | assumption | exact ⟨by decide, rfl⟩) rfl ?_
    refine zp_iload_n (x := (nI (5 * i))) rfl rfl ?_
    refine zp_iconst (v := (nI 1)) rfl (by decide +kernel) ?_
    refine zp_iaddN rfl ?_
    refine zq_iald hS rfl (by first | assumption | exact ⟨by decide, rfl⟩) (by omega) (by first | decide | omega) ?_
    rw [w1]
    refine zp_call rfl rfl (t_Mod_classAt hS ⟨by decide, rfl⟩ a1 b1 (by omega) ?_)
    show zp_wp X y_Mod_goesOn 19 [.ref 171, .int (nI i), .int (zf_o mt), .int (nI (5 * i)), zm_mk, zm_mk, zm_mk] [.int (zf_o (v_cls MV (L i).2.1))] h Q
    refine zp_istore_4 rfl rfl ?_
    refine zp_aload_n (x := 171) rfl rfl ?_
    refine zq_getr (k9 := 185) hS rfl (by first | assumption | exact ⟨by decide, rfl⟩) rfl ?_
    refine zp_iload (x := (zf_o (v_cls MV (L i).2.1))) rfl rfl ?_
    refine zp_aload_n (x := 171) rfl rfl ?_
    refine zq_getr (k9 := 178) hS rfl (by first | assumption | exact ⟨by decide, rfl⟩) rfl ?_
    refine zp_iload_n (x := (nI (5 * i))) rfl rfl ?_
    refine zp_iconst (v := (nI 2)) rfl (by decide +kernel) ?_
    refine zp_iaddN rfl ?_
    refine zq_iald hS rfl (by first | assumption | exact ⟨by decide, rfl⟩) (by omega) (by first | decide | omega) ?_
    rw [w2]
    refine zp_call rfl rfl (t_Mod_memberAt hS ⟨by decide, rfl⟩ a1 b1 v_cls_12 (by omega) ?_)
    show zp_wp X y_Mod_goesOn 38 [.ref 171, .int (nI i), .int (zf_o mt), .int (nI (5 * i)), .int (zf_o (v_cls MV (L i).2.1)), zm_mk, zm_mk] [.int (zf_o (v_mem MV (v_cls MV (L i).2.1) (L i).2.2.1))] h Q
    refine zp_istore_5 rfl rfl ?_
    refine zp_aload_n (x := 171) rfl rfl ?_
    refine zq_getr (k9 := 178) hS rfl (by first | assumption | exact ⟨by decide, rfl⟩) rfl ?_
    refine zp_iload_n (x := (nI (5 * i))) rfl rfl ?_
    refine zq_iald hS rfl (by first | assumption | exact ⟨by decide, rfl⟩) (by omega) (by first | decide | omega) ?_
    rw [w0, hk]
    refine zp_iconst (v := (nI 1)) rfl (by decide +kernel) ?_
    refine zp_icT (tgt := 58) rfl rfl (by decide +kernel) ?_
    refine zp_aload_n (x := 171) rfl rfl ?_
    refine zq_getr (k9 := 178) hS rfl (by first | assumption | exact ⟨by decide, rfl⟩) rfl ?_
    refine zp_iload_n (x := (nI (5 * i))) rfl rfl ?_
    refine zq_iald hS rfl (by first | assumption | exact ⟨by decide, rfl⟩) (by omega) (by first | decide | omega) ?_
    rw [w0, hk]
    refine zp_iconst (v := (nI 5)) rfl (by decide +kernel) ?_
    refine zp_icT (tgt := 76) rfl rfl (by decide +kernel) ?_
    refine zp_aload_n (x := 171) rfl rfl ?_
    refine zp_aload_n (x := 171) rfl rfl ?_
    refine zq_getr (k9 := 185) hS rfl (by first | assumption | exact ⟨by decide, rfl⟩) rfl ?_
    refine zp_aload_n (x := 171) rfl rfl ?_
    refine zq_getr (k9 := 178) hS rfl (by first | assumption | exact ⟨by decide, rfl⟩) rfl ?_
    refine zp_iload_n (x := (nI i)) rfl rfl ?_
    refine zq_virt hS rfl rfl (by first | assumption | exact ⟨by decide, rfl⟩) rfl (s_Mod_makesOf hS ⟨by decide, rfl⟩ a1 b1 ⟨by decide, rfl⟩ hL hi o (fun h2 hp => ?_))
    have hG2 : zr_G [183, 184, 185] h h2 := zr_G.mk hp (by decide)
    have v0 : ci h2 178 (5 * i) = nI 6 := by rw [hG2.gi (by decide) (by decide), w0, hk]
    have g183 := hp.2.1.gi (a := 183) (by decide)
    have g184 := hp.2.1.gi (a := 184) (by decide)
    have g186 := hp.2.1.gi (a := 186) (by decide)
    have hS := hp.1
    show zp_wp X y_Mod_goesOn 89 [.ref 171, .int (nI i), .int (zf_o mt), .int (nI (5 * i)), .int (zf_o (v_cls MV (L i).2.1)), .int (zf_o (v_mem MV (v_cls MV (L i).2.1) (L i).2.2.1)), zm_mk] [.int (nI ((v_mk MV (L i)).1))] h2 Q
    refine zp_istore_6 rfl rfl ?_
    refine zp_aload_n (x := 171) rfl rfl ?_
    refine zq_getr (k9 := 178) hS rfl (by first | assumption | exact ⟨by decide, rfl⟩) rfl ?_
    refine zp_iload_n (x := (nI (5 * i))) rfl rfl ?_
    refine zq_iald hS rfl (by first | assumption | exact ⟨by decide, rfl⟩) (by omega) (by first | decide | omega) ?_
    rw [v0]
    refine zp_ifT (tgt := 113) rfl rfl (by decide +kernel) ?_
    refine zp_aload_n (x := 171) rfl rfl ?_
    refine zq_getr (k9 := 178) hS rfl (by first | assumption | exact ⟨by decide, rfl⟩) rfl ?_
    refine zp_iload_n (x := (nI (5 * i))) rfl rfl ?_
    refine zq_iald hS rfl (by first | assumption | exact ⟨by decide, rfl⟩) (by omega) (by first | decide | omega) ?_
    rw [v0]
    refine zp_iconst (v := (nI 4)) rfl (by decide +kernel) ?_
    refine zp_icT (tgt := 133) rfl rfl (by decide +kernel) ?_
    refine zp_vret rfl rfl ?_
    have eC : v_onC MV C (L i) mt = C := by unfold v_onC; rw [if_neg (by omega), if_neg (by omega)]
    have eM : v_onM MV M (L i) mt = M := by unfold v_onM; rw [if_neg (by omega), if_neg (by omega)]
    rw [eC, eM] at hq
    exact hq _ hG2 ⟨hp.2.2.1, by rw [g186]; exact a2, by rw [g183]; exact a3, by rw [g184]; exact a4⟩
  | 7, _ =>
    refine zp_iconst (v := (nI 5)) rfl (by decide +kernel) ?_
    refine zp_iload_n (x := (nI i)) rfl rfl ?_
    refine zp_imulN rfl ?_
    refine zp_istore_n_3 rfl rfl ?_
    refine zp_aload_n (x := 171) rfl rfl ?_
    refine zq_getr (k9 := 185) hS rfl (by first | assumption | exact ⟨by decide, rfl⟩) rfl ?_
    refine zp_aload_n (x := 171) rfl rfl ?_
    refine zq_getr (k9 := 178) hS rfl (by first | assumption | exact ⟨by decide, rfl⟩) rfl ?_
    refine zp_iload_n (x := (nI (5 * i))) rfl rfl ?_
    refine zp_iconst (v := (nI 1)) rfl (by decide +kernel) ?_
    refine zp_iaddN rfl ?_
    refine zq_iald hS rfl (by first | assumption | exact ⟨by decide, rfl⟩) (by omega) (by first | decide | omega) ?_
    rw [w1]
    refine zp_call rfl rfl (t_Mod_classAt hS ⟨by decide, rfl⟩ a1 b1 (by omega) ?_)
    show zp_wp X y_Mod_goesOn 19 [.ref 171, .int (nI i), .int (zf_o mt), .int (nI (5 * i)), zm_mk, zm_mk, zm_mk] [.int (zf_o (v_cls MV (L i).2.1))] h Q
    refine zp_istore_4 rfl rfl ?_
    refine zp_aload_n (x := 171) rfl rfl ?_
    refine zq_getr (k9 := 185) hS rfl (by first | assumption | exact ⟨by decide, rfl⟩) rfl ?_
    refine zp_iload (x := (zf_o (v_cls MV (L i).2.1))) rfl rfl ?_
    refine zp_aload_n (x := 171) rfl rfl ?_
    refine zq_getr (k9 := 178) hS rfl (by first | assumption | exact ⟨by decide, rfl⟩) rfl ?_
    refine zp_iload_n (x := (nI (5 * i))) rfl rfl ?_
    refine zp_iconst (v := (nI 2)) rfl (by decide +kernel) ?_
    refine zp_iaddN rfl ?_
    refine zq_iald hS rfl (by first | assumption | exact ⟨by decide, rfl⟩) (by omega) (by first | decide | omega) ?_
    rw [w2]
    refine zp_call rfl rfl (t_Mod_memberAt hS ⟨by decide, rfl⟩ a1 b1 v_cls_12 (by omega) ?_)
    show zp_wp X y_Mod_goesOn 38 [.ref 171, .int (nI i), .int (zf_o mt), .int (nI (5 * i)), .int (zf_o (v_cls MV (L i).2.1)), zm_mk, zm_mk] [.int (zf_o (v_mem MV (v_cls MV (L i).2.1) (L i).2.2.1))] h Q
    refine zp_istore_5 rfl rfl ?_
    refine zp_aload_n (x := 171) rfl rfl ?_
    refine zq_getr (k9 := 178) hS rfl (by first | assumption | exact ⟨by decide, rfl⟩) rfl ?_
    refine zp_iload_n (x := (nI (5 * i))) rfl rfl ?_
    refine zq_iald hS rfl (by first | assumption | exact ⟨by decide, rfl⟩) (by omega) (by first | decide | omega) ?_
    rw [w0, hk]
    refine zp_iconst (v := (nI 1)) rfl (by decide +kernel) ?_
    refine zp_icT (tgt := 58) rfl rfl (by decide +kernel) ?_
    refine zp_aload_n (x := 171) rfl rfl ?_
    refine zq_getr (k9 := 178) hS rfl (by first | assumption | exact ⟨by decide, rfl⟩) rfl ?_
    refine zp_iload_n (x := (nI (5 * i))) rfl rfl ?_
    refine zq_iald hS rfl (by first | assumption | exact ⟨by decide, rfl⟩) (by omega) (by first | decide | omega) ?_
    rw [w0, hk]
    refine zp_iconst (v := (nI 5)) rfl (by decide +kernel) ?_
    refine zp_icT (tgt := 76) rfl rfl (by decide +kernel) ?_
    refine zp_aload_n (x := 171) rfl rfl ?_
    refine zp_aload_n (x := 171) rfl rfl ?_
    refine zq_getr (k9 := 185) hS rfl (by first | assumption | exact ⟨by decide, rfl⟩) rfl ?_
    refine zp_aload_n (x := 171) rfl rfl ?_
    refine zq_getr (k9 := 178) hS rfl (by first | assumption | exact ⟨by decide, rfl⟩) rfl ?_
    refine zp_iload_n (x := (nI i)) rfl rfl ?_
    refine zq_virt hS rfl rfl (by first | assumption | exact ⟨by decide, rfl⟩) rfl (s_Mod_makesOf hS ⟨by decide, rfl⟩ a1 b1 ⟨by decide, rfl⟩ hL hi o (fun h2 hp => ?_))
    have hG2 : zr_G [183, 184, 185] h h2 := zr_G.mk hp (by decide)
    have v0 : ci h2 178 (5 * i) = nI 7 := by rw [hG2.gi (by decide) (by decide), w0, hk]
    have g183 := hp.2.1.gi (a := 183) (by decide)
    have g184 := hp.2.1.gi (a := 184) (by decide)
    have g186 := hp.2.1.gi (a := 186) (by decide)
    have hS := hp.1
    show zp_wp X y_Mod_goesOn 89 [.ref 171, .int (nI i), .int (zf_o mt), .int (nI (5 * i)), .int (zf_o (v_cls MV (L i).2.1)), .int (zf_o (v_mem MV (v_cls MV (L i).2.1) (L i).2.2.1)), zm_mk] [.int (nI ((v_mk MV (L i)).1))] h2 Q
    refine zp_istore_6 rfl rfl ?_
    refine zp_aload_n (x := 171) rfl rfl ?_
    refine zq_getr (k9 := 178) hS rfl (by first | assumption | exact ⟨by decide, rfl⟩) rfl ?_
    refine zp_iload_n (x := (nI (5 * i))) rfl rfl ?_
    refine zq_iald hS rfl (by first | assumption | exact ⟨by decide, rfl⟩) (by omega) (by first | decide | omega) ?_
    rw [v0]
    refine zp_ifT (tgt := 113) rfl rfl (by decide +kernel) ?_
    refine zp_aload_n (x := 171) rfl rfl ?_
    refine zq_getr (k9 := 178) hS rfl (by first | assumption | exact ⟨by decide, rfl⟩) rfl ?_
    refine zp_iload_n (x := (nI (5 * i))) rfl rfl ?_
    refine zq_iald hS rfl (by first | assumption | exact ⟨by decide, rfl⟩) (by omega) (by first | decide | omega) ?_
    rw [v0]
    refine zp_iconst (v := (nI 4)) rfl (by decide +kernel) ?_
    refine zp_icT (tgt := 133) rfl rfl (by decide +kernel) ?_
    refine zp_vret rfl rfl ?_
    have eC : v_onC MV C (L i) mt = C := by unfold v_onC; rw [if_neg (by omega), if_neg (by omega)]
    have eM : v_onM MV M (L i) mt = M := by unfold v_onM; rw [if_neg (by omega), if_neg (by omega)]
    rw [eC, eM] at hq
    exact hq _ hG2 ⟨hp.2.2.1, by rw [g186]; exact a2, by rw [g183]; exact a3, by rw [g184]; exact a4⟩
  | 8, _ =>
    refine zp_iconst (v := (nI 5)) rfl (by decide +kernel) ?_
    refine zp_iload_n (x := (nI i)) rfl rfl ?_
    refine zp_imulN rfl ?_
    refine zp_istore_n_3 rfl rfl ?_
    refine zp_aload_n (x := 171) rfl rfl ?_
    refine zq_getr (k9 := 185) hS rfl (by first | assumption | exact ⟨by decide, rfl⟩) rfl ?_
    refine zp_aload_n (x := 171) rfl rfl ?_
    refine zq_getr (k9 := 178) hS rfl (by first | assumption | exact ⟨by decide, rfl⟩) rfl ?_
    refine zp_iload_n (x := (nI (5 * i))) rfl rfl ?_
    refine zp_iconst (v := (nI 1)) rfl (by decide +kernel) ?_
    refine zp_iaddN rfl ?_
    refine zq_iald hS rfl (by first | assumption | exact ⟨by decide, rfl⟩) (by omega) (by first | decide | omega) ?_
    rw [w1]
    refine zp_call rfl rfl (t_Mod_classAt hS ⟨by decide, rfl⟩ a1 b1 (by omega) ?_)
    show zp_wp X y_Mod_goesOn 19 [.ref 171, .int (nI i), .int (zf_o mt), .int (nI (5 * i)), zm_mk, zm_mk, zm_mk] [.int (zf_o (v_cls MV (L i).2.1))] h Q
    refine zp_istore_4 rfl rfl ?_
    refine zp_aload_n (x := 171) rfl rfl ?_
    refine zq_getr (k9 := 185) hS rfl (by first | assumption | exact ⟨by decide, rfl⟩) rfl ?_
    refine zp_iload (x := (zf_o (v_cls MV (L i).2.1))) rfl rfl ?_
    refine zp_aload_n (x := 171) rfl rfl ?_
    refine zq_getr (k9 := 178) hS rfl (by first | assumption | exact ⟨by decide, rfl⟩) rfl ?_
    refine zp_iload_n (x := (nI (5 * i))) rfl rfl ?_
    refine zp_iconst (v := (nI 2)) rfl (by decide +kernel) ?_
    refine zp_iaddN rfl ?_
    refine zq_iald hS rfl (by first | assumption | exact ⟨by decide, rfl⟩) (by omega) (by first | decide | omega) ?_
    rw [w2]
    refine zp_call rfl rfl (t_Mod_memberAt hS ⟨by decide, rfl⟩ a1 b1 v_cls_12 (by omega) ?_)
    show zp_wp X y_Mod_goesOn 38 [.ref 171, .int (nI i), .int (zf_o mt), .int (nI (5 * i)), .int (zf_o (v_cls MV (L i).2.1)), zm_mk, zm_mk] [.int (zf_o (v_mem MV (v_cls MV (L i).2.1) (L i).2.2.1))] h Q
    refine zp_istore_5 rfl rfl ?_
    refine zp_aload_n (x := 171) rfl rfl ?_
    refine zq_getr (k9 := 178) hS rfl (by first | assumption | exact ⟨by decide, rfl⟩) rfl ?_
    refine zp_iload_n (x := (nI (5 * i))) rfl rfl ?_
    refine zq_iald hS rfl (by first | assumption | exact ⟨by decide, rfl⟩) (by omega) (by first | decide | omega) ?_
    rw [w0, hk]
    refine zp_iconst (v := (nI 1)) rfl (by decide +kernel) ?_
    refine zp_icT (tgt := 58) rfl rfl (by decide +kernel) ?_
    refine zp_aload_n (x := 171) rfl rfl ?_
    refine zq_getr (k9 := 178) hS rfl (by first | assumption | exact ⟨by decide, rfl⟩) rfl ?_
    refine zp_iload_n (x := (nI (5 * i))) rfl rfl ?_
    refine zq_iald hS rfl (by first | assumption | exact ⟨by decide, rfl⟩) (by omega) (by first | decide | omega) ?_
    rw [w0, hk]
    refine zp_iconst (v := (nI 5)) rfl (by decide +kernel) ?_
    refine zp_icT (tgt := 76) rfl rfl (by decide +kernel) ?_
    refine zp_aload_n (x := 171) rfl rfl ?_
    refine zp_aload_n (x := 171) rfl rfl ?_
    refine zq_getr (k9 := 185) hS rfl (by first | assumption | exact ⟨by decide, rfl⟩) rfl ?_
    refine zp_aload_n (x := 171) rfl rfl ?_
    refine zq_getr (k9 := 178) hS rfl (by first | assumption | exact ⟨by decide, rfl⟩) rfl ?_
    refine zp_iload_n (x := (nI i)) rfl rfl ?_
    refine zq_virt hS rfl rfl (by first | assumption | exact ⟨by decide, rfl⟩) rfl (s_Mod_makesOf hS ⟨by decide, rfl⟩ a1 b1 ⟨by decide, rfl⟩ hL hi o (fun h2 hp => ?_))
    have hG2 : zr_G [183, 184, 185] h h2 := zr_G.mk hp (by decide)
    have v0 : ci h2 178 (5 * i) = nI 8 := by rw [hG2.gi (by decide) (by decide), w0, hk]
    have g183 := hp.2.1.gi (a := 183) (by decide)
    have g184 := hp.2.1.gi (a := 184) (by decide)
    have g186 := hp.2.1.gi (a := 186) (by decide)
    have hS := hp.1
    show zp_wp X y_Mod_goesOn 89 [.ref 171, .int (nI i), .int (zf_o mt), .int (nI (5 * i)), .int (zf_o (v_cls MV (L i).2.1)), .int (zf_o (v_mem MV (v_cls MV (L i).2.1) (L i).2.2.1)), zm_mk] [.int (nI ((v_mk MV (L i)).1))] h2 Q
    refine zp_istore_6 rfl rfl ?_
    refine zp_aload_n (x := 171) rfl rfl ?_
    refine zq_getr (k9 := 178) hS rfl (by first | assumption | exact ⟨by decide, rfl⟩) rfl ?_
    refine zp_iload_n (x := (nI (5 * i))) rfl rfl ?_
    refine zq_iald hS rfl (by first | assumption | exact ⟨by decide, rfl⟩) (by omega) (by first | decide | omega) ?_
    rw [v0]
    refine zp_ifT (tgt := 113) rfl rfl (by decide +kernel) ?_
    refine zp_aload_n (x := 171) rfl rfl ?_
    refine zq_getr (k9 := 178) hS rfl (by first | assumption | exact ⟨by decide, rfl⟩) rfl ?_
    refine zp_iload_n (x := (nI (5 * i))) rfl rfl ?_
    refine zq_iald hS rfl (by first | assumption | exact ⟨by decide, rfl⟩) (by omega) (by first | decide | omega) ?_
    rw [v0]
    refine zp_iconst (v := (nI 4)) rfl (by decide +kernel) ?_
    refine zp_icT (tgt := 133) rfl rfl (by decide +kernel) ?_
    refine zp_vret rfl rfl ?_
    have eC : v_onC MV C (L i) mt = C := by unfold v_onC; rw [if_neg (by omega), if_neg (by omega)]
    have eM : v_onM MV M (L i) mt = M := by unfold v_onM; rw [if_neg (by omega), if_neg (by omega)]
    rw [eC, eM] at hq
    exact hq _ hG2 ⟨hp.2.2.1, by rw [g186]; exact a2, by rw [g183]; exact a3, by rw [g184]; exact a4⟩
  | 9, _ =>
    refine zp_iconst (v := (nI 5)) rfl (by decide +kernel) ?_
    refine zp_iload_n (x := (nI i)) rfl rfl ?_
    refine zp_imulN rfl ?_
    refine zp_istore_n_3 rfl rfl ?_
    refine zp_aload_n (x := 171) rfl rfl ?_
    refine zq_getr (k9 := 185) hS rfl (by first | assumption | exact ⟨by decide, rfl⟩) rfl ?_
    refine zp_aload_n (x := 171) rfl rfl ?_
    refine zq_getr (k9 := 178) hS rfl (by first | assumption | exact ⟨by decide, rfl⟩) rfl ?_
    refine zp_iload_n (x := (nI (5 * i))) rfl rfl ?_
    refine zp_iconst (v := (nI 1)) rfl (by decide +kernel) ?_
    refine zp_iaddN rfl ?_
    refine zq_iald hS rfl (by first | assumption | exact ⟨by decide, rfl⟩) (by omega) (by first | decide | omega) ?_
    rw [w1]
    refine zp_call rfl rfl (t_Mod_classAt hS ⟨by decide, rfl⟩ a1 b1 (by omega) ?_)
    show zp_wp X y_Mod_goesOn 19 [.ref 171, .int (nI i), .int (zf_o mt), .int (nI (5 * i)), zm_mk, zm_mk, zm_mk] [.int (zf_o (v_cls MV (L i).2.1))] h Q
    refine zp_istore_4 rfl rfl ?_
    refine zp_aload_n (x := 171) rfl rfl ?_
    refine zq_getr (k9 := 185) hS rfl (by first | assumption | exact ⟨by decide, rfl⟩) rfl ?_
    refine zp_iload (x := (zf_o (v_cls MV (L i).2.1))) rfl rfl ?_
    refine zp_aload_n (x := 171) rfl rfl ?_
    refine zq_getr (k9 := 178) hS rfl (by first | assumption | exact ⟨by decide, rfl⟩) rfl ?_
    refine zp_iload_n (x := (nI (5 * i))) rfl rfl ?_
    refine zp_iconst (v := (nI 2)) rfl (by decide +kernel) ?_
    refine zp_iaddN rfl ?_
    refine zq_iald hS rfl (by first | assumption | exact ⟨by decide, rfl⟩) (by omega) (by first | decide | omega) ?_
    rw [w2]
    refine zp_call rfl rfl (t_Mod_memberAt hS ⟨by decide, rfl⟩ a1 b1 v_cls_12 (by omega) ?_)
    show zp_wp X y_Mod_goesOn 38 [.ref 171, .int (nI i), .int (zf_o mt), .int (nI (5 * i)), .int (zf_o (v_cls MV (L i).2.1)), zm_mk, zm_mk] [.int (zf_o (v_mem MV (v_cls MV (L i).2.1) (L i).2.2.1))] h Q
    refine zp_istore_5 rfl rfl ?_
    refine zp_aload_n (x := 171) rfl rfl ?_
    refine zq_getr (k9 := 178) hS rfl (by first | assumption | exact ⟨by decide, rfl⟩) rfl ?_
    refine zp_iload_n (x := (nI (5 * i))) rfl rfl ?_
    refine zq_iald hS rfl (by first | assumption | exact ⟨by decide, rfl⟩) (by omega) (by first | decide | omega) ?_
    rw [w0, hk]
    refine zp_iconst (v := (nI 1)) rfl (by decide +kernel) ?_
    refine zp_icT (tgt := 58) rfl rfl (by decide +kernel) ?_
    refine zp_aload_n (x := 171) rfl rfl ?_
    refine zq_getr (k9 := 178) hS rfl (by first | assumption | exact ⟨by decide, rfl⟩) rfl ?_
    refine zp_iload_n (x := (nI (5 * i))) rfl rfl ?_
    refine zq_iald hS rfl (by first | assumption | exact ⟨by decide, rfl⟩) (by omega) (by first | decide | omega) ?_
    rw [w0, hk]
    refine zp_iconst (v := (nI 5)) rfl (by decide +kernel) ?_
    refine zp_icT (tgt := 76) rfl rfl (by decide +kernel) ?_
    refine zp_aload_n (x := 171) rfl rfl ?_
    refine zp_aload_n (x := 171) rfl rfl ?_
    refine zq_getr (k9 := 185) hS rfl (by first | assumption | exact ⟨by decide, rfl⟩) rfl ?_
    refine zp_aload_n (x := 171) rfl rfl ?_
    refine zq_getr (k9 := 178) hS rfl (by first | assumption | exact ⟨by decide, rfl⟩) rfl ?_
    refine zp_iload_n (x := (nI i)) rfl rfl ?_
    refine zq_virt hS rfl rfl (by first | assumption | exact ⟨by decide, rfl⟩) rfl (s_Mod_makesOf hS ⟨by decide, rfl⟩ a1 b1 ⟨by decide, rfl⟩ hL hi o (fun h2 hp => ?_))
    have hG2 : zr_G [183, 184, 185] h h2 := zr_G.mk hp (by decide)
    have v0 : ci h2 178 (5 * i) = nI 9 := by rw [hG2.gi (by decide) (by decide), w0, hk]
    have g183 := hp.2.1.gi (a := 183) (by decide)
    have g184 := hp.2.1.gi (a := 184) (by decide)
    have g186 := hp.2.1.gi (a := 186) (by decide)
    have hS := hp.1
    show zp_wp X y_Mod_goesOn 89 [.ref 171, .int (nI i), .int (zf_o mt), .int (nI (5 * i)), .int (zf_o (v_cls MV (L i).2.1)), .int (zf_o (v_mem MV (v_cls MV (L i).2.1) (L i).2.2.1)), zm_mk] [.int (nI ((v_mk MV (L i)).1))] h2 Q
    refine zp_istore_6 rfl rfl ?_
    refine zp_aload_n (x := 171) rfl rfl ?_
    refine zq_getr (k9 := 178) hS rfl (by first | assumption | exact ⟨by decide, rfl⟩) rfl ?_
    refine zp_iload_n (x := (nI (5 * i))) rfl rfl ?_
    refine zq_iald hS rfl (by first | assumption | exact ⟨by decide, rfl⟩) (by omega) (by first | decide | omega) ?_
    rw [v0]
    refine zp_ifT (tgt := 113) rfl rfl (by decide +kernel) ?_
    refine zp_aload_n (x := 171) rfl rfl ?_
    refine zq_getr (k9 := 178) hS rfl (by first | assumption | exact ⟨by decide, rfl⟩) rfl ?_
    refine zp_iload_n (x := (nI (5 * i))) rfl rfl ?_
    refine zq_iald hS rfl (by first | assumption | exact ⟨by decide, rfl⟩) (by omega) (by first | decide | omega) ?_
    rw [v0]
    refine zp_iconst (v := (nI 4)) rfl (by decide +kernel) ?_
    refine zp_icT (tgt := 133) rfl rfl (by decide +kernel) ?_
    refine zp_vret rfl rfl ?_
    have eC : v_onC MV C (L i) mt = C := by unfold v_onC; rw [if_neg (by omega), if_neg (by omega)]
    have eM : v_onM MV M (L i) mt = M := by unfold v_onM; rw [if_neg (by omega), if_neg (by omega)]
    rw [eC, eM] at hq
    exact hq _ hG2 ⟨hp.2.2.1, by rw [g186]; exact a2, by rw [g183]; exact a3, by rw [g184]; exact a4⟩
  | k + 10, k10 => exact absurd k10 (by omega)
theorem s_Mod_replays {n : Nat} {sel : Int32} {mend : Bool} (hS : zs_H h) (hb : zv_R B (ci h 174)) (hW : zv_W B) (hT : zv_R TG (ci h 186)) (hW2 : zv_W TG) (hL : zr_L L (ci h 178)) (hn : cf h 171 8 = nI n) (hn30 : n ≤ 30) (hc : ∀ i, i < n → zc_leg (L i)) (hs : ∀ i, i < n → (v_mk (v_go B L i) (L i)).1 = 0) (hq : ∀ h', zr_G [183, 184, 185, 186, 187] h h' → zv_R (v_rp sel mend B TG L n).1.2.1 (ci h' 186) → zr_O (v_rp sel mend B TG L n).2.2 n (ci h' 187) → Q (.inl (some (.int (nI (v_rp sel mend B TG L n).2.1)))) h') : zp_wm X y_Mod_replays [.ref 171, .int sel, .int (zf_b mend)] h Q := by
  show zp_wp X y_Mod_replays 0 [.ref 171, .int sel, .int (zf_b mend), zm_mk, zm_mk, zm_mk, zm_mk] [] h Q
  have lp : ∀ k i (st : zrs) h' x y, i + k = n → st.1.1 = v_go B L i → zj st.1.1 st.1.2.1 st.1.2.2.1 st.1.2.2.2 → zr_G [183, 184, 185, 186, 187] h h' → zr_st st.1.1 st.1.2.1 st.1.2.2.1 st.1.2.2.2 h' → zr_O st.2.2 i (ci h' 187) → st.2.1 ≤ i → v_rp sel mend B TG L n = zf_fold (v_rpS sel mend L) i k st → zp_wp X y_Mod_replays 24 [.ref 171, .int sel, .int (zf_b mend), .int (nI st.2.1), .int (nI i), x, y] [] h' Q := by
    intro k
    induction k with
    | zero =>
      intro i st h' x y hi hm hj hG hst hO hle he
      have he : v_rp sel mend B TG L n = st := he
      have hS := hG.1.1
      have hn' : cf h' 171 8 = nI n := by rw [hG.gf (by decide) (by decide)]; exact hn
      have hi : i = n := by omega
      subst hi
      refine zp_iload (x := (nI i)) rfl rfl ?_
      refine zp_aload_n (x := 171) rfl rfl ?_
      refine zq_geti hS rfl (by first | assumption | exact ⟨by decide, rfl⟩) rfl ?_
      rw [hn']
      refine zp_icmpN_ge (tgt := 166) rfl rfl (by omega) (by omega) (fun b30 => ?_) (fun b30 => ?_)
      · refine zp_iload_n (x := (nI st.2.1)) rfl rfl ?_
        refine zp_iret rfl rfl ?_
        rw [he] at hq; exact hq _ hG hst.2.1 hO
      · omega
    | succ k ih =>
      intro i st h' x y hi hm hj hG hst hO hle he
      rw [show zf_fold (v_rpS sel mend L) i (k + 1) st = zf_fold (v_rpS sel mend L) (i + 1) k (v_rpS sel mend L i st) from rfl] at he
      have hci := hc i (by omega)
      have hsi : (v_mk st.1.1 (L i)).1 = 0 := by rw [hm]; exact hs i (by omega)
      have n' : ∀ h2, zr_G [183, 184, 185, 186, 187] h h2 → cf h2 171 8 = nI n := fun h2 g => by rw [g.gf (by decide) (by decide)]; exact hn
      have l' : ∀ h2, zr_G [183, 184, 185, 186, 187] h h2 → zr_L L (ci h2 178) := fun h2 g => by rw [g.gi (by decide) (by decide)]; exact hL
      -- behind the try
      have m112 : ∀ h2 x, zr_G [183, 184, 185, 186, 187] h h2 → zr_st st.1.1 (v_sel sel mend (L i) i st).2.1 st.1.2.2.1 st.1.2.2.2 h2 → zj_T st.1.1 st.1.2.1 st.1.2.2.1 st.1.2.2.2 (L i) (v_sel sel mend (L i) i st).2.1 (cond (v_ismd (v_sel sel mend (L i) i st).1) (v_sel sel mend (L i) i st).2.2 none) → cf h2 171 10 = zf_o (v_sel sel mend (L i) i st).2.2 → ci h2 187 i = zf_o (v_sel sel mend (L i) i st).1 → (∀ z, (v_sel sel mend (L i) i st).1 = some z → z < 2 ^ 31) → (∀ j, j < i → ci h2 187 j = zf_o (st.2.2 j)) → zp_wp X y_Mod_replays 112 [.ref 171, .int sel, .int (zf_b mend), .int (nI (st.2.1 + cond (v_ismd (v_sel sel mend (L i) i st).1) 1 0)), .int (nI i), .int x, y] [] h2 Q := by
        intro h2 x hG2 hst2 hT2 h10 h187 hz31 hOj
        have hS := hG2.1.1
        unfold v_rpS at he
        dsimp only at he
        generalize v_sel sel mend (L i) i st = o at *
        obtain ⟨o1, TG', ad⟩ := o
        dsimp only at *
        have hr : st.2.1 + cond (v_ismd o1) 1 0 ≤ i + 1 := by cases v_ismd o1 <;> simp <;> omega
        have go : ∀ h3, zr_G [183, 184, 185] h2 h3 → zr_st (v_mk st.1.1 (L i)).2.1 TG' (v_onC st.1.1 st.1.2.2.1 (L i) (cond (v_ismd o1) ad none)) (v_onM st.1.1 st.1.2.2.2 (L i) (cond (v_ismd o1) ad none)) h3 → ∀ x y, zp_wp X y_Mod_replays 24 [.ref 171, .int sel, .int (zf_b mend), .int (nI (st.2.1 + cond (v_ismd o1) 1 0)), .int (nI (i + 1)), x, y] [] h3 Q := by
          intro h3 hG3 hst3 x y
          refine ih (i + 1) (((v_mk st.1.1 (L i)).2.1, TG', v_onC st.1.1 st.1.2.2.1 (L i) (cond (v_ismd o1) ad none), v_onM st.1.1 st.1.2.2.2 (L i) (cond (v_ismd o1) ad none)), st.2.1 + cond (v_ismd o1) 1 0, va_up st.2.2 i o1) h3 x y (by omega) (by dsimp only; rw [hm]; rfl) (hj.on hci hsi hT2) (hG2.tr hG3 (by decide)) hst3 ?_ hr he
          intro j hj2
          rw [hG3.gi (by decide) (by decide)]
          dsimp only
          by_cases e : j = i
          · subst e; simp only [va_up, if_true]; exact h187
          · simp only [va_up, if_neg e]; exact hOj j (by omega)
        cases o1 with
        | none =>
          have h187 : ci h2 187 i = -1 := h187
          refine zp_aload_n (x := 171) rfl rfl ?_
          refine zq_getr (k9 := 187) hS rfl (by first | assumption | exact ⟨by decide, rfl⟩) rfl ?_
          refine zp_iload (x := (nI i)) rfl rfl ?_
          refine zq_iald hS rfl (by first | assumption | exact ⟨by decide, rfl⟩) (by omega) (by first | decide | omega) ?_
          rw [h187]
          refine zp_ifF (tgt := 134) rfl rfl (by decide +kernel) ?_
          refine zp_aload_n (x := 171) rfl rfl ?_
          refine zq_getr (k9 := 187) hS rfl (by first | assumption | exact ⟨by decide, rfl⟩) rfl ?_
          refine zp_iload (x := (nI i)) rfl rfl ?_
          refine zq_iald hS rfl (by first | assumption | exact ⟨by decide, rfl⟩) (by omega) (by first | decide | omega) ?_
          rw [h187]
          refine zp_bipush (v := (nI 100)) rfl (by decide +kernel) ?_
          refine zp_icT (tgt := 138) rfl rfl (by decide +kernel) ?_
          refine zp_iconst (v := (nI 0)) rfl (by decide +kernel) ?_
          refine zp_istore_6 rfl rfl ?_
          refine zp_aload_n (x := 171) rfl rfl ?_
          refine zp_iload (x := (nI i)) rfl rfl ?_
          refine zp_iload (x := (nI 0)) rfl rfl ?_
          refine zp_ifT (tgt := 156) rfl rfl (by decide +kernel) ?_
          refine zp_iconst (v := (-1)) rfl (by decide +kernel) ?_
          refine zq_virt hS rfl rfl (by first | assumption | exact ⟨by decide, rfl⟩) rfl (s_Mod_goesOn (mt := none) hS hst2 hj.1 (by omega) (l' h2 hG2) hci hsi (fun h3 hG3 hst3 => ?_))
          show zp_wp X y_Mod_replays 160 [.ref 171, .int sel, .int (zf_b mend), .int (nI (st.2.1 + cond (v_ismd none) 1 0)), .int (nI i), .int x, .int (nI 0)] [] h3 Q
          refine zp_iincN_4 rfl rfl ?_
          refine zp_goto (tgt := 24) rfl rfl ?_
          exact go h3 hG3 hst3 _ _
        | some z =>
          have hz := hz31 z rfl
          have h187 : ci h2 187 i = nI z := h187
          cases hmd : v_ismd (some z) with
          | true =>
            have hzz : z = 0 ∨ z = 100 := by simpa [v_ismd] using hmd
            rw [hmd] at go
            refine zp_aload_n (x := 171) rfl rfl ?_
            refine zq_getr (k9 := 187) hS rfl (by first | assumption | exact ⟨by decide, rfl⟩) rfl ?_
            refine zp_iload (x := (nI i)) rfl rfl ?_
            refine zq_iald hS rfl (by first | assumption | exact ⟨by decide, rfl⟩) (by omega) (by first | decide | omega) ?_
            rw [h187]
            refine zp_ifN_eq (tgt := 134) rfl rfl (by omega) (fun b119 => ?_) (fun b119 => ?_)
            · refine zp_iconst (v := (nI 1)) rfl (by decide +kernel) ?_
              refine zp_goto (tgt := 139) rfl rfl ?_
              refine zp_istore_6 rfl rfl ?_
              refine zp_aload_n (x := 171) rfl rfl ?_
              refine zp_iload (x := (nI i)) rfl rfl ?_
              refine zp_iload (x := (nI 1)) rfl rfl ?_
              refine zp_ifF (tgt := 156) rfl rfl (by decide +kernel) ?_
              refine zp_aload_n (x := 171) rfl rfl ?_
              refine zq_geti hS rfl (by first | assumption | exact ⟨by decide, rfl⟩) rfl ?_
              rw [h10]
              refine zp_goto (tgt := 157) rfl rfl ?_
              refine zq_virt hS rfl rfl (by first | assumption | exact ⟨by decide, rfl⟩) rfl (s_Mod_goesOn (mt := ad) hS hst2 hj.1 (by omega) (l' h2 hG2) hci hsi (fun h3 hG3 hst3 => ?_))
              show zp_wp X y_Mod_replays 160 [.ref 171, .int sel, .int (zf_b mend), .int (nI (st.2.1 + cond true 1 0)), .int (nI i), .int x, .int (nI 1)] [] h3 Q
              refine zp_iincN_4 rfl rfl ?_
              refine zp_goto (tgt := 24) rfl rfl ?_
              exact go h3 hG3 hst3 _ _
            · refine zp_aload_n (x := 171) rfl rfl ?_
              refine zq_getr (k9 := 187) hS rfl (by first | assumption | exact ⟨by decide, rfl⟩) rfl ?_
              refine zp_iload (x := (nI i)) rfl rfl ?_
              refine zq_iald hS rfl (by first | assumption | exact ⟨by decide, rfl⟩) (by omega) (by first | decide | omega) ?_
              rw [h187]
              refine zp_bipush (v := (nI 100)) rfl (by decide +kernel) ?_
              refine zp_icmpN_ne (tgt := 138) rfl rfl (by omega) (by omega) (fun b131 => ?_) (fun b131 => ?_)
              · omega
              · refine zp_iconst (v := (nI 1)) rfl (by decide +kernel) ?_
                refine zp_goto (tgt := 139) rfl rfl ?_
                refine zp_istore_6 rfl rfl ?_
                refine zp_aload_n (x := 171) rfl rfl ?_
                refine zp_iload (x := (nI i)) rfl rfl ?_
                refine zp_iload (x := (nI 1)) rfl rfl ?_
                refine zp_ifF (tgt := 156) rfl rfl (by decide +kernel) ?_
                refine zp_aload_n (x := 171) rfl rfl ?_
                refine zq_geti hS rfl (by first | assumption | exact ⟨by decide, rfl⟩) rfl ?_
                rw [h10]
                refine zp_goto (tgt := 157) rfl rfl ?_
                refine zq_virt hS rfl rfl (by first | assumption | exact ⟨by decide, rfl⟩) rfl (s_Mod_goesOn (mt := ad) hS hst2 hj.1 (by omega) (l' h2 hG2) hci hsi (fun h3 hG3 hst3 => ?_))
                show zp_wp X y_Mod_replays 160 [.ref 171, .int sel, .int (zf_b mend), .int (nI (st.2.1 + cond true 1 0)), .int (nI i), .int x, .int (nI 1)] [] h3 Q
                refine zp_iincN_4 rfl rfl ?_
                refine zp_goto (tgt := 24) rfl rfl ?_
                exact go h3 hG3 hst3 _ _
          | false =>
            have hzz : z ≠ 0 ∧ z ≠ 100 := by simpa [v_ismd] using hmd
            rw [hmd] at go
            refine zp_aload_n (x := 171) rfl rfl ?_
            refine zq_getr (k9 := 187) hS rfl (by first | assumption | exact ⟨by decide, rfl⟩) rfl ?_
            refine zp_iload (x := (nI i)) rfl rfl ?_
            refine zq_iald hS rfl (by first | assumption | exact ⟨by decide, rfl⟩) (by omega) (by first | decide | omega) ?_
            rw [h187]
            refine zp_ifN_eq (tgt := 134) rfl rfl (by omega) (fun b119 => ?_) (fun b119 => ?_)
            · omega
            · refine zp_aload_n (x := 171) rfl rfl ?_
              refine zq_getr (k9 := 187) hS rfl (by first | assumption | exact ⟨by decide, rfl⟩) rfl ?_
              refine zp_iload (x := (nI i)) rfl rfl ?_
              refine zq_iald hS rfl (by first | assumption | exact ⟨by decide, rfl⟩) (by omega) (by first | decide | omega) ?_
              rw [h187]
              refine zp_bipush (v := (nI 100)) rfl (by decide +kernel) ?_
              refine zp_icmpN_ne (tgt := 138) rfl rfl (by omega) (by omega) (fun b131 => ?_) (fun b131 => ?_)
              · refine zp_iconst (v := (nI 0)) rfl (by decide +kernel) ?_
                refine zp_istore_6 rfl rfl ?_
                refine zp_aload_n (x := 171) rfl rfl ?_
                refine zp_iload (x := (nI i)) rfl rfl ?_
                refine zp_iload (x := (nI 0)) rfl rfl ?_
                refine zp_ifT (tgt := 156) rfl rfl (by decide +kernel) ?_
                refine zp_iconst (v := (-1)) rfl (by decide +kernel) ?_
                refine zq_virt hS rfl rfl (by first | assumption | exact ⟨by decide, rfl⟩) rfl (s_Mod_goesOn (mt := none) hS hst2 hj.1 (by omega) (l' h2 hG2) hci hsi (fun h3 hG3 hst3 => ?_))
                show zp_wp X y_Mod_replays 160 [.ref 171, .int sel, .int (zf_b mend), .int (nI (st.2.1 + cond false 1 0)), .int (nI i), .int x, .int (nI 0)] [] h3 Q
                refine zp_iincN_4 rfl rfl ?_
                refine zp_goto (tgt := 24) rfl rfl ?_
                exact go h3 hG3 hst3 _ _
              · omega
      have hS := hG.1.1
      have hn' := n' h' hG
      cases hb : zb_t sel i with
      | false =>
        have hsel : v_sel sel mend (L i) i st = (none, st.1.2.1, none) := by unfold v_sel; rw [hb]; rfl
        rw [hsel] at m112
        dsimp only at m112
        refine zp_iload (x := (nI i)) rfl rfl ?_
        refine zp_aload_n (x := 171) rfl rfl ?_
        refine zq_geti hS rfl (by first | assumption | exact ⟨by decide, rfl⟩) rfl ?_
        rw [hn']
        refine zp_icmpN_ge (tgt := 166) rfl rfl (by omega) (by omega) (fun b30 => ?_) (fun b30 => ?_)
        · omega
        · refine zp_iload_n (x := sel) rfl rfl ?_
          refine zp_iload (x := (nI i)) rfl rfl ?_
          refine zp_ishr rfl rfl ?_
          refine zp_iconst (v := (nI 1)) rfl (by decide +kernel) ?_
          refine zp_iand rfl rfl ?_
          rw [zb_tn, hb]
          show zp_wp X y_Mod_replays 39 [.ref 171, .int sel, .int (zf_b mend), .int (nI st.2.1), .int (nI i), x, y] [.int (nI 0)] h' Q
          refine zp_iconst (v := (nI 1)) rfl (by decide +kernel) ?_
          refine zp_icT (tgt := 47) rfl rfl (by decide +kernel) ?_
          refine zp_iconst (v := (nI 0)) rfl (by decide +kernel) ?_
          refine zp_istore_5 rfl rfl ?_
          refine zp_aload_n (x := 171) rfl rfl ?_
          refine zq_getr (k9 := 187) hS rfl (by first | assumption | exact ⟨by decide, rfl⟩) rfl ?_
          refine zp_iload (x := (nI i)) rfl rfl ?_
          refine zp_iconst (v := (-1)) rfl (by decide +kernel) ?_
          refine zq_iast hS rfl (by first | assumption | exact ⟨by decide, rfl⟩) (by omega) (by decide) (fun hS57 => ?_)
          have hS := hS57
          refine zp_aload_n (x := 171) rfl rfl ?_
          refine zp_iconst (v := (-1)) rfl (by decide +kernel) ?_
          refine zq_put hS rfl (by first | assumption | exact ⟨by decide, rfl⟩) rfl rfl (fun hS60 => ?_)
          have hS := hS60
          refine zp_iload (x := (nI 0)) rfl rfl ?_
          refine zp_ifT (tgt := 112) rfl rfl (by decide +kernel) ?_
          refine m112 _ _ ((hG.tr (zr_G.zi (T := [183, 184, 185, 186, 187]) (by decide) (by decide) hS57) (fun _ q => q)).tr (zr_G.f10 (T := [183, 184, 185, 186, 187]) hS60) (fun _ q => q)) (zr_st.f ⟨by rw [zi_ne (by decide)]; exact hst.1, by rw [zi_ne (by decide)]; exact hst.2.1, by rw [zi_ne (by decide)]; exact hst.2.2.1, by rw [zi_ne (by decide)]; exact hst.2.2.2⟩) (zj_T.same hj) (zf_at9 hS60 zs_M rfl) (by rw [zf_ci (by decide), zi_at, pk_us]; rfl) (fun z hz => by cases hz) (fun j hj2 => ?_)
          rw [zf_ci (by decide), zi_at, pk_un (by omega)]
          exact hO j hj2
      | true =>
        have hsel : v_sel sel mend (L i) i st = (some (v_tryR mend st.1.1 st.1.2.1 st.1.2.2.1 st.1.2.2.2 (L i)).1, (v_tryR mend st.1.1 st.1.2.1 st.1.2.2.1 st.1.2.2.2 (L i)).2) := by unfold v_sel; rw [hb]; rfl
        have hjt := hj.tryR (mend := mend) hci
        have h101 := v_tryR_lt mend st.1.1 st.1.2.1 st.1.2.2.1 st.1.2.2.2 (L i)
        rw [hsel] at m112
        dsimp only at m112
        have s82 : ∀ h2, zr_G [183, 184, 185, 186, 187] h h2 → zr_st st.1.1 (v_tryR mend st.1.1 st.1.2.1 st.1.2.2.1 st.1.2.2.2 (L i)).2.1 st.1.2.2.1 st.1.2.2.2 h2 → cf h2 171 10 = zf_o (v_tryR mend st.1.1 st.1.2.1 st.1.2.2.1 st.1.2.2.2 (L i)).2.2 → ci h2 187 i = nI (v_tryR mend st.1.1 st.1.2.1 st.1.2.2.1 st.1.2.2.2 (L i)).1 → (∀ j, j < i → ci h2 187 j = zf_o (st.2.2 j)) → zp_wp X y_Mod_replays 82 [.ref 171, .int sel, .int (zf_b mend), .int (nI st.2.1), .int (nI i), .int (nI 1), y] [] h2 Q := by
          generalize v_tryR mend st.1.1 st.1.2.1 st.1.2.2.1 st.1.2.2.2 (L i) = t at *
          intro h2 hG2 hst2 h10 h187 hOj
          have hS := hG2.1.1
          cases hmd : v_ismd (some t.1) with
          | true =>
            have hzz : t.1 = 0 ∨ t.1 = 100 := by simpa [v_ismd] using hmd
            rw [hmd] at m112
            refine zp_iload_n (x := (nI st.2.1)) rfl rfl ?_
            refine zp_aload_n (x := 171) rfl rfl ?_
            refine zq_getr (k9 := 187) hS rfl (by first | assumption | exact ⟨by decide, rfl⟩) rfl ?_
            refine zp_iload (x := (nI i)) rfl rfl ?_
            refine zq_iald hS rfl (by first | assumption | exact ⟨by decide, rfl⟩) (by omega) (by first | decide | omega) ?_
            rw [h187]
            refine zp_ifN_eq (tgt := 105) rfl rfl (by omega) (fun b90 => ?_) (fun b90 => ?_)
            · refine zp_iconst (v := (nI 1)) rfl (by decide +kernel) ?_
              refine zp_goto (tgt := 110) rfl rfl ?_
              refine zp_iaddN rfl ?_
              refine zp_istore_n_3 rfl rfl ?_
              exact m112 h2 _ hG2 hst2 hjt h10 h187 (fun z hz => by cases hz; omega) hOj
            · refine zp_aload_n (x := 171) rfl rfl ?_
              refine zq_getr (k9 := 187) hS rfl (by first | assumption | exact ⟨by decide, rfl⟩) rfl ?_
              refine zp_iload (x := (nI i)) rfl rfl ?_
              refine zq_iald hS rfl (by first | assumption | exact ⟨by decide, rfl⟩) (by omega) (by first | decide | omega) ?_
              rw [h187]
              refine zp_bipush (v := (nI 100)) rfl (by decide +kernel) ?_
              refine zp_icmpN_ne (tgt := 109) rfl rfl (by omega) (by omega) (fun b102 => ?_) (fun b102 => ?_)
              · omega
              · refine zp_iconst (v := (nI 1)) rfl (by decide +kernel) ?_
                refine zp_goto (tgt := 110) rfl rfl ?_
                refine zp_iaddN rfl ?_
                refine zp_istore_n_3 rfl rfl ?_
                exact m112 h2 _ hG2 hst2 hjt h10 h187 (fun z hz => by cases hz; omega) hOj
          | false =>
            have hzz : t.1 ≠ 0 ∧ t.1 ≠ 100 := by simpa [v_ismd] using hmd
            rw [hmd] at m112
            refine zp_iload_n (x := (nI st.2.1)) rfl rfl ?_
            refine zp_aload_n (x := 171) rfl rfl ?_
            refine zq_getr (k9 := 187) hS rfl (by first | assumption | exact ⟨by decide, rfl⟩) rfl ?_
            refine zp_iload (x := (nI i)) rfl rfl ?_
            refine zq_iald hS rfl (by first | assumption | exact ⟨by decide, rfl⟩) (by omega) (by first | decide | omega) ?_
            rw [h187]
            refine zp_ifN_eq (tgt := 105) rfl rfl (by omega) (fun b90 => ?_) (fun b90 => ?_)
            · omega
            · refine zp_aload_n (x := 171) rfl rfl ?_
              refine zq_getr (k9 := 187) hS rfl (by first | assumption | exact ⟨by decide, rfl⟩) rfl ?_
              refine zp_iload (x := (nI i)) rfl rfl ?_
              refine zq_iald hS rfl (by first | assumption | exact ⟨by decide, rfl⟩) (by omega) (by first | decide | omega) ?_
              rw [h187]
              refine zp_bipush (v := (nI 100)) rfl (by decide +kernel) ?_
              refine zp_icmpN_ne (tgt := 109) rfl rfl (by omega) (by omega) (fun b102 => ?_) (fun b102 => ?_)
              · refine zp_iconst (v := (nI 0)) rfl (by decide +kernel) ?_
                refine zp_iaddN rfl ?_
                refine zp_istore_n_3 rfl rfl ?_
                exact m112 h2 _ hG2 hst2 hjt.none h10 h187 (fun z hz => by cases hz; omega) hOj
              · omega
        refine zp_iload (x := (nI i)) rfl rfl ?_
        refine zp_aload_n (x := 171) rfl rfl ?_
        refine zq_geti hS rfl (by first | assumption | exact ⟨by decide, rfl⟩) rfl ?_
        rw [hn']
        refine zp_icmpN_ge (tgt := 166) rfl rfl (by omega) (by omega) (fun b30 => ?_) (fun b30 => ?_)
        · omega
        · refine zp_iload_n (x := sel) rfl rfl ?_
          refine zp_iload (x := (nI i)) rfl rfl ?_
          refine zp_ishr rfl rfl ?_
          refine zp_iconst (v := (nI 1)) rfl (by decide +kernel) ?_
          refine zp_iand rfl rfl ?_
          rw [zb_tn, hb]
          show zp_wp X y_Mod_replays 39 [.ref 171, .int sel, .int (zf_b mend), .int (nI st.2.1), .int (nI i), x, y] [.int (nI 1)] h' Q
          refine zp_iconst (v := (nI 1)) rfl (by decide +kernel) ?_
          refine zp_icF (tgt := 47) rfl rfl (by decide +kernel) ?_
          refine zp_iconst (v := (nI 1)) rfl (by decide +kernel) ?_
          refine zp_goto (tgt := 48) rfl rfl ?_
          refine zp_istore_5 rfl rfl ?_
          refine zp_aload_n (x := 171) rfl rfl ?_
          refine zq_getr (k9 := 187) hS rfl (by first | assumption | exact ⟨by decide, rfl⟩) rfl ?_
          refine zp_iload (x := (nI i)) rfl rfl ?_
          refine zp_iconst (v := (-1)) rfl (by decide +kernel) ?_
          refine zq_iast hS rfl (by first | assumption | exact ⟨by decide, rfl⟩) (by omega) (by decide) (fun hS57 => ?_)
          have hS := hS57
          refine zp_aload_n (x := 171) rfl rfl ?_
          refine zp_iconst (v := (-1)) rfl (by decide +kernel) ?_
          refine zq_put hS rfl (by first | assumption | exact ⟨by decide, rfl⟩) rfl rfl (fun hS60 => ?_)
          have hS := hS60
          refine zp_iload (x := (nI 1)) rfl rfl ?_
          refine zp_ifF (tgt := 112) rfl rfl (by decide +kernel) ?_
          refine zp_aload_n (x := 171) rfl rfl ?_
          refine zq_getr (k9 := 187) hS rfl (by first | assumption | exact ⟨by decide, rfl⟩) rfl ?_
          refine zp_iload (x := (nI i)) rfl rfl ?_
          refine zp_aload_n (x := 171) rfl rfl ?_
          refine zp_iload (x := (nI i)) rfl rfl ?_
          refine zp_iload_n (x := (zf_b mend)) rfl rfl ?_
          refine zq_virt hS rfl rfl (by first | assumption | exact ⟨by decide, rfl⟩) rfl (s_Mod_tries (c := L i) hS (zr_st.f ⟨by rw [zi_ne (by decide)]; exact hst.1, by rw [zi_ne (by decide)]; exact hst.2.1, by rw [zi_ne (by decide)]; exact hst.2.2.1, by rw [zi_ne (by decide)]; exact hst.2.2.2⟩) hj (by omega) (by rw [zf_ci (by decide), zi_ne (by decide)]; exact l' h' hG i (by omega)) hci (fun h2 hG2 hV2 ha2 => ?_))
          have hG3 : zr_G [183, 184, 185, 186, 187] h h2 := ((hG.tr (zr_G.zi (T := [183, 184, 185, 186, 187]) (by decide) (by decide) hS57) (fun _ q => q)).tr (zr_G.f10 (T := [183, 184, 185, 186, 187]) hS60) (fun _ q => q)).tr hG2 (by decide)
          have c187 : ∀ j, j < i → ci h2 187 j = zf_o (st.2.2 j) := fun j hj2 => by rw [hG2.gi (by decide) (by decide), zf_ci (by decide), zi_at, pk_un (by omega)]; exact hO j hj2
          have c185 : zv_R st.1.1 (ci h2 185) := by rw [hG2.gi (by decide) (by decide), zf_ci (by decide), zi_ne (by decide)]; exact hst.1
          have c183 : zr_M st.1.2.2.1 12 (ci h2 183) := by rw [hG2.gi (by decide) (by decide), zf_ci (by decide), zi_ne (by decide)]; exact hst.2.2.1
          have c184 : zr_M st.1.2.2.2 40 (ci h2 184) := by rw [hG2.gi (by decide) (by decide), zf_ci (by decide), zi_ne (by decide)]; exact hst.2.2.2
          have hS := hG2.1.1
          show zp_wp X y_Mod_replays 81 [.ref 171, .int sel, .int (zf_b mend), .int (nI st.2.1), .int (nI i), .int (nI 1), y] [.int (nI ((v_tryR mend st.1.1 st.1.2.1 st.1.2.2.1 st.1.2.2.2 (L i)).1)), .int (nI i), .ref 187] h2 Q
          refine zq_iast hS rfl (by first | assumption | exact ⟨by decide, rfl⟩) (by omega) (by decide) (fun hS81 => ?_)
          have hS := hS81
          refine s82 _ (hG3.tr (zr_G.zi (T := [183, 184, 185, 186, 187]) (by decide) (by decide) hS81) (fun _ q => q)) ⟨by rw [zi_ne (by decide)]; exact c185, by rw [zi_ne (by decide)]; exact hV2, by rw [zi_ne (by decide)]; exact c183, by rw [zi_ne (by decide)]; exact c184⟩ (by rw [zi_cf (by decide)]; exact ha2) (by rw [zi_at, pk_us]) (fun j hj2 => ?_)
          rw [zi_at, pk_un (by omega)]
          exact c187 j hj2
  have hS0 := hS
  refine zp_aload_n (x := 171) rfl rfl ?_
  refine zp_aload_n (x := 171) rfl rfl ?_
  refine zq_getr (k9 := 186) hS rfl (by first | assumption | exact ⟨by decide, rfl⟩) rfl ?_
  refine zq_virt hS rfl rfl (by first | assumption | exact ⟨by decide, rfl⟩) rfl (s_Mod_matches (V := B) (W := TG) hS ⟨by decide, rfl⟩ hb hW.B hT hW2.B (fun h2 hG2 hC hM hCl hMl => ?_))
  have hS := hG2.1.1
  show zp_wp X y_Mod_replays 8 [.ref 171, .int sel, .int (zf_b mend), zm_mk, zm_mk, zm_mk, zm_mk] [] h2 Q
  refine zp_aload_n (x := 171) rfl rfl ?_
  refine zq_getr (k9 := 174) hS rfl (by first | assumption | exact ⟨by decide, rfl⟩) rfl ?_
  refine zp_aload_n (x := 171) rfl rfl ?_
  refine zq_getr (k9 := 185) hS rfl (by first | assumption | exact ⟨by decide, rfl⟩) rfl ?_
  refine zp_call rfl rfl (s_Mod_copies hS ⟨by decide, rfl⟩ ⟨by decide, rfl⟩ (by decide) (fun h3 hS3 he3 hc3 => ?_))
  show zp_wp X y_Mod_replays 19 [.ref 171, .int sel, .int (zf_b mend), zm_mk, zm_mk, zm_mk, zm_mk] [] h3 Q
  refine zp_iconst (v := (nI 0)) rfl (by decide +kernel) ?_
  refine zp_istore_n_3 rfl rfl ?_
  refine zp_iconst (v := (nI 0)) rfl (by decide +kernel) ?_
  refine zp_istore_4 rfl rfl ?_
  refine lp n 0 ((B, TG, v_mC B TG, v_mM B TG), 0, fun _ => none) h3 _ _ (by omega) rfl (zj_0 hW hW2) (((zr_G.rf (T := [183, 184, 185, 186, 187]) hS0).tr hG2 (by decide)).tr (zr_G.cp (T := [183, 184, 185, 186, 187]) hS3 he3 (by decide) (by decide)) (fun _ q => q)) ⟨?_, ?_, ?_, ?_⟩ (fun j hj => absurd hj (by omega)) (Nat.le_refl _) rfl
  · exact zv_R.cp (by rw [hG2.gi (by decide) (by decide)]; exact hb) hc3
  · rw [he3.gi (by decide), hG2.gi (by decide) (by decide)]; exact hT
  · rw [he3.gi (by decide)]; exact hC
  · rw [he3.gi (by decide)]; exact hM
/-! replay, forecast, outcome -/
def z_replay (s : zst) (sel : Int32) (mend : Bool) : Nat × Int32 × zst := cond (g_sel (g_n s) sel) (0, nI (v_rp sel mend (g_b s) (g_1 s) (g_L s) (g_n s)).2.1, ((g_b s, g_0 s, (v_rp sel mend (g_b s) (g_1 s) (g_L s) (g_n s)).1.2.1), (g_L s, g_n s), g_n s, fun i => zf_o ((v_rp sel mend (g_b s) (g_1 s) (g_L s) (g_n s)).2.2 i))) (1, nI 0, s)
def z_forecast (s : zst) (sel : Int32) (mend : Bool) : Nat × Int32 × zst := cond (g_sel (g_n s) sel) (0, nI (v_rp sel mend (g_b s) (g_1 s) (g_L s) (g_n s)).2.1, s) (1, nI 0, s)
def z_outcome (s : zst) (i : Int32) : Nat × Int32 × zst := cond (g_lt (g_k s) i) (0, g_O s (i2n i), s) (1, nI 0, s)
theorem s_Mod_forecast {sel : Int32} {mend : Bool} (hs : zr_S s h) (hB : zr_B s) (hW : zv_W (g_b s)) (hW1 : zv_W (g_1 s)) (hc : ∀ i, i < g_n s → zc_leg (g_L s i)) (hk : ∀ i, i < g_n s → (v_mk (v_go (g_b s) (g_L s) i) (g_L s i)).1 = 0) (hq : ∀ h', zr_D (z_forecast s sel mend).2.2 (z_forecast s sel mend).1 h h' → Q (.inl (some (.int (z_forecast s sel mend).2.1))) h') : zp_wm X y_Mod_forecast [.ref 171, .int sel, .int (zf_b mend)] h Q := by
  have hS := hs.1
  have hn := hs.2.2.2.1
  unfold z_forecast at hq
  show zp_wp X y_Mod_forecast 0 [.ref 171, .int sel, .int (zf_b mend)] [] h Q
  cases hx : g_sel (g_n s) sel with
  | false =>
    rw [hx] at hq
    refine zp_aload_n (x := 171) rfl rfl ?_
    refine zp_iconst (v := (nI 0)) rfl (by decide +kernel) ?_
    refine zq_put hS rfl (by first | assumption | exact ⟨by decide, rfl⟩) rfl rfl (fun hS2 => ?_)
    have hS := hS2
    refine zp_aload_n (x := 171) rfl rfl ?_
    refine zp_iload_n (x := sel) rfl rfl ?_
    refine zq_virt hS rfl rfl (by first | assumption | exact ⟨by decide, rfl⟩) rfl (s_Mod_isSelection (n := g_n s) hS (by rw [zf_nj (by decide)]; exact hn) ?_)
    rw [hx]
    show zp_wp X y_Mod_forecast 10 [.ref 171, .int sel, .int (zf_b mend)] [.int (nI 0)] (zf_put h 171 9 (nI 0)) Q
    refine zp_ifF (tgt := 19) rfl rfl (by decide +kernel) ?_
    refine zp_aload_n (x := 171) rfl rfl ?_
    refine zp_iconst (v := (nI 1)) rfl (by decide +kernel) ?_
    refine zq_virt hS rfl rfl (by first | assumption | exact ⟨by decide, rfl⟩) rfl (s_Mod_fails hS (fun hS3 => ?_))
    show zp_wp X y_Mod_forecast 18 [.ref 171, .int sel, .int (zf_b mend)] [.int (nI 0)] (zf_put (zf_put h 171 9 (nI 0)) 171 9 (nI 1)) Q
    refine zp_iret rfl rfl ?_
    exact hq _ (zr_9 hs hS hS3)
  | true =>
    rw [hx] at hq
    refine zp_aload_n (x := 171) rfl rfl ?_
    refine zp_iconst (v := (nI 0)) rfl (by decide +kernel) ?_
    refine zq_put hS rfl (by first | assumption | exact ⟨by decide, rfl⟩) rfl rfl (fun hS2 => ?_)
    have hS := hS2
    refine zp_aload_n (x := 171) rfl rfl ?_
    refine zp_iload_n (x := sel) rfl rfl ?_
    refine zq_virt hS rfl rfl (by first | assumption | exact ⟨by decide, rfl⟩) rfl (s_Mod_isSelection (n := g_n s) hS (by rw [zf_nj (by decide)]; exact hn) ?_)
    rw [hx]
    show zp_wp X y_Mod_forecast 10 [.ref 171, .int sel, .int (zf_b mend)] [.int (nI 1)] (zf_put h 171 9 (nI 0)) Q
    refine zp_ifT (tgt := 19) rfl rfl (by decide +kernel) ?_
    refine zp_aload_n (x := 171) rfl rfl ?_
    refine zq_getr (k9 := 173) hS rfl (by first | assumption | exact ⟨by decide, rfl⟩) rfl ?_
    refine zp_aload_n (x := 171) rfl rfl ?_
    refine zq_getr (k9 := 186) hS rfl (by first | assumption | exact ⟨by decide, rfl⟩) rfl ?_
    refine zp_call rfl rfl (s_Mod_copies hS ⟨by decide, rfl⟩ ⟨by decide, rfl⟩ (by decide) (fun h2 hS2 he2 hc2 => ?_))
    have hs1 := zr_hs9 hs hS
    have hG2 : zr_G [186] (zf_put h 171 9 (nI 0)) h2 := zr_G.cp hS2 he2 (by decide) (by decide)
    have h9 := zf_at9 (x := nI 0) hS zs_M (j := 9) rfl
    have hF0 : zr_F [] h (zf_put h 171 9 (nI 0)) := zr_F.f9 hS
    have hs2 : zr_S s h2 := hG2.1.S hs1 (by decide)
    have hS := hS2
    show zp_wp X y_Mod_forecast 30 [.ref 171, .int sel, .int (zf_b mend)] [] h2 Q
    refine zp_aload_n (x := 171) rfl rfl ?_
    refine zp_iload_n (x := sel) rfl rfl ?_
    refine zp_iload_n (x := (zf_b mend)) rfl rfl ?_
    refine zq_virt hS rfl rfl (by first | assumption | exact ⟨by decide, rfl⟩) rfl (s_Mod_replays (B := g_b s) (TG := g_1 s) (L := g_L s) (n := g_n s) (sel := sel) (mend := mend) hS hs2.2.1.2.2 hW (hs1.2.1.2.1.cp hc2) hW1 hs2.2.2.1 hs2.2.2.2.1 hB.2.2.1 hc hk (fun h3 hG3 hV3 hO3 => ?_))
    show zp_wp X y_Mod_forecast 36 [.ref 171, .int sel, .int (zf_b mend)] [.int (nI ((v_rp sel mend (g_b s) (g_1 s) (g_L s) (g_n s)).2.1))] h3 Q
    refine zp_iret rfl rfl ?_
    exact hq _ (((zr_G.tr (T := [183, 184, 185, 186, 187]) ((zr_G.rf hs1.1).tr hG2 (by decide)) hG3 (fun _ q => q))).D hs1 (by decide) (by decide) h9 hF0)
theorem s_Mod_replay {sel : Int32} {mend : Bool} (hs : zr_S s h) (hB : zr_B s) (hW : zv_W (g_b s)) (hW1 : zv_W (g_1 s)) (hc : ∀ i, i < g_n s → zc_leg (g_L s i)) (hk : ∀ i, i < g_n s → (v_mk (v_go (g_b s) (g_L s) i) (g_L s i)).1 = 0) (hq : ∀ h', zr_D (z_replay s sel mend).2.2 (z_replay s sel mend).1 h h' → Q (.inl (some (.int (z_replay s sel mend).2.1))) h') : zp_wm X y_Mod_replay [.ref 171, .int sel, .int (zf_b mend)] h Q := by
  have hS := hs.1
  have hn := hs.2.2.2.1
  have hn30 := hB.2.2.1
  unfold z_replay at hq
  show zp_wp X y_Mod_replay 0 [.ref 171, .int sel, .int (zf_b mend), zm_mk, zm_mk] [] h Q
  cases hx : g_sel (g_n s) sel with
  | false =>
    rw [hx] at hq
    refine zp_aload_n (x := 171) rfl rfl ?_
    refine zp_iconst (v := (nI 0)) rfl (by decide +kernel) ?_
    refine zq_put hS rfl (by first | assumption | exact ⟨by decide, rfl⟩) rfl rfl (fun hS2 => ?_)
    have hS := hS2
    refine zp_aload_n (x := 171) rfl rfl ?_
    refine zp_iload_n (x := sel) rfl rfl ?_
    refine zq_virt hS rfl rfl (by first | assumption | exact ⟨by decide, rfl⟩) rfl (s_Mod_isSelection (n := g_n s) hS (by rw [zf_nj (by decide)]; exact hn) ?_)
    rw [hx]
    show zp_wp X y_Mod_replay 10 [.ref 171, .int sel, .int (zf_b mend), zm_mk, zm_mk] [.int (nI 0)] (zf_put h 171 9 (nI 0)) Q
    refine zp_ifF (tgt := 19) rfl rfl (by decide +kernel) ?_
    refine zp_aload_n (x := 171) rfl rfl ?_
    refine zp_iconst (v := (nI 1)) rfl (by decide +kernel) ?_
    refine zq_virt hS rfl rfl (by first | assumption | exact ⟨by decide, rfl⟩) rfl (s_Mod_fails hS (fun hS3 => ?_))
    show zp_wp X y_Mod_replay 18 [.ref 171, .int sel, .int (zf_b mend), zm_mk, zm_mk] [.int (nI 0)] (zf_put (zf_put h 171 9 (nI 0)) 171 9 (nI 1)) Q
    refine zp_iret rfl rfl ?_
    exact hq _ (zr_9 hs hS hS3)
  | true =>
    rw [hx] at hq
    simp only [cond_true] at hq
    generalize hrp : v_rp sel mend (g_b s) (g_1 s) (g_L s) (g_n s) = R at hq
    have lp : ∀ k i h', i + k = g_n s → zs_H h' → zh_eq (fun x => 171 ≤ x ∧ x ≤ 188) h h' → cf h' 171 9 = nI 0 → cf h' 171 8 = nI (g_n s) → cf h' 171 20 = nI (g_n s) → zv_R (g_0 s) (ci h' 172) → zv_R R.1.2.1 (ci h' 173) → zv_R (g_b s) (ci h' 174) → zr_L (g_L s) (ci h' 178) → zr_O R.2.2 (g_n s) (ci h' 187) → zr_O R.2.2 i (ci h' 188) → zp_wp X y_Mod_replay 59 [.ref 171, .int sel, .int (zf_b mend), .int (nI R.2.1), .int (nI i)] [] h' Q := by
      intro k
      induction k with
      | zero =>
        intro i h' hi hS he c9 c8 c20 v0 v1 vb hL hO hO2
        have hi : i = g_n s := by omega
        subst hi
        refine zp_iload (x := (nI (g_n s))) rfl rfl ?_
        refine zp_aload_n (x := 171) rfl rfl ?_
        refine zq_geti hS rfl (by first | assumption | exact ⟨by decide, rfl⟩) rfl ?_
        rw [c8]
        refine zp_icmpN_ge (tgt := 88) rfl rfl (by omega) (by omega) (fun b65 => ?_) (fun b65 => ?_)
        · refine zp_iload_n (x := (nI R.2.1)) rfl rfl ?_
          refine zp_iret rfl rfl ?_
          exact hq _ ⟨⟨hS, ⟨v0, v1, vb⟩, hL, c8, Or.inr c20, hO2⟩, he, c9⟩
        · omega
      | succ k ih =>
        intro i h' hi hS he c9 c8 c20 v0 v1 vb hL hO hO2
        refine zp_iload (x := (nI i)) rfl rfl ?_
        refine zp_aload_n (x := 171) rfl rfl ?_
        refine zq_geti hS rfl (by first | assumption | exact ⟨by decide, rfl⟩) rfl ?_
        rw [c8]
        refine zp_icmpN_ge (tgt := 88) rfl rfl (by omega) (by omega) (fun b65 => ?_) (fun b65 => ?_)
        · omega
        · refine zp_aload_n (x := 171) rfl rfl ?_
          refine zq_getr (k9 := 188) hS rfl (by first | assumption | exact ⟨by decide, rfl⟩) rfl ?_
          refine zp_iload (x := (nI i)) rfl rfl ?_
          refine zp_aload_n (x := 171) rfl rfl ?_
          refine zq_getr (k9 := 187) hS rfl (by first | assumption | exact ⟨by decide, rfl⟩) rfl ?_
          refine zp_iload (x := (nI i)) rfl rfl ?_
          refine zq_iald hS rfl (by first | assumption | exact ⟨by decide, rfl⟩) (by omega) (by first | decide | omega) ?_
          rw [hO i (by omega)]
          refine zq_iast hS rfl (by first | assumption | exact ⟨by decide, rfl⟩) (by omega) (by decide) (fun hS81 => ?_)
          have hS := hS81
          refine zp_iincN_4 rfl rfl ?_
          refine zp_goto (tgt := 59) rfl rfl ?_
          refine ih (i + 1) _ (by omega) hS (he.zi (by decide)) (by rw [zi_cf (by decide)]; exact c9) (by rw [zi_cf (by decide)]; exact c8) (by rw [zi_cf (by decide)]; exact c20) (by rw [zi_ne (by decide)]; exact v0) (by rw [zi_ne (by decide)]; exact v1) (by rw [zi_ne (by decide)]; exact vb) (by rw [zi_ne (by decide)]; exact hL) (by rw [zi_ne (by decide)]; exact hO) ?_
          intro j hj
          rw [zi_at]
          by_cases e : j = i
          · subst e; rw [pk_us]
          · rw [pk_un e]; exact hO2 j (by omega)
    refine zp_aload_n (x := 171) rfl rfl ?_
    refine zp_iconst (v := (nI 0)) rfl (by decide +kernel) ?_
    refine zq_put hS rfl (by first | assumption | exact ⟨by decide, rfl⟩) rfl rfl (fun hS2 => ?_)
    have hS := hS2
    refine zp_aload_n (x := 171) rfl rfl ?_
    refine zp_iload_n (x := sel) rfl rfl ?_
    refine zq_virt hS rfl rfl (by first | assumption | exact ⟨by decide, rfl⟩) rfl (s_Mod_isSelection (n := g_n s) hS (by rw [zf_nj (by decide)]; exact hn) ?_)
    rw [hx]
    show zp_wp X y_Mod_replay 10 [.ref 171, .int sel, .int (zf_b mend), zm_mk, zm_mk] [.int (nI 1)] (zf_put h 171 9 (nI 0)) Q
    refine zp_ifT (tgt := 19) rfl rfl (by decide +kernel) ?_
    refine zp_aload_n (x := 171) rfl rfl ?_
    refine zq_getr (k9 := 173) hS rfl (by first | assumption | exact ⟨by decide, rfl⟩) rfl ?_
    refine zp_aload_n (x := 171) rfl rfl ?_
    refine zq_getr (k9 := 186) hS rfl (by first | assumption | exact ⟨by decide, rfl⟩) rfl ?_
    refine zp_call rfl rfl (s_Mod_copies hS ⟨by decide, rfl⟩ ⟨by decide, rfl⟩ (by decide) (fun h2 hS2 he2 hc2 => ?_))
    have hs1 := zr_hs9 hs hS
    have hG2 : zr_G [186] (zf_put h 171 9 (nI 0)) h2 := zr_G.cp hS2 he2 (by decide) (by decide)
    have h9 := zf_at9 (x := nI 0) hS zs_M (j := 9) rfl
    have hF0 : zr_F [] h (zf_put h 171 9 (nI 0)) := zr_F.f9 hS
    have hs2 : zr_S s h2 := hG2.1.S hs1 (by decide)
    have hS := hS2
    show zp_wp X y_Mod_replay 30 [.ref 171, .int sel, .int (zf_b mend), zm_mk, zm_mk] [] h2 Q
    refine zp_aload_n (x := 171) rfl rfl ?_
    refine zp_iload_n (x := sel) rfl rfl ?_
    refine zp_iload_n (x := (zf_b mend)) rfl rfl ?_
    refine zq_virt hS rfl rfl (by first | assumption | exact ⟨by decide, rfl⟩) rfl (s_Mod_replays (B := g_b s) (TG := g_1 s) (L := g_L s) (n := g_n s) (sel := sel) (mend := mend) hS hs2.2.1.2.2 hW (hs1.2.1.2.1.cp hc2) hW1 hs2.2.2.1 hs2.2.2.2.1 hn30 hc hk (fun h3 hG3 hV3 hO3 => ?_))
    have hD3 : zr_D s 0 h h3 := ((zr_G.tr (T := [183, 184, 185, 186, 187]) ((zr_G.rf hs1.1).tr hG2 (by decide)) hG3 (fun _ q => q))).D hs1 (by decide) (by decide) h9 hF0
    rw [hrp] at hV3 hO3 ⊢
    have hS := hG3.1.1
    show zp_wp X y_Mod_replay 36 [.ref 171, .int sel, .int (zf_b mend), zm_mk, zm_mk] [.int (nI R.2.1)] h3 Q
    refine zp_istore_n_3 rfl rfl ?_
    refine zp_aload_n (x := 171) rfl rfl ?_
    refine zq_getr (k9 := 186) hS rfl (by first | assumption | exact ⟨by decide, rfl⟩) rfl ?_
    refine zp_aload_n (x := 171) rfl rfl ?_
    refine zq_getr (k9 := 173) hS rfl (by first | assumption | exact ⟨by decide, rfl⟩) rfl ?_
    refine zp_call rfl rfl (s_Mod_copies hS ⟨by decide, rfl⟩ ⟨by decide, rfl⟩ (by decide) (fun h4 hS4 he4 hc4 => ?_))
    have c84 : cf h4 171 8 = nI (g_n s) := by rw [he4.gf (by decide)]; exact hD3.1.2.2.2.1
    have hS := hS4
    show zp_wp X y_Mod_replay 48 [.ref 171, .int sel, .int (zf_b mend), .int (nI R.2.1), zm_mk] [] h4 Q
    refine zp_aload_n (x := 171) rfl rfl ?_
    refine zp_aload_n (x := 171) rfl rfl ?_
    refine zq_geti hS rfl (by first | assumption | exact ⟨by decide, rfl⟩) rfl ?_
    rw [c84]
    refine zq_put hS rfl (by first | assumption | exact ⟨by decide, rfl⟩) rfl rfl (fun hS53 => ?_)
    have hS := hS53
    refine zp_iconst (v := (nI 0)) rfl (by decide +kernel) ?_
    refine zp_istore_4 rfl rfl ?_
    refine lp (g_n s) 0 _ (by omega) hS53 ((hD3.2.1.trans (he4.mono (fun x q => by rw [q]; decide))).zf (by decide)) ?_ ?_ (zf_at9 hS53 zs_M rfl) ?_ ?_ ?_ ?_ ?_ (fun j hj => absurd hj (by omega))
    · rw [zf_nj (by decide), he4.gf (by decide)]; exact hD3.2.2
    · rw [zf_nj (by decide)]; exact c84
    · rw [zf_ci (by decide), he4.gi (by decide)]; exact hD3.1.2.1.1
    · rw [zf_ci (by decide)]; exact hV3.cp hc4
    · rw [zf_ci (by decide), he4.gi (by decide)]; exact hD3.1.2.1.2.2
    · rw [zf_ci (by decide), he4.gi (by decide)]; exact hD3.1.2.2.1
    · rw [zf_ci (by decide), he4.gi (by decide)]; exact hO3
theorem s_Mod_outcome {i : Int32} (hs : zr_S s h) (hB : zr_B s) (hq : ∀ h', zr_D (z_outcome s i).2.2 (z_outcome s i).1 h h' → Q (.inl (some (.int (z_outcome s i).2.1))) h') : zp_wm X y_Mod_outcome [.ref 171, .int i] h Q := by
  have hS := hs.1
  have hk := hs.2.2.2.2.1
  have hk30 := hB.2.2.2
  unfold z_outcome at hq
  show zp_wp X y_Mod_outcome 0 [.ref 171, .int i] [] h Q
  cases hi : g_lt (g_k s) i with
  | false =>
    rw [hi] at hq
    rcases hk with ⟨hk0, hk⟩ | hk
    · refine zp_aload_n (x := 171) rfl rfl ?_
      refine zp_iconst (v := (nI 0)) rfl (by decide +kernel) ?_
      refine zq_put hS rfl (by first | assumption | exact ⟨by decide, rfl⟩) rfl rfl (fun hS2 => ?_)
      have hS := hS2
      refine zp_iload_n (x := i) rfl rfl ?_
      refine zp_iconst (v := (nI 0)) rfl (by decide +kernel) ?_
      refine zp_aload_n (x := 171) rfl rfl ?_
      refine zq_geti hS rfl (by first | assumption | exact ⟨by decide, rfl⟩) rfl ?_
      rw [zf_nj (by decide)]
      rw [hk]
      refine zp_iconst (v := (nI 1)) rfl (by decide +kernel) ?_
      refine zp_isub rfl rfl ?_
      refine zp_call rfl rfl (s_Mod_in ?_)
      rw [if_neg (fun q => by
        have q1 := Int32.le_iff_toInt_le.mp q.1
        have q2 := Int32.le_iff_toInt_le.mp q.2
        rw [show (-1 - nI 1 : Int32).toInt = -2 by decide +kernel] at q2
        rw [show (nI 0).toInt = 0 by decide +kernel] at q1
        omega)]
      show zp_wp X y_Mod_outcome 16 [.ref 171, .int i] [.int (nI 0)] (zf_put h 171 9 (nI 0)) Q
      refine zp_ifT (tgt := 28) rfl rfl (by decide +kernel) ?_
      refine zp_aload_n (x := 171) rfl rfl ?_
      refine zp_iconst (v := (nI 1)) rfl (by decide +kernel) ?_
      refine zq_virt hS rfl rfl (by first | assumption | exact ⟨by decide, rfl⟩) rfl (s_Mod_fails hS (fun hS3 => ?_))
      show zp_wp X y_Mod_outcome 33 [.ref 171, .int i] [.int (nI 0)] (zf_put (zf_put h 171 9 (nI 0)) 171 9 (nI 1)) Q
      refine zp_iret rfl rfl ?_
      exact hq _ (zr_9 hs hS hS3)
    · refine zp_aload_n (x := 171) rfl rfl ?_
      refine zp_iconst (v := (nI 0)) rfl (by decide +kernel) ?_
      refine zq_put hS rfl (by first | assumption | exact ⟨by decide, rfl⟩) rfl rfl (fun hS2 => ?_)
      have hS := hS2
      refine zp_iload_n (x := i) rfl rfl ?_
      refine zp_iconst (v := (nI 0)) rfl (by decide +kernel) ?_
      refine zp_aload_n (x := 171) rfl rfl ?_
      refine zq_geti hS rfl (by first | assumption | exact ⟨by decide, rfl⟩) rfl ?_
      rw [zf_nj (by decide)]
      rw [hk]
      refine zp_iconst (v := (nI 1)) rfl (by decide +kernel) ?_
      refine zp_isub rfl rfl ?_
      refine zp_call rfl rfl (s_Mod_in ?_)
      rw [g_lt_in (by omega) (by decide) (by decide), Nat.add_sub_cancel, hi]
      show zp_wp X y_Mod_outcome 16 [.ref 171, .int i] [.int (nI 0)] (zf_put h 171 9 (nI 0)) Q
      refine zp_ifT (tgt := 28) rfl rfl (by decide +kernel) ?_
      refine zp_aload_n (x := 171) rfl rfl ?_
      refine zp_iconst (v := (nI 1)) rfl (by decide +kernel) ?_
      refine zq_virt hS rfl rfl (by first | assumption | exact ⟨by decide, rfl⟩) rfl (s_Mod_fails hS (fun hS3 => ?_))
      show zp_wp X y_Mod_outcome 33 [.ref 171, .int i] [.int (nI 0)] (zf_put (zf_put h 171 9 (nI 0)) 171 9 (nI 1)) Q
      refine zp_iret rfl rfl ?_
      exact hq _ (zr_9 hs hS hS3)
  | true =>
    rw [hi] at hq
    obtain ⟨hi1, hi2⟩ := g_lt_n hi
    have hk : cf h 171 20 = nI (g_k s) := hk.elim (fun q => absurd q.1 (by omega)) id
    clear hi
    generalize i2n i = i' at *
    subst hi1
    refine zp_aload_n (x := 171) rfl rfl ?_
    refine zp_iconst (v := (nI 0)) rfl (by decide +kernel) ?_
    refine zq_put hS rfl (by first | assumption | exact ⟨by decide, rfl⟩) rfl rfl (fun hS2 => ?_)
    have hS := hS2
    refine zp_iload_n (x := (nI i')) rfl rfl ?_
    refine zp_iconst (v := (nI 0)) rfl (by decide +kernel) ?_
    refine zp_aload_n (x := 171) rfl rfl ?_
    refine zq_geti hS rfl (by first | assumption | exact ⟨by decide, rfl⟩) rfl ?_
    rw [zf_nj (by decide)]
    rw [hk]
    refine zp_iconst (v := (nI 1)) rfl (by decide +kernel) ?_
    refine zp_isub rfl rfl ?_
    refine zp_call rfl rfl (s_Mod_in ?_)
    rw [g_lt_in (by omega) (by decide) (by decide), Nat.add_sub_cancel, g_lt_i hi2 (by omega)]
    show zp_wp X y_Mod_outcome 16 [.ref 171, .int (nI i')] [.int (nI 1)] (zf_put h 171 9 (nI 0)) Q
    refine zp_ifF (tgt := 28) rfl rfl (by decide +kernel) ?_
    refine zp_aload_n (x := 171) rfl rfl ?_
    refine zq_getr (k9 := 188) hS rfl (by first | assumption | exact ⟨by decide, rfl⟩) rfl ?_
    refine zp_iload_n (x := (nI i')) rfl rfl ?_
    refine zq_iald hS rfl (by first | assumption | exact ⟨by decide, rfl⟩) (by omega) (by first | decide | omega) ?_
    rw [zf_ci (a := 171) (b := 188) (by decide)]
    rw [hs.2.2.2.2.2 i' hi2]
    refine zp_goto (tgt := 33) rfl rfl ?_
    refine zp_iret rfl rfl ?_
    exact hq _ ((zr_F.f9 (T := []) hS).D hs (by decide) (by decide) (zf_at9 hS zs_M rfl))
end ZR15
