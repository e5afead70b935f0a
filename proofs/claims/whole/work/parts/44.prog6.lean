/-! the class: uses, a change of a program, copying -/
def zq_C (r : Nat) : Prop := zs_O r 0 [none, none, none, none, none]
/-- the object r holds the change c -/
def zq_c (c : zch) (r : Nat) (h : zm_H) : Prop := cf h r 0 = nI c.1 ∧ cf h r 1 = nI c.2.1 ∧ cf h r 2 = nI c.2.2.1 ∧ cf h r 3 = nI c.2.2.2.1 ∧ cf h r 4 = nI c.2.2.2.2
theorem zq_c.eq {c : zch} {r : Nat} {S : Nat → Prop} {h h' : zm_H} (a : zq_c c r h) (e : zh_eq S h h') (hS : ¬ S r) : zq_c c r h' := by
  unfold zq_c
  rw [e.gf hS, e.gf hS, e.gf hS, e.gf hS, e.gf hS]
  exact a
section ZP6
variable {X : zm_X} {h : zm_H} {Q : zm_O → zm_H → Prop} {V W : zv} {p q : Nat}
theorem s_Prog_putUse {u t : Option Nat} (hS : zs_H h) (hA : zq_A p) (hP : zq_P V p h) (hW : zv_W V) (hu : ∀ i, u = some i → i < 40) (ht : ∀ i, t = some i → i < 40) (hq : ∀ h', zq_post (v_addU V u t).2.1 p h h' → Q (.inl (some (.int (nI (v_addU V u t).1)))) h') : zp_wm X y_Prog_putUse [.ref p, .int (zf_o u), .int (zf_o t)] h Q := by
  have hA' := hA
  obtain ⟨hA0, hA1, hA2, hA3, hA4, hA5, hA6⟩ := hA
  have hnu : v_nu V ≤ 60 := hW.2.2.2.2.2.2.2.2.2
  cases u with
  | none =>
    have hv : v_addU V none t = (2, V, none) := by cases t <;> rfl
    rw [hv] at hq
    show zp_wp X y_Prog_putUse 0 [.ref p, .int (-1), .int (zf_o t)] [] h Q
    refine zp_iload_n (x := (-1)) rfl rfl ?_
    refine zp_ifT (tgt := 8) rfl rfl (by decide +kernel) ?_
    refine zp_iconst (v := (nI 2)) rfl (by decide +kernel) ?_
    refine zp_iret rfl rfl ?_
    exact hq h (zq_same hS hP)
  | some u =>
    have hu1 := hu u rfl
    cases t with
    | none =>
      show zp_wp X y_Prog_putUse 0 [.ref p, .int (nI u), .int (-1)] [] h Q
      refine zp_iload_n (x := (nI u)) rfl rfl ?_
      refine zp_ifF (tgt := 8) rfl rfl (zc_lt (by omega)) ?_
      refine zp_iload_n (x := (-1)) rfl rfl ?_
      refine zp_ifF (tgt := 10) rfl rfl (by decide +kernel) ?_
      refine zp_iconst (v := (nI 2)) rfl (by decide +kernel) ?_
      refine zp_iret rfl rfl ?_
      exact hq h (zq_same hS hP)
    | some t =>
      have ht1 := ht t rfl
      show zp_wp X y_Prog_putUse 0 [.ref p, .int (nI u), .int (nI t)] [] h Q
      refine zp_iload_n (x := (nI u)) rfl rfl ?_
      refine zp_ifF (tgt := 8) rfl rfl (zc_lt (by omega)) ?_
      refine zp_iload_n (x := (nI t)) rfl rfl ?_
      refine zp_ifT (tgt := 10) rfl rfl (zc_ge (by omega)) ?_
      refine zp_aload_n (x := p) rfl rfl ?_
      refine zp_iload_n (x := (nI u)) rfl rfl ?_
      refine zp_iload_n (x := (nI t)) rfl rfl ?_
      refine zq_virt hS rfl rfl (by first | assumption | exact ⟨by decide, rfl⟩) rfl (s_Prog_isUse (u := some u) (t := some t) hS hA' hP hu ht ?_)
      rw [show v_uo V (some u) (some t) = v_us V u t from rfl]
      cases hx : v_us V u t with
      | false =>
        show zp_wp X y_Prog_putUse 16 [.ref p, .int (nI u), .int (nI t)] [.int (nI 0)] h Q
        refine zp_ifT (tgt := 21) rfl rfl (by decide +kernel) ?_
        refine zp_aload_n (x := p) rfl rfl ?_
        refine zq_virt hS rfl rfl (by first | assumption | exact ⟨by decide, rfl⟩) rfl (s_Prog_useCount hS hA' hP ?_)
        show zp_wp X y_Prog_putUse 25 [.ref p, .int (nI u), .int (nI t)] [.int (nI (v_nu V))] h Q
        refine zp_bipush (v := (nI 60)) rfl (by decide +kernel) ?_
        refine zp_icmpN_lt (tgt := 33) rfl rfl (by omega) (by omega) (fun b27 => ?_) (fun b27 => ?_)
        · refine zp_aload_n (x := p) rfl rfl ?_
          refine zq_getr (k9 := (p + 6)) hS rfl (by first | assumption | exact ⟨by decide, rfl⟩) rfl ?_
          refine zp_iload_n (x := (nI u)) rfl rfl ?_
          refine zp_dup2_ia rfl ?_
          refine zq_lald hS rfl (by first | assumption | exact ⟨by decide, rfl⟩) (by omega) (by first | decide | omega) ?_
          refine zp_lconst (v := lN 1) rfl rfl ?_
          refine zp_iload_n (x := (nI t)) rfl rfl ?_
          refine zp_lshl rfl rfl ?_
          refine zp_lor rfl rfl ?_
          refine zq_last hS rfl (by first | assumption | exact ⟨by decide, rfl⟩) (by omega) (by decide) (fun hS44 => ?_)
          have hS := hS44
          refine zp_iconst (v := (nI 0)) rfl (by decide +kernel) ?_
          refine zp_iret rfl rfl ?_
          have hv : v_addU V (some u) (some t) = (0, v_set5 V u t true, none) := by simp only [v_addU]; rw [hx, if_neg (by decide), if_neg (by omega)]
          rw [hv] at hq
          refine hq _ ⟨hS, zh_eq.rf.zj (by omega), ?_⟩
          refine ⟨fun c hc => ?_, fun c hc => ?_, fun c hc k hk => ?_, fun k hk => ?_, fun k hk => ?_, fun k hk j hj => ?_⟩
          · rw [zj_ci (by omega)]; exact hP.cn c hc
          · rw [zj_ci (by omega)]; exact hP.sp c hc
          · rw [zj_ci (by omega)]; exact hP.ab2 (V' := v_set5 V u t true) hW (fun _ => rfl) (fun _ => rfl) c hc k hk
          · rw [zj_ci (by omega)]; exact hP.mn k hk
          · rw [zj_ci (by omega)]; exact hP.ow k hk
          · rw [zj_at, w_u4]
            by_cases e : k = u
            · subst e
              simp only [vp_updL, if_true]
              rw [bl_or, hP.us k hk j hj, bl_1shl (by omega) hj]
              by_cases e2 : j = t
              · subst e2; simp [ht1]
              · rw [zb_ne e2, if_neg (fun q => e2 q.2), Bool.or_false]
            · simp only [vp_updL, if_neg e]; rw [if_neg (fun q => e q.1)]; exact hP.us k hk j hj
        · refine zp_bipush (v := (nI 9)) rfl (by decide +kernel) ?_
          refine zp_iret rfl rfl ?_
          have hv : v_addU V (some u) (some t) = (9, V, none) := by simp only [v_addU]; rw [hx, if_neg (by decide), if_pos (by omega)]
          rw [hv] at hq
          exact hq h (zq_same hS hP)
      | true =>
        show zp_wp X y_Prog_putUse 16 [.ref p, .int (nI u), .int (nI t)] [.int (nI 1)] h Q
        refine zp_ifF (tgt := 21) rfl rfl (by decide +kernel) ?_
        refine zp_iconst (v := (nI 1)) rfl (by decide +kernel) ?_
        refine zp_iret rfl rfl ?_
        have hv : v_addU V (some u) (some t) = (1, V, none) := by simp only [v_addU]; rw [hx]; rfl
        rw [hv] at hq
        exact hq h (zq_same hS hP)
theorem s_Prog_dropUse {u t : Option Nat} (hS : zs_H h) (hA : zq_A p) (hP : zq_P V p h) (hW : zv_W V) (hu : ∀ i, u = some i → i < 40) (ht : ∀ i, t = some i → i < 40) (hq : ∀ h', zq_post (v_remU V u t).2.1 p h h' → Q (.inl (some (.int (nI (v_remU V u t).1)))) h') : zp_wm X y_Prog_dropUse [.ref p, .int (zf_o u), .int (zf_o t)] h Q := by
  have hA' := hA
  obtain ⟨hA0, hA1, hA2, hA3, hA4, hA5, hA6⟩ := hA
  show zp_wp X y_Prog_dropUse 0 [.ref p, .int (zf_o u), .int (zf_o t)] [] h Q
  by_cases hz : v_uo V u t = true
  · obtain ⟨u, rfl⟩ : ∃ i, u = some i := by cases u with | some i => exact ⟨i, rfl⟩ | none => cases hz
    obtain ⟨t, rfl⟩ : ∃ i, t = some i := by cases t with | some i => exact ⟨i, rfl⟩ | none => cases hz
    have hu1 := hu u rfl
    have ht1 := ht t rfl
    have hz2 : v_us V u t = true := hz
    show zp_wp X y_Prog_dropUse 0 [.ref p, .int (nI u), .int (nI t)] [] h Q
    refine zp_aload_n (x := p) rfl rfl ?_
    refine zp_iload_n (x := (nI u)) rfl rfl ?_
    refine zp_iload_n (x := (nI t)) rfl rfl ?_
    refine zq_virt hS rfl rfl (by first | assumption | exact ⟨by decide, rfl⟩) rfl (s_Prog_isUse (u := some u) (t := some t) hS hA' hP hu ht ?_)
    rw [show v_uo V (some u) (some t) = true from hz]
    show zp_wp X y_Prog_dropUse 6 [.ref p, .int (nI u), .int (nI t)] [.int (nI 1)] h Q
    refine zp_ifT (tgt := 11) rfl rfl (by decide +kernel) ?_
    refine zp_aload_n (x := p) rfl rfl ?_
    refine zq_getr (k9 := (p + 6)) hS rfl (by first | assumption | exact ⟨by decide, rfl⟩) rfl ?_
    refine zp_iload_n (x := (nI u)) rfl rfl ?_
    refine zp_dup2_ia rfl ?_
    refine zq_lald hS rfl (by first | assumption | exact ⟨by decide, rfl⟩) (by omega) (by first | decide | omega) ?_
    refine zp_lconst (v := lN 1) rfl rfl ?_
    refine zp_iload_n (x := (nI t)) rfl rfl ?_
    refine zp_lshl rfl rfl ?_
    refine zp_ldc2 rfl ?_
    refine zp_lxor rfl rfl ?_
    refine zp_land rfl rfl ?_
    refine zq_last hS rfl (by first | assumption | exact ⟨by decide, rfl⟩) (by omega) (by decide) (fun hS26 => ?_)
    have hS := hS26
    refine zp_iconst (v := (nI 0)) rfl (by decide +kernel) ?_
    refine zp_iret rfl rfl ?_
    have hv : v_remU V (some u) (some t) = (0, v_set5 V u t false, none) := by simp only [v_remU]; rw [hz2]; rfl
    rw [hv] at hq
    refine hq _ ⟨hS, zh_eq.rf.zj (by omega), ?_⟩
    refine ⟨fun c hc => ?_, fun c hc => ?_, fun c hc k hk => ?_, fun k hk => ?_, fun k hk => ?_, fun k hk j hj => ?_⟩
    · rw [zj_ci (by omega)]; exact hP.cn c hc
    · rw [zj_ci (by omega)]; exact hP.sp c hc
    · rw [zj_ci (by omega)]; exact hP.ab2 (V' := v_set5 V u t false) hW (fun _ => rfl) (fun _ => rfl) c hc k hk
    · rw [zj_ci (by omega)]; exact hP.mn k hk
    · rw [zj_ci (by omega)]; exact hP.ow k hk
    · rw [zj_at, w_u4]
      by_cases e : k = u
      · subst e
        simp only [vp_updL, if_true]
        rw [bl_and, bl_xor, hP.us k hk j hj, bl_1shl (by omega) hj, bl_m1 j hj]
        by_cases e2 : j = t
        · subst e2; simp
        · rw [zb_ne e2, if_neg (fun q => e2 q.2)]; simp
      · simp only [vp_updL, if_neg e]; rw [if_neg (fun q => e q.1)]; exact hP.us k hk j hj
  · have hz : v_uo V u t = false := by cases e : v_uo V u t with | false => rfl | true => exact absurd e hz
    have hv : v_remU V u t = (2, V, none) := by
      cases u with
      | none => cases t <;> rfl
      | some u =>
        cases t with
        | none => rfl
        | some t => have hz : v_us V u t = false := hz; simp only [v_remU]; rw [hz]; rfl
    rw [hv] at hq
    refine zp_aload_n (x := p) rfl rfl ?_
    refine zp_iload_n (x := (zf_o u)) rfl rfl ?_
    refine zp_iload_n (x := (zf_o t)) rfl rfl ?_
    refine zq_virt hS rfl rfl (by first | assumption | exact ⟨by decide, rfl⟩) rfl (s_Prog_isUse hS hA' hP hu ht ?_)
    rw [hz]
    show zp_wp X y_Prog_dropUse 6 [.ref p, .int (zf_o u), .int (zf_o t)] [.int (nI 0)] h Q
    refine zp_ifF (tgt := 11) rfl rfl (by decide +kernel) ?_
    refine zp_iconst (v := (nI 2)) rfl (by decide +kernel) ?_
    refine zp_iret rfl rfl ?_
    exact hq h (zq_same hS hP)
theorem s_Prog_attempt {c : zch} {r : Nat} (hS : zs_H h) (hA : zq_A p) (hP : zq_P V p h) (hW : zv_W V) (hC : zq_C r) (hc : zq_c c r h) (hl : zc_leg c) (hq : ∀ h', zq_post (v_mk V c).2.1 p h h' → Q (.inl (some (.int (nI (v_mk V c).1)))) h') : zp_wm X y_Prog_attempt [.ref p, .ref r] h Q := by
  have hA' := hA
  have hA0 := hA.1
  have hC : zs_O r 0 [none, none, none, none, none] := hC
  obtain ⟨kind, a, m, b, n⟩ := c
  obtain ⟨h1, h2, h3, h4, h5⟩ := hl
  obtain ⟨c0, c1, c2, c3, c4⟩ := hc
  dsimp only at h1 h2 h3 h4 h5 c0 c1 c2 c3 c4
  unfold v_mk at hq
  dsimp only at hq
  show zp_wp X y_Prog_attempt 0 [.ref p, .ref r] [] h Q
  match kind, h1, h3, h4, h5, c0, hq with
  | 0, _, h3, h4, h5, c0, hq =>
    refine zp_aload_n (x := r) rfl rfl ?_
    refine zq_geti hS rfl (by first | assumption | exact ⟨by decide, rfl⟩) rfl ?_
    rw [c0]
    refine zp_switch (off := 52) (tgt := 56) rfl (by decide +kernel) (by decide +kernel) (by decide +kernel) rfl ?_
    refine zp_aload_n (x := p) rfl rfl ?_
    refine zp_aload_n (x := r) rfl rfl ?_
    refine zq_geti hS rfl (by first | assumption | exact ⟨by decide, rfl⟩) rfl ?_
    rw [c1]
    refine zq_virt hS rfl rfl (by first | assumption | exact ⟨by decide, rfl⟩) rfl (s_Prog_putClass hS hA' hP hW h2 (fun h2 hp => ?_))
    show zp_wp X y_Prog_attempt 64 [.ref p, .ref r] [.int (nI ((v_addC V (v_cls V a) a).1))] h2 Q
    refine zp_iret rfl rfl ?_
    exact hq _ hp
  | 1, _, h3, h4, h5, c0, hq =>
    refine zp_aload_n (x := r) rfl rfl ?_
    refine zq_geti hS rfl (by first | assumption | exact ⟨by decide, rfl⟩) rfl ?_
    rw [c0]
    refine zp_switch (off := 61) (tgt := 65) rfl (by decide +kernel) (by decide +kernel) (by decide +kernel) rfl ?_
    refine zp_aload_n (x := p) rfl rfl ?_
    refine zp_aload_n (x := r) rfl rfl ?_
    refine zq_geti hS rfl (by first | assumption | exact ⟨by decide, rfl⟩) rfl ?_
    rw [c1]
    refine zq_virt hS rfl rfl (by first | assumption | exact ⟨by decide, rfl⟩) rfl (s_Prog_dropClass hS hA' hP hW (by omega) (fun h2 hp => ?_))
    show zp_wp X y_Prog_attempt 73 [.ref p, .ref r] [.int (nI ((v_remC V (v_cls V a)).1))] h2 Q
    refine zp_iret rfl rfl ?_
    exact hq _ hp
  | 2, _, h3, h4, h5, c0, hq =>
    refine zp_aload_n (x := r) rfl rfl ?_
    refine zq_geti hS rfl (by first | assumption | exact ⟨by decide, rfl⟩) rfl ?_
    rw [c0]
    refine zp_switch (off := 70) (tgt := 74) rfl (by decide +kernel) (by decide +kernel) (by decide +kernel) rfl ?_
    refine zp_aload_n (x := p) rfl rfl ?_
    refine zp_aload_n (x := r) rfl rfl ?_
    refine zq_geti hS rfl (by first | assumption | exact ⟨by decide, rfl⟩) rfl ?_
    rw [c1]
    refine zp_aload_n (x := r) rfl rfl ?_
    refine zq_geti hS rfl (by first | assumption | exact ⟨by decide, rfl⟩) rfl ?_
    rw [c3]
    refine zq_virt hS rfl rfl (by first | assumption | exact ⟨by decide, rfl⟩) rfl (s_Prog_giveClassName hS hA' hP hW (by omega) (h4.1 (by omega)) (fun h2 hp => ?_))
    show zp_wp X y_Prog_attempt 86 [.ref p, .ref r] [.int (nI ((v_renC V (v_cls V a) b).1))] h2 Q
    refine zp_iret rfl rfl ?_
    exact hq _ hp
  | 3, _, h3, h4, h5, c0, hq =>
    have h4 := h4.2.1 rfl
    refine zp_aload_n (x := r) rfl rfl ?_
    refine zq_geti hS rfl (by first | assumption | exact ⟨by decide, rfl⟩) rfl ?_
    rw [c0]
    refine zp_switch (off := 83) (tgt := 87) rfl (by decide +kernel) (by decide +kernel) (by decide +kernel) rfl ?_
    refine zp_aload_n (x := p) rfl rfl ?_
    refine zp_aload_n (x := r) rfl rfl ?_
    refine zq_geti hS rfl (by first | assumption | exact ⟨by decide, rfl⟩) rfl ?_
    rw [c1]
    refine zp_aload_n (x := r) rfl rfl ?_
    refine zq_geti hS rfl (by first | assumption | exact ⟨by decide, rfl⟩) rfl ?_
    rw [c3]
    refine zq_virt hS rfl rfl (by first | assumption | exact ⟨by decide, rfl⟩) rfl (s_Prog_giveSuper hS hA' hP hW (by omega) (by omega) (fun h2 hp => ?_))
    show zp_wp X y_Prog_attempt 99 [.ref p, .ref r] [.int (nI ((v_supC V (v_cls V a) b).1))] h2 Q
    refine zp_iret rfl rfl ?_
    exact hq _ hp
  | 4, _, h3, h4, h5, c0, hq =>
    refine zp_aload_n (x := r) rfl rfl ?_
    refine zq_geti hS rfl (by first | assumption | exact ⟨by decide, rfl⟩) rfl ?_
    rw [c0]
    refine zp_switch (off := 96) (tgt := 100) rfl (by decide +kernel) (by decide +kernel) (by decide +kernel) rfl ?_
    refine zp_aload_n (x := p) rfl rfl ?_
    refine zp_aload_n (x := r) rfl rfl ?_
    refine zq_geti hS rfl (by first | assumption | exact ⟨by decide, rfl⟩) rfl ?_
    rw [c1]
    refine zp_aload_n (x := r) rfl rfl ?_
    refine zq_geti hS rfl (by first | assumption | exact ⟨by decide, rfl⟩) rfl ?_
    rw [c2]
    refine zq_virt hS rfl rfl (by first | assumption | exact ⟨by decide, rfl⟩) rfl (s_Prog_putMember hS hA' hP hW (by omega) (h3.2 (by omega)) (fun h2 hp => ?_))
    show zp_wp X y_Prog_attempt 112 [.ref p, .ref r] [.int (nI ((v_addM V (v_cls V a) m).1))] h2 Q
    refine zp_iret rfl rfl ?_
    exact hq _ hp
  | 5, _, h3, h4, h5, c0, hq =>
    refine zp_aload_n (x := r) rfl rfl ?_
    refine zq_geti hS rfl (by first | assumption | exact ⟨by decide, rfl⟩) rfl ?_
    rw [c0]
    refine zp_switch (off := 109) (tgt := 113) rfl (by decide +kernel) (by decide +kernel) (by decide +kernel) rfl ?_
    refine zp_aload_n (x := p) rfl rfl ?_
    refine zp_aload_n (x := r) rfl rfl ?_
    refine zq_geti hS rfl (by first | assumption | exact ⟨by decide, rfl⟩) rfl ?_
    rw [c1]
    refine zp_aload_n (x := r) rfl rfl ?_
    refine zq_geti hS rfl (by first | assumption | exact ⟨by decide, rfl⟩) rfl ?_
    rw [c2]
    refine zq_virt hS rfl rfl (by first | assumption | exact ⟨by decide, rfl⟩) rfl (s_Prog_dropMember hS hA' hP hW (by omega) (h3.2 (by omega)) (fun h2 hp => ?_))
    show zp_wp X y_Prog_attempt 125 [.ref p, .ref r] [.int (nI ((v_remM V (v_mem V (v_cls V a) m)).1))] h2 Q
    refine zp_iret rfl rfl ?_
    exact hq _ hp
  | 6, _, h3, h4, h5, c0, hq =>
    refine zp_aload_n (x := r) rfl rfl ?_
    refine zq_geti hS rfl (by first | assumption | exact ⟨by decide, rfl⟩) rfl ?_
    rw [c0]
    refine zp_switch (off := 122) (tgt := 126) rfl (by decide +kernel) (by decide +kernel) (by decide +kernel) rfl ?_
    refine zp_aload_n (x := p) rfl rfl ?_
    refine zp_aload_n (x := r) rfl rfl ?_
    refine zq_geti hS rfl (by first | assumption | exact ⟨by decide, rfl⟩) rfl ?_
    rw [c1]
    refine zp_aload_n (x := r) rfl rfl ?_
    refine zq_geti hS rfl (by first | assumption | exact ⟨by decide, rfl⟩) rfl ?_
    rw [c2]
    refine zp_aload_n (x := r) rfl rfl ?_
    refine zq_geti hS rfl (by first | assumption | exact ⟨by decide, rfl⟩) rfl ?_
    rw [c4]
    refine zq_virt hS rfl rfl (by first | assumption | exact ⟨by decide, rfl⟩) rfl (s_Prog_giveMemberName hS hA' hP hW (by omega) (h3.2 (by omega)) (h5.1 (by omega)) (fun h2 hp => ?_))
    show zp_wp X y_Prog_attempt 142 [.ref p, .ref r] [.int (nI ((v_renM V (v_cls V a) (v_mem V (v_cls V a) m) n).1))] h2 Q
    refine zp_iret rfl rfl ?_
    exact hq _ hp
  | 7, _, h3, h4, h5, c0, hq =>
    have h4 := h4.1 (by omega)
    refine zp_aload_n (x := r) rfl rfl ?_
    refine zq_geti hS rfl (by first | assumption | exact ⟨by decide, rfl⟩) rfl ?_
    rw [c0]
    refine zp_switch (off := 139) (tgt := 143) rfl (by decide +kernel) (by decide +kernel) (by decide +kernel) rfl ?_
    refine zp_aload_n (x := p) rfl rfl ?_
    refine zp_aload_n (x := r) rfl rfl ?_
    refine zq_geti hS rfl (by first | assumption | exact ⟨by decide, rfl⟩) rfl ?_
    rw [c1]
    refine zp_aload_n (x := r) rfl rfl ?_
    refine zq_geti hS rfl (by first | assumption | exact ⟨by decide, rfl⟩) rfl ?_
    rw [c2]
    refine zp_aload_n (x := r) rfl rfl ?_
    refine zq_geti hS rfl (by first | assumption | exact ⟨by decide, rfl⟩) rfl ?_
    rw [c3]
    refine zq_virt hS rfl rfl (by first | assumption | exact ⟨by decide, rfl⟩) rfl (s_Prog_giveOwner hS hA' hP hW (by omega) (h3.2 (by omega)) (by omega) (fun h2 hp => ?_))
    show zp_wp X y_Prog_attempt 159 [.ref p, .ref r] [.int (nI ((v_movM V (v_cls V a) (v_mem V (v_cls V a) m) (v_cls V b)).1))] h2 Q
    refine zp_iret rfl rfl ?_
    exact hq _ hp
  | 8, _, h3, h4, h5, c0, hq =>
    have h3 := h3.2 (by omega)
    have h4 := h4.1 (by omega)
    have h5 := h5.1 (by omega)
    refine zp_aload_n (x := r) rfl rfl ?_
    refine zq_geti hS rfl (by first | assumption | exact ⟨by decide, rfl⟩) rfl ?_
    rw [c0]
    refine zp_switch (off := 156) (tgt := 160) rfl (by decide +kernel) (by decide +kernel) (by decide +kernel) rfl ?_
    refine zp_aload_n (x := p) rfl rfl ?_
    refine zp_aload_n (x := p) rfl rfl ?_
    refine zp_aload_n (x := r) rfl rfl ?_
    refine zq_geti hS rfl (by first | assumption | exact ⟨by decide, rfl⟩) rfl ?_
    rw [c1]
    refine zp_aload_n (x := r) rfl rfl ?_
    refine zq_geti hS rfl (by first | assumption | exact ⟨by decide, rfl⟩) rfl ?_
    rw [c2]
    refine zq_virt hS rfl rfl (by first | assumption | exact ⟨by decide, rfl⟩) rfl (s_Prog_memberAt hS hA' hP hW (by omega) (by omega) (by omega) ?_)
    show zp_wp X y_Prog_attempt 173 [.ref p, .ref r] [.int (zf_o (v_mem V (v_cls V a) m)), .ref p] h Q
    refine zp_aload_n (x := p) rfl rfl ?_
    refine zp_aload_n (x := r) rfl rfl ?_
    refine zq_geti hS rfl (by first | assumption | exact ⟨by decide, rfl⟩) rfl ?_
    rw [c3]
    refine zp_aload_n (x := r) rfl rfl ?_
    refine zq_geti hS rfl (by first | assumption | exact ⟨by decide, rfl⟩) rfl ?_
    rw [c4]
    refine zq_virt hS rfl rfl (by first | assumption | exact ⟨by decide, rfl⟩) rfl (s_Prog_memberAt hS hA' hP hW (by omega) (by omega) (by omega) ?_)
    show zp_wp X y_Prog_attempt 185 [.ref p, .ref r] [.int (zf_o (v_mem V (v_cls V b) n)), .int (zf_o (v_mem V (v_cls V a) m)), .ref p] h Q
    refine zq_virt hS rfl rfl (by first | assumption | exact ⟨by decide, rfl⟩) rfl (s_Prog_putUse hS hA' hP hW v_mem_40 v_mem_40 (fun h2 hp => ?_))
    show zp_wp X y_Prog_attempt 188 [.ref p, .ref r] [.int (nI ((v_addU V (v_mem V (v_cls V a) m) (v_mem V (v_cls V b) n)).1))] h2 Q
    refine zp_iret rfl rfl ?_
    exact hq _ hp
  | 9, _, h3, h4, h5, c0, hq =>
    have h3 := h3.2 (by omega)
    have h4 := h4.1 (by omega)
    have h5 := h5.1 (by omega)
    refine zp_aload_n (x := r) rfl rfl ?_
    refine zq_geti hS rfl (by first | assumption | exact ⟨by decide, rfl⟩) rfl ?_
    rw [c0]
    refine zp_switchD (tgt := 189) rfl (by decide +kernel) rfl ?_
    refine zp_aload_n (x := p) rfl rfl ?_
    refine zp_aload_n (x := p) rfl rfl ?_
    refine zp_aload_n (x := r) rfl rfl ?_
    refine zq_geti hS rfl (by first | assumption | exact ⟨by decide, rfl⟩) rfl ?_
    rw [c1]
    refine zp_aload_n (x := r) rfl rfl ?_
    refine zq_geti hS rfl (by first | assumption | exact ⟨by decide, rfl⟩) rfl ?_
    rw [c2]
    refine zq_virt hS rfl rfl (by first | assumption | exact ⟨by decide, rfl⟩) rfl (s_Prog_memberAt hS hA' hP hW (by omega) (by omega) (by omega) ?_)
    show zp_wp X y_Prog_attempt 202 [.ref p, .ref r] [.int (zf_o (v_mem V (v_cls V a) m)), .ref p] h Q
    refine zp_aload_n (x := p) rfl rfl ?_
    refine zp_aload_n (x := r) rfl rfl ?_
    refine zq_geti hS rfl (by first | assumption | exact ⟨by decide, rfl⟩) rfl ?_
    rw [c3]
    refine zp_aload_n (x := r) rfl rfl ?_
    refine zq_geti hS rfl (by first | assumption | exact ⟨by decide, rfl⟩) rfl ?_
    rw [c4]
    refine zq_virt hS rfl rfl (by first | assumption | exact ⟨by decide, rfl⟩) rfl (s_Prog_memberAt hS hA' hP hW (by omega) (by omega) (by omega) ?_)
    show zp_wp X y_Prog_attempt 214 [.ref p, .ref r] [.int (zf_o (v_mem V (v_cls V b) n)), .int (zf_o (v_mem V (v_cls V a) m)), .ref p] h Q
    refine zq_virt hS rfl rfl (by first | assumption | exact ⟨by decide, rfl⟩) rfl (s_Prog_dropUse hS hA' hP hW v_mem_40 v_mem_40 (fun h2 hp => ?_))
    show zp_wp X y_Prog_attempt 217 [.ref p, .ref r] [.int (nI ((v_remU V (v_mem V (v_cls V a) m) (v_mem V (v_cls V b) n)).1))] h2 Q
    refine zp_iret rfl rfl ?_
    exact hq _ hp
  | k + 10, h1, _, _, _, _, _ => exact absurd h1 (by omega)
theorem zcp_at {α : Type} {f g : Nat → α} {n k : Nat} (hk : k < n) : va_cpy f g 0 0 n k = f k := by
  unfold va_cpy
  simp [hk]
theorem s_Prog_copyFrom (hS : zs_H h) (hA : zq_A p) (hB : zq_A q) (hP : zq_P W q h) (hpq : p + 6 < q ∨ q + 6 < p) (hq : ∀ h', zq_post W p h h' → Q (.inl none) h') : zp_wm X y_Prog_copyFrom [.ref p, .ref q] h Q := by
  obtain ⟨hA0, hA1, hA2, hA3, hA4, hA5, hA6⟩ := hA
  obtain ⟨hB0, hB1, hB2, hB3, hB4, hB5, hB6⟩ := hB
  show zp_wp X y_Prog_copyFrom 0 [.ref p, .ref q] [] h Q
  refine zp_aload_n (x := q) rfl rfl ?_
  refine zq_getr (k9 := (q + 1)) hS rfl (by first | assumption | exact ⟨by decide, rfl⟩) rfl ?_
  refine zp_iconst (v := (nI 0)) rfl (by decide +kernel) ?_
  refine zp_aload_n (x := p) rfl rfl ?_
  refine zq_getr (k9 := (p + 1)) hS rfl (by first | assumption | exact ⟨by decide, rfl⟩) rfl ?_
  refine zp_iconst (v := (nI 0)) rfl (by decide +kernel) ?_
  refine zp_bipush (v := (nI 12)) rfl (by decide +kernel) ?_
  refine zq_cpyi hS rfl (by first | assumption | exact ⟨by decide, rfl⟩) (by first | assumption | exact ⟨by decide, rfl⟩) (by omega) (by decide) (by omega) (fun hS12 => ?_)
  have hS := hS12
  refine zp_aload_n (x := q) rfl rfl ?_
  refine zq_getr (k9 := (q + 2)) hS rfl (by first | assumption | exact ⟨by decide, rfl⟩) rfl ?_
  refine zp_iconst (v := (nI 0)) rfl (by decide +kernel) ?_
  refine zp_aload_n (x := p) rfl rfl ?_
  refine zq_getr (k9 := (p + 2)) hS rfl (by first | assumption | exact ⟨by decide, rfl⟩) rfl ?_
  refine zp_iconst (v := (nI 0)) rfl (by decide +kernel) ?_
  refine zp_bipush (v := (nI 12)) rfl (by decide +kernel) ?_
  refine zq_cpyi hS rfl (by first | assumption | exact ⟨by decide, rfl⟩) (by first | assumption | exact ⟨by decide, rfl⟩) (by omega) (by decide) (by omega) (fun hS27 => ?_)
  have hS := hS27
  refine zp_aload_n (x := q) rfl rfl ?_
  refine zq_getr (k9 := (q + 3)) hS rfl (by first | assumption | exact ⟨by decide, rfl⟩) rfl ?_
  refine zp_iconst (v := (nI 0)) rfl (by decide +kernel) ?_
  refine zp_aload_n (x := p) rfl rfl ?_
  refine zq_getr (k9 := (p + 3)) hS rfl (by first | assumption | exact ⟨by decide, rfl⟩) rfl ?_
  refine zp_iconst (v := (nI 0)) rfl (by decide +kernel) ?_
  refine zp_bipush (v := (nI 12)) rfl (by decide +kernel) ?_
  refine zq_cpyi hS rfl (by first | assumption | exact ⟨by decide, rfl⟩) (by first | assumption | exact ⟨by decide, rfl⟩) (by omega) (by decide) (by omega) (fun hS42 => ?_)
  have hS := hS42
  refine zp_aload_n (x := q) rfl rfl ?_
  refine zq_getr (k9 := (q + 4)) hS rfl (by first | assumption | exact ⟨by decide, rfl⟩) rfl ?_
  refine zp_iconst (v := (nI 0)) rfl (by decide +kernel) ?_
  refine zp_aload_n (x := p) rfl rfl ?_
  refine zq_getr (k9 := (p + 4)) hS rfl (by first | assumption | exact ⟨by decide, rfl⟩) rfl ?_
  refine zp_iconst (v := (nI 0)) rfl (by decide +kernel) ?_
  refine zp_bipush (v := (nI 40)) rfl (by decide +kernel) ?_
  refine zq_cpyi hS rfl (by first | assumption | exact ⟨by decide, rfl⟩) (by first | assumption | exact ⟨by decide, rfl⟩) (by omega) (by decide) (by omega) (fun hS57 => ?_)
  have hS := hS57
  refine zp_aload_n (x := q) rfl rfl ?_
  refine zq_getr (k9 := (q + 5)) hS rfl (by first | assumption | exact ⟨by decide, rfl⟩) rfl ?_
  refine zp_iconst (v := (nI 0)) rfl (by decide +kernel) ?_
  refine zp_aload_n (x := p) rfl rfl ?_
  refine zq_getr (k9 := (p + 5)) hS rfl (by first | assumption | exact ⟨by decide, rfl⟩) rfl ?_
  refine zp_iconst (v := (nI 0)) rfl (by decide +kernel) ?_
  refine zp_bipush (v := (nI 40)) rfl (by decide +kernel) ?_
  refine zq_cpyi hS rfl (by first | assumption | exact ⟨by decide, rfl⟩) (by first | assumption | exact ⟨by decide, rfl⟩) (by omega) (by decide) (by omega) (fun hS72 => ?_)
  have hS := hS72
  refine zp_aload_n (x := q) rfl rfl ?_
  refine zq_getr (k9 := (q + 6)) hS rfl (by first | assumption | exact ⟨by decide, rfl⟩) rfl ?_
  refine zp_iconst (v := (nI 0)) rfl (by decide +kernel) ?_
  refine zp_aload_n (x := p) rfl rfl ?_
  refine zq_getr (k9 := (p + 6)) hS rfl (by first | assumption | exact ⟨by decide, rfl⟩) rfl ?_
  refine zp_iconst (v := (nI 0)) rfl (by decide +kernel) ?_
  refine zp_bipush (v := (nI 40)) rfl (by decide +kernel) ?_
  refine zq_cpyl hS rfl (by first | assumption | exact ⟨by decide, rfl⟩) (by first | assumption | exact ⟨by decide, rfl⟩) (by omega) (by decide) (by omega) (fun hS87 => ?_)
  have hS := hS87
  refine zp_vret rfl rfl ?_
  refine hq _ ⟨hS, ((((((zh_eq.rf.zi (by omega)).zi (by omega)).zi (by omega)).zi (by omega)).zi (by omega)).zj (by omega)), ?_⟩
  refine ⟨fun c hc => ?_, fun c hc => ?_, fun c hc k hk => ?_, fun k hk => ?_, fun k hk => ?_, fun k hk j hj => ?_⟩
  · rw [zj_ci (by omega), zi_ne (by omega), zi_ne (by omega), zi_ne (by omega), zi_ne (by omega), zi_at, zcp_at hc]; exact hP.cn c hc
  · rw [zj_ci (by omega), zi_ne (by omega), zi_ne (by omega), zi_ne (by omega), zi_at, zcp_at hc, zi_ne (by omega)]; exact hP.sp c hc
  · rw [zj_ci (by omega), zi_ne (by omega), zi_ne (by omega), zi_at, zcp_at hc, zi_ne (by omega), zi_ne (by omega)]; exact hP.ab c hc k hk
  · rw [zj_ci (by omega), zi_ne (by omega), zi_at, zcp_at hk, zi_ne (by omega), zi_ne (by omega), zi_ne (by omega)]; exact hP.mn k hk
  · rw [zj_ci (by omega), zi_at, zcp_at hk, zi_ne (by omega), zi_ne (by omega), zi_ne (by omega), zi_ne (by omega)]; exact hP.ow k hk
  · rw [zj_at, zcp_at hk, zi_cj (by omega), zi_cj (by omega), zi_cj (by omega), zi_cj (by omega), zi_cj (by omega)]; exact hP.us k hk j hj
end ZP6
