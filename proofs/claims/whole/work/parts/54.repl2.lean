/-! the class: a change is tried on the target -/
theorem v_old_mk {TG : zv} {pl : zch} (hW : zv_W TG) (hl : zc_leg pl) (hs : (v_mk TG pl).1 = 0) (hk : pl.1 = 0 ∨ pl.1 = 4) : v_old (v_mk TG pl).2.1 pl = (v_mk TG pl).2.2 := by
  have hW' := hW.mk hl
  rcases hk with hk | hk
  · obtain ⟨i, i1, i2, i3, i4⟩ := mk_add0 hl hk hs
    unfold v_old
    rw [if_pos hk, i1]
    exact (cls_iff hW').mpr ⟨i2, i4, by have := hl.2.1; omega⟩
  · obtain ⟨k, a, m, b, n⟩ := pl
    have hk : k = 4 := hk
    subst hk
    have hm : 97 ≤ m ∧ m ≤ 122 := hl.2.2.1.2 (Nat.le_refl 4)
    have hs : (v_addM TG (v_cls TG a) m).1 = 0 := hs
    cases hz : v_cls TG a with
    | none => rw [hz] at hs; cases hs
    | some c =>
      rw [hz] at hs
      obtain ⟨i, i1, i2, i3, i4, i5, i6⟩ := r4 hs
      have e : v_mk TG (4, a, m, b, n) = (0, v_set4 (v_set3 TG i m) i c, some i) := by show v_addM TG (v_cls TG a) m = _; rw [hz]; exact i6
      rw [e] at hW' ⊢
      show v_mem (v_set4 (v_set3 TG i m) i c) (v_cls (v_set4 (v_set3 TG i m) i c) a) m = some i
      refine (mem_iff hW' (by show m ≠ 0; omega)).mpr ⟨i1, ?_, ?_⟩
      · rw [w_32, w_22, if_pos rfl]
      · rw [w_30, w_33, if_pos rfl]; exact (v_cls_lt hz).2.1
theorem v_mnd (f k : Nat) : (f == 1 && k == 2 || f == 5 && (k == 4 || k == 6)) = decide ((f = 1 ∧ k = 2) ∨ (f = 5 ∧ (k = 4 ∨ k = 6))) := by
  rw [Bool.eq_iff_iff]
  simp only [Bool.or_eq_true, Bool.and_eq_true, beq_iff_eq, decide_eq_true_eq]
theorem v_mend_ne0 {TG : zv} {f : Nat} (hf : ¬ f = 0) : ∀ (k : Nat) (pl : zch), ¬ (v_mend TG f k pl).1 = 0
  | 0, _ => hf
  | k + 1, pl => by
    unfold v_mend
    by_cases e : (v_mk TG (v_adv pl)).1 = 0
    · rw [if_pos e]; exact fun q => absurd q (show ¬ 100 = 0 by decide)
    · rw [if_neg e]
      by_cases e2 : ¬ (v_mk TG (v_adv pl)).1 = 1 ∧ ¬ (v_mk TG (v_adv pl)).1 = 5
      · rw [if_pos e2]; exact e
      · rw [if_neg e2]; exact v_mend_ne0 hf k (v_adv pl)
section ZP14
variable {X : zm_X} {h : zm_H} {Q : zm_O → zm_H → Prop} {MV TG TG' : zv} {C M : Nat → Option Nat} {t r : Nat} {c d pl : zch}
theorem s_Repl_countsAsMade {f : Nat} (hS : zs_H h) (hp : zq_c pl 168 h) (hl : zc_leg pl) (hf : f < 10) (hq : Q (.inl (some (.int (zf_b (v_cnt pl f))))) h) : zp_wm X y_Repl_countsAsMade [.ref 155, .int (nI f)] h Q := by
  obtain ⟨kind, a, m, b, n⟩ := pl
  obtain ⟨h1, h2, h3, h4, h5⟩ := hl
  obtain ⟨c0, c1, c2, c3, c4⟩ := hp
  dsimp only at h1 h2 h3 h4 h5 c0 c1 c2 c3 c4
  show zp_wp X y_Repl_countsAsMade 0 [.ref 155, .int (nI f)] [] h Q
  match kind, h1, h3, h4, h5, c0, hq with
  | 0, _, h3, h4, h5, c0, hq =>
    have hv : v_cnt (0, a, m, b, n) f = (f == 1) := by simp [v_cnt]
    rw [hv] at hq
    refine zp_aload_n (x := 155) rfl rfl ?_
    refine zq_getr (k9 := 168) hS rfl (by first | assumption | exact ⟨by decide, rfl⟩) rfl ?_
    refine zq_geti hS rfl (by first | assumption | exact ⟨by decide, rfl⟩) rfl ?_
    rw [c0]
    refine zp_switch (off := 49) (tgt := 56) rfl (by decide +kernel) (by decide +kernel) (by decide +kernel) rfl ?_
    refine zp_iload_n (x := (nI f)) rfl rfl ?_
    refine zp_iconst (v := (nI 1)) rfl (by decide +kernel) ?_
    refine zp_icmpN_ne (tgt := 65) rfl rfl (by omega) (by omega) (fun b58 => ?_) (fun b58 => ?_)
    · refine zp_iconst (v := (nI 0)) rfl (by decide +kernel) ?_
      refine zp_zret rfl rfl (by decide) ?_
      first
      | (rw [zb_ne b58] at hq; exact hq)
      | (rw [zb_eq b58] at hq; exact hq)
    · refine zp_iconst (v := (nI 1)) rfl (by decide +kernel) ?_
      refine zp_goto (tgt := 66) rfl rfl ?_
      refine zp_zret rfl rfl (by decide) ?_
      first
      | (rw [zb_ne b58] at hq; exact hq)
      | (rw [zb_eq b58] at hq; exact hq)
  | 1, _, h3, h4, h5, c0, hq =>
    have hv : v_cnt (1, a, m, b, n) f = (false) := by simp [v_cnt]
    rw [hv] at hq
    refine zp_aload_n (x := 155) rfl rfl ?_
    refine zq_getr (k9 := 168) hS rfl (by first | assumption | exact ⟨by decide, rfl⟩) rfl ?_
    refine zq_geti hS rfl (by first | assumption | exact ⟨by decide, rfl⟩) rfl ?_
    rw [c0]
    refine zp_switch (off := 106) (tgt := 113) rfl (by decide +kernel) (by decide +kernel) (by decide +kernel) rfl ?_
    refine zp_iconst (v := (nI 0)) rfl (by decide +kernel) ?_
    refine zp_zret rfl rfl (by decide) ?_
    exact hq
  | 2, _, h3, h4, h5, c0, hq =>
    have hv : v_cnt (2, a, m, b, n) f = (a == b) := by simp [v_cnt]
    rw [hv] at hq
    refine zp_aload_n (x := 155) rfl rfl ?_
    refine zq_getr (k9 := 168) hS rfl (by first | assumption | exact ⟨by decide, rfl⟩) rfl ?_
    refine zq_geti hS rfl (by first | assumption | exact ⟨by decide, rfl⟩) rfl ?_
    rw [c0]
    refine zp_switch (off := 60) (tgt := 67) rfl (by decide +kernel) (by decide +kernel) (by decide +kernel) rfl ?_
    refine zp_aload_n (x := 155) rfl rfl ?_
    refine zq_getr (k9 := 168) hS rfl (by first | assumption | exact ⟨by decide, rfl⟩) rfl ?_
    refine zq_geti hS rfl (by first | assumption | exact ⟨by decide, rfl⟩) rfl ?_
    rw [c1]
    refine zp_aload_n (x := 155) rfl rfl ?_
    refine zq_getr (k9 := 168) hS rfl (by first | assumption | exact ⟨by decide, rfl⟩) rfl ?_
    refine zq_geti hS rfl (by first | assumption | exact ⟨by decide, rfl⟩) rfl ?_
    rw [c3]
    refine zp_icmpN_ne (tgt := 88) rfl rfl (by omega) (by omega) (fun b81 => ?_) (fun b81 => ?_)
    · refine zp_iconst (v := (nI 0)) rfl (by decide +kernel) ?_
      refine zp_zret rfl rfl (by decide) ?_
      first
      | (rw [zb_ne b81] at hq; exact hq)
      | (rw [zb_eq b81] at hq; exact hq)
    · refine zp_iconst (v := (nI 1)) rfl (by decide +kernel) ?_
      refine zp_goto (tgt := 89) rfl rfl ?_
      refine zp_zret rfl rfl (by decide) ?_
      first
      | (rw [zb_ne b81] at hq; exact hq)
      | (rw [zb_eq b81] at hq; exact hq)
  | 3, _, h3, h4, h5, c0, hq =>
    have hv : v_cnt (3, a, m, b, n) f = (false) := by simp [v_cnt]
    rw [hv] at hq
    refine zp_aload_n (x := 155) rfl rfl ?_
    refine zq_getr (k9 := 168) hS rfl (by first | assumption | exact ⟨by decide, rfl⟩) rfl ?_
    refine zq_geti hS rfl (by first | assumption | exact ⟨by decide, rfl⟩) rfl ?_
    rw [c0]
    refine zp_switch (off := 106) (tgt := 113) rfl (by decide +kernel) (by decide +kernel) (by decide +kernel) rfl ?_
    refine zp_iconst (v := (nI 0)) rfl (by decide +kernel) ?_
    refine zp_zret rfl rfl (by decide) ?_
    exact hq
  | 4, _, h3, h4, h5, c0, hq =>
    have hv : v_cnt (4, a, m, b, n) f = (f == 1) := by simp [v_cnt]
    rw [hv] at hq
    refine zp_aload_n (x := 155) rfl rfl ?_
    refine zq_getr (k9 := 168) hS rfl (by first | assumption | exact ⟨by decide, rfl⟩) rfl ?_
    refine zq_geti hS rfl (by first | assumption | exact ⟨by decide, rfl⟩) rfl ?_
    rw [c0]
    refine zp_switch (off := 49) (tgt := 56) rfl (by decide +kernel) (by decide +kernel) (by decide +kernel) rfl ?_
    refine zp_iload_n (x := (nI f)) rfl rfl ?_
    refine zp_iconst (v := (nI 1)) rfl (by decide +kernel) ?_
    refine zp_icmpN_ne (tgt := 65) rfl rfl (by omega) (by omega) (fun b58 => ?_) (fun b58 => ?_)
    · refine zp_iconst (v := (nI 0)) rfl (by decide +kernel) ?_
      refine zp_zret rfl rfl (by decide) ?_
      first
      | (rw [zb_ne b58] at hq; exact hq)
      | (rw [zb_eq b58] at hq; exact hq)
    · refine zp_iconst (v := (nI 1)) rfl (by decide +kernel) ?_
      refine zp_goto (tgt := 66) rfl rfl ?_
      refine zp_zret rfl rfl (by decide) ?_
      first
      | (rw [zb_ne b58] at hq; exact hq)
      | (rw [zb_eq b58] at hq; exact hq)
  | 5, _, h3, h4, h5, c0, hq =>
    have hv : v_cnt (5, a, m, b, n) f = (false) := by simp [v_cnt]
    rw [hv] at hq
    refine zp_aload_n (x := 155) rfl rfl ?_
    refine zq_getr (k9 := 168) hS rfl (by first | assumption | exact ⟨by decide, rfl⟩) rfl ?_
    refine zq_geti hS rfl (by first | assumption | exact ⟨by decide, rfl⟩) rfl ?_
    rw [c0]
    refine zp_switch (off := 106) (tgt := 113) rfl (by decide +kernel) (by decide +kernel) (by decide +kernel) rfl ?_
    refine zp_iconst (v := (nI 0)) rfl (by decide +kernel) ?_
    refine zp_zret rfl rfl (by decide) ?_
    exact hq
  | 6, _, h3, h4, h5, c0, hq =>
    have hv : v_cnt (6, a, m, b, n) f = (m == n) := by simp [v_cnt]
    rw [hv] at hq
    refine zp_aload_n (x := 155) rfl rfl ?_
    refine zq_getr (k9 := 168) hS rfl (by first | assumption | exact ⟨by decide, rfl⟩) rfl ?_
    refine zq_geti hS rfl (by first | assumption | exact ⟨by decide, rfl⟩) rfl ?_
    rw [c0]
    refine zp_switch (off := 83) (tgt := 90) rfl (by decide +kernel) (by decide +kernel) (by decide +kernel) rfl ?_
    refine zp_aload_n (x := 155) rfl rfl ?_
    refine zq_getr (k9 := 168) hS rfl (by first | assumption | exact ⟨by decide, rfl⟩) rfl ?_
    refine zq_geti hS rfl (by first | assumption | exact ⟨by decide, rfl⟩) rfl ?_
    rw [c2]
    refine zp_aload_n (x := 155) rfl rfl ?_
    refine zq_getr (k9 := 168) hS rfl (by first | assumption | exact ⟨by decide, rfl⟩) rfl ?_
    refine zq_geti hS rfl (by first | assumption | exact ⟨by decide, rfl⟩) rfl ?_
    rw [c4]
    refine zp_icmpN_ne (tgt := 111) rfl rfl (by omega) (by omega) (fun b104 => ?_) (fun b104 => ?_)
    · refine zp_iconst (v := (nI 0)) rfl (by decide +kernel) ?_
      refine zp_zret rfl rfl (by decide) ?_
      first
      | (rw [zb_ne b104] at hq; exact hq)
      | (rw [zb_eq b104] at hq; exact hq)
    · refine zp_iconst (v := (nI 1)) rfl (by decide +kernel) ?_
      refine zp_goto (tgt := 112) rfl rfl ?_
      refine zp_zret rfl rfl (by decide) ?_
      first
      | (rw [zb_ne b104] at hq; exact hq)
      | (rw [zb_eq b104] at hq; exact hq)
  | 7, _, h3, h4, h5, c0, hq =>
    have hv : v_cnt (7, a, m, b, n) f = (f == 1) := by simp [v_cnt]
    rw [hv] at hq
    refine zp_aload_n (x := 155) rfl rfl ?_
    refine zq_getr (k9 := 168) hS rfl (by first | assumption | exact ⟨by decide, rfl⟩) rfl ?_
    refine zq_geti hS rfl (by first | assumption | exact ⟨by decide, rfl⟩) rfl ?_
    rw [c0]
    refine zp_switch (off := 49) (tgt := 56) rfl (by decide +kernel) (by decide +kernel) (by decide +kernel) rfl ?_
    refine zp_iload_n (x := (nI f)) rfl rfl ?_
    refine zp_iconst (v := (nI 1)) rfl (by decide +kernel) ?_
    refine zp_icmpN_ne (tgt := 65) rfl rfl (by omega) (by omega) (fun b58 => ?_) (fun b58 => ?_)
    · refine zp_iconst (v := (nI 0)) rfl (by decide +kernel) ?_
      refine zp_zret rfl rfl (by decide) ?_
      first
      | (rw [zb_ne b58] at hq; exact hq)
      | (rw [zb_eq b58] at hq; exact hq)
    · refine zp_iconst (v := (nI 1)) rfl (by decide +kernel) ?_
      refine zp_goto (tgt := 66) rfl rfl ?_
      refine zp_zret rfl rfl (by decide) ?_
      first
      | (rw [zb_ne b58] at hq; exact hq)
      | (rw [zb_eq b58] at hq; exact hq)
  | 8, _, h3, h4, h5, c0, hq =>
    have hv : v_cnt (8, a, m, b, n) f = (f == 1) := by simp [v_cnt]
    rw [hv] at hq
    refine zp_aload_n (x := 155) rfl rfl ?_
    refine zq_getr (k9 := 168) hS rfl (by first | assumption | exact ⟨by decide, rfl⟩) rfl ?_
    refine zq_geti hS rfl (by first | assumption | exact ⟨by decide, rfl⟩) rfl ?_
    rw [c0]
    refine zp_switch (off := 49) (tgt := 56) rfl (by decide +kernel) (by decide +kernel) (by decide +kernel) rfl ?_
    refine zp_iload_n (x := (nI f)) rfl rfl ?_
    refine zp_iconst (v := (nI 1)) rfl (by decide +kernel) ?_
    refine zp_icmpN_ne (tgt := 65) rfl rfl (by omega) (by omega) (fun b58 => ?_) (fun b58 => ?_)
    · refine zp_iconst (v := (nI 0)) rfl (by decide +kernel) ?_
      refine zp_zret rfl rfl (by decide) ?_
      first
      | (rw [zb_ne b58] at hq; exact hq)
      | (rw [zb_eq b58] at hq; exact hq)
    · refine zp_iconst (v := (nI 1)) rfl (by decide +kernel) ?_
      refine zp_goto (tgt := 66) rfl rfl ?_
      refine zp_zret rfl rfl (by decide) ?_
      first
      | (rw [zb_ne b58] at hq; exact hq)
      | (rw [zb_eq b58] at hq; exact hq)
  | 9, _, h3, h4, h5, c0, hq =>
    have hv : v_cnt (9, a, m, b, n) f = (false) := by simp [v_cnt]
    rw [hv] at hq
    refine zp_aload_n (x := 155) rfl rfl ?_
    refine zq_getr (k9 := 168) hS rfl (by first | assumption | exact ⟨by decide, rfl⟩) rfl ?_
    refine zq_geti hS rfl (by first | assumption | exact ⟨by decide, rfl⟩) rfl ?_
    rw [c0]
    refine zp_switchD (tgt := 113) rfl (by decide +kernel) rfl ?_
    refine zp_iconst (v := (nI 0)) rfl (by decide +kernel) ?_
    refine zp_zret rfl rfl (by decide) ?_
    exact hq
  | k + 10, h1, _, _, _, _, _ => exact absurd h1 (by omega)
theorem s_Repl_isMendable {f : Nat} (hS : zs_H h) (hp : zq_c pl 168 h) (hl : zc_leg pl) (hf : f < 10) (hq : Q (.inl (some (.int (zf_b (f == 1 && pl.1 == 2 || f == 5 && (pl.1 == 4 || pl.1 == 6)))))) h) : zp_wm X y_Repl_isMendable [.ref 155, .int (nI f)] h Q := by
  rw [v_mnd] at hq
  obtain ⟨k, a, m, b, n⟩ := pl
  obtain ⟨h1, h2, h3, h4, h5⟩ := hl
  obtain ⟨c0, c1, c2, c3, c4⟩ := hp
  dsimp only at h1 h2 h3 h4 h5 c0 c1 c2 c3 c4 hq
  show zp_wp X y_Repl_isMendable 0 [.ref 155, .int (nI f)] [] h Q
  refine zp_aload_n (x := 155) rfl rfl ?_
  refine zq_getr (k9 := 168) hS rfl (by first | assumption | exact ⟨by decide, rfl⟩) rfl ?_
  refine zq_geti hS rfl (by first | assumption | exact ⟨by decide, rfl⟩) rfl ?_
  rw [c0]
  refine zp_iconst (v := (nI 2)) rfl (by decide +kernel) ?_
  refine zp_icmpN_ne (tgt := 16) rfl rfl (by omega) (by omega) (fun b8 => ?_) (fun b8 => ?_)
  · refine zp_aload_n (x := 155) rfl rfl ?_
    refine zq_getr (k9 := 168) hS rfl (by first | assumption | exact ⟨by decide, rfl⟩) rfl ?_
    refine zq_geti hS rfl (by first | assumption | exact ⟨by decide, rfl⟩) rfl ?_
    rw [c0]
    refine zp_iconst (v := (nI 4)) rfl (by decide +kernel) ?_
    refine zp_icmpN_eq (tgt := 39) rfl rfl (by omega) (by omega) (fun b24 => ?_) (fun b24 => ?_)
    · refine zp_iload_n (x := (nI f)) rfl rfl ?_
      refine zp_iconst (v := (nI 5)) rfl (by decide +kernel) ?_
      refine zp_icmpN_ne (tgt := 48) rfl rfl (by omega) (by omega) (fun b41 => ?_) (fun b41 => ?_)
      · refine zp_iconst (v := (nI 0)) rfl (by decide +kernel) ?_
        refine zp_zret rfl rfl (by decide) ?_
        first
        | (rw [decide_eq_true (show (f = 1 ∧ k = 2) ∨ (f = 5 ∧ (k = 4 ∨ k = 6)) by omega)] at hq; exact hq)
        | (rw [decide_eq_false (show ¬ ((f = 1 ∧ k = 2) ∨ (f = 5 ∧ (k = 4 ∨ k = 6))) by omega)] at hq; exact hq)
      · refine zp_iconst (v := (nI 1)) rfl (by decide +kernel) ?_
        refine zp_goto (tgt := 49) rfl rfl ?_
        refine zp_zret rfl rfl (by decide) ?_
        first
        | (rw [decide_eq_true (show (f = 1 ∧ k = 2) ∨ (f = 5 ∧ (k = 4 ∨ k = 6)) by omega)] at hq; exact hq)
        | (rw [decide_eq_false (show ¬ ((f = 1 ∧ k = 2) ∨ (f = 5 ∧ (k = 4 ∨ k = 6))) by omega)] at hq; exact hq)
    · refine zp_aload_n (x := 155) rfl rfl ?_
      refine zq_getr (k9 := 168) hS rfl (by first | assumption | exact ⟨by decide, rfl⟩) rfl ?_
      refine zq_geti hS rfl (by first | assumption | exact ⟨by decide, rfl⟩) rfl ?_
      rw [c0]
      refine zp_bipush (v := (nI 6)) rfl (by decide +kernel) ?_
      refine zp_icmpN_ne (tgt := 48) rfl rfl (by omega) (by omega) (fun b36 => ?_) (fun b36 => ?_)
      · refine zp_iconst (v := (nI 0)) rfl (by decide +kernel) ?_
        refine zp_zret rfl rfl (by decide) ?_
        first
        | (rw [decide_eq_true (show (f = 1 ∧ k = 2) ∨ (f = 5 ∧ (k = 4 ∨ k = 6)) by omega)] at hq; exact hq)
        | (rw [decide_eq_false (show ¬ ((f = 1 ∧ k = 2) ∨ (f = 5 ∧ (k = 4 ∨ k = 6))) by omega)] at hq; exact hq)
      · refine zp_iload_n (x := (nI f)) rfl rfl ?_
        refine zp_iconst (v := (nI 5)) rfl (by decide +kernel) ?_
        refine zp_icmpN_ne (tgt := 48) rfl rfl (by omega) (by omega) (fun b41 => ?_) (fun b41 => ?_)
        · refine zp_iconst (v := (nI 0)) rfl (by decide +kernel) ?_
          refine zp_zret rfl rfl (by decide) ?_
          first
          | (rw [decide_eq_true (show (f = 1 ∧ k = 2) ∨ (f = 5 ∧ (k = 4 ∨ k = 6)) by omega)] at hq; exact hq)
          | (rw [decide_eq_false (show ¬ ((f = 1 ∧ k = 2) ∨ (f = 5 ∧ (k = 4 ∨ k = 6))) by omega)] at hq; exact hq)
        · refine zp_iconst (v := (nI 1)) rfl (by decide +kernel) ?_
          refine zp_goto (tgt := 49) rfl rfl ?_
          refine zp_zret rfl rfl (by decide) ?_
          first
          | (rw [decide_eq_true (show (f = 1 ∧ k = 2) ∨ (f = 5 ∧ (k = 4 ∨ k = 6)) by omega)] at hq; exact hq)
          | (rw [decide_eq_false (show ¬ ((f = 1 ∧ k = 2) ∨ (f = 5 ∧ (k = 4 ∨ k = 6))) by omega)] at hq; exact hq)
  · refine zp_iload_n (x := (nI f)) rfl rfl ?_
    refine zp_iconst (v := (nI 1)) rfl (by decide +kernel) ?_
    refine zp_icmpN_eq (tgt := 44) rfl rfl (by omega) (by omega) (fun b13 => ?_) (fun b13 => ?_)
    · refine zp_iconst (v := (nI 1)) rfl (by decide +kernel) ?_
      refine zp_goto (tgt := 49) rfl rfl ?_
      refine zp_zret rfl rfl (by decide) ?_
      first
      | (rw [decide_eq_true (show (f = 1 ∧ k = 2) ∨ (f = 5 ∧ (k = 4 ∨ k = 6)) by omega)] at hq; exact hq)
      | (rw [decide_eq_false (show ¬ ((f = 1 ∧ k = 2) ∨ (f = 5 ∧ (k = 4 ∨ k = 6))) by omega)] at hq; exact hq)
    · refine zp_aload_n (x := 155) rfl rfl ?_
      refine zq_getr (k9 := 168) hS rfl (by first | assumption | exact ⟨by decide, rfl⟩) rfl ?_
      refine zq_geti hS rfl (by first | assumption | exact ⟨by decide, rfl⟩) rfl ?_
      rw [c0]
      refine zp_iconst (v := (nI 4)) rfl (by decide +kernel) ?_
      refine zp_icmpN_eq (tgt := 39) rfl rfl (by omega) (by omega) (fun b24 => ?_) (fun b24 => ?_)
      · refine zp_iload_n (x := (nI f)) rfl rfl ?_
        refine zp_iconst (v := (nI 5)) rfl (by decide +kernel) ?_
        refine zp_icmpN_ne (tgt := 48) rfl rfl (by omega) (by omega) (fun b41 => ?_) (fun b41 => ?_)
        · refine zp_iconst (v := (nI 0)) rfl (by decide +kernel) ?_
          refine zp_zret rfl rfl (by decide) ?_
          first
          | (rw [decide_eq_true (show (f = 1 ∧ k = 2) ∨ (f = 5 ∧ (k = 4 ∨ k = 6)) by omega)] at hq; exact hq)
          | (rw [decide_eq_false (show ¬ ((f = 1 ∧ k = 2) ∨ (f = 5 ∧ (k = 4 ∨ k = 6))) by omega)] at hq; exact hq)
        · refine zp_iconst (v := (nI 1)) rfl (by decide +kernel) ?_
          refine zp_goto (tgt := 49) rfl rfl ?_
          refine zp_zret rfl rfl (by decide) ?_
          first
          | (rw [decide_eq_true (show (f = 1 ∧ k = 2) ∨ (f = 5 ∧ (k = 4 ∨ k = 6)) by omega)] at hq; exact hq)
          | (rw [decide_eq_false (show ¬ ((f = 1 ∧ k = 2) ∨ (f = 5 ∧ (k = 4 ∨ k = 6))) by omega)] at hq; exact hq)
      · refine zp_aload_n (x := 155) rfl rfl ?_
        refine zq_getr (k9 := 168) hS rfl (by first | assumption | exact ⟨by decide, rfl⟩) rfl ?_
        refine zq_geti hS rfl (by first | assumption | exact ⟨by decide, rfl⟩) rfl ?_
        rw [c0]
        refine zp_bipush (v := (nI 6)) rfl (by decide +kernel) ?_
        refine zp_icmpN_ne (tgt := 48) rfl rfl (by omega) (by omega) (fun b36 => ?_) (fun b36 => ?_)
        · refine zp_iconst (v := (nI 0)) rfl (by decide +kernel) ?_
          refine zp_zret rfl rfl (by decide) ?_
          first
          | (rw [decide_eq_true (show (f = 1 ∧ k = 2) ∨ (f = 5 ∧ (k = 4 ∨ k = 6)) by omega)] at hq; exact hq)
          | (rw [decide_eq_false (show ¬ ((f = 1 ∧ k = 2) ∨ (f = 5 ∧ (k = 4 ∨ k = 6))) by omega)] at hq; exact hq)
        · refine zp_iload_n (x := (nI f)) rfl rfl ?_
          refine zp_iconst (v := (nI 5)) rfl (by decide +kernel) ?_
          refine zp_icmpN_ne (tgt := 48) rfl rfl (by omega) (by omega) (fun b41 => ?_) (fun b41 => ?_)
          · refine zp_iconst (v := (nI 0)) rfl (by decide +kernel) ?_
            refine zp_zret rfl rfl (by decide) ?_
            first
            | (rw [decide_eq_true (show (f = 1 ∧ k = 2) ∨ (f = 5 ∧ (k = 4 ∨ k = 6)) by omega)] at hq; exact hq)
            | (rw [decide_eq_false (show ¬ ((f = 1 ∧ k = 2) ∨ (f = 5 ∧ (k = 4 ∨ k = 6))) by omega)] at hq; exact hq)
          · refine zp_iconst (v := (nI 1)) rfl (by decide +kernel) ?_
            refine zp_goto (tgt := 49) rfl rfl ?_
            refine zp_zret rfl rfl (by decide) ?_
            first
            | (rw [decide_eq_true (show (f = 1 ∧ k = 2) ∨ (f = 5 ∧ (k = 4 ∨ k = 6)) by omega)] at hq; exact hq)
            | (rw [decide_eq_false (show ¬ ((f = 1 ∧ k = 2) ∨ (f = 5 ∧ (k = 4 ∨ k = 6))) by omega)] at hq; exact hq)
theorem s_Repl_isTaken (hS : zs_H h) (hT : zq_A t) (hR : zq_R MV TG C M t h) (hW : zv_W TG) (hp : zq_c pl 168 h) (hl : zc_leg pl) (hq : Q (.inl (some (.int (zf_b (v_els TG C M pl))))) h) : zp_wm X y_Repl_isTaken [.ref 155, .ref t] h Q := by
  have t0 := hT.1
  obtain ⟨-, -, F, f1, f2, f3⟩ := hR.2.2.1
  obtain ⟨-, -, G, g1, g2, g3⟩ := hR.2.2.2
  have f1 : zr_M F 12 (ci h 165) := f1
  have g1 : zr_M G 40 (ci h 167) := g1
  obtain ⟨k, a, m, b, n⟩ := pl
  obtain ⟨h1, h2, h3, h4, h5⟩ := hl
  obtain ⟨c0, c1, c2, c3, c4⟩ := hp
  dsimp only at h1 h2 h3 h4 h5 c0 c1 c2 c3 c4
  show zp_wp X y_Repl_isTaken 0 [.ref 155, .ref t, zm_mk] [] h Q
  by_cases k0 : k = 0
  · subst k0
    have hv : v_els TG C M (0, a, m, b, n) = (match v_cls TG a with
      | none => false
      | some p => v_isM C 12 p) := by
      unfold v_els
      rw [show v_old TG (0, a, m, b, n) = v_cls TG a from rfl]
      cases v_cls TG a <;> rfl
    rw [hv] at hq
    refine zp_aload_n (x := 155) rfl rfl ?_
    refine zq_getr (k9 := 168) hS rfl (by first | assumption | exact ⟨by decide, rfl⟩) rfl ?_
    refine zq_geti hS rfl (by first | assumption | exact ⟨by decide, rfl⟩) rfl ?_
    rw [c0]
    refine zp_ifF (tgt := 44) rfl rfl (by decide +kernel) ?_
    refine zp_aload_n (x := t) rfl rfl ?_
    refine zp_aload_n (x := 155) rfl rfl ?_
    refine zq_getr (k9 := 168) hS rfl (by first | assumption | exact ⟨by decide, rfl⟩) rfl ?_
    refine zq_geti hS rfl (by first | assumption | exact ⟨by decide, rfl⟩) rfl ?_
    rw [c1]
    refine zq_virt hS rfl rfl (by first | assumption | exact ⟨by decide, rfl⟩) rfl (s_Prog_classAt hS hT hR.2.1 hW.B (by omega) ?_)
    cases hz : v_cls TG a with
    | none =>
      show zp_wp X y_Repl_isTaken 21 [.ref 155, .ref t, zm_mk] [.int (-1)] h Q
      refine zp_istore_n_2 rfl rfl ?_
      refine zp_iload_n (x := (-1)) rfl rfl ?_
      refine zp_ifT (tgt := 42) rfl rfl (by decide +kernel) ?_
      refine zp_iconst (v := (nI 0)) rfl (by decide +kernel) ?_
      refine zp_zret rfl rfl (by decide) ?_
      rw [hz] at hq
      first
      | (have e : v_isM C 12 s9 = true := by
           cases q : v_isM C 12 s9 with
           | true => rfl
           | false => rw [(f3.m f2 hs9).mpr q] at hF; cases hF
         simp only [e] at hq
         exact hq)
      | (simp only [(f3.m f2 hs9).mp hF] at hq; exact hq)
      | exact hq
    | some s9 =>
      have hs9 := (v_cls_lt hz).1
      show zp_wp X y_Repl_isTaken 21 [.ref 155, .ref t, zm_mk] [.int (nI s9)] h Q
      refine zp_istore_n_2 rfl rfl ?_
      refine zp_iload_n (x := (nI s9)) rfl rfl ?_
      refine zp_ifF (tgt := 42) rfl rfl (zc_lt (by omega)) ?_
      refine zp_aload_n (x := 155) rfl rfl ?_
      refine zq_getr (k9 := 163) hS rfl (by first | assumption | exact ⟨by decide, rfl⟩) rfl ?_
      refine zq_getr (k9 := 165) hS rfl (by first | assumption | exact ⟨by decide, rfl⟩) rfl ?_
      refine zp_iload_n (x := (nI s9)) rfl rfl ?_
      refine zq_iald hS rfl (by first | assumption | exact ⟨by decide, rfl⟩) (by omega) (by first | decide | omega) ?_
      rw [f1 (s9) hs9]
      cases hF : F s9 with
      | none =>
        show zp_wp X y_Repl_isTaken 35 [.ref 155, .ref t, .int (nI s9)] [.int (-1)] h Q
        refine zp_ifT (tgt := 42) rfl rfl (by decide +kernel) ?_
        refine zp_iconst (v := (nI 0)) rfl (by decide +kernel) ?_
        refine zp_zret rfl rfl (by decide) ?_
        rw [hz] at hq
        first
        | (have e : v_isM C 12 s9 = true := by
             cases q : v_isM C 12 s9 with
             | true => rfl
             | false => rw [(f3.m f2 hs9).mpr q] at hF; cases hF
           simp only [e] at hq
           exact hq)
        | (simp only [(f3.m f2 hs9).mp hF] at hq; exact hq)
        | exact hq
      | some d9 =>
        have hd9 := f2 s9 hs9 d9 hF
        show zp_wp X y_Repl_isTaken 35 [.ref 155, .ref t, .int (nI s9)] [.int (nI d9)] h Q
        refine zp_ifF (tgt := 42) rfl rfl (zc_lt (by omega)) ?_
        refine zp_iconst (v := (nI 1)) rfl (by decide +kernel) ?_
        refine zp_goto (tgt := 43) rfl rfl ?_
        refine zp_zret rfl rfl (by decide) ?_
        rw [hz] at hq
        first
        | (have e : v_isM C 12 s9 = true := by
             cases q : v_isM C 12 s9 with
             | true => rfl
             | false => rw [(f3.m f2 hs9).mpr q] at hF; cases hF
           simp only [e] at hq
           exact hq)
        | (simp only [(f3.m f2 hs9).mp hF] at hq; exact hq)
        | exact hq
  · by_cases k4 : k = 4
    · subst k4
      have h3 := h3.2 (by omega)
      have hv : v_els TG C M (4, a, m, b, n) = (match v_mem TG (v_cls TG a) m with
        | none => false
        | some p => v_isM M 40 p) := by
        unfold v_els
        rw [show v_old TG (4, a, m, b, n) = v_mem TG (v_cls TG a) m from rfl]
        cases v_mem TG (v_cls TG a) m <;> rfl
      rw [hv] at hq
      refine zp_aload_n (x := 155) rfl rfl ?_
      refine zq_getr (k9 := 168) hS rfl (by first | assumption | exact ⟨by decide, rfl⟩) rfl ?_
      refine zq_geti hS rfl (by first | assumption | exact ⟨by decide, rfl⟩) rfl ?_
      rw [c0]
      refine zp_ifT (tgt := 44) rfl rfl (by decide +kernel) ?_
      refine zp_aload_n (x := 155) rfl rfl ?_
      refine zq_getr (k9 := 168) hS rfl (by first | assumption | exact ⟨by decide, rfl⟩) rfl ?_
      refine zq_geti hS rfl (by first | assumption | exact ⟨by decide, rfl⟩) rfl ?_
      rw [c0]
      refine zp_iconst (v := (nI 4)) rfl (by decide +kernel) ?_
      refine zp_icF (tgt := 96) rfl rfl (by decide +kernel) ?_
      refine zp_aload_n (x := t) rfl rfl ?_
      refine zp_aload_n (x := 155) rfl rfl ?_
      refine zq_getr (k9 := 168) hS rfl (by first | assumption | exact ⟨by decide, rfl⟩) rfl ?_
      refine zq_geti hS rfl (by first | assumption | exact ⟨by decide, rfl⟩) rfl ?_
      rw [c1]
      refine zp_aload_n (x := 155) rfl rfl ?_
      refine zq_getr (k9 := 168) hS rfl (by first | assumption | exact ⟨by decide, rfl⟩) rfl ?_
      refine zq_geti hS rfl (by first | assumption | exact ⟨by decide, rfl⟩) rfl ?_
      rw [c2]
      refine zq_virt hS rfl rfl (by first | assumption | exact ⟨by decide, rfl⟩) rfl (s_Prog_memberAt hS hT hR.2.1 hW (by omega) (by omega) (by omega) ?_)
      cases hz : v_mem TG (v_cls TG a) m with
      | none =>
        show zp_wp X y_Repl_isTaken 73 [.ref 155, .ref t, zm_mk] [.int (-1)] h Q
        refine zp_istore_n_2 rfl rfl ?_
        refine zp_iload_n (x := (-1)) rfl rfl ?_
        refine zp_ifT (tgt := 94) rfl rfl (by decide +kernel) ?_
        refine zp_iconst (v := (nI 0)) rfl (by decide +kernel) ?_
        refine zp_zret rfl rfl (by decide) ?_
        rw [hz] at hq
        first
        | (have e : v_isM M 40 s9 = true := by
             cases q : v_isM M 40 s9 with
             | true => rfl
             | false => rw [(g3.m g2 hs9).mpr q] at hF; cases hF
           simp only [e] at hq
           exact hq)
        | (simp only [(g3.m g2 hs9).mp hF] at hq; exact hq)
        | exact hq
      | some s9 =>
        have hs9 := (v_mem_lt hz).1
        show zp_wp X y_Repl_isTaken 73 [.ref 155, .ref t, zm_mk] [.int (nI s9)] h Q
        refine zp_istore_n_2 rfl rfl ?_
        refine zp_iload_n (x := (nI s9)) rfl rfl ?_
        refine zp_ifF (tgt := 94) rfl rfl (zc_lt (by omega)) ?_
        refine zp_aload_n (x := 155) rfl rfl ?_
        refine zq_getr (k9 := 163) hS rfl (by first | assumption | exact ⟨by decide, rfl⟩) rfl ?_
        refine zq_getr (k9 := 167) hS rfl (by first | assumption | exact ⟨by decide, rfl⟩) rfl ?_
        refine zp_iload_n (x := (nI s9)) rfl rfl ?_
        refine zq_iald hS rfl (by first | assumption | exact ⟨by decide, rfl⟩) (by omega) (by first | decide | omega) ?_
        rw [g1 (s9) hs9]
        cases hF : G s9 with
        | none =>
          show zp_wp X y_Repl_isTaken 87 [.ref 155, .ref t, .int (nI s9)] [.int (-1)] h Q
          refine zp_ifT (tgt := 94) rfl rfl (by decide +kernel) ?_
          refine zp_iconst (v := (nI 0)) rfl (by decide +kernel) ?_
          refine zp_zret rfl rfl (by decide) ?_
          rw [hz] at hq
          first
          | (have e : v_isM M 40 s9 = true := by
               cases q : v_isM M 40 s9 with
               | true => rfl
               | false => rw [(g3.m g2 hs9).mpr q] at hF; cases hF
             simp only [e] at hq
             exact hq)
          | (simp only [(g3.m g2 hs9).mp hF] at hq; exact hq)
          | exact hq
        | some d9 =>
          have hd9 := g2 s9 hs9 d9 hF
          show zp_wp X y_Repl_isTaken 87 [.ref 155, .ref t, .int (nI s9)] [.int (nI d9)] h Q
          refine zp_ifF (tgt := 94) rfl rfl (zc_lt (by omega)) ?_
          refine zp_iconst (v := (nI 1)) rfl (by decide +kernel) ?_
          refine zp_goto (tgt := 95) rfl rfl ?_
          refine zp_zret rfl rfl (by decide) ?_
          rw [hz] at hq
          first
          | (have e : v_isM M 40 s9 = true := by
               cases q : v_isM M 40 s9 with
               | true => rfl
               | false => rw [(g3.m g2 hs9).mpr q] at hF; cases hF
             simp only [e] at hq
             exact hq)
          | (simp only [(g3.m g2 hs9).mp hF] at hq; exact hq)
          | exact hq
    · have hv : v_els TG C M (k, a, m, b, n) = false := by
        unfold v_els
        have : v_old TG (k, a, m, b, n) = none := by unfold v_old; rw [if_neg k0, if_neg k4]
        rw [this]
      rw [hv] at hq
      refine zp_aload_n (x := 155) rfl rfl ?_
      refine zq_getr (k9 := 168) hS rfl (by first | assumption | exact ⟨by decide, rfl⟩) rfl ?_
      refine zq_geti hS rfl (by first | assumption | exact ⟨by decide, rfl⟩) rfl ?_
      rw [c0]
      refine zp_ifN_ne (tgt := 44) rfl rfl (by omega) (fun b7 => ?_) (fun b7 => ?_)
      · refine zp_aload_n (x := 155) rfl rfl ?_
        refine zq_getr (k9 := 168) hS rfl (by first | assumption | exact ⟨by decide, rfl⟩) rfl ?_
        refine zq_geti hS rfl (by first | assumption | exact ⟨by decide, rfl⟩) rfl ?_
        rw [c0]
        refine zp_iconst (v := (nI 4)) rfl (by decide +kernel) ?_
        refine zp_icmpN_ne (tgt := 96) rfl rfl (by omega) (by omega) (fun b52 => ?_) (fun b52 => ?_)
        · refine zp_iconst (v := (nI 0)) rfl (by decide +kernel) ?_
          refine zp_zret rfl rfl (by decide) ?_
          exact hq
        · omega
      · omega
theorem s_Repl_tryOtherNames {f : Nat} (hS : zs_H h) (hT : zq_A t) (ht : t + 6 < 29) (hPt : zq_P TG t h) (hW : zv_W TG) (hp : zq_c pl 168 h) (hl : zc_leg pl) (hf : f < 10) (hq : ∀ h' pl', zs_H h' → zh_eq (fun x => x = 168 ∨ (t < x ∧ x ≤ t + 6)) h h' → zq_P (v_mend TG f 25 pl).2.1 t h' → zq_c pl' 168 h' → zc_leg pl' → pl'.1 = pl.1 → ((v_mend TG f 25 pl).1 = 100 → v_mk TG pl' = (0, (v_mend TG f 25 pl).2.1, (v_mend TG f 25 pl).2.2)) → Q (.inl (some (.int (nI (v_mend TG f 25 pl).1)))) h') : zp_wm X y_Repl_tryOtherNames [.ref 155, .ref t, .int (nI f)] h Q := by
  have t0 := hT.1
  show zp_wp X y_Repl_tryOtherNames 0 [.ref 155, .ref t, .int (nI f), zm_mk, zm_mk] [] h Q
  have lp : ∀ k i h2 pl2 z, i + k = 25 → zs_H h2 → zh_eq (fun x => x = 168 ∨ (t < x ∧ x ≤ t + 6)) h h2 → zq_P TG t h2 → zq_c pl2 168 h2 → zc_leg pl2 → pl2.1 = pl.1 → v_mend TG f 25 pl = v_mend TG f k pl2 → zp_wp X y_Repl_tryOtherNames 2 [.ref 155, .ref t, .int (nI f), .int (nI i), z] [] h2 Q := by
    intro k
    induction k with
    | zero =>
      intro i h2 pl2 z hi hS he hP2 hp2 hl2 hk2 hv
      have hv : v_mend TG f 25 pl = (f, TG, none) := hv
      rw [hv] at hq
      have hi : i = 25 := by omega
      subst hi
      refine zp_iload_n (x := (nI 25)) rfl rfl ?_
      refine zp_bipush (v := (nI 25)) rfl (by decide +kernel) ?_
      refine zp_icT (tgt := 54) rfl rfl (by decide +kernel) ?_
      refine zp_iload_n (x := (nI f)) rfl rfl ?_
      refine zp_iret rfl rfl ?_
      exact hq _ pl2 hS he hP2 hp2 hl2 hk2 (fun q => absurd q (by show ¬ f = 100; omega))
    | succ k ih =>
      intro i h2 pl2 z hi hS he hP2 hp2 hl2 hk2 hv
      have hla := v_adv_leg hl2
      have f9 : (v_mk TG (v_adv pl2)).1 < 10 := v_mk_9
      have hv : v_mend TG f 25 pl = if (v_mk TG (v_adv pl2)).1 = 0 then (100, (v_mk TG (v_adv pl2)).2.1, (v_mk TG (v_adv pl2)).2.2) else if ¬ (v_mk TG (v_adv pl2)).1 = 1 ∧ ¬ (v_mk TG (v_adv pl2)).1 = 5 then ((v_mk TG (v_adv pl2)).1, TG, none) else v_mend TG f k (v_adv pl2) := hv
      have hke : (v_adv pl2).1 = pl.1 := hk2
      refine zp_iload_n (x := (nI i)) rfl rfl ?_
      refine zp_bipush (v := (nI 25)) rfl (by decide +kernel) ?_
      refine zp_icmpN_ge (tgt := 54) rfl rfl (by omega) (by omega) (fun b5 => ?_) (fun b5 => ?_)
      · omega
      · refine zp_aload_n (x := 155) rfl rfl ?_
        refine zq_getr (k9 := 168) hS rfl (by first | assumption | exact ⟨by decide, rfl⟩) rfl ?_
        refine zq_virt hS rfl rfl (by first | assumption | exact ⟨by decide, rfl⟩) rfl (s_Change_advanceNewName hS qC_168 hp2 hl2 (fun h3 hS3 he3 hc3 => ?_))
        have hS := hS3
        show zp_wp X y_Repl_tryOtherNames 15 [.ref 155, .ref t, .int (nI f), .int (nI i), z] [] h3 Q
        refine zp_aload_n (x := t) rfl rfl ?_
        refine zp_aload_n (x := 155) rfl rfl ?_
        refine zq_getr (k9 := 168) hS rfl (by first | assumption | exact ⟨by decide, rfl⟩) rfl ?_
        refine zq_virt hS rfl rfl (by first | assumption | exact ⟨by decide, rfl⟩) rfl (s_Prog_attempt hS3 hT (hP2.eq he3 (fun x _ _ => by omega)) hW qC_168 hc3 hla (fun h4 p4 => ?_))
        have hS := p4.1
        have e4 : zh_eq (fun x => x = 168 ∨ (t < x ∧ x ≤ t + 6)) h h4 := (he.trans (he3.mono (fun x e => Or.inl e))).trans (p4.2.1.mono (fun x e => Or.inr e))
        have hc4 : zq_c (v_adv pl2) 168 h4 := hc3.eq p4.2.1 (by omega)
        show zp_wp X y_Repl_tryOtherNames 23 [.ref 155, .ref t, .int (nI f), .int (nI i), z] [.int (nI ((v_mk TG (v_adv pl2)).1))] h4 Q
        refine zp_istore_4 rfl rfl ?_
        refine zp_iload (x := (nI ((v_mk TG (v_adv pl2)).1))) rfl rfl ?_
        refine zp_ifN_ne (tgt := 33) rfl rfl (by omega) (fun b27 => ?_) (fun b27 => ?_)
        · refine zp_iload (x := (nI ((v_mk TG (v_adv pl2)).1))) rfl rfl ?_
          refine zp_iconst (v := (nI 1)) rfl (by decide +kernel) ?_
          refine zp_icmpN_eq (tgt := 48) rfl rfl (by omega) (by omega) (fun b36 => ?_) (fun b36 => ?_)
          · refine zp_iincN_3 rfl rfl ?_
            refine zp_goto (tgt := 2) rfl rfl ?_
            rw [if_neg b27, if_neg (by omega)] at hv
            have p5 := p4.2.2
            rw [(mk_fail b27).1] at p5
            exact ih (i + 1) _ (v_adv pl2) _ (by omega) p4.1 e4 p5 hc4 hla hke hv
          · refine zp_iload (x := (nI ((v_mk TG (v_adv pl2)).1))) rfl rfl ?_
            refine zp_iconst (v := (nI 5)) rfl (by decide +kernel) ?_
            refine zp_icmpN_eq (tgt := 48) rfl rfl (by omega) (by omega) (fun b42 => ?_) (fun b42 => ?_)
            · refine zp_iincN_3 rfl rfl ?_
              refine zp_goto (tgt := 2) rfl rfl ?_
              rw [if_neg b27, if_neg (by omega)] at hv
              have p5 := p4.2.2
              rw [(mk_fail b27).1] at p5
              exact ih (i + 1) _ (v_adv pl2) _ (by omega) p4.1 e4 p5 hc4 hla hke hv
            · refine zp_iload (x := (nI ((v_mk TG (v_adv pl2)).1))) rfl rfl ?_
              refine zp_iret rfl rfl ?_
              rw [if_neg b27, if_pos ⟨b36, b42⟩] at hv
              rw [hv] at hq
              have p5 := p4.2.2
              rw [(mk_fail b27).1] at p5
              exact hq _ (v_adv pl2) p4.1 e4 p5 hc4 hla hke (fun q => absurd q (by show ¬ (v_mk TG (v_adv pl2)).1 = 100; omega))
        · refine zp_bipush (v := (nI 100)) rfl (by decide +kernel) ?_
          refine zp_iret rfl rfl ?_
          rw [if_pos b27] at hv
          rw [hv] at hq
          exact hq _ (v_adv pl2) p4.1 e4 p4.2.2 hc4 hla hke (fun _ => by
            have : v_mk TG (v_adv pl2) = ((v_mk TG (v_adv pl2)).1, (v_mk TG (v_adv pl2)).2.1, (v_mk TG (v_adv pl2)).2.2) := rfl
            rw [this, b27])
  refine zp_iconst (v := (nI 0)) rfl (by decide +kernel) ?_
  refine zp_istore_n_3 rfl rfl ?_
  exact lp 25 0 h pl _ rfl hS zh_eq.rf hPt hp hl rfl rfl
theorem s_Repl_tryPlan {mend : Bool} (hS : zs_H h) (hT : zq_A t) (ht : t + 6 < 29) (hR : zq_R MV TG C M t h) (hj : zj MV TG C M) (hl : zc_leg c) (hh : v_hasP MV TG C M c = true) (hp : zq_c (v_plan MV TG C M c) 168 h) (hq : ∀ h' pl', zs_H h' → zh_eq (fun x => x = 168 ∨ (t < x ∧ x ≤ t + 6)) h h' → zq_P (v_tryR mend MV TG C M c).2.1 t h' → zq_c pl' 168 h' → zc_leg pl' → pl'.1 = c.1 → (v_ismd (some (v_tryR mend MV TG C M c).1) = true → c.1 = 0 ∨ c.1 = 4 → v_old (v_tryR mend MV TG C M c).2.1 pl' = (v_tryR mend MV TG C M c).2.2) → Q (.inl (some (.int (nI (v_tryR mend MV TG C M c).1)))) h') : zp_wm X y_Repl_tryPlan [.ref 155, .ref t, .int (zf_b mend)] h Q := by
  have t0 := hT.1
  have hlp := hj.leg hl hh
  have hk := v_plan_1 (MV := MV) (TG := TG) (C := C) (M := M) (c := c)
  have hv : v_tryR mend MV TG C M c = if v_hasP MV TG C M c = false then (2, TG, none) else if (v_mk TG (v_plan MV TG C M c)).1 = 0 then (0, (v_mk TG (v_plan MV TG C M c)).2.1, (v_mk TG (v_plan MV TG C M c)).2.2) else if v_cnt (v_plan MV TG C M c) (v_mk TG (v_plan MV TG C M c)).1 then (cond (v_els TG C M (v_plan MV TG C M c)) 6 0, TG, cond (v_els TG C M (v_plan MV TG C M c)) none (v_old TG (v_plan MV TG C M c))) else if v_may mend (v_plan MV TG C M c).1 (v_mk TG (v_plan MV TG C M c)).1 then v_mend TG (v_mk TG (v_plan MV TG C M c)).1 25 (v_plan MV TG C M c) else ((v_mk TG (v_plan MV TG C M c)).1, TG, none) := rfl
  rw [hh, if_neg (by decide)] at hv
  generalize v_plan MV TG C M c = pl at *
  have f9 : (v_mk TG pl).1 < 10 := v_mk_9
  have hW := hj.2.1
  cases mend with
  | false =>
    show zp_wp X y_Repl_tryPlan 0 [.ref 155, .ref t, .int (nI 0), zm_mk] [] h Q
    refine zp_aload_n (x := t) rfl rfl ?_
    refine zp_aload_n (x := 155) rfl rfl ?_
    refine zq_getr (k9 := 168) hS rfl (by first | assumption | exact ⟨by decide, rfl⟩) rfl ?_
    refine zq_virt hS rfl rfl (by first | assumption | exact ⟨by decide, rfl⟩) rfl (s_Prog_attempt hS hT hR.2.1 hW qC_168 hp hlp (fun h2 p2 => ?_))
    have hS := p2.1
    have e2 : zh_eq (fun x => x = 168 ∨ (t < x ∧ x ≤ t + 6)) h h2 := p2.2.1.mono (fun x e => Or.inr e)
    have hc2 : zq_c pl 168 h2 := hp.eq p2.2.1 (by omega)
    show zp_wp X y_Repl_tryPlan 8 [.ref 155, .ref t, .int (nI 0), zm_mk] [.int (nI ((v_mk TG pl).1))] h2 Q
    refine zp_istore_n_3 rfl rfl ?_
    refine zp_iload_n (x := (nI ((v_mk TG pl).1))) rfl rfl ?_
    refine zp_ifN_ne (tgt := 15) rfl rfl (by omega) (fun b10 => ?_) (fun b10 => ?_)
    · refine zp_aload_n (x := 155) rfl rfl ?_
      refine zp_iload_n (x := (nI ((v_mk TG pl).1))) rfl rfl ?_
      refine zq_virt hS rfl rfl (by first | assumption | exact ⟨by decide, rfl⟩) rfl (s_Repl_countsAsMade hS hc2 hlp f9 ?_)
      have p3 : zq_P TG t h2 := by have := p2.2.2; rw [(mk_fail b10).1] at this; exact this
      have hR2 : zq_R MV TG C M t h2 := ⟨hR.1.eq p2.2.1 (fun x _ _ => by omega), p3, hR.2.2.eq p2.2.1 (fun x _ _ => by omega)⟩
      cases x1 : v_cnt pl (v_mk TG pl).1 with
      | false =>
        show zp_wp X y_Repl_tryPlan 20 [.ref 155, .ref t, .int (nI 0), .int (nI ((v_mk TG pl).1))] [.int (nI 0)] h2 Q
        refine zp_ifT (tgt := 38) rfl rfl (by decide +kernel) ?_
        refine zp_iload_n (x := (nI 0)) rfl rfl ?_
        refine zp_ifT (tgt := 59) rfl rfl (by decide +kernel) ?_
        refine zp_iload_n (x := (nI ((v_mk TG pl).1))) rfl rfl ?_
        refine zp_iret rfl rfl ?_
        first
        | (have hmy : v_may false pl.1 (v_mk TG pl).1 = true := by unfold v_may; rw [x3]; rfl
           rw [if_neg b10, x1, if_neg (by decide), hmy, if_pos rfl] at hv
           rw [hv] at hq
           refine hq _ pl4 hS4 (e2.trans he4) hP4 hc4 hl4 (hk4.trans hk) (fun z q => ?_)
           by_cases e100 : (v_mend TG (v_mk TG pl).1 25 pl).1 = 100
           · have e := hm4 e100
             have := v_old_mk hW hl4 (by rw [e]) (by rw [hk4, hk]; exact q)
             rw [e] at this
             exact this
           · have z0 : (v_mend TG (v_mk TG pl).1 25 pl).1 = 0 := by
               simp only [v_ismd, Bool.or_eq_true, beq_iff_eq, Option.some.injEq] at z
               omega
             exact absurd z0 (v_mend_ne0 b10 25 pl))
        | (have hmy : v_may false pl.1 (v_mk TG pl).1 = false := by unfold v_may; first | (rw [x3]; rfl) | rfl
           rw [if_neg b10, x1, if_neg (by decide), hmy, if_neg (by decide)] at hv
           rw [hv] at hq
           exact hq _ pl p2.1 e2 p3 hc2 hlp hk (fun z q => by
             simp only [v_ismd, Bool.or_eq_true, beq_iff_eq, Option.some.injEq] at z
             omega))
      | true =>
        show zp_wp X y_Repl_tryPlan 20 [.ref 155, .ref t, .int (nI 0), .int (nI ((v_mk TG pl).1))] [.int (nI 1)] h2 Q
        refine zp_ifF (tgt := 38) rfl rfl (by decide +kernel) ?_
        refine zp_aload_n (x := 155) rfl rfl ?_
        refine zp_aload_n (x := t) rfl rfl ?_
        refine zq_virt hS rfl rfl (by first | assumption | exact ⟨by decide, rfl⟩) rfl (s_Repl_isTaken hS hT hR2 hW hc2 hlp ?_)
        cases x2 : v_els TG C M pl with
        | false =>
          show zp_wp X y_Repl_tryPlan 28 [.ref 155, .ref t, .int (nI 0), .int (nI ((v_mk TG pl).1))] [.int (nI 0)] h2 Q
          refine zp_ifT (tgt := 36) rfl rfl (by decide +kernel) ?_
          refine zp_iconst (v := (nI 0)) rfl (by decide +kernel) ?_
          refine zp_iret rfl rfl ?_
          rw [if_neg b10, x1, if_pos rfl, x2] at hv
          rw [hv] at hq
          exact hq _ pl p2.1 e2 p3 hc2 hlp hk (fun z q => by first | rfl | (have z : v_ismd (some 6) = true := z; exact absurd z (by decide)))
        | true =>
          show zp_wp X y_Repl_tryPlan 28 [.ref 155, .ref t, .int (nI 0), .int (nI ((v_mk TG pl).1))] [.int (nI 1)] h2 Q
          refine zp_ifF (tgt := 36) rfl rfl (by decide +kernel) ?_
          refine zp_bipush (v := (nI 6)) rfl (by decide +kernel) ?_
          refine zp_goto (tgt := 37) rfl rfl ?_
          refine zp_iret rfl rfl ?_
          rw [if_neg b10, x1, if_pos rfl, x2] at hv
          rw [hv] at hq
          exact hq _ pl p2.1 e2 p3 hc2 hlp hk (fun z q => by first | rfl | (have z : v_ismd (some 6) = true := z; exact absurd z (by decide)))
    · refine zp_iconst (v := (nI 0)) rfl (by decide +kernel) ?_
      refine zp_iret rfl rfl ?_
      rw [if_pos b10] at hv
      rw [hv] at hq
      exact hq _ pl p2.1 e2 p2.2.2 hc2 hlp hk (fun _ q => v_old_mk hW hlp b10 (by rw [hk]; exact q))
  | true =>
    show zp_wp X y_Repl_tryPlan 0 [.ref 155, .ref t, .int (nI 1), zm_mk] [] h Q
    refine zp_aload_n (x := t) rfl rfl ?_
    refine zp_aload_n (x := 155) rfl rfl ?_
    refine zq_getr (k9 := 168) hS rfl (by first | assumption | exact ⟨by decide, rfl⟩) rfl ?_
    refine zq_virt hS rfl rfl (by first | assumption | exact ⟨by decide, rfl⟩) rfl (s_Prog_attempt hS hT hR.2.1 hW qC_168 hp hlp (fun h2 p2 => ?_))
    have hS := p2.1
    have e2 : zh_eq (fun x => x = 168 ∨ (t < x ∧ x ≤ t + 6)) h h2 := p2.2.1.mono (fun x e => Or.inr e)
    have hc2 : zq_c pl 168 h2 := hp.eq p2.2.1 (by omega)
    show zp_wp X y_Repl_tryPlan 8 [.ref 155, .ref t, .int (nI 1), zm_mk] [.int (nI ((v_mk TG pl).1))] h2 Q
    refine zp_istore_n_3 rfl rfl ?_
    refine zp_iload_n (x := (nI ((v_mk TG pl).1))) rfl rfl ?_
    refine zp_ifN_ne (tgt := 15) rfl rfl (by omega) (fun b10 => ?_) (fun b10 => ?_)
    · refine zp_aload_n (x := 155) rfl rfl ?_
      refine zp_iload_n (x := (nI ((v_mk TG pl).1))) rfl rfl ?_
      refine zq_virt hS rfl rfl (by first | assumption | exact ⟨by decide, rfl⟩) rfl (s_Repl_countsAsMade hS hc2 hlp f9 ?_)
      have p3 : zq_P TG t h2 := by have := p2.2.2; rw [(mk_fail b10).1] at this; exact this
      have hR2 : zq_R MV TG C M t h2 := ⟨hR.1.eq p2.2.1 (fun x _ _ => by omega), p3, hR.2.2.eq p2.2.1 (fun x _ _ => by omega)⟩
      cases x1 : v_cnt pl (v_mk TG pl).1 with
      | false =>
        show zp_wp X y_Repl_tryPlan 20 [.ref 155, .ref t, .int (nI 1), .int (nI ((v_mk TG pl).1))] [.int (nI 0)] h2 Q
        refine zp_ifT (tgt := 38) rfl rfl (by decide +kernel) ?_
        refine zp_iload_n (x := (nI 1)) rfl rfl ?_
        refine zp_ifF (tgt := 59) rfl rfl (by decide +kernel) ?_
        refine zp_aload_n (x := 155) rfl rfl ?_
        refine zp_iload_n (x := (nI ((v_mk TG pl).1))) rfl rfl ?_
        refine zq_virt hS rfl rfl (by first | assumption | exact ⟨by decide, rfl⟩) rfl (s_Repl_isMendable hS hc2 hlp f9 ?_)
        cases x3 : (v_mk TG pl).1 == 1 && pl.1 == 2 || (v_mk TG pl).1 == 5 && (pl.1 == 4 || pl.1 == 6) with
        | false =>
          show zp_wp X y_Repl_tryPlan 47 [.ref 155, .ref t, .int (nI 1), .int (nI ((v_mk TG pl).1))] [.int (nI 0)] h2 Q
          refine zp_ifT (tgt := 59) rfl rfl (by decide +kernel) ?_
          refine zp_iload_n (x := (nI ((v_mk TG pl).1))) rfl rfl ?_
          refine zp_iret rfl rfl ?_
          first
          | (have hmy : v_may true pl.1 (v_mk TG pl).1 = true := by unfold v_may; rw [x3]; rfl
             rw [if_neg b10, x1, if_neg (by decide), hmy, if_pos rfl] at hv
             rw [hv] at hq
             refine hq _ pl4 hS4 (e2.trans he4) hP4 hc4 hl4 (hk4.trans hk) (fun z q => ?_)
             by_cases e100 : (v_mend TG (v_mk TG pl).1 25 pl).1 = 100
             · have e := hm4 e100
               have := v_old_mk hW hl4 (by rw [e]) (by rw [hk4, hk]; exact q)
               rw [e] at this
               exact this
             · have z0 : (v_mend TG (v_mk TG pl).1 25 pl).1 = 0 := by
                 simp only [v_ismd, Bool.or_eq_true, beq_iff_eq, Option.some.injEq] at z
                 omega
               exact absurd z0 (v_mend_ne0 b10 25 pl))
          | (have hmy : v_may true pl.1 (v_mk TG pl).1 = false := by unfold v_may; first | (rw [x3]; rfl) | rfl
             rw [if_neg b10, x1, if_neg (by decide), hmy, if_neg (by decide)] at hv
             rw [hv] at hq
             exact hq _ pl p2.1 e2 p3 hc2 hlp hk (fun z q => by
               simp only [v_ismd, Bool.or_eq_true, beq_iff_eq, Option.some.injEq] at z
               omega))
        | true =>
          show zp_wp X y_Repl_tryPlan 47 [.ref 155, .ref t, .int (nI 1), .int (nI ((v_mk TG pl).1))] [.int (nI 1)] h2 Q
          refine zp_ifF (tgt := 59) rfl rfl (by decide +kernel) ?_
          refine zp_aload_n (x := 155) rfl rfl ?_
          refine zp_aload_n (x := t) rfl rfl ?_
          refine zp_iload_n (x := (nI ((v_mk TG pl).1))) rfl rfl ?_
          refine zq_virt hS rfl rfl (by first | assumption | exact ⟨by decide, rfl⟩) rfl (s_Repl_tryOtherNames hS hT ht p3 hW hc2 hlp f9 (fun h4 pl4 hS4 he4 hP4 hc4 hl4 hk4 hm4 => ?_))
          show zp_wp X y_Repl_tryPlan 56 [.ref 155, .ref t, .int (nI 1), .int (nI ((v_mk TG pl).1))] [.int (nI ((v_mend TG (v_mk TG pl).1 25 pl).1))] h4 Q
          refine zp_goto (tgt := 60) rfl rfl ?_
          refine zp_iret rfl rfl ?_
          first
          | (have hmy : v_may true pl.1 (v_mk TG pl).1 = true := by unfold v_may; rw [x3]; rfl
             rw [if_neg b10, x1, if_neg (by decide), hmy, if_pos rfl] at hv
             rw [hv] at hq
             refine hq _ pl4 hS4 (e2.trans he4) hP4 hc4 hl4 (hk4.trans hk) (fun z q => ?_)
             by_cases e100 : (v_mend TG (v_mk TG pl).1 25 pl).1 = 100
             · have e := hm4 e100
               have := v_old_mk hW hl4 (by rw [e]) (by rw [hk4, hk]; exact q)
               rw [e] at this
               exact this
             · have z0 : (v_mend TG (v_mk TG pl).1 25 pl).1 = 0 := by
                 simp only [v_ismd, Bool.or_eq_true, beq_iff_eq, Option.some.injEq] at z
                 omega
               exact absurd z0 (v_mend_ne0 b10 25 pl))
          | (have hmy : v_may true pl.1 (v_mk TG pl).1 = false := by unfold v_may; first | (rw [x3]; rfl) | rfl
             rw [if_neg b10, x1, if_neg (by decide), hmy, if_neg (by decide)] at hv
             rw [hv] at hq
             exact hq _ pl p2.1 e2 p3 hc2 hlp hk (fun z q => by
               simp only [v_ismd, Bool.or_eq_true, beq_iff_eq, Option.some.injEq] at z
               omega))
      | true =>
        show zp_wp X y_Repl_tryPlan 20 [.ref 155, .ref t, .int (nI 1), .int (nI ((v_mk TG pl).1))] [.int (nI 1)] h2 Q
        refine zp_ifF (tgt := 38) rfl rfl (by decide +kernel) ?_
        refine zp_aload_n (x := 155) rfl rfl ?_
        refine zp_aload_n (x := t) rfl rfl ?_
        refine zq_virt hS rfl rfl (by first | assumption | exact ⟨by decide, rfl⟩) rfl (s_Repl_isTaken hS hT hR2 hW hc2 hlp ?_)
        cases x2 : v_els TG C M pl with
        | false =>
          show zp_wp X y_Repl_tryPlan 28 [.ref 155, .ref t, .int (nI 1), .int (nI ((v_mk TG pl).1))] [.int (nI 0)] h2 Q
          refine zp_ifT (tgt := 36) rfl rfl (by decide +kernel) ?_
          refine zp_iconst (v := (nI 0)) rfl (by decide +kernel) ?_
          refine zp_iret rfl rfl ?_
          rw [if_neg b10, x1, if_pos rfl, x2] at hv
          rw [hv] at hq
          exact hq _ pl p2.1 e2 p3 hc2 hlp hk (fun z q => by first | rfl | (have z : v_ismd (some 6) = true := z; exact absurd z (by decide)))
        | true =>
          show zp_wp X y_Repl_tryPlan 28 [.ref 155, .ref t, .int (nI 1), .int (nI ((v_mk TG pl).1))] [.int (nI 1)] h2 Q
          refine zp_ifF (tgt := 36) rfl rfl (by decide +kernel) ?_
          refine zp_bipush (v := (nI 6)) rfl (by decide +kernel) ?_
          refine zp_goto (tgt := 37) rfl rfl ?_
          refine zp_iret rfl rfl ?_
          rw [if_neg b10, x1, if_pos rfl, x2] at hv
          rw [hv] at hq
          exact hq _ pl p2.1 e2 p3 hc2 hlp hk (fun z q => by first | rfl | (have z : v_ismd (some 6) = true := z; exact absurd z (by decide)))
    · refine zp_iconst (v := (nI 0)) rfl (by decide +kernel) ?_
      refine zp_iret rfl rfl ?_
      rw [if_pos b10] at hv
      rw [hv] at hq
      exact hq _ pl p2.1 e2 p2.2.2 hc2 hlp hk (fun _ q => v_old_mk hW hlp b10 (by rw [hk]; exact q))
end ZP14
