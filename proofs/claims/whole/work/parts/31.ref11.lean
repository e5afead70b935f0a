/-! the reference: changes that commute, and what a change needs -/
def v_bk (L : Nat → zch) (i : Nat) : zch := v_car (L (i + 1)) (L i) true
def v_ft (L : Nat → zch) (i : Nat) : zch := v_car (L i) (v_bk L i) false
def v_com (B : zv) (L : Nat → zch) (i : Nat) : Bool := (v_mk (v_go B L i) (v_bk L i)).1 == 0 && ((v_mk (v_mk (v_go B L i) (v_bk L i)).2.1 (v_ft L i)).1 == 0 && v_one (v_mk (v_mk (v_go B L i) (v_bk L i)).2.1 (v_ft L i)).2.1 (v_go B L (i + 2)))
def v_ex (L : Nat → zch) (i : Nat) : Nat → zch := va_up (va_up L i (v_bk L i)) (i + 1) (v_ft L i)
theorem v_bk_leg {L : Nat → zch} {i : Nat} (h1 : zc_leg (L i)) (h2 : zc_leg (L (i + 1))) : zc_leg (v_bk L i) := h2.car h1
theorem v_ft_leg {L : Nat → zch} {i : Nat} (h1 : zc_leg (L i)) (h2 : zc_leg (L (i + 1))) : zc_leg (v_ft L i) := h1.car (v_bk_leg h1 h2)
theorem v_ex_leg {L : Nat → zch} {i n : Nat} (hl : ∀ j, j < n → zc_leg (L j)) (hi : i + 1 < n) : ∀ j, j < n → zc_leg (v_ex L i j) := by
  intro j hj
  have h1 := hl i (by omega)
  have h2 := hl (i + 1) (by omega)
  unfold v_ex
  by_cases e1 : j = i + 1
  · subst e1; simp only [va_up, if_true]; exact v_ft_leg h1 h2
  · by_cases e2 : j = i
    · subst e2; simp only [va_up, if_neg e1, if_true]; exact v_bk_leg h1 h2
    · simp only [va_up, if_neg e1, if_neg e2]; exact hl j hj
section ZR11
variable {X : zm_X} {h h1 h2 : zm_H} {Q : zm_O → zm_H → Prop} {V W B : zv} {s : zst} {T : List Nat} {r o l d : Nat} {L : Nat → zch} {c : zch}
theorem zr_G.of (hS : zs_H h2) (he : zh_eq (fun x => x ∈ T) h1 h2) (h0 : 171 ∉ T) : zr_G T h1 h2 := ⟨⟨hS, he.mono (fun _ q => Or.inl q), fun _ _ _ _ => he.gf h0⟩, he.gf h0⟩
theorem s_Mod_commute {i : Nat} (hS : zs_H h) (hb : zv_R B (ci h 174)) (hW : zv_W B) (hl : zs_I l 150) (hL : zr_L L (ci h l)) (hi : i + 2 ≤ 30) (hc : ∀ j, j < i + 2 → zc_leg (L j)) (hq : ∀ h', zr_G [176, 177, 180, 181] h h' → zr_c (v_bk L i) (ci h' 180) → zr_c (v_ft L i) (ci h' 181) → Q (.inl (some (.int (zf_b (v_com B L i))))) h') : zp_wm X y_Mod_commute [.ref 171, .ref l, .int (nI i)] h Q := by
  show zp_wp X y_Mod_commute 0 [.ref 171, .ref l, .int (nI i), zm_mk, zm_mk] [] h Q
  have hS0 := hS
  have l171 := zs_I_ne hl zs_M
  have l176 : l ≠ 176 := fun e => by subst e; exact absurd (zs_I_n hl ⟨by decide, rfl⟩ : 150 = 1704) (by decide)
  have l177 : l ≠ 177 := fun e => by subst e; exact absurd (zs_I_n hl ⟨by decide, rfl⟩ : 150 = 1704) (by decide)
  have l180 : l ≠ 180 := fun e => by subst e; exact absurd (zs_I_n hl ⟨by decide, rfl⟩ : 150 = 5) (by decide)
  have l181 : l ≠ 181 := fun e => by subst e; exact absurd (zs_I_n hl ⟨by decide, rfl⟩ : 150 = 5) (by decide)
  have lT : l ∉ [176, 177, 180, 181] := by simp [l176, l177, l180, l181]
  have g0 := hc i (by omega)
  have g1 := hc (i + 1) (by omega)
  have gb := v_bk_leg g0 g1
  have gf := v_ft_leg g0 g1
  have hWi := hW.go i (fun j hj => hc j (by omega))
  have hWi2 := hW.go (i + 2) (fun j hj => hc j (by omega))
  have mid : ∀ h' x, zr_G [176, 177, 180, 181] h h' → zv_R (v_go B L i) (ci h' 176) → zv_R (v_go B L (i + 2)) (ci h' 177) → zr_c (L (i + 1)) (ci h' 180) → zr_c (L i) (ci h' 181) → zp_wp X y_Mod_commute 69 [.ref 171, .ref l, .int (nI i), .int (nI (5 * i)), x] [] h' Q := by
    intro h' x hG hV1 hV2 hc1 hc0
    have hS := hG.1.1
    have hL' : zr_L L (ci h' l) := by rw [hG.gi lT l171]; exact hL
    obtain ⟨w0, w1, w2, w3, w4⟩ := hL' i (by omega)
    have wL := hL' i (by omega)
    unfold v_com at hq
    refine zp_aload_n (x := 171) rfl rfl ?_
    refine zq_getr (k9 := 180) hS rfl (by first | assumption | exact ⟨by decide, rfl⟩) rfl ?_
    refine zp_aload_n (x := l) rfl rfl ?_
    refine zp_iload_n (x := (nI (5 * i))) rfl rfl ?_
    refine zq_iald hS rfl (by first | assumption | exact ⟨by decide, rfl⟩) (by omega) (by decide) ?_
    rw [wL.1]
    refine zp_aload_n (x := l) rfl rfl ?_
    refine zp_iload_n (x := (nI (5 * i))) rfl rfl ?_
    refine zp_iconst (v := (nI 1)) rfl (by decide +kernel) ?_
    refine zp_iaddN rfl ?_
    refine zq_iald hS rfl (by first | assumption | exact ⟨by decide, rfl⟩) (by omega) (by decide) ?_
    rw [wL.2.1]
    refine zp_aload_n (x := l) rfl rfl ?_
    refine zp_iload_n (x := (nI (5 * i))) rfl rfl ?_
    refine zp_iconst (v := (nI 2)) rfl (by decide +kernel) ?_
    refine zp_iaddN rfl ?_
    refine zq_iald hS rfl (by first | assumption | exact ⟨by decide, rfl⟩) (by omega) (by decide) ?_
    rw [wL.2.2.1]
    refine zp_aload_n (x := l) rfl rfl ?_
    refine zp_iload_n (x := (nI (5 * i))) rfl rfl ?_
    refine zp_iconst (v := (nI 3)) rfl (by decide +kernel) ?_
    refine zp_iaddN rfl ?_
    refine zq_iald hS rfl (by first | assumption | exact ⟨by decide, rfl⟩) (by omega) (by decide) ?_
    rw [wL.2.2.2.1]
    refine zp_aload_n (x := l) rfl rfl ?_
    refine zp_iload_n (x := (nI (5 * i))) rfl rfl ?_
    refine zp_iconst (v := (nI 4)) rfl (by decide +kernel) ?_
    refine zp_iaddN rfl ?_
    refine zq_iald hS rfl (by first | assumption | exact ⟨by decide, rfl⟩) (by omega) (by decide) ?_
    rw [wL.2.2.2.2]
    refine zp_iconst (v := (nI 1)) rfl (by decide +kernel) ?_
    refine zp_call rfl rfl (s_Mod_carries (c := L (i + 1)) (e := L i) (bk := true) hS ⟨by decide, rfl⟩ hc1 g1.ok g0.ok (fun h2 hS2 he2 k1 => ?_))
    have k1 : zr_c (v_bk L i) (ci h2 180) := k1
    have k0 : zr_c (L i) (ci h2 181) := by rw [he2.gi (by decide)]; exact hc0
    have hS := hS2
    show zp_wp X y_Mod_commute 100 [.ref 171, .ref l, .int (nI i), .int (nI (5 * i)), x] [] h2 Q
    refine zp_aload_n (x := 171) rfl rfl ?_
    refine zq_getr (k9 := 181) hS rfl (by first | assumption | exact ⟨by decide, rfl⟩) rfl ?_
    refine zp_aload_n (x := 171) rfl rfl ?_
    refine zq_getr (k9 := 180) hS rfl (by first | assumption | exact ⟨by decide, rfl⟩) rfl ?_
    refine zp_iconst (v := (nI 0)) rfl (by decide +kernel) ?_
    refine zq_iald hS rfl (by first | assumption | exact ⟨by decide, rfl⟩) (by omega) (by decide) ?_
    rw [k1.1]
    refine zp_aload_n (x := 171) rfl rfl ?_
    refine zq_getr (k9 := 180) hS rfl (by first | assumption | exact ⟨by decide, rfl⟩) rfl ?_
    refine zp_iconst (v := (nI 1)) rfl (by decide +kernel) ?_
    refine zq_iald hS rfl (by first | assumption | exact ⟨by decide, rfl⟩) (by omega) (by decide) ?_
    rw [k1.2.1]
    refine zp_aload_n (x := 171) rfl rfl ?_
    refine zq_getr (k9 := 180) hS rfl (by first | assumption | exact ⟨by decide, rfl⟩) rfl ?_
    refine zp_iconst (v := (nI 2)) rfl (by decide +kernel) ?_
    refine zq_iald hS rfl (by first | assumption | exact ⟨by decide, rfl⟩) (by omega) (by decide) ?_
    rw [k1.2.2.1]
    refine zp_aload_n (x := 171) rfl rfl ?_
    refine zq_getr (k9 := 180) hS rfl (by first | assumption | exact ⟨by decide, rfl⟩) rfl ?_
    refine zp_iconst (v := (nI 3)) rfl (by decide +kernel) ?_
    refine zq_iald hS rfl (by first | assumption | exact ⟨by decide, rfl⟩) (by omega) (by decide) ?_
    rw [k1.2.2.2.1]
    refine zp_aload_n (x := 171) rfl rfl ?_
    refine zq_getr (k9 := 180) hS rfl (by first | assumption | exact ⟨by decide, rfl⟩) rfl ?_
    refine zp_iconst (v := (nI 4)) rfl (by decide +kernel) ?_
    refine zq_iald hS rfl (by first | assumption | exact ⟨by decide, rfl⟩) (by omega) (by decide) ?_
    rw [k1.2.2.2.2]
    refine zp_iconst (v := (nI 0)) rfl (by decide +kernel) ?_
    refine zp_call rfl rfl (s_Mod_carries (c := L i) (e := v_bk L i) (bk := false) hS ⟨by decide, rfl⟩ k0 g0.ok gb.ok (fun h3 hS3 he3 k2 => ?_))
    have k2 : zr_c (v_ft L i) (ci h3 181) := k2
    have k3 : zr_c (v_bk L i) (ci h3 180) := by rw [he3.gi (by decide)]; exact k1
    have hG3 : zr_G [176, 177, 180, 181] h h3 := (hG.tr (zr_G.cp (T := [176, 177, 180, 181]) hS2 he2 (by decide) (by decide)) (fun _ q => q)).tr (zr_G.cp (T := [176, 177, 180, 181]) hS3 he3 (by decide) (by decide)) (fun _ q => q)
    have hV3 : zv_R (v_go B L i) (ci h3 176) := by rw [he3.gi (by decide), he2.gi (by decide)]; exact hV1
    have hV4 : zv_R (v_go B L (i + 2)) (ci h3 177) := by rw [he3.gi (by decide), he2.gi (by decide)]; exact hV2
    have hS := hS3
    show zp_wp X y_Mod_commute 138 [.ref 171, .ref l, .int (nI i), .int (nI (5 * i)), x] [] h3 Q
    refine zp_aload_n (x := 171) rfl rfl ?_
    refine zp_aload_n (x := 171) rfl rfl ?_
    refine zq_getr (k9 := 176) hS rfl (by first | assumption | exact ⟨by decide, rfl⟩) rfl ?_
    refine zp_aload_n (x := 171) rfl rfl ?_
    refine zq_getr (k9 := 180) hS rfl (by first | assumption | exact ⟨by decide, rfl⟩) rfl ?_
    refine zp_iconst (v := (nI 0)) rfl (by decide +kernel) ?_
    refine zq_iald hS rfl (by first | assumption | exact ⟨by decide, rfl⟩) (by omega) (by decide) ?_
    rw [k3.1]
    refine zp_aload_n (x := 171) rfl rfl ?_
    refine zq_getr (k9 := 180) hS rfl (by first | assumption | exact ⟨by decide, rfl⟩) rfl ?_
    refine zp_iconst (v := (nI 1)) rfl (by decide +kernel) ?_
    refine zq_iald hS rfl (by first | assumption | exact ⟨by decide, rfl⟩) (by omega) (by decide) ?_
    rw [k3.2.1]
    refine zp_aload_n (x := 171) rfl rfl ?_
    refine zq_getr (k9 := 180) hS rfl (by first | assumption | exact ⟨by decide, rfl⟩) rfl ?_
    refine zp_iconst (v := (nI 2)) rfl (by decide +kernel) ?_
    refine zq_iald hS rfl (by first | assumption | exact ⟨by decide, rfl⟩) (by omega) (by decide) ?_
    rw [k3.2.2.1]
    refine zp_aload_n (x := 171) rfl rfl ?_
    refine zq_getr (k9 := 180) hS rfl (by first | assumption | exact ⟨by decide, rfl⟩) rfl ?_
    refine zp_iconst (v := (nI 3)) rfl (by decide +kernel) ?_
    refine zq_iald hS rfl (by first | assumption | exact ⟨by decide, rfl⟩) (by omega) (by decide) ?_
    rw [k3.2.2.2.1]
    refine zp_aload_n (x := 171) rfl rfl ?_
    refine zq_getr (k9 := 180) hS rfl (by first | assumption | exact ⟨by decide, rfl⟩) rfl ?_
    refine zp_iconst (v := (nI 4)) rfl (by decide +kernel) ?_
    refine zq_iald hS rfl (by first | assumption | exact ⟨by decide, rfl⟩) (by omega) (by decide) ?_
    rw [k3.2.2.2.2]
    refine zq_virt hS rfl rfl (by first | assumption | exact ⟨by decide, rfl⟩) rfl (s_Mod_makes hS ⟨by decide, rfl⟩ hV3 hWi.B gb.ok.1 gb.ok.2.1 gb.ok.2.2.1 gb.ok.2.2.2.1 gb.ok.2.2.2.2 (fun h4 hp4 => ?_))
    have hp4 : zr_post (v_mk (v_go B L i) (v_bk L i)).2.1 (v_mk (v_go B L i) (v_bk L i)).2.2 176 h3 h4 := hp4
    have hG4 : zr_G [176, 177, 180, 181] h h4 := hG3.tr (zr_G.mk (T := [176, 177, 180, 181]) hp4 (by decide)) (fun _ q => q)
    have k4 : zr_c (v_ft L i) (ci h4 181) := by rw [hp4.2.1.gi (by decide)]; exact k2
    have k5 : zr_c (v_bk L i) (ci h4 180) := by rw [hp4.2.1.gi (by decide)]; exact k3
    have hV5 : zv_R (v_go B L (i + 2)) (ci h4 177) := by rw [hp4.2.1.gi (by decide)]; exact hV4
    have m4 : (v_mk (v_go B L i) (v_bk L i)).1 < 10 := v_make_9
    have hS := hp4.1
    show zp_wp X y_Mod_commute 176 [.ref 171, .ref l, .int (nI i), .int (nI (5 * i)), x] [.int (nI ((v_mk (v_go B L i) (v_bk L i)).1))] h4 Q
    refine zp_ifN_ne (tgt := 183) rfl rfl (by omega) (fun b176 => ?_) (fun b176 => ?_)
    · refine zp_iconst (v := (nI 0)) rfl (by decide +kernel) ?_
      refine zp_istore_4 rfl rfl ?_
      refine zp_iload (x := (nI 0)) rfl rfl ?_
      refine zp_ifT (tgt := 236) rfl rfl (by decide +kernel) ?_
      refine zp_iconst (v := (nI 0)) rfl (by decide +kernel) ?_
      refine zp_istore_4 rfl rfl ?_
      refine zp_iload (x := (nI 0)) rfl rfl ?_
      refine zp_ifT (tgt := 262) rfl rfl (by decide +kernel) ?_
      refine zp_iconst (v := (nI 0)) rfl (by decide +kernel) ?_
      refine zp_zret rfl rfl (by decide) ?_
      first
      | (simp only [b176, b229, eo] at hq; exact hq _ hG5 k7 k6)
      | (rw [zb_ne b229, Bool.false_and, Bool.and_false] at hq; exact hq _ hG5 k7 k6)
      | (rw [zb_ne b176, Bool.false_and] at hq; exact hq _ hG4 k5 k4)
    · refine zp_iconst (v := (nI 1)) rfl (by decide +kernel) ?_
      refine zp_goto (tgt := 184) rfl rfl ?_
      refine zp_istore_4 rfl rfl ?_
      refine zp_iload (x := (nI 1)) rfl rfl ?_
      refine zp_ifF (tgt := 236) rfl rfl (by decide +kernel) ?_
      refine zp_aload_n (x := 171) rfl rfl ?_
      refine zp_aload_n (x := 171) rfl rfl ?_
      refine zq_getr (k9 := 176) hS rfl (by first | assumption | exact ⟨by decide, rfl⟩) rfl ?_
      refine zp_aload_n (x := 171) rfl rfl ?_
      refine zq_getr (k9 := 181) hS rfl (by first | assumption | exact ⟨by decide, rfl⟩) rfl ?_
      refine zp_iconst (v := (nI 0)) rfl (by decide +kernel) ?_
      refine zq_iald hS rfl (by first | assumption | exact ⟨by decide, rfl⟩) (by omega) (by decide) ?_
      rw [k4.1]
      refine zp_aload_n (x := 171) rfl rfl ?_
      refine zq_getr (k9 := 181) hS rfl (by first | assumption | exact ⟨by decide, rfl⟩) rfl ?_
      refine zp_iconst (v := (nI 1)) rfl (by decide +kernel) ?_
      refine zq_iald hS rfl (by first | assumption | exact ⟨by decide, rfl⟩) (by omega) (by decide) ?_
      rw [k4.2.1]
      refine zp_aload_n (x := 171) rfl rfl ?_
      refine zq_getr (k9 := 181) hS rfl (by first | assumption | exact ⟨by decide, rfl⟩) rfl ?_
      refine zp_iconst (v := (nI 2)) rfl (by decide +kernel) ?_
      refine zq_iald hS rfl (by first | assumption | exact ⟨by decide, rfl⟩) (by omega) (by decide) ?_
      rw [k4.2.2.1]
      refine zp_aload_n (x := 171) rfl rfl ?_
      refine zq_getr (k9 := 181) hS rfl (by first | assumption | exact ⟨by decide, rfl⟩) rfl ?_
      refine zp_iconst (v := (nI 3)) rfl (by decide +kernel) ?_
      refine zq_iald hS rfl (by first | assumption | exact ⟨by decide, rfl⟩) (by omega) (by decide) ?_
      rw [k4.2.2.2.1]
      refine zp_aload_n (x := 171) rfl rfl ?_
      refine zq_getr (k9 := 181) hS rfl (by first | assumption | exact ⟨by decide, rfl⟩) rfl ?_
      refine zp_iconst (v := (nI 4)) rfl (by decide +kernel) ?_
      refine zq_iald hS rfl (by first | assumption | exact ⟨by decide, rfl⟩) (by omega) (by decide) ?_
      rw [k4.2.2.2.2]
      refine zq_virt hS rfl rfl (by first | assumption | exact ⟨by decide, rfl⟩) rfl (s_Mod_makes hS ⟨by decide, rfl⟩ hp4.2.2.1 (hWi.mk gb).B gf.ok.1 gf.ok.2.1 gf.ok.2.2.1 gf.ok.2.2.2.1 gf.ok.2.2.2.2 (fun h5 hp5 => ?_))
      have hp5 : zr_post (v_mk (v_mk (v_go B L i) (v_bk L i)).2.1 (v_ft L i)).2.1 (v_mk (v_mk (v_go B L i) (v_bk L i)).2.1 (v_ft L i)).2.2 176 h4 h5 := hp5
      have hG5 : zr_G [176, 177, 180, 181] h h5 := hG4.tr (zr_G.mk (T := [176, 177, 180, 181]) hp5 (by decide)) (fun _ q => q)
      have k6 : zr_c (v_ft L i) (ci h5 181) := by rw [hp5.2.1.gi (by decide)]; exact k4
      have k7 : zr_c (v_bk L i) (ci h5 180) := by rw [hp5.2.1.gi (by decide)]; exact k5
      have hV6 : zv_R (v_go B L (i + 2)) (ci h5 177) := by rw [hp5.2.1.gi (by decide)]; exact hV5
      have m5 : (v_mk (v_mk (v_go B L i) (v_bk L i)).2.1 (v_ft L i)).1 < 10 := v_make_9
      have hS := hp5.1
      show zp_wp X y_Mod_commute 229 [.ref 171, .ref l, .int (nI i), .int (nI (5 * i)), .int (nI 1)] [.int (nI ((v_mk (v_mk (v_go B L i) (v_bk L i)).2.1 (v_ft L i)).1))] h5 Q
      refine zp_ifN_ne (tgt := 236) rfl rfl (by omega) (fun b229 => ?_) (fun b229 => ?_)
      · refine zp_iconst (v := (nI 0)) rfl (by decide +kernel) ?_
        refine zp_istore_4 rfl rfl ?_
        refine zp_iload (x := (nI 0)) rfl rfl ?_
        refine zp_ifT (tgt := 262) rfl rfl (by decide +kernel) ?_
        refine zp_iconst (v := (nI 0)) rfl (by decide +kernel) ?_
        refine zp_zret rfl rfl (by decide) ?_
        first
        | (simp only [b176, b229, eo] at hq; exact hq _ hG5 k7 k6)
        | (rw [zb_ne b229, Bool.false_and, Bool.and_false] at hq; exact hq _ hG5 k7 k6)
        | (rw [zb_ne b176, Bool.false_and] at hq; exact hq _ hG4 k5 k4)
      · refine zp_iconst (v := (nI 1)) rfl (by decide +kernel) ?_
        refine zp_goto (tgt := 237) rfl rfl ?_
        refine zp_istore_4 rfl rfl ?_
        refine zp_iload (x := (nI 1)) rfl rfl ?_
        refine zp_ifF (tgt := 262) rfl rfl (by decide +kernel) ?_
        refine zp_aload_n (x := 171) rfl rfl ?_
        refine zq_getr (k9 := 176) hS rfl (by first | assumption | exact ⟨by decide, rfl⟩) rfl ?_
        refine zp_aload_n (x := 171) rfl rfl ?_
        refine zq_getr (k9 := 177) hS rfl (by first | assumption | exact ⟨by decide, rfl⟩) rfl ?_
        refine zp_call rfl rfl (s_Mod_areOne hS ⟨by decide, rfl⟩ hp5.2.2.1 ((hWi.mk gb).mk gf).B ((hWi.mk gb).mk gf).U ⟨by decide, rfl⟩ hV6 hWi2.B hWi2.U ?_)
        cases eo : v_one (v_mk (v_mk (v_go B L i) (v_bk L i)).2.1 (v_ft L i)).2.1 (v_go B L (i + 2)) with
        | false =>
          show zp_wp X y_Mod_commute 255 [.ref 171, .ref l, .int (nI i), .int (nI (5 * i)), .int (nI 1)] [.int (nI 0)] h5 Q
          refine zp_ifT (tgt := 262) rfl rfl (by decide +kernel) ?_
          refine zp_iconst (v := (nI 0)) rfl (by decide +kernel) ?_
          refine zp_zret rfl rfl (by decide) ?_
          first
          | (simp only [b176, b229, eo] at hq; exact hq _ hG5 k7 k6)
          | (rw [zb_ne b229, Bool.false_and, Bool.and_false] at hq; exact hq _ hG5 k7 k6)
          | (rw [zb_ne b176, Bool.false_and] at hq; exact hq _ hG4 k5 k4)
        | true =>
          show zp_wp X y_Mod_commute 255 [.ref 171, .ref l, .int (nI i), .int (nI (5 * i)), .int (nI 1)] [.int (nI 1)] h5 Q
          refine zp_ifF (tgt := 262) rfl rfl (by decide +kernel) ?_
          refine zp_iconst (v := (nI 1)) rfl (by decide +kernel) ?_
          refine zp_goto (tgt := 263) rfl rfl ?_
          refine zp_zret rfl rfl (by decide) ?_
          first
          | (simp only [b176, b229, eo] at hq; exact hq _ hG5 k7 k6)
          | (rw [zb_ne b229, Bool.false_and, Bool.and_false] at hq; exact hq _ hG5 k7 k6)
          | (rw [zb_ne b176, Bool.false_and] at hq; exact hq _ hG4 k5 k4)
  have lp : ∀ k j h', j + k = 5 → zr_G [176, 177, 180, 181] h h' → zv_R (v_go B L i) (ci h' 176) → zv_R (v_go B L (i + 2)) (ci h' 177) → (∀ t, t < j → ci h' 181 t = ci h l (5 * i + t) ∧ ci h' 180 t = ci h l (5 * i + 5 + t)) → zp_wp X y_Mod_commute 29 [.ref 171, .ref l, .int (nI i), .int (nI (5 * i)), .int (nI j)] [] h' Q := by
    intro k
    induction k with
    | zero =>
      intro j h' hj hG hV1 hV2 ht
      refine zp_iload (x := (nI j)) rfl rfl ?_
      refine zp_iconst (v := (nI 5)) rfl (by decide +kernel) ?_
      refine zp_icmpN_ge (tgt := 69) rfl rfl (by omega) (by omega) (fun b32 => ?_) (fun b32 => ?_)
      · obtain ⟨w0, w1, w2, w3, w4⟩ := hL i (by omega)
        obtain ⟨x0, x1, x2, x3, x4⟩ := hL (i + 1) (by omega)
        refine mid _ _ hG hV1 hV2 ⟨?_, ?_, ?_, ?_, ?_⟩ ⟨?_, ?_, ?_, ?_, ?_⟩
        · rw [(ht 0 (by omega)).2]; exact x0
        · rw [(ht 1 (by omega)).2]; exact x1
        · rw [(ht 2 (by omega)).2]; exact x2
        · rw [(ht 3 (by omega)).2]; exact x3
        · rw [(ht 4 (by omega)).2]; exact x4
        · rw [(ht 0 (by omega)).1]; exact w0
        · rw [(ht 1 (by omega)).1]; exact w1
        · rw [(ht 2 (by omega)).1]; exact w2
        · rw [(ht 3 (by omega)).1]; exact w3
        · rw [(ht 4 (by omega)).1]; exact w4
      · omega
    | succ k ih =>
      intro j h' hj hG hV1 hV2 ht
      have hS := hG.1.1
      refine zp_iload (x := (nI j)) rfl rfl ?_
      refine zp_iconst (v := (nI 5)) rfl (by decide +kernel) ?_
      refine zp_icmpN_ge (tgt := 69) rfl rfl (by omega) (by omega) (fun b32 => ?_) (fun b32 => ?_)
      · omega
      · refine zp_aload_n (x := 171) rfl rfl ?_
        refine zq_getr (k9 := 181) hS rfl (by first | assumption | exact ⟨by decide, rfl⟩) rfl ?_
        refine zp_iload (x := (nI j)) rfl rfl ?_
        refine zp_aload_n (x := l) rfl rfl ?_
        refine zp_iload_n (x := (nI (5 * i))) rfl rfl ?_
        refine zp_iload (x := (nI j)) rfl rfl ?_
        refine zp_iaddN rfl ?_
        refine zq_iald hS rfl (by first | assumption | exact ⟨by decide, rfl⟩) (by omega) (by decide) ?_
        refine zq_iast hS rfl (by first | assumption | exact ⟨by decide, rfl⟩) (by omega) (by decide) (fun hS47 => ?_)
        have hS := hS47
        refine zp_aload_n (x := 171) rfl rfl ?_
        refine zq_getr (k9 := 180) hS rfl (by first | assumption | exact ⟨by decide, rfl⟩) rfl ?_
        refine zp_iload (x := (nI j)) rfl rfl ?_
        refine zp_aload_n (x := l) rfl rfl ?_
        refine zp_iload_n (x := (nI (5 * i))) rfl rfl ?_
        refine zp_iconst (v := (nI 5)) rfl (by decide +kernel) ?_
        refine zp_iaddN rfl ?_
        refine zp_iload (x := (nI j)) rfl rfl ?_
        refine zp_iaddN rfl ?_
        refine zq_iald hS rfl (by first | assumption | exact ⟨by decide, rfl⟩) (by omega) (by decide) ?_
        refine zq_iast hS rfl (by first | assumption | exact ⟨by decide, rfl⟩) (by omega) (by decide) (fun hS62 => ?_)
        have hS := hS62
        refine zp_iincN_4 rfl rfl ?_
        refine zp_goto (tgt := 29) rfl rfl ?_
        refine ih (j + 1) _ (by omega) ((hG.tr (zr_G.zi (T := [176, 177, 180, 181]) (by decide) (by decide) hS47) (fun _ q => q)).tr (zr_G.zi (T := [176, 177, 180, 181]) (by decide) (by decide) hS62) (fun _ q => q)) ?_ ?_ (fun t ht2 => ?_)
        · rw [zi_ne (by decide), zi_ne (by decide)]; exact hV1
        · rw [zi_ne (by decide), zi_ne (by decide)]; exact hV2
        · rw [zi_ne (show (181 : Nat) ≠ 180 by decide), zi_at, zi_at, zi_ne (show (180 : Nat) ≠ 181 by decide), zi_ne l181, hG.gi lT l171]
          by_cases e : t = j
          · subst e; rw [pk_us, pk_us]; exact ⟨rfl, rfl⟩
          · rw [pk_un e, pk_un e]; exact ht t (by omega)
  refine zp_aload_n (x := 171) rfl rfl ?_
  refine zp_aload_n (x := 171) rfl rfl ?_
  refine zq_getr (k9 := 176) hS rfl (by first | assumption | exact ⟨by decide, rfl⟩) rfl ?_
  refine zp_aload_n (x := l) rfl rfl ?_
  refine zp_iload_n (x := (nI i)) rfl rfl ?_
  refine zq_virt hS rfl rfl (by first | assumption | exact ⟨by decide, rfl⟩) rfl (s_Mod_goesTo (B := B) (L := L) hS ⟨by decide, rfl⟩ (by decide) hb hW hl hL (by omega) (fun j hj => hc j (by omega)) (fun h2 hG2 hV2 => ?_))
  have hS := hG2.1.1
  show zp_wp X y_Mod_commute 10 [.ref 171, .ref l, .int (nI i), zm_mk, zm_mk] [] h2 Q
  refine zp_aload_n (x := 171) rfl rfl ?_
  refine zp_aload_n (x := 171) rfl rfl ?_
  refine zq_getr (k9 := 177) hS rfl (by first | assumption | exact ⟨by decide, rfl⟩) rfl ?_
  refine zp_aload_n (x := l) rfl rfl ?_
  refine zp_iload_n (x := (nI i)) rfl rfl ?_
  refine zp_iconst (v := (nI 2)) rfl (by decide +kernel) ?_
  refine zp_iaddN rfl ?_
  refine zq_virt hS rfl rfl (by first | assumption | exact ⟨by decide, rfl⟩) rfl (s_Mod_goesTo (B := B) (L := L) hS ⟨by decide, rfl⟩ (by decide) (by rw [hG2.gi (by decide) (by decide)]; exact hb) hW hl (by rw [hG2.gi (by simpa using l176) l171]; exact hL) hi hc (fun h3 hG3 hV3 => ?_))
  show zp_wp X y_Mod_commute 22 [.ref 171, .ref l, .int (nI i), zm_mk, zm_mk] [] h3 Q
  refine zp_iconst (v := (nI 5)) rfl (by decide +kernel) ?_
  refine zp_iload_n (x := (nI i)) rfl rfl ?_
  refine zp_imulN rfl ?_
  refine zp_istore_n_3 rfl rfl ?_
  refine zp_iconst (v := (nI 0)) rfl (by decide +kernel) ?_
  refine zp_istore_4 rfl rfl ?_
  exact lp 5 0 _ rfl (((zr_G.rf (T := [176, 177, 180, 181]) hS0).tr hG2 (by decide)).tr hG3 (by decide)) (by rw [hG3.gi (by decide) (by decide)]; exact hV2) hV3 (fun t ht => absurd ht (by omega))
theorem s_Mod_exchanges {i : Nat} {b f : zch} (hS : zs_H h) (hl : zs_I l 150) (hL : zr_L L (ci h l)) (hi : i + 2 ≤ 30) (hb : zr_c b (ci h 180)) (hf : zr_c f (ci h 181)) (hq : ∀ h', zs_H h' → zh_eq (fun x => x = l) h h' → zr_L (va_up (va_up L i b) (i + 1) f) (ci h' l) → Q (.inl none) h') : zp_wm X y_Mod_exchanges [.ref 171, .ref l, .int (nI i)] h Q := by
  show zp_wp X y_Mod_exchanges 0 [.ref 171, .ref l, .int (nI i), zm_mk] [] h Q
  have l180 : l ≠ 180 := fun e => by subst e; exact absurd (zs_I_n hl ⟨by decide, rfl⟩ : 150 = 5) (by decide)
  have l181 : l ≠ 181 := fun e => by subst e; exact absurd (zs_I_n hl ⟨by decide, rfl⟩ : 150 = 5) (by decide)
  have lp : ∀ k j h', j + k = 5 → zs_H h' → zh_eq (fun x => x = l) h h' → (∀ t, t < j → ci h' l (5 * i + t) = ci h 180 t ∧ ci h' l (5 * i + 5 + t) = ci h 181 t) → (∀ t, ¬ (5 * i ≤ t ∧ t < 5 * i + 10) → ci h' l t = ci h l t) → zp_wp X y_Mod_exchanges 2 [.ref 171, .ref l, .int (nI i), .int (nI j)] [] h' Q := by
    intro k
    induction k with
    | zero =>
      intro j h' hj hS he ht hu
      refine zp_iload_n (x := (nI j)) rfl rfl ?_
      refine zp_iconst (v := (nI 5)) rfl (by decide +kernel) ?_
      refine zp_icmpN_ge (tgt := 41) rfl rfl (by omega) (by omega) (fun b4 => ?_) (fun b4 => ?_)
      · refine zp_vret rfl rfl ?_
        refine hq h' hS he (fun z hz => ?_)
        obtain ⟨b0, b1, b2, b3, b4⟩ := hb
        obtain ⟨f0, f1, f2, f3, f4⟩ := hf
        by_cases e1 : z = i + 1
        · subst e1
          simp only [va_up, if_true]
          refine ⟨?_, ?_, ?_, ?_, ?_⟩
          · rw [show 5 * (i + 1) = 5 * i + 5 + 0 by omega, (ht 0 (by omega)).2]; exact f0
          · rw [show 5 * (i + 1) + 1 = 5 * i + 5 + 1 by omega, (ht 1 (by omega)).2]; exact f1
          · rw [show 5 * (i + 1) + 2 = 5 * i + 5 + 2 by omega, (ht 2 (by omega)).2]; exact f2
          · rw [show 5 * (i + 1) + 3 = 5 * i + 5 + 3 by omega, (ht 3 (by omega)).2]; exact f3
          · rw [show 5 * (i + 1) + 4 = 5 * i + 5 + 4 by omega, (ht 4 (by omega)).2]; exact f4
        · by_cases e2 : z = i
          · subst e2
            simp only [va_up, if_neg e1, if_true]
            refine ⟨?_, ?_, ?_, ?_, ?_⟩
            · rw [show 5 * z = 5 * z + 0 by omega, (ht 0 (by omega)).1]; exact b0
            · rw [(ht 1 (by omega)).1]; exact b1
            · rw [(ht 2 (by omega)).1]; exact b2
            · rw [(ht 3 (by omega)).1]; exact b3
            · rw [(ht 4 (by omega)).1]; exact b4
          · simp only [va_up, if_neg e1, if_neg e2]
            rw [hu _ (by omega), hu _ (by omega), hu _ (by omega), hu _ (by omega), hu _ (by omega)]
            exact hL z hz
      · omega
    | succ k ih =>
      intro j h' hj hS he ht hu
      refine zp_iload_n (x := (nI j)) rfl rfl ?_
      refine zp_iconst (v := (nI 5)) rfl (by decide +kernel) ?_
      refine zp_icmpN_ge (tgt := 41) rfl rfl (by omega) (by omega) (fun b4 => ?_) (fun b4 => ?_)
      · omega
      · refine zp_aload_n (x := l) rfl rfl ?_
        refine zp_iconst (v := (nI 5)) rfl (by decide +kernel) ?_
        refine zp_iload_n (x := (nI i)) rfl rfl ?_
        refine zp_imulN rfl ?_
        refine zp_iload_n (x := (nI j)) rfl rfl ?_
        refine zp_iaddN rfl ?_
        refine zp_aload_n (x := 171) rfl rfl ?_
        refine zq_getr (k9 := 180) hS rfl (by first | assumption | exact ⟨by decide, rfl⟩) rfl ?_
        refine zp_iload_n (x := (nI j)) rfl rfl ?_
        refine zq_iald hS rfl (by first | assumption | exact ⟨by decide, rfl⟩) (by omega) (by decide) ?_
        refine zq_iast hS rfl (by first | assumption | exact ⟨by decide, rfl⟩) (by omega) (by decide) (fun hS19 => ?_)
        have hS := hS19
        refine zp_aload_n (x := l) rfl rfl ?_
        refine zp_iconst (v := (nI 5)) rfl (by decide +kernel) ?_
        refine zp_iload_n (x := (nI i)) rfl rfl ?_
        refine zp_imulN rfl ?_
        refine zp_iconst (v := (nI 5)) rfl (by decide +kernel) ?_
        refine zp_iaddN rfl ?_
        refine zp_iload_n (x := (nI j)) rfl rfl ?_
        refine zp_iaddN rfl ?_
        refine zp_aload_n (x := 171) rfl rfl ?_
        refine zq_getr (k9 := 181) hS rfl (by first | assumption | exact ⟨by decide, rfl⟩) rfl ?_
        refine zp_iload_n (x := (nI j)) rfl rfl ?_
        refine zq_iald hS rfl (by first | assumption | exact ⟨by decide, rfl⟩) (by omega) (by decide) ?_
        refine zq_iast hS rfl (by first | assumption | exact ⟨by decide, rfl⟩) (by omega) (by decide) (fun hS34 => ?_)
        have hS := hS34
        refine zp_iincN_3 rfl rfl ?_
        refine zp_goto (tgt := 2) rfl rfl ?_
        refine ih (j + 1) _ (by omega) hS ((he.zi rfl).zi rfl) (fun t ht2 => ?_) (fun t ht2 => ?_)
        · rw [zi_at, zi_at, zi_ne (Ne.symm l181), he.gi (Ne.symm l180), he.gi (Ne.symm l181)]
          by_cases e : t = j
          · subst e
            rw [pk_un (by omega), pk_us, pk_us]
            exact ⟨rfl, rfl⟩
          · rw [pk_un (by omega), pk_un (by omega), pk_un (by omega), pk_un (by omega)]
            exact ht t (by omega)
        · rw [zi_at, zi_at, pk_un (by omega), pk_un (by omega)]
          exact hu t ht2
  refine zp_iconst (v := (nI 0)) rfl (by decide +kernel) ?_
  refine zp_istore_n_3 rfl rfl ?_
  exact lp 5 0 _ rfl hS zh_eq.rf (fun t ht => absurd ht (by omega)) (fun _ _ => rfl)
def z_commutes (s : zst) (i : Int32) : Nat × Int32 × zst := cond (g_lt (g_n s - 1) i) (0, zf_b (v_com (g_b s) (g_L s) (i2n i)), s) (1, nI 0, s)
def z_exchange (s : zst) (i : Int32) : Nat × Int32 × zst := cond (g_lt (g_n s - 1) i) (cond (v_com (g_b s) (g_L s) (i2n i)) (0, nI 1, (s.1, (v_ex (g_L s) (i2n i), g_n s), s.2.2)) (0, nI 0, s)) (1, nI 0, s)
theorem g_lt2_in {n : Nat} {i : Int32} (hn : n ≤ 30) : (if nI 0 ≤ i ∧ i ≤ nI n - nI 2 then (1 : Int32) else 0) = zf_b (g_lt (n - 1) i) := by
  have := g_lt_in (n := n) (d := 2) (i := i) (by omega) (by decide) (by decide)
  rw [show n + 1 - 2 = n - 1 by omega] at this
  exact this
theorem zr_G.D {t : Nat} (a : zr_G T h1 h2) (hs : zr_S s h1) (hT : 172 ∉ T ∧ 173 ∉ T ∧ 174 ∉ T ∧ 178 ∉ T ∧ 188 ∉ T) (hU : ∀ x, x ∈ T → 171 ≤ x ∧ x ≤ 188) (ht : cf h1 171 9 = nI t) (hF : zr_F [] h h1) : zr_D s t h h2 := ⟨a.1.S hs hT, (hF.big (by decide)).trans (a.1.big hU), a.2.trans ht⟩
theorem s_Mod_commutes {i : Int32} (hs : zr_S s h) (hB : zr_B s) (hW : zv_W (g_b s)) (hc : ∀ i, i < g_n s → zc_leg (g_L s i)) (hq : ∀ h', zr_D (z_commutes s i).2.2 (z_commutes s i).1 h h' → Q (.inl (some (.int (z_commutes s i).2.1))) h') : zp_wm X y_Mod_commutes [.ref 171, .int i] h Q := by
  have hS := hs.1
  have hn := hs.2.2.2.1
  have hn30 := hB.2.2.1
  unfold z_commutes at hq
  show zp_wp X y_Mod_commutes 0 [.ref 171, .int i] [] h Q
  cases hi : g_lt (g_n s - 1) i with
  | false =>
    rw [hi] at hq
    refine zp_aload_n (x := 171) rfl rfl ?_
    refine zp_iload_n (x := i) rfl rfl ?_
    refine zp_iconst (v := (nI 0)) rfl (by decide +kernel) ?_
    refine zp_aload_n (x := 171) rfl rfl ?_
    refine zq_geti hS rfl (by first | assumption | exact ⟨by decide, rfl⟩) rfl ?_
    rw [hn]
    refine zp_iconst (v := (nI 2)) rfl (by decide +kernel) ?_
    refine zp_isub rfl rfl ?_
    refine zp_call rfl rfl (s_Mod_in ?_)
    rw [g_lt2_in hn30, hi]
    show zp_wp X y_Mod_commutes 12 [.ref 171, .int i] [.int (nI 0), .ref 171] h Q
    refine zp_ifT (tgt := 19) rfl rfl (by decide +kernel) ?_
    refine zp_iconst (v := (nI 1)) rfl (by decide +kernel) ?_
    refine zq_put hS rfl (by first | assumption | exact ⟨by decide, rfl⟩) rfl rfl (fun hS20 => ?_)
    have hS := hS20
    refine zp_aload_n (x := 171) rfl rfl ?_
    refine zq_geti hS rfl (by first | assumption | exact ⟨by decide, rfl⟩) rfl ?_
    rw [zf_at9 hS20 (by first | assumption | exact ⟨by decide, rfl⟩) rfl]
    refine zp_ifT (tgt := 46) rfl rfl (by decide +kernel) ?_
    refine zp_iconst (v := (nI 0)) rfl (by decide +kernel) ?_
    refine zp_zret rfl rfl (by decide) ?_
    exact hq _ ((zr_F.f9 (T := []) hS).D hs (by decide) (by decide) (zf_at9 hS zs_M rfl))
  | true =>
    rw [hi] at hq
    obtain ⟨hi1, hi2⟩ := g_lt_n hi
    clear hi
    generalize i2n i = i' at *
    subst hi1
    refine zp_aload_n (x := 171) rfl rfl ?_
    refine zp_iload_n (x := (nI i')) rfl rfl ?_
    refine zp_iconst (v := (nI 0)) rfl (by decide +kernel) ?_
    refine zp_aload_n (x := 171) rfl rfl ?_
    refine zq_geti hS rfl (by first | assumption | exact ⟨by decide, rfl⟩) rfl ?_
    rw [hn]
    refine zp_iconst (v := (nI 2)) rfl (by decide +kernel) ?_
    refine zp_isub rfl rfl ?_
    refine zp_call rfl rfl (s_Mod_in ?_)
    rw [g_lt2_in hn30, g_lt_i hi2 (by omega)]
    show zp_wp X y_Mod_commutes 12 [.ref 171, .int (nI i')] [.int (nI 1), .ref 171] h Q
    refine zp_ifF (tgt := 19) rfl rfl (by decide +kernel) ?_
    refine zp_iconst (v := (nI 0)) rfl (by decide +kernel) ?_
    refine zp_goto (tgt := 20) rfl rfl ?_
    refine zq_put hS rfl (by first | assumption | exact ⟨by decide, rfl⟩) rfl rfl (fun hS20 => ?_)
    have hS := hS20
    refine zp_aload_n (x := 171) rfl rfl ?_
    refine zq_geti hS rfl (by first | assumption | exact ⟨by decide, rfl⟩) rfl ?_
    rw [zf_at9 hS20 (by first | assumption | exact ⟨by decide, rfl⟩) rfl]
    refine zp_ifF (tgt := 46) rfl rfl (by decide +kernel) ?_
    refine zp_aload_n (x := 171) rfl rfl ?_
    refine zp_aload_n (x := 171) rfl rfl ?_
    refine zq_getr (k9 := 178) hS rfl (by first | assumption | exact ⟨by decide, rfl⟩) rfl ?_
    refine zp_iload_n (x := (nI i')) rfl rfl ?_
    refine zq_virt hS rfl rfl (by first | assumption | exact ⟨by decide, rfl⟩) rfl (s_Mod_commute (B := g_b s) (L := g_L s) hS (zr_hs9 hs hS).2.1.2.2 hW ⟨by decide, rfl⟩ (zr_hs9 hs hS).2.2.1 (by omega) (fun j hj => hc j (by omega)) (fun h2 hG k1 k2 => ?_))
    cases eo : v_com (g_b s) (g_L s) i' with
    | false =>
      show zp_wp X y_Mod_commutes 39 [.ref 171, .int (nI i')] [.int (nI 0)] h2 Q
      refine zp_ifT (tgt := 46) rfl rfl (by decide +kernel) ?_
      refine zp_iconst (v := (nI 0)) rfl (by decide +kernel) ?_
      refine zp_zret rfl rfl (by decide) ?_
      simp only [eo] at hq; exact hq _ (hG.D (zr_hs9 hs hS) (by decide) (by decide) (zf_at9 hS zs_M rfl) (zr_F.f9 hS))
    | true =>
      show zp_wp X y_Mod_commutes 39 [.ref 171, .int (nI i')] [.int (nI 1)] h2 Q
      refine zp_ifF (tgt := 46) rfl rfl (by decide +kernel) ?_
      refine zp_iconst (v := (nI 1)) rfl (by decide +kernel) ?_
      refine zp_goto (tgt := 47) rfl rfl ?_
      refine zp_zret rfl rfl (by decide) ?_
      simp only [eo] at hq; exact hq _ (hG.D (zr_hs9 hs hS) (by decide) (by decide) (zf_at9 hS zs_M rfl) (zr_F.f9 hS))
theorem s_Mod_exchange {i : Int32} (hs : zr_S s h) (hB : zr_B s) (hW : zv_W (g_b s)) (hc : ∀ i, i < g_n s → zc_leg (g_L s i)) (hq : ∀ h', zr_D (z_exchange s i).2.2 (z_exchange s i).1 h h' → Q (.inl (some (.int (z_exchange s i).2.1))) h') : zp_wm X y_Mod_exchange [.ref 171, .int i] h Q := by
  have hS := hs.1
  have hn := hs.2.2.2.1
  have hn30 := hB.2.2.1
  unfold z_exchange at hq
  show zp_wp X y_Mod_exchange 0 [.ref 171, .int i, zm_mk] [] h Q
  cases hi : g_lt (g_n s - 1) i with
  | false =>
    rw [hi] at hq
    refine zp_aload_n (x := 171) rfl rfl ?_
    refine zp_iload_n (x := i) rfl rfl ?_
    refine zp_iconst (v := (nI 0)) rfl (by decide +kernel) ?_
    refine zp_aload_n (x := 171) rfl rfl ?_
    refine zq_geti hS rfl (by first | assumption | exact ⟨by decide, rfl⟩) rfl ?_
    rw [hn]
    refine zp_iconst (v := (nI 2)) rfl (by decide +kernel) ?_
    refine zp_isub rfl rfl ?_
    refine zp_call rfl rfl (s_Mod_in ?_)
    rw [g_lt2_in hn30, hi]
    show zp_wp X y_Mod_exchange 12 [.ref 171, .int i, zm_mk] [.int (nI 0), .ref 171] h Q
    refine zp_ifT (tgt := 19) rfl rfl (by decide +kernel) ?_
    refine zp_iconst (v := (nI 1)) rfl (by decide +kernel) ?_
    refine zq_put hS rfl (by first | assumption | exact ⟨by decide, rfl⟩) rfl rfl (fun hS20 => ?_)
    have hS := hS20
    refine zp_aload_n (x := 171) rfl rfl ?_
    refine zq_geti hS rfl (by first | assumption | exact ⟨by decide, rfl⟩) rfl ?_
    rw [zf_at9 hS20 (by first | assumption | exact ⟨by decide, rfl⟩) rfl]
    refine zp_ifT (tgt := 46) rfl rfl (by decide +kernel) ?_
    refine zp_iconst (v := (nI 0)) rfl (by decide +kernel) ?_
    refine zp_istore_n_2 rfl rfl ?_
    refine zp_iload_n (x := (nI 0)) rfl rfl ?_
    refine zp_ifT (tgt := 61) rfl rfl (by decide +kernel) ?_
    refine zp_iload_n (x := (nI 0)) rfl rfl ?_
    refine zp_zret rfl rfl (by decide) ?_
    exact hq _ ((zr_F.f9 (T := []) hS).D hs (by decide) (by decide) (zf_at9 hS zs_M rfl))
  | true =>
    rw [hi] at hq
    obtain ⟨hi1, hi2⟩ := g_lt_n hi
    clear hi
    generalize i2n i = i' at *
    subst hi1
    have hS0 := hS
    refine zp_aload_n (x := 171) rfl rfl ?_
    refine zp_iload_n (x := (nI i')) rfl rfl ?_
    refine zp_iconst (v := (nI 0)) rfl (by decide +kernel) ?_
    refine zp_aload_n (x := 171) rfl rfl ?_
    refine zq_geti hS rfl (by first | assumption | exact ⟨by decide, rfl⟩) rfl ?_
    rw [hn]
    refine zp_iconst (v := (nI 2)) rfl (by decide +kernel) ?_
    refine zp_isub rfl rfl ?_
    refine zp_call rfl rfl (s_Mod_in ?_)
    rw [g_lt2_in hn30, g_lt_i hi2 (by omega)]
    show zp_wp X y_Mod_exchange 12 [.ref 171, .int (nI i'), zm_mk] [.int (nI 1), .ref 171] h Q
    refine zp_ifF (tgt := 19) rfl rfl (by decide +kernel) ?_
    refine zp_iconst (v := (nI 0)) rfl (by decide +kernel) ?_
    refine zp_goto (tgt := 20) rfl rfl ?_
    refine zq_put hS rfl (by first | assumption | exact ⟨by decide, rfl⟩) rfl rfl (fun hS20 => ?_)
    have hS := hS20
    refine zp_aload_n (x := 171) rfl rfl ?_
    refine zq_geti hS rfl (by first | assumption | exact ⟨by decide, rfl⟩) rfl ?_
    rw [zf_at9 hS20 (by first | assumption | exact ⟨by decide, rfl⟩) rfl]
    refine zp_ifF (tgt := 46) rfl rfl (by decide +kernel) ?_
    refine zp_aload_n (x := 171) rfl rfl ?_
    refine zp_aload_n (x := 171) rfl rfl ?_
    refine zq_getr (k9 := 178) hS rfl (by first | assumption | exact ⟨by decide, rfl⟩) rfl ?_
    refine zp_iload_n (x := (nI i')) rfl rfl ?_
    refine zq_virt hS rfl rfl (by first | assumption | exact ⟨by decide, rfl⟩) rfl (s_Mod_commute (B := g_b s) (L := g_L s) hS (zr_hs9 hs hS).2.1.2.2 hW ⟨by decide, rfl⟩ (zr_hs9 hs hS).2.2.1 (by omega) (fun j hj => hc j (by omega)) (fun h2 hG k1 k2 => ?_))
    have hD : zr_D s 0 h h2 := hG.D (zr_hs9 hs hS) (by decide) (by decide) (zf_at9 hS zs_M rfl) (zr_F.f9 hS)
    have hS := hG.1.1
    cases eo : v_com (g_b s) (g_L s) i' with
    | false =>
      show zp_wp X y_Mod_exchange 39 [.ref 171, .int (nI i'), zm_mk] [.int (nI 0)] h2 Q
      refine zp_ifT (tgt := 46) rfl rfl (by decide +kernel) ?_
      refine zp_iconst (v := (nI 0)) rfl (by decide +kernel) ?_
      refine zp_istore_n_2 rfl rfl ?_
      refine zp_iload_n (x := (nI 0)) rfl rfl ?_
      refine zp_ifT (tgt := 61) rfl rfl (by decide +kernel) ?_
      refine zp_iload_n (x := (nI 0)) rfl rfl ?_
      refine zp_zret rfl rfl (by decide) ?_
      simp only [eo] at hq
      first
      | exact hq _ hD
      | (refine hq _ ⟨⟨hS3, ⟨?_, ?_, ?_⟩, hL3, ?_, ?_, ?_⟩, hD.2.1.trans (he3.mono (fun x q => by rw [q]; decide)), by rw [he3.gf (by decide)]; exact hD.2.2⟩
         · rw [he3.gi (by decide)]; exact hD.1.2.1.1
         · rw [he3.gi (by decide)]; exact hD.1.2.1.2.1
         · rw [he3.gi (by decide)]; exact hD.1.2.1.2.2
         · rw [he3.gf (by decide)]; exact hD.1.2.2.2.1
         · rw [he3.gf (by decide)]; exact hD.1.2.2.2.2.1
         · rw [he3.gi (by decide)]; exact hD.1.2.2.2.2.2)
    | true =>
      show zp_wp X y_Mod_exchange 39 [.ref 171, .int (nI i'), zm_mk] [.int (nI 1)] h2 Q
      refine zp_ifF (tgt := 46) rfl rfl (by decide +kernel) ?_
      refine zp_iconst (v := (nI 1)) rfl (by decide +kernel) ?_
      refine zp_goto (tgt := 47) rfl rfl ?_
      refine zp_istore_n_2 rfl rfl ?_
      refine zp_iload_n (x := (nI 1)) rfl rfl ?_
      refine zp_ifF (tgt := 61) rfl rfl (by decide +kernel) ?_
      refine zp_aload_n (x := 171) rfl rfl ?_
      refine zp_aload_n (x := 171) rfl rfl ?_
      refine zq_getr (k9 := 178) hS rfl (by first | assumption | exact ⟨by decide, rfl⟩) rfl ?_
      refine zp_iload_n (x := (nI i')) rfl rfl ?_
      refine zq_virt hS rfl rfl (by first | assumption | exact ⟨by decide, rfl⟩) rfl (s_Mod_exchanges hS ⟨by decide, rfl⟩ hD.1.2.2.1 (by omega) k1 k2 (fun h3 hS3 he3 hL3 => ?_))
      show zp_wp X y_Mod_exchange 61 [.ref 171, .int (nI i'), .int (nI 1)] [] h3 Q
      refine zp_iload_n (x := (nI 1)) rfl rfl ?_
      refine zp_zret rfl rfl (by decide) ?_
      simp only [eo] at hq
      first
      | exact hq _ hD
      | (refine hq _ ⟨⟨hS3, ⟨?_, ?_, ?_⟩, hL3, ?_, ?_, ?_⟩, hD.2.1.trans (he3.mono (fun x q => by rw [q]; decide)), by rw [he3.gf (by decide)]; exact hD.2.2⟩
         · rw [he3.gi (by decide)]; exact hD.1.2.1.1
         · rw [he3.gi (by decide)]; exact hD.1.2.1.2.1
         · rw [he3.gi (by decide)]; exact hD.1.2.1.2.2
         · rw [he3.gf (by decide)]; exact hD.1.2.2.2.1
         · rw [he3.gf (by decide)]; exact hD.1.2.2.2.2.1
         · rw [he3.gi (by decide)]; exact hD.1.2.2.2.2.2)
/-! needs -/
def v_try (B : zv) : (Nat → zch) → Nat → Nat → Option (Nat → zch)
  | T, _, 0 => some T
  | T, p, k + 1 => cond (v_com B T p) (v_try B (v_ex T p) (p + 1) k) none
def v_nd (B : zv) : Nat → (Nat → zch) → Nat → Int32 → Int32
  | 0, _, _, n => n
  | j + 1, T, b, n => match v_try B T j b with
    | some T' => v_nd B j T' b n
    | none => v_nd B j T (b + 1) (n ||| (nI 1 <<< (nI j &&& 31)))
def v_needs (B : zv) (L : Nat → zch) (i : Nat) : Int32 := v_nd B i L 1 (nI 0)
theorem nI_m1 (j : Nat) : nI j + Int32.ofInt (-1) = zf_o (v_pr j) := by
  rw [← v_pr_sub, Int32.sub_eq_add_neg]
  rfl
theorem s_Mod_needsOf {i n : Nat} (hS : zs_H h) (hb : zv_R B (ci h 174)) (hW : zv_W B) (hL : zr_L L (ci h 178)) (hi : i < n) (hn : n ≤ 30) (hc : ∀ j, j < n → zc_leg (L j)) (hq : ∀ h', zr_G [176, 177, 179, 180, 181, 182] h h' → Q (.inl (some (.int (v_needs B L i)))) h') : zp_wm X y_Mod_needsOf [.ref 171, .int (nI i)] h Q := by
  show zp_wp X y_Mod_needsOf 0 [.ref 171, .int (nI i), zm_mk, zm_mk, zm_mk, zm_mk, zm_mk] [] h Q
  have lp : ∀ c T b nd h' x y, c + b ≤ i + 1 → zr_G [176, 177, 179, 180, 181, 182] h h' → zr_L T (ci h' 179) → (∀ j, j < n → zc_leg (T j)) → v_needs B L i = v_nd B c T b nd → zp_wp X y_Mod_needsOf 20 [.ref 171, .int (nI i), .int nd, .int (nI b), .int (zf_o (v_pr c)), x, y] [] h' Q := by
    intro c
    induction c with
    | zero =>
      intro T b nd h' x y hcb hG hT hl he
      have hS := hG.1.1
      show zp_wp X y_Mod_needsOf 20 [.ref 171, .int (nI i), .int nd, .int (nI b), .int (-1), x, y] [] h' Q
      refine zp_iload (x := (-1)) rfl rfl ?_
      refine zp_ifT (tgt := 127) rfl rfl (by decide +kernel) ?_
      refine zp_iload_n (x := nd) rfl rfl ?_
      refine zp_iret rfl rfl ?_
      rw [he] at hq; exact hq _ hG
    | succ j ih =>
      intro T b nd h' x y hcb hG hT hl he
      have hS := hG.1.1
      show zp_wp X y_Mod_needsOf 20 [.ref 171, .int (nI i), .int nd, .int (nI b), .int (nI j), x, y] [] h' Q
      unfold v_nd at he
      have no : ∀ h2 z, zr_G [176, 177, 179, 180, 181, 182] h h2 → zr_L T (ci h2 179) → v_try B T j b = none → zp_wp X y_Mod_needsOf 92 [.ref 171, .int (nI i), .int nd, .int (nI b), .int (nI j), .int (nI 0), z] [] h2 Q := by
        intro h2 z hG2 hT2 ht
        have hS := hG2.1.1
        rw [ht] at he
        refine zp_iload (x := (nI 0)) rfl rfl ?_
        refine zp_ifT (tgt := 111) rfl rfl (by decide +kernel) ?_
        refine zp_iload_n (x := nd) rfl rfl ?_
        refine zp_iconst (v := (nI 1)) rfl (by decide +kernel) ?_
        refine zp_iload (x := (nI j)) rfl rfl ?_
        refine zp_ishl rfl rfl ?_
        refine zp_ior rfl rfl ?_
        refine zp_istore_n_2 rfl rfl ?_
        refine zp_iincN_3 rfl rfl ?_
        refine zp_iinc_4 rfl rfl rfl ?_
        refine zp_goto (tgt := 20) rfl rfl ?_
        rw [nI_m1]
        exact ih T (b + 1) _ h2 _ _ (by omega) hG2 hT2 hl he
      have yes : ∀ h2 z T', zr_G [176, 177, 179, 180, 181, 182] h h2 → zr_L T' (ci h2 182) → (∀ j, j < n → zc_leg (T' j)) → v_try B T j b = some T' → zp_wp X y_Mod_needsOf 92 [.ref 171, .int (nI i), .int nd, .int (nI b), .int (nI j), .int (nI 1), z] [] h2 Q := by
        intro h2 z T' hG2 hT2 hl2 ht
        have hS := hG2.1.1
        rw [ht] at he
        refine zp_iload (x := (nI 1)) rfl rfl ?_
        refine zp_ifF (tgt := 111) rfl rfl (by decide +kernel) ?_
        refine zp_aload_n (x := 171) rfl rfl ?_
        refine zq_getr (k9 := 182) hS rfl (by first | assumption | exact ⟨by decide, rfl⟩) rfl ?_
        refine zp_aload_n (x := 171) rfl rfl ?_
        refine zq_getr (k9 := 179) hS rfl (by first | assumption | exact ⟨by decide, rfl⟩) rfl ?_
        refine zp_call rfl rfl (s_Mod_copiesLog hS ⟨by decide, rfl⟩ ⟨by decide, rfl⟩ (by decide) (fun h3 hS3 he3 hc3 => ?_))
        show zp_wp X y_Mod_needsOf 108 [.ref 171, .int (nI i), .int nd, .int (nI b), .int (nI j), .int (nI 1), z] [] h3 Q
        refine zp_goto (tgt := 121) rfl rfl ?_
        refine zp_iinc_4 rfl rfl rfl ?_
        refine zp_goto (tgt := 20) rfl rfl ?_
        rw [nI_m1]
        exact ih T' b _ h3 _ _ (by omega) (hG2.tr (zr_G.cp (T := [179]) hS3 he3 (by decide) (by decide)) (by decide)) (hT2.cp hc3) hl2 he
      have out : ∀ h2 k, zr_G [176, 177, 179, 180, 181, 182] h h2 → zr_L T (ci h2 179) → v_try B T j b = none → k ≤ b → zp_wp X y_Mod_needsOf 42 [.ref 171, .int (nI i), .int nd, .int (nI b), .int (nI j), .int (nI 0), .int (nI k)] [] h2 Q := by
        intro h2 k hG2 hT2 ht hk
        refine zp_iload (x := (nI k)) rfl rfl ?_
        refine zp_iload_n (x := (nI b)) rfl rfl ?_
        refine zp_icmpN_ge (tgt := 92) rfl rfl (by omega) (by omega) (fun b45 => ?_) (fun b45 => ?_)
        · exact no h2 _ hG2 hT2 ht
        · refine zp_iload (x := (nI 0)) rfl rfl ?_
          refine zp_ifT (tgt := 92) rfl rfl (by decide +kernel) ?_
          exact no h2 _ hG2 hT2 ht
      have inn : ∀ m k T' h2, k + m = b → zr_G [176, 177, 179, 180, 181, 182] h h2 → zr_L T (ci h2 179) → zr_L T' (ci h2 182) → (∀ j, j < n → zc_leg (T' j)) → v_try B T j b = v_try B T' (j + k) m → zp_wp X y_Mod_needsOf 42 [.ref 171, .int (nI i), .int nd, .int (nI b), .int (nI j), .int (nI 1), .int (nI k)] [] h2 Q := by
        intro m
        induction m with
        | zero =>
          intro k T' h2 hk hG2 hT2 hT3 hl2 ht
          refine zp_iload (x := (nI k)) rfl rfl ?_
          refine zp_iload_n (x := (nI b)) rfl rfl ?_
          refine zp_icmpN_ge (tgt := 92) rfl rfl (by omega) (by omega) (fun b45 => ?_) (fun b45 => ?_)
          · exact yes h2 _ T' hG2 hT3 hl2 ht
          · omega
        | succ m ih2 =>
          intro k T' h2 hk hG2 hT2 hT3 hl2 ht
          have hS := hG2.1.1
          rw [show v_try B T' (j + k) (m + 1) = cond (v_com B T' (j + k)) (v_try B (v_ex T' (j + k)) (j + k + 1) m) none from rfl] at ht
          refine zp_iload (x := (nI k)) rfl rfl ?_
          refine zp_iload_n (x := (nI b)) rfl rfl ?_
          refine zp_icmpN_ge (tgt := 92) rfl rfl (by omega) (by omega) (fun b45 => ?_) (fun b45 => ?_)
          · omega
          · refine zp_iload (x := (nI 1)) rfl rfl ?_
            refine zp_ifF (tgt := 92) rfl rfl (by decide +kernel) ?_
            refine zp_aload_n (x := 171) rfl rfl ?_
            refine zp_aload_n (x := 171) rfl rfl ?_
            refine zq_getr (k9 := 182) hS rfl (by first | assumption | exact ⟨by decide, rfl⟩) rfl ?_
            refine zp_iload (x := (nI j)) rfl rfl ?_
            refine zp_iload (x := (nI k)) rfl rfl ?_
            refine zp_iaddN rfl ?_
            refine zq_virt hS rfl rfl (by first | assumption | exact ⟨by decide, rfl⟩) rfl (s_Mod_commute (B := B) (L := T') hS (by rw [hG2.gi (by decide) (by decide)]; exact hb) hW ⟨by decide, rfl⟩ hT3 (by omega) (fun z hz => hl2 z (by omega)) (fun h3 hG3 k1 k2 => ?_))
            have hG4 : zr_G [176, 177, 179, 180, 181, 182] h h3 := hG2.tr hG3 (by decide)
            have hT4 : zr_L T (ci h3 179) := by rw [hG3.gi (by decide) (by decide)]; exact hT2
            have hT5 : zr_L T' (ci h3 182) := by rw [hG3.gi (by decide) (by decide)]; exact hT3
            have hS := hG3.1.1
            cases eo : v_com B T' (j + k) with
            | false =>
              show zp_wp X y_Mod_needsOf 66 [.ref 171, .int (nI i), .int nd, .int (nI b), .int (nI j), .int (nI 1), .int (nI k)] [.int (nI 0)] h3 Q
              refine zp_istore_5 rfl rfl ?_
              refine zp_iload (x := (nI 0)) rfl rfl ?_
              refine zp_ifT (tgt := 86) rfl rfl (by decide +kernel) ?_
              refine zp_iincN_6 rfl rfl ?_
              refine zp_goto (tgt := 42) rfl rfl ?_
              rw [eo] at ht
              first
              | exact out _ (k + 1) hG4 hT4 ht (by omega)
              | exact ih2 (k + 1) _ _ (by omega) (hG4.tr (zr_G.cp (T := [182]) hS4 he4 (by decide) (by decide)) (by decide)) (by rw [he4.gi (by decide)]; exact hT4) hL4 (v_ex_leg hl2 (by omega)) ht
            | true =>
              show zp_wp X y_Mod_needsOf 66 [.ref 171, .int (nI i), .int nd, .int (nI b), .int (nI j), .int (nI 1), .int (nI k)] [.int (nI 1)] h3 Q
              refine zp_istore_5 rfl rfl ?_
              refine zp_iload (x := (nI 1)) rfl rfl ?_
              refine zp_ifF (tgt := 86) rfl rfl (by decide +kernel) ?_
              refine zp_aload_n (x := 171) rfl rfl ?_
              refine zp_aload_n (x := 171) rfl rfl ?_
              refine zq_getr (k9 := 182) hS rfl (by first | assumption | exact ⟨by decide, rfl⟩) rfl ?_
              refine zp_iload (x := (nI j)) rfl rfl ?_
              refine zp_iload (x := (nI k)) rfl rfl ?_
              refine zp_iaddN rfl ?_
              refine zq_virt hS rfl rfl (by first | assumption | exact ⟨by decide, rfl⟩) rfl (s_Mod_exchanges hS ⟨by decide, rfl⟩ hT5 (by omega) k1 k2 (fun h4 hS4 he4 hL4 => ?_))
              show zp_wp X y_Mod_needsOf 86 [.ref 171, .int (nI i), .int nd, .int (nI b), .int (nI j), .int (nI 1), .int (nI k)] [] h4 Q
              refine zp_iincN_6 rfl rfl ?_
              refine zp_goto (tgt := 42) rfl rfl ?_
              rw [eo] at ht
              first
              | exact out _ (k + 1) hG4 hT4 ht (by omega)
              | exact ih2 (k + 1) _ _ (by omega) (hG4.tr (zr_G.cp (T := [182]) hS4 he4 (by decide) (by decide)) (by decide)) (by rw [he4.gi (by decide)]; exact hT4) hL4 (v_ex_leg hl2 (by omega)) ht
      refine zp_iload (x := (nI j)) rfl rfl ?_
      refine zp_ifF (tgt := 127) rfl rfl (zc_lt (by omega)) ?_
      refine zp_aload_n (x := 171) rfl rfl ?_
      refine zq_getr (k9 := 179) hS rfl (by first | assumption | exact ⟨by decide, rfl⟩) rfl ?_
      refine zp_aload_n (x := 171) rfl rfl ?_
      refine zq_getr (k9 := 182) hS rfl (by first | assumption | exact ⟨by decide, rfl⟩) rfl ?_
      refine zp_call rfl rfl (s_Mod_copiesLog hS ⟨by decide, rfl⟩ ⟨by decide, rfl⟩ (by decide) (fun h3 hS3 he3 hc3 => ?_))
      show zp_wp X y_Mod_needsOf 36 [.ref 171, .int (nI i), .int nd, .int (nI b), .int (nI j), x, y] [] h3 Q
      refine zp_iconst (v := (nI 1)) rfl (by decide +kernel) ?_
      refine zp_istore_5 rfl rfl ?_
      refine zp_iconst (v := (nI 0)) rfl (by decide +kernel) ?_
      refine zp_istore_6 rfl rfl ?_
      exact inn b 0 T _ (by omega) (hG.tr (zr_G.cp (T := [182]) hS3 he3 (by decide) (by decide)) (by decide)) (by rw [he3.gi (by decide)]; exact hT) (hT.cp hc3) hl rfl
  have hS0 := hS
  refine zp_iconst (v := (nI 0)) rfl (by decide +kernel) ?_
  refine zp_istore_n_2 rfl rfl ?_
  refine zp_iconst (v := (nI 1)) rfl (by decide +kernel) ?_
  refine zp_istore_n_3 rfl rfl ?_
  refine zp_aload_n (x := 171) rfl rfl ?_
  refine zq_getr (k9 := 178) hS rfl (by first | assumption | exact ⟨by decide, rfl⟩) rfl ?_
  refine zp_aload_n (x := 171) rfl rfl ?_
  refine zq_getr (k9 := 179) hS rfl (by first | assumption | exact ⟨by decide, rfl⟩) rfl ?_
  refine zp_call rfl rfl (s_Mod_copiesLog hS ⟨by decide, rfl⟩ ⟨by decide, rfl⟩ (by decide) (fun h3 hS3 he3 hc3 => ?_))
  show zp_wp X y_Mod_needsOf 15 [.ref 171, .int (nI i), .int (nI 0), .int (nI 1), zm_mk, zm_mk, zm_mk] [] h3 Q
  refine zp_iload_n (x := (nI i)) rfl rfl ?_
  refine zp_iconst (v := (nI 1)) rfl (by decide +kernel) ?_
  refine zp_isub rfl rfl ?_
  refine zp_istore_4 rfl rfl ?_
  rw [v_pr_sub]
  exact lp i L 1 _ h3 _ _ (by omega) ((zr_G.rf hS0).tr (zr_G.cp (T := [179]) hS3 he3 (by decide) (by decide)) (by decide)) (hL.cp hc3) hc rfl
def z_needs (s : zst) (i : Int32) : Nat × Int32 × zst := cond (g_lt (g_n s) i) (0, v_needs (g_b s) (g_L s) (i2n i), s) (1, nI 0, s)
theorem s_Mod_needs {i : Int32} (hs : zr_S s h) (hB : zr_B s) (hW : zv_W (g_b s)) (hc : ∀ i, i < g_n s → zc_leg (g_L s i)) (hq : ∀ h', zr_D (z_needs s i).2.2 (z_needs s i).1 h h' → Q (.inl (some (.int (z_needs s i).2.1))) h') : zp_wm X y_Mod_needs [.ref 171, .int i] h Q := by
  have hS := hs.1
  have hn := hs.2.2.2.1
  have hn30 := hB.2.2.1
  unfold z_needs at hq
  show zp_wp X y_Mod_needs 0 [.ref 171, .int i] [] h Q
  cases hi : g_lt (g_n s) i with
  | false =>
    rw [hi] at hq
    refine zp_aload_n (x := 171) rfl rfl ?_
    refine zp_iconst (v := (nI 0)) rfl (by decide +kernel) ?_
    refine zq_put hS rfl (by first | assumption | exact ⟨by decide, rfl⟩) rfl rfl (fun hS2 => ?_)
    have hS := hS2
    refine zp_iload_n (x := i) rfl rfl ?_
    refine zp_iconst (v := (nI 0)) rfl (by decide +kernel) ?_
    refine zp_aload_n (x := 171) rfl rfl ?_
    refine zq_geti hS rfl (by first | assumption | exact ⟨by decide, rfl⟩) rfl ?_
    rw [zf_nj (by decide)]
    rw [hn]
    refine zp_iconst (v := (nI 1)) rfl (by decide +kernel) ?_
    refine zp_isub rfl rfl ?_
    refine zp_call rfl rfl (s_Mod_in ?_)
    rw [g_lt_in (by omega) (by decide) (by decide), Nat.add_sub_cancel, hi]
    show zp_wp X y_Mod_needs 16 [.ref 171, .int i] [.int (nI 0)] (zf_put h 171 9 (nI 0)) Q
    refine zp_ifT (tgt := 27) rfl rfl (by decide +kernel) ?_
    refine zp_aload_n (x := 171) rfl rfl ?_
    refine zp_iconst (v := (nI 1)) rfl (by decide +kernel) ?_
    refine zq_virt hS rfl rfl (by first | assumption | exact ⟨by decide, rfl⟩) rfl (s_Mod_fails hS (fun hS3 => ?_))
    show zp_wp X y_Mod_needs 32 [.ref 171, .int i] [.int (nI 0)] (zf_put (zf_put h 171 9 (nI 0)) 171 9 (nI 1)) Q
    refine zp_iret rfl rfl ?_
    exact hq _ (zr_9 hs hS hS3)
  | true =>
    rw [hi] at hq
    obtain ⟨hi1, hi2⟩ := g_lt_n hi
    clear hi
    generalize i2n i = i' at *
    subst hi1
    refine zp_aload_n (x := 171) rfl rfl ?_
    refine zp_iconst (v := (nI 0)) rfl (by decide +kernel) ?_
    refine zq_put hS rfl (by first | assumption | exact ⟨by decide, rfl⟩) rfl rfl (fun hS2 => ?_)
    have hS := hS2
    refine zp_iload_n (x := (nI i')) rfl rfl ?_
    refine zp_iconst (v := (nI 0)) rfl (by decide +kernel) ?_
    refine zp_aload_n (x := 171) rfl rfl ?_
    refine zq_geti hS rfl (by first | assumption | exact ⟨by decide, rfl⟩) rfl ?_
    rw [zf_nj (by decide)]
    rw [hn]
    refine zp_iconst (v := (nI 1)) rfl (by decide +kernel) ?_
    refine zp_isub rfl rfl ?_
    refine zp_call rfl rfl (s_Mod_in ?_)
    rw [g_lt_in (by omega) (by decide) (by decide), Nat.add_sub_cancel, g_lt_i hi2 (by omega)]
    show zp_wp X y_Mod_needs 16 [.ref 171, .int (nI i')] [.int (nI 1)] (zf_put h 171 9 (nI 0)) Q
    refine zp_ifF (tgt := 27) rfl rfl (by decide +kernel) ?_
    refine zp_aload_n (x := 171) rfl rfl ?_
    refine zp_iload_n (x := (nI i')) rfl rfl ?_
    refine zq_virt hS rfl rfl (by first | assumption | exact ⟨by decide, rfl⟩) rfl (s_Mod_needsOf (B := g_b s) (L := g_L s) hS (zr_hs9 hs hS).2.1.2.2 hW (zr_hs9 hs hS).2.2.1 hi2 hn30 hc (fun h2 hG => ?_))
    show zp_wp X y_Mod_needs 24 [.ref 171, .int (nI i')] [.int (v_needs (g_b s) (g_L s) i')] h2 Q
    refine zp_goto (tgt := 32) rfl rfl ?_
    refine zp_iret rfl rfl ?_
    exact hq _ (hG.D (zr_hs9 hs hS) (by decide) (by decide) (zf_at9 hS zs_M rfl) (zr_F.f9 hS))
end ZR11
