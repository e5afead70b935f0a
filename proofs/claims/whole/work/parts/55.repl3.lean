/-! the class: replaying -/
theorem v_isM_f {C : Nat → Option Nat} {n p : Nat} (h : ∀ k, k < n → C k ≠ some p) : v_isM C n p = false := by
  cases e : v_isM C n p with
  | false => rfl
  | true =>
    obtain ⟨k, k1, k2⟩ := v_isM_yes e
    exact absurd k2 (h k k1)
section ZP15
variable {X : zm_X} {h : zm_H} {Q : zm_O → zm_H → Prop} {B MV TG TG' : zv} {C M : Nat → Option Nat} {t r : Nat} {c d pl : zch} {L : Nat → zch}
theorem s_Repl_follow {st : Bool} {mt : Option Nat} (hS : zs_H h) (hT : zq_A t) (ht : t + 6 < 29) (hR : zq_R MV TG' C M t h) (hj : zj MV TG C M) (hl : zc_leg c) (hs : (v_mk MV c).1 = 0) (hz : zj_T MV TG C M c TG' mt) (hC : zq_C r) (hr : r < 63) (hc : zq_c c r h) (hpl : st = true → ∃ pl, zq_c pl 168 h ∧ zc_leg pl ∧ (c.1 = 0 ∨ c.1 = 4 → pl.1 = c.1 ∧ v_old TG' pl = mt)) (hst : st = false → mt = none) (hq : ∀ h', zs_H h' → zh_eq (fun x => 156 < x ∧ x ≤ 167) h h' → zq_R (v_mk MV c).2.1 TG' (v_onC MV C c mt) (v_onM MV M c mt) t h' → Q (.inl none) h') : zp_wm X y_Repl_follow [.ref 155, .ref r, .ref t, .int (zf_b st)] h Q := by
  have t0 := hT.1
  have hC0 : zs_O r 0 [none, none, none, none, none] := hC
  have hW' := hj.1.mk hl
  have hWT := hz.1
  obtain ⟨hP, hPt, hM⟩ := hR
  obtain ⟨k, a, m, b, n⟩ := c
  have hl0 := hl
  have hc0 := hc
  obtain ⟨h1, h2, h3, h4, h5⟩ := hl
  obtain ⟨c0, c1, c2, c3, c4⟩ := hc
  dsimp only at h1 h2 h3 h4 h5 c0 c1 c2 c3 c4
  have fin : ∀ h3 C' M', zs_H h3 → zh_eq (fun x => 156 < x ∧ x ≤ 167) h h3 → zq_P (v_mk MV (k, a, m, b, n)).2.1 156 h3 → zq_M C' M' 163 h3 → v_onC MV C (k, a, m, b, n) mt = C' → v_onM MV M (k, a, m, b, n) mt = M' → Q (.inl none) h3 := by
    intro h3 C' M' hS3 he3 hP3 hM3 e1 e2
    refine hq _ hS3 he3 ⟨hP3, hPt.eq he3 (fun x _ _ => by omega), ?_⟩
    rw [e1, e2]
    exact hM3
  show zp_wp X y_Repl_follow 0 [.ref 155, .ref r, .ref t, .int (zf_b st)] [] h Q
  by_cases k0 : k = 0
  · subst k0
    obtain ⟨i, i1, i2, i3, i4⟩ := mk_add0 hl0 rfl hs
    have hCi : C i = none := by
      cases e : C i with
      | none => rfl
      | some p => exact absurd i3 (hj.2.2.1.1 i i2 p e).2.1
    have hci : v_cls (v_mk MV (0, a, m, b, n)).2.1 a = some i := (v_old_mk hj.1 hl0 hs (Or.inl rfl)).trans i1
    have hoC : v_onC MV C (0, a, m, b, n) mt = va_up C i mt := by unfold v_onC; rw [if_pos rfl, i1]
    have hoM : v_onM MV M (0, a, m, b, n) mt = M := rfl
    cases st with
    | false =>
      show zp_wp X y_Repl_follow 0 [.ref 155, .ref r, .ref t, .int (nI 0)] [] h Q
      refine zp_aload_n (x := r) rfl rfl ?_
      refine zq_geti hS rfl (by first | assumption | exact ⟨by decide, rfl⟩) rfl ?_
      rw [c0]
      refine zp_iconst (v := (nI 1)) rfl (by decide +kernel) ?_
      refine zp_icT (tgt := 29) rfl rfl (by decide +kernel) ?_
      refine zp_aload_n (x := r) rfl rfl ?_
      refine zq_geti hS rfl (by first | assumption | exact ⟨by decide, rfl⟩) rfl ?_
      rw [c0]
      refine zp_iconst (v := (nI 5)) rfl (by decide +kernel) ?_
      refine zp_icT (tgt := 59) rfl rfl (by decide +kernel) ?_
      refine zp_aload_n (x := 155) rfl rfl ?_
      refine zq_getr (k9 := 156) hS rfl (by first | assumption | exact ⟨by decide, rfl⟩) rfl ?_
      refine zp_aload_n (x := r) rfl rfl ?_
      refine zq_virt hS rfl rfl (by first | assumption | exact ⟨by decide, rfl⟩) rfl (s_Prog_attempt hS qA_156 hP hj.1 hC hc0 hl0 (fun h3 p3 => ?_))
      have hS := p3.1
      obtain ⟨e0, e1, e2, e3, e4⟩ := hc0.eq p3.2.1 (by omega)
      dsimp only at e0 e1 e2 e3 e4
      have M3 : zq_M C M 163 h3 := hM.eq p3.2.1 (fun x _ _ => by omega)
      have E3 : zh_eq (fun x => 156 < x ∧ x ≤ 167) h h3 := p3.2.1.mono (fun x e => by omega)
      show zp_wp X y_Repl_follow 67 [.ref 155, .ref r, .ref t, .int (nI 0)] [.int (nI ((v_mk MV (0, a, m, b, n)).1))] h3 Q
      refine zp_pop_i rfl ?_
      refine zp_iload_n (x := (nI 0)) rfl rfl ?_
      refine zp_ifT (tgt := 111) rfl rfl (by decide +kernel) ?_
      refine zp_iload_n (x := (nI 0)) rfl rfl ?_
      refine zp_ifT (tgt := 163) rfl rfl (by decide +kernel) ?_
      refine zp_vret rfl rfl ?_
      exact fin _ C M p3.1 E3 p3.2.2 M3 (by rw [hoC, hst rfl, va_up_n hCi]) hoM
    | true =>
      obtain ⟨pl, l1, l2, l3⟩ := hpl rfl
      obtain ⟨l4, l5⟩ := l3 (Or.inl rfl)
      obtain ⟨pk, pa, pm, pb, pn⟩ := pl
      have l4 : pk = 0 := l4
      subst l4
      have l5 : v_cls TG' pa = mt := l5
      have l6 : 65 ≤ pa ∧ pa ≤ 90 := l2.2.1
      show zp_wp X y_Repl_follow 0 [.ref 155, .ref r, .ref t, .int (nI 1)] [] h Q
      refine zp_aload_n (x := r) rfl rfl ?_
      refine zq_geti hS rfl (by first | assumption | exact ⟨by decide, rfl⟩) rfl ?_
      rw [c0]
      refine zp_iconst (v := (nI 1)) rfl (by decide +kernel) ?_
      refine zp_icT (tgt := 29) rfl rfl (by decide +kernel) ?_
      refine zp_aload_n (x := r) rfl rfl ?_
      refine zq_geti hS rfl (by first | assumption | exact ⟨by decide, rfl⟩) rfl ?_
      rw [c0]
      refine zp_iconst (v := (nI 5)) rfl (by decide +kernel) ?_
      refine zp_icT (tgt := 59) rfl rfl (by decide +kernel) ?_
      refine zp_aload_n (x := 155) rfl rfl ?_
      refine zq_getr (k9 := 156) hS rfl (by first | assumption | exact ⟨by decide, rfl⟩) rfl ?_
      refine zp_aload_n (x := r) rfl rfl ?_
      refine zq_virt hS rfl rfl (by first | assumption | exact ⟨by decide, rfl⟩) rfl (s_Prog_attempt hS qA_156 hP hj.1 hC hc0 hl0 (fun h3 p3 => ?_))
      have hS := p3.1
      obtain ⟨e0, e1, e2, e3, e4⟩ := hc0.eq p3.2.1 (by omega)
      dsimp only at e0 e1 e2 e3 e4
      have M3 : zq_M C M 163 h3 := hM.eq p3.2.1 (fun x _ _ => by omega)
      have E3 : zh_eq (fun x => 156 < x ∧ x ≤ 167) h h3 := p3.2.1.mono (fun x e => by omega)
      have g1 : cf h3 168 1 = nI pa := by rw [p3.2.1.gf (by omega)]; exact l1.2.1
      show zp_wp X y_Repl_follow 67 [.ref 155, .ref r, .ref t, .int (nI 1)] [.int (nI ((v_mk MV (0, a, m, b, n)).1))] h3 Q
      refine zp_pop_i rfl ?_
      refine zp_iload_n (x := (nI 1)) rfl rfl ?_
      refine zp_ifF (tgt := 111) rfl rfl (by decide +kernel) ?_
      refine zp_aload_n (x := r) rfl rfl ?_
      refine zq_geti hS rfl (by first | assumption | exact ⟨by decide, rfl⟩) rfl ?_
      rw [e0]
      refine zp_ifF (tgt := 111) rfl rfl (by decide +kernel) ?_
      refine zp_aload_n (x := 155) rfl rfl ?_
      refine zq_getr (k9 := 163) hS rfl (by first | assumption | exact ⟨by decide, rfl⟩) rfl ?_
      refine zp_aload_n (x := 155) rfl rfl ?_
      refine zq_getr (k9 := 156) hS rfl (by first | assumption | exact ⟨by decide, rfl⟩) rfl ?_
      refine zp_aload_n (x := r) rfl rfl ?_
      refine zq_geti hS rfl (by first | assumption | exact ⟨by decide, rfl⟩) rfl ?_
      rw [e1]
      refine zq_virt hS rfl rfl (by first | assumption | exact ⟨by decide, rfl⟩) rfl (s_Prog_classAt p3.1 qA_156 p3.2.2 hW'.B (by omega) ?_)
      rw [hci]
      show zp_wp X y_Repl_follow 94 [.ref 155, .ref r, .ref t, .int (nI 1)] [.int (nI i), .ref 163] h3 Q
      refine zp_aload_n (x := t) rfl rfl ?_
      refine zp_aload_n (x := 155) rfl rfl ?_
      refine zq_getr (k9 := 168) hS rfl (by first | assumption | exact ⟨by decide, rfl⟩) rfl ?_
      refine zq_geti hS rfl (by first | assumption | exact ⟨by decide, rfl⟩) rfl ?_
      rw [g1]
      refine zq_virt hS rfl rfl (by first | assumption | exact ⟨by decide, rfl⟩) rfl (s_Prog_classAt p3.1 hT (hPt.eq p3.2.1 (fun x _ _ => by omega)) hWT.B (by omega) ?_)
      rw [l5]
      show zp_wp X y_Repl_follow 105 [.ref 155, .ref r, .ref t, .int (nI 1)] [.int (zf_o mt), .int (nI i), .ref 163] h3 Q
      refine zq_virt hS rfl rfl (by first | assumption | exact ⟨by decide, rfl⟩) rfl (s_Match_joinClasses p3.1 qM_163 M3.1 i2 hCi (fun p hp => ⟨(hz.2.2.2.1 rfl p hp).1, v_isM_f (hz.2.2.2.1 rfl p hp).2.2⟩) (fun h4 hS4 he4 hm4 => ?_))
      have hS := hS4
      show zp_wp X y_Repl_follow 108 [.ref 155, .ref r, .ref t, .int (nI 1)] [] h4 Q
      refine zp_goto (tgt := 163) rfl rfl ?_
      refine zp_vret rfl rfl ?_
      exact fin _ (va_up C i mt) M hS4 (E3.trans (he4.mono (fun x e => by omega))) (p3.2.2.eq he4 (fun x _ _ => by omega)) ⟨hm4, M3.2.eq he4 (by omega) (by omega)⟩ hoC hoM
  by_cases k4 : k = 4
  · subst k4
    have h3 := h3.2 (by omega)
    obtain ⟨i, i9, i1, i2, i3, i4, i5, i6⟩ := mk_add4 hl0 rfl hs
    have hMi : M i = none := by
      cases e : M i with
      | none => rfl
      | some p => exact absurd i3 (hj.2.2.2.1 i i2 p e).2.1
    have hci : v_mem (v_mk MV (4, a, m, b, n)).2.1 (v_cls (v_mk MV (4, a, m, b, n)).2.1 a) m = some i := (v_old_mk hj.1 hl0 hs (Or.inr rfl)).trans i1
    have hoM : v_onM MV M (4, a, m, b, n) mt = va_up M i mt := by unfold v_onM; rw [if_pos rfl, i1]
    have hoC : v_onC MV C (4, a, m, b, n) mt = C := rfl
    cases st with
    | false =>
      show zp_wp X y_Repl_follow 0 [.ref 155, .ref r, .ref t, .int (nI 0)] [] h Q
      refine zp_aload_n (x := r) rfl rfl ?_
      refine zq_geti hS rfl (by first | assumption | exact ⟨by decide, rfl⟩) rfl ?_
      rw [c0]
      refine zp_iconst (v := (nI 1)) rfl (by decide +kernel) ?_
      refine zp_icT (tgt := 29) rfl rfl (by decide +kernel) ?_
      refine zp_aload_n (x := r) rfl rfl ?_
      refine zq_geti hS rfl (by first | assumption | exact ⟨by decide, rfl⟩) rfl ?_
      rw [c0]
      refine zp_iconst (v := (nI 5)) rfl (by decide +kernel) ?_
      refine zp_icT (tgt := 59) rfl rfl (by decide +kernel) ?_
      refine zp_aload_n (x := 155) rfl rfl ?_
      refine zq_getr (k9 := 156) hS rfl (by first | assumption | exact ⟨by decide, rfl⟩) rfl ?_
      refine zp_aload_n (x := r) rfl rfl ?_
      refine zq_virt hS rfl rfl (by first | assumption | exact ⟨by decide, rfl⟩) rfl (s_Prog_attempt hS qA_156 hP hj.1 hC hc0 hl0 (fun h3 p3 => ?_))
      have hS := p3.1
      obtain ⟨e0, e1, e2, e3, e4⟩ := hc0.eq p3.2.1 (by omega)
      dsimp only at e0 e1 e2 e3 e4
      have M3 : zq_M C M 163 h3 := hM.eq p3.2.1 (fun x _ _ => by omega)
      have E3 : zh_eq (fun x => 156 < x ∧ x ≤ 167) h h3 := p3.2.1.mono (fun x e => by omega)
      show zp_wp X y_Repl_follow 67 [.ref 155, .ref r, .ref t, .int (nI 0)] [.int (nI ((v_mk MV (4, a, m, b, n)).1))] h3 Q
      refine zp_pop_i rfl ?_
      refine zp_iload_n (x := (nI 0)) rfl rfl ?_
      refine zp_ifT (tgt := 111) rfl rfl (by decide +kernel) ?_
      refine zp_iload_n (x := (nI 0)) rfl rfl ?_
      refine zp_ifT (tgt := 163) rfl rfl (by decide +kernel) ?_
      refine zp_vret rfl rfl ?_
      exact fin _ C M p3.1 E3 p3.2.2 M3 hoC (by rw [hoM, hst rfl, va_up_n hMi])
    | true =>
      obtain ⟨pl, l1, l2, l3⟩ := hpl rfl
      obtain ⟨l4, l5⟩ := l3 (Or.inr rfl)
      obtain ⟨pk, pa, pm, pb, pn⟩ := pl
      have l4 : pk = 4 := l4
      subst l4
      have l5 : v_mem TG' (v_cls TG' pa) pm = mt := l5
      have l6 : 65 ≤ pa ∧ pa ≤ 90 := l2.2.1
      have l7 : 97 ≤ pm ∧ pm ≤ 122 := l2.2.2.1.2 (Nat.le_refl 4)
      show zp_wp X y_Repl_follow 0 [.ref 155, .ref r, .ref t, .int (nI 1)] [] h Q
      refine zp_aload_n (x := r) rfl rfl ?_
      refine zq_geti hS rfl (by first | assumption | exact ⟨by decide, rfl⟩) rfl ?_
      rw [c0]
      refine zp_iconst (v := (nI 1)) rfl (by decide +kernel) ?_
      refine zp_icT (tgt := 29) rfl rfl (by decide +kernel) ?_
      refine zp_aload_n (x := r) rfl rfl ?_
      refine zq_geti hS rfl (by first | assumption | exact ⟨by decide, rfl⟩) rfl ?_
      rw [c0]
      refine zp_iconst (v := (nI 5)) rfl (by decide +kernel) ?_
      refine zp_icT (tgt := 59) rfl rfl (by decide +kernel) ?_
      refine zp_aload_n (x := 155) rfl rfl ?_
      refine zq_getr (k9 := 156) hS rfl (by first | assumption | exact ⟨by decide, rfl⟩) rfl ?_
      refine zp_aload_n (x := r) rfl rfl ?_
      refine zq_virt hS rfl rfl (by first | assumption | exact ⟨by decide, rfl⟩) rfl (s_Prog_attempt hS qA_156 hP hj.1 hC hc0 hl0 (fun h3 p3 => ?_))
      have hS := p3.1
      obtain ⟨e0, e1, e2, e3, e4⟩ := hc0.eq p3.2.1 (by omega)
      dsimp only at e0 e1 e2 e3 e4
      have M3 : zq_M C M 163 h3 := hM.eq p3.2.1 (fun x _ _ => by omega)
      have E3 : zh_eq (fun x => 156 < x ∧ x ≤ 167) h h3 := p3.2.1.mono (fun x e => by omega)
      have g1 : cf h3 168 1 = nI pa := by rw [p3.2.1.gf (by omega)]; exact l1.2.1
      have g2 : cf h3 168 2 = nI pm := by rw [p3.2.1.gf (by omega)]; exact l1.2.2.1
      show zp_wp X y_Repl_follow 67 [.ref 155, .ref r, .ref t, .int (nI 1)] [.int (nI ((v_mk MV (4, a, m, b, n)).1))] h3 Q
      refine zp_pop_i rfl ?_
      refine zp_iload_n (x := (nI 1)) rfl rfl ?_
      refine zp_ifF (tgt := 111) rfl rfl (by decide +kernel) ?_
      refine zp_aload_n (x := r) rfl rfl ?_
      refine zq_geti hS rfl (by first | assumption | exact ⟨by decide, rfl⟩) rfl ?_
      rw [e0]
      refine zp_ifT (tgt := 111) rfl rfl (by decide +kernel) ?_
      refine zp_iload_n (x := (nI 1)) rfl rfl ?_
      refine zp_ifF (tgt := 163) rfl rfl (by decide +kernel) ?_
      refine zp_aload_n (x := r) rfl rfl ?_
      refine zq_geti hS rfl (by first | assumption | exact ⟨by decide, rfl⟩) rfl ?_
      rw [e0]
      refine zp_iconst (v := (nI 4)) rfl (by decide +kernel) ?_
      refine zp_icF (tgt := 163) rfl rfl (by decide +kernel) ?_
      refine zp_aload_n (x := 155) rfl rfl ?_
      refine zq_getr (k9 := 163) hS rfl (by first | assumption | exact ⟨by decide, rfl⟩) rfl ?_
      refine zp_aload_n (x := 155) rfl rfl ?_
      refine zq_getr (k9 := 156) hS rfl (by first | assumption | exact ⟨by decide, rfl⟩) rfl ?_
      refine zp_aload_n (x := r) rfl rfl ?_
      refine zq_geti hS rfl (by first | assumption | exact ⟨by decide, rfl⟩) rfl ?_
      rw [e1]
      refine zp_aload_n (x := r) rfl rfl ?_
      refine zq_geti hS rfl (by first | assumption | exact ⟨by decide, rfl⟩) rfl ?_
      rw [e2]
      refine zq_virt hS rfl rfl (by first | assumption | exact ⟨by decide, rfl⟩) rfl (s_Prog_memberAt p3.1 qA_156 p3.2.2 hW' (by omega) (by omega) (by omega) ?_)
      rw [hci]
      show zp_wp X y_Repl_follow 142 [.ref 155, .ref r, .ref t, .int (nI 1)] [.int (nI i), .ref 163] h3 Q
      refine zp_aload_n (x := t) rfl rfl ?_
      refine zp_aload_n (x := 155) rfl rfl ?_
      refine zq_getr (k9 := 168) hS rfl (by first | assumption | exact ⟨by decide, rfl⟩) rfl ?_
      refine zq_geti hS rfl (by first | assumption | exact ⟨by decide, rfl⟩) rfl ?_
      rw [g1]
      refine zp_aload_n (x := 155) rfl rfl ?_
      refine zq_getr (k9 := 168) hS rfl (by first | assumption | exact ⟨by decide, rfl⟩) rfl ?_
      refine zq_geti hS rfl (by first | assumption | exact ⟨by decide, rfl⟩) rfl ?_
      rw [g2]
      refine zq_virt hS rfl rfl (by first | assumption | exact ⟨by decide, rfl⟩) rfl (s_Prog_memberAt p3.1 hT (hPt.eq p3.2.1 (fun x _ _ => by omega)) hWT (by omega) (by omega) (by omega) ?_)
      rw [l5]
      show zp_wp X y_Repl_follow 160 [.ref 155, .ref r, .ref t, .int (nI 1)] [.int (zf_o mt), .int (nI i), .ref 163] h3 Q
      refine zq_virt hS rfl rfl (by first | assumption | exact ⟨by decide, rfl⟩) rfl (s_Match_joinMembers p3.1 qM_163 M3.2 i2 hMi (fun p hp => ⟨(hz.2.2.2.2 rfl p hp).1, v_isM_f (hz.2.2.2.2 rfl p hp).2.2⟩) (fun h4 hS4 he4 hm4 => ?_))
      have hS := hS4
      show zp_wp X y_Repl_follow 163 [.ref 155, .ref r, .ref t, .int (nI 1)] [] h4 Q
      refine zp_vret rfl rfl ?_
      exact fin _ C (va_up M i mt) hS4 (E3.trans (he4.mono (fun x e => by omega))) (p3.2.2.eq he4 (fun x _ _ => by omega)) ⟨M3.1.eq he4 (by omega) (by omega), hm4⟩ hoC hoM
  by_cases k1 : k = 1
  · subst k1
    obtain ⟨i, hi, -⟩ := mk_1 (c := (1, a, m, b, n)) rfl hs
    have hi : v_cls MV a = some i := hi
    have hoC : v_onC MV C (1, a, m, b, n) mt = va_up C i none := by unfold v_onC; rw [if_neg (show ¬ 1 = 0 by decide), if_pos rfl, show v_cls MV (1, a, m, b, n).2.1 = some i from hi]
    have hoM : v_onM MV M (1, a, m, b, n) mt = M := rfl
    cases st with
    | false =>
      show zp_wp X y_Repl_follow 0 [.ref 155, .ref r, .ref t, .int (nI 0)] [] h Q
      refine zp_aload_n (x := r) rfl rfl ?_
      refine zq_geti hS rfl (by first | assumption | exact ⟨by decide, rfl⟩) rfl ?_
      rw [c0]
      refine zp_iconst (v := (nI 1)) rfl (by decide +kernel) ?_
      refine zp_icF (tgt := 29) rfl rfl (by decide +kernel) ?_
      refine zp_aload_n (x := 155) rfl rfl ?_
      refine zq_getr (k9 := 163) hS rfl (by first | assumption | exact ⟨by decide, rfl⟩) rfl ?_
      refine zp_aload_n (x := 155) rfl rfl ?_
      refine zq_getr (k9 := 156) hS rfl (by first | assumption | exact ⟨by decide, rfl⟩) rfl ?_
      refine zp_aload_n (x := r) rfl rfl ?_
      refine zq_geti hS rfl (by first | assumption | exact ⟨by decide, rfl⟩) rfl ?_
      rw [c1]
      refine zq_virt hS rfl rfl (by first | assumption | exact ⟨by decide, rfl⟩) rfl (s_Prog_classAt hS qA_156 hP hj.1.B (by omega) ?_)
      rw [hi]
      show zp_wp X y_Repl_follow 23 [.ref 155, .ref r, .ref t, .int (nI 0)] [.int (nI i), .ref 163] h Q
      refine zq_virt hS rfl rfl (by first | assumption | exact ⟨by decide, rfl⟩) rfl (s_Match_partClass hS qM_163 hM.1 (v_cls_lt hi).1 (fun h2 hS2 he2 hm2 => ?_))
      have hS := hS2
      have hP2 := hP.eq he2 (fun x _ _ => by omega)
      have hc2 := hc0.eq he2 (by omega)
      obtain ⟨d0, d1, d2, d3, d4⟩ := id hc2
      dsimp only at d0 d1 d2 d3 d4
      show zp_wp X y_Repl_follow 26 [.ref 155, .ref r, .ref t, .int (nI 0)] [] h2 Q
      refine zp_goto (tgt := 59) rfl rfl ?_
      refine zp_aload_n (x := 155) rfl rfl ?_
      refine zq_getr (k9 := 156) hS rfl (by first | assumption | exact ⟨by decide, rfl⟩) rfl ?_
      refine zp_aload_n (x := r) rfl rfl ?_
      refine zq_virt hS rfl rfl (by first | assumption | exact ⟨by decide, rfl⟩) rfl (s_Prog_attempt hS qA_156 hP2 hj.1 hC hc2 hl0 (fun h3 p3 => ?_))
      have hS := p3.1
      obtain ⟨e0, e1, e2, e3, e4⟩ := hc2.eq p3.2.1 (by omega)
      dsimp only at e0 e1 e2 e3 e4
      have M3 : zq_M (va_up C i none) M 163 h3 := ⟨hm2.eq p3.2.1 (by omega) (by omega), (hM.2.eq he2 (by omega) (by omega)).eq p3.2.1 (by omega) (by omega)⟩
      have E3 : zh_eq (fun x => 156 < x ∧ x ≤ 167) h h3 := (he2.mono (fun x e => by omega)).trans (p3.2.1.mono (fun x e => by omega))
      show zp_wp X y_Repl_follow 67 [.ref 155, .ref r, .ref t, .int (nI 0)] [.int (nI ((v_mk MV (1, a, m, b, n)).1))] h3 Q
      refine zp_pop_i rfl ?_
      refine zp_iload_n (x := (nI 0)) rfl rfl ?_
      refine zp_ifT (tgt := 111) rfl rfl (by decide +kernel) ?_
      refine zp_iload_n (x := (nI 0)) rfl rfl ?_
      refine zp_ifT (tgt := 163) rfl rfl (by decide +kernel) ?_
      refine zp_vret rfl rfl ?_
      exact fin _ (va_up C i none) M p3.1 E3 p3.2.2 M3 hoC hoM
    | true =>
      show zp_wp X y_Repl_follow 0 [.ref 155, .ref r, .ref t, .int (nI 1)] [] h Q
      refine zp_aload_n (x := r) rfl rfl ?_
      refine zq_geti hS rfl (by first | assumption | exact ⟨by decide, rfl⟩) rfl ?_
      rw [c0]
      refine zp_iconst (v := (nI 1)) rfl (by decide +kernel) ?_
      refine zp_icF (tgt := 29) rfl rfl (by decide +kernel) ?_
      refine zp_aload_n (x := 155) rfl rfl ?_
      refine zq_getr (k9 := 163) hS rfl (by first | assumption | exact ⟨by decide, rfl⟩) rfl ?_
      refine zp_aload_n (x := 155) rfl rfl ?_
      refine zq_getr (k9 := 156) hS rfl (by first | assumption | exact ⟨by decide, rfl⟩) rfl ?_
      refine zp_aload_n (x := r) rfl rfl ?_
      refine zq_geti hS rfl (by first | assumption | exact ⟨by decide, rfl⟩) rfl ?_
      rw [c1]
      refine zq_virt hS rfl rfl (by first | assumption | exact ⟨by decide, rfl⟩) rfl (s_Prog_classAt hS qA_156 hP hj.1.B (by omega) ?_)
      rw [hi]
      show zp_wp X y_Repl_follow 23 [.ref 155, .ref r, .ref t, .int (nI 1)] [.int (nI i), .ref 163] h Q
      refine zq_virt hS rfl rfl (by first | assumption | exact ⟨by decide, rfl⟩) rfl (s_Match_partClass hS qM_163 hM.1 (v_cls_lt hi).1 (fun h2 hS2 he2 hm2 => ?_))
      have hS := hS2
      have hP2 := hP.eq he2 (fun x _ _ => by omega)
      have hc2 := hc0.eq he2 (by omega)
      obtain ⟨d0, d1, d2, d3, d4⟩ := id hc2
      dsimp only at d0 d1 d2 d3 d4
      show zp_wp X y_Repl_follow 26 [.ref 155, .ref r, .ref t, .int (nI 1)] [] h2 Q
      refine zp_goto (tgt := 59) rfl rfl ?_
      refine zp_aload_n (x := 155) rfl rfl ?_
      refine zq_getr (k9 := 156) hS rfl (by first | assumption | exact ⟨by decide, rfl⟩) rfl ?_
      refine zp_aload_n (x := r) rfl rfl ?_
      refine zq_virt hS rfl rfl (by first | assumption | exact ⟨by decide, rfl⟩) rfl (s_Prog_attempt hS qA_156 hP2 hj.1 hC hc2 hl0 (fun h3 p3 => ?_))
      have hS := p3.1
      obtain ⟨e0, e1, e2, e3, e4⟩ := hc2.eq p3.2.1 (by omega)
      dsimp only at e0 e1 e2 e3 e4
      have M3 : zq_M (va_up C i none) M 163 h3 := ⟨hm2.eq p3.2.1 (by omega) (by omega), (hM.2.eq he2 (by omega) (by omega)).eq p3.2.1 (by omega) (by omega)⟩
      have E3 : zh_eq (fun x => 156 < x ∧ x ≤ 167) h h3 := (he2.mono (fun x e => by omega)).trans (p3.2.1.mono (fun x e => by omega))
      show zp_wp X y_Repl_follow 67 [.ref 155, .ref r, .ref t, .int (nI 1)] [.int (nI ((v_mk MV (1, a, m, b, n)).1))] h3 Q
      refine zp_pop_i rfl ?_
      refine zp_iload_n (x := (nI 1)) rfl rfl ?_
      refine zp_ifF (tgt := 111) rfl rfl (by decide +kernel) ?_
      refine zp_aload_n (x := r) rfl rfl ?_
      refine zq_geti hS rfl (by first | assumption | exact ⟨by decide, rfl⟩) rfl ?_
      rw [e0]
      refine zp_ifT (tgt := 111) rfl rfl (by decide +kernel) ?_
      refine zp_iload_n (x := (nI 1)) rfl rfl ?_
      refine zp_ifF (tgt := 163) rfl rfl (by decide +kernel) ?_
      refine zp_aload_n (x := r) rfl rfl ?_
      refine zq_geti hS rfl (by first | assumption | exact ⟨by decide, rfl⟩) rfl ?_
      rw [e0]
      refine zp_iconst (v := (nI 4)) rfl (by decide +kernel) ?_
      refine zp_icT (tgt := 163) rfl rfl (by decide +kernel) ?_
      refine zp_vret rfl rfl ?_
      exact fin _ (va_up C i none) M p3.1 E3 p3.2.2 M3 hoC hoM
  by_cases k5 : k = 5
  · subst k5
    have h3 := h3.2 (by omega)
    obtain ⟨i, hi, -⟩ := mk_5 (c := (5, a, m, b, n)) rfl hs
    have hi : v_mem MV (v_cls MV a) m = some i := hi
    have hoM : v_onM MV M (5, a, m, b, n) mt = va_up M i none := by unfold v_onM; rw [if_neg (show ¬ 5 = 4 by decide), if_pos rfl, show v_mem MV (v_cls MV (5, a, m, b, n).2.1) (5, a, m, b, n).2.2.1 = some i from hi]
    have hoC : v_onC MV C (5, a, m, b, n) mt = C := rfl
    cases st with
    | false =>
      show zp_wp X y_Repl_follow 0 [.ref 155, .ref r, .ref t, .int (nI 0)] [] h Q
      refine zp_aload_n (x := r) rfl rfl ?_
      refine zq_geti hS rfl (by first | assumption | exact ⟨by decide, rfl⟩) rfl ?_
      rw [c0]
      refine zp_iconst (v := (nI 1)) rfl (by decide +kernel) ?_
      refine zp_icT (tgt := 29) rfl rfl (by decide +kernel) ?_
      refine zp_aload_n (x := r) rfl rfl ?_
      refine zq_geti hS rfl (by first | assumption | exact ⟨by decide, rfl⟩) rfl ?_
      rw [c0]
      refine zp_iconst (v := (nI 5)) rfl (by decide +kernel) ?_
      refine zp_icF (tgt := 59) rfl rfl (by decide +kernel) ?_
      refine zp_aload_n (x := 155) rfl rfl ?_
      refine zq_getr (k9 := 163) hS rfl (by first | assumption | exact ⟨by decide, rfl⟩) rfl ?_
      refine zp_aload_n (x := 155) rfl rfl ?_
      refine zq_getr (k9 := 156) hS rfl (by first | assumption | exact ⟨by decide, rfl⟩) rfl ?_
      refine zp_aload_n (x := r) rfl rfl ?_
      refine zq_geti hS rfl (by first | assumption | exact ⟨by decide, rfl⟩) rfl ?_
      rw [c1]
      refine zp_aload_n (x := r) rfl rfl ?_
      refine zq_geti hS rfl (by first | assumption | exact ⟨by decide, rfl⟩) rfl ?_
      rw [c2]
      refine zq_virt hS rfl rfl (by first | assumption | exact ⟨by decide, rfl⟩) rfl (s_Prog_memberAt hS qA_156 hP hj.1 (by omega) (by omega) (by omega) ?_)
      rw [hi]
      show zp_wp X y_Repl_follow 56 [.ref 155, .ref r, .ref t, .int (nI 0)] [.int (nI i), .ref 163] h Q
      refine zq_virt hS rfl rfl (by first | assumption | exact ⟨by decide, rfl⟩) rfl (s_Match_partMember hS qM_163 hM.2 (v_mem_lt hi).1 (fun h2 hS2 he2 hm2 => ?_))
      have hS := hS2
      have hP2 := hP.eq he2 (fun x _ _ => by omega)
      have hc2 := hc0.eq he2 (by omega)
      obtain ⟨d0, d1, d2, d3, d4⟩ := id hc2
      dsimp only at d0 d1 d2 d3 d4
      show zp_wp X y_Repl_follow 59 [.ref 155, .ref r, .ref t, .int (nI 0)] [] h2 Q
      refine zp_aload_n (x := 155) rfl rfl ?_
      refine zq_getr (k9 := 156) hS rfl (by first | assumption | exact ⟨by decide, rfl⟩) rfl ?_
      refine zp_aload_n (x := r) rfl rfl ?_
      refine zq_virt hS rfl rfl (by first | assumption | exact ⟨by decide, rfl⟩) rfl (s_Prog_attempt hS qA_156 hP2 hj.1 hC hc2 hl0 (fun h3 p3 => ?_))
      have hS := p3.1
      obtain ⟨e0, e1, e2, e3, e4⟩ := hc2.eq p3.2.1 (by omega)
      dsimp only at e0 e1 e2 e3 e4
      have M3 : zq_M C (va_up M i none) 163 h3 := ⟨(hM.1.eq he2 (by omega) (by omega)).eq p3.2.1 (by omega) (by omega), hm2.eq p3.2.1 (by omega) (by omega)⟩
      have E3 : zh_eq (fun x => 156 < x ∧ x ≤ 167) h h3 := (he2.mono (fun x e => by omega)).trans (p3.2.1.mono (fun x e => by omega))
      show zp_wp X y_Repl_follow 67 [.ref 155, .ref r, .ref t, .int (nI 0)] [.int (nI ((v_mk MV (5, a, m, b, n)).1))] h3 Q
      refine zp_pop_i rfl ?_
      refine zp_iload_n (x := (nI 0)) rfl rfl ?_
      refine zp_ifT (tgt := 111) rfl rfl (by decide +kernel) ?_
      refine zp_iload_n (x := (nI 0)) rfl rfl ?_
      refine zp_ifT (tgt := 163) rfl rfl (by decide +kernel) ?_
      refine zp_vret rfl rfl ?_
      exact fin _ C (va_up M i none) p3.1 E3 p3.2.2 M3 hoC hoM
    | true =>
      show zp_wp X y_Repl_follow 0 [.ref 155, .ref r, .ref t, .int (nI 1)] [] h Q
      refine zp_aload_n (x := r) rfl rfl ?_
      refine zq_geti hS rfl (by first | assumption | exact ⟨by decide, rfl⟩) rfl ?_
      rw [c0]
      refine zp_iconst (v := (nI 1)) rfl (by decide +kernel) ?_
      refine zp_icT (tgt := 29) rfl rfl (by decide +kernel) ?_
      refine zp_aload_n (x := r) rfl rfl ?_
      refine zq_geti hS rfl (by first | assumption | exact ⟨by decide, rfl⟩) rfl ?_
      rw [c0]
      refine zp_iconst (v := (nI 5)) rfl (by decide +kernel) ?_
      refine zp_icF (tgt := 59) rfl rfl (by decide +kernel) ?_
      refine zp_aload_n (x := 155) rfl rfl ?_
      refine zq_getr (k9 := 163) hS rfl (by first | assumption | exact ⟨by decide, rfl⟩) rfl ?_
      refine zp_aload_n (x := 155) rfl rfl ?_
      refine zq_getr (k9 := 156) hS rfl (by first | assumption | exact ⟨by decide, rfl⟩) rfl ?_
      refine zp_aload_n (x := r) rfl rfl ?_
      refine zq_geti hS rfl (by first | assumption | exact ⟨by decide, rfl⟩) rfl ?_
      rw [c1]
      refine zp_aload_n (x := r) rfl rfl ?_
      refine zq_geti hS rfl (by first | assumption | exact ⟨by decide, rfl⟩) rfl ?_
      rw [c2]
      refine zq_virt hS rfl rfl (by first | assumption | exact ⟨by decide, rfl⟩) rfl (s_Prog_memberAt hS qA_156 hP hj.1 (by omega) (by omega) (by omega) ?_)
      rw [hi]
      show zp_wp X y_Repl_follow 56 [.ref 155, .ref r, .ref t, .int (nI 1)] [.int (nI i), .ref 163] h Q
      refine zq_virt hS rfl rfl (by first | assumption | exact ⟨by decide, rfl⟩) rfl (s_Match_partMember hS qM_163 hM.2 (v_mem_lt hi).1 (fun h2 hS2 he2 hm2 => ?_))
      have hS := hS2
      have hP2 := hP.eq he2 (fun x _ _ => by omega)
      have hc2 := hc0.eq he2 (by omega)
      obtain ⟨d0, d1, d2, d3, d4⟩ := id hc2
      dsimp only at d0 d1 d2 d3 d4
      show zp_wp X y_Repl_follow 59 [.ref 155, .ref r, .ref t, .int (nI 1)] [] h2 Q
      refine zp_aload_n (x := 155) rfl rfl ?_
      refine zq_getr (k9 := 156) hS rfl (by first | assumption | exact ⟨by decide, rfl⟩) rfl ?_
      refine zp_aload_n (x := r) rfl rfl ?_
      refine zq_virt hS rfl rfl (by first | assumption | exact ⟨by decide, rfl⟩) rfl (s_Prog_attempt hS qA_156 hP2 hj.1 hC hc2 hl0 (fun h3 p3 => ?_))
      have hS := p3.1
      obtain ⟨e0, e1, e2, e3, e4⟩ := hc2.eq p3.2.1 (by omega)
      dsimp only at e0 e1 e2 e3 e4
      have M3 : zq_M C (va_up M i none) 163 h3 := ⟨(hM.1.eq he2 (by omega) (by omega)).eq p3.2.1 (by omega) (by omega), hm2.eq p3.2.1 (by omega) (by omega)⟩
      have E3 : zh_eq (fun x => 156 < x ∧ x ≤ 167) h h3 := (he2.mono (fun x e => by omega)).trans (p3.2.1.mono (fun x e => by omega))
      show zp_wp X y_Repl_follow 67 [.ref 155, .ref r, .ref t, .int (nI 1)] [.int (nI ((v_mk MV (5, a, m, b, n)).1))] h3 Q
      refine zp_pop_i rfl ?_
      refine zp_iload_n (x := (nI 1)) rfl rfl ?_
      refine zp_ifF (tgt := 111) rfl rfl (by decide +kernel) ?_
      refine zp_aload_n (x := r) rfl rfl ?_
      refine zq_geti hS rfl (by first | assumption | exact ⟨by decide, rfl⟩) rfl ?_
      rw [e0]
      refine zp_ifT (tgt := 111) rfl rfl (by decide +kernel) ?_
      refine zp_iload_n (x := (nI 1)) rfl rfl ?_
      refine zp_ifF (tgt := 163) rfl rfl (by decide +kernel) ?_
      refine zp_aload_n (x := r) rfl rfl ?_
      refine zq_geti hS rfl (by first | assumption | exact ⟨by decide, rfl⟩) rfl ?_
      rw [e0]
      refine zp_iconst (v := (nI 4)) rfl (by decide +kernel) ?_
      refine zp_icT (tgt := 163) rfl rfl (by decide +kernel) ?_
      refine zp_vret rfl rfl ?_
      exact fin _ C (va_up M i none) p3.1 E3 p3.2.2 M3 hoC hoM
  have hoC : v_onC MV C (k, a, m, b, n) mt = C := by unfold v_onC; rw [if_neg k0, if_neg k1]
  have hoM : v_onM MV M (k, a, m, b, n) mt = M := by unfold v_onM; rw [if_neg k4, if_neg k5]
  cases st with
  | false =>
    show zp_wp X y_Repl_follow 0 [.ref 155, .ref r, .ref t, .int (nI 0)] [] h Q
    refine zp_aload_n (x := r) rfl rfl ?_
    refine zq_geti hS rfl (by first | assumption | exact ⟨by decide, rfl⟩) rfl ?_
    rw [c0]
    refine zp_iconst (v := (nI 1)) rfl (by decide +kernel) ?_
    refine zp_icmpN_ne (tgt := 29) rfl rfl (by omega) (by omega) (fun b5 => ?_) (fun b5 => ?_)
    · refine zp_aload_n (x := r) rfl rfl ?_
      refine zq_geti hS rfl (by first | assumption | exact ⟨by decide, rfl⟩) rfl ?_
      rw [c0]
      refine zp_iconst (v := (nI 5)) rfl (by decide +kernel) ?_
      refine zp_icmpN_ne (tgt := 59) rfl rfl (by omega) (by omega) (fun b34 => ?_) (fun b34 => ?_)
      · refine zp_aload_n (x := 155) rfl rfl ?_
        refine zq_getr (k9 := 156) hS rfl (by first | assumption | exact ⟨by decide, rfl⟩) rfl ?_
        refine zp_aload_n (x := r) rfl rfl ?_
        refine zq_virt hS rfl rfl (by first | assumption | exact ⟨by decide, rfl⟩) rfl (s_Prog_attempt hS qA_156 hP hj.1 hC hc0 hl0 (fun h3 p3 => ?_))
        have hS := p3.1
        obtain ⟨e0, e1, e2, e3, e4⟩ := hc0.eq p3.2.1 (by omega)
        dsimp only at e0 e1 e2 e3 e4
        have M3 : zq_M C M 163 h3 := hM.eq p3.2.1 (fun x _ _ => by omega)
        have E3 : zh_eq (fun x => 156 < x ∧ x ≤ 167) h h3 := p3.2.1.mono (fun x e => by omega)
        show zp_wp X y_Repl_follow 67 [.ref 155, .ref r, .ref t, .int (nI 0)] [.int (nI ((v_mk MV (k, a, m, b, n)).1))] h3 Q
        refine zp_pop_i rfl ?_
        refine zp_iload_n (x := (nI 0)) rfl rfl ?_
        refine zp_ifT (tgt := 111) rfl rfl (by decide +kernel) ?_
        refine zp_iload_n (x := (nI 0)) rfl rfl ?_
        refine zp_ifT (tgt := 163) rfl rfl (by decide +kernel) ?_
        refine zp_vret rfl rfl ?_
        exact fin _ C M p3.1 E3 p3.2.2 M3 hoC hoM
      · omega
    · omega
  | true =>
    show zp_wp X y_Repl_follow 0 [.ref 155, .ref r, .ref t, .int (nI 1)] [] h Q
    refine zp_aload_n (x := r) rfl rfl ?_
    refine zq_geti hS rfl (by first | assumption | exact ⟨by decide, rfl⟩) rfl ?_
    rw [c0]
    refine zp_iconst (v := (nI 1)) rfl (by decide +kernel) ?_
    refine zp_icmpN_ne (tgt := 29) rfl rfl (by omega) (by omega) (fun b5 => ?_) (fun b5 => ?_)
    · refine zp_aload_n (x := r) rfl rfl ?_
      refine zq_geti hS rfl (by first | assumption | exact ⟨by decide, rfl⟩) rfl ?_
      rw [c0]
      refine zp_iconst (v := (nI 5)) rfl (by decide +kernel) ?_
      refine zp_icmpN_ne (tgt := 59) rfl rfl (by omega) (by omega) (fun b34 => ?_) (fun b34 => ?_)
      · refine zp_aload_n (x := 155) rfl rfl ?_
        refine zq_getr (k9 := 156) hS rfl (by first | assumption | exact ⟨by decide, rfl⟩) rfl ?_
        refine zp_aload_n (x := r) rfl rfl ?_
        refine zq_virt hS rfl rfl (by first | assumption | exact ⟨by decide, rfl⟩) rfl (s_Prog_attempt hS qA_156 hP hj.1 hC hc0 hl0 (fun h3 p3 => ?_))
        have hS := p3.1
        obtain ⟨e0, e1, e2, e3, e4⟩ := hc0.eq p3.2.1 (by omega)
        dsimp only at e0 e1 e2 e3 e4
        have M3 : zq_M C M 163 h3 := hM.eq p3.2.1 (fun x _ _ => by omega)
        have E3 : zh_eq (fun x => 156 < x ∧ x ≤ 167) h h3 := p3.2.1.mono (fun x e => by omega)
        show zp_wp X y_Repl_follow 67 [.ref 155, .ref r, .ref t, .int (nI 1)] [.int (nI ((v_mk MV (k, a, m, b, n)).1))] h3 Q
        refine zp_pop_i rfl ?_
        refine zp_iload_n (x := (nI 1)) rfl rfl ?_
        refine zp_ifF (tgt := 111) rfl rfl (by decide +kernel) ?_
        refine zp_aload_n (x := r) rfl rfl ?_
        refine zq_geti hS rfl (by first | assumption | exact ⟨by decide, rfl⟩) rfl ?_
        rw [e0]
        refine zp_ifN_ne (tgt := 111) rfl rfl (by omega) (fun b76 => ?_) (fun b76 => ?_)
        · refine zp_iload_n (x := (nI 1)) rfl rfl ?_
          refine zp_ifF (tgt := 163) rfl rfl (by decide +kernel) ?_
          refine zp_aload_n (x := r) rfl rfl ?_
          refine zq_geti hS rfl (by first | assumption | exact ⟨by decide, rfl⟩) rfl ?_
          rw [e0]
          refine zp_iconst (v := (nI 4)) rfl (by decide +kernel) ?_
          refine zp_icmpN_ne (tgt := 163) rfl rfl (by omega) (by omega) (fun b120 => ?_) (fun b120 => ?_)
          · refine zp_vret rfl rfl ?_
            exact fin _ C M p3.1 E3 p3.2.2 M3 hoC hoM
          · omega
        · omega
      · omega
    · omega
def zq_F (t : Nat) (h h' : zm_H) : Prop := zh_eq (fun x => (t < x ∧ x ≤ t + 6) ∨ (156 < x ∧ x ≤ 169)) h h'
theorem s_Repl_run {n : Nat} {sel : Int32} {mend : Bool} (hS : zs_H h) (hT : zq_A t) (ht : 8 ≤ t ∧ t + 6 < 29) (hB : zq_P B 1 h) (hW : zv_W B) (hPt : zq_P TG t h) (hW2 : zv_W TG) (hL : zq_L L 29 h) (hn : cf h 29 1 = nI n) (hn30 : n ≤ 30) (hlg : nLog B L n) (hq : ∀ h', zs_H h' → zq_F t h h' → zq_P (v_rp sel mend B TG L n).1.2.1 t h' → zr_O (v_rp sel mend B TG L n).2.2 n (ci h' 169) → Q (.inl (some (.int (nI (v_rp sel mend B TG L n).2.1)))) h') : zp_wm X y_Repl_run [.ref 155, .ref 1, .ref t, .ref 29, .int sel, .int (zf_b mend)] h Q := by
  have t0 := hT.1
  show zp_wp X y_Repl_run 0 [.ref 155, .ref 1, .ref t, .ref 29, .int sel, .int (zf_b mend), zm_mk, zm_mk, zm_mk, zm_mk, zm_mk] [] h Q
  have lp : ∀ k i (st : zrs) h' x y z, i + k = n → st.1.1 = v_go B L i → zj st.1.1 st.1.2.1 st.1.2.2.1 st.1.2.2.2 → zs_H h' → zq_F t h h' → zq_R st.1.1 st.1.2.1 st.1.2.2.1 st.1.2.2.2 t h' → zr_O st.2.2 i (ci h' 169) → st.2.1 ≤ i → v_rp sel mend B TG L n = zf_fold (v_rpS sel mend L) i k st → zp_wp X y_Repl_run 23 [.ref 155, .ref 1, .ref t, .ref 29, .int sel, .int (zf_b mend), .int (nI st.2.1), .int (nI i), x, y, z] [] h' Q := by
    intro k
    induction k with
    | zero =>
      intro i st h' x y z hi hm hj hS hF hR hO hle he
      have he : v_rp sel mend B TG L n = st := he
      have hn' : cf h' 29 1 = nI n := by rw [hF.gf (by omega)]; exact hn
      have hi : i = n := by omega
      subst hi
      refine zp_iload (x := (nI i)) rfl rfl ?_
      refine zp_aload_n (x := 29) rfl rfl ?_
      refine zq_geti hS rfl (by first | assumption | exact ⟨by decide, rfl⟩) rfl ?_
      rw [hn']
      refine zp_icmpN_ge (tgt := 141) rfl rfl (by omega) (by omega) (fun b29 => ?_) (fun b29 => ?_)
      · refine zp_iload (x := (nI st.2.1)) rfl rfl ?_
        refine zp_iret rfl rfl ?_
        rw [he] at hq; exact hq _ hS hF hR.2.1 hO
      · omega
    | succ k ih =>
      intro i st h' x y z hi hm hj hS hF hR hO hle he
      rw [show zf_fold (v_rpS sel mend L) i (k + 1) st = zf_fold (v_rpS sel mend L) (i + 1) k (v_rpS sel mend L i st) from rfl] at he
      have hi30 : i < 30 := by omega
      have hci := (hlg i (by omega)).1
      have hsi : (v_mk st.1.1 (L i)).1 = 0 := by rw [hm]; exact (hlg i (by omega)).2
      have hn' : cf h' 29 1 = nI n := by rw [hF.gf (by omega)]; exact hn
      have kc := qK_29.2.2 i hi30
      have l' : ∀ h2, zq_F t h h2 → zq_c (L i) (29 + 2 + i) h2 := fun h2 g => (hL i hi30).eq g (by omega)
      have m83 : ∀ h2 z, zs_H h2 → zq_F t h h2 → zq_R st.1.1 (v_sel sel mend (L i) i st).2.1 st.1.2.2.1 st.1.2.2.2 t h2 → zj_T st.1.1 st.1.2.1 st.1.2.2.1 st.1.2.2.2 (L i) (v_sel sel mend (L i) i st).2.1 (cond (v_ismd (v_sel sel mend (L i) i st).1) (v_sel sel mend (L i) i st).2.2 none) → (v_ismd (v_sel sel mend (L i) i st).1 = true → ∃ pl, zq_c pl 168 h2 ∧ zc_leg pl ∧ ((L i).1 = 0 ∨ (L i).1 = 4 → pl.1 = (L i).1 ∧ v_old (v_sel sel mend (L i) i st).2.1 pl = (v_sel sel mend (L i) i st).2.2)) → (∀ z, (v_sel sel mend (L i) i st).1 = some z → z < 2 ^ 31) → zr_O st.2.2 i (ci h2 169) → zp_wp X y_Repl_run 83 [.ref 155, .ref 1, .ref t, .ref 29, .int sel, .int (zf_b mend), .int (nI st.2.1), .int (nI i), .ref (29 + 2 + i), .int (zf_o (v_sel sel mend (L i) i st).1), z] [] h2 Q := by
        intro h2 z hS hF2 hR2 hT2 hpl hz31 hO2
        unfold v_rpS at he
        dsimp only at he
        generalize v_sel sel mend (L i) i st = o at *
        obtain ⟨o1, TG', ad⟩ := o
        dsimp only at *
        have hr : st.2.1 + cond (v_ismd o1) 1 0 ≤ i + 1 := by cases v_ismd o1 <;> simp <;> omega
        have go : ∀ h3, zs_H h3 → zq_F t h h3 → zq_R (v_mk st.1.1 (L i)).2.1 TG' (v_onC st.1.1 st.1.2.2.1 (L i) (cond (v_ismd o1) ad none)) (v_onM st.1.1 st.1.2.2.2 (L i) (cond (v_ismd o1) ad none)) t h3 → (∀ j, j < i + 1 → ci h3 169 j = zf_o (va_up st.2.2 i o1 j)) → ∀ x y z, zp_wp X y_Repl_run 23 [.ref 155, .ref 1, .ref t, .ref 29, .int sel, .int (zf_b mend), .int (nI (st.2.1 + cond (v_ismd o1) 1 0)), .int (nI (i + 1)), x, y, z] [] h3 Q := by
          intro h3 hS3 hF3 hR3 hO3 x y z
          exact ih (i + 1) (((v_mk st.1.1 (L i)).2.1, TG', v_onC st.1.1 st.1.2.2.1 (L i) (cond (v_ismd o1) ad none), v_onM st.1.1 st.1.2.2.2 (L i) (cond (v_ismd o1) ad none)), st.2.1 + cond (v_ismd o1) 1 0, va_up st.2.2 i o1) h3 x y z (by omega) (by dsimp only; rw [hm]; rfl) (hj.on hci hsi hT2) hS3 hF3 hR3 hO3 hr he
        have up : ∀ h3 (v : Int32), zh_eq (fun x => 156 < x ∧ x ≤ 167) h2 h3 → v = zf_o o1 → ∀ j, j < i + 1 → ci (zi_put h3 169 (upd (ci h3 169) i v)) 169 j = zf_o (va_up st.2.2 i o1 j) := by
          intro h3 v he3 hv j hj
          rw [zi_at]
          by_cases e : j = i
          · subst e; rw [pk_us, va_up_s]; exact hv
          · rw [pk_un e, va_up_o e, he3.gi (by omega)]; exact hO2 j (by omega)
        have fr : ∀ h3 (g : Nat → Int32), zh_eq (fun x => 156 < x ∧ x ≤ 167) h2 h3 → zq_F t h (zi_put h3 169 g) := fun h3 g he3 => zh_eq.zi (hF2.trans (he3.mono (fun x e => by omega))) (by omega)
        cases o1 with
        | none =>
          show zp_wp X y_Repl_run 83 [.ref 155, .ref 1, .ref t, .ref 29, .int sel, .int (zf_b mend), .int (nI st.2.1), .int (nI i), .ref (29 + 2 + i), .int (-1), z] [] h2 Q
          refine zp_iload (x := (-1)) rfl rfl ?_
          refine zp_ifF (tgt := 95) rfl rfl (by decide +kernel) ?_
          refine zp_iload (x := (-1)) rfl rfl ?_
          refine zp_bipush (v := (nI 100)) rfl (by decide +kernel) ?_
          refine zp_icT (tgt := 99) rfl rfl (by decide +kernel) ?_
          refine zp_iconst (v := (nI 0)) rfl (by decide +kernel) ?_
          refine zp_istore_10 rfl rfl ?_
          refine zp_aload_n (x := 155) rfl rfl ?_
          refine zp_aload (x := (29 + 2 + i)) rfl rfl ?_
          refine zp_aload_n (x := t) rfl rfl ?_
          refine zp_iload (x := (nI 0)) rfl rfl ?_
          refine zq_virt hS rfl rfl (by first | assumption | exact ⟨by decide, rfl⟩) rfl (s_Repl_follow (st := false) (mt := none) (TG := st.1.2.1) hS hT ht.2 hR2 hj hci hsi hT2 kc (by omega) (l' h2 hF2) (fun q => by cases q) (fun _ => rfl) (fun h3 hS3 he3 hR3 => ?_))
          have hS := hS3
          show zp_wp X y_Repl_run 111 [.ref 155, .ref 1, .ref t, .ref 29, .int sel, .int (zf_b mend), .int (nI st.2.1), .int (nI i), .ref (29 + 2 + i), .int (-1), .int (nI 0)] [] h3 Q
          refine zp_iload (x := (nI st.2.1)) rfl rfl ?_
          refine zp_iload (x := (nI 0)) rfl rfl ?_
          refine zp_ifT (tgt := 122) rfl rfl (by decide +kernel) ?_
          refine zp_iconst (v := (nI 0)) rfl (by decide +kernel) ?_
          refine zp_iaddN rfl ?_
          refine zp_istore_6 rfl rfl ?_
          refine zp_aload_n (x := 155) rfl rfl ?_
          refine zq_getr (k9 := 169) hS rfl (by first | assumption | exact ⟨by decide, rfl⟩) rfl ?_
          refine zp_iload (x := (nI i)) rfl rfl ?_
          refine zp_iload (x := (-1)) rfl rfl ?_
          refine zq_iast hS rfl (by first | assumption | exact ⟨by decide, rfl⟩) (by omega) (by first | decide | omega) (fun hS134 => ?_)
          have hS := hS134
          refine zp_iincN_7 rfl rfl ?_
          refine zp_goto (tgt := 23) rfl rfl ?_
          exact go _ hS (fr _ _ he3) (hR3.eq (zh_one zh_eq.rf) (fun x _ _ => by omega) (fun x _ _ => by omega)) (up _ _ he3 rfl) _ _ _
        | some u =>
          have hu := hz31 u rfl
          show zp_wp X y_Repl_run 83 [.ref 155, .ref 1, .ref t, .ref 29, .int sel, .int (zf_b mend), .int (nI st.2.1), .int (nI i), .ref (29 + 2 + i), .int (nI u), z] [] h2 Q
          cases hmd : v_ismd (some u) with
          | true =>
            have hzz : u = 0 ∨ u = 100 := by simpa [v_ismd] using hmd
            rw [hmd] at go hT2
            refine zp_iload (x := (nI u)) rfl rfl ?_
            refine zp_ifN_eq (tgt := 95) rfl rfl (by omega) (fun b85 => ?_) (fun b85 => ?_)
            · refine zp_iconst (v := (nI 1)) rfl (by decide +kernel) ?_
              refine zp_goto (tgt := 100) rfl rfl ?_
              refine zp_istore_10 rfl rfl ?_
              refine zp_aload_n (x := 155) rfl rfl ?_
              refine zp_aload (x := (29 + 2 + i)) rfl rfl ?_
              refine zp_aload_n (x := t) rfl rfl ?_
              refine zp_iload (x := (nI 1)) rfl rfl ?_
              refine zq_virt hS rfl rfl (by first | assumption | exact ⟨by decide, rfl⟩) rfl (s_Repl_follow (st := true) (mt := ad) (TG := st.1.2.1) hS hT ht.2 hR2 hj hci hsi hT2 kc (by omega) (l' h2 hF2) (fun _ => hpl hmd) (fun q => by cases q) (fun h3 hS3 he3 hR3 => ?_))
              have hS := hS3
              show zp_wp X y_Repl_run 111 [.ref 155, .ref 1, .ref t, .ref 29, .int sel, .int (zf_b mend), .int (nI st.2.1), .int (nI i), .ref (29 + 2 + i), .int (nI u), .int (nI 1)] [] h3 Q
              refine zp_iload (x := (nI st.2.1)) rfl rfl ?_
              refine zp_iload (x := (nI 1)) rfl rfl ?_
              refine zp_ifF (tgt := 122) rfl rfl (by decide +kernel) ?_
              refine zp_iconst (v := (nI 1)) rfl (by decide +kernel) ?_
              refine zp_goto (tgt := 123) rfl rfl ?_
              refine zp_iaddN rfl ?_
              refine zp_istore_6 rfl rfl ?_
              refine zp_aload_n (x := 155) rfl rfl ?_
              refine zq_getr (k9 := 169) hS rfl (by first | assumption | exact ⟨by decide, rfl⟩) rfl ?_
              refine zp_iload (x := (nI i)) rfl rfl ?_
              refine zp_iload (x := (nI u)) rfl rfl ?_
              refine zq_iast hS rfl (by first | assumption | exact ⟨by decide, rfl⟩) (by omega) (by first | decide | omega) (fun hS134 => ?_)
              have hS := hS134
              refine zp_iincN_7 rfl rfl ?_
              refine zp_goto (tgt := 23) rfl rfl ?_
              exact go _ hS (fr _ _ he3) (hR3.eq (zh_one zh_eq.rf) (fun x _ _ => by omega) (fun x _ _ => by omega)) (up _ _ he3 rfl) _ _ _
            · refine zp_iload (x := (nI u)) rfl rfl ?_
              refine zp_bipush (v := (nI 100)) rfl (by decide +kernel) ?_
              refine zp_icmpN_ne (tgt := 99) rfl rfl (by omega) (by omega) (fun b92 => ?_) (fun b92 => ?_)
              · omega
              · refine zp_iconst (v := (nI 1)) rfl (by decide +kernel) ?_
                refine zp_goto (tgt := 100) rfl rfl ?_
                refine zp_istore_10 rfl rfl ?_
                refine zp_aload_n (x := 155) rfl rfl ?_
                refine zp_aload (x := (29 + 2 + i)) rfl rfl ?_
                refine zp_aload_n (x := t) rfl rfl ?_
                refine zp_iload (x := (nI 1)) rfl rfl ?_
                refine zq_virt hS rfl rfl (by first | assumption | exact ⟨by decide, rfl⟩) rfl (s_Repl_follow (st := true) (mt := ad) (TG := st.1.2.1) hS hT ht.2 hR2 hj hci hsi hT2 kc (by omega) (l' h2 hF2) (fun _ => hpl hmd) (fun q => by cases q) (fun h3 hS3 he3 hR3 => ?_))
                have hS := hS3
                show zp_wp X y_Repl_run 111 [.ref 155, .ref 1, .ref t, .ref 29, .int sel, .int (zf_b mend), .int (nI st.2.1), .int (nI i), .ref (29 + 2 + i), .int (nI u), .int (nI 1)] [] h3 Q
                refine zp_iload (x := (nI st.2.1)) rfl rfl ?_
                refine zp_iload (x := (nI 1)) rfl rfl ?_
                refine zp_ifF (tgt := 122) rfl rfl (by decide +kernel) ?_
                refine zp_iconst (v := (nI 1)) rfl (by decide +kernel) ?_
                refine zp_goto (tgt := 123) rfl rfl ?_
                refine zp_iaddN rfl ?_
                refine zp_istore_6 rfl rfl ?_
                refine zp_aload_n (x := 155) rfl rfl ?_
                refine zq_getr (k9 := 169) hS rfl (by first | assumption | exact ⟨by decide, rfl⟩) rfl ?_
                refine zp_iload (x := (nI i)) rfl rfl ?_
                refine zp_iload (x := (nI u)) rfl rfl ?_
                refine zq_iast hS rfl (by first | assumption | exact ⟨by decide, rfl⟩) (by omega) (by first | decide | omega) (fun hS134 => ?_)
                have hS := hS134
                refine zp_iincN_7 rfl rfl ?_
                refine zp_goto (tgt := 23) rfl rfl ?_
                exact go _ hS (fr _ _ he3) (hR3.eq (zh_one zh_eq.rf) (fun x _ _ => by omega) (fun x _ _ => by omega)) (up _ _ he3 rfl) _ _ _
          | false =>
            have hzz : u ≠ 0 ∧ u ≠ 100 := by simpa [v_ismd] using hmd
            rw [hmd] at go hT2
            refine zp_iload (x := (nI u)) rfl rfl ?_
            refine zp_ifN_eq (tgt := 95) rfl rfl (by omega) (fun b85 => ?_) (fun b85 => ?_)
            · omega
            · refine zp_iload (x := (nI u)) rfl rfl ?_
              refine zp_bipush (v := (nI 100)) rfl (by decide +kernel) ?_
              refine zp_icmpN_ne (tgt := 99) rfl rfl (by omega) (by omega) (fun b92 => ?_) (fun b92 => ?_)
              · refine zp_iconst (v := (nI 0)) rfl (by decide +kernel) ?_
                refine zp_istore_10 rfl rfl ?_
                refine zp_aload_n (x := 155) rfl rfl ?_
                refine zp_aload (x := (29 + 2 + i)) rfl rfl ?_
                refine zp_aload_n (x := t) rfl rfl ?_
                refine zp_iload (x := (nI 0)) rfl rfl ?_
                refine zq_virt hS rfl rfl (by first | assumption | exact ⟨by decide, rfl⟩) rfl (s_Repl_follow (st := false) (mt := none) (TG := st.1.2.1) hS hT ht.2 hR2 hj hci hsi hT2 kc (by omega) (l' h2 hF2) (fun q => by cases q) (fun _ => rfl) (fun h3 hS3 he3 hR3 => ?_))
                have hS := hS3
                show zp_wp X y_Repl_run 111 [.ref 155, .ref 1, .ref t, .ref 29, .int sel, .int (zf_b mend), .int (nI st.2.1), .int (nI i), .ref (29 + 2 + i), .int (nI u), .int (nI 0)] [] h3 Q
                refine zp_iload (x := (nI st.2.1)) rfl rfl ?_
                refine zp_iload (x := (nI 0)) rfl rfl ?_
                refine zp_ifT (tgt := 122) rfl rfl (by decide +kernel) ?_
                refine zp_iconst (v := (nI 0)) rfl (by decide +kernel) ?_
                refine zp_iaddN rfl ?_
                refine zp_istore_6 rfl rfl ?_
                refine zp_aload_n (x := 155) rfl rfl ?_
                refine zq_getr (k9 := 169) hS rfl (by first | assumption | exact ⟨by decide, rfl⟩) rfl ?_
                refine zp_iload (x := (nI i)) rfl rfl ?_
                refine zp_iload (x := (nI u)) rfl rfl ?_
                refine zq_iast hS rfl (by first | assumption | exact ⟨by decide, rfl⟩) (by omega) (by first | decide | omega) (fun hS134 => ?_)
                have hS := hS134
                refine zp_iincN_7 rfl rfl ?_
                refine zp_goto (tgt := 23) rfl rfl ?_
                exact go _ hS (fr _ _ he3) (hR3.eq (zh_one zh_eq.rf) (fun x _ _ => by omega) (fun x _ _ => by omega)) (up _ _ he3 rfl) _ _ _
              · omega
      cases hb : zb_t sel i with
      | false =>
        have hsel : v_sel sel mend (L i) i st = (none, st.1.2.1, none) := by unfold v_sel; rw [hb]; rfl
        rw [hsel] at m83
        dsimp only at m83
        refine zp_iload (x := (nI i)) rfl rfl ?_
        refine zp_aload_n (x := 29) rfl rfl ?_
        refine zq_geti hS rfl (by first | assumption | exact ⟨by decide, rfl⟩) rfl ?_
        rw [hn']
        refine zp_icmpN_ge (tgt := 141) rfl rfl (by omega) (by omega) (fun b29 => ?_) (fun b29 => ?_)
        · omega
        · refine zp_iload (x := (nI i)) rfl rfl ?_
          refine zp_bipush (v := (nI 30)) rfl (by decide +kernel) ?_
          refine zp_icmpN_ge (tgt := 141) rfl rfl (by omega) (by omega) (fun b36 => ?_) (fun b36 => ?_)
          · omega
          · refine zp_aload_n (x := 29) rfl rfl ?_
            refine zp_iload (x := (nI i)) rfl rfl ?_
            refine zq_virt hS rfl rfl (by first | assumption | exact ⟨by decide, rfl⟩) rfl (s_List_at hS qK_29 hi30 ?_)
            show zp_wp X y_Repl_run 45 [.ref 155, .ref 1, .ref t, .ref 29, .int sel, .int (zf_b mend), .int (nI st.2.1), .int (nI i), x, y, z] [.ref (29 + 2 + i)] h' Q
            refine zp_astore_8 rfl rfl ?_
            refine zp_iconst (v := (-1)) rfl (by decide +kernel) ?_
            refine zp_istore_9 rfl rfl ?_
            refine zp_iload (x := sel) rfl rfl ?_
            refine zp_iload (x := (nI i)) rfl rfl ?_
            refine zp_ishr rfl rfl ?_
            refine zp_iconst (v := (nI 1)) rfl (by decide +kernel) ?_
            refine zp_iand rfl rfl ?_
            rw [zb_tn, hb]
            show zp_wp X y_Repl_run 57 [.ref 155, .ref 1, .ref t, .ref 29, .int sel, .int (zf_b mend), .int (nI st.2.1), .int (nI i), .ref (29 + 2 + i), .int (-1), z] [.int (nI 0)] h' Q
            refine zp_ifT (tgt := 83) rfl rfl (by decide +kernel) ?_
            exact m83 _ _ hS hF hR (zj_T.same hj) (fun q => by cases q) (fun z hz => by cases hz) hO
      | true =>
        have hsel : v_sel sel mend (L i) i st = (some (v_tryR mend st.1.1 st.1.2.1 st.1.2.2.1 st.1.2.2.2 (L i)).1, (v_tryR mend st.1.1 st.1.2.1 st.1.2.2.1 st.1.2.2.2 (L i)).2) := by unfold v_sel; rw [hb]; rfl
        have hjt := hj.tryR (mend := mend) hci
        have h101 := v_tryR_lt mend st.1.1 st.1.2.1 st.1.2.2.1 st.1.2.2.2 (L i)
        rw [hsel] at m83
        dsimp only at m83
        have hjt2 : ∀ bb : Bool, zj_T st.1.1 st.1.2.1 st.1.2.2.1 st.1.2.2.2 (L i) (v_tryR mend st.1.1 st.1.2.1 st.1.2.2.1 st.1.2.2.2 (L i)).2.1 (cond bb (v_tryR mend st.1.1 st.1.2.1 st.1.2.2.1 st.1.2.2.2 (L i)).2.2 none) := fun bb => by cases bb; exact hjt.none; exact hjt
        refine zp_iload (x := (nI i)) rfl rfl ?_
        refine zp_aload_n (x := 29) rfl rfl ?_
        refine zq_geti hS rfl (by first | assumption | exact ⟨by decide, rfl⟩) rfl ?_
        rw [hn']
        refine zp_icmpN_ge (tgt := 141) rfl rfl (by omega) (by omega) (fun b29 => ?_) (fun b29 => ?_)
        · omega
        · refine zp_iload (x := (nI i)) rfl rfl ?_
          refine zp_bipush (v := (nI 30)) rfl (by decide +kernel) ?_
          refine zp_icmpN_ge (tgt := 141) rfl rfl (by omega) (by omega) (fun b36 => ?_) (fun b36 => ?_)
          · omega
          · refine zp_aload_n (x := 29) rfl rfl ?_
            refine zp_iload (x := (nI i)) rfl rfl ?_
            refine zq_virt hS rfl rfl (by first | assumption | exact ⟨by decide, rfl⟩) rfl (s_List_at hS qK_29 hi30 ?_)
            show zp_wp X y_Repl_run 45 [.ref 155, .ref 1, .ref t, .ref 29, .int sel, .int (zf_b mend), .int (nI st.2.1), .int (nI i), x, y, z] [.ref (29 + 2 + i)] h' Q
            refine zp_astore_8 rfl rfl ?_
            refine zp_iconst (v := (-1)) rfl (by decide +kernel) ?_
            refine zp_istore_9 rfl rfl ?_
            refine zp_iload (x := sel) rfl rfl ?_
            refine zp_iload (x := (nI i)) rfl rfl ?_
            refine zp_ishr rfl rfl ?_
            refine zp_iconst (v := (nI 1)) rfl (by decide +kernel) ?_
            refine zp_iand rfl rfl ?_
            rw [zb_tn, hb]
            show zp_wp X y_Repl_run 57 [.ref 155, .ref 1, .ref t, .ref 29, .int sel, .int (zf_b mend), .int (nI st.2.1), .int (nI i), .ref (29 + 2 + i), .int (-1), z] [.int (nI 1)] h' Q
            refine zp_ifF (tgt := 83) rfl rfl (by decide +kernel) ?_
            refine zp_aload_n (x := 155) rfl rfl ?_
            refine zp_aload (x := (29 + 2 + i)) rfl rfl ?_
            refine zp_aload_n (x := t) rfl rfl ?_
            refine zq_virt hS rfl rfl (by first | assumption | exact ⟨by decide, rfl⟩) rfl (s_Repl_translate hS hT ht.2 hR hj kc (by omega) (l' h' hF) hci (fun h2 hS2 he2 hp2 => ?_))
            have hS := hS2
            have hF2 : zq_F t h h2 := hF.trans (he2.mono (fun x e => by omega))
            have hR2 : zq_R st.1.1 st.1.2.1 st.1.2.2.1 st.1.2.2.2 t h2 := hR.eq he2 (fun x _ _ => by omega) (fun x _ _ => by omega)
            have hO2 : zr_O st.2.2 i (ci h2 169) := by rw [he2.gi (by omega)]; exact hO
            cases hh : v_hasP st.1.1 st.1.2.1 st.1.2.2.1 st.1.2.2.2 (L i) with
            | false =>
              show zp_wp X y_Repl_run 67 [.ref 155, .ref 1, .ref t, .ref 29, .int sel, .int (zf_b mend), .int (nI st.2.1), .int (nI i), .ref (29 + 2 + i), .int (-1), z] [.int (nI 0)] h2 Q
              refine zp_ifT (tgt := 80) rfl rfl (by decide +kernel) ?_
              refine zp_iconst (v := (nI 2)) rfl (by decide +kernel) ?_
              refine zp_istore_9 rfl rfl ?_
              first
              | (refine m83 _ _ hS3 (hF2.trans (he3.mono (fun x e => by omega))) ⟨hR2.1.eq he3 (fun x _ _ => by omega), hP3, hR2.2.2.eq he3 (fun x _ _ => by omega)⟩ (hjt2 _) (fun q => ⟨pl3, hc3, hl3, fun q2 => ⟨hk3, ho3 q q2⟩⟩) (fun z hz => by cases hz; omega) (by rw [he3.gi (by omega)]; exact hO2))
              | (have hv : v_tryR mend st.1.1 st.1.2.1 st.1.2.2.1 st.1.2.2.2 (L i) = (2, st.1.2.1, none) := by unfold v_tryR; dsimp only; rw [hh, if_pos rfl]
                 rw [hv] at m83 hjt2
                 exact m83 _ _ hS2 hF2 hR2 (hjt2 _) (fun q => by have q : v_ismd (some 2) = true := q; exact absurd q (by decide)) (fun z hz => by cases hz; show 2 < 2 ^ 31; decide) hO2)
            | true =>
              show zp_wp X y_Repl_run 67 [.ref 155, .ref 1, .ref t, .ref 29, .int sel, .int (zf_b mend), .int (nI st.2.1), .int (nI i), .ref (29 + 2 + i), .int (-1), z] [.int (nI 1)] h2 Q
              refine zp_ifF (tgt := 80) rfl rfl (by decide +kernel) ?_
              refine zp_aload_n (x := 155) rfl rfl ?_
              refine zp_aload_n (x := t) rfl rfl ?_
              refine zp_iload (x := (zf_b mend)) rfl rfl ?_
              refine zq_virt hS rfl rfl (by first | assumption | exact ⟨by decide, rfl⟩) rfl (s_Repl_tryPlan hS2 hT ht.2 hR2 hj hci hh (hp2 hh) (fun h3 pl3 hS3 he3 hP3 hc3 hl3 hk3 ho3 => ?_))
              have hS := hS3
              show zp_wp X y_Repl_run 77 [.ref 155, .ref 1, .ref t, .ref 29, .int sel, .int (zf_b mend), .int (nI st.2.1), .int (nI i), .ref (29 + 2 + i), .int (-1), z] [.int (nI ((v_tryR mend st.1.1 st.1.2.1 st.1.2.2.1 st.1.2.2.2 (L i)).1))] h3 Q
              refine zp_goto (tgt := 81) rfl rfl ?_
              refine zp_istore_9 rfl rfl ?_
              first
              | (refine m83 _ _ hS3 (hF2.trans (he3.mono (fun x e => by omega))) ⟨hR2.1.eq he3 (fun x _ _ => by omega), hP3, hR2.2.2.eq he3 (fun x _ _ => by omega)⟩ (hjt2 _) (fun q => ⟨pl3, hc3, hl3, fun q2 => ⟨hk3, ho3 q q2⟩⟩) (fun z hz => by cases hz; omega) (by rw [he3.gi (by omega)]; exact hO2))
              | (have hv : v_tryR mend st.1.1 st.1.2.1 st.1.2.2.1 st.1.2.2.2 (L i) = (2, st.1.2.1, none) := by unfold v_tryR; dsimp only; rw [hh, if_pos rfl]
                 rw [hv] at m83 hjt2
                 exact m83 _ _ hS2 hF2 hR2 (hjt2 _) (fun q => by have q : v_ismd (some 2) = true := q; exact absurd q (by decide)) (fun z hz => by cases hz; show 2 < 2 ^ 31; decide) hO2)
  refine zp_iconst (v := (nI 0)) rfl (by decide +kernel) ?_
  refine zp_istore_6 rfl rfl ?_
  refine zp_aload_n (x := 155) rfl rfl ?_
  refine zq_getr (k9 := 156) hS rfl (by first | assumption | exact ⟨by decide, rfl⟩) rfl ?_
  refine zp_aload_n (x := 1) rfl rfl ?_
  refine zq_virt hS rfl rfl (by first | assumption | exact ⟨by decide, rfl⟩) rfl (s_Prog_copyFrom hS qA_156 qA_1 hB (by decide) (fun ha pa => ?_))
  have hS := pa.1
  show zp_wp X y_Repl_run 11 [.ref 155, .ref 1, .ref t, .ref 29, .int sel, .int (zf_b mend), .int (nI 0), zm_mk, zm_mk, zm_mk, zm_mk] [] ha Q
  refine zp_aload_n (x := 155) rfl rfl ?_
  refine zq_getr (k9 := 163) hS rfl (by first | assumption | exact ⟨by decide, rfl⟩) rfl ?_
  refine zp_aload_n (x := 1) rfl rfl ?_
  refine zp_aload_n (x := t) rfl rfl ?_
  refine zq_virt hS rfl rfl (by first | assumption | exact ⟨by decide, rfl⟩) rfl (s_Match_find pa.1 qM_163 qA_1 (hB.eq pa.2.1 (fun x _ _ => by omega)) hW hT (hPt.eq pa.2.1 (fun x _ _ => by omega)) hW2 (by omega) (fun hb hSb heb hmb => ?_))
  have hS := hSb
  show zp_wp X y_Repl_run 20 [.ref 155, .ref 1, .ref t, .ref 29, .int sel, .int (zf_b mend), .int (nI 0), zm_mk, zm_mk, zm_mk, zm_mk] [] hb Q
  refine zp_iconst (v := (nI 0)) rfl (by decide +kernel) ?_
  refine zp_istore_7 rfl rfl ?_
  exact lp n 0 ((B, TG, v_mC B TG, v_mM B TG), 0, fun _ => none) hb _ _ _ (by omega) rfl (zj_0 hW hW2) hSb ((pa.2.1.mono (fun x e => by omega)).trans (heb.mono (fun x e => by omega))) ⟨pa.2.2.eq heb (fun x _ _ => by omega), (hPt.eq pa.2.1 (fun x _ _ => by omega)).eq heb (fun x _ _ => by omega), hmb⟩ (fun j hj => absurd hj (by omega)) (Nat.le_refl _) rfl
end ZP15
