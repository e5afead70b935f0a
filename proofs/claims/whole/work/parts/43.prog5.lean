/-! the class: changes of members and uses -/
theorem zf_fst_any {p : Nat → Bool} {c k : Nat} : (zf_fst p c k).isSome = zf_any p c k := by
  cases e : zf_fst p c k with
  | none =>
    cases e2 : zf_any p c k with
    | false => rfl
    | true =>
      obtain ⟨j, h1, h2, h3⟩ := zf_any_iff.mp e2
      rw [zf_fst_none e j h1 h2] at h3
      cases h3
  | some i =>
    obtain ⟨h1, h2, h3, -⟩ := zf_fst_some e
    rw [zf_any_iff.mpr ⟨i, h1, h2, h3⟩]
    rfl
theorem zf_ct_pos {p : Nat → Bool} : ∀ {k c : Nat}, 0 < zf_ct p c k ↔ zf_any p c k = true
  | 0, _ => by simp [zf_ct, zf_any]
  | k + 1, c => by
    have ih := zf_ct_pos (p := p) (k := k) (c := c + 1)
    show 0 < cond (p c) 1 0 + zf_ct p (c + 1) k ↔ (p c || zf_any p (c + 1) k) = true
    cases p c with
    | true => simp; omega
    | false => simp only [cond_false, Nat.zero_add, Bool.false_or]; exact ih
theorem zf_ct_but {p : Nat → Bool} {i : Nat} : ∀ {k c : Nat}, c ≤ i → i < c + k → zf_ct p c k = zf_ct (fun j => !(j == i) && p j) c k + cond (p i) 1 0
  | 0, _, h1, h2 => by omega
  | k + 1, c, h1, h2 => by
    show cond (p c) 1 0 + zf_ct p (c + 1) k = cond (!(c == i) && p c) 1 0 + zf_ct (fun j => !(j == i) && p j) (c + 1) k + cond (p i) 1 0
    by_cases e : c = i
    · subst e
      have : zf_ct p (c + 1) k = zf_ct (fun j => !(j == c) && p j) (c + 1) k := zf_ct_cong (fun j q1 q2 => by rw [zb_ne (by omega : ¬ j = c)]; rfl)
      rw [this, zb_eq rfl]
      simp
      omega
    · rw [zf_ct_but (i := i) (k := k) (c := c + 1) (by omega) (by omega), zb_ne e]
      simp
      omega
section ZP5
variable {X : zm_X} {h : zm_H} {Q : zm_O → zm_H → Prop} {V W : zv} {p q : Nat}
theorem v_line_1 {c m : Nat} (hc : c < 12) (hW : zv_W V) : zf_any (fun k => v_mn V k == m && !(some k == none) && bt (nI 1 <<< (nI c &&& 31)) (v_ow V k)) 0 40 = (v_mem V (some c) m).isSome := by
  rw [show (v_mem V (some c) m).isSome = (zf_fst (fun k => v_mn V k == m && v_ow V k == c) 0 40).isSome from rfl, zf_fst_any]
  apply zf_any_cong
  intro j _ hj
  rw [b_1shl (by omega) (by have := hW.2.2.2.1 j (by omega); omega)]
  cases (v_mn V j == m) <;> rfl
/-- only names, classes of members and uses have changed -/
theorem zq_P.ab2 {V' : zv} (hP : zq_P V p h) (hW : zv_W V) (h1 : ∀ c, v_cn V' c = v_cn V c) (h2 : ∀ c, v_sp V' c = v_sp V c) : ∀ c, c < 12 → ∀ k, k < 32 → bt (ci h (p + 3) c) k = v_anc V' c k := fun c hc k hk => by
  refine (hP.ab c hc k hk).trans ?_
  by_cases e : v_cn V c = 0
  · rw [v_anc_d e, v_anc_d (by rw [h1]; exact e)]
  · exact (v_anc_cong (V' := V') hW (fun d hd hdl => h2 d) hc e (by rw [h1]; exact e) k).symm
theorem s_Prog_putMember {a m : Nat} (hS : zs_H h) (hA : zq_A p) (hP : zq_P V p h) (hW : zv_W V) (ha : a < 128) (hm : 97 ≤ m ∧ m ≤ 122) (hq : ∀ h', zq_post (v_addM V (v_cls V a) m).2.1 p h h' → Q (.inl (some (.int (nI (v_addM V (v_cls V a) m).1)))) h') : zp_wm X y_Prog_putMember [.ref p, .int (nI a), .int (nI m)] h Q := by
  have hA' := hA
  have hB := hW.B
  obtain ⟨hA0, hA1, hA2, hA3, hA4, hA5, hA6⟩ := hA
  show zp_wp X y_Prog_putMember 0 [.ref p, .int (nI a), .int (nI m), zm_mk, zm_mk] [] h Q
  refine zp_aload_n (x := p) rfl rfl ?_
  refine zp_iload_n (x := (nI a)) rfl rfl ?_
  refine zq_virt hS rfl rfl (by first | assumption | exact ⟨by decide, rfl⟩) rfl (s_Prog_classAt hS hA' hP hB ha ?_)
  cases hz : v_cls V a with
  | none =>
    show zp_wp X y_Prog_putMember 5 [.ref p, .int (nI a), .int (nI m), zm_mk, zm_mk] [.int (-1)] h Q
    refine zp_istore_n_3 rfl rfl ?_
    refine zp_iload_n (x := (-1)) rfl rfl ?_
    refine zp_ifF (tgt := 12) rfl rfl (by decide +kernel) ?_
    refine zp_iconst (v := (nI 2)) rfl (by decide +kernel) ?_
    refine zp_iret rfl rfl ?_
    rw [hz] at hq; exact hq h (zq_same hS hP)
  | some c =>
    have hc := (v_cls_lt hz).1
    have hcl := (v_cls_l _ hz).2
    show zp_wp X y_Prog_putMember 5 [.ref p, .int (nI a), .int (nI m), zm_mk, zm_mk] [.int (nI c)] h Q
    refine zp_istore_n_3 rfl rfl ?_
    refine zp_iload_n (x := (nI c)) rfl rfl ?_
    refine zp_ifT (tgt := 12) rfl rfl (zc_ge (by omega)) ?_
    refine zp_aload_n (x := p) rfl rfl ?_
    refine zp_iconst (v := (nI 1)) rfl (by decide +kernel) ?_
    refine zp_iload_n (x := (nI c)) rfl rfl ?_
    refine zp_ishl rfl rfl ?_
    refine zp_iload_n (x := (nI m)) rfl rfl ?_
    refine zp_iconst (v := (-1)) rfl (by decide +kernel) ?_
    refine zq_virt hS rfl rfl (by first | assumption | exact ⟨by decide, rfl⟩) rfl (s_Prog_holds (but := none) hS hA' hP hW (by omega) (by omega) (fun i hi => by cases hi) ?_)
    rw [v_line_1 hc hW]
    cases hx : (v_mem V (some c) m).isSome with
    | false =>
      show zp_wp X y_Prog_putMember 21 [.ref p, .int (nI a), .int (nI m), .int (nI c), zm_mk] [.int (nI 0)] h Q
      refine zp_ifT (tgt := 26) rfl rfl (by decide +kernel) ?_
      refine zp_aload_n (x := p) rfl rfl ?_
      refine zp_aload_n (x := p) rfl rfl ?_
      refine zp_iload_n (x := (nI c)) rfl rfl ?_
      refine zq_virt hS rfl rfl (by first | assumption | exact ⟨by decide, rfl⟩) rfl (s_Prog_line hS hA' hP hc (fun y hy => ?_))
      show zp_wp X y_Prog_putMember 32 [.ref p, .int (nI a), .int (nI m), .int (nI c), zm_mk] [.int y, .ref p] h Q
      refine zp_iload_n (x := (nI m)) rfl rfl ?_
      refine zp_iconst (v := (-1)) rfl (by decide +kernel) ?_
      refine zq_virt hS rfl rfl (by first | assumption | exact ⟨by decide, rfl⟩) rfl (s_Prog_holds (but := none) hS hA' hP hW (by omega) (by omega) (fun i hi => by cases hi) ?_)
      rw [v_kin_line hW hcl hy (by omega)]
      cases ht : v_tak V c m none with
      | false =>
        show zp_wp X y_Prog_putMember 37 [.ref p, .int (nI a), .int (nI m), .int (nI c), zm_mk] [.int (nI 0)] h Q
        refine zp_ifT (tgt := 42) rfl rfl (by decide +kernel) ?_
        refine zp_aload_n (x := p) rfl rfl ?_
        refine zq_getr (k9 := (p + 4)) hS rfl (by first | assumption | exact ⟨by decide, rfl⟩) rfl ?_
        refine zp_call rfl rfl (s_Prog_freeSlot (f := v_mn V) hS hA4 (by decide) hP.mn hB.2.2.1 ?_)
        cases hf : zf_fst (fun i => v_mn V i == 0) 0 40 with
        | none =>
          show zp_wp X y_Prog_putMember 49 [.ref p, .int (nI a), .int (nI m), .int (nI c), zm_mk] [.int (-1)] h Q
          refine zp_istore_4 rfl rfl ?_
          refine zp_iload (x := (-1)) rfl rfl ?_
          refine zp_ifF (tgt := 59) rfl rfl (by decide +kernel) ?_
          refine zp_bipush (v := (nI 9)) rfl (by decide +kernel) ?_
          refine zp_iret rfl rfl ?_
          have hv : v_addM V (v_cls V a) m = (9, V, none) := by
            rw [hz]
            simp only [v_addM]
            rw [hx, ht, if_neg (by decide), if_neg (by decide), if_pos (show v_nm V = 40 from zf_nofree hf)]
          rw [hv] at hq
          exact hq h (zq_same hS hP)
        | some i =>
          obtain ⟨-, hi2, hi3, -⟩ := zf_fst_some hf
          have hi3 : v_mn V i = 0 := by simpa using hi3
          show zp_wp X y_Prog_putMember 49 [.ref p, .int (nI a), .int (nI m), .int (nI c), zm_mk] [.int (nI i)] h Q
          refine zp_istore_4 rfl rfl ?_
          refine zp_iload (x := (nI i)) rfl rfl ?_
          refine zp_ifT (tgt := 59) rfl rfl (zc_ge (by omega)) ?_
          refine zp_aload_n (x := p) rfl rfl ?_
          refine zq_getr (k9 := (p + 4)) hS rfl (by first | assumption | exact ⟨by decide, rfl⟩) rfl ?_
          refine zp_iload (x := (nI i)) rfl rfl ?_
          refine zp_iload_n (x := (nI m)) rfl rfl ?_
          refine zq_iast hS rfl (by first | assumption | exact ⟨by decide, rfl⟩) (by omega) (by decide) (fun hS66 => ?_)
          have hS := hS66
          refine zp_aload_n (x := p) rfl rfl ?_
          refine zq_getr (k9 := (p + 5)) hS rfl (by first | assumption | exact ⟨by decide, rfl⟩) rfl ?_
          refine zp_iload (x := (nI i)) rfl rfl ?_
          refine zp_iload_n (x := (nI c)) rfl rfl ?_
          refine zq_iast hS rfl (by first | assumption | exact ⟨by decide, rfl⟩) (by omega) (by decide) (fun hS74 => ?_)
          have hS := hS74
          refine zp_iconst (v := (nI 0)) rfl (by decide +kernel) ?_
          refine zp_iret rfl rfl ?_
          have hv : v_addM V (v_cls V a) m = (0, v_set4 (v_set3 V i m) i c, some i) := by
            rw [hz]
            simp only [v_addM]
            rw [hx, ht, if_neg (by decide), if_neg (by decide), if_neg (show ¬ v_nm V = 40 from zf_free hf), hf]
          rw [hv] at hq
          refine hq _ ⟨hS, (zh_eq.rf.zi (by omega)).zi (by omega), ?_⟩
          refine ⟨fun c hc => ?_, fun c hc => ?_, fun c hc k hk => ?_, fun k hk => ?_, fun k hk => ?_, fun k hk j hj => ?_⟩
          · rw [zi_ne (by omega), zi_ne (by omega)]; exact hP.cn c hc
          · rw [zi_ne (by omega), zi_ne (by omega)]; exact hP.sp c hc
          · rw [zi_ne (by omega), zi_ne (by omega)]
            exact hP.ab2 (V' := v_set4 (v_set3 V i m) i _) hW (fun _ => rfl) (fun _ => rfl) c hc k hk
          · rw [zi_ne (by omega), zi_at, w_32, w_22]
            by_cases e : k = i
            · subst e; rw [pk_us, if_pos rfl]
            · rw [pk_un e, if_neg e]; exact hP.mn k hk
          · rw [zi_at, zi_ne (by omega)]
            unfold v_own
            rw [w_32, w_22, w_33]
            by_cases e : k = i
            · subst e; rw [pk_us, if_pos rfl, if_pos rfl, if_neg (by omega)]; rfl
            · rw [pk_un e, if_neg e, if_neg e]; exact hP.ow k hk
          · rw [zi_cj (by omega), zi_cj (by omega)]; exact hP.us k hk j hj
      | true =>
        show zp_wp X y_Prog_putMember 37 [.ref p, .int (nI a), .int (nI m), .int (nI c), zm_mk] [.int (nI 1)] h Q
        refine zp_ifF (tgt := 42) rfl rfl (by decide +kernel) ?_
        refine zp_iconst (v := (nI 5)) rfl (by decide +kernel) ?_
        refine zp_iret rfl rfl ?_
        have hv : v_addM V (v_cls V a) m = (5, V, none) := by rw [hz]; simp only [v_addM]; rw [hx, ht]; rfl
        rw [hv] at hq
        exact hq h (zq_same hS hP)
    | true =>
      show zp_wp X y_Prog_putMember 21 [.ref p, .int (nI a), .int (nI m), .int (nI c), zm_mk] [.int (nI 1)] h Q
      refine zp_ifF (tgt := 26) rfl rfl (by decide +kernel) ?_
      refine zp_iconst (v := (nI 1)) rfl (by decide +kernel) ?_
      refine zp_iret rfl rfl ?_
      have hv : v_addM V (v_cls V a) m = (1, V, none) := by rw [hz]; simp only [v_addM]; rw [hx]; rfl
      rw [hv] at hq
      exact hq h (zq_same hS hP)
theorem s_Prog_dropMember {a m : Nat} (hS : zs_H h) (hA : zq_A p) (hP : zq_P V p h) (hW : zv_W V) (ha : a < 128) (hm : 97 ≤ m ∧ m ≤ 122) (hq : ∀ h', zq_post (v_remM V (v_mem V (v_cls V a) m)).2.1 p h h' → Q (.inl (some (.int (nI (v_remM V (v_mem V (v_cls V a) m)).1)))) h') : zp_wm X y_Prog_dropMember [.ref p, .int (nI a), .int (nI m)] h Q := by
  have hA' := hA
  have hB := hW.B
  obtain ⟨hA0, hA1, hA2, hA3, hA4, hA5, hA6⟩ := hA
  show zp_wp X y_Prog_dropMember 0 [.ref p, .int (nI a), .int (nI m), zm_mk, zm_mk] [] h Q
  refine zp_aload_n (x := p) rfl rfl ?_
  refine zp_iload_n (x := (nI a)) rfl rfl ?_
  refine zp_iload_n (x := (nI m)) rfl rfl ?_
  refine zq_virt hS rfl rfl (by first | assumption | exact ⟨by decide, rfl⟩) rfl (s_Prog_memberAt hS hA' hP hW ha (by omega) (by omega) ?_)
  cases hz : v_mem V (v_cls V a) m with
  | none =>
    show zp_wp X y_Prog_dropMember 6 [.ref p, .int (nI a), .int (nI m), zm_mk, zm_mk] [.int (-1)] h Q
    refine zp_istore_n_3 rfl rfl ?_
    refine zp_iload_n (x := (-1)) rfl rfl ?_
    refine zp_ifF (tgt := 13) rfl rfl (by decide +kernel) ?_
    refine zp_iconst (v := (nI 2)) rfl (by decide +kernel) ?_
    refine zp_iret rfl rfl ?_
    rw [hz] at hq; exact hq h (zq_same hS hP)
  | some i =>
    have hi := (v_mem_lt hz).1
    have hct := zf_ct_but (p := fun j => v_us V j i) (k := 40) (c := 0) (Nat.zero_le i) (by omega)
    have hle := zf_ct_le (fun j => v_us V j i) 40 0
    show zp_wp X y_Prog_dropMember 6 [.ref p, .int (nI a), .int (nI m), zm_mk, zm_mk] [.int (nI i)] h Q
    refine zp_istore_n_3 rfl rfl ?_
    refine zp_iload_n (x := (nI i)) rfl rfl ?_
    refine zp_ifT (tgt := 13) rfl rfl (zc_ge (by omega)) ?_
    refine zp_aload_n (x := p) rfl rfl ?_
    refine zp_iload_n (x := (nI i)) rfl rfl ?_
    refine zp_iload_n (x := (nI i)) rfl rfl ?_
    refine zq_virt hS rfl rfl (by first | assumption | exact ⟨by decide, rfl⟩) rfl (s_Prog_isUse (u := some i) (t := some i) hS hA' hP (fun j hj => by cases hj; exact hi) (fun j hj => by cases hj; exact hi) ?_)
    rw [show v_uo V (some i) (some i) = v_us V i i from rfl]
    cases hu : v_us V i i with
    | false =>
      show zp_wp X y_Prog_dropMember 19 [.ref p, .int (nI a), .int (nI m), .int (nI i), zm_mk] [.int (nI 0)] h Q
      refine zp_ifT (tgt := 26) rfl rfl (by decide +kernel) ?_
      refine zp_iconst (v := (nI 0)) rfl (by decide +kernel) ?_
      refine zp_istore_4 rfl rfl ?_
      refine zp_aload_n (x := p) rfl rfl ?_
      refine zp_iload_n (x := (nI i)) rfl rfl ?_
      refine zq_virt hS rfl rfl (by first | assumption | exact ⟨by decide, rfl⟩) rfl (s_Prog_usersOf hS hA' hP hi ?_)
      show zp_wp X y_Prog_dropMember 34 [.ref p, .int (nI a), .int (nI m), .int (nI i), .int (nI 0)] [.int (nI (zf_ct (fun k => v_us V k i) 0 40))] h Q
      refine zp_iload (x := (nI 0)) rfl rfl ?_
      refine zp_icmpN_le (tgt := 41) rfl rfl (by omega) (by omega) (fun b36 => ?_) (fun b36 => ?_)
      · refine zp_aload_n (x := p) rfl rfl ?_
        refine zq_getr (k9 := (p + 4)) hS rfl (by first | assumption | exact ⟨by decide, rfl⟩) rfl ?_
        refine zp_iload_n (x := (nI i)) rfl rfl ?_
        refine zp_iconst (v := (nI 0)) rfl (by decide +kernel) ?_
        refine zq_iast hS rfl (by first | assumption | exact ⟨by decide, rfl⟩) (by omega) (by decide) (fun hS47 => ?_)
        have hS := hS47
        refine zp_aload_n (x := p) rfl rfl ?_
        refine zq_getr (k9 := (p + 5)) hS rfl (by first | assumption | exact ⟨by decide, rfl⟩) rfl ?_
        refine zp_iload_n (x := (nI i)) rfl rfl ?_
        refine zp_iconst (v := (-1)) rfl (by decide +kernel) ?_
        refine zq_iast hS rfl (by first | assumption | exact ⟨by decide, rfl⟩) (by omega) (by decide) (fun hS54 => ?_)
        have hS := hS54
        refine zp_aload_n (x := p) rfl rfl ?_
        refine zq_getr (k9 := (p + 6)) hS rfl (by first | assumption | exact ⟨by decide, rfl⟩) rfl ?_
        refine zp_iload_n (x := (nI i)) rfl rfl ?_
        refine zp_lconst (v := lN 0) rfl rfl ?_
        refine zq_last hS rfl (by first | assumption | exact ⟨by decide, rfl⟩) (by omega) (by decide) (fun hS61 => ?_)
        have hS := hS61
        refine zp_iconst (v := (nI 0)) rfl (by decide +kernel) ?_
        refine zp_iret rfl rfl ?_
        have hn : zf_any (fun j => !(j == i) && v_us V j i) 0 40 = false := by
          cases e : zf_any (fun j => !(j == i) && v_us V j i) 0 40 with
          | false => rfl
          | true => have := zf_ct_pos.mpr e; simp only [hu, cond_true, cond_false] at hct; omega
        have hv : v_remM V (v_mem V (v_cls V a) m) = (0, v_set3 (v_clr V i) i 0, none) := by
          rw [hz]
          simp only [v_remM]
          rw [hn]
          rfl
        rw [hv] at hq
        refine hq _ ⟨hS, ((zh_eq.rf.zi (by omega)).zi (by omega)).zj (by omega), ?_⟩
        refine ⟨fun c hc => ?_, fun c hc => ?_, fun c hc k hk => ?_, fun k hk => ?_, fun k hk => ?_, fun k hk j hj => ?_⟩
        · rw [zj_ci (by omega), zi_ne (by omega), zi_ne (by omega)]; exact hP.cn c hc
        · rw [zj_ci (by omega), zi_ne (by omega), zi_ne (by omega)]; exact hP.sp c hc
        · rw [zj_ci (by omega), zi_ne (by omega), zi_ne (by omega)]; exact hP.ab2 (V' := v_set3 (v_clr V i) i 0) hW (fun _ => rfl) (fun _ => rfl) c hc k hk
        · rw [zj_ci (by omega), zi_ne (by omega), zi_at, w_22, w_52]
          by_cases e : k = i
          · subst e; rw [pk_us, if_pos rfl]
          · rw [pk_un e, if_neg e]; exact hP.mn k hk
        · rw [zj_ci (by omega), zi_at, zi_ne (by omega)]
          unfold v_own
          rw [w_22, w_52, w_23, w_53]
          by_cases e : k = i
          · subst e; rw [pk_us, if_pos rfl, if_pos rfl]; rfl
          · rw [pk_un e, if_neg e]; exact hP.ow k hk
        · rw [zj_at, zi_cj (by omega), zi_cj (by omega), w_u2, w_u5]
          by_cases e : k = i
          · subst e; rw [if_pos rfl, Bool.and_false]; simp only [vp_updL, if_true]; exact bl_0 j
          · rw [if_neg e]; simp only [vp_updL, if_neg e]; exact hP.us k hk j hj
      · refine zp_iconst (v := (nI 3)) rfl (by decide +kernel) ?_
        refine zp_iret rfl rfl ?_
        have hv : v_remM V (v_mem V (v_cls V a) m) = (3, V, none) := by
          rw [hz]
          simp only [v_remM]
          rw [if_pos (zf_ct_pos.mp (by simp only [hu, cond_true, cond_false] at hct; omega))]
        rw [hv] at hq
        exact hq h (zq_same hS hP)
    | true =>
      show zp_wp X y_Prog_dropMember 19 [.ref p, .int (nI a), .int (nI m), .int (nI i), zm_mk] [.int (nI 1)] h Q
      refine zp_ifF (tgt := 26) rfl rfl (by decide +kernel) ?_
      refine zp_iconst (v := (nI 1)) rfl (by decide +kernel) ?_
      refine zp_goto (tgt := 27) rfl rfl ?_
      refine zp_istore_4 rfl rfl ?_
      refine zp_aload_n (x := p) rfl rfl ?_
      refine zp_iload_n (x := (nI i)) rfl rfl ?_
      refine zq_virt hS rfl rfl (by first | assumption | exact ⟨by decide, rfl⟩) rfl (s_Prog_usersOf hS hA' hP hi ?_)
      show zp_wp X y_Prog_dropMember 34 [.ref p, .int (nI a), .int (nI m), .int (nI i), .int (nI 1)] [.int (nI (zf_ct (fun k => v_us V k i) 0 40))] h Q
      refine zp_iload (x := (nI 1)) rfl rfl ?_
      refine zp_icmpN_le (tgt := 41) rfl rfl (by omega) (by omega) (fun b36 => ?_) (fun b36 => ?_)
      · refine zp_aload_n (x := p) rfl rfl ?_
        refine zq_getr (k9 := (p + 4)) hS rfl (by first | assumption | exact ⟨by decide, rfl⟩) rfl ?_
        refine zp_iload_n (x := (nI i)) rfl rfl ?_
        refine zp_iconst (v := (nI 0)) rfl (by decide +kernel) ?_
        refine zq_iast hS rfl (by first | assumption | exact ⟨by decide, rfl⟩) (by omega) (by decide) (fun hS47 => ?_)
        have hS := hS47
        refine zp_aload_n (x := p) rfl rfl ?_
        refine zq_getr (k9 := (p + 5)) hS rfl (by first | assumption | exact ⟨by decide, rfl⟩) rfl ?_
        refine zp_iload_n (x := (nI i)) rfl rfl ?_
        refine zp_iconst (v := (-1)) rfl (by decide +kernel) ?_
        refine zq_iast hS rfl (by first | assumption | exact ⟨by decide, rfl⟩) (by omega) (by decide) (fun hS54 => ?_)
        have hS := hS54
        refine zp_aload_n (x := p) rfl rfl ?_
        refine zq_getr (k9 := (p + 6)) hS rfl (by first | assumption | exact ⟨by decide, rfl⟩) rfl ?_
        refine zp_iload_n (x := (nI i)) rfl rfl ?_
        refine zp_lconst (v := lN 0) rfl rfl ?_
        refine zq_last hS rfl (by first | assumption | exact ⟨by decide, rfl⟩) (by omega) (by decide) (fun hS61 => ?_)
        have hS := hS61
        refine zp_iconst (v := (nI 0)) rfl (by decide +kernel) ?_
        refine zp_iret rfl rfl ?_
        have hn : zf_any (fun j => !(j == i) && v_us V j i) 0 40 = false := by
          cases e : zf_any (fun j => !(j == i) && v_us V j i) 0 40 with
          | false => rfl
          | true => have := zf_ct_pos.mpr e; simp only [hu, cond_true, cond_false] at hct; omega
        have hv : v_remM V (v_mem V (v_cls V a) m) = (0, v_set3 (v_clr V i) i 0, none) := by
          rw [hz]
          simp only [v_remM]
          rw [hn]
          rfl
        rw [hv] at hq
        refine hq _ ⟨hS, ((zh_eq.rf.zi (by omega)).zi (by omega)).zj (by omega), ?_⟩
        refine ⟨fun c hc => ?_, fun c hc => ?_, fun c hc k hk => ?_, fun k hk => ?_, fun k hk => ?_, fun k hk j hj => ?_⟩
        · rw [zj_ci (by omega), zi_ne (by omega), zi_ne (by omega)]; exact hP.cn c hc
        · rw [zj_ci (by omega), zi_ne (by omega), zi_ne (by omega)]; exact hP.sp c hc
        · rw [zj_ci (by omega), zi_ne (by omega), zi_ne (by omega)]; exact hP.ab2 (V' := v_set3 (v_clr V i) i 0) hW (fun _ => rfl) (fun _ => rfl) c hc k hk
        · rw [zj_ci (by omega), zi_ne (by omega), zi_at, w_22, w_52]
          by_cases e : k = i
          · subst e; rw [pk_us, if_pos rfl]
          · rw [pk_un e, if_neg e]; exact hP.mn k hk
        · rw [zj_ci (by omega), zi_at, zi_ne (by omega)]
          unfold v_own
          rw [w_22, w_52, w_23, w_53]
          by_cases e : k = i
          · subst e; rw [pk_us, if_pos rfl, if_pos rfl]; rfl
          · rw [pk_un e, if_neg e]; exact hP.ow k hk
        · rw [zj_at, zi_cj (by omega), zi_cj (by omega), w_u2, w_u5]
          by_cases e : k = i
          · subst e; rw [if_pos rfl, Bool.and_false]; simp only [vp_updL, if_true]; exact bl_0 j
          · rw [if_neg e]; simp only [vp_updL, if_neg e]; exact hP.us k hk j hj
      · refine zp_iconst (v := (nI 3)) rfl (by decide +kernel) ?_
        refine zp_iret rfl rfl ?_
        have hv : v_remM V (v_mem V (v_cls V a) m) = (3, V, none) := by
          rw [hz]
          simp only [v_remM]
          rw [if_pos (zf_ct_pos.mp (by simp only [hu, cond_true, cond_false] at hct; omega))]
        rw [hv] at hq
        exact hq h (zq_same hS hP)
theorem s_Prog_giveMemberName {a m n : Nat} (hS : zs_H h) (hA : zq_A p) (hP : zq_P V p h) (hW : zv_W V) (ha : a < 128) (hm : 97 ≤ m ∧ m ≤ 122) (hn : 97 ≤ n ∧ n ≤ 122) (hq : ∀ h', zq_post (v_renM V (v_cls V a) (v_mem V (v_cls V a) m) n).2.1 p h h' → Q (.inl (some (.int (nI (v_renM V (v_cls V a) (v_mem V (v_cls V a) m) n).1)))) h') : zp_wm X y_Prog_giveMemberName [.ref p, .int (nI a), .int (nI m), .int (nI n)] h Q := by
  have hA' := hA
  have hB := hW.B
  obtain ⟨hA0, hA1, hA2, hA3, hA4, hA5, hA6⟩ := hA
  show zp_wp X y_Prog_giveMemberName 0 [.ref p, .int (nI a), .int (nI m), .int (nI n), zm_mk, zm_mk] [] h Q
  refine zp_aload_n (x := p) rfl rfl ?_
  refine zp_iload_n (x := (nI a)) rfl rfl ?_
  refine zp_iload_n (x := (nI m)) rfl rfl ?_
  refine zq_virt hS rfl rfl (by first | assumption | exact ⟨by decide, rfl⟩) rfl (s_Prog_memberAt hS hA' hP hW ha (by omega) (by omega) ?_)
  cases hz : v_mem V (v_cls V a) m with
  | none =>
    show zp_wp X y_Prog_giveMemberName 6 [.ref p, .int (nI a), .int (nI m), .int (nI n), zm_mk, zm_mk] [.int (-1)] h Q
    refine zp_istore_4 rfl rfl ?_
    refine zp_aload_n (x := p) rfl rfl ?_
    refine zp_iload_n (x := (nI a)) rfl rfl ?_
    refine zq_virt hS rfl rfl (by first | assumption | exact ⟨by decide, rfl⟩) rfl (s_Prog_classAt hS hA' hP hB ha ?_)
    cases hc : v_cls V a with
    | none =>
      show zp_wp X y_Prog_giveMemberName 13 [.ref p, .int (nI a), .int (nI m), .int (nI n), .int (-1), zm_mk] [.int (-1)] h Q
      refine zp_istore_5 rfl rfl ?_
      refine zp_iload (x := (-1)) rfl rfl ?_
      refine zp_ifT (tgt := 25) rfl rfl (by decide +kernel) ?_
      refine zp_iconst (v := (nI 2)) rfl (by decide +kernel) ?_
      refine zp_iret rfl rfl ?_
      have hv : v_renM V (v_cls V a) (v_mem V (v_cls V a) m) n = (2, V, none) := by
        first
        | (rw [hc] at hz; cases hz; done)
        | (rw [hz]; rfl)
      rw [hv] at hq
      exact hq h (zq_same hS hP)
    | some c =>
      have hc1 := (v_cls_lt hc).1
      have hcl := (v_cls_l _ hc).2
      show zp_wp X y_Prog_giveMemberName 13 [.ref p, .int (nI a), .int (nI m), .int (nI n), .int (-1), zm_mk] [.int (nI c)] h Q
      refine zp_istore_5 rfl rfl ?_
      refine zp_iload (x := (-1)) rfl rfl ?_
      refine zp_ifT (tgt := 25) rfl rfl (by decide +kernel) ?_
      refine zp_iconst (v := (nI 2)) rfl (by decide +kernel) ?_
      refine zp_iret rfl rfl ?_
      have hv : v_renM V (v_cls V a) (v_mem V (v_cls V a) m) n = (2, V, none) := by
        first
        | (rw [hc] at hz; cases hz; done)
        | (rw [hz]; rfl)
      rw [hv] at hq
      exact hq h (zq_same hS hP)
  | some i =>
    have hi := (v_mem_lt hz).1
    have hil : v_mn V i ≠ 0 := by have := (v_mem_lt hz).2.1; omega
    show zp_wp X y_Prog_giveMemberName 6 [.ref p, .int (nI a), .int (nI m), .int (nI n), zm_mk, zm_mk] [.int (nI i)] h Q
    refine zp_istore_4 rfl rfl ?_
    refine zp_aload_n (x := p) rfl rfl ?_
    refine zp_iload_n (x := (nI a)) rfl rfl ?_
    refine zq_virt hS rfl rfl (by first | assumption | exact ⟨by decide, rfl⟩) rfl (s_Prog_classAt hS hA' hP hB ha ?_)
    cases hc : v_cls V a with
    | none =>
      show zp_wp X y_Prog_giveMemberName 13 [.ref p, .int (nI a), .int (nI m), .int (nI n), .int (nI i), zm_mk] [.int (-1)] h Q
      refine zp_istore_5 rfl rfl ?_
      refine zp_iload (x := (nI i)) rfl rfl ?_
      refine zp_ifF (tgt := 25) rfl rfl (zc_lt (by omega)) ?_
      refine zp_iload (x := (-1)) rfl rfl ?_
      refine zp_ifF (tgt := 27) rfl rfl (by decide +kernel) ?_
      refine zp_iconst (v := (nI 2)) rfl (by decide +kernel) ?_
      refine zp_iret rfl rfl ?_
      have hv : v_renM V (v_cls V a) (v_mem V (v_cls V a) m) n = (2, V, none) := by
        first
        | (rw [hc] at hz; cases hz; done)
        | (rw [hz]; rfl)
      rw [hv] at hq
      exact hq h (zq_same hS hP)
    | some c =>
      have hc1 := (v_cls_lt hc).1
      have hcl := (v_cls_l _ hc).2
      show zp_wp X y_Prog_giveMemberName 13 [.ref p, .int (nI a), .int (nI m), .int (nI n), .int (nI i), zm_mk] [.int (nI c)] h Q
      refine zp_istore_5 rfl rfl ?_
      refine zp_iload (x := (nI i)) rfl rfl ?_
      refine zp_ifF (tgt := 25) rfl rfl (zc_lt (by omega)) ?_
      refine zp_iload (x := (nI c)) rfl rfl ?_
      refine zp_ifT (tgt := 27) rfl rfl (zc_ge (by omega)) ?_
      refine zp_aload_n (x := p) rfl rfl ?_
      refine zp_aload_n (x := p) rfl rfl ?_
      refine zp_iload (x := (nI c)) rfl rfl ?_
      refine zq_virt hS rfl rfl (by first | assumption | exact ⟨by decide, rfl⟩) rfl (s_Prog_line hS hA' hP hc1 (fun y hy => ?_))
      show zp_wp X y_Prog_giveMemberName 34 [.ref p, .int (nI a), .int (nI m), .int (nI n), .int (nI i), .int (nI c)] [.int y, .ref p] h Q
      refine zp_iload_n (x := (nI n)) rfl rfl ?_
      refine zp_iconst (v := (-1)) rfl (by decide +kernel) ?_
      refine zq_virt hS rfl rfl (by first | assumption | exact ⟨by decide, rfl⟩) rfl (s_Prog_holds (but := none) hS hA' hP hW (by omega) (by omega) (fun i hi => by cases hi) ?_)
      rw [v_kin_line hW hcl hy (by omega)]
      cases ht : v_tak V c n none with
      | false =>
        show zp_wp X y_Prog_giveMemberName 39 [.ref p, .int (nI a), .int (nI m), .int (nI n), .int (nI i), .int (nI c)] [.int (nI 0)] h Q
        refine zp_ifT (tgt := 44) rfl rfl (by decide +kernel) ?_
        refine zp_aload_n (x := p) rfl rfl ?_
        refine zq_getr (k9 := (p + 4)) hS rfl (by first | assumption | exact ⟨by decide, rfl⟩) rfl ?_
        refine zp_iload (x := (nI i)) rfl rfl ?_
        refine zp_iload_n (x := (nI n)) rfl rfl ?_
        refine zq_iast hS rfl (by first | assumption | exact ⟨by decide, rfl⟩) (by omega) (by decide) (fun hS51 => ?_)
        have hS := hS51
        refine zp_iconst (v := (nI 0)) rfl (by decide +kernel) ?_
        refine zp_iret rfl rfl ?_
        have hv : v_renM V (v_cls V a) (v_mem V (v_cls V a) m) n = (0, v_set3 V i n, none) := by
          rw [hz, hc]
          simp only [v_renM, Option.getD_some, ht]
          rfl
        rw [hv] at hq
        refine hq _ ⟨hS, zh_eq.rf.zi (by omega), ?_⟩
        refine ⟨fun c hc => ?_, fun c hc => ?_, fun c hc k hk => ?_, fun k hk => ?_, fun k hk => ?_, fun k hk j hj => ?_⟩
        · rw [zi_ne (by omega)]; exact hP.cn c hc
        · rw [zi_ne (by omega)]; exact hP.sp c hc
        · rw [zi_ne (by omega)]; exact hP.ab2 (V' := v_set3 V i n) hW (fun _ => rfl) (fun _ => rfl) c hc k hk
        · rw [zi_at, w_22]
          by_cases e : k = i
          · subst e; rw [pk_us, if_pos rfl]
          · rw [pk_un e, if_neg e]; exact hP.mn k hk
        · rw [zi_ne (by omega), hP.ow k hk]
          unfold v_own
          rw [w_22, w_23]
          by_cases e : k = i
          · subst e; rw [if_pos rfl, if_neg hil, if_neg (by omega)]
          · rw [if_neg e]
        · rw [zi_cj (by omega)]; exact hP.us k hk j hj
      | true =>
        show zp_wp X y_Prog_giveMemberName 39 [.ref p, .int (nI a), .int (nI m), .int (nI n), .int (nI i), .int (nI c)] [.int (nI 1)] h Q
        refine zp_ifF (tgt := 44) rfl rfl (by decide +kernel) ?_
        refine zp_iconst (v := (nI 5)) rfl (by decide +kernel) ?_
        refine zp_iret rfl rfl ?_
        have hv : v_renM V (v_cls V a) (v_mem V (v_cls V a) m) n = (5, V, none) := by
          rw [hz, hc]
          simp only [v_renM, Option.getD_some, ht]
          rfl
        rw [hv] at hq
        exact hq h (zq_same hS hP)
theorem s_Prog_giveOwner {a m b : Nat} (hS : zs_H h) (hA : zq_A p) (hP : zq_P V p h) (hW : zv_W V) (ha : a < 128) (hm : 97 ≤ m ∧ m ≤ 122) (hb : b < 128) (hq : ∀ h', zq_post (v_movM V (v_cls V a) (v_mem V (v_cls V a) m) (v_cls V b)).2.1 p h h' → Q (.inl (some (.int (nI (v_movM V (v_cls V a) (v_mem V (v_cls V a) m) (v_cls V b)).1)))) h') : zp_wm X y_Prog_giveOwner [.ref p, .int (nI a), .int (nI m), .int (nI b)] h Q := by
  have hA' := hA
  have hB := hW.B
  obtain ⟨hA0, hA1, hA2, hA3, hA4, hA5, hA6⟩ := hA
  show zp_wp X y_Prog_giveOwner 0 [.ref p, .int (nI a), .int (nI m), .int (nI b), zm_mk, zm_mk] [] h Q
  refine zp_aload_n (x := p) rfl rfl ?_
  refine zp_iload_n (x := (nI a)) rfl rfl ?_
  refine zp_iload_n (x := (nI m)) rfl rfl ?_
  refine zq_virt hS rfl rfl (by first | assumption | exact ⟨by decide, rfl⟩) rfl (s_Prog_memberAt hS hA' hP hW ha (by omega) (by omega) ?_)
  cases hz : v_mem V (v_cls V a) m with
  | none =>
    show zp_wp X y_Prog_giveOwner 6 [.ref p, .int (nI a), .int (nI m), .int (nI b), zm_mk, zm_mk] [.int (-1)] h Q
    refine zp_istore_4 rfl rfl ?_
    refine zp_aload_n (x := p) rfl rfl ?_
    refine zp_iload_n (x := (nI b)) rfl rfl ?_
    refine zq_virt hS rfl rfl (by first | assumption | exact ⟨by decide, rfl⟩) rfl (s_Prog_classAt hS hA' hP hB hb ?_)
    cases hc : v_cls V b with
    | none =>
      show zp_wp X y_Prog_giveOwner 13 [.ref p, .int (nI a), .int (nI m), .int (nI b), .int (-1), zm_mk] [.int (-1)] h Q
      refine zp_istore_5 rfl rfl ?_
      refine zp_iload (x := (-1)) rfl rfl ?_
      refine zp_ifT (tgt := 25) rfl rfl (by decide +kernel) ?_
      refine zp_iconst (v := (nI 2)) rfl (by decide +kernel) ?_
      refine zp_iret rfl rfl ?_
      have hv : v_movM V (v_cls V a) (v_mem V (v_cls V a) m) (v_cls V b) = (2, V, none) := by
        first
        | (rw [hz]; rfl)
        | (rw [hz, hc]; rfl)
      rw [hv] at hq
      exact hq h (zq_same hS hP)
    | some c =>
      have hc1 := (v_cls_lt hc).1
      have hcl := (v_cls_l _ hc).2
      show zp_wp X y_Prog_giveOwner 13 [.ref p, .int (nI a), .int (nI m), .int (nI b), .int (-1), zm_mk] [.int (nI c)] h Q
      refine zp_istore_5 rfl rfl ?_
      refine zp_iload (x := (-1)) rfl rfl ?_
      refine zp_ifT (tgt := 25) rfl rfl (by decide +kernel) ?_
      refine zp_iconst (v := (nI 2)) rfl (by decide +kernel) ?_
      refine zp_iret rfl rfl ?_
      have hv : v_movM V (v_cls V a) (v_mem V (v_cls V a) m) (v_cls V b) = (2, V, none) := by
        first
        | (rw [hz]; rfl)
        | (rw [hz, hc]; rfl)
      rw [hv] at hq
      exact hq h (zq_same hS hP)
  | some i =>
    obtain ⟨hi, hin, hio⟩ := v_mem_lt hz
    have hil : v_mn V i ≠ 0 := by omega
    have ho := hW.2.2.2.1 i hi
    show zp_wp X y_Prog_giveOwner 6 [.ref p, .int (nI a), .int (nI m), .int (nI b), zm_mk, zm_mk] [.int (nI i)] h Q
    refine zp_istore_4 rfl rfl ?_
    refine zp_aload_n (x := p) rfl rfl ?_
    refine zp_iload_n (x := (nI b)) rfl rfl ?_
    refine zq_virt hS rfl rfl (by first | assumption | exact ⟨by decide, rfl⟩) rfl (s_Prog_classAt hS hA' hP hB hb ?_)
    cases hc : v_cls V b with
    | none =>
      show zp_wp X y_Prog_giveOwner 13 [.ref p, .int (nI a), .int (nI m), .int (nI b), .int (nI i), zm_mk] [.int (-1)] h Q
      refine zp_istore_5 rfl rfl ?_
      refine zp_iload (x := (nI i)) rfl rfl ?_
      refine zp_ifF (tgt := 25) rfl rfl (zc_lt (by omega)) ?_
      refine zp_iload (x := (-1)) rfl rfl ?_
      refine zp_ifF (tgt := 27) rfl rfl (by decide +kernel) ?_
      refine zp_iconst (v := (nI 2)) rfl (by decide +kernel) ?_
      refine zp_iret rfl rfl ?_
      have hv : v_movM V (v_cls V a) (v_mem V (v_cls V a) m) (v_cls V b) = (2, V, none) := by
        first
        | (rw [hz]; rfl)
        | (rw [hz, hc]; rfl)
      rw [hv] at hq
      exact hq h (zq_same hS hP)
    | some c =>
      have hc1 := (v_cls_lt hc).1
      have hcl := (v_cls_l _ hc).2
      show zp_wp X y_Prog_giveOwner 13 [.ref p, .int (nI a), .int (nI m), .int (nI b), .int (nI i), zm_mk] [.int (nI c)] h Q
      refine zp_istore_5 rfl rfl ?_
      refine zp_iload (x := (nI i)) rfl rfl ?_
      refine zp_ifF (tgt := 25) rfl rfl (zc_lt (by omega)) ?_
      refine zp_iload (x := (nI c)) rfl rfl ?_
      refine zp_ifT (tgt := 27) rfl rfl (zc_ge (by omega)) ?_
      refine zp_aload_n (x := p) rfl rfl ?_
      refine zq_getr (k9 := (p + 5)) hS rfl (by first | assumption | exact ⟨by decide, rfl⟩) rfl ?_
      refine zp_iload (x := (nI i)) rfl rfl ?_
      refine zq_iald hS rfl (by first | assumption | exact ⟨by decide, rfl⟩) (by omega) (by first | decide | omega) ?_
      rw [hP.ow (i) (by omega)]
      rw [v_own_o hil]
      refine zp_iload (x := (nI c)) rfl rfl ?_
      refine zp_icmpN_ne (tgt := 41) rfl rfl (by omega) (by omega) (fun b36 => ?_) (fun b36 => ?_)
      · have hne : ¬ v_cls V a = some c := fun q => by rw [hio] at q; cases q; exact b36 rfl
        refine zp_aload_n (x := p) rfl rfl ?_
        refine zp_aload_n (x := p) rfl rfl ?_
        refine zp_iload (x := (nI c)) rfl rfl ?_
        refine zq_virt hS rfl rfl (by first | assumption | exact ⟨by decide, rfl⟩) rfl (s_Prog_line hS hA' hP hc1 (fun y hy => ?_))
        show zp_wp X y_Prog_giveOwner 48 [.ref p, .int (nI a), .int (nI m), .int (nI b), .int (nI i), .int (nI c)] [.int y, .ref p] h Q
        refine zp_iload_n (x := (nI m)) rfl rfl ?_
        refine zp_iload (x := (nI i)) rfl rfl ?_
        refine zq_virt hS rfl rfl (by first | assumption | exact ⟨by decide, rfl⟩) rfl (s_Prog_holds (but := some i) hS hA' hP hW (by omega) (by omega) (fun j hj => by cases hj; exact hi) ?_)
        rw [v_kin_line hW hcl hy (by omega)]
        cases ht : v_tak V c m (some i) with
        | false =>
          show zp_wp X y_Prog_giveOwner 54 [.ref p, .int (nI a), .int (nI m), .int (nI b), .int (nI i), .int (nI c)] [.int (nI 0)] h Q
          refine zp_ifT (tgt := 59) rfl rfl (by decide +kernel) ?_
          refine zp_aload_n (x := p) rfl rfl ?_
          refine zq_getr (k9 := (p + 5)) hS rfl (by first | assumption | exact ⟨by decide, rfl⟩) rfl ?_
          refine zp_iload (x := (nI i)) rfl rfl ?_
          refine zp_iload (x := (nI c)) rfl rfl ?_
          refine zq_iast hS rfl (by first | assumption | exact ⟨by decide, rfl⟩) (by omega) (by decide) (fun hS67 => ?_)
          have hS := hS67
          refine zp_iconst (v := (nI 0)) rfl (by decide +kernel) ?_
          refine zp_iret rfl rfl ?_
          have hv : v_movM V (v_cls V a) (v_mem V (v_cls V a) m) (v_cls V b) = (0, v_set4 V i c, none) := by
            rw [hz, hc]
            simp only [v_movM]
            rw [if_neg hne, hin, ht]
            rfl
          rw [hv] at hq
          refine hq _ ⟨hS, zh_eq.rf.zi (by omega), ?_⟩
          refine ⟨fun c hc => ?_, fun c hc => ?_, fun c hc k hk => ?_, fun k hk => ?_, fun k hk => ?_, fun k hk j hj => ?_⟩
          · rw [zi_ne (by omega)]; exact hP.cn c hc
          · rw [zi_ne (by omega)]; exact hP.sp c hc
          · rw [zi_ne (by omega)]; exact hP.ab2 (V' := v_set4 V i _) hW (fun _ => rfl) (fun _ => rfl) c hc k hk
          · rw [zi_ne (by omega)]; exact hP.mn k hk
          · rw [zi_at]
            unfold v_own
            rw [w_32, w_33]
            by_cases e : k = i
            · subst e; rw [pk_us, if_pos rfl, if_neg hil]; rfl
            · rw [pk_un e, if_neg e]; exact hP.ow k hk
          · rw [zi_cj (by omega)]; exact hP.us k hk j hj
        | true =>
          show zp_wp X y_Prog_giveOwner 54 [.ref p, .int (nI a), .int (nI m), .int (nI b), .int (nI i), .int (nI c)] [.int (nI 1)] h Q
          refine zp_ifF (tgt := 59) rfl rfl (by decide +kernel) ?_
          refine zp_iconst (v := (nI 5)) rfl (by decide +kernel) ?_
          refine zp_iret rfl rfl ?_
          have hv : v_movM V (v_cls V a) (v_mem V (v_cls V a) m) (v_cls V b) = (5, V, none) := by
            rw [hz, hc]
            simp only [v_movM]
            rw [if_neg hne, hin, ht]
            rfl
          rw [hv] at hq
          exact hq h (zq_same hS hP)
      · refine zp_iconst (v := (nI 1)) rfl (by decide +kernel) ?_
        refine zp_iret rfl rfl ?_
        have hv : v_movM V (v_cls V a) (v_mem V (v_cls V a) m) (v_cls V b) = (1, V, none) := by
          rw [hz, hc]
          simp only [v_movM]
          rw [if_pos (by rw [hio, b36])]
        rw [hv] at hq
        exact hq h (zq_same hS hP)
end ZP5
