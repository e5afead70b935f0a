/-! rules of the automatic walk; the reference: changes of a row, the end -/
section ZPA
variable {X : zm_X} {y pc pc' : Nat} {ls st : List Value} {h : zm_H} {Q : zm_O → zm_H → Prop}
theorem zp_ifT {c : ClassFile.Cond} {x : Int32} {off : Int} {tgt : Nat} (hf : zm_lk (zm_cd y) pc = some (.inl (.ifCond c off), pc')) (ht : (pc : Int) + off = (tgt : Int)) (hc : zm_c0 c x = true) (k : zp_wp X y tgt ls st h Q) : zp_wp X y pc ls (.int x :: st) h Q := zp_st hf (by show zm_br (zm_c0 c x) pc pc' off ls st h = _; rw [zp_brs ht, hc]; rfl) k
theorem zp_ifF {c : ClassFile.Cond} {x : Int32} {off : Int} {tgt : Nat} (hf : zm_lk (zm_cd y) pc = some (.inl (.ifCond c off), pc')) (ht : (pc : Int) + off = (tgt : Int)) (hc : zm_c0 c x = false) (k : zp_wp X y pc' ls st h Q) : zp_wp X y pc ls (.int x :: st) h Q := zp_st hf (by show zm_br (zm_c0 c x) pc pc' off ls st h = _; rw [zp_brs ht, hc]; rfl) k
theorem zp_icT {c : ClassFile.Cond} {x x2 : Int32} {off : Int} {tgt : Nat} (hf : zm_lk (zm_cd y) pc = some (.inl (.if_icmp c off), pc')) (ht : (pc : Int) + off = (tgt : Int)) (hc : zm_c2 c x x2 = true) (k : zp_wp X y tgt ls st h Q) : zp_wp X y pc ls (.int x2 :: .int x :: st) h Q := zp_st hf (by show zm_br (zm_c2 c x x2) pc pc' off ls st h = _; rw [zp_brs ht, hc]; rfl) k
theorem zp_icF {c : ClassFile.Cond} {x x2 : Int32} {off : Int} {tgt : Nat} (hf : zm_lk (zm_cd y) pc = some (.inl (.if_icmp c off), pc')) (ht : (pc : Int) + off = (tgt : Int)) (hc : zm_c2 c x x2 = false) (k : zp_wp X y pc' ls st h Q) : zp_wp X y pc ls (.int x2 :: .int x :: st) h Q := zp_st hf (by show zm_br (zm_c2 c x x2) pc pc' off ls st h = _; rw [zp_brs ht, hc]; rfl) k
theorem zc_lt {t : Nat} (ht : t < 2 ^ 31) : zm_c0 .lt (nI t) = false := decide_eq_false (nI_pos ht)
theorem zc_ge {t : Nat} (ht : t < 2 ^ 31) : zm_c0 .ge (nI t) = true := decide_eq_true (nI_pos' ht)
theorem zc_eq0 {t : Nat} (ht : t < 2 ^ 31) : nI t = 0 ↔ t = 0 := by
  rw [← nI_0]
  exact nI_eq ht (by decide)
theorem zp_ifN_eq {a : Nat} {off : Int} {tgt : Nat} (hf : zm_lk (zm_cd y) pc = some (.inl (.ifCond .eq off), pc')) (ht : (pc : Int) + off = (tgt : Int)) (ha : a < 2 ^ 31) (kt : a = 0 → zp_wp X y tgt ls st h Q) (kf : ¬ a = 0 → zp_wp X y pc' ls st h Q) : zp_wp X y pc ls (.int (nI a) :: st) h Q :=
  zp_if_eq hf ht (fun q => kt ((zc_eq0 ha).mp q)) (fun q => kf (fun e => q ((zc_eq0 ha).mpr e)))
theorem zp_ifN_ne {a : Nat} {off : Int} {tgt : Nat} (hf : zm_lk (zm_cd y) pc = some (.inl (.ifCond .ne off), pc')) (ht : (pc : Int) + off = (tgt : Int)) (ha : a < 2 ^ 31) (kt : ¬ a = 0 → zp_wp X y tgt ls st h Q) (kf : a = 0 → zp_wp X y pc' ls st h Q) : zp_wp X y pc ls (.int (nI a) :: st) h Q :=
  zp_if_ne hf ht (fun q => kt (fun e => q ((zc_eq0 ha).mpr e))) (fun q => kf ((zc_eq0 ha).mp (Decidable.not_not.mp q)))
theorem zp_ifN_gt {a : Nat} {off : Int} {tgt : Nat} (hf : zm_lk (zm_cd y) pc = some (.inl (.ifCond .gt off), pc')) (ht : (pc : Int) + off = (tgt : Int)) (ha : a < 2 ^ 31) (kt : 0 < a → zp_wp X y tgt ls st h Q) (kf : a = 0 → zp_wp X y pc' ls st h Q) : zp_wp X y pc ls (.int (nI a) :: st) h Q := by
  have e := nI_ltI (a := 0) (b := a) (by decide) ha
  rw [nI_0] at e
  exact zp_if_gt hf ht (fun q => kt (e.mp q)) (fun q => kf (by have := mt e.mpr q; omega))
theorem zp_ifN_le {a : Nat} {off : Int} {tgt : Nat} (hf : zm_lk (zm_cd y) pc = some (.inl (.ifCond .le off), pc')) (ht : (pc : Int) + off = (tgt : Int)) (ha : a < 2 ^ 31) (kt : a = 0 → zp_wp X y tgt ls st h Q) (kf : 0 < a → zp_wp X y pc' ls st h Q) : zp_wp X y pc ls (.int (nI a) :: st) h Q := by
  have e := nI_leI (a := a) (b := 0) ha (by decide)
  rw [nI_0] at e
  exact zp_if_le hf ht (fun q => kt (by have := e.mp q; omega)) (fun q => kf (by have := mt e.mpr q; omega))
end ZPA
section ZR5
variable {X : zm_X} {h : zm_H} {Q : zm_O → zm_H → Prop} {V : zv} {r : Nat}
def v_clu (V : zv) (m i : Nat) : zv := (V.1, V.2.1, V.2.2.1, V.2.2.2.1, va_up V.2.2.2.2 m (fun b => if b < i then false else V.2.2.2.2 m b))
theorem v_clu_0 (V : zv) (m : Nat) : v_clu V m 0 = V := by
  unfold v_clu
  refine congrArg (fun z => (V.1, V.2.1, V.2.2.1, V.2.2.2.1, z)) ?_
  funext a
  by_cases e : a = m
  · subst e; simp [va_up]
  · simp [va_up, e]
theorem v_clu_s (V : zv) (m i : Nat) : v_set5 (v_clu V m i) m i false = v_clu V m (i + 1) := by
  unfold v_clu v_set5
  refine congrArg (fun z => (V.1, V.2.1, V.2.2.1, V.2.2.2.1, z)) ?_
  funext a
  by_cases e : a = m
  · subst e
    funext b
    by_cases e2 : b = i
    · subst e2; simp [va_up]
    · have h1 : (b < i + 1) = (b < i) := by simp; omega
      simp [va_up, e2, h1]
  · simp [va_up, e]
theorem v_clu_40 {V : zv} {m : Nat} {A : Nat → Int32} (h : zv_R (v_clu V m 40) A) : zv_R (v_clr V m) A := by
  obtain ⟨w1, w2, w3, w4, w5⟩ := h
  refine ⟨w1, w2, w3, w4, fun a b ha hb => ?_⟩
  rw [w5 a b ha hb]
  by_cases e : a = m
  · subst e; simp [v_us, v_clu, v_clr, va_up, hb]
  · simp [v_us, v_clu, v_clr, va_up, e]
theorem zv_cu {A : Nat → Int32} (hV : zv_R V A) : ∀ i, i < 1600 → (A (104 + i) = 0 ↔ v_us V (i / 40) (i % 40) = false) := by
  intro i hi
  have h1 := hV.2.2.2.2 (i / 40) (i % 40) (by omega) (by omega)
  rw [show 104 + 40 * (i / 40) + i % 40 = 104 + i by omega] at h1
  rw [h1]
  cases v_us V (i / 40) (i % 40) <;> decide +kernel
theorem s_Mod_removesMember {m : Option Nat} (hS : zs_H h) (hr : zs_I r 1704) (hV : zv_R V (ci h r)) (hB : zv_B V) (hm : ∀ i, m = some i → i < 40) (had : cf h 171 10 = -1) (hq : ∀ h', zr_post (v_remM V m).2.1 (v_remM V m).2.2 r h h' → Q (.inl (some (.int (nI (v_remM V m).1)))) h') : zp_wm X y_Mod_removesMember [.ref 171, .ref r, .int (zf_o m)] h Q := by
  show zp_wp X y_Mod_removesMember 0 [.ref 171, .ref r, .int (zf_o m), zm_mk] [] h Q
  have hne := zs_I_ne hr zs_M
  cases m with
  | none =>
    show zp_wp X y_Mod_removesMember 0 [.ref 171, .ref r, .int (-1), zm_mk] [] h Q
    refine zp_iload_n (x := (-1)) rfl rfl ?_
    refine zp_ifF (tgt := 6) rfl rfl (by decide +kernel) ?_
    refine zp_iconst (v := (nI 2)) rfl (by decide +kernel) ?_
    refine zp_iret rfl rfl ?_
    exact hq h (zr_same hS hV had)
  | some m =>
    have hm := hm m rfl
    show zp_wp X y_Mod_removesMember 0 [.ref 171, .ref r, .int (nI m), zm_mk] [] h Q
    have cl : ∀ k i h', i + k = 40 → zf_any (fun j => !(j == m) && v_us V j m) 0 40 = false → zs_H h' → zh_eq (fun x => x = r ∨ x = 171) h h' → (∀ j, cf h' 171 j = cf h 171 j) → zv_R (v_clu V m i) (ci h' r) → zp_wp X y_Mod_removesMember 44 [.ref 171, .ref r, .int (nI m), .int (nI i)] [] h' Q := by
      intro k
      induction k with
      | zero =>
        intro i h' hi ha hS heq hcf hV'
        refine zp_iload_n (x := (nI i)) rfl rfl ?_
        refine zp_bipush (v := (nI 40)) rfl (by decide +kernel) ?_
        refine zp_icmpN_ge (tgt := 68) rfl rfl (by omega) (by omega) (fun b47 => ?_) (fun b47 => ?_)
        · refine zp_aload_n (x := r) rfl rfl ?_
          refine zp_bipush (v := (nI 24)) rfl (by decide +kernel) ?_
          refine zp_iload_n (x := (nI m)) rfl rfl ?_
          refine zp_iaddN rfl ?_
          refine zp_iconst (v := (nI 0)) rfl (by decide +kernel) ?_
          refine zq_iast hS rfl (by first | assumption | exact ⟨by decide, rfl⟩) (by omega) (by decide) (fun hS74 => ?_)
          have hS := hS74
          refine zp_iconst (v := (nI 0)) rfl (by decide +kernel) ?_
          refine zp_iret rfl rfl ?_
          have hv : v_remM V (some m) = (0, v_set3 (v_clr V m) m 0, none) := by simp [v_remM, ha]
          rw [hv] at hq
          refine hq _ ⟨hS, heq.zi (Or.inl rfl), ?_, by rw [zi_cf (Ne.symm hne), hcf]; exact had, fun j _ => by rw [zi_cf (Ne.symm hne), hcf]⟩
          rw [zi_at]
          have hi : i = 40 := by omega
          subst hi
          exact zv_R3 (V := v_clr V m) (v_clu_40 hV') hm
        · omega
      | succ k ih =>
        intro i h' hi ha hS heq hcf hV'
        refine zp_iload_n (x := (nI i)) rfl rfl ?_
        refine zp_bipush (v := (nI 40)) rfl (by decide +kernel) ?_
        refine zp_icmpN_ge (tgt := 68) rfl rfl (by omega) (by omega) (fun b47 => ?_) (fun b47 => ?_)
        · omega
        · refine zp_aload_n (x := r) rfl rfl ?_
          refine zp_bipush (v := (nI 104)) rfl (by decide +kernel) ?_
          refine zp_bipush (v := (nI 40)) rfl (by decide +kernel) ?_
          refine zp_iload_n (x := (nI m)) rfl rfl ?_
          refine zp_imulN rfl ?_
          refine zp_iaddN rfl ?_
          refine zp_iload_n (x := (nI i)) rfl rfl ?_
          refine zp_iaddN rfl ?_
          refine zp_iconst (v := (nI 0)) rfl (by decide +kernel) ?_
          refine zq_iast hS rfl (by first | assumption | exact ⟨by decide, rfl⟩) (by omega) (by decide) (fun hS61 => ?_)
          have hS := hS61
          refine zp_iincN_3 rfl rfl ?_
          refine zp_goto (tgt := 44) rfl rfl ?_
          refine ih (i + 1) _ (by omega) ha hS (heq.zi (Or.inl rfl)) (fun j => by rw [zi_cf (Ne.symm hne), hcf]) ?_
          rw [zi_at, ← v_clu_s]
          exact zv_R5 (b := false) hV' hm (by omega)
    have lp : ∀ k i, i + k = 40 → zf_any (fun j => !(j == m) && v_us V j m) 0 40 = zf_any (fun j => !(j == m) && v_us V j m) i k → zp_wp X y_Mod_removesMember 8 [.ref 171, .ref r, .int (nI m), .int (nI i)] [] h Q := by
      intro k
      induction k with
      | zero =>
        intro i hi he
        refine zp_iload_n (x := (nI i)) rfl rfl ?_
        refine zp_bipush (v := (nI 40)) rfl (by decide +kernel) ?_
        refine zp_icmpN_ge (tgt := 42) rfl rfl (by omega) (by omega) (fun b11 => ?_) (fun b11 => ?_)
        · refine zp_iconst (v := (nI 0)) rfl (by decide +kernel) ?_
          refine zp_istore_n_3 rfl rfl ?_
          exact cl 40 0 h rfl he hS zh_eq.rf (fun _ => rfl) (by rw [v_clu_0]; exact hV)
        · omega
      | succ k ih =>
        intro i hi he
        refine zp_iload_n (x := (nI i)) rfl rfl ?_
        refine zp_bipush (v := (nI 40)) rfl (by decide +kernel) ?_
        refine zp_icmpN_ge (tgt := 42) rfl rfl (by omega) (by omega) (fun b11 => ?_) (fun b11 => ?_)
        · omega
        · refine zp_iload_n (x := (nI i)) rfl rfl ?_
          refine zp_iload_n (x := (nI m)) rfl rfl ?_
          refine zp_icmpN_eq (tgt := 36) rfl rfl (by omega) (by omega) (fun b16 => ?_) (fun b16 => ?_)
          · have he := he.trans (zf_any_f (by simp [b16]))
            refine zp_iincN_3 rfl rfl ?_
            refine zp_goto (tgt := 8) rfl rfl ?_
            exact ih (i + 1) (by omega) he
          · refine zp_aload_n (x := r) rfl rfl ?_
            refine zp_bipush (v := (nI 104)) rfl (by decide +kernel) ?_
            refine zp_bipush (v := (nI 40)) rfl (by decide +kernel) ?_
            refine zp_iload_n (x := (nI i)) rfl rfl ?_
            refine zp_imulN rfl ?_
            refine zp_iaddN rfl ?_
            refine zp_iload_n (x := (nI m)) rfl rfl ?_
            refine zp_iaddN rfl ?_
            refine zq_iald hS rfl (by first | assumption | exact ⟨by decide, rfl⟩) (by omega) (by decide) ?_
            rw [hV.2.2.2.2 (i) (m) (by omega) (by omega)]
            have q29 : cond (v_us V (i) (m)) 1 0 ≤ 1 := by cases v_us V (i) (m) <;> decide
            refine zp_iconst (v := (nI 1)) rfl (by decide +kernel) ?_
            refine zp_icmpN_ne (tgt := 36) rfl rfl (by omega) (by omega) (fun b31 => ?_) (fun b31 => ?_)
            · have he := he.trans (zf_any_f (by cases hu : v_us V i m with | true => rw [hu] at b31; exact absurd rfl b31 | false => simp [hu]))
              refine zp_iincN_3 rfl rfl ?_
              refine zp_goto (tgt := 8) rfl rfl ?_
              exact ih (i + 1) (by omega) he
            · refine zp_iconst (v := (nI 3)) rfl (by decide +kernel) ?_
              refine zp_iret rfl rfl ?_
              have hu : v_us V i m = true := by
                cases hu : v_us V i m with
                | true => rfl
                | false => rw [hu] at b31; exact absurd b31 (by decide)
              have he := he.trans (zf_any_t (by simp [b16, hu]))
              have hv : v_remM V (some m) = (3, V, none) := by simp [v_remM, he]
              rw [hv] at hq
              exact hq h (zr_same hS hV had)
    refine zp_iload_n (x := (nI m)) rfl rfl ?_
    refine zp_ifT (tgt := 6) rfl rfl (zc_ge (by omega)) ?_
    refine zp_iconst (v := (nI 0)) rfl (by decide +kernel) ?_
    refine zp_istore_n_3 rfl rfl ?_
    exact lp 40 0 rfl rfl
theorem s_Mod_addsUse {m n : Option Nat} (hS : zs_H h) (hr : zs_I r 1704) (hV : zv_R V (ci h r)) (hB : zv_B V) (hm : ∀ i, m = some i → i < 40) (hn : ∀ i, n = some i → i < 40) (had : cf h 171 10 = -1) (hq : ∀ h', zr_post (v_addU V m n).2.1 (v_addU V m n).2.2 r h h' → Q (.inl (some (.int (nI (v_addU V m n).1)))) h') : zp_wm X y_Mod_addsUse [.ref 171, .ref r, .int (zf_o m), .int (zf_o n)] h Q := by
  show zp_wp X y_Mod_addsUse 0 [.ref 171, .ref r, .int (zf_o m), .int (zf_o n)] [] h Q
  have hne := zs_I_ne hr zs_M
  cases m with
  | none =>
    show zp_wp X y_Mod_addsUse 0 [.ref 171, .ref r, .int (-1), .int (zf_o n)] [] h Q
    refine zp_iload_n (x := (-1)) rfl rfl ?_
    refine zp_ifT (tgt := 8) rfl rfl (by decide +kernel) ?_
    refine zp_iconst (v := (nI 2)) rfl (by decide +kernel) ?_
    refine zp_iret rfl rfl ?_
    exact hq h (zr_same hS hV had)
  | some m =>
    have hm := hm m rfl
    cases n with
    | none =>
      show zp_wp X y_Mod_addsUse 0 [.ref 171, .ref r, .int (nI m), .int (-1)] [] h Q
      refine zp_iload_n (x := (nI m)) rfl rfl ?_
      refine zp_ifF (tgt := 8) rfl rfl (zc_lt (by omega)) ?_
      refine zp_iload_n (x := (-1)) rfl rfl ?_
      refine zp_ifF (tgt := 10) rfl rfl (by decide +kernel) ?_
      refine zp_iconst (v := (nI 2)) rfl (by decide +kernel) ?_
      refine zp_iret rfl rfl ?_
      exact hq h (zr_same hS hV had)
    | some n =>
      have hn := hn n rfl
      have hc : v_nu V ≤ 1600 := zf_ct_le _ _ _
      show zp_wp X y_Mod_addsUse 0 [.ref 171, .ref r, .int (nI m), .int (nI n)] [] h Q
      refine zp_iload_n (x := (nI m)) rfl rfl ?_
      refine zp_ifF (tgt := 8) rfl rfl (zc_lt (by omega)) ?_
      refine zp_iload_n (x := (nI n)) rfl rfl ?_
      refine zp_ifT (tgt := 10) rfl rfl (zc_ge (by omega)) ?_
      refine zp_aload_n (x := r) rfl rfl ?_
      refine zp_bipush (v := (nI 104)) rfl (by decide +kernel) ?_
      refine zp_bipush (v := (nI 40)) rfl (by decide +kernel) ?_
      refine zp_iload_n (x := (nI m)) rfl rfl ?_
      refine zp_imulN rfl ?_
      refine zp_iaddN rfl ?_
      refine zp_iload_n (x := (nI n)) rfl rfl ?_
      refine zp_iaddN rfl ?_
      refine zq_iald hS rfl (by first | assumption | exact ⟨by decide, rfl⟩) (by omega) (by decide) ?_
      rw [hV.2.2.2.2 (m) (n) (by omega) (by omega)]
      have q20 : cond (v_us V (m) (n)) 1 0 ≤ 1 := by cases v_us V (m) (n) <;> decide
      refine zp_iconst (v := (nI 1)) rfl (by decide +kernel) ?_
      refine zp_icmpN_ne (tgt := 27) rfl rfl (by omega) (by omega) (fun b22 => ?_) (fun b22 => ?_)
      · have hu : v_us V m n = false := by cases hu : v_us V m n with | false => rfl | true => rw [hu] at b22; exact absurd rfl b22
        refine zp_aload_n (x := r) rfl rfl ?_
        refine zp_bipush (v := (nI 104)) rfl (by decide +kernel) ?_
        refine zp_sipush (v := (nI 1600)) rfl (by decide +kernel) ?_
        refine zp_call rfl rfl (s_Mod_countOf (p := fun i => v_us V (i / 40) (i % 40)) hS hr (by decide) (zv_cu hV) ?_)
        show zp_wp X y_Mod_addsUse 36 [.ref 171, .ref r, .int (nI m), .int (nI n)] [.int (nI (v_nu V))] h Q
        refine zp_bipush (v := (nI 60)) rfl (by decide +kernel) ?_
        refine zp_icmpN_ne (tgt := 44) rfl rfl (by omega) (by omega) (fun b38 => ?_) (fun b38 => ?_)
        · refine zp_aload_n (x := r) rfl rfl ?_
          refine zp_bipush (v := (nI 104)) rfl (by decide +kernel) ?_
          refine zp_bipush (v := (nI 40)) rfl (by decide +kernel) ?_
          refine zp_iload_n (x := (nI m)) rfl rfl ?_
          refine zp_imulN rfl ?_
          refine zp_iaddN rfl ?_
          refine zp_iload_n (x := (nI n)) rfl rfl ?_
          refine zp_iaddN rfl ?_
          refine zp_iconst (v := (nI 1)) rfl (by decide +kernel) ?_
          refine zq_iast hS rfl (by first | assumption | exact ⟨by decide, rfl⟩) (by omega) (by decide) (fun hS55 => ?_)
          have hS := hS55
          refine zp_iconst (v := (nI 0)) rfl (by decide +kernel) ?_
          refine zp_iret rfl rfl ?_
          have hv : v_addU V (some m) (some n) = (0, v_set5 V m n true, none) := by simp [v_addU, hu, b38]
          rw [hv] at hq
          exact hq _ (zr_put hr hS had (zv_R5 (b := true) hV hm hn))
        · refine zp_bipush (v := (nI 9)) rfl (by decide +kernel) ?_
          refine zp_iret rfl rfl ?_
          have hv : v_addU V (some m) (some n) = (9, V, none) := by simp [v_addU, hu, b38]
          rw [hv] at hq
          exact hq h (zr_same hS hV had)
      · refine zp_iconst (v := (nI 1)) rfl (by decide +kernel) ?_
        refine zp_iret rfl rfl ?_
        have hu : v_us V m n = true := by cases hu : v_us V m n with | true => rfl | false => rw [hu] at b22; exact absurd b22 (by decide)
        have hv : v_addU V (some m) (some n) = (1, V, none) := by simp [v_addU, hu]
        rw [hv] at hq
        exact hq h (zr_same hS hV had)
theorem s_Mod_removesUse {m n : Option Nat} (hS : zs_H h) (hr : zs_I r 1704) (hV : zv_R V (ci h r)) (hB : zv_B V) (hm : ∀ i, m = some i → i < 40) (hn : ∀ i, n = some i → i < 40) (had : cf h 171 10 = -1) (hq : ∀ h', zr_post (v_remU V m n).2.1 (v_remU V m n).2.2 r h h' → Q (.inl (some (.int (nI (v_remU V m n).1)))) h') : zp_wm X y_Mod_removesUse [.ref 171, .ref r, .int (zf_o m), .int (zf_o n)] h Q := by
  show zp_wp X y_Mod_removesUse 0 [.ref 171, .ref r, .int (zf_o m), .int (zf_o n)] [] h Q
  cases m with
  | none =>
    show zp_wp X y_Mod_removesUse 0 [.ref 171, .ref r, .int (-1), .int (zf_o n)] [] h Q
    refine zp_iload_n (x := (-1)) rfl rfl ?_
    refine zp_ifT (tgt := 22) rfl rfl (by decide +kernel) ?_
    refine zp_iconst (v := (nI 2)) rfl (by decide +kernel) ?_
    refine zp_iret rfl rfl ?_
    exact hq h (zr_same hS hV had)
  | some m =>
    have hm := hm m rfl
    cases n with
    | none =>
      show zp_wp X y_Mod_removesUse 0 [.ref 171, .ref r, .int (nI m), .int (-1)] [] h Q
      refine zp_iload_n (x := (nI m)) rfl rfl ?_
      refine zp_ifF (tgt := 22) rfl rfl (zc_lt (by omega)) ?_
      refine zp_iload_n (x := (-1)) rfl rfl ?_
      refine zp_ifT (tgt := 22) rfl rfl (by decide +kernel) ?_
      refine zp_iconst (v := (nI 2)) rfl (by decide +kernel) ?_
      refine zp_iret rfl rfl ?_
      exact hq h (zr_same hS hV had)
    | some n =>
      have hn := hn n rfl
      show zp_wp X y_Mod_removesUse 0 [.ref 171, .ref r, .int (nI m), .int (nI n)] [] h Q
      refine zp_iload_n (x := (nI m)) rfl rfl ?_
      refine zp_ifF (tgt := 22) rfl rfl (zc_lt (by omega)) ?_
      refine zp_iload_n (x := (nI n)) rfl rfl ?_
      refine zp_ifF (tgt := 22) rfl rfl (zc_lt (by omega)) ?_
      refine zp_aload_n (x := r) rfl rfl ?_
      refine zp_bipush (v := (nI 104)) rfl (by decide +kernel) ?_
      refine zp_bipush (v := (nI 40)) rfl (by decide +kernel) ?_
      refine zp_iload_n (x := (nI m)) rfl rfl ?_
      refine zp_imulN rfl ?_
      refine zp_iaddN rfl ?_
      refine zp_iload_n (x := (nI n)) rfl rfl ?_
      refine zp_iaddN rfl ?_
      refine zq_iald hS rfl (by first | assumption | exact ⟨by decide, rfl⟩) (by omega) (by decide) ?_
      rw [hV.2.2.2.2 (m) (n) (by omega) (by omega)]
      have q18 : cond (v_us V (m) (n)) 1 0 ≤ 1 := by cases v_us V (m) (n) <;> decide
      refine zp_ifN_ne (tgt := 24) rfl rfl (by omega) (fun b19 => ?_) (fun b19 => ?_)
      · refine zp_aload_n (x := r) rfl rfl ?_
        refine zp_bipush (v := (nI 104)) rfl (by decide +kernel) ?_
        refine zp_bipush (v := (nI 40)) rfl (by decide +kernel) ?_
        refine zp_iload_n (x := (nI m)) rfl rfl ?_
        refine zp_imulN rfl ?_
        refine zp_iaddN rfl ?_
        refine zp_iload_n (x := (nI n)) rfl rfl ?_
        refine zp_iaddN rfl ?_
        refine zp_iconst (v := (nI 0)) rfl (by decide +kernel) ?_
        refine zq_iast hS rfl (by first | assumption | exact ⟨by decide, rfl⟩) (by omega) (by decide) (fun hS35 => ?_)
        have hS := hS35
        refine zp_iconst (v := (nI 0)) rfl (by decide +kernel) ?_
        refine zp_iret rfl rfl ?_
        have hu : v_us V m n = true := by cases hu : v_us V m n with | true => rfl | false => rw [hu] at b19; exact absurd rfl b19
        have hv : v_remU V (some m) (some n) = (0, v_set5 V m n false, none) := by simp [v_remU, hu]
        rw [hv] at hq
        exact hq _ (zr_put hr hS had (zv_R5 (b := false) hV hm hn))
      · refine zp_iconst (v := (nI 2)) rfl (by decide +kernel) ?_
        refine zp_iret rfl rfl ?_
        have hu : v_us V m n = false := by cases hu : v_us V m n with | false => rfl | true => rw [hu] at b19; exact absurd b19 (by decide)
        have hv : v_remU V (some m) (some n) = (2, V, none) := by simp [v_remU, hu]
        rw [hv] at hq
        exact hq h (zr_same hS hV had)
theorem v_cls_12 {V : zv} {a : Nat} : ∀ i, v_cls V a = some i → i < 12 := fun _ h => (v_cls_lt h).1
theorem v_mem_40 {V : zv} {c : Option Nat} {m : Nat} : ∀ i, v_mem V c m = some i → i < 40 := fun _ h => (v_mem_lt h).1
/-- behind a change, `added` put to -1 first -/
theorem zr_post.pre {V' : zv} {ad : Option Nat} {h1 h' : zm_H} (hp : zr_post V' ad r h1 h') (e : zh_eq (fun x => x = r ∨ x = 171) h h1) (f : ∀ j, j ≠ 10 → cf h1 171 j = cf h 171 j) : zr_post V' ad r h h' := ⟨hp.1, e.trans hp.2.1, hp.2.2.1, hp.2.2.2.1, fun j hj => (hp.2.2.2.2 j hj).trans (f j hj)⟩
theorem s_Mod_makes {kind a m b n : Nat} (hS : zs_H h) (hr : zs_I r 1704) (hV : zv_R V (ci h r)) (hB : zv_B V) (hk : kind < 10) (ha : a < 128) (hm : m < 128) (hb : b < 128) (hn : n < 128) (hq : ∀ h', zr_post (v_make V kind a m b n).2.1 (v_make V kind a m b n).2.2 r h h' → Q (.inl (some (.int (nI (v_make V kind a m b n).1)))) h') : zp_wm X y_Mod_makes [.ref 171, .ref r, .int (nI kind), .int (nI a), .int (nI m), .int (nI b), .int (nI n)] h Q := by
  show zp_wp X y_Mod_makes 0 [.ref 171, .ref r, .int (nI kind), .int (nI a), .int (nI m), .int (nI b), .int (nI n), zm_mk] [] h Q
  have hne := zs_I_ne hr zs_M
  have hg := zf_at (x := -1) hS zs_M (j := 10) rfl
  have hci : ci (zf_put h 171 10 (-1)) r = ci h r := zf_ci hne
  have e1 : zh_eq (fun x => x = r ∨ x = 171) h (zf_put h 171 10 (-1)) := zh_eq.rf.zf (Or.inr rfl)
  have f1 : ∀ j, j ≠ 10 → cf (zf_put h 171 10 (-1)) 171 j = cf h 171 j := fun j hj => zf_nj hj
  have hq : ∀ h', zr_post (v_make V kind a m b n).2.1 (v_make V kind a m b n).2.2 r (zf_put h 171 10 (-1)) h' → Q (.inl (some (.int (nI (v_make V kind a m b n).1)))) h' := fun h' hp => hq h' (hp.pre e1 f1)
  refine zp_aload_n rfl rfl ?_
  refine zp_iconst (v := (-1)) rfl (by decide +kernel) ?_
  refine zq_put hS rfl (by first | assumption | exact ⟨by decide, rfl⟩) rfl rfl (fun hS => ?_)
  rw [← hci] at hV
  generalize zf_put h 171 10 (-1) = h at hS hV hg hq ⊢
  match kind, hk, hq with
  | 0, _, hq =>
    refine zp_aload_n (x := r) rfl rfl ?_
    refine zp_iload_n (x := (nI a)) rfl rfl ?_
    refine zp_call rfl rfl (t_Mod_classAt hS hr hV hB (by omega) ?_)
    show zp_wp X y_Mod_makes 10 [.ref 171, .ref r, .int (nI 0), .int (nI a), .int (nI m), .int (nI b), .int (nI n), zm_mk] [.int (zf_o (v_cls V a))] h Q
    refine zp_istore_7 rfl rfl ?_
    refine zp_iload_n (x := (nI 0)) rfl rfl ?_
    refine zp_switch (off := 51) (tgt := 64) rfl (by decide +kernel) (by decide +kernel) (by decide +kernel) rfl ?_
    refine zp_aload_n (x := 171) rfl rfl ?_
    refine zp_aload_n (x := r) rfl rfl ?_
    refine zp_iload (x := (zf_o (v_cls V a))) rfl rfl ?_
    refine zp_iload_n (x := (nI a)) rfl rfl ?_
    refine zq_virt hS rfl rfl (by first | assumption | exact ⟨by decide, rfl⟩) rfl (s_Mod_addsClass hS hr hV hB v_cls_12 hg (fun h2 hp => ?_))
    show zp_wp X y_Mod_makes 72 [.ref 171, .ref r, .int (nI 0), .int (nI a), .int (nI m), .int (nI b), .int (nI n), .int (zf_o (v_cls V a))] [.int (nI ((v_addC V (v_cls V a) a).1))] h2 Q
    refine zp_iret rfl rfl ?_
    exact hq _ hp
  | 1, _, hq =>
    refine zp_aload_n (x := r) rfl rfl ?_
    refine zp_iload_n (x := (nI a)) rfl rfl ?_
    refine zp_call rfl rfl (t_Mod_classAt hS hr hV hB (by omega) ?_)
    show zp_wp X y_Mod_makes 10 [.ref 171, .ref r, .int (nI 1), .int (nI a), .int (nI m), .int (nI b), .int (nI n), zm_mk] [.int (zf_o (v_cls V a))] h Q
    refine zp_istore_7 rfl rfl ?_
    refine zp_iload_n (x := (nI 1)) rfl rfl ?_
    refine zp_switch (off := 60) (tgt := 73) rfl (by decide +kernel) (by decide +kernel) (by decide +kernel) rfl ?_
    refine zp_aload_n (x := 171) rfl rfl ?_
    refine zp_aload_n (x := r) rfl rfl ?_
    refine zp_iload (x := (zf_o (v_cls V a))) rfl rfl ?_
    refine zq_virt hS rfl rfl (by first | assumption | exact ⟨by decide, rfl⟩) rfl (s_Mod_removesClass hS hr hV hB v_cls_12 hg (fun h2 hp => ?_))
    show zp_wp X y_Mod_makes 80 [.ref 171, .ref r, .int (nI 1), .int (nI a), .int (nI m), .int (nI b), .int (nI n), .int (zf_o (v_cls V a))] [.int (nI ((v_remC V (v_cls V a)).1))] h2 Q
    refine zp_iret rfl rfl ?_
    exact hq _ hp
  | 2, _, hq =>
    refine zp_aload_n (x := r) rfl rfl ?_
    refine zp_iload_n (x := (nI a)) rfl rfl ?_
    refine zp_call rfl rfl (t_Mod_classAt hS hr hV hB (by omega) ?_)
    show zp_wp X y_Mod_makes 10 [.ref 171, .ref r, .int (nI 2), .int (nI a), .int (nI m), .int (nI b), .int (nI n), zm_mk] [.int (zf_o (v_cls V a))] h Q
    refine zp_istore_7 rfl rfl ?_
    refine zp_iload_n (x := (nI 2)) rfl rfl ?_
    refine zp_switch (off := 68) (tgt := 81) rfl (by decide +kernel) (by decide +kernel) (by decide +kernel) rfl ?_
    refine zp_aload_n (x := 171) rfl rfl ?_
    refine zp_aload_n (x := r) rfl rfl ?_
    refine zp_iload (x := (zf_o (v_cls V a))) rfl rfl ?_
    refine zp_iload (x := (nI b)) rfl rfl ?_
    refine zq_virt hS rfl rfl (by first | assumption | exact ⟨by decide, rfl⟩) rfl (s_Mod_renamesClass hS hr hV hB v_cls_12 (by omega) hg (fun h2 hp => ?_))
    show zp_wp X y_Mod_makes 90 [.ref 171, .ref r, .int (nI 2), .int (nI a), .int (nI m), .int (nI b), .int (nI n), .int (zf_o (v_cls V a))] [.int (nI ((v_renC V (v_cls V a) b).1))] h2 Q
    refine zp_iret rfl rfl ?_
    exact hq _ hp
  | 3, _, hq =>
    refine zp_aload_n (x := r) rfl rfl ?_
    refine zp_iload_n (x := (nI a)) rfl rfl ?_
    refine zp_call rfl rfl (t_Mod_classAt hS hr hV hB (by omega) ?_)
    show zp_wp X y_Mod_makes 10 [.ref 171, .ref r, .int (nI 3), .int (nI a), .int (nI m), .int (nI b), .int (nI n), zm_mk] [.int (zf_o (v_cls V a))] h Q
    refine zp_istore_7 rfl rfl ?_
    refine zp_iload_n (x := (nI 3)) rfl rfl ?_
    refine zp_switch (off := 78) (tgt := 91) rfl (by decide +kernel) (by decide +kernel) (by decide +kernel) rfl ?_
    refine zp_aload_n (x := 171) rfl rfl ?_
    refine zp_aload_n (x := r) rfl rfl ?_
    refine zp_iload (x := (zf_o (v_cls V a))) rfl rfl ?_
    refine zp_iload (x := (nI b)) rfl rfl ?_
    refine zq_virt hS rfl rfl (by first | assumption | exact ⟨by decide, rfl⟩) rfl (s_Mod_setsSuper hS hr hV hB v_cls_12 (by omega) hg (fun h2 hp => ?_))
    show zp_wp X y_Mod_makes 100 [.ref 171, .ref r, .int (nI 3), .int (nI a), .int (nI m), .int (nI b), .int (nI n), .int (zf_o (v_cls V a))] [.int (nI ((v_supC V (v_cls V a) b).1))] h2 Q
    refine zp_iret rfl rfl ?_
    exact hq _ hp
  | 4, _, hq =>
    refine zp_aload_n (x := r) rfl rfl ?_
    refine zp_iload_n (x := (nI a)) rfl rfl ?_
    refine zp_call rfl rfl (t_Mod_classAt hS hr hV hB (by omega) ?_)
    show zp_wp X y_Mod_makes 10 [.ref 171, .ref r, .int (nI 4), .int (nI a), .int (nI m), .int (nI b), .int (nI n), zm_mk] [.int (zf_o (v_cls V a))] h Q
    refine zp_istore_7 rfl rfl ?_
    refine zp_iload_n (x := (nI 4)) rfl rfl ?_
    refine zp_switch (off := 88) (tgt := 101) rfl (by decide +kernel) (by decide +kernel) (by decide +kernel) rfl ?_
    refine zp_aload_n (x := 171) rfl rfl ?_
    refine zp_aload_n (x := r) rfl rfl ?_
    refine zp_iload (x := (zf_o (v_cls V a))) rfl rfl ?_
    refine zp_iload (x := (nI m)) rfl rfl ?_
    refine zq_virt hS rfl rfl (by first | assumption | exact ⟨by decide, rfl⟩) rfl (s_Mod_addsMember hS hr hV hB v_cls_12 (by omega) hg (fun h2 hp => ?_))
    show zp_wp X y_Mod_makes 110 [.ref 171, .ref r, .int (nI 4), .int (nI a), .int (nI m), .int (nI b), .int (nI n), .int (zf_o (v_cls V a))] [.int (nI ((v_addM V (v_cls V a) m).1))] h2 Q
    refine zp_iret rfl rfl ?_
    exact hq _ hp
  | 5, _, hq =>
    refine zp_aload_n (x := r) rfl rfl ?_
    refine zp_iload_n (x := (nI a)) rfl rfl ?_
    refine zp_call rfl rfl (t_Mod_classAt hS hr hV hB (by omega) ?_)
    show zp_wp X y_Mod_makes 10 [.ref 171, .ref r, .int (nI 5), .int (nI a), .int (nI m), .int (nI b), .int (nI n), zm_mk] [.int (zf_o (v_cls V a))] h Q
    refine zp_istore_7 rfl rfl ?_
    refine zp_iload_n (x := (nI 5)) rfl rfl ?_
    refine zp_switch (off := 98) (tgt := 111) rfl (by decide +kernel) (by decide +kernel) (by decide +kernel) rfl ?_
    refine zp_aload_n (x := 171) rfl rfl ?_
    refine zp_aload_n (x := r) rfl rfl ?_
    refine zp_aload_n (x := r) rfl rfl ?_
    refine zp_iload (x := (zf_o (v_cls V a))) rfl rfl ?_
    refine zp_iload (x := (nI m)) rfl rfl ?_
    refine zp_call rfl rfl (t_Mod_memberAt hS hr hV hB v_cls_12 (by omega) ?_)
    show zp_wp X y_Mod_makes 121 [.ref 171, .ref r, .int (nI 5), .int (nI a), .int (nI m), .int (nI b), .int (nI n), .int (zf_o (v_cls V a))] [.int (zf_o (v_mem V (v_cls V a) m)), .ref r, .ref 171] h Q
    refine zq_virt hS rfl rfl (by first | assumption | exact ⟨by decide, rfl⟩) rfl (s_Mod_removesMember hS hr hV hB v_mem_40 hg (fun h2 hp => ?_))
    show zp_wp X y_Mod_makes 124 [.ref 171, .ref r, .int (nI 5), .int (nI a), .int (nI m), .int (nI b), .int (nI n), .int (zf_o (v_cls V a))] [.int (nI ((v_remM V (v_mem V (v_cls V a) m)).1))] h2 Q
    refine zp_iret rfl rfl ?_
    exact hq _ hp
  | 6, _, hq =>
    refine zp_aload_n (x := r) rfl rfl ?_
    refine zp_iload_n (x := (nI a)) rfl rfl ?_
    refine zp_call rfl rfl (t_Mod_classAt hS hr hV hB (by omega) ?_)
    show zp_wp X y_Mod_makes 10 [.ref 171, .ref r, .int (nI 6), .int (nI a), .int (nI m), .int (nI b), .int (nI n), zm_mk] [.int (zf_o (v_cls V a))] h Q
    refine zp_istore_7 rfl rfl ?_
    refine zp_iload_n (x := (nI 6)) rfl rfl ?_
    refine zp_switch (off := 112) (tgt := 125) rfl (by decide +kernel) (by decide +kernel) (by decide +kernel) rfl ?_
    refine zp_aload_n (x := 171) rfl rfl ?_
    refine zp_aload_n (x := r) rfl rfl ?_
    refine zp_iload (x := (zf_o (v_cls V a))) rfl rfl ?_
    refine zp_aload_n (x := r) rfl rfl ?_
    refine zp_iload (x := (zf_o (v_cls V a))) rfl rfl ?_
    refine zp_iload (x := (nI m)) rfl rfl ?_
    refine zp_call rfl rfl (t_Mod_memberAt hS hr hV hB v_cls_12 (by omega) ?_)
    show zp_wp X y_Mod_makes 137 [.ref 171, .ref r, .int (nI 6), .int (nI a), .int (nI m), .int (nI b), .int (nI n), .int (zf_o (v_cls V a))] [.int (zf_o (v_mem V (v_cls V a) m)), .int (zf_o (v_cls V a)), .ref r, .ref 171] h Q
    refine zp_iload (x := (nI n)) rfl rfl ?_
    refine zq_virt hS rfl rfl (by first | assumption | exact ⟨by decide, rfl⟩) rfl (s_Mod_renamesMember hS hr hV hB v_cls_12 v_mem_40 (fun q => by cases hz : v_cls V a with | some _ => rfl | none => rw [hz] at q; cases q) (by omega) hg (fun h2 hp => ?_))
    show zp_wp X y_Mod_makes 142 [.ref 171, .ref r, .int (nI 6), .int (nI a), .int (nI m), .int (nI b), .int (nI n), .int (zf_o (v_cls V a))] [.int (nI ((v_renM V (v_cls V a) (v_mem V (v_cls V a) m) n).1))] h2 Q
    refine zp_iret rfl rfl ?_
    exact hq _ hp
  | 7, _, hq =>
    refine zp_aload_n (x := r) rfl rfl ?_
    refine zp_iload_n (x := (nI a)) rfl rfl ?_
    refine zp_call rfl rfl (t_Mod_classAt hS hr hV hB (by omega) ?_)
    show zp_wp X y_Mod_makes 10 [.ref 171, .ref r, .int (nI 7), .int (nI a), .int (nI m), .int (nI b), .int (nI n), zm_mk] [.int (zf_o (v_cls V a))] h Q
    refine zp_istore_7 rfl rfl ?_
    refine zp_iload_n (x := (nI 7)) rfl rfl ?_
    refine zp_switch (off := 130) (tgt := 143) rfl (by decide +kernel) (by decide +kernel) (by decide +kernel) rfl ?_
    refine zp_aload_n (x := 171) rfl rfl ?_
    refine zp_aload_n (x := r) rfl rfl ?_
    refine zp_iload (x := (zf_o (v_cls V a))) rfl rfl ?_
    refine zp_aload_n (x := r) rfl rfl ?_
    refine zp_iload (x := (zf_o (v_cls V a))) rfl rfl ?_
    refine zp_iload (x := (nI m)) rfl rfl ?_
    refine zp_call rfl rfl (t_Mod_memberAt hS hr hV hB v_cls_12 (by omega) ?_)
    show zp_wp X y_Mod_makes 155 [.ref 171, .ref r, .int (nI 7), .int (nI a), .int (nI m), .int (nI b), .int (nI n), .int (zf_o (v_cls V a))] [.int (zf_o (v_mem V (v_cls V a) m)), .int (zf_o (v_cls V a)), .ref r, .ref 171] h Q
    refine zp_aload_n (x := r) rfl rfl ?_
    refine zp_iload (x := (nI b)) rfl rfl ?_
    refine zp_call rfl rfl (t_Mod_classAt hS hr hV hB (by omega) ?_)
    show zp_wp X y_Mod_makes 161 [.ref 171, .ref r, .int (nI 7), .int (nI a), .int (nI m), .int (nI b), .int (nI n), .int (zf_o (v_cls V a))] [.int (zf_o (v_cls V b)), .int (zf_o (v_mem V (v_cls V a) m)), .int (zf_o (v_cls V a)), .ref r, .ref 171] h Q
    refine zq_virt hS rfl rfl (by first | assumption | exact ⟨by decide, rfl⟩) rfl (s_Mod_movesMember hS hr hV hB v_cls_12 v_mem_40 v_cls_12 hg (fun h2 hp => ?_))
    show zp_wp X y_Mod_makes 164 [.ref 171, .ref r, .int (nI 7), .int (nI a), .int (nI m), .int (nI b), .int (nI n), .int (zf_o (v_cls V a))] [.int (nI ((v_movM V (v_cls V a) (v_mem V (v_cls V a) m) (v_cls V b)).1))] h2 Q
    refine zp_iret rfl rfl ?_
    exact hq _ hp
  | 8, _, hq =>
    refine zp_aload_n (x := r) rfl rfl ?_
    refine zp_iload_n (x := (nI a)) rfl rfl ?_
    refine zp_call rfl rfl (t_Mod_classAt hS hr hV hB (by omega) ?_)
    show zp_wp X y_Mod_makes 10 [.ref 171, .ref r, .int (nI 8), .int (nI a), .int (nI m), .int (nI b), .int (nI n), zm_mk] [.int (zf_o (v_cls V a))] h Q
    refine zp_istore_7 rfl rfl ?_
    refine zp_iload_n (x := (nI 8)) rfl rfl ?_
    refine zp_switch (off := 152) (tgt := 165) rfl (by decide +kernel) (by decide +kernel) (by decide +kernel) rfl ?_
    refine zp_aload_n (x := 171) rfl rfl ?_
    refine zp_aload_n (x := r) rfl rfl ?_
    refine zp_aload_n (x := r) rfl rfl ?_
    refine zp_iload (x := (zf_o (v_cls V a))) rfl rfl ?_
    refine zp_iload (x := (nI m)) rfl rfl ?_
    refine zp_call rfl rfl (t_Mod_memberAt hS hr hV hB v_cls_12 (by omega) ?_)
    show zp_wp X y_Mod_makes 175 [.ref 171, .ref r, .int (nI 8), .int (nI a), .int (nI m), .int (nI b), .int (nI n), .int (zf_o (v_cls V a))] [.int (zf_o (v_mem V (v_cls V a) m)), .ref r, .ref 171] h Q
    refine zp_aload_n (x := r) rfl rfl ?_
    refine zp_iload (x := (nI b)) rfl rfl ?_
    refine zp_iload (x := (nI n)) rfl rfl ?_
    refine zp_call rfl rfl (t_Mod_memberOf hS hr hV hB (by omega) (by omega) ?_)
    show zp_wp X y_Mod_makes 183 [.ref 171, .ref r, .int (nI 8), .int (nI a), .int (nI m), .int (nI b), .int (nI n), .int (zf_o (v_cls V a))] [.int (zf_o (v_mem V (v_cls V b) n)), .int (zf_o (v_mem V (v_cls V a) m)), .ref r, .ref 171] h Q
    refine zq_virt hS rfl rfl (by first | assumption | exact ⟨by decide, rfl⟩) rfl (s_Mod_addsUse hS hr hV hB v_mem_40 v_mem_40 hg (fun h2 hp => ?_))
    show zp_wp X y_Mod_makes 186 [.ref 171, .ref r, .int (nI 8), .int (nI a), .int (nI m), .int (nI b), .int (nI n), .int (zf_o (v_cls V a))] [.int (nI ((v_addU V (v_mem V (v_cls V a) m) (v_mem V (v_cls V b) n)).1))] h2 Q
    refine zp_iret rfl rfl ?_
    exact hq _ hp
  | 9, _, hq =>
    refine zp_aload_n (x := r) rfl rfl ?_
    refine zp_iload_n (x := (nI a)) rfl rfl ?_
    refine zp_call rfl rfl (t_Mod_classAt hS hr hV hB (by omega) ?_)
    show zp_wp X y_Mod_makes 10 [.ref 171, .ref r, .int (nI 9), .int (nI a), .int (nI m), .int (nI b), .int (nI n), zm_mk] [.int (zf_o (v_cls V a))] h Q
    refine zp_istore_7 rfl rfl ?_
    refine zp_iload_n (x := (nI 9)) rfl rfl ?_
    refine zp_switchD (tgt := 187) rfl (by decide +kernel) rfl ?_
    refine zp_aload_n (x := 171) rfl rfl ?_
    refine zp_aload_n (x := r) rfl rfl ?_
    refine zp_aload_n (x := r) rfl rfl ?_
    refine zp_iload (x := (zf_o (v_cls V a))) rfl rfl ?_
    refine zp_iload (x := (nI m)) rfl rfl ?_
    refine zp_call rfl rfl (t_Mod_memberAt hS hr hV hB v_cls_12 (by omega) ?_)
    show zp_wp X y_Mod_makes 197 [.ref 171, .ref r, .int (nI 9), .int (nI a), .int (nI m), .int (nI b), .int (nI n), .int (zf_o (v_cls V a))] [.int (zf_o (v_mem V (v_cls V a) m)), .ref r, .ref 171] h Q
    refine zp_aload_n (x := r) rfl rfl ?_
    refine zp_iload (x := (nI b)) rfl rfl ?_
    refine zp_iload (x := (nI n)) rfl rfl ?_
    refine zp_call rfl rfl (t_Mod_memberOf hS hr hV hB (by omega) (by omega) ?_)
    show zp_wp X y_Mod_makes 205 [.ref 171, .ref r, .int (nI 9), .int (nI a), .int (nI m), .int (nI b), .int (nI n), .int (zf_o (v_cls V a))] [.int (zf_o (v_mem V (v_cls V b) n)), .int (zf_o (v_mem V (v_cls V a) m)), .ref r, .ref 171] h Q
    refine zq_virt hS rfl rfl (by first | assumption | exact ⟨by decide, rfl⟩) rfl (s_Mod_removesUse hS hr hV hB v_mem_40 v_mem_40 hg (fun h2 hp => ?_))
    show zp_wp X y_Mod_makes 208 [.ref 171, .ref r, .int (nI 9), .int (nI a), .int (nI m), .int (nI b), .int (nI n), .int (zf_o (v_cls V a))] [.int (nI ((v_remU V (v_mem V (v_cls V a) m) (v_mem V (v_cls V b) n)).1))] h2 Q
    refine zp_iret rfl rfl ?_
    exact hq _ hp
  | k + 10, hk, _ => exact absurd hk (by omega)
end ZR5
