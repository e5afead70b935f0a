/-! the reference: changes of a row, on -/
theorem zf_any_t {p : Nat → Bool} {c k : Nat} (h : p c = true) : zf_any p c (k + 1) = true := by show (p c || zf_any p (c + 1) k) = _; rw [h]; rfl
theorem zf_any_f {p : Nat → Bool} {c k : Nat} (h : p c = false) : zf_any p c (k + 1) = zf_any p (c + 1) k := by show (p c || zf_any p (c + 1) k) = _; rw [h]; rfl
section ZR4
variable {X : zm_X} {h : zm_H} {Q : zm_O → zm_H → Prop} {V : zv} {r : Nat}
/-- one more store into the row -/
theorem zr_put {V' : zv} {f : Nat → Int32} (hr : zs_I r 1704) (hS1 : zs_H (zi_put h r f)) (had : cf h 171 10 = -1) (hV : zv_R V' f) : zr_post V' none r h (zi_put h r f) := by
  have hne := zs_I_ne hr zs_M
  exact ⟨hS1, zh_eq.rf.zi (Or.inl rfl), by rw [zi_at]; exact hV, by rw [zi_cf (Ne.symm hne)]; exact had, fun j _ => by rw [zi_cf (Ne.symm hne)]⟩
theorem s_Mod_setsSuper {c : Option Nat} {b : Nat} (hS : zs_H h) (hr : zs_I r 1704) (hV : zv_R V (ci h r)) (hB : zv_B V) (hc : ∀ i, c = some i → i < 12) (hb : b < 2 ^ 31) (had : cf h 171 10 = -1) (hq : ∀ h', zr_post (v_supC V c b).2.1 (v_supC V c b).2.2 r h h' → Q (.inl (some (.int (nI (v_supC V c b).1)))) h') : zp_wm X y_Mod_setsSuper [.ref 171, .ref r, .int (zf_o c), .int (nI b)] h Q := by
  show zp_wp X y_Mod_setsSuper 0 [.ref 171, .ref r, .int (zf_o c), .int (nI b), zm_mk, zm_mk, zm_mk] [] h Q
  have hne := zs_I_ne hr zs_M
  refine zp_aload_n rfl rfl ?_
  refine zp_iload_n rfl rfl ?_
  refine zp_call rfl rfl (t_Mod_classAt hS hr hV hB hb ?_)
  refine zp_istore_4 rfl rfl ?_
  refine zp_iload_n rfl rfl ?_
  cases c with
  | none =>
    refine zp_if_lt (tgt := 20) rfl rfl (fun h1 => ?_) (fun h1 => ?_)
    · refine zp_iconst (v := (nI 2)) rfl (by decide +kernel) ?_
      refine zp_iret rfl rfl ?_
      exact hq h (zr_same hS hV had)
    · exact absurd (by decide) h1
  | some c =>
    have hc := hc c rfl
    refine zp_if_lt (tgt := 20) rfl rfl (fun h1 => ?_) (fun h1 => ?_)
    · exact absurd h1 (nI_pos (by omega))
    have fin : ∀ (s9 : Option Nat) (x : Nat) (j : Value), zm_pv [.ref 171, .ref r, .int (nI c), .int (nI b), .int (zf_o s9), j] 5 = true → zf_o s9 + nI 1 = nI x → v_supC V (some c) b = (0, v_set2 V c x, none) → ∀ o : Value, zp_wp X y_Mod_setsSuper 136 [.ref 171, .ref r, .int (nI c), .int (nI b), .int (zf_o s9), j, o] [] h Q := by
      intro s9 x j _ hx hv o
      refine zp_aload_n rfl rfl ?_
      refine zp_bipush (v := (nI 12)) rfl (by decide +kernel) ?_
      refine zp_iload_n (x := nI c) rfl rfl ?_
      refine zp_iaddN rfl ?_
      refine zp_iload rfl rfl ?_
      refine zp_iconst (v := (nI 1)) rfl (by decide +kernel) ?_
      refine zp_iadd (v := nI x) rfl hx ?_
      refine zq_iast hS rfl hr (by omega) (by decide) (fun hS1 => ?_)
      refine zp_iconst (v := (nI 0)) rfl (by decide +kernel) ?_
      refine zp_iret rfl rfl ?_
      rw [hv] at hq
      exact hq _ (zr_put hr hS1 had (zv_R2 hV hc))
    refine zp_iload_n rfl rfl ?_
    cases hz : v_cls V b with
    | none =>
      refine zp_if_eq (tgt := 22) rfl rfl (fun h2 => ?_) (fun h2 => ?_)
      · have hb0 : b = 0 := by rw [← nI_0] at h2; exact (nI_eq hb (by decide)).mp h2
        refine zp_iload rfl rfl ?_
        refine zp_if_lt (tgt := 39) rfl rfl (fun h3 => ?_) (fun h3 => ?_)
        · refine zp_iconst (v := (nI 0)) rfl (by decide +kernel) ?_
          refine zp_istore_5 rfl rfl ?_
          refine zp_iload rfl rfl ?_
          refine zp_bipush (v := (nI 40)) rfl (by decide +kernel) ?_
          refine zp_icmpN_ge (tgt := 136) rfl rfl (by omega) (by omega) (fun h4 => ?_) (fun h4 => ?_)
          · omega
          refine zp_iload rfl rfl ?_
          refine zp_if_lt (tgt := 136) rfl rfl (fun h5 => ?_) (fun h5 => ?_)
          · exact fin none 0 _ rfl (by decide +kernel) (by simp only [v_supC, hz]; rw [if_pos hb0]) _
          · exact absurd (by decide) h5
        · exact absurd (by decide) h3
      · have hb0 : ¬ b = 0 := fun q => h2 (by rw [q]; exact nI_0)
        refine zp_iload rfl rfl ?_
        refine zp_if_ge (tgt := 22) rfl rfl (fun h3 => ?_) (fun h3 => ?_)
        · exact absurd h3 (by decide)
        refine zp_iconst (v := (nI 2)) rfl (by decide +kernel) ?_
        refine zp_iret rfl rfl ?_
        have hv : v_supC V (some c) b = (2, V, none) := by simp [v_supC, hz, hb0]
        rw [hv] at hq
        exact hq h (zr_same hS hV had)
    | some s =>
      have hs := (v_cls_lt hz).1
      have hbn := (v_cls_lt hz).2.2
      refine zp_if_eq (tgt := 22) rfl rfl (fun h2 => ?_) (fun h2 => ?_)
      · exact absurd (by rw [← nI_0] at h2; exact (nI_eq hb (by decide)).mp h2) hbn
      refine zp_iload rfl rfl ?_
      refine zp_if_ge (tgt := 22) rfl rfl (fun h3 => ?_) (fun h3 => ?_)
      · refine zp_iload rfl rfl ?_
        refine zp_if_lt (tgt := 39) rfl rfl (fun h4 => ?_) (fun h4 => ?_)
        · exact absurd h4 (nI_pos (by omega))
        refine zp_aload_n rfl rfl ?_
        refine zp_iload rfl rfl ?_
        refine zp_iload_n rfl rfl ?_
        refine zp_call rfl rfl (s_Mod_isUnder hS hr hV hB hs hc ?_)
        cases hu : v_und V s c with
        | true =>
          refine zp_if_eq (tgt := 39) rfl rfl (fun h5 => ?_) (fun h5 => ?_)
          · exact absurd h5 (by decide)
          refine zp_iconst (v := (nI 4)) rfl (by decide +kernel) ?_
          refine zp_iret rfl rfl ?_
          have hv : v_supC V (some c) b = (4, V, none) := by simp [v_supC, hz, hu]
          rw [hv] at hq
          exact hq h (zr_same hS hV had)
        | false =>
          refine zp_if_eq (tgt := 39) rfl rfl (fun h5 => ?_) (fun h5 => ?_)
          · have outer : ∀ k i : Nat, i + k = 40 → zf_any (fun k => !(v_mn V k == 0) && v_und V (v_ow V k) c && zf_any (fun o => v_mn V o == v_mn V k && v_und V s (v_ow V o)) 0 40) 0 40 = zf_any (fun k => !(v_mn V k == 0) && v_und V (v_ow V k) c && zf_any (fun o => v_mn V o == v_mn V k && v_und V s (v_ow V o)) 0 40) i k → ∀ oo : Value, zp_wp X y_Mod_setsSuper 42 [.ref 171, .ref r, .int (nI c), .int (nI b), .int (nI s), .int (nI i), oo] [] h Q := by
              intro k
              induction k with
              | zero =>
                intro i hi he oo
                refine zp_iload rfl rfl ?_
                refine zp_bipush (v := (nI 40)) rfl (by decide +kernel) ?_
                refine zp_icmpN_ge (tgt := 136) rfl rfl (by omega) (by omega) (fun h6 => ?_) (fun h6 => ?_)
                · exact fin (some s) (s + 1) _ rfl (nI_add s 1) (by simp only [v_supC, hz, hu]; rw [he]; rfl) _
                · omega
              | succ k ih =>
                intro i hi he oo
                have b1 := hB.2.2.1 i (by omega)
                have b2 := hB.2.2.2 i (by omega)
                refine zp_iload rfl rfl ?_
                refine zp_bipush (v := (nI 40)) rfl (by decide +kernel) ?_
                refine zp_icmpN_ge (tgt := 136) rfl rfl (by omega) (by omega) (fun h6 => ?_) (fun h6 => ?_)
                · omega
                refine zp_iload rfl rfl ?_
                refine zp_if_lt (tgt := 136) rfl rfl (fun h7 => ?_) (fun h7 => ?_)
                · exact absurd h7 (nI_pos (by omega))
                have inner : ∀ k2 o : Nat, o + k2 = 40 → (!(v_mn V i == 0) && v_und V (v_ow V i) c && zf_any (fun o => v_mn V o == v_mn V i && v_und V s (v_ow V o)) 0 40) = (!(v_mn V i == 0) && v_und V (v_ow V i) c && zf_any (fun o => v_mn V o == v_mn V i && v_und V s (v_ow V o)) o k2) → zp_wp X y_Mod_setsSuper 57 [.ref 171, .ref r, .int (nI c), .int (nI b), .int (nI s), .int (nI i), .int (nI o)] [] h Q := by
                  have skip : ∀ o : Nat, (!(v_mn V i == 0) && v_und V (v_ow V i) c && zf_any (fun o => v_mn V o == v_mn V i && v_und V s (v_ow V o)) 0 40) = false → zp_wp X y_Mod_setsSuper 130 [.ref 171, .ref r, .int (nI c), .int (nI b), .int (nI s), .int (nI i), .int (nI o)] [] h Q := by
                    intro o ho
                    first | refine zp_iincN_5 rfl rfl ?_ | refine zp_iinc_5 rfl rfl rfl ?_
                    refine zp_goto (tgt := 42) rfl rfl ?_
                    refine ih (i + 1) (by omega) ?_ _
                    rw [he, zf_any_f (by exact ho)]
                  intro k2
                  induction k2 with
                  | zero =>
                    intro o ho hx
                    refine zp_iload rfl rfl ?_
                    refine zp_bipush (v := (nI 40)) rfl (by decide +kernel) ?_
                    refine zp_icmpN_ge (tgt := 130) rfl rfl (by omega) (by omega) (fun h8 => ?_) (fun h8 => ?_)
                    · exact skip o (by rw [hx]; simp [zf_any])
                    · omega
                  | succ k2 ih2 =>
                    intro o ho hx
                    have b3 := hB.2.2.1 o (by omega)
                    have b4 := hB.2.2.2 o (by omega)
                    refine zp_iload rfl rfl ?_
                    refine zp_bipush (v := (nI 40)) rfl (by decide +kernel) ?_
                    refine zp_icmpN_ge (tgt := 130) rfl rfl (by omega) (by omega) (fun h8 => ?_) (fun h8 => ?_)
                    · omega
                    refine zp_aload_n rfl rfl ?_
                    refine zp_bipush (v := (nI 24)) rfl (by decide +kernel) ?_
                    refine zp_iload rfl rfl ?_
                    first | refine zp_iaddN rfl ?_ | refine zp_iadd rfl rfl ?_
                    refine zq_iald hS rfl (by first | assumption | exact ⟨by decide, rfl⟩) (by omega) (by decide) ?_
                    rw [hV.2.2.1 i (by omega)]
                    refine zp_if_eq (tgt := 130) rfl rfl (fun h9 => ?_) (fun h9 => ?_)
                    · have h9 : v_mn V i = 0 := by rw [← nI_0] at h9; exact (nI_eq (by omega) (by decide)).mp h9
                      exact skip o (by simp [h9])
                    have h9 : ¬ v_mn V i = 0 := fun q => h9 (by rw [q]; exact nI_0)
                    refine zp_aload_n rfl rfl ?_
                    refine zp_aload_n rfl rfl ?_
                    refine zp_bipush (v := (nI 64)) rfl (by decide +kernel) ?_
                    refine zp_iload rfl rfl ?_
                    first | refine zp_iaddN rfl ?_ | refine zp_iadd rfl rfl ?_
                    refine zq_iald hS rfl (by first | assumption | exact ⟨by decide, rfl⟩) (by omega) (by decide) ?_
                    rw [hV.2.2.2.1 i (by omega)]
                    refine zp_iload_n (x := nI c) rfl rfl ?_
                    refine zp_call rfl rfl (s_Mod_isUnder hS hr hV hB b2 hc ?_)
                    cases hu2 : v_und V (v_ow V i) c with
                    | false =>
                      refine zp_if_eq (tgt := 130) rfl rfl (fun h10 => ?_) (fun h10 => ?_)
                      · exact skip o (by simp [hu2])
                      · exact absurd rfl h10
                    | true =>
                      refine zp_if_eq (tgt := 130) rfl rfl (fun h10 => ?_) (fun h10 => ?_)
                      · exact absurd h10 (by decide)
                      refine zp_aload_n rfl rfl ?_
                      refine zp_bipush (v := (nI 24)) rfl (by decide +kernel) ?_
                      refine zp_iload rfl rfl ?_
                      first | refine zp_iaddN rfl ?_ | refine zp_iadd rfl rfl ?_
                      refine zq_iald hS rfl (by first | assumption | exact ⟨by decide, rfl⟩) (by omega) (by decide) ?_
                      rw [hV.2.2.1 o (by omega)]
                      refine zp_aload_n rfl rfl ?_
                      refine zp_bipush (v := (nI 24)) rfl (by decide +kernel) ?_
                      refine zp_iload rfl rfl ?_
                      first | refine zp_iaddN rfl ?_ | refine zp_iadd rfl rfl ?_
                      refine zq_iald hS rfl (by first | assumption | exact ⟨by decide, rfl⟩) (by omega) (by decide) ?_
                      rw [hV.2.2.1 i (by omega)]
                      refine zp_icmpN_ne (a := v_mn V o) (b := v_mn V i) (tgt := 124) rfl rfl (by omega) (by omega) (fun h11 => ?_) (fun h11 => ?_)
                      · first | refine zp_iincN_6 rfl rfl ?_ | refine zp_iinc_6 rfl rfl rfl ?_
                        refine zp_goto (tgt := 57) rfl rfl ?_
                        exact ih2 (o + 1) (by omega) (by rw [hx, zf_any_f (by simp [h11])])
                      refine zp_aload_n rfl rfl ?_
                      refine zp_iload rfl rfl ?_
                      refine zp_aload_n rfl rfl ?_
                      refine zp_bipush (v := (nI 64)) rfl (by decide +kernel) ?_
                      refine zp_iload rfl rfl ?_
                      first | refine zp_iaddN rfl ?_ | refine zp_iadd rfl rfl ?_
                      refine zq_iald hS rfl (by first | assumption | exact ⟨by decide, rfl⟩) (by omega) (by decide) ?_
                      rw [hV.2.2.2.1 o (by omega)]
                      refine zp_call rfl rfl (s_Mod_isUnder hS hr hV hB hs b4 ?_)
                      cases hu3 : v_und V s (v_ow V o) with
                      | false =>
                        refine zp_if_eq (tgt := 124) rfl rfl (fun h12 => ?_) (fun h12 => ?_)
                        · first | refine zp_iincN_6 rfl rfl ?_ | refine zp_iinc_6 rfl rfl rfl ?_
                          refine zp_goto (tgt := 57) rfl rfl ?_
                          exact ih2 (o + 1) (by omega) (by rw [hx, zf_any_f (by simp [hu3])])
                        · exact absurd rfl h12
                      | true =>
                        refine zp_if_eq (tgt := 124) rfl rfl (fun h12 => ?_) (fun h12 => ?_)
                        · exact absurd h12 (by decide)
                        refine zp_iconst (v := (nI 5)) rfl (by decide +kernel) ?_
                        refine zp_iret rfl rfl ?_
                        have hany : zf_any (fun k => !(v_mn V k == 0) && v_und V (v_ow V k) c && zf_any (fun o => v_mn V o == v_mn V k && v_und V s (v_ow V o)) 0 40) 0 40 = true := by
                          rw [he]
                          refine zf_any_t ?_
                          show (!(v_mn V i == 0) && v_und V (v_ow V i) c && zf_any (fun o => v_mn V o == v_mn V i && v_und V s (v_ow V o)) 0 40) = true
                          rw [hx, zf_any_t (by simp [h11, hu3])]
                          simp [h9, hu2]
                        have hv : v_supC V (some c) b = (5, V, none) := by simp only [v_supC, hz, hu]; rw [hany]; rfl
                        rw [hv] at hq
                        exact hq h (zr_same hS hV had)
                refine zp_iconst (v := (nI 0)) rfl (by decide +kernel) ?_
                refine zp_istore_6 rfl rfl ?_
                exact inner 40 0 rfl rfl
            refine zp_iconst (v := (nI 0)) rfl (by decide +kernel) ?_
            refine zp_istore_5 rfl rfl ?_
            exact outer 40 0 rfl rfl _
          · exact absurd rfl h5
      · exact absurd (nI_pos' (by omega)) h3
theorem s_Mod_addsMember {c : Option Nat} {m : Nat} (hS : zs_H h) (hr : zs_I r 1704) (hV : zv_R V (ci h r)) (hB : zv_B V) (hc : ∀ i, c = some i → i < 12) (hm : m < 2 ^ 31) (had : cf h 171 10 = -1) (hq : ∀ h', zr_post (v_addM V c m).2.1 (v_addM V c m).2.2 r h h' → Q (.inl (some (.int (nI (v_addM V c m).1)))) h') : zp_wm X y_Mod_addsMember [.ref 171, .ref r, .int (zf_o c), .int (nI m)] h Q := by
  show zp_wp X y_Mod_addsMember 0 [.ref 171, .ref r, .int (zf_o c), .int (nI m)] [] h Q
  have hne := zs_I_ne hr zs_M
  refine zp_iload_n rfl rfl ?_
  cases c with
  | none =>
    refine zp_if_ge (tgt := 6) rfl rfl (fun h1 => ?_) (fun h1 => ?_)
    · exact absurd h1 (by decide)
    refine zp_iconst (v := (nI 2)) rfl (by decide +kernel) ?_
    refine zp_iret rfl rfl ?_
    exact hq h (zr_same hS hV had)
  | some c =>
    have hcl := hc
    have hc := hc c rfl
    refine zp_if_ge (tgt := 6) rfl rfl (fun h1 => ?_) (fun h1 => ?_)
    · refine zp_aload_n rfl rfl ?_
      refine zp_iload_n rfl rfl ?_
      refine zp_iload_n rfl rfl ?_
      refine zp_call rfl rfl (t_Mod_memberAt (c := some c) hS hr hV hB hcl hm ?_)
      cases hz : v_mem V (some c) m with
      | some i =>
        have hi := (v_mem_lt hz).1
        refine zp_if_lt (tgt := 17) rfl rfl (fun h2 => ?_) (fun h2 => ?_)
        · exact absurd h2 (nI_pos (by omega))
        refine zp_iconst (v := (nI 1)) rfl (by decide +kernel) ?_
        refine zp_iret rfl rfl ?_
        have hv : v_addM V (some c) m = (1, V, none) := by simp [v_addM, hz]
        rw [hv] at hq
        exact hq h (zr_same hS hV had)
      | none =>
        refine zp_if_lt (tgt := 17) rfl rfl (fun h2 => ?_) (fun h2 => ?_)
        · refine zp_aload_n rfl rfl ?_
          refine zp_iload_n (x := nI c) rfl rfl ?_
          refine zp_iload_n rfl rfl ?_
          refine zp_iconst (v := (-1)) rfl (by decide +kernel) ?_
          refine zp_call rfl rfl (s_Mod_isTaken (but := none) hS hr hV hB hc hm (fun i hi => by cases hi) ?_)
          cases ht : v_tak V c m none with
          | true =>
            refine zp_if_eq (tgt := 29) rfl rfl (fun h3 => ?_) (fun h3 => ?_)
            · exact absurd h3 (by decide)
            refine zp_iconst (v := (nI 5)) rfl (by decide +kernel) ?_
            refine zp_iret rfl rfl ?_
            have hv : v_addM V (some c) m = (5, V, none) := by simp [v_addM, hz, ht]
            rw [hv] at hq
            exact hq h (zr_same hS hV had)
          | false =>
            refine zp_if_eq (tgt := 29) rfl rfl (fun h3 => ?_) (fun h3 => ?_)
            · refine zp_aload_n rfl rfl ?_
              refine zp_bipush (v := (nI 24)) rfl (by decide +kernel) ?_
              refine zp_bipush (v := (nI 40)) rfl (by decide +kernel) ?_
              refine zp_call rfl rfl (s_Mod_countOf (p := fun i => !(v_mn V i == 0)) hS hr (by decide) (fun i hi => by rw [(zv_cz hV hB).2 i hi]; simp) ?_)
              refine zp_bipush (v := (nI 40)) rfl (by decide +kernel) ?_
              have hle := zf_ct_le (fun i => !(v_mn V i == 0)) 40 0
              refine zp_icmpN_ne (a := v_nm V) (b := 40) (tgt := 45) rfl rfl (by unfold v_nm; omega) (by decide) (fun h4 => ?_) (fun h4 => ?_)
              · refine zp_aload_n rfl rfl ?_
                refine zp_aload_n rfl rfl ?_
                refine zp_bipush (v := (nI 24)) rfl (by decide +kernel) ?_
                have hex : ∃ i, zf_fst (fun i => v_mn V i == 0) 0 40 = some i := by
                  cases hz9 : zf_fst (fun i => v_mn V i == 0) 0 40 with
                  | some i => exact ⟨i, rfl⟩
                  | none =>
                    have hn := zf_fst_none hz9
                    refine absurd ?_ h4
                    have e1 : ∀ k c, c + k = 40 → zf_ct (fun i => !(v_mn V i == 0)) c k = k := by
                      intro k
                      induction k with
                      | zero => intro c _; rfl
                      | succ k ih =>
                        intro c hc
                        have := hn c (by omega) (by omega)
                        unfold zf_ct
                        rw [ih (c + 1) (by omega), this]
                        simp; omega
                    exact e1 40 0 rfl
                obtain ⟨i, hi⟩ := hex
                have hi40 : i < 40 := by have := (zf_fst_some hi).2.1; omega
                refine zp_call rfl rfl (s_Mod_freeAt (n := 40) hS hr (by decide) (fun j hj => by rw [(zv_cz hV hB).2 j hj]; simp) hi ?_)
                refine zq_put hS rfl zs_M rfl rfl (fun hS1 => ?_)
                have hg := zf_at (x := nI i) hS zs_M (j := 10) rfl
                have hci : ci (zf_put h 171 10 (nI i)) r = ci h r := zf_ci hne
                generalize hh1 : zf_put h 171 10 (nI i) = h1' at hS1 hg hci ⊢
                have e1 : zh_eq (fun x => x = r ∨ x = 171) h h1' := by rw [← hh1]; exact zh_eq.rf.zf (Or.inr rfl)
                have f1 : ∀ j, j ≠ 10 → cf h1' 171 j = cf h 171 j := fun j hj => by rw [← hh1]; exact zf_nj hj
                refine zp_aload_n rfl rfl ?_
                refine zp_bipush (v := (nI 24)) rfl (by decide +kernel) ?_
                refine zp_aload_n rfl rfl ?_
                refine zq_geti hS1 rfl zs_M rfl ?_
                rw [hg]
                refine zp_iaddN rfl ?_
                refine zp_iload_n rfl rfl ?_
                refine zq_iast hS1 rfl hr (by omega) (by decide) (fun hS2 => ?_)
                have hg2 : cf (zi_put h1' r (upd (ci h1' r) (24 + i) (nI m))) 171 10 = nI i := by rw [zi_cf (Ne.symm hne)]; exact hg
                have hci2 : ci (zi_put h1' r (upd (ci h1' r) (24 + i) (nI m))) r = upd (ci h r) (24 + i) (nI m) := by rw [zi_at, hci]
                have e2 := e1.zi (f := upd (ci h1' r) (24 + i) (nI m)) (Or.inl (rfl : r = r))
                have f2 : ∀ j, j ≠ 10 → cf (zi_put h1' r (upd (ci h1' r) (24 + i) (nI m))) 171 j = cf h 171 j := fun j hj => by rw [zi_cf (Ne.symm hne)]; exact f1 j hj
                generalize zi_put h1' r (upd (ci h1' r) (24 + i) (nI m)) = h2' at hS2 hg2 hci2 e2 f2 ⊢
                refine zp_aload_n rfl rfl ?_
                refine zp_bipush (v := (nI 64)) rfl (by decide +kernel) ?_
                refine zp_aload_n rfl rfl ?_
                refine zq_geti hS2 rfl zs_M rfl ?_
                rw [hg2]
                refine zp_iaddN rfl ?_
                refine zp_iload_n (x := nI c) rfl rfl ?_
                refine zq_iast hS2 rfl hr (by omega) (by decide) (fun hS3 => ?_)
                refine zp_iconst (v := (nI 0)) rfl (by decide +kernel) ?_
                refine zp_iret rfl rfl ?_
                have hv : v_addM V (some c) m = (0, v_set4 (v_set3 V i m) i c, some i) := by
                  simp only [v_addM]
                  rw [hz, ht, if_neg h4, hi]
                  rfl
                rw [hv] at hq
                refine hq _ ⟨hS3, e2.zi (Or.inl rfl), ?_, by rw [zi_cf (Ne.symm hne)]; exact hg2, fun j hj => by rw [zi_cf (Ne.symm hne)]; exact f2 j hj⟩
                rw [zi_at, hci2]
                exact zv_R4 (zv_R3 hV hi40) hi40
              · refine zp_bipush (v := (nI 9)) rfl (by decide +kernel) ?_
                refine zp_iret rfl rfl ?_
                have hv : v_addM V (some c) m = (9, V, none) := by
                  simp only [v_addM]
                  rw [hz, ht, if_pos h4]
                  rfl
                rw [hv] at hq
                exact hq h (zr_same hS hV had)
            · exact absurd rfl h3
        · exact absurd (by decide) h2
    · exact absurd (nI_pos' (by omega)) h1
theorem s_Mod_renamesMember {c k : Option Nat} {n : Nat} (hS : zs_H h) (hr : zs_I r 1704) (hV : zv_R V (ci h r)) (hB : zv_B V) (hc : ∀ i, c = some i → i < 12) (hk : ∀ i, k = some i → i < 40) (hkc : k.isSome → c.isSome) (hn : n < 2 ^ 31) (had : cf h 171 10 = -1) (hq : ∀ h', zr_post (v_renM V c k n).2.1 (v_renM V c k n).2.2 r h h' → Q (.inl (some (.int (nI (v_renM V c k n).1)))) h') : zp_wm X y_Mod_renamesMember [.ref 171, .ref r, .int (zf_o c), .int (zf_o k), .int (nI n)] h Q := by
  show zp_wp X y_Mod_renamesMember 0 [.ref 171, .ref r, .int (zf_o c), .int (zf_o k), .int (nI n)] [] h Q
  refine zp_iload_n rfl rfl ?_
  cases k with
  | none =>
    refine zp_if_ge (tgt := 6) rfl rfl (fun h1 => ?_) (fun h1 => ?_)
    · exact absurd h1 (by decide)
    refine zp_iconst (v := (nI 2)) rfl (by decide +kernel) ?_
    refine zp_iret rfl rfl ?_
    exact hq h (zr_same hS hV had)
  | some k =>
    have hk := hk k rfl
    cases c with
    | none => exact absurd (hkc rfl) (by decide)
    | some c =>
      have hc := hc c rfl
      refine zp_if_ge (tgt := 6) rfl rfl (fun h1 => ?_) (fun h1 => ?_)
      · refine zp_aload_n rfl rfl ?_
        refine zp_iload_n (x := nI c) rfl rfl ?_
        refine zp_iload rfl rfl ?_
        refine zp_iconst (v := (-1)) rfl (by decide +kernel) ?_
        refine zp_call rfl rfl (s_Mod_isTaken (but := none) hS hr hV hB hc hn (fun i hi => by cases hi) ?_)
        cases ht : v_tak V c n none with
        | true =>
          refine zp_if_eq (tgt := 19) rfl rfl (fun h3 => ?_) (fun h3 => ?_)
          · exact absurd h3 (by decide)
          refine zp_iconst (v := (nI 5)) rfl (by decide +kernel) ?_
          refine zp_iret rfl rfl ?_
          have hv : v_renM V (some c) (some k) n = (5, V, none) := by simp [v_renM, ht]
          rw [hv] at hq
          exact hq h (zr_same hS hV had)
        | false =>
          refine zp_if_eq (tgt := 19) rfl rfl (fun h3 => ?_) (fun h3 => ?_)
          · refine zp_aload_n rfl rfl ?_
            refine zp_bipush (v := (nI 24)) rfl (by decide +kernel) ?_
            refine zp_iload_n (x := nI k) rfl rfl ?_
            first | refine zp_iaddN rfl ?_ | refine zp_iadd rfl rfl ?_
            refine zp_iload rfl rfl ?_
            refine zq_iast hS rfl hr (by omega) (by decide) (fun hS1 => ?_)
            refine zp_iconst (v := (nI 0)) rfl (by decide +kernel) ?_
            refine zp_iret rfl rfl ?_
            have hv : v_renM V (some c) (some k) n = (0, v_set3 V k n, none) := by simp [v_renM, ht]
            rw [hv] at hq
            exact hq _ (zr_put hr hS1 had (zv_R3 hV hk))
          · exact absurd rfl h3
      · exact absurd (nI_pos' (by omega)) h1
theorem s_Mod_movesMember {c k to : Option Nat} (hS : zs_H h) (hr : zs_I r 1704) (hV : zv_R V (ci h r)) (hB : zv_B V) (hc : ∀ i, c = some i → i < 12) (hk : ∀ i, k = some i → i < 40) (hto : ∀ i, to = some i → i < 12) (had : cf h 171 10 = -1) (hq : ∀ h', zr_post (v_movM V c k to).2.1 (v_movM V c k to).2.2 r h h' → Q (.inl (some (.int (nI (v_movM V c k to).1)))) h') : zp_wm X y_Mod_movesMember [.ref 171, .ref r, .int (zf_o c), .int (zf_o k), .int (zf_o to)] h Q := by
  show zp_wp X y_Mod_movesMember 0 [.ref 171, .ref r, .int (zf_o c), .int (zf_o k), .int (zf_o to)] [] h Q
  refine zp_iload_n rfl rfl ?_
  cases k with
  | none =>
    refine zp_if_lt (tgt := 9) rfl rfl (fun h1 => ?_) (fun h1 => ?_)
    · refine zp_iconst (v := (nI 2)) rfl (by decide +kernel) ?_
      refine zp_iret rfl rfl ?_
      exact hq h (zr_same hS hV had)
    · exact absurd (by decide) h1
  | some k =>
    have hk := hk k rfl
    refine zp_if_lt (tgt := 9) rfl rfl (fun h1 => ?_) (fun h1 => ?_)
    · exact absurd h1 (nI_pos (by omega))
    refine zp_iload rfl rfl ?_
    cases to with
    | none =>
      refine zp_if_ge (tgt := 11) rfl rfl (fun h2 => ?_) (fun h2 => ?_)
      · exact absurd h2 (by decide)
      refine zp_iconst (v := (nI 2)) rfl (by decide +kernel) ?_
      refine zp_iret rfl rfl ?_
      exact hq h (zr_same hS hV had)
    | some to =>
      have hto := hto to rfl
      refine zp_if_ge (tgt := 11) rfl rfl (fun h2 => ?_) (fun h2 => ?_)
      · refine zp_iload_n rfl rfl ?_
        refine zp_iload rfl rfl ?_
        refine zp_icmp_ne (tgt := 19) rfl rfl (fun h3 => ?_) (fun h3 => ?_)
        · have h3 : ¬ c = some to := fun q => h3 (by rw [q])
          refine zp_aload_n rfl rfl ?_
          refine zp_iload (x := nI to) rfl rfl ?_
          refine zp_aload_n rfl rfl ?_
          refine zp_bipush (v := (nI 24)) rfl (by decide +kernel) ?_
          refine zp_iload_n (x := nI k) rfl rfl ?_
          first | refine zp_iaddN rfl ?_ | refine zp_iadd rfl rfl ?_
          refine zq_iald hS rfl (by first | assumption | exact ⟨by decide, rfl⟩) (by omega) (by decide) ?_
          rw [hV.2.2.1 k hk]
          have b1 := hB.2.2.1 k hk
          refine zp_iload_n rfl rfl ?_
          refine zp_call rfl rfl (s_Mod_isTaken (but := some k) hS hr hV hB hto (by omega) (fun i hi => by cases hi; omega) ?_)
          cases ht : v_tak V to (v_mn V k) (some k) with
          | true =>
            refine zp_if_eq (tgt := 37) rfl rfl (fun h4 => ?_) (fun h4 => ?_)
            · exact absurd h4 (by decide)
            refine zp_iconst (v := (nI 5)) rfl (by decide +kernel) ?_
            refine zp_iret rfl rfl ?_
            have hv : v_movM V c (some k) (some to) = (5, V, none) := by simp [v_movM, ht, h3]
            rw [hv] at hq
            exact hq h (zr_same hS hV had)
          | false =>
            refine zp_if_eq (tgt := 37) rfl rfl (fun h4 => ?_) (fun h4 => ?_)
            · refine zp_aload_n rfl rfl ?_
              refine zp_bipush (v := (nI 64)) rfl (by decide +kernel) ?_
              refine zp_iload_n (x := nI k) rfl rfl ?_
              refine zp_iaddN rfl ?_
              refine zp_iload (x := nI to) rfl rfl ?_
              refine zq_iast hS rfl hr (by omega) (by decide) (fun hS1 => ?_)
              refine zp_iconst (v := (nI 0)) rfl (by decide +kernel) ?_
              refine zp_iret rfl rfl ?_
              have hv : v_movM V c (some k) (some to) = (0, v_set4 V k to, none) := by simp [v_movM, ht, h3]
              rw [hv] at hq
              exact hq _ (zr_put hr hS1 had (zv_R4 hV hk))
            · exact absurd rfl h4
        · have h3 : zf_o c = zf_o (some to) := Decidable.not_not.mp h3
          have h3 : c = some to := (zf_o_eq (fun i hi => by have := hc i hi; omega) (by omega)).mp h3.symm
          refine zp_iconst (v := (nI 1)) rfl (by decide +kernel) ?_
          refine zp_iret rfl rfl ?_
          have hv : v_movM V c (some k) (some to) = (1, V, none) := by simp [v_movM, h3]
          rw [hv] at hq
          exact hq h (zr_same hS hV had)
      · exact absurd (nI_pos' (by omega)) h2
end ZR4
