/-! the reference: changes of a row -/
theorem zs_I_ne {r n q c : Nat} {rs : List (Option Nat)} (h1 : zs_I r n) (h2 : zs_O q c rs) : r ≠ q := by
  intro e
  subst e
  have h3 := h1.2.symm.trans h2.2
  cases h3
abbrev a_Mo : List (Option Nat) := [some 172, some 173, some 174, some 175, some 176, some 177, some 178, some 179, none, none, none, some 180, some 181, some 182, some 183, some 184, some 185, some 186, some 187, some 188, none, none, none, none, none]
theorem zs_M : zs_O 171 7 a_Mo := ⟨by decide, rfl⟩
/-- behind a change that was tried on the row r: what the row holds, what was added -/
def zr_post (V : zv) (ad : Option Nat) (r : Nat) (h h' : zm_H) : Prop := zs_H h' ∧ zh_eq (fun x => x = r ∨ x = 171) h h' ∧ zv_R V (ci h' r) ∧ cf h' 171 10 = zf_o ad ∧ ∀ j, j ≠ 10 → cf h' 171 j = cf h 171 j
theorem zv_R1 {V : zv} {A : Nat → Int32} {c x : Nat} (hV : zv_R V A) (hc : c < 12) : zv_R (v_set1 V c x) (upd A c (nI x)) := by
  obtain ⟨h1, h2, h3, h4, h5⟩ := hV
  refine ⟨fun i hi => ?_, fun i hi => ?_, fun i hi => ?_, fun i hi => ?_, fun i k hi hk => ?_⟩
  · by_cases e : i = c
    · subst e; rw [pk_us]; simp [v_set1, v_cn, va_up]
    · rw [pk_un e, h1 i hi]; simp [v_set1, v_cn, va_up, e]
  · rw [pk_un (by omega)]; exact h2 i hi
  · rw [pk_un (by omega)]; exact h3 i hi
  · rw [pk_un (by omega)]; exact h4 i hi
  · rw [pk_un (by omega)]; exact h5 i k hi hk
theorem zv_R2 {V : zv} {A : Nat → Int32} {c x : Nat} (hV : zv_R V A) (hc : c < 12) : zv_R (v_set2 V c x) (upd A (12 + c) (nI x)) := by
  obtain ⟨h1, h2, h3, h4, h5⟩ := hV
  refine ⟨fun i hi => ?_, fun i hi => ?_, fun i hi => ?_, fun i hi => ?_, fun i k hi hk => ?_⟩
  · rw [pk_un (by omega)]; exact h1 i hi
  · by_cases e : i = c
    · subst e; rw [pk_us]; simp [v_set2, v_sp, va_up]
    · rw [pk_un (by omega), h2 i hi]; simp [v_set2, v_sp, va_up, e]
  · rw [pk_un (by omega)]; exact h3 i hi
  · rw [pk_un (by omega)]; exact h4 i hi
  · rw [pk_un (by omega)]; exact h5 i k hi hk
theorem zv_R3 {V : zv} {A : Nat → Int32} {c x : Nat} (hV : zv_R V A) (hc : c < 40) : zv_R (v_set3 V c x) (upd A (24 + c) (nI x)) := by
  obtain ⟨h1, h2, h3, h4, h5⟩ := hV
  refine ⟨fun i hi => ?_, fun i hi => ?_, fun i hi => ?_, fun i hi => ?_, fun i k hi hk => ?_⟩
  · rw [pk_un (by omega)]; exact h1 i hi
  · rw [pk_un (by omega)]; exact h2 i hi
  · by_cases e : i = c
    · subst e; rw [pk_us]; simp [v_set3, v_mn, va_up]
    · rw [pk_un (by omega), h3 i hi]; simp [v_set3, v_mn, va_up, e]
  · rw [pk_un (by omega)]; exact h4 i hi
  · rw [pk_un (by omega)]; exact h5 i k hi hk
theorem zv_R4 {V : zv} {A : Nat → Int32} {c x : Nat} (hV : zv_R V A) (hc : c < 40) : zv_R (v_set4 V c x) (upd A (64 + c) (nI x)) := by
  obtain ⟨h1, h2, h3, h4, h5⟩ := hV
  refine ⟨fun i hi => ?_, fun i hi => ?_, fun i hi => ?_, fun i hi => ?_, fun i k hi hk => ?_⟩
  · rw [pk_un (by omega)]; exact h1 i hi
  · rw [pk_un (by omega)]; exact h2 i hi
  · rw [pk_un (by omega)]; exact h3 i hi
  · by_cases e : i = c
    · subst e; rw [pk_us]; simp [v_set4, v_ow, va_up]
    · rw [pk_un (by omega), h4 i hi]; simp [v_set4, v_ow, va_up, e]
  · rw [pk_un (by omega)]; exact h5 i k hi hk
theorem zv_R5 {V : zv} {A : Nat → Int32} {m n : Nat} {b : Bool} (hV : zv_R V A) (hm : m < 40) (hn : n < 40) : zv_R (v_set5 V m n b) (upd A (104 + 40 * m + n) (nI (cond b 1 0))) := by
  obtain ⟨h1, h2, h3, h4, h5⟩ := hV
  refine ⟨fun i hi => ?_, fun i hi => ?_, fun i hi => ?_, fun i hi => ?_, fun i k hi hk => ?_⟩
  · rw [pk_un (by omega)]; exact h1 i hi
  · rw [pk_un (by omega)]; exact h2 i hi
  · rw [pk_un (by omega)]; exact h3 i hi
  · rw [pk_un (by omega)]; exact h4 i hi
  · by_cases e : i = m
    · subst e
      by_cases e2 : k = n
      · subst e2; rw [pk_us]; simp [v_set5, v_us, va_up]
      · rw [pk_un (by omega), h5 i k hi hk]; simp [v_set5, v_us, va_up, e2]
    · rw [pk_un (by omega), h5 i k hi hk]; simp [v_set5, v_us, va_up, e]
theorem zv_R_eq {V : zv} {A B : Nat → Int32} (hV : zv_R V A) (he : B = A) : zv_R V B := by rw [he]; exact hV
section ZR3
variable {X : zm_X} {h : zm_H} {Q : zm_O → zm_H → Prop} {V : zv} {r : Nat}
theorem zr_same {V : zv} (hS : zs_H h) (hV : zv_R V (ci h r)) (had : cf h 171 10 = -1) : zr_post V none r h h := ⟨hS, zh_eq.rf, hV, had, fun _ _ => rfl⟩
theorem zv_cz {A : Nat → Int32} (hV : zv_R V A) (hB : zv_B V) : (∀ i, i < 12 → (A (0 + i) = 0 ↔ v_cn V i = 0)) ∧ (∀ i, i < 40 → (A (24 + i) = 0 ↔ v_mn V i = 0)) := by
  constructor
  · intro i hi
    rw [Nat.zero_add, hV.1 i hi, ← nI_0]
    exact nI_eq (by have := hB.1 i hi; omega) (by decide)
  · intro i hi
    rw [hV.2.2.1 i hi, ← nI_0]
    exact nI_eq (by have := hB.2.2.1 i hi; omega) (by decide)
theorem s_Mod_addsClass {c : Option Nat} {a : Nat} (hS : zs_H h) (hr : zs_I r 1704) (hV : zv_R V (ci h r)) (hB : zv_B V) (hc : ∀ i, c = some i → i < 12) (had : cf h 171 10 = -1) (hq : ∀ h', zr_post (v_addC V c a).2.1 (v_addC V c a).2.2 r h h' → Q (.inl (some (.int (nI (v_addC V c a).1)))) h') : zp_wm X y_Mod_addsClass [.ref 171, .ref r, .int (zf_o c), .int (nI a)] h Q := by
  show zp_wp X y_Mod_addsClass 0 [.ref 171, .ref r, .int (zf_o c), .int (nI a)] [] h Q
  have hne := zs_I_ne hr zs_M
  refine zp_iload_n rfl rfl ?_
  cases c with
  | some i =>
    have hi := hc i rfl
    refine zp_if_lt (tgt := 6) rfl rfl (fun h1 => ?_) (fun h1 => ?_)
    · exact absurd h1 (nI_pos (by omega))
    refine zp_iconst (v := (nI 1)) rfl (by decide +kernel) ?_
    refine zp_iret rfl rfl ?_
    exact hq h (zr_same hS hV had)
  | none =>
    refine zp_if_lt (tgt := 6) rfl rfl (fun h1 => ?_) (fun h1 => ?_)
    · refine zp_aload_n rfl rfl ?_
      refine zp_iconst (v := (nI 0)) rfl (by decide +kernel) ?_
      refine zp_bipush (v := (nI 12)) rfl (by decide +kernel) ?_
      refine zp_call rfl rfl (s_Mod_countOf (p := fun i => !(v_cn V i == 0)) hS hr (by decide) (fun i hi => by rw [(zv_cz hV hB).1 i hi]; simp) ?_)
      refine zp_bipush (v := (nI 12)) rfl (by decide +kernel) ?_
      have hle := zf_ct_le (fun i => !(v_cn V i == 0)) 12 0
      refine zp_icmpN_ne (a := v_nc V) (b := 12) (tgt := 21) rfl rfl (by unfold v_nc; omega) (by decide) (fun h2 => ?_) (fun h2 => ?_)
      · refine zp_aload_n rfl rfl ?_
        refine zp_aload_n rfl rfl ?_
        refine zp_iconst (v := (nI 0)) rfl (by decide +kernel) ?_
        have hex : ∃ i, zf_fst (fun i => v_cn V i == 0) 0 12 = some i := by
          cases hz : zf_fst (fun i => v_cn V i == 0) 0 12 with
          | some i => exact ⟨i, rfl⟩
          | none =>
            have hn := zf_fst_none hz
            refine absurd ?_ h2
            have e1 : ∀ k c, c + k = 12 → zf_ct (fun i => !(v_cn V i == 0)) c k = k := by
              intro k
              induction k with
              | zero => intro c _; rfl
              | succ k ih =>
                intro c hc
                have := hn c (by omega) (by omega)
                unfold zf_ct
                rw [ih (c + 1) (by omega), this]
                simp; omega
            exact e1 12 0 rfl
        obtain ⟨i, hi⟩ := hex
        have hi12 : i < 12 := by have := (zf_fst_some hi).2.1; omega
        refine zp_call rfl rfl (s_Mod_freeAt (n := 12) hS hr (by decide) (fun j hj => by rw [(zv_cz hV hB).1 j hj]; simp) hi ?_)
        refine zq_put hS rfl zs_M rfl rfl (fun hS1 => ?_)
        have hg := zf_at (x := nI i) hS zs_M (j := 10) rfl
        have hci : ci (zf_put h 171 10 (nI i)) r = ci h r := zf_ci hne
        generalize hh1 : zf_put h 171 10 (nI i) = h1' at hS1 hg hci ⊢
        have e1 : zh_eq (fun x => x = r ∨ x = 171) h h1' := by rw [← hh1]; exact zh_eq.rf.zf (Or.inr rfl)
        have f1 : ∀ j, j ≠ 10 → cf h1' 171 j = cf h 171 j := fun j hj => by rw [← hh1]; exact zf_nj hj
        refine zp_aload_n rfl rfl ?_
        refine zp_aload_n rfl rfl ?_
        refine zq_geti hS1 rfl zs_M rfl ?_
        rw [hg]
        refine zp_iload_n rfl rfl ?_
        refine zq_iast hS1 rfl hr (by omega) (by decide) (fun hS2 => ?_)
        have hg2 : cf (zi_put h1' r (upd (ci h1' r) i (nI a))) 171 10 = nI i := by rw [zi_cf (Ne.symm hne)]; exact hg
        have hci2 : ci (zi_put h1' r (upd (ci h1' r) i (nI a))) r = upd (ci h r) i (nI a) := by rw [zi_at, hci]
        have e2 := e1.zi (f := upd (ci h1' r) i (nI a)) (Or.inl (rfl : r = r))
        have f2 : ∀ j, j ≠ 10 → cf (zi_put h1' r (upd (ci h1' r) i (nI a))) 171 j = cf h 171 j := fun j hj => by rw [zi_cf (Ne.symm hne)]; exact f1 j hj
        generalize zi_put h1' r (upd (ci h1' r) i (nI a)) = h2' at hS2 hg2 hci2 e2 f2 ⊢
        refine zp_aload_n rfl rfl ?_
        refine zp_bipush (v := (nI 12)) rfl (by decide +kernel) ?_
        refine zp_aload_n rfl rfl ?_
        refine zq_geti hS2 rfl zs_M rfl ?_
        rw [hg2]
        refine zp_iaddN rfl ?_
        refine zp_iconst (v := (nI 0)) rfl (by decide +kernel) ?_
        refine zq_iast hS2 rfl hr (by omega) (by decide) (fun hS3 => ?_)
        refine zp_iconst (v := (nI 0)) rfl (by decide +kernel) ?_
        refine zp_iret rfl rfl ?_
        have hv : v_addC V none a = (0, v_set2 (v_set1 V i a) i 0, some i) := by
          unfold v_addC
          rw [if_neg (by simp), if_neg h2, hi]
        rw [hv] at hq
        refine hq _ ⟨hS3, e2.zi (Or.inl rfl), ?_, by rw [zi_cf (Ne.symm hne)]; exact hg2, fun j hj => by rw [zi_cf (Ne.symm hne)]; exact f2 j hj⟩
        rw [zi_at, hci2]
        exact zv_R2 (zv_R1 hV hi12) hi12
      · refine zp_bipush (v := (nI 9)) rfl (by decide +kernel) ?_
        refine zp_iret rfl rfl ?_
        have hv : v_addC V none a = (9, V, none) := by
          unfold v_addC
          rw [if_neg (by simp), if_pos h2]
        rw [hv] at hq
        exact hq h (zr_same hS hV had)
    · exact absurd (by decide) h1
theorem s_Mod_renamesClass {c : Option Nat} {b : Nat} (hS : zs_H h) (hr : zs_I r 1704) (hV : zv_R V (ci h r)) (hB : zv_B V) (hc : ∀ i, c = some i → i < 12) (hb : b < 2 ^ 31) (had : cf h 171 10 = -1) (hq : ∀ h', zr_post (v_renC V c b).2.1 (v_renC V c b).2.2 r h h' → Q (.inl (some (.int (nI (v_renC V c b).1)))) h') : zp_wm X y_Mod_renamesClass [.ref 171, .ref r, .int (zf_o c), .int (nI b)] h Q := by
  show zp_wp X y_Mod_renamesClass 0 [.ref 171, .ref r, .int (zf_o c), .int (nI b)] [] h Q
  have hne := zs_I_ne hr zs_M
  refine zp_iload_n rfl rfl ?_
  cases c with
  | none =>
    refine zp_if_ge (tgt := 6) rfl rfl (fun h1 => ?_) (fun h1 => ?_)
    · exact absurd h1 (by decide)
    refine zp_iconst (v := (nI 2)) rfl (by decide +kernel) ?_
    refine zp_iret rfl rfl ?_
    exact hq h (zr_same hS hV had)
  | some c =>
    have hc := hc c rfl
    refine zp_if_ge (tgt := 6) rfl rfl (fun h1 => ?_) (fun h1 => ?_)
    · refine zp_aload_n rfl rfl ?_
      refine zp_iload_n rfl rfl ?_
      refine zp_call rfl rfl (t_Mod_classAt hS hr hV hB hb ?_)
      cases hz : v_cls V b with
      | some i =>
        have hi := (v_cls_lt hz).1
        refine zp_if_lt (tgt := 16) rfl rfl (fun h2 => ?_) (fun h2 => ?_)
        · exact absurd h2 (nI_pos (by omega))
        refine zp_iconst (v := (nI 1)) rfl (by decide +kernel) ?_
        refine zp_iret rfl rfl ?_
        have hv : v_renC V (some c) b = (1, V, none) := by simp [v_renC, hz]
        rw [hv] at hq
        exact hq h (zr_same hS hV had)
      | none =>
        refine zp_if_lt (tgt := 16) rfl rfl (fun h2 => ?_) (fun h2 => ?_)
        · refine zp_aload_n rfl rfl ?_
          refine zp_iload_n (x := nI c) rfl rfl ?_
          refine zp_iload_n rfl rfl ?_
          refine zq_iast hS rfl hr (by omega) (by decide) (fun hS1 => ?_)
          refine zp_iconst (v := (nI 0)) rfl (by decide +kernel) ?_
          refine zp_iret rfl rfl ?_
          have hv : v_renC V (some c) b = (0, v_set1 V c b, none) := by simp [v_renC, hz]
          rw [hv] at hq
          refine hq _ ⟨hS1, zh_eq.rf.zi (Or.inl rfl), ?_, by rw [zi_cf (Ne.symm hne)]; exact had, fun j hj => by rw [zi_cf (Ne.symm hne)]⟩
          rw [zi_at]
          exact zv_R1 hV hc
        · exact absurd (by decide) h2
    · exact absurd (nI_pos' (by omega)) h1
theorem s_Mod_removesClass {c : Option Nat} (hS : zs_H h) (hr : zs_I r 1704) (hV : zv_R V (ci h r)) (hB : zv_B V) (hc : ∀ i, c = some i → i < 12) (had : cf h 171 10 = -1) (hq : ∀ h', zr_post (v_remC V c).2.1 (v_remC V c).2.2 r h h' → Q (.inl (some (.int (nI (v_remC V c).1)))) h') : zp_wm X y_Mod_removesClass [.ref 171, .ref r, .int (zf_o c)] h Q := by
  show zp_wp X y_Mod_removesClass 0 [.ref 171, .ref r, .int (zf_o c), zm_mk] [] h Q
  have hne := zs_I_ne hr zs_M
  refine zp_iload_n rfl rfl ?_
  cases c with
  | none =>
    refine zp_if_ge (tgt := 6) rfl rfl (fun h1 => ?_) (fun h1 => ?_)
    · exact absurd h1 (by decide)
    refine zp_iconst (v := (nI 2)) rfl (by decide +kernel) ?_
    refine zp_iret rfl rfl ?_
    exact hq h (zr_same hS hV had)
  | some c =>
    have hc := hc c rfl
    refine zp_if_ge (tgt := 6) rfl rfl (fun h1 => ?_) (fun h1 => ?_)
    · have loop2 : ∀ k i : Nat, i + k = 12 → zf_any (fun k => !(v_mn V k == 0) && v_ow V k == c) 0 40 = false → zf_any (fun k => !(v_cn V k == 0) && v_sp V k == c + 1) 0 12 = zf_any (fun k => !(v_cn V k == 0) && v_sp V k == c + 1) i k → zp_wp X y_Mod_removesClass 43 [.ref 171, .ref r, .int (nI c), .int (nI i)] [] h Q := by
        intro k
        induction k with
        | zero =>
          intro i hi h0 he
          refine zp_iload_n rfl rfl ?_
          refine zp_bipush (v := (nI 12)) rfl (by decide +kernel) ?_
          refine zp_icmpN_ge (tgt := 75) rfl rfl (by omega) (by omega) (fun h2 => ?_) (fun h2 => ?_)
          · refine zp_aload_n rfl rfl ?_
            refine zp_iload_n rfl rfl ?_
            refine zp_iconst (v := (nI 0)) rfl (by decide +kernel) ?_
            refine zq_iast hS rfl hr (by omega) (by decide) (fun hS1 => ?_)
            refine zp_iconst (v := (nI 0)) rfl (by decide +kernel) ?_
            refine zp_iret rfl rfl ?_
            have hv : v_remC V (some c) = (0, v_set1 V c 0, none) := by
              simp only [v_remC]
              rw [h0, he]
              rfl
            rw [hv] at hq
            refine hq _ ⟨hS1, zh_eq.rf.zi (Or.inl rfl), ?_, by rw [zi_cf (Ne.symm hne)]; exact had, fun j hj => by rw [zi_cf (Ne.symm hne)]⟩
            rw [zi_at]
            exact zv_R1 hV hc
          · omega
        | succ k ih =>
          intro i hi h0 he
          have b1 := hB.1 i (by omega)
          have b2 := hB.2.1 i (by omega)
          refine zp_iload_n rfl rfl ?_
          refine zp_bipush (v := (nI 12)) rfl (by decide +kernel) ?_
          refine zp_icmpN_ge (tgt := 75) rfl rfl (by omega) (by omega) (fun h2 => ?_) (fun h2 => ?_)
          · omega
          refine zp_aload_n rfl rfl ?_
          refine zp_iload_n rfl rfl ?_
          refine zq_iald hS rfl (by first | assumption | exact ⟨by decide, rfl⟩) (by omega) (by decide) ?_
          rw [hV.1 i (by omega)]
          refine zp_if_eq (tgt := 69) rfl rfl (fun h3 => ?_) (fun h3 => ?_)
          · first | refine zp_iincN_3 rfl rfl ?_ | refine zp_iinc_3 rfl rfl rfl ?_
            refine zp_goto (tgt := 43) rfl rfl ?_
            have h3 : v_cn V i = 0 := by rw [← nI_0] at h3; exact (nI_eq (by omega) (by decide)).mp h3
            exact ih (i + 1) (by omega) h0 (by rw [he]; simp [zf_any, h3])
          have h3 : ¬ v_cn V i = 0 := fun q => h3 (by rw [q]; exact nI_0)
          refine zp_aload_n rfl rfl ?_
          refine zp_bipush (v := (nI 12)) rfl (by decide +kernel) ?_
          refine zp_iload_n rfl rfl ?_
          first | refine zp_iaddN rfl ?_ | refine zp_iadd rfl rfl ?_
          refine zq_iald hS rfl (by first | assumption | exact ⟨by decide, rfl⟩) (by omega) (by decide) ?_
          rw [hV.2.1 i (by omega)]
          refine zp_iload_n (x := nI c) rfl rfl ?_
          refine zp_iconst (v := (nI 1)) rfl (by decide +kernel) ?_
          first | refine zp_iaddN rfl ?_ | refine zp_iadd rfl rfl ?_
          refine zp_icmpN_ne (a := v_sp V i) (b := c + 1) (tgt := 69) rfl rfl (by omega) (by omega) (fun h4 => ?_) (fun h4 => ?_)
          · first | refine zp_iincN_3 rfl rfl ?_ | refine zp_iinc_3 rfl rfl rfl ?_
            refine zp_goto (tgt := 43) rfl rfl ?_
            exact ih (i + 1) (by omega) h0 (by rw [he]; simp [zf_any, h4])
          · refine zp_iconst (v := (nI 3)) rfl (by decide +kernel) ?_
            refine zp_iret rfl rfl ?_
            have hv : v_remC V (some c) = (3, V, none) := by
              simp only [v_remC]
              rw [h0, he]
              simp [zf_any, h3, h4]
            rw [hv] at hq
            exact hq h (zr_same hS hV had)
      have loop1 : ∀ k i : Nat, i + k = 40 → zf_any (fun k => !(v_mn V k == 0) && v_ow V k == c) 0 40 = zf_any (fun k => !(v_mn V k == 0) && v_ow V k == c) i k → zp_wp X y_Mod_removesClass 8 [.ref 171, .ref r, .int (nI c), .int (nI i)] [] h Q := by
        intro k
        induction k with
        | zero =>
          intro i hi he
          refine zp_iload_n rfl rfl ?_
          refine zp_bipush (v := (nI 40)) rfl (by decide +kernel) ?_
          refine zp_icmpN_ge (tgt := 41) rfl rfl (by omega) (by omega) (fun h2 => ?_) (fun h2 => ?_)
          · refine zp_iconst (v := (nI 0)) rfl (by decide +kernel) ?_
            refine zp_istore_n_3 rfl rfl ?_
            exact loop2 12 0 rfl he rfl
          · omega
        | succ k ih =>
          intro i hi he
          have b1 := hB.2.2.1 i (by omega)
          have b2 := hB.2.2.2 i (by omega)
          refine zp_iload_n rfl rfl ?_
          refine zp_bipush (v := (nI 40)) rfl (by decide +kernel) ?_
          refine zp_icmpN_ge (tgt := 41) rfl rfl (by omega) (by omega) (fun h2 => ?_) (fun h2 => ?_)
          · omega
          refine zp_aload_n rfl rfl ?_
          refine zp_bipush (v := (nI 24)) rfl (by decide +kernel) ?_
          refine zp_iload_n rfl rfl ?_
          first | refine zp_iaddN rfl ?_ | refine zp_iadd rfl rfl ?_
          refine zq_iald hS rfl (by first | assumption | exact ⟨by decide, rfl⟩) (by omega) (by decide) ?_
          rw [hV.2.2.1 i (by omega)]
          refine zp_if_eq (tgt := 35) rfl rfl (fun h3 => ?_) (fun h3 => ?_)
          · first | refine zp_iincN_3 rfl rfl ?_ | refine zp_iinc_3 rfl rfl rfl ?_
            refine zp_goto (tgt := 8) rfl rfl ?_
            have h3 : v_mn V i = 0 := by rw [← nI_0] at h3; exact (nI_eq (by omega) (by decide)).mp h3
            exact ih (i + 1) (by omega) (by rw [he]; simp [zf_any, h3])
          have h3 : ¬ v_mn V i = 0 := fun q => h3 (by rw [q]; exact nI_0)
          refine zp_aload_n rfl rfl ?_
          refine zp_bipush (v := (nI 64)) rfl (by decide +kernel) ?_
          refine zp_iload_n rfl rfl ?_
          first | refine zp_iaddN rfl ?_ | refine zp_iadd rfl rfl ?_
          refine zq_iald hS rfl (by first | assumption | exact ⟨by decide, rfl⟩) (by omega) (by decide) ?_
          rw [hV.2.2.2.1 i (by omega)]
          refine zp_iload_n (x := nI c) rfl rfl ?_
          refine zp_icmpN_ne (a := v_ow V i) (b := c) (tgt := 35) rfl rfl (by omega) (by omega) (fun h4 => ?_) (fun h4 => ?_)
          · first | refine zp_iincN_3 rfl rfl ?_ | refine zp_iinc_3 rfl rfl rfl ?_
            refine zp_goto (tgt := 8) rfl rfl ?_
            exact ih (i + 1) (by omega) (by rw [he]; simp [zf_any, h4])
          · refine zp_iconst (v := (nI 3)) rfl (by decide +kernel) ?_
            refine zp_iret rfl rfl ?_
            have hv : v_remC V (some c) = (3, V, none) := by
              simp only [v_remC]
              rw [he]
              simp [zf_any, h3, h4]
            rw [hv] at hq
            exact hq h (zr_same hS hV had)
      refine zp_iconst (v := (nI 0)) rfl (by decide +kernel) ?_
      refine zp_istore_n_3 rfl rfl ?_
      exact loop1 40 0 rfl rfl
    · exact absurd (nI_pos' (by omega)) h1
end ZR3
