/-! the class: a change, a list of changes -/
def zq_5 (r : Nat) (h : zm_H) (k a m b n : Int32) : Prop := cf h r 0 = k ∧ cf h r 1 = a ∧ cf h r 2 = m ∧ cf h r 3 = b ∧ cf h r 4 = n
section ZP7
variable {X : zm_X} {h : zm_H} {Q : zm_O → zm_H → Prop} {V W : zv} {p q r t l : Nat} {c d : zch}
theorem zh_onf {j d : Nat} {x : Int32} {h1 : zm_H} (q : zh_eq (fun x => x = d) h h1) : zh_eq (fun x => x = d) h (zf_put h1 d j x) := q.zf rfl
theorem s_RR_isClassName {x : Int32} (hq : Q (.inl (some (.int (zf_b (g_isC x))))) h) : zp_wm X y_RR_isClassName [.int x] h Q := by
  rw [← g_isC_in] at hq
  show zp_wp X y_RR_isClassName 0 [.int x] [] h Q
  refine zp_iload_n (x := x) rfl rfl ?_
  refine zp_bipush (v := (nI 65)) rfl (by decide +kernel) ?_
  refine zp_icmp_lt (tgt := 16) rfl rfl (fun b3 => ?_) (fun b3 => ?_)
  · refine zp_iconst (v := (nI 0)) rfl (by decide +kernel) ?_
    refine zp_zret rfl rfl (by decide) ?_
    first
    | (rw [if_neg (fun q => Int32.not_le.mpr b3 q.1)] at hq; exact hq)
    | (rw [if_neg (fun q => Int32.not_le.mpr b9 q.2)] at hq; exact hq)
    | (rw [if_pos ⟨Int32.not_lt.mp b3, Int32.not_lt.mp b9⟩] at hq; exact hq)
  · refine zp_iload_n (x := x) rfl rfl ?_
    refine zp_bipush (v := (nI 90)) rfl (by decide +kernel) ?_
    refine zp_icmp_gt (tgt := 16) rfl rfl (fun b9 => ?_) (fun b9 => ?_)
    · refine zp_iconst (v := (nI 0)) rfl (by decide +kernel) ?_
      refine zp_zret rfl rfl (by decide) ?_
      first
      | (rw [if_neg (fun q => Int32.not_le.mpr b3 q.1)] at hq; exact hq)
      | (rw [if_neg (fun q => Int32.not_le.mpr b9 q.2)] at hq; exact hq)
      | (rw [if_pos ⟨Int32.not_lt.mp b3, Int32.not_lt.mp b9⟩] at hq; exact hq)
    · refine zp_iconst (v := (nI 1)) rfl (by decide +kernel) ?_
      refine zp_goto (tgt := 17) rfl rfl ?_
      refine zp_zret rfl rfl (by decide) ?_
      first
      | (rw [if_neg (fun q => Int32.not_le.mpr b3 q.1)] at hq; exact hq)
      | (rw [if_neg (fun q => Int32.not_le.mpr b9 q.2)] at hq; exact hq)
      | (rw [if_pos ⟨Int32.not_lt.mp b3, Int32.not_lt.mp b9⟩] at hq; exact hq)
theorem s_RR_isMemberName {x : Int32} (hq : Q (.inl (some (.int (zf_b (g_isM x))))) h) : zp_wm X y_RR_isMemberName [.int x] h Q := by
  rw [← g_isM_in] at hq
  show zp_wp X y_RR_isMemberName 0 [.int x] [] h Q
  refine zp_iload_n (x := x) rfl rfl ?_
  refine zp_bipush (v := (nI 97)) rfl (by decide +kernel) ?_
  refine zp_icmp_lt (tgt := 16) rfl rfl (fun b3 => ?_) (fun b3 => ?_)
  · refine zp_iconst (v := (nI 0)) rfl (by decide +kernel) ?_
    refine zp_zret rfl rfl (by decide) ?_
    first
    | (rw [if_neg (fun q => Int32.not_le.mpr b3 q.1)] at hq; exact hq)
    | (rw [if_neg (fun q => Int32.not_le.mpr b9 q.2)] at hq; exact hq)
    | (rw [if_pos ⟨Int32.not_lt.mp b3, Int32.not_lt.mp b9⟩] at hq; exact hq)
  · refine zp_iload_n (x := x) rfl rfl ?_
    refine zp_bipush (v := (nI 122)) rfl (by decide +kernel) ?_
    refine zp_icmp_gt (tgt := 16) rfl rfl (fun b9 => ?_) (fun b9 => ?_)
    · refine zp_iconst (v := (nI 0)) rfl (by decide +kernel) ?_
      refine zp_zret rfl rfl (by decide) ?_
      first
      | (rw [if_neg (fun q => Int32.not_le.mpr b3 q.1)] at hq; exact hq)
      | (rw [if_neg (fun q => Int32.not_le.mpr b9 q.2)] at hq; exact hq)
      | (rw [if_pos ⟨Int32.not_lt.mp b3, Int32.not_lt.mp b9⟩] at hq; exact hq)
    · refine zp_iconst (v := (nI 1)) rfl (by decide +kernel) ?_
      refine zp_goto (tgt := 17) rfl rfl ?_
      refine zp_zret rfl rfl (by decide) ?_
      first
      | (rw [if_neg (fun q => Int32.not_le.mpr b3 q.1)] at hq; exact hq)
      | (rw [if_neg (fun q => Int32.not_le.mpr b9 q.2)] at hq; exact hq)
      | (rw [if_pos ⟨Int32.not_lt.mp b3, Int32.not_lt.mp b9⟩] at hq; exact hq)
theorem s_Change_set {k a m b n : Int32} (hS : zs_H h) (hC : zq_C r) (hq : ∀ h', zs_H h' → zh_eq (fun x => x = r) h h' → zq_5 r h' k a m b n → Q (.inl none) h') : zp_wm X y_Change_set [.ref r, .int k, .int a, .int m, .int b, .int n] h Q := by
  have hC : zs_O r 0 [none, none, none, none, none] := hC
  show zp_wp X y_Change_set 0 [.ref r, .int k, .int a, .int m, .int b, .int n] [] h Q
  refine zp_aload_n (x := r) rfl rfl ?_
  refine zp_iload_n (x := k) rfl rfl ?_
  refine zq_put hS rfl (by first | assumption | exact ⟨by decide, rfl⟩) rfl rfl (fun hS2 => ?_)
  have hS := hS2
  refine zp_aload_n (x := r) rfl rfl ?_
  refine zp_iload_n (x := a) rfl rfl ?_
  refine zq_put hS rfl (by first | assumption | exact ⟨by decide, rfl⟩) rfl rfl (fun hS7 => ?_)
  have hS := hS7
  refine zp_aload_n (x := r) rfl rfl ?_
  refine zp_iload_n (x := m) rfl rfl ?_
  refine zq_put hS rfl (by first | assumption | exact ⟨by decide, rfl⟩) rfl rfl (fun hS12 => ?_)
  have hS := hS12
  refine zp_aload_n (x := r) rfl rfl ?_
  refine zp_iload (x := b) rfl rfl ?_
  refine zq_put hS rfl (by first | assumption | exact ⟨by decide, rfl⟩) rfl rfl (fun hS18 => ?_)
  have hS := hS18
  refine zp_aload_n (x := r) rfl rfl ?_
  refine zp_iload (x := n) rfl rfl ?_
  refine zq_put hS rfl (by first | assumption | exact ⟨by decide, rfl⟩) rfl rfl (fun hS24 => ?_)
  have hS := hS24
  refine zp_vret rfl rfl ?_
  exact hq _ hS (zh_onf (zh_onf (zh_onf (zh_onf (zh_onf zh_eq.rf))))) ⟨(by rw [zf_nj (by decide), zf_nj (by decide), zf_nj (by decide), zf_nj (by decide)]; exact zf_at9 hS2 (by first | assumption | exact ⟨by decide, rfl⟩) rfl), (by rw [zf_nj (by decide), zf_nj (by decide), zf_nj (by decide)]; exact zf_at9 hS7 (by first | assumption | exact ⟨by decide, rfl⟩) rfl), (by rw [zf_nj (by decide), zf_nj (by decide)]; exact zf_at9 hS12 (by first | assumption | exact ⟨by decide, rfl⟩) rfl), (by rw [zf_nj (by decide)]; exact zf_at9 hS18 (by first | assumption | exact ⟨by decide, rfl⟩) rfl), (by exact zf_at9 hS24 (by first | assumption | exact ⟨by decide, rfl⟩) rfl)⟩
theorem s_Change_copyFrom (hS : zs_H h) (hC : zq_C r) (hC2 : zq_C t) (hc : zq_c c t h) (hq : ∀ h', zs_H h' → zh_eq (fun x => x = r) h h' → zq_c c r h' → Q (.inl none) h') : zp_wm X y_Change_copyFrom [.ref r, .ref t] h Q := by
  have hC9 := hC
  have hC : zs_O r 0 [none, none, none, none, none] := hC
  have hC2 : zs_O t 0 [none, none, none, none, none] := hC2
  show zp_wp X y_Change_copyFrom 0 [.ref r, .ref t] [] h Q
  refine zp_aload_n (x := r) rfl rfl ?_
  refine zp_aload_n (x := t) rfl rfl ?_
  refine zq_geti hS rfl (by first | assumption | exact ⟨by decide, rfl⟩) rfl ?_
  rw [hc.1]
  refine zp_aload_n (x := t) rfl rfl ?_
  refine zq_geti hS rfl (by first | assumption | exact ⟨by decide, rfl⟩) rfl ?_
  rw [hc.2.1]
  refine zp_aload_n (x := t) rfl rfl ?_
  refine zq_geti hS rfl (by first | assumption | exact ⟨by decide, rfl⟩) rfl ?_
  rw [hc.2.2.1]
  refine zp_aload_n (x := t) rfl rfl ?_
  refine zq_geti hS rfl (by first | assumption | exact ⟨by decide, rfl⟩) rfl ?_
  rw [hc.2.2.2.1]
  refine zp_aload_n (x := t) rfl rfl ?_
  refine zq_geti hS rfl (by first | assumption | exact ⟨by decide, rfl⟩) rfl ?_
  rw [hc.2.2.2.2]
  refine zq_virt hS rfl rfl (by first | assumption | exact ⟨by decide, rfl⟩) rfl (s_Change_set hS hC9 (fun h2 hS2 he2 hc2 => ?_))
  show zp_wp X y_Change_copyFrom 24 [.ref r, .ref t] [] h2 Q
  refine zp_vret rfl rfl ?_
  exact hq _ hS2 he2 hc2
theorem s_Change_hasTwoMembers {k : Nat} (hS : zs_H h) (hC : zq_C r) (h0 : cf h r 0 = nI k) (hk : k < 10) (hq : Q (.inl (some (.int (zf_b (decide (8 ≤ k)))))) h) : zp_wm X y_Change_hasTwoMembers [.ref r] h Q := by
  have hC : zs_O r 0 [none, none, none, none, none] := hC
  show zp_wp X y_Change_hasTwoMembers 0 [.ref r] [] h Q
  refine zp_aload_n (x := r) rfl rfl ?_
  refine zq_geti hS rfl (by first | assumption | exact ⟨by decide, rfl⟩) rfl ?_
  rw [h0]
  refine zp_bipush (v := (nI 8)) rfl (by decide +kernel) ?_
  refine zp_icmpN_eq (tgt := 18) rfl rfl (by omega) (by omega) (fun b6 => ?_) (fun b6 => ?_)
  · refine zp_iconst (v := (nI 1)) rfl (by decide +kernel) ?_
    refine zp_goto (tgt := 23) rfl rfl ?_
    refine zp_zret rfl rfl (by decide) ?_
    first
    | (rw [decide_eq_true (show 8 ≤ k by omega)] at hq; exact hq)
    | (rw [decide_eq_false (show ¬ 8 ≤ k by omega)] at hq; exact hq)
  · refine zp_aload_n (x := r) rfl rfl ?_
    refine zq_geti hS rfl (by first | assumption | exact ⟨by decide, rfl⟩) rfl ?_
    rw [h0]
    refine zp_bipush (v := (nI 9)) rfl (by decide +kernel) ?_
    refine zp_icmpN_ne (tgt := 22) rfl rfl (by omega) (by omega) (fun b15 => ?_) (fun b15 => ?_)
    · refine zp_iconst (v := (nI 0)) rfl (by decide +kernel) ?_
      refine zp_zret rfl rfl (by decide) ?_
      first
      | (rw [decide_eq_true (show 8 ≤ k by omega)] at hq; exact hq)
      | (rw [decide_eq_false (show ¬ 8 ≤ k by omega)] at hq; exact hq)
    · refine zp_iconst (v := (nI 1)) rfl (by decide +kernel) ?_
      refine zp_goto (tgt := 23) rfl rfl ?_
      refine zp_zret rfl rfl (by decide) ?_
      first
      | (rw [decide_eq_true (show 8 ≤ k by omega)] at hq; exact hq)
      | (rw [decide_eq_false (show ¬ 8 ≤ k by omega)] at hq; exact hq)
theorem s_Change_hasLegalNames {k : Nat} {a m b n : Int32} (hS : zs_H h) (hC : zq_C r) (hc : zq_5 r h (nI k) a m b n) (hk : k < 10) (hq : Q (.inl (some (.int (zf_b (g_leg k a m b n))))) h) : zp_wm X y_Change_hasLegalNames [.ref r] h Q := by
  have hC9 := hC
  have hC : zs_O r 0 [none, none, none, none, none] := hC
  obtain ⟨c0, c1, c2, c3, c4⟩ := hc
  show zp_wp X y_Change_hasLegalNames 0 [.ref r, zm_mk, zm_mk] [] h Q
  match k, hk, c0, hq with
  | 0, _, c0, hq =>
    refine zp_aload_n (x := r) rfl rfl ?_
    refine zq_geti hS rfl (by first | assumption | exact ⟨by decide, rfl⟩) rfl ?_
    rw [c1]
    refine zp_call rfl rfl (s_RR_isClassName ?_)
    cases e1 : g_isC a with
    | false =>
      show zp_wp X y_Change_hasLegalNames 7 [.ref r, zm_mk, zm_mk] [.int (nI 0)] h Q
      refine zp_ifF (tgt := 12) rfl rfl (by decide +kernel) ?_
      refine zp_iconst (v := (nI 0)) rfl (by decide +kernel) ?_
      refine zp_zret rfl rfl (by decide) ?_
      have hv : g_leg 0 a m b n = false := by
        first
        | (simp [g_leg, g_four, e1]; done)
      rw [hv] at hq
      exact hq
    | true =>
      show zp_wp X y_Change_hasLegalNames 7 [.ref r, zm_mk, zm_mk] [.int (nI 1)] h Q
      refine zp_ifT (tgt := 12) rfl rfl (by decide +kernel) ?_
      refine zp_aload_n (x := r) rfl rfl ?_
      refine zq_geti hS rfl (by first | assumption | exact ⟨by decide, rfl⟩) rfl ?_
      rw [c0]
      refine zp_iconst (v := (nI 4)) rfl (by decide +kernel) ?_
      refine zp_icT (tgt := 32) rfl rfl (by decide +kernel) ?_
      refine zp_aload_n (x := r) rfl rfl ?_
      refine zq_geti hS rfl (by first | assumption | exact ⟨by decide, rfl⟩) rfl ?_
      rw [c0]
      refine zp_iconst (v := (nI 2)) rfl (by decide +kernel) ?_
      refine zp_icF (tgt := 71) rfl rfl (by decide +kernel) ?_
      refine zp_aload_n (x := r) rfl rfl ?_
      refine zq_geti hS rfl (by first | assumption | exact ⟨by decide, rfl⟩) rfl ?_
      rw [c0]
      refine zp_bipush (v := (nI 7)) rfl (by decide +kernel) ?_
      refine zp_icF (tgt := 71) rfl rfl (by decide +kernel) ?_
      refine zp_aload_n (x := r) rfl rfl ?_
      refine zq_virt hS rfl rfl (by first | assumption | exact ⟨by decide, rfl⟩) rfl (s_Change_hasTwoMembers (k := 0) hS hC9 c0 (by decide) ?_)
      show zp_wp X y_Change_hasLegalNames 53 [.ref r, zm_mk, zm_mk] [.int (nI 0)] h Q
      refine zp_ifF (tgt := 71) rfl rfl (by decide +kernel) ?_
      refine zp_aload_n (x := r) rfl rfl ?_
      refine zq_geti hS rfl (by first | assumption | exact ⟨by decide, rfl⟩) rfl ?_
      rw [c0]
      refine zp_iconst (v := (nI 3)) rfl (by decide +kernel) ?_
      refine zp_icT (tgt := 75) rfl rfl (by decide +kernel) ?_
      refine zp_iconst (v := (nI 0)) rfl (by decide +kernel) ?_
      refine zp_istore_n_1 rfl rfl ?_
      refine zp_iload_n (x := (nI 0)) rfl rfl ?_
      refine zp_ifT (tgt := 93) rfl rfl (by decide +kernel) ?_
      refine zp_aload_n (x := r) rfl rfl ?_
      refine zq_geti hS rfl (by first | assumption | exact ⟨by decide, rfl⟩) rfl ?_
      rw [c0]
      refine zp_bipush (v := (nI 6)) rfl (by decide +kernel) ?_
      refine zp_icF (tgt := 109) rfl rfl (by decide +kernel) ?_
      refine zp_aload_n (x := r) rfl rfl ?_
      refine zq_virt hS rfl rfl (by first | assumption | exact ⟨by decide, rfl⟩) rfl (s_Change_hasTwoMembers (k := 0) hS hC9 c0 (by decide) ?_)
      show zp_wp X y_Change_hasLegalNames 106 [.ref r, .int (nI 0), zm_mk] [.int (nI 0)] h Q
      refine zp_ifT (tgt := 113) rfl rfl (by decide +kernel) ?_
      refine zp_iconst (v := (nI 0)) rfl (by decide +kernel) ?_
      refine zp_istore_n_2 rfl rfl ?_
      refine zp_iload_n (x := (nI 0)) rfl rfl ?_
      refine zp_ifT (tgt := 129) rfl rfl (by decide +kernel) ?_
      refine zp_iconst (v := (nI 1)) rfl (by decide +kernel) ?_
      refine zp_goto (tgt := 134) rfl rfl ?_
      refine zp_zret rfl rfl (by decide) ?_
      have hv : g_leg 0 a m b n = true := by
        first
        | (simp [g_leg, g_four, e1]; done)
      rw [hv] at hq
      exact hq
  | 1, _, c0, hq =>
    refine zp_aload_n (x := r) rfl rfl ?_
    refine zq_geti hS rfl (by first | assumption | exact ⟨by decide, rfl⟩) rfl ?_
    rw [c1]
    refine zp_call rfl rfl (s_RR_isClassName ?_)
    cases e1 : g_isC a with
    | false =>
      show zp_wp X y_Change_hasLegalNames 7 [.ref r, zm_mk, zm_mk] [.int (nI 0)] h Q
      refine zp_ifF (tgt := 12) rfl rfl (by decide +kernel) ?_
      refine zp_iconst (v := (nI 0)) rfl (by decide +kernel) ?_
      refine zp_zret rfl rfl (by decide) ?_
      have hv : g_leg 1 a m b n = false := by
        first
        | (simp [g_leg, g_four, e1]; done)
      rw [hv] at hq
      exact hq
    | true =>
      show zp_wp X y_Change_hasLegalNames 7 [.ref r, zm_mk, zm_mk] [.int (nI 1)] h Q
      refine zp_ifT (tgt := 12) rfl rfl (by decide +kernel) ?_
      refine zp_aload_n (x := r) rfl rfl ?_
      refine zq_geti hS rfl (by first | assumption | exact ⟨by decide, rfl⟩) rfl ?_
      rw [c0]
      refine zp_iconst (v := (nI 4)) rfl (by decide +kernel) ?_
      refine zp_icT (tgt := 32) rfl rfl (by decide +kernel) ?_
      refine zp_aload_n (x := r) rfl rfl ?_
      refine zq_geti hS rfl (by first | assumption | exact ⟨by decide, rfl⟩) rfl ?_
      rw [c0]
      refine zp_iconst (v := (nI 2)) rfl (by decide +kernel) ?_
      refine zp_icF (tgt := 71) rfl rfl (by decide +kernel) ?_
      refine zp_aload_n (x := r) rfl rfl ?_
      refine zq_geti hS rfl (by first | assumption | exact ⟨by decide, rfl⟩) rfl ?_
      rw [c0]
      refine zp_bipush (v := (nI 7)) rfl (by decide +kernel) ?_
      refine zp_icF (tgt := 71) rfl rfl (by decide +kernel) ?_
      refine zp_aload_n (x := r) rfl rfl ?_
      refine zq_virt hS rfl rfl (by first | assumption | exact ⟨by decide, rfl⟩) rfl (s_Change_hasTwoMembers (k := 1) hS hC9 c0 (by decide) ?_)
      show zp_wp X y_Change_hasLegalNames 53 [.ref r, zm_mk, zm_mk] [.int (nI 0)] h Q
      refine zp_ifF (tgt := 71) rfl rfl (by decide +kernel) ?_
      refine zp_aload_n (x := r) rfl rfl ?_
      refine zq_geti hS rfl (by first | assumption | exact ⟨by decide, rfl⟩) rfl ?_
      rw [c0]
      refine zp_iconst (v := (nI 3)) rfl (by decide +kernel) ?_
      refine zp_icT (tgt := 75) rfl rfl (by decide +kernel) ?_
      refine zp_iconst (v := (nI 0)) rfl (by decide +kernel) ?_
      refine zp_istore_n_1 rfl rfl ?_
      refine zp_iload_n (x := (nI 0)) rfl rfl ?_
      refine zp_ifT (tgt := 93) rfl rfl (by decide +kernel) ?_
      refine zp_aload_n (x := r) rfl rfl ?_
      refine zq_geti hS rfl (by first | assumption | exact ⟨by decide, rfl⟩) rfl ?_
      rw [c0]
      refine zp_bipush (v := (nI 6)) rfl (by decide +kernel) ?_
      refine zp_icF (tgt := 109) rfl rfl (by decide +kernel) ?_
      refine zp_aload_n (x := r) rfl rfl ?_
      refine zq_virt hS rfl rfl (by first | assumption | exact ⟨by decide, rfl⟩) rfl (s_Change_hasTwoMembers (k := 1) hS hC9 c0 (by decide) ?_)
      show zp_wp X y_Change_hasLegalNames 106 [.ref r, .int (nI 0), zm_mk] [.int (nI 0)] h Q
      refine zp_ifT (tgt := 113) rfl rfl (by decide +kernel) ?_
      refine zp_iconst (v := (nI 0)) rfl (by decide +kernel) ?_
      refine zp_istore_n_2 rfl rfl ?_
      refine zp_iload_n (x := (nI 0)) rfl rfl ?_
      refine zp_ifT (tgt := 129) rfl rfl (by decide +kernel) ?_
      refine zp_iconst (v := (nI 1)) rfl (by decide +kernel) ?_
      refine zp_goto (tgt := 134) rfl rfl ?_
      refine zp_zret rfl rfl (by decide) ?_
      have hv : g_leg 1 a m b n = true := by
        first
        | (simp [g_leg, g_four, e1]; done)
      rw [hv] at hq
      exact hq
  | 2, _, c0, hq =>
    refine zp_aload_n (x := r) rfl rfl ?_
    refine zq_geti hS rfl (by first | assumption | exact ⟨by decide, rfl⟩) rfl ?_
    rw [c1]
    refine zp_call rfl rfl (s_RR_isClassName ?_)
    cases e1 : g_isC a with
    | false =>
      show zp_wp X y_Change_hasLegalNames 7 [.ref r, zm_mk, zm_mk] [.int (nI 0)] h Q
      refine zp_ifF (tgt := 12) rfl rfl (by decide +kernel) ?_
      refine zp_iconst (v := (nI 0)) rfl (by decide +kernel) ?_
      refine zp_zret rfl rfl (by decide) ?_
      have hv : g_leg 2 a m b n = false := by
        first
        | (simp [g_leg, g_four, e1, e3]; done)
        | (simp [g_leg, g_four, e1]; done)
      rw [hv] at hq
      exact hq
    | true =>
      show zp_wp X y_Change_hasLegalNames 7 [.ref r, zm_mk, zm_mk] [.int (nI 1)] h Q
      refine zp_ifT (tgt := 12) rfl rfl (by decide +kernel) ?_
      refine zp_aload_n (x := r) rfl rfl ?_
      refine zq_geti hS rfl (by first | assumption | exact ⟨by decide, rfl⟩) rfl ?_
      rw [c0]
      refine zp_iconst (v := (nI 4)) rfl (by decide +kernel) ?_
      refine zp_icT (tgt := 32) rfl rfl (by decide +kernel) ?_
      refine zp_aload_n (x := r) rfl rfl ?_
      refine zq_geti hS rfl (by first | assumption | exact ⟨by decide, rfl⟩) rfl ?_
      rw [c0]
      refine zp_iconst (v := (nI 2)) rfl (by decide +kernel) ?_
      refine zp_icT (tgt := 71) rfl rfl (by decide +kernel) ?_
      refine zp_iconst (v := (nI 1)) rfl (by decide +kernel) ?_
      refine zp_goto (tgt := 76) rfl rfl ?_
      refine zp_istore_n_1 rfl rfl ?_
      refine zp_iload_n (x := (nI 1)) rfl rfl ?_
      refine zp_ifF (tgt := 93) rfl rfl (by decide +kernel) ?_
      refine zp_aload_n (x := r) rfl rfl ?_
      refine zq_geti hS rfl (by first | assumption | exact ⟨by decide, rfl⟩) rfl ?_
      rw [c3]
      refine zp_call rfl rfl (s_RR_isClassName ?_)
      cases e3 : g_isC b with
      | false =>
        show zp_wp X y_Change_hasLegalNames 88 [.ref r, .int (nI 1), zm_mk] [.int (nI 0)] h Q
        refine zp_ifF (tgt := 93) rfl rfl (by decide +kernel) ?_
        refine zp_iconst (v := (nI 0)) rfl (by decide +kernel) ?_
        refine zp_zret rfl rfl (by decide) ?_
        have hv : g_leg 2 a m b n = false := by
          first
          | (simp [g_leg, g_four, e1, e3]; done)
          | (simp [g_leg, g_four, e1]; done)
        rw [hv] at hq
        exact hq
      | true =>
        show zp_wp X y_Change_hasLegalNames 88 [.ref r, .int (nI 1), zm_mk] [.int (nI 1)] h Q
        refine zp_ifT (tgt := 93) rfl rfl (by decide +kernel) ?_
        refine zp_aload_n (x := r) rfl rfl ?_
        refine zq_geti hS rfl (by first | assumption | exact ⟨by decide, rfl⟩) rfl ?_
        rw [c0]
        refine zp_bipush (v := (nI 6)) rfl (by decide +kernel) ?_
        refine zp_icF (tgt := 109) rfl rfl (by decide +kernel) ?_
        refine zp_aload_n (x := r) rfl rfl ?_
        refine zq_virt hS rfl rfl (by first | assumption | exact ⟨by decide, rfl⟩) rfl (s_Change_hasTwoMembers (k := 2) hS hC9 c0 (by decide) ?_)
        show zp_wp X y_Change_hasLegalNames 106 [.ref r, .int (nI 1), zm_mk] [.int (nI 0)] h Q
        refine zp_ifT (tgt := 113) rfl rfl (by decide +kernel) ?_
        refine zp_iconst (v := (nI 0)) rfl (by decide +kernel) ?_
        refine zp_istore_n_2 rfl rfl ?_
        refine zp_iload_n (x := (nI 0)) rfl rfl ?_
        refine zp_ifT (tgt := 129) rfl rfl (by decide +kernel) ?_
        refine zp_iconst (v := (nI 1)) rfl (by decide +kernel) ?_
        refine zp_goto (tgt := 134) rfl rfl ?_
        refine zp_zret rfl rfl (by decide) ?_
        have hv : g_leg 2 a m b n = true := by
          first
          | (simp [g_leg, g_four, e1, e3]; done)
          | (simp [g_leg, g_four, e1]; done)
        rw [hv] at hq
        exact hq
  | 3, _, c0, hq =>
    refine zp_aload_n (x := r) rfl rfl ?_
    refine zq_geti hS rfl (by first | assumption | exact ⟨by decide, rfl⟩) rfl ?_
    rw [c1]
    refine zp_call rfl rfl (s_RR_isClassName ?_)
    cases e1 : g_isC a with
    | false =>
      show zp_wp X y_Change_hasLegalNames 7 [.ref r, zm_mk, zm_mk] [.int (nI 0)] h Q
      refine zp_ifF (tgt := 12) rfl rfl (by decide +kernel) ?_
      refine zp_iconst (v := (nI 0)) rfl (by decide +kernel) ?_
      refine zp_zret rfl rfl (by decide) ?_
      have hv : g_leg 3 a m b n = false := by
        first
        | (simp [g_leg, g_four, e1, b68, e3]; done)
        | (simp [g_leg, g_four, e1, b68]; done)
        | (simp [g_leg, g_four, e1]; done)
      rw [hv] at hq
      exact hq
    | true =>
      show zp_wp X y_Change_hasLegalNames 7 [.ref r, zm_mk, zm_mk] [.int (nI 1)] h Q
      refine zp_ifT (tgt := 12) rfl rfl (by decide +kernel) ?_
      refine zp_aload_n (x := r) rfl rfl ?_
      refine zq_geti hS rfl (by first | assumption | exact ⟨by decide, rfl⟩) rfl ?_
      rw [c0]
      refine zp_iconst (v := (nI 4)) rfl (by decide +kernel) ?_
      refine zp_icT (tgt := 32) rfl rfl (by decide +kernel) ?_
      refine zp_aload_n (x := r) rfl rfl ?_
      refine zq_geti hS rfl (by first | assumption | exact ⟨by decide, rfl⟩) rfl ?_
      rw [c0]
      refine zp_iconst (v := (nI 2)) rfl (by decide +kernel) ?_
      refine zp_icF (tgt := 71) rfl rfl (by decide +kernel) ?_
      refine zp_aload_n (x := r) rfl rfl ?_
      refine zq_geti hS rfl (by first | assumption | exact ⟨by decide, rfl⟩) rfl ?_
      rw [c0]
      refine zp_bipush (v := (nI 7)) rfl (by decide +kernel) ?_
      refine zp_icF (tgt := 71) rfl rfl (by decide +kernel) ?_
      refine zp_aload_n (x := r) rfl rfl ?_
      refine zq_virt hS rfl rfl (by first | assumption | exact ⟨by decide, rfl⟩) rfl (s_Change_hasTwoMembers (k := 3) hS hC9 c0 (by decide) ?_)
      show zp_wp X y_Change_hasLegalNames 53 [.ref r, zm_mk, zm_mk] [.int (nI 0)] h Q
      refine zp_ifF (tgt := 71) rfl rfl (by decide +kernel) ?_
      refine zp_aload_n (x := r) rfl rfl ?_
      refine zq_geti hS rfl (by first | assumption | exact ⟨by decide, rfl⟩) rfl ?_
      rw [c0]
      refine zp_iconst (v := (nI 3)) rfl (by decide +kernel) ?_
      refine zp_icF (tgt := 75) rfl rfl (by decide +kernel) ?_
      refine zp_aload_n (x := r) rfl rfl ?_
      refine zq_geti hS rfl (by first | assumption | exact ⟨by decide, rfl⟩) rfl ?_
      rw [c3]
      refine zp_if_eq (tgt := 75) rfl rfl (fun b68 => ?_) (fun b68 => ?_)
      · refine zp_iconst (v := (nI 0)) rfl (by decide +kernel) ?_
        refine zp_istore_n_1 rfl rfl ?_
        refine zp_iload_n (x := (nI 0)) rfl rfl ?_
        refine zp_ifT (tgt := 93) rfl rfl (by decide +kernel) ?_
        refine zp_aload_n (x := r) rfl rfl ?_
        refine zq_geti hS rfl (by first | assumption | exact ⟨by decide, rfl⟩) rfl ?_
        rw [c0]
        refine zp_bipush (v := (nI 6)) rfl (by decide +kernel) ?_
        refine zp_icF (tgt := 109) rfl rfl (by decide +kernel) ?_
        refine zp_aload_n (x := r) rfl rfl ?_
        refine zq_virt hS rfl rfl (by first | assumption | exact ⟨by decide, rfl⟩) rfl (s_Change_hasTwoMembers (k := 3) hS hC9 c0 (by decide) ?_)
        show zp_wp X y_Change_hasLegalNames 106 [.ref r, .int (nI 0), zm_mk] [.int (nI 0)] h Q
        refine zp_ifT (tgt := 113) rfl rfl (by decide +kernel) ?_
        refine zp_iconst (v := (nI 0)) rfl (by decide +kernel) ?_
        refine zp_istore_n_2 rfl rfl ?_
        refine zp_iload_n (x := (nI 0)) rfl rfl ?_
        refine zp_ifT (tgt := 129) rfl rfl (by decide +kernel) ?_
        refine zp_iconst (v := (nI 1)) rfl (by decide +kernel) ?_
        refine zp_goto (tgt := 134) rfl rfl ?_
        refine zp_zret rfl rfl (by decide) ?_
        have hv : g_leg 3 a m b n = true := by
          first
          | (simp [g_leg, g_four, e1, b68, e3]; done)
          | (simp [g_leg, g_four, e1, b68]; done)
          | (simp [g_leg, g_four, e1]; done)
        rw [hv] at hq
        exact hq
      · refine zp_iconst (v := (nI 1)) rfl (by decide +kernel) ?_
        refine zp_goto (tgt := 76) rfl rfl ?_
        refine zp_istore_n_1 rfl rfl ?_
        refine zp_iload_n (x := (nI 1)) rfl rfl ?_
        refine zp_ifF (tgt := 93) rfl rfl (by decide +kernel) ?_
        refine zp_aload_n (x := r) rfl rfl ?_
        refine zq_geti hS rfl (by first | assumption | exact ⟨by decide, rfl⟩) rfl ?_
        rw [c3]
        refine zp_call rfl rfl (s_RR_isClassName ?_)
        cases e3 : g_isC b with
        | false =>
          show zp_wp X y_Change_hasLegalNames 88 [.ref r, .int (nI 1), zm_mk] [.int (nI 0)] h Q
          refine zp_ifF (tgt := 93) rfl rfl (by decide +kernel) ?_
          refine zp_iconst (v := (nI 0)) rfl (by decide +kernel) ?_
          refine zp_zret rfl rfl (by decide) ?_
          have hv : g_leg 3 a m b n = false := by
            first
            | (simp [g_leg, g_four, e1, b68, e3]; done)
            | (simp [g_leg, g_four, e1, b68]; done)
            | (simp [g_leg, g_four, e1]; done)
          rw [hv] at hq
          exact hq
        | true =>
          show zp_wp X y_Change_hasLegalNames 88 [.ref r, .int (nI 1), zm_mk] [.int (nI 1)] h Q
          refine zp_ifT (tgt := 93) rfl rfl (by decide +kernel) ?_
          refine zp_aload_n (x := r) rfl rfl ?_
          refine zq_geti hS rfl (by first | assumption | exact ⟨by decide, rfl⟩) rfl ?_
          rw [c0]
          refine zp_bipush (v := (nI 6)) rfl (by decide +kernel) ?_
          refine zp_icF (tgt := 109) rfl rfl (by decide +kernel) ?_
          refine zp_aload_n (x := r) rfl rfl ?_
          refine zq_virt hS rfl rfl (by first | assumption | exact ⟨by decide, rfl⟩) rfl (s_Change_hasTwoMembers (k := 3) hS hC9 c0 (by decide) ?_)
          show zp_wp X y_Change_hasLegalNames 106 [.ref r, .int (nI 1), zm_mk] [.int (nI 0)] h Q
          refine zp_ifT (tgt := 113) rfl rfl (by decide +kernel) ?_
          refine zp_iconst (v := (nI 0)) rfl (by decide +kernel) ?_
          refine zp_istore_n_2 rfl rfl ?_
          refine zp_iload_n (x := (nI 0)) rfl rfl ?_
          refine zp_ifT (tgt := 129) rfl rfl (by decide +kernel) ?_
          refine zp_iconst (v := (nI 1)) rfl (by decide +kernel) ?_
          refine zp_goto (tgt := 134) rfl rfl ?_
          refine zp_zret rfl rfl (by decide) ?_
          have hv : g_leg 3 a m b n = true := by
            first
            | (simp [g_leg, g_four, e1, b68, e3]; done)
            | (simp [g_leg, g_four, e1, b68]; done)
            | (simp [g_leg, g_four, e1]; done)
          rw [hv] at hq
          exact hq
  | 4, _, c0, hq =>
    refine zp_aload_n (x := r) rfl rfl ?_
    refine zq_geti hS rfl (by first | assumption | exact ⟨by decide, rfl⟩) rfl ?_
    rw [c1]
    refine zp_call rfl rfl (s_RR_isClassName ?_)
    cases e1 : g_isC a with
    | false =>
      show zp_wp X y_Change_hasLegalNames 7 [.ref r, zm_mk, zm_mk] [.int (nI 0)] h Q
      refine zp_ifF (tgt := 12) rfl rfl (by decide +kernel) ?_
      refine zp_iconst (v := (nI 0)) rfl (by decide +kernel) ?_
      refine zp_zret rfl rfl (by decide) ?_
      have hv : g_leg 4 a m b n = false := by
        first
        | (simp [g_leg, g_four, e1, e2]; done)
        | (simp [g_leg, g_four, e1]; done)
      rw [hv] at hq
      exact hq
    | true =>
      show zp_wp X y_Change_hasLegalNames 7 [.ref r, zm_mk, zm_mk] [.int (nI 1)] h Q
      refine zp_ifT (tgt := 12) rfl rfl (by decide +kernel) ?_
      refine zp_aload_n (x := r) rfl rfl ?_
      refine zq_geti hS rfl (by first | assumption | exact ⟨by decide, rfl⟩) rfl ?_
      rw [c0]
      refine zp_iconst (v := (nI 4)) rfl (by decide +kernel) ?_
      refine zp_icF (tgt := 32) rfl rfl (by decide +kernel) ?_
      refine zp_aload_n (x := r) rfl rfl ?_
      refine zq_geti hS rfl (by first | assumption | exact ⟨by decide, rfl⟩) rfl ?_
      rw [c2]
      refine zp_call rfl rfl (s_RR_isMemberName ?_)
      cases e2 : g_isM m with
      | false =>
        show zp_wp X y_Change_hasLegalNames 27 [.ref r, zm_mk, zm_mk] [.int (nI 0)] h Q
        refine zp_ifF (tgt := 32) rfl rfl (by decide +kernel) ?_
        refine zp_iconst (v := (nI 0)) rfl (by decide +kernel) ?_
        refine zp_zret rfl rfl (by decide) ?_
        have hv : g_leg 4 a m b n = false := by
          first
          | (simp [g_leg, g_four, e1, e2]; done)
          | (simp [g_leg, g_four, e1]; done)
        rw [hv] at hq
        exact hq
      | true =>
        show zp_wp X y_Change_hasLegalNames 27 [.ref r, zm_mk, zm_mk] [.int (nI 1)] h Q
        refine zp_ifT (tgt := 32) rfl rfl (by decide +kernel) ?_
        refine zp_aload_n (x := r) rfl rfl ?_
        refine zq_geti hS rfl (by first | assumption | exact ⟨by decide, rfl⟩) rfl ?_
        rw [c0]
        refine zp_iconst (v := (nI 2)) rfl (by decide +kernel) ?_
        refine zp_icF (tgt := 71) rfl rfl (by decide +kernel) ?_
        refine zp_aload_n (x := r) rfl rfl ?_
        refine zq_geti hS rfl (by first | assumption | exact ⟨by decide, rfl⟩) rfl ?_
        rw [c0]
        refine zp_bipush (v := (nI 7)) rfl (by decide +kernel) ?_
        refine zp_icF (tgt := 71) rfl rfl (by decide +kernel) ?_
        refine zp_aload_n (x := r) rfl rfl ?_
        refine zq_virt hS rfl rfl (by first | assumption | exact ⟨by decide, rfl⟩) rfl (s_Change_hasTwoMembers (k := 4) hS hC9 c0 (by decide) ?_)
        show zp_wp X y_Change_hasLegalNames 53 [.ref r, zm_mk, zm_mk] [.int (nI 0)] h Q
        refine zp_ifF (tgt := 71) rfl rfl (by decide +kernel) ?_
        refine zp_aload_n (x := r) rfl rfl ?_
        refine zq_geti hS rfl (by first | assumption | exact ⟨by decide, rfl⟩) rfl ?_
        rw [c0]
        refine zp_iconst (v := (nI 3)) rfl (by decide +kernel) ?_
        refine zp_icT (tgt := 75) rfl rfl (by decide +kernel) ?_
        refine zp_iconst (v := (nI 0)) rfl (by decide +kernel) ?_
        refine zp_istore_n_1 rfl rfl ?_
        refine zp_iload_n (x := (nI 0)) rfl rfl ?_
        refine zp_ifT (tgt := 93) rfl rfl (by decide +kernel) ?_
        refine zp_aload_n (x := r) rfl rfl ?_
        refine zq_geti hS rfl (by first | assumption | exact ⟨by decide, rfl⟩) rfl ?_
        rw [c0]
        refine zp_bipush (v := (nI 6)) rfl (by decide +kernel) ?_
        refine zp_icF (tgt := 109) rfl rfl (by decide +kernel) ?_
        refine zp_aload_n (x := r) rfl rfl ?_
        refine zq_virt hS rfl rfl (by first | assumption | exact ⟨by decide, rfl⟩) rfl (s_Change_hasTwoMembers (k := 4) hS hC9 c0 (by decide) ?_)
        show zp_wp X y_Change_hasLegalNames 106 [.ref r, .int (nI 0), zm_mk] [.int (nI 0)] h Q
        refine zp_ifT (tgt := 113) rfl rfl (by decide +kernel) ?_
        refine zp_iconst (v := (nI 0)) rfl (by decide +kernel) ?_
        refine zp_istore_n_2 rfl rfl ?_
        refine zp_iload_n (x := (nI 0)) rfl rfl ?_
        refine zp_ifT (tgt := 129) rfl rfl (by decide +kernel) ?_
        refine zp_iconst (v := (nI 1)) rfl (by decide +kernel) ?_
        refine zp_goto (tgt := 134) rfl rfl ?_
        refine zp_zret rfl rfl (by decide) ?_
        have hv : g_leg 4 a m b n = true := by
          first
          | (simp [g_leg, g_four, e1, e2]; done)
          | (simp [g_leg, g_four, e1]; done)
        rw [hv] at hq
        exact hq
  | 5, _, c0, hq =>
    refine zp_aload_n (x := r) rfl rfl ?_
    refine zq_geti hS rfl (by first | assumption | exact ⟨by decide, rfl⟩) rfl ?_
    rw [c1]
    refine zp_call rfl rfl (s_RR_isClassName ?_)
    cases e1 : g_isC a with
    | false =>
      show zp_wp X y_Change_hasLegalNames 7 [.ref r, zm_mk, zm_mk] [.int (nI 0)] h Q
      refine zp_ifF (tgt := 12) rfl rfl (by decide +kernel) ?_
      refine zp_iconst (v := (nI 0)) rfl (by decide +kernel) ?_
      refine zp_zret rfl rfl (by decide) ?_
      have hv : g_leg 5 a m b n = false := by
        first
        | (simp [g_leg, g_four, e1, e2]; done)
        | (simp [g_leg, g_four, e1]; done)
      rw [hv] at hq
      exact hq
    | true =>
      show zp_wp X y_Change_hasLegalNames 7 [.ref r, zm_mk, zm_mk] [.int (nI 1)] h Q
      refine zp_ifT (tgt := 12) rfl rfl (by decide +kernel) ?_
      refine zp_aload_n (x := r) rfl rfl ?_
      refine zq_geti hS rfl (by first | assumption | exact ⟨by decide, rfl⟩) rfl ?_
      rw [c0]
      refine zp_iconst (v := (nI 4)) rfl (by decide +kernel) ?_
      refine zp_icF (tgt := 32) rfl rfl (by decide +kernel) ?_
      refine zp_aload_n (x := r) rfl rfl ?_
      refine zq_geti hS rfl (by first | assumption | exact ⟨by decide, rfl⟩) rfl ?_
      rw [c2]
      refine zp_call rfl rfl (s_RR_isMemberName ?_)
      cases e2 : g_isM m with
      | false =>
        show zp_wp X y_Change_hasLegalNames 27 [.ref r, zm_mk, zm_mk] [.int (nI 0)] h Q
        refine zp_ifF (tgt := 32) rfl rfl (by decide +kernel) ?_
        refine zp_iconst (v := (nI 0)) rfl (by decide +kernel) ?_
        refine zp_zret rfl rfl (by decide) ?_
        have hv : g_leg 5 a m b n = false := by
          first
          | (simp [g_leg, g_four, e1, e2]; done)
          | (simp [g_leg, g_four, e1]; done)
        rw [hv] at hq
        exact hq
      | true =>
        show zp_wp X y_Change_hasLegalNames 27 [.ref r, zm_mk, zm_mk] [.int (nI 1)] h Q
        refine zp_ifT (tgt := 32) rfl rfl (by decide +kernel) ?_
        refine zp_aload_n (x := r) rfl rfl ?_
        refine zq_geti hS rfl (by first | assumption | exact ⟨by decide, rfl⟩) rfl ?_
        rw [c0]
        refine zp_iconst (v := (nI 2)) rfl (by decide +kernel) ?_
        refine zp_icF (tgt := 71) rfl rfl (by decide +kernel) ?_
        refine zp_aload_n (x := r) rfl rfl ?_
        refine zq_geti hS rfl (by first | assumption | exact ⟨by decide, rfl⟩) rfl ?_
        rw [c0]
        refine zp_bipush (v := (nI 7)) rfl (by decide +kernel) ?_
        refine zp_icF (tgt := 71) rfl rfl (by decide +kernel) ?_
        refine zp_aload_n (x := r) rfl rfl ?_
        refine zq_virt hS rfl rfl (by first | assumption | exact ⟨by decide, rfl⟩) rfl (s_Change_hasTwoMembers (k := 5) hS hC9 c0 (by decide) ?_)
        show zp_wp X y_Change_hasLegalNames 53 [.ref r, zm_mk, zm_mk] [.int (nI 0)] h Q
        refine zp_ifF (tgt := 71) rfl rfl (by decide +kernel) ?_
        refine zp_aload_n (x := r) rfl rfl ?_
        refine zq_geti hS rfl (by first | assumption | exact ⟨by decide, rfl⟩) rfl ?_
        rw [c0]
        refine zp_iconst (v := (nI 3)) rfl (by decide +kernel) ?_
        refine zp_icT (tgt := 75) rfl rfl (by decide +kernel) ?_
        refine zp_iconst (v := (nI 0)) rfl (by decide +kernel) ?_
        refine zp_istore_n_1 rfl rfl ?_
        refine zp_iload_n (x := (nI 0)) rfl rfl ?_
        refine zp_ifT (tgt := 93) rfl rfl (by decide +kernel) ?_
        refine zp_aload_n (x := r) rfl rfl ?_
        refine zq_geti hS rfl (by first | assumption | exact ⟨by decide, rfl⟩) rfl ?_
        rw [c0]
        refine zp_bipush (v := (nI 6)) rfl (by decide +kernel) ?_
        refine zp_icF (tgt := 109) rfl rfl (by decide +kernel) ?_
        refine zp_aload_n (x := r) rfl rfl ?_
        refine zq_virt hS rfl rfl (by first | assumption | exact ⟨by decide, rfl⟩) rfl (s_Change_hasTwoMembers (k := 5) hS hC9 c0 (by decide) ?_)
        show zp_wp X y_Change_hasLegalNames 106 [.ref r, .int (nI 0), zm_mk] [.int (nI 0)] h Q
        refine zp_ifT (tgt := 113) rfl rfl (by decide +kernel) ?_
        refine zp_iconst (v := (nI 0)) rfl (by decide +kernel) ?_
        refine zp_istore_n_2 rfl rfl ?_
        refine zp_iload_n (x := (nI 0)) rfl rfl ?_
        refine zp_ifT (tgt := 129) rfl rfl (by decide +kernel) ?_
        refine zp_iconst (v := (nI 1)) rfl (by decide +kernel) ?_
        refine zp_goto (tgt := 134) rfl rfl ?_
        refine zp_zret rfl rfl (by decide) ?_
        have hv : g_leg 5 a m b n = true := by
          first
          | (simp [g_leg, g_four, e1, e2]; done)
          | (simp [g_leg, g_four, e1]; done)
        rw [hv] at hq
        exact hq
  | 6, _, c0, hq =>
    refine zp_aload_n (x := r) rfl rfl ?_
    refine zq_geti hS rfl (by first | assumption | exact ⟨by decide, rfl⟩) rfl ?_
    rw [c1]
    refine zp_call rfl rfl (s_RR_isClassName ?_)
    cases e1 : g_isC a with
    | false =>
      show zp_wp X y_Change_hasLegalNames 7 [.ref r, zm_mk, zm_mk] [.int (nI 0)] h Q
      refine zp_ifF (tgt := 12) rfl rfl (by decide +kernel) ?_
      refine zp_iconst (v := (nI 0)) rfl (by decide +kernel) ?_
      refine zp_zret rfl rfl (by decide) ?_
      have hv : g_leg 6 a m b n = false := by
        first
        | (simp [g_leg, g_four, e1, e2, e4]; done)
        | (simp [g_leg, g_four, e1, e2]; done)
        | (simp [g_leg, g_four, e1]; done)
      rw [hv] at hq
      exact hq
    | true =>
      show zp_wp X y_Change_hasLegalNames 7 [.ref r, zm_mk, zm_mk] [.int (nI 1)] h Q
      refine zp_ifT (tgt := 12) rfl rfl (by decide +kernel) ?_
      refine zp_aload_n (x := r) rfl rfl ?_
      refine zq_geti hS rfl (by first | assumption | exact ⟨by decide, rfl⟩) rfl ?_
      rw [c0]
      refine zp_iconst (v := (nI 4)) rfl (by decide +kernel) ?_
      refine zp_icF (tgt := 32) rfl rfl (by decide +kernel) ?_
      refine zp_aload_n (x := r) rfl rfl ?_
      refine zq_geti hS rfl (by first | assumption | exact ⟨by decide, rfl⟩) rfl ?_
      rw [c2]
      refine zp_call rfl rfl (s_RR_isMemberName ?_)
      cases e2 : g_isM m with
      | false =>
        show zp_wp X y_Change_hasLegalNames 27 [.ref r, zm_mk, zm_mk] [.int (nI 0)] h Q
        refine zp_ifF (tgt := 32) rfl rfl (by decide +kernel) ?_
        refine zp_iconst (v := (nI 0)) rfl (by decide +kernel) ?_
        refine zp_zret rfl rfl (by decide) ?_
        have hv : g_leg 6 a m b n = false := by
          first
          | (simp [g_leg, g_four, e1, e2, e4]; done)
          | (simp [g_leg, g_four, e1, e2]; done)
          | (simp [g_leg, g_four, e1]; done)
        rw [hv] at hq
        exact hq
      | true =>
        show zp_wp X y_Change_hasLegalNames 27 [.ref r, zm_mk, zm_mk] [.int (nI 1)] h Q
        refine zp_ifT (tgt := 32) rfl rfl (by decide +kernel) ?_
        refine zp_aload_n (x := r) rfl rfl ?_
        refine zq_geti hS rfl (by first | assumption | exact ⟨by decide, rfl⟩) rfl ?_
        rw [c0]
        refine zp_iconst (v := (nI 2)) rfl (by decide +kernel) ?_
        refine zp_icF (tgt := 71) rfl rfl (by decide +kernel) ?_
        refine zp_aload_n (x := r) rfl rfl ?_
        refine zq_geti hS rfl (by first | assumption | exact ⟨by decide, rfl⟩) rfl ?_
        rw [c0]
        refine zp_bipush (v := (nI 7)) rfl (by decide +kernel) ?_
        refine zp_icF (tgt := 71) rfl rfl (by decide +kernel) ?_
        refine zp_aload_n (x := r) rfl rfl ?_
        refine zq_virt hS rfl rfl (by first | assumption | exact ⟨by decide, rfl⟩) rfl (s_Change_hasTwoMembers (k := 6) hS hC9 c0 (by decide) ?_)
        show zp_wp X y_Change_hasLegalNames 53 [.ref r, zm_mk, zm_mk] [.int (nI 0)] h Q
        refine zp_ifF (tgt := 71) rfl rfl (by decide +kernel) ?_
        refine zp_aload_n (x := r) rfl rfl ?_
        refine zq_geti hS rfl (by first | assumption | exact ⟨by decide, rfl⟩) rfl ?_
        rw [c0]
        refine zp_iconst (v := (nI 3)) rfl (by decide +kernel) ?_
        refine zp_icT (tgt := 75) rfl rfl (by decide +kernel) ?_
        refine zp_iconst (v := (nI 0)) rfl (by decide +kernel) ?_
        refine zp_istore_n_1 rfl rfl ?_
        refine zp_iload_n (x := (nI 0)) rfl rfl ?_
        refine zp_ifT (tgt := 93) rfl rfl (by decide +kernel) ?_
        refine zp_aload_n (x := r) rfl rfl ?_
        refine zq_geti hS rfl (by first | assumption | exact ⟨by decide, rfl⟩) rfl ?_
        rw [c0]
        refine zp_bipush (v := (nI 6)) rfl (by decide +kernel) ?_
        refine zp_icT (tgt := 109) rfl rfl (by decide +kernel) ?_
        refine zp_iconst (v := (nI 1)) rfl (by decide +kernel) ?_
        refine zp_goto (tgt := 114) rfl rfl ?_
        refine zp_istore_n_2 rfl rfl ?_
        refine zp_iload_n (x := (nI 1)) rfl rfl ?_
        refine zp_ifF (tgt := 129) rfl rfl (by decide +kernel) ?_
        refine zp_aload_n (x := r) rfl rfl ?_
        refine zq_geti hS rfl (by first | assumption | exact ⟨by decide, rfl⟩) rfl ?_
        rw [c4]
        refine zp_call rfl rfl (s_RR_isMemberName ?_)
        cases e4 : g_isM n with
        | false =>
          show zp_wp X y_Change_hasLegalNames 126 [.ref r, .int (nI 0), .int (nI 1)] [.int (nI 0)] h Q
          refine zp_ifT (tgt := 133) rfl rfl (by decide +kernel) ?_
          refine zp_iconst (v := (nI 0)) rfl (by decide +kernel) ?_
          refine zp_zret rfl rfl (by decide) ?_
          have hv : g_leg 6 a m b n = false := by
            first
            | (simp [g_leg, g_four, e1, e2, e4]; done)
            | (simp [g_leg, g_four, e1, e2]; done)
            | (simp [g_leg, g_four, e1]; done)
          rw [hv] at hq
          exact hq
        | true =>
          show zp_wp X y_Change_hasLegalNames 126 [.ref r, .int (nI 0), .int (nI 1)] [.int (nI 1)] h Q
          refine zp_ifF (tgt := 133) rfl rfl (by decide +kernel) ?_
          refine zp_iconst (v := (nI 1)) rfl (by decide +kernel) ?_
          refine zp_goto (tgt := 134) rfl rfl ?_
          refine zp_zret rfl rfl (by decide) ?_
          have hv : g_leg 6 a m b n = true := by
            first
            | (simp [g_leg, g_four, e1, e2, e4]; done)
            | (simp [g_leg, g_four, e1, e2]; done)
            | (simp [g_leg, g_four, e1]; done)
          rw [hv] at hq
          exact hq
  | 7, _, c0, hq =>
    refine zp_aload_n (x := r) rfl rfl ?_
    refine zq_geti hS rfl (by first | assumption | exact ⟨by decide, rfl⟩) rfl ?_
    rw [c1]
    refine zp_call rfl rfl (s_RR_isClassName ?_)
    cases e1 : g_isC a with
    | false =>
      show zp_wp X y_Change_hasLegalNames 7 [.ref r, zm_mk, zm_mk] [.int (nI 0)] h Q
      refine zp_ifF (tgt := 12) rfl rfl (by decide +kernel) ?_
      refine zp_iconst (v := (nI 0)) rfl (by decide +kernel) ?_
      refine zp_zret rfl rfl (by decide) ?_
      have hv : g_leg 7 a m b n = false := by
        first
        | (simp [g_leg, g_four, e1, e2, e3]; done)
        | (simp [g_leg, g_four, e1, e2]; done)
        | (simp [g_leg, g_four, e1]; done)
      rw [hv] at hq
      exact hq
    | true =>
      show zp_wp X y_Change_hasLegalNames 7 [.ref r, zm_mk, zm_mk] [.int (nI 1)] h Q
      refine zp_ifT (tgt := 12) rfl rfl (by decide +kernel) ?_
      refine zp_aload_n (x := r) rfl rfl ?_
      refine zq_geti hS rfl (by first | assumption | exact ⟨by decide, rfl⟩) rfl ?_
      rw [c0]
      refine zp_iconst (v := (nI 4)) rfl (by decide +kernel) ?_
      refine zp_icF (tgt := 32) rfl rfl (by decide +kernel) ?_
      refine zp_aload_n (x := r) rfl rfl ?_
      refine zq_geti hS rfl (by first | assumption | exact ⟨by decide, rfl⟩) rfl ?_
      rw [c2]
      refine zp_call rfl rfl (s_RR_isMemberName ?_)
      cases e2 : g_isM m with
      | false =>
        show zp_wp X y_Change_hasLegalNames 27 [.ref r, zm_mk, zm_mk] [.int (nI 0)] h Q
        refine zp_ifF (tgt := 32) rfl rfl (by decide +kernel) ?_
        refine zp_iconst (v := (nI 0)) rfl (by decide +kernel) ?_
        refine zp_zret rfl rfl (by decide) ?_
        have hv : g_leg 7 a m b n = false := by
          first
          | (simp [g_leg, g_four, e1, e2, e3]; done)
          | (simp [g_leg, g_four, e1, e2]; done)
          | (simp [g_leg, g_four, e1]; done)
        rw [hv] at hq
        exact hq
      | true =>
        show zp_wp X y_Change_hasLegalNames 27 [.ref r, zm_mk, zm_mk] [.int (nI 1)] h Q
        refine zp_ifT (tgt := 32) rfl rfl (by decide +kernel) ?_
        refine zp_aload_n (x := r) rfl rfl ?_
        refine zq_geti hS rfl (by first | assumption | exact ⟨by decide, rfl⟩) rfl ?_
        rw [c0]
        refine zp_iconst (v := (nI 2)) rfl (by decide +kernel) ?_
        refine zp_icF (tgt := 71) rfl rfl (by decide +kernel) ?_
        refine zp_aload_n (x := r) rfl rfl ?_
        refine zq_geti hS rfl (by first | assumption | exact ⟨by decide, rfl⟩) rfl ?_
        rw [c0]
        refine zp_bipush (v := (nI 7)) rfl (by decide +kernel) ?_
        refine zp_icT (tgt := 71) rfl rfl (by decide +kernel) ?_
        refine zp_iconst (v := (nI 1)) rfl (by decide +kernel) ?_
        refine zp_goto (tgt := 76) rfl rfl ?_
        refine zp_istore_n_1 rfl rfl ?_
        refine zp_iload_n (x := (nI 1)) rfl rfl ?_
        refine zp_ifF (tgt := 93) rfl rfl (by decide +kernel) ?_
        refine zp_aload_n (x := r) rfl rfl ?_
        refine zq_geti hS rfl (by first | assumption | exact ⟨by decide, rfl⟩) rfl ?_
        rw [c3]
        refine zp_call rfl rfl (s_RR_isClassName ?_)
        cases e3 : g_isC b with
        | false =>
          show zp_wp X y_Change_hasLegalNames 88 [.ref r, .int (nI 1), zm_mk] [.int (nI 0)] h Q
          refine zp_ifF (tgt := 93) rfl rfl (by decide +kernel) ?_
          refine zp_iconst (v := (nI 0)) rfl (by decide +kernel) ?_
          refine zp_zret rfl rfl (by decide) ?_
          have hv : g_leg 7 a m b n = false := by
            first
            | (simp [g_leg, g_four, e1, e2, e3]; done)
            | (simp [g_leg, g_four, e1, e2]; done)
            | (simp [g_leg, g_four, e1]; done)
          rw [hv] at hq
          exact hq
        | true =>
          show zp_wp X y_Change_hasLegalNames 88 [.ref r, .int (nI 1), zm_mk] [.int (nI 1)] h Q
          refine zp_ifT (tgt := 93) rfl rfl (by decide +kernel) ?_
          refine zp_aload_n (x := r) rfl rfl ?_
          refine zq_geti hS rfl (by first | assumption | exact ⟨by decide, rfl⟩) rfl ?_
          rw [c0]
          refine zp_bipush (v := (nI 6)) rfl (by decide +kernel) ?_
          refine zp_icF (tgt := 109) rfl rfl (by decide +kernel) ?_
          refine zp_aload_n (x := r) rfl rfl ?_
          refine zq_virt hS rfl rfl (by first | assumption | exact ⟨by decide, rfl⟩) rfl (s_Change_hasTwoMembers (k := 7) hS hC9 c0 (by decide) ?_)
          show zp_wp X y_Change_hasLegalNames 106 [.ref r, .int (nI 1), zm_mk] [.int (nI 0)] h Q
          refine zp_ifT (tgt := 113) rfl rfl (by decide +kernel) ?_
          refine zp_iconst (v := (nI 0)) rfl (by decide +kernel) ?_
          refine zp_istore_n_2 rfl rfl ?_
          refine zp_iload_n (x := (nI 0)) rfl rfl ?_
          refine zp_ifT (tgt := 129) rfl rfl (by decide +kernel) ?_
          refine zp_iconst (v := (nI 1)) rfl (by decide +kernel) ?_
          refine zp_goto (tgt := 134) rfl rfl ?_
          refine zp_zret rfl rfl (by decide) ?_
          have hv : g_leg 7 a m b n = true := by
            first
            | (simp [g_leg, g_four, e1, e2, e3]; done)
            | (simp [g_leg, g_four, e1, e2]; done)
            | (simp [g_leg, g_four, e1]; done)
          rw [hv] at hq
          exact hq
  | 8, _, c0, hq =>
    refine zp_aload_n (x := r) rfl rfl ?_
    refine zq_geti hS rfl (by first | assumption | exact ⟨by decide, rfl⟩) rfl ?_
    rw [c1]
    refine zp_call rfl rfl (s_RR_isClassName ?_)
    cases e1 : g_isC a with
    | false =>
      show zp_wp X y_Change_hasLegalNames 7 [.ref r, zm_mk, zm_mk] [.int (nI 0)] h Q
      refine zp_ifF (tgt := 12) rfl rfl (by decide +kernel) ?_
      refine zp_iconst (v := (nI 0)) rfl (by decide +kernel) ?_
      refine zp_zret rfl rfl (by decide) ?_
      have hv : g_leg 8 a m b n = false := by
        first
        | (simp [g_leg, g_four, e1, e2, e3, e4]; done)
        | (simp [g_leg, g_four, e1, e2, e3]; done)
        | (simp [g_leg, g_four, e1, e2]; done)
        | (simp [g_leg, g_four, e1]; done)
      rw [hv] at hq
      exact hq
    | true =>
      show zp_wp X y_Change_hasLegalNames 7 [.ref r, zm_mk, zm_mk] [.int (nI 1)] h Q
      refine zp_ifT (tgt := 12) rfl rfl (by decide +kernel) ?_
      refine zp_aload_n (x := r) rfl rfl ?_
      refine zq_geti hS rfl (by first | assumption | exact ⟨by decide, rfl⟩) rfl ?_
      rw [c0]
      refine zp_iconst (v := (nI 4)) rfl (by decide +kernel) ?_
      refine zp_icF (tgt := 32) rfl rfl (by decide +kernel) ?_
      refine zp_aload_n (x := r) rfl rfl ?_
      refine zq_geti hS rfl (by first | assumption | exact ⟨by decide, rfl⟩) rfl ?_
      rw [c2]
      refine zp_call rfl rfl (s_RR_isMemberName ?_)
      cases e2 : g_isM m with
      | false =>
        show zp_wp X y_Change_hasLegalNames 27 [.ref r, zm_mk, zm_mk] [.int (nI 0)] h Q
        refine zp_ifF (tgt := 32) rfl rfl (by decide +kernel) ?_
        refine zp_iconst (v := (nI 0)) rfl (by decide +kernel) ?_
        refine zp_zret rfl rfl (by decide) ?_
        have hv : g_leg 8 a m b n = false := by
          first
          | (simp [g_leg, g_four, e1, e2, e3, e4]; done)
          | (simp [g_leg, g_four, e1, e2, e3]; done)
          | (simp [g_leg, g_four, e1, e2]; done)
          | (simp [g_leg, g_four, e1]; done)
        rw [hv] at hq
        exact hq
      | true =>
        show zp_wp X y_Change_hasLegalNames 27 [.ref r, zm_mk, zm_mk] [.int (nI 1)] h Q
        refine zp_ifT (tgt := 32) rfl rfl (by decide +kernel) ?_
        refine zp_aload_n (x := r) rfl rfl ?_
        refine zq_geti hS rfl (by first | assumption | exact ⟨by decide, rfl⟩) rfl ?_
        rw [c0]
        refine zp_iconst (v := (nI 2)) rfl (by decide +kernel) ?_
        refine zp_icF (tgt := 71) rfl rfl (by decide +kernel) ?_
        refine zp_aload_n (x := r) rfl rfl ?_
        refine zq_geti hS rfl (by first | assumption | exact ⟨by decide, rfl⟩) rfl ?_
        rw [c0]
        refine zp_bipush (v := (nI 7)) rfl (by decide +kernel) ?_
        refine zp_icF (tgt := 71) rfl rfl (by decide +kernel) ?_
        refine zp_aload_n (x := r) rfl rfl ?_
        refine zq_virt hS rfl rfl (by first | assumption | exact ⟨by decide, rfl⟩) rfl (s_Change_hasTwoMembers (k := 8) hS hC9 c0 (by decide) ?_)
        show zp_wp X y_Change_hasLegalNames 53 [.ref r, zm_mk, zm_mk] [.int (nI 1)] h Q
        refine zp_ifT (tgt := 71) rfl rfl (by decide +kernel) ?_
        refine zp_iconst (v := (nI 1)) rfl (by decide +kernel) ?_
        refine zp_goto (tgt := 76) rfl rfl ?_
        refine zp_istore_n_1 rfl rfl ?_
        refine zp_iload_n (x := (nI 1)) rfl rfl ?_
        refine zp_ifF (tgt := 93) rfl rfl (by decide +kernel) ?_
        refine zp_aload_n (x := r) rfl rfl ?_
        refine zq_geti hS rfl (by first | assumption | exact ⟨by decide, rfl⟩) rfl ?_
        rw [c3]
        refine zp_call rfl rfl (s_RR_isClassName ?_)
        cases e3 : g_isC b with
        | false =>
          show zp_wp X y_Change_hasLegalNames 88 [.ref r, .int (nI 1), zm_mk] [.int (nI 0)] h Q
          refine zp_ifF (tgt := 93) rfl rfl (by decide +kernel) ?_
          refine zp_iconst (v := (nI 0)) rfl (by decide +kernel) ?_
          refine zp_zret rfl rfl (by decide) ?_
          have hv : g_leg 8 a m b n = false := by
            first
            | (simp [g_leg, g_four, e1, e2, e3, e4]; done)
            | (simp [g_leg, g_four, e1, e2, e3]; done)
            | (simp [g_leg, g_four, e1, e2]; done)
            | (simp [g_leg, g_four, e1]; done)
          rw [hv] at hq
          exact hq
        | true =>
          show zp_wp X y_Change_hasLegalNames 88 [.ref r, .int (nI 1), zm_mk] [.int (nI 1)] h Q
          refine zp_ifT (tgt := 93) rfl rfl (by decide +kernel) ?_
          refine zp_aload_n (x := r) rfl rfl ?_
          refine zq_geti hS rfl (by first | assumption | exact ⟨by decide, rfl⟩) rfl ?_
          rw [c0]
          refine zp_bipush (v := (nI 6)) rfl (by decide +kernel) ?_
          refine zp_icF (tgt := 109) rfl rfl (by decide +kernel) ?_
          refine zp_aload_n (x := r) rfl rfl ?_
          refine zq_virt hS rfl rfl (by first | assumption | exact ⟨by decide, rfl⟩) rfl (s_Change_hasTwoMembers (k := 8) hS hC9 c0 (by decide) ?_)
          show zp_wp X y_Change_hasLegalNames 106 [.ref r, .int (nI 1), zm_mk] [.int (nI 1)] h Q
          refine zp_ifF (tgt := 113) rfl rfl (by decide +kernel) ?_
          refine zp_iconst (v := (nI 1)) rfl (by decide +kernel) ?_
          refine zp_goto (tgt := 114) rfl rfl ?_
          refine zp_istore_n_2 rfl rfl ?_
          refine zp_iload_n (x := (nI 1)) rfl rfl ?_
          refine zp_ifF (tgt := 129) rfl rfl (by decide +kernel) ?_
          refine zp_aload_n (x := r) rfl rfl ?_
          refine zq_geti hS rfl (by first | assumption | exact ⟨by decide, rfl⟩) rfl ?_
          rw [c4]
          refine zp_call rfl rfl (s_RR_isMemberName ?_)
          cases e4 : g_isM n with
          | false =>
            show zp_wp X y_Change_hasLegalNames 126 [.ref r, .int (nI 1), .int (nI 1)] [.int (nI 0)] h Q
            refine zp_ifT (tgt := 133) rfl rfl (by decide +kernel) ?_
            refine zp_iconst (v := (nI 0)) rfl (by decide +kernel) ?_
            refine zp_zret rfl rfl (by decide) ?_
            have hv : g_leg 8 a m b n = false := by
              first
              | (simp [g_leg, g_four, e1, e2, e3, e4]; done)
              | (simp [g_leg, g_four, e1, e2, e3]; done)
              | (simp [g_leg, g_four, e1, e2]; done)
              | (simp [g_leg, g_four, e1]; done)
            rw [hv] at hq
            exact hq
          | true =>
            show zp_wp X y_Change_hasLegalNames 126 [.ref r, .int (nI 1), .int (nI 1)] [.int (nI 1)] h Q
            refine zp_ifF (tgt := 133) rfl rfl (by decide +kernel) ?_
            refine zp_iconst (v := (nI 1)) rfl (by decide +kernel) ?_
            refine zp_goto (tgt := 134) rfl rfl ?_
            refine zp_zret rfl rfl (by decide) ?_
            have hv : g_leg 8 a m b n = true := by
              first
              | (simp [g_leg, g_four, e1, e2, e3, e4]; done)
              | (simp [g_leg, g_four, e1, e2, e3]; done)
              | (simp [g_leg, g_four, e1, e2]; done)
              | (simp [g_leg, g_four, e1]; done)
            rw [hv] at hq
            exact hq
  | 9, _, c0, hq =>
    refine zp_aload_n (x := r) rfl rfl ?_
    refine zq_geti hS rfl (by first | assumption | exact ⟨by decide, rfl⟩) rfl ?_
    rw [c1]
    refine zp_call rfl rfl (s_RR_isClassName ?_)
    cases e1 : g_isC a with
    | false =>
      show zp_wp X y_Change_hasLegalNames 7 [.ref r, zm_mk, zm_mk] [.int (nI 0)] h Q
      refine zp_ifF (tgt := 12) rfl rfl (by decide +kernel) ?_
      refine zp_iconst (v := (nI 0)) rfl (by decide +kernel) ?_
      refine zp_zret rfl rfl (by decide) ?_
      have hv : g_leg 9 a m b n = false := by
        first
        | (simp [g_leg, g_four, e1, e2, e3, e4]; done)
        | (simp [g_leg, g_four, e1, e2, e3]; done)
        | (simp [g_leg, g_four, e1, e2]; done)
        | (simp [g_leg, g_four, e1]; done)
      rw [hv] at hq
      exact hq
    | true =>
      show zp_wp X y_Change_hasLegalNames 7 [.ref r, zm_mk, zm_mk] [.int (nI 1)] h Q
      refine zp_ifT (tgt := 12) rfl rfl (by decide +kernel) ?_
      refine zp_aload_n (x := r) rfl rfl ?_
      refine zq_geti hS rfl (by first | assumption | exact ⟨by decide, rfl⟩) rfl ?_
      rw [c0]
      refine zp_iconst (v := (nI 4)) rfl (by decide +kernel) ?_
      refine zp_icF (tgt := 32) rfl rfl (by decide +kernel) ?_
      refine zp_aload_n (x := r) rfl rfl ?_
      refine zq_geti hS rfl (by first | assumption | exact ⟨by decide, rfl⟩) rfl ?_
      rw [c2]
      refine zp_call rfl rfl (s_RR_isMemberName ?_)
      cases e2 : g_isM m with
      | false =>
        show zp_wp X y_Change_hasLegalNames 27 [.ref r, zm_mk, zm_mk] [.int (nI 0)] h Q
        refine zp_ifF (tgt := 32) rfl rfl (by decide +kernel) ?_
        refine zp_iconst (v := (nI 0)) rfl (by decide +kernel) ?_
        refine zp_zret rfl rfl (by decide) ?_
        have hv : g_leg 9 a m b n = false := by
          first
          | (simp [g_leg, g_four, e1, e2, e3, e4]; done)
          | (simp [g_leg, g_four, e1, e2, e3]; done)
          | (simp [g_leg, g_four, e1, e2]; done)
          | (simp [g_leg, g_four, e1]; done)
        rw [hv] at hq
        exact hq
      | true =>
        show zp_wp X y_Change_hasLegalNames 27 [.ref r, zm_mk, zm_mk] [.int (nI 1)] h Q
        refine zp_ifT (tgt := 32) rfl rfl (by decide +kernel) ?_
        refine zp_aload_n (x := r) rfl rfl ?_
        refine zq_geti hS rfl (by first | assumption | exact ⟨by decide, rfl⟩) rfl ?_
        rw [c0]
        refine zp_iconst (v := (nI 2)) rfl (by decide +kernel) ?_
        refine zp_icF (tgt := 71) rfl rfl (by decide +kernel) ?_
        refine zp_aload_n (x := r) rfl rfl ?_
        refine zq_geti hS rfl (by first | assumption | exact ⟨by decide, rfl⟩) rfl ?_
        rw [c0]
        refine zp_bipush (v := (nI 7)) rfl (by decide +kernel) ?_
        refine zp_icF (tgt := 71) rfl rfl (by decide +kernel) ?_
        refine zp_aload_n (x := r) rfl rfl ?_
        refine zq_virt hS rfl rfl (by first | assumption | exact ⟨by decide, rfl⟩) rfl (s_Change_hasTwoMembers (k := 9) hS hC9 c0 (by decide) ?_)
        show zp_wp X y_Change_hasLegalNames 53 [.ref r, zm_mk, zm_mk] [.int (nI 1)] h Q
        refine zp_ifT (tgt := 71) rfl rfl (by decide +kernel) ?_
        refine zp_iconst (v := (nI 1)) rfl (by decide +kernel) ?_
        refine zp_goto (tgt := 76) rfl rfl ?_
        refine zp_istore_n_1 rfl rfl ?_
        refine zp_iload_n (x := (nI 1)) rfl rfl ?_
        refine zp_ifF (tgt := 93) rfl rfl (by decide +kernel) ?_
        refine zp_aload_n (x := r) rfl rfl ?_
        refine zq_geti hS rfl (by first | assumption | exact ⟨by decide, rfl⟩) rfl ?_
        rw [c3]
        refine zp_call rfl rfl (s_RR_isClassName ?_)
        cases e3 : g_isC b with
        | false =>
          show zp_wp X y_Change_hasLegalNames 88 [.ref r, .int (nI 1), zm_mk] [.int (nI 0)] h Q
          refine zp_ifF (tgt := 93) rfl rfl (by decide +kernel) ?_
          refine zp_iconst (v := (nI 0)) rfl (by decide +kernel) ?_
          refine zp_zret rfl rfl (by decide) ?_
          have hv : g_leg 9 a m b n = false := by
            first
            | (simp [g_leg, g_four, e1, e2, e3, e4]; done)
            | (simp [g_leg, g_four, e1, e2, e3]; done)
            | (simp [g_leg, g_four, e1, e2]; done)
            | (simp [g_leg, g_four, e1]; done)
          rw [hv] at hq
          exact hq
        | true =>
          show zp_wp X y_Change_hasLegalNames 88 [.ref r, .int (nI 1), zm_mk] [.int (nI 1)] h Q
          refine zp_ifT (tgt := 93) rfl rfl (by decide +kernel) ?_
          refine zp_aload_n (x := r) rfl rfl ?_
          refine zq_geti hS rfl (by first | assumption | exact ⟨by decide, rfl⟩) rfl ?_
          rw [c0]
          refine zp_bipush (v := (nI 6)) rfl (by decide +kernel) ?_
          refine zp_icF (tgt := 109) rfl rfl (by decide +kernel) ?_
          refine zp_aload_n (x := r) rfl rfl ?_
          refine zq_virt hS rfl rfl (by first | assumption | exact ⟨by decide, rfl⟩) rfl (s_Change_hasTwoMembers (k := 9) hS hC9 c0 (by decide) ?_)
          show zp_wp X y_Change_hasLegalNames 106 [.ref r, .int (nI 1), zm_mk] [.int (nI 1)] h Q
          refine zp_ifF (tgt := 113) rfl rfl (by decide +kernel) ?_
          refine zp_iconst (v := (nI 1)) rfl (by decide +kernel) ?_
          refine zp_goto (tgt := 114) rfl rfl ?_
          refine zp_istore_n_2 rfl rfl ?_
          refine zp_iload_n (x := (nI 1)) rfl rfl ?_
          refine zp_ifF (tgt := 129) rfl rfl (by decide +kernel) ?_
          refine zp_aload_n (x := r) rfl rfl ?_
          refine zq_geti hS rfl (by first | assumption | exact ⟨by decide, rfl⟩) rfl ?_
          rw [c4]
          refine zp_call rfl rfl (s_RR_isMemberName ?_)
          cases e4 : g_isM n with
          | false =>
            show zp_wp X y_Change_hasLegalNames 126 [.ref r, .int (nI 1), .int (nI 1)] [.int (nI 0)] h Q
            refine zp_ifT (tgt := 133) rfl rfl (by decide +kernel) ?_
            refine zp_iconst (v := (nI 0)) rfl (by decide +kernel) ?_
            refine zp_zret rfl rfl (by decide) ?_
            have hv : g_leg 9 a m b n = false := by
              first
              | (simp [g_leg, g_four, e1, e2, e3, e4]; done)
              | (simp [g_leg, g_four, e1, e2, e3]; done)
              | (simp [g_leg, g_four, e1, e2]; done)
              | (simp [g_leg, g_four, e1]; done)
            rw [hv] at hq
            exact hq
          | true =>
            show zp_wp X y_Change_hasLegalNames 126 [.ref r, .int (nI 1), .int (nI 1)] [.int (nI 1)] h Q
            refine zp_ifF (tgt := 133) rfl rfl (by decide +kernel) ?_
            refine zp_iconst (v := (nI 1)) rfl (by decide +kernel) ?_
            refine zp_goto (tgt := 134) rfl rfl ?_
            refine zp_zret rfl rfl (by decide) ?_
            have hv : g_leg 9 a m b n = true := by
              first
              | (simp [g_leg, g_four, e1, e2, e3, e4]; done)
              | (simp [g_leg, g_four, e1, e2, e3]; done)
              | (simp [g_leg, g_four, e1, e2]; done)
              | (simp [g_leg, g_four, e1]; done)
            rw [hv] at hq
            exact hq
  | k + 10, hk, _, _ => exact absurd hk (by omega)
theorem s_Change_replaceClass {fr to : Nat} (hS : zs_H h) (hC : zq_C r) (hd : zq_c d r h) (hl : zc_leg d) (hf : 65 ≤ fr ∧ fr ≤ 90) (hq : ∀ h', zs_H h' → zh_eq (fun x => x = r) h h' → zq_c (v_rnC d fr to) r h' → Q (.inl none) h') : zp_wm X y_Change_replaceClass [.ref r, .int (nI fr), .int (nI to)] h Q := by
  have hC : zs_O r 0 [none, none, none, none, none] := hC
  obtain ⟨k, a, m, b, n⟩ := d
  obtain ⟨h1, h2, h3, h4, h5⟩ := hl
  obtain ⟨c0, c1, c2, c3, c4⟩ := hd
  dsimp only at h1 h2 h3 h4 h5 c0 c1 c2 c3 c4
  have hb : b < 128 := by omega
  show zp_wp X y_Change_replaceClass 0 [.ref r, .int (nI fr), .int (nI to)] [] h Q
  refine zp_aload_n (x := r) rfl rfl ?_
  refine zq_geti hS rfl (by first | assumption | exact ⟨by decide, rfl⟩) rfl ?_
  rw [c0]
  refine zp_ifN_eq (tgt := 20) rfl rfl (by omega) (fun b4 => ?_) (fun b4 => ?_)
  · refine zp_aload_n (x := r) rfl rfl ?_
    refine zq_geti hS rfl (by first | assumption | exact ⟨by decide, rfl⟩) rfl ?_
    rw [c0]
    refine zp_iconst (v := (nI 2)) rfl (by decide +kernel) ?_
    refine zp_icmpN_eq (tgt := 41) rfl rfl (by omega) (by omega) (fun b25 => ?_) (fun b25 => ?_)
    · refine zp_vret rfl rfl ?_
      have e1 : (if ¬ k = 0 ∧ a = fr then to else a) = a := by first | (rw [if_pos (by omega)]; done) | (rw [if_neg (by omega)]; done)
      have e3 : (if (k = 3 ∨ 7 ≤ k) ∧ b = fr then to else b) = b := by first | (rw [if_pos (by omega)]; done) | (rw [if_neg (by omega)]; done)
      have hv : v_rnC (k, a, m, b, n) fr to = (k, a, m, b, n) := by
        show (k, (if ¬ k = 0 ∧ a = fr then to else a), m, (if (k = 3 ∨ 7 ≤ k) ∧ b = fr then to else b), n) = _
        rw [e1, e3]
      rw [hv] at hq
      exact hq _ hS (by first | exact zh_eq.rf | exact zh_onf zh_eq.rf | exact zh_onf (zh_onf zh_eq.rf)) ⟨(by exact c0), (by exact c1), (by exact c2), (by exact c3), (by exact c4)⟩
    · refine zp_aload_n (x := r) rfl rfl ?_
      refine zq_geti hS rfl (by first | assumption | exact ⟨by decide, rfl⟩) rfl ?_
      rw [c3]
      refine zp_iload_n (x := (nI fr)) rfl rfl ?_
      refine zp_icmpN_ne (tgt := 41) rfl rfl (by omega) (by omega) (fun b33 => ?_) (fun b33 => ?_)
      · refine zp_vret rfl rfl ?_
        have e1 : (if ¬ k = 0 ∧ a = fr then to else a) = a := by first | (rw [if_pos (by omega)]; done) | (rw [if_neg (by omega)]; done)
        have e3 : (if (k = 3 ∨ 7 ≤ k) ∧ b = fr then to else b) = b := by first | (rw [if_pos (by omega)]; done) | (rw [if_neg (by omega)]; done)
        have hv : v_rnC (k, a, m, b, n) fr to = (k, a, m, b, n) := by
          show (k, (if ¬ k = 0 ∧ a = fr then to else a), m, (if (k = 3 ∨ 7 ≤ k) ∧ b = fr then to else b), n) = _
          rw [e1, e3]
        rw [hv] at hq
        exact hq _ hS (by first | exact zh_eq.rf | exact zh_onf zh_eq.rf | exact zh_onf (zh_onf zh_eq.rf)) ⟨(by exact c0), (by exact c1), (by exact c2), (by exact c3), (by exact c4)⟩
      · refine zp_aload_n (x := r) rfl rfl ?_
        refine zp_iload_n (x := (nI to)) rfl rfl ?_
        refine zq_put hS rfl (by first | assumption | exact ⟨by decide, rfl⟩) rfl rfl (fun hS38 => ?_)
        have hS := hS38
        refine zp_vret rfl rfl ?_
        have e1 : (if ¬ k = 0 ∧ a = fr then to else a) = a := by first | (rw [if_pos (by omega)]; done) | (rw [if_neg (by omega)]; done)
        have e3 : (if (k = 3 ∨ 7 ≤ k) ∧ b = fr then to else b) = to := by first | (rw [if_pos (by omega)]; done) | (rw [if_neg (by omega)]; done)
        have hv : v_rnC (k, a, m, b, n) fr to = (k, a, m, to, n) := by
          show (k, (if ¬ k = 0 ∧ a = fr then to else a), m, (if (k = 3 ∨ 7 ≤ k) ∧ b = fr then to else b), n) = _
          rw [e1, e3]
        rw [hv] at hq
        exact hq _ hS (by first | exact zh_eq.rf | exact zh_onf zh_eq.rf | exact zh_onf (zh_onf zh_eq.rf)) ⟨(by rw [zf_nj (by decide)]; exact c0), (by rw [zf_nj (by decide)]; exact c1), (by rw [zf_nj (by decide)]; exact c2), (by exact zf_at9 hS38 (by first | assumption | exact ⟨by decide, rfl⟩) rfl), (by rw [zf_nj (by decide)]; exact c4)⟩
  · refine zp_aload_n (x := r) rfl rfl ?_
    refine zq_geti hS rfl (by first | assumption | exact ⟨by decide, rfl⟩) rfl ?_
    rw [c1]
    refine zp_iload_n (x := (nI fr)) rfl rfl ?_
    refine zp_icmpN_ne (tgt := 20) rfl rfl (by omega) (by omega) (fun b12 => ?_) (fun b12 => ?_)
    · refine zp_aload_n (x := r) rfl rfl ?_
      refine zq_geti hS rfl (by first | assumption | exact ⟨by decide, rfl⟩) rfl ?_
      rw [c0]
      refine zp_iconst (v := (nI 2)) rfl (by decide +kernel) ?_
      refine zp_icmpN_eq (tgt := 41) rfl rfl (by omega) (by omega) (fun b25 => ?_) (fun b25 => ?_)
      · refine zp_vret rfl rfl ?_
        have e1 : (if ¬ k = 0 ∧ a = fr then to else a) = a := by first | (rw [if_pos (by omega)]; done) | (rw [if_neg (by omega)]; done)
        have e3 : (if (k = 3 ∨ 7 ≤ k) ∧ b = fr then to else b) = b := by first | (rw [if_pos (by omega)]; done) | (rw [if_neg (by omega)]; done)
        have hv : v_rnC (k, a, m, b, n) fr to = (k, a, m, b, n) := by
          show (k, (if ¬ k = 0 ∧ a = fr then to else a), m, (if (k = 3 ∨ 7 ≤ k) ∧ b = fr then to else b), n) = _
          rw [e1, e3]
        rw [hv] at hq
        exact hq _ hS (by first | exact zh_eq.rf | exact zh_onf zh_eq.rf | exact zh_onf (zh_onf zh_eq.rf)) ⟨(by exact c0), (by exact c1), (by exact c2), (by exact c3), (by exact c4)⟩
      · refine zp_aload_n (x := r) rfl rfl ?_
        refine zq_geti hS rfl (by first | assumption | exact ⟨by decide, rfl⟩) rfl ?_
        rw [c3]
        refine zp_iload_n (x := (nI fr)) rfl rfl ?_
        refine zp_icmpN_ne (tgt := 41) rfl rfl (by omega) (by omega) (fun b33 => ?_) (fun b33 => ?_)
        · refine zp_vret rfl rfl ?_
          have e1 : (if ¬ k = 0 ∧ a = fr then to else a) = a := by first | (rw [if_pos (by omega)]; done) | (rw [if_neg (by omega)]; done)
          have e3 : (if (k = 3 ∨ 7 ≤ k) ∧ b = fr then to else b) = b := by first | (rw [if_pos (by omega)]; done) | (rw [if_neg (by omega)]; done)
          have hv : v_rnC (k, a, m, b, n) fr to = (k, a, m, b, n) := by
            show (k, (if ¬ k = 0 ∧ a = fr then to else a), m, (if (k = 3 ∨ 7 ≤ k) ∧ b = fr then to else b), n) = _
            rw [e1, e3]
          rw [hv] at hq
          exact hq _ hS (by first | exact zh_eq.rf | exact zh_onf zh_eq.rf | exact zh_onf (zh_onf zh_eq.rf)) ⟨(by exact c0), (by exact c1), (by exact c2), (by exact c3), (by exact c4)⟩
        · refine zp_aload_n (x := r) rfl rfl ?_
          refine zp_iload_n (x := (nI to)) rfl rfl ?_
          refine zq_put hS rfl (by first | assumption | exact ⟨by decide, rfl⟩) rfl rfl (fun hS38 => ?_)
          have hS := hS38
          refine zp_vret rfl rfl ?_
          have e1 : (if ¬ k = 0 ∧ a = fr then to else a) = a := by first | (rw [if_pos (by omega)]; done) | (rw [if_neg (by omega)]; done)
          have e3 : (if (k = 3 ∨ 7 ≤ k) ∧ b = fr then to else b) = to := by first | (rw [if_pos (by omega)]; done) | (rw [if_neg (by omega)]; done)
          have hv : v_rnC (k, a, m, b, n) fr to = (k, a, m, to, n) := by
            show (k, (if ¬ k = 0 ∧ a = fr then to else a), m, (if (k = 3 ∨ 7 ≤ k) ∧ b = fr then to else b), n) = _
            rw [e1, e3]
          rw [hv] at hq
          exact hq _ hS (by first | exact zh_eq.rf | exact zh_onf zh_eq.rf | exact zh_onf (zh_onf zh_eq.rf)) ⟨(by rw [zf_nj (by decide)]; exact c0), (by rw [zf_nj (by decide)]; exact c1), (by rw [zf_nj (by decide)]; exact c2), (by exact zf_at9 hS38 (by first | assumption | exact ⟨by decide, rfl⟩) rfl), (by rw [zf_nj (by decide)]; exact c4)⟩
    · refine zp_aload_n (x := r) rfl rfl ?_
      refine zp_iload_n (x := (nI to)) rfl rfl ?_
      refine zq_put hS rfl (by first | assumption | exact ⟨by decide, rfl⟩) rfl rfl (fun hS17 => ?_)
      have hS := hS17
      refine zp_aload_n (x := r) rfl rfl ?_
      refine zq_geti hS rfl (by first | assumption | exact ⟨by decide, rfl⟩) rfl ?_
      rw [zf_nj (by decide)]
      rw [c0]
      refine zp_iconst (v := (nI 2)) rfl (by decide +kernel) ?_
      refine zp_icmpN_eq (tgt := 41) rfl rfl (by omega) (by omega) (fun b25 => ?_) (fun b25 => ?_)
      · refine zp_vret rfl rfl ?_
        have e1 : (if ¬ k = 0 ∧ a = fr then to else a) = to := by first | (rw [if_pos (by omega)]; done) | (rw [if_neg (by omega)]; done)
        have e3 : (if (k = 3 ∨ 7 ≤ k) ∧ b = fr then to else b) = b := by first | (rw [if_pos (by omega)]; done) | (rw [if_neg (by omega)]; done)
        have hv : v_rnC (k, a, m, b, n) fr to = (k, to, m, b, n) := by
          show (k, (if ¬ k = 0 ∧ a = fr then to else a), m, (if (k = 3 ∨ 7 ≤ k) ∧ b = fr then to else b), n) = _
          rw [e1, e3]
        rw [hv] at hq
        exact hq _ hS (by first | exact zh_eq.rf | exact zh_onf zh_eq.rf | exact zh_onf (zh_onf zh_eq.rf)) ⟨(by rw [zf_nj (by decide)]; exact c0), (by exact zf_at9 hS17 (by first | assumption | exact ⟨by decide, rfl⟩) rfl), (by rw [zf_nj (by decide)]; exact c2), (by rw [zf_nj (by decide)]; exact c3), (by rw [zf_nj (by decide)]; exact c4)⟩
      · refine zp_aload_n (x := r) rfl rfl ?_
        refine zq_geti hS rfl (by first | assumption | exact ⟨by decide, rfl⟩) rfl ?_
        rw [zf_nj (by decide)]
        rw [c3]
        refine zp_iload_n (x := (nI fr)) rfl rfl ?_
        refine zp_icmpN_ne (tgt := 41) rfl rfl (by omega) (by omega) (fun b33 => ?_) (fun b33 => ?_)
        · refine zp_vret rfl rfl ?_
          have e1 : (if ¬ k = 0 ∧ a = fr then to else a) = to := by first | (rw [if_pos (by omega)]; done) | (rw [if_neg (by omega)]; done)
          have e3 : (if (k = 3 ∨ 7 ≤ k) ∧ b = fr then to else b) = b := by first | (rw [if_pos (by omega)]; done) | (rw [if_neg (by omega)]; done)
          have hv : v_rnC (k, a, m, b, n) fr to = (k, to, m, b, n) := by
            show (k, (if ¬ k = 0 ∧ a = fr then to else a), m, (if (k = 3 ∨ 7 ≤ k) ∧ b = fr then to else b), n) = _
            rw [e1, e3]
          rw [hv] at hq
          exact hq _ hS (by first | exact zh_eq.rf | exact zh_onf zh_eq.rf | exact zh_onf (zh_onf zh_eq.rf)) ⟨(by rw [zf_nj (by decide)]; exact c0), (by exact zf_at9 hS17 (by first | assumption | exact ⟨by decide, rfl⟩) rfl), (by rw [zf_nj (by decide)]; exact c2), (by rw [zf_nj (by decide)]; exact c3), (by rw [zf_nj (by decide)]; exact c4)⟩
        · refine zp_aload_n (x := r) rfl rfl ?_
          refine zp_iload_n (x := (nI to)) rfl rfl ?_
          refine zq_put hS rfl (by first | assumption | exact ⟨by decide, rfl⟩) rfl rfl (fun hS38 => ?_)
          have hS := hS38
          refine zp_vret rfl rfl ?_
          have e1 : (if ¬ k = 0 ∧ a = fr then to else a) = to := by first | (rw [if_pos (by omega)]; done) | (rw [if_neg (by omega)]; done)
          have e3 : (if (k = 3 ∨ 7 ≤ k) ∧ b = fr then to else b) = to := by first | (rw [if_pos (by omega)]; done) | (rw [if_neg (by omega)]; done)
          have hv : v_rnC (k, a, m, b, n) fr to = (k, to, m, to, n) := by
            show (k, (if ¬ k = 0 ∧ a = fr then to else a), m, (if (k = 3 ∨ 7 ≤ k) ∧ b = fr then to else b), n) = _
            rw [e1, e3]
          rw [hv] at hq
          exact hq _ hS (by first | exact zh_eq.rf | exact zh_onf zh_eq.rf | exact zh_onf (zh_onf zh_eq.rf)) ⟨(by rw [zf_nj (by decide), zf_nj (by decide)]; exact c0), (by rw [zf_nj (by decide)]; exact zf_at9 hS17 (by first | assumption | exact ⟨by decide, rfl⟩) rfl), (by rw [zf_nj (by decide), zf_nj (by decide)]; exact c2), (by exact zf_at9 hS38 (by first | assumption | exact ⟨by decide, rfl⟩) rfl), (by rw [zf_nj (by decide), zf_nj (by decide)]; exact c4)⟩
theorem s_Change_replaceMember {fa fm ta tm : Nat} (hS : zs_H h) (hC : zq_C r) (hd : zq_c d r h) (hl : zc_leg d) (hf : 65 ≤ fa ∧ fa ≤ 90) (hm : 97 ≤ fm ∧ fm ≤ 122) (hq : ∀ h', zs_H h' → zh_eq (fun x => x = r) h h' → zq_c (v_rnP d fa fm ta tm) r h' → Q (.inl none) h') : zp_wm X y_Change_replaceMember [.ref r, .int (nI fa), .int (nI fm), .int (nI ta), .int (nI tm)] h Q := by
  have hC9 := hC
  have hC : zs_O r 0 [none, none, none, none, none] := hC
  obtain ⟨k, a, m, b, n⟩ := d
  obtain ⟨h1, h2, h3, h4, h5⟩ := hl
  obtain ⟨c0, c1, c2, c3, c4⟩ := hd
  dsimp only at h1 h2 h3 h4 h5 c0 c1 c2 c3 c4
  have hb : b < 128 := by omega
  have hm9 : m < 128 := by omega
  have hn9 : n < 128 := by omega
  show zp_wp X y_Change_replaceMember 0 [.ref r, .int (nI fa), .int (nI fm), .int (nI ta), .int (nI tm)] [] h Q
  refine zp_aload_n (x := r) rfl rfl ?_
  refine zq_geti hS rfl (by first | assumption | exact ⟨by decide, rfl⟩) rfl ?_
  rw [c0]
  refine zp_iconst (v := (nI 4)) rfl (by decide +kernel) ?_
  refine zp_icmpN_eq (tgt := 35) rfl rfl (by omega) (by omega) (fun b5 => ?_) (fun b5 => ?_)
  · refine zp_aload_n (x := r) rfl rfl ?_
    refine zq_virt hS rfl rfl (by first | assumption | exact ⟨by decide, rfl⟩) rfl (s_Change_hasTwoMembers (k := k) hS hC9 (by exact c0) h1 ?_)
    cases h8 : decide (8 ≤ k) with
    | false =>
      show zp_wp X y_Change_replaceMember 39 [.ref r, .int (nI fa), .int (nI fm), .int (nI ta), .int (nI tm)] [.int (nI 0)] h Q
      refine zp_ifT (tgt := 69) rfl rfl (by decide +kernel) ?_
      refine zp_vret rfl rfl ?_
      have h8' := h8
      simp only [decide_eq_true_eq, decide_eq_false_iff_not] at h8'
      have e1 : (if 5 ≤ k ∧ a = fa ∧ m = fm then ta else a) = a := by first | (rw [if_pos (by omega)]; done) | (rw [if_neg (by omega)]; done)
      have e2 : (if 5 ≤ k ∧ a = fa ∧ m = fm then tm else m) = m := by first | (rw [if_pos (by omega)]; done) | (rw [if_neg (by omega)]; done)
      have e3 : (if 8 ≤ k ∧ b = fa ∧ n = fm then ta else b) = b := by first | (rw [if_pos (by omega)]; done) | (rw [if_neg (by omega)]; done)
      have e4 : (if 8 ≤ k ∧ b = fa ∧ n = fm then tm else n) = n := by first | (rw [if_pos (by omega)]; done) | (rw [if_neg (by omega)]; done)
      have hv : v_rnP (k, a, m, b, n) fa fm ta tm = (k, a, m, b, n) := by
        show (k, (if 5 ≤ k ∧ a = fa ∧ m = fm then ta else a), (if 5 ≤ k ∧ a = fa ∧ m = fm then tm else m), (if 8 ≤ k ∧ b = fa ∧ n = fm then ta else b), (if 8 ≤ k ∧ b = fa ∧ n = fm then tm else n)) = _
        rw [e1, e2, e3, e4]
      rw [hv] at hq
      exact hq _ hS (by first | exact zh_eq.rf | exact zh_onf (zh_onf zh_eq.rf) | exact zh_onf (zh_onf (zh_onf (zh_onf zh_eq.rf)))) ⟨(by exact c0), (by exact c1), (by exact c2), (by exact c3), (by exact c4)⟩
    | true =>
      show zp_wp X y_Change_replaceMember 39 [.ref r, .int (nI fa), .int (nI fm), .int (nI ta), .int (nI tm)] [.int (nI 1)] h Q
      refine zp_ifF (tgt := 69) rfl rfl (by decide +kernel) ?_
      refine zp_aload_n (x := r) rfl rfl ?_
      refine zq_geti hS rfl (by first | assumption | exact ⟨by decide, rfl⟩) rfl ?_
      rw [c3]
      refine zp_iload_n (x := (nI fa)) rfl rfl ?_
      refine zp_icmpN_ne (tgt := 69) rfl rfl (by omega) (by omega) (fun b47 => ?_) (fun b47 => ?_)
      · refine zp_vret rfl rfl ?_
        have h8' := h8
        simp only [decide_eq_true_eq, decide_eq_false_iff_not] at h8'
        have e1 : (if 5 ≤ k ∧ a = fa ∧ m = fm then ta else a) = a := by first | (rw [if_pos (by omega)]; done) | (rw [if_neg (by omega)]; done)
        have e2 : (if 5 ≤ k ∧ a = fa ∧ m = fm then tm else m) = m := by first | (rw [if_pos (by omega)]; done) | (rw [if_neg (by omega)]; done)
        have e3 : (if 8 ≤ k ∧ b = fa ∧ n = fm then ta else b) = b := by first | (rw [if_pos (by omega)]; done) | (rw [if_neg (by omega)]; done)
        have e4 : (if 8 ≤ k ∧ b = fa ∧ n = fm then tm else n) = n := by first | (rw [if_pos (by omega)]; done) | (rw [if_neg (by omega)]; done)
        have hv : v_rnP (k, a, m, b, n) fa fm ta tm = (k, a, m, b, n) := by
          show (k, (if 5 ≤ k ∧ a = fa ∧ m = fm then ta else a), (if 5 ≤ k ∧ a = fa ∧ m = fm then tm else m), (if 8 ≤ k ∧ b = fa ∧ n = fm then ta else b), (if 8 ≤ k ∧ b = fa ∧ n = fm then tm else n)) = _
          rw [e1, e2, e3, e4]
        rw [hv] at hq
        exact hq _ hS (by first | exact zh_eq.rf | exact zh_onf (zh_onf zh_eq.rf) | exact zh_onf (zh_onf (zh_onf (zh_onf zh_eq.rf)))) ⟨(by exact c0), (by exact c1), (by exact c2), (by exact c3), (by exact c4)⟩
      · refine zp_aload_n (x := r) rfl rfl ?_
        refine zq_geti hS rfl (by first | assumption | exact ⟨by decide, rfl⟩) rfl ?_
        rw [c4]
        refine zp_iload_n (x := (nI fm)) rfl rfl ?_
        refine zp_icmpN_ne (tgt := 69) rfl rfl (by omega) (by omega) (fun b55 => ?_) (fun b55 => ?_)
        · refine zp_vret rfl rfl ?_
          have h8' := h8
          simp only [decide_eq_true_eq, decide_eq_false_iff_not] at h8'
          have e1 : (if 5 ≤ k ∧ a = fa ∧ m = fm then ta else a) = a := by first | (rw [if_pos (by omega)]; done) | (rw [if_neg (by omega)]; done)
          have e2 : (if 5 ≤ k ∧ a = fa ∧ m = fm then tm else m) = m := by first | (rw [if_pos (by omega)]; done) | (rw [if_neg (by omega)]; done)
          have e3 : (if 8 ≤ k ∧ b = fa ∧ n = fm then ta else b) = b := by first | (rw [if_pos (by omega)]; done) | (rw [if_neg (by omega)]; done)
          have e4 : (if 8 ≤ k ∧ b = fa ∧ n = fm then tm else n) = n := by first | (rw [if_pos (by omega)]; done) | (rw [if_neg (by omega)]; done)
          have hv : v_rnP (k, a, m, b, n) fa fm ta tm = (k, a, m, b, n) := by
            show (k, (if 5 ≤ k ∧ a = fa ∧ m = fm then ta else a), (if 5 ≤ k ∧ a = fa ∧ m = fm then tm else m), (if 8 ≤ k ∧ b = fa ∧ n = fm then ta else b), (if 8 ≤ k ∧ b = fa ∧ n = fm then tm else n)) = _
            rw [e1, e2, e3, e4]
          rw [hv] at hq
          exact hq _ hS (by first | exact zh_eq.rf | exact zh_onf (zh_onf zh_eq.rf) | exact zh_onf (zh_onf (zh_onf (zh_onf zh_eq.rf)))) ⟨(by exact c0), (by exact c1), (by exact c2), (by exact c3), (by exact c4)⟩
        · refine zp_aload_n (x := r) rfl rfl ?_
          refine zp_iload_n (x := (nI ta)) rfl rfl ?_
          refine zq_put hS rfl (by first | assumption | exact ⟨by decide, rfl⟩) rfl rfl (fun hS60 => ?_)
          have hS := hS60
          refine zp_aload_n (x := r) rfl rfl ?_
          refine zp_iload (x := (nI tm)) rfl rfl ?_
          refine zq_put hS rfl (by first | assumption | exact ⟨by decide, rfl⟩) rfl rfl (fun hS66 => ?_)
          have hS := hS66
          refine zp_vret rfl rfl ?_
          have h8' := h8
          simp only [decide_eq_true_eq, decide_eq_false_iff_not] at h8'
          have e1 : (if 5 ≤ k ∧ a = fa ∧ m = fm then ta else a) = a := by first | (rw [if_pos (by omega)]; done) | (rw [if_neg (by omega)]; done)
          have e2 : (if 5 ≤ k ∧ a = fa ∧ m = fm then tm else m) = m := by first | (rw [if_pos (by omega)]; done) | (rw [if_neg (by omega)]; done)
          have e3 : (if 8 ≤ k ∧ b = fa ∧ n = fm then ta else b) = ta := by first | (rw [if_pos (by omega)]; done) | (rw [if_neg (by omega)]; done)
          have e4 : (if 8 ≤ k ∧ b = fa ∧ n = fm then tm else n) = tm := by first | (rw [if_pos (by omega)]; done) | (rw [if_neg (by omega)]; done)
          have hv : v_rnP (k, a, m, b, n) fa fm ta tm = (k, a, m, ta, tm) := by
            show (k, (if 5 ≤ k ∧ a = fa ∧ m = fm then ta else a), (if 5 ≤ k ∧ a = fa ∧ m = fm then tm else m), (if 8 ≤ k ∧ b = fa ∧ n = fm then ta else b), (if 8 ≤ k ∧ b = fa ∧ n = fm then tm else n)) = _
            rw [e1, e2, e3, e4]
          rw [hv] at hq
          exact hq _ hS (by first | exact zh_eq.rf | exact zh_onf (zh_onf zh_eq.rf) | exact zh_onf (zh_onf (zh_onf (zh_onf zh_eq.rf)))) ⟨(by rw [zf_nj (by decide), zf_nj (by decide)]; exact c0), (by rw [zf_nj (by decide), zf_nj (by decide)]; exact c1), (by rw [zf_nj (by decide), zf_nj (by decide)]; exact c2), (by rw [zf_nj (by decide)]; exact zf_at9 hS60 (by first | assumption | exact ⟨by decide, rfl⟩) rfl), (by exact zf_at9 hS66 (by first | assumption | exact ⟨by decide, rfl⟩) rfl)⟩
  · refine zp_aload_n (x := r) rfl rfl ?_
    refine zq_geti hS rfl (by first | assumption | exact ⟨by decide, rfl⟩) rfl ?_
    rw [c1]
    refine zp_iload_n (x := (nI fa)) rfl rfl ?_
    refine zp_icmpN_ne (tgt := 35) rfl rfl (by omega) (by omega) (fun b13 => ?_) (fun b13 => ?_)
    · refine zp_aload_n (x := r) rfl rfl ?_
      refine zq_virt hS rfl rfl (by first | assumption | exact ⟨by decide, rfl⟩) rfl (s_Change_hasTwoMembers (k := k) hS hC9 (by exact c0) h1 ?_)
      cases h8 : decide (8 ≤ k) with
      | false =>
        show zp_wp X y_Change_replaceMember 39 [.ref r, .int (nI fa), .int (nI fm), .int (nI ta), .int (nI tm)] [.int (nI 0)] h Q
        refine zp_ifT (tgt := 69) rfl rfl (by decide +kernel) ?_
        refine zp_vret rfl rfl ?_
        have h8' := h8
        simp only [decide_eq_true_eq, decide_eq_false_iff_not] at h8'
        have e1 : (if 5 ≤ k ∧ a = fa ∧ m = fm then ta else a) = a := by first | (rw [if_pos (by omega)]; done) | (rw [if_neg (by omega)]; done)
        have e2 : (if 5 ≤ k ∧ a = fa ∧ m = fm then tm else m) = m := by first | (rw [if_pos (by omega)]; done) | (rw [if_neg (by omega)]; done)
        have e3 : (if 8 ≤ k ∧ b = fa ∧ n = fm then ta else b) = b := by first | (rw [if_pos (by omega)]; done) | (rw [if_neg (by omega)]; done)
        have e4 : (if 8 ≤ k ∧ b = fa ∧ n = fm then tm else n) = n := by first | (rw [if_pos (by omega)]; done) | (rw [if_neg (by omega)]; done)
        have hv : v_rnP (k, a, m, b, n) fa fm ta tm = (k, a, m, b, n) := by
          show (k, (if 5 ≤ k ∧ a = fa ∧ m = fm then ta else a), (if 5 ≤ k ∧ a = fa ∧ m = fm then tm else m), (if 8 ≤ k ∧ b = fa ∧ n = fm then ta else b), (if 8 ≤ k ∧ b = fa ∧ n = fm then tm else n)) = _
          rw [e1, e2, e3, e4]
        rw [hv] at hq
        exact hq _ hS (by first | exact zh_eq.rf | exact zh_onf (zh_onf zh_eq.rf) | exact zh_onf (zh_onf (zh_onf (zh_onf zh_eq.rf)))) ⟨(by exact c0), (by exact c1), (by exact c2), (by exact c3), (by exact c4)⟩
      | true =>
        show zp_wp X y_Change_replaceMember 39 [.ref r, .int (nI fa), .int (nI fm), .int (nI ta), .int (nI tm)] [.int (nI 1)] h Q
        refine zp_ifF (tgt := 69) rfl rfl (by decide +kernel) ?_
        refine zp_aload_n (x := r) rfl rfl ?_
        refine zq_geti hS rfl (by first | assumption | exact ⟨by decide, rfl⟩) rfl ?_
        rw [c3]
        refine zp_iload_n (x := (nI fa)) rfl rfl ?_
        refine zp_icmpN_ne (tgt := 69) rfl rfl (by omega) (by omega) (fun b47 => ?_) (fun b47 => ?_)
        · refine zp_vret rfl rfl ?_
          have h8' := h8
          simp only [decide_eq_true_eq, decide_eq_false_iff_not] at h8'
          have e1 : (if 5 ≤ k ∧ a = fa ∧ m = fm then ta else a) = a := by first | (rw [if_pos (by omega)]; done) | (rw [if_neg (by omega)]; done)
          have e2 : (if 5 ≤ k ∧ a = fa ∧ m = fm then tm else m) = m := by first | (rw [if_pos (by omega)]; done) | (rw [if_neg (by omega)]; done)
          have e3 : (if 8 ≤ k ∧ b = fa ∧ n = fm then ta else b) = b := by first | (rw [if_pos (by omega)]; done) | (rw [if_neg (by omega)]; done)
          have e4 : (if 8 ≤ k ∧ b = fa ∧ n = fm then tm else n) = n := by first | (rw [if_pos (by omega)]; done) | (rw [if_neg (by omega)]; done)
          have hv : v_rnP (k, a, m, b, n) fa fm ta tm = (k, a, m, b, n) := by
            show (k, (if 5 ≤ k ∧ a = fa ∧ m = fm then ta else a), (if 5 ≤ k ∧ a = fa ∧ m = fm then tm else m), (if 8 ≤ k ∧ b = fa ∧ n = fm then ta else b), (if 8 ≤ k ∧ b = fa ∧ n = fm then tm else n)) = _
            rw [e1, e2, e3, e4]
          rw [hv] at hq
          exact hq _ hS (by first | exact zh_eq.rf | exact zh_onf (zh_onf zh_eq.rf) | exact zh_onf (zh_onf (zh_onf (zh_onf zh_eq.rf)))) ⟨(by exact c0), (by exact c1), (by exact c2), (by exact c3), (by exact c4)⟩
        · refine zp_aload_n (x := r) rfl rfl ?_
          refine zq_geti hS rfl (by first | assumption | exact ⟨by decide, rfl⟩) rfl ?_
          rw [c4]
          refine zp_iload_n (x := (nI fm)) rfl rfl ?_
          refine zp_icmpN_ne (tgt := 69) rfl rfl (by omega) (by omega) (fun b55 => ?_) (fun b55 => ?_)
          · refine zp_vret rfl rfl ?_
            have h8' := h8
            simp only [decide_eq_true_eq, decide_eq_false_iff_not] at h8'
            have e1 : (if 5 ≤ k ∧ a = fa ∧ m = fm then ta else a) = a := by first | (rw [if_pos (by omega)]; done) | (rw [if_neg (by omega)]; done)
            have e2 : (if 5 ≤ k ∧ a = fa ∧ m = fm then tm else m) = m := by first | (rw [if_pos (by omega)]; done) | (rw [if_neg (by omega)]; done)
            have e3 : (if 8 ≤ k ∧ b = fa ∧ n = fm then ta else b) = b := by first | (rw [if_pos (by omega)]; done) | (rw [if_neg (by omega)]; done)
            have e4 : (if 8 ≤ k ∧ b = fa ∧ n = fm then tm else n) = n := by first | (rw [if_pos (by omega)]; done) | (rw [if_neg (by omega)]; done)
            have hv : v_rnP (k, a, m, b, n) fa fm ta tm = (k, a, m, b, n) := by
              show (k, (if 5 ≤ k ∧ a = fa ∧ m = fm then ta else a), (if 5 ≤ k ∧ a = fa ∧ m = fm then tm else m), (if 8 ≤ k ∧ b = fa ∧ n = fm then ta else b), (if 8 ≤ k ∧ b = fa ∧ n = fm then tm else n)) = _
              rw [e1, e2, e3, e4]
            rw [hv] at hq
            exact hq _ hS (by first | exact zh_eq.rf | exact zh_onf (zh_onf zh_eq.rf) | exact zh_onf (zh_onf (zh_onf (zh_onf zh_eq.rf)))) ⟨(by exact c0), (by exact c1), (by exact c2), (by exact c3), (by exact c4)⟩
          · refine zp_aload_n (x := r) rfl rfl ?_
            refine zp_iload_n (x := (nI ta)) rfl rfl ?_
            refine zq_put hS rfl (by first | assumption | exact ⟨by decide, rfl⟩) rfl rfl (fun hS60 => ?_)
            have hS := hS60
            refine zp_aload_n (x := r) rfl rfl ?_
            refine zp_iload (x := (nI tm)) rfl rfl ?_
            refine zq_put hS rfl (by first | assumption | exact ⟨by decide, rfl⟩) rfl rfl (fun hS66 => ?_)
            have hS := hS66
            refine zp_vret rfl rfl ?_
            have h8' := h8
            simp only [decide_eq_true_eq, decide_eq_false_iff_not] at h8'
            have e1 : (if 5 ≤ k ∧ a = fa ∧ m = fm then ta else a) = a := by first | (rw [if_pos (by omega)]; done) | (rw [if_neg (by omega)]; done)
            have e2 : (if 5 ≤ k ∧ a = fa ∧ m = fm then tm else m) = m := by first | (rw [if_pos (by omega)]; done) | (rw [if_neg (by omega)]; done)
            have e3 : (if 8 ≤ k ∧ b = fa ∧ n = fm then ta else b) = ta := by first | (rw [if_pos (by omega)]; done) | (rw [if_neg (by omega)]; done)
            have e4 : (if 8 ≤ k ∧ b = fa ∧ n = fm then tm else n) = tm := by first | (rw [if_pos (by omega)]; done) | (rw [if_neg (by omega)]; done)
            have hv : v_rnP (k, a, m, b, n) fa fm ta tm = (k, a, m, ta, tm) := by
              show (k, (if 5 ≤ k ∧ a = fa ∧ m = fm then ta else a), (if 5 ≤ k ∧ a = fa ∧ m = fm then tm else m), (if 8 ≤ k ∧ b = fa ∧ n = fm then ta else b), (if 8 ≤ k ∧ b = fa ∧ n = fm then tm else n)) = _
              rw [e1, e2, e3, e4]
            rw [hv] at hq
            exact hq _ hS (by first | exact zh_eq.rf | exact zh_onf (zh_onf zh_eq.rf) | exact zh_onf (zh_onf (zh_onf (zh_onf zh_eq.rf)))) ⟨(by rw [zf_nj (by decide), zf_nj (by decide)]; exact c0), (by rw [zf_nj (by decide), zf_nj (by decide)]; exact c1), (by rw [zf_nj (by decide), zf_nj (by decide)]; exact c2), (by rw [zf_nj (by decide)]; exact zf_at9 hS60 (by first | assumption | exact ⟨by decide, rfl⟩) rfl), (by exact zf_at9 hS66 (by first | assumption | exact ⟨by decide, rfl⟩) rfl)⟩
    · refine zp_aload_n (x := r) rfl rfl ?_
      refine zq_geti hS rfl (by first | assumption | exact ⟨by decide, rfl⟩) rfl ?_
      rw [c2]
      refine zp_iload_n (x := (nI fm)) rfl rfl ?_
      refine zp_icmpN_ne (tgt := 35) rfl rfl (by omega) (by omega) (fun b21 => ?_) (fun b21 => ?_)
      · refine zp_aload_n (x := r) rfl rfl ?_
        refine zq_virt hS rfl rfl (by first | assumption | exact ⟨by decide, rfl⟩) rfl (s_Change_hasTwoMembers (k := k) hS hC9 (by exact c0) h1 ?_)
        cases h8 : decide (8 ≤ k) with
        | false =>
          show zp_wp X y_Change_replaceMember 39 [.ref r, .int (nI fa), .int (nI fm), .int (nI ta), .int (nI tm)] [.int (nI 0)] h Q
          refine zp_ifT (tgt := 69) rfl rfl (by decide +kernel) ?_
          refine zp_vret rfl rfl ?_
          have h8' := h8
          simp only [decide_eq_true_eq, decide_eq_false_iff_not] at h8'
          have e1 : (if 5 ≤ k ∧ a = fa ∧ m = fm then ta else a) = a := by first | (rw [if_pos (by omega)]; done) | (rw [if_neg (by omega)]; done)
          have e2 : (if 5 ≤ k ∧ a = fa ∧ m = fm then tm else m) = m := by first | (rw [if_pos (by omega)]; done) | (rw [if_neg (by omega)]; done)
          have e3 : (if 8 ≤ k ∧ b = fa ∧ n = fm then ta else b) = b := by first | (rw [if_pos (by omega)]; done) | (rw [if_neg (by omega)]; done)
          have e4 : (if 8 ≤ k ∧ b = fa ∧ n = fm then tm else n) = n := by first | (rw [if_pos (by omega)]; done) | (rw [if_neg (by omega)]; done)
          have hv : v_rnP (k, a, m, b, n) fa fm ta tm = (k, a, m, b, n) := by
            show (k, (if 5 ≤ k ∧ a = fa ∧ m = fm then ta else a), (if 5 ≤ k ∧ a = fa ∧ m = fm then tm else m), (if 8 ≤ k ∧ b = fa ∧ n = fm then ta else b), (if 8 ≤ k ∧ b = fa ∧ n = fm then tm else n)) = _
            rw [e1, e2, e3, e4]
          rw [hv] at hq
          exact hq _ hS (by first | exact zh_eq.rf | exact zh_onf (zh_onf zh_eq.rf) | exact zh_onf (zh_onf (zh_onf (zh_onf zh_eq.rf)))) ⟨(by exact c0), (by exact c1), (by exact c2), (by exact c3), (by exact c4)⟩
        | true =>
          show zp_wp X y_Change_replaceMember 39 [.ref r, .int (nI fa), .int (nI fm), .int (nI ta), .int (nI tm)] [.int (nI 1)] h Q
          refine zp_ifF (tgt := 69) rfl rfl (by decide +kernel) ?_
          refine zp_aload_n (x := r) rfl rfl ?_
          refine zq_geti hS rfl (by first | assumption | exact ⟨by decide, rfl⟩) rfl ?_
          rw [c3]
          refine zp_iload_n (x := (nI fa)) rfl rfl ?_
          refine zp_icmpN_ne (tgt := 69) rfl rfl (by omega) (by omega) (fun b47 => ?_) (fun b47 => ?_)
          · refine zp_vret rfl rfl ?_
            have h8' := h8
            simp only [decide_eq_true_eq, decide_eq_false_iff_not] at h8'
            have e1 : (if 5 ≤ k ∧ a = fa ∧ m = fm then ta else a) = a := by first | (rw [if_pos (by omega)]; done) | (rw [if_neg (by omega)]; done)
            have e2 : (if 5 ≤ k ∧ a = fa ∧ m = fm then tm else m) = m := by first | (rw [if_pos (by omega)]; done) | (rw [if_neg (by omega)]; done)
            have e3 : (if 8 ≤ k ∧ b = fa ∧ n = fm then ta else b) = b := by first | (rw [if_pos (by omega)]; done) | (rw [if_neg (by omega)]; done)
            have e4 : (if 8 ≤ k ∧ b = fa ∧ n = fm then tm else n) = n := by first | (rw [if_pos (by omega)]; done) | (rw [if_neg (by omega)]; done)
            have hv : v_rnP (k, a, m, b, n) fa fm ta tm = (k, a, m, b, n) := by
              show (k, (if 5 ≤ k ∧ a = fa ∧ m = fm then ta else a), (if 5 ≤ k ∧ a = fa ∧ m = fm then tm else m), (if 8 ≤ k ∧ b = fa ∧ n = fm then ta else b), (if 8 ≤ k ∧ b = fa ∧ n = fm then tm else n)) = _
              rw [e1, e2, e3, e4]
            rw [hv] at hq
            exact hq _ hS (by first | exact zh_eq.rf | exact zh_onf (zh_onf zh_eq.rf) | exact zh_onf (zh_onf (zh_onf (zh_onf zh_eq.rf)))) ⟨(by exact c0), (by exact c1), (by exact c2), (by exact c3), (by exact c4)⟩
          · refine zp_aload_n (x := r) rfl rfl ?_
            refine zq_geti hS rfl (by first | assumption | exact ⟨by decide, rfl⟩) rfl ?_
            rw [c4]
            refine zp_iload_n (x := (nI fm)) rfl rfl ?_
            refine zp_icmpN_ne (tgt := 69) rfl rfl (by omega) (by omega) (fun b55 => ?_) (fun b55 => ?_)
            · refine zp_vret rfl rfl ?_
              have h8' := h8
              simp only [decide_eq_true_eq, decide_eq_false_iff_not] at h8'
              have e1 : (if 5 ≤ k ∧ a = fa ∧ m = fm then ta else a) = a := by first | (rw [if_pos (by omega)]; done) | (rw [if_neg (by omega)]; done)
              have e2 : (if 5 ≤ k ∧ a = fa ∧ m = fm then tm else m) = m := by first | (rw [if_pos (by omega)]; done) | (rw [if_neg (by omega)]; done)
              have e3 : (if 8 ≤ k ∧ b = fa ∧ n = fm then ta else b) = b := by first | (rw [if_pos (by omega)]; done) | (rw [if_neg (by omega)]; done)
              have e4 : (if 8 ≤ k ∧ b = fa ∧ n = fm then tm else n) = n := by first | (rw [if_pos (by omega)]; done) | (rw [if_neg (by omega)]; done)
              have hv : v_rnP (k, a, m, b, n) fa fm ta tm = (k, a, m, b, n) := by
                show (k, (if 5 ≤ k ∧ a = fa ∧ m = fm then ta else a), (if 5 ≤ k ∧ a = fa ∧ m = fm then tm else m), (if 8 ≤ k ∧ b = fa ∧ n = fm then ta else b), (if 8 ≤ k ∧ b = fa ∧ n = fm then tm else n)) = _
                rw [e1, e2, e3, e4]
              rw [hv] at hq
              exact hq _ hS (by first | exact zh_eq.rf | exact zh_onf (zh_onf zh_eq.rf) | exact zh_onf (zh_onf (zh_onf (zh_onf zh_eq.rf)))) ⟨(by exact c0), (by exact c1), (by exact c2), (by exact c3), (by exact c4)⟩
            · refine zp_aload_n (x := r) rfl rfl ?_
              refine zp_iload_n (x := (nI ta)) rfl rfl ?_
              refine zq_put hS rfl (by first | assumption | exact ⟨by decide, rfl⟩) rfl rfl (fun hS60 => ?_)
              have hS := hS60
              refine zp_aload_n (x := r) rfl rfl ?_
              refine zp_iload (x := (nI tm)) rfl rfl ?_
              refine zq_put hS rfl (by first | assumption | exact ⟨by decide, rfl⟩) rfl rfl (fun hS66 => ?_)
              have hS := hS66
              refine zp_vret rfl rfl ?_
              have h8' := h8
              simp only [decide_eq_true_eq, decide_eq_false_iff_not] at h8'
              have e1 : (if 5 ≤ k ∧ a = fa ∧ m = fm then ta else a) = a := by first | (rw [if_pos (by omega)]; done) | (rw [if_neg (by omega)]; done)
              have e2 : (if 5 ≤ k ∧ a = fa ∧ m = fm then tm else m) = m := by first | (rw [if_pos (by omega)]; done) | (rw [if_neg (by omega)]; done)
              have e3 : (if 8 ≤ k ∧ b = fa ∧ n = fm then ta else b) = ta := by first | (rw [if_pos (by omega)]; done) | (rw [if_neg (by omega)]; done)
              have e4 : (if 8 ≤ k ∧ b = fa ∧ n = fm then tm else n) = tm := by first | (rw [if_pos (by omega)]; done) | (rw [if_neg (by omega)]; done)
              have hv : v_rnP (k, a, m, b, n) fa fm ta tm = (k, a, m, ta, tm) := by
                show (k, (if 5 ≤ k ∧ a = fa ∧ m = fm then ta else a), (if 5 ≤ k ∧ a = fa ∧ m = fm then tm else m), (if 8 ≤ k ∧ b = fa ∧ n = fm then ta else b), (if 8 ≤ k ∧ b = fa ∧ n = fm then tm else n)) = _
                rw [e1, e2, e3, e4]
              rw [hv] at hq
              exact hq _ hS (by first | exact zh_eq.rf | exact zh_onf (zh_onf zh_eq.rf) | exact zh_onf (zh_onf (zh_onf (zh_onf zh_eq.rf)))) ⟨(by rw [zf_nj (by decide), zf_nj (by decide)]; exact c0), (by rw [zf_nj (by decide), zf_nj (by decide)]; exact c1), (by rw [zf_nj (by decide), zf_nj (by decide)]; exact c2), (by rw [zf_nj (by decide)]; exact zf_at9 hS60 (by first | assumption | exact ⟨by decide, rfl⟩) rfl), (by exact zf_at9 hS66 (by first | assumption | exact ⟨by decide, rfl⟩) rfl)⟩
      · refine zp_aload_n (x := r) rfl rfl ?_
        refine zp_iload_n (x := (nI ta)) rfl rfl ?_
        refine zq_put hS rfl (by first | assumption | exact ⟨by decide, rfl⟩) rfl rfl (fun hS26 => ?_)
        have hS := hS26
        refine zp_aload_n (x := r) rfl rfl ?_
        refine zp_iload (x := (nI tm)) rfl rfl ?_
        refine zq_put hS rfl (by first | assumption | exact ⟨by decide, rfl⟩) rfl rfl (fun hS32 => ?_)
        have hS := hS32
        refine zp_aload_n (x := r) rfl rfl ?_
        refine zq_virt hS rfl rfl (by first | assumption | exact ⟨by decide, rfl⟩) rfl (s_Change_hasTwoMembers (k := k) hS hC9 (by rw [zf_nj (by decide), zf_nj (by decide)]; exact c0) h1 ?_)
        cases h8 : decide (8 ≤ k) with
        | false =>
          show zp_wp X y_Change_replaceMember 39 [.ref r, .int (nI fa), .int (nI fm), .int (nI ta), .int (nI tm)] [.int (nI 0)] (zf_put (zf_put h r 1 (nI ta)) r 2 (nI tm)) Q
          refine zp_ifT (tgt := 69) rfl rfl (by decide +kernel) ?_
          refine zp_vret rfl rfl ?_
          have h8' := h8
          simp only [decide_eq_true_eq, decide_eq_false_iff_not] at h8'
          have e1 : (if 5 ≤ k ∧ a = fa ∧ m = fm then ta else a) = ta := by first | (rw [if_pos (by omega)]; done) | (rw [if_neg (by omega)]; done)
          have e2 : (if 5 ≤ k ∧ a = fa ∧ m = fm then tm else m) = tm := by first | (rw [if_pos (by omega)]; done) | (rw [if_neg (by omega)]; done)
          have e3 : (if 8 ≤ k ∧ b = fa ∧ n = fm then ta else b) = b := by first | (rw [if_pos (by omega)]; done) | (rw [if_neg (by omega)]; done)
          have e4 : (if 8 ≤ k ∧ b = fa ∧ n = fm then tm else n) = n := by first | (rw [if_pos (by omega)]; done) | (rw [if_neg (by omega)]; done)
          have hv : v_rnP (k, a, m, b, n) fa fm ta tm = (k, ta, tm, b, n) := by
            show (k, (if 5 ≤ k ∧ a = fa ∧ m = fm then ta else a), (if 5 ≤ k ∧ a = fa ∧ m = fm then tm else m), (if 8 ≤ k ∧ b = fa ∧ n = fm then ta else b), (if 8 ≤ k ∧ b = fa ∧ n = fm then tm else n)) = _
            rw [e1, e2, e3, e4]
          rw [hv] at hq
          exact hq _ hS (by first | exact zh_eq.rf | exact zh_onf (zh_onf zh_eq.rf) | exact zh_onf (zh_onf (zh_onf (zh_onf zh_eq.rf)))) ⟨(by rw [zf_nj (by decide), zf_nj (by decide)]; exact c0), (by rw [zf_nj (by decide)]; exact zf_at9 hS26 (by first | assumption | exact ⟨by decide, rfl⟩) rfl), (by exact zf_at9 hS32 (by first | assumption | exact ⟨by decide, rfl⟩) rfl), (by rw [zf_nj (by decide), zf_nj (by decide)]; exact c3), (by rw [zf_nj (by decide), zf_nj (by decide)]; exact c4)⟩
        | true =>
          show zp_wp X y_Change_replaceMember 39 [.ref r, .int (nI fa), .int (nI fm), .int (nI ta), .int (nI tm)] [.int (nI 1)] (zf_put (zf_put h r 1 (nI ta)) r 2 (nI tm)) Q
          refine zp_ifF (tgt := 69) rfl rfl (by decide +kernel) ?_
          refine zp_aload_n (x := r) rfl rfl ?_
          refine zq_geti hS rfl (by first | assumption | exact ⟨by decide, rfl⟩) rfl ?_
          rw [zf_nj (by decide), zf_nj (by decide)]
          rw [c3]
          refine zp_iload_n (x := (nI fa)) rfl rfl ?_
          refine zp_icmpN_ne (tgt := 69) rfl rfl (by omega) (by omega) (fun b47 => ?_) (fun b47 => ?_)
          · refine zp_vret rfl rfl ?_
            have h8' := h8
            simp only [decide_eq_true_eq, decide_eq_false_iff_not] at h8'
            have e1 : (if 5 ≤ k ∧ a = fa ∧ m = fm then ta else a) = ta := by first | (rw [if_pos (by omega)]; done) | (rw [if_neg (by omega)]; done)
            have e2 : (if 5 ≤ k ∧ a = fa ∧ m = fm then tm else m) = tm := by first | (rw [if_pos (by omega)]; done) | (rw [if_neg (by omega)]; done)
            have e3 : (if 8 ≤ k ∧ b = fa ∧ n = fm then ta else b) = b := by first | (rw [if_pos (by omega)]; done) | (rw [if_neg (by omega)]; done)
            have e4 : (if 8 ≤ k ∧ b = fa ∧ n = fm then tm else n) = n := by first | (rw [if_pos (by omega)]; done) | (rw [if_neg (by omega)]; done)
            have hv : v_rnP (k, a, m, b, n) fa fm ta tm = (k, ta, tm, b, n) := by
              show (k, (if 5 ≤ k ∧ a = fa ∧ m = fm then ta else a), (if 5 ≤ k ∧ a = fa ∧ m = fm then tm else m), (if 8 ≤ k ∧ b = fa ∧ n = fm then ta else b), (if 8 ≤ k ∧ b = fa ∧ n = fm then tm else n)) = _
              rw [e1, e2, e3, e4]
            rw [hv] at hq
            exact hq _ hS (by first | exact zh_eq.rf | exact zh_onf (zh_onf zh_eq.rf) | exact zh_onf (zh_onf (zh_onf (zh_onf zh_eq.rf)))) ⟨(by rw [zf_nj (by decide), zf_nj (by decide)]; exact c0), (by rw [zf_nj (by decide)]; exact zf_at9 hS26 (by first | assumption | exact ⟨by decide, rfl⟩) rfl), (by exact zf_at9 hS32 (by first | assumption | exact ⟨by decide, rfl⟩) rfl), (by rw [zf_nj (by decide), zf_nj (by decide)]; exact c3), (by rw [zf_nj (by decide), zf_nj (by decide)]; exact c4)⟩
          · refine zp_aload_n (x := r) rfl rfl ?_
            refine zq_geti hS rfl (by first | assumption | exact ⟨by decide, rfl⟩) rfl ?_
            rw [zf_nj (by decide), zf_nj (by decide)]
            rw [c4]
            refine zp_iload_n (x := (nI fm)) rfl rfl ?_
            refine zp_icmpN_ne (tgt := 69) rfl rfl (by omega) (by omega) (fun b55 => ?_) (fun b55 => ?_)
            · refine zp_vret rfl rfl ?_
              have h8' := h8
              simp only [decide_eq_true_eq, decide_eq_false_iff_not] at h8'
              have e1 : (if 5 ≤ k ∧ a = fa ∧ m = fm then ta else a) = ta := by first | (rw [if_pos (by omega)]; done) | (rw [if_neg (by omega)]; done)
              have e2 : (if 5 ≤ k ∧ a = fa ∧ m = fm then tm else m) = tm := by first | (rw [if_pos (by omega)]; done) | (rw [if_neg (by omega)]; done)
              have e3 : (if 8 ≤ k ∧ b = fa ∧ n = fm then ta else b) = b := by first | (rw [if_pos (by omega)]; done) | (rw [if_neg (by omega)]; done)
              have e4 : (if 8 ≤ k ∧ b = fa ∧ n = fm then tm else n) = n := by first | (rw [if_pos (by omega)]; done) | (rw [if_neg (by omega)]; done)
              have hv : v_rnP (k, a, m, b, n) fa fm ta tm = (k, ta, tm, b, n) := by
                show (k, (if 5 ≤ k ∧ a = fa ∧ m = fm then ta else a), (if 5 ≤ k ∧ a = fa ∧ m = fm then tm else m), (if 8 ≤ k ∧ b = fa ∧ n = fm then ta else b), (if 8 ≤ k ∧ b = fa ∧ n = fm then tm else n)) = _
                rw [e1, e2, e3, e4]
              rw [hv] at hq
              exact hq _ hS (by first | exact zh_eq.rf | exact zh_onf (zh_onf zh_eq.rf) | exact zh_onf (zh_onf (zh_onf (zh_onf zh_eq.rf)))) ⟨(by rw [zf_nj (by decide), zf_nj (by decide)]; exact c0), (by rw [zf_nj (by decide)]; exact zf_at9 hS26 (by first | assumption | exact ⟨by decide, rfl⟩) rfl), (by exact zf_at9 hS32 (by first | assumption | exact ⟨by decide, rfl⟩) rfl), (by rw [zf_nj (by decide), zf_nj (by decide)]; exact c3), (by rw [zf_nj (by decide), zf_nj (by decide)]; exact c4)⟩
            · refine zp_aload_n (x := r) rfl rfl ?_
              refine zp_iload_n (x := (nI ta)) rfl rfl ?_
              refine zq_put hS rfl (by first | assumption | exact ⟨by decide, rfl⟩) rfl rfl (fun hS60 => ?_)
              have hS := hS60
              refine zp_aload_n (x := r) rfl rfl ?_
              refine zp_iload (x := (nI tm)) rfl rfl ?_
              refine zq_put hS rfl (by first | assumption | exact ⟨by decide, rfl⟩) rfl rfl (fun hS66 => ?_)
              have hS := hS66
              refine zp_vret rfl rfl ?_
              have h8' := h8
              simp only [decide_eq_true_eq, decide_eq_false_iff_not] at h8'
              have e1 : (if 5 ≤ k ∧ a = fa ∧ m = fm then ta else a) = ta := by first | (rw [if_pos (by omega)]; done) | (rw [if_neg (by omega)]; done)
              have e2 : (if 5 ≤ k ∧ a = fa ∧ m = fm then tm else m) = tm := by first | (rw [if_pos (by omega)]; done) | (rw [if_neg (by omega)]; done)
              have e3 : (if 8 ≤ k ∧ b = fa ∧ n = fm then ta else b) = ta := by first | (rw [if_pos (by omega)]; done) | (rw [if_neg (by omega)]; done)
              have e4 : (if 8 ≤ k ∧ b = fa ∧ n = fm then tm else n) = tm := by first | (rw [if_pos (by omega)]; done) | (rw [if_neg (by omega)]; done)
              have hv : v_rnP (k, a, m, b, n) fa fm ta tm = (k, ta, tm, ta, tm) := by
                show (k, (if 5 ≤ k ∧ a = fa ∧ m = fm then ta else a), (if 5 ≤ k ∧ a = fa ∧ m = fm then tm else m), (if 8 ≤ k ∧ b = fa ∧ n = fm then ta else b), (if 8 ≤ k ∧ b = fa ∧ n = fm then tm else n)) = _
                rw [e1, e2, e3, e4]
              rw [hv] at hq
              exact hq _ hS (by first | exact zh_eq.rf | exact zh_onf (zh_onf zh_eq.rf) | exact zh_onf (zh_onf (zh_onf (zh_onf zh_eq.rf)))) ⟨(by rw [zf_nj (by decide), zf_nj (by decide), zf_nj (by decide), zf_nj (by decide)]; exact c0), (by rw [zf_nj (by decide), zf_nj (by decide), zf_nj (by decide)]; exact zf_at9 hS26 (by first | assumption | exact ⟨by decide, rfl⟩) rfl), (by rw [zf_nj (by decide), zf_nj (by decide)]; exact zf_at9 hS32 (by first | assumption | exact ⟨by decide, rfl⟩) rfl), (by rw [zf_nj (by decide)]; exact zf_at9 hS60 (by first | assumption | exact ⟨by decide, rfl⟩) rfl), (by exact zf_at9 hS66 (by first | assumption | exact ⟨by decide, rfl⟩) rfl)⟩
theorem s_Change_carryBack (hS : zs_H h) (hC : zq_C r) (hd : zq_c d r h) (hl : zc_leg d) (hT : zq_C t) (hc : zq_c c t h) (hlc : zc_leg c) (hq : ∀ h', zs_H h' → zh_eq (fun x => x = r) h h' → zq_c (v_car d c true) r h' → Q (.inl none) h') : zp_wm X y_Change_carryBack [.ref r, .ref t] h Q := by
  have hC9 := hC
  have hC : zs_O r 0 [none, none, none, none, none] := hC
  have hT : zs_O t 0 [none, none, none, none, none] := hT
  obtain ⟨k, a, m, b, n⟩ := c
  obtain ⟨h1, h2, h3, h4, h5⟩ := hlc
  obtain ⟨c0, c1, c2, c3, c4⟩ := hc
  dsimp only at h1 h2 h3 h4 h5 c0 c1 c2 c3 c4
  have he : v_car d (k, a, m, b, n) true = if k = 2 then v_rnC d b a else if k = 6 then v_rnP d a n a m else if k = 7 then v_rnP d b m a m else d := rfl
  show zp_wp X y_Change_carryBack 0 [.ref r, .ref t] [] h Q
  refine zp_aload_n (x := t) rfl rfl ?_
  refine zq_geti hS rfl (by first | assumption | exact ⟨by decide, rfl⟩) rfl ?_
  rw [c0]
  refine zp_iconst (v := (nI 2)) rfl (by decide +kernel) ?_
  refine zp_icmpN_ne (tgt := 23) rfl rfl (by omega) (by omega) (fun b5 => ?_) (fun b5 => ?_)
  · refine zp_aload_n (x := t) rfl rfl ?_
    refine zq_geti hS rfl (by first | assumption | exact ⟨by decide, rfl⟩) rfl ?_
    rw [c0]
    refine zp_bipush (v := (nI 6)) rfl (by decide +kernel) ?_
    refine zp_icmpN_ne (tgt := 55) rfl rfl (by omega) (by omega) (fun b29 => ?_) (fun b29 => ?_)
    · refine zp_aload_n (x := t) rfl rfl ?_
      refine zq_geti hS rfl (by first | assumption | exact ⟨by decide, rfl⟩) rfl ?_
      rw [c0]
      refine zp_bipush (v := (nI 7)) rfl (by decide +kernel) ?_
      refine zp_icmpN_ne (tgt := 84) rfl rfl (by omega) (by omega) (fun b61 => ?_) (fun b61 => ?_)
      · refine zp_vret rfl rfl ?_
        first
        | (rw [he, if_pos (by omega)] at hq; exact hq _ hS2 he2 hc2)
        | (rw [he, if_neg (by omega), if_pos (by omega)] at hq; exact hq _ hS2 he2 hc2)
        | (rw [he, if_neg (by omega), if_neg (by omega), if_pos (by omega)] at hq; exact hq _ hS2 he2 hc2)
        | (rw [he, if_neg (by omega), if_neg (by omega), if_neg (by omega)] at hq; exact hq _ hS zh_eq.rf hd)
      · refine zp_aload_n (x := r) rfl rfl ?_
        refine zp_aload_n (x := t) rfl rfl ?_
        refine zq_geti hS rfl (by first | assumption | exact ⟨by decide, rfl⟩) rfl ?_
        rw [c3]
        refine zp_aload_n (x := t) rfl rfl ?_
        refine zq_geti hS rfl (by first | assumption | exact ⟨by decide, rfl⟩) rfl ?_
        rw [c2]
        refine zp_aload_n (x := t) rfl rfl ?_
        refine zq_geti hS rfl (by first | assumption | exact ⟨by decide, rfl⟩) rfl ?_
        rw [c1]
        refine zp_aload_n (x := t) rfl rfl ?_
        refine zq_geti hS rfl (by first | assumption | exact ⟨by decide, rfl⟩) rfl ?_
        rw [c2]
        refine zq_virt hS rfl rfl (by first | assumption | exact ⟨by decide, rfl⟩) rfl (s_Change_replaceMember hS hC9 hd hl (by omega) (by omega) (fun h2 hS2 he2 hc2 => ?_))
        show zp_wp X y_Change_carryBack 84 [.ref r, .ref t] [] h2 Q
        refine zp_vret rfl rfl ?_
        first
        | (rw [he, if_pos (by omega)] at hq; exact hq _ hS2 he2 hc2)
        | (rw [he, if_neg (by omega), if_pos (by omega)] at hq; exact hq _ hS2 he2 hc2)
        | (rw [he, if_neg (by omega), if_neg (by omega), if_pos (by omega)] at hq; exact hq _ hS2 he2 hc2)
        | (rw [he, if_neg (by omega), if_neg (by omega), if_neg (by omega)] at hq; exact hq _ hS zh_eq.rf hd)
    · refine zp_aload_n (x := r) rfl rfl ?_
      refine zp_aload_n (x := t) rfl rfl ?_
      refine zq_geti hS rfl (by first | assumption | exact ⟨by decide, rfl⟩) rfl ?_
      rw [c1]
      refine zp_aload_n (x := t) rfl rfl ?_
      refine zq_geti hS rfl (by first | assumption | exact ⟨by decide, rfl⟩) rfl ?_
      rw [c4]
      refine zp_aload_n (x := t) rfl rfl ?_
      refine zq_geti hS rfl (by first | assumption | exact ⟨by decide, rfl⟩) rfl ?_
      rw [c1]
      refine zp_aload_n (x := t) rfl rfl ?_
      refine zq_geti hS rfl (by first | assumption | exact ⟨by decide, rfl⟩) rfl ?_
      rw [c2]
      refine zq_virt hS rfl rfl (by first | assumption | exact ⟨by decide, rfl⟩) rfl (s_Change_replaceMember hS hC9 hd hl (by omega) (by omega) (fun h2 hS2 he2 hc2 => ?_))
      show zp_wp X y_Change_carryBack 52 [.ref r, .ref t] [] h2 Q
      refine zp_goto (tgt := 84) rfl rfl ?_
      refine zp_vret rfl rfl ?_
      first
      | (rw [he, if_pos (by omega)] at hq; exact hq _ hS2 he2 hc2)
      | (rw [he, if_neg (by omega), if_pos (by omega)] at hq; exact hq _ hS2 he2 hc2)
      | (rw [he, if_neg (by omega), if_neg (by omega), if_pos (by omega)] at hq; exact hq _ hS2 he2 hc2)
      | (rw [he, if_neg (by omega), if_neg (by omega), if_neg (by omega)] at hq; exact hq _ hS zh_eq.rf hd)
  · refine zp_aload_n (x := r) rfl rfl ?_
    refine zp_aload_n (x := t) rfl rfl ?_
    refine zq_geti hS rfl (by first | assumption | exact ⟨by decide, rfl⟩) rfl ?_
    rw [c3]
    refine zp_aload_n (x := t) rfl rfl ?_
    refine zq_geti hS rfl (by first | assumption | exact ⟨by decide, rfl⟩) rfl ?_
    rw [c1]
    refine zq_virt hS rfl rfl (by first | assumption | exact ⟨by decide, rfl⟩) rfl (s_Change_replaceClass hS hC9 hd hl (by omega) (fun h2 hS2 he2 hc2 => ?_))
    show zp_wp X y_Change_carryBack 20 [.ref r, .ref t] [] h2 Q
    refine zp_goto (tgt := 84) rfl rfl ?_
    refine zp_vret rfl rfl ?_
    first
    | (rw [he, if_pos (by omega)] at hq; exact hq _ hS2 he2 hc2)
    | (rw [he, if_neg (by omega), if_pos (by omega)] at hq; exact hq _ hS2 he2 hc2)
    | (rw [he, if_neg (by omega), if_neg (by omega), if_pos (by omega)] at hq; exact hq _ hS2 he2 hc2)
    | (rw [he, if_neg (by omega), if_neg (by omega), if_neg (by omega)] at hq; exact hq _ hS zh_eq.rf hd)
theorem s_Change_carryForward (hS : zs_H h) (hC : zq_C r) (hd : zq_c d r h) (hl : zc_leg d) (hT : zq_C t) (hc : zq_c c t h) (hlc : zc_leg c) (hq : ∀ h', zs_H h' → zh_eq (fun x => x = r) h h' → zq_c (v_car d c false) r h' → Q (.inl none) h') : zp_wm X y_Change_carryForward [.ref r, .ref t] h Q := by
  have hC9 := hC
  have hC : zs_O r 0 [none, none, none, none, none] := hC
  have hT : zs_O t 0 [none, none, none, none, none] := hT
  obtain ⟨k, a, m, b, n⟩ := c
  obtain ⟨h1, h2, h3, h4, h5⟩ := hlc
  obtain ⟨c0, c1, c2, c3, c4⟩ := hc
  dsimp only at h1 h2 h3 h4 h5 c0 c1 c2 c3 c4
  have he : v_car d (k, a, m, b, n) false = if k = 2 then v_rnC d a b else if k = 6 then v_rnP d a m a n else if k = 7 then v_rnP d a m b m else d := rfl
  show zp_wp X y_Change_carryForward 0 [.ref r, .ref t] [] h Q
  refine zp_aload_n (x := t) rfl rfl ?_
  refine zq_geti hS rfl (by first | assumption | exact ⟨by decide, rfl⟩) rfl ?_
  rw [c0]
  refine zp_iconst (v := (nI 2)) rfl (by decide +kernel) ?_
  refine zp_icmpN_ne (tgt := 23) rfl rfl (by omega) (by omega) (fun b5 => ?_) (fun b5 => ?_)
  · refine zp_aload_n (x := t) rfl rfl ?_
    refine zq_geti hS rfl (by first | assumption | exact ⟨by decide, rfl⟩) rfl ?_
    rw [c0]
    refine zp_bipush (v := (nI 6)) rfl (by decide +kernel) ?_
    refine zp_icmpN_ne (tgt := 55) rfl rfl (by omega) (by omega) (fun b29 => ?_) (fun b29 => ?_)
    · refine zp_aload_n (x := t) rfl rfl ?_
      refine zq_geti hS rfl (by first | assumption | exact ⟨by decide, rfl⟩) rfl ?_
      rw [c0]
      refine zp_bipush (v := (nI 7)) rfl (by decide +kernel) ?_
      refine zp_icmpN_ne (tgt := 84) rfl rfl (by omega) (by omega) (fun b61 => ?_) (fun b61 => ?_)
      · refine zp_vret rfl rfl ?_
        first
        | (rw [he, if_pos (by omega)] at hq; exact hq _ hS2 he2 hc2)
        | (rw [he, if_neg (by omega), if_pos (by omega)] at hq; exact hq _ hS2 he2 hc2)
        | (rw [he, if_neg (by omega), if_neg (by omega), if_pos (by omega)] at hq; exact hq _ hS2 he2 hc2)
        | (rw [he, if_neg (by omega), if_neg (by omega), if_neg (by omega)] at hq; exact hq _ hS zh_eq.rf hd)
      · refine zp_aload_n (x := r) rfl rfl ?_
        refine zp_aload_n (x := t) rfl rfl ?_
        refine zq_geti hS rfl (by first | assumption | exact ⟨by decide, rfl⟩) rfl ?_
        rw [c1]
        refine zp_aload_n (x := t) rfl rfl ?_
        refine zq_geti hS rfl (by first | assumption | exact ⟨by decide, rfl⟩) rfl ?_
        rw [c2]
        refine zp_aload_n (x := t) rfl rfl ?_
        refine zq_geti hS rfl (by first | assumption | exact ⟨by decide, rfl⟩) rfl ?_
        rw [c3]
        refine zp_aload_n (x := t) rfl rfl ?_
        refine zq_geti hS rfl (by first | assumption | exact ⟨by decide, rfl⟩) rfl ?_
        rw [c2]
        refine zq_virt hS rfl rfl (by first | assumption | exact ⟨by decide, rfl⟩) rfl (s_Change_replaceMember hS hC9 hd hl (by omega) (by omega) (fun h2 hS2 he2 hc2 => ?_))
        show zp_wp X y_Change_carryForward 84 [.ref r, .ref t] [] h2 Q
        refine zp_vret rfl rfl ?_
        first
        | (rw [he, if_pos (by omega)] at hq; exact hq _ hS2 he2 hc2)
        | (rw [he, if_neg (by omega), if_pos (by omega)] at hq; exact hq _ hS2 he2 hc2)
        | (rw [he, if_neg (by omega), if_neg (by omega), if_pos (by omega)] at hq; exact hq _ hS2 he2 hc2)
        | (rw [he, if_neg (by omega), if_neg (by omega), if_neg (by omega)] at hq; exact hq _ hS zh_eq.rf hd)
    · refine zp_aload_n (x := r) rfl rfl ?_
      refine zp_aload_n (x := t) rfl rfl ?_
      refine zq_geti hS rfl (by first | assumption | exact ⟨by decide, rfl⟩) rfl ?_
      rw [c1]
      refine zp_aload_n (x := t) rfl rfl ?_
      refine zq_geti hS rfl (by first | assumption | exact ⟨by decide, rfl⟩) rfl ?_
      rw [c2]
      refine zp_aload_n (x := t) rfl rfl ?_
      refine zq_geti hS rfl (by first | assumption | exact ⟨by decide, rfl⟩) rfl ?_
      rw [c1]
      refine zp_aload_n (x := t) rfl rfl ?_
      refine zq_geti hS rfl (by first | assumption | exact ⟨by decide, rfl⟩) rfl ?_
      rw [c4]
      refine zq_virt hS rfl rfl (by first | assumption | exact ⟨by decide, rfl⟩) rfl (s_Change_replaceMember hS hC9 hd hl (by omega) (by omega) (fun h2 hS2 he2 hc2 => ?_))
      show zp_wp X y_Change_carryForward 52 [.ref r, .ref t] [] h2 Q
      refine zp_goto (tgt := 84) rfl rfl ?_
      refine zp_vret rfl rfl ?_
      first
      | (rw [he, if_pos (by omega)] at hq; exact hq _ hS2 he2 hc2)
      | (rw [he, if_neg (by omega), if_pos (by omega)] at hq; exact hq _ hS2 he2 hc2)
      | (rw [he, if_neg (by omega), if_neg (by omega), if_pos (by omega)] at hq; exact hq _ hS2 he2 hc2)
      | (rw [he, if_neg (by omega), if_neg (by omega), if_neg (by omega)] at hq; exact hq _ hS zh_eq.rf hd)
  · refine zp_aload_n (x := r) rfl rfl ?_
    refine zp_aload_n (x := t) rfl rfl ?_
    refine zq_geti hS rfl (by first | assumption | exact ⟨by decide, rfl⟩) rfl ?_
    rw [c1]
    refine zp_aload_n (x := t) rfl rfl ?_
    refine zq_geti hS rfl (by first | assumption | exact ⟨by decide, rfl⟩) rfl ?_
    rw [c3]
    refine zq_virt hS rfl rfl (by first | assumption | exact ⟨by decide, rfl⟩) rfl (s_Change_replaceClass hS hC9 hd hl (by omega) (fun h2 hS2 he2 hc2 => ?_))
    show zp_wp X y_Change_carryForward 20 [.ref r, .ref t] [] h2 Q
    refine zp_goto (tgt := 84) rfl rfl ?_
    refine zp_vret rfl rfl ?_
    first
    | (rw [he, if_pos (by omega)] at hq; exact hq _ hS2 he2 hc2)
    | (rw [he, if_neg (by omega), if_pos (by omega)] at hq; exact hq _ hS2 he2 hc2)
    | (rw [he, if_neg (by omega), if_neg (by omega), if_pos (by omega)] at hq; exact hq _ hS2 he2 hc2)
    | (rw [he, if_neg (by omega), if_neg (by omega), if_neg (by omega)] at hq; exact hq _ hS zh_eq.rf hd)
theorem s_Change_advanceNewName (hS : zs_H h) (hC : zq_C r) (hd : zq_c d r h) (hl : zc_leg d) (hq : ∀ h', zs_H h' → zh_eq (fun x => x = r) h h' → zq_c (v_adv d) r h' → Q (.inl none) h') : zp_wm X y_Change_advanceNewName [.ref r] h Q := by
  have hC : zs_O r 0 [none, none, none, none, none] := hC
  obtain ⟨k, a, m, b, n⟩ := d
  obtain ⟨h1, h2, h3, h4, h5⟩ := hl
  obtain ⟨c0, c1, c2, c3, c4⟩ := hd
  dsimp only at h1 h2 h3 h4 h5 c0 c1 c2 c3 c4
  have hb : b < 128 := by omega
  have hm9 : m < 128 := by omega
  have hn9 : n < 128 := by omega
  have he : v_adv (k, a, m, b, n) = (k, a, if k = 4 then v_nx m else m, if k = 2 then v_nx b else b, if k = 6 then v_nx n else n) := rfl
  rw [he] at hq
  show zp_wp X y_Change_advanceNewName 0 [.ref r] [] h Q
  refine zp_aload_n (x := r) rfl rfl ?_
  refine zq_geti hS rfl (by first | assumption | exact ⟨by decide, rfl⟩) rfl ?_
  rw [c0]
  refine zp_iconst (v := (nI 2)) rfl (by decide +kernel) ?_
  refine zp_icmpN_ne (tgt := 35) rfl rfl (by omega) (by omega) (fun b5 => ?_) (fun b5 => ?_)
  · refine zp_aload_n (x := r) rfl rfl ?_
    refine zq_geti hS rfl (by first | assumption | exact ⟨by decide, rfl⟩) rfl ?_
    rw [c0]
    refine zp_iconst (v := (nI 4)) rfl (by decide +kernel) ?_
    refine zp_icmpN_ne (tgt := 70) rfl rfl (by omega) (by omega) (fun b40 => ?_) (fun b40 => ?_)
    · refine zp_aload_n (x := r) rfl rfl ?_
      refine zq_geti hS rfl (by first | assumption | exact ⟨by decide, rfl⟩) rfl ?_
      rw [c0]
      refine zp_bipush (v := (nI 6)) rfl (by decide +kernel) ?_
      refine zp_icmpN_ne (tgt := 103) rfl rfl (by omega) (by omega) (fun b76 => ?_) (fun b76 => ?_)
      · refine zp_vret rfl rfl ?_
        have e2 : (if k = 4 then v_nx m else m) = m := by unfold v_nx; (repeat' split) <;> omega
        have e3 : (if k = 2 then v_nx b else b) = b := by unfold v_nx; (repeat' split) <;> omega
        have e4 : (if k = 6 then v_nx n else n) = n := by unfold v_nx; (repeat' split) <;> omega
        rw [e2, e3, e4] at hq
        exact hq _ hS (by first | exact zh_eq.rf | exact zh_onf zh_eq.rf) ⟨(by exact c0), (by exact c1), (by exact c2), (by exact c3), (by exact c4)⟩
      · refine zp_aload_n (x := r) rfl rfl ?_
        refine zp_aload_n (x := r) rfl rfl ?_
        refine zq_geti hS rfl (by first | assumption | exact ⟨by decide, rfl⟩) rfl ?_
        rw [c4]
        refine zp_bipush (v := (nI 122)) rfl (by decide +kernel) ?_
        refine zp_icmpN_ne (tgt := 94) rfl rfl (by omega) (by omega) (fun b86 => ?_) (fun b86 => ?_)
        · refine zp_aload_n (x := r) rfl rfl ?_
          refine zq_geti hS rfl (by first | assumption | exact ⟨by decide, rfl⟩) rfl ?_
          rw [c4]
          refine zp_iconst (v := (nI 1)) rfl (by decide +kernel) ?_
          refine zp_iaddN rfl ?_
          refine zq_put hS rfl (by first | assumption | exact ⟨by decide, rfl⟩) rfl rfl (fun hS100 => ?_)
          have hS := hS100
          refine zp_vret rfl rfl ?_
          have e2 : (if k = 4 then v_nx m else m) = m := by unfold v_nx; (repeat' split) <;> omega
          have e3 : (if k = 2 then v_nx b else b) = b := by unfold v_nx; (repeat' split) <;> omega
          have e4 : (if k = 6 then v_nx n else n) = (n + 1) := by unfold v_nx; (repeat' split) <;> omega
          rw [e2, e3, e4] at hq
          exact hq _ hS (by first | exact zh_eq.rf | exact zh_onf zh_eq.rf) ⟨(by rw [zf_nj (by decide)]; exact c0), (by rw [zf_nj (by decide)]; exact c1), (by rw [zf_nj (by decide)]; exact c2), (by rw [zf_nj (by decide)]; exact c3), (by exact zf_at9 hS100 (by first | assumption | exact ⟨by decide, rfl⟩) rfl)⟩
        · refine zp_bipush (v := (nI 97)) rfl (by decide +kernel) ?_
          refine zp_goto (tgt := 100) rfl rfl ?_
          refine zq_put hS rfl (by first | assumption | exact ⟨by decide, rfl⟩) rfl rfl (fun hS100 => ?_)
          have hS := hS100
          refine zp_vret rfl rfl ?_
          have e2 : (if k = 4 then v_nx m else m) = m := by unfold v_nx; (repeat' split) <;> omega
          have e3 : (if k = 2 then v_nx b else b) = b := by unfold v_nx; (repeat' split) <;> omega
          have e4 : (if k = 6 then v_nx n else n) = 97 := by unfold v_nx; (repeat' split) <;> omega
          rw [e2, e3, e4] at hq
          exact hq _ hS (by first | exact zh_eq.rf | exact zh_onf zh_eq.rf) ⟨(by rw [zf_nj (by decide)]; exact c0), (by rw [zf_nj (by decide)]; exact c1), (by rw [zf_nj (by decide)]; exact c2), (by rw [zf_nj (by decide)]; exact c3), (by exact zf_at9 hS100 (by first | assumption | exact ⟨by decide, rfl⟩) rfl)⟩
    · refine zp_aload_n (x := r) rfl rfl ?_
      refine zp_aload_n (x := r) rfl rfl ?_
      refine zq_geti hS rfl (by first | assumption | exact ⟨by decide, rfl⟩) rfl ?_
      rw [c2]
      refine zp_bipush (v := (nI 122)) rfl (by decide +kernel) ?_
      refine zp_icmpN_ne (tgt := 58) rfl rfl (by omega) (by omega) (fun b50 => ?_) (fun b50 => ?_)
      · refine zp_aload_n (x := r) rfl rfl ?_
        refine zq_geti hS rfl (by first | assumption | exact ⟨by decide, rfl⟩) rfl ?_
        rw [c2]
        refine zp_iconst (v := (nI 1)) rfl (by decide +kernel) ?_
        refine zp_iaddN rfl ?_
        refine zq_put hS rfl (by first | assumption | exact ⟨by decide, rfl⟩) rfl rfl (fun hS64 => ?_)
        have hS := hS64
        refine zp_goto (tgt := 103) rfl rfl ?_
        refine zp_vret rfl rfl ?_
        have e2 : (if k = 4 then v_nx m else m) = (m + 1) := by unfold v_nx; (repeat' split) <;> omega
        have e3 : (if k = 2 then v_nx b else b) = b := by unfold v_nx; (repeat' split) <;> omega
        have e4 : (if k = 6 then v_nx n else n) = n := by unfold v_nx; (repeat' split) <;> omega
        rw [e2, e3, e4] at hq
        exact hq _ hS (by first | exact zh_eq.rf | exact zh_onf zh_eq.rf) ⟨(by rw [zf_nj (by decide)]; exact c0), (by rw [zf_nj (by decide)]; exact c1), (by exact zf_at9 hS64 (by first | assumption | exact ⟨by decide, rfl⟩) rfl), (by rw [zf_nj (by decide)]; exact c3), (by rw [zf_nj (by decide)]; exact c4)⟩
      · refine zp_bipush (v := (nI 97)) rfl (by decide +kernel) ?_
        refine zp_goto (tgt := 64) rfl rfl ?_
        refine zq_put hS rfl (by first | assumption | exact ⟨by decide, rfl⟩) rfl rfl (fun hS64 => ?_)
        have hS := hS64
        refine zp_goto (tgt := 103) rfl rfl ?_
        refine zp_vret rfl rfl ?_
        have e2 : (if k = 4 then v_nx m else m) = 97 := by unfold v_nx; (repeat' split) <;> omega
        have e3 : (if k = 2 then v_nx b else b) = b := by unfold v_nx; (repeat' split) <;> omega
        have e4 : (if k = 6 then v_nx n else n) = n := by unfold v_nx; (repeat' split) <;> omega
        rw [e2, e3, e4] at hq
        exact hq _ hS (by first | exact zh_eq.rf | exact zh_onf zh_eq.rf) ⟨(by rw [zf_nj (by decide)]; exact c0), (by rw [zf_nj (by decide)]; exact c1), (by exact zf_at9 hS64 (by first | assumption | exact ⟨by decide, rfl⟩) rfl), (by rw [zf_nj (by decide)]; exact c3), (by rw [zf_nj (by decide)]; exact c4)⟩
  · refine zp_aload_n (x := r) rfl rfl ?_
    refine zp_aload_n (x := r) rfl rfl ?_
    refine zq_geti hS rfl (by first | assumption | exact ⟨by decide, rfl⟩) rfl ?_
    rw [c3]
    refine zp_bipush (v := (nI 90)) rfl (by decide +kernel) ?_
    refine zp_icmpN_ne (tgt := 23) rfl rfl (by omega) (by omega) (fun b15 => ?_) (fun b15 => ?_)
    · refine zp_aload_n (x := r) rfl rfl ?_
      refine zq_geti hS rfl (by first | assumption | exact ⟨by decide, rfl⟩) rfl ?_
      rw [c3]
      refine zp_iconst (v := (nI 1)) rfl (by decide +kernel) ?_
      refine zp_iaddN rfl ?_
      refine zq_put hS rfl (by first | assumption | exact ⟨by decide, rfl⟩) rfl rfl (fun hS29 => ?_)
      have hS := hS29
      refine zp_goto (tgt := 103) rfl rfl ?_
      refine zp_vret rfl rfl ?_
      have e2 : (if k = 4 then v_nx m else m) = m := by unfold v_nx; (repeat' split) <;> omega
      have e3 : (if k = 2 then v_nx b else b) = (b + 1) := by unfold v_nx; (repeat' split) <;> omega
      have e4 : (if k = 6 then v_nx n else n) = n := by unfold v_nx; (repeat' split) <;> omega
      rw [e2, e3, e4] at hq
      exact hq _ hS (by first | exact zh_eq.rf | exact zh_onf zh_eq.rf) ⟨(by rw [zf_nj (by decide)]; exact c0), (by rw [zf_nj (by decide)]; exact c1), (by rw [zf_nj (by decide)]; exact c2), (by exact zf_at9 hS29 (by first | assumption | exact ⟨by decide, rfl⟩) rfl), (by rw [zf_nj (by decide)]; exact c4)⟩
    · refine zp_bipush (v := (nI 65)) rfl (by decide +kernel) ?_
      refine zp_goto (tgt := 29) rfl rfl ?_
      refine zq_put hS rfl (by first | assumption | exact ⟨by decide, rfl⟩) rfl rfl (fun hS29 => ?_)
      have hS := hS29
      refine zp_goto (tgt := 103) rfl rfl ?_
      refine zp_vret rfl rfl ?_
      have e2 : (if k = 4 then v_nx m else m) = m := by unfold v_nx; (repeat' split) <;> omega
      have e3 : (if k = 2 then v_nx b else b) = 65 := by unfold v_nx; (repeat' split) <;> omega
      have e4 : (if k = 6 then v_nx n else n) = n := by unfold v_nx; (repeat' split) <;> omega
      rw [e2, e3, e4] at hq
      exact hq _ hS (by first | exact zh_eq.rf | exact zh_onf zh_eq.rf) ⟨(by rw [zf_nj (by decide)]; exact c0), (by rw [zf_nj (by decide)]; exact c1), (by rw [zf_nj (by decide)]; exact c2), (by exact zf_at9 hS29 (by first | assumption | exact ⟨by decide, rfl⟩) rfl), (by rw [zf_nj (by decide)]; exact c4)⟩
/-! lists of changes: the object l, its row l + 1, its changes behind -/
abbrev q_rows (l : Nat) : List (Option Nat) := (List.range 30).map (fun i => some (l + 2 + i))
def zq_K (l : Nat) : Prop := zs_O l 1 [some (l + 1), none] ∧ zs_Q (l + 1) 30 (q_rows l) ∧ ∀ i, i < 30 → zq_C (l + 2 + i)
def zq_L (L : Nat → zch) (l : Nat) (h : zm_H) : Prop := ∀ i, i < 30 → zq_c (L i) (l + 2 + i) h
theorem zq_L.eq {L : Nat → zch} {S : Nat → Prop} {h h' : zm_H} (a : zq_L L l h) (e : zh_eq S h h') (hS : ∀ x, l + 2 ≤ x → x ≤ l + 31 → ¬ S x) : zq_L L l h' := fun i hi => (a i hi).eq e (hS _ (by omega) (by omega))
theorem q_rows_at {i : Nat} (hi : i < 30) : (q_rows l)[i]? = some (some (l + 2 + i)) := by simp [q_rows, hi]
theorem l_mm : ∀ i, i < 30 → (if nI 29 < nI i then nI 29 else nI i) = nI i ∧ (if nI 0 < nI i then nI i else nI 0) = nI i := by decide +kernel
theorem s_List_at {i : Nat} (hS : zs_H h) (hK : zq_K l) (hi : i < 30) (hq : Q (.inl (some (.ref (l + 2 + i)))) h) : zp_wm X y_List_at [.ref l, .int (nI i)] h Q := by
  obtain ⟨k1, k2, k3⟩ := hK
  show zp_wp X y_List_at 0 [.ref l, .int (nI i)] [] h Q
  refine zp_aload_n (x := l) rfl rfl ?_
  refine zq_getr (k9 := (l + 1)) hS rfl (by first | assumption | exact ⟨by decide, rfl⟩) rfl ?_
  refine zp_iconst (v := (nI 0)) rfl (by decide +kernel) ?_
  refine zp_iload_n (x := (nI i)) rfl rfl ?_
  refine zp_bipush (v := (nI 29)) rfl (by decide +kernel) ?_
  refine zp_min rfl rfl ?_
  rw [(l_mm i hi).1]
  refine zp_max rfl rfl ?_
  rw [(l_mm i hi).2]
  refine zq_qald hS rfl (by first | assumption | exact ⟨by decide, rfl⟩) (by omega) (by decide) (q := (l + 2 + i)) (q_rows_at hi) ?_
  refine zp_aret rfl rfl ?_
  exact hq
theorem s_List_append {L : Nat → zch} {n : Nat} (hS : zs_H h) (hK : zq_K l) (hL : zq_L L l h) (hn : cf h l 1 = nI n) (hn30 : n < 30) (hT : zq_C t) (hc : zq_c c t h) (hq : ∀ h', zs_H h' → zh_eq (fun x => l ≤ x ∧ x ≤ l + 31) h h' → zq_L (va_up L n c) l h' → cf h' l 1 = nI (n + 1) → Q (.inl none) h') : zp_wm X y_List_append [.ref l, .ref t] h Q := by
  obtain ⟨k1, k2, k3⟩ := hK
  have k3n := k3 n hn30
  show zp_wp X y_List_append 0 [.ref l, .ref t] [] h Q
  refine zp_aload_n (x := l) rfl rfl ?_
  refine zq_geti hS rfl (by first | assumption | exact ⟨by decide, rfl⟩) rfl ?_
  rw [hn]
  refine zp_bipush (v := (nI 30)) rfl (by decide +kernel) ?_
  refine zp_icmpN_ge (tgt := 32) rfl rfl (by omega) (by omega) (fun b6 => ?_) (fun b6 => ?_)
  · omega
  · refine zp_aload_n (x := l) rfl rfl ?_
    refine zq_getr (k9 := (l + 1)) hS rfl (by first | assumption | exact ⟨by decide, rfl⟩) rfl ?_
    refine zp_aload_n (x := l) rfl rfl ?_
    refine zq_geti hS rfl (by first | assumption | exact ⟨by decide, rfl⟩) rfl ?_
    rw [hn]
    refine zq_qald hS rfl (by first | assumption | exact ⟨by decide, rfl⟩) (by omega) (by decide) (q := (l + 2 + n)) (q_rows_at hn30) ?_
    refine zp_aload_n (x := t) rfl rfl ?_
    refine zq_virt hS rfl rfl (by first | assumption | exact ⟨by decide, rfl⟩) rfl (s_Change_copyFrom hS k3n hT hc (fun h2 hS2 he2 hc2 => ?_))
    have hn2 : cf h2 l 1 = nI n := by rw [he2.gf (by omega)]; exact hn
    have hS := hS2
    show zp_wp X y_List_append 22 [.ref l, .ref t] [] h2 Q
    refine zp_aload_n (x := l) rfl rfl ?_
    refine zp_dup_a rfl ?_
    refine zq_geti hS rfl (by first | assumption | exact ⟨by decide, rfl⟩) rfl ?_
    rw [hn2]
    refine zp_iconst (v := (nI 1)) rfl (by decide +kernel) ?_
    refine zp_iaddN rfl ?_
    refine zq_put hS rfl (by first | assumption | exact ⟨by decide, rfl⟩) rfl rfl (fun hS29 => ?_)
    have hS := hS29
    refine zp_vret rfl rfl ?_
    refine hq _ hS ((he2.mono (fun x e => by omega)).zf (by omega)) (fun i hi => ?_) (by exact zf_at9 hS29 (by first | assumption | exact ⟨by decide, rfl⟩) rfl)
    by_cases e : i = n
    · subst e
      have : va_up L i c i = c := by simp [va_up]
      rw [this]
      exact hc2.eq (zh_onf zh_eq.rf) (by omega)
    · have : va_up L n c i = L i := by simp [va_up, e]
      rw [this]
      exact ((hL i hi).eq he2 (by omega)).eq (zh_onf zh_eq.rf) (by omega)
theorem s_List_copyFrom {L : Nat → zch} {n : Nat} (hS : zs_H h) (hK : zq_K l) (hK2 : zq_K t) (hd : l + 31 < t ∨ t + 31 < l) (hL : zq_L L t h) (hn : cf h t 1 = nI n) (hq : ∀ h', zs_H h' → zh_eq (fun x => l ≤ x ∧ x ≤ l + 31) h h' → zq_L L l h' → cf h' l 1 = nI n → Q (.inl none) h') : zp_wm X y_List_copyFrom [.ref l, .ref t] h Q := by
  obtain ⟨k1, k2, k3⟩ := hK
  obtain ⟨j1, j2, j3⟩ := hK2
  show zp_wp X y_List_copyFrom 0 [.ref l, .ref t, zm_mk] [] h Q
  have lp : ∀ k i h', i + k = 30 → zs_H h' → zh_eq (fun x => l ≤ x ∧ x ≤ l + 31) h h' → (∀ j, j < i → zq_c (L j) (l + 2 + j) h') → cf h' l 1 = nI n → zp_wp X y_List_copyFrom 10 [.ref l, .ref t, .int (nI i)] [] h' Q := by
    intro k
    induction k with
    | zero =>
      intro i h' hi hS he hc h1
      have hi : i = 30 := by omega
      subst hi
      refine zp_iload_n (x := (nI 30)) rfl rfl ?_
      refine zp_bipush (v := (nI 30)) rfl (by decide +kernel) ?_
      refine zp_icT (tgt := 37) rfl rfl (by decide +kernel) ?_
      refine zp_vret rfl rfl ?_
      exact hq _ hS he hc h1
    | succ k ih =>
      intro i h' hi hS he hc h1
      have hi30 : i < 30 := by omega
      have k3n := k3 i hi30
      have j3n := j3 i hi30
      have hLt := (hL i hi30).eq he (by omega)
      refine zp_iload_n (x := (nI i)) rfl rfl ?_
      refine zp_bipush (v := (nI 30)) rfl (by decide +kernel) ?_
      refine zp_icmpN_ge (tgt := 37) rfl rfl (by omega) (by omega) (fun b13 => ?_) (fun b13 => ?_)
      · omega
      · refine zp_aload_n (x := l) rfl rfl ?_
        refine zq_getr (k9 := (l + 1)) hS rfl (by first | assumption | exact ⟨by decide, rfl⟩) rfl ?_
        refine zp_iload_n (x := (nI i)) rfl rfl ?_
        refine zq_qald hS rfl (by first | assumption | exact ⟨by decide, rfl⟩) (by omega) (by decide) (q := (l + 2 + i)) (q_rows_at hi30) ?_
        refine zp_aload_n (x := t) rfl rfl ?_
        refine zq_getr (k9 := (t + 1)) hS rfl (by first | assumption | exact ⟨by decide, rfl⟩) rfl ?_
        refine zp_iload_n (x := (nI i)) rfl rfl ?_
        refine zq_qald hS rfl (by first | assumption | exact ⟨by decide, rfl⟩) (by omega) (by decide) (q := (t + 2 + i)) (q_rows_at hi30) ?_
        refine zq_virt hS rfl rfl (by first | assumption | exact ⟨by decide, rfl⟩) rfl (s_Change_copyFrom hS k3n j3n hLt (fun h2 hS2 he2 hc2 => ?_))
        show zp_wp X y_List_copyFrom 31 [.ref l, .ref t, .int (nI i)] [] h2 Q
        refine zp_iincN_2 rfl rfl ?_
        refine zp_goto (tgt := 10) rfl rfl ?_
        refine ih (i + 1) _ (by omega) hS2 (he.trans (he2.mono (fun x e => by omega))) (fun j hj => ?_) (by rw [he2.gf (by omega)]; exact h1)
        by_cases e : j = i
        · subst e; exact hc2
        · exact (hc j (by omega)).eq he2 (by omega)
  refine zp_aload_n (x := l) rfl rfl ?_
  refine zp_aload_n (x := t) rfl rfl ?_
  refine zq_geti hS rfl (by first | assumption | exact ⟨by decide, rfl⟩) rfl ?_
  rw [hn]
  refine zq_put hS rfl (by first | assumption | exact ⟨by decide, rfl⟩) rfl rfl (fun hS5 => ?_)
  have hS := hS5
  refine zp_iconst (v := (nI 0)) rfl (by decide +kernel) ?_
  refine zp_istore_n_2 rfl rfl ?_
  exact lp 30 0 _ rfl hS (zh_eq.rf.zf (by omega)) (fun j hj => absurd hj (by omega)) (by exact zf_at9 hS5 (by first | assumption | exact ⟨by decide, rfl⟩) rfl)
theorem s_Prog_makeFirst {L : Nat → zch} {n : Nat} (hS : zs_H h) (hA : zq_A p) (hP : zq_P V p h) (hW : zv_W V) (hK : zq_K l) (hL : zq_L L l h) (hd : p + 6 < l ∨ l + 31 < p) (hn : n ≤ 30) (hc : ∀ i, i < n → zc_leg (L i)) (hq : ∀ h', zq_post (v_go V L n) p h h' → Q (.inl none) h') : zp_wm X y_Prog_makeFirst [.ref p, .ref l, .int (nI n)] h Q := by
  have hA' := hA
  have hA0 := hA.1
  have hK' := hK
  obtain ⟨k1, k2, k3⟩ := hK
  show zp_wp X y_Prog_makeFirst 0 [.ref p, .ref l, .int (nI n), zm_mk] [] h Q
  have lp : ∀ k i h', i + k = n → zq_post (v_go V L i) p h h' → zp_wp X y_Prog_makeFirst 2 [.ref p, .ref l, .int (nI n), .int (nI i)] [] h' Q := by
    intro k
    induction k with
    | zero =>
      intro i h' hi hp
      have hS := hp.1
      have hi : i = n := by omega
      subst hi
      refine zp_iload_n (x := (nI i)) rfl rfl ?_
      refine zp_iload_n (x := (nI i)) rfl rfl ?_
      refine zp_icmpN_ge (tgt := 29) rfl rfl (by omega) (by omega) (fun b4 => ?_) (fun b4 => ?_)
      · refine zp_vret rfl rfl ?_
        exact hq _ hp
      · omega
    | succ k ih =>
      intro i h' hi hp
      have hS := hp.1
      have hL2 : zq_L L l h' := hL.eq hp.2.1 (fun x _ _ => by omega)
      refine zp_iload_n (x := (nI i)) rfl rfl ?_
      refine zp_iload_n (x := (nI n)) rfl rfl ?_
      refine zp_icmpN_ge (tgt := 29) rfl rfl (by omega) (by omega) (fun b4 => ?_) (fun b4 => ?_)
      · omega
      · refine zp_iload_n (x := (nI i)) rfl rfl ?_
        refine zp_bipush (v := (nI 30)) rfl (by decide +kernel) ?_
        refine zp_icmpN_ge (tgt := 29) rfl rfl (by omega) (by omega) (fun b10 => ?_) (fun b10 => ?_)
        · omega
        · refine zp_aload_n (x := p) rfl rfl ?_
          refine zp_aload_n (x := l) rfl rfl ?_
          refine zp_iload_n (x := (nI i)) rfl rfl ?_
          refine zq_virt hS rfl rfl (by first | assumption | exact ⟨by decide, rfl⟩) rfl (s_List_at hS hK' (by omega) ?_)
          show zp_wp X y_Prog_makeFirst 19 [.ref p, .ref l, .int (nI n), .int (nI i)] [.ref (l + 2 + i), .ref p] h' Q
          refine zq_virt hS rfl rfl (by first | assumption | exact ⟨by decide, rfl⟩) rfl (s_Prog_attempt hS hA' hp.2.2 (hW.go i (fun j hj => hc j (by omega))) (k3 i (by omega)) (hL2 i (by omega)) (hc i (by omega)) (fun h2 hp2 => ?_))
          show zp_wp X y_Prog_makeFirst 22 [.ref p, .ref l, .int (nI n), .int (nI i)] [.int (nI ((v_mk (v_go V L i) (L i)).1))] h2 Q
          refine zp_pop_i rfl ?_
          refine zp_iincN_3 rfl rfl ?_
          refine zp_goto (tgt := 2) rfl rfl ?_
          exact ih (i + 1) _ (by omega) ⟨hp2.1, hp.2.1.trans hp2.2.1, hp2.2.2⟩
  refine zp_iconst (v := (nI 0)) rfl (by decide +kernel) ?_
  refine zp_istore_n_3 rfl rfl ?_
  exact lp n 0 h (by omega) (zq_same hS hP)
end ZP7
