/-! the reference: are two versions the same, the log's places, going along a log -/
def v_twin (V : zv) (m : Nat) (W : zv) : Option Nat := v_mem W (v_cls W (v_cn V (v_ow V m))) (v_mn V m)
def v_bad1 (V W : zv) (c : Nat) : Bool := !(v_cn V c == 0) && (match v_cls W (v_cn V c) with
  | none => true
  | some k => !(v_sn V c == v_sn W k))
def v_bad2 (V W : zv) (m : Nat) : Bool := !(v_mn V m == 0) && (v_twin V m W).isNone
def v_bad3 (V W : zv) (k : Nat) : Bool := v_us V (k / 40) (k % 40) && (match v_twin V (k / 40) W, v_twin V (k % 40) W with
  | some a, some b => !(v_us W a b)
  | _, _ => true)
def v_part (V W : zv) : Bool := !(zf_any (v_bad1 V W) 0 12) && (!(zf_any (v_bad2 V W) 0 40) && !(zf_any (v_bad3 V W) 0 1600))
def v_one (V W : zv) : Bool := v_part V W && v_part W V
/-- uses are of members that are there -/
def zv_U (V : zv) : Prop := ∀ a b, a < 40 → b < 40 → v_us V a b = true → v_mn V a ≠ 0 ∧ v_mn V b ≠ 0
theorem nI_dm : ∀ i, i < 1600 → nI i / nI 40 = nI (i / 40) ∧ nI i - nI i / nI 40 * nI 40 = nI (i % 40) := by decide +kernel
theorem nI_sb : ∀ n, n < 31 → ∀ d, d < 3 → (nI n - nI d).toInt = (n : Int) - d := by decide +kernel
def g_lt (n : Nat) (i : Int32) : Bool := decide (0 ≤ i) && decide (i2n i < n)
theorem g_lt_in {n d : Nat} {i : Int32} (hn : n < 31) (h0 : 0 < d) (hd : d < 3) : (if nI 0 ≤ i ∧ i ≤ nI n - nI d then (1 : Int32) else 0) = zf_b (g_lt (n + 1 - d) i) := by
  have e := nI_sb n hn d hd
  unfold g_lt
  rw [nI_0]
  by_cases h1 : 0 ≤ i
  · have h2 := Int32.le_iff_toInt_le.mp h1
    have h3 : (i2n i : Int) = i.toInt := by unfold i2n Int32.toNatClampNeg; simp at h2; omega
    have h4 : (i ≤ nI n - nI d) ↔ i2n i < n + 1 - d := by rw [Int32.le_iff_toInt_le, e]; omega
    by_cases h5 : i2n i < n + 1 - d
    · rw [if_pos ⟨h1, h4.mpr h5⟩]; simp [h1, h5, zf_b]
    · rw [if_neg (fun q => h5 (h4.mp q.2))]; simp [h1, h5, zf_b]
  · rw [if_neg (fun q => h1 q.1)]; simp [h1, zf_b]
theorem g_lt_n {n : Nat} {i : Int32} (h : g_lt n i = true) : nI (i2n i) = i ∧ i2n i < n := by
  simp only [g_lt, Bool.and_eq_true, decide_eq_true_eq] at h
  exact ⟨nI_i2n h.1, h.2⟩
theorem g_lt_i {n i : Nat} (h : i < n) (hn : n < 2 ^ 31) : g_lt n (nI i) = true := by
  have e : i2n (nI i) = i := nI_clamp (by omega)
  unfold g_lt
  rw [e]
  simp [h, nI_pos' (show i < 2 ^ 31 by omega)]
theorem v_sn_lt {V : zv} {c : Nat} (hB : zv_B V) (hc : c < 12) : v_sn V c < 128 := by
  unfold v_sn
  split
  · decide
  · have := hB.2.1 c hc
    exact hB.1 _ (by omega)
section ZR9
variable {X : zm_X} {h h1 h2 : zm_H} {Q : zm_O → zm_H → Prop} {V W : zv} {s : zst} {T : List Nat} {r o : Nat}
theorem zv_us1 {A : Nat → Int32} (hV : zv_R V A) {i : Nat} (hi : i < 1600) : A (104 + i) = nI (cond (v_us V (i / 40) (i % 40)) 1 0) := by
  have h1 := hV.2.2.2.2 (i / 40) (i % 40) (by omega) (by omega)
  rw [show 104 + 40 * (i / 40) + i % 40 = 104 + i by omega] at h1
  exact h1
theorem s_Mod_twin {m : Nat} (hS : zs_H h) (hr : zs_I r 1704) (hV : zv_R V (ci h r)) (hB : zv_B V) (ho : zs_I o 1704) (hW : zv_R W (ci h o)) (hC : zv_B W) (hm : m < 40) (hq : Q (.inl (some (.int (zf_o (v_twin V m W))))) h) : zp_wm X y_Mod_twin [.ref r, .int (nI m), .ref o] h Q := by
  show zp_wp X y_Mod_twin 0 [.ref r, .int (nI m), .ref o] [] h Q
  refine zp_aload_n (x := o) rfl rfl ?_
  refine zp_aload_n (x := r) rfl rfl ?_
  refine zp_aload_n (x := r) rfl rfl ?_
  refine zp_bipush (v := (nI 64)) rfl (by decide +kernel) ?_
  refine zp_iload_n (x := (nI m)) rfl rfl ?_
  refine zp_iaddN rfl ?_
  refine zq_iald hS rfl (by first | assumption | exact ⟨by decide, rfl⟩) (by omega) (by decide) ?_
  rw [hV.2.2.2.1 (m) (by omega)]
  have q7 := hB.2.2.2 (m) (by omega)
  refine zq_iald hS rfl (by first | assumption | exact ⟨by decide, rfl⟩) (by omega) (by decide) ?_
  rw [hV.1 (v_ow V (m)) (by omega)]
  have q8 := hB.1 (v_ow V (m)) (by omega)
  refine zp_aload_n (x := r) rfl rfl ?_
  refine zp_bipush (v := (nI 24)) rfl (by decide +kernel) ?_
  refine zp_iload_n (x := (nI m)) rfl rfl ?_
  refine zp_iaddN rfl ?_
  refine zq_iald hS rfl (by first | assumption | exact ⟨by decide, rfl⟩) (by omega) (by decide) ?_
  rw [hV.2.2.1 (m) (by omega)]
  have q14 := hB.2.2.1 (m) (by omega)
  refine zp_call rfl rfl (t_Mod_memberOf hS ho hW hC (by omega) (by omega) ?_)
  show zp_wp X y_Mod_twin 18 [.ref r, .int (nI m), .ref o] [.int (zf_o (v_twin V m W))] h Q
  refine zp_iret rfl rfl ?_
  exact hq
theorem s_Mod_isPart (hS : zs_H h) (hr : zs_I r 1704) (hV : zv_R V (ci h r)) (hB : zv_B V) (hU : zv_U V) (ho : zs_I o 1704) (hW : zv_R W (ci h o)) (hC : zv_B W) (hq : Q (.inl (some (.int (zf_b (v_part V W))))) h) : zp_wm X y_Mod_isPart [.ref r, .ref o] h Q := by
  show zp_wp X y_Mod_isPart 0 [.ref r, .ref o, zm_mk, zm_mk] [] h Q
  unfold v_part at hq
  have lp3 : ∀ k i x, i + k = 1600 → zf_any (v_bad1 V W) 0 12 = false → zf_any (v_bad2 V W) 0 40 = false → zf_any (v_bad3 V W) 0 1600 = zf_any (v_bad3 V W) i k → zp_wp X y_Mod_isPart 93 [.ref r, .ref o, .int (nI i), x] [] h Q := by
    intro k
    induction k with
    | zero =>
      intro i x hi f1 f2 he
      refine zp_iload_n (x := (nI i)) rfl rfl ?_
      refine zp_sipush (v := (nI 1600)) rfl (by decide +kernel) ?_
      refine zp_icmpN_ge (tgt := 148) rfl rfl (by omega) (by omega) (fun b97 => ?_) (fun b97 => ?_)
      · refine zp_iconst (v := (nI 1)) rfl (by decide +kernel) ?_
        refine zp_zret rfl rfl (by decide) ?_
        rw [f1, f2, he] at hq; exact hq
      · omega
    | succ k ih =>
      intro i x hi f1 f2 he
      have hi2 : i < 1600 := by omega
      refine zp_iload_n (x := (nI i)) rfl rfl ?_
      refine zp_sipush (v := (nI 1600)) rfl (by decide +kernel) ?_
      refine zp_icmpN_ge (tgt := 148) rfl rfl (by omega) (by omega) (fun b97 => ?_) (fun b97 => ?_)
      · omega
      · refine zp_aload_n (x := r) rfl rfl ?_
        refine zp_bipush (v := (nI 104)) rfl (by decide +kernel) ?_
        refine zp_iload_n (x := (nI i)) rfl rfl ?_
        refine zp_iaddN rfl ?_
        refine zq_iald hS rfl (by first | assumption | exact ⟨by decide, rfl⟩) (by omega) (by decide) ?_
        rw [zv_us1 hV hi2]
        have q105 : cond (v_us V (i / 40) (i % 40)) 1 0 ≤ 1 := by cases v_us V (i / 40) (i % 40) <;> decide
        refine zp_iconst (v := (nI 1)) rfl (by decide +kernel) ?_
        refine zp_icmpN_ne (tgt := 142) rfl rfl (by omega) (by omega) (fun b107 => ?_) (fun b107 => ?_)
        · have hu : v_us V (i / 40) (i % 40) = false := by cases e : v_us V (i / 40) (i % 40) with | false => rfl | true => rw [e] at b107; exact absurd rfl b107
          have he := he.trans (zf_any_f (by simp [v_bad3, hu]))
          refine zp_iincN_2 rfl rfl ?_
          refine zp_goto (tgt := 93) rfl rfl ?_
          exact ih (i + 1) _ (by omega) f1 f2 he
        · have hu : v_us V (i / 40) (i % 40) = true := by cases e : v_us V (i / 40) (i % 40) with | true => rfl | false => rw [e] at b107; exact absurd b107 (by decide)
          have hl := hU _ _ (by omega) (by omega) hu
          have tw : ∀ m, m < 40 → v_mn V m ≠ 0 → ∃ t, v_twin V m W = some t := by
            intro m hm hn
            cases e : v_twin V m W with
            | some t => exact ⟨t, rfl⟩
            | none =>
              have : zf_any (v_bad2 V W) 0 40 = true := zf_any_iff.mpr ⟨m, by omega, by omega, by simp [v_bad2, hn, e]⟩
              rw [f2] at this
              cases this
          obtain ⟨t1, ht1⟩ := tw (i / 40) (by omega) hl.1
          obtain ⟨t2, ht2⟩ := tw (i % 40) (by omega) hl.2
          have l1 := (v_mem_lt ht1).1
          have l2 := (v_mem_lt ht2).1
          refine zp_aload_n (x := o) rfl rfl ?_
          refine zp_bipush (v := (nI 104)) rfl (by decide +kernel) ?_
          refine zp_bipush (v := (nI 40)) rfl (by decide +kernel) ?_
          refine zp_aload_n (x := r) rfl rfl ?_
          refine zp_iload_n (x := (nI i)) rfl rfl ?_
          refine zp_bipush (v := (nI 40)) rfl (by decide +kernel) ?_
          refine zp_idiv rfl (by decide +kernel) rfl ?_
          rw [(nI_dm i hi2).1]
          refine zp_aload_n (x := o) rfl rfl ?_
          refine zp_call rfl rfl (s_Mod_twin hS hr hV hB ho hW hC (by omega) ?_)
          rw [ht1]
          show zp_wp X y_Mod_isPart 124 [.ref r, .ref o, .int (nI i), x] [.int (nI t1), .int (nI 40), .int (nI 104), .ref o] h Q
          refine zp_imulN rfl ?_
          refine zp_iaddN rfl ?_
          refine zp_aload_n (x := r) rfl rfl ?_
          refine zp_iload_n (x := (nI i)) rfl rfl ?_
          refine zp_bipush (v := (nI 40)) rfl (by decide +kernel) ?_
          refine zp_irem rfl (by decide +kernel) rfl ?_
          rw [(nI_dm i hi2).2]
          refine zp_aload_n (x := o) rfl rfl ?_
          refine zp_call rfl rfl (s_Mod_twin hS hr hV hB ho hW hC (by omega) ?_)
          rw [ht2]
          show zp_wp X y_Mod_isPart 135 [.ref r, .ref o, .int (nI i), x] [.int (nI t2), .int (nI (104 + (40 * t1))), .ref o] h Q
          refine zp_iaddN rfl ?_
          refine zq_iald hS rfl (by first | assumption | exact ⟨by decide, rfl⟩) (by omega) (by decide) ?_
          rw [hW.2.2.2.2 (t1) (t2) (by omega) (by omega)]
          have q136 : cond (v_us W (t1) (t2)) 1 0 ≤ 1 := by cases v_us W (t1) (t2) <;> decide
          refine zp_ifN_ne (tgt := 142) rfl rfl (by omega) (fun b137 => ?_) (fun b137 => ?_)
          · have hu2 : v_us W t1 t2 = true := by cases e : v_us W t1 t2 with | true => rfl | false => rw [e] at b137; exact absurd rfl b137
            have he := he.trans (zf_any_f (by simp [v_bad3, hu, ht1, ht2, hu2]))
            refine zp_iincN_2 rfl rfl ?_
            refine zp_goto (tgt := 93) rfl rfl ?_
            exact ih (i + 1) _ (by omega) f1 f2 he
          · refine zp_iconst (v := (nI 0)) rfl (by decide +kernel) ?_
            refine zp_zret rfl rfl (by decide) ?_
            have hu2 : v_us W t1 t2 = false := by cases e : v_us W t1 t2 with | false => rfl | true => rw [e] at b137; exact absurd b137 (by decide)
            have he := he.trans (zf_any_t (by simp [v_bad3, hu, ht1, ht2, hu2]))
            rw [f1, f2, he] at hq
            exact hq
  have lp2 : ∀ k i x, i + k = 40 → zf_any (v_bad1 V W) 0 12 = false → zf_any (v_bad2 V W) 0 40 = zf_any (v_bad2 V W) i k → zp_wp X y_Mod_isPart 59 [.ref r, .ref o, .int (nI i), x] [] h Q := by
    intro k
    induction k with
    | zero =>
      intro i x hi f1 he
      refine zp_iload_n (x := (nI i)) rfl rfl ?_
      refine zp_bipush (v := (nI 40)) rfl (by decide +kernel) ?_
      refine zp_icmpN_ge (tgt := 91) rfl rfl (by omega) (by omega) (fun b62 => ?_) (fun b62 => ?_)
      · refine zp_iconst (v := (nI 0)) rfl (by decide +kernel) ?_
        refine zp_istore_n_2 rfl rfl ?_
        exact lp3 1600 0 _ rfl f1 he rfl
      · omega
    | succ k ih =>
      intro i x hi f1 he
      refine zp_iload_n (x := (nI i)) rfl rfl ?_
      refine zp_bipush (v := (nI 40)) rfl (by decide +kernel) ?_
      refine zp_icmpN_ge (tgt := 91) rfl rfl (by omega) (by omega) (fun b62 => ?_) (fun b62 => ?_)
      · omega
      · refine zp_aload_n (x := r) rfl rfl ?_
        refine zp_bipush (v := (nI 24)) rfl (by decide +kernel) ?_
        refine zp_iload_n (x := (nI i)) rfl rfl ?_
        refine zp_iaddN rfl ?_
        refine zq_iald hS rfl (by first | assumption | exact ⟨by decide, rfl⟩) (by omega) (by decide) ?_
        rw [hV.2.2.1 (i) (by omega)]
        have q70 := hB.2.2.1 (i) (by omega)
        refine zp_ifN_eq (tgt := 85) rfl rfl (by omega) (fun b71 => ?_) (fun b71 => ?_)
        · have he := he.trans (zf_any_f (by simp [v_bad2, b71]))
          refine zp_iincN_2 rfl rfl ?_
          refine zp_goto (tgt := 59) rfl rfl ?_
          exact ih (i + 1) _ (by omega) f1 he
        · refine zp_aload_n (x := r) rfl rfl ?_
          refine zp_iload_n (x := (nI i)) rfl rfl ?_
          refine zp_aload_n (x := o) rfl rfl ?_
          refine zp_call rfl rfl (s_Mod_twin hS hr hV hB ho hW hC (by omega) ?_)
          cases hz : v_twin V i W with
          | none =>
            show zp_wp X y_Mod_isPart 80 [.ref r, .ref o, .int (nI i), x] [.int (-1)] h Q
            refine zp_ifF (tgt := 85) rfl rfl (by decide +kernel) ?_
            refine zp_iconst (v := (nI 0)) rfl (by decide +kernel) ?_
            refine zp_zret rfl rfl (by decide) ?_
            have he := he.trans (zf_any_t (by simp [v_bad2, hz, b71]))
            rw [f1, he] at hq
            exact hq
          | some t =>
            have ht := (v_mem_lt hz).1
            have he := he.trans (zf_any_f (by simp [v_bad2, hz]))
            show zp_wp X y_Mod_isPart 80 [.ref r, .ref o, .int (nI i), x] [.int (nI t)] h Q
            refine zp_ifT (tgt := 85) rfl rfl (zc_ge (by omega)) ?_
            refine zp_iincN_2 rfl rfl ?_
            refine zp_goto (tgt := 59) rfl rfl ?_
            exact ih (i + 1) _ (by omega) f1 he
  have lp1 : ∀ k i x, i + k = 12 → zf_any (v_bad1 V W) 0 12 = zf_any (v_bad1 V W) i k → zp_wp X y_Mod_isPart 2 [.ref r, .ref o, .int (nI i), x] [] h Q := by
    intro k
    induction k with
    | zero =>
      intro i x hi he
      refine zp_iload_n (x := (nI i)) rfl rfl ?_
      refine zp_bipush (v := (nI 12)) rfl (by decide +kernel) ?_
      refine zp_icmpN_ge (tgt := 57) rfl rfl (by omega) (by omega) (fun b5 => ?_) (fun b5 => ?_)
      · refine zp_iconst (v := (nI 0)) rfl (by decide +kernel) ?_
        refine zp_istore_n_2 rfl rfl ?_
        exact lp2 40 0 _ rfl he rfl
      · omega
    | succ k ih =>
      intro i x hi he
      have hn1 := v_sn_lt (c := i) hB (by omega)
      by_cases hc : v_cn V i = 0
      · have he := he.trans (zf_any_f (by simp [v_bad1, hc]))
        refine zp_iload_n (x := (nI i)) rfl rfl ?_
        refine zp_bipush (v := (nI 12)) rfl (by decide +kernel) ?_
        refine zp_icmpN_ge (tgt := 57) rfl rfl (by omega) (by omega) (fun b5 => ?_) (fun b5 => ?_)
        · omega
        · refine zp_aload_n (x := r) rfl rfl ?_
          refine zp_iload_n (x := (nI i)) rfl rfl ?_
          refine zq_iald hS rfl (by first | assumption | exact ⟨by decide, rfl⟩) (by omega) (by decide) ?_
          rw [hV.1 (i) (by omega)]
          have q10 := hB.1 (i) (by omega)
          refine zp_ifN_ne (tgt := 18) rfl rfl (by omega) (fun b11 => ?_) (fun b11 => ?_)
          · omega
          · refine zp_iload_n (x := (nI i)) rfl rfl ?_
            refine zp_goto (tgt := 25) rfl rfl ?_
            refine zp_istore_n_3 rfl rfl ?_
            refine zp_aload_n (x := r) rfl rfl ?_
            refine zp_iload_n (x := (nI i)) rfl rfl ?_
            refine zq_iald hS rfl (by first | assumption | exact ⟨by decide, rfl⟩) (by omega) (by decide) ?_
            rw [hV.1 (i) (by omega)]
            have q28 := hB.1 (i) (by omega)
            refine zp_ifN_eq (tgt := 51) rfl rfl (by omega) (fun b29 => ?_) (fun b29 => ?_)
            · refine zp_iincN_2 rfl rfl ?_
              refine zp_goto (tgt := 2) rfl rfl ?_
              exact ih (i + 1) _ (by omega) he
            · omega
      · refine zp_iload_n (x := (nI i)) rfl rfl ?_
        refine zp_bipush (v := (nI 12)) rfl (by decide +kernel) ?_
        refine zp_icmpN_ge (tgt := 57) rfl rfl (by omega) (by omega) (fun b5 => ?_) (fun b5 => ?_)
        · omega
        · refine zp_aload_n (x := r) rfl rfl ?_
          refine zp_iload_n (x := (nI i)) rfl rfl ?_
          refine zq_iald hS rfl (by first | assumption | exact ⟨by decide, rfl⟩) (by omega) (by decide) ?_
          rw [hV.1 (i) (by omega)]
          have q10 := hB.1 (i) (by omega)
          refine zp_ifN_ne (tgt := 18) rfl rfl (by omega) (fun b11 => ?_) (fun b11 => ?_)
          · refine zp_aload_n (x := o) rfl rfl ?_
            refine zp_aload_n (x := r) rfl rfl ?_
            refine zp_iload_n (x := (nI i)) rfl rfl ?_
            refine zq_iald hS rfl (by first | assumption | exact ⟨by decide, rfl⟩) (by omega) (by decide) ?_
            rw [hV.1 (i) (by omega)]
            have q21 := hB.1 (i) (by omega)
            refine zp_call rfl rfl (t_Mod_classAt hS ho hW hC (by omega) ?_)
            cases hz : v_cls W (v_cn V i) with
            | none =>
              show zp_wp X y_Mod_isPart 25 [.ref r, .ref o, .int (nI i), x] [.int (-1)] h Q
              refine zp_istore_n_3 rfl rfl ?_
              refine zp_aload_n (x := r) rfl rfl ?_
              refine zp_iload_n (x := (nI i)) rfl rfl ?_
              refine zq_iald hS rfl (by first | assumption | exact ⟨by decide, rfl⟩) (by omega) (by decide) ?_
              rw [hV.1 (i) (by omega)]
              have q28 := hB.1 (i) (by omega)
              refine zp_ifN_eq (tgt := 51) rfl rfl (by omega) (fun b29 => ?_) (fun b29 => ?_)
              · omega
              · refine zp_iload_n (x := (-1)) rfl rfl ?_
                refine zp_ifT (tgt := 49) rfl rfl (by decide +kernel) ?_
                refine zp_iconst (v := (nI 0)) rfl (by decide +kernel) ?_
                refine zp_zret rfl rfl (by decide) ?_
                have he := he.trans (zf_any_t (by first | simp [v_bad1, hz, hc, b46] | simp [v_bad1, hz, hc]))
                rw [he] at hq
                exact hq
            | some d =>
              have hd := (v_cls_lt hz).1
              have hn2 := v_sn_lt (c := d) hC hd
              show zp_wp X y_Mod_isPart 25 [.ref r, .ref o, .int (nI i), x] [.int (nI d)] h Q
              refine zp_istore_n_3 rfl rfl ?_
              refine zp_aload_n (x := r) rfl rfl ?_
              refine zp_iload_n (x := (nI i)) rfl rfl ?_
              refine zq_iald hS rfl (by first | assumption | exact ⟨by decide, rfl⟩) (by omega) (by decide) ?_
              rw [hV.1 (i) (by omega)]
              have q28 := hB.1 (i) (by omega)
              refine zp_ifN_eq (tgt := 51) rfl rfl (by omega) (fun b29 => ?_) (fun b29 => ?_)
              · omega
              · refine zp_iload_n (x := (nI d)) rfl rfl ?_
                refine zp_ifF (tgt := 49) rfl rfl (zc_lt (by omega)) ?_
                refine zp_aload_n (x := r) rfl rfl ?_
                refine zp_iload_n (x := (nI i)) rfl rfl ?_
                refine zp_call rfl rfl (s_Mod_nameOfSuper hS hr hV hB (by omega) ?_)
                show zp_wp X y_Mod_isPart 41 [.ref r, .ref o, .int (nI i), .int (nI d)] [.int (nI (v_sn V i))] h Q
                refine zp_aload_n (x := o) rfl rfl ?_
                refine zp_iload_n (x := (nI d)) rfl rfl ?_
                refine zp_call rfl rfl (s_Mod_nameOfSuper hS ho hW hC hd ?_)
                show zp_wp X y_Mod_isPart 46 [.ref r, .ref o, .int (nI i), .int (nI d)] [.int (nI (v_sn W d)), .int (nI (v_sn V i))] h Q
                refine zp_icmpN_eq (tgt := 51) rfl rfl (by omega) (by omega) (fun b46 => ?_) (fun b46 => ?_)
                · refine zp_iincN_2 rfl rfl ?_
                  refine zp_goto (tgt := 2) rfl rfl ?_
                  exact ih (i + 1) _ (by omega) (he.trans (zf_any_f (by simp [v_bad1, hz, b46])))
                · refine zp_iconst (v := (nI 0)) rfl (by decide +kernel) ?_
                  refine zp_zret rfl rfl (by decide) ?_
                  have he := he.trans (zf_any_t (by first | simp [v_bad1, hz, hc, b46] | simp [v_bad1, hz, hc]))
                  rw [he] at hq
                  exact hq
          · omega
  refine zp_iconst (v := (nI 0)) rfl (by decide +kernel) ?_
  refine zp_istore_n_2 rfl rfl ?_
  exact lp1 12 0 _ rfl rfl
theorem s_Mod_areOne (hS : zs_H h) (hr : zs_I r 1704) (hV : zv_R V (ci h r)) (hB : zv_B V) (hU : zv_U V) (ho : zs_I o 1704) (hW : zv_R W (ci h o)) (hC : zv_B W) (hU2 : zv_U W) (hq : Q (.inl (some (.int (zf_b (v_one V W))))) h) : zp_wm X y_Mod_areOne [.ref r, .ref o] h Q := by
  show zp_wp X y_Mod_areOne 0 [.ref r, .ref o] [] h Q
  unfold v_one at hq
  refine zp_aload_n (x := r) rfl rfl ?_
  refine zp_aload_n (x := o) rfl rfl ?_
  refine zp_call rfl rfl (s_Mod_isPart hS hr hV hB hU ho hW hC ?_)
  cases e1 : v_part V W with
  | false =>
    show zp_wp X y_Mod_areOne 5 [.ref r, .ref o] [.int (nI 0)] h Q
    refine zp_ifT (tgt := 20) rfl rfl (by decide +kernel) ?_
    refine zp_iconst (v := (nI 0)) rfl (by decide +kernel) ?_
    refine zp_zret rfl rfl (by decide) ?_
    simp only [*] at hq; exact hq
  | true =>
    show zp_wp X y_Mod_areOne 5 [.ref r, .ref o] [.int (nI 1)] h Q
    refine zp_ifF (tgt := 20) rfl rfl (by decide +kernel) ?_
    refine zp_aload_n (x := o) rfl rfl ?_
    refine zp_aload_n (x := r) rfl rfl ?_
    refine zp_call rfl rfl (s_Mod_isPart hS ho hW hC hU2 hr hV hB ?_)
    cases e2 : v_part W V with
    | false =>
      show zp_wp X y_Mod_areOne 13 [.ref r, .ref o] [.int (nI 0)] h Q
      refine zp_ifT (tgt := 20) rfl rfl (by decide +kernel) ?_
      refine zp_iconst (v := (nI 0)) rfl (by decide +kernel) ?_
      refine zp_zret rfl rfl (by decide) ?_
      simp only [*] at hq; exact hq
    | true =>
      show zp_wp X y_Mod_areOne 13 [.ref r, .ref o] [.int (nI 1)] h Q
      refine zp_ifF (tgt := 20) rfl rfl (by decide +kernel) ?_
      refine zp_iconst (v := (nI 1)) rfl (by decide +kernel) ?_
      refine zp_goto (tgt := 21) rfl rfl ?_
      refine zp_zret rfl rfl (by decide) ?_
      simp only [*] at hq; exact hq
def z_same (s : zst) : Nat × Int32 × zst := (0, zf_b (v_one (g_0 s) (g_1 s)), s)
theorem s_Mod_areSame (hs : zr_S s h) (hB : zr_B s) (hU0 : zv_U (g_0 s)) (hU1 : zv_U (g_1 s)) (hq : ∀ h', zr_D s 0 h h' → Q (.inl (some (.int (zf_b (v_one (g_0 s) (g_1 s)))))) h') : zp_wm X y_Mod_areSame [.ref 171] h Q := by
  have hS := hs.1
  show zp_wp X y_Mod_areSame 0 [.ref 171] [] h Q
  refine zp_aload_n (x := 171) rfl rfl ?_
  refine zp_iconst (v := (nI 0)) rfl (by decide +kernel) ?_
  refine zq_put hS rfl (by first | assumption | exact ⟨by decide, rfl⟩) rfl rfl (fun hS2 => ?_)
  have hS := hS2
  refine zp_aload_n (x := 171) rfl rfl ?_
  refine zq_getr (k9 := 172) hS rfl (by first | assumption | exact ⟨by decide, rfl⟩) rfl ?_
  refine zp_aload_n (x := 171) rfl rfl ?_
  refine zq_getr (k9 := 173) hS rfl (by first | assumption | exact ⟨by decide, rfl⟩) rfl ?_
  refine zp_call rfl rfl (s_Mod_areOne hS ⟨by decide, rfl⟩ (zr_hs9 hs hS).2.1.1 hB.1.1 hU0 ⟨by decide, rfl⟩ (zr_hs9 hs hS).2.1.2.1 hB.1.2.1 hU1 ?_)
  show zp_wp X y_Mod_areSame 16 [.ref 171] [.int (zf_b (v_one (g_0 s) (g_1 s)))] (zf_put h 171 9 (nI 0)) Q
  refine zp_zret rfl rfl (zf_b01 _) ?_
  exact hq _ ((zr_F.f9 (T := []) hS).D hs (by decide) (by decide) (zf_at9 hS zs_M rfl))
def z_kind (s : zst) (i : Int32) : Nat × Int32 × zst := cond (g_lt (g_n s) i) (0, nI (g_L s (i2n i)).1, s) (1, nI 0, s)
theorem zr_9 {t : Nat} {u : Int32} (hs : zr_S s h) (hS : zs_H (zf_put h 171 9 u)) (hS3 : zs_H (zf_put (zf_put h 171 9 u) 171 9 (nI t))) : zr_D s t h (zf_put (zf_put h 171 9 u) 171 9 (nI t)) := ((zr_F.f9 (T := []) hS).tr (zr_F.f9 (T := []) hS3) (fun _ q => q)).D hs (by decide) (by decide) (zf_at9 hS3 zs_M rfl)
theorem s_Mod_kindOf {i : Int32} (hs : zr_S s h) (hB : zr_B s) (hq : ∀ h', zr_D (z_kind s i).2.2 (z_kind s i).1 h h' → Q (.inl (some (.int (z_kind s i).2.1))) h') : zp_wm X y_Mod_kindOf [.ref 171, .int i] h Q := by
  have hS := hs.1
  have hn := hs.2.2.2.1
  have hn30 := hB.2.2.1
  unfold z_kind at hq
  show zp_wp X y_Mod_kindOf 0 [.ref 171, .int i] [] h Q
  cases hi : g_lt (g_n s) i with
  | false =>
    rw [hi] at hq
    refine zp_aload_n (x := 171) rfl rfl ?_
    refine zp_iconst (v := (nI 0)) rfl (by decide +kernel) ?_
    refine zq_put hS rfl (by first | assumption | exact ⟨by decide, rfl⟩) rfl rfl (fun hS2 => ?_)
    have hS := hS2
    refine zp_iload_n (x := i) rfl rfl ?_
    refine zp_iconst (v := (nI 0)) rfl (by decide +kernel) ?_
    refine zp_aload_n (x := 171) rfl rfl ?_
    refine zq_geti hS rfl (by first | assumption | exact ⟨by decide, rfl⟩) rfl ?_
    rw [zf_nj (by decide)]
    rw [hn]
    refine zp_iconst (v := (nI 1)) rfl (by decide +kernel) ?_
    refine zp_isub rfl rfl ?_
    refine zp_call rfl rfl (s_Mod_in ?_)
    rw [g_lt_in (by omega) (by decide) (by decide), Nat.add_sub_cancel, hi]
    show zp_wp X y_Mod_kindOf 16 [.ref 171, .int i] [.int (nI 0)] (zf_put h 171 9 (nI 0)) Q
    refine zp_ifT (tgt := 30) rfl rfl (by decide +kernel) ?_
    refine zp_aload_n (x := 171) rfl rfl ?_
    refine zp_iconst (v := (nI 1)) rfl (by decide +kernel) ?_
    refine zq_virt hS rfl rfl (by first | assumption | exact ⟨by decide, rfl⟩) rfl (s_Mod_fails hS (fun hS3 => ?_))
    show zp_wp X y_Mod_kindOf 35 [.ref 171, .int i] [.int (nI 0)] (zf_put (zf_put h 171 9 (nI 0)) 171 9 (nI 1)) Q
    refine zp_iret rfl rfl ?_
    exact hq _ (zr_9 hs hS hS3)
  | true =>
    rw [hi] at hq
    obtain ⟨hi1, hi2⟩ := g_lt_n hi
    clear hi
    generalize i2n i = i' at *
    subst hi1
    refine zp_aload_n (x := 171) rfl rfl ?_
    refine zp_iconst (v := (nI 0)) rfl (by decide +kernel) ?_
    refine zq_put hS rfl (by first | assumption | exact ⟨by decide, rfl⟩) rfl rfl (fun hS2 => ?_)
    have hS := hS2
    refine zp_iload_n (x := (nI i')) rfl rfl ?_
    refine zp_iconst (v := (nI 0)) rfl (by decide +kernel) ?_
    refine zp_aload_n (x := 171) rfl rfl ?_
    refine zq_geti hS rfl (by first | assumption | exact ⟨by decide, rfl⟩) rfl ?_
    rw [zf_nj (by decide)]
    rw [hn]
    refine zp_iconst (v := (nI 1)) rfl (by decide +kernel) ?_
    refine zp_isub rfl rfl ?_
    refine zp_call rfl rfl (s_Mod_in ?_)
    rw [g_lt_in (by omega) (by decide) (by decide), Nat.add_sub_cancel, g_lt_i hi2 (by omega)]
    show zp_wp X y_Mod_kindOf 16 [.ref 171, .int (nI i')] [.int (nI 1)] (zf_put h 171 9 (nI 0)) Q
    refine zp_ifF (tgt := 30) rfl rfl (by decide +kernel) ?_
    refine zp_aload_n (x := 171) rfl rfl ?_
    refine zq_getr (k9 := 178) hS rfl (by first | assumption | exact ⟨by decide, rfl⟩) rfl ?_
    refine zp_iconst (v := (nI 5)) rfl (by decide +kernel) ?_
    refine zp_iload_n (x := (nI i')) rfl rfl ?_
    refine zp_imulN rfl ?_
    refine zq_iald hS rfl (by first | assumption | exact ⟨by decide, rfl⟩) (by omega) (by decide) ?_
    rw [zf_ci (a := 171) (b := 178) (by decide)]
    rw [(hs.2.2.1 i' (by omega)).1]
    refine zp_goto (tgt := 35) rfl rfl ?_
    refine zp_iret rfl rfl ?_
    exact hq _ ((zr_F.f9 (T := []) hS).D hs (by decide) (by decide) (zf_at9 hS zs_M rfl))
def zc_nm (c : zch) (w : Nat) : Nat := match w with
  | 0 => c.2.1
  | 1 => c.2.2.1
  | 2 => c.2.2.2.1
  | _ => c.2.2.2.2
def z_name (s : zst) (i w : Int32) : Nat × Int32 × zst := cond (g_lt (g_n s) i && g_lt 4 w) (0, nI (zc_nm (g_L s (i2n i)) (i2n w)), s) (1, nI 0, s)
theorem g_lt4_in {i : Int32} : (if nI 0 ≤ i ∧ i ≤ nI 3 then (1 : Int32) else 0) = zf_b (g_lt 4 i) := by
  have := g_lt_in (n := 4) (d := 1) (i := i) (by decide) (by decide) (by decide)
  rw [show nI 4 - nI 1 = nI 3 by decide +kernel] at this
  exact this
theorem zr_Lnm {L : Nat → zch} {A : Nat → Int32} (hL : zr_L L A) {i w : Nat} (hi : i < 30) (hw : w < 4) : A (5 * i + 1 + w) = nI (zc_nm (L i) w) := by
  obtain ⟨h1, h2, h3, h4, h5⟩ := hL i hi
  match w, hw with
  | 0, _ => exact h2
  | 1, _ => exact h3
  | 2, _ => exact h4
  | 3, _ => exact h5
  | w + 4, hw => exact absurd hw (by omega)
theorem s_Mod_nameOf {i w : Int32} (hs : zr_S s h) (hB : zr_B s) (hq : ∀ h', zr_D (z_name s i w).2.2 (z_name s i w).1 h h' → Q (.inl (some (.int (z_name s i w).2.1))) h') : zp_wm X y_Mod_nameOf [.ref 171, .int i, .int w] h Q := by
  have hS := hs.1
  have hn := hs.2.2.2.1
  have hn30 := hB.2.2.1
  unfold z_name at hq
  show zp_wp X y_Mod_nameOf 0 [.ref 171, .int i, .int w] [] h Q
  cases hi : g_lt (g_n s) i with
  | false =>
    rw [hi] at hq
    refine zp_aload_n (x := 171) rfl rfl ?_
    refine zp_iconst (v := (nI 0)) rfl (by decide +kernel) ?_
    refine zq_put hS rfl (by first | assumption | exact ⟨by decide, rfl⟩) rfl rfl (fun hS2 => ?_)
    have hS := hS2
    refine zp_iload_n (x := i) rfl rfl ?_
    refine zp_iconst (v := (nI 0)) rfl (by decide +kernel) ?_
    refine zp_aload_n (x := 171) rfl rfl ?_
    refine zq_geti hS rfl (by first | assumption | exact ⟨by decide, rfl⟩) rfl ?_
    rw [zf_nj (by decide)]
    rw [hn]
    refine zp_iconst (v := (nI 1)) rfl (by decide +kernel) ?_
    refine zp_isub rfl rfl ?_
    refine zp_call rfl rfl (s_Mod_in ?_)
    rw [g_lt_in (by omega) (by decide) (by decide), Nat.add_sub_cancel, hi]
    show zp_wp X y_Mod_nameOf 16 [.ref 171, .int i, .int w] [.int (nI 0)] (zf_put h 171 9 (nI 0)) Q
    refine zp_ifT (tgt := 43) rfl rfl (by decide +kernel) ?_
    refine zp_aload_n (x := 171) rfl rfl ?_
    refine zp_iconst (v := (nI 1)) rfl (by decide +kernel) ?_
    refine zq_virt hS rfl rfl (by first | assumption | exact ⟨by decide, rfl⟩) rfl (s_Mod_fails hS (fun hS3 => ?_))
    show zp_wp X y_Mod_nameOf 48 [.ref 171, .int i, .int w] [.int (nI 0)] (zf_put (zf_put h 171 9 (nI 0)) 171 9 (nI 1)) Q
    refine zp_iret rfl rfl ?_
    exact hq _ (zr_9 hs hS hS3)
  | true =>
    cases hw : g_lt 4 w with
    | false =>
      rw [hi, hw] at hq
      refine zp_aload_n (x := 171) rfl rfl ?_
      refine zp_iconst (v := (nI 0)) rfl (by decide +kernel) ?_
      refine zq_put hS rfl (by first | assumption | exact ⟨by decide, rfl⟩) rfl rfl (fun hS2 => ?_)
      have hS := hS2
      refine zp_iload_n (x := i) rfl rfl ?_
      refine zp_iconst (v := (nI 0)) rfl (by decide +kernel) ?_
      refine zp_aload_n (x := 171) rfl rfl ?_
      refine zq_geti hS rfl (by first | assumption | exact ⟨by decide, rfl⟩) rfl ?_
      rw [zf_nj (by decide)]
      rw [hn]
      refine zp_iconst (v := (nI 1)) rfl (by decide +kernel) ?_
      refine zp_isub rfl rfl ?_
      refine zp_call rfl rfl (s_Mod_in ?_)
      rw [g_lt_in (by omega) (by decide) (by decide), Nat.add_sub_cancel, hi]
      show zp_wp X y_Mod_nameOf 16 [.ref 171, .int i, .int w] [.int (nI 1)] (zf_put h 171 9 (nI 0)) Q
      refine zp_ifF (tgt := 43) rfl rfl (by decide +kernel) ?_
      refine zp_iload_n (x := w) rfl rfl ?_
      refine zp_iconst (v := (nI 0)) rfl (by decide +kernel) ?_
      refine zp_iconst (v := (nI 3)) rfl (by decide +kernel) ?_
      refine zp_call rfl rfl (s_Mod_in ?_)
      rw [g_lt4_in, hw]
      show zp_wp X y_Mod_nameOf 25 [.ref 171, .int i, .int w] [.int (nI 0)] (zf_put h 171 9 (nI 0)) Q
      refine zp_ifT (tgt := 43) rfl rfl (by decide +kernel) ?_
      refine zp_aload_n (x := 171) rfl rfl ?_
      refine zp_iconst (v := (nI 1)) rfl (by decide +kernel) ?_
      refine zq_virt hS rfl rfl (by first | assumption | exact ⟨by decide, rfl⟩) rfl (s_Mod_fails hS (fun hS3 => ?_))
      show zp_wp X y_Mod_nameOf 48 [.ref 171, .int i, .int w] [.int (nI 0)] (zf_put (zf_put h 171 9 (nI 0)) 171 9 (nI 1)) Q
      refine zp_iret rfl rfl ?_
      exact hq _ (zr_9 hs hS hS3)
    | true =>
      rw [hi, hw] at hq
      obtain ⟨hi1, hi2⟩ := g_lt_n hi
      obtain ⟨hw1, hw2⟩ := g_lt_n hw
      clear hi hw
      generalize i2n i = i', i2n w = w' at *
      subst hi1 hw1
      refine zp_aload_n (x := 171) rfl rfl ?_
      refine zp_iconst (v := (nI 0)) rfl (by decide +kernel) ?_
      refine zq_put hS rfl (by first | assumption | exact ⟨by decide, rfl⟩) rfl rfl (fun hS2 => ?_)
      have hS := hS2
      refine zp_iload_n (x := (nI i')) rfl rfl ?_
      refine zp_iconst (v := (nI 0)) rfl (by decide +kernel) ?_
      refine zp_aload_n (x := 171) rfl rfl ?_
      refine zq_geti hS rfl (by first | assumption | exact ⟨by decide, rfl⟩) rfl ?_
      rw [zf_nj (by decide)]
      rw [hn]
      refine zp_iconst (v := (nI 1)) rfl (by decide +kernel) ?_
      refine zp_isub rfl rfl ?_
      refine zp_call rfl rfl (s_Mod_in ?_)
      rw [g_lt_in (by omega) (by decide) (by decide), Nat.add_sub_cancel, g_lt_i hi2 (by omega)]
      show zp_wp X y_Mod_nameOf 16 [.ref 171, .int (nI i'), .int (nI w')] [.int (nI 1)] (zf_put h 171 9 (nI 0)) Q
      refine zp_ifF (tgt := 43) rfl rfl (by decide +kernel) ?_
      refine zp_iload_n (x := (nI w')) rfl rfl ?_
      refine zp_iconst (v := (nI 0)) rfl (by decide +kernel) ?_
      refine zp_iconst (v := (nI 3)) rfl (by decide +kernel) ?_
      refine zp_call rfl rfl (s_Mod_in ?_)
      rw [g_lt4_in, g_lt_i hw2 (by omega)]
      show zp_wp X y_Mod_nameOf 25 [.ref 171, .int (nI i'), .int (nI w')] [.int (nI 1)] (zf_put h 171 9 (nI 0)) Q
      refine zp_ifF (tgt := 43) rfl rfl (by decide +kernel) ?_
      refine zp_aload_n (x := 171) rfl rfl ?_
      refine zq_getr (k9 := 178) hS rfl (by first | assumption | exact ⟨by decide, rfl⟩) rfl ?_
      refine zp_iconst (v := (nI 5)) rfl (by decide +kernel) ?_
      refine zp_iload_n (x := (nI i')) rfl rfl ?_
      refine zp_imulN rfl ?_
      refine zp_iconst (v := (nI 1)) rfl (by decide +kernel) ?_
      refine zp_iaddN rfl ?_
      refine zp_iload_n (x := (nI w')) rfl rfl ?_
      refine zp_iaddN rfl ?_
      refine zq_iald hS rfl (by first | assumption | exact ⟨by decide, rfl⟩) (by omega) (by decide) ?_
      rw [zf_ci (a := 171) (b := 178) (by decide)]
      rw [zr_Lnm hs.2.2.1 (i := i') (w := w') (by omega) (by omega)]
      refine zp_goto (tgt := 48) rfl rfl ?_
      refine zp_iret rfl rfl ?_
      exact hq _ ((zr_F.f9 (T := []) hS).D hs (by decide) (by decide) (zf_at9 hS zs_M rfl))
/-! along a log -/
def v_mk (V : zv) (c : zch) : zvr := v_make V c.1 c.2.1 c.2.2.1 c.2.2.2.1 c.2.2.2.2
def v_go (V : zv) (L : Nat → zch) : Nat → zv
  | 0 => V
  | n + 1 => (v_mk (v_go V L n) (L n)).2.1
theorem s_Mod_makesOf {L : Nat → zch} {i l : Nat} (hS : zs_H h) (hr : zs_I r 1704) (hV : zv_R V (ci h r)) (hB : zv_B V) (hl : zs_I l 150) (hL : zr_L L (ci h l)) (hi : i < 30) (hc : zc_ok (L i)) (hq : ∀ h', zr_post (v_mk V (L i)).2.1 (v_mk V (L i)).2.2 r h h' → Q (.inl (some (.int (nI (v_mk V (L i)).1)))) h') : zp_wm X y_Mod_makesOf [.ref 171, .ref r, .ref l, .int (nI i)] h Q := by
  show zp_wp X y_Mod_makesOf 0 [.ref 171, .ref r, .ref l, .int (nI i), zm_mk] [] h Q
  obtain ⟨w1, w2, w3, w4, w5⟩ := hL i hi
  refine zp_iconst (v := (nI 5)) rfl (by decide +kernel) ?_
  refine zp_iload_n (x := (nI i)) rfl rfl ?_
  refine zp_imulN rfl ?_
  refine zp_istore_4 rfl rfl ?_
  refine zp_aload_n (x := 171) rfl rfl ?_
  refine zp_aload_n (x := r) rfl rfl ?_
  refine zp_aload_n (x := l) rfl rfl ?_
  refine zp_iload (x := (nI (5 * i))) rfl rfl ?_
  refine zq_iald hS rfl (by first | assumption | exact ⟨by decide, rfl⟩) (by omega) (by decide) ?_
  rw [w1]
  refine zp_aload_n (x := l) rfl rfl ?_
  refine zp_iload (x := (nI (5 * i))) rfl rfl ?_
  refine zp_iconst (v := (nI 1)) rfl (by decide +kernel) ?_
  refine zp_iaddN rfl ?_
  refine zq_iald hS rfl (by first | assumption | exact ⟨by decide, rfl⟩) (by omega) (by decide) ?_
  rw [w2]
  refine zp_aload_n (x := l) rfl rfl ?_
  refine zp_iload (x := (nI (5 * i))) rfl rfl ?_
  refine zp_iconst (v := (nI 2)) rfl (by decide +kernel) ?_
  refine zp_iaddN rfl ?_
  refine zq_iald hS rfl (by first | assumption | exact ⟨by decide, rfl⟩) (by omega) (by decide) ?_
  rw [w3]
  refine zp_aload_n (x := l) rfl rfl ?_
  refine zp_iload (x := (nI (5 * i))) rfl rfl ?_
  refine zp_iconst (v := (nI 3)) rfl (by decide +kernel) ?_
  refine zp_iaddN rfl ?_
  refine zq_iald hS rfl (by first | assumption | exact ⟨by decide, rfl⟩) (by omega) (by decide) ?_
  rw [w4]
  refine zp_aload_n (x := l) rfl rfl ?_
  refine zp_iload (x := (nI (5 * i))) rfl rfl ?_
  refine zp_iconst (v := (nI 4)) rfl (by decide +kernel) ?_
  refine zp_iaddN rfl ?_
  refine zq_iald hS rfl (by first | assumption | exact ⟨by decide, rfl⟩) (by omega) (by decide) ?_
  rw [w5]
  refine zq_virt hS rfl rfl (by first | assumption | exact ⟨by decide, rfl⟩) rfl (s_Mod_makes hS hr hV hB hc.1 hc.2.1 hc.2.2.1 hc.2.2.2.1 hc.2.2.2.2 (fun h2 hp => ?_))
  show zp_wp X y_Mod_makesOf 38 [.ref 171, .ref r, .ref l, .int (nI i), .int (nI (5 * i))] [.int (nI ((v_mk V (L i)).1))] h2 Q
  refine zp_iret rfl rfl ?_
  exact hq _ hp
end ZR9
