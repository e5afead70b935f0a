/-! the class: changes of classes -/
def zq_post (V' : zv) (p : Nat) (h h' : zm_H) : Prop := zs_H h' ∧ zh_eq (fun x => p < x ∧ x ≤ p + 6) h h' ∧ zq_P V' p h'
theorem zf_ct_full {q : Nat → Bool} : ∀ {k c : Nat}, (∀ j, c ≤ j → j < c + k → q j = true) → zf_ct q c k = k
  | 0, _, _ => rfl
  | k + 1, c, h => by
    unfold zf_ct
    rw [h c (Nat.le_refl _) (by omega), zf_ct_full (fun j h1 h2 => h j (by omega) (by omega))]
    simp; omega
theorem zf_ct_lt {q : Nat → Bool} : ∀ {k c : Nat}, (∃ j, c ≤ j ∧ j < c + k ∧ q j = false) → zf_ct q c k < k
  | 0, _, h => by obtain ⟨j, h1, h2, -⟩ := h; omega
  | k + 1, c, h => by
    obtain ⟨j, h1, h2, h3⟩ := h
    unfold zf_ct
    by_cases e : j = c
    · subst e
      rw [h3]
      have := zf_ct_le q k (j + 1)
      simp; omega
    · have := zf_ct_lt (q := q) (k := k) (c := c + 1) ⟨j, by omega, by omega, h3⟩
      cases q c <;> simp <;> omega
/-- a free place, and the number of those that are taken -/
theorem zf_free {f : Nat → Nat} {n i : Nat} (h : zf_fst (fun i => f i == 0) 0 n = some i) : zf_ct (fun i => !(f i == 0)) 0 n ≠ n := by
  obtain ⟨h1, h2, h3, -⟩ := zf_fst_some h
  have h3 : (f i == 0) = true := h3
  have := zf_ct_lt (q := fun i => !(f i == 0)) (k := n) (c := 0) ⟨i, h1, h2, by rw [h3]; rfl⟩
  omega
theorem zf_nofree {f : Nat → Nat} {n : Nat} (h : zf_fst (fun i => f i == 0) 0 n = none) : zf_ct (fun i => !(f i == 0)) 0 n = n := by
  apply zf_ct_full
  intro j h1 h2
  have h3 : (f j == 0) = false := zf_fst_none h j h1 h2
  rw [h3]; rfl
theorem v_pr_s {s j : Nat} (h : v_pr s = some j) : s = j + 1 := by
  cases s with
  | zero => cases h
  | succ t => cases h; rfl
theorem v_chl {V : zv} (hW : zv_W V) {c : Nat} (hc : c < 12) (hl : v_cn V c ≠ 0) : ∀ j, v_pr (v_sp V c) = some j → j < 12 ∧ v_cn V j ≠ 0 := by
  intro j hj
  have e : v_par V c = some j := by unfold v_par; rw [if_neg hl]; exact hj
  exact ⟨v_par_12 hW.B hc j e, v_par_l hW hc j e⟩
theorem v_ch_cong {V V' : zv} (hW : zv_W V) (hs : ∀ c, c < 12 → v_cn V c ≠ 0 → v_sp V' c = v_sp V c) (u : Nat) : ∀ (r : Nat) (o : Option Nat), (∀ j, o = some j → j < 12 ∧ v_cn V j ≠ 0) → v_ch V' o u r = v_ch V o u r
  | 0, none, _ => rfl
  | 0, some _, _ => rfl
  | r + 1, none, _ => rfl
  | r + 1, some k, h => by
    obtain ⟨h1, h2⟩ := h k rfl
    show ((k == u) || v_ch V' (v_pr (v_sp V' k)) u r) = ((k == u) || v_ch V (v_pr (v_sp V k)) u r)
    rw [hs k h1 h2, v_ch_cong hW hs u r _ (v_chl hW h1 h2)]
theorem v_anc_cong {V V' : zv} (hW : zv_W V) (hs : ∀ c, c < 12 → v_cn V c ≠ 0 → v_sp V' c = v_sp V c) {c : Nat} (hc : c < 12) (hl : v_cn V c ≠ 0) (hl' : v_cn V' c ≠ 0) (u : Nat) : v_anc V' c u = v_anc V c u := by
  unfold v_anc
  rw [zb_ne hl, zb_ne hl', v_up_ch, v_up_ch, hs c hc hl, v_ch_cong hW hs u _ _ (v_chl hW hc hl)]
theorem v_anc_d {V : zv} {c : Nat} (h : v_cn V c = 0) (u : Nat) : v_anc V c u = false := by unfold v_anc; rw [zb_eq h]; rfl
theorem v_anc_n {V : zv} {c : Nat} (h : v_sp V c = 0) (u : Nat) : v_anc V c u = false := by
  unfold v_anc
  rw [h, v_up_ch]
  show (_ && v_ch V none u 12) = false
  rw [show v_ch V none u 12 = false from rfl, Bool.and_false]
theorem v_ch_hit {V : zv} (hW : zv_W V) {u : Nat} : ∀ (r : Nat) (o : Option Nat), (∀ j, o = some j → j < 12 ∧ v_cn V j ≠ 0) → v_ch V o u r = true → o = some u ∨ ∃ k, k < 12 ∧ v_cn V k ≠ 0 ∧ v_sp V k = u + 1
  | 0, none, _, h => by cases h
  | 0, some _, _, h => by cases h
  | r + 1, none, _, h => by cases h
  | r + 1, some k, hk, h => by
    obtain ⟨h1, h2⟩ := hk k rfl
    rw [show v_ch V (some k) u (r + 1) = ((k == u) || v_ch V (v_pr (v_sp V k)) u r) from rfl, Bool.or_eq_true] at h
    rcases h with h | h
    · exact Or.inl (by rw [beq_iff_eq.mp h])
    · rcases v_ch_hit hW r _ (v_chl hW h1 h2) h with q | q
      · exact Or.inr ⟨k, h1, h2, v_pr_s q⟩
      · exact Or.inr q
theorem v_below {V : zv} (hW : zv_W V) {c : Nat} : (∀ k, k < 12 → v_anc V k c = false) ↔ zf_any (fun k => !(v_cn V k == 0) && v_sp V k == c + 1) 0 12 = false := by
  constructor
  · intro h
    cases e : zf_any (fun k => !(v_cn V k == 0) && v_sp V k == c + 1) 0 12 with
    | false => rfl
    | true =>
      obtain ⟨k, h1, h2, h3⟩ := zf_any_iff.mp e
      simp only [Bool.and_eq_true, beq_iff_eq, Bool.not_eq_true', beq_eq_false_iff_ne] at h3
      have h4 := h k (by omega)
      unfold v_anc at h4
      rw [zb_ne h3.1, h3.2, v_up_ch] at h4
      rw [show v_ch V (v_pr (c + 1)) c (11 + 1) = ((c == c) || v_ch V (v_pr (v_sp V c)) c 11) from rfl, zb_eq rfl] at h4
      cases h4
  · intro h k hk
    cases e : v_anc V k c with
    | false => rfl
    | true =>
      unfold v_anc at e
      rw [Bool.and_eq_true] at e
      have hl : v_cn V k ≠ 0 := by simpa using e.1
      have e2 := e.2
      rw [v_up_ch] at e2
      have : ∃ k, k < 12 ∧ v_cn V k ≠ 0 ∧ v_sp V k = c + 1 := by
        rcases v_ch_hit hW _ _ (v_chl hW hk hl) e2 with q | q
        · exact ⟨k, hk, hl, v_pr_s q⟩
        · exact q
      obtain ⟨j, j1, j2, j3⟩ := this
      have h5 := zf_any_no (by rw [h]; decide) j1
      simp only [zb_ne j2, zb_eq j3] at h5
      cases h5
theorem bt_bit {n : Nat} (h1 : 97 ≤ n) (h2 : n ≤ 122) {k : Nat} (hk : k < 32) : bt (v_bit n) k = (n == 97 + k) := by
  unfold v_bit
  rw [pk_sub h1, b_1shl (by omega) hk]
  by_cases e : k = n - 97
  · rw [zb_eq e, zb_eq (by omega)]
  · rw [zb_ne e, zb_ne (by omega)]
theorem v_msk_bt {V : zv} (hW : zv_W V) (S : Nat → Bool) {k : Nat} (hk : k < 32) : bt (v_msk V S) k = zf_any (fun m => !(v_mn V m == 0) && S (v_ow V m) && v_mn V m == 97 + k) 0 40 := by
  have key : ∀ n i a, i + n = 40 → bt (zf_fold (v_mst V S) i n a) k = (bt a k || zf_any (fun m => !(v_mn V m == 0) && S (v_ow V m) && v_mn V m == 97 + k) i n) := by
    intro n
    induction n with
    | zero => intro i a _; show bt a k = (bt a k || false); rw [Bool.or_false]
    | succ n ih =>
      intro i a hi
      show bt (zf_fold (v_mst V S) (i + 1) n (v_mst V S i a)) k = (bt a k || ((!(v_mn V i == 0) && S (v_ow V i) && v_mn V i == 97 + k) || zf_any _ (i + 1) n))
      rw [ih (i + 1) _ (by omega)]
      unfold v_mst
      rw [b_or, Bool.or_assoc]
      congr 2
      have hm := hW.2.2.1 i (by omega)
      cases e : (!(v_mn V i == 0) && S (v_ow V i)) with
      | false => show bt (nI 0) k = _; rw [b_0]; rfl
      | true =>
        have h0 : v_mn V i ≠ 0 := by simp only [Bool.and_eq_true, Bool.not_eq_true', beq_eq_false_iff_ne] at e; exact e.1
        show bt (v_bit (v_mn V i)) k = _
        rw [bt_bit (by omega) (by omega) hk]
        rfl
  rw [v_msk_st, key 40 0 _ rfl, b_0, Bool.false_or]
theorem v_msk_0 {V : zv} (hW : zv_W V) (S : Nat → Bool) : v_msk V S = 0 ↔ zf_any (fun m => !(v_mn V m == 0) && S (v_ow V m)) 0 40 = false := by
  rw [bt_z]
  constructor
  · intro h
    cases e : zf_any (fun m => !(v_mn V m == 0) && S (v_ow V m)) 0 40 with
    | false => rfl
    | true =>
      obtain ⟨m, h1, h2, h3⟩ := zf_any_iff.mp e
      have h3 : (!(v_mn V m == 0) && S (v_ow V m)) = true := h3
      have h0 : v_mn V m ≠ 0 := by simp only [Bool.and_eq_true, Bool.not_eq_true', beq_eq_false_iff_ne] at h3; exact h3.1
      have hm := hW.2.2.1 m (by omega)
      have h4 := h (v_mn V m - 97) (by omega)
      rw [v_msk_bt hW S (by omega)] at h4
      have h5 := zf_any_no (by rw [h4]; decide) (show m < 40 by omega)
      simp only [h3, zb_eq (show v_mn V m = 97 + (v_mn V m - 97) by omega)] at h5
      cases h5
  · intro h k hk
    rw [v_msk_bt hW S hk]
    cases e : zf_any (fun m => !(v_mn V m == 0) && S (v_ow V m) && v_mn V m == 97 + k) 0 40 with
    | false => rfl
    | true =>
      obtain ⟨m, h1, h2, h3⟩ := zf_any_iff.mp e
      have h3 : (!(v_mn V m == 0) && S (v_ow V m) && v_mn V m == 97 + k) = true := h3
      rw [Bool.and_eq_true] at h3
      have h5 : (!(v_mn V m == 0) && S (v_ow V m)) = false := zf_any_no (by rw [h]; decide) (show m < 40 by omega)
      rw [h5] at h3
      cases h3.1
section ZP3
variable {X : zm_X} {h : zm_H} {Q : zm_O → zm_H → Prop} {V W : zv} {p q : Nat}
theorem zq_same (hS : zs_H h) (hP : zq_P V p h) : zq_post V p h h := ⟨hS, zh_eq.rf, hP⟩
theorem s_Prog_putClass {a : Nat} (hS : zs_H h) (hA : zq_A p) (hP : zq_P V p h) (hW : zv_W V) (ha : 65 ≤ a ∧ a ≤ 90) (hq : ∀ h', zq_post (v_addC V (v_cls V a) a).2.1 p h h' → Q (.inl (some (.int (nI (v_addC V (v_cls V a) a).1)))) h') : zp_wm X y_Prog_putClass [.ref p, .int (nI a)] h Q := by
  have hA' := hA
  have hB := hW.B
  obtain ⟨hA0, hA1, hA2, hA3, hA4, hA5, hA6⟩ := hA
  show zp_wp X y_Prog_putClass 0 [.ref p, .int (nI a), zm_mk] [] h Q
  refine zp_aload_n (x := p) rfl rfl ?_
  refine zp_iload_n (x := (nI a)) rfl rfl ?_
  refine zq_virt hS rfl rfl (by first | assumption | exact ⟨by decide, rfl⟩) rfl (s_Prog_classAt hS hA' hP hB (by omega) ?_)
  cases hz : v_cls V a with
  | none =>
    show zp_wp X y_Prog_putClass 5 [.ref p, .int (nI a), zm_mk] [.int (-1)] h Q
    refine zp_ifT (tgt := 10) rfl rfl (by decide +kernel) ?_
    refine zp_aload_n (x := p) rfl rfl ?_
    refine zq_getr (k9 := (p + 1)) hS rfl (by first | assumption | exact ⟨by decide, rfl⟩) rfl ?_
    refine zp_call rfl rfl (s_Prog_freeSlot (f := v_cn V) hS hA1 (by decide) hP.cn hB.1 ?_)
    cases hf : zf_fst (fun i => v_cn V i == 0) 0 12 with
    | none =>
      show zp_wp X y_Prog_putClass 17 [.ref p, .int (nI a), zm_mk] [.int (-1)] h Q
      refine zp_istore_n_2 rfl rfl ?_
      refine zp_iload_n (x := (-1)) rfl rfl ?_
      refine zp_ifF (tgt := 25) rfl rfl (by decide +kernel) ?_
      refine zp_bipush (v := (nI 9)) rfl (by decide +kernel) ?_
      refine zp_iret rfl rfl ?_
      have hv : v_addC V (v_cls V a) a = (9, V, none) := by
        unfold v_addC
        rw [hz, if_neg (by decide), if_pos (show v_nc V = 12 from zf_nofree hf)]
      rw [hv] at hq
      exact hq h (zq_same hS hP)
    | some i =>
      obtain ⟨-, hi2, hi3, -⟩ := zf_fst_some hf
      have hi3 : v_cn V i = 0 := by simpa using hi3
      show zp_wp X y_Prog_putClass 17 [.ref p, .int (nI a), zm_mk] [.int (nI i)] h Q
      refine zp_istore_n_2 rfl rfl ?_
      refine zp_iload_n (x := (nI i)) rfl rfl ?_
      refine zp_ifT (tgt := 25) rfl rfl (zc_ge (by omega)) ?_
      refine zp_aload_n (x := p) rfl rfl ?_
      refine zq_getr (k9 := (p + 1)) hS rfl (by first | assumption | exact ⟨by decide, rfl⟩) rfl ?_
      refine zp_iload_n (x := (nI i)) rfl rfl ?_
      refine zp_iload_n (x := (nI a)) rfl rfl ?_
      refine zq_iast hS rfl (by first | assumption | exact ⟨by decide, rfl⟩) (by omega) (by decide) (fun hS31 => ?_)
      have hS := hS31
      refine zp_iconst (v := (nI 0)) rfl (by decide +kernel) ?_
      refine zp_iret rfl rfl ?_
      have hv : v_addC V (v_cls V a) a = (0, v_set2 (v_set1 V i a) i 0, some i) := by
        unfold v_addC
        rw [hz, if_neg (by decide), if_neg (show ¬ v_nc V = 12 from zf_free hf), hf]
      rw [hv] at hq
      refine hq _ ⟨hS, zh_eq.rf.zi (by omega), ?_⟩
      refine ⟨fun c hc => ?_, fun c hc => ?_, fun c hc k hk => ?_, fun m hm => ?_, fun m hm => ?_, fun m hm k hk => ?_⟩
      · rw [zi_at, w_10, w_0]
        by_cases e : c = i
        · subst e; rw [pk_us, if_pos rfl]
        · rw [pk_un e, if_neg e]; exact hP.cn c hc
      · rw [zi_ne (by omega), hP.sp c hc]
        unfold v_par
        rw [w_10, w_0, w_11, w_1]
        by_cases e : c = i
        · subst e; rw [if_pos hi3, if_pos rfl, if_pos rfl, if_neg (by omega)]; rfl
        · rw [if_neg e, if_neg e]
      · rw [zi_ne (by omega), hP.ab c hc k hk]
        by_cases e : c = i
        · subst e
          rw [v_anc_d hi3, v_anc_n (by rw [w_11, if_pos rfl])]
        · by_cases hl : v_cn V c = 0
          · rw [v_anc_d hl, v_anc_d (by rw [w_10, w_0, if_neg e]; exact hl)]
          · refine (v_anc_cong hW (fun d hd hdl => ?_) hc hl (by rw [w_10, w_0, if_neg e]; exact hl) k).symm
            rw [w_11, w_1, if_neg (fun q => hdl (by rw [q]; exact hi3))]
      · rw [zi_ne (by omega)]; exact hP.mn m hm
      · rw [zi_ne (by omega)]; exact hP.ow m hm
      · rw [zi_cj (by omega)]; exact hP.us m hm k hk
  | some c =>
    have hc := (v_cls_lt hz).1
    show zp_wp X y_Prog_putClass 5 [.ref p, .int (nI a), zm_mk] [.int (nI c)] h Q
    refine zp_ifF (tgt := 10) rfl rfl (zc_lt (by omega)) ?_
    refine zp_iconst (v := (nI 1)) rfl (by decide +kernel) ?_
    refine zp_iret rfl rfl ?_
    rw [hz] at hq
    exact hq h (zq_same hS hP)
theorem s_Prog_giveClassName {a b : Nat} (hS : zs_H h) (hA : zq_A p) (hP : zq_P V p h) (hW : zv_W V) (ha : a < 128) (hb : 65 ≤ b ∧ b ≤ 90) (hq : ∀ h', zq_post (v_renC V (v_cls V a) b).2.1 p h h' → Q (.inl (some (.int (nI (v_renC V (v_cls V a) b).1)))) h') : zp_wm X y_Prog_giveClassName [.ref p, .int (nI a), .int (nI b)] h Q := by
  have hA' := hA
  have hB := hW.B
  obtain ⟨hA0, hA1, hA2, hA3, hA4, hA5, hA6⟩ := hA
  show zp_wp X y_Prog_giveClassName 0 [.ref p, .int (nI a), .int (nI b), zm_mk] [] h Q
  refine zp_aload_n (x := p) rfl rfl ?_
  refine zp_iload_n (x := (nI a)) rfl rfl ?_
  refine zq_virt hS rfl rfl (by first | assumption | exact ⟨by decide, rfl⟩) rfl (s_Prog_classAt hS hA' hP hB ha ?_)
  cases hz : v_cls V a with
  | none =>
    show zp_wp X y_Prog_giveClassName 5 [.ref p, .int (nI a), .int (nI b), zm_mk] [.int (-1)] h Q
    refine zp_istore_n_3 rfl rfl ?_
    refine zp_iload_n (x := (-1)) rfl rfl ?_
    refine zp_ifF (tgt := 12) rfl rfl (by decide +kernel) ?_
    refine zp_iconst (v := (nI 2)) rfl (by decide +kernel) ?_
    refine zp_iret rfl rfl ?_
    rw [hz] at hq; exact hq h (zq_same hS hP)
  | some i =>
    have hi := (v_cls_lt hz).1
    have hil := (v_cls_l _ hz).2
    show zp_wp X y_Prog_giveClassName 5 [.ref p, .int (nI a), .int (nI b), zm_mk] [.int (nI i)] h Q
    refine zp_istore_n_3 rfl rfl ?_
    refine zp_iload_n (x := (nI i)) rfl rfl ?_
    refine zp_ifT (tgt := 12) rfl rfl (zc_ge (by omega)) ?_
    refine zp_aload_n (x := p) rfl rfl ?_
    refine zp_iload_n (x := (nI b)) rfl rfl ?_
    refine zq_virt hS rfl rfl (by first | assumption | exact ⟨by decide, rfl⟩) rfl (s_Prog_classAt hS hA' hP hB (by omega) ?_)
    cases hf : v_cls V b with
    | none =>
      show zp_wp X y_Prog_giveClassName 17 [.ref p, .int (nI a), .int (nI b), .int (nI i)] [.int (-1)] h Q
      refine zp_ifT (tgt := 22) rfl rfl (by decide +kernel) ?_
      refine zp_aload_n (x := p) rfl rfl ?_
      refine zq_getr (k9 := (p + 1)) hS rfl (by first | assumption | exact ⟨by decide, rfl⟩) rfl ?_
      refine zp_iload_n (x := (nI i)) rfl rfl ?_
      refine zp_iload_n (x := (nI b)) rfl rfl ?_
      refine zq_iast hS rfl (by first | assumption | exact ⟨by decide, rfl⟩) (by omega) (by decide) (fun hS28 => ?_)
      have hS := hS28
      refine zp_iconst (v := (nI 0)) rfl (by decide +kernel) ?_
      refine zp_iret rfl rfl ?_
      have hv : v_renC V (v_cls V a) b = (0, v_set1 V i b, none) := by rw [hz]; simp only [v_renC, hf]; rfl
      rw [hv] at hq
      refine hq _ ⟨hS, zh_eq.rf.zi (by omega), ?_⟩
      have hl : ∀ c, v_cn (v_set1 V i b) c = 0 ↔ v_cn V c = 0 := fun c => by
        rw [w_0]
        by_cases e : c = i
        · subst e; rw [if_pos rfl]; exact ⟨fun q => absurd q (by omega), fun q => absurd q hil⟩
        · rw [if_neg e]
      refine ⟨fun c hc => ?_, fun c hc => ?_, fun c hc k hk => ?_, fun m hm => ?_, fun m hm => ?_, fun m hm k hk => ?_⟩
      · rw [zi_at, w_0]
        by_cases e : c = i
        · subst e; rw [pk_us, if_pos rfl]
        · rw [pk_un e, if_neg e]; exact hP.cn c hc
      · rw [zi_ne (by omega), hP.sp c hc]
        unfold v_par
        rw [w_1]
        by_cases e : v_cn V c = 0
        · rw [if_pos e, if_pos ((hl c).mpr e)]
        · rw [if_neg e, if_neg (fun q => e ((hl c).mp q))]
      · rw [zi_ne (by omega), hP.ab c hc k hk]
        by_cases e : v_cn V c = 0
        · rw [v_anc_d e, v_anc_d ((hl c).mpr e)]
        · exact (v_anc_cong (V' := v_set1 V i b) hW (fun d hd hdl => rfl) hc e (fun q => e ((hl c).mp q)) k).symm
      · rw [zi_ne (by omega)]; exact hP.mn m hm
      · rw [zi_ne (by omega)]; exact hP.ow m hm
      · rw [zi_cj (by omega)]; exact hP.us m hm k hk
    | some j =>
      have hj := (v_cls_lt hf).1
      show zp_wp X y_Prog_giveClassName 17 [.ref p, .int (nI a), .int (nI b), .int (nI i)] [.int (nI j)] h Q
      refine zp_ifF (tgt := 22) rfl rfl (zc_lt (by omega)) ?_
      refine zp_iconst (v := (nI 1)) rfl (by decide +kernel) ?_
      refine zp_iret rfl rfl ?_
      have hv : v_renC V (v_cls V a) b = (1, V, none) := by rw [hz]; simp only [v_renC, hf]; rfl
      rw [hv] at hq
      exact hq h (zq_same hS hP)
theorem v_msk_1 {c : Nat} (hc : c < 12) (hW : zv_W V) : v_msk V (bt (nI 1 <<< (nI c &&& 31))) = v_msk V (fun o => o == c) := v_msk_cong hW (fun o ho => b_1shl (by omega) (by omega))
theorem s_Prog_dropClass {a : Nat} (hS : zs_H h) (hA : zq_A p) (hP : zq_P V p h) (hW : zv_W V) (ha : a < 128) (hq : ∀ h', zq_post (v_remC V (v_cls V a)).2.1 p h h' → Q (.inl (some (.int (nI (v_remC V (v_cls V a)).1)))) h') : zp_wm X y_Prog_dropClass [.ref p, .int (nI a)] h Q := by
  have hA' := hA
  have hB := hW.B
  obtain ⟨hA0, hA1, hA2, hA3, hA4, hA5, hA6⟩ := hA
  have hS0 := hS
  show zp_wp X y_Prog_dropClass 0 [.ref p, .int (nI a), zm_mk] [] h Q
  refine zp_aload_n (x := p) rfl rfl ?_
  refine zp_iload_n (x := (nI a)) rfl rfl ?_
  refine zq_virt hS rfl rfl (by first | assumption | exact ⟨by decide, rfl⟩) rfl (s_Prog_classAt hS hA' hP hB ha ?_)
  cases hz : v_cls V a with
  | none =>
    show zp_wp X y_Prog_dropClass 5 [.ref p, .int (nI a), zm_mk] [.int (-1)] h Q
    refine zp_istore_n_2 rfl rfl ?_
    refine zp_iload_n (x := (-1)) rfl rfl ?_
    refine zp_ifF (tgt := 12) rfl rfl (by decide +kernel) ?_
    refine zp_iconst (v := (nI 2)) rfl (by decide +kernel) ?_
    refine zp_iret rfl rfl ?_
    rw [hz] at hq; exact hq h (zq_same hS hP)
  | some i =>
    have hi := (v_cls_lt hz).1
    show zp_wp X y_Prog_dropClass 5 [.ref p, .int (nI a), zm_mk] [.int (nI i)] h Q
    refine zp_istore_n_2 rfl rfl ?_
    refine zp_iload_n (x := (nI i)) rfl rfl ?_
    refine zp_ifT (tgt := 12) rfl rfl (zc_ge (by omega)) ?_
    refine zp_aload_n (x := p) rfl rfl ?_
    refine zp_iconst (v := (nI 1)) rfl (by decide +kernel) ?_
    refine zp_iload_n (x := (nI i)) rfl rfl ?_
    refine zp_ishl rfl rfl ?_
    refine zq_virt hS rfl rfl (by first | assumption | exact ⟨by decide, rfl⟩) rfl (s_Prog_namesIn hS hA' hP hW ?_)
    rw [v_msk_1 hi hW]
    show zp_wp X y_Prog_dropClass 19 [.ref p, .int (nI a), .int (nI i)] [.int (v_msk V (fun o => o == i))] h Q
    refine zp_if_ne (tgt := 30) rfl rfl (fun b19 => ?_) (fun b19 => ?_)
    · refine zp_iconst (v := (nI 3)) rfl (by decide +kernel) ?_
      refine zp_iret rfl rfl ?_
      have hv : v_remC V (v_cls V a) = (3, V, none) := by
        rw [hz]
        simp only [v_remC]
        first
        | (rw [if_pos]
           cases e : zf_any (fun k => !(v_mn V k == 0) && v_ow V k == i) 0 40 with
           | true => rfl
           | false => exact absurd ((v_msk_0 hW (fun o => o == i)).mpr e) b19)
        | (have b19' := (v_msk_0 hW (fun o => o == i)).mp (Decidable.not_not.mp b19)
           rw [b19', if_neg (by decide), if_pos]
           cases e : zf_any (fun k => !(v_cn V k == 0) && v_sp V k == i + 1) 0 12 with
           | true => rfl
           | false =>
             refine absurd (bt_z.mpr (fun k hk => ?_)) b27
             rw [hy k hk]
             by_cases e2 : k < 12
             · rw [(v_below hW).mpr e k e2, Bool.and_false]
             · rw [decide_eq_false e2]; rfl)
      rw [hv] at hq
      exact hq h (zq_same hS hP)
    · refine zp_aload_n (x := p) rfl rfl ?_
      refine zp_iload_n (x := (nI i)) rfl rfl ?_
      refine zq_virt hS rfl rfl (by first | assumption | exact ⟨by decide, rfl⟩) rfl (s_Prog_below hS hA' hP hi (fun y hy => ?_))
      show zp_wp X y_Prog_dropClass 27 [.ref p, .int (nI a), .int (nI i)] [.int y] h Q
      refine zp_if_eq (tgt := 32) rfl rfl (fun b27 => ?_) (fun b27 => ?_)
      · refine zp_aload_n (x := p) rfl rfl ?_
        refine zq_getr (k9 := (p + 1)) hS rfl (by first | assumption | exact ⟨by decide, rfl⟩) rfl ?_
        refine zp_iload_n (x := (nI i)) rfl rfl ?_
        refine zp_iconst (v := (nI 0)) rfl (by decide +kernel) ?_
        refine zq_iast hS rfl (by first | assumption | exact ⟨by decide, rfl⟩) (by omega) (by decide) (fun hS38 => ?_)
        have hS := hS38
        refine zp_aload_n (x := p) rfl rfl ?_
        refine zq_getr (k9 := (p + 2)) hS rfl (by first | assumption | exact ⟨by decide, rfl⟩) rfl ?_
        refine zp_iload_n (x := (nI i)) rfl rfl ?_
        refine zp_iconst (v := (-1)) rfl (by decide +kernel) ?_
        refine zq_iast hS rfl (by first | assumption | exact ⟨by decide, rfl⟩) (by omega) (by decide) (fun hS45 => ?_)
        have hS := hS45
        refine zp_aload_n (x := p) rfl rfl ?_
        refine zq_getr (k9 := (p + 3)) hS rfl (by first | assumption | exact ⟨by decide, rfl⟩) rfl ?_
        refine zp_iload_n (x := (nI i)) rfl rfl ?_
        refine zp_iconst (v := (nI 0)) rfl (by decide +kernel) ?_
        refine zq_iast hS rfl (by first | assumption | exact ⟨by decide, rfl⟩) (by omega) (by decide) (fun hS52 => ?_)
        have hS := hS52
        refine zp_iconst (v := (nI 0)) rfl (by decide +kernel) ?_
        refine zp_iret rfl rfl ?_
        have b19' := (v_msk_0 hW (fun o => o == i)).mp (Decidable.not_not.mp b19)
        have b27' : ∀ k, k < 12 → v_anc V k i = false := fun k hk => by
          have := bt_z.mp b27 k (by omega)
          rw [hy k (by omega), decide_eq_true hk] at this
          exact this
        have hv : v_remC V (v_cls V a) = (0, v_set1 V i 0, none) := by
          rw [hz]
          simp only [v_remC]
          rw [b19', (v_below hW).mp b27']
          rfl
        rw [hv] at hq
        refine hq _ ⟨hS, ((zh_eq.rf.zi (by omega)).zi (by omega)).zi (by omega), ?_⟩
        refine ⟨fun c hc => ?_, fun c hc => ?_, fun c hc k hk => ?_, fun m hm => ?_, fun m hm => ?_, fun m hm k hk => ?_⟩
        · rw [zi_ne (by omega), zi_ne (by omega), zi_at, w_0]
          by_cases e : c = i
          · subst e; rw [pk_us, if_pos rfl]
          · rw [pk_un e, if_neg e]; exact hP.cn c hc
        · rw [zi_ne (by omega), zi_at, zi_ne (by omega)]
          unfold v_par
          rw [w_0, w_1]
          by_cases e : c = i
          · subst e; rw [pk_us, if_pos rfl, if_pos rfl]; rfl
          · rw [pk_un e, if_neg e]; exact hP.sp c hc
        · rw [zi_at, zi_ne (by omega), zi_ne (by omega)]
          by_cases e : c = i
          · subst e; rw [pk_us, b_0, v_anc_d (by rw [w_0, if_pos rfl])]
          · rw [pk_un e, hP.ab c hc k hk]
            by_cases e2 : v_cn V c = 0
            · rw [v_anc_d e2, v_anc_d (by rw [w_0, if_neg e]; exact e2)]
            · exact (v_anc_cong (V' := v_set1 V i 0) hW (fun d hd hdl => rfl) hc e2 (by rw [w_0, if_neg e]; exact e2) k).symm
        · rw [zi_ne (by omega), zi_ne (by omega), zi_ne (by omega)]; exact hP.mn m hm
        · rw [zi_ne (by omega), zi_ne (by omega), zi_ne (by omega)]; exact hP.ow m hm
        · rw [zi_cj (by omega), zi_cj (by omega), zi_cj (by omega)]; exact hP.us m hm k hk
      · refine zp_iconst (v := (nI 3)) rfl (by decide +kernel) ?_
        refine zp_iret rfl rfl ?_
        have hv : v_remC V (v_cls V a) = (3, V, none) := by
          rw [hz]
          simp only [v_remC]
          first
          | (rw [if_pos]
             cases e : zf_any (fun k => !(v_mn V k == 0) && v_ow V k == i) 0 40 with
             | true => rfl
             | false => exact absurd ((v_msk_0 hW (fun o => o == i)).mpr e) b19)
          | (have b19' := (v_msk_0 hW (fun o => o == i)).mp (Decidable.not_not.mp b19)
             rw [b19', if_neg (by decide), if_pos]
             cases e : zf_any (fun k => !(v_cn V k == 0) && v_sp V k == i + 1) 0 12 with
             | true => rfl
             | false =>
               refine absurd (bt_z.mpr (fun k hk => ?_)) b27
               rw [hy k hk]
               by_cases e2 : k < 12
               · rw [(v_below hW).mpr e k e2, Bool.and_false]
               · rw [decide_eq_false e2]; rfl)
        rw [hv] at hq
        exact hq h (zq_same hS hP)
end ZP3
