/-! the class: names, sets of names, ancestors -/
def v_nmo (V : zv) (o : Option Nat) : Nat := match o with
  | none => 0
  | some c => v_cn V c
def v_nbo (V : zv) (i : Int32) : Nat := if i < 0 then 0 else v_nmo V (v_ord V (i2n i))
theorem nI_dec {l : Nat} (h : 0 < l) : nI l + Int32.ofInt (-1) = nI (l - 1) := by
  obtain ⟨k, rfl⟩ : ∃ k, l = k + 1 := ⟨l - 1, by omega⟩
  rw [nI_m1]
  rfl
theorem v_par_sn {V : zv} {c : Nat} (h : v_cn V c ≠ 0) : v_sn V c = v_nmo V (v_par V c) := by
  unfold v_sn v_par
  rw [if_neg h]
  cases e : v_sp V c with
  | zero => rfl
  | succ s => rfl
theorem v_par_12 {V : zv} (hB : zv_B V) {c : Nat} (hc : c < 12) : ∀ s, v_par V c = some s → s < 12 := by
  intro s hs
  unfold v_par at hs
  split at hs
  · cases hs
  · have := hB.2.1 c hc
    cases e : v_sp V c with
    | zero => rw [e] at hs; cases hs
    | succ t => rw [e] at hs this; cases hs; omega
theorem v_par_l {V : zv} (hW : zv_W V) {c : Nat} (hc : c < 12) : ∀ s, v_par V c = some s → v_cn V s ≠ 0 := by
  intro s hs
  unfold v_par at hs
  split at hs
  · cases hs
  · rename_i hl
    have := hW.2.2.2.2.2.2.1 c hc hl
    cases e : v_sp V c with
    | zero => rw [e] at hs; cases hs
    | succ t => rw [e] at hs this; cases hs; exact this (by omega)
def v_ch (V : zv) : Option Nat → Nat → Nat → Bool
  | _, _, 0 => false
  | none, _, _ + 1 => false
  | some k, u, r + 1 => (k == u) || v_ch V (v_pr (v_sp V k)) u r
theorem v_up_ch (V : zv) (u : Nat) : ∀ (n : Nat) (o : Option Nat), v_up V o u n = v_ch V o u (n + 1)
  | 0, none => rfl
  | 0, some k => by simp [v_up, v_ch]
  | n + 1, none => rfl
  | n + 1, some k => by
    show (if k = u then true else v_up V (v_pr (v_sp V k)) u n) = ((k == u) || v_ch V (v_pr (v_sp V k)) u (n + 1))
    rw [v_up_ch V u n]
    by_cases e : k = u
    · simp [e]
    · simp [e]
theorem v_und_anc {V : zv} {c u : Nat} (h : v_cn V c ≠ 0) : v_und V c u = ((u == c) || v_anc V c u) := by
  show (if c = u then true else v_up V (v_pr (v_sp V c)) u 11) = _
  unfold v_anc
  rw [zb_ne h]
  by_cases e : c = u
  · simp [e]
  · have : (u == c) = false := by simp [Ne.symm e]
    rw [if_neg e, this]
    rfl
section ZP2
variable {X : zm_X} {h : zm_H} {Q : zm_O → zm_H → Prop} {V W : zv} {p q : Nat}
theorem s_Prog_nameByOrder {i : Int32} (hS : zs_H h) (hA : zq_A p) (hP : zq_P V p h) (hB : zv_B V) (hq : Q (.inl (some (.int (nI (v_nbo V i))))) h) : zp_wm X y_Prog_nameByOrder [.ref p, .int i] h Q := by
  have hA' := hA
  obtain ⟨hA0, hA1, hA2, hA3, hA4, hA5, hA6⟩ := hA
  show zp_wp X y_Prog_nameByOrder 0 [.ref p, .int i, zm_mk, zm_mk] [] h Q
  by_cases hi : i < 0
  · have e : v_nbo V i = 0 := by unfold v_nbo; rw [if_pos hi]
    rw [e] at hq
    refine zp_iload_n (x := i) rfl rfl ?_
    refine zp_istore_n_2 rfl rfl ?_
    refine zp_bipush (v := (nI 65)) rfl (by decide +kernel) ?_
    refine zp_istore_n_3 rfl rfl ?_
    refine zp_iload_n (x := (nI 65)) rfl rfl ?_
    refine zp_bipush (v := (nI 90)) rfl (by decide +kernel) ?_
    refine zp_icF (tgt := 38) rfl rfl (by decide +kernel) ?_
    refine zp_iload_n (x := i) rfl rfl ?_
    refine zp_if_lt (tgt := 38) rfl rfl (fun b12 => ?_) (fun b12 => ?_)
    · refine zp_iconst (v := (nI 0)) rfl (by decide +kernel) ?_
      refine zp_iret rfl rfl ?_
      exact hq
    · exact absurd hi b12
  · have e : v_nbo V i = v_nmo V (v_ord V (i2n i)) := by unfold v_nbo; rw [if_neg hi]
    rw [e] at hq
    have hi2 : nI (i2n i) = i := nI_i2n (Int32.not_lt.mp hi)
    have hl2 : i2n i < 2 ^ 31 := by have := (nI_of hi).choose_spec; unfold i2n; rw [this.2, nI_clamp this.1]; exact this.1
    clear e hi
    generalize i2n i = l0 at *
    subst hi2
    have lp : ∀ k nm l, nm + k = 91 → l < 2 ^ 31 → v_nmo V (v_ord V l0) = v_nmo V (v_ol V nm k l) → zp_wp X y_Prog_nameByOrder 5 [.ref p, .int (nI l0), .int (nI l), .int (nI nm)] [] h Q := by
      intro k
      induction k with
      | zero =>
        intro nm l hn hl he
        refine zp_iload_n (x := (nI nm)) rfl rfl ?_
        refine zp_bipush (v := (nI 90)) rfl (by decide +kernel) ?_
        refine zp_icmpN_gt (tgt := 38) rfl rfl (by omega) (by omega) (fun b8 => ?_) (fun b8 => ?_)
        · refine zp_iconst (v := (nI 0)) rfl (by decide +kernel) ?_
          refine zp_iret rfl rfl ?_
          rw [he] at hq; exact hq
        · omega
      | succ k ih =>
        intro nm l hn hl he
        have nx : ∀ l', l' < 2 ^ 31 → v_nmo V (v_ord V l0) = v_nmo V (v_ol V (nm + 1) k l') → zp_wp X y_Prog_nameByOrder 32 [.ref p, .int (nI l0), .int (nI l'), .int (nI nm)] [] h Q := by
          intro l' hl' he'
          refine zp_iincN_3 rfl rfl ?_
          refine zp_goto (tgt := 5) rfl rfl ?_
          exact ih (nm + 1) l' (by omega) hl' he'
        unfold v_ol at he
        refine zp_iload_n (x := (nI nm)) rfl rfl ?_
        refine zp_bipush (v := (nI 90)) rfl (by decide +kernel) ?_
        refine zp_icmpN_gt (tgt := 38) rfl rfl (by omega) (by omega) (fun b8 => ?_) (fun b8 => ?_)
        · omega
        · refine zp_iload_n (x := (nI l)) rfl rfl ?_
          refine zp_ifF (tgt := 38) rfl rfl (zc_lt (by omega)) ?_
          refine zp_aload_n (x := p) rfl rfl ?_
          refine zp_iload_n (x := (nI nm)) rfl rfl ?_
          refine zq_virt hS rfl rfl (by first | assumption | exact ⟨by decide, rfl⟩) rfl (s_Prog_classAt hS hA' hP hB (by omega) ?_)
          cases hz : v_cls V nm with
          | none =>
            show zp_wp X y_Prog_nameByOrder 20 [.ref p, .int (nI l0), .int (nI l), .int (nI nm)] [.int (-1)] h Q
            refine zp_ifT (tgt := 32) rfl rfl (by decide +kernel) ?_
            rw [hz] at he
            first
            | (simp only [if_neg b24] at he; rw [nI_dec (by omega)]; exact nx (l - 1) (by omega) he)
            | exact nx l hl he
          | some c =>
            have hz2 := v_cls_lt hz
            show zp_wp X y_Prog_nameByOrder 20 [.ref p, .int (nI l0), .int (nI l), .int (nI nm)] [.int (nI c)] h Q
            refine zp_ifF (tgt := 32) rfl rfl (zc_lt (by omega)) ?_
            refine zp_iload_n (x := (nI l)) rfl rfl ?_
            refine zp_ifN_ne (tgt := 29) rfl rfl (by omega) (fun b24 => ?_) (fun b24 => ?_)
            · refine zp_iinc_2 rfl rfl rfl ?_
              rw [hz] at he
              first
              | (simp only [if_neg b24] at he; rw [nI_dec (by omega)]; exact nx (l - 1) (by omega) he)
              | exact nx l hl he
            · refine zp_iload_n (x := (nI nm)) rfl rfl ?_
              refine zp_iret rfl rfl ?_
              rw [hz] at he
              simp only [b24, if_true] at he
              rw [he] at hq
              rw [← hz2.2.1]
              exact hq
    refine zp_iload_n (x := (nI l0)) rfl rfl ?_
    refine zp_istore_n_2 rfl rfl ?_
    refine zp_bipush (v := (nI 65)) rfl (by decide +kernel) ?_
    refine zp_istore_n_3 rfl rfl ?_
    exact lp 26 65 l0 rfl hl2 rfl
theorem s_Prog_superNameOf {c : Nat} (hS : zs_H h) (hA : zq_A p) (hP : zq_P V p h) (hB : zv_B V) (hc : c < 12) (hl : v_cn V c ≠ 0) (hq : Q (.inl (some (.int (nI (v_sn V c))))) h) : zp_wm X y_Prog_superNameOf [.ref p, .int (nI c)] h Q := by
  obtain ⟨hA0, hA1, hA2, hA3, hA4, hA5, hA6⟩ := hA
  rw [v_par_sn hl] at hq
  show zp_wp X y_Prog_superNameOf 0 [.ref p, .int (nI c), zm_mk] [] h Q
  refine zp_iload_n (x := (nI c)) rfl rfl ?_
  refine zp_ifF (tgt := 10) rfl rfl (zc_lt (by omega)) ?_
  refine zp_iload_n (x := (nI c)) rfl rfl ?_
  refine zp_bipush (v := (nI 12)) rfl (by decide +kernel) ?_
  refine zp_icmpN_lt (tgt := 14) rfl rfl (by omega) (by omega) (fun b7 => ?_) (fun b7 => ?_)
  · refine zp_aload_n (x := p) rfl rfl ?_
    refine zq_getr (k9 := (p + 2)) hS rfl (by first | assumption | exact ⟨by decide, rfl⟩) rfl ?_
    refine zp_iload_n (x := (nI c)) rfl rfl ?_
    refine zq_iald hS rfl (by first | assumption | exact ⟨by decide, rfl⟩) (by omega) (by first | decide | omega) ?_
    rw [hP.sp (c) (by omega)]
    refine zp_istore_n_2 rfl rfl ?_
    refine zp_iload_n (x := (zf_o (v_par V (c)))) rfl rfl ?_
    cases hp : v_par V c with
    | none =>
      show zp_wp X y_Prog_superNameOf 22 [.ref p, .int (nI c), .int (-1)] [.int (-1)] h Q
      refine zp_ifT (tgt := 31) rfl rfl (by decide +kernel) ?_
      refine zp_iconst (v := (nI 0)) rfl (by decide +kernel) ?_
      refine zp_goto (tgt := 41) rfl rfl ?_
      refine zp_iret rfl rfl ?_
      rw [hp] at hq; exact hq
    | some s =>
      have hs := v_par_12 hB hc s hp
      show zp_wp X y_Prog_superNameOf 22 [.ref p, .int (nI c), .int (nI s)] [.int (nI s)] h Q
      refine zp_ifF (tgt := 31) rfl rfl (zc_lt (by omega)) ?_
      refine zp_iload_n (x := (nI s)) rfl rfl ?_
      refine zp_bipush (v := (nI 12)) rfl (by decide +kernel) ?_
      refine zp_icmpN_lt (tgt := 35) rfl rfl (by omega) (by omega) (fun b28 => ?_) (fun b28 => ?_)
      · refine zp_aload_n (x := p) rfl rfl ?_
        refine zq_getr (k9 := (p + 1)) hS rfl (by first | assumption | exact ⟨by decide, rfl⟩) rfl ?_
        refine zp_iload_n (x := (nI s)) rfl rfl ?_
        refine zq_iald hS rfl (by first | assumption | exact ⟨by decide, rfl⟩) (by omega) (by first | decide | omega) ?_
        rw [hP.cn (s) (by omega)]
        have q40 := hB.1 (s) (by omega)
        refine zp_iret rfl rfl ?_
        rw [hp] at hq; exact hq
      · omega
  · omega
theorem s_Prog_ownerNameOf {m : Option Nat} (hS : zs_H h) (hA : zq_A p) (hP : zq_P V p h) (hW : zv_W V) (hm : ∀ i, m = some i → i < 40 ∧ v_mn V i ≠ 0) (hq : Q (.inl (some (.int (nI (v_onm V m))))) h) : zp_wm X y_Prog_ownerNameOf [.ref p, .int (zf_o m)] h Q := by
  obtain ⟨hA0, hA1, hA2, hA3, hA4, hA5, hA6⟩ := hA
  have hB := hW.B
  cases m with
  | none =>
    show zp_wp X y_Prog_ownerNameOf 0 [.ref p, .int (-1), zm_mk] [] h Q
    refine zp_iload_n (x := (-1)) rfl rfl ?_
    refine zp_ifT (tgt := 10) rfl rfl (by decide +kernel) ?_
    refine zp_iconst (v := (-1)) rfl (by decide +kernel) ?_
    refine zp_goto (tgt := 20) rfl rfl ?_
    refine zp_istore_n_2 rfl rfl ?_
    refine zp_iload_n (x := (-1)) rfl rfl ?_
    refine zp_ifT (tgt := 31) rfl rfl (by decide +kernel) ?_
    refine zp_iconst (v := (nI 0)) rfl (by decide +kernel) ?_
    refine zp_goto (tgt := 41) rfl rfl ?_
    refine zp_iret rfl rfl ?_
    exact hq
  | some m =>
    obtain ⟨hm1, hm2⟩ := hm m rfl
    have ho := hW.2.2.2.1 m hm1
    show zp_wp X y_Prog_ownerNameOf 0 [.ref p, .int (nI m), zm_mk] [] h Q
    refine zp_iload_n (x := (nI m)) rfl rfl ?_
    refine zp_ifF (tgt := 10) rfl rfl (zc_lt (by omega)) ?_
    refine zp_iload_n (x := (nI m)) rfl rfl ?_
    refine zp_bipush (v := (nI 40)) rfl (by decide +kernel) ?_
    refine zp_icmpN_lt (tgt := 14) rfl rfl (by omega) (by omega) (fun b7 => ?_) (fun b7 => ?_)
    · refine zp_aload_n (x := p) rfl rfl ?_
      refine zq_getr (k9 := (p + 5)) hS rfl (by first | assumption | exact ⟨by decide, rfl⟩) rfl ?_
      refine zp_iload_n (x := (nI m)) rfl rfl ?_
      refine zq_iald hS rfl (by first | assumption | exact ⟨by decide, rfl⟩) (by omega) (by first | decide | omega) ?_
      rw [hP.ow (m) (by omega)]
      refine zp_istore_n_2 rfl rfl ?_
      refine zp_iload_n (x := (zf_o (v_own V (m)))) rfl rfl ?_
      rw [v_own_o hm2]
      refine zp_ifF (tgt := 31) rfl rfl (zc_lt (by omega)) ?_
      refine zp_iload_n (x := (nI (v_ow V m))) rfl rfl ?_
      refine zp_bipush (v := (nI 12)) rfl (by decide +kernel) ?_
      refine zp_icmpN_lt (tgt := 35) rfl rfl (by omega) (by omega) (fun b28 => ?_) (fun b28 => ?_)
      · refine zp_aload_n (x := p) rfl rfl ?_
        refine zq_getr (k9 := (p + 1)) hS rfl (by first | assumption | exact ⟨by decide, rfl⟩) rfl ?_
        refine zp_iload_n (x := (nI (v_ow V m))) rfl rfl ?_
        refine zq_iald hS rfl (by first | assumption | exact ⟨by decide, rfl⟩) (by omega) (by first | decide | omega) ?_
        rw [hP.cn (v_ow V m) (by omega)]
        have q40 := hB.1 (v_ow V m) (by omega)
        refine zp_iret rfl rfl ?_
        exact hq
      · omega
    · omega
theorem s_Prog_twinOf {m : Nat} (hS : zs_H h) (hA : zq_A p) (hP : zq_P V p h) (hW : zv_W V) (hA2 : zq_A q) (hP2 : zq_P W q h) (hW2 : zv_W W) (hm : m < 40) (hl : v_mn V m ≠ 0) (hq : Q (.inl (some (.int (zf_o (v_twin V m W))))) h) : zp_wm X y_Prog_twinOf [.ref p, .int (nI m), .ref q] h Q := by
  have hB := hW.B
  have hAp := hA
  have hAq := hA2
  obtain ⟨hA0, hA1, hA2, hA3, hA4, hA5, hA6⟩ := hA
  have hq0 := hAq.1
  have ho := hW.2.2.2.1 m hm
  have ho2 := hW.2.2.2.2.2.2.2.1 m hm hl
  have hn := hW.1 _ ho
  have hmn := hW.2.2.1 m hm
  unfold v_twin at hq
  show zp_wp X y_Prog_twinOf 0 [.ref p, .int (nI m), .ref q, zm_mk] [] h Q
  refine zp_aload_n (x := q) rfl rfl ?_
  refine zp_aload_n (x := p) rfl rfl ?_
  refine zp_iload_n (x := (nI m)) rfl rfl ?_
  refine zq_virt hS rfl rfl (by first | assumption | exact ⟨by decide, rfl⟩) rfl (s_Prog_ownerNameOf (m := some m) hS hAp hP hW (fun i hi => by cases hi; exact ⟨hm, hl⟩) ?_)
  show zp_wp X y_Prog_twinOf 6 [.ref p, .int (nI m), .ref q, zm_mk] [.int (nI (v_cn V (v_ow V m))), .ref q] h Q
  refine zq_virt hS rfl rfl (by first | assumption | exact ⟨by decide, rfl⟩) rfl (s_Prog_classAt hS hAq hP2 hW2.B (by omega) ?_)
  cases hz : v_cls W (v_cn V (v_ow V m)) with
  | none =>
    show zp_wp X y_Prog_twinOf 9 [.ref p, .int (nI m), .ref q, zm_mk] [.int (-1)] h Q
    refine zp_istore_n_3 rfl rfl ?_
    refine zp_iload_n (x := (-1)) rfl rfl ?_
    refine zp_ifF (tgt := 18) rfl rfl (by decide +kernel) ?_
    refine zp_iconst (v := (-1)) rfl (by decide +kernel) ?_
    refine zp_goto (tgt := 29) rfl rfl ?_
    refine zp_iret rfl rfl ?_
    rw [hz] at hq; exact hq
  | some c =>
    have hc := (v_cls_lt hz).1
    show zp_wp X y_Prog_twinOf 9 [.ref p, .int (nI m), .ref q, zm_mk] [.int (nI c)] h Q
    refine zp_istore_n_3 rfl rfl ?_
    refine zp_iload_n (x := (nI c)) rfl rfl ?_
    refine zp_ifT (tgt := 18) rfl rfl (zc_ge (by omega)) ?_
    refine zp_aload_n (x := q) rfl rfl ?_
    refine zp_iload_n (x := (nI c)) rfl rfl ?_
    refine zp_aload_n (x := p) rfl rfl ?_
    refine zq_getr (k9 := (p + 4)) hS rfl (by first | assumption | exact ⟨by decide, rfl⟩) rfl ?_
    refine zp_iload_n (x := (nI m)) rfl rfl ?_
    refine zq_iald hS rfl (by first | assumption | exact ⟨by decide, rfl⟩) (by omega) (by first | decide | omega) ?_
    rw [hP.mn (m) (by omega)]
    have q25 := hB.2.2.1 (m) (by omega)
    refine zq_virt hS rfl rfl (by first | assumption | exact ⟨by decide, rfl⟩) rfl (s_Prog_memberIn hS hAq hP2 hW2 hc (by omega) hl ?_)
    show zp_wp X y_Prog_twinOf 29 [.ref p, .int (nI m), .ref q, .int (nI c)] [.int (zf_o (v_mem W (some c) (v_mn V m)))] h Q
    refine zp_iret rfl rfl ?_
    rw [hz] at hq; exact hq
def v_mst (V : zv) (S : Nat → Bool) (m : Nat) (a : Int32) : Int32 := a ||| cond (!(v_mn V m == 0) && S (v_ow V m)) (v_bit (v_mn V m)) (nI 0)
theorem v_msk_st (V : zv) (S : Nat → Bool) : v_msk V S = zf_fold (v_mst V S) 0 40 (nI 0) := rfl
theorem v_msk_cong {S S' : Nat → Bool} (hW : zv_W V) (hs : ∀ o, o < 12 → S o = S' o) : v_msk V S = v_msk V S' := by
  have key : ∀ k i a, i + k = 40 → zf_fold (v_mst V S) i k a = zf_fold (v_mst V S') i k a := by
    intro k
    induction k with
    | zero => intro i a _; rfl
    | succ k ih =>
      intro i a hi
      show zf_fold (v_mst V S) (i + 1) k (v_mst V S i a) = zf_fold (v_mst V S') (i + 1) k (v_mst V S' i a)
      rw [ih (i + 1) _ (by omega)]
      unfold v_mst
      rw [hs _ (hW.2.2.2.1 i (by omega))]
  exact key 40 0 _ rfl
theorem s_Prog_namesIn {x : Int32} (hS : zs_H h) (hA : zq_A p) (hP : zq_P V p h) (hW : zv_W V) (hq : Q (.inl (some (.int (v_msk V (bt x))))) h) : zp_wm X y_Prog_namesIn [.ref p, .int x] h Q := by
  obtain ⟨hA0, hA1, hA2, hA3, hA4, hA5, hA6⟩ := hA
  have hB := hW.B
  rw [v_msk_st] at hq
  show zp_wp X y_Prog_namesIn 0 [.ref p, .int x, zm_mk, zm_mk] [] h Q
  have lp : ∀ k i a, i + k = 40 → zf_fold (v_mst V (bt x)) 0 40 (nI 0) = zf_fold (v_mst V (bt x)) i k a → zp_wp X y_Prog_namesIn 4 [.ref p, .int x, .int a, .int (nI i)] [] h Q := by
    intro k
    induction k with
    | zero =>
      intro i a hi he
      refine zp_iload_n (x := (nI i)) rfl rfl ?_
      refine zp_bipush (v := (nI 40)) rfl (by decide +kernel) ?_
      refine zp_icmpN_ge (tgt := 52) rfl rfl (by omega) (by omega) (fun b7 => ?_) (fun b7 => ?_)
      · refine zp_iload_n (x := a) rfl rfl ?_
        refine zp_iret rfl rfl ?_
        rw [he] at hq; exact hq
      · omega
    | succ k ih =>
      intro i a hi he
      rw [show zf_fold (v_mst V (bt x)) i (k + 1) a = zf_fold (v_mst V (bt x)) (i + 1) k (v_mst V (bt x) i a) from rfl] at he
      refine zp_iload_n (x := (nI i)) rfl rfl ?_
      refine zp_bipush (v := (nI 40)) rfl (by decide +kernel) ?_
      refine zp_icmpN_ge (tgt := 52) rfl rfl (by omega) (by omega) (fun b7 => ?_) (fun b7 => ?_)
      · omega
      · refine zp_aload_n (x := p) rfl rfl ?_
        refine zq_getr (k9 := (p + 5)) hS rfl (by first | assumption | exact ⟨by decide, rfl⟩) rfl ?_
        refine zp_iload_n (x := (nI i)) rfl rfl ?_
        refine zq_iald hS rfl (by first | assumption | exact ⟨by decide, rfl⟩) (by omega) (by first | decide | omega) ?_
        rw [hP.ow (i) (by omega)]
        cases ho : v_own V i with
        | none =>
          show zp_wp X y_Prog_namesIn 16 [.ref p, .int x, .int a, .int (nI i)] [.int (-1)] h Q
          refine zp_ifT (tgt := 46) rfl rfl (by decide +kernel) ?_
          refine zp_iincN_3 rfl rfl ?_
          refine zp_goto (tgt := 4) rfl rfl ?_
          refine ih (i + 1) _ (by omega) (he.trans ?_)
          congr 1
          unfold v_mst
          first
          | (rw [zb_eq (v_own_n ho)]; exact b_or0 _)
          | (have hb : bt x o = false := by rw [← zb_bt (by omega)]; unfold zb_t; rw [b29]; rfl
             rw [ho2.2, hb, Bool.and_false]; exact b_or0 _)
          | (have hb : bt x o = true := by rw [← zb_bt (by omega)]; unfold zb_t; exact decide_eq_true b29
             rw [ho2.2, hb, zb_ne ho2.1]; rfl)
        | some o =>
          have ho1 := v_own_31 hW (by omega) o ho
          have ho2 := v_own_s ho
          show zp_wp X y_Prog_namesIn 16 [.ref p, .int x, .int a, .int (nI i)] [.int (nI o)] h Q
          refine zp_ifF (tgt := 46) rfl rfl (zc_lt (by omega)) ?_
          refine zp_iload_n (x := x) rfl rfl ?_
          refine zp_aload_n (x := p) rfl rfl ?_
          refine zq_getr (k9 := (p + 5)) hS rfl (by first | assumption | exact ⟨by decide, rfl⟩) rfl ?_
          refine zp_iload_n (x := (nI i)) rfl rfl ?_
          refine zq_iald hS rfl (by first | assumption | exact ⟨by decide, rfl⟩) (by omega) (by first | decide | omega) ?_
          rw [hP.ow (i) (by omega)]
          rw [ho]
          show zp_wp X y_Prog_namesIn 26 [.ref p, .int x, .int a, .int (nI i)] [.int (nI o), .int x] h Q
          refine zp_ishr rfl rfl ?_
          refine zp_iconst (v := (nI 1)) rfl (by decide +kernel) ?_
          refine zp_iand rfl rfl ?_
          refine zp_if_eq (tgt := 46) rfl rfl (fun b29 => ?_) (fun b29 => ?_)
          · refine zp_iincN_3 rfl rfl ?_
            refine zp_goto (tgt := 4) rfl rfl ?_
            refine ih (i + 1) _ (by omega) (he.trans ?_)
            congr 1
            unfold v_mst
            first
            | (rw [zb_eq (v_own_n ho)]; exact b_or0 _)
            | (have hb : bt x o = false := by rw [← zb_bt (by omega)]; unfold zb_t; rw [b29]; rfl
               rw [ho2.2, hb, Bool.and_false]; exact b_or0 _)
            | (have hb : bt x o = true := by rw [← zb_bt (by omega)]; unfold zb_t; exact decide_eq_true b29
               rw [ho2.2, hb, zb_ne ho2.1]; rfl)
          · refine zp_iload_n (x := a) rfl rfl ?_
            refine zp_iconst (v := (nI 1)) rfl (by decide +kernel) ?_
            refine zp_aload_n (x := p) rfl rfl ?_
            refine zq_getr (k9 := (p + 4)) hS rfl (by first | assumption | exact ⟨by decide, rfl⟩) rfl ?_
            refine zp_iload_n (x := (nI i)) rfl rfl ?_
            refine zq_iald hS rfl (by first | assumption | exact ⟨by decide, rfl⟩) (by omega) (by first | decide | omega) ?_
            rw [hP.mn (i) (by omega)]
            have q39 := hB.2.2.1 (i) (by omega)
            refine zp_bipush (v := (nI 97)) rfl (by decide +kernel) ?_
            refine zp_isub rfl rfl ?_
            refine zp_ishl rfl rfl ?_
            refine zp_ior rfl rfl ?_
            refine zp_istore_n_2 rfl rfl ?_
            refine zp_iincN_3 rfl rfl ?_
            refine zp_goto (tgt := 4) rfl rfl ?_
            refine ih (i + 1) _ (by omega) (he.trans ?_)
            congr 1
            unfold v_mst
            first
            | (rw [zb_eq (v_own_n ho)]; exact b_or0 _)
            | (have hb : bt x o = false := by rw [← zb_bt (by omega)]; unfold zb_t; rw [b29]; rfl
               rw [ho2.2, hb, Bool.and_false]; exact b_or0 _)
            | (have hb : bt x o = true := by rw [← zb_bt (by omega)]; unfold zb_t; exact decide_eq_true b29
               rw [ho2.2, hb, zb_ne ho2.1]; rfl)
  refine zp_iconst (v := (nI 0)) rfl (by decide +kernel) ?_
  refine zp_istore_n_2 rfl rfl ?_
  refine zp_iconst (v := (nI 0)) rfl (by decide +kernel) ?_
  refine zp_istore_n_3 rfl rfl ?_
  exact lp 40 0 _ rfl rfl
theorem s_Prog_holds {x : Int32} {name : Nat} {but : Option Nat} (hS : zs_H h) (hA : zq_A p) (hP : zq_P V p h) (hW : zv_W V) (hn : name < 128) (hn0 : name ≠ 0) (hb : ∀ i, but = some i → i < 40) (hq : Q (.inl (some (.int (zf_b (zf_any (fun m => v_mn V m == name && !(some m == but) && bt x (v_ow V m)) 0 40))))) h) : zp_wm X y_Prog_holds [.ref p, .int x, .int (nI name), .int (zf_o but)] h Q := by
  obtain ⟨hA0, hA1, hA2, hA3, hA4, hA5, hA6⟩ := hA
  have hB := hW.B
  have hb2 : ∀ i, but = some i → i < 2 ^ 31 := fun i hi => by have := hb i hi; omega
  generalize hF : (fun m => v_mn V m == name && !(some m == but) && bt x (v_ow V m)) = F at hq
  have hF1 : ∀ m, F m = (v_mn V m == name && !(some m == but) && bt x (v_ow V m)) := fun m => by rw [← hF]
  show zp_wp X y_Prog_holds 0 [.ref p, .int x, .int (nI name), .int (zf_o but), zm_mk] [] h Q
  have lp : ∀ k i, i + k = 40 → zf_any F 0 40 = zf_any F i k → zp_wp X y_Prog_holds 3 [.ref p, .int x, .int (nI name), .int (zf_o but), .int (nI i)] [] h Q := by
    intro k
    induction k with
    | zero =>
      intro i hi he
      refine zp_iload (x := (nI i)) rfl rfl ?_
      refine zp_bipush (v := (nI 40)) rfl (by decide +kernel) ?_
      refine zp_icmpN_ge (tgt := 59) rfl rfl (by omega) (by omega) (fun b7 => ?_) (fun b7 => ?_)
      · refine zp_iconst (v := (nI 0)) rfl (by decide +kernel) ?_
        refine zp_zret rfl rfl (by decide) ?_
        rw [he] at hq; exact hq
      · omega
    | succ k ih =>
      intro i hi he
      have ho := hW.2.2.2.1 i (by omega)
      refine zp_iload (x := (nI i)) rfl rfl ?_
      refine zp_bipush (v := (nI 40)) rfl (by decide +kernel) ?_
      refine zp_icmpN_ge (tgt := 59) rfl rfl (by omega) (by omega) (fun b7 => ?_) (fun b7 => ?_)
      · omega
      · refine zp_iload (x := (nI i)) rfl rfl ?_
        refine zp_iload_n (x := (zf_o but)) rfl rfl ?_
        refine zp_icmp_eq (tgt := 53) rfl rfl (fun b13 => ?_) (fun b13 => ?_)
        · have he2 : F i = false := by rw [hF1, (zf_o_eq hb2 (by omega)).mp b13]; simp
          refine zp_iincN_4 rfl rfl ?_
          refine zp_goto (tgt := 3) rfl rfl ?_
          exact ih (i + 1) (by omega) (by rw [he, zf_any_f he2])
        · refine zp_aload_n (x := p) rfl rfl ?_
          refine zq_getr (k9 := (p + 4)) hS rfl (by first | assumption | exact ⟨by decide, rfl⟩) rfl ?_
          refine zp_iload (x := (nI i)) rfl rfl ?_
          refine zq_iald hS rfl (by first | assumption | exact ⟨by decide, rfl⟩) (by omega) (by first | decide | omega) ?_
          rw [hP.mn (i) (by omega)]
          have q22 := hB.2.2.1 (i) (by omega)
          refine zp_iload_n (x := (nI name)) rfl rfl ?_
          refine zp_icmpN_ne (tgt := 53) rfl rfl (by omega) (by omega) (fun b24 => ?_) (fun b24 => ?_)
          · have he2 : F i = false := by rw [hF1]; simp [b24]
            refine zp_iincN_4 rfl rfl ?_
            refine zp_goto (tgt := 3) rfl rfl ?_
            exact ih (i + 1) (by omega) (by rw [he, zf_any_f he2])
          · have hl : v_mn V i ≠ 0 := by omega
            refine zp_aload_n (x := p) rfl rfl ?_
            refine zq_getr (k9 := (p + 5)) hS rfl (by first | assumption | exact ⟨by decide, rfl⟩) rfl ?_
            refine zp_iload (x := (nI i)) rfl rfl ?_
            refine zq_iald hS rfl (by first | assumption | exact ⟨by decide, rfl⟩) (by omega) (by first | decide | omega) ?_
            rw [hP.ow (i) (by omega)]
            rw [v_own_o hl]
            refine zp_ifF (tgt := 53) rfl rfl (zc_lt (by omega)) ?_
            refine zp_iload_n (x := x) rfl rfl ?_
            refine zp_aload_n (x := p) rfl rfl ?_
            refine zq_getr (k9 := (p + 5)) hS rfl (by first | assumption | exact ⟨by decide, rfl⟩) rfl ?_
            refine zp_iload (x := (nI i)) rfl rfl ?_
            refine zq_iald hS rfl (by first | assumption | exact ⟨by decide, rfl⟩) (by omega) (by first | decide | omega) ?_
            rw [hP.ow (i) (by omega)]
            rw [v_own_o hl]
            refine zp_ishr rfl rfl ?_
            refine zp_iconst (v := (nI 1)) rfl (by decide +kernel) ?_
            refine zp_iand rfl rfl ?_
            refine zp_if_eq (tgt := 53) rfl rfl (fun b48 => ?_) (fun b48 => ?_)
            · have he2 : F i = false := by
                have hb : bt x (v_ow V i) = false := by rw [← zb_bt (by omega)]; unfold zb_t; rw [b48]; rfl
                rw [hF1, hb, Bool.and_false]
              refine zp_iincN_4 rfl rfl ?_
              refine zp_goto (tgt := 3) rfl rfl ?_
              exact ih (i + 1) (by omega) (by rw [he, zf_any_f he2])
            · refine zp_iconst (v := (nI 1)) rfl (by decide +kernel) ?_
              refine zp_zret rfl rfl (by decide) ?_
              have hbt : bt x (v_ow V i) = true := by rw [← zb_bt (by omega)]; unfold zb_t; exact decide_eq_true b48
              have hbu : (some i == but) = false := by
                have : ¬ but = some i := fun q => b13 ((zf_o_eq hb2 (by omega)).mpr q)
                cases but with
                | none => rfl
                | some z => simp at this ⊢; exact fun q => this q.symm
              rw [he, zf_any_t (by rw [hF1, hbt, hbu, zb_eq b24]; rfl)] at hq
              exact hq
  refine zp_iconst (v := (nI 0)) rfl (by decide +kernel) ?_
  refine zp_istore_4 rfl rfl ?_
  exact lp 40 0 rfl rfl
theorem s_Prog_below {c : Nat} (hS : zs_H h) (hA : zq_A p) (hP : zq_P V p h) (hc : c < 12) (hq : ∀ y : Int32, (∀ k, k < 32 → bt y k = (decide (k < 12) && v_anc V k c)) → Q (.inl (some (.int y))) h) : zp_wm X y_Prog_below [.ref p, .int (nI c)] h Q := by
  obtain ⟨hA0, hA1, hA2, hA3, hA4, hA5, hA6⟩ := hA
  show zp_wp X y_Prog_below 0 [.ref p, .int (nI c), zm_mk, zm_mk] [] h Q
  have lp : ∀ k i y, i + k = 12 → (∀ k, k < 32 → bt y k = (decide (k < i) && v_anc V k c)) → zp_wp X y_Prog_below 4 [.ref p, .int (nI c), .int y, .int (nI i)] [] h Q := by
    intro k
    induction k with
    | zero =>
      intro i y hi he
      have hi : i = 12 := by omega
      subst hi
      refine zp_iload_n (x := (nI 12)) rfl rfl ?_
      refine zp_bipush (v := (nI 12)) rfl (by decide +kernel) ?_
      refine zp_icT (tgt := 31) rfl rfl (by decide +kernel) ?_
      refine zp_iload_n (x := y) rfl rfl ?_
      refine zp_iret rfl rfl ?_
      exact hq _ he
    | succ k ih =>
      intro i y hi he
      refine zp_iload_n (x := (nI i)) rfl rfl ?_
      refine zp_bipush (v := (nI 12)) rfl (by decide +kernel) ?_
      refine zp_icmpN_ge (tgt := 31) rfl rfl (by omega) (by omega) (fun b7 => ?_) (fun b7 => ?_)
      · omega
      · refine zp_iload_n (x := y) rfl rfl ?_
        refine zp_aload_n (x := p) rfl rfl ?_
        refine zq_getr (k9 := (p + 3)) hS rfl (by first | assumption | exact ⟨by decide, rfl⟩) rfl ?_
        refine zp_iload_n (x := (nI i)) rfl rfl ?_
        refine zq_iald hS rfl (by first | assumption | exact ⟨by decide, rfl⟩) (by omega) (by first | decide | omega) ?_
        refine zp_iload_n (x := (nI c)) rfl rfl ?_
        refine zp_ishr rfl rfl ?_
        refine zp_iconst (v := (nI 1)) rfl (by decide +kernel) ?_
        refine zp_iand rfl rfl ?_
        refine zp_iload_n (x := (nI i)) rfl rfl ?_
        refine zp_ishl rfl rfl ?_
        refine zp_ior rfl rfl ?_
        refine zp_istore_n_2 rfl rfl ?_
        refine zp_iincN_3 rfl rfl ?_
        refine zp_goto (tgt := 4) rfl rfl ?_
        refine ih (i + 1) _ (by omega) (fun u hu => ?_)
        rw [zb_tn, zb_bt (by omega), hP.ab i (by omega) c (by omega), b_or, he u hu]
        by_cases e : u = i
        · subst e
          rw [decide_eq_false (by omega), decide_eq_true (by omega)]
          cases v_anc V u c with
          | false =>
            show (false && false || bt (nI 0 <<< (nI u &&& 31)) u) = _
            rw [b_shl u (by omega) _ hu, b_0]; simp
          | true =>
            show (false && true || bt (nI 1 <<< (nI u &&& 31)) u) = _
            rw [b_1shl (by omega) hu]; simp
        · have e2 : bt (nI (cond (v_anc V i c) 1 0) <<< (nI i &&& 31)) u = false := by
            cases v_anc V i c with
            | false => show bt (nI 0 <<< (nI i &&& 31)) u = false; rw [b_shl i (by omega) _ hu, b_0]; simp
            | true => show bt (nI 1 <<< (nI i &&& 31)) u = false; rw [b_1shl (by omega) hu]; simp [e]
          rw [e2, Bool.or_false]
          have : decide (u < i) = decide (u < i + 1) := by
            by_cases e3 : u < i
            · rw [decide_eq_true e3, decide_eq_true (by omega)]
            · rw [decide_eq_false e3, decide_eq_false (by omega)]
          rw [this]
  refine zp_iconst (v := (nI 0)) rfl (by decide +kernel) ?_
  refine zp_istore_n_2 rfl rfl ?_
  refine zp_iconst (v := (nI 0)) rfl (by decide +kernel) ?_
  refine zp_istore_n_3 rfl rfl ?_
  exact lp 12 0 _ rfl (fun k hk => by rw [b_0, decide_eq_false (by omega)]; rfl)
theorem s_Prog_line {c : Nat} (hS : zs_H h) (hA : zq_A p) (hP : zq_P V p h) (hc : c < 12) (hq : ∀ y : Int32, (∀ k, k < 32 → bt y k = ((k == c) || v_anc V c k || (decide (k < 12) && v_anc V k c))) → Q (.inl (some (.int y))) h) : zp_wm X y_Prog_line [.ref p, .int (nI c)] h Q := by
  have hA' := hA
  obtain ⟨hA0, hA1, hA2, hA3, hA4, hA5, hA6⟩ := hA
  show zp_wp X y_Prog_line 0 [.ref p, .int (nI c)] [] h Q
  refine zp_iconst (v := (nI 1)) rfl (by decide +kernel) ?_
  refine zp_iload_n (x := (nI c)) rfl rfl ?_
  refine zp_ishl rfl rfl ?_
  refine zp_aload_n (x := p) rfl rfl ?_
  refine zq_getr (k9 := (p + 3)) hS rfl (by first | assumption | exact ⟨by decide, rfl⟩) rfl ?_
  refine zp_iload_n (x := (nI c)) rfl rfl ?_
  refine zq_iald hS rfl (by first | assumption | exact ⟨by decide, rfl⟩) (by omega) (by first | decide | omega) ?_
  refine zp_ior rfl rfl ?_
  refine zp_aload_n (x := p) rfl rfl ?_
  refine zp_iload_n (x := (nI c)) rfl rfl ?_
  refine zq_virt hS rfl rfl (by first | assumption | exact ⟨by decide, rfl⟩) rfl (s_Prog_below hS hA' hP hc (fun y hy => ?_))
  show zp_wp X y_Prog_line 15 [.ref p, .int (nI c)] [.int y, .int (((nI 1) <<< ((nI c) &&& 31)) ||| (ci h (p + 3) c))] h Q
  refine zp_ior rfl rfl ?_
  refine zp_iret rfl rfl ?_
  exact hq _ (fun k hk => by rw [b_or, b_or, b_1shl (by omega) hk, hP.ab c hc k hk, hy k hk])
theorem v_kin_line {c : Nat} {y : Int32} (hW : zv_W V) (hl : v_cn V c ≠ 0) (hy : ∀ k, k < 32 → bt y k = ((k == c) || v_anc V c k || (decide (k < 12) && v_anc V k c))) {name : Nat} {but : Option Nat} (hn0 : name ≠ 0) : zf_any (fun m => v_mn V m == name && !(some m == but) && bt y (v_ow V m)) 0 40 = v_tak V c name but := by
  unfold v_tak
  apply zf_any_cong
  intro m _ hm
  by_cases e : v_mn V m = name
  · have ho := hW.2.2.2.1 m (by omega)
    have hl2 := hW.2.2.2.2.2.2.2.1 m (by omega) (by omega)
    congr 1
    unfold v_kin
    rw [hy _ (by omega), v_und_anc hl, v_und_anc hl2, decide_eq_true ho]
    have : (c == v_ow V m) = (v_ow V m == c) := by
      by_cases q : c = v_ow V m
      · simp [q]
      · have q2 : ¬ v_ow V m = c := fun z => q z.symm
        rw [zb_ne q, zb_ne q2]
    rw [this]
    cases (v_ow V m == c) <;> cases v_anc V c (v_ow V m) <;> cases v_anc V (v_ow V m) c <;> rfl
  · show (v_mn V m == name && !(some m == but) && bt y (v_ow V m)) = (v_mn V m == name && !(some m == but) && v_kin V c (v_ow V m))
    rw [zb_ne e]; rfl
theorem s_Prog_traceAncestors (hS : zs_H h) (hA : zq_A p) (hW : zv_W V) (hsp : ∀ c, c < 12 → ci h (p + 2) c = zf_o (v_par V c)) (hq : ∀ h', zs_H h' → zh_eq (fun x => x = p + 3) h h' → (∀ c, c < 12 → ∀ k, k < 32 → bt (ci h' (p + 3) c) k = v_anc V c k) → Q (.inl none) h') : zp_wm X y_Prog_traceAncestors [.ref p] h Q := by
  obtain ⟨hA0, hA1, hA2, hA3, hA4, hA5, hA6⟩ := hA
  show zp_wp X y_Prog_traceAncestors 0 [.ref p, zm_mk, zm_mk, zm_mk, zm_mk] [] h Q
  have lp : ∀ k i h' x y z, i + k = 12 → zs_H h' → zh_eq (fun x => x = p + 3) h h' → (∀ c, c < i → ∀ k, k < 32 → bt (ci h' (p + 3) c) k = v_anc V c k) → zp_wp X y_Prog_traceAncestors 2 [.ref p, .int (nI i), x, y, z] [] h' Q := by
    intro k
    induction k with
    | zero =>
      intro i h' x y z hi hS he hb
      have hi : i = 12 := by omega
      subst hi
      refine zp_iload_n (x := (nI 12)) rfl rfl ?_
      refine zp_bipush (v := (nI 12)) rfl (by decide +kernel) ?_
      refine zp_icT (tgt := 69) rfl rfl (by decide +kernel) ?_
      refine zp_vret rfl rfl ?_
      exact hq _ hS he hb
    | succ k ih =>
      intro i h' x y z hi hS he hb
      have hsp' : ∀ c, c < 12 → ci h' (p + 2) c = zf_o (v_par V c) := fun c hc => by rw [he.gi (by omega)]; exact hsp c hc
      have fin : ∀ (y : Int32) (o : Int32) (s : Nat), (∀ k, k < 32 → bt y k = v_anc V i k) → zp_wp X y_Prog_traceAncestors 56 [.ref p, .int (nI i), .int y, .int o, .int (nI s)] [] h' Q := by
        intro y o s hy
        refine zp_aload_n (x := p) rfl rfl ?_
        refine zq_getr (k9 := (p + 3)) hS rfl (by first | assumption | exact ⟨by decide, rfl⟩) rfl ?_
        refine zp_iload_n (x := (nI i)) rfl rfl ?_
        refine zp_iload_n (x := y) rfl rfl ?_
        refine zq_iast hS rfl (by first | assumption | exact ⟨by decide, rfl⟩) (by omega) (by first | decide | omega) (fun hS62 => ?_)
        have hS := hS62
        refine zp_iincN_1 rfl rfl ?_
        refine zp_goto (tgt := 2) rfl rfl ?_
        refine ih (i + 1) _ _ _ _ (by omega) hS (he.zi rfl) (fun c hc k hk => ?_)
        rw [zi_at]
        by_cases e : c = i
        · subst e; rw [pk_us]; exact hy k hk
        · rw [pk_un e]; exact hb c (by omega) k hk
      have inn : ∀ (r s : Nat) (y : Int32) (o : Option Nat), s + r = 12 → (∀ j, o = some j → j < 12 ∧ v_cn V j ≠ 0) → (∀ u, u < 32 → v_anc V i u = (bt y u || v_ch V o u r)) → zp_wp X y_Prog_traceAncestors 20 [.ref p, .int (nI i), .int y, .int (zf_o o), .int (nI s)] [] h' Q := by
        intro r
        induction r with
        | zero =>
          intro s y o hs ho hy
          have hs : s = 12 := by omega
          subst hs
          refine zp_iload (x := (nI 12)) rfl rfl ?_
          refine zp_bipush (v := (nI 12)) rfl (by decide +kernel) ?_
          refine zp_icT (tgt := 56) rfl rfl (by decide +kernel) ?_
          exact fin _ _ _ (fun u hu => by rw [hy u hu]; simp [v_ch])
        | succ r ih2 =>
          intro s y o hs ho hy
          cases o with
          | none =>
            show zp_wp X y_Prog_traceAncestors 20 [.ref p, .int (nI i), .int y, .int (-1), .int (nI s)] [] h' Q
            refine zp_iload (x := (nI s)) rfl rfl ?_
            refine zp_bipush (v := (nI 12)) rfl (by decide +kernel) ?_
            refine zp_icmpN_ge (tgt := 56) rfl rfl (by omega) (by omega) (fun b24 => ?_) (fun b24 => ?_)
            · omega
            · refine zp_iload_n (x := (-1)) rfl rfl ?_
              refine zp_ifT (tgt := 56) rfl rfl (by decide +kernel) ?_
              exact fin _ _ _ (fun u hu => by rw [hy u hu]; simp [v_ch])
          | some j =>
            obtain ⟨hj1, hj2⟩ := ho j rfl
            show zp_wp X y_Prog_traceAncestors 20 [.ref p, .int (nI i), .int y, .int (nI j), .int (nI s)] [] h' Q
            refine zp_iload (x := (nI s)) rfl rfl ?_
            refine zp_bipush (v := (nI 12)) rfl (by decide +kernel) ?_
            refine zp_icmpN_ge (tgt := 56) rfl rfl (by omega) (by omega) (fun b24 => ?_) (fun b24 => ?_)
            · omega
            · refine zp_iload_n (x := (nI j)) rfl rfl ?_
              refine zp_ifF (tgt := 56) rfl rfl (zc_lt (by omega)) ?_
              refine zp_iload_n (x := (nI j)) rfl rfl ?_
              refine zp_bipush (v := (nI 12)) rfl (by decide +kernel) ?_
              refine zp_icmpN_ge (tgt := 56) rfl rfl (by omega) (by omega) (fun b34 => ?_) (fun b34 => ?_)
              · omega
              · refine zp_iload_n (x := y) rfl rfl ?_
                refine zp_iconst (v := (nI 1)) rfl (by decide +kernel) ?_
                refine zp_iload_n (x := (nI j)) rfl rfl ?_
                refine zp_ishl rfl rfl ?_
                refine zp_ior rfl rfl ?_
                refine zp_istore_n_2 rfl rfl ?_
                refine zp_aload_n (x := p) rfl rfl ?_
                refine zq_getr (k9 := (p + 2)) hS rfl (by first | assumption | exact ⟨by decide, rfl⟩) rfl ?_
                refine zp_iload_n (x := (nI j)) rfl rfl ?_
                refine zq_iald hS rfl (by first | assumption | exact ⟨by decide, rfl⟩) (by omega) (by first | decide | omega) ?_
                rw [hsp' (j) (by omega)]
                refine zp_istore_n_3 rfl rfl ?_
                refine zp_iincN_4 rfl rfl ?_
                refine zp_goto (tgt := 20) rfl rfl ?_
                refine ih2 (s + 1) _ (v_par V j) (by omega) (fun z hz => ⟨v_par_12 hW.B hj1 z hz, v_par_l hW hj1 z hz⟩) (fun u hu => ?_)
                rw [hy u hu, b_or, b_1shl (by omega) hu]
                show (bt y u || ((j == u) || v_ch V (v_pr (v_sp V j)) u r)) = _
                have e1 : v_par V j = v_pr (v_sp V j) := by unfold v_par; rw [if_neg hj2]
                have e2 : (j == u) = (u == j) := by
                  by_cases q : j = u
                  · simp [q]
                  · have q2 : ¬ u = j := fun z => q z.symm
                    rw [zb_ne q, zb_ne q2]
                rw [e1, e2, Bool.or_assoc]
      refine zp_iload_n (x := (nI i)) rfl rfl ?_
      refine zp_bipush (v := (nI 12)) rfl (by decide +kernel) ?_
      refine zp_icmpN_ge (tgt := 69) rfl rfl (by omega) (by omega) (fun b5 => ?_) (fun b5 => ?_)
      · omega
      · refine zp_iconst (v := (nI 0)) rfl (by decide +kernel) ?_
        refine zp_istore_n_2 rfl rfl ?_
        refine zp_aload_n (x := p) rfl rfl ?_
        refine zq_getr (k9 := (p + 2)) hS rfl (by first | assumption | exact ⟨by decide, rfl⟩) rfl ?_
        refine zp_iload_n (x := (nI i)) rfl rfl ?_
        refine zq_iald hS rfl (by first | assumption | exact ⟨by decide, rfl⟩) (by omega) (by first | decide | omega) ?_
        rw [hsp' (i) (by omega)]
        refine zp_istore_n_3 rfl rfl ?_
        refine zp_iconst (v := (nI 0)) rfl (by decide +kernel) ?_
        refine zp_istore_4 rfl rfl ?_
        refine inn 12 0 _ (v_par V i) rfl (fun z hz => ⟨v_par_12 hW.B (by omega) z hz, v_par_l hW (by omega) z hz⟩) (fun u hu => ?_)
        rw [b_0, Bool.false_or]
        unfold v_anc v_par
        rw [v_up_ch]
        by_cases e : v_cn V i = 0
        · rw [if_pos e, zb_eq e]; rfl
        · rw [if_neg e, zb_ne e]; rfl
  refine zp_iconst (v := (nI 0)) rfl (by decide +kernel) ?_
  refine zp_istore_n_1 rfl rfl ?_
  exact lp 12 0 h _ _ _ rfl hS zh_eq.rf (fun c hc => absurd hc (by omega))
end ZP2
