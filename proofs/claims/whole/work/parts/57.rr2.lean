/-! the class: the calls that look, the log -/
theorem n10 : (1 : Nat) ≠ 0 := by decide
theorem n20 : (2 : Nat) ≠ 0 := by decide
theorem v_nbo_lt {V : zv} {i : Int32} (hB : zv_B V) : v_nbo V i < 128 := by
  unfold v_nbo
  split
  · decide
  · cases e : v_ord V (i2n i) with
    | none => show 0 < 128; decide
    | some c => exact hB.1 c (v_ord_12 _ e)
theorem zcn {s : zst} {x i : Int32} : z_className s x i = cond (g_ver x) (if v_nbo (z_ver s x) i = 0 then (1, nI 0, s) else (0, nI (v_nbo (z_ver s x) i), s)) (1, nI 0, s) := by
  unfold z_className
  cases g_ver x with
  | false => rfl
  | true =>
    simp only [cond_true]
    by_cases h0 : i < 0
    · have : v_nbo (z_ver s x) i = 0 := by unfold v_nbo; rw [if_pos h0]
      rw [if_pos h0, if_pos this]
    · rw [if_neg h0]
      cases e : v_ord (z_ver s x) (i2n i) with
      | none =>
        have : v_nbo (z_ver s x) i = 0 := by unfold v_nbo; rw [if_neg h0, e]; rfl
        rw [if_pos this]
      | some c =>
        have h1 : v_nbo (z_ver s x) i = v_cn (z_ver s x) c := by unfold v_nbo; rw [if_neg h0, e]; rfl
        have h2 : v_cn (z_ver s x) c ≠ 0 := v_ol_l e
        rw [if_neg (by rw [h1]; exact h2), h1]
section ZP17
variable {X : zm_X} {h : zm_H} {Q : zm_O → zm_H → Prop} {s : zst}
theorem s_RR_classes {x : Int32} (hs : zc_S s h) (hW : zc_W s) (hq : zc_R (z_classes s x) (fun k => k - 1) h Q) : zp_wm X y_RR_classes [.ref 0, .int x] h Q := by
  have hS := hs.1
  unfold z_classes at hq
  show zp_wp X y_RR_classes 0 [.ref 0, .int x] [] h Q
  cases hv : g_ver x with
  | false =>
    rw [hv] at hq
    refine zp_aload_n (x := 0) rfl rfl ?_
    refine zp_iload_n (x := x) rfl rfl ?_
    refine zq_virt hS rfl rfl (by first | assumption | exact ⟨by decide, rfl⟩) rfl (s_RR_programOf hS (fun q => by rw [hv] at q; cases q) (fun _ => hq.2 n10 _ hs.x zc_F.x))
  | true =>
    rw [hv] at hq
    obtain ⟨p, hp, hA, hP, hV⟩ := q_ver_ok hs hW hv
    have hA0 := hA.1
    refine zp_aload_n (x := 0) rfl rfl ?_
    refine zp_iload_n (x := x) rfl rfl ?_
    refine zq_virt hS rfl rfl (by first | assumption | exact ⟨by decide, rfl⟩) rfl (s_RR_programOf hS (fun _ => ?_) (fun q => by rw [hv] at q; cases q))
    rw [hp]
    show zp_wp X y_RR_classes 5 [.ref 0, .int x] [.ref p] h Q
    refine zq_virt hS rfl rfl (by first | assumption | exact ⟨by decide, rfl⟩) rfl (s_Prog_classCount hS hA hP hV.B ?_)
    show zp_wp X y_RR_classes 8 [.ref 0, .int x] [.int (nI (v_nc (z_ver s x)))] h Q
    refine zp_iret rfl rfl ?_
    exact hq.1 rfl h hs zc_F.rf
theorem s_RR_uses {x : Int32} (hs : zc_S s h) (hW : zc_W s) (hq : zc_R (z_uses s x) (fun k => k - 1) h Q) : zp_wm X y_RR_uses [.ref 0, .int x] h Q := by
  have hS := hs.1
  unfold z_uses at hq
  show zp_wp X y_RR_uses 0 [.ref 0, .int x] [] h Q
  cases hv : g_ver x with
  | false =>
    rw [hv] at hq
    refine zp_aload_n (x := 0) rfl rfl ?_
    refine zp_iload_n (x := x) rfl rfl ?_
    refine zq_virt hS rfl rfl (by first | assumption | exact ⟨by decide, rfl⟩) rfl (s_RR_programOf hS (fun q => by rw [hv] at q; cases q) (fun _ => hq.2 n10 _ hs.x zc_F.x))
  | true =>
    rw [hv] at hq
    obtain ⟨p, hp, hA, hP, hV⟩ := q_ver_ok hs hW hv
    have hA0 := hA.1
    refine zp_aload_n (x := 0) rfl rfl ?_
    refine zp_iload_n (x := x) rfl rfl ?_
    refine zq_virt hS rfl rfl (by first | assumption | exact ⟨by decide, rfl⟩) rfl (s_RR_programOf hS (fun _ => ?_) (fun q => by rw [hv] at q; cases q))
    rw [hp]
    show zp_wp X y_RR_uses 5 [.ref 0, .int x] [.ref p] h Q
    refine zq_virt hS rfl rfl (by first | assumption | exact ⟨by decide, rfl⟩) rfl (s_Prog_useCount hS hA hP ?_)
    show zp_wp X y_RR_uses 8 [.ref 0, .int x] [.int (nI (v_nu (z_ver s x)))] h Q
    refine zp_iret rfl rfl ?_
    exact hq.1 rfl h hs zc_F.rf
theorem s_RR_className {x i : Int32} (hs : zc_S s h) (hW : zc_W s) (hq : zc_R (z_className s x i) (fun k => k - 1) h Q) : zp_wm X y_RR_className [.ref 0, .int x, .int i] h Q := by
  have hS := hs.1
  rw [zcn] at hq
  show zp_wp X y_RR_className 0 [.ref 0, .int x, .int i, zm_mk] [] h Q
  cases hv : g_ver x with
  | false =>
    rw [hv] at hq
    refine zp_aload_n (x := 0) rfl rfl ?_
    refine zp_iload_n (x := x) rfl rfl ?_
    refine zq_virt hS rfl rfl (by first | assumption | exact ⟨by decide, rfl⟩) rfl (s_RR_programOf hS (fun q => by rw [hv] at q; cases q) (fun _ => hq.2 n10 _ hs.x zc_F.x))
  | true =>
    rw [hv] at hq
    obtain ⟨p, hp, hA, hP, hV⟩ := q_ver_ok hs hW hv
    have hA0 := hA.1
    have hlt := v_nbo_lt (i := i) hV.B
    refine zp_aload_n (x := 0) rfl rfl ?_
    refine zp_iload_n (x := x) rfl rfl ?_
    refine zq_virt hS rfl rfl (by first | assumption | exact ⟨by decide, rfl⟩) rfl (s_RR_programOf hS (fun _ => ?_) (fun q => by rw [hv] at q; cases q))
    rw [hp]
    show zp_wp X y_RR_className 5 [.ref 0, .int x, .int i, zm_mk] [.ref p] h Q
    refine zp_iload_n (x := i) rfl rfl ?_
    refine zq_virt hS rfl rfl (by first | assumption | exact ⟨by decide, rfl⟩) rfl (s_Prog_nameByOrder hS hA hP hV.B ?_)
    show zp_wp X y_RR_className 9 [.ref 0, .int x, .int i, zm_mk] [.int (nI (v_nbo (z_ver s x) i))] h Q
    refine zp_istore_n_3 rfl rfl ?_
    refine zp_iload_n (x := (nI (v_nbo (z_ver s x) i))) rfl rfl ?_
    refine zp_ifN_ne (tgt := 24) rfl rfl (by omega) (fun b11 => ?_) (fun b11 => ?_)
    · refine zp_iload_n (x := (nI (v_nbo (z_ver s x) i))) rfl rfl ?_
      refine zp_iret rfl rfl ?_
      rw [if_neg b11] at hq; exact hq.1 rfl h hs zc_F.rf
    · refine zp_throw rfl (by decide) ?_
      rw [if_pos b11] at hq; exact hq.2 n10 _ hs.x zc_F.x
theorem s_RR_superOf {x a : Int32} (hs : zc_S s h) (hW : zc_W s) (hq : zc_R (z_superOf s x a) (fun k => k - 1) h Q) : zp_wm X y_RR_superOf [.ref 0, .int x, .int a] h Q := by
  have hS := hs.1
  unfold z_superOf z_look g_wr at hq
  show zp_wp X y_RR_superOf 0 [.ref 0, .int x, .int a, zm_mk, zm_mk] [] h Q
  cases hv : g_ver x with
  | false =>
    rw [hv] at hq
    refine zp_aload_n (x := 0) rfl rfl ?_
    refine zp_iload_n (x := x) rfl rfl ?_
    refine zq_virt hS rfl rfl (by first | assumption | exact ⟨by decide, rfl⟩) rfl (s_RR_programOf hS (fun q => by rw [hv] at q; cases q) (fun _ => hq.2 n10 _ hs.x zc_F.x))
  | true =>
    rw [hv] at hq
    obtain ⟨p, hp, hA, hP, hV⟩ := q_ver_ok hs hW hv
    have hA0 := hA.1
    cases ea : g_isC a with
    | false =>
      rw [ea] at hq
      refine zp_aload_n (x := 0) rfl rfl ?_
      refine zp_iload_n (x := x) rfl rfl ?_
      refine zq_virt hS rfl rfl (by first | assumption | exact ⟨by decide, rfl⟩) rfl (s_RR_programOf hS (fun _ => ?_) (fun q => by rw [hv] at q; cases q))
      rw [hp]
      show zp_wp X y_RR_superOf 5 [.ref 0, .int x, .int a, zm_mk, zm_mk] [.ref p] h Q
      refine zp_astore_n_3 rfl rfl ?_
      refine zp_iload_n (x := a) rfl rfl ?_
      refine zp_call rfl rfl (s_RR_requireClassName (fun q => by rw [ea] at q; cases q) (fun _ => hq.2 n20 _ hs.x zc_F.x))
    | true =>
      rw [ea] at hq
      obtain ⟨a1, a2⟩ := g_isC_n ea
      generalize i2n a = a9 at *
      subst a1
      refine zp_aload_n (x := 0) rfl rfl ?_
      refine zp_iload_n (x := x) rfl rfl ?_
      refine zq_virt hS rfl rfl (by first | assumption | exact ⟨by decide, rfl⟩) rfl (s_RR_programOf hS (fun _ => ?_) (fun q => by rw [hv] at q; cases q))
      rw [hp]
      show zp_wp X y_RR_superOf 5 [.ref 0, .int x, .int (nI a9), zm_mk, zm_mk] [.ref p] h Q
      refine zp_astore_n_3 rfl rfl ?_
      refine zp_iload_n (x := (nI a9)) rfl rfl ?_
      refine zp_call rfl rfl (s_RR_requireClassName (fun _ => ?_) (fun q => by rw [ea] at q; cases q))
      show zp_wp X y_RR_superOf 10 [.ref 0, .int x, .int (nI a9), .ref p, zm_mk] [] h Q
      refine zp_aload_n (x := p) rfl rfl ?_
      refine zp_iload_n (x := (nI a9)) rfl rfl ?_
      refine zq_virt hS rfl rfl (by first | assumption | exact ⟨by decide, rfl⟩) rfl (s_Prog_classAt hS hA hP hV.B (by omega) ?_)
      cases hz : v_cls (z_ver s x) a9 with
      | none =>
        show zp_wp X y_RR_superOf 15 [.ref 0, .int x, .int (nI a9), .ref p, zm_mk] [.int (-1)] h Q
        refine zp_istore_4 rfl rfl ?_
        refine zp_iload (x := (-1)) rfl rfl ?_
        refine zp_ifF (tgt := 26) rfl rfl (by decide +kernel) ?_
        refine zp_iconst (v := (-1)) rfl (by decide +kernel) ?_
        refine zp_goto (tgt := 32) rfl rfl ?_
        refine zp_iret rfl rfl ?_
        rw [hz] at hq
        exact hq.1 rfl h hs zc_F.rf
      | some c9 =>
        have hc9 := v_cls_l _ hz
        show zp_wp X y_RR_superOf 15 [.ref 0, .int x, .int (nI a9), .ref p, zm_mk] [.int (nI c9)] h Q
        refine zp_istore_4 rfl rfl ?_
        refine zp_iload (x := (nI c9)) rfl rfl ?_
        refine zp_ifT (tgt := 26) rfl rfl (zc_ge (by omega)) ?_
        refine zp_aload_n (x := p) rfl rfl ?_
        refine zp_iload (x := (nI c9)) rfl rfl ?_
        refine zq_virt hS rfl rfl (by first | assumption | exact ⟨by decide, rfl⟩) rfl (s_Prog_superNameOf hS hA hP hV.B hc9.1 hc9.2 ?_)
        show zp_wp X y_RR_superOf 32 [.ref 0, .int x, .int (nI a9), .ref p, .int (nI c9)] [.int (nI (v_sn (z_ver s x) c9))] h Q
        refine zp_iret rfl rfl ?_
        rw [hz] at hq
        exact hq.1 rfl h hs zc_F.rf
theorem s_RR_members {x a : Int32} (hs : zc_S s h) (hW : zc_W s) (hq : zc_R (z_members s x a) (fun k => k - 1) h Q) : zp_wm X y_RR_members [.ref 0, .int x, .int a] h Q := by
  have hS := hs.1
  unfold z_members z_look g_wr at hq
  show zp_wp X y_RR_members 0 [.ref 0, .int x, .int a, zm_mk, zm_mk] [] h Q
  cases hv : g_ver x with
  | false =>
    rw [hv] at hq
    refine zp_aload_n (x := 0) rfl rfl ?_
    refine zp_iload_n (x := x) rfl rfl ?_
    refine zq_virt hS rfl rfl (by first | assumption | exact ⟨by decide, rfl⟩) rfl (s_RR_programOf hS (fun q => by rw [hv] at q; cases q) (fun _ => hq.2 n10 _ hs.x zc_F.x))
  | true =>
    rw [hv] at hq
    obtain ⟨p, hp, hA, hP, hV⟩ := q_ver_ok hs hW hv
    have hA0 := hA.1
    cases ea : g_isC a with
    | false =>
      rw [ea] at hq
      refine zp_aload_n (x := 0) rfl rfl ?_
      refine zp_iload_n (x := x) rfl rfl ?_
      refine zq_virt hS rfl rfl (by first | assumption | exact ⟨by decide, rfl⟩) rfl (s_RR_programOf hS (fun _ => ?_) (fun q => by rw [hv] at q; cases q))
      rw [hp]
      show zp_wp X y_RR_members 5 [.ref 0, .int x, .int a, zm_mk, zm_mk] [.ref p] h Q
      refine zp_astore_n_3 rfl rfl ?_
      refine zp_iload_n (x := a) rfl rfl ?_
      refine zp_call rfl rfl (s_RR_requireClassName (fun q => by rw [ea] at q; cases q) (fun _ => hq.2 n20 _ hs.x zc_F.x))
    | true =>
      rw [ea] at hq
      obtain ⟨a1, a2⟩ := g_isC_n ea
      generalize i2n a = a9 at *
      subst a1
      refine zp_aload_n (x := 0) rfl rfl ?_
      refine zp_iload_n (x := x) rfl rfl ?_
      refine zq_virt hS rfl rfl (by first | assumption | exact ⟨by decide, rfl⟩) rfl (s_RR_programOf hS (fun _ => ?_) (fun q => by rw [hv] at q; cases q))
      rw [hp]
      show zp_wp X y_RR_members 5 [.ref 0, .int x, .int (nI a9), zm_mk, zm_mk] [.ref p] h Q
      refine zp_astore_n_3 rfl rfl ?_
      refine zp_iload_n (x := (nI a9)) rfl rfl ?_
      refine zp_call rfl rfl (s_RR_requireClassName (fun _ => ?_) (fun q => by rw [ea] at q; cases q))
      show zp_wp X y_RR_members 10 [.ref 0, .int x, .int (nI a9), .ref p, zm_mk] [] h Q
      refine zp_aload_n (x := p) rfl rfl ?_
      refine zp_iload_n (x := (nI a9)) rfl rfl ?_
      refine zq_virt hS rfl rfl (by first | assumption | exact ⟨by decide, rfl⟩) rfl (s_Prog_classAt hS hA hP hV.B (by omega) ?_)
      cases hz : v_cls (z_ver s x) a9 with
      | none =>
        show zp_wp X y_RR_members 15 [.ref 0, .int x, .int (nI a9), .ref p, zm_mk] [.int (-1)] h Q
        refine zp_istore_4 rfl rfl ?_
        refine zp_iload (x := (-1)) rfl rfl ?_
        refine zp_ifF (tgt := 26) rfl rfl (by decide +kernel) ?_
        refine zp_iconst (v := (-1)) rfl (by decide +kernel) ?_
        refine zp_goto (tgt := 34) rfl rfl ?_
        refine zp_iret rfl rfl ?_
        rw [hz] at hq
        exact hq.1 rfl h hs zc_F.rf
      | some c9 =>
        have hc9 := v_cls_l _ hz
        show zp_wp X y_RR_members 15 [.ref 0, .int x, .int (nI a9), .ref p, zm_mk] [.int (nI c9)] h Q
        refine zp_istore_4 rfl rfl ?_
        refine zp_iload (x := (nI c9)) rfl rfl ?_
        refine zp_ifT (tgt := 26) rfl rfl (zc_ge (by omega)) ?_
        refine zp_aload_n (x := p) rfl rfl ?_
        refine zp_iconst (v := (nI 1)) rfl (by decide +kernel) ?_
        refine zp_iload (x := (nI c9)) rfl rfl ?_
        refine zp_ishl rfl rfl ?_
        refine zq_virt hS rfl rfl (by first | assumption | exact ⟨by decide, rfl⟩) rfl (s_Prog_namesIn hS hA hP hV ?_)
        rw [v_msk_1 hc9.1 hV]
        show zp_wp X y_RR_members 34 [.ref 0, .int x, .int (nI a9), .ref p, .int (nI c9)] [.int (v_msk (z_ver s x) (fun o => o == c9))] h Q
        refine zp_iret rfl rfl ?_
        rw [hz] at hq
        exact hq.1 rfl h hs zc_F.rf
theorem v_has_uo (V : zv) (a m b n : Nat) : v_has V a m b n = v_uo V (v_mem V (v_cls V a) m) (v_mem V (v_cls V b) n) := by
  unfold v_has
  cases v_mem V (v_cls V a) m <;> cases v_mem V (v_cls V b) n <;> rfl
theorem s_RR_hasUse {x a m b n : Int32} (hs : zc_S s h) (hW : zc_W s) (hq : zc_R (z_hasUse s x a m b n) (fun k => k - 1) h Q) : zp_wm X y_RR_hasUse [.ref 0, .int x, .int a, .int m, .int b, .int n] h Q := by
  have hS := hs.1
  unfold z_hasUse z_look g_wr at hq
  rw [v_has_uo] at hq
  show zp_wp X y_RR_hasUse 0 [.ref 0, .int x, .int a, .int m, .int b, .int n, zm_mk] [] h Q
  cases hv : g_ver x with
  | false =>
    rw [hv] at hq
    refine zp_aload_n (x := 0) rfl rfl ?_
    refine zp_iload_n (x := x) rfl rfl ?_
    refine zq_virt hS rfl rfl (by first | assumption | exact ⟨by decide, rfl⟩) rfl (s_RR_programOf hS (fun q => by rw [hv] at q; cases q) (fun _ => hq.2 n10 _ hs.x zc_F.x))
  | true =>
    rw [hv] at hq
    obtain ⟨p, hp, hA, hP, hV⟩ := q_ver_ok hs hW hv
    have hA0 := hA.1
    have hE : g_four a m b n = false → Q (.inr 1) (zx h) := fun q => by
      rw [q] at hq
      exact hq.2 n20 _ hs.x zc_F.x
    cases e4 : g_four a m b n with
    | false =>
      refine zp_aload_n (x := 0) rfl rfl ?_
      refine zp_iload_n (x := x) rfl rfl ?_
      refine zq_virt hS rfl rfl (by first | assumption | exact ⟨by decide, rfl⟩) rfl (s_RR_programOf hS (fun _ => ?_) (fun q => by rw [hv] at q; cases q))
      rw [hp]
      show zp_wp X y_RR_hasUse 5 [.ref 0, .int x, .int a, .int m, .int b, .int n, zm_mk] [.ref p] h Q
      refine zp_astore_6 rfl rfl ?_
      refine zp_iload_n (x := a) rfl rfl ?_
      refine zp_call rfl rfl (s_RR_requireClassName (fun q1 => ?_) (fun _ => hE e4))
      show zp_wp X y_RR_hasUse 11 [.ref 0, .int x, .int a, .int m, .int b, .int n, .ref p] [] h Q
      refine zp_iload_n (x := m) rfl rfl ?_
      refine zp_call rfl rfl (s_RR_requireMemberName (fun q2 => ?_) (fun _ => hE e4))
      show zp_wp X y_RR_hasUse 15 [.ref 0, .int x, .int a, .int m, .int b, .int n, .ref p] [] h Q
      refine zp_iload (x := b) rfl rfl ?_
      refine zp_call rfl rfl (s_RR_requireClassName (fun q3 => ?_) (fun _ => hE e4))
      show zp_wp X y_RR_hasUse 20 [.ref 0, .int x, .int a, .int m, .int b, .int n, .ref p] [] h Q
      refine zp_iload (x := n) rfl rfl ?_
      refine zp_call rfl rfl (s_RR_requireMemberName (fun q4 => by unfold g_four at e4; rw [q1, q2, q3, q4] at e4; cases e4) (fun _ => hE e4))
    | true =>
      have e5 := e4
      unfold g_four at e5
      rw [Bool.and_eq_true, Bool.and_eq_true, Bool.and_eq_true] at e5
      obtain ⟨⟨⟨ea, em⟩, eb⟩, en⟩ := e5
      rw [e4] at hq
      obtain ⟨a1, a2⟩ := g_isC_n ea
      obtain ⟨m1, m2⟩ := g_isM_n em
      obtain ⟨b1, b2⟩ := g_isC_n eb
      obtain ⟨n1, n2⟩ := g_isM_n en
      clear hE e4
      generalize i2n a = a9 at *
      generalize i2n m = m9 at *
      generalize i2n b = b9 at *
      generalize i2n n = n9 at *
      subst a1
      subst m1
      subst b1
      subst n1
      refine zp_aload_n (x := 0) rfl rfl ?_
      refine zp_iload_n (x := x) rfl rfl ?_
      refine zq_virt hS rfl rfl (by first | assumption | exact ⟨by decide, rfl⟩) rfl (s_RR_programOf hS (fun _ => ?_) (fun q => by rw [hv] at q; cases q))
      rw [hp]
      show zp_wp X y_RR_hasUse 5 [.ref 0, .int x, .int (nI a9), .int (nI m9), .int (nI b9), .int (nI n9), zm_mk] [.ref p] h Q
      refine zp_astore_6 rfl rfl ?_
      refine zp_iload_n (x := (nI a9)) rfl rfl ?_
      refine zp_call rfl rfl (s_RR_requireClassName (fun _ => ?_) (fun q => by rw [ea] at q; cases q))
      show zp_wp X y_RR_hasUse 11 [.ref 0, .int x, .int (nI a9), .int (nI m9), .int (nI b9), .int (nI n9), .ref p] [] h Q
      refine zp_iload_n (x := (nI m9)) rfl rfl ?_
      refine zp_call rfl rfl (s_RR_requireMemberName (fun _ => ?_) (fun q => by rw [em] at q; cases q))
      show zp_wp X y_RR_hasUse 15 [.ref 0, .int x, .int (nI a9), .int (nI m9), .int (nI b9), .int (nI n9), .ref p] [] h Q
      refine zp_iload (x := (nI b9)) rfl rfl ?_
      refine zp_call rfl rfl (s_RR_requireClassName (fun _ => ?_) (fun q => by rw [eb] at q; cases q))
      show zp_wp X y_RR_hasUse 20 [.ref 0, .int x, .int (nI a9), .int (nI m9), .int (nI b9), .int (nI n9), .ref p] [] h Q
      refine zp_iload (x := (nI n9)) rfl rfl ?_
      refine zp_call rfl rfl (s_RR_requireMemberName (fun _ => ?_) (fun q => by rw [en] at q; cases q))
      show zp_wp X y_RR_hasUse 25 [.ref 0, .int x, .int (nI a9), .int (nI m9), .int (nI b9), .int (nI n9), .ref p] [] h Q
      refine zp_aload (x := p) rfl rfl ?_
      refine zp_aload (x := p) rfl rfl ?_
      refine zp_iload_n (x := (nI a9)) rfl rfl ?_
      refine zp_iload_n (x := (nI m9)) rfl rfl ?_
      refine zq_virt hS rfl rfl (by first | assumption | exact ⟨by decide, rfl⟩) rfl (s_Prog_memberAt hS hA hP hV (by omega) (by omega) (by omega) ?_)
      show zp_wp X y_RR_hasUse 34 [.ref 0, .int x, .int (nI a9), .int (nI m9), .int (nI b9), .int (nI n9), .ref p] [.int (zf_o (v_mem (z_ver s x) (v_cls (z_ver s x) a9) m9)), .ref p] h Q
      refine zp_aload (x := p) rfl rfl ?_
      refine zp_iload (x := (nI b9)) rfl rfl ?_
      refine zp_iload (x := (nI n9)) rfl rfl ?_
      refine zq_virt hS rfl rfl (by first | assumption | exact ⟨by decide, rfl⟩) rfl (s_Prog_memberAt hS hA hP hV (by omega) (by omega) (by omega) ?_)
      show zp_wp X y_RR_hasUse 43 [.ref 0, .int x, .int (nI a9), .int (nI m9), .int (nI b9), .int (nI n9), .ref p] [.int (zf_o (v_mem (z_ver s x) (v_cls (z_ver s x) b9) n9)), .int (zf_o (v_mem (z_ver s x) (v_cls (z_ver s x) a9) m9)), .ref p] h Q
      refine zq_virt hS rfl rfl (by first | assumption | exact ⟨by decide, rfl⟩) rfl (s_Prog_isUse hS hA hP v_mem_40 v_mem_40 ?_)
      show zp_wp X y_RR_hasUse 46 [.ref 0, .int x, .int (nI a9), .int (nI m9), .int (nI b9), .int (nI n9), .ref p] [.int (zf_b (v_uo (z_ver s x) (v_mem (z_ver s x) (v_cls (z_ver s x) a9) m9) (v_mem (z_ver s x) (v_cls (z_ver s x) b9) n9)))] h Q
      refine zp_zret rfl rfl (zf_b01 _) ?_
      exact hq.1 rfl h hs zc_F.rf
theorem s_RR_copyVersion (hs : zc_S s h) (hW : zc_W s) (hq : ∀ h', zc_S (z_copy s).2.2 h' → zc_F h h' → Q (.inl (some (.int (z_copy s).2.1))) h') : zp_wm X y_RR_copyVersion [.ref 0] h Q := by
  have hS := hs.1
  obtain ⟨s1, s2, s3, s4, s5, s6, s7, s8⟩ := id hs
  show zp_wp X y_RR_copyVersion 0 [.ref 0] [] h Q
  refine zp_aload_n (x := 0) rfl rfl ?_
  refine zq_getr (k9 := 15) hS rfl (by first | assumption | exact ⟨by decide, rfl⟩) rfl ?_
  refine zp_aload_n (x := 0) rfl rfl ?_
  refine zq_getr (k9 := 8) hS rfl (by first | assumption | exact ⟨by decide, rfl⟩) rfl ?_
  refine zq_virt hS rfl rfl (by first | assumption | exact ⟨by decide, rfl⟩) rfl (s_Prog_copyFrom hS qA_15 qA_8 s3 (by decide) (fun h2 p2 => ?_))
  have hS := p2.1
  show zp_wp X y_RR_copyVersion 11 [.ref 0] [] h2 Q
  refine zp_aload_n (x := 0) rfl rfl ?_
  refine zq_getr (k9 := 15) hS rfl (by first | assumption | exact ⟨by decide, rfl⟩) rfl ?_
  refine zq_virt hS rfl rfl (by first | assumption | exact ⟨by decide, rfl⟩) rfl (s_Prog_classCount p2.1 qA_15 p2.2.2 hW.1.2.1.B ?_)
  show zp_wp X y_RR_copyVersion 18 [.ref 0] [.int (nI (v_nc (g_0 s)))] h2 Q
  refine zp_iret rfl rfl ?_
  exact hq _ ⟨p2.1, s2.eq p2.2.1 (fun x _ _ => by omega), s3.eq p2.2.1 (fun x _ _ => by omega), p2.2.2, s5.eq p2.2.1 (fun x _ _ => by omega), by rw [p2.2.1.gf (by omega)]; exact s6, by rw [p2.2.1.gf (by omega)]; exact s7, by rw [p2.2.1.gi (by omega)]; exact s8⟩ (zc_F.of p2.2.1 (fun x e => by omega))
theorem s_RR_areSame (hs : zc_S s h) (hW : zc_W s) (hq : Q (.inl (some (.int (zf_b (v_one (g_0 s) (g_1 s)))))) h) : zp_wm X y_RR_areSame [.ref 0] h Q := by
  have hS := hs.1
  show zp_wp X y_RR_areSame 0 [.ref 0] [] h Q
  refine zp_aload_n (x := 0) rfl rfl ?_
  refine zq_getr (k9 := 8) hS rfl (by first | assumption | exact ⟨by decide, rfl⟩) rfl ?_
  refine zp_aload_n (x := 0) rfl rfl ?_
  refine zq_getr (k9 := 15) hS rfl (by first | assumption | exact ⟨by decide, rfl⟩) rfl ?_
  refine zq_virt hS rfl rfl (by first | assumption | exact ⟨by decide, rfl⟩) rfl (s_Prog_isSameAs hS qA_8 hs.2.2.1 hW.1.2.1 qA_15 hs.2.2.2.1 hW.1.2.2 ?_)
  show zp_wp X y_RR_areSame 11 [.ref 0] [.int (zf_b (v_one (g_0 s) (g_1 s)))] h Q
  refine zp_zret rfl rfl (zf_b01 _) ?_
  exact hq
theorem s_RR_log (hs : zc_S s h) (hq : Q (.inl (some (.int (nI (g_n s))))) h) : zp_wm X y_RR_log [.ref 0] h Q := by
  have hS := hs.1
  have hn := hs.2.2.2.2.2.1
  show zp_wp X y_RR_log 0 [.ref 0] [] h Q
  refine zp_aload_n (x := 0) rfl rfl ?_
  refine zq_getr (k9 := 29) hS rfl (by first | assumption | exact ⟨by decide, rfl⟩) rfl ?_
  refine zq_geti hS rfl (by first | assumption | exact ⟨by decide, rfl⟩) rfl ?_
  rw [hn]
  refine zp_iret rfl rfl ?_
  exact hq
theorem s_RR_clearLog (hs : zc_S s h) (hq : ∀ h', zc_S (z_clear s).2.2 h' → zc_F h h' → Q (.inl (some (.int (z_clear s).2.1))) h') : zp_wm X y_RR_clearLog [.ref 0] h Q := by
  have hS := hs.1
  obtain ⟨s1, s2, s3, s4, s5, s6, s7, s8⟩ := id hs
  show zp_wp X y_RR_clearLog 0 [.ref 0, zm_mk] [] h Q
  refine zp_aload_n (x := 0) rfl rfl ?_
  refine zq_getr (k9 := 29) hS rfl (by first | assumption | exact ⟨by decide, rfl⟩) rfl ?_
  refine zq_geti hS rfl (by first | assumption | exact ⟨by decide, rfl⟩) rfl ?_
  rw [s6]
  refine zp_istore_n_1 rfl rfl ?_
  refine zp_aload_n (x := 0) rfl rfl ?_
  refine zq_getr (k9 := 29) hS rfl (by first | assumption | exact ⟨by decide, rfl⟩) rfl ?_
  refine zp_iconst (v := (nI 0)) rfl (by decide +kernel) ?_
  refine zq_put hS rfl (by first | assumption | exact ⟨by decide, rfl⟩) rfl rfl (fun hS13 => ?_)
  have hS := hS13
  refine zp_aload_n (x := 0) rfl rfl ?_
  refine zq_getr (k9 := 1) hS rfl (by first | assumption | exact ⟨by decide, rfl⟩) rfl ?_
  refine zp_aload_n (x := 0) rfl rfl ?_
  refine zq_getr (k9 := 8) hS rfl (by first | assumption | exact ⟨by decide, rfl⟩) rfl ?_
  refine zq_virt hS rfl rfl (by first | assumption | exact ⟨by decide, rfl⟩) rfl (s_Prog_copyFrom hS qA_1 qA_8 (s3.eq (zh_onf zh_eq.rf) (fun x _ _ => by omega)) (by decide) (fun h2 p2 => ?_))
  have k29 : cf h2 29 1 = nI 0 := by rw [p2.2.1.gf (by omega)]; exact zf_at9 hS ⟨by decide, rfl⟩ rfl
  have e2 : zh_eq (fun x => x = 29 ∨ (1 < x ∧ x ≤ 7)) h h2 := ((zh_onf (d := 29) zh_eq.rf).mono (fun x e => Or.inl e)).trans (p2.2.1.mono (fun x e => Or.inr e))
  show zp_wp X y_RR_clearLog 27 [.ref 0, .int (nI (g_n s))] [] h2 Q
  refine zp_iload_n (x := (nI (g_n s))) rfl rfl ?_
  refine zp_iret rfl rfl ?_
  exact hq _ ⟨p2.1, p2.2.2, s3.eq e2 (fun x _ _ => by omega), s4.eq e2 (fun x _ _ => by omega), s5.eq e2 (fun x _ _ => by omega), k29, by rw [e2.gf (by omega)]; exact s7, by rw [e2.gi (by omega)]; exact s8⟩ (zc_F.of e2 (fun x e => by omega))
theorem s_RR_kindOf {i : Int32} (hs : zc_S s h) (hW : zc_W s) (hq : zc_R (z_kind s i) (fun k => k - 1) h Q) : zp_wm X y_RR_kindOf [.ref 0, .int i] h Q := by
  have hS := hs.1
  have hn := hs.2.2.2.2.2.1
  have wn := hW.2.2.2.1
  unfold z_kind at hq
  show zp_wp X y_RR_kindOf 0 [.ref 0, .int i] [] h Q
  cases hv : g_lt (g_n s) i with
  | false =>
    rw [hv] at hq
    refine zp_aload_n (x := 0) rfl rfl ?_
    refine zp_iload_n (x := i) rfl rfl ?_
    refine zq_virt hS rfl rfl (by first | assumption | exact ⟨by decide, rfl⟩) rfl (s_RR_requireChange hS hn wn (fun q => by rw [hv] at q; cases q) (fun _ => hq.2 n10 _ hs.x zc_F.x))
  | true =>
    rw [hv] at hq
    obtain ⟨i1, i2⟩ := g_lt_n hv
    generalize i2n i = j at *
    subst i1
    have kc : zs_O (29 + 2 + j) 0 [none, none, none, none, none] := qK_29.2.2 j (by omega)
    have hc := hs.2.2.2.2.1 j (by omega)
    refine zp_aload_n (x := 0) rfl rfl ?_
    refine zp_iload_n (x := (nI j)) rfl rfl ?_
    refine zq_virt hS rfl rfl (by first | assumption | exact ⟨by decide, rfl⟩) rfl (s_RR_requireChange hS hn wn (fun _ => ?_) (fun q => by rw [hv] at q; cases q))
    show zp_wp X y_RR_kindOf 5 [.ref 0, .int (nI j)] [] h Q
    refine zp_aload_n (x := 0) rfl rfl ?_
    refine zq_getr (k9 := 29) hS rfl (by first | assumption | exact ⟨by decide, rfl⟩) rfl ?_
    refine zp_iload_n (x := (nI j)) rfl rfl ?_
    refine zq_virt hS rfl rfl (by first | assumption | exact ⟨by decide, rfl⟩) rfl (s_List_at hS qK_29 (by omega) ?_)
    show zp_wp X y_RR_kindOf 13 [.ref 0, .int (nI j)] [.ref (29 + 2 + j)] h Q
    refine zq_geti hS rfl (by first | assumption | exact ⟨by decide, rfl⟩) rfl ?_
    rw [hc.1]
    refine zp_iret rfl rfl ?_
    exact hq.1 rfl h hs zc_F.rf
theorem g_lt4_c {w : Int32} (h : g_lt 4 w = false) : w.toInt < 0 ∨ 3 < w.toInt := by
  unfold g_lt at h
  by_cases h0 : w < 0
  · left
    have := Int32.lt_iff_toInt_lt.mp h0
    simpa using this
  · right
    rw [decide_eq_true (Int32.not_lt.mp h0), Bool.true_and] at h
    have h1 : ¬ i2n w < 4 := by simpa using h
    have h2 : i2n w = w.toInt.toNat := rfl
    omega
theorem s_RR_nameOf {i w : Int32} (hs : zc_S s h) (hW : zc_W s) (hq : zc_R (z_name s i w) (fun k => k - 1) h Q) : zp_wm X y_RR_nameOf [.ref 0, .int i, .int w] h Q := by
  have hS := hs.1
  have hn := hs.2.2.2.2.2.1
  have wn := hW.2.2.2.1
  unfold z_name at hq
  show zp_wp X y_RR_nameOf 0 [.ref 0, .int i, .int w, zm_mk] [] h Q
  cases hv : g_lt (g_n s) i with
  | false =>
    rw [hv] at hq
    refine zp_aload_n (x := 0) rfl rfl ?_
    refine zp_iload_n (x := i) rfl rfl ?_
    refine zq_virt hS rfl rfl (by first | assumption | exact ⟨by decide, rfl⟩) rfl (s_RR_requireChange hS hn wn (fun q => by rw [hv] at q; cases q) (fun _ => hq.2 n10 _ hs.x zc_F.x))
  | true =>
    rw [hv, Bool.true_and] at hq
    obtain ⟨i1, i2⟩ := g_lt_n hv
    generalize i2n i = j at *
    subst i1
    have kc : zs_O (29 + 2 + j) 0 [none, none, none, none, none] := qK_29.2.2 j (by omega)
    have hc := hs.2.2.2.2.1 j (by omega)
    cases hx : g_lt 4 w with
    | false =>
      rw [hx] at hq
      have fin : zp_wp X y_RR_nameOf 64 [.ref 0, .int (nI j), .int w, .ref (29 + 2 + j)] [] h Q := by
        refine zp_throw rfl (by decide) ?_
        exact hq.2 n10 _ hs.x zc_F.x
      refine zp_aload_n (x := 0) rfl rfl ?_
      refine zp_iload_n (x := (nI j)) rfl rfl ?_
      refine zq_virt hS rfl rfl (by first | assumption | exact ⟨by decide, rfl⟩) rfl (s_RR_requireChange hS hn wn (fun _ => ?_) (fun q => by rw [hv] at q; cases q))
      show zp_wp X y_RR_nameOf 5 [.ref 0, .int (nI j), .int w, zm_mk] [] h Q
      refine zp_aload_n (x := 0) rfl rfl ?_
      refine zq_getr (k9 := 29) hS rfl (by first | assumption | exact ⟨by decide, rfl⟩) rfl ?_
      refine zp_iload_n (x := (nI j)) rfl rfl ?_
      refine zq_virt hS rfl rfl (by first | assumption | exact ⟨by decide, rfl⟩) rfl (s_List_at hS qK_29 (by omega) ?_)
      show zp_wp X y_RR_nameOf 13 [.ref 0, .int (nI j), .int w, zm_mk] [.ref (29 + 2 + j)] h Q
      refine zp_astore_n_3 rfl rfl ?_
      refine zp_iload_n (x := w) rfl rfl ?_
      exact zp_switchD (tgt := 64) rfl (g_lt4_c hx) rfl fin
    | true =>
      rw [hx] at hq
      obtain ⟨w1, w2⟩ := g_lt_n hx
      generalize i2n w = k at *
      subst w1
      match k, w2, hx, hq with
      | 0, _, hx, hq =>
        refine zp_aload_n (x := 0) rfl rfl ?_
        refine zp_iload_n (x := (nI j)) rfl rfl ?_
        refine zq_virt hS rfl rfl (by first | assumption | exact ⟨by decide, rfl⟩) rfl (s_RR_requireChange hS hn wn (fun _ => ?_) (fun q => by rw [hv] at q; cases q))
        show zp_wp X y_RR_nameOf 5 [.ref 0, .int (nI j), .int (nI 0), zm_mk] [] h Q
        refine zp_aload_n (x := 0) rfl rfl ?_
        refine zq_getr (k9 := 29) hS rfl (by first | assumption | exact ⟨by decide, rfl⟩) rfl ?_
        refine zp_iload_n (x := (nI j)) rfl rfl ?_
        refine zq_virt hS rfl rfl (by first | assumption | exact ⟨by decide, rfl⟩) rfl (s_List_at hS qK_29 (by omega) ?_)
        show zp_wp X y_RR_nameOf 13 [.ref 0, .int (nI j), .int (nI 0), zm_mk] [.ref (29 + 2 + j)] h Q
        refine zp_astore_n_3 rfl rfl ?_
        refine zp_iload_n (x := (nI 0)) rfl rfl ?_
        refine zp_switch (off := 29) (tgt := 44) rfl (by decide +kernel) (by decide +kernel) (by decide +kernel) rfl ?_
        refine zp_aload_n (x := (29 + 2 + j)) rfl rfl ?_
        refine zq_geti hS rfl (by first | assumption | exact ⟨by decide, rfl⟩) rfl ?_
        rw [hc.2.1]
        refine zp_iret rfl rfl ?_
        exact hq.1 rfl h hs zc_F.rf
      | 1, _, hx, hq =>
        refine zp_aload_n (x := 0) rfl rfl ?_
        refine zp_iload_n (x := (nI j)) rfl rfl ?_
        refine zq_virt hS rfl rfl (by first | assumption | exact ⟨by decide, rfl⟩) rfl (s_RR_requireChange hS hn wn (fun _ => ?_) (fun q => by rw [hv] at q; cases q))
        show zp_wp X y_RR_nameOf 5 [.ref 0, .int (nI j), .int (nI 1), zm_mk] [] h Q
        refine zp_aload_n (x := 0) rfl rfl ?_
        refine zq_getr (k9 := 29) hS rfl (by first | assumption | exact ⟨by decide, rfl⟩) rfl ?_
        refine zp_iload_n (x := (nI j)) rfl rfl ?_
        refine zq_virt hS rfl rfl (by first | assumption | exact ⟨by decide, rfl⟩) rfl (s_List_at hS qK_29 (by omega) ?_)
        show zp_wp X y_RR_nameOf 13 [.ref 0, .int (nI j), .int (nI 1), zm_mk] [.ref (29 + 2 + j)] h Q
        refine zp_astore_n_3 rfl rfl ?_
        refine zp_iload_n (x := (nI 1)) rfl rfl ?_
        refine zp_switch (off := 34) (tgt := 49) rfl (by decide +kernel) (by decide +kernel) (by decide +kernel) rfl ?_
        refine zp_aload_n (x := (29 + 2 + j)) rfl rfl ?_
        refine zq_geti hS rfl (by first | assumption | exact ⟨by decide, rfl⟩) rfl ?_
        rw [hc.2.2.1]
        refine zp_iret rfl rfl ?_
        exact hq.1 rfl h hs zc_F.rf
      | 2, _, hx, hq =>
        refine zp_aload_n (x := 0) rfl rfl ?_
        refine zp_iload_n (x := (nI j)) rfl rfl ?_
        refine zq_virt hS rfl rfl (by first | assumption | exact ⟨by decide, rfl⟩) rfl (s_RR_requireChange hS hn wn (fun _ => ?_) (fun q => by rw [hv] at q; cases q))
        show zp_wp X y_RR_nameOf 5 [.ref 0, .int (nI j), .int (nI 2), zm_mk] [] h Q
        refine zp_aload_n (x := 0) rfl rfl ?_
        refine zq_getr (k9 := 29) hS rfl (by first | assumption | exact ⟨by decide, rfl⟩) rfl ?_
        refine zp_iload_n (x := (nI j)) rfl rfl ?_
        refine zq_virt hS rfl rfl (by first | assumption | exact ⟨by decide, rfl⟩) rfl (s_List_at hS qK_29 (by omega) ?_)
        show zp_wp X y_RR_nameOf 13 [.ref 0, .int (nI j), .int (nI 2), zm_mk] [.ref (29 + 2 + j)] h Q
        refine zp_astore_n_3 rfl rfl ?_
        refine zp_iload_n (x := (nI 2)) rfl rfl ?_
        refine zp_switch (off := 39) (tgt := 54) rfl (by decide +kernel) (by decide +kernel) (by decide +kernel) rfl ?_
        refine zp_aload_n (x := (29 + 2 + j)) rfl rfl ?_
        refine zq_geti hS rfl (by first | assumption | exact ⟨by decide, rfl⟩) rfl ?_
        rw [hc.2.2.2.1]
        refine zp_iret rfl rfl ?_
        exact hq.1 rfl h hs zc_F.rf
      | 3, _, hx, hq =>
        refine zp_aload_n (x := 0) rfl rfl ?_
        refine zp_iload_n (x := (nI j)) rfl rfl ?_
        refine zq_virt hS rfl rfl (by first | assumption | exact ⟨by decide, rfl⟩) rfl (s_RR_requireChange hS hn wn (fun _ => ?_) (fun q => by rw [hv] at q; cases q))
        show zp_wp X y_RR_nameOf 5 [.ref 0, .int (nI j), .int (nI 3), zm_mk] [] h Q
        refine zp_aload_n (x := 0) rfl rfl ?_
        refine zq_getr (k9 := 29) hS rfl (by first | assumption | exact ⟨by decide, rfl⟩) rfl ?_
        refine zp_iload_n (x := (nI j)) rfl rfl ?_
        refine zq_virt hS rfl rfl (by first | assumption | exact ⟨by decide, rfl⟩) rfl (s_List_at hS qK_29 (by omega) ?_)
        show zp_wp X y_RR_nameOf 13 [.ref 0, .int (nI j), .int (nI 3), zm_mk] [.ref (29 + 2 + j)] h Q
        refine zp_astore_n_3 rfl rfl ?_
        refine zp_iload_n (x := (nI 3)) rfl rfl ?_
        refine zp_switch (off := 44) (tgt := 59) rfl (by decide +kernel) (by decide +kernel) (by decide +kernel) rfl ?_
        refine zp_aload_n (x := (29 + 2 + j)) rfl rfl ?_
        refine zq_geti hS rfl (by first | assumption | exact ⟨by decide, rfl⟩) rfl ?_
        rw [hc.2.2.2.2]
        refine zp_iret rfl rfl ?_
        exact hq.1 rfl h hs zc_F.rf
      | k + 4, w2, _, _ => exact absurd w2 (by omega)
end ZP17
