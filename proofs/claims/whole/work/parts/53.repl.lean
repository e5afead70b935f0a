/-! the class: a change as it is meant in the target -/
def zq_R (MV TG : zv) (C M : Nat → Option Nat) (t : Nat) (h : zm_H) : Prop := zq_P MV 156 h ∧ zq_P TG t h ∧ zq_M C M 163 h
theorem zq_R.eq {MV TG : zv} {C M : Nat → Option Nat} {t : Nat} {S : Nat → Prop} {h h' : zm_H} (a : zq_R MV TG C M t h) (e : zh_eq S h h') (h1 : ∀ x, 156 < x → x ≤ 167 → ¬ S x) (h2 : ∀ x, t < x → x ≤ t + 6 → ¬ S x) : zq_R MV TG C M t h' := ⟨a.1.eq e (fun x q1 q2 => h1 x (by omega) (by omega)), a.2.1.eq e h2, a.2.2.eq e (fun x q1 q2 => h1 x (by omega) (by omega))⟩
theorem v_onm0 {MV TG : zv} {C M : Nat → Option Nat} (h : zj MV TG C M) {a m : Nat} : v_onm TG (v_mbF MV M a m) = 0 ↔ v_mbF MV M a m = none := by
  cases e : v_mbF MV M a m with
  | none => exact ⟨fun _ => rfl, fun _ => rfl⟩
  | some p =>
    obtain ⟨k, -, -, -, -, q, -, -⟩ := h.mbF e
    refine ⟨fun z => ?_, fun z => (by cases z)⟩
    have z : v_cn TG (v_ow TG p) = 0 := z
    omega
/-- the name in a slot, 0 without one -/
def v_cnm (TG : zv) (k : Option Nat) : Nat := match k with
  | none => 0
  | some c => v_cn TG c
section ZP13
variable {X : zm_X} {h : zm_H} {Q : zm_O → zm_H → Prop} {MV TG : zv} {C M : Nat → Option Nat} {t r : Nat} {c d pl : zch}
theorem s_Prog_classNameAt {V : zv} {p : Nat} {k : Option Nat} (hS : zs_H h) (hA : zq_A p) (hP : zq_P V p h) (hB : zv_B V) (hk : ∀ i, k = some i → i < 12) (hq : Q (.inl (some (.int (nI (v_cnm V k))))) h) : zp_wm X y_Prog_classNameAt [.ref p, .int (zf_o k)] h Q := by
  obtain ⟨hA0, hA1, hA2, hA3, hA4, hA5, hA6⟩ := hA
  cases k with
  | none =>
    show zp_wp X y_Prog_classNameAt 0 [.ref p, .int (-1)] [] h Q
    refine zp_iload_n (x := (-1)) rfl rfl ?_
    refine zp_ifT (tgt := 10) rfl rfl (by decide +kernel) ?_
    refine zp_iconst (v := (nI 0)) rfl (by decide +kernel) ?_
    refine zp_goto (tgt := 20) rfl rfl ?_
    refine zp_iret rfl rfl ?_
    exact hq
  | some c9 =>
    have hc9 := hk c9 rfl
    show zp_wp X y_Prog_classNameAt 0 [.ref p, .int (nI c9)] [] h Q
    refine zp_iload_n (x := (nI c9)) rfl rfl ?_
    refine zp_ifF (tgt := 10) rfl rfl (zc_lt (by omega)) ?_
    refine zp_iload_n (x := (nI c9)) rfl rfl ?_
    refine zp_bipush (v := (nI 12)) rfl (by decide +kernel) ?_
    refine zp_icmpN_lt (tgt := 14) rfl rfl (by omega) (by omega) (fun b7 => ?_) (fun b7 => ?_)
    · refine zp_aload_n (x := p) rfl rfl ?_
      refine zq_getr (k9 := (p + 1)) hS rfl (by first | assumption | exact ⟨by decide, rfl⟩) rfl ?_
      refine zp_iload_n (x := (nI c9)) rfl rfl ?_
      refine zq_iald hS rfl (by first | assumption | exact ⟨by decide, rfl⟩) (by omega) (by first | decide | omega) ?_
      rw [hP.cn (c9) (by omega)]
      have q19 := hB.1 (c9) (by omega)
      refine zp_iret rfl rfl ?_
      exact hq
    · omega
theorem s_Prog_memberNameAt {V : zv} {p : Nat} {k : Option Nat} (hS : zs_H h) (hA : zq_A p) (hP : zq_P V p h) (hB : zv_B V) (hk : ∀ i, k = some i → i < 40) (hq : Q (.inl (some (.int (nI (v_mnm V k))))) h) : zp_wm X y_Prog_memberNameAt [.ref p, .int (zf_o k)] h Q := by
  obtain ⟨hA0, hA1, hA2, hA3, hA4, hA5, hA6⟩ := hA
  cases k with
  | none =>
    show zp_wp X y_Prog_memberNameAt 0 [.ref p, .int (-1)] [] h Q
    refine zp_iload_n (x := (-1)) rfl rfl ?_
    refine zp_ifT (tgt := 10) rfl rfl (by decide +kernel) ?_
    refine zp_iconst (v := (nI 0)) rfl (by decide +kernel) ?_
    refine zp_goto (tgt := 20) rfl rfl ?_
    refine zp_iret rfl rfl ?_
    exact hq
  | some c9 =>
    have hc9 := hk c9 rfl
    show zp_wp X y_Prog_memberNameAt 0 [.ref p, .int (nI c9)] [] h Q
    refine zp_iload_n (x := (nI c9)) rfl rfl ?_
    refine zp_ifF (tgt := 10) rfl rfl (zc_lt (by omega)) ?_
    refine zp_iload_n (x := (nI c9)) rfl rfl ?_
    refine zp_bipush (v := (nI 40)) rfl (by decide +kernel) ?_
    refine zp_icmpN_lt (tgt := 14) rfl rfl (by omega) (by omega) (fun b7 => ?_) (fun b7 => ?_)
    · refine zp_aload_n (x := p) rfl rfl ?_
      refine zq_getr (k9 := (p + 4)) hS rfl (by first | assumption | exact ⟨by decide, rfl⟩) rfl ?_
      refine zp_iload_n (x := (nI c9)) rfl rfl ?_
      refine zq_iald hS rfl (by first | assumption | exact ⟨by decide, rfl⟩) (by omega) (by first | decide | omega) ?_
      rw [hP.mn (c9) (by omega)]
      have q19 := hB.2.2.1 (c9) (by omega)
      refine zp_iret rfl rfl ?_
      exact hq
    · omega
theorem zq_nm {k : Nat} (hq : Q (.inl (some (.int (nI (v_nmF TG C (some k)))))) h) : Q (.inl (some (.int (nI (v_cnm TG (C k)))))) h := by
  have e : v_nmF TG C (some k) = v_cnm TG (C k) := by
    cases e2 : C k <;> simp only [v_nmF, v_cnm, e2]
  rw [e] at hq
  exact hq
theorem s_Repl_classNameOf {a : Nat} (hS : zs_H h) (hT : zq_A t) (hR : zq_R MV TG C M t h) (hj : zj MV TG C M) (ha : a < 128) (hq : Q (.inl (some (.int (nI (v_nmF TG C (v_cls MV a)))))) h) : zp_wm X y_Repl_classNameOf [.ref 155, .int (nI a), .ref t] h Q := by
  obtain ⟨t0, t1, t2, t3, t4, t5, t6⟩ := id hT
  have hB := hj.2.1.B
  have hPt := hR.2.1
  have h1 : zr_M C 12 (ci h 164) := hR.2.2.1.1
  show zp_wp X y_Repl_classNameOf 0 [.ref 155, .int (nI a), .ref t, zm_mk] [] h Q
  refine zp_aload_n (x := 155) rfl rfl ?_
  refine zq_getr (k9 := 156) hS rfl (by first | assumption | exact ⟨by decide, rfl⟩) rfl ?_
  refine zp_iload_n (x := (nI a)) rfl rfl ?_
  refine zq_virt hS rfl rfl (by first | assumption | exact ⟨by decide, rfl⟩) rfl (s_Prog_classAt hS qA_156 hR.1 hj.1.B ha ?_)
  cases hz : v_cls MV a with
  | none =>
    show zp_wp X y_Repl_classNameOf 8 [.ref 155, .int (nI a), .ref t, zm_mk] [.int (-1)] h Q
    refine zp_istore_n_3 rfl rfl ?_
    refine zp_iload_n (x := (-1)) rfl rfl ?_
    refine zp_ifF (tgt := 17) rfl rfl (by decide +kernel) ?_
    refine zp_iconst (v := (nI 0)) rfl (by decide +kernel) ?_
    refine zp_goto (tgt := 30) rfl rfl ?_
    refine zp_iret rfl rfl ?_
    first
    | (rw [hz] at hq; exact zq_nm hq)
    | (rw [hz] at hq; exact hq)
    | omega
  | some c9 =>
    have hc9 := (v_cls_lt hz).1
    show zp_wp X y_Repl_classNameOf 8 [.ref 155, .int (nI a), .ref t, zm_mk] [.int (nI c9)] h Q
    refine zp_istore_n_3 rfl rfl ?_
    refine zp_iload_n (x := (nI c9)) rfl rfl ?_
    refine zp_ifT (tgt := 17) rfl rfl (zc_ge (by omega)) ?_
    refine zp_aload_n (x := t) rfl rfl ?_
    refine zp_aload_n (x := 155) rfl rfl ?_
    refine zq_getr (k9 := 163) hS rfl (by first | assumption | exact ⟨by decide, rfl⟩) rfl ?_
    refine zq_getr (k9 := 164) hS rfl (by first | assumption | exact ⟨by decide, rfl⟩) rfl ?_
    refine zp_iload_n (x := (nI c9)) rfl rfl ?_
    refine zq_iald hS rfl (by first | assumption | exact ⟨by decide, rfl⟩) (by omega) (by first | decide | omega) ?_
    rw [h1 (c9) hc9]
    refine zq_virt hS rfl rfl (by first | assumption | exact ⟨by decide, rfl⟩) rfl (s_Prog_classNameAt (k := C c9) hS hT hPt hB (fun i hi => (hj.2.2.1.1 c9 hc9 i hi).1) ?_)
    show zp_wp X y_Repl_classNameOf 30 [.ref 155, .int (nI a), .ref t, .int (nI c9)] [.int (nI (v_cnm TG (C c9)))] h Q
    refine zp_iret rfl rfl ?_
    first
    | (rw [hz] at hq; exact zq_nm hq)
    | (rw [hz] at hq; exact hq)
    | omega
theorem s_Repl_memberPartner {a m : Nat} (hS : zs_H h) (hR : zq_R MV TG C M t h) (hj : zj MV TG C M) (ha : a < 128) (hm : m < 128) (hm0 : m ≠ 0) (hq : Q (.inl (some (.int (zf_o (v_mbF MV M a m))))) h) : zp_wm X y_Repl_memberPartner [.ref 155, .int (nI a), .int (nI m)] h Q := by
  have h1 : zr_M M 40 (ci h 166) := hR.2.2.2.1
  unfold v_mbF at hq
  show zp_wp X y_Repl_memberPartner 0 [.ref 155, .int (nI a), .int (nI m), zm_mk] [] h Q
  refine zp_aload_n (x := 155) rfl rfl ?_
  refine zq_getr (k9 := 156) hS rfl (by first | assumption | exact ⟨by decide, rfl⟩) rfl ?_
  refine zp_iload_n (x := (nI a)) rfl rfl ?_
  refine zp_iload_n (x := (nI m)) rfl rfl ?_
  refine zq_virt hS rfl rfl (by first | assumption | exact ⟨by decide, rfl⟩) rfl (s_Prog_memberAt hS qA_156 hR.1 hj.1 ha hm hm0 ?_)
  cases hz : v_mem MV (v_cls MV a) m with
  | none =>
    show zp_wp X y_Repl_memberPartner 9 [.ref 155, .int (nI a), .int (nI m), zm_mk] [.int (-1)] h Q
    refine zp_istore_n_3 rfl rfl ?_
    refine zp_iload_n (x := (-1)) rfl rfl ?_
    refine zp_ifF (tgt := 18) rfl rfl (by decide +kernel) ?_
    refine zp_iconst (v := (-1)) rfl (by decide +kernel) ?_
    refine zp_goto (tgt := 27) rfl rfl ?_
    refine zp_iret rfl rfl ?_
    rw [hz] at hq; exact hq
  | some m9 =>
    have hm9 := (v_mem_lt hz).1
    show zp_wp X y_Repl_memberPartner 9 [.ref 155, .int (nI a), .int (nI m), zm_mk] [.int (nI m9)] h Q
    refine zp_istore_n_3 rfl rfl ?_
    refine zp_iload_n (x := (nI m9)) rfl rfl ?_
    refine zp_ifT (tgt := 18) rfl rfl (zc_ge (by omega)) ?_
    refine zp_aload_n (x := 155) rfl rfl ?_
    refine zq_getr (k9 := 163) hS rfl (by first | assumption | exact ⟨by decide, rfl⟩) rfl ?_
    refine zq_getr (k9 := 166) hS rfl (by first | assumption | exact ⟨by decide, rfl⟩) rfl ?_
    refine zp_iload_n (x := (nI m9)) rfl rfl ?_
    refine zq_iald hS rfl (by first | assumption | exact ⟨by decide, rfl⟩) (by omega) (by first | decide | omega) ?_
    rw [h1 (m9) hm9]
    refine zp_iret rfl rfl ?_
    rw [hz] at hq; exact hq
theorem s_Repl_translateUser (hS : zs_H h) (hT : zq_A t) (ht : t + 6 < 29) (hR : zq_R MV TG C M t h) (hj : zj MV TG C M) (hC : zq_C r) (hc : zq_c c r h) (hd : zq_c d 168 h) (ha : c.2.1 < 128) (hm : 97 ≤ c.2.2.1 ∧ c.2.2.1 ≤ 122) (hq : ∀ h', zs_H h' → zh_eq (fun x => x = 168) h h' → zq_c (d.1, v_onm TG (v_mbF MV M c.2.1 c.2.2.1), v_mnm TG (v_mbF MV M c.2.1 c.2.2.1), d.2.2.2.1, d.2.2.2.2) 168 h' → Q (.inl (some (.int (zf_b (v_mbF MV M c.2.1 c.2.2.1).isSome)))) h') : zp_wm X y_Repl_translateUser [.ref 155, .ref r, .ref t] h Q := by
  obtain ⟨t0, t1, t2, t3, t4, t5, t6⟩ := id hT
  have hB := hj.2.1.B
  have hPt := hR.2.1
  have hC0 : zs_O r 0 [none, none, none, none, none] := hC
  obtain ⟨d0, d1, d2, d3, d4⟩ := hd
  obtain ⟨kind, a, m, b, n⟩ := c
  obtain ⟨dk, da, dm, db, dn⟩ := d
  obtain ⟨c0, c1, c2, c3, c4⟩ := hc
  dsimp only at ha hm hq c0 c1 c2 c3 c4 d0 d1 d2 d3 d4
  show zp_wp X y_Repl_translateUser 0 [.ref 155, .ref r, .ref t, zm_mk] [] h Q
  cases hz : v_mbF MV M a m with
  | none =>
    rw [hz] at hq
    refine zp_aload_n (x := 155) rfl rfl ?_
    refine zp_aload_n (x := r) rfl rfl ?_
    refine zq_geti hS rfl (by first | assumption | exact ⟨by decide, rfl⟩) rfl ?_
    rw [c1]
    refine zp_aload_n (x := r) rfl rfl ?_
    refine zq_geti hS rfl (by first | assumption | exact ⟨by decide, rfl⟩) rfl ?_
    rw [c2]
    refine zq_virt hS rfl rfl (by first | assumption | exact ⟨by decide, rfl⟩) rfl (s_Repl_memberPartner hS hR hj ha (by omega) (by omega) ?_)
    rw [hz]
    show zp_wp X y_Repl_translateUser 12 [.ref 155, .ref r, .ref t, zm_mk] [.int (-1)] h Q
    refine zp_istore_n_3 rfl rfl ?_
    refine zp_aload_n (x := 155) rfl rfl ?_
    refine zq_getr (k9 := 168) hS rfl (by first | assumption | exact ⟨by decide, rfl⟩) rfl ?_
    refine zp_aload_n (x := t) rfl rfl ?_
    refine zp_iload_n (x := (-1)) rfl rfl ?_
    refine zq_virt hS rfl rfl (by first | assumption | exact ⟨by decide, rfl⟩) rfl (s_Prog_ownerNameOf (m := none) hS hT hPt hj.2.1 (fun i hi => by cases hi) ?_)
    show zp_wp X y_Repl_translateUser 22 [.ref 155, .ref r, .ref t, .int (-1)] [.int (nI 0), .ref 168] h Q
    refine zq_put hS rfl (by first | assumption | exact ⟨by decide, rfl⟩) rfl rfl (fun hS22 => ?_)
    have hS := hS22
    refine zp_aload_n (x := 155) rfl rfl ?_
    refine zq_getr (k9 := 168) hS rfl (by first | assumption | exact ⟨by decide, rfl⟩) rfl ?_
    refine zp_aload_n (x := t) rfl rfl ?_
    refine zp_iload_n (x := (-1)) rfl rfl ?_
    refine zq_virt hS rfl rfl (by first | assumption | exact ⟨by decide, rfl⟩) rfl (s_Prog_memberNameAt (k := none) hS hT (hPt.eq (zh_onf zh_eq.rf) (fun x _ _ => by omega)) hB (fun i hi => by cases hi) ?_)
    show zp_wp X y_Repl_translateUser 34 [.ref 155, .ref r, .ref t, .int (-1)] [.int (nI 0), .ref 168] (zf_put h 168 1 (nI 0)) Q
    refine zq_put hS rfl (by first | assumption | exact ⟨by decide, rfl⟩) rfl rfl (fun hS34 => ?_)
    have hS := hS34
    refine zp_iload_n (x := (-1)) rfl rfl ?_
    refine zp_ifT (tgt := 45) rfl rfl (by decide +kernel) ?_
    refine zp_iconst (v := (nI 0)) rfl (by decide +kernel) ?_
    refine zp_zret rfl rfl (by decide) ?_
    exact hq _ hS (zh_onf (zh_onf zh_eq.rf)) ⟨(by rw [zf_nj (by decide), zf_nj (by decide)]; exact d0), (by rw [zf_nj (by decide)]; exact zf_at9 hS22 (by first | assumption | exact ⟨by decide, rfl⟩) rfl), (by exact zf_at9 hS34 (by first | assumption | exact ⟨by decide, rfl⟩) rfl), (by rw [zf_nj (by decide), zf_nj (by decide)]; exact d3), (by rw [zf_nj (by decide), zf_nj (by decide)]; exact d4)⟩
  | some p9 =>
    obtain ⟨k9, -, -, -, hp9, hp91, hp92, -⟩ := hj.mbF hz
    rw [hz] at hq
    refine zp_aload_n (x := 155) rfl rfl ?_
    refine zp_aload_n (x := r) rfl rfl ?_
    refine zq_geti hS rfl (by first | assumption | exact ⟨by decide, rfl⟩) rfl ?_
    rw [c1]
    refine zp_aload_n (x := r) rfl rfl ?_
    refine zq_geti hS rfl (by first | assumption | exact ⟨by decide, rfl⟩) rfl ?_
    rw [c2]
    refine zq_virt hS rfl rfl (by first | assumption | exact ⟨by decide, rfl⟩) rfl (s_Repl_memberPartner hS hR hj ha (by omega) (by omega) ?_)
    rw [hz]
    show zp_wp X y_Repl_translateUser 12 [.ref 155, .ref r, .ref t, zm_mk] [.int (nI p9)] h Q
    refine zp_istore_n_3 rfl rfl ?_
    refine zp_aload_n (x := 155) rfl rfl ?_
    refine zq_getr (k9 := 168) hS rfl (by first | assumption | exact ⟨by decide, rfl⟩) rfl ?_
    refine zp_aload_n (x := t) rfl rfl ?_
    refine zp_iload_n (x := (nI p9)) rfl rfl ?_
    refine zq_virt hS rfl rfl (by first | assumption | exact ⟨by decide, rfl⟩) rfl (s_Prog_ownerNameOf (m := some p9) hS hT hPt hj.2.1 (fun i hi => by cases hi; exact ⟨hp9, by omega⟩) ?_)
    show zp_wp X y_Repl_translateUser 22 [.ref 155, .ref r, .ref t, .int (nI p9)] [.int (nI (v_cn TG (v_ow TG p9))), .ref 168] h Q
    refine zq_put hS rfl (by first | assumption | exact ⟨by decide, rfl⟩) rfl rfl (fun hS22 => ?_)
    have hS := hS22
    refine zp_aload_n (x := 155) rfl rfl ?_
    refine zq_getr (k9 := 168) hS rfl (by first | assumption | exact ⟨by decide, rfl⟩) rfl ?_
    refine zp_aload_n (x := t) rfl rfl ?_
    refine zp_iload_n (x := (nI p9)) rfl rfl ?_
    refine zq_virt hS rfl rfl (by first | assumption | exact ⟨by decide, rfl⟩) rfl (s_Prog_memberNameAt (k := some p9) hS hT (hPt.eq (zh_onf zh_eq.rf) (fun x _ _ => by omega)) hB (fun i hi => by cases hi; exact hp9) ?_)
    show zp_wp X y_Repl_translateUser 34 [.ref 155, .ref r, .ref t, .int (nI p9)] [.int (nI (v_mn TG p9)), .ref 168] (zf_put h 168 1 (nI (v_cn TG (v_ow TG p9)))) Q
    refine zq_put hS rfl (by first | assumption | exact ⟨by decide, rfl⟩) rfl rfl (fun hS34 => ?_)
    have hS := hS34
    refine zp_iload_n (x := (nI p9)) rfl rfl ?_
    refine zp_ifF (tgt := 45) rfl rfl (zc_lt (by omega)) ?_
    refine zp_iconst (v := (nI 1)) rfl (by decide +kernel) ?_
    refine zp_goto (tgt := 46) rfl rfl ?_
    refine zp_zret rfl rfl (by decide) ?_
    exact hq _ hS (zh_onf (zh_onf zh_eq.rf)) ⟨(by rw [zf_nj (by decide), zf_nj (by decide)]; exact d0), (by rw [zf_nj (by decide)]; exact zf_at9 hS22 (by first | assumption | exact ⟨by decide, rfl⟩) rfl), (by exact zf_at9 hS34 (by first | assumption | exact ⟨by decide, rfl⟩) rfl), (by rw [zf_nj (by decide), zf_nj (by decide)]; exact d3), (by rw [zf_nj (by decide), zf_nj (by decide)]; exact d4)⟩
theorem s_Repl_translateUsed (hS : zs_H h) (hT : zq_A t) (ht : t + 6 < 29) (hR : zq_R MV TG C M t h) (hj : zj MV TG C M) (hC : zq_C r) (hc : zq_c c r h) (hd : zq_c d 168 h) (ha : c.2.2.2.1 < 128) (hm : 97 ≤ c.2.2.2.2 ∧ c.2.2.2.2 ≤ 122) (hq : ∀ h', zs_H h' → zh_eq (fun x => x = 168) h h' → zq_c (d.1, d.2.1, d.2.2.1, v_onm TG (v_mbF MV M c.2.2.2.1 c.2.2.2.2), v_mnm TG (v_mbF MV M c.2.2.2.1 c.2.2.2.2)) 168 h' → Q (.inl (some (.int (zf_b (v_mbF MV M c.2.2.2.1 c.2.2.2.2).isSome)))) h') : zp_wm X y_Repl_translateUsed [.ref 155, .ref r, .ref t] h Q := by
  obtain ⟨t0, t1, t2, t3, t4, t5, t6⟩ := id hT
  have hB := hj.2.1.B
  have hPt := hR.2.1
  have hC0 : zs_O r 0 [none, none, none, none, none] := hC
  obtain ⟨d0, d1, d2, d3, d4⟩ := hd
  obtain ⟨kind, a, m, b, n⟩ := c
  obtain ⟨dk, da, dm, db, dn⟩ := d
  obtain ⟨c0, c1, c2, c3, c4⟩ := hc
  dsimp only at ha hm hq c0 c1 c2 c3 c4 d0 d1 d2 d3 d4
  show zp_wp X y_Repl_translateUsed 0 [.ref 155, .ref r, .ref t, zm_mk] [] h Q
  cases hz : v_mbF MV M b n with
  | none =>
    rw [hz] at hq
    refine zp_aload_n (x := 155) rfl rfl ?_
    refine zp_aload_n (x := r) rfl rfl ?_
    refine zq_geti hS rfl (by first | assumption | exact ⟨by decide, rfl⟩) rfl ?_
    rw [c3]
    refine zp_aload_n (x := r) rfl rfl ?_
    refine zq_geti hS rfl (by first | assumption | exact ⟨by decide, rfl⟩) rfl ?_
    rw [c4]
    refine zq_virt hS rfl rfl (by first | assumption | exact ⟨by decide, rfl⟩) rfl (s_Repl_memberPartner hS hR hj ha (by omega) (by omega) ?_)
    rw [hz]
    show zp_wp X y_Repl_translateUsed 12 [.ref 155, .ref r, .ref t, zm_mk] [.int (-1)] h Q
    refine zp_istore_n_3 rfl rfl ?_
    refine zp_aload_n (x := 155) rfl rfl ?_
    refine zq_getr (k9 := 168) hS rfl (by first | assumption | exact ⟨by decide, rfl⟩) rfl ?_
    refine zp_aload_n (x := t) rfl rfl ?_
    refine zp_iload_n (x := (-1)) rfl rfl ?_
    refine zq_virt hS rfl rfl (by first | assumption | exact ⟨by decide, rfl⟩) rfl (s_Prog_ownerNameOf (m := none) hS hT hPt hj.2.1 (fun i hi => by cases hi) ?_)
    show zp_wp X y_Repl_translateUsed 22 [.ref 155, .ref r, .ref t, .int (-1)] [.int (nI 0), .ref 168] h Q
    refine zq_put hS rfl (by first | assumption | exact ⟨by decide, rfl⟩) rfl rfl (fun hS22 => ?_)
    have hS := hS22
    refine zp_aload_n (x := 155) rfl rfl ?_
    refine zq_getr (k9 := 168) hS rfl (by first | assumption | exact ⟨by decide, rfl⟩) rfl ?_
    refine zp_aload_n (x := t) rfl rfl ?_
    refine zp_iload_n (x := (-1)) rfl rfl ?_
    refine zq_virt hS rfl rfl (by first | assumption | exact ⟨by decide, rfl⟩) rfl (s_Prog_memberNameAt (k := none) hS hT (hPt.eq (zh_onf zh_eq.rf) (fun x _ _ => by omega)) hB (fun i hi => by cases hi) ?_)
    show zp_wp X y_Repl_translateUsed 34 [.ref 155, .ref r, .ref t, .int (-1)] [.int (nI 0), .ref 168] (zf_put h 168 3 (nI 0)) Q
    refine zq_put hS rfl (by first | assumption | exact ⟨by decide, rfl⟩) rfl rfl (fun hS34 => ?_)
    have hS := hS34
    refine zp_iload_n (x := (-1)) rfl rfl ?_
    refine zp_ifT (tgt := 45) rfl rfl (by decide +kernel) ?_
    refine zp_iconst (v := (nI 0)) rfl (by decide +kernel) ?_
    refine zp_zret rfl rfl (by decide) ?_
    exact hq _ hS (zh_onf (zh_onf zh_eq.rf)) ⟨(by rw [zf_nj (by decide), zf_nj (by decide)]; exact d0), (by rw [zf_nj (by decide), zf_nj (by decide)]; exact d1), (by rw [zf_nj (by decide), zf_nj (by decide)]; exact d2), (by rw [zf_nj (by decide)]; exact zf_at9 hS22 (by first | assumption | exact ⟨by decide, rfl⟩) rfl), (by exact zf_at9 hS34 (by first | assumption | exact ⟨by decide, rfl⟩) rfl)⟩
  | some p9 =>
    obtain ⟨k9, -, -, -, hp9, hp91, hp92, -⟩ := hj.mbF hz
    rw [hz] at hq
    refine zp_aload_n (x := 155) rfl rfl ?_
    refine zp_aload_n (x := r) rfl rfl ?_
    refine zq_geti hS rfl (by first | assumption | exact ⟨by decide, rfl⟩) rfl ?_
    rw [c3]
    refine zp_aload_n (x := r) rfl rfl ?_
    refine zq_geti hS rfl (by first | assumption | exact ⟨by decide, rfl⟩) rfl ?_
    rw [c4]
    refine zq_virt hS rfl rfl (by first | assumption | exact ⟨by decide, rfl⟩) rfl (s_Repl_memberPartner hS hR hj ha (by omega) (by omega) ?_)
    rw [hz]
    show zp_wp X y_Repl_translateUsed 12 [.ref 155, .ref r, .ref t, zm_mk] [.int (nI p9)] h Q
    refine zp_istore_n_3 rfl rfl ?_
    refine zp_aload_n (x := 155) rfl rfl ?_
    refine zq_getr (k9 := 168) hS rfl (by first | assumption | exact ⟨by decide, rfl⟩) rfl ?_
    refine zp_aload_n (x := t) rfl rfl ?_
    refine zp_iload_n (x := (nI p9)) rfl rfl ?_
    refine zq_virt hS rfl rfl (by first | assumption | exact ⟨by decide, rfl⟩) rfl (s_Prog_ownerNameOf (m := some p9) hS hT hPt hj.2.1 (fun i hi => by cases hi; exact ⟨hp9, by omega⟩) ?_)
    show zp_wp X y_Repl_translateUsed 22 [.ref 155, .ref r, .ref t, .int (nI p9)] [.int (nI (v_cn TG (v_ow TG p9))), .ref 168] h Q
    refine zq_put hS rfl (by first | assumption | exact ⟨by decide, rfl⟩) rfl rfl (fun hS22 => ?_)
    have hS := hS22
    refine zp_aload_n (x := 155) rfl rfl ?_
    refine zq_getr (k9 := 168) hS rfl (by first | assumption | exact ⟨by decide, rfl⟩) rfl ?_
    refine zp_aload_n (x := t) rfl rfl ?_
    refine zp_iload_n (x := (nI p9)) rfl rfl ?_
    refine zq_virt hS rfl rfl (by first | assumption | exact ⟨by decide, rfl⟩) rfl (s_Prog_memberNameAt (k := some p9) hS hT (hPt.eq (zh_onf zh_eq.rf) (fun x _ _ => by omega)) hB (fun i hi => by cases hi; exact hp9) ?_)
    show zp_wp X y_Repl_translateUsed 34 [.ref 155, .ref r, .ref t, .int (nI p9)] [.int (nI (v_mn TG p9)), .ref 168] (zf_put h 168 3 (nI (v_cn TG (v_ow TG p9)))) Q
    refine zq_put hS rfl (by first | assumption | exact ⟨by decide, rfl⟩) rfl rfl (fun hS34 => ?_)
    have hS := hS34
    refine zp_iload_n (x := (nI p9)) rfl rfl ?_
    refine zp_ifF (tgt := 45) rfl rfl (zc_lt (by omega)) ?_
    refine zp_iconst (v := (nI 1)) rfl (by decide +kernel) ?_
    refine zp_goto (tgt := 46) rfl rfl ?_
    refine zp_zret rfl rfl (by decide) ?_
    exact hq _ hS (zh_onf (zh_onf zh_eq.rf)) ⟨(by rw [zf_nj (by decide), zf_nj (by decide)]; exact d0), (by rw [zf_nj (by decide), zf_nj (by decide)]; exact d1), (by rw [zf_nj (by decide), zf_nj (by decide)]; exact d2), (by rw [zf_nj (by decide)]; exact zf_at9 hS22 (by first | assumption | exact ⟨by decide, rfl⟩) rfl), (by exact zf_at9 hS34 (by first | assumption | exact ⟨by decide, rfl⟩) rfl)⟩
theorem s_Repl_translate (hS : zs_H h) (hT : zq_A t) (ht : t + 6 < 29) (hR : zq_R MV TG C M t h) (hj : zj MV TG C M) (hC : zq_C r) (hr : r < 63) (hc : zq_c c r h) (hl : zc_leg c) (hq : ∀ h', zs_H h' → zh_eq (fun x => x = 168) h h' → (v_hasP MV TG C M c = true → zq_c (v_plan MV TG C M c) 168 h') → Q (.inl (some (.int (zf_b (v_hasP MV TG C M c))))) h') : zp_wm X y_Repl_translate [.ref 155, .ref r, .ref t] h Q := by
  have hC0 : zs_O r 0 [none, none, none, none, none] := hC
  have hCl : ∀ k, (∀ i, k = some i → i < 12) → v_nmF TG C k < 128 := fun k hk => v_nmF_lt hj.2.1.B hj.Cl hk
  have hl' := hl
  have hc' := hc
  obtain ⟨kind, a, m, b, n⟩ := c
  obtain ⟨h1, h2, h3, h4, h5⟩ := hl
  obtain ⟨c0, c1, c2, c3, c4⟩ := hc
  dsimp only at h1 h2 h3 h4 h5 c0 c1 c2 c3 c4
  show zp_wp X y_Repl_translate 0 [.ref 155, .ref r, .ref t] [] h Q
  match kind, h1, h3, h4, h5, c0, hq, hl', hc' with
  | 0, _, h3, h4, h5, c0, hq, hl9, hc9 =>
    refine zp_aload_n (x := 155) rfl rfl ?_
    refine zq_getr (k9 := 168) hS rfl (by first | assumption | exact ⟨by decide, rfl⟩) rfl ?_
    refine zp_aload_n (x := r) rfl rfl ?_
    refine zq_virt hS rfl rfl (by first | assumption | exact ⟨by decide, rfl⟩) rfl (s_Change_copyFrom hS qC_168 hC hc9 (fun h2 hS2 he2 hc2 => ?_))
    have hS := hS2
    have hR2 : zq_R MV TG C M t h2 := hR.eq he2 (fun x _ _ => by omega) (fun x _ _ => by omega)
    have c0 : cf h2 r 0 = nI 0 := by rw [he2.gf (by omega)]; exact c0
    have c1 : cf h2 r 1 = nI a := by rw [he2.gf (by omega)]; exact c1
    have c2 : cf h2 r 2 = nI m := by rw [he2.gf (by omega)]; exact c2
    have c3 : cf h2 r 3 = nI b := by rw [he2.gf (by omega)]; exact c3
    have c4 : cf h2 r 4 = nI n := by rw [he2.gf (by omega)]; exact c4
    obtain ⟨e0, e1, e2, e3, e4⟩ := id hc2
    dsimp only at e0 e1 e2 e3 e4
    show zp_wp X y_Repl_translate 8 [.ref 155, .ref r, .ref t] [] h2 Q
    refine zp_aload_n (x := r) rfl rfl ?_
    refine zq_geti hS rfl (by first | assumption | exact ⟨by decide, rfl⟩) rfl ?_
    rw [c0]
    refine zp_switch (off := 48) (tgt := 60) rfl (by decide +kernel) (by decide +kernel) (by decide +kernel) rfl ?_
    refine zp_iconst (v := (nI 1)) rfl (by decide +kernel) ?_
    refine zp_zret rfl rfl (by decide) ?_
    exact hq _ hS2 he2 (fun _ => hc2)
  | 1, _, h3, h4, h5, c0, hq, hl9, hc9 =>
    have n1 := hCl (v_cls MV a) v_cls_12
    have hv : v_plan MV TG C M (1, a, m, b, n) = (1, v_nmF TG C (v_cls MV a), m, b, n) := rfl
    have hh : v_hasP MV TG C M (1, a, m, b, n) = (!(v_nmF TG C (v_cls MV a) == 0) && true) := rfl
    rw [hv, hh] at hq
    refine zp_aload_n (x := 155) rfl rfl ?_
    refine zq_getr (k9 := 168) hS rfl (by first | assumption | exact ⟨by decide, rfl⟩) rfl ?_
    refine zp_aload_n (x := r) rfl rfl ?_
    refine zq_virt hS rfl rfl (by first | assumption | exact ⟨by decide, rfl⟩) rfl (s_Change_copyFrom hS qC_168 hC hc9 (fun h2 hS2 he2 hc2 => ?_))
    have hS := hS2
    have hR2 : zq_R MV TG C M t h2 := hR.eq he2 (fun x _ _ => by omega) (fun x _ _ => by omega)
    have c0 : cf h2 r 0 = nI 1 := by rw [he2.gf (by omega)]; exact c0
    have c1 : cf h2 r 1 = nI a := by rw [he2.gf (by omega)]; exact c1
    have c2 : cf h2 r 2 = nI m := by rw [he2.gf (by omega)]; exact c2
    have c3 : cf h2 r 3 = nI b := by rw [he2.gf (by omega)]; exact c3
    have c4 : cf h2 r 4 = nI n := by rw [he2.gf (by omega)]; exact c4
    obtain ⟨e0, e1, e2, e3, e4⟩ := id hc2
    dsimp only at e0 e1 e2 e3 e4
    show zp_wp X y_Repl_translate 8 [.ref 155, .ref r, .ref t] [] h2 Q
    refine zp_aload_n (x := r) rfl rfl ?_
    refine zq_geti hS rfl (by first | assumption | exact ⟨by decide, rfl⟩) rfl ?_
    rw [c0]
    refine zp_switch (off := 50) (tgt := 62) rfl (by decide +kernel) (by decide +kernel) (by decide +kernel) rfl ?_
    refine zp_aload_n (x := 155) rfl rfl ?_
    refine zq_getr (k9 := 168) hS rfl (by first | assumption | exact ⟨by decide, rfl⟩) rfl ?_
    refine zp_aload_n (x := 155) rfl rfl ?_
    refine zp_aload_n (x := r) rfl rfl ?_
    refine zq_geti hS rfl (by first | assumption | exact ⟨by decide, rfl⟩) rfl ?_
    rw [c1]
    refine zp_aload_n (x := t) rfl rfl ?_
    refine zq_virt hS rfl rfl (by first | assumption | exact ⟨by decide, rfl⟩) rfl (s_Repl_classNameOf hS2 hT hR2 hj (by omega) ?_)
    show zp_wp X y_Repl_translate 75 [.ref 155, .ref r, .ref t] [.int (nI (v_nmF TG C (v_cls MV a))), .ref 168] h2 Q
    refine zq_put hS rfl (by first | assumption | exact ⟨by decide, rfl⟩) rfl rfl (fun hS75 => ?_)
    have hS := hS75
    refine zp_aload_n (x := 155) rfl rfl ?_
    refine zq_getr (k9 := 168) hS rfl (by first | assumption | exact ⟨by decide, rfl⟩) rfl ?_
    refine zq_geti hS rfl (by first | assumption | exact ⟨by decide, rfl⟩) rfl ?_
    rw [zf_at9 hS75 (by first | assumption | exact ⟨by decide, rfl⟩) rfl]
    refine zp_ifN_eq (tgt := 92) rfl rfl (by omega) (fun b85 => ?_) (fun b85 => ?_)
    · refine zp_iconst (v := (nI 0)) rfl (by decide +kernel) ?_
      refine zp_zret rfl rfl (by decide) ?_
      first
      | (rw [zb_eq b85] at hq; exact hq _ hS (zh_onf he2) (fun q => by cases q))
      | (rw [zb_ne b85] at hq; exact hq _ hS (zh_onf he2) (fun _ => ⟨(by rw [zf_nj (by decide)]; exact e0), (by exact zf_at9 hS75 (by first | assumption | exact ⟨by decide, rfl⟩) rfl), (by rw [zf_nj (by decide)]; exact e2), (by rw [zf_nj (by decide)]; exact e3), (by rw [zf_nj (by decide)]; exact e4)⟩))
      | omega
    · refine zp_iconst (v := (nI 1)) rfl (by decide +kernel) ?_
      refine zp_goto (tgt := 93) rfl rfl ?_
      refine zp_zret rfl rfl (by decide) ?_
      first
      | (rw [zb_eq b85] at hq; exact hq _ hS (zh_onf he2) (fun q => by cases q))
      | (rw [zb_ne b85] at hq; exact hq _ hS (zh_onf he2) (fun _ => ⟨(by rw [zf_nj (by decide)]; exact e0), (by exact zf_at9 hS75 (by first | assumption | exact ⟨by decide, rfl⟩) rfl), (by rw [zf_nj (by decide)]; exact e2), (by rw [zf_nj (by decide)]; exact e3), (by rw [zf_nj (by decide)]; exact e4)⟩))
      | omega
  | 2, _, h3, h4, h5, c0, hq, hl9, hc9 =>
    have n1 := hCl (v_cls MV a) v_cls_12
    have hv : v_plan MV TG C M (2, a, m, b, n) = (2, v_nmF TG C (v_cls MV a), m, b, n) := rfl
    have hh : v_hasP MV TG C M (2, a, m, b, n) = (!(v_nmF TG C (v_cls MV a) == 0) && true) := rfl
    rw [hv, hh] at hq
    refine zp_aload_n (x := 155) rfl rfl ?_
    refine zq_getr (k9 := 168) hS rfl (by first | assumption | exact ⟨by decide, rfl⟩) rfl ?_
    refine zp_aload_n (x := r) rfl rfl ?_
    refine zq_virt hS rfl rfl (by first | assumption | exact ⟨by decide, rfl⟩) rfl (s_Change_copyFrom hS qC_168 hC hc9 (fun h2 hS2 he2 hc2 => ?_))
    have hS := hS2
    have hR2 : zq_R MV TG C M t h2 := hR.eq he2 (fun x _ _ => by omega) (fun x _ _ => by omega)
    have c0 : cf h2 r 0 = nI 2 := by rw [he2.gf (by omega)]; exact c0
    have c1 : cf h2 r 1 = nI a := by rw [he2.gf (by omega)]; exact c1
    have c2 : cf h2 r 2 = nI m := by rw [he2.gf (by omega)]; exact c2
    have c3 : cf h2 r 3 = nI b := by rw [he2.gf (by omega)]; exact c3
    have c4 : cf h2 r 4 = nI n := by rw [he2.gf (by omega)]; exact c4
    obtain ⟨e0, e1, e2, e3, e4⟩ := id hc2
    dsimp only at e0 e1 e2 e3 e4
    show zp_wp X y_Repl_translate 8 [.ref 155, .ref r, .ref t] [] h2 Q
    refine zp_aload_n (x := r) rfl rfl ?_
    refine zq_geti hS rfl (by first | assumption | exact ⟨by decide, rfl⟩) rfl ?_
    rw [c0]
    refine zp_switch (off := 50) (tgt := 62) rfl (by decide +kernel) (by decide +kernel) (by decide +kernel) rfl ?_
    refine zp_aload_n (x := 155) rfl rfl ?_
    refine zq_getr (k9 := 168) hS rfl (by first | assumption | exact ⟨by decide, rfl⟩) rfl ?_
    refine zp_aload_n (x := 155) rfl rfl ?_
    refine zp_aload_n (x := r) rfl rfl ?_
    refine zq_geti hS rfl (by first | assumption | exact ⟨by decide, rfl⟩) rfl ?_
    rw [c1]
    refine zp_aload_n (x := t) rfl rfl ?_
    refine zq_virt hS rfl rfl (by first | assumption | exact ⟨by decide, rfl⟩) rfl (s_Repl_classNameOf hS2 hT hR2 hj (by omega) ?_)
    show zp_wp X y_Repl_translate 75 [.ref 155, .ref r, .ref t] [.int (nI (v_nmF TG C (v_cls MV a))), .ref 168] h2 Q
    refine zq_put hS rfl (by first | assumption | exact ⟨by decide, rfl⟩) rfl rfl (fun hS75 => ?_)
    have hS := hS75
    refine zp_aload_n (x := 155) rfl rfl ?_
    refine zq_getr (k9 := 168) hS rfl (by first | assumption | exact ⟨by decide, rfl⟩) rfl ?_
    refine zq_geti hS rfl (by first | assumption | exact ⟨by decide, rfl⟩) rfl ?_
    rw [zf_at9 hS75 (by first | assumption | exact ⟨by decide, rfl⟩) rfl]
    refine zp_ifN_eq (tgt := 92) rfl rfl (by omega) (fun b85 => ?_) (fun b85 => ?_)
    · refine zp_iconst (v := (nI 0)) rfl (by decide +kernel) ?_
      refine zp_zret rfl rfl (by decide) ?_
      first
      | (rw [zb_eq b85] at hq; exact hq _ hS (zh_onf he2) (fun q => by cases q))
      | (rw [zb_ne b85] at hq; exact hq _ hS (zh_onf he2) (fun _ => ⟨(by rw [zf_nj (by decide)]; exact e0), (by exact zf_at9 hS75 (by first | assumption | exact ⟨by decide, rfl⟩) rfl), (by rw [zf_nj (by decide)]; exact e2), (by rw [zf_nj (by decide)]; exact e3), (by rw [zf_nj (by decide)]; exact e4)⟩))
      | omega
    · refine zp_iconst (v := (nI 1)) rfl (by decide +kernel) ?_
      refine zp_goto (tgt := 93) rfl rfl ?_
      refine zp_zret rfl rfl (by decide) ?_
      first
      | (rw [zb_eq b85] at hq; exact hq _ hS (zh_onf he2) (fun q => by cases q))
      | (rw [zb_ne b85] at hq; exact hq _ hS (zh_onf he2) (fun _ => ⟨(by rw [zf_nj (by decide)]; exact e0), (by exact zf_at9 hS75 (by first | assumption | exact ⟨by decide, rfl⟩) rfl), (by rw [zf_nj (by decide)]; exact e2), (by rw [zf_nj (by decide)]; exact e3), (by rw [zf_nj (by decide)]; exact e4)⟩))
      | omega
  | 3, _, h3, h4, h5, c0, hq, hl9, hc9 =>
    have h4 := h4.2.1 rfl
    have n1 := hCl (v_cls MV a) v_cls_12
    have n2 := hCl (v_cls MV b) v_cls_12
    have hh : v_hasP MV TG C M (3, a, m, b, n) = (!(v_nmF TG C (v_cls MV a) == 0) && (if 3 = 7 ∨ (3 = 3 ∧ ¬ b = 0) then !((if 3 = 7 ∨ (3 = 3 ∧ ¬ b = 0) then v_nmF TG C (v_cls MV b) else b) == 0) else true)) := rfl
    have hv : v_plan MV TG C M (3, a, m, b, n) = (3, v_nmF TG C (v_cls MV a), m, (if 3 = 7 ∨ (3 = 3 ∧ ¬ b = 0) then v_nmF TG C (v_cls MV b) else b), n) := rfl
    have hz0 : b = 0 → v_nmF TG C (v_cls MV b) = 0 := fun q => by subst q; simp [v_cls, v_nmF]
    have hv2 : v_plan MV TG C M (3, a, m, b, n) = (3, v_nmF TG C (v_cls MV a), m, v_nmF TG C (v_cls MV b), n) := by
      rw [hv]
      by_cases q : b = 0
      · rw [if_neg (by omega), hz0 q, q]
      · rw [if_pos (Or.inr ⟨rfl, q⟩)]
    rw [hv2, hh] at hq
    refine zp_aload_n (x := 155) rfl rfl ?_
    refine zq_getr (k9 := 168) hS rfl (by first | assumption | exact ⟨by decide, rfl⟩) rfl ?_
    refine zp_aload_n (x := r) rfl rfl ?_
    refine zq_virt hS rfl rfl (by first | assumption | exact ⟨by decide, rfl⟩) rfl (s_Change_copyFrom hS qC_168 hC hc9 (fun h2 hS2 he2 hc2 => ?_))
    have hS := hS2
    have hR2 : zq_R MV TG C M t h2 := hR.eq he2 (fun x _ _ => by omega) (fun x _ _ => by omega)
    have c0 : cf h2 r 0 = nI 3 := by rw [he2.gf (by omega)]; exact c0
    have c1 : cf h2 r 1 = nI a := by rw [he2.gf (by omega)]; exact c1
    have c2 : cf h2 r 2 = nI m := by rw [he2.gf (by omega)]; exact c2
    have c3 : cf h2 r 3 = nI b := by rw [he2.gf (by omega)]; exact c3
    have c4 : cf h2 r 4 = nI n := by rw [he2.gf (by omega)]; exact c4
    obtain ⟨e0, e1, e2, e3, e4⟩ := id hc2
    dsimp only at e0 e1 e2 e3 e4
    show zp_wp X y_Repl_translate 8 [.ref 155, .ref r, .ref t] [] h2 Q
    refine zp_aload_n (x := r) rfl rfl ?_
    refine zq_geti hS rfl (by first | assumption | exact ⟨by decide, rfl⟩) rfl ?_
    rw [c0]
    refine zp_switch (off := 82) (tgt := 94) rfl (by decide +kernel) (by decide +kernel) (by decide +kernel) rfl ?_
    refine zp_aload_n (x := 155) rfl rfl ?_
    refine zq_getr (k9 := 168) hS rfl (by first | assumption | exact ⟨by decide, rfl⟩) rfl ?_
    refine zp_aload_n (x := 155) rfl rfl ?_
    refine zp_aload_n (x := r) rfl rfl ?_
    refine zq_geti hS rfl (by first | assumption | exact ⟨by decide, rfl⟩) rfl ?_
    rw [c1]
    refine zp_aload_n (x := t) rfl rfl ?_
    refine zq_virt hS rfl rfl (by first | assumption | exact ⟨by decide, rfl⟩) rfl (s_Repl_classNameOf hS2 hT hR2 hj (by omega) ?_)
    show zp_wp X y_Repl_translate 107 [.ref 155, .ref r, .ref t] [.int (nI (v_nmF TG C (v_cls MV a))), .ref 168] h2 Q
    refine zq_put hS rfl (by first | assumption | exact ⟨by decide, rfl⟩) rfl rfl (fun hS107 => ?_)
    have hS := hS107
    refine zp_aload_n (x := 155) rfl rfl ?_
    refine zq_getr (k9 := 168) hS rfl (by first | assumption | exact ⟨by decide, rfl⟩) rfl ?_
    refine zp_aload_n (x := 155) rfl rfl ?_
    refine zp_aload_n (x := r) rfl rfl ?_
    refine zq_geti hS rfl (by first | assumption | exact ⟨by decide, rfl⟩) rfl ?_
    rw [zf_ne (a := 168) (b := r) (by omega)]
    rw [c3]
    refine zp_aload_n (x := t) rfl rfl ?_
    refine zq_virt hS rfl rfl (by first | assumption | exact ⟨by decide, rfl⟩) rfl (s_Repl_classNameOf hS hT (hR2.eq (zh_onf zh_eq.rf) (fun x _ _ => by omega) (fun x _ _ => by omega)) hj (by omega) ?_)
    show zp_wp X y_Repl_translate 123 [.ref 155, .ref r, .ref t] [.int (nI (v_nmF TG C (v_cls MV b))), .ref 168] (zf_put h2 168 1 (nI (v_nmF TG C (v_cls MV a)))) Q
    refine zq_put hS rfl (by first | assumption | exact ⟨by decide, rfl⟩) rfl rfl (fun hS123 => ?_)
    have hS := hS123
    refine zp_aload_n (x := 155) rfl rfl ?_
    refine zq_getr (k9 := 168) hS rfl (by first | assumption | exact ⟨by decide, rfl⟩) rfl ?_
    refine zq_geti hS rfl (by first | assumption | exact ⟨by decide, rfl⟩) rfl ?_
    rw [zf_nj (by decide), zf_at9 hS107 (by first | assumption | exact ⟨by decide, rfl⟩) rfl]
    refine zp_ifN_eq (tgt := 157) rfl rfl (by omega) (fun b133 => ?_) (fun b133 => ?_)
    · refine zp_iconst (v := (nI 0)) rfl (by decide +kernel) ?_
      refine zp_zret rfl rfl (by decide) ?_
      first
      | (rw [zb_eq b133] at hq; exact hq _ hS (zh_onf (zh_onf he2)) (fun q => by cases q))
      | (rw [zb_ne b133, if_neg (by omega)] at hq; exact hq _ hS (zh_onf (zh_onf he2)) (fun _ => ⟨(by rw [zf_nj (by decide), zf_nj (by decide)]; exact e0), (by rw [zf_nj (by decide)]; exact zf_at9 hS107 (by first | assumption | exact ⟨by decide, rfl⟩) rfl), (by rw [zf_nj (by decide), zf_nj (by decide)]; exact e2), (by exact zf_at9 hS123 (by first | assumption | exact ⟨by decide, rfl⟩) rfl), (by rw [zf_nj (by decide), zf_nj (by decide)]; exact e4)⟩))
      | (rw [zb_ne b133, if_pos (Or.inr ⟨rfl, b140⟩), if_pos (Or.inr ⟨rfl, b140⟩), zb_eq b150] at hq; exact hq _ hS (zh_onf (zh_onf he2)) (fun q => by cases q))
      | (rw [zb_ne b133, if_pos (Or.inr ⟨rfl, b140⟩), if_pos (Or.inr ⟨rfl, b140⟩), zb_ne b150] at hq; exact hq _ hS (zh_onf (zh_onf he2)) (fun _ => ⟨(by rw [zf_nj (by decide), zf_nj (by decide)]; exact e0), (by rw [zf_nj (by decide)]; exact zf_at9 hS107 (by first | assumption | exact ⟨by decide, rfl⟩) rfl), (by rw [zf_nj (by decide), zf_nj (by decide)]; exact e2), (by exact zf_at9 hS123 (by first | assumption | exact ⟨by decide, rfl⟩) rfl), (by rw [zf_nj (by decide), zf_nj (by decide)]; exact e4)⟩))
      | omega
    · refine zp_aload_n (x := r) rfl rfl ?_
      refine zq_geti hS rfl (by first | assumption | exact ⟨by decide, rfl⟩) rfl ?_
      rw [zf_ne (a := 168) (b := r) (by omega), zf_ne (a := 168) (b := r) (by omega)]
      rw [c3]
      refine zp_ifN_eq (tgt := 153) rfl rfl (by omega) (fun b140 => ?_) (fun b140 => ?_)
      · refine zp_iconst (v := (nI 1)) rfl (by decide +kernel) ?_
        refine zp_goto (tgt := 158) rfl rfl ?_
        refine zp_zret rfl rfl (by decide) ?_
        first
        | (rw [zb_eq b133] at hq; exact hq _ hS (zh_onf (zh_onf he2)) (fun q => by cases q))
        | (rw [zb_ne b133, if_neg (by omega)] at hq; exact hq _ hS (zh_onf (zh_onf he2)) (fun _ => ⟨(by rw [zf_nj (by decide), zf_nj (by decide)]; exact e0), (by rw [zf_nj (by decide)]; exact zf_at9 hS107 (by first | assumption | exact ⟨by decide, rfl⟩) rfl), (by rw [zf_nj (by decide), zf_nj (by decide)]; exact e2), (by exact zf_at9 hS123 (by first | assumption | exact ⟨by decide, rfl⟩) rfl), (by rw [zf_nj (by decide), zf_nj (by decide)]; exact e4)⟩))
        | (rw [zb_ne b133, if_pos (Or.inr ⟨rfl, b140⟩), if_pos (Or.inr ⟨rfl, b140⟩), zb_eq b150] at hq; exact hq _ hS (zh_onf (zh_onf he2)) (fun q => by cases q))
        | (rw [zb_ne b133, if_pos (Or.inr ⟨rfl, b140⟩), if_pos (Or.inr ⟨rfl, b140⟩), zb_ne b150] at hq; exact hq _ hS (zh_onf (zh_onf he2)) (fun _ => ⟨(by rw [zf_nj (by decide), zf_nj (by decide)]; exact e0), (by rw [zf_nj (by decide)]; exact zf_at9 hS107 (by first | assumption | exact ⟨by decide, rfl⟩) rfl), (by rw [zf_nj (by decide), zf_nj (by decide)]; exact e2), (by exact zf_at9 hS123 (by first | assumption | exact ⟨by decide, rfl⟩) rfl), (by rw [zf_nj (by decide), zf_nj (by decide)]; exact e4)⟩))
        | omega
      · refine zp_aload_n (x := 155) rfl rfl ?_
        refine zq_getr (k9 := 168) hS rfl (by first | assumption | exact ⟨by decide, rfl⟩) rfl ?_
        refine zq_geti hS rfl (by first | assumption | exact ⟨by decide, rfl⟩) rfl ?_
        rw [zf_at9 hS123 (by first | assumption | exact ⟨by decide, rfl⟩) rfl]
        refine zp_ifN_eq (tgt := 157) rfl rfl (by omega) (fun b150 => ?_) (fun b150 => ?_)
        · refine zp_iconst (v := (nI 0)) rfl (by decide +kernel) ?_
          refine zp_zret rfl rfl (by decide) ?_
          first
          | (rw [zb_eq b133] at hq; exact hq _ hS (zh_onf (zh_onf he2)) (fun q => by cases q))
          | (rw [zb_ne b133, if_neg (by omega)] at hq; exact hq _ hS (zh_onf (zh_onf he2)) (fun _ => ⟨(by rw [zf_nj (by decide), zf_nj (by decide)]; exact e0), (by rw [zf_nj (by decide)]; exact zf_at9 hS107 (by first | assumption | exact ⟨by decide, rfl⟩) rfl), (by rw [zf_nj (by decide), zf_nj (by decide)]; exact e2), (by exact zf_at9 hS123 (by first | assumption | exact ⟨by decide, rfl⟩) rfl), (by rw [zf_nj (by decide), zf_nj (by decide)]; exact e4)⟩))
          | (rw [zb_ne b133, if_pos (Or.inr ⟨rfl, b140⟩), if_pos (Or.inr ⟨rfl, b140⟩), zb_eq b150] at hq; exact hq _ hS (zh_onf (zh_onf he2)) (fun q => by cases q))
          | (rw [zb_ne b133, if_pos (Or.inr ⟨rfl, b140⟩), if_pos (Or.inr ⟨rfl, b140⟩), zb_ne b150] at hq; exact hq _ hS (zh_onf (zh_onf he2)) (fun _ => ⟨(by rw [zf_nj (by decide), zf_nj (by decide)]; exact e0), (by rw [zf_nj (by decide)]; exact zf_at9 hS107 (by first | assumption | exact ⟨by decide, rfl⟩) rfl), (by rw [zf_nj (by decide), zf_nj (by decide)]; exact e2), (by exact zf_at9 hS123 (by first | assumption | exact ⟨by decide, rfl⟩) rfl), (by rw [zf_nj (by decide), zf_nj (by decide)]; exact e4)⟩))
          | omega
        · refine zp_iconst (v := (nI 1)) rfl (by decide +kernel) ?_
          refine zp_goto (tgt := 158) rfl rfl ?_
          refine zp_zret rfl rfl (by decide) ?_
          first
          | (rw [zb_eq b133] at hq; exact hq _ hS (zh_onf (zh_onf he2)) (fun q => by cases q))
          | (rw [zb_ne b133, if_neg (by omega)] at hq; exact hq _ hS (zh_onf (zh_onf he2)) (fun _ => ⟨(by rw [zf_nj (by decide), zf_nj (by decide)]; exact e0), (by rw [zf_nj (by decide)]; exact zf_at9 hS107 (by first | assumption | exact ⟨by decide, rfl⟩) rfl), (by rw [zf_nj (by decide), zf_nj (by decide)]; exact e2), (by exact zf_at9 hS123 (by first | assumption | exact ⟨by decide, rfl⟩) rfl), (by rw [zf_nj (by decide), zf_nj (by decide)]; exact e4)⟩))
          | (rw [zb_ne b133, if_pos (Or.inr ⟨rfl, b140⟩), if_pos (Or.inr ⟨rfl, b140⟩), zb_eq b150] at hq; exact hq _ hS (zh_onf (zh_onf he2)) (fun q => by cases q))
          | (rw [zb_ne b133, if_pos (Or.inr ⟨rfl, b140⟩), if_pos (Or.inr ⟨rfl, b140⟩), zb_ne b150] at hq; exact hq _ hS (zh_onf (zh_onf he2)) (fun _ => ⟨(by rw [zf_nj (by decide), zf_nj (by decide)]; exact e0), (by rw [zf_nj (by decide)]; exact zf_at9 hS107 (by first | assumption | exact ⟨by decide, rfl⟩) rfl), (by rw [zf_nj (by decide), zf_nj (by decide)]; exact e2), (by exact zf_at9 hS123 (by first | assumption | exact ⟨by decide, rfl⟩) rfl), (by rw [zf_nj (by decide), zf_nj (by decide)]; exact e4)⟩))
          | omega
  | 4, _, h3, h4, h5, c0, hq, hl9, hc9 =>
    have n1 := hCl (v_cls MV a) v_cls_12
    have hv : v_plan MV TG C M (4, a, m, b, n) = (4, v_nmF TG C (v_cls MV a), m, b, n) := rfl
    have hh : v_hasP MV TG C M (4, a, m, b, n) = (!(v_nmF TG C (v_cls MV a) == 0) && true) := rfl
    rw [hv, hh] at hq
    refine zp_aload_n (x := 155) rfl rfl ?_
    refine zq_getr (k9 := 168) hS rfl (by first | assumption | exact ⟨by decide, rfl⟩) rfl ?_
    refine zp_aload_n (x := r) rfl rfl ?_
    refine zq_virt hS rfl rfl (by first | assumption | exact ⟨by decide, rfl⟩) rfl (s_Change_copyFrom hS qC_168 hC hc9 (fun h2 hS2 he2 hc2 => ?_))
    have hS := hS2
    have hR2 : zq_R MV TG C M t h2 := hR.eq he2 (fun x _ _ => by omega) (fun x _ _ => by omega)
    have c0 : cf h2 r 0 = nI 4 := by rw [he2.gf (by omega)]; exact c0
    have c1 : cf h2 r 1 = nI a := by rw [he2.gf (by omega)]; exact c1
    have c2 : cf h2 r 2 = nI m := by rw [he2.gf (by omega)]; exact c2
    have c3 : cf h2 r 3 = nI b := by rw [he2.gf (by omega)]; exact c3
    have c4 : cf h2 r 4 = nI n := by rw [he2.gf (by omega)]; exact c4
    obtain ⟨e0, e1, e2, e3, e4⟩ := id hc2
    dsimp only at e0 e1 e2 e3 e4
    show zp_wp X y_Repl_translate 8 [.ref 155, .ref r, .ref t] [] h2 Q
    refine zp_aload_n (x := r) rfl rfl ?_
    refine zq_geti hS rfl (by first | assumption | exact ⟨by decide, rfl⟩) rfl ?_
    rw [c0]
    refine zp_switch (off := 50) (tgt := 62) rfl (by decide +kernel) (by decide +kernel) (by decide +kernel) rfl ?_
    refine zp_aload_n (x := 155) rfl rfl ?_
    refine zq_getr (k9 := 168) hS rfl (by first | assumption | exact ⟨by decide, rfl⟩) rfl ?_
    refine zp_aload_n (x := 155) rfl rfl ?_
    refine zp_aload_n (x := r) rfl rfl ?_
    refine zq_geti hS rfl (by first | assumption | exact ⟨by decide, rfl⟩) rfl ?_
    rw [c1]
    refine zp_aload_n (x := t) rfl rfl ?_
    refine zq_virt hS rfl rfl (by first | assumption | exact ⟨by decide, rfl⟩) rfl (s_Repl_classNameOf hS2 hT hR2 hj (by omega) ?_)
    show zp_wp X y_Repl_translate 75 [.ref 155, .ref r, .ref t] [.int (nI (v_nmF TG C (v_cls MV a))), .ref 168] h2 Q
    refine zq_put hS rfl (by first | assumption | exact ⟨by decide, rfl⟩) rfl rfl (fun hS75 => ?_)
    have hS := hS75
    refine zp_aload_n (x := 155) rfl rfl ?_
    refine zq_getr (k9 := 168) hS rfl (by first | assumption | exact ⟨by decide, rfl⟩) rfl ?_
    refine zq_geti hS rfl (by first | assumption | exact ⟨by decide, rfl⟩) rfl ?_
    rw [zf_at9 hS75 (by first | assumption | exact ⟨by decide, rfl⟩) rfl]
    refine zp_ifN_eq (tgt := 92) rfl rfl (by omega) (fun b85 => ?_) (fun b85 => ?_)
    · refine zp_iconst (v := (nI 0)) rfl (by decide +kernel) ?_
      refine zp_zret rfl rfl (by decide) ?_
      first
      | (rw [zb_eq b85] at hq; exact hq _ hS (zh_onf he2) (fun q => by cases q))
      | (rw [zb_ne b85] at hq; exact hq _ hS (zh_onf he2) (fun _ => ⟨(by rw [zf_nj (by decide)]; exact e0), (by exact zf_at9 hS75 (by first | assumption | exact ⟨by decide, rfl⟩) rfl), (by rw [zf_nj (by decide)]; exact e2), (by rw [zf_nj (by decide)]; exact e3), (by rw [zf_nj (by decide)]; exact e4)⟩))
      | omega
    · refine zp_iconst (v := (nI 1)) rfl (by decide +kernel) ?_
      refine zp_goto (tgt := 93) rfl rfl ?_
      refine zp_zret rfl rfl (by decide) ?_
      first
      | (rw [zb_eq b85] at hq; exact hq _ hS (zh_onf he2) (fun q => by cases q))
      | (rw [zb_ne b85] at hq; exact hq _ hS (zh_onf he2) (fun _ => ⟨(by rw [zf_nj (by decide)]; exact e0), (by exact zf_at9 hS75 (by first | assumption | exact ⟨by decide, rfl⟩) rfl), (by rw [zf_nj (by decide)]; exact e2), (by rw [zf_nj (by decide)]; exact e3), (by rw [zf_nj (by decide)]; exact e4)⟩))
      | omega
  | 5, _, h3, h4, h5, c0, hq, hl9, hc9 =>
    have h3 := h3.2 (by omega)
    have hv : v_plan MV TG C M (5, a, m, b, n) = (5, v_onm TG (v_mbF MV M a m), v_mnm TG (v_mbF MV M a m), b, n) := rfl
    have hh : v_hasP MV TG C M (5, a, m, b, n) = (!(v_onm TG (v_mbF MV M a m) == 0) && true) := rfl
    have hh2 : v_hasP MV TG C M (5, a, m, b, n) = (v_mbF MV M a m).isSome := by
      rw [hh, Bool.and_true]
      cases e : v_mbF MV M a m with
      | none => rfl
      | some p => rw [← e, zb_ne (fun q => by rw [(v_onm0 hj).mp q] at e; cases e), e]; rfl
    rw [hv, hh2] at hq
    refine zp_aload_n (x := 155) rfl rfl ?_
    refine zq_getr (k9 := 168) hS rfl (by first | assumption | exact ⟨by decide, rfl⟩) rfl ?_
    refine zp_aload_n (x := r) rfl rfl ?_
    refine zq_virt hS rfl rfl (by first | assumption | exact ⟨by decide, rfl⟩) rfl (s_Change_copyFrom hS qC_168 hC hc9 (fun h2 hS2 he2 hc2 => ?_))
    have hS := hS2
    have hR2 : zq_R MV TG C M t h2 := hR.eq he2 (fun x _ _ => by omega) (fun x _ _ => by omega)
    have c0 : cf h2 r 0 = nI 5 := by rw [he2.gf (by omega)]; exact c0
    have c1 : cf h2 r 1 = nI a := by rw [he2.gf (by omega)]; exact c1
    have c2 : cf h2 r 2 = nI m := by rw [he2.gf (by omega)]; exact c2
    have c3 : cf h2 r 3 = nI b := by rw [he2.gf (by omega)]; exact c3
    have c4 : cf h2 r 4 = nI n := by rw [he2.gf (by omega)]; exact c4
    obtain ⟨e0, e1, e2, e3, e4⟩ := id hc2
    dsimp only at e0 e1 e2 e3 e4
    show zp_wp X y_Repl_translate 8 [.ref 155, .ref r, .ref t] [] h2 Q
    refine zp_aload_n (x := r) rfl rfl ?_
    refine zq_geti hS rfl (by first | assumption | exact ⟨by decide, rfl⟩) rfl ?_
    rw [c0]
    refine zp_switch (off := 147) (tgt := 159) rfl (by decide +kernel) (by decide +kernel) (by decide +kernel) rfl ?_
    refine zp_aload_n (x := 155) rfl rfl ?_
    refine zp_aload_n (x := r) rfl rfl ?_
    refine zp_aload_n (x := t) rfl rfl ?_
    refine zq_virt hS rfl rfl (by first | assumption | exact ⟨by decide, rfl⟩) rfl (s_Repl_translateUser hS2 hT ht hR2 hj hC (hc9.eq he2 (by omega)) hc2 (by show a < 128; omega) h3 (fun h3 hS3 he3 hc3 => ?_))
    show zp_wp X y_Repl_translate 165 [.ref 155, .ref r, .ref t] [.int (zf_b (v_mbF MV M a m).isSome)] h3 Q
    refine zp_zret rfl rfl (zf_b01 _) ?_
    exact hq _ hS3 (he2.trans he3) (fun _ => hc3)
  | 6, _, h3, h4, h5, c0, hq, hl9, hc9 =>
    have h3 := h3.2 (by omega)
    have hv : v_plan MV TG C M (6, a, m, b, n) = (6, v_onm TG (v_mbF MV M a m), v_mnm TG (v_mbF MV M a m), b, n) := rfl
    have hh : v_hasP MV TG C M (6, a, m, b, n) = (!(v_onm TG (v_mbF MV M a m) == 0) && true) := rfl
    have hh2 : v_hasP MV TG C M (6, a, m, b, n) = (v_mbF MV M a m).isSome := by
      rw [hh, Bool.and_true]
      cases e : v_mbF MV M a m with
      | none => rfl
      | some p => rw [← e, zb_ne (fun q => by rw [(v_onm0 hj).mp q] at e; cases e), e]; rfl
    rw [hv, hh2] at hq
    refine zp_aload_n (x := 155) rfl rfl ?_
    refine zq_getr (k9 := 168) hS rfl (by first | assumption | exact ⟨by decide, rfl⟩) rfl ?_
    refine zp_aload_n (x := r) rfl rfl ?_
    refine zq_virt hS rfl rfl (by first | assumption | exact ⟨by decide, rfl⟩) rfl (s_Change_copyFrom hS qC_168 hC hc9 (fun h2 hS2 he2 hc2 => ?_))
    have hS := hS2
    have hR2 : zq_R MV TG C M t h2 := hR.eq he2 (fun x _ _ => by omega) (fun x _ _ => by omega)
    have c0 : cf h2 r 0 = nI 6 := by rw [he2.gf (by omega)]; exact c0
    have c1 : cf h2 r 1 = nI a := by rw [he2.gf (by omega)]; exact c1
    have c2 : cf h2 r 2 = nI m := by rw [he2.gf (by omega)]; exact c2
    have c3 : cf h2 r 3 = nI b := by rw [he2.gf (by omega)]; exact c3
    have c4 : cf h2 r 4 = nI n := by rw [he2.gf (by omega)]; exact c4
    obtain ⟨e0, e1, e2, e3, e4⟩ := id hc2
    dsimp only at e0 e1 e2 e3 e4
    show zp_wp X y_Repl_translate 8 [.ref 155, .ref r, .ref t] [] h2 Q
    refine zp_aload_n (x := r) rfl rfl ?_
    refine zq_geti hS rfl (by first | assumption | exact ⟨by decide, rfl⟩) rfl ?_
    rw [c0]
    refine zp_switch (off := 147) (tgt := 159) rfl (by decide +kernel) (by decide +kernel) (by decide +kernel) rfl ?_
    refine zp_aload_n (x := 155) rfl rfl ?_
    refine zp_aload_n (x := r) rfl rfl ?_
    refine zp_aload_n (x := t) rfl rfl ?_
    refine zq_virt hS rfl rfl (by first | assumption | exact ⟨by decide, rfl⟩) rfl (s_Repl_translateUser hS2 hT ht hR2 hj hC (hc9.eq he2 (by omega)) hc2 (by show a < 128; omega) h3 (fun h3 hS3 he3 hc3 => ?_))
    show zp_wp X y_Repl_translate 165 [.ref 155, .ref r, .ref t] [.int (zf_b (v_mbF MV M a m).isSome)] h3 Q
    refine zp_zret rfl rfl (zf_b01 _) ?_
    exact hq _ hS3 (he2.trans he3) (fun _ => hc3)
  | 7, _, h3, h4, h5, c0, hq, hl9, hc9 =>
    have h3 := h3.2 (by omega)
    have h4 := h4.1 (by omega)
    have n2 := hCl (v_cls MV b) v_cls_12
    have hv : v_plan MV TG C M (7, a, m, b, n) = (7, v_onm TG (v_mbF MV M a m), v_mnm TG (v_mbF MV M a m), v_nmF TG C (v_cls MV b), n) := rfl
    have hh : v_hasP MV TG C M (7, a, m, b, n) = (!(v_onm TG (v_mbF MV M a m) == 0) && !(v_nmF TG C (v_cls MV b) == 0)) := rfl
    have hh2 : v_hasP MV TG C M (7, a, m, b, n) = ((v_mbF MV M a m).isSome && !(v_nmF TG C (v_cls MV b) == 0)) := by
      rw [hh]
      cases e : v_mbF MV M a m with
      | none => rfl
      | some p => rw [← e, zb_ne (fun q => by rw [(v_onm0 hj).mp q] at e; cases e), e]; rfl
    rw [hv, hh2] at hq
    refine zp_aload_n (x := 155) rfl rfl ?_
    refine zq_getr (k9 := 168) hS rfl (by first | assumption | exact ⟨by decide, rfl⟩) rfl ?_
    refine zp_aload_n (x := r) rfl rfl ?_
    refine zq_virt hS rfl rfl (by first | assumption | exact ⟨by decide, rfl⟩) rfl (s_Change_copyFrom hS qC_168 hC hc9 (fun h2 hS2 he2 hc2 => ?_))
    have hS := hS2
    have hR2 : zq_R MV TG C M t h2 := hR.eq he2 (fun x _ _ => by omega) (fun x _ _ => by omega)
    have c0 : cf h2 r 0 = nI 7 := by rw [he2.gf (by omega)]; exact c0
    have c1 : cf h2 r 1 = nI a := by rw [he2.gf (by omega)]; exact c1
    have c2 : cf h2 r 2 = nI m := by rw [he2.gf (by omega)]; exact c2
    have c3 : cf h2 r 3 = nI b := by rw [he2.gf (by omega)]; exact c3
    have c4 : cf h2 r 4 = nI n := by rw [he2.gf (by omega)]; exact c4
    obtain ⟨e0, e1, e2, e3, e4⟩ := id hc2
    dsimp only at e0 e1 e2 e3 e4
    show zp_wp X y_Repl_translate 8 [.ref 155, .ref r, .ref t] [] h2 Q
    refine zp_aload_n (x := r) rfl rfl ?_
    refine zq_geti hS rfl (by first | assumption | exact ⟨by decide, rfl⟩) rfl ?_
    rw [c0]
    refine zp_switch (off := 154) (tgt := 166) rfl (by decide +kernel) (by decide +kernel) (by decide +kernel) rfl ?_
    refine zp_aload_n (x := 155) rfl rfl ?_
    refine zq_getr (k9 := 168) hS rfl (by first | assumption | exact ⟨by decide, rfl⟩) rfl ?_
    refine zp_aload_n (x := 155) rfl rfl ?_
    refine zp_aload_n (x := r) rfl rfl ?_
    refine zq_geti hS rfl (by first | assumption | exact ⟨by decide, rfl⟩) rfl ?_
    rw [c3]
    refine zp_aload_n (x := t) rfl rfl ?_
    refine zq_virt hS rfl rfl (by first | assumption | exact ⟨by decide, rfl⟩) rfl (s_Repl_classNameOf hS2 hT hR2 hj (by omega) ?_)
    show zp_wp X y_Repl_translate 179 [.ref 155, .ref r, .ref t] [.int (nI (v_nmF TG C (v_cls MV b))), .ref 168] h2 Q
    refine zq_put hS rfl (by first | assumption | exact ⟨by decide, rfl⟩) rfl rfl (fun hS179 => ?_)
    have hS := hS179
    refine zp_aload_n (x := 155) rfl rfl ?_
    refine zq_getr (k9 := 168) hS rfl (by first | assumption | exact ⟨by decide, rfl⟩) rfl ?_
    refine zq_geti hS rfl (by first | assumption | exact ⟨by decide, rfl⟩) rfl ?_
    rw [zf_at9 hS179 (by first | assumption | exact ⟨by decide, rfl⟩) rfl]
    refine zp_ifN_eq (tgt := 205) rfl rfl (by omega) (fun b189 => ?_) (fun b189 => ?_)
    · refine zp_iconst (v := (nI 0)) rfl (by decide +kernel) ?_
      refine zp_zret rfl rfl (by decide) ?_
      first
      | (rw [zb_eq b189, Bool.not_true, Bool.and_false] at hq; exact hq _ hS (zh_onf he2) (fun q => by cases q))
      | (rw [ex, zb_ne b189] at hq; exact hq _ hS3 ((zh_onf he2).trans he3) (fun q => by first | exact hc3 | cases q))
      | omega
    · refine zp_aload_n (x := 155) rfl rfl ?_
      refine zp_aload_n (x := r) rfl rfl ?_
      refine zp_aload_n (x := t) rfl rfl ?_
      refine zq_virt hS rfl rfl (by first | assumption | exact ⟨by decide, rfl⟩) rfl (s_Repl_translateUser (d := (7, a, m, v_nmF TG C (v_cls MV b), n)) hS hT ht (hR2.eq (zh_onf zh_eq.rf) (fun x _ _ => by omega) (fun x _ _ => by omega)) hj hC ((hc9.eq he2 (by omega)).eq (zh_onf zh_eq.rf) (by omega)) ⟨(by rw [zf_nj (by decide)]; exact e0), (by rw [zf_nj (by decide)]; exact e1), (by rw [zf_nj (by decide)]; exact e2), (by exact zf_at9 hS179 (by first | assumption | exact ⟨by decide, rfl⟩) rfl), (by rw [zf_nj (by decide)]; exact e4)⟩ (by show a < 128; omega) h3 (fun h3 hS3 he3 hc3 => ?_))
      have hS := hS3
      cases ex : (v_mbF MV M a m).isSome with
      | false =>
        show zp_wp X y_Repl_translate 198 [.ref 155, .ref r, .ref t] [.int (nI 0)] h3 Q
        refine zp_ifT (tgt := 205) rfl rfl (by decide +kernel) ?_
        refine zp_iconst (v := (nI 0)) rfl (by decide +kernel) ?_
        refine zp_zret rfl rfl (by decide) ?_
        first
        | (rw [zb_eq b189, Bool.not_true, Bool.and_false] at hq; exact hq _ hS (zh_onf he2) (fun q => by cases q))
        | (rw [ex, zb_ne b189] at hq; exact hq _ hS3 ((zh_onf he2).trans he3) (fun q => by first | exact hc3 | cases q))
        | omega
      | true =>
        show zp_wp X y_Repl_translate 198 [.ref 155, .ref r, .ref t] [.int (nI 1)] h3 Q
        refine zp_ifF (tgt := 205) rfl rfl (by decide +kernel) ?_
        refine zp_iconst (v := (nI 1)) rfl (by decide +kernel) ?_
        refine zp_goto (tgt := 206) rfl rfl ?_
        refine zp_zret rfl rfl (by decide) ?_
        first
        | (rw [zb_eq b189, Bool.not_true, Bool.and_false] at hq; exact hq _ hS (zh_onf he2) (fun q => by cases q))
        | (rw [ex, zb_ne b189] at hq; exact hq _ hS3 ((zh_onf he2).trans he3) (fun q => by first | exact hc3 | cases q))
        | omega
  | 8, _, h3, h4, h5, c0, hq, hl9, hc9 =>
    have h3 := h3.2 (by omega)
    have h4 := h4.1 (by omega)
    have h5 := h5.1 (by omega)
    have hv : v_plan MV TG C M (8, a, m, b, n) = (8, v_onm TG (v_mbF MV M a m), v_mnm TG (v_mbF MV M a m), v_onm TG (v_mbF MV M b n), v_mnm TG (v_mbF MV M b n)) := rfl
    have hh : v_hasP MV TG C M (8, a, m, b, n) = (!(v_onm TG (v_mbF MV M a m) == 0) && (v_mbF MV M b n).isSome) := rfl
    have hh2 : v_hasP MV TG C M (8, a, m, b, n) = ((v_mbF MV M a m).isSome && (v_mbF MV M b n).isSome) := by
      rw [hh]
      cases e : v_mbF MV M a m with
      | none => rfl
      | some p => rw [← e, zb_ne (fun q => by rw [(v_onm0 hj).mp q] at e; cases e), e]; rfl
    rw [hv, hh2] at hq
    refine zp_aload_n (x := 155) rfl rfl ?_
    refine zq_getr (k9 := 168) hS rfl (by first | assumption | exact ⟨by decide, rfl⟩) rfl ?_
    refine zp_aload_n (x := r) rfl rfl ?_
    refine zq_virt hS rfl rfl (by first | assumption | exact ⟨by decide, rfl⟩) rfl (s_Change_copyFrom hS qC_168 hC hc9 (fun h2 hS2 he2 hc2 => ?_))
    have hS := hS2
    have hR2 : zq_R MV TG C M t h2 := hR.eq he2 (fun x _ _ => by omega) (fun x _ _ => by omega)
    have c0 : cf h2 r 0 = nI 8 := by rw [he2.gf (by omega)]; exact c0
    have c1 : cf h2 r 1 = nI a := by rw [he2.gf (by omega)]; exact c1
    have c2 : cf h2 r 2 = nI m := by rw [he2.gf (by omega)]; exact c2
    have c3 : cf h2 r 3 = nI b := by rw [he2.gf (by omega)]; exact c3
    have c4 : cf h2 r 4 = nI n := by rw [he2.gf (by omega)]; exact c4
    obtain ⟨e0, e1, e2, e3, e4⟩ := id hc2
    dsimp only at e0 e1 e2 e3 e4
    show zp_wp X y_Repl_translate 8 [.ref 155, .ref r, .ref t] [] h2 Q
    refine zp_aload_n (x := r) rfl rfl ?_
    refine zq_geti hS rfl (by first | assumption | exact ⟨by decide, rfl⟩) rfl ?_
    rw [c0]
    refine zp_switchD (tgt := 207) rfl (by decide +kernel) rfl ?_
    refine zp_aload_n (x := 155) rfl rfl ?_
    refine zp_aload_n (x := r) rfl rfl ?_
    refine zp_aload_n (x := t) rfl rfl ?_
    refine zq_virt hS rfl rfl (by first | assumption | exact ⟨by decide, rfl⟩) rfl (s_Repl_translateUser hS2 hT ht hR2 hj hC (hc9.eq he2 (by omega)) hc2 (by show a < 128; omega) h3 (fun h3 hS3 he3 hc3 => ?_))
    have hS := hS3
    cases ex : (v_mbF MV M a m).isSome with
    | false =>
      show zp_wp X y_Repl_translate 213 [.ref 155, .ref r, .ref t] [.int (nI 0)] h3 Q
      refine zp_ifT (tgt := 229) rfl rfl (by decide +kernel) ?_
      refine zp_iconst (v := (nI 0)) rfl (by decide +kernel) ?_
      refine zp_zret rfl rfl (by decide) ?_
      first
      | (rw [ex, ey] at hq; exact hq _ hS4 ((he2.trans he3).trans he4) (fun q => by first | exact hc4 | cases q))
      | (rw [ex] at hq; exact hq _ hS3 (he2.trans he3) (fun q => by cases q))
      | omega
    | true =>
      show zp_wp X y_Repl_translate 213 [.ref 155, .ref r, .ref t] [.int (nI 1)] h3 Q
      refine zp_ifF (tgt := 229) rfl rfl (by decide +kernel) ?_
      refine zp_aload_n (x := 155) rfl rfl ?_
      refine zp_aload_n (x := r) rfl rfl ?_
      refine zp_aload_n (x := t) rfl rfl ?_
      refine zq_virt hS rfl rfl (by first | assumption | exact ⟨by decide, rfl⟩) rfl (s_Repl_translateUsed hS3 hT ht (hR2.eq he3 (fun x _ _ => by omega) (fun x _ _ => by omega)) hj hC ((hc9.eq he2 (by omega)).eq he3 (by omega)) hc3 (by show b < 128; omega) h5 (fun h4 hS4 he4 hc4 => ?_))
      have hS := hS4
      cases ey : (v_mbF MV M b n).isSome with
      | false =>
        show zp_wp X y_Repl_translate 222 [.ref 155, .ref r, .ref t] [.int (nI 0)] h4 Q
        refine zp_ifT (tgt := 229) rfl rfl (by decide +kernel) ?_
        refine zp_iconst (v := (nI 0)) rfl (by decide +kernel) ?_
        refine zp_zret rfl rfl (by decide) ?_
        first
        | (rw [ex, ey] at hq; exact hq _ hS4 ((he2.trans he3).trans he4) (fun q => by first | exact hc4 | cases q))
        | (rw [ex] at hq; exact hq _ hS3 (he2.trans he3) (fun q => by cases q))
        | omega
      | true =>
        show zp_wp X y_Repl_translate 222 [.ref 155, .ref r, .ref t] [.int (nI 1)] h4 Q
        refine zp_ifF (tgt := 229) rfl rfl (by decide +kernel) ?_
        refine zp_iconst (v := (nI 1)) rfl (by decide +kernel) ?_
        refine zp_goto (tgt := 230) rfl rfl ?_
        refine zp_zret rfl rfl (by decide) ?_
        first
        | (rw [ex, ey] at hq; exact hq _ hS4 ((he2.trans he3).trans he4) (fun q => by first | exact hc4 | cases q))
        | (rw [ex] at hq; exact hq _ hS3 (he2.trans he3) (fun q => by cases q))
        | omega
  | 9, _, h3, h4, h5, c0, hq, hl9, hc9 =>
    have h3 := h3.2 (by omega)
    have h4 := h4.1 (by omega)
    have h5 := h5.1 (by omega)
    have hv : v_plan MV TG C M (9, a, m, b, n) = (9, v_onm TG (v_mbF MV M a m), v_mnm TG (v_mbF MV M a m), v_onm TG (v_mbF MV M b n), v_mnm TG (v_mbF MV M b n)) := rfl
    have hh : v_hasP MV TG C M (9, a, m, b, n) = (!(v_onm TG (v_mbF MV M a m) == 0) && (v_mbF MV M b n).isSome) := rfl
    have hh2 : v_hasP MV TG C M (9, a, m, b, n) = ((v_mbF MV M a m).isSome && (v_mbF MV M b n).isSome) := by
      rw [hh]
      cases e : v_mbF MV M a m with
      | none => rfl
      | some p => rw [← e, zb_ne (fun q => by rw [(v_onm0 hj).mp q] at e; cases e), e]; rfl
    rw [hv, hh2] at hq
    refine zp_aload_n (x := 155) rfl rfl ?_
    refine zq_getr (k9 := 168) hS rfl (by first | assumption | exact ⟨by decide, rfl⟩) rfl ?_
    refine zp_aload_n (x := r) rfl rfl ?_
    refine zq_virt hS rfl rfl (by first | assumption | exact ⟨by decide, rfl⟩) rfl (s_Change_copyFrom hS qC_168 hC hc9 (fun h2 hS2 he2 hc2 => ?_))
    have hS := hS2
    have hR2 : zq_R MV TG C M t h2 := hR.eq he2 (fun x _ _ => by omega) (fun x _ _ => by omega)
    have c0 : cf h2 r 0 = nI 9 := by rw [he2.gf (by omega)]; exact c0
    have c1 : cf h2 r 1 = nI a := by rw [he2.gf (by omega)]; exact c1
    have c2 : cf h2 r 2 = nI m := by rw [he2.gf (by omega)]; exact c2
    have c3 : cf h2 r 3 = nI b := by rw [he2.gf (by omega)]; exact c3
    have c4 : cf h2 r 4 = nI n := by rw [he2.gf (by omega)]; exact c4
    obtain ⟨e0, e1, e2, e3, e4⟩ := id hc2
    dsimp only at e0 e1 e2 e3 e4
    show zp_wp X y_Repl_translate 8 [.ref 155, .ref r, .ref t] [] h2 Q
    refine zp_aload_n (x := r) rfl rfl ?_
    refine zq_geti hS rfl (by first | assumption | exact ⟨by decide, rfl⟩) rfl ?_
    rw [c0]
    refine zp_switchD (tgt := 207) rfl (by decide +kernel) rfl ?_
    refine zp_aload_n (x := 155) rfl rfl ?_
    refine zp_aload_n (x := r) rfl rfl ?_
    refine zp_aload_n (x := t) rfl rfl ?_
    refine zq_virt hS rfl rfl (by first | assumption | exact ⟨by decide, rfl⟩) rfl (s_Repl_translateUser hS2 hT ht hR2 hj hC (hc9.eq he2 (by omega)) hc2 (by show a < 128; omega) h3 (fun h3 hS3 he3 hc3 => ?_))
    have hS := hS3
    cases ex : (v_mbF MV M a m).isSome with
    | false =>
      show zp_wp X y_Repl_translate 213 [.ref 155, .ref r, .ref t] [.int (nI 0)] h3 Q
      refine zp_ifT (tgt := 229) rfl rfl (by decide +kernel) ?_
      refine zp_iconst (v := (nI 0)) rfl (by decide +kernel) ?_
      refine zp_zret rfl rfl (by decide) ?_
      first
      | (rw [ex, ey] at hq; exact hq _ hS4 ((he2.trans he3).trans he4) (fun q => by first | exact hc4 | cases q))
      | (rw [ex] at hq; exact hq _ hS3 (he2.trans he3) (fun q => by cases q))
      | omega
    | true =>
      show zp_wp X y_Repl_translate 213 [.ref 155, .ref r, .ref t] [.int (nI 1)] h3 Q
      refine zp_ifF (tgt := 229) rfl rfl (by decide +kernel) ?_
      refine zp_aload_n (x := 155) rfl rfl ?_
      refine zp_aload_n (x := r) rfl rfl ?_
      refine zp_aload_n (x := t) rfl rfl ?_
      refine zq_virt hS rfl rfl (by first | assumption | exact ⟨by decide, rfl⟩) rfl (s_Repl_translateUsed hS3 hT ht (hR2.eq he3 (fun x _ _ => by omega) (fun x _ _ => by omega)) hj hC ((hc9.eq he2 (by omega)).eq he3 (by omega)) hc3 (by show b < 128; omega) h5 (fun h4 hS4 he4 hc4 => ?_))
      have hS := hS4
      cases ey : (v_mbF MV M b n).isSome with
      | false =>
        show zp_wp X y_Repl_translate 222 [.ref 155, .ref r, .ref t] [.int (nI 0)] h4 Q
        refine zp_ifT (tgt := 229) rfl rfl (by decide +kernel) ?_
        refine zp_iconst (v := (nI 0)) rfl (by decide +kernel) ?_
        refine zp_zret rfl rfl (by decide) ?_
        first
        | (rw [ex, ey] at hq; exact hq _ hS4 ((he2.trans he3).trans he4) (fun q => by first | exact hc4 | cases q))
        | (rw [ex] at hq; exact hq _ hS3 (he2.trans he3) (fun q => by cases q))
        | omega
      | true =>
        show zp_wp X y_Repl_translate 222 [.ref 155, .ref r, .ref t] [.int (nI 1)] h4 Q
        refine zp_ifF (tgt := 229) rfl rfl (by decide +kernel) ?_
        refine zp_iconst (v := (nI 1)) rfl (by decide +kernel) ?_
        refine zp_goto (tgt := 230) rfl rfl ?_
        refine zp_zret rfl rfl (by decide) ?_
        first
        | (rw [ex, ey] at hq; exact hq _ hS4 ((he2.trans he3).trans he4) (fun q => by first | exact hc4 | cases q))
        | (rw [ex] at hq; exact hq _ hS3 (he2.trans he3) (fun q => by cases q))
        | omega
  | k + 10, h1, _, _, _, _, _, _, _ => exact absurd h1 (by omega)
end ZP13
