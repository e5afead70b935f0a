/-! the class: changes that commute, and what a change needs -/
theorem qA_1 : zq_A 1 := ⟨⟨by decide, rfl⟩, ⟨by decide, rfl⟩, ⟨by decide, rfl⟩, ⟨by decide, rfl⟩, ⟨by decide, rfl⟩, ⟨by decide, rfl⟩, ⟨by decide, rfl⟩⟩
theorem qA_8 : zq_A 8 := ⟨⟨by decide, rfl⟩, ⟨by decide, rfl⟩, ⟨by decide, rfl⟩, ⟨by decide, rfl⟩, ⟨by decide, rfl⟩, ⟨by decide, rfl⟩, ⟨by decide, rfl⟩⟩
theorem qA_15 : zq_A 15 := ⟨⟨by decide, rfl⟩, ⟨by decide, rfl⟩, ⟨by decide, rfl⟩, ⟨by decide, rfl⟩, ⟨by decide, rfl⟩, ⟨by decide, rfl⟩, ⟨by decide, rfl⟩⟩
theorem qA_22 : zq_A 22 := ⟨⟨by decide, rfl⟩, ⟨by decide, rfl⟩, ⟨by decide, rfl⟩, ⟨by decide, rfl⟩, ⟨by decide, rfl⟩, ⟨by decide, rfl⟩, ⟨by decide, rfl⟩⟩
theorem qA_63 : zq_A 63 := ⟨⟨by decide, rfl⟩, ⟨by decide, rfl⟩, ⟨by decide, rfl⟩, ⟨by decide, rfl⟩, ⟨by decide, rfl⟩, ⟨by decide, rfl⟩, ⟨by decide, rfl⟩⟩
theorem qA_70 : zq_A 70 := ⟨⟨by decide, rfl⟩, ⟨by decide, rfl⟩, ⟨by decide, rfl⟩, ⟨by decide, rfl⟩, ⟨by decide, rfl⟩, ⟨by decide, rfl⟩, ⟨by decide, rfl⟩⟩
theorem qA_77 : zq_A 77 := ⟨⟨by decide, rfl⟩, ⟨by decide, rfl⟩, ⟨by decide, rfl⟩, ⟨by decide, rfl⟩, ⟨by decide, rfl⟩, ⟨by decide, rfl⟩, ⟨by decide, rfl⟩⟩
theorem qA_156 : zq_A 156 := ⟨⟨by decide, rfl⟩, ⟨by decide, rfl⟩, ⟨by decide, rfl⟩, ⟨by decide, rfl⟩, ⟨by decide, rfl⟩, ⟨by decide, rfl⟩, ⟨by decide, rfl⟩⟩
theorem qC_61 : zq_C 61 := ⟨by decide, rfl⟩
theorem qC_84 : zq_C 84 := ⟨by decide, rfl⟩
theorem qC_85 : zq_C 85 := ⟨by decide, rfl⟩
theorem qC_168 : zq_C 168 := ⟨by decide, rfl⟩
theorem qK_29c : ∀ i, i < 30 → (29 + 2 + i < zs_n ∧ zs_tab (29 + 2 + i) = (3, 0, [none, none, none, none, none])) := by decide +kernel
theorem qK_86c : ∀ i, i < 30 → (86 + 2 + i < zs_n ∧ zs_tab (86 + 2 + i) = (3, 0, [none, none, none, none, none])) := by decide +kernel
theorem qK_118c : ∀ i, i < 30 → (118 + 2 + i < zs_n ∧ zs_tab (118 + 2 + i) = (3, 0, [none, none, none, none, none])) := by decide +kernel
theorem qK_29 : zq_K 29 := ⟨⟨by decide, rfl⟩, ⟨by decide, rfl⟩, qK_29c⟩
theorem qK_86 : zq_K 86 := ⟨⟨by decide, rfl⟩, ⟨by decide, rfl⟩, qK_86c⟩
theorem qK_118 : zq_K 118 := ⟨⟨by decide, rfl⟩, ⟨by decide, rfl⟩, qK_118c⟩
def v_tst (V : zv) (L : Nat → zch) (i : Nat) : Bool := (v_mk V (v_bk L i)).1 == 0 && ((v_mk (v_mk V (v_bk L i)).2.1 (v_ft L i)).1 == 0 && v_one (v_mk (v_mk V (v_bk L i)).2.1 (v_ft L i)).2.1 (v_mk (v_mk V (L i)).2.1 (L (i + 1))).2.1)
theorem v_com_tst (B : zv) (L : Nat → zch) (i : Nat) : v_com B L i = v_tst (v_go B L i) L i := rfl
theorem v_mk_9 {V : zv} {c : zch} : (v_mk V c).1 < 10 := v_make_9
section ZP10
variable {X : zm_X} {h : zm_H} {Q : zm_O → zm_H → Prop} {V W B : zv} {p q l : Nat} {L T : Nat → zch}
theorem zc_84 : zs_O 84 0 [none, none, none, none, none] := qC_84
theorem s_Comm_test {i : Nat} (hS : zs_H h) (hK : zq_K l) (hl : l = 29 ∨ l = 118) (hL : zq_L L l h) (hP : zq_P V 63 h) (hW : zv_W V) (hi : i + 1 < 30) (h1 : zc_leg (L i)) (h2 : zc_leg (L (i + 1))) (hq : ∀ h', zs_H h' → zh_eq (fun x => 70 ≤ x ∧ x ≤ 85) h h' → zq_c (v_bk L i) 84 h' → zq_c (v_ft L i) 85 h' → Q (.inl (some (.int (zf_b (v_tst V L i))))) h') : zp_wm X y_Comm_test [.ref 62, .ref l, .int (nI i)] h Q := by
  have k1 := hK.1
  have kc := hK.2.2 i (by omega)
  have kd := hK.2.2 (i + 1) (by omega)
  have hbk := v_bk_leg h1 h2
  have hft := v_ft_leg h1 h2
  have f1 : (v_mk V (v_bk L i)).1 < 10 := v_mk_9
  have f2 : (v_mk (v_mk V (v_bk L i)).2.1 (v_ft L i)).1 < 10 := v_mk_9
  show zp_wp X y_Comm_test 0 [.ref 62, .ref l, .int (nI i), zm_mk, zm_mk] [] h Q
  refine zp_aload_n (x := l) rfl rfl ?_
  refine zp_iload_n (x := (nI i)) rfl rfl ?_
  refine zq_virt hS rfl rfl (by first | assumption | exact ⟨by decide, rfl⟩) rfl (s_List_at hS hK (by omega) ?_)
  show zp_wp X y_Comm_test 5 [.ref 62, .ref l, .int (nI i), zm_mk, zm_mk] [.ref (l + 2 + i)] h Q
  refine zp_astore_n_3 rfl rfl ?_
  refine zp_aload_n (x := l) rfl rfl ?_
  refine zp_iload_n (x := (nI i)) rfl rfl ?_
  refine zp_iconst (v := (nI 1)) rfl (by decide +kernel) ?_
  refine zp_iaddN rfl ?_
  refine zq_virt hS rfl rfl (by first | assumption | exact ⟨by decide, rfl⟩) rfl (s_List_at hS hK hi ?_)
  show zp_wp X y_Comm_test 13 [.ref 62, .ref l, .int (nI i), .ref (l + 2 + i), zm_mk] [.ref (l + 2 + (i + 1))] h Q
  refine zp_astore_4 rfl rfl ?_
  refine zp_aload_n (x := 62) rfl rfl ?_
  refine zq_getr (k9 := 84) hS rfl (by first | assumption | exact ⟨by decide, rfl⟩) rfl ?_
  refine zp_aload (x := (l + 2 + (i + 1))) rfl rfl ?_
  refine zq_virt hS rfl rfl (by first | assumption | exact ⟨by decide, rfl⟩) rfl (s_Change_copyFrom hS qC_84 kd (hL _ hi) (fun ha hSa hea hca => ?_))
  have ea : zh_eq (fun x => 70 ≤ x ∧ x ≤ 85) h ha := hea.mono (fun x e => by omega)
  have hS := hSa
  show zp_wp X y_Comm_test 24 [.ref 62, .ref l, .int (nI i), .ref (l + 2 + i), .ref (l + 2 + (i + 1))] [] ha Q
  refine zp_aload_n (x := 62) rfl rfl ?_
  refine zq_getr (k9 := 84) hS rfl (by first | assumption | exact ⟨by decide, rfl⟩) rfl ?_
  refine zp_aload_n (x := (l + 2 + i)) rfl rfl ?_
  refine zq_virt hS rfl rfl (by first | assumption | exact ⟨by decide, rfl⟩) rfl (s_Change_carryBack hSa qC_84 hca h2 kc ((hL i (by omega)).eq ea (by omega)) h1 (fun hb hSb heb hcb => ?_))
  have eb : zh_eq (fun x => 70 ≤ x ∧ x ≤ 85) h hb := ea.trans (heb.mono (fun x e => by omega))
  have hcb : zq_c (v_bk L i) 84 hb := hcb
  have hS := hSb
  show zp_wp X y_Comm_test 32 [.ref 62, .ref l, .int (nI i), .ref (l + 2 + i), .ref (l + 2 + (i + 1))] [] hb Q
  refine zp_aload_n (x := 62) rfl rfl ?_
  refine zq_getr (k9 := 85) hS rfl (by first | assumption | exact ⟨by decide, rfl⟩) rfl ?_
  refine zp_aload_n (x := (l + 2 + i)) rfl rfl ?_
  refine zq_virt hS rfl rfl (by first | assumption | exact ⟨by decide, rfl⟩) rfl (s_Change_copyFrom hSb qC_85 kc ((hL i (by omega)).eq eb (by omega)) (fun hc hSc hec hcc => ?_))
  have ec : zh_eq (fun x => 70 ≤ x ∧ x ≤ 85) h hc := eb.trans (hec.mono (fun x e => by omega))
  have hbc : zq_c (v_bk L i) 84 hc := hcb.eq hec (by decide)
  have hS := hSc
  show zp_wp X y_Comm_test 40 [.ref 62, .ref l, .int (nI i), .ref (l + 2 + i), .ref (l + 2 + (i + 1))] [] hc Q
  refine zp_aload_n (x := 62) rfl rfl ?_
  refine zq_getr (k9 := 85) hS rfl (by first | assumption | exact ⟨by decide, rfl⟩) rfl ?_
  refine zp_aload_n (x := 62) rfl rfl ?_
  refine zq_getr (k9 := 84) hS rfl (by first | assumption | exact ⟨by decide, rfl⟩) rfl ?_
  refine zq_virt hS rfl rfl (by first | assumption | exact ⟨by decide, rfl⟩) rfl (s_Change_carryForward hSc qC_85 hcc h1 qC_84 hbc hbk (fun hd hSd hed hcd => ?_))
  have ed : zh_eq (fun x => 70 ≤ x ∧ x ≤ 85) h hd := ec.trans (hed.mono (fun x e => by omega))
  have hbd : zq_c (v_bk L i) 84 hd := hbc.eq hed (by decide)
  have hcd : zq_c (v_ft L i) 85 hd := hcd
  have hS := hSd
  show zp_wp X y_Comm_test 51 [.ref 62, .ref l, .int (nI i), .ref (l + 2 + i), .ref (l + 2 + (i + 1))] [] hd Q
  refine zp_aload_n (x := 62) rfl rfl ?_
  refine zq_getr (k9 := 77) hS rfl (by first | assumption | exact ⟨by decide, rfl⟩) rfl ?_
  refine zp_aload_n (x := 62) rfl rfl ?_
  refine zq_getr (k9 := 63) hS rfl (by first | assumption | exact ⟨by decide, rfl⟩) rfl ?_
  refine zq_virt hS rfl rfl (by first | assumption | exact ⟨by decide, rfl⟩) rfl (s_Prog_copyFrom hSd qA_77 qA_63 (hP.eq ed (fun x _ _ => by omega)) (by decide) (fun hg pg => ?_))
  have eg : zh_eq (fun x => 70 ≤ x ∧ x ≤ 85) h hg := ed.trans (pg.2.1.mono (fun x e => by omega))
  have hbg : zq_c (v_bk L i) 84 hg := hbd.eq pg.2.1 (by omega)
  have hcg : zq_c (v_ft L i) 85 hg := hcd.eq pg.2.1 (by omega)
  have hS := pg.1
  show zp_wp X y_Comm_test 62 [.ref 62, .ref l, .int (nI i), .ref (l + 2 + i), .ref (l + 2 + (i + 1))] [] hg Q
  refine zp_aload_n (x := 62) rfl rfl ?_
  refine zq_getr (k9 := 77) hS rfl (by first | assumption | exact ⟨by decide, rfl⟩) rfl ?_
  refine zp_aload_n (x := 62) rfl rfl ?_
  refine zq_getr (k9 := 84) hS rfl (by first | assumption | exact ⟨by decide, rfl⟩) rfl ?_
  refine zq_virt hS rfl rfl (by first | assumption | exact ⟨by decide, rfl⟩) rfl (s_Prog_attempt pg.1 qA_77 pg.2.2 hW qC_84 hbg hbk (fun hh ph => ?_))
  have eh : zh_eq (fun x => 70 ≤ x ∧ x ≤ 85) h hh := eg.trans (ph.2.1.mono (fun x e => by omega))
  have hbh : zq_c (v_bk L i) 84 hh := hbg.eq ph.2.1 (by omega)
  have hch : zq_c (v_ft L i) 85 hh := hcg.eq ph.2.1 (by omega)
  have hS := ph.1
  show zp_wp X y_Comm_test 73 [.ref 62, .ref l, .int (nI i), .ref (l + 2 + i), .ref (l + 2 + (i + 1))] [.int (nI ((v_mk V (v_bk L i)).1))] hh Q
  refine zp_ifN_ne (tgt := 90) rfl rfl (by omega) (fun b73 => ?_) (fun b73 => ?_)
  · refine zp_iconst (v := (nI 0)) rfl (by decide +kernel) ?_
    refine zp_zret rfl rfl (by decide) ?_
    first
    | (have hv : v_tst V L i = false := by unfold v_tst; rw [zb_ne b73]; rfl
       rw [hv] at hq; exact hq _ ph.1 eh hbh hch)
    | (have hv : v_tst V L i = false := by unfold v_tst; rw [zb_ne b87, Bool.false_and, Bool.and_false]
       rw [hv] at hq; exact hq _ pj.1 ej hbj hcj)
  · refine zp_aload_n (x := 62) rfl rfl ?_
    refine zq_getr (k9 := 77) hS rfl (by first | assumption | exact ⟨by decide, rfl⟩) rfl ?_
    refine zp_aload_n (x := 62) rfl rfl ?_
    refine zq_getr (k9 := 85) hS rfl (by first | assumption | exact ⟨by decide, rfl⟩) rfl ?_
    refine zq_virt hS rfl rfl (by first | assumption | exact ⟨by decide, rfl⟩) rfl (s_Prog_attempt ph.1 qA_77 ph.2.2 (hW.mk hbk) qC_85 hch hft (fun hj pj => ?_))
    have ej : zh_eq (fun x => 70 ≤ x ∧ x ≤ 85) h hj := eh.trans (pj.2.1.mono (fun x e => by omega))
    have hbj : zq_c (v_bk L i) 84 hj := hbh.eq pj.2.1 (by omega)
    have hcj : zq_c (v_ft L i) 85 hj := hch.eq pj.2.1 (by omega)
    have hS := pj.1
    show zp_wp X y_Comm_test 87 [.ref 62, .ref l, .int (nI i), .ref (l + 2 + i), .ref (l + 2 + (i + 1))] [.int (nI ((v_mk (v_mk V (v_bk L i)).2.1 (v_ft L i)).1))] hj Q
    refine zp_ifN_eq (tgt := 92) rfl rfl (by omega) (fun b87 => ?_) (fun b87 => ?_)
    · refine zp_aload_n (x := 62) rfl rfl ?_
      refine zq_getr (k9 := 70) hS rfl (by first | assumption | exact ⟨by decide, rfl⟩) rfl ?_
      refine zp_aload_n (x := 62) rfl rfl ?_
      refine zq_getr (k9 := 63) hS rfl (by first | assumption | exact ⟨by decide, rfl⟩) rfl ?_
      refine zq_virt hS rfl rfl (by first | assumption | exact ⟨by decide, rfl⟩) rfl (s_Prog_copyFrom pj.1 qA_70 qA_63 (hP.eq ej (fun x _ _ => by omega)) (by decide) (fun hk pk => ?_))
      have ek : zh_eq (fun x => 70 ≤ x ∧ x ≤ 85) h hk := ej.trans (pk.2.1.mono (fun x e => by omega))
      have hbk2 : zq_c (v_bk L i) 84 hk := hbj.eq pk.2.1 (by omega)
      have hck2 : zq_c (v_ft L i) 85 hk := hcj.eq pk.2.1 (by omega)
      have p7 : zq_P (v_mk (v_mk V (v_bk L i)).2.1 (v_ft L i)).2.1 77 hk := pj.2.2.eq pk.2.1 (fun x _ _ => by omega)
      have hS := pk.1
      show zp_wp X y_Comm_test 103 [.ref 62, .ref l, .int (nI i), .ref (l + 2 + i), .ref (l + 2 + (i + 1))] [] hk Q
      refine zp_aload_n (x := 62) rfl rfl ?_
      refine zq_getr (k9 := 70) hS rfl (by first | assumption | exact ⟨by decide, rfl⟩) rfl ?_
      refine zp_aload_n (x := (l + 2 + i)) rfl rfl ?_
      refine zq_virt hS rfl rfl (by first | assumption | exact ⟨by decide, rfl⟩) rfl (s_Prog_attempt pk.1 qA_70 pk.2.2 hW kc ((hL i (by omega)).eq ek (by omega)) h1 (fun hm pm => ?_))
      have em : zh_eq (fun x => 70 ≤ x ∧ x ≤ 85) h hm := ek.trans (pm.2.1.mono (fun x e => by omega))
      have hS := pm.1
      show zp_wp X y_Comm_test 111 [.ref 62, .ref l, .int (nI i), .ref (l + 2 + i), .ref (l + 2 + (i + 1))] [.int (nI ((v_mk V (L i)).1))] hm Q
      refine zp_pop_i rfl ?_
      refine zp_aload_n (x := 62) rfl rfl ?_
      refine zq_getr (k9 := 70) hS rfl (by first | assumption | exact ⟨by decide, rfl⟩) rfl ?_
      refine zp_aload (x := (l + 2 + (i + 1))) rfl rfl ?_
      refine zq_virt hS rfl rfl (by first | assumption | exact ⟨by decide, rfl⟩) rfl (s_Prog_attempt pm.1 qA_70 pm.2.2 (hW.mk h1) kd ((hL _ hi).eq em (by omega)) h2 (fun hn pn => ?_))
      have en : zh_eq (fun x => 70 ≤ x ∧ x ≤ 85) h hn := em.trans (pn.2.1.mono (fun x e => by omega))
      have hS := pn.1
      have p7n : zq_P (v_mk (v_mk V (v_bk L i)).2.1 (v_ft L i)).2.1 77 hn := (p7.eq pm.2.1 (fun x _ _ => by omega)).eq pn.2.1 (fun x _ _ => by omega)
      have hbn : zq_c (v_bk L i) 84 hn := (hbk2.eq pm.2.1 (by omega)).eq pn.2.1 (by omega)
      have hcn : zq_c (v_ft L i) 85 hn := (hck2.eq pm.2.1 (by omega)).eq pn.2.1 (by omega)
      show zp_wp X y_Comm_test 121 [.ref 62, .ref l, .int (nI i), .ref (l + 2 + i), .ref (l + 2 + (i + 1))] [.int (nI ((v_mk (v_mk V (L i)).2.1 (L (i + 1))).1))] hn Q
      refine zp_pop_i rfl ?_
      refine zp_aload_n (x := 62) rfl rfl ?_
      refine zq_getr (k9 := 77) hS rfl (by first | assumption | exact ⟨by decide, rfl⟩) rfl ?_
      refine zp_aload_n (x := 62) rfl rfl ?_
      refine zq_getr (k9 := 70) hS rfl (by first | assumption | exact ⟨by decide, rfl⟩) rfl ?_
      refine zq_virt hS rfl rfl (by first | assumption | exact ⟨by decide, rfl⟩) rfl (s_Prog_isSameAs pn.1 qA_77 p7n ((hW.mk hbk).mk hft) qA_70 pn.2.2 ((hW.mk h1).mk h2) ?_)
      show zp_wp X y_Comm_test 133 [.ref 62, .ref l, .int (nI i), .ref (l + 2 + i), .ref (l + 2 + (i + 1))] [.int (zf_b (v_one (v_mk (v_mk V (v_bk L i)).2.1 (v_ft L i)).2.1 (v_mk (v_mk V (L i)).2.1 (L (i + 1))).2.1))] hn Q
      refine zp_zret rfl rfl (zf_b01 _) ?_
      have hv : v_tst V L i = v_one (v_mk (v_mk V (v_bk L i)).2.1 (v_ft L i)).2.1 (v_mk (v_mk V (L i)).2.1 (L (i + 1))).2.1 := by unfold v_tst; rw [zb_eq b73, zb_eq b87]; rfl
      rw [hv] at hq
      exact hq _ pn.1 en hbn hcn
    · refine zp_iconst (v := (nI 0)) rfl (by decide +kernel) ?_
      refine zp_zret rfl rfl (by decide) ?_
      first
      | (have hv : v_tst V L i = false := by unfold v_tst; rw [zb_ne b73]; rfl
         rw [hv] at hq; exact hq _ ph.1 eh hbh hch)
      | (have hv : v_tst V L i = false := by unfold v_tst; rw [zb_ne b87, Bool.false_and, Bool.and_false]
         rw [hv] at hq; exact hq _ pj.1 ej hbj hcj)
theorem s_Comm_storeAt {i : Nat} {b f : zch} (hS : zs_H h) (hK : zq_K l) (hl : l = 29 ∨ l = 118) (hL : zq_L L l h) (hi : i + 1 < 30) (hb : zq_c b 84 h) (hf : zq_c f 85 h) (hq : ∀ h', zs_H h' → zh_eq (fun x => l + 2 ≤ x ∧ x ≤ l + 31) h h' → zq_L (va_up (va_up L i b) (i + 1) f) l h' → Q (.inl none) h') : zp_wm X y_Comm_storeAt [.ref 62, .ref l, .int (nI i)] h Q := by
  have k1 := hK.1
  have kc := hK.2.2 i (by omega)
  have kd := hK.2.2 (i + 1) (by omega)
  have kc0 : zs_O (l + 2 + i) 0 [none, none, none, none, none] := kc
  have kd0 : zs_O (l + 2 + (i + 1)) 0 [none, none, none, none, none] := kd
  show zp_wp X y_Comm_storeAt 0 [.ref 62, .ref l, .int (nI i)] [] h Q
  refine zp_aload_n (x := l) rfl rfl ?_
  refine zp_iload_n (x := (nI i)) rfl rfl ?_
  refine zq_virt hS rfl rfl (by first | assumption | exact ⟨by decide, rfl⟩) rfl (s_List_at hS hK (by omega) ?_)
  show zp_wp X y_Comm_storeAt 5 [.ref 62, .ref l, .int (nI i)] [.ref (l + 2 + i)] h Q
  refine zp_aload_n (x := 62) rfl rfl ?_
  refine zq_getr (k9 := 84) hS rfl (by first | assumption | exact ⟨by decide, rfl⟩) rfl ?_
  refine zq_virt hS rfl rfl (by first | assumption | exact ⟨by decide, rfl⟩) rfl (s_Change_copyFrom hS kc qC_84 hb (fun ha hSa hea hca => ?_))
  have hS := hSa
  show zp_wp X y_Comm_storeAt 12 [.ref 62, .ref l, .int (nI i)] [] ha Q
  refine zp_aload_n (x := l) rfl rfl ?_
  refine zp_iload_n (x := (nI i)) rfl rfl ?_
  refine zp_iconst (v := (nI 1)) rfl (by decide +kernel) ?_
  refine zp_iaddN rfl ?_
  refine zq_virt hS rfl rfl (by first | assumption | exact ⟨by decide, rfl⟩) rfl (s_List_at hSa hK hi ?_)
  show zp_wp X y_Comm_storeAt 19 [.ref 62, .ref l, .int (nI i)] [.ref (l + 2 + (i + 1))] ha Q
  refine zp_aload_n (x := 62) rfl rfl ?_
  refine zq_getr (k9 := 85) hS rfl (by first | assumption | exact ⟨by decide, rfl⟩) rfl ?_
  refine zq_virt hS rfl rfl (by first | assumption | exact ⟨by decide, rfl⟩) rfl (s_Change_copyFrom hSa kd qC_85 (hf.eq hea (by omega)) (fun hc hSc hec hcc => ?_))
  show zp_wp X y_Comm_storeAt 26 [.ref 62, .ref l, .int (nI i)] [] hc Q
  refine zp_vret rfl rfl ?_
  refine hq _ hSc ((hea.mono (fun x e => by omega)).trans (hec.mono (fun x e => by omega))) (fun j hj => ?_)
  by_cases e1 : j = i + 1
  · subst e1
    have : va_up (va_up L i b) (i + 1) f (i + 1) = f := by simp [va_up]
    rw [this]
    exact hcc
  · by_cases e2 : j = i
    · subst e2
      have : va_up (va_up L j b) (j + 1) f j = b := by simp [va_up]
      rw [this]
      exact hca.eq hec (by omega)
    · have : va_up (va_up L i b) (i + 1) f j = L j := by simp [va_up, e1, e2]
      rw [this]
      exact ((hL j hj).eq hea (by omega)).eq hec (by omega)
theorem s_Comm_testAt {i : Nat} (hS : zs_H h) (hB : zq_P B 1 h) (hW : zv_W B) (hL : zq_L L 29 h) (hi : i + 1 < 30) (hc : ∀ j, j < i + 2 → zc_leg (L j)) (hq : ∀ h', zs_H h' → zh_eq (fun x => 63 ≤ x ∧ x ≤ 85) h h' → zq_c (v_bk L i) 84 h' → zq_c (v_ft L i) 85 h' → Q (.inl (some (.int (zf_b (v_com B L i))))) h') : zp_wm X y_Comm_testAt [.ref 62, .ref 1, .ref 29, .int (nI i)] h Q := by
  show zp_wp X y_Comm_testAt 0 [.ref 62, .ref 1, .ref 29, .int (nI i)] [] h Q
  refine zp_aload_n (x := 62) rfl rfl ?_
  refine zq_getr (k9 := 63) hS rfl (by first | assumption | exact ⟨by decide, rfl⟩) rfl ?_
  refine zp_aload_n (x := 1) rfl rfl ?_
  refine zq_virt hS rfl rfl (by first | assumption | exact ⟨by decide, rfl⟩) rfl (s_Prog_copyFrom hS qA_63 qA_1 hB (by decide) (fun ha pa => ?_))
  have hS := pa.1
  have hLa : zq_L L 29 ha := hL.eq pa.2.1 (fun x _ _ => by omega)
  show zp_wp X y_Comm_testAt 8 [.ref 62, .ref 1, .ref 29, .int (nI i)] [] ha Q
  refine zp_aload_n (x := 62) rfl rfl ?_
  refine zq_getr (k9 := 63) hS rfl (by first | assumption | exact ⟨by decide, rfl⟩) rfl ?_
  refine zp_aload_n (x := 29) rfl rfl ?_
  refine zp_iload_n (x := (nI i)) rfl rfl ?_
  refine zq_virt hS rfl rfl (by first | assumption | exact ⟨by decide, rfl⟩) rfl (s_Prog_makeFirst pa.1 qA_63 pa.2.2 hW qK_29 hLa (by decide) (by omega) (fun j hj => hc j (by omega)) (fun hb pb => ?_))
  have hS := pb.1
  have hLb : zq_L L 29 hb := hLa.eq pb.2.1 (fun x _ _ => by omega)
  show zp_wp X y_Comm_testAt 17 [.ref 62, .ref 1, .ref 29, .int (nI i)] [] hb Q
  refine zp_aload_n (x := 62) rfl rfl ?_
  refine zp_aload_n (x := 29) rfl rfl ?_
  refine zp_iload_n (x := (nI i)) rfl rfl ?_
  refine zq_virt hS rfl rfl (by first | assumption | exact ⟨by decide, rfl⟩) rfl (s_Comm_test pb.1 qK_29 (Or.inl rfl) hLb pb.2.2 (hW.go i (fun j hj => hc j (by omega))) hi (hc i (by omega)) (hc (i + 1) (by omega)) (fun h9 hS9 he9 h91 h92 => ?_))
  show zp_wp X y_Comm_testAt 23 [.ref 62, .ref 1, .ref 29, .int (nI i)] [.int (zf_b (v_com B L i))] h9 Q
  refine zp_zret rfl rfl (zf_b01 _) ?_
  exact hq _ hS9 (((pa.2.1.mono (fun x e => by omega)).trans (pb.2.1.mono (fun x e => by omega))).trans (he9.mono (fun x e => by omega))) h91 h92
theorem s_Comm_movesBehind {j bs n : Nat} (hS : zs_H h) (hB : zq_P B 1 h) (hW : zv_W B) (hT : zq_L T 86 h) (hct : ∃ w, cf h 86 1 = nI w) (hn : n ≤ 30) (hj : j + bs < n) (hc : ∀ t, t < n → zc_leg (T t)) (hq : ∀ h' T', zs_H h' → zh_eq (fun x => 63 ≤ x ∧ x ≤ 149) h h' → (∃ w, cf h' 86 1 = nI w) → zq_L T' 86 h' → (∀ t, t < n → zc_leg (T' t)) → T' = (v_try B T j bs).getD T → Q (.inl (some (.int (zf_b (v_try B T j bs).isSome)))) h') : zp_wm X y_Comm_movesBehind [.ref 62, .ref 1, .int (nI j), .int (nI bs)] h Q := by
  obtain ⟨w, hw⟩ := hct
  show zp_wp X y_Comm_movesBehind 0 [.ref 62, .ref 1, .int (nI j), .int (nI bs), zm_mk] [] h Q
  have lp : ∀ k s T2 h2, s + k = bs → zs_H h2 → zh_eq (fun x => (63 ≤ x ∧ x ≤ 85) ∨ (118 ≤ x ∧ x ≤ 149)) h h2 → zq_L T2 118 h2 → (∃ w, cf h2 118 1 = nI w) → (∀ t, t < n → zc_leg (T2 t)) → zq_P (v_go B T2 (j + s)) 63 h2 → v_try B T j bs = v_try B T2 (j + s) k → zp_wp X y_Comm_movesBehind 34 [.ref 62, .ref 1, .int (nI j), .int (nI bs), .int (nI (j + s))] [] h2 Q := by
    intro k
    induction k with
    | zero =>
      intro s T2 h2 hs hS he hT2 hw2 hc2 hP2 ht
      obtain ⟨w2, hw2⟩ := hw2
      have hs : s = bs := by omega
      subst hs
      refine zp_iload (x := (nI (j + s))) rfl rfl ?_
      refine zp_iload_n (x := (nI j)) rfl rfl ?_
      refine zp_iload_n (x := (nI s)) rfl rfl ?_
      refine zp_iaddN rfl ?_
      refine zp_icmpN_ge (tgt := 85) rfl rfl (by omega) (by omega) (fun b39 => ?_) (fun b39 => ?_)
      · refine zp_aload_n (x := 62) rfl rfl ?_
        refine zq_getr (k9 := 86) hS rfl (by first | assumption | exact ⟨by decide, rfl⟩) rfl ?_
        refine zp_aload_n (x := 62) rfl rfl ?_
        refine zq_getr (k9 := 118) hS rfl (by first | assumption | exact ⟨by decide, rfl⟩) rfl ?_
        refine zq_virt hS rfl rfl (by first | assumption | exact ⟨by decide, rfl⟩) rfl (s_List_copyFrom hS qK_86 qK_118 (by decide) hT2 hw2 (fun h3 hS3 he3 hL3 hn3 => ?_))
        show zp_wp X y_Comm_movesBehind 96 [.ref 62, .ref 1, .int (nI j), .int (nI s), .int (nI (j + s))] [] h3 Q
        refine zp_iconst (v := (nI 1)) rfl (by decide +kernel) ?_
        refine zp_zret rfl rfl (by decide) ?_
        have ht : v_try B T j s = some T2 := ht
        rw [ht] at hq
        exact hq _ T2 hS3 ((he.mono (fun x e => by omega)).trans (he3.mono (fun x e => by omega))) ⟨_, hn3⟩ hL3 hc2 rfl
      · omega
    | succ k ih =>
      intro s T2 h2 hs hS he hT2 hw2 hc2 hP2 ht
      obtain ⟨w2, hw2⟩ := hw2
      rw [show v_try B T2 (j + s) (k + 1) = cond (v_com B T2 (j + s)) (v_try B (v_ex T2 (j + s)) (j + s + 1) k) none from rfl] at ht
      have hgo : zv_W (v_go B T2 (j + s)) := hW.go _ (fun t ht => hc2 t (by omega))
      refine zp_iload (x := (nI (j + s))) rfl rfl ?_
      refine zp_iload_n (x := (nI j)) rfl rfl ?_
      refine zp_iload_n (x := (nI bs)) rfl rfl ?_
      refine zp_iaddN rfl ?_
      refine zp_icmpN_ge (tgt := 85) rfl rfl (by omega) (by omega) (fun b39 => ?_) (fun b39 => ?_)
      · omega
      · refine zp_aload_n (x := 62) rfl rfl ?_
        refine zp_aload_n (x := 62) rfl rfl ?_
        refine zq_getr (k9 := 118) hS rfl (by first | assumption | exact ⟨by decide, rfl⟩) rfl ?_
        refine zp_iload (x := (nI (j + s))) rfl rfl ?_
        refine zq_virt hS rfl rfl (by first | assumption | exact ⟨by decide, rfl⟩) rfl (s_Comm_test hS qK_118 (Or.inr rfl) hT2 hP2 hgo (by omega) (hc2 _ (by omega)) (hc2 _ (by omega)) (fun h3 hS3 he3 hb3 hf3 => ?_))
        rw [← v_com_tst]
        have hS := hS3
        cases eo : v_com B T2 (j + s) with
        | false =>
          show zp_wp X y_Comm_movesBehind 52 [.ref 62, .ref 1, .int (nI j), .int (nI bs), .int (nI (j + s))] [.int (nI 0)] h3 Q
          refine zp_ifF (tgt := 57) rfl rfl (by decide +kernel) ?_
          refine zp_iconst (v := (nI 0)) rfl (by decide +kernel) ?_
          refine zp_zret rfl rfl (by decide) ?_
          rw [eo] at ht
          have ht : v_try B T j bs = none := ht
          rw [ht] at hq
          exact hq _ T hS3 ((he.mono (fun x e => by omega)).trans (he3.mono (fun x e => by omega))) ⟨w, by rw [he3.gf (by omega), he.gf (by omega)]; exact hw⟩ ((hT.eq he (fun x _ _ => by omega)).eq he3 (fun x _ _ => by omega)) hc rfl
        | true =>
          show zp_wp X y_Comm_movesBehind 52 [.ref 62, .ref 1, .int (nI j), .int (nI bs), .int (nI (j + s))] [.int (nI 1)] h3 Q
          refine zp_ifT (tgt := 57) rfl rfl (by decide +kernel) ?_
          refine zp_aload_n (x := 62) rfl rfl ?_
          refine zp_aload_n (x := 62) rfl rfl ?_
          refine zq_getr (k9 := 118) hS rfl (by first | assumption | exact ⟨by decide, rfl⟩) rfl ?_
          refine zp_iload (x := (nI (j + s))) rfl rfl ?_
          refine zq_virt hS rfl rfl (by first | assumption | exact ⟨by decide, rfl⟩) rfl (s_Comm_storeAt hS3 qK_118 (Or.inr rfl) (hT2.eq he3 (fun x _ _ => by omega)) (by omega) hb3 hf3 (fun h4 hS4 he4 hL4 => ?_))
          have hS := hS4
          show zp_wp X y_Comm_movesBehind 67 [.ref 62, .ref 1, .int (nI j), .int (nI bs), .int (nI (j + s))] [] h4 Q
          refine zp_aload_n (x := 62) rfl rfl ?_
          refine zq_getr (k9 := 63) hS rfl (by first | assumption | exact ⟨by decide, rfl⟩) rfl ?_
          refine zp_aload_n (x := 62) rfl rfl ?_
          refine zq_getr (k9 := 84) hS rfl (by first | assumption | exact ⟨by decide, rfl⟩) rfl ?_
          refine zq_virt hS rfl rfl (by first | assumption | exact ⟨by decide, rfl⟩) rfl (s_Prog_attempt hS4 qA_63 ((hP2.eq he3 (fun x _ _ => by omega)).eq he4 (fun x _ _ => by omega)) hgo qC_84 (hb3.eq he4 (by omega)) (v_bk_leg (hc2 _ (by omega)) (hc2 _ (by omega))) (fun h5 p5 => ?_))
          have hS := p5.1
          show zp_wp X y_Comm_movesBehind 78 [.ref 62, .ref 1, .int (nI j), .int (nI bs), .int (nI (j + s))] [.int (nI ((v_mk (v_go B T2 (j + s)) (v_bk T2 (j + s))).1))] h5 Q
          refine zp_pop_i rfl ?_
          refine zp_iincN_4 rfl rfl ?_
          refine zp_goto (tgt := 34) rfl rfl ?_
          rw [eo] at ht
          have ht : v_try B T j bs = v_try B (v_ex T2 (j + s)) (j + s + 1) k := ht
          have hL5 : zq_L (v_ex T2 (j + s)) 118 h5 := hL4.eq p5.2.1 (fun x _ _ => by omega)
          have hg5 : zq_P (v_go B (v_ex T2 (j + s)) (j + (s + 1))) 63 h5 := by
            have e1 : v_go B (v_ex T2 (j + s)) (j + s) = v_go B T2 (j + s) := v_go_cong _ (fun t ht => by rw [v_ex_at, if_neg (by omega), if_neg (by omega)])
            have e2 : v_go B (v_ex T2 (j + s)) (j + (s + 1)) = (v_mk (v_go B T2 (j + s)) (v_bk T2 (j + s))).2.1 := by
              show (v_mk (v_go B (v_ex T2 (j + s)) (j + s)) (v_ex T2 (j + s) (j + s))).2.1 = _
              rw [e1, v_ex_at, if_neg (by omega), if_pos rfl]
            rw [e2]
            exact p5.2.2
          exact ih (s + 1) (v_ex T2 (j + s)) _ (by omega) p5.1 (((he.trans (he3.mono (fun x e => by omega))).trans (he4.mono (fun x e => by omega))).trans (p5.2.1.mono (fun x e => by omega))) hL5 ⟨w2, by rw [p5.2.1.gf (by omega), he4.gf (by omega), he3.gf (by omega)]; exact hw2⟩ (v_ex_leg hc2 (by omega)) hg5 ht
  refine zp_aload_n (x := 62) rfl rfl ?_
  refine zq_getr (k9 := 118) hS rfl (by first | assumption | exact ⟨by decide, rfl⟩) rfl ?_
  refine zp_aload_n (x := 62) rfl rfl ?_
  refine zq_getr (k9 := 86) hS rfl (by first | assumption | exact ⟨by decide, rfl⟩) rfl ?_
  refine zq_virt hS rfl rfl (by first | assumption | exact ⟨by decide, rfl⟩) rfl (s_List_copyFrom hS qK_118 qK_86 (by decide) hT hw (fun ha hSa hea hLa hna => ?_))
  have hS := hSa
  show zp_wp X y_Comm_movesBehind 11 [.ref 62, .ref 1, .int (nI j), .int (nI bs), zm_mk] [] ha Q
  refine zp_aload_n (x := 62) rfl rfl ?_
  refine zq_getr (k9 := 63) hS rfl (by first | assumption | exact ⟨by decide, rfl⟩) rfl ?_
  refine zp_aload_n (x := 1) rfl rfl ?_
  refine zq_virt hS rfl rfl (by first | assumption | exact ⟨by decide, rfl⟩) rfl (s_Prog_copyFrom hSa qA_63 qA_1 (hB.eq hea (fun x _ _ => by omega)) (by decide) (fun hb pb => ?_))
  have hS := pb.1
  have hLb := hLa.eq pb.2.1 (fun x _ _ => by omega)
  show zp_wp X y_Comm_movesBehind 19 [.ref 62, .ref 1, .int (nI j), .int (nI bs), zm_mk] [] hb Q
  refine zp_aload_n (x := 62) rfl rfl ?_
  refine zq_getr (k9 := 63) hS rfl (by first | assumption | exact ⟨by decide, rfl⟩) rfl ?_
  refine zp_aload_n (x := 62) rfl rfl ?_
  refine zq_getr (k9 := 118) hS rfl (by first | assumption | exact ⟨by decide, rfl⟩) rfl ?_
  refine zp_iload_n (x := (nI j)) rfl rfl ?_
  refine zq_virt hS rfl rfl (by first | assumption | exact ⟨by decide, rfl⟩) rfl (s_Prog_makeFirst pb.1 qA_63 pb.2.2 hW qK_118 hLb (by decide) (by omega) (fun t ht => hc t (by omega)) (fun hd pd => ?_))
  have hS := pd.1
  show zp_wp X y_Comm_movesBehind 31 [.ref 62, .ref 1, .int (nI j), .int (nI bs), zm_mk] [] hd Q
  refine zp_iload_n (x := (nI j)) rfl rfl ?_
  refine zp_istore_4 rfl rfl ?_
  exact lp bs 0 T _ (by omega) pd.1 (((hea.mono (fun x e => by omega)).trans (pb.2.1.mono (fun x e => by omega))).trans (pd.2.1.mono (fun x e => by omega))) (hLb.eq pd.2.1 (fun x _ _ => by omega)) ⟨w, by rw [pd.2.1.gf (by omega), pb.2.1.gf (by omega)]; exact hna⟩ hc pd.2.2 rfl
theorem s_Comm_needsOf {i n : Nat} (hS : zs_H h) (hB : zq_P B 1 h) (hW : zv_W B) (hL : zq_L L 29 h) (hn : cf h 29 1 = nI n) (hi : i < n) (hn30 : n ≤ 30) (hc : ∀ t, t < n → zc_leg (L t)) (hq : ∀ h', zs_H h' → zh_eq (fun x => 63 ≤ x ∧ x ≤ 149) h h' → Q (.inl (some (.int (v_needs B L i)))) h') : zp_wm X y_Comm_needsOf [.ref 62, .ref 1, .ref 29, .int (nI i)] h Q := by
  show zp_wp X y_Comm_needsOf 0 [.ref 62, .ref 1, .ref 29, .int (nI i), zm_mk, zm_mk, zm_mk] [] h Q
  have lp : ∀ c T b nd h2, c + b ≤ i + 1 → zs_H h2 → zh_eq (fun x => 63 ≤ x ∧ x ≤ 149) h h2 → zq_L T 86 h2 → (∃ w, cf h2 86 1 = nI w) → (∀ t, t < n → zc_leg (T t)) → v_needs B L i = v_nd B c T b nd → zp_wp X y_Comm_needsOf 19 [.ref 62, .ref 1, .ref 29, .int (nI i), .int nd, .int (nI b), .int (zf_o (v_pr c))] [] h2 Q := by
    intro c
    induction c with
    | zero =>
      intro T b nd h2 hcb hS he hT hw hl ht
      show zp_wp X y_Comm_needsOf 19 [.ref 62, .ref 1, .ref 29, .int (nI i), .int nd, .int (nI b), .int (-1)] [] h2 Q
      refine zp_iload (x := (-1)) rfl rfl ?_
      refine zp_ifT (tgt := 54) rfl rfl (by decide +kernel) ?_
      refine zp_iload (x := nd) rfl rfl ?_
      refine zp_iret rfl rfl ?_
      rw [ht] at hq; exact hq _ hS he
    | succ j ih =>
      intro T b nd h2 hcb hS he hT hw hl ht
      show zp_wp X y_Comm_needsOf 19 [.ref 62, .ref 1, .ref 29, .int (nI i), .int nd, .int (nI b), .int (nI j)] [] h2 Q
      unfold v_nd at ht
      refine zp_iload (x := (nI j)) rfl rfl ?_
      refine zp_ifF (tgt := 54) rfl rfl (zc_lt (by omega)) ?_
      refine zp_aload_n (x := 62) rfl rfl ?_
      refine zp_aload_n (x := 1) rfl rfl ?_
      refine zp_iload (x := (nI j)) rfl rfl ?_
      refine zp_iload (x := (nI b)) rfl rfl ?_
      refine zq_virt hS rfl rfl (by first | assumption | exact ⟨by decide, rfl⟩) rfl (s_Comm_movesBehind hS (hB.eq he (fun x _ _ => by omega)) hW hT hw hn30 (by omega) hl (fun h3 T3 hS3 he3 hw3 hT3 hl3 e3 => ?_))
      have hS := hS3
      cases eo : (v_try B T j b).isSome with
      | false =>
        show zp_wp X y_Comm_needsOf 33 [.ref 62, .ref 1, .ref 29, .int (nI i), .int nd, .int (nI b), .int (nI j)] [.int (nI 0)] h3 Q
        refine zp_ifF (tgt := 48) rfl rfl (by decide +kernel) ?_
        refine zp_iload (x := nd) rfl rfl ?_
        refine zp_iconst (v := (nI 1)) rfl (by decide +kernel) ?_
        refine zp_iload (x := (nI j)) rfl rfl ?_
        refine zp_ishl rfl rfl ?_
        refine zp_ior rfl rfl ?_
        refine zp_istore_4 rfl rfl ?_
        refine zp_iincN_5 rfl rfl ?_
        refine zp_iinc_6 rfl rfl rfl ?_
        refine zp_goto (tgt := 19) rfl rfl ?_
        rw [nI_m1]
        cases ev : v_try B T j b with
        | none =>
          rw [ev] at ht e3 eo
          have e3 : T3 = T := e3
          subst e3
          first
          | (cases eo; done)
          | exact ih T3 (b + 1) _ h3 (by omega) hS3 (he.trans he3) hT3 hw3 hl3 ht
        | some T' =>
          rw [ev] at ht e3 eo
          have e3 : T3 = T' := e3
          subst e3
          first
          | (cases eo; done)
          | exact ih T3 b _ h3 (by omega) hS3 (he.trans he3) hT3 hw3 hl3 ht
      | true =>
        show zp_wp X y_Comm_needsOf 33 [.ref 62, .ref 1, .ref 29, .int (nI i), .int nd, .int (nI b), .int (nI j)] [.int (nI 1)] h3 Q
        refine zp_ifT (tgt := 48) rfl rfl (by decide +kernel) ?_
        refine zp_iinc_6 rfl rfl rfl ?_
        refine zp_goto (tgt := 19) rfl rfl ?_
        rw [nI_m1]
        cases ev : v_try B T j b with
        | none =>
          rw [ev] at ht e3 eo
          have e3 : T3 = T := e3
          subst e3
          first
          | (cases eo; done)
          | exact ih T3 (b + 1) _ h3 (by omega) hS3 (he.trans he3) hT3 hw3 hl3 ht
        | some T' =>
          rw [ev] at ht e3 eo
          have e3 : T3 = T' := e3
          subst e3
          first
          | (cases eo; done)
          | exact ih T3 b _ h3 (by omega) hS3 (he.trans he3) hT3 hw3 hl3 ht
  refine zp_iconst (v := (nI 0)) rfl (by decide +kernel) ?_
  refine zp_istore_4 rfl rfl ?_
  refine zp_iconst (v := (nI 1)) rfl (by decide +kernel) ?_
  refine zp_istore_5 rfl rfl ?_
  refine zp_aload_n (x := 62) rfl rfl ?_
  refine zq_getr (k9 := 86) hS rfl (by first | assumption | exact ⟨by decide, rfl⟩) rfl ?_
  refine zp_aload_n (x := 29) rfl rfl ?_
  refine zq_virt hS rfl rfl (by first | assumption | exact ⟨by decide, rfl⟩) rfl (s_List_copyFrom hS qK_86 qK_29 (by decide) hL hn (fun ha hSa hea hLa hna => ?_))
  have hS := hSa
  show zp_wp X y_Comm_needsOf 14 [.ref 62, .ref 1, .ref 29, .int (nI i), .int (nI 0), .int (nI 1), zm_mk] [] ha Q
  refine zp_iload_n (x := (nI i)) rfl rfl ?_
  refine zp_iconst (v := (nI 1)) rfl (by decide +kernel) ?_
  refine zp_isub rfl rfl ?_
  refine zp_istore_6 rfl rfl ?_
  rw [v_pr_sub]
  exact lp i L 1 _ ha (by omega) hSa (hea.mono (fun x e => by omega)) hLa ⟨_, hna⟩ hc rfl
end ZP10
