/-! the class: superclasses -/
section ZP4
variable {X : zm_X} {h : zm_H} {Q : zm_O → zm_H → Prop} {V W : zv} {p q : Nat}
theorem v_clash {c s : Nat} {lo up : Int32} (hW : zv_W V) (h1 : ∀ u, u < 12 → v_cn V u ≠ 0 → bt lo u = v_und V u c) (h2 : ∀ u, u < 12 → bt up u = v_und V s u) : v_msk V (bt lo) &&& v_msk V (bt up) = 0 ↔ zf_any (fun k => !(v_mn V k == 0) && v_und V (v_ow V k) c && zf_any (fun o => v_mn V o == v_mn V k && v_und V s (v_ow V o)) 0 40) 0 40 = false := by
  rw [bt_z]
  constructor
  · intro h
    cases e : zf_any (fun k => !(v_mn V k == 0) && v_und V (v_ow V k) c && zf_any (fun o => v_mn V o == v_mn V k && v_und V s (v_ow V o)) 0 40) 0 40 with
    | false => rfl
    | true =>
      obtain ⟨k, -, k2, k3⟩ := zf_any_iff.mp e
      have k3 : (!(v_mn V k == 0) && v_und V (v_ow V k) c && zf_any (fun o => v_mn V o == v_mn V k && v_und V s (v_ow V o)) 0 40) = true := k3
      rw [Bool.and_eq_true, Bool.and_eq_true] at k3
      obtain ⟨⟨k4, k5⟩, k6⟩ := k3
      obtain ⟨o, -, o2, o3⟩ := zf_any_iff.mp k6
      have o3 : (v_mn V o == v_mn V k && v_und V s (v_ow V o)) = true := o3
      rw [Bool.and_eq_true, beq_iff_eq] at o3
      have k7 : v_mn V k ≠ 0 := by simpa using k4
      have hm := hW.2.2.1 k (by omega)
      have ok := hW.2.2.2.1 k (by omega)
      have oo := hW.2.2.2.1 o (by omega)
      have hl := hW.2.2.2.2.2.2.2.1 k (by omega) k7
      have := h (v_mn V k - 97) (by omega)
      rw [b_and, v_msk_bt hW _ (by omega), v_msk_bt hW _ (by omega)] at this
      rw [zf_any_iff.mpr ⟨k, by omega, k2, by simp only [k4, h1 _ ok hl, k5, zb_eq (show v_mn V k = 97 + (v_mn V k - 97) by omega)]; rfl⟩, zf_any_iff.mpr ⟨o, by omega, o2, by simp only [o3.1, k4, h2 _ oo, o3.2, zb_eq (show v_mn V k = 97 + (v_mn V k - 97) by omega)]; rfl⟩] at this
      cases this
  · intro h j hj
    rw [b_and, v_msk_bt hW _ hj, v_msk_bt hW _ hj]
    cases e1 : zf_any (fun m => !(v_mn V m == 0) && bt lo (v_ow V m) && v_mn V m == 97 + j) 0 40 with
    | false => rfl
    | true =>
      cases e2 : zf_any (fun m => !(v_mn V m == 0) && bt up (v_ow V m) && v_mn V m == 97 + j) 0 40 with
      | false => rfl
      | true =>
        obtain ⟨k, -, k2, k3⟩ := zf_any_iff.mp e1
        obtain ⟨o, -, o2, o3⟩ := zf_any_iff.mp e2
        have k3 : (!(v_mn V k == 0) && bt lo (v_ow V k) && v_mn V k == 97 + j) = true := k3
        have o3 : (!(v_mn V o == 0) && bt up (v_ow V o) && v_mn V o == 97 + j) = true := o3
        rw [Bool.and_eq_true, Bool.and_eq_true, beq_iff_eq] at k3 o3
        have k7 : v_mn V k ≠ 0 := by omega
        have ok := hW.2.2.2.1 k (by omega)
        have oo := hW.2.2.2.1 o (by omega)
        have hl := hW.2.2.2.2.2.2.2.1 k (by omega) k7
        have g1 := k3.1.2
        have g2 := o3.1.2
        rw [h1 _ ok hl] at g1
        rw [h2 _ oo] at g2
        have h5 := zf_any_no (by rw [h]; decide) (show k < 40 by omega)
        rw [k3.1.1, g1, zf_any_iff.mpr ⟨o, by omega, o2, by simp only [g2, zb_eq (show v_mn V o = v_mn V k by omega)]; rfl⟩] at h5
        cases h5
theorem s_Prog_giveSuper {a b : Nat} (hS : zs_H h) (hA : zq_A p) (hP : zq_P V p h) (hW : zv_W V) (ha : a < 128) (hb : b < 128) (hq : ∀ h', zq_post (v_supC V (v_cls V a) b).2.1 p h h' → Q (.inl (some (.int (nI (v_supC V (v_cls V a) b).1)))) h') : zp_wm X y_Prog_giveSuper [.ref p, .int (nI a), .int (nI b)] h Q := by
  have hA' := hA
  have hB := hW.B
  obtain ⟨hA0, hA1, hA2, hA3, hA4, hA5, hA6⟩ := hA
  show zp_wp X y_Prog_giveSuper 0 [.ref p, .int (nI a), .int (nI b), zm_mk, zm_mk, zm_mk, zm_mk] [] h Q
  have fin : ∀ (i x : Nat) (o : Option Nat) (y z : Value), i < 12 → v_cn V i ≠ 0 → v_cls V a = some i → v_supC V (some i) b = (0, v_set2 V i x, none) → v_pr x = o → zp_wp X y_Prog_giveSuper 88 [.ref p, .int (nI a), .int (nI b), .int (nI i), .int (zf_o o), y, z] [] h Q := by
    intro i x o y z hi hil hz hv hx
    have hW' : zv_W (v_set2 V i x) := by
      have := hW.supC (c := some i) (b := b) (fun j hj => by cases hj; exact ⟨hi, hil⟩)
      rw [hv] at this
      exact this
    have hsp : ∀ c, c < 12 → upd (ci h (p + 2)) i (zf_o o) c = zf_o (v_par (v_set2 V i x) c) := fun c hc => by
      unfold v_par
      rw [w_10, w_11]
      by_cases e : c = i
      · subst e; rw [pk_us, if_neg hil, if_pos rfl, hx]
      · rw [pk_un e, if_neg e]; exact hP.sp c hc
    rw [hz, hv] at hq
    refine zp_aload_n (x := p) rfl rfl ?_
    refine zq_getr (k9 := (p + 2)) hS rfl (by first | assumption | exact ⟨by decide, rfl⟩) rfl ?_
    refine zp_iload_n (x := (nI i)) rfl rfl ?_
    refine zp_iload (x := (zf_o o)) rfl rfl ?_
    refine zq_iast hS rfl (by first | assumption | exact ⟨by decide, rfl⟩) (by omega) (by decide) (fun hS95 => ?_)
    have hS := hS95
    refine zp_aload_n (x := p) rfl rfl ?_
    refine zq_virt hS rfl rfl (by first | assumption | exact ⟨by decide, rfl⟩) rfl (s_Prog_traceAncestors (V := v_set2 V i x) hS hA' hW' (by rw [zi_at]; exact hsp) (fun h2 hS2 he2 hab => ?_))
    show zp_wp X y_Prog_giveSuper 100 [.ref p, .int (nI a), .int (nI b), .int (nI i), .int (zf_o o), y, z] [] h2 Q
    refine zp_iconst (v := (nI 0)) rfl (by decide +kernel) ?_
    refine zp_iret rfl rfl ?_
    refine hq _ ⟨hS2, (zh_eq.rf.zi (by omega)).trans (he2.mono (fun y e => by omega)), ?_⟩
    refine ⟨fun c hc => ?_, fun c hc => ?_, hab, fun m hm => ?_, fun m hm => ?_, fun m hm k hk => ?_⟩
    · rw [he2.gi (by omega), zi_ne (by omega)]; exact hP.cn c hc
    · rw [he2.gi (by omega), zi_at]; exact hsp c hc
    · rw [he2.gi (by omega), zi_ne (by omega)]; exact hP.mn m hm
    · rw [he2.gi (by omega), zi_ne (by omega)]; exact hP.ow m hm
    · rw [he2.gj (by omega), zi_cj (by omega)]; exact hP.us m hm k hk
  by_cases hb0 : b = 0
  · subst hb0
    have hcz : v_cls V 0 = none := by simp [v_cls]
    refine zp_aload_n (x := p) rfl rfl ?_
    refine zp_iload_n (x := (nI a)) rfl rfl ?_
    refine zq_virt hS rfl rfl (by first | assumption | exact ⟨by decide, rfl⟩) rfl (s_Prog_classAt hS hA' hP hB ha ?_)
    cases hz : v_cls V a with
    | none =>
      show zp_wp X y_Prog_giveSuper 5 [.ref p, .int (nI a), .int (nI 0), zm_mk, zm_mk, zm_mk, zm_mk] [.int (-1)] h Q
      refine zp_istore_n_3 rfl rfl ?_
      refine zp_aload_n (x := p) rfl rfl ?_
      refine zp_iload_n (x := (nI 0)) rfl rfl ?_
      refine zq_virt hS rfl rfl (by first | assumption | exact ⟨by decide, rfl⟩) rfl (s_Prog_classAt hS hA' hP hB (by decide) ?_)
      rw [hcz]
      show zp_wp X y_Prog_giveSuper 11 [.ref p, .int (nI a), .int (nI 0), .int (-1), zm_mk, zm_mk, zm_mk] [.int (-1)] h Q
      refine zp_istore_4 rfl rfl ?_
      refine zp_iload_n (x := (-1)) rfl rfl ?_
      show zp_wp X y_Prog_giveSuper 14 [.ref p, .int (nI a), .int (nI 0), .int (-1), .int (-1), zm_mk, zm_mk] [.int (-1)] h Q
      refine zp_ifT (tgt := 26) rfl rfl (by decide +kernel) ?_
      refine zp_iconst (v := (nI 2)) rfl (by decide +kernel) ?_
      refine zp_iret rfl rfl ?_
      rw [hz] at hq; exact hq h (zq_same hS hP)
    | some i =>
      have hi := (v_cls_lt hz).1
      have hil := (v_cls_l _ hz).2
      show zp_wp X y_Prog_giveSuper 5 [.ref p, .int (nI a), .int (nI 0), zm_mk, zm_mk, zm_mk, zm_mk] [.int (nI i)] h Q
      refine zp_istore_n_3 rfl rfl ?_
      refine zp_aload_n (x := p) rfl rfl ?_
      refine zp_iload_n (x := (nI 0)) rfl rfl ?_
      refine zq_virt hS rfl rfl (by first | assumption | exact ⟨by decide, rfl⟩) rfl (s_Prog_classAt hS hA' hP hB (by decide) ?_)
      rw [hcz]
      show zp_wp X y_Prog_giveSuper 11 [.ref p, .int (nI a), .int (nI 0), .int (nI i), zm_mk, zm_mk, zm_mk] [.int (-1)] h Q
      refine zp_istore_4 rfl rfl ?_
      refine zp_iload_n (x := (nI i)) rfl rfl ?_
      show zp_wp X y_Prog_giveSuper 14 [.ref p, .int (nI a), .int (nI 0), .int (nI i), .int (-1), zm_mk, zm_mk] [.int (nI i)] h Q
      refine zp_ifF (tgt := 26) rfl rfl (zc_lt (by omega)) ?_
      refine zp_iload_n (x := (nI 0)) rfl rfl ?_
      refine zp_ifT (tgt := 28) rfl rfl (by decide +kernel) ?_
      refine zp_iload (x := (-1)) rfl rfl ?_
      refine zp_ifT (tgt := 88) rfl rfl (by decide +kernel) ?_
      exact fin i 0 none _ _ hi hil hz (by simp only [v_supC, hcz]; rfl) rfl
  · refine zp_aload_n (x := p) rfl rfl ?_
    refine zp_iload_n (x := (nI a)) rfl rfl ?_
    refine zq_virt hS rfl rfl (by first | assumption | exact ⟨by decide, rfl⟩) rfl (s_Prog_classAt hS hA' hP hB ha ?_)
    cases hz : v_cls V a with
    | none =>
      show zp_wp X y_Prog_giveSuper 5 [.ref p, .int (nI a), .int (nI b), zm_mk, zm_mk, zm_mk, zm_mk] [.int (-1)] h Q
      refine zp_istore_n_3 rfl rfl ?_
      refine zp_aload_n (x := p) rfl rfl ?_
      refine zp_iload_n (x := (nI b)) rfl rfl ?_
      refine zq_virt hS rfl rfl (by first | assumption | exact ⟨by decide, rfl⟩) rfl (s_Prog_classAt hS hA' hP hB hb ?_)
      cases hf : v_cls V b with
      | none =>
        show zp_wp X y_Prog_giveSuper 11 [.ref p, .int (nI a), .int (nI b), .int (-1), zm_mk, zm_mk, zm_mk] [.int (-1)] h Q
        refine zp_istore_4 rfl rfl ?_
        refine zp_iload_n (x := (-1)) rfl rfl ?_
        refine zp_ifT (tgt := 26) rfl rfl (by decide +kernel) ?_
        refine zp_iconst (v := (nI 2)) rfl (by decide +kernel) ?_
        refine zp_iret rfl rfl ?_
        first
        | (have hv : v_supC V (v_cls V a) b = (2, V, none) := by rw [hz]; rfl
           rw [hv] at hq
           exact hq h (zq_same hS hP))
        | (have hv : v_supC V (v_cls V a) b = (2, V, none) := by rw [hz]; simp only [v_supC, hf]; rw [if_neg hb0]
           rw [hv] at hq
           exact hq h (zq_same hS hP))
      | some s =>
        have hs := (v_cls_lt hf).1
        have hsl := (v_cls_l _ hf).2
        show zp_wp X y_Prog_giveSuper 11 [.ref p, .int (nI a), .int (nI b), .int (-1), zm_mk, zm_mk, zm_mk] [.int (nI s)] h Q
        refine zp_istore_4 rfl rfl ?_
        refine zp_iload_n (x := (-1)) rfl rfl ?_
        refine zp_ifT (tgt := 26) rfl rfl (by decide +kernel) ?_
        refine zp_iconst (v := (nI 2)) rfl (by decide +kernel) ?_
        refine zp_iret rfl rfl ?_
        first
        | (have hv : v_supC V (v_cls V a) b = (2, V, none) := by rw [hz]; rfl
           rw [hv] at hq
           exact hq h (zq_same hS hP))
        | (have hv : v_supC V (v_cls V a) b = (2, V, none) := by rw [hz]; simp only [v_supC, hf]; rw [if_neg hb0]
           rw [hv] at hq
           exact hq h (zq_same hS hP))
    | some i =>
      have hi := (v_cls_lt hz).1
      have hil := (v_cls_l _ hz).2
      show zp_wp X y_Prog_giveSuper 5 [.ref p, .int (nI a), .int (nI b), zm_mk, zm_mk, zm_mk, zm_mk] [.int (nI i)] h Q
      refine zp_istore_n_3 rfl rfl ?_
      refine zp_aload_n (x := p) rfl rfl ?_
      refine zp_iload_n (x := (nI b)) rfl rfl ?_
      refine zq_virt hS rfl rfl (by first | assumption | exact ⟨by decide, rfl⟩) rfl (s_Prog_classAt hS hA' hP hB hb ?_)
      cases hf : v_cls V b with
      | none =>
        show zp_wp X y_Prog_giveSuper 11 [.ref p, .int (nI a), .int (nI b), .int (nI i), zm_mk, zm_mk, zm_mk] [.int (-1)] h Q
        refine zp_istore_4 rfl rfl ?_
        refine zp_iload_n (x := (nI i)) rfl rfl ?_
        refine zp_ifF (tgt := 26) rfl rfl (zc_lt (by omega)) ?_
        refine zp_iload_n (x := (nI b)) rfl rfl ?_
        refine zp_ifN_eq (tgt := 28) rfl rfl (by omega) (fun b18 => ?_) (fun b18 => ?_)
        · exact absurd b18 hb0
        · refine zp_iload (x := (-1)) rfl rfl ?_
          refine zp_ifF (tgt := 28) rfl rfl (by decide +kernel) ?_
          refine zp_iconst (v := (nI 2)) rfl (by decide +kernel) ?_
          refine zp_iret rfl rfl ?_
          first
          | (have hv : v_supC V (v_cls V a) b = (2, V, none) := by rw [hz]; rfl
             rw [hv] at hq
             exact hq h (zq_same hS hP))
          | (have hv : v_supC V (v_cls V a) b = (2, V, none) := by rw [hz]; simp only [v_supC, hf]; rw [if_neg hb0]
             rw [hv] at hq
             exact hq h (zq_same hS hP))
      | some s =>
        have hs := (v_cls_lt hf).1
        have hsl := (v_cls_l _ hf).2
        show zp_wp X y_Prog_giveSuper 11 [.ref p, .int (nI a), .int (nI b), .int (nI i), zm_mk, zm_mk, zm_mk] [.int (nI s)] h Q
        refine zp_istore_4 rfl rfl ?_
        refine zp_iload_n (x := (nI i)) rfl rfl ?_
        refine zp_ifF (tgt := 26) rfl rfl (zc_lt (by omega)) ?_
        refine zp_iload_n (x := (nI b)) rfl rfl ?_
        refine zp_ifN_eq (tgt := 28) rfl rfl (by omega) (fun b18 => ?_) (fun b18 => ?_)
        · exact absurd b18 hb0
        · refine zp_iload (x := (nI s)) rfl rfl ?_
          refine zp_ifT (tgt := 28) rfl rfl (zc_ge (by omega)) ?_
          refine zp_iload (x := (nI s)) rfl rfl ?_
          refine zp_ifF (tgt := 88) rfl rfl (zc_lt (by omega)) ?_
          refine zp_iconst (v := (nI 1)) rfl (by decide +kernel) ?_
          refine zp_iload_n (x := (nI i)) rfl rfl ?_
          refine zp_ishl rfl rfl ?_
          refine zp_aload_n (x := p) rfl rfl ?_
          refine zp_iload_n (x := (nI i)) rfl rfl ?_
          refine zq_virt hS rfl rfl (by first | assumption | exact ⟨by decide, rfl⟩) rfl (s_Prog_below hS hA' hP hi (fun y hy => ?_))
          have hlo : ∀ u, u < 12 → v_cn V u ≠ 0 → bt ((nI 1 <<< (nI i &&& 31)) ||| y) u = v_und V u i := fun u hu hl => by
            rw [b_or, b_1shl (by omega) (by omega), hy u (by omega), decide_eq_true hu, v_und_anc hl]
            by_cases e : u = i
            · rw [zb_eq e, zb_eq e.symm]; rfl
            · rw [zb_ne e, zb_ne (fun q => e q.symm)]; rfl
          have hup : ∀ u, u < 12 → bt ((nI 1 <<< (nI s &&& 31)) ||| ci h (p + 3) s) u = v_und V s u := fun u hu => by
            rw [b_or, b_1shl (by omega) (by omega), hP.ab s hs u (by omega), v_und_anc hsl]
          show zp_wp X y_Prog_giveSuper 41 [.ref p, .int (nI a), .int (nI b), .int (nI i), .int (nI s), zm_mk, zm_mk] [.int y, .int ((nI 1) <<< ((nI i) &&& 31))] h Q
          refine zp_ior rfl rfl ?_
          refine zp_istore_5 rfl rfl ?_
          refine zp_iload (x := (((nI 1) <<< ((nI i) &&& 31)) ||| y)) rfl rfl ?_
          refine zp_iload (x := (nI s)) rfl rfl ?_
          refine zp_ishr rfl rfl ?_
          refine zp_iconst (v := (nI 1)) rfl (by decide +kernel) ?_
          refine zp_iand rfl rfl ?_
          refine zp_if_eq (tgt := 56) rfl rfl (fun b51 => ?_) (fun b51 => ?_)
          · have hu : v_und V s i = false := by
              rw [← hlo s hs hsl, ← zb_bt (by omega)]
              unfold zb_t
              rw [b51]
              rfl
            refine zp_iconst (v := (nI 1)) rfl (by decide +kernel) ?_
            refine zp_iload (x := (nI s)) rfl rfl ?_
            refine zp_ishl rfl rfl ?_
            refine zp_aload_n (x := p) rfl rfl ?_
            refine zq_getr (k9 := (p + 3)) hS rfl (by first | assumption | exact ⟨by decide, rfl⟩) rfl ?_
            refine zp_iload (x := (nI s)) rfl rfl ?_
            refine zq_iald hS rfl (by first | assumption | exact ⟨by decide, rfl⟩) (by omega) (by first | decide | omega) ?_
            refine zp_ior rfl rfl ?_
            refine zp_istore_6 rfl rfl ?_
            refine zp_aload_n (x := p) rfl rfl ?_
            refine zp_iload (x := (((nI 1) <<< ((nI i) &&& 31)) ||| y)) rfl rfl ?_
            refine zq_virt hS rfl rfl (by first | assumption | exact ⟨by decide, rfl⟩) rfl (s_Prog_namesIn hS hA' hP hW ?_)
            show zp_wp X y_Prog_giveSuper 76 [.ref p, .int (nI a), .int (nI b), .int (nI i), .int (nI s), .int (((nI 1) <<< ((nI i) &&& 31)) ||| y), .int (((nI 1) <<< ((nI s) &&& 31)) ||| (ci h (p + 3) s))] [.int (v_msk V (bt ((nI 1 <<< (nI i &&& 31)) ||| y)))] h Q
            refine zp_aload_n (x := p) rfl rfl ?_
            refine zp_iload (x := (((nI 1) <<< ((nI s) &&& 31)) ||| (ci h (p + 3) s))) rfl rfl ?_
            refine zq_virt hS rfl rfl (by first | assumption | exact ⟨by decide, rfl⟩) rfl (s_Prog_namesIn hS hA' hP hW ?_)
            show zp_wp X y_Prog_giveSuper 82 [.ref p, .int (nI a), .int (nI b), .int (nI i), .int (nI s), .int (((nI 1) <<< ((nI i) &&& 31)) ||| y), .int (((nI 1) <<< ((nI s) &&& 31)) ||| (ci h (p + 3) s))] [.int (v_msk V (bt ((nI 1 <<< (nI s &&& 31)) ||| ci h (p + 3) s))), .int (v_msk V (bt ((nI 1 <<< (nI i &&& 31)) ||| y)))] h Q
            refine zp_iand rfl rfl ?_
            refine zp_if_eq (tgt := 88) rfl rfl (fun b83 => ?_) (fun b83 => ?_)
            · have hn := (v_clash hW hlo hup).mp b83
              exact fin i (s + 1) (some s) _ _ hi hil hz (by simp only [v_supC, hf, hu]; rw [hn]; rfl) rfl
            · refine zp_iconst (v := (nI 5)) rfl (by decide +kernel) ?_
              refine zp_iret rfl rfl ?_
              have hn : zf_any (fun k => !(v_mn V k == 0) && v_und V (v_ow V k) i && zf_any (fun o => v_mn V o == v_mn V k && v_und V s (v_ow V o)) 0 40) 0 40 = true := by
                cases e : zf_any (fun k => !(v_mn V k == 0) && v_und V (v_ow V k) i && zf_any (fun o => v_mn V o == v_mn V k && v_und V s (v_ow V o)) 0 40) 0 40 with
                | true => rfl
                | false => exact absurd ((v_clash hW hlo hup).mpr e) b83
              have hv : v_supC V (v_cls V a) b = (5, V, none) := by rw [hz]; simp only [v_supC, hf, hu]; rw [hn]; rfl
              rw [hv] at hq
              exact hq h (zq_same hS hP)
          · refine zp_iconst (v := (nI 4)) rfl (by decide +kernel) ?_
            refine zp_iret rfl rfl ?_
            have hu : v_und V s i = true := by
              rw [← hlo s hs hsl, ← zb_bt (by omega)]
              unfold zb_t
              exact decide_eq_true b51
            have hv : v_supC V (v_cls V a) b = (4, V, none) := by rw [hz]; simp only [v_supC, hf, hu]; rfl
            rw [hv] at hq
            exact hq h (zq_same hS hP)
end ZP4
