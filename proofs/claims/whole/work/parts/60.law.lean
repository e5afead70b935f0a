/-! the law, call by call -/
def zl_K : Nat := 20000
/-- class and reference in one state, behind n calls -/
def zl_V (n : Nat) (s : zst) (h : zm_H) : Prop := zc_S s h ∧ zr_S s h ∧ zc_W s ∧ h.2.2.1 ≤ zl_K + 6 * n ∧ h.2.2.2 ≤ n
theorem zr_S.cg {s : zst} {h h2 : zm_H} (a : zr_S s h) (hS : zs_H h2) (e : ∀ x, 171 ≤ x → x ≤ 188 → h2.1 x = h.1 x) : zr_S s h2 := by
  have gi : ∀ x, 171 ≤ x → x ≤ 188 → ci h2 x = ci h x := fun x h1 h3 => by simp only [ci, e x h1 h3]
  have gf : ∀ j, cf h2 171 j = cf h 171 j := fun j => by simp only [cf, cs, e 171 (by decide) (by decide)]
  obtain ⟨a1, ⟨a2, a3, a4⟩, a5, a6, a7, a8⟩ := a
  refine ⟨hS, ⟨?_, ?_, ?_⟩, ?_, ?_, ?_, ?_⟩
  · rw [gi 172 (by decide) (by decide)]; exact a2
  · rw [gi 173 (by decide) (by decide)]; exact a3
  · rw [gi 174 (by decide) (by decide)]; exact a4
  · rw [gi 178 (by decide) (by decide)]; exact a5
  · rw [gf]; exact a6
  · rw [gf]; exact a7
  · rw [gi 188 (by decide) (by decide)]; exact a8
theorem zl_G.r {s : zst} {h h2 : zm_H} (g : zl_G h h2) (a : zr_S s h) (hS : zs_H h2) : zr_S s h2 := a.cg hS (fun x h1 h3 => g.1 x (by omega) (by omega))
theorem zl_step {n t : Nat} {s s' : zst} {h h2 h3 : zm_H} (hv : zl_V n s h) (s2 : zc_S s' h2) (g2 : zl_G h h2) (d3 : zr_D s' t h2 h3) (hW : zc_W s') : zl_V (n + 1) s' h3 := by
  refine ⟨s2.eq d3.1.1 d3.2.1 (fun x e => by omega), d3.1, hW, ?_, ?_⟩
  · rw [d3.2.1.1]
    have := g2.2.1
    have := hv.2.2.2.1
    omega
  · rw [d3.2.1.1]
    have := g2.2.2
    have := hv.2.2.2.2
    omega
theorem lg_self (x : Int64) : lg_cmp x x = nI 0 := (lg_cmp_eq x x).mpr rfl
theorem zf_no {x : Int64} {v : Int64} (h : x = v) : lg_cmp x v = nI 0 := by rw [h]; exact lg_self v
section ZW2
variable {s : zst}
theorem zW_classes {x : Int32} (hW : zc_W s) : zc_W (z_classes s x).2.2 := by unfold z_classes; cases g_ver x <;> exact hW
theorem zW_uses {x : Int32} (hW : zc_W s) : zc_W (z_uses s x).2.2 := by unfold z_uses; cases g_ver x <;> exact hW
theorem zW_className {x i : Int32} (hW : zc_W s) : zc_W (z_className s x i).2.2 := by
  rw [zcn]
  cases g_ver x with
  | false => exact hW
  | true =>
    show zc_W (if v_nbo (z_ver s x) i = 0 then ((1, nI 0, s) : Nat × Int32 × zst) else (0, nI (v_nbo (z_ver s x) i), s)).2.2
    by_cases q : v_nbo (z_ver s x) i = 0
    · rw [if_pos q]; exact hW
    · rw [if_neg q]; exact hW
theorem zW_superOf {x a : Int32} (hW : zc_W s) : zc_W (z_superOf s x a).2.2 := hW
theorem zW_members {x a : Int32} (hW : zc_W s) : zc_W (z_members s x a).2.2 := hW
theorem zW_hasUse {x a m b n : Int32} (hW : zc_W s) : zc_W (z_hasUse s x a m b n).2.2 := hW
theorem zW_kindOf {i : Int32} (hW : zc_W s) : zc_W (z_kind s i).2.2 := by unfold z_kind; cases g_lt (g_n s) i <;> exact hW
theorem zW_nameOf {i w : Int32} (hW : zc_W s) : zc_W (z_name s i w).2.2 := by unfold z_name; cases g_lt (g_n s) i && g_lt 4 w <;> exact hW
theorem zW_commutes {i : Int32} (hW : zc_W s) : zc_W (z_commutes s i).2.2 := by unfold z_commutes; cases g_lt (g_n s - 1) i <;> exact hW
theorem zW_needs {i : Int32} (hW : zc_W s) : zc_W (z_needs s i).2.2 := by unfold z_needs; cases g_lt (g_n s) i <;> exact hW
theorem zW_matchOfClass {a : Int32} (hW : zc_W s) : zc_W (z_matchC s a).2.2 := by unfold z_matchC; cases g_isC a <;> exact hW
theorem zW_matchOfMember {a m : Int32} (hW : zc_W s) : zc_W (z_matchM s a m).2.2 := by unfold z_matchM; cases g_isC a && g_isM m <;> exact hW
theorem zW_forecast {sel : Int32} {mend : Bool} (hW : zc_W s) : zc_W (z_forecast s sel mend).2.2 := by unfold z_forecast; cases g_sel (g_n s) sel <;> exact hW
theorem zW_outcome {i : Int32} (hW : zc_W s) : zc_W (z_outcome s i).2.2 := by unfold z_outcome; cases g_lt (g_k s) i <;> exact hW
end ZW2
section ZL3
variable {X : zm_X} {h : zm_H} {Q : zm_O → zm_H → Prop} {s : zst}
theorem lc_0 {i n : Nat} {x5 x6 : Value} (hv : zl_V n s h) (hi : i + 6 ≤ X.1) (hX : X.1 ≤ 3072) (nx : ∀ s' h' x y, zl_V (n + 1) s' h' → zp_wp X y_Law_law 2223 [.retAddr 0, .ref 0, .ref 171, .ref 189, .int (nI i), x, y] [] h' Q) : zp_wp X y_Law_law 184 [.retAddr 0, .ref 0, .ref 171, .ref 189, .int (nI i), x5, x6] [] h Q := by
  have hS := hv.1.1
  have hW := hv.2.2.1
  have hB := hW.B
  have hbd : (z_op s (X.2 (i + 1)) 0 (X.2 (i + 2)) (nI 0) (nI 0) (nI 0)).1 ≤ 3 := zb_op
  refine zp_aload_n (x := 0) rfl rfl ?_
  refine zp_sload_n rfl rfl ?_
  refine zp_iload (x := (nI i)) rfl rfl ?_
  refine zp_iconst (v := (nI 1)) rfl (by decide +kernel) ?_
  refine zp_iaddN rfl ?_
  refine zp_sald rfl (by omega) (by omega) ?_
  refine zp_sload_n rfl rfl ?_
  refine zp_iload (x := (nI i)) rfl rfl ?_
  refine zp_iconst (v := (nI 2)) rfl (by decide +kernel) ?_
  refine zp_iaddN rfl ?_
  refine zp_sald rfl (by omega) (by omega) ?_
  refine zp_aload_n (x := 189) rfl rfl ?_
  refine zp_call rfl rfl (s_Law_addClass hv.1 hW (fun h2 s2 g2 o2 => ?_))
  have hS := s2.1
  have r2 := g2.r hv.2.1 s2.1
  show zp_wp X y_Law_law 201 [.retAddr 0, .ref 0, .ref 171, .ref 189, .int (nI i), x5, x6] [.int (nI ((z_op s (X.2 (i + 1)) 0 (X.2 (i + 2)) (nI 0) (nI 0) (nI 0)).1))] h2 Q
  refine zp_istore_5 rfl rfl ?_
  refine zp_aload_n (x := 171) rfl rfl ?_
  refine zp_sload_n rfl rfl ?_
  refine zp_iload (x := (nI i)) rfl rfl ?_
  refine zp_iconst (v := (nI 1)) rfl (by decide +kernel) ?_
  refine zp_iaddN rfl ?_
  refine zp_sald rfl (by omega) (by omega) ?_
  refine zp_sload_n rfl rfl ?_
  refine zp_iload (x := (nI i)) rfl rfl ?_
  refine zp_iconst (v := (nI 2)) rfl (by decide +kernel) ?_
  refine zp_iaddN rfl ?_
  refine zp_sald rfl (by omega) (by omega) ?_
  refine zq_virt hS rfl rfl (by first | assumption | exact ⟨by decide, rfl⟩) rfl (s_Mod_addClass r2 hB (fun h3 d3 => ?_))
  have hS := d3.1.1
  have o3 : (z_op s (X.2 (i + 1)) 0 (X.2 (i + 2)) (nI 0) (nI 0) (nI 0)).1 = 0 → cj h3 189 0 = Int32.toInt64 (z_op s (X.2 (i + 1)) 0 (X.2 (i + 2)) (nI 0) (nI 0) (nI 0)).2.1 := fun q => by rw [d3.2.1.gj (by decide)]; exact o2 q
  show zp_wp X y_Law_law 219 [.retAddr 0, .ref 0, .ref 171, .ref 189, .int (nI i), .int (nI ((z_op s (X.2 (i + 1)) 0 (X.2 (i + 2)) (nI 0) (nI 0) (nI 0)).1)), x6] [.int ((z_op s (X.2 (i + 1)) 0 (X.2 (i + 2)) (nI 0) (nI 0) (nI 0)).2.1)] h3 Q
  refine zp_istore_6 rfl rfl ?_
  refine zp_aload_n (x := 171) rfl rfl ?_
  refine zq_virt hS rfl rfl (by first | assumption | exact ⟨by decide, rfl⟩) rfl (s_Mod_thrown hS ?_)
  rw [d3.2.2]
  show zp_wp X y_Law_law 225 [.retAddr 0, .ref 0, .ref 171, .ref 189, .int (nI i), .int (nI ((z_op s (X.2 (i + 1)) 0 (X.2 (i + 2)) (nI 0) (nI 0) (nI 0)).1)), .int ((z_op s (X.2 (i + 1)) 0 (X.2 (i + 2)) (nI 0) (nI 0) (nI 0)).2.1)] [.int (nI ((z_op s (X.2 (i + 1)) 0 (X.2 (i + 2)) (nI 0) (nI 0) (nI 0)).1))] h3 Q
  refine zp_iload (x := (nI ((z_op s (X.2 (i + 1)) 0 (X.2 (i + 2)) (nI 0) (nI 0) (nI 0)).1))) rfl rfl ?_
  refine zp_icmpN_eq (tgt := 232) rfl rfl (by omega) (by omega) (fun b227 => ?_) (fun b227 => ?_)
  · refine zp_iload (x := (nI ((z_op s (X.2 (i + 1)) 0 (X.2 (i + 2)) (nI 0) (nI 0) (nI 0)).1))) rfl rfl ?_
    refine zp_ifN_ne (tgt := 249) rfl rfl (by omega) (fun b234 => ?_) (fun b234 => ?_)
    · refine zp_goto (tgt := 2223) rfl rfl ?_
      exact nx _ _ _ _ (zl_step hv s2 g2 d3 (zW_op hW lg_0))
    · refine zp_aload_n (x := 189) rfl rfl ?_
      refine zp_iconst (v := (nI 0)) rfl (by decide +kernel) ?_
      refine zq_lald hS rfl (by first | assumption | exact ⟨by decide, rfl⟩) (by omega) (by first | decide | omega) ?_
      rw [o3 b234]
      refine zp_iload (x := ((z_op s (X.2 (i + 1)) 0 (X.2 (i + 2)) (nI 0) (nI 0) (nI 0)).2.1)) rfl rfl ?_
      refine zp_i2l rfl rfl ?_
      refine zp_lcmp rfl rfl ?_
      rw [lg_self]
      refine zp_ifT (tgt := 249) rfl rfl (by decide +kernel) ?_
      refine zp_goto (tgt := 2223) rfl rfl ?_
      exact nx _ _ _ _ (zl_step hv s2 g2 d3 (zW_op hW lg_0))
  · exact absurd rfl b227
theorem lc_1 {i n : Nat} {x5 x6 : Value} (hv : zl_V n s h) (hi : i + 6 ≤ X.1) (hX : X.1 ≤ 3072) (nx : ∀ s' h' x y, zl_V (n + 1) s' h' → zp_wp X y_Law_law 2223 [.retAddr 0, .ref 0, .ref 171, .ref 189, .int (nI i), x, y] [] h' Q) : zp_wp X y_Law_law 252 [.retAddr 0, .ref 0, .ref 171, .ref 189, .int (nI i), x5, x6] [] h Q := by
  have hS := hv.1.1
  have hW := hv.2.2.1
  have hB := hW.B
  have hbd : (z_op s (X.2 (i + 1)) 1 (X.2 (i + 2)) (nI 0) (nI 0) (nI 0)).1 ≤ 3 := zb_op
  refine zp_aload_n (x := 0) rfl rfl ?_
  refine zp_sload_n rfl rfl ?_
  refine zp_iload (x := (nI i)) rfl rfl ?_
  refine zp_iconst (v := (nI 1)) rfl (by decide +kernel) ?_
  refine zp_iaddN rfl ?_
  refine zp_sald rfl (by omega) (by omega) ?_
  refine zp_sload_n rfl rfl ?_
  refine zp_iload (x := (nI i)) rfl rfl ?_
  refine zp_iconst (v := (nI 2)) rfl (by decide +kernel) ?_
  refine zp_iaddN rfl ?_
  refine zp_sald rfl (by omega) (by omega) ?_
  refine zp_aload_n (x := 189) rfl rfl ?_
  refine zp_call rfl rfl (s_Law_removeClass hv.1 hW (fun h2 s2 g2 o2 => ?_))
  have hS := s2.1
  have r2 := g2.r hv.2.1 s2.1
  show zp_wp X y_Law_law 269 [.retAddr 0, .ref 0, .ref 171, .ref 189, .int (nI i), x5, x6] [.int (nI ((z_op s (X.2 (i + 1)) 1 (X.2 (i + 2)) (nI 0) (nI 0) (nI 0)).1))] h2 Q
  refine zp_istore_5 rfl rfl ?_
  refine zp_aload_n (x := 171) rfl rfl ?_
  refine zp_sload_n rfl rfl ?_
  refine zp_iload (x := (nI i)) rfl rfl ?_
  refine zp_iconst (v := (nI 1)) rfl (by decide +kernel) ?_
  refine zp_iaddN rfl ?_
  refine zp_sald rfl (by omega) (by omega) ?_
  refine zp_sload_n rfl rfl ?_
  refine zp_iload (x := (nI i)) rfl rfl ?_
  refine zp_iconst (v := (nI 2)) rfl (by decide +kernel) ?_
  refine zp_iaddN rfl ?_
  refine zp_sald rfl (by omega) (by omega) ?_
  refine zq_virt hS rfl rfl (by first | assumption | exact ⟨by decide, rfl⟩) rfl (s_Mod_removeClass r2 hB (fun h3 d3 => ?_))
  have hS := d3.1.1
  have o3 : (z_op s (X.2 (i + 1)) 1 (X.2 (i + 2)) (nI 0) (nI 0) (nI 0)).1 = 0 → cj h3 189 0 = Int32.toInt64 (z_op s (X.2 (i + 1)) 1 (X.2 (i + 2)) (nI 0) (nI 0) (nI 0)).2.1 := fun q => by rw [d3.2.1.gj (by decide)]; exact o2 q
  show zp_wp X y_Law_law 287 [.retAddr 0, .ref 0, .ref 171, .ref 189, .int (nI i), .int (nI ((z_op s (X.2 (i + 1)) 1 (X.2 (i + 2)) (nI 0) (nI 0) (nI 0)).1)), x6] [.int ((z_op s (X.2 (i + 1)) 1 (X.2 (i + 2)) (nI 0) (nI 0) (nI 0)).2.1)] h3 Q
  refine zp_istore_6 rfl rfl ?_
  refine zp_aload_n (x := 171) rfl rfl ?_
  refine zq_virt hS rfl rfl (by first | assumption | exact ⟨by decide, rfl⟩) rfl (s_Mod_thrown hS ?_)
  rw [d3.2.2]
  show zp_wp X y_Law_law 293 [.retAddr 0, .ref 0, .ref 171, .ref 189, .int (nI i), .int (nI ((z_op s (X.2 (i + 1)) 1 (X.2 (i + 2)) (nI 0) (nI 0) (nI 0)).1)), .int ((z_op s (X.2 (i + 1)) 1 (X.2 (i + 2)) (nI 0) (nI 0) (nI 0)).2.1)] [.int (nI ((z_op s (X.2 (i + 1)) 1 (X.2 (i + 2)) (nI 0) (nI 0) (nI 0)).1))] h3 Q
  refine zp_iload (x := (nI ((z_op s (X.2 (i + 1)) 1 (X.2 (i + 2)) (nI 0) (nI 0) (nI 0)).1))) rfl rfl ?_
  refine zp_icmpN_eq (tgt := 300) rfl rfl (by omega) (by omega) (fun b295 => ?_) (fun b295 => ?_)
  · refine zp_iload (x := (nI ((z_op s (X.2 (i + 1)) 1 (X.2 (i + 2)) (nI 0) (nI 0) (nI 0)).1))) rfl rfl ?_
    refine zp_ifN_ne (tgt := 317) rfl rfl (by omega) (fun b302 => ?_) (fun b302 => ?_)
    · refine zp_goto (tgt := 2223) rfl rfl ?_
      exact nx _ _ _ _ (zl_step hv s2 g2 d3 (zW_op hW lg_1))
    · refine zp_aload_n (x := 189) rfl rfl ?_
      refine zp_iconst (v := (nI 0)) rfl (by decide +kernel) ?_
      refine zq_lald hS rfl (by first | assumption | exact ⟨by decide, rfl⟩) (by omega) (by first | decide | omega) ?_
      rw [o3 b302]
      refine zp_iload (x := ((z_op s (X.2 (i + 1)) 1 (X.2 (i + 2)) (nI 0) (nI 0) (nI 0)).2.1)) rfl rfl ?_
      refine zp_i2l rfl rfl ?_
      refine zp_lcmp rfl rfl ?_
      rw [lg_self]
      refine zp_ifT (tgt := 317) rfl rfl (by decide +kernel) ?_
      refine zp_goto (tgt := 2223) rfl rfl ?_
      exact nx _ _ _ _ (zl_step hv s2 g2 d3 (zW_op hW lg_1))
  · exact absurd rfl b295
theorem lc_2 {i n : Nat} {x5 x6 : Value} (hv : zl_V n s h) (hi : i + 6 ≤ X.1) (hX : X.1 ≤ 3072) (nx : ∀ s' h' x y, zl_V (n + 1) s' h' → zp_wp X y_Law_law 2223 [.retAddr 0, .ref 0, .ref 171, .ref 189, .int (nI i), x, y] [] h' Q) : zp_wp X y_Law_law 320 [.retAddr 0, .ref 0, .ref 171, .ref 189, .int (nI i), x5, x6] [] h Q := by
  have hS := hv.1.1
  have hW := hv.2.2.1
  have hB := hW.B
  have hbd : (z_op s (X.2 (i + 1)) 2 (X.2 (i + 2)) (nI 0) (X.2 (i + 3)) (nI 0)).1 ≤ 3 := zb_op
  refine zp_aload_n (x := 0) rfl rfl ?_
  refine zp_sload_n rfl rfl ?_
  refine zp_iload (x := (nI i)) rfl rfl ?_
  refine zp_iconst (v := (nI 1)) rfl (by decide +kernel) ?_
  refine zp_iaddN rfl ?_
  refine zp_sald rfl (by omega) (by omega) ?_
  refine zp_sload_n rfl rfl ?_
  refine zp_iload (x := (nI i)) rfl rfl ?_
  refine zp_iconst (v := (nI 2)) rfl (by decide +kernel) ?_
  refine zp_iaddN rfl ?_
  refine zp_sald rfl (by omega) (by omega) ?_
  refine zp_sload_n rfl rfl ?_
  refine zp_iload (x := (nI i)) rfl rfl ?_
  refine zp_iconst (v := (nI 3)) rfl (by decide +kernel) ?_
  refine zp_iaddN rfl ?_
  refine zp_sald rfl (by omega) (by omega) ?_
  refine zp_aload_n (x := 189) rfl rfl ?_
  refine zp_call rfl rfl (s_Law_renameClass hv.1 hW (fun h2 s2 g2 o2 => ?_))
  have hS := s2.1
  have r2 := g2.r hv.2.1 s2.1
  show zp_wp X y_Law_law 343 [.retAddr 0, .ref 0, .ref 171, .ref 189, .int (nI i), x5, x6] [.int (nI ((z_op s (X.2 (i + 1)) 2 (X.2 (i + 2)) (nI 0) (X.2 (i + 3)) (nI 0)).1))] h2 Q
  refine zp_istore_5 rfl rfl ?_
  refine zp_aload_n (x := 171) rfl rfl ?_
  refine zp_sload_n rfl rfl ?_
  refine zp_iload (x := (nI i)) rfl rfl ?_
  refine zp_iconst (v := (nI 1)) rfl (by decide +kernel) ?_
  refine zp_iaddN rfl ?_
  refine zp_sald rfl (by omega) (by omega) ?_
  refine zp_sload_n rfl rfl ?_
  refine zp_iload (x := (nI i)) rfl rfl ?_
  refine zp_iconst (v := (nI 2)) rfl (by decide +kernel) ?_
  refine zp_iaddN rfl ?_
  refine zp_sald rfl (by omega) (by omega) ?_
  refine zp_sload_n rfl rfl ?_
  refine zp_iload (x := (nI i)) rfl rfl ?_
  refine zp_iconst (v := (nI 3)) rfl (by decide +kernel) ?_
  refine zp_iaddN rfl ?_
  refine zp_sald rfl (by omega) (by omega) ?_
  refine zq_virt hS rfl rfl (by first | assumption | exact ⟨by decide, rfl⟩) rfl (s_Mod_renameClass r2 hB (fun h3 d3 => ?_))
  have hS := d3.1.1
  have o3 : (z_op s (X.2 (i + 1)) 2 (X.2 (i + 2)) (nI 0) (X.2 (i + 3)) (nI 0)).1 = 0 → cj h3 189 0 = Int32.toInt64 (z_op s (X.2 (i + 1)) 2 (X.2 (i + 2)) (nI 0) (X.2 (i + 3)) (nI 0)).2.1 := fun q => by rw [d3.2.1.gj (by decide)]; exact o2 q
  show zp_wp X y_Law_law 367 [.retAddr 0, .ref 0, .ref 171, .ref 189, .int (nI i), .int (nI ((z_op s (X.2 (i + 1)) 2 (X.2 (i + 2)) (nI 0) (X.2 (i + 3)) (nI 0)).1)), x6] [.int ((z_op s (X.2 (i + 1)) 2 (X.2 (i + 2)) (nI 0) (X.2 (i + 3)) (nI 0)).2.1)] h3 Q
  refine zp_istore_6 rfl rfl ?_
  refine zp_aload_n (x := 171) rfl rfl ?_
  refine zq_virt hS rfl rfl (by first | assumption | exact ⟨by decide, rfl⟩) rfl (s_Mod_thrown hS ?_)
  rw [d3.2.2]
  show zp_wp X y_Law_law 373 [.retAddr 0, .ref 0, .ref 171, .ref 189, .int (nI i), .int (nI ((z_op s (X.2 (i + 1)) 2 (X.2 (i + 2)) (nI 0) (X.2 (i + 3)) (nI 0)).1)), .int ((z_op s (X.2 (i + 1)) 2 (X.2 (i + 2)) (nI 0) (X.2 (i + 3)) (nI 0)).2.1)] [.int (nI ((z_op s (X.2 (i + 1)) 2 (X.2 (i + 2)) (nI 0) (X.2 (i + 3)) (nI 0)).1))] h3 Q
  refine zp_iload (x := (nI ((z_op s (X.2 (i + 1)) 2 (X.2 (i + 2)) (nI 0) (X.2 (i + 3)) (nI 0)).1))) rfl rfl ?_
  refine zp_icmpN_eq (tgt := 380) rfl rfl (by omega) (by omega) (fun b375 => ?_) (fun b375 => ?_)
  · refine zp_iload (x := (nI ((z_op s (X.2 (i + 1)) 2 (X.2 (i + 2)) (nI 0) (X.2 (i + 3)) (nI 0)).1))) rfl rfl ?_
    refine zp_ifN_ne (tgt := 397) rfl rfl (by omega) (fun b382 => ?_) (fun b382 => ?_)
    · refine zp_goto (tgt := 2223) rfl rfl ?_
      exact nx _ _ _ _ (zl_step hv s2 g2 d3 (zW_op hW lg_2))
    · refine zp_aload_n (x := 189) rfl rfl ?_
      refine zp_iconst (v := (nI 0)) rfl (by decide +kernel) ?_
      refine zq_lald hS rfl (by first | assumption | exact ⟨by decide, rfl⟩) (by omega) (by first | decide | omega) ?_
      rw [o3 b382]
      refine zp_iload (x := ((z_op s (X.2 (i + 1)) 2 (X.2 (i + 2)) (nI 0) (X.2 (i + 3)) (nI 0)).2.1)) rfl rfl ?_
      refine zp_i2l rfl rfl ?_
      refine zp_lcmp rfl rfl ?_
      rw [lg_self]
      refine zp_ifT (tgt := 397) rfl rfl (by decide +kernel) ?_
      refine zp_goto (tgt := 2223) rfl rfl ?_
      exact nx _ _ _ _ (zl_step hv s2 g2 d3 (zW_op hW lg_2))
  · exact absurd rfl b375
theorem lc_3 {i n : Nat} {x5 x6 : Value} (hv : zl_V n s h) (hi : i + 6 ≤ X.1) (hX : X.1 ≤ 3072) (nx : ∀ s' h' x y, zl_V (n + 1) s' h' → zp_wp X y_Law_law 2223 [.retAddr 0, .ref 0, .ref 171, .ref 189, .int (nI i), x, y] [] h' Q) : zp_wp X y_Law_law 400 [.retAddr 0, .ref 0, .ref 171, .ref 189, .int (nI i), x5, x6] [] h Q := by
  have hS := hv.1.1
  have hW := hv.2.2.1
  have hB := hW.B
  have hbd : (z_op s (X.2 (i + 1)) 3 (X.2 (i + 2)) (nI 0) (X.2 (i + 3)) (nI 0)).1 ≤ 3 := zb_op
  refine zp_aload_n (x := 0) rfl rfl ?_
  refine zp_sload_n rfl rfl ?_
  refine zp_iload (x := (nI i)) rfl rfl ?_
  refine zp_iconst (v := (nI 1)) rfl (by decide +kernel) ?_
  refine zp_iaddN rfl ?_
  refine zp_sald rfl (by omega) (by omega) ?_
  refine zp_sload_n rfl rfl ?_
  refine zp_iload (x := (nI i)) rfl rfl ?_
  refine zp_iconst (v := (nI 2)) rfl (by decide +kernel) ?_
  refine zp_iaddN rfl ?_
  refine zp_sald rfl (by omega) (by omega) ?_
  refine zp_sload_n rfl rfl ?_
  refine zp_iload (x := (nI i)) rfl rfl ?_
  refine zp_iconst (v := (nI 3)) rfl (by decide +kernel) ?_
  refine zp_iaddN rfl ?_
  refine zp_sald rfl (by omega) (by omega) ?_
  refine zp_aload_n (x := 189) rfl rfl ?_
  refine zp_call rfl rfl (s_Law_setSuper hv.1 hW (fun h2 s2 g2 o2 => ?_))
  have hS := s2.1
  have r2 := g2.r hv.2.1 s2.1
  show zp_wp X y_Law_law 423 [.retAddr 0, .ref 0, .ref 171, .ref 189, .int (nI i), x5, x6] [.int (nI ((z_op s (X.2 (i + 1)) 3 (X.2 (i + 2)) (nI 0) (X.2 (i + 3)) (nI 0)).1))] h2 Q
  refine zp_istore_5 rfl rfl ?_
  refine zp_aload_n (x := 171) rfl rfl ?_
  refine zp_sload_n rfl rfl ?_
  refine zp_iload (x := (nI i)) rfl rfl ?_
  refine zp_iconst (v := (nI 1)) rfl (by decide +kernel) ?_
  refine zp_iaddN rfl ?_
  refine zp_sald rfl (by omega) (by omega) ?_
  refine zp_sload_n rfl rfl ?_
  refine zp_iload (x := (nI i)) rfl rfl ?_
  refine zp_iconst (v := (nI 2)) rfl (by decide +kernel) ?_
  refine zp_iaddN rfl ?_
  refine zp_sald rfl (by omega) (by omega) ?_
  refine zp_sload_n rfl rfl ?_
  refine zp_iload (x := (nI i)) rfl rfl ?_
  refine zp_iconst (v := (nI 3)) rfl (by decide +kernel) ?_
  refine zp_iaddN rfl ?_
  refine zp_sald rfl (by omega) (by omega) ?_
  refine zq_virt hS rfl rfl (by first | assumption | exact ⟨by decide, rfl⟩) rfl (s_Mod_setSuper r2 hB (fun h3 d3 => ?_))
  have hS := d3.1.1
  have o3 : (z_op s (X.2 (i + 1)) 3 (X.2 (i + 2)) (nI 0) (X.2 (i + 3)) (nI 0)).1 = 0 → cj h3 189 0 = Int32.toInt64 (z_op s (X.2 (i + 1)) 3 (X.2 (i + 2)) (nI 0) (X.2 (i + 3)) (nI 0)).2.1 := fun q => by rw [d3.2.1.gj (by decide)]; exact o2 q
  show zp_wp X y_Law_law 447 [.retAddr 0, .ref 0, .ref 171, .ref 189, .int (nI i), .int (nI ((z_op s (X.2 (i + 1)) 3 (X.2 (i + 2)) (nI 0) (X.2 (i + 3)) (nI 0)).1)), x6] [.int ((z_op s (X.2 (i + 1)) 3 (X.2 (i + 2)) (nI 0) (X.2 (i + 3)) (nI 0)).2.1)] h3 Q
  refine zp_istore_6 rfl rfl ?_
  refine zp_aload_n (x := 171) rfl rfl ?_
  refine zq_virt hS rfl rfl (by first | assumption | exact ⟨by decide, rfl⟩) rfl (s_Mod_thrown hS ?_)
  rw [d3.2.2]
  show zp_wp X y_Law_law 453 [.retAddr 0, .ref 0, .ref 171, .ref 189, .int (nI i), .int (nI ((z_op s (X.2 (i + 1)) 3 (X.2 (i + 2)) (nI 0) (X.2 (i + 3)) (nI 0)).1)), .int ((z_op s (X.2 (i + 1)) 3 (X.2 (i + 2)) (nI 0) (X.2 (i + 3)) (nI 0)).2.1)] [.int (nI ((z_op s (X.2 (i + 1)) 3 (X.2 (i + 2)) (nI 0) (X.2 (i + 3)) (nI 0)).1))] h3 Q
  refine zp_iload (x := (nI ((z_op s (X.2 (i + 1)) 3 (X.2 (i + 2)) (nI 0) (X.2 (i + 3)) (nI 0)).1))) rfl rfl ?_
  refine zp_icmpN_eq (tgt := 460) rfl rfl (by omega) (by omega) (fun b455 => ?_) (fun b455 => ?_)
  · refine zp_iload (x := (nI ((z_op s (X.2 (i + 1)) 3 (X.2 (i + 2)) (nI 0) (X.2 (i + 3)) (nI 0)).1))) rfl rfl ?_
    refine zp_ifN_ne (tgt := 477) rfl rfl (by omega) (fun b462 => ?_) (fun b462 => ?_)
    · refine zp_goto (tgt := 2223) rfl rfl ?_
      exact nx _ _ _ _ (zl_step hv s2 g2 d3 (zW_op hW lg_3))
    · refine zp_aload_n (x := 189) rfl rfl ?_
      refine zp_iconst (v := (nI 0)) rfl (by decide +kernel) ?_
      refine zq_lald hS rfl (by first | assumption | exact ⟨by decide, rfl⟩) (by omega) (by first | decide | omega) ?_
      rw [o3 b462]
      refine zp_iload (x := ((z_op s (X.2 (i + 1)) 3 (X.2 (i + 2)) (nI 0) (X.2 (i + 3)) (nI 0)).2.1)) rfl rfl ?_
      refine zp_i2l rfl rfl ?_
      refine zp_lcmp rfl rfl ?_
      rw [lg_self]
      refine zp_ifT (tgt := 477) rfl rfl (by decide +kernel) ?_
      refine zp_goto (tgt := 2223) rfl rfl ?_
      exact nx _ _ _ _ (zl_step hv s2 g2 d3 (zW_op hW lg_3))
  · exact absurd rfl b455
theorem lc_4 {i n : Nat} {x5 x6 : Value} (hv : zl_V n s h) (hi : i + 6 ≤ X.1) (hX : X.1 ≤ 3072) (nx : ∀ s' h' x y, zl_V (n + 1) s' h' → zp_wp X y_Law_law 2223 [.retAddr 0, .ref 0, .ref 171, .ref 189, .int (nI i), x, y] [] h' Q) : zp_wp X y_Law_law 480 [.retAddr 0, .ref 0, .ref 171, .ref 189, .int (nI i), x5, x6] [] h Q := by
  have hS := hv.1.1
  have hW := hv.2.2.1
  have hB := hW.B
  have hbd : (z_op s (X.2 (i + 1)) 4 (X.2 (i + 2)) (X.2 (i + 3)) (nI 0) (nI 0)).1 ≤ 3 := zb_op
  refine zp_aload_n (x := 0) rfl rfl ?_
  refine zp_sload_n rfl rfl ?_
  refine zp_iload (x := (nI i)) rfl rfl ?_
  refine zp_iconst (v := (nI 1)) rfl (by decide +kernel) ?_
  refine zp_iaddN rfl ?_
  refine zp_sald rfl (by omega) (by omega) ?_
  refine zp_sload_n rfl rfl ?_
  refine zp_iload (x := (nI i)) rfl rfl ?_
  refine zp_iconst (v := (nI 2)) rfl (by decide +kernel) ?_
  refine zp_iaddN rfl ?_
  refine zp_sald rfl (by omega) (by omega) ?_
  refine zp_sload_n rfl rfl ?_
  refine zp_iload (x := (nI i)) rfl rfl ?_
  refine zp_iconst (v := (nI 3)) rfl (by decide +kernel) ?_
  refine zp_iaddN rfl ?_
  refine zp_sald rfl (by omega) (by omega) ?_
  refine zp_aload_n (x := 189) rfl rfl ?_
  refine zp_call rfl rfl (s_Law_addMember hv.1 hW (fun h2 s2 g2 o2 => ?_))
  have hS := s2.1
  have r2 := g2.r hv.2.1 s2.1
  show zp_wp X y_Law_law 503 [.retAddr 0, .ref 0, .ref 171, .ref 189, .int (nI i), x5, x6] [.int (nI ((z_op s (X.2 (i + 1)) 4 (X.2 (i + 2)) (X.2 (i + 3)) (nI 0) (nI 0)).1))] h2 Q
  refine zp_istore_5 rfl rfl ?_
  refine zp_aload_n (x := 171) rfl rfl ?_
  refine zp_sload_n rfl rfl ?_
  refine zp_iload (x := (nI i)) rfl rfl ?_
  refine zp_iconst (v := (nI 1)) rfl (by decide +kernel) ?_
  refine zp_iaddN rfl ?_
  refine zp_sald rfl (by omega) (by omega) ?_
  refine zp_sload_n rfl rfl ?_
  refine zp_iload (x := (nI i)) rfl rfl ?_
  refine zp_iconst (v := (nI 2)) rfl (by decide +kernel) ?_
  refine zp_iaddN rfl ?_
  refine zp_sald rfl (by omega) (by omega) ?_
  refine zp_sload_n rfl rfl ?_
  refine zp_iload (x := (nI i)) rfl rfl ?_
  refine zp_iconst (v := (nI 3)) rfl (by decide +kernel) ?_
  refine zp_iaddN rfl ?_
  refine zp_sald rfl (by omega) (by omega) ?_
  refine zq_virt hS rfl rfl (by first | assumption | exact ⟨by decide, rfl⟩) rfl (s_Mod_addMember r2 hB (fun h3 d3 => ?_))
  have hS := d3.1.1
  have o3 : (z_op s (X.2 (i + 1)) 4 (X.2 (i + 2)) (X.2 (i + 3)) (nI 0) (nI 0)).1 = 0 → cj h3 189 0 = Int32.toInt64 (z_op s (X.2 (i + 1)) 4 (X.2 (i + 2)) (X.2 (i + 3)) (nI 0) (nI 0)).2.1 := fun q => by rw [d3.2.1.gj (by decide)]; exact o2 q
  show zp_wp X y_Law_law 527 [.retAddr 0, .ref 0, .ref 171, .ref 189, .int (nI i), .int (nI ((z_op s (X.2 (i + 1)) 4 (X.2 (i + 2)) (X.2 (i + 3)) (nI 0) (nI 0)).1)), x6] [.int ((z_op s (X.2 (i + 1)) 4 (X.2 (i + 2)) (X.2 (i + 3)) (nI 0) (nI 0)).2.1)] h3 Q
  refine zp_istore_6 rfl rfl ?_
  refine zp_aload_n (x := 171) rfl rfl ?_
  refine zq_virt hS rfl rfl (by first | assumption | exact ⟨by decide, rfl⟩) rfl (s_Mod_thrown hS ?_)
  rw [d3.2.2]
  show zp_wp X y_Law_law 533 [.retAddr 0, .ref 0, .ref 171, .ref 189, .int (nI i), .int (nI ((z_op s (X.2 (i + 1)) 4 (X.2 (i + 2)) (X.2 (i + 3)) (nI 0) (nI 0)).1)), .int ((z_op s (X.2 (i + 1)) 4 (X.2 (i + 2)) (X.2 (i + 3)) (nI 0) (nI 0)).2.1)] [.int (nI ((z_op s (X.2 (i + 1)) 4 (X.2 (i + 2)) (X.2 (i + 3)) (nI 0) (nI 0)).1))] h3 Q
  refine zp_iload (x := (nI ((z_op s (X.2 (i + 1)) 4 (X.2 (i + 2)) (X.2 (i + 3)) (nI 0) (nI 0)).1))) rfl rfl ?_
  refine zp_icmpN_eq (tgt := 540) rfl rfl (by omega) (by omega) (fun b535 => ?_) (fun b535 => ?_)
  · refine zp_iload (x := (nI ((z_op s (X.2 (i + 1)) 4 (X.2 (i + 2)) (X.2 (i + 3)) (nI 0) (nI 0)).1))) rfl rfl ?_
    refine zp_ifN_ne (tgt := 557) rfl rfl (by omega) (fun b542 => ?_) (fun b542 => ?_)
    · refine zp_goto (tgt := 2223) rfl rfl ?_
      exact nx _ _ _ _ (zl_step hv s2 g2 d3 (zW_op hW lg_4))
    · refine zp_aload_n (x := 189) rfl rfl ?_
      refine zp_iconst (v := (nI 0)) rfl (by decide +kernel) ?_
      refine zq_lald hS rfl (by first | assumption | exact ⟨by decide, rfl⟩) (by omega) (by first | decide | omega) ?_
      rw [o3 b542]
      refine zp_iload (x := ((z_op s (X.2 (i + 1)) 4 (X.2 (i + 2)) (X.2 (i + 3)) (nI 0) (nI 0)).2.1)) rfl rfl ?_
      refine zp_i2l rfl rfl ?_
      refine zp_lcmp rfl rfl ?_
      rw [lg_self]
      refine zp_ifT (tgt := 557) rfl rfl (by decide +kernel) ?_
      refine zp_goto (tgt := 2223) rfl rfl ?_
      exact nx _ _ _ _ (zl_step hv s2 g2 d3 (zW_op hW lg_4))
  · exact absurd rfl b535
theorem lc_5 {i n : Nat} {x5 x6 : Value} (hv : zl_V n s h) (hi : i + 6 ≤ X.1) (hX : X.1 ≤ 3072) (nx : ∀ s' h' x y, zl_V (n + 1) s' h' → zp_wp X y_Law_law 2223 [.retAddr 0, .ref 0, .ref 171, .ref 189, .int (nI i), x, y] [] h' Q) : zp_wp X y_Law_law 560 [.retAddr 0, .ref 0, .ref 171, .ref 189, .int (nI i), x5, x6] [] h Q := by
  have hS := hv.1.1
  have hW := hv.2.2.1
  have hB := hW.B
  have hbd : (z_op s (X.2 (i + 1)) 5 (X.2 (i + 2)) (X.2 (i + 3)) (nI 0) (nI 0)).1 ≤ 3 := zb_op
  refine zp_aload_n (x := 0) rfl rfl ?_
  refine zp_sload_n rfl rfl ?_
  refine zp_iload (x := (nI i)) rfl rfl ?_
  refine zp_iconst (v := (nI 1)) rfl (by decide +kernel) ?_
  refine zp_iaddN rfl ?_
  refine zp_sald rfl (by omega) (by omega) ?_
  refine zp_sload_n rfl rfl ?_
  refine zp_iload (x := (nI i)) rfl rfl ?_
  refine zp_iconst (v := (nI 2)) rfl (by decide +kernel) ?_
  refine zp_iaddN rfl ?_
  refine zp_sald rfl (by omega) (by omega) ?_
  refine zp_sload_n rfl rfl ?_
  refine zp_iload (x := (nI i)) rfl rfl ?_
  refine zp_iconst (v := (nI 3)) rfl (by decide +kernel) ?_
  refine zp_iaddN rfl ?_
  refine zp_sald rfl (by omega) (by omega) ?_
  refine zp_aload_n (x := 189) rfl rfl ?_
  refine zp_call rfl rfl (s_Law_removeMember hv.1 hW (fun h2 s2 g2 o2 => ?_))
  have hS := s2.1
  have r2 := g2.r hv.2.1 s2.1
  show zp_wp X y_Law_law 583 [.retAddr 0, .ref 0, .ref 171, .ref 189, .int (nI i), x5, x6] [.int (nI ((z_op s (X.2 (i + 1)) 5 (X.2 (i + 2)) (X.2 (i + 3)) (nI 0) (nI 0)).1))] h2 Q
  refine zp_istore_5 rfl rfl ?_
  refine zp_aload_n (x := 171) rfl rfl ?_
  refine zp_sload_n rfl rfl ?_
  refine zp_iload (x := (nI i)) rfl rfl ?_
  refine zp_iconst (v := (nI 1)) rfl (by decide +kernel) ?_
  refine zp_iaddN rfl ?_
  refine zp_sald rfl (by omega) (by omega) ?_
  refine zp_sload_n rfl rfl ?_
  refine zp_iload (x := (nI i)) rfl rfl ?_
  refine zp_iconst (v := (nI 2)) rfl (by decide +kernel) ?_
  refine zp_iaddN rfl ?_
  refine zp_sald rfl (by omega) (by omega) ?_
  refine zp_sload_n rfl rfl ?_
  refine zp_iload (x := (nI i)) rfl rfl ?_
  refine zp_iconst (v := (nI 3)) rfl (by decide +kernel) ?_
  refine zp_iaddN rfl ?_
  refine zp_sald rfl (by omega) (by omega) ?_
  refine zq_virt hS rfl rfl (by first | assumption | exact ⟨by decide, rfl⟩) rfl (s_Mod_removeMember r2 hB (fun h3 d3 => ?_))
  have hS := d3.1.1
  have o3 : (z_op s (X.2 (i + 1)) 5 (X.2 (i + 2)) (X.2 (i + 3)) (nI 0) (nI 0)).1 = 0 → cj h3 189 0 = Int32.toInt64 (z_op s (X.2 (i + 1)) 5 (X.2 (i + 2)) (X.2 (i + 3)) (nI 0) (nI 0)).2.1 := fun q => by rw [d3.2.1.gj (by decide)]; exact o2 q
  show zp_wp X y_Law_law 607 [.retAddr 0, .ref 0, .ref 171, .ref 189, .int (nI i), .int (nI ((z_op s (X.2 (i + 1)) 5 (X.2 (i + 2)) (X.2 (i + 3)) (nI 0) (nI 0)).1)), x6] [.int ((z_op s (X.2 (i + 1)) 5 (X.2 (i + 2)) (X.2 (i + 3)) (nI 0) (nI 0)).2.1)] h3 Q
  refine zp_istore_6 rfl rfl ?_
  refine zp_aload_n (x := 171) rfl rfl ?_
  refine zq_virt hS rfl rfl (by first | assumption | exact ⟨by decide, rfl⟩) rfl (s_Mod_thrown hS ?_)
  rw [d3.2.2]
  show zp_wp X y_Law_law 613 [.retAddr 0, .ref 0, .ref 171, .ref 189, .int (nI i), .int (nI ((z_op s (X.2 (i + 1)) 5 (X.2 (i + 2)) (X.2 (i + 3)) (nI 0) (nI 0)).1)), .int ((z_op s (X.2 (i + 1)) 5 (X.2 (i + 2)) (X.2 (i + 3)) (nI 0) (nI 0)).2.1)] [.int (nI ((z_op s (X.2 (i + 1)) 5 (X.2 (i + 2)) (X.2 (i + 3)) (nI 0) (nI 0)).1))] h3 Q
  refine zp_iload (x := (nI ((z_op s (X.2 (i + 1)) 5 (X.2 (i + 2)) (X.2 (i + 3)) (nI 0) (nI 0)).1))) rfl rfl ?_
  refine zp_icmpN_eq (tgt := 620) rfl rfl (by omega) (by omega) (fun b615 => ?_) (fun b615 => ?_)
  · refine zp_iload (x := (nI ((z_op s (X.2 (i + 1)) 5 (X.2 (i + 2)) (X.2 (i + 3)) (nI 0) (nI 0)).1))) rfl rfl ?_
    refine zp_ifN_ne (tgt := 637) rfl rfl (by omega) (fun b622 => ?_) (fun b622 => ?_)
    · refine zp_goto (tgt := 2223) rfl rfl ?_
      exact nx _ _ _ _ (zl_step hv s2 g2 d3 (zW_op hW lg_5))
    · refine zp_aload_n (x := 189) rfl rfl ?_
      refine zp_iconst (v := (nI 0)) rfl (by decide +kernel) ?_
      refine zq_lald hS rfl (by first | assumption | exact ⟨by decide, rfl⟩) (by omega) (by first | decide | omega) ?_
      rw [o3 b622]
      refine zp_iload (x := ((z_op s (X.2 (i + 1)) 5 (X.2 (i + 2)) (X.2 (i + 3)) (nI 0) (nI 0)).2.1)) rfl rfl ?_
      refine zp_i2l rfl rfl ?_
      refine zp_lcmp rfl rfl ?_
      rw [lg_self]
      refine zp_ifT (tgt := 637) rfl rfl (by decide +kernel) ?_
      refine zp_goto (tgt := 2223) rfl rfl ?_
      exact nx _ _ _ _ (zl_step hv s2 g2 d3 (zW_op hW lg_5))
  · exact absurd rfl b615
theorem lc_6 {i n : Nat} {x5 x6 : Value} (hv : zl_V n s h) (hi : i + 6 ≤ X.1) (hX : X.1 ≤ 3072) (nx : ∀ s' h' x y, zl_V (n + 1) s' h' → zp_wp X y_Law_law 2223 [.retAddr 0, .ref 0, .ref 171, .ref 189, .int (nI i), x, y] [] h' Q) : zp_wp X y_Law_law 640 [.retAddr 0, .ref 0, .ref 171, .ref 189, .int (nI i), x5, x6] [] h Q := by
  have hS := hv.1.1
  have hW := hv.2.2.1
  have hB := hW.B
  have hbd : (z_op s (X.2 (i + 1)) 6 (X.2 (i + 2)) (X.2 (i + 3)) (nI 0) (X.2 (i + 4))).1 ≤ 3 := zb_op
  refine zp_aload_n (x := 0) rfl rfl ?_
  refine zp_sload_n rfl rfl ?_
  refine zp_iload (x := (nI i)) rfl rfl ?_
  refine zp_iconst (v := (nI 1)) rfl (by decide +kernel) ?_
  refine zp_iaddN rfl ?_
  refine zp_sald rfl (by omega) (by omega) ?_
  refine zp_sload_n rfl rfl ?_
  refine zp_iload (x := (nI i)) rfl rfl ?_
  refine zp_iconst (v := (nI 2)) rfl (by decide +kernel) ?_
  refine zp_iaddN rfl ?_
  refine zp_sald rfl (by omega) (by omega) ?_
  refine zp_sload_n rfl rfl ?_
  refine zp_iload (x := (nI i)) rfl rfl ?_
  refine zp_iconst (v := (nI 3)) rfl (by decide +kernel) ?_
  refine zp_iaddN rfl ?_
  refine zp_sald rfl (by omega) (by omega) ?_
  refine zp_sload_n rfl rfl ?_
  refine zp_iload (x := (nI i)) rfl rfl ?_
  refine zp_iconst (v := (nI 4)) rfl (by decide +kernel) ?_
  refine zp_iaddN rfl ?_
  refine zp_sald rfl (by omega) (by omega) ?_
  refine zp_aload_n (x := 189) rfl rfl ?_
  refine zp_call rfl rfl (s_Law_renameMember hv.1 hW (fun h2 s2 g2 o2 => ?_))
  have hS := s2.1
  have r2 := g2.r hv.2.1 s2.1
  show zp_wp X y_Law_law 669 [.retAddr 0, .ref 0, .ref 171, .ref 189, .int (nI i), x5, x6] [.int (nI ((z_op s (X.2 (i + 1)) 6 (X.2 (i + 2)) (X.2 (i + 3)) (nI 0) (X.2 (i + 4))).1))] h2 Q
  refine zp_istore_5 rfl rfl ?_
  refine zp_aload_n (x := 171) rfl rfl ?_
  refine zp_sload_n rfl rfl ?_
  refine zp_iload (x := (nI i)) rfl rfl ?_
  refine zp_iconst (v := (nI 1)) rfl (by decide +kernel) ?_
  refine zp_iaddN rfl ?_
  refine zp_sald rfl (by omega) (by omega) ?_
  refine zp_sload_n rfl rfl ?_
  refine zp_iload (x := (nI i)) rfl rfl ?_
  refine zp_iconst (v := (nI 2)) rfl (by decide +kernel) ?_
  refine zp_iaddN rfl ?_
  refine zp_sald rfl (by omega) (by omega) ?_
  refine zp_sload_n rfl rfl ?_
  refine zp_iload (x := (nI i)) rfl rfl ?_
  refine zp_iconst (v := (nI 3)) rfl (by decide +kernel) ?_
  refine zp_iaddN rfl ?_
  refine zp_sald rfl (by omega) (by omega) ?_
  refine zp_sload_n rfl rfl ?_
  refine zp_iload (x := (nI i)) rfl rfl ?_
  refine zp_iconst (v := (nI 4)) rfl (by decide +kernel) ?_
  refine zp_iaddN rfl ?_
  refine zp_sald rfl (by omega) (by omega) ?_
  refine zq_virt hS rfl rfl (by first | assumption | exact ⟨by decide, rfl⟩) rfl (s_Mod_renameMember r2 hB (fun h3 d3 => ?_))
  have hS := d3.1.1
  have o3 : (z_op s (X.2 (i + 1)) 6 (X.2 (i + 2)) (X.2 (i + 3)) (nI 0) (X.2 (i + 4))).1 = 0 → cj h3 189 0 = Int32.toInt64 (z_op s (X.2 (i + 1)) 6 (X.2 (i + 2)) (X.2 (i + 3)) (nI 0) (X.2 (i + 4))).2.1 := fun q => by rw [d3.2.1.gj (by decide)]; exact o2 q
  show zp_wp X y_Law_law 699 [.retAddr 0, .ref 0, .ref 171, .ref 189, .int (nI i), .int (nI ((z_op s (X.2 (i + 1)) 6 (X.2 (i + 2)) (X.2 (i + 3)) (nI 0) (X.2 (i + 4))).1)), x6] [.int ((z_op s (X.2 (i + 1)) 6 (X.2 (i + 2)) (X.2 (i + 3)) (nI 0) (X.2 (i + 4))).2.1)] h3 Q
  refine zp_istore_6 rfl rfl ?_
  refine zp_aload_n (x := 171) rfl rfl ?_
  refine zq_virt hS rfl rfl (by first | assumption | exact ⟨by decide, rfl⟩) rfl (s_Mod_thrown hS ?_)
  rw [d3.2.2]
  show zp_wp X y_Law_law 705 [.retAddr 0, .ref 0, .ref 171, .ref 189, .int (nI i), .int (nI ((z_op s (X.2 (i + 1)) 6 (X.2 (i + 2)) (X.2 (i + 3)) (nI 0) (X.2 (i + 4))).1)), .int ((z_op s (X.2 (i + 1)) 6 (X.2 (i + 2)) (X.2 (i + 3)) (nI 0) (X.2 (i + 4))).2.1)] [.int (nI ((z_op s (X.2 (i + 1)) 6 (X.2 (i + 2)) (X.2 (i + 3)) (nI 0) (X.2 (i + 4))).1))] h3 Q
  refine zp_iload (x := (nI ((z_op s (X.2 (i + 1)) 6 (X.2 (i + 2)) (X.2 (i + 3)) (nI 0) (X.2 (i + 4))).1))) rfl rfl ?_
  refine zp_icmpN_eq (tgt := 712) rfl rfl (by omega) (by omega) (fun b707 => ?_) (fun b707 => ?_)
  · refine zp_iload (x := (nI ((z_op s (X.2 (i + 1)) 6 (X.2 (i + 2)) (X.2 (i + 3)) (nI 0) (X.2 (i + 4))).1))) rfl rfl ?_
    refine zp_ifN_ne (tgt := 729) rfl rfl (by omega) (fun b714 => ?_) (fun b714 => ?_)
    · refine zp_goto (tgt := 2223) rfl rfl ?_
      exact nx _ _ _ _ (zl_step hv s2 g2 d3 (zW_op hW lg_6))
    · refine zp_aload_n (x := 189) rfl rfl ?_
      refine zp_iconst (v := (nI 0)) rfl (by decide +kernel) ?_
      refine zq_lald hS rfl (by first | assumption | exact ⟨by decide, rfl⟩) (by omega) (by first | decide | omega) ?_
      rw [o3 b714]
      refine zp_iload (x := ((z_op s (X.2 (i + 1)) 6 (X.2 (i + 2)) (X.2 (i + 3)) (nI 0) (X.2 (i + 4))).2.1)) rfl rfl ?_
      refine zp_i2l rfl rfl ?_
      refine zp_lcmp rfl rfl ?_
      rw [lg_self]
      refine zp_ifT (tgt := 729) rfl rfl (by decide +kernel) ?_
      refine zp_goto (tgt := 2223) rfl rfl ?_
      exact nx _ _ _ _ (zl_step hv s2 g2 d3 (zW_op hW lg_6))
  · exact absurd rfl b707
theorem lc_7 {i n : Nat} {x5 x6 : Value} (hv : zl_V n s h) (hi : i + 6 ≤ X.1) (hX : X.1 ≤ 3072) (nx : ∀ s' h' x y, zl_V (n + 1) s' h' → zp_wp X y_Law_law 2223 [.retAddr 0, .ref 0, .ref 171, .ref 189, .int (nI i), x, y] [] h' Q) : zp_wp X y_Law_law 732 [.retAddr 0, .ref 0, .ref 171, .ref 189, .int (nI i), x5, x6] [] h Q := by
  have hS := hv.1.1
  have hW := hv.2.2.1
  have hB := hW.B
  have hbd : (z_op s (X.2 (i + 1)) 7 (X.2 (i + 2)) (X.2 (i + 3)) (X.2 (i + 4)) (nI 0)).1 ≤ 3 := zb_op
  refine zp_aload_n (x := 0) rfl rfl ?_
  refine zp_sload_n rfl rfl ?_
  refine zp_iload (x := (nI i)) rfl rfl ?_
  refine zp_iconst (v := (nI 1)) rfl (by decide +kernel) ?_
  refine zp_iaddN rfl ?_
  refine zp_sald rfl (by omega) (by omega) ?_
  refine zp_sload_n rfl rfl ?_
  refine zp_iload (x := (nI i)) rfl rfl ?_
  refine zp_iconst (v := (nI 2)) rfl (by decide +kernel) ?_
  refine zp_iaddN rfl ?_
  refine zp_sald rfl (by omega) (by omega) ?_
  refine zp_sload_n rfl rfl ?_
  refine zp_iload (x := (nI i)) rfl rfl ?_
  refine zp_iconst (v := (nI 3)) rfl (by decide +kernel) ?_
  refine zp_iaddN rfl ?_
  refine zp_sald rfl (by omega) (by omega) ?_
  refine zp_sload_n rfl rfl ?_
  refine zp_iload (x := (nI i)) rfl rfl ?_
  refine zp_iconst (v := (nI 4)) rfl (by decide +kernel) ?_
  refine zp_iaddN rfl ?_
  refine zp_sald rfl (by omega) (by omega) ?_
  refine zp_aload_n (x := 189) rfl rfl ?_
  refine zp_call rfl rfl (s_Law_moveMember hv.1 hW (fun h2 s2 g2 o2 => ?_))
  have hS := s2.1
  have r2 := g2.r hv.2.1 s2.1
  show zp_wp X y_Law_law 761 [.retAddr 0, .ref 0, .ref 171, .ref 189, .int (nI i), x5, x6] [.int (nI ((z_op s (X.2 (i + 1)) 7 (X.2 (i + 2)) (X.2 (i + 3)) (X.2 (i + 4)) (nI 0)).1))] h2 Q
  refine zp_istore_5 rfl rfl ?_
  refine zp_aload_n (x := 171) rfl rfl ?_
  refine zp_sload_n rfl rfl ?_
  refine zp_iload (x := (nI i)) rfl rfl ?_
  refine zp_iconst (v := (nI 1)) rfl (by decide +kernel) ?_
  refine zp_iaddN rfl ?_
  refine zp_sald rfl (by omega) (by omega) ?_
  refine zp_sload_n rfl rfl ?_
  refine zp_iload (x := (nI i)) rfl rfl ?_
  refine zp_iconst (v := (nI 2)) rfl (by decide +kernel) ?_
  refine zp_iaddN rfl ?_
  refine zp_sald rfl (by omega) (by omega) ?_
  refine zp_sload_n rfl rfl ?_
  refine zp_iload (x := (nI i)) rfl rfl ?_
  refine zp_iconst (v := (nI 3)) rfl (by decide +kernel) ?_
  refine zp_iaddN rfl ?_
  refine zp_sald rfl (by omega) (by omega) ?_
  refine zp_sload_n rfl rfl ?_
  refine zp_iload (x := (nI i)) rfl rfl ?_
  refine zp_iconst (v := (nI 4)) rfl (by decide +kernel) ?_
  refine zp_iaddN rfl ?_
  refine zp_sald rfl (by omega) (by omega) ?_
  refine zq_virt hS rfl rfl (by first | assumption | exact ⟨by decide, rfl⟩) rfl (s_Mod_moveMember r2 hB (fun h3 d3 => ?_))
  have hS := d3.1.1
  have o3 : (z_op s (X.2 (i + 1)) 7 (X.2 (i + 2)) (X.2 (i + 3)) (X.2 (i + 4)) (nI 0)).1 = 0 → cj h3 189 0 = Int32.toInt64 (z_op s (X.2 (i + 1)) 7 (X.2 (i + 2)) (X.2 (i + 3)) (X.2 (i + 4)) (nI 0)).2.1 := fun q => by rw [d3.2.1.gj (by decide)]; exact o2 q
  show zp_wp X y_Law_law 791 [.retAddr 0, .ref 0, .ref 171, .ref 189, .int (nI i), .int (nI ((z_op s (X.2 (i + 1)) 7 (X.2 (i + 2)) (X.2 (i + 3)) (X.2 (i + 4)) (nI 0)).1)), x6] [.int ((z_op s (X.2 (i + 1)) 7 (X.2 (i + 2)) (X.2 (i + 3)) (X.2 (i + 4)) (nI 0)).2.1)] h3 Q
  refine zp_istore_6 rfl rfl ?_
  refine zp_aload_n (x := 171) rfl rfl ?_
  refine zq_virt hS rfl rfl (by first | assumption | exact ⟨by decide, rfl⟩) rfl (s_Mod_thrown hS ?_)
  rw [d3.2.2]
  show zp_wp X y_Law_law 797 [.retAddr 0, .ref 0, .ref 171, .ref 189, .int (nI i), .int (nI ((z_op s (X.2 (i + 1)) 7 (X.2 (i + 2)) (X.2 (i + 3)) (X.2 (i + 4)) (nI 0)).1)), .int ((z_op s (X.2 (i + 1)) 7 (X.2 (i + 2)) (X.2 (i + 3)) (X.2 (i + 4)) (nI 0)).2.1)] [.int (nI ((z_op s (X.2 (i + 1)) 7 (X.2 (i + 2)) (X.2 (i + 3)) (X.2 (i + 4)) (nI 0)).1))] h3 Q
  refine zp_iload (x := (nI ((z_op s (X.2 (i + 1)) 7 (X.2 (i + 2)) (X.2 (i + 3)) (X.2 (i + 4)) (nI 0)).1))) rfl rfl ?_
  refine zp_icmpN_eq (tgt := 804) rfl rfl (by omega) (by omega) (fun b799 => ?_) (fun b799 => ?_)
  · refine zp_iload (x := (nI ((z_op s (X.2 (i + 1)) 7 (X.2 (i + 2)) (X.2 (i + 3)) (X.2 (i + 4)) (nI 0)).1))) rfl rfl ?_
    refine zp_ifN_ne (tgt := 821) rfl rfl (by omega) (fun b806 => ?_) (fun b806 => ?_)
    · refine zp_goto (tgt := 2223) rfl rfl ?_
      exact nx _ _ _ _ (zl_step hv s2 g2 d3 (zW_op hW lg_7))
    · refine zp_aload_n (x := 189) rfl rfl ?_
      refine zp_iconst (v := (nI 0)) rfl (by decide +kernel) ?_
      refine zq_lald hS rfl (by first | assumption | exact ⟨by decide, rfl⟩) (by omega) (by first | decide | omega) ?_
      rw [o3 b806]
      refine zp_iload (x := ((z_op s (X.2 (i + 1)) 7 (X.2 (i + 2)) (X.2 (i + 3)) (X.2 (i + 4)) (nI 0)).2.1)) rfl rfl ?_
      refine zp_i2l rfl rfl ?_
      refine zp_lcmp rfl rfl ?_
      rw [lg_self]
      refine zp_ifT (tgt := 821) rfl rfl (by decide +kernel) ?_
      refine zp_goto (tgt := 2223) rfl rfl ?_
      exact nx _ _ _ _ (zl_step hv s2 g2 d3 (zW_op hW lg_7))
  · exact absurd rfl b799
theorem lc_8 {i n : Nat} {x5 x6 : Value} (hv : zl_V n s h) (hi : i + 6 ≤ X.1) (hX : X.1 ≤ 3072) (nx : ∀ s' h' x y, zl_V (n + 1) s' h' → zp_wp X y_Law_law 2223 [.retAddr 0, .ref 0, .ref 171, .ref 189, .int (nI i), x, y] [] h' Q) : zp_wp X y_Law_law 824 [.retAddr 0, .ref 0, .ref 171, .ref 189, .int (nI i), x5, x6] [] h Q := by
  have hS := hv.1.1
  have hW := hv.2.2.1
  have hB := hW.B
  have hbd : (z_op s (X.2 (i + 1)) 8 (X.2 (i + 2)) (X.2 (i + 3)) (X.2 (i + 4)) (X.2 (i + 5))).1 ≤ 3 := zb_op
  refine zp_aload_n (x := 0) rfl rfl ?_
  refine zp_sload_n rfl rfl ?_
  refine zp_iload (x := (nI i)) rfl rfl ?_
  refine zp_iconst (v := (nI 1)) rfl (by decide +kernel) ?_
  refine zp_iaddN rfl ?_
  refine zp_sald rfl (by omega) (by omega) ?_
  refine zp_sload_n rfl rfl ?_
  refine zp_iload (x := (nI i)) rfl rfl ?_
  refine zp_iconst (v := (nI 2)) rfl (by decide +kernel) ?_
  refine zp_iaddN rfl ?_
  refine zp_sald rfl (by omega) (by omega) ?_
  refine zp_sload_n rfl rfl ?_
  refine zp_iload (x := (nI i)) rfl rfl ?_
  refine zp_iconst (v := (nI 3)) rfl (by decide +kernel) ?_
  refine zp_iaddN rfl ?_
  refine zp_sald rfl (by omega) (by omega) ?_
  refine zp_sload_n rfl rfl ?_
  refine zp_iload (x := (nI i)) rfl rfl ?_
  refine zp_iconst (v := (nI 4)) rfl (by decide +kernel) ?_
  refine zp_iaddN rfl ?_
  refine zp_sald rfl (by omega) (by omega) ?_
  refine zp_sload_n rfl rfl ?_
  refine zp_iload (x := (nI i)) rfl rfl ?_
  refine zp_iconst (v := (nI 5)) rfl (by decide +kernel) ?_
  refine zp_iaddN rfl ?_
  refine zp_sald rfl (by omega) (by omega) ?_
  refine zp_aload_n (x := 189) rfl rfl ?_
  refine zp_call rfl rfl (s_Law_addUse hv.1 hW (fun h2 s2 g2 o2 => ?_))
  have hS := s2.1
  have r2 := g2.r hv.2.1 s2.1
  show zp_wp X y_Law_law 859 [.retAddr 0, .ref 0, .ref 171, .ref 189, .int (nI i), x5, x6] [.int (nI ((z_op s (X.2 (i + 1)) 8 (X.2 (i + 2)) (X.2 (i + 3)) (X.2 (i + 4)) (X.2 (i + 5))).1))] h2 Q
  refine zp_istore_5 rfl rfl ?_
  refine zp_aload_n (x := 171) rfl rfl ?_
  refine zp_sload_n rfl rfl ?_
  refine zp_iload (x := (nI i)) rfl rfl ?_
  refine zp_iconst (v := (nI 1)) rfl (by decide +kernel) ?_
  refine zp_iaddN rfl ?_
  refine zp_sald rfl (by omega) (by omega) ?_
  refine zp_sload_n rfl rfl ?_
  refine zp_iload (x := (nI i)) rfl rfl ?_
  refine zp_iconst (v := (nI 2)) rfl (by decide +kernel) ?_
  refine zp_iaddN rfl ?_
  refine zp_sald rfl (by omega) (by omega) ?_
  refine zp_sload_n rfl rfl ?_
  refine zp_iload (x := (nI i)) rfl rfl ?_
  refine zp_iconst (v := (nI 3)) rfl (by decide +kernel) ?_
  refine zp_iaddN rfl ?_
  refine zp_sald rfl (by omega) (by omega) ?_
  refine zp_sload_n rfl rfl ?_
  refine zp_iload (x := (nI i)) rfl rfl ?_
  refine zp_iconst (v := (nI 4)) rfl (by decide +kernel) ?_
  refine zp_iaddN rfl ?_
  refine zp_sald rfl (by omega) (by omega) ?_
  refine zp_sload_n rfl rfl ?_
  refine zp_iload (x := (nI i)) rfl rfl ?_
  refine zp_iconst (v := (nI 5)) rfl (by decide +kernel) ?_
  refine zp_iaddN rfl ?_
  refine zp_sald rfl (by omega) (by omega) ?_
  refine zq_virt hS rfl rfl (by first | assumption | exact ⟨by decide, rfl⟩) rfl (s_Mod_addUse r2 hB (fun h3 d3 => ?_))
  have hS := d3.1.1
  have o3 : (z_op s (X.2 (i + 1)) 8 (X.2 (i + 2)) (X.2 (i + 3)) (X.2 (i + 4)) (X.2 (i + 5))).1 = 0 → cj h3 189 0 = Int32.toInt64 (z_op s (X.2 (i + 1)) 8 (X.2 (i + 2)) (X.2 (i + 3)) (X.2 (i + 4)) (X.2 (i + 5))).2.1 := fun q => by rw [d3.2.1.gj (by decide)]; exact o2 q
  show zp_wp X y_Law_law 895 [.retAddr 0, .ref 0, .ref 171, .ref 189, .int (nI i), .int (nI ((z_op s (X.2 (i + 1)) 8 (X.2 (i + 2)) (X.2 (i + 3)) (X.2 (i + 4)) (X.2 (i + 5))).1)), x6] [.int ((z_op s (X.2 (i + 1)) 8 (X.2 (i + 2)) (X.2 (i + 3)) (X.2 (i + 4)) (X.2 (i + 5))).2.1)] h3 Q
  refine zp_istore_6 rfl rfl ?_
  refine zp_aload_n (x := 171) rfl rfl ?_
  refine zq_virt hS rfl rfl (by first | assumption | exact ⟨by decide, rfl⟩) rfl (s_Mod_thrown hS ?_)
  rw [d3.2.2]
  show zp_wp X y_Law_law 901 [.retAddr 0, .ref 0, .ref 171, .ref 189, .int (nI i), .int (nI ((z_op s (X.2 (i + 1)) 8 (X.2 (i + 2)) (X.2 (i + 3)) (X.2 (i + 4)) (X.2 (i + 5))).1)), .int ((z_op s (X.2 (i + 1)) 8 (X.2 (i + 2)) (X.2 (i + 3)) (X.2 (i + 4)) (X.2 (i + 5))).2.1)] [.int (nI ((z_op s (X.2 (i + 1)) 8 (X.2 (i + 2)) (X.2 (i + 3)) (X.2 (i + 4)) (X.2 (i + 5))).1))] h3 Q
  refine zp_iload (x := (nI ((z_op s (X.2 (i + 1)) 8 (X.2 (i + 2)) (X.2 (i + 3)) (X.2 (i + 4)) (X.2 (i + 5))).1))) rfl rfl ?_
  refine zp_icmpN_eq (tgt := 908) rfl rfl (by omega) (by omega) (fun b903 => ?_) (fun b903 => ?_)
  · refine zp_iload (x := (nI ((z_op s (X.2 (i + 1)) 8 (X.2 (i + 2)) (X.2 (i + 3)) (X.2 (i + 4)) (X.2 (i + 5))).1))) rfl rfl ?_
    refine zp_ifN_ne (tgt := 925) rfl rfl (by omega) (fun b910 => ?_) (fun b910 => ?_)
    · refine zp_goto (tgt := 2223) rfl rfl ?_
      exact nx _ _ _ _ (zl_step hv s2 g2 d3 (zW_op hW lg_8))
    · refine zp_aload_n (x := 189) rfl rfl ?_
      refine zp_iconst (v := (nI 0)) rfl (by decide +kernel) ?_
      refine zq_lald hS rfl (by first | assumption | exact ⟨by decide, rfl⟩) (by omega) (by first | decide | omega) ?_
      rw [o3 b910]
      refine zp_iload (x := ((z_op s (X.2 (i + 1)) 8 (X.2 (i + 2)) (X.2 (i + 3)) (X.2 (i + 4)) (X.2 (i + 5))).2.1)) rfl rfl ?_
      refine zp_i2l rfl rfl ?_
      refine zp_lcmp rfl rfl ?_
      rw [lg_self]
      refine zp_ifT (tgt := 925) rfl rfl (by decide +kernel) ?_
      refine zp_goto (tgt := 2223) rfl rfl ?_
      exact nx _ _ _ _ (zl_step hv s2 g2 d3 (zW_op hW lg_8))
  · exact absurd rfl b903
theorem lc_9 {i n : Nat} {x5 x6 : Value} (hv : zl_V n s h) (hi : i + 6 ≤ X.1) (hX : X.1 ≤ 3072) (nx : ∀ s' h' x y, zl_V (n + 1) s' h' → zp_wp X y_Law_law 2223 [.retAddr 0, .ref 0, .ref 171, .ref 189, .int (nI i), x, y] [] h' Q) : zp_wp X y_Law_law 928 [.retAddr 0, .ref 0, .ref 171, .ref 189, .int (nI i), x5, x6] [] h Q := by
  have hS := hv.1.1
  have hW := hv.2.2.1
  have hB := hW.B
  have hbd : (z_op s (X.2 (i + 1)) 9 (X.2 (i + 2)) (X.2 (i + 3)) (X.2 (i + 4)) (X.2 (i + 5))).1 ≤ 3 := zb_op
  refine zp_aload_n (x := 0) rfl rfl ?_
  refine zp_sload_n rfl rfl ?_
  refine zp_iload (x := (nI i)) rfl rfl ?_
  refine zp_iconst (v := (nI 1)) rfl (by decide +kernel) ?_
  refine zp_iaddN rfl ?_
  refine zp_sald rfl (by omega) (by omega) ?_
  refine zp_sload_n rfl rfl ?_
  refine zp_iload (x := (nI i)) rfl rfl ?_
  refine zp_iconst (v := (nI 2)) rfl (by decide +kernel) ?_
  refine zp_iaddN rfl ?_
  refine zp_sald rfl (by omega) (by omega) ?_
  refine zp_sload_n rfl rfl ?_
  refine zp_iload (x := (nI i)) rfl rfl ?_
  refine zp_iconst (v := (nI 3)) rfl (by decide +kernel) ?_
  refine zp_iaddN rfl ?_
  refine zp_sald rfl (by omega) (by omega) ?_
  refine zp_sload_n rfl rfl ?_
  refine zp_iload (x := (nI i)) rfl rfl ?_
  refine zp_iconst (v := (nI 4)) rfl (by decide +kernel) ?_
  refine zp_iaddN rfl ?_
  refine zp_sald rfl (by omega) (by omega) ?_
  refine zp_sload_n rfl rfl ?_
  refine zp_iload (x := (nI i)) rfl rfl ?_
  refine zp_iconst (v := (nI 5)) rfl (by decide +kernel) ?_
  refine zp_iaddN rfl ?_
  refine zp_sald rfl (by omega) (by omega) ?_
  refine zp_aload_n (x := 189) rfl rfl ?_
  refine zp_call rfl rfl (s_Law_removeUse hv.1 hW (fun h2 s2 g2 o2 => ?_))
  have hS := s2.1
  have r2 := g2.r hv.2.1 s2.1
  show zp_wp X y_Law_law 963 [.retAddr 0, .ref 0, .ref 171, .ref 189, .int (nI i), x5, x6] [.int (nI ((z_op s (X.2 (i + 1)) 9 (X.2 (i + 2)) (X.2 (i + 3)) (X.2 (i + 4)) (X.2 (i + 5))).1))] h2 Q
  refine zp_istore_5 rfl rfl ?_
  refine zp_aload_n (x := 171) rfl rfl ?_
  refine zp_sload_n rfl rfl ?_
  refine zp_iload (x := (nI i)) rfl rfl ?_
  refine zp_iconst (v := (nI 1)) rfl (by decide +kernel) ?_
  refine zp_iaddN rfl ?_
  refine zp_sald rfl (by omega) (by omega) ?_
  refine zp_sload_n rfl rfl ?_
  refine zp_iload (x := (nI i)) rfl rfl ?_
  refine zp_iconst (v := (nI 2)) rfl (by decide +kernel) ?_
  refine zp_iaddN rfl ?_
  refine zp_sald rfl (by omega) (by omega) ?_
  refine zp_sload_n rfl rfl ?_
  refine zp_iload (x := (nI i)) rfl rfl ?_
  refine zp_iconst (v := (nI 3)) rfl (by decide +kernel) ?_
  refine zp_iaddN rfl ?_
  refine zp_sald rfl (by omega) (by omega) ?_
  refine zp_sload_n rfl rfl ?_
  refine zp_iload (x := (nI i)) rfl rfl ?_
  refine zp_iconst (v := (nI 4)) rfl (by decide +kernel) ?_
  refine zp_iaddN rfl ?_
  refine zp_sald rfl (by omega) (by omega) ?_
  refine zp_sload_n rfl rfl ?_
  refine zp_iload (x := (nI i)) rfl rfl ?_
  refine zp_iconst (v := (nI 5)) rfl (by decide +kernel) ?_
  refine zp_iaddN rfl ?_
  refine zp_sald rfl (by omega) (by omega) ?_
  refine zq_virt hS rfl rfl (by first | assumption | exact ⟨by decide, rfl⟩) rfl (s_Mod_removeUse r2 hB (fun h3 d3 => ?_))
  have hS := d3.1.1
  have o3 : (z_op s (X.2 (i + 1)) 9 (X.2 (i + 2)) (X.2 (i + 3)) (X.2 (i + 4)) (X.2 (i + 5))).1 = 0 → cj h3 189 0 = Int32.toInt64 (z_op s (X.2 (i + 1)) 9 (X.2 (i + 2)) (X.2 (i + 3)) (X.2 (i + 4)) (X.2 (i + 5))).2.1 := fun q => by rw [d3.2.1.gj (by decide)]; exact o2 q
  show zp_wp X y_Law_law 999 [.retAddr 0, .ref 0, .ref 171, .ref 189, .int (nI i), .int (nI ((z_op s (X.2 (i + 1)) 9 (X.2 (i + 2)) (X.2 (i + 3)) (X.2 (i + 4)) (X.2 (i + 5))).1)), x6] [.int ((z_op s (X.2 (i + 1)) 9 (X.2 (i + 2)) (X.2 (i + 3)) (X.2 (i + 4)) (X.2 (i + 5))).2.1)] h3 Q
  refine zp_istore_6 rfl rfl ?_
  refine zp_aload_n (x := 171) rfl rfl ?_
  refine zq_virt hS rfl rfl (by first | assumption | exact ⟨by decide, rfl⟩) rfl (s_Mod_thrown hS ?_)
  rw [d3.2.2]
  show zp_wp X y_Law_law 1005 [.retAddr 0, .ref 0, .ref 171, .ref 189, .int (nI i), .int (nI ((z_op s (X.2 (i + 1)) 9 (X.2 (i + 2)) (X.2 (i + 3)) (X.2 (i + 4)) (X.2 (i + 5))).1)), .int ((z_op s (X.2 (i + 1)) 9 (X.2 (i + 2)) (X.2 (i + 3)) (X.2 (i + 4)) (X.2 (i + 5))).2.1)] [.int (nI ((z_op s (X.2 (i + 1)) 9 (X.2 (i + 2)) (X.2 (i + 3)) (X.2 (i + 4)) (X.2 (i + 5))).1))] h3 Q
  refine zp_iload (x := (nI ((z_op s (X.2 (i + 1)) 9 (X.2 (i + 2)) (X.2 (i + 3)) (X.2 (i + 4)) (X.2 (i + 5))).1))) rfl rfl ?_
  refine zp_icmpN_eq (tgt := 1012) rfl rfl (by omega) (by omega) (fun b1007 => ?_) (fun b1007 => ?_)
  · refine zp_iload (x := (nI ((z_op s (X.2 (i + 1)) 9 (X.2 (i + 2)) (X.2 (i + 3)) (X.2 (i + 4)) (X.2 (i + 5))).1))) rfl rfl ?_
    refine zp_ifN_ne (tgt := 1029) rfl rfl (by omega) (fun b1014 => ?_) (fun b1014 => ?_)
    · refine zp_goto (tgt := 2223) rfl rfl ?_
      exact nx _ _ _ _ (zl_step hv s2 g2 d3 (zW_op hW lg_9))
    · refine zp_aload_n (x := 189) rfl rfl ?_
      refine zp_iconst (v := (nI 0)) rfl (by decide +kernel) ?_
      refine zq_lald hS rfl (by first | assumption | exact ⟨by decide, rfl⟩) (by omega) (by first | decide | omega) ?_
      rw [o3 b1014]
      refine zp_iload (x := ((z_op s (X.2 (i + 1)) 9 (X.2 (i + 2)) (X.2 (i + 3)) (X.2 (i + 4)) (X.2 (i + 5))).2.1)) rfl rfl ?_
      refine zp_i2l rfl rfl ?_
      refine zp_lcmp rfl rfl ?_
      rw [lg_self]
      refine zp_ifT (tgt := 1029) rfl rfl (by decide +kernel) ?_
      refine zp_goto (tgt := 2223) rfl rfl ?_
      exact nx _ _ _ _ (zl_step hv s2 g2 d3 (zW_op hW lg_9))
  · exact absurd rfl b1007
theorem lc_10 {i n : Nat} {x5 x6 : Value} (hv : zl_V n s h) (hi : i + 6 ≤ X.1) (hX : X.1 ≤ 3072) (nx : ∀ s' h' x y, zl_V (n + 1) s' h' → zp_wp X y_Law_law 2223 [.retAddr 0, .ref 0, .ref 171, .ref 189, .int (nI i), x, y] [] h' Q) : zp_wp X y_Law_law 1032 [.retAddr 0, .ref 0, .ref 171, .ref 189, .int (nI i), x5, x6] [] h Q := by
  have hS := hv.1.1
  have hW := hv.2.2.1
  have hB := hW.B
  have hbd : (z_classes s (X.2 (i + 1))).1 ≤ 1 := zb_classes
  refine zp_aload_n (x := 0) rfl rfl ?_
  refine zp_sload_n rfl rfl ?_
  refine zp_iload (x := (nI i)) rfl rfl ?_
  refine zp_iconst (v := (nI 1)) rfl (by decide +kernel) ?_
  refine zp_iaddN rfl ?_
  refine zp_sald rfl (by omega) (by omega) ?_
  refine zp_aload_n (x := 189) rfl rfl ?_
  refine zp_call rfl rfl (s_Law_classes hv.1 hW (fun h2 s2 g2 o2 => ?_))
  have hS := s2.1
  have r2 := g2.r hv.2.1 s2.1
  show zp_wp X y_Law_law 1043 [.retAddr 0, .ref 0, .ref 171, .ref 189, .int (nI i), x5, x6] [.int (nI ((z_classes s (X.2 (i + 1))).1))] h2 Q
  refine zp_istore_5 rfl rfl ?_
  refine zp_aload_n (x := 171) rfl rfl ?_
  refine zp_sload_n rfl rfl ?_
  refine zp_iload (x := (nI i)) rfl rfl ?_
  refine zp_iconst (v := (nI 1)) rfl (by decide +kernel) ?_
  refine zp_iaddN rfl ?_
  refine zp_sald rfl (by omega) (by omega) ?_
  refine zq_virt hS rfl rfl (by first | assumption | exact ⟨by decide, rfl⟩) rfl (s_Mod_classes r2 hB (fun h3 d3 => ?_))
  have hS := d3.1.1
  have o3 : (z_classes s (X.2 (i + 1))).1 = 0 → cj h3 189 0 = Int32.toInt64 (z_classes s (X.2 (i + 1))).2.1 := fun q => by rw [d3.2.1.gj (by decide)]; exact o2 q
  show zp_wp X y_Law_law 1055 [.retAddr 0, .ref 0, .ref 171, .ref 189, .int (nI i), .int (nI ((z_classes s (X.2 (i + 1))).1)), x6] [.int ((z_classes s (X.2 (i + 1))).2.1)] h3 Q
  refine zp_istore_6 rfl rfl ?_
  refine zp_aload_n (x := 171) rfl rfl ?_
  refine zq_virt hS rfl rfl (by first | assumption | exact ⟨by decide, rfl⟩) rfl (s_Mod_thrown hS ?_)
  rw [d3.2.2]
  show zp_wp X y_Law_law 1061 [.retAddr 0, .ref 0, .ref 171, .ref 189, .int (nI i), .int (nI ((z_classes s (X.2 (i + 1))).1)), .int ((z_classes s (X.2 (i + 1))).2.1)] [.int (nI ((z_classes s (X.2 (i + 1))).1))] h3 Q
  refine zp_iload (x := (nI ((z_classes s (X.2 (i + 1))).1))) rfl rfl ?_
  refine zp_icmpN_eq (tgt := 1068) rfl rfl (by omega) (by omega) (fun b1063 => ?_) (fun b1063 => ?_)
  · refine zp_iload (x := (nI ((z_classes s (X.2 (i + 1))).1))) rfl rfl ?_
    refine zp_ifN_ne (tgt := 1085) rfl rfl (by omega) (fun b1070 => ?_) (fun b1070 => ?_)
    · refine zp_goto (tgt := 2223) rfl rfl ?_
      exact nx _ _ _ _ (zl_step hv s2 g2 d3 (zW_classes hW))
    · refine zp_aload_n (x := 189) rfl rfl ?_
      refine zp_iconst (v := (nI 0)) rfl (by decide +kernel) ?_
      refine zq_lald hS rfl (by first | assumption | exact ⟨by decide, rfl⟩) (by omega) (by first | decide | omega) ?_
      rw [o3 b1070]
      refine zp_iload (x := ((z_classes s (X.2 (i + 1))).2.1)) rfl rfl ?_
      refine zp_i2l rfl rfl ?_
      refine zp_lcmp rfl rfl ?_
      rw [lg_self]
      refine zp_ifT (tgt := 1085) rfl rfl (by decide +kernel) ?_
      refine zp_goto (tgt := 2223) rfl rfl ?_
      exact nx _ _ _ _ (zl_step hv s2 g2 d3 (zW_classes hW))
  · exact absurd rfl b1063
theorem lc_11 {i n : Nat} {x5 x6 : Value} (hv : zl_V n s h) (hi : i + 6 ≤ X.1) (hX : X.1 ≤ 3072) (nx : ∀ s' h' x y, zl_V (n + 1) s' h' → zp_wp X y_Law_law 2223 [.retAddr 0, .ref 0, .ref 171, .ref 189, .int (nI i), x, y] [] h' Q) : zp_wp X y_Law_law 1088 [.retAddr 0, .ref 0, .ref 171, .ref 189, .int (nI i), x5, x6] [] h Q := by
  have hS := hv.1.1
  have hW := hv.2.2.1
  have hB := hW.B
  have hbd : (z_className s (X.2 (i + 1)) (X.2 (i + 2))).1 ≤ 1 := zb_className
  refine zp_aload_n (x := 0) rfl rfl ?_
  refine zp_sload_n rfl rfl ?_
  refine zp_iload (x := (nI i)) rfl rfl ?_
  refine zp_iconst (v := (nI 1)) rfl (by decide +kernel) ?_
  refine zp_iaddN rfl ?_
  refine zp_sald rfl (by omega) (by omega) ?_
  refine zp_sload_n rfl rfl ?_
  refine zp_iload (x := (nI i)) rfl rfl ?_
  refine zp_iconst (v := (nI 2)) rfl (by decide +kernel) ?_
  refine zp_iaddN rfl ?_
  refine zp_sald rfl (by omega) (by omega) ?_
  refine zp_aload_n (x := 189) rfl rfl ?_
  refine zp_call rfl rfl (s_Law_className hv.1 hW (fun h2 s2 g2 o2 => ?_))
  have hS := s2.1
  have r2 := g2.r hv.2.1 s2.1
  show zp_wp X y_Law_law 1105 [.retAddr 0, .ref 0, .ref 171, .ref 189, .int (nI i), x5, x6] [.int (nI ((z_className s (X.2 (i + 1)) (X.2 (i + 2))).1))] h2 Q
  refine zp_istore_5 rfl rfl ?_
  refine zp_aload_n (x := 171) rfl rfl ?_
  refine zp_sload_n rfl rfl ?_
  refine zp_iload (x := (nI i)) rfl rfl ?_
  refine zp_iconst (v := (nI 1)) rfl (by decide +kernel) ?_
  refine zp_iaddN rfl ?_
  refine zp_sald rfl (by omega) (by omega) ?_
  refine zp_sload_n rfl rfl ?_
  refine zp_iload (x := (nI i)) rfl rfl ?_
  refine zp_iconst (v := (nI 2)) rfl (by decide +kernel) ?_
  refine zp_iaddN rfl ?_
  refine zp_sald rfl (by omega) (by omega) ?_
  refine zq_virt hS rfl rfl (by first | assumption | exact ⟨by decide, rfl⟩) rfl (s_Mod_className r2 hB (fun h3 d3 => ?_))
  have hS := d3.1.1
  have o3 : (z_className s (X.2 (i + 1)) (X.2 (i + 2))).1 = 0 → cj h3 189 0 = Int32.toInt64 (z_className s (X.2 (i + 1)) (X.2 (i + 2))).2.1 := fun q => by rw [d3.2.1.gj (by decide)]; exact o2 q
  show zp_wp X y_Law_law 1123 [.retAddr 0, .ref 0, .ref 171, .ref 189, .int (nI i), .int (nI ((z_className s (X.2 (i + 1)) (X.2 (i + 2))).1)), x6] [.int ((z_className s (X.2 (i + 1)) (X.2 (i + 2))).2.1)] h3 Q
  refine zp_istore_6 rfl rfl ?_
  refine zp_aload_n (x := 171) rfl rfl ?_
  refine zq_virt hS rfl rfl (by first | assumption | exact ⟨by decide, rfl⟩) rfl (s_Mod_thrown hS ?_)
  rw [d3.2.2]
  show zp_wp X y_Law_law 1129 [.retAddr 0, .ref 0, .ref 171, .ref 189, .int (nI i), .int (nI ((z_className s (X.2 (i + 1)) (X.2 (i + 2))).1)), .int ((z_className s (X.2 (i + 1)) (X.2 (i + 2))).2.1)] [.int (nI ((z_className s (X.2 (i + 1)) (X.2 (i + 2))).1))] h3 Q
  refine zp_iload (x := (nI ((z_className s (X.2 (i + 1)) (X.2 (i + 2))).1))) rfl rfl ?_
  refine zp_icmpN_eq (tgt := 1136) rfl rfl (by omega) (by omega) (fun b1131 => ?_) (fun b1131 => ?_)
  · refine zp_iload (x := (nI ((z_className s (X.2 (i + 1)) (X.2 (i + 2))).1))) rfl rfl ?_
    refine zp_ifN_ne (tgt := 1153) rfl rfl (by omega) (fun b1138 => ?_) (fun b1138 => ?_)
    · refine zp_goto (tgt := 2223) rfl rfl ?_
      exact nx _ _ _ _ (zl_step hv s2 g2 d3 (zW_className hW))
    · refine zp_aload_n (x := 189) rfl rfl ?_
      refine zp_iconst (v := (nI 0)) rfl (by decide +kernel) ?_
      refine zq_lald hS rfl (by first | assumption | exact ⟨by decide, rfl⟩) (by omega) (by first | decide | omega) ?_
      rw [o3 b1138]
      refine zp_iload (x := ((z_className s (X.2 (i + 1)) (X.2 (i + 2))).2.1)) rfl rfl ?_
      refine zp_i2l rfl rfl ?_
      refine zp_lcmp rfl rfl ?_
      rw [lg_self]
      refine zp_ifT (tgt := 1153) rfl rfl (by decide +kernel) ?_
      refine zp_goto (tgt := 2223) rfl rfl ?_
      exact nx _ _ _ _ (zl_step hv s2 g2 d3 (zW_className hW))
  · exact absurd rfl b1131
theorem lc_12 {i n : Nat} {x5 x6 : Value} (hv : zl_V n s h) (hi : i + 6 ≤ X.1) (hX : X.1 ≤ 3072) (nx : ∀ s' h' x y, zl_V (n + 1) s' h' → zp_wp X y_Law_law 2223 [.retAddr 0, .ref 0, .ref 171, .ref 189, .int (nI i), x, y] [] h' Q) : zp_wp X y_Law_law 1156 [.retAddr 0, .ref 0, .ref 171, .ref 189, .int (nI i), x5, x6] [] h Q := by
  have hS := hv.1.1
  have hW := hv.2.2.1
  have hB := hW.B
  have hbd : (z_superOf s (X.2 (i + 1)) (X.2 (i + 2))).1 ≤ 2 := zb_look
  refine zp_aload_n (x := 0) rfl rfl ?_
  refine zp_sload_n rfl rfl ?_
  refine zp_iload (x := (nI i)) rfl rfl ?_
  refine zp_iconst (v := (nI 1)) rfl (by decide +kernel) ?_
  refine zp_iaddN rfl ?_
  refine zp_sald rfl (by omega) (by omega) ?_
  refine zp_sload_n rfl rfl ?_
  refine zp_iload (x := (nI i)) rfl rfl ?_
  refine zp_iconst (v := (nI 2)) rfl (by decide +kernel) ?_
  refine zp_iaddN rfl ?_
  refine zp_sald rfl (by omega) (by omega) ?_
  refine zp_aload_n (x := 189) rfl rfl ?_
  refine zp_call rfl rfl (s_Law_superOf hv.1 hW (fun h2 s2 g2 o2 => ?_))
  have hS := s2.1
  have r2 := g2.r hv.2.1 s2.1
  show zp_wp X y_Law_law 1173 [.retAddr 0, .ref 0, .ref 171, .ref 189, .int (nI i), x5, x6] [.int (nI ((z_superOf s (X.2 (i + 1)) (X.2 (i + 2))).1))] h2 Q
  refine zp_istore_5 rfl rfl ?_
  refine zp_aload_n (x := 171) rfl rfl ?_
  refine zp_sload_n rfl rfl ?_
  refine zp_iload (x := (nI i)) rfl rfl ?_
  refine zp_iconst (v := (nI 1)) rfl (by decide +kernel) ?_
  refine zp_iaddN rfl ?_
  refine zp_sald rfl (by omega) (by omega) ?_
  refine zp_sload_n rfl rfl ?_
  refine zp_iload (x := (nI i)) rfl rfl ?_
  refine zp_iconst (v := (nI 2)) rfl (by decide +kernel) ?_
  refine zp_iaddN rfl ?_
  refine zp_sald rfl (by omega) (by omega) ?_
  refine zq_virt hS rfl rfl (by first | assumption | exact ⟨by decide, rfl⟩) rfl (s_Mod_superOf r2 hB (fun h3 d3 => ?_))
  have hS := d3.1.1
  have o3 : (z_superOf s (X.2 (i + 1)) (X.2 (i + 2))).1 = 0 → cj h3 189 0 = Int32.toInt64 (z_superOf s (X.2 (i + 1)) (X.2 (i + 2))).2.1 := fun q => by rw [d3.2.1.gj (by decide)]; exact o2 q
  show zp_wp X y_Law_law 1191 [.retAddr 0, .ref 0, .ref 171, .ref 189, .int (nI i), .int (nI ((z_superOf s (X.2 (i + 1)) (X.2 (i + 2))).1)), x6] [.int ((z_superOf s (X.2 (i + 1)) (X.2 (i + 2))).2.1)] h3 Q
  refine zp_istore_6 rfl rfl ?_
  refine zp_aload_n (x := 171) rfl rfl ?_
  refine zq_virt hS rfl rfl (by first | assumption | exact ⟨by decide, rfl⟩) rfl (s_Mod_thrown hS ?_)
  rw [d3.2.2]
  show zp_wp X y_Law_law 1197 [.retAddr 0, .ref 0, .ref 171, .ref 189, .int (nI i), .int (nI ((z_superOf s (X.2 (i + 1)) (X.2 (i + 2))).1)), .int ((z_superOf s (X.2 (i + 1)) (X.2 (i + 2))).2.1)] [.int (nI ((z_superOf s (X.2 (i + 1)) (X.2 (i + 2))).1))] h3 Q
  refine zp_iload (x := (nI ((z_superOf s (X.2 (i + 1)) (X.2 (i + 2))).1))) rfl rfl ?_
  refine zp_icmpN_eq (tgt := 1204) rfl rfl (by omega) (by omega) (fun b1199 => ?_) (fun b1199 => ?_)
  · refine zp_iload (x := (nI ((z_superOf s (X.2 (i + 1)) (X.2 (i + 2))).1))) rfl rfl ?_
    refine zp_ifN_ne (tgt := 1221) rfl rfl (by omega) (fun b1206 => ?_) (fun b1206 => ?_)
    · refine zp_goto (tgt := 2223) rfl rfl ?_
      exact nx _ _ _ _ (zl_step hv s2 g2 d3 (zW_superOf hW))
    · refine zp_aload_n (x := 189) rfl rfl ?_
      refine zp_iconst (v := (nI 0)) rfl (by decide +kernel) ?_
      refine zq_lald hS rfl (by first | assumption | exact ⟨by decide, rfl⟩) (by omega) (by first | decide | omega) ?_
      rw [o3 b1206]
      refine zp_iload (x := ((z_superOf s (X.2 (i + 1)) (X.2 (i + 2))).2.1)) rfl rfl ?_
      refine zp_i2l rfl rfl ?_
      refine zp_lcmp rfl rfl ?_
      rw [lg_self]
      refine zp_ifT (tgt := 1221) rfl rfl (by decide +kernel) ?_
      refine zp_goto (tgt := 2223) rfl rfl ?_
      exact nx _ _ _ _ (zl_step hv s2 g2 d3 (zW_superOf hW))
  · exact absurd rfl b1199
theorem lc_13 {i n : Nat} {x5 x6 : Value} (hv : zl_V n s h) (hi : i + 6 ≤ X.1) (hX : X.1 ≤ 3072) (nx : ∀ s' h' x y, zl_V (n + 1) s' h' → zp_wp X y_Law_law 2223 [.retAddr 0, .ref 0, .ref 171, .ref 189, .int (nI i), x, y] [] h' Q) : zp_wp X y_Law_law 1224 [.retAddr 0, .ref 0, .ref 171, .ref 189, .int (nI i), x5, x6] [] h Q := by
  have hS := hv.1.1
  have hW := hv.2.2.1
  have hB := hW.B
  have hbd : (z_members s (X.2 (i + 1)) (X.2 (i + 2))).1 ≤ 2 := zb_look
  refine zp_aload_n (x := 0) rfl rfl ?_
  refine zp_sload_n rfl rfl ?_
  refine zp_iload (x := (nI i)) rfl rfl ?_
  refine zp_iconst (v := (nI 1)) rfl (by decide +kernel) ?_
  refine zp_iaddN rfl ?_
  refine zp_sald rfl (by omega) (by omega) ?_
  refine zp_sload_n rfl rfl ?_
  refine zp_iload (x := (nI i)) rfl rfl ?_
  refine zp_iconst (v := (nI 2)) rfl (by decide +kernel) ?_
  refine zp_iaddN rfl ?_
  refine zp_sald rfl (by omega) (by omega) ?_
  refine zp_aload_n (x := 189) rfl rfl ?_
  refine zp_call rfl rfl (s_Law_members hv.1 hW (fun h2 s2 g2 o2 => ?_))
  have hS := s2.1
  have r2 := g2.r hv.2.1 s2.1
  show zp_wp X y_Law_law 1241 [.retAddr 0, .ref 0, .ref 171, .ref 189, .int (nI i), x5, x6] [.int (nI ((z_members s (X.2 (i + 1)) (X.2 (i + 2))).1))] h2 Q
  refine zp_istore_5 rfl rfl ?_
  refine zp_aload_n (x := 171) rfl rfl ?_
  refine zp_sload_n rfl rfl ?_
  refine zp_iload (x := (nI i)) rfl rfl ?_
  refine zp_iconst (v := (nI 1)) rfl (by decide +kernel) ?_
  refine zp_iaddN rfl ?_
  refine zp_sald rfl (by omega) (by omega) ?_
  refine zp_sload_n rfl rfl ?_
  refine zp_iload (x := (nI i)) rfl rfl ?_
  refine zp_iconst (v := (nI 2)) rfl (by decide +kernel) ?_
  refine zp_iaddN rfl ?_
  refine zp_sald rfl (by omega) (by omega) ?_
  refine zq_virt hS rfl rfl (by first | assumption | exact ⟨by decide, rfl⟩) rfl (s_Mod_members r2 hB (fun h3 d3 => ?_))
  have hS := d3.1.1
  have o3 : (z_members s (X.2 (i + 1)) (X.2 (i + 2))).1 = 0 → cj h3 189 0 = Int32.toInt64 (z_members s (X.2 (i + 1)) (X.2 (i + 2))).2.1 := fun q => by rw [d3.2.1.gj (by decide)]; exact o2 q
  show zp_wp X y_Law_law 1259 [.retAddr 0, .ref 0, .ref 171, .ref 189, .int (nI i), .int (nI ((z_members s (X.2 (i + 1)) (X.2 (i + 2))).1)), x6] [.int ((z_members s (X.2 (i + 1)) (X.2 (i + 2))).2.1)] h3 Q
  refine zp_istore_6 rfl rfl ?_
  refine zp_aload_n (x := 171) rfl rfl ?_
  refine zq_virt hS rfl rfl (by first | assumption | exact ⟨by decide, rfl⟩) rfl (s_Mod_thrown hS ?_)
  rw [d3.2.2]
  show zp_wp X y_Law_law 1265 [.retAddr 0, .ref 0, .ref 171, .ref 189, .int (nI i), .int (nI ((z_members s (X.2 (i + 1)) (X.2 (i + 2))).1)), .int ((z_members s (X.2 (i + 1)) (X.2 (i + 2))).2.1)] [.int (nI ((z_members s (X.2 (i + 1)) (X.2 (i + 2))).1))] h3 Q
  refine zp_iload (x := (nI ((z_members s (X.2 (i + 1)) (X.2 (i + 2))).1))) rfl rfl ?_
  refine zp_icmpN_eq (tgt := 1272) rfl rfl (by omega) (by omega) (fun b1267 => ?_) (fun b1267 => ?_)
  · refine zp_iload (x := (nI ((z_members s (X.2 (i + 1)) (X.2 (i + 2))).1))) rfl rfl ?_
    refine zp_ifN_ne (tgt := 1289) rfl rfl (by omega) (fun b1274 => ?_) (fun b1274 => ?_)
    · refine zp_goto (tgt := 2223) rfl rfl ?_
      exact nx _ _ _ _ (zl_step hv s2 g2 d3 (zW_members hW))
    · refine zp_aload_n (x := 189) rfl rfl ?_
      refine zp_iconst (v := (nI 0)) rfl (by decide +kernel) ?_
      refine zq_lald hS rfl (by first | assumption | exact ⟨by decide, rfl⟩) (by omega) (by first | decide | omega) ?_
      rw [o3 b1274]
      refine zp_iload (x := ((z_members s (X.2 (i + 1)) (X.2 (i + 2))).2.1)) rfl rfl ?_
      refine zp_i2l rfl rfl ?_
      refine zp_lcmp rfl rfl ?_
      rw [lg_self]
      refine zp_ifT (tgt := 1289) rfl rfl (by decide +kernel) ?_
      refine zp_goto (tgt := 2223) rfl rfl ?_
      exact nx _ _ _ _ (zl_step hv s2 g2 d3 (zW_members hW))
  · exact absurd rfl b1267
theorem lc_14 {i n : Nat} {x5 x6 : Value} (hv : zl_V n s h) (hi : i + 6 ≤ X.1) (hX : X.1 ≤ 3072) (nx : ∀ s' h' x y, zl_V (n + 1) s' h' → zp_wp X y_Law_law 2223 [.retAddr 0, .ref 0, .ref 171, .ref 189, .int (nI i), x, y] [] h' Q) : zp_wp X y_Law_law 1292 [.retAddr 0, .ref 0, .ref 171, .ref 189, .int (nI i), x5, x6] [] h Q := by
  have hS := hv.1.1
  have hW := hv.2.2.1
  have hB := hW.B
  have hbd : (z_uses s (X.2 (i + 1))).1 ≤ 1 := zb_uses
  refine zp_aload_n (x := 0) rfl rfl ?_
  refine zp_sload_n rfl rfl ?_
  refine zp_iload (x := (nI i)) rfl rfl ?_
  refine zp_iconst (v := (nI 1)) rfl (by decide +kernel) ?_
  refine zp_iaddN rfl ?_
  refine zp_sald rfl (by omega) (by omega) ?_
  refine zp_aload_n (x := 189) rfl rfl ?_
  refine zp_call rfl rfl (s_Law_uses hv.1 hW (fun h2 s2 g2 o2 => ?_))
  have hS := s2.1
  have r2 := g2.r hv.2.1 s2.1
  show zp_wp X y_Law_law 1303 [.retAddr 0, .ref 0, .ref 171, .ref 189, .int (nI i), x5, x6] [.int (nI ((z_uses s (X.2 (i + 1))).1))] h2 Q
  refine zp_istore_5 rfl rfl ?_
  refine zp_aload_n (x := 171) rfl rfl ?_
  refine zp_sload_n rfl rfl ?_
  refine zp_iload (x := (nI i)) rfl rfl ?_
  refine zp_iconst (v := (nI 1)) rfl (by decide +kernel) ?_
  refine zp_iaddN rfl ?_
  refine zp_sald rfl (by omega) (by omega) ?_
  refine zq_virt hS rfl rfl (by first | assumption | exact ⟨by decide, rfl⟩) rfl (s_Mod_uses r2 hB (fun h3 d3 => ?_))
  have hS := d3.1.1
  have o3 : (z_uses s (X.2 (i + 1))).1 = 0 → cj h3 189 0 = Int32.toInt64 (z_uses s (X.2 (i + 1))).2.1 := fun q => by rw [d3.2.1.gj (by decide)]; exact o2 q
  show zp_wp X y_Law_law 1315 [.retAddr 0, .ref 0, .ref 171, .ref 189, .int (nI i), .int (nI ((z_uses s (X.2 (i + 1))).1)), x6] [.int ((z_uses s (X.2 (i + 1))).2.1)] h3 Q
  refine zp_istore_6 rfl rfl ?_
  refine zp_aload_n (x := 171) rfl rfl ?_
  refine zq_virt hS rfl rfl (by first | assumption | exact ⟨by decide, rfl⟩) rfl (s_Mod_thrown hS ?_)
  rw [d3.2.2]
  show zp_wp X y_Law_law 1321 [.retAddr 0, .ref 0, .ref 171, .ref 189, .int (nI i), .int (nI ((z_uses s (X.2 (i + 1))).1)), .int ((z_uses s (X.2 (i + 1))).2.1)] [.int (nI ((z_uses s (X.2 (i + 1))).1))] h3 Q
  refine zp_iload (x := (nI ((z_uses s (X.2 (i + 1))).1))) rfl rfl ?_
  refine zp_icmpN_eq (tgt := 1328) rfl rfl (by omega) (by omega) (fun b1323 => ?_) (fun b1323 => ?_)
  · refine zp_iload (x := (nI ((z_uses s (X.2 (i + 1))).1))) rfl rfl ?_
    refine zp_ifN_ne (tgt := 1345) rfl rfl (by omega) (fun b1330 => ?_) (fun b1330 => ?_)
    · refine zp_goto (tgt := 2223) rfl rfl ?_
      exact nx _ _ _ _ (zl_step hv s2 g2 d3 (zW_uses hW))
    · refine zp_aload_n (x := 189) rfl rfl ?_
      refine zp_iconst (v := (nI 0)) rfl (by decide +kernel) ?_
      refine zq_lald hS rfl (by first | assumption | exact ⟨by decide, rfl⟩) (by omega) (by first | decide | omega) ?_
      rw [o3 b1330]
      refine zp_iload (x := ((z_uses s (X.2 (i + 1))).2.1)) rfl rfl ?_
      refine zp_i2l rfl rfl ?_
      refine zp_lcmp rfl rfl ?_
      rw [lg_self]
      refine zp_ifT (tgt := 1345) rfl rfl (by decide +kernel) ?_
      refine zp_goto (tgt := 2223) rfl rfl ?_
      exact nx _ _ _ _ (zl_step hv s2 g2 d3 (zW_uses hW))
  · exact absurd rfl b1323
theorem lc_15 {i n : Nat} {x5 x6 : Value} (hv : zl_V n s h) (hi : i + 6 ≤ X.1) (hX : X.1 ≤ 3072) (nx : ∀ s' h' x y, zl_V (n + 1) s' h' → zp_wp X y_Law_law 2223 [.retAddr 0, .ref 0, .ref 171, .ref 189, .int (nI i), x, y] [] h' Q) : zp_wp X y_Law_law 1348 [.retAddr 0, .ref 0, .ref 171, .ref 189, .int (nI i), x5, x6] [] h Q := by
  have hS := hv.1.1
  have hW := hv.2.2.1
  have hB := hW.B
  have hbd : (z_hasUse s (X.2 (i + 1)) (X.2 (i + 2)) (X.2 (i + 3)) (X.2 (i + 4)) (X.2 (i + 5))).1 ≤ 2 := zb_look
  have h01 := lw_01 (z01_hasUse (s := s) (x := (X.2 (i + 1))) (a := (X.2 (i + 2))) (m := (X.2 (i + 3))) (b := (X.2 (i + 4))) (n := (X.2 (i + 5))))
  refine zp_aload_n (x := 0) rfl rfl ?_
  refine zp_sload_n rfl rfl ?_
  refine zp_iload (x := (nI i)) rfl rfl ?_
  refine zp_iconst (v := (nI 1)) rfl (by decide +kernel) ?_
  refine zp_iaddN rfl ?_
  refine zp_sald rfl (by omega) (by omega) ?_
  refine zp_sload_n rfl rfl ?_
  refine zp_iload (x := (nI i)) rfl rfl ?_
  refine zp_iconst (v := (nI 2)) rfl (by decide +kernel) ?_
  refine zp_iaddN rfl ?_
  refine zp_sald rfl (by omega) (by omega) ?_
  refine zp_sload_n rfl rfl ?_
  refine zp_iload (x := (nI i)) rfl rfl ?_
  refine zp_iconst (v := (nI 3)) rfl (by decide +kernel) ?_
  refine zp_iaddN rfl ?_
  refine zp_sald rfl (by omega) (by omega) ?_
  refine zp_sload_n rfl rfl ?_
  refine zp_iload (x := (nI i)) rfl rfl ?_
  refine zp_iconst (v := (nI 4)) rfl (by decide +kernel) ?_
  refine zp_iaddN rfl ?_
  refine zp_sald rfl (by omega) (by omega) ?_
  refine zp_sload_n rfl rfl ?_
  refine zp_iload (x := (nI i)) rfl rfl ?_
  refine zp_iconst (v := (nI 5)) rfl (by decide +kernel) ?_
  refine zp_iaddN rfl ?_
  refine zp_sald rfl (by omega) (by omega) ?_
  refine zp_aload_n (x := 189) rfl rfl ?_
  refine zp_call rfl rfl (s_Law_hasUse hv.1 hW (fun h2 s2 g2 o2 => ?_))
  have hS := s2.1
  have r2 := g2.r hv.2.1 s2.1
  show zp_wp X y_Law_law 1383 [.retAddr 0, .ref 0, .ref 171, .ref 189, .int (nI i), x5, x6] [.int (nI ((z_hasUse s (X.2 (i + 1)) (X.2 (i + 2)) (X.2 (i + 3)) (X.2 (i + 4)) (X.2 (i + 5))).1))] h2 Q
  refine zp_istore_5 rfl rfl ?_
  refine zp_aload_n (x := 171) rfl rfl ?_
  refine zp_sload_n rfl rfl ?_
  refine zp_iload (x := (nI i)) rfl rfl ?_
  refine zp_iconst (v := (nI 1)) rfl (by decide +kernel) ?_
  refine zp_iaddN rfl ?_
  refine zp_sald rfl (by omega) (by omega) ?_
  refine zp_sload_n rfl rfl ?_
  refine zp_iload (x := (nI i)) rfl rfl ?_
  refine zp_iconst (v := (nI 2)) rfl (by decide +kernel) ?_
  refine zp_iaddN rfl ?_
  refine zp_sald rfl (by omega) (by omega) ?_
  refine zp_sload_n rfl rfl ?_
  refine zp_iload (x := (nI i)) rfl rfl ?_
  refine zp_iconst (v := (nI 3)) rfl (by decide +kernel) ?_
  refine zp_iaddN rfl ?_
  refine zp_sald rfl (by omega) (by omega) ?_
  refine zp_sload_n rfl rfl ?_
  refine zp_iload (x := (nI i)) rfl rfl ?_
  refine zp_iconst (v := (nI 4)) rfl (by decide +kernel) ?_
  refine zp_iaddN rfl ?_
  refine zp_sald rfl (by omega) (by omega) ?_
  refine zp_sload_n rfl rfl ?_
  refine zp_iload (x := (nI i)) rfl rfl ?_
  refine zp_iconst (v := (nI 5)) rfl (by decide +kernel) ?_
  refine zp_iaddN rfl ?_
  refine zp_sald rfl (by omega) (by omega) ?_
  refine zq_virt hS rfl rfl (by first | assumption | exact ⟨by decide, rfl⟩) rfl (s_Mod_hasUse r2 hB (fun h3 d3 => ?_))
  have hS := d3.1.1
  have o3 : (z_hasUse s (X.2 (i + 1)) (X.2 (i + 2)) (X.2 (i + 3)) (X.2 (i + 4)) (X.2 (i + 5))).1 = 0 → cj h3 189 0 = Int32.toInt64 (z_hasUse s (X.2 (i + 1)) (X.2 (i + 2)) (X.2 (i + 3)) (X.2 (i + 4)) (X.2 (i + 5))).2.1 := fun q => by rw [d3.2.1.gj (by decide)]; exact o2 q
  show zp_wp X y_Law_law 1419 [.retAddr 0, .ref 0, .ref 171, .ref 189, .int (nI i), .int (nI ((z_hasUse s (X.2 (i + 1)) (X.2 (i + 2)) (X.2 (i + 3)) (X.2 (i + 4)) (X.2 (i + 5))).1)), x6] [.int ((z_hasUse s (X.2 (i + 1)) (X.2 (i + 2)) (X.2 (i + 3)) (X.2 (i + 4)) (X.2 (i + 5))).2.1)] h3 Q
  refine zp_istore_6 rfl rfl ?_
  refine zp_aload_n (x := 171) rfl rfl ?_
  refine zq_virt hS rfl rfl (by first | assumption | exact ⟨by decide, rfl⟩) rfl (s_Mod_thrown hS ?_)
  rw [d3.2.2]
  show zp_wp X y_Law_law 1425 [.retAddr 0, .ref 0, .ref 171, .ref 189, .int (nI i), .int (nI ((z_hasUse s (X.2 (i + 1)) (X.2 (i + 2)) (X.2 (i + 3)) (X.2 (i + 4)) (X.2 (i + 5))).1)), .int ((z_hasUse s (X.2 (i + 1)) (X.2 (i + 2)) (X.2 (i + 3)) (X.2 (i + 4)) (X.2 (i + 5))).2.1)] [.int (nI ((z_hasUse s (X.2 (i + 1)) (X.2 (i + 2)) (X.2 (i + 3)) (X.2 (i + 4)) (X.2 (i + 5))).1))] h3 Q
  refine zp_iload (x := (nI ((z_hasUse s (X.2 (i + 1)) (X.2 (i + 2)) (X.2 (i + 3)) (X.2 (i + 4)) (X.2 (i + 5))).1))) rfl rfl ?_
  refine zp_icmpN_eq (tgt := 1432) rfl rfl (by omega) (by omega) (fun b1427 => ?_) (fun b1427 => ?_)
  · refine zp_iload (x := (nI ((z_hasUse s (X.2 (i + 1)) (X.2 (i + 2)) (X.2 (i + 3)) (X.2 (i + 4)) (X.2 (i + 5))).1))) rfl rfl ?_
    refine zp_ifN_ne (tgt := 1456) rfl rfl (by omega) (fun b1434 => ?_) (fun b1434 => ?_)
    · refine zp_goto (tgt := 2223) rfl rfl ?_
      exact nx _ _ _ _ (zl_step hv s2 g2 d3 (zW_hasUse hW))
    · refine zp_aload_n (x := 189) rfl rfl ?_
      refine zp_iconst (v := (nI 0)) rfl (by decide +kernel) ?_
      refine zq_lald hS rfl (by first | assumption | exact ⟨by decide, rfl⟩) (by omega) (by first | decide | omega) ?_
      rw [o3 b1434]
      refine zp_iload (x := ((z_hasUse s (X.2 (i + 1)) (X.2 (i + 2)) (X.2 (i + 3)) (X.2 (i + 4)) (X.2 (i + 5))).2.1)) rfl rfl ?_
      refine zp_if_eq (tgt := 1449) rfl rfl (fun b1442 => ?_) (fun b1442 => ?_)
      · refine zp_lconst (v := lN 0) rfl rfl ?_
        refine zp_lcmp rfl rfl ?_
        first | rw [zf_no (h01.1 b1442)] | rw [zf_no (h01.2 b1442)]
        refine zp_ifT (tgt := 1456) rfl rfl (by decide +kernel) ?_
        refine zp_goto (tgt := 2223) rfl rfl ?_
        exact nx _ _ _ _ (zl_step hv s2 g2 d3 (zW_hasUse hW))
      · refine zp_lconst (v := lN 1) rfl rfl ?_
        refine zp_goto (tgt := 1450) rfl rfl ?_
        refine zp_lcmp rfl rfl ?_
        first | rw [zf_no (h01.1 b1442)] | rw [zf_no (h01.2 b1442)]
        refine zp_ifT (tgt := 1456) rfl rfl (by decide +kernel) ?_
        refine zp_goto (tgt := 2223) rfl rfl ?_
        exact nx _ _ _ _ (zl_step hv s2 g2 d3 (zW_hasUse hW))
  · exact absurd rfl b1427
theorem lc_16 {i n : Nat} {x5 x6 : Value} (hv : zl_V n s h) (hi : i + 6 ≤ X.1) (hX : X.1 ≤ 3072) (nx : ∀ s' h' x y, zl_V (n + 1) s' h' → zp_wp X y_Law_law 2223 [.retAddr 0, .ref 0, .ref 171, .ref 189, .int (nI i), x, y] [] h' Q) : zp_wp X y_Law_law 1459 [.retAddr 0, .ref 0, .ref 171, .ref 189, .int (nI i), x5, x6] [] h Q := by
  have hS := hv.1.1
  have hW := hv.2.2.1
  have hB := hW.B
  refine zp_aload_n (x := 0) rfl rfl ?_
  refine zq_virt hS rfl rfl (by first | assumption | exact ⟨by decide, rfl⟩) rfl (s_RR_copyVersion hv.1 hW (fun h2 s2 f2 => ?_))
  have hS := s2.1
  have r2 := f2.G.r hv.2.1 s2.1
  show zp_wp X y_Law_law 1463 [.retAddr 0, .ref 0, .ref 171, .ref 189, .int (nI i), x5, x6] [.int ((z_copy s).2.1)] h2 Q
  refine zp_aload_n (x := 171) rfl rfl ?_
  refine zq_virt hS rfl rfl (by first | assumption | exact ⟨by decide, rfl⟩) rfl (s_Mod_copyVersion r2 hB (fun h3 d3 => ?_))
  show zp_wp X y_Law_law 1467 [.retAddr 0, .ref 0, .ref 171, .ref 189, .int (nI i), x5, x6] [.int ((z_copy s).2.1), .int ((z_copy s).2.1)] h3 Q
  refine zp_icmp_eq (tgt := 2223) rfl rfl (fun b1467 => ?_) (fun b1467 => ?_)
  · exact nx _ _ _ _ (zl_step hv s2 f2.G d3 (zW_copy hW))
  · exact absurd rfl b1467
theorem lc_17 {i n : Nat} {x5 x6 : Value} (hv : zl_V n s h) (hi : i + 6 ≤ X.1) (hX : X.1 ≤ 3072) (nx : ∀ s' h' x y, zl_V (n + 1) s' h' → zp_wp X y_Law_law 2223 [.retAddr 0, .ref 0, .ref 171, .ref 189, .int (nI i), x, y] [] h' Q) : zp_wp X y_Law_law 1472 [.retAddr 0, .ref 0, .ref 171, .ref 189, .int (nI i), x5, x6] [] h Q := by
  have hS := hv.1.1
  have hW := hv.2.2.1
  have hB := hW.B
  refine zp_aload_n (x := 0) rfl rfl ?_
  refine zq_virt hS rfl rfl (by first | assumption | exact ⟨by decide, rfl⟩) rfl (s_RR_areSame hv.1 hW ?_)
  show zp_wp X y_Law_law 1476 [.retAddr 0, .ref 0, .ref 171, .ref 189, .int (nI i), x5, x6] [.int (zf_b (v_one (g_0 s) (g_1 s)))] h Q
  refine zp_aload_n (x := 171) rfl rfl ?_
  refine zq_virt hS rfl rfl (by first | assumption | exact ⟨by decide, rfl⟩) rfl (s_Mod_areSame hv.2.1 hB hW.1.2.1.U hW.1.2.2.U (fun h3 d3 => ?_))
  show zp_wp X y_Law_law 1480 [.retAddr 0, .ref 0, .ref 171, .ref 189, .int (nI i), x5, x6] [.int (zf_b (v_one (g_0 s) (g_1 s))), .int (zf_b (v_one (g_0 s) (g_1 s)))] h3 Q
  refine zp_icmp_eq (tgt := 2223) rfl rfl (fun b1480 => ?_) (fun b1480 => ?_)
  · exact nx _ _ _ _ (zl_step hv hv.1 (zc_F.rf).G d3 hW)
  · exact absurd rfl b1480
theorem lc_18 {i n : Nat} {x5 x6 : Value} (hv : zl_V n s h) (hi : i + 6 ≤ X.1) (hX : X.1 ≤ 3072) (nx : ∀ s' h' x y, zl_V (n + 1) s' h' → zp_wp X y_Law_law 2223 [.retAddr 0, .ref 0, .ref 171, .ref 189, .int (nI i), x, y] [] h' Q) : zp_wp X y_Law_law 1485 [.retAddr 0, .ref 0, .ref 171, .ref 189, .int (nI i), x5, x6] [] h Q := by
  have hS := hv.1.1
  have hW := hv.2.2.1
  have hB := hW.B
  have wn := hW.2.2.2.1
  refine zp_aload_n (x := 0) rfl rfl ?_
  refine zq_virt hS rfl rfl (by first | assumption | exact ⟨by decide, rfl⟩) rfl (s_RR_log hv.1 ?_)
  show zp_wp X y_Law_law 1489 [.retAddr 0, .ref 0, .ref 171, .ref 189, .int (nI i), x5, x6] [.int (nI (g_n s))] h Q
  refine zp_aload_n (x := 171) rfl rfl ?_
  refine zq_virt hS rfl rfl (by first | assumption | exact ⟨by decide, rfl⟩) rfl (s_Mod_log hv.2.1 (fun h3 d3 => ?_))
  show zp_wp X y_Law_law 1493 [.retAddr 0, .ref 0, .ref 171, .ref 189, .int (nI i), x5, x6] [.int (nI (g_n s)), .int (nI (g_n s))] h3 Q
  refine zp_icmpN_eq (tgt := 2223) rfl rfl (by omega) (by omega) (fun b1493 => ?_) (fun b1493 => ?_)
  · exact nx _ _ _ _ (zl_step hv hv.1 (zc_F.rf).G d3 hW)
  · exact absurd rfl b1493
theorem lc_19 {i n : Nat} {x5 x6 : Value} (hv : zl_V n s h) (hi : i + 6 ≤ X.1) (hX : X.1 ≤ 3072) (nx : ∀ s' h' x y, zl_V (n + 1) s' h' → zp_wp X y_Law_law 2223 [.retAddr 0, .ref 0, .ref 171, .ref 189, .int (nI i), x, y] [] h' Q) : zp_wp X y_Law_law 1498 [.retAddr 0, .ref 0, .ref 171, .ref 189, .int (nI i), x5, x6] [] h Q := by
  have hS := hv.1.1
  have hW := hv.2.2.1
  have hB := hW.B
  have hbd : (z_kind s (X.2 (i + 1))).1 ≤ 1 := zb_kind
  refine zp_aload_n (x := 0) rfl rfl ?_
  refine zp_sload_n rfl rfl ?_
  refine zp_iload (x := (nI i)) rfl rfl ?_
  refine zp_iconst (v := (nI 1)) rfl (by decide +kernel) ?_
  refine zp_iaddN rfl ?_
  refine zp_sald rfl (by omega) (by omega) ?_
  refine zp_aload_n (x := 189) rfl rfl ?_
  refine zp_call rfl rfl (s_Law_kindOf hv.1 hW (fun h2 s2 g2 o2 => ?_))
  have hS := s2.1
  have r2 := g2.r hv.2.1 s2.1
  show zp_wp X y_Law_law 1509 [.retAddr 0, .ref 0, .ref 171, .ref 189, .int (nI i), x5, x6] [.int (nI ((z_kind s (X.2 (i + 1))).1))] h2 Q
  refine zp_istore_5 rfl rfl ?_
  refine zp_aload_n (x := 171) rfl rfl ?_
  refine zp_sload_n rfl rfl ?_
  refine zp_iload (x := (nI i)) rfl rfl ?_
  refine zp_iconst (v := (nI 1)) rfl (by decide +kernel) ?_
  refine zp_iaddN rfl ?_
  refine zp_sald rfl (by omega) (by omega) ?_
  refine zq_virt hS rfl rfl (by first | assumption | exact ⟨by decide, rfl⟩) rfl (s_Mod_kindOf r2 hB (fun h3 d3 => ?_))
  have hS := d3.1.1
  have o3 : (z_kind s (X.2 (i + 1))).1 = 0 → cj h3 189 0 = Int32.toInt64 (z_kind s (X.2 (i + 1))).2.1 := fun q => by rw [d3.2.1.gj (by decide)]; exact o2 q
  show zp_wp X y_Law_law 1521 [.retAddr 0, .ref 0, .ref 171, .ref 189, .int (nI i), .int (nI ((z_kind s (X.2 (i + 1))).1)), x6] [.int ((z_kind s (X.2 (i + 1))).2.1)] h3 Q
  refine zp_istore_6 rfl rfl ?_
  refine zp_aload_n (x := 171) rfl rfl ?_
  refine zq_virt hS rfl rfl (by first | assumption | exact ⟨by decide, rfl⟩) rfl (s_Mod_thrown hS ?_)
  rw [d3.2.2]
  show zp_wp X y_Law_law 1527 [.retAddr 0, .ref 0, .ref 171, .ref 189, .int (nI i), .int (nI ((z_kind s (X.2 (i + 1))).1)), .int ((z_kind s (X.2 (i + 1))).2.1)] [.int (nI ((z_kind s (X.2 (i + 1))).1))] h3 Q
  refine zp_iload (x := (nI ((z_kind s (X.2 (i + 1))).1))) rfl rfl ?_
  refine zp_icmpN_eq (tgt := 1534) rfl rfl (by omega) (by omega) (fun b1529 => ?_) (fun b1529 => ?_)
  · refine zp_iload (x := (nI ((z_kind s (X.2 (i + 1))).1))) rfl rfl ?_
    refine zp_ifN_ne (tgt := 1551) rfl rfl (by omega) (fun b1536 => ?_) (fun b1536 => ?_)
    · refine zp_goto (tgt := 2223) rfl rfl ?_
      exact nx _ _ _ _ (zl_step hv s2 g2 d3 (zW_kindOf hW))
    · refine zp_aload_n (x := 189) rfl rfl ?_
      refine zp_iconst (v := (nI 0)) rfl (by decide +kernel) ?_
      refine zq_lald hS rfl (by first | assumption | exact ⟨by decide, rfl⟩) (by omega) (by first | decide | omega) ?_
      rw [o3 b1536]
      refine zp_iload (x := ((z_kind s (X.2 (i + 1))).2.1)) rfl rfl ?_
      refine zp_i2l rfl rfl ?_
      refine zp_lcmp rfl rfl ?_
      rw [lg_self]
      refine zp_ifT (tgt := 1551) rfl rfl (by decide +kernel) ?_
      refine zp_goto (tgt := 2223) rfl rfl ?_
      exact nx _ _ _ _ (zl_step hv s2 g2 d3 (zW_kindOf hW))
  · exact absurd rfl b1529
theorem lc_20 {i n : Nat} {x5 x6 : Value} (hv : zl_V n s h) (hi : i + 6 ≤ X.1) (hX : X.1 ≤ 3072) (nx : ∀ s' h' x y, zl_V (n + 1) s' h' → zp_wp X y_Law_law 2223 [.retAddr 0, .ref 0, .ref 171, .ref 189, .int (nI i), x, y] [] h' Q) : zp_wp X y_Law_law 1554 [.retAddr 0, .ref 0, .ref 171, .ref 189, .int (nI i), x5, x6] [] h Q := by
  have hS := hv.1.1
  have hW := hv.2.2.1
  have hB := hW.B
  have hbd : (z_name s (X.2 (i + 1)) (X.2 (i + 2))).1 ≤ 1 := zb_name
  refine zp_aload_n (x := 0) rfl rfl ?_
  refine zp_sload_n rfl rfl ?_
  refine zp_iload (x := (nI i)) rfl rfl ?_
  refine zp_iconst (v := (nI 1)) rfl (by decide +kernel) ?_
  refine zp_iaddN rfl ?_
  refine zp_sald rfl (by omega) (by omega) ?_
  refine zp_sload_n rfl rfl ?_
  refine zp_iload (x := (nI i)) rfl rfl ?_
  refine zp_iconst (v := (nI 2)) rfl (by decide +kernel) ?_
  refine zp_iaddN rfl ?_
  refine zp_sald rfl (by omega) (by omega) ?_
  refine zp_aload_n (x := 189) rfl rfl ?_
  refine zp_call rfl rfl (s_Law_nameOf hv.1 hW (fun h2 s2 g2 o2 => ?_))
  have hS := s2.1
  have r2 := g2.r hv.2.1 s2.1
  show zp_wp X y_Law_law 1571 [.retAddr 0, .ref 0, .ref 171, .ref 189, .int (nI i), x5, x6] [.int (nI ((z_name s (X.2 (i + 1)) (X.2 (i + 2))).1))] h2 Q
  refine zp_istore_5 rfl rfl ?_
  refine zp_aload_n (x := 171) rfl rfl ?_
  refine zp_sload_n rfl rfl ?_
  refine zp_iload (x := (nI i)) rfl rfl ?_
  refine zp_iconst (v := (nI 1)) rfl (by decide +kernel) ?_
  refine zp_iaddN rfl ?_
  refine zp_sald rfl (by omega) (by omega) ?_
  refine zp_sload_n rfl rfl ?_
  refine zp_iload (x := (nI i)) rfl rfl ?_
  refine zp_iconst (v := (nI 2)) rfl (by decide +kernel) ?_
  refine zp_iaddN rfl ?_
  refine zp_sald rfl (by omega) (by omega) ?_
  refine zq_virt hS rfl rfl (by first | assumption | exact ⟨by decide, rfl⟩) rfl (s_Mod_nameOf r2 hB (fun h3 d3 => ?_))
  have hS := d3.1.1
  have o3 : (z_name s (X.2 (i + 1)) (X.2 (i + 2))).1 = 0 → cj h3 189 0 = Int32.toInt64 (z_name s (X.2 (i + 1)) (X.2 (i + 2))).2.1 := fun q => by rw [d3.2.1.gj (by decide)]; exact o2 q
  show zp_wp X y_Law_law 1589 [.retAddr 0, .ref 0, .ref 171, .ref 189, .int (nI i), .int (nI ((z_name s (X.2 (i + 1)) (X.2 (i + 2))).1)), x6] [.int ((z_name s (X.2 (i + 1)) (X.2 (i + 2))).2.1)] h3 Q
  refine zp_istore_6 rfl rfl ?_
  refine zp_aload_n (x := 171) rfl rfl ?_
  refine zq_virt hS rfl rfl (by first | assumption | exact ⟨by decide, rfl⟩) rfl (s_Mod_thrown hS ?_)
  rw [d3.2.2]
  show zp_wp X y_Law_law 1595 [.retAddr 0, .ref 0, .ref 171, .ref 189, .int (nI i), .int (nI ((z_name s (X.2 (i + 1)) (X.2 (i + 2))).1)), .int ((z_name s (X.2 (i + 1)) (X.2 (i + 2))).2.1)] [.int (nI ((z_name s (X.2 (i + 1)) (X.2 (i + 2))).1))] h3 Q
  refine zp_iload (x := (nI ((z_name s (X.2 (i + 1)) (X.2 (i + 2))).1))) rfl rfl ?_
  refine zp_icmpN_eq (tgt := 1602) rfl rfl (by omega) (by omega) (fun b1597 => ?_) (fun b1597 => ?_)
  · refine zp_iload (x := (nI ((z_name s (X.2 (i + 1)) (X.2 (i + 2))).1))) rfl rfl ?_
    refine zp_ifN_ne (tgt := 1619) rfl rfl (by omega) (fun b1604 => ?_) (fun b1604 => ?_)
    · refine zp_goto (tgt := 2223) rfl rfl ?_
      exact nx _ _ _ _ (zl_step hv s2 g2 d3 (zW_nameOf hW))
    · refine zp_aload_n (x := 189) rfl rfl ?_
      refine zp_iconst (v := (nI 0)) rfl (by decide +kernel) ?_
      refine zq_lald hS rfl (by first | assumption | exact ⟨by decide, rfl⟩) (by omega) (by first | decide | omega) ?_
      rw [o3 b1604]
      refine zp_iload (x := ((z_name s (X.2 (i + 1)) (X.2 (i + 2))).2.1)) rfl rfl ?_
      refine zp_i2l rfl rfl ?_
      refine zp_lcmp rfl rfl ?_
      rw [lg_self]
      refine zp_ifT (tgt := 1619) rfl rfl (by decide +kernel) ?_
      refine zp_goto (tgt := 2223) rfl rfl ?_
      exact nx _ _ _ _ (zl_step hv s2 g2 d3 (zW_nameOf hW))
  · exact absurd rfl b1597
theorem lc_21 {i n : Nat} {x5 x6 : Value} (hv : zl_V n s h) (hi : i + 6 ≤ X.1) (hX : X.1 ≤ 3072) (nx : ∀ s' h' x y, zl_V (n + 1) s' h' → zp_wp X y_Law_law 2223 [.retAddr 0, .ref 0, .ref 171, .ref 189, .int (nI i), x, y] [] h' Q) : zp_wp X y_Law_law 1622 [.retAddr 0, .ref 0, .ref 171, .ref 189, .int (nI i), x5, x6] [] h Q := by
  have hS := hv.1.1
  have hW := hv.2.2.1
  have hB := hW.B
  refine zp_aload_n (x := 0) rfl rfl ?_
  refine zq_virt hS rfl rfl (by first | assumption | exact ⟨by decide, rfl⟩) rfl (s_RR_clearLog hv.1 (fun h2 s2 f2 => ?_))
  have hS := s2.1
  have r2 := f2.G.r hv.2.1 s2.1
  show zp_wp X y_Law_law 1626 [.retAddr 0, .ref 0, .ref 171, .ref 189, .int (nI i), x5, x6] [.int ((z_clear s).2.1)] h2 Q
  refine zp_aload_n (x := 171) rfl rfl ?_
  refine zq_virt hS rfl rfl (by first | assumption | exact ⟨by decide, rfl⟩) rfl (s_Mod_clearLog r2 (fun h3 d3 => ?_))
  show zp_wp X y_Law_law 1630 [.retAddr 0, .ref 0, .ref 171, .ref 189, .int (nI i), x5, x6] [.int ((z_clear s).2.1), .int ((z_clear s).2.1)] h3 Q
  refine zp_icmp_eq (tgt := 2223) rfl rfl (fun b1630 => ?_) (fun b1630 => ?_)
  · exact nx _ _ _ _ (zl_step hv s2 f2.G d3 (zW_clear hW))
  · exact absurd rfl b1630
theorem lc_22 {i n : Nat} {x5 x6 : Value} (hv : zl_V n s h) (hi : i + 6 ≤ X.1) (hX : X.1 ≤ 3072) (nx : ∀ s' h' x y, zl_V (n + 1) s' h' → zp_wp X y_Law_law 2223 [.retAddr 0, .ref 0, .ref 171, .ref 189, .int (nI i), x, y] [] h' Q) : zp_wp X y_Law_law 1635 [.retAddr 0, .ref 0, .ref 171, .ref 189, .int (nI i), x5, x6] [] h Q := by
  have hS := hv.1.1
  have hW := hv.2.2.1
  have hB := hW.B
  have hbd : (z_undo s).1 ≤ 1 := zb_undo
  refine zp_aload_n (x := 0) rfl rfl ?_
  refine zp_aload_n (x := 189) rfl rfl ?_
  refine zp_call rfl rfl (s_Law_undo hv.1 hW (fun h2 s2 g2 o2 => ?_))
  have hS := s2.1
  have r2 := g2.r hv.2.1 s2.1
  show zp_wp X y_Law_law 1640 [.retAddr 0, .ref 0, .ref 171, .ref 189, .int (nI i), x5, x6] [.int (nI ((z_undo s).1))] h2 Q
  refine zp_istore_5 rfl rfl ?_
  refine zp_aload_n (x := 171) rfl rfl ?_
  refine zq_virt hS rfl rfl (by first | assumption | exact ⟨by decide, rfl⟩) rfl (s_Mod_undo r2 hB hW.1.1 (fun k hk => (hW.2.1 k hk).1) (fun h3 d3 => ?_))
  have hS := d3.1.1
  have o3 : (z_undo s).1 = 0 → cj h3 189 0 = Int32.toInt64 (z_undo s).2.1 := fun q => by rw [d3.2.1.gj (by decide)]; exact o2 q
  show zp_wp X y_Law_law 1646 [.retAddr 0, .ref 0, .ref 171, .ref 189, .int (nI i), .int (nI ((z_undo s).1)), x6] [.int ((z_undo s).2.1)] h3 Q
  refine zp_istore_6 rfl rfl ?_
  refine zp_aload_n (x := 171) rfl rfl ?_
  refine zq_virt hS rfl rfl (by first | assumption | exact ⟨by decide, rfl⟩) rfl (s_Mod_thrown hS ?_)
  rw [d3.2.2]
  show zp_wp X y_Law_law 1652 [.retAddr 0, .ref 0, .ref 171, .ref 189, .int (nI i), .int (nI ((z_undo s).1)), .int ((z_undo s).2.1)] [.int (nI ((z_undo s).1))] h3 Q
  refine zp_iload (x := (nI ((z_undo s).1))) rfl rfl ?_
  refine zp_icmpN_eq (tgt := 1659) rfl rfl (by omega) (by omega) (fun b1654 => ?_) (fun b1654 => ?_)
  · refine zp_iload (x := (nI ((z_undo s).1))) rfl rfl ?_
    refine zp_ifN_ne (tgt := 1676) rfl rfl (by omega) (fun b1661 => ?_) (fun b1661 => ?_)
    · refine zp_goto (tgt := 2223) rfl rfl ?_
      exact nx _ _ _ _ (zl_step hv s2 g2 d3 (zW_undo hW))
    · refine zp_aload_n (x := 189) rfl rfl ?_
      refine zp_iconst (v := (nI 0)) rfl (by decide +kernel) ?_
      refine zq_lald hS rfl (by first | assumption | exact ⟨by decide, rfl⟩) (by omega) (by first | decide | omega) ?_
      rw [o3 b1661]
      refine zp_iload (x := ((z_undo s).2.1)) rfl rfl ?_
      refine zp_i2l rfl rfl ?_
      refine zp_lcmp rfl rfl ?_
      rw [lg_self]
      refine zp_ifT (tgt := 1676) rfl rfl (by decide +kernel) ?_
      refine zp_goto (tgt := 2223) rfl rfl ?_
      exact nx _ _ _ _ (zl_step hv s2 g2 d3 (zW_undo hW))
  · exact absurd rfl b1654
theorem lc_23 {i n : Nat} {x5 x6 : Value} (hv : zl_V n s h) (hi : i + 6 ≤ X.1) (hX : X.1 ≤ 3072) (nx : ∀ s' h' x y, zl_V (n + 1) s' h' → zp_wp X y_Law_law 2223 [.retAddr 0, .ref 0, .ref 171, .ref 189, .int (nI i), x, y] [] h' Q) : zp_wp X y_Law_law 1679 [.retAddr 0, .ref 0, .ref 171, .ref 189, .int (nI i), x5, x6] [] h Q := by
  have hS := hv.1.1
  have hW := hv.2.2.1
  have hB := hW.B
  have hbd : (z_commutes s (X.2 (i + 1))).1 ≤ 1 := zb_commutes
  have h01 := lw_01 (z01_commutes (s := s) (i := (X.2 (i + 1))))
  refine zp_aload_n (x := 0) rfl rfl ?_
  refine zp_sload_n rfl rfl ?_
  refine zp_iload (x := (nI i)) rfl rfl ?_
  refine zp_iconst (v := (nI 1)) rfl (by decide +kernel) ?_
  refine zp_iaddN rfl ?_
  refine zp_sald rfl (by omega) (by omega) ?_
  refine zp_aload_n (x := 189) rfl rfl ?_
  refine zp_call rfl rfl (s_Law_commutes hv.1 hW (fun h2 s2 g2 o2 => ?_))
  have hS := s2.1
  have r2 := g2.r hv.2.1 s2.1
  show zp_wp X y_Law_law 1690 [.retAddr 0, .ref 0, .ref 171, .ref 189, .int (nI i), x5, x6] [.int (nI ((z_commutes s (X.2 (i + 1))).1))] h2 Q
  refine zp_istore_5 rfl rfl ?_
  refine zp_aload_n (x := 171) rfl rfl ?_
  refine zp_sload_n rfl rfl ?_
  refine zp_iload (x := (nI i)) rfl rfl ?_
  refine zp_iconst (v := (nI 1)) rfl (by decide +kernel) ?_
  refine zp_iaddN rfl ?_
  refine zp_sald rfl (by omega) (by omega) ?_
  refine zq_virt hS rfl rfl (by first | assumption | exact ⟨by decide, rfl⟩) rfl (s_Mod_commutes r2 hB hW.1.1 (fun k hk => (hW.2.1 k hk).1) (fun h3 d3 => ?_))
  have hS := d3.1.1
  have o3 : (z_commutes s (X.2 (i + 1))).1 = 0 → cj h3 189 0 = Int32.toInt64 (z_commutes s (X.2 (i + 1))).2.1 := fun q => by rw [d3.2.1.gj (by decide)]; exact o2 q
  show zp_wp X y_Law_law 1702 [.retAddr 0, .ref 0, .ref 171, .ref 189, .int (nI i), .int (nI ((z_commutes s (X.2 (i + 1))).1)), x6] [.int ((z_commutes s (X.2 (i + 1))).2.1)] h3 Q
  refine zp_istore_6 rfl rfl ?_
  refine zp_aload_n (x := 171) rfl rfl ?_
  refine zq_virt hS rfl rfl (by first | assumption | exact ⟨by decide, rfl⟩) rfl (s_Mod_thrown hS ?_)
  rw [d3.2.2]
  show zp_wp X y_Law_law 1708 [.retAddr 0, .ref 0, .ref 171, .ref 189, .int (nI i), .int (nI ((z_commutes s (X.2 (i + 1))).1)), .int ((z_commutes s (X.2 (i + 1))).2.1)] [.int (nI ((z_commutes s (X.2 (i + 1))).1))] h3 Q
  refine zp_iload (x := (nI ((z_commutes s (X.2 (i + 1))).1))) rfl rfl ?_
  refine zp_icmpN_eq (tgt := 1715) rfl rfl (by omega) (by omega) (fun b1710 => ?_) (fun b1710 => ?_)
  · refine zp_iload (x := (nI ((z_commutes s (X.2 (i + 1))).1))) rfl rfl ?_
    refine zp_ifN_ne (tgt := 1739) rfl rfl (by omega) (fun b1717 => ?_) (fun b1717 => ?_)
    · refine zp_goto (tgt := 2223) rfl rfl ?_
      exact nx _ _ _ _ (zl_step hv s2 g2 d3 (zW_commutes hW))
    · refine zp_aload_n (x := 189) rfl rfl ?_
      refine zp_iconst (v := (nI 0)) rfl (by decide +kernel) ?_
      refine zq_lald hS rfl (by first | assumption | exact ⟨by decide, rfl⟩) (by omega) (by first | decide | omega) ?_
      rw [o3 b1717]
      refine zp_iload (x := ((z_commutes s (X.2 (i + 1))).2.1)) rfl rfl ?_
      refine zp_if_eq (tgt := 1732) rfl rfl (fun b1725 => ?_) (fun b1725 => ?_)
      · refine zp_lconst (v := lN 0) rfl rfl ?_
        refine zp_lcmp rfl rfl ?_
        first | rw [zf_no (h01.1 b1725)] | rw [zf_no (h01.2 b1725)]
        refine zp_ifT (tgt := 1739) rfl rfl (by decide +kernel) ?_
        refine zp_goto (tgt := 2223) rfl rfl ?_
        exact nx _ _ _ _ (zl_step hv s2 g2 d3 (zW_commutes hW))
      · refine zp_lconst (v := lN 1) rfl rfl ?_
        refine zp_goto (tgt := 1733) rfl rfl ?_
        refine zp_lcmp rfl rfl ?_
        first | rw [zf_no (h01.1 b1725)] | rw [zf_no (h01.2 b1725)]
        refine zp_ifT (tgt := 1739) rfl rfl (by decide +kernel) ?_
        refine zp_goto (tgt := 2223) rfl rfl ?_
        exact nx _ _ _ _ (zl_step hv s2 g2 d3 (zW_commutes hW))
  · exact absurd rfl b1710
theorem lc_24 {i n : Nat} {x5 x6 : Value} (hv : zl_V n s h) (hi : i + 6 ≤ X.1) (hX : X.1 ≤ 3072) (nx : ∀ s' h' x y, zl_V (n + 1) s' h' → zp_wp X y_Law_law 2223 [.retAddr 0, .ref 0, .ref 171, .ref 189, .int (nI i), x, y] [] h' Q) : zp_wp X y_Law_law 1742 [.retAddr 0, .ref 0, .ref 171, .ref 189, .int (nI i), x5, x6] [] h Q := by
  have hS := hv.1.1
  have hW := hv.2.2.1
  have hB := hW.B
  have hbd : (z_exchange s (X.2 (i + 1))).1 ≤ 1 := zb_exchange
  have h01 := lw_01 (z01_exchange (s := s) (i := (X.2 (i + 1))))
  refine zp_aload_n (x := 0) rfl rfl ?_
  refine zp_sload_n rfl rfl ?_
  refine zp_iload (x := (nI i)) rfl rfl ?_
  refine zp_iconst (v := (nI 1)) rfl (by decide +kernel) ?_
  refine zp_iaddN rfl ?_
  refine zp_sald rfl (by omega) (by omega) ?_
  refine zp_aload_n (x := 189) rfl rfl ?_
  refine zp_call rfl rfl (s_Law_exchange hv.1 hW (fun h2 s2 g2 o2 => ?_))
  have hS := s2.1
  have r2 := g2.r hv.2.1 s2.1
  show zp_wp X y_Law_law 1753 [.retAddr 0, .ref 0, .ref 171, .ref 189, .int (nI i), x5, x6] [.int (nI ((z_exchange s (X.2 (i + 1))).1))] h2 Q
  refine zp_istore_5 rfl rfl ?_
  refine zp_aload_n (x := 171) rfl rfl ?_
  refine zp_sload_n rfl rfl ?_
  refine zp_iload (x := (nI i)) rfl rfl ?_
  refine zp_iconst (v := (nI 1)) rfl (by decide +kernel) ?_
  refine zp_iaddN rfl ?_
  refine zp_sald rfl (by omega) (by omega) ?_
  refine zq_virt hS rfl rfl (by first | assumption | exact ⟨by decide, rfl⟩) rfl (s_Mod_exchange r2 hB hW.1.1 (fun k hk => (hW.2.1 k hk).1) (fun h3 d3 => ?_))
  have hS := d3.1.1
  have o3 : (z_exchange s (X.2 (i + 1))).1 = 0 → cj h3 189 0 = Int32.toInt64 (z_exchange s (X.2 (i + 1))).2.1 := fun q => by rw [d3.2.1.gj (by decide)]; exact o2 q
  show zp_wp X y_Law_law 1765 [.retAddr 0, .ref 0, .ref 171, .ref 189, .int (nI i), .int (nI ((z_exchange s (X.2 (i + 1))).1)), x6] [.int ((z_exchange s (X.2 (i + 1))).2.1)] h3 Q
  refine zp_istore_6 rfl rfl ?_
  refine zp_aload_n (x := 171) rfl rfl ?_
  refine zq_virt hS rfl rfl (by first | assumption | exact ⟨by decide, rfl⟩) rfl (s_Mod_thrown hS ?_)
  rw [d3.2.2]
  show zp_wp X y_Law_law 1771 [.retAddr 0, .ref 0, .ref 171, .ref 189, .int (nI i), .int (nI ((z_exchange s (X.2 (i + 1))).1)), .int ((z_exchange s (X.2 (i + 1))).2.1)] [.int (nI ((z_exchange s (X.2 (i + 1))).1))] h3 Q
  refine zp_iload (x := (nI ((z_exchange s (X.2 (i + 1))).1))) rfl rfl ?_
  refine zp_icmpN_eq (tgt := 1778) rfl rfl (by omega) (by omega) (fun b1773 => ?_) (fun b1773 => ?_)
  · refine zp_iload (x := (nI ((z_exchange s (X.2 (i + 1))).1))) rfl rfl ?_
    refine zp_ifN_ne (tgt := 1802) rfl rfl (by omega) (fun b1780 => ?_) (fun b1780 => ?_)
    · refine zp_goto (tgt := 2223) rfl rfl ?_
      exact nx _ _ _ _ (zl_step hv s2 g2 d3 (zW_exchange hW))
    · refine zp_aload_n (x := 189) rfl rfl ?_
      refine zp_iconst (v := (nI 0)) rfl (by decide +kernel) ?_
      refine zq_lald hS rfl (by first | assumption | exact ⟨by decide, rfl⟩) (by omega) (by first | decide | omega) ?_
      rw [o3 b1780]
      refine zp_iload (x := ((z_exchange s (X.2 (i + 1))).2.1)) rfl rfl ?_
      refine zp_if_eq (tgt := 1795) rfl rfl (fun b1788 => ?_) (fun b1788 => ?_)
      · refine zp_lconst (v := lN 0) rfl rfl ?_
        refine zp_lcmp rfl rfl ?_
        first | rw [zf_no (h01.1 b1788)] | rw [zf_no (h01.2 b1788)]
        refine zp_ifT (tgt := 1802) rfl rfl (by decide +kernel) ?_
        refine zp_goto (tgt := 2223) rfl rfl ?_
        exact nx _ _ _ _ (zl_step hv s2 g2 d3 (zW_exchange hW))
      · refine zp_lconst (v := lN 1) rfl rfl ?_
        refine zp_goto (tgt := 1796) rfl rfl ?_
        refine zp_lcmp rfl rfl ?_
        first | rw [zf_no (h01.1 b1788)] | rw [zf_no (h01.2 b1788)]
        refine zp_ifT (tgt := 1802) rfl rfl (by decide +kernel) ?_
        refine zp_goto (tgt := 2223) rfl rfl ?_
        exact nx _ _ _ _ (zl_step hv s2 g2 d3 (zW_exchange hW))
  · exact absurd rfl b1773
theorem lc_25 {i n : Nat} {x5 x6 : Value} (hv : zl_V n s h) (hi : i + 6 ≤ X.1) (hX : X.1 ≤ 3072) (nx : ∀ s' h' x y, zl_V (n + 1) s' h' → zp_wp X y_Law_law 2223 [.retAddr 0, .ref 0, .ref 171, .ref 189, .int (nI i), x, y] [] h' Q) : zp_wp X y_Law_law 1805 [.retAddr 0, .ref 0, .ref 171, .ref 189, .int (nI i), x5, x6] [] h Q := by
  have hS := hv.1.1
  have hW := hv.2.2.1
  have hB := hW.B
  have hbd : (z_needs s (X.2 (i + 1))).1 ≤ 1 := zb_needs
  refine zp_aload_n (x := 0) rfl rfl ?_
  refine zp_sload_n rfl rfl ?_
  refine zp_iload (x := (nI i)) rfl rfl ?_
  refine zp_iconst (v := (nI 1)) rfl (by decide +kernel) ?_
  refine zp_iaddN rfl ?_
  refine zp_sald rfl (by omega) (by omega) ?_
  refine zp_aload_n (x := 189) rfl rfl ?_
  refine zp_call rfl rfl (s_Law_needs hv.1 hW (fun h2 s2 g2 o2 => ?_))
  have hS := s2.1
  have r2 := g2.r hv.2.1 s2.1
  show zp_wp X y_Law_law 1816 [.retAddr 0, .ref 0, .ref 171, .ref 189, .int (nI i), x5, x6] [.int (nI ((z_needs s (X.2 (i + 1))).1))] h2 Q
  refine zp_istore_5 rfl rfl ?_
  refine zp_aload_n (x := 171) rfl rfl ?_
  refine zp_sload_n rfl rfl ?_
  refine zp_iload (x := (nI i)) rfl rfl ?_
  refine zp_iconst (v := (nI 1)) rfl (by decide +kernel) ?_
  refine zp_iaddN rfl ?_
  refine zp_sald rfl (by omega) (by omega) ?_
  refine zq_virt hS rfl rfl (by first | assumption | exact ⟨by decide, rfl⟩) rfl (s_Mod_needs r2 hB hW.1.1 (fun k hk => (hW.2.1 k hk).1) (fun h3 d3 => ?_))
  have hS := d3.1.1
  have o3 : (z_needs s (X.2 (i + 1))).1 = 0 → cj h3 189 0 = Int32.toInt64 (z_needs s (X.2 (i + 1))).2.1 := fun q => by rw [d3.2.1.gj (by decide)]; exact o2 q
  show zp_wp X y_Law_law 1828 [.retAddr 0, .ref 0, .ref 171, .ref 189, .int (nI i), .int (nI ((z_needs s (X.2 (i + 1))).1)), x6] [.int ((z_needs s (X.2 (i + 1))).2.1)] h3 Q
  refine zp_istore_6 rfl rfl ?_
  refine zp_aload_n (x := 171) rfl rfl ?_
  refine zq_virt hS rfl rfl (by first | assumption | exact ⟨by decide, rfl⟩) rfl (s_Mod_thrown hS ?_)
  rw [d3.2.2]
  show zp_wp X y_Law_law 1834 [.retAddr 0, .ref 0, .ref 171, .ref 189, .int (nI i), .int (nI ((z_needs s (X.2 (i + 1))).1)), .int ((z_needs s (X.2 (i + 1))).2.1)] [.int (nI ((z_needs s (X.2 (i + 1))).1))] h3 Q
  refine zp_iload (x := (nI ((z_needs s (X.2 (i + 1))).1))) rfl rfl ?_
  refine zp_icmpN_eq (tgt := 1841) rfl rfl (by omega) (by omega) (fun b1836 => ?_) (fun b1836 => ?_)
  · refine zp_iload (x := (nI ((z_needs s (X.2 (i + 1))).1))) rfl rfl ?_
    refine zp_ifN_ne (tgt := 1858) rfl rfl (by omega) (fun b1843 => ?_) (fun b1843 => ?_)
    · refine zp_goto (tgt := 2223) rfl rfl ?_
      exact nx _ _ _ _ (zl_step hv s2 g2 d3 (zW_needs hW))
    · refine zp_aload_n (x := 189) rfl rfl ?_
      refine zp_iconst (v := (nI 0)) rfl (by decide +kernel) ?_
      refine zq_lald hS rfl (by first | assumption | exact ⟨by decide, rfl⟩) (by omega) (by first | decide | omega) ?_
      rw [o3 b1843]
      refine zp_iload (x := ((z_needs s (X.2 (i + 1))).2.1)) rfl rfl ?_
      refine zp_i2l rfl rfl ?_
      refine zp_lcmp rfl rfl ?_
      rw [lg_self]
      refine zp_ifT (tgt := 1858) rfl rfl (by decide +kernel) ?_
      refine zp_goto (tgt := 2223) rfl rfl ?_
      exact nx _ _ _ _ (zl_step hv s2 g2 d3 (zW_needs hW))
  · exact absurd rfl b1836
theorem lc_26 {i n : Nat} {x5 x6 : Value} (hv : zl_V n s h) (hi : i + 6 ≤ X.1) (hX : X.1 ≤ 3072) (nx : ∀ s' h' x y, zl_V (n + 1) s' h' → zp_wp X y_Law_law 2223 [.retAddr 0, .ref 0, .ref 171, .ref 189, .int (nI i), x, y] [] h' Q) : zp_wp X y_Law_law 1861 [.retAddr 0, .ref 0, .ref 171, .ref 189, .int (nI i), x5, x6] [] h Q := by
  have hS := hv.1.1
  have hW := hv.2.2.1
  have hB := hW.B
  have hbd : (z_matchC s (X.2 (i + 1))).1 ≤ 1 := zb_matchC
  refine zp_aload_n (x := 0) rfl rfl ?_
  refine zp_sload_n rfl rfl ?_
  refine zp_iload (x := (nI i)) rfl rfl ?_
  refine zp_iconst (v := (nI 1)) rfl (by decide +kernel) ?_
  refine zp_iaddN rfl ?_
  refine zp_sald rfl (by omega) (by omega) ?_
  refine zp_aload_n (x := 189) rfl rfl ?_
  refine zp_call rfl rfl (s_Law_matchOfClass hv.1 hW (fun h2 s2 g2 o2 => ?_))
  have hS := s2.1
  have r2 := g2.r hv.2.1 s2.1
  show zp_wp X y_Law_law 1872 [.retAddr 0, .ref 0, .ref 171, .ref 189, .int (nI i), x5, x6] [.int (nI ((z_matchC s (X.2 (i + 1))).1))] h2 Q
  refine zp_istore_5 rfl rfl ?_
  refine zp_aload_n (x := 171) rfl rfl ?_
  refine zp_sload_n rfl rfl ?_
  refine zp_iload (x := (nI i)) rfl rfl ?_
  refine zp_iconst (v := (nI 1)) rfl (by decide +kernel) ?_
  refine zp_iaddN rfl ?_
  refine zp_sald rfl (by omega) (by omega) ?_
  refine zq_virt hS rfl rfl (by first | assumption | exact ⟨by decide, rfl⟩) rfl (s_Mod_matchOfClass r2 hB (fun h3 d3 => ?_))
  have hS := d3.1.1
  have o3 : (z_matchC s (X.2 (i + 1))).1 = 0 → cj h3 189 0 = Int32.toInt64 (z_matchC s (X.2 (i + 1))).2.1 := fun q => by rw [d3.2.1.gj (by decide)]; exact o2 q
  show zp_wp X y_Law_law 1884 [.retAddr 0, .ref 0, .ref 171, .ref 189, .int (nI i), .int (nI ((z_matchC s (X.2 (i + 1))).1)), x6] [.int ((z_matchC s (X.2 (i + 1))).2.1)] h3 Q
  refine zp_istore_6 rfl rfl ?_
  refine zp_aload_n (x := 171) rfl rfl ?_
  refine zq_virt hS rfl rfl (by first | assumption | exact ⟨by decide, rfl⟩) rfl (s_Mod_thrown hS ?_)
  rw [d3.2.2]
  show zp_wp X y_Law_law 1890 [.retAddr 0, .ref 0, .ref 171, .ref 189, .int (nI i), .int (nI ((z_matchC s (X.2 (i + 1))).1)), .int ((z_matchC s (X.2 (i + 1))).2.1)] [.int (nI ((z_matchC s (X.2 (i + 1))).1))] h3 Q
  refine zp_iload (x := (nI ((z_matchC s (X.2 (i + 1))).1))) rfl rfl ?_
  refine zp_icmpN_eq (tgt := 1897) rfl rfl (by omega) (by omega) (fun b1892 => ?_) (fun b1892 => ?_)
  · refine zp_iload (x := (nI ((z_matchC s (X.2 (i + 1))).1))) rfl rfl ?_
    refine zp_ifN_ne (tgt := 1914) rfl rfl (by omega) (fun b1899 => ?_) (fun b1899 => ?_)
    · refine zp_goto (tgt := 2223) rfl rfl ?_
      exact nx _ _ _ _ (zl_step hv s2 g2 d3 (zW_matchOfClass hW))
    · refine zp_aload_n (x := 189) rfl rfl ?_
      refine zp_iconst (v := (nI 0)) rfl (by decide +kernel) ?_
      refine zq_lald hS rfl (by first | assumption | exact ⟨by decide, rfl⟩) (by omega) (by first | decide | omega) ?_
      rw [o3 b1899]
      refine zp_iload (x := ((z_matchC s (X.2 (i + 1))).2.1)) rfl rfl ?_
      refine zp_i2l rfl rfl ?_
      refine zp_lcmp rfl rfl ?_
      rw [lg_self]
      refine zp_ifT (tgt := 1914) rfl rfl (by decide +kernel) ?_
      refine zp_goto (tgt := 2223) rfl rfl ?_
      exact nx _ _ _ _ (zl_step hv s2 g2 d3 (zW_matchOfClass hW))
  · exact absurd rfl b1892
theorem lc_27 {i n : Nat} {x5 x6 : Value} (hv : zl_V n s h) (hi : i + 6 ≤ X.1) (hX : X.1 ≤ 3072) (nx : ∀ s' h' x y, zl_V (n + 1) s' h' → zp_wp X y_Law_law 2223 [.retAddr 0, .ref 0, .ref 171, .ref 189, .int (nI i), x, y] [] h' Q) : zp_wp X y_Law_law 1917 [.retAddr 0, .ref 0, .ref 171, .ref 189, .int (nI i), x5, x6] [] h Q := by
  have hS := hv.1.1
  have hW := hv.2.2.1
  have hB := hW.B
  have hbd : (z_matchM s (X.2 (i + 1)) (X.2 (i + 2))).1 ≤ 1 := zb_matchM
  refine zp_aload_n (x := 0) rfl rfl ?_
  refine zp_sload_n rfl rfl ?_
  refine zp_iload (x := (nI i)) rfl rfl ?_
  refine zp_iconst (v := (nI 1)) rfl (by decide +kernel) ?_
  refine zp_iaddN rfl ?_
  refine zp_sald rfl (by omega) (by omega) ?_
  refine zp_sload_n rfl rfl ?_
  refine zp_iload (x := (nI i)) rfl rfl ?_
  refine zp_iconst (v := (nI 2)) rfl (by decide +kernel) ?_
  refine zp_iaddN rfl ?_
  refine zp_sald rfl (by omega) (by omega) ?_
  refine zp_aload_n (x := 189) rfl rfl ?_
  refine zp_call rfl rfl (s_Law_matchOfMember hv.1 hW (fun h2 s2 g2 o2 => ?_))
  have hS := s2.1
  have r2 := g2.r hv.2.1 s2.1
  show zp_wp X y_Law_law 1934 [.retAddr 0, .ref 0, .ref 171, .ref 189, .int (nI i), x5, x6] [.int (nI ((z_matchM s (X.2 (i + 1)) (X.2 (i + 2))).1))] h2 Q
  refine zp_istore_5 rfl rfl ?_
  refine zp_aload_n (x := 171) rfl rfl ?_
  refine zp_sload_n rfl rfl ?_
  refine zp_iload (x := (nI i)) rfl rfl ?_
  refine zp_iconst (v := (nI 1)) rfl (by decide +kernel) ?_
  refine zp_iaddN rfl ?_
  refine zp_sald rfl (by omega) (by omega) ?_
  refine zp_sload_n rfl rfl ?_
  refine zp_iload (x := (nI i)) rfl rfl ?_
  refine zp_iconst (v := (nI 2)) rfl (by decide +kernel) ?_
  refine zp_iaddN rfl ?_
  refine zp_sald rfl (by omega) (by omega) ?_
  refine zq_virt hS rfl rfl (by first | assumption | exact ⟨by decide, rfl⟩) rfl (s_Mod_matchOfMember r2 hB (fun h3 d3 => ?_))
  have hS := d3.1.1
  have o3 : (z_matchM s (X.2 (i + 1)) (X.2 (i + 2))).1 = 0 → cj h3 189 0 = Int32.toInt64 (z_matchM s (X.2 (i + 1)) (X.2 (i + 2))).2.1 := fun q => by rw [d3.2.1.gj (by decide)]; exact o2 q
  show zp_wp X y_Law_law 1952 [.retAddr 0, .ref 0, .ref 171, .ref 189, .int (nI i), .int (nI ((z_matchM s (X.2 (i + 1)) (X.2 (i + 2))).1)), x6] [.int ((z_matchM s (X.2 (i + 1)) (X.2 (i + 2))).2.1)] h3 Q
  refine zp_istore_6 rfl rfl ?_
  refine zp_aload_n (x := 171) rfl rfl ?_
  refine zq_virt hS rfl rfl (by first | assumption | exact ⟨by decide, rfl⟩) rfl (s_Mod_thrown hS ?_)
  rw [d3.2.2]
  show zp_wp X y_Law_law 1958 [.retAddr 0, .ref 0, .ref 171, .ref 189, .int (nI i), .int (nI ((z_matchM s (X.2 (i + 1)) (X.2 (i + 2))).1)), .int ((z_matchM s (X.2 (i + 1)) (X.2 (i + 2))).2.1)] [.int (nI ((z_matchM s (X.2 (i + 1)) (X.2 (i + 2))).1))] h3 Q
  refine zp_iload (x := (nI ((z_matchM s (X.2 (i + 1)) (X.2 (i + 2))).1))) rfl rfl ?_
  refine zp_icmpN_eq (tgt := 1965) rfl rfl (by omega) (by omega) (fun b1960 => ?_) (fun b1960 => ?_)
  · refine zp_iload (x := (nI ((z_matchM s (X.2 (i + 1)) (X.2 (i + 2))).1))) rfl rfl ?_
    refine zp_ifN_ne (tgt := 1982) rfl rfl (by omega) (fun b1967 => ?_) (fun b1967 => ?_)
    · refine zp_goto (tgt := 2223) rfl rfl ?_
      exact nx _ _ _ _ (zl_step hv s2 g2 d3 (zW_matchOfMember hW))
    · refine zp_aload_n (x := 189) rfl rfl ?_
      refine zp_iconst (v := (nI 0)) rfl (by decide +kernel) ?_
      refine zq_lald hS rfl (by first | assumption | exact ⟨by decide, rfl⟩) (by omega) (by first | decide | omega) ?_
      rw [o3 b1967]
      refine zp_iload (x := ((z_matchM s (X.2 (i + 1)) (X.2 (i + 2))).2.1)) rfl rfl ?_
      refine zp_i2l rfl rfl ?_
      refine zp_lcmp rfl rfl ?_
      rw [lg_self]
      refine zp_ifT (tgt := 1982) rfl rfl (by decide +kernel) ?_
      refine zp_goto (tgt := 2223) rfl rfl ?_
      exact nx _ _ _ _ (zl_step hv s2 g2 d3 (zW_matchOfMember hW))
  · exact absurd rfl b1960
theorem lc_28 {i n : Nat} {x5 x6 : Value} (hv : zl_V n s h) (hi : i + 6 ≤ X.1) (hX : X.1 ≤ 3072) (nx : ∀ s' h' x y, zl_V (n + 1) s' h' → zp_wp X y_Law_law 2223 [.retAddr 0, .ref 0, .ref 171, .ref 189, .int (nI i), x, y] [] h' Q) : zp_wp X y_Law_law 1985 [.retAddr 0, .ref 0, .ref 171, .ref 189, .int (nI i), x5, x6] [] h Q := by
  have hS := hv.1.1
  have hW := hv.2.2.1
  have hB := hW.B
  by_cases hm9 : X.2 (i + 2) = 0
  · have hbd : (z_replay s (X.2 (i + 1)) false).1 ≤ 1 := zb_replay
    refine zp_aload_n (x := 0) rfl rfl ?_
    refine zp_sload_n rfl rfl ?_
    refine zp_iload (x := (nI i)) rfl rfl ?_
    refine zp_iconst (v := (nI 1)) rfl (by decide +kernel) ?_
    refine zp_iaddN rfl ?_
    refine zp_sald rfl (by omega) (by omega) ?_
    refine zp_sload_n rfl rfl ?_
    refine zp_iload (x := (nI i)) rfl rfl ?_
    refine zp_iconst (v := (nI 2)) rfl (by decide +kernel) ?_
    refine zp_iaddN rfl ?_
    refine zp_sald rfl (by omega) (by omega) ?_
    refine zp_if_eq (tgt := 2005) rfl rfl (fun b1998 => ?_) (fun b1998 => ?_)
    · refine zp_iconst (v := (nI 0)) rfl (by decide +kernel) ?_
      refine zp_aload_n (x := 189) rfl rfl ?_
      refine zp_call rfl rfl (s_Law_replay (mend := false) hv.1 hW (fun h2 s2 g2 o2 => ?_))
      have hS := s2.1
      have r2 := g2.r hv.2.1 s2.1
      show zp_wp X y_Law_law 2010 [.retAddr 0, .ref 0, .ref 171, .ref 189, .int (nI i), x5, x6] [.int (nI ((z_replay s (X.2 (i + 1)) false).1))] h2 Q
      refine zp_istore_5 rfl rfl ?_
      refine zp_aload_n (x := 171) rfl rfl ?_
      refine zp_sload_n rfl rfl ?_
      refine zp_iload (x := (nI i)) rfl rfl ?_
      refine zp_iconst (v := (nI 1)) rfl (by decide +kernel) ?_
      refine zp_iaddN rfl ?_
      refine zp_sald rfl (by omega) (by omega) ?_
      refine zp_sload_n rfl rfl ?_
      refine zp_iload (x := (nI i)) rfl rfl ?_
      refine zp_iconst (v := (nI 2)) rfl (by decide +kernel) ?_
      refine zp_iaddN rfl ?_
      refine zp_sald rfl (by omega) (by omega) ?_
      refine zp_if_eq (tgt := 2032) rfl rfl (fun b2025 => ?_) (fun b2025 => ?_)
      · refine zp_iconst (v := (nI 0)) rfl (by decide +kernel) ?_
        refine zq_virt hS rfl rfl (by first | assumption | exact ⟨by decide, rfl⟩) rfl (s_Mod_replay (mend := false) r2 hB hW.1.1 hW.1.2.2 (fun k hk => (hW.2.1 k hk).1) (fun k hk => (hW.2.1 k hk).2) (fun h3 d3 => ?_))
        have hS := d3.1.1
        have o3 : (z_replay s (X.2 (i + 1)) false).1 = 0 → cj h3 189 0 = Int32.toInt64 (z_replay s (X.2 (i + 1)) false).2.1 := fun q => by rw [d3.2.1.gj (by decide)]; exact o2 q
        show zp_wp X y_Law_law 2036 [.retAddr 0, .ref 0, .ref 171, .ref 189, .int (nI i), .int (nI ((z_replay s (X.2 (i + 1)) false).1)), x6] [.int ((z_replay s (X.2 (i + 1)) false).2.1)] h3 Q
        refine zp_istore_6 rfl rfl ?_
        refine zp_aload_n (x := 171) rfl rfl ?_
        refine zq_virt hS rfl rfl (by first | assumption | exact ⟨by decide, rfl⟩) rfl (s_Mod_thrown hS ?_)
        rw [d3.2.2]
        show zp_wp X y_Law_law 2042 [.retAddr 0, .ref 0, .ref 171, .ref 189, .int (nI i), .int (nI ((z_replay s (X.2 (i + 1)) false).1)), .int ((z_replay s (X.2 (i + 1)) false).2.1)] [.int (nI ((z_replay s (X.2 (i + 1)) false).1))] h3 Q
        refine zp_iload (x := (nI ((z_replay s (X.2 (i + 1)) false).1))) rfl rfl ?_
        refine zp_icmpN_eq (tgt := 2049) rfl rfl (by omega) (by omega) (fun b2044 => ?_) (fun b2044 => ?_)
        · refine zp_iload (x := (nI ((z_replay s (X.2 (i + 1)) false).1))) rfl rfl ?_
          refine zp_ifN_ne (tgt := 2066) rfl rfl (by omega) (fun b2051 => ?_) (fun b2051 => ?_)
          · refine zp_goto (tgt := 2223) rfl rfl ?_
            exact nx _ _ _ _ (zl_step hv s2 g2 d3 (zW_replay hW))
          · refine zp_aload_n (x := 189) rfl rfl ?_
            refine zp_iconst (v := (nI 0)) rfl (by decide +kernel) ?_
            refine zq_lald hS rfl (by first | assumption | exact ⟨by decide, rfl⟩) (by omega) (by first | decide | omega) ?_
            rw [o3 b2051]
            refine zp_iload (x := ((z_replay s (X.2 (i + 1)) false).2.1)) rfl rfl ?_
            refine zp_i2l rfl rfl ?_
            refine zp_lcmp rfl rfl ?_
            rw [lg_self]
            refine zp_ifT (tgt := 2066) rfl rfl (by decide +kernel) ?_
            refine zp_goto (tgt := 2223) rfl rfl ?_
            exact nx _ _ _ _ (zl_step hv s2 g2 d3 (zW_replay hW))
        · exact absurd rfl b2044
      · exact absurd hm9 b2025
    · exact absurd hm9 b1998
  · have hbd : (z_replay s (X.2 (i + 1)) true).1 ≤ 1 := zb_replay
    refine zp_aload_n (x := 0) rfl rfl ?_
    refine zp_sload_n rfl rfl ?_
    refine zp_iload (x := (nI i)) rfl rfl ?_
    refine zp_iconst (v := (nI 1)) rfl (by decide +kernel) ?_
    refine zp_iaddN rfl ?_
    refine zp_sald rfl (by omega) (by omega) ?_
    refine zp_sload_n rfl rfl ?_
    refine zp_iload (x := (nI i)) rfl rfl ?_
    refine zp_iconst (v := (nI 2)) rfl (by decide +kernel) ?_
    refine zp_iaddN rfl ?_
    refine zp_sald rfl (by omega) (by omega) ?_
    refine zp_if_eq (tgt := 2005) rfl rfl (fun b1998 => ?_) (fun b1998 => ?_)
    · exact absurd b1998 hm9
    · refine zp_iconst (v := (nI 1)) rfl (by decide +kernel) ?_
      refine zp_goto (tgt := 2006) rfl rfl ?_
      refine zp_aload_n (x := 189) rfl rfl ?_
      refine zp_call rfl rfl (s_Law_replay (mend := true) hv.1 hW (fun h2 s2 g2 o2 => ?_))
      have hS := s2.1
      have r2 := g2.r hv.2.1 s2.1
      show zp_wp X y_Law_law 2010 [.retAddr 0, .ref 0, .ref 171, .ref 189, .int (nI i), x5, x6] [.int (nI ((z_replay s (X.2 (i + 1)) true).1))] h2 Q
      refine zp_istore_5 rfl rfl ?_
      refine zp_aload_n (x := 171) rfl rfl ?_
      refine zp_sload_n rfl rfl ?_
      refine zp_iload (x := (nI i)) rfl rfl ?_
      refine zp_iconst (v := (nI 1)) rfl (by decide +kernel) ?_
      refine zp_iaddN rfl ?_
      refine zp_sald rfl (by omega) (by omega) ?_
      refine zp_sload_n rfl rfl ?_
      refine zp_iload (x := (nI i)) rfl rfl ?_
      refine zp_iconst (v := (nI 2)) rfl (by decide +kernel) ?_
      refine zp_iaddN rfl ?_
      refine zp_sald rfl (by omega) (by omega) ?_
      refine zp_if_eq (tgt := 2032) rfl rfl (fun b2025 => ?_) (fun b2025 => ?_)
      · exact absurd b2025 hm9
      · refine zp_iconst (v := (nI 1)) rfl (by decide +kernel) ?_
        refine zp_goto (tgt := 2033) rfl rfl ?_
        refine zq_virt hS rfl rfl (by first | assumption | exact ⟨by decide, rfl⟩) rfl (s_Mod_replay (mend := true) r2 hB hW.1.1 hW.1.2.2 (fun k hk => (hW.2.1 k hk).1) (fun k hk => (hW.2.1 k hk).2) (fun h3 d3 => ?_))
        have hS := d3.1.1
        have o3 : (z_replay s (X.2 (i + 1)) true).1 = 0 → cj h3 189 0 = Int32.toInt64 (z_replay s (X.2 (i + 1)) true).2.1 := fun q => by rw [d3.2.1.gj (by decide)]; exact o2 q
        show zp_wp X y_Law_law 2036 [.retAddr 0, .ref 0, .ref 171, .ref 189, .int (nI i), .int (nI ((z_replay s (X.2 (i + 1)) true).1)), x6] [.int ((z_replay s (X.2 (i + 1)) true).2.1)] h3 Q
        refine zp_istore_6 rfl rfl ?_
        refine zp_aload_n (x := 171) rfl rfl ?_
        refine zq_virt hS rfl rfl (by first | assumption | exact ⟨by decide, rfl⟩) rfl (s_Mod_thrown hS ?_)
        rw [d3.2.2]
        show zp_wp X y_Law_law 2042 [.retAddr 0, .ref 0, .ref 171, .ref 189, .int (nI i), .int (nI ((z_replay s (X.2 (i + 1)) true).1)), .int ((z_replay s (X.2 (i + 1)) true).2.1)] [.int (nI ((z_replay s (X.2 (i + 1)) true).1))] h3 Q
        refine zp_iload (x := (nI ((z_replay s (X.2 (i + 1)) true).1))) rfl rfl ?_
        refine zp_icmpN_eq (tgt := 2049) rfl rfl (by omega) (by omega) (fun b2044 => ?_) (fun b2044 => ?_)
        · refine zp_iload (x := (nI ((z_replay s (X.2 (i + 1)) true).1))) rfl rfl ?_
          refine zp_ifN_ne (tgt := 2066) rfl rfl (by omega) (fun b2051 => ?_) (fun b2051 => ?_)
          · refine zp_goto (tgt := 2223) rfl rfl ?_
            exact nx _ _ _ _ (zl_step hv s2 g2 d3 (zW_replay hW))
          · refine zp_aload_n (x := 189) rfl rfl ?_
            refine zp_iconst (v := (nI 0)) rfl (by decide +kernel) ?_
            refine zq_lald hS rfl (by first | assumption | exact ⟨by decide, rfl⟩) (by omega) (by first | decide | omega) ?_
            rw [o3 b2051]
            refine zp_iload (x := ((z_replay s (X.2 (i + 1)) true).2.1)) rfl rfl ?_
            refine zp_i2l rfl rfl ?_
            refine zp_lcmp rfl rfl ?_
            rw [lg_self]
            refine zp_ifT (tgt := 2066) rfl rfl (by decide +kernel) ?_
            refine zp_goto (tgt := 2223) rfl rfl ?_
            exact nx _ _ _ _ (zl_step hv s2 g2 d3 (zW_replay hW))
        · exact absurd rfl b2044
theorem lc_29 {i n : Nat} {x5 x6 : Value} (hv : zl_V n s h) (hi : i + 6 ≤ X.1) (hX : X.1 ≤ 3072) (nx : ∀ s' h' x y, zl_V (n + 1) s' h' → zp_wp X y_Law_law 2223 [.retAddr 0, .ref 0, .ref 171, .ref 189, .int (nI i), x, y] [] h' Q) : zp_wp X y_Law_law 2069 [.retAddr 0, .ref 0, .ref 171, .ref 189, .int (nI i), x5, x6] [] h Q := by
  have hS := hv.1.1
  have hW := hv.2.2.1
  have hB := hW.B
  by_cases hm9 : X.2 (i + 2) = 0
  · have hbd : (z_forecast s (X.2 (i + 1)) false).1 ≤ 1 := zb_forecast
    refine zp_aload_n (x := 0) rfl rfl ?_
    refine zp_sload_n rfl rfl ?_
    refine zp_iload (x := (nI i)) rfl rfl ?_
    refine zp_iconst (v := (nI 1)) rfl (by decide +kernel) ?_
    refine zp_iaddN rfl ?_
    refine zp_sald rfl (by omega) (by omega) ?_
    refine zp_sload_n rfl rfl ?_
    refine zp_iload (x := (nI i)) rfl rfl ?_
    refine zp_iconst (v := (nI 2)) rfl (by decide +kernel) ?_
    refine zp_iaddN rfl ?_
    refine zp_sald rfl (by omega) (by omega) ?_
    refine zp_if_eq (tgt := 2089) rfl rfl (fun b2082 => ?_) (fun b2082 => ?_)
    · refine zp_iconst (v := (nI 0)) rfl (by decide +kernel) ?_
      refine zp_aload_n (x := 189) rfl rfl ?_
      refine zp_call rfl rfl (s_Law_forecast (mend := false) hv.1 hW (fun h2 s2 g2 o2 => ?_))
      have hS := s2.1
      have r2 := g2.r hv.2.1 s2.1
      show zp_wp X y_Law_law 2094 [.retAddr 0, .ref 0, .ref 171, .ref 189, .int (nI i), x5, x6] [.int (nI ((z_forecast s (X.2 (i + 1)) false).1))] h2 Q
      refine zp_istore_5 rfl rfl ?_
      refine zp_aload_n (x := 171) rfl rfl ?_
      refine zp_sload_n rfl rfl ?_
      refine zp_iload (x := (nI i)) rfl rfl ?_
      refine zp_iconst (v := (nI 1)) rfl (by decide +kernel) ?_
      refine zp_iaddN rfl ?_
      refine zp_sald rfl (by omega) (by omega) ?_
      refine zp_sload_n rfl rfl ?_
      refine zp_iload (x := (nI i)) rfl rfl ?_
      refine zp_iconst (v := (nI 2)) rfl (by decide +kernel) ?_
      refine zp_iaddN rfl ?_
      refine zp_sald rfl (by omega) (by omega) ?_
      refine zp_if_eq (tgt := 2116) rfl rfl (fun b2109 => ?_) (fun b2109 => ?_)
      · refine zp_iconst (v := (nI 0)) rfl (by decide +kernel) ?_
        refine zq_virt hS rfl rfl (by first | assumption | exact ⟨by decide, rfl⟩) rfl (s_Mod_forecast (mend := false) r2 hB hW.1.1 hW.1.2.2 (fun k hk => (hW.2.1 k hk).1) (fun k hk => (hW.2.1 k hk).2) (fun h3 d3 => ?_))
        have hS := d3.1.1
        have o3 : (z_forecast s (X.2 (i + 1)) false).1 = 0 → cj h3 189 0 = Int32.toInt64 (z_forecast s (X.2 (i + 1)) false).2.1 := fun q => by rw [d3.2.1.gj (by decide)]; exact o2 q
        show zp_wp X y_Law_law 2120 [.retAddr 0, .ref 0, .ref 171, .ref 189, .int (nI i), .int (nI ((z_forecast s (X.2 (i + 1)) false).1)), x6] [.int ((z_forecast s (X.2 (i + 1)) false).2.1)] h3 Q
        refine zp_istore_6 rfl rfl ?_
        refine zp_aload_n (x := 171) rfl rfl ?_
        refine zq_virt hS rfl rfl (by first | assumption | exact ⟨by decide, rfl⟩) rfl (s_Mod_thrown hS ?_)
        rw [d3.2.2]
        show zp_wp X y_Law_law 2126 [.retAddr 0, .ref 0, .ref 171, .ref 189, .int (nI i), .int (nI ((z_forecast s (X.2 (i + 1)) false).1)), .int ((z_forecast s (X.2 (i + 1)) false).2.1)] [.int (nI ((z_forecast s (X.2 (i + 1)) false).1))] h3 Q
        refine zp_iload (x := (nI ((z_forecast s (X.2 (i + 1)) false).1))) rfl rfl ?_
        refine zp_icmpN_eq (tgt := 2133) rfl rfl (by omega) (by omega) (fun b2128 => ?_) (fun b2128 => ?_)
        · refine zp_iload (x := (nI ((z_forecast s (X.2 (i + 1)) false).1))) rfl rfl ?_
          refine zp_ifN_ne (tgt := 2150) rfl rfl (by omega) (fun b2135 => ?_) (fun b2135 => ?_)
          · refine zp_goto (tgt := 2223) rfl rfl ?_
            exact nx _ _ _ _ (zl_step hv s2 g2 d3 (zW_forecast hW))
          · refine zp_aload_n (x := 189) rfl rfl ?_
            refine zp_iconst (v := (nI 0)) rfl (by decide +kernel) ?_
            refine zq_lald hS rfl (by first | assumption | exact ⟨by decide, rfl⟩) (by omega) (by first | decide | omega) ?_
            rw [o3 b2135]
            refine zp_iload (x := ((z_forecast s (X.2 (i + 1)) false).2.1)) rfl rfl ?_
            refine zp_i2l rfl rfl ?_
            refine zp_lcmp rfl rfl ?_
            rw [lg_self]
            refine zp_ifT (tgt := 2150) rfl rfl (by decide +kernel) ?_
            refine zp_goto (tgt := 2223) rfl rfl ?_
            exact nx _ _ _ _ (zl_step hv s2 g2 d3 (zW_forecast hW))
        · exact absurd rfl b2128
      · exact absurd hm9 b2109
    · exact absurd hm9 b2082
  · have hbd : (z_forecast s (X.2 (i + 1)) true).1 ≤ 1 := zb_forecast
    refine zp_aload_n (x := 0) rfl rfl ?_
    refine zp_sload_n rfl rfl ?_
    refine zp_iload (x := (nI i)) rfl rfl ?_
    refine zp_iconst (v := (nI 1)) rfl (by decide +kernel) ?_
    refine zp_iaddN rfl ?_
    refine zp_sald rfl (by omega) (by omega) ?_
    refine zp_sload_n rfl rfl ?_
    refine zp_iload (x := (nI i)) rfl rfl ?_
    refine zp_iconst (v := (nI 2)) rfl (by decide +kernel) ?_
    refine zp_iaddN rfl ?_
    refine zp_sald rfl (by omega) (by omega) ?_
    refine zp_if_eq (tgt := 2089) rfl rfl (fun b2082 => ?_) (fun b2082 => ?_)
    · exact absurd b2082 hm9
    · refine zp_iconst (v := (nI 1)) rfl (by decide +kernel) ?_
      refine zp_goto (tgt := 2090) rfl rfl ?_
      refine zp_aload_n (x := 189) rfl rfl ?_
      refine zp_call rfl rfl (s_Law_forecast (mend := true) hv.1 hW (fun h2 s2 g2 o2 => ?_))
      have hS := s2.1
      have r2 := g2.r hv.2.1 s2.1
      show zp_wp X y_Law_law 2094 [.retAddr 0, .ref 0, .ref 171, .ref 189, .int (nI i), x5, x6] [.int (nI ((z_forecast s (X.2 (i + 1)) true).1))] h2 Q
      refine zp_istore_5 rfl rfl ?_
      refine zp_aload_n (x := 171) rfl rfl ?_
      refine zp_sload_n rfl rfl ?_
      refine zp_iload (x := (nI i)) rfl rfl ?_
      refine zp_iconst (v := (nI 1)) rfl (by decide +kernel) ?_
      refine zp_iaddN rfl ?_
      refine zp_sald rfl (by omega) (by omega) ?_
      refine zp_sload_n rfl rfl ?_
      refine zp_iload (x := (nI i)) rfl rfl ?_
      refine zp_iconst (v := (nI 2)) rfl (by decide +kernel) ?_
      refine zp_iaddN rfl ?_
      refine zp_sald rfl (by omega) (by omega) ?_
      refine zp_if_eq (tgt := 2116) rfl rfl (fun b2109 => ?_) (fun b2109 => ?_)
      · exact absurd b2109 hm9
      · refine zp_iconst (v := (nI 1)) rfl (by decide +kernel) ?_
        refine zp_goto (tgt := 2117) rfl rfl ?_
        refine zq_virt hS rfl rfl (by first | assumption | exact ⟨by decide, rfl⟩) rfl (s_Mod_forecast (mend := true) r2 hB hW.1.1 hW.1.2.2 (fun k hk => (hW.2.1 k hk).1) (fun k hk => (hW.2.1 k hk).2) (fun h3 d3 => ?_))
        have hS := d3.1.1
        have o3 : (z_forecast s (X.2 (i + 1)) true).1 = 0 → cj h3 189 0 = Int32.toInt64 (z_forecast s (X.2 (i + 1)) true).2.1 := fun q => by rw [d3.2.1.gj (by decide)]; exact o2 q
        show zp_wp X y_Law_law 2120 [.retAddr 0, .ref 0, .ref 171, .ref 189, .int (nI i), .int (nI ((z_forecast s (X.2 (i + 1)) true).1)), x6] [.int ((z_forecast s (X.2 (i + 1)) true).2.1)] h3 Q
        refine zp_istore_6 rfl rfl ?_
        refine zp_aload_n (x := 171) rfl rfl ?_
        refine zq_virt hS rfl rfl (by first | assumption | exact ⟨by decide, rfl⟩) rfl (s_Mod_thrown hS ?_)
        rw [d3.2.2]
        show zp_wp X y_Law_law 2126 [.retAddr 0, .ref 0, .ref 171, .ref 189, .int (nI i), .int (nI ((z_forecast s (X.2 (i + 1)) true).1)), .int ((z_forecast s (X.2 (i + 1)) true).2.1)] [.int (nI ((z_forecast s (X.2 (i + 1)) true).1))] h3 Q
        refine zp_iload (x := (nI ((z_forecast s (X.2 (i + 1)) true).1))) rfl rfl ?_
        refine zp_icmpN_eq (tgt := 2133) rfl rfl (by omega) (by omega) (fun b2128 => ?_) (fun b2128 => ?_)
        · refine zp_iload (x := (nI ((z_forecast s (X.2 (i + 1)) true).1))) rfl rfl ?_
          refine zp_ifN_ne (tgt := 2150) rfl rfl (by omega) (fun b2135 => ?_) (fun b2135 => ?_)
          · refine zp_goto (tgt := 2223) rfl rfl ?_
            exact nx _ _ _ _ (zl_step hv s2 g2 d3 (zW_forecast hW))
          · refine zp_aload_n (x := 189) rfl rfl ?_
            refine zp_iconst (v := (nI 0)) rfl (by decide +kernel) ?_
            refine zq_lald hS rfl (by first | assumption | exact ⟨by decide, rfl⟩) (by omega) (by first | decide | omega) ?_
            rw [o3 b2135]
            refine zp_iload (x := ((z_forecast s (X.2 (i + 1)) true).2.1)) rfl rfl ?_
            refine zp_i2l rfl rfl ?_
            refine zp_lcmp rfl rfl ?_
            rw [lg_self]
            refine zp_ifT (tgt := 2150) rfl rfl (by decide +kernel) ?_
            refine zp_goto (tgt := 2223) rfl rfl ?_
            exact nx _ _ _ _ (zl_step hv s2 g2 d3 (zW_forecast hW))
        · exact absurd rfl b2128
theorem lc_30 {i n : Nat} {x5 x6 : Value} (hv : zl_V n s h) (hi : i + 6 ≤ X.1) (hX : X.1 ≤ 3072) (nx : ∀ s' h' x y, zl_V (n + 1) s' h' → zp_wp X y_Law_law 2223 [.retAddr 0, .ref 0, .ref 171, .ref 189, .int (nI i), x, y] [] h' Q) : zp_wp X y_Law_law 2153 [.retAddr 0, .ref 0, .ref 171, .ref 189, .int (nI i), x5, x6] [] h Q := by
  have hS := hv.1.1
  have hW := hv.2.2.1
  have hB := hW.B
  have hbd : (z_outcome s (X.2 (i + 1))).1 ≤ 1 := zb_outcome
  refine zp_aload_n (x := 0) rfl rfl ?_
  refine zp_sload_n rfl rfl ?_
  refine zp_iload (x := (nI i)) rfl rfl ?_
  refine zp_iconst (v := (nI 1)) rfl (by decide +kernel) ?_
  refine zp_iaddN rfl ?_
  refine zp_sald rfl (by omega) (by omega) ?_
  refine zp_aload_n (x := 189) rfl rfl ?_
  refine zp_call rfl rfl (s_Law_outcome hv.1 hW (fun h2 s2 g2 o2 => ?_))
  have hS := s2.1
  have r2 := g2.r hv.2.1 s2.1
  show zp_wp X y_Law_law 2164 [.retAddr 0, .ref 0, .ref 171, .ref 189, .int (nI i), x5, x6] [.int (nI ((z_outcome s (X.2 (i + 1))).1))] h2 Q
  refine zp_istore_5 rfl rfl ?_
  refine zp_aload_n (x := 171) rfl rfl ?_
  refine zp_sload_n rfl rfl ?_
  refine zp_iload (x := (nI i)) rfl rfl ?_
  refine zp_iconst (v := (nI 1)) rfl (by decide +kernel) ?_
  refine zp_iaddN rfl ?_
  refine zp_sald rfl (by omega) (by omega) ?_
  refine zq_virt hS rfl rfl (by first | assumption | exact ⟨by decide, rfl⟩) rfl (s_Mod_outcome r2 hB (fun h3 d3 => ?_))
  have hS := d3.1.1
  have o3 : (z_outcome s (X.2 (i + 1))).1 = 0 → cj h3 189 0 = Int32.toInt64 (z_outcome s (X.2 (i + 1))).2.1 := fun q => by rw [d3.2.1.gj (by decide)]; exact o2 q
  show zp_wp X y_Law_law 2176 [.retAddr 0, .ref 0, .ref 171, .ref 189, .int (nI i), .int (nI ((z_outcome s (X.2 (i + 1))).1)), x6] [.int ((z_outcome s (X.2 (i + 1))).2.1)] h3 Q
  refine zp_istore_6 rfl rfl ?_
  refine zp_aload_n (x := 171) rfl rfl ?_
  refine zq_virt hS rfl rfl (by first | assumption | exact ⟨by decide, rfl⟩) rfl (s_Mod_thrown hS ?_)
  rw [d3.2.2]
  show zp_wp X y_Law_law 2182 [.retAddr 0, .ref 0, .ref 171, .ref 189, .int (nI i), .int (nI ((z_outcome s (X.2 (i + 1))).1)), .int ((z_outcome s (X.2 (i + 1))).2.1)] [.int (nI ((z_outcome s (X.2 (i + 1))).1))] h3 Q
  refine zp_iload (x := (nI ((z_outcome s (X.2 (i + 1))).1))) rfl rfl ?_
  refine zp_icmpN_eq (tgt := 2189) rfl rfl (by omega) (by omega) (fun b2184 => ?_) (fun b2184 => ?_)
  · refine zp_iload (x := (nI ((z_outcome s (X.2 (i + 1))).1))) rfl rfl ?_
    refine zp_ifN_ne (tgt := 2206) rfl rfl (by omega) (fun b2191 => ?_) (fun b2191 => ?_)
    · refine zp_goto (tgt := 2223) rfl rfl ?_
      exact nx _ _ _ _ (zl_step hv s2 g2 d3 (zW_outcome hW))
    · refine zp_aload_n (x := 189) rfl rfl ?_
      refine zp_iconst (v := (nI 0)) rfl (by decide +kernel) ?_
      refine zq_lald hS rfl (by first | assumption | exact ⟨by decide, rfl⟩) (by omega) (by first | decide | omega) ?_
      rw [o3 b2191]
      refine zp_iload (x := ((z_outcome s (X.2 (i + 1))).2.1)) rfl rfl ?_
      refine zp_i2l rfl rfl ?_
      refine zp_lcmp rfl rfl ?_
      rw [lg_self]
      refine zp_ifT (tgt := 2206) rfl rfl (by decide +kernel) ?_
      refine zp_goto (tgt := 2223) rfl rfl ?_
      exact nx _ _ _ _ (zl_step hv s2 g2 d3 (zW_outcome hW))
  · exact absurd rfl b2184
theorem lc_31 {i n : Nat} {x5 x6 : Value} (hv : zl_V n s h) (hi : i + 6 ≤ X.1) (hX : X.1 ≤ 3072) (nx : ∀ s' h' x y, zl_V (n + 1) s' h' → zp_wp X y_Law_law 2223 [.retAddr 0, .ref 0, .ref 171, .ref 189, .int (nI i), x, y] [] h' Q) : zp_wp X y_Law_law 2209 [.retAddr 0, .ref 0, .ref 171, .ref 189, .int (nI i), x5, x6] [] h Q := by
  have hS := hv.1.1
  have hW := hv.2.2.1
  have hB := hW.B
  refine zp_aload_n (x := 0) rfl rfl ?_
  refine zq_virt hS rfl rfl (by first | assumption | exact ⟨by decide, rfl⟩) rfl (s_RR_fingerprint hv.1 hW ?_)
  show zp_wp X y_Law_law 2213 [.retAddr 0, .ref 0, .ref 171, .ref 189, .int (nI i), x5, x6] [.long (z_print s)] h Q
  refine zp_aload_n (x := 171) rfl rfl ?_
  refine zq_virt hS rfl rfl (by first | assumption | exact ⟨by decide, rfl⟩) rfl (s_Mod_fingerprint hv.2.1 hB (fun h3 d3 => ?_))
  show zp_wp X y_Law_law 2217 [.retAddr 0, .ref 0, .ref 171, .ref 189, .int (nI i), x5, x6] [.long (z_print s), .long (z_print s)] h3 Q
  refine zp_lcmp rfl rfl ?_
  rw [lg_self]
  refine zp_ifT (tgt := 2223) rfl rfl (by decide +kernel) ?_
  exact nx _ _ _ _ (zl_step hv hv.1 (zc_F.rf).G d3 hW)
theorem nI_ltJ {a b : Nat} (ha : a < 2 ^ 31) (hb : b < 2 ^ 31) : nI a < nI b ↔ a < b := by
  constructor
  · intro q
    refine Decidable.byContradiction (fun z => absurd q (Int32.not_lt.mpr ?_))
    rcases Nat.lt_or_eq_of_le (Nat.not_lt.mp z) with z1 | z1
    · exact Int32.le_of_lt (nI_lt z1 ha)
    · rw [z1]; exact Int32.le_refl _
  · exact fun q => nI_lt q hb
theorem nI_m6 : ∀ n, n < 6 → nI n - nI 6 < 0 := by decide +kernel
theorem nI_6 {n i : Nat} (hn : n ≤ 3072) (hi : i ≤ 4000) : nI n - nI 6 < nI i ↔ n < i + 6 := by
  by_cases h : n < 6
  · exact ⟨fun _ => by omega, fun _ => Int32.lt_of_lt_of_le (nI_m6 n h) (nI_pos' (by omega))⟩
  · rw [pk_sub (by omega), nI_ltJ (by omega) (by omega)]
    omega
theorem nI_p6 (i : Nat) : nI i + Int32.ofInt 6 = nI (i + 6) := nI_add i 6
theorem nI_31 (x : Int32) : ∃ c, c < 32 ∧ x &&& nI 31 = nI c := by
  obtain ⟨n, -, rfl⟩ := wb_of32 x
  exact ⟨n &&& 31, by have := Nat.and_le_right (n := n) (m := 31); omega, nx_and n 31⟩
def zl_Q : zm_O → zm_H → Prop := fun r h => r = .inl (some (.int 1)) ∧ zm_uc h ≤ 100000 ∧ zm_us h ≤ 100000
theorem zl_loop (hX : X.1 ≤ 3072) : ∀ (k i n : Nat) (s : zst) (h : zm_H) (x5 x6 : Value), X.1 < i + 6 * k + 6 → i = 6 * n → i ≤ 3072 → zl_V n s h → zp_wp X y_Law_law 23 [.retAddr 0, .ref 0, .ref 171, .ref 189, .int (nI i), x5, x6] [] h zl_Q := by
  intro k
  induction k with
  | zero =>
    intro i n s h x5 x6 hk hn hi hv
    have hfin : ∀ x y, zp_wp X y_Law_law 2229 [.retAddr 0, .ref 0, .ref 171, .ref 189, .int (nI i), x, y] [] h zl_Q := by
      intro x y
      have Q9 : zl_Q (.inl (some (.int (nI 1)))) h := by
        refine ⟨rfl, ?_, ?_⟩
        · unfold zm_uc
          have e1 : h.2.1 = 190 := hv.1.1.1
          have e2 := hv.2.2.2.2
          omega
        · unfold zm_us
          have e1 := hv.2.2.2.1
          unfold zl_K at e1
          omega
      exact zp_iconst (v := (nI 1)) rfl (by decide +kernel) (zp_zret rfl rfl (by decide) Q9)
    generalize zl_Q = Q at *
    refine zp_iload (x := (nI i)) rfl rfl ?_
    refine zp_sload_n rfl rfl ?_
    refine zp_slen rfl ?_
    refine zp_bipush (v := (nI 6)) rfl (by decide +kernel) ?_
    refine zp_isub rfl rfl ?_
    refine zp_icmp_gt (tgt := 2229) rfl rfl (fun b30 => ?_) (fun b30 => ?_)
    · exact hfin _ _
    · exact absurd ((nI_6 hX (by omega)).mpr (by omega)) b30
  | succ k ih =>
    intro i n s h x5 x6 hk hn hi hv
    have hfin : ∀ x y, zp_wp X y_Law_law 2229 [.retAddr 0, .ref 0, .ref 171, .ref 189, .int (nI i), x, y] [] h zl_Q := by
      intro x y
      have Q9 : zl_Q (.inl (some (.int (nI 1)))) h := by
        refine ⟨rfl, ?_, ?_⟩
        · unfold zm_uc
          have e1 : h.2.1 = 190 := hv.1.1.1
          have e2 := hv.2.2.2.2
          omega
        · unfold zm_us
          have e1 := hv.2.2.2.1
          unfold zl_K at e1
          omega
      exact zp_iconst (v := (nI 1)) rfl (by decide +kernel) (zp_zret rfl rfl (by decide) Q9)
    obtain ⟨c, hc, e31⟩ := nI_31 (X.2 i)
    have nx : i + 6 ≤ X.1 → ∀ s' h' x y, zl_V (n + 1) s' h' → zp_wp X y_Law_law 2223 [.retAddr 0, .ref 0, .ref 171, .ref 189, .int (nI i), x, y] [] h' zl_Q := by
      intro hle s' h' x y hv'
      have go := ih (i + 6) (n + 1) s' h' x y (by omega) (by omega) (by omega) hv'
      generalize zl_Q = Q at *
      refine zp_iinc_4 rfl rfl rfl ?_
      refine zp_goto (tgt := 23) rfl rfl ?_
      rw [nI_p6]; exact go
    have main : i + 6 ≤ X.1 → zp_wp X y_Law_law 40 [.retAddr 0, .ref 0, .ref 171, .ref 189, .int (nI i), x5, x6] [.int (nI c)] h zl_Q := by
      intro hle
      have nx := nx hle
      generalize zl_Q = Q at *
      match c, hc with
      | 0, _ => exact zp_switch (off := 144) (tgt := 184) rfl (by decide +kernel) (by decide +kernel) (by decide +kernel) rfl (lc_0 hv hle hX nx)
      | 1, _ => exact zp_switch (off := 212) (tgt := 252) rfl (by decide +kernel) (by decide +kernel) (by decide +kernel) rfl (lc_1 hv hle hX nx)
      | 2, _ => exact zp_switch (off := 280) (tgt := 320) rfl (by decide +kernel) (by decide +kernel) (by decide +kernel) rfl (lc_2 hv hle hX nx)
      | 3, _ => exact zp_switch (off := 360) (tgt := 400) rfl (by decide +kernel) (by decide +kernel) (by decide +kernel) rfl (lc_3 hv hle hX nx)
      | 4, _ => exact zp_switch (off := 440) (tgt := 480) rfl (by decide +kernel) (by decide +kernel) (by decide +kernel) rfl (lc_4 hv hle hX nx)
      | 5, _ => exact zp_switch (off := 520) (tgt := 560) rfl (by decide +kernel) (by decide +kernel) (by decide +kernel) rfl (lc_5 hv hle hX nx)
      | 6, _ => exact zp_switch (off := 600) (tgt := 640) rfl (by decide +kernel) (by decide +kernel) (by decide +kernel) rfl (lc_6 hv hle hX nx)
      | 7, _ => exact zp_switch (off := 692) (tgt := 732) rfl (by decide +kernel) (by decide +kernel) (by decide +kernel) rfl (lc_7 hv hle hX nx)
      | 8, _ => exact zp_switch (off := 784) (tgt := 824) rfl (by decide +kernel) (by decide +kernel) (by decide +kernel) rfl (lc_8 hv hle hX nx)
      | 9, _ => exact zp_switch (off := 888) (tgt := 928) rfl (by decide +kernel) (by decide +kernel) (by decide +kernel) rfl (lc_9 hv hle hX nx)
      | 10, _ => exact zp_switch (off := 992) (tgt := 1032) rfl (by decide +kernel) (by decide +kernel) (by decide +kernel) rfl (lc_10 hv hle hX nx)
      | 11, _ => exact zp_switch (off := 1048) (tgt := 1088) rfl (by decide +kernel) (by decide +kernel) (by decide +kernel) rfl (lc_11 hv hle hX nx)
      | 12, _ => exact zp_switch (off := 1116) (tgt := 1156) rfl (by decide +kernel) (by decide +kernel) (by decide +kernel) rfl (lc_12 hv hle hX nx)
      | 13, _ => exact zp_switch (off := 1184) (tgt := 1224) rfl (by decide +kernel) (by decide +kernel) (by decide +kernel) rfl (lc_13 hv hle hX nx)
      | 14, _ => exact zp_switch (off := 1252) (tgt := 1292) rfl (by decide +kernel) (by decide +kernel) (by decide +kernel) rfl (lc_14 hv hle hX nx)
      | 15, _ => exact zp_switch (off := 1308) (tgt := 1348) rfl (by decide +kernel) (by decide +kernel) (by decide +kernel) rfl (lc_15 hv hle hX nx)
      | 16, _ => exact zp_switch (off := 1419) (tgt := 1459) rfl (by decide +kernel) (by decide +kernel) (by decide +kernel) rfl (lc_16 hv hle hX nx)
      | 17, _ => exact zp_switch (off := 1432) (tgt := 1472) rfl (by decide +kernel) (by decide +kernel) (by decide +kernel) rfl (lc_17 hv hle hX nx)
      | 18, _ => exact zp_switch (off := 1445) (tgt := 1485) rfl (by decide +kernel) (by decide +kernel) (by decide +kernel) rfl (lc_18 hv hle hX nx)
      | 19, _ => exact zp_switch (off := 1458) (tgt := 1498) rfl (by decide +kernel) (by decide +kernel) (by decide +kernel) rfl (lc_19 hv hle hX nx)
      | 20, _ => exact zp_switch (off := 1514) (tgt := 1554) rfl (by decide +kernel) (by decide +kernel) (by decide +kernel) rfl (lc_20 hv hle hX nx)
      | 21, _ => exact zp_switch (off := 1582) (tgt := 1622) rfl (by decide +kernel) (by decide +kernel) (by decide +kernel) rfl (lc_21 hv hle hX nx)
      | 22, _ => exact zp_switch (off := 1595) (tgt := 1635) rfl (by decide +kernel) (by decide +kernel) (by decide +kernel) rfl (lc_22 hv hle hX nx)
      | 23, _ => exact zp_switch (off := 1639) (tgt := 1679) rfl (by decide +kernel) (by decide +kernel) (by decide +kernel) rfl (lc_23 hv hle hX nx)
      | 24, _ => exact zp_switch (off := 1702) (tgt := 1742) rfl (by decide +kernel) (by decide +kernel) (by decide +kernel) rfl (lc_24 hv hle hX nx)
      | 25, _ => exact zp_switch (off := 1765) (tgt := 1805) rfl (by decide +kernel) (by decide +kernel) (by decide +kernel) rfl (lc_25 hv hle hX nx)
      | 26, _ => exact zp_switch (off := 1821) (tgt := 1861) rfl (by decide +kernel) (by decide +kernel) (by decide +kernel) rfl (lc_26 hv hle hX nx)
      | 27, _ => exact zp_switch (off := 1877) (tgt := 1917) rfl (by decide +kernel) (by decide +kernel) (by decide +kernel) rfl (lc_27 hv hle hX nx)
      | 28, _ => exact zp_switch (off := 1945) (tgt := 1985) rfl (by decide +kernel) (by decide +kernel) (by decide +kernel) rfl (lc_28 hv hle hX nx)
      | 29, _ => exact zp_switch (off := 2029) (tgt := 2069) rfl (by decide +kernel) (by decide +kernel) (by decide +kernel) rfl (lc_29 hv hle hX nx)
      | 30, _ => exact zp_switch (off := 2113) (tgt := 2153) rfl (by decide +kernel) (by decide +kernel) (by decide +kernel) rfl (lc_30 hv hle hX nx)
      | 31, _ => exact zp_switch (off := 2169) (tgt := 2209) rfl (by decide +kernel) (by decide +kernel) (by decide +kernel) rfl (lc_31 hv hle hX nx)
      | c + 32, hc => exact absurd hc (by omega)
    generalize zl_Q = Q at *
    refine zp_iload (x := (nI i)) rfl rfl ?_
    refine zp_sload_n rfl rfl ?_
    refine zp_slen rfl ?_
    refine zp_bipush (v := (nI 6)) rfl (by decide +kernel) ?_
    refine zp_isub rfl rfl ?_
    refine zp_icmp_gt (tgt := 2229) rfl rfl (fun b30 => ?_) (fun b30 => ?_)
    · exact hfin _ _
    · have hle : i + 6 ≤ X.1 := Nat.not_lt.mp (fun q => b30 ((nI_6 hX (by omega)).mpr q))
      refine zp_sload_n rfl rfl ?_
      refine zp_iload (x := (nI i)) rfl rfl ?_
      refine zp_sald rfl (by omega) (by omega) ?_
      refine zp_bipush (v := (nI 31)) rfl (by decide +kernel) ?_
      refine zp_iand rfl rfl ?_
      rw [e31]; exact main hle
end ZL3
