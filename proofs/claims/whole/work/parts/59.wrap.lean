/-! states stay well formed; the law's calls of the class -/
section ZL1
variable {s : zst}
theorem g_0_put {V : zv} : g_0 (z_put0 s V) = V := rfl
theorem lg_0 {a : Int32} (hl : g_leg 0 a (nI 0) (nI 0) (nI 0) = true) : zc_leg (0, i2n a, i2n (nI 0), i2n (nI 0), i2n (nI 0)) := by
  have ea : g_isC a = true := hl
  have na := (g_isC_n ea).2
  have z0 := i2n_0
  unfold zc_leg
  dsimp only
  omega
theorem lg_1 {a : Int32} (hl : g_leg 1 a (nI 0) (nI 0) (nI 0) = true) : zc_leg (1, i2n a, i2n (nI 0), i2n (nI 0), i2n (nI 0)) := by
  have ea : g_isC a = true := hl
  have na := (g_isC_n ea).2
  have z0 := i2n_0
  unfold zc_leg
  dsimp only
  omega
theorem lg_2 {a b : Int32} (hl : g_leg 2 a (nI 0) b (nI 0) = true) : zc_leg (2, i2n a, i2n (nI 0), i2n b, i2n (nI 0)) := by
  have hl : (g_isC a && g_isC b) = true := hl
  rw [Bool.and_eq_true] at hl
  obtain ⟨ea, eb⟩ := hl
  have na := (g_isC_n ea).2
  have nb := (g_isC_n eb).2
  have z0 := i2n_0
  unfold zc_leg
  dsimp only
  omega
theorem lg_3 {a b : Int32} (hl : g_leg 3 a (nI 0) b (nI 0) = true) : zc_leg (3, i2n a, i2n (nI 0), i2n b, i2n (nI 0)) := by
  have hl : (g_isC a && (decide (b = 0) || g_isC b)) = true := hl
  rw [Bool.and_eq_true, Bool.or_eq_true, decide_eq_true_eq] at hl
  obtain ⟨ea, eb⟩ := hl
  have na := (g_isC_n ea).2
  have nb : i2n b = 0 ∨ (65 ≤ i2n b ∧ i2n b ≤ 90) := eb.elim (fun q => Or.inl (by rw [q]; decide +kernel)) (fun q => Or.inr (g_isC_n q).2)
  have z0 := i2n_0
  unfold zc_leg
  dsimp only
  omega
theorem lg_4 {a m : Int32} (hl : g_leg 4 a m (nI 0) (nI 0) = true) : zc_leg (4, i2n a, i2n m, i2n (nI 0), i2n (nI 0)) := by
  have hl : (g_isC a && g_isM m) = true := hl
  rw [Bool.and_eq_true] at hl
  obtain ⟨ea, em⟩ := hl
  have na := (g_isC_n ea).2
  have nm := (g_isM_n em).2
  have z0 := i2n_0
  unfold zc_leg
  dsimp only
  omega
theorem lg_5 {a m : Int32} (hl : g_leg 5 a m (nI 0) (nI 0) = true) : zc_leg (5, i2n a, i2n m, i2n (nI 0), i2n (nI 0)) := by
  have hl : (g_isC a && g_isM m) = true := hl
  rw [Bool.and_eq_true] at hl
  obtain ⟨ea, em⟩ := hl
  have na := (g_isC_n ea).2
  have nm := (g_isM_n em).2
  have z0 := i2n_0
  unfold zc_leg
  dsimp only
  omega
theorem lg_6 {a m n : Int32} (hl : g_leg 6 a m (nI 0) n = true) : zc_leg (6, i2n a, i2n m, i2n (nI 0), i2n n) := by
  have hl : (g_isC a && g_isM m && g_isM n) = true := hl
  rw [Bool.and_eq_true, Bool.and_eq_true] at hl
  obtain ⟨⟨ea, em⟩, en⟩ := hl
  have na := (g_isC_n ea).2
  have nm := (g_isM_n em).2
  have nn := (g_isM_n en).2
  have z0 := i2n_0
  unfold zc_leg
  dsimp only
  omega
theorem lg_7 {a m b : Int32} (hl : g_leg 7 a m b (nI 0) = true) : zc_leg (7, i2n a, i2n m, i2n b, i2n (nI 0)) := by
  have hl : (g_isC a && g_isM m && g_isC b) = true := hl
  rw [Bool.and_eq_true, Bool.and_eq_true] at hl
  obtain ⟨⟨ea, em⟩, eb⟩ := hl
  have na := (g_isC_n ea).2
  have nm := (g_isM_n em).2
  have nb := (g_isC_n eb).2
  have z0 := i2n_0
  unfold zc_leg
  dsimp only
  omega
theorem lg_8 {a m b n : Int32} (hl : g_leg 8 a m b n = true) : zc_leg (8, i2n a, i2n m, i2n b, i2n n) := by
  have hl : (g_isC a && g_isM m && g_isC b && g_isM n) = true := hl
  rw [Bool.and_eq_true, Bool.and_eq_true, Bool.and_eq_true] at hl
  obtain ⟨⟨⟨ea, em⟩, eb⟩, en⟩ := hl
  have na := (g_isC_n ea).2
  have nm := (g_isM_n em).2
  have nb := (g_isC_n eb).2
  have nn := (g_isM_n en).2
  have z0 := i2n_0
  unfold zc_leg
  dsimp only
  omega
theorem lg_9 {a m b n : Int32} (hl : g_leg 9 a m b n = true) : zc_leg (9, i2n a, i2n m, i2n b, i2n n) := by
  have hl : (g_isC a && g_isM m && g_isC b && g_isM n) = true := hl
  rw [Bool.and_eq_true, Bool.and_eq_true, Bool.and_eq_true] at hl
  obtain ⟨⟨⟨ea, em⟩, eb⟩, en⟩ := hl
  have na := (g_isC_n ea).2
  have nm := (g_isM_n em).2
  have nb := (g_isC_n eb).2
  have nn := (g_isM_n en).2
  have z0 := i2n_0
  unfold zc_leg
  dsimp only
  omega
theorem nLog.app {B : zv} {L : Nat → zch} {n : Nat} {c : zch} (h : nLog B L n) (hc : zc_leg c) (hs : (v_mk (v_go B L n) c).1 = 0) : nLog B (va_up L n c) (n + 1) ∧ v_go B (va_up L n c) (n + 1) = (v_mk (v_go B L n) c).2.1 := by
  have e : ∀ j, j ≤ n → v_go B (va_up L n c) j = v_go B L j := fun j hj => v_go_cong j (fun i hi => va_up_o (by omega))
  refine ⟨fun i hi => ?_, ?_⟩
  · by_cases q : i = n
    · subst q
      rw [va_up_s, e i (Nat.le_refl _)]
      exact ⟨hc, hs⟩
    · rw [va_up_o q, e i (by omega)]
      exact h i (by omega)
  · show (v_mk (v_go B (va_up L n c) n) (va_up L n c n)).2.1 = _
    rw [e n (Nat.le_refl _), va_up_s]
theorem zW_op {x : Int32} {kind : Nat} {a m b n : Int32} (hW : zc_W s) (hl : g_leg kind a m b n = true → zc_leg (kind, i2n a, i2n m, i2n b, i2n n)) : zc_W (z_op s x kind a m b n).2.2 := by
  obtain ⟨⟨wb, w0, w1⟩, wl, wi, wn, wk, wo⟩ := id hW
  have e : z_op s x kind a m b n = if g_ver x = false then (1, nI 0, s) else if g_leg kind a m b n = false then (2, nI 0, s) else if x = 0 then (if g_n s = 30 then (3, nI 0, s) else (0, nI (v_mk (g_0 s) (kind, i2n a, i2n m, i2n b, i2n n)).1, if (v_mk (g_0 s) (kind, i2n a, i2n m, i2n b, i2n n)).1 = 0 then z_app (z_put0 s (v_mk (g_0 s) (kind, i2n a, i2n m, i2n b, i2n n)).2.1) (kind, i2n a, i2n m, i2n b, i2n n) else z_put0 s (v_mk (g_0 s) (kind, i2n a, i2n m, i2n b, i2n n)).2.1)) else (0, nI (v_mk (g_1 s) (kind, i2n a, i2n m, i2n b, i2n n)).1, z_put1 s (v_mk (g_1 s) (kind, i2n a, i2n m, i2n b, i2n n)).2.1) := rfl
  rw [e]
  by_cases h1 : g_ver x = false
  · rw [if_pos h1]; exact hW
  rw [if_neg h1]
  by_cases h2 : g_leg kind a m b n = false
  · rw [if_pos h2]; exact hW
  rw [if_neg h2]
  have hlg := hl (by cases q : g_leg kind a m b n with | true => rfl | false => exact absurd q h2)
  generalize (kind, i2n a, i2n m, i2n b, i2n n) = c at *
  by_cases h3 : x = 0
  · rw [if_pos h3]
    by_cases h4 : g_n s = 30
    · rw [if_pos h4]; exact hW
    rw [if_neg h4]
    by_cases h5 : (v_mk (g_0 s) c).1 = 0
    · show zc_W (if (v_mk (g_0 s) c).1 = 0 then z_app (z_put0 s (v_mk (g_0 s) c).2.1) c else z_put0 s (v_mk (g_0 s) c).2.1)
      rw [if_pos h5]
      have wg := wb.go (g_n s) (fun i hi => (wl i hi).1)
      obtain ⟨r1, r2⟩ := n_mk w0 wg wi.symm hlg h5
      obtain ⟨l1, l2⟩ := wl.app hlg r1
      refine ⟨⟨wb, w0.mk hlg, w1⟩, l1, ?_, by show g_n s + 1 ≤ 30; omega, wk, fun i hi => ?_⟩
      · show nIso (v_go (g_b s) (va_up (g_L s) (g_n s) c) (g_n s + 1)) (v_mk (g_0 s) c).2.1
        rw [l2]
        exact r2.symm
      · show zc_ok (va_up (g_L s) (g_n s) c i)
        by_cases q : i = g_n s
        · rw [q, va_up_s]; exact hlg.ok
        · rw [va_up_o q]; exact wo i hi
    · show zc_W (if (v_mk (g_0 s) c).1 = 0 then z_app (z_put0 s (v_mk (g_0 s) c).2.1) c else z_put0 s (v_mk (g_0 s) c).2.1)
      rw [if_neg h5, (mk_fail h5).1]
      exact ⟨⟨wb, w0, w1⟩, wl, wi, wn, wk, wo⟩
  · rw [if_neg h3]
    exact ⟨⟨wb, w0, w1.mk hlg⟩, wl, wi, wn, wk, wo⟩
theorem zW_copy (hW : zc_W s) : zc_W (z_copy s).2.2 := by
  obtain ⟨⟨wb, w0, w1⟩, wl, wi, wn, wk, wo⟩ := hW
  exact ⟨⟨wb, w0, w0⟩, wl, wi, wn, wk, wo⟩
theorem zW_clear (hW : zc_W s) : zc_W (z_clear s).2.2 := by
  obtain ⟨⟨wb, w0, w1⟩, wl, wi, wn, wk, wo⟩ := hW
  exact ⟨⟨w0, w0, w1⟩, fun i hi => absurd hi (Nat.not_lt_zero i), nIso.rf, Nat.zero_le _, wk, wo⟩
theorem zW_undo (hW : zc_W s) : zc_W (z_undo s).2.2 := by
  obtain ⟨⟨wb, w0, w1⟩, wl, wi, wn, wk, wo⟩ := id hW
  unfold z_undo
  by_cases h0 : g_n s = 0
  · rw [if_pos h0]; exact hW
  · rw [if_neg h0]
    exact ⟨⟨wb, wb.go _ (fun i hi => (wl i (by omega)).1), w1⟩, fun i hi => wl i (by have hi : i < g_n s - 1 := hi; omega), nIso.rf, by show g_n s - 1 ≤ 30; omega, wk, wo⟩
theorem zW_exchange {i : Int32} (hW : zc_W s) : zc_W (z_exchange s i).2.2 := by
  obtain ⟨⟨wb, w0, w1⟩, wl, wi, wn, wk, wo⟩ := id hW
  unfold z_exchange
  cases h1 : g_lt (g_n s - 1) i with
  | false => exact hW
  | true =>
    cases h2 : v_com (g_b s) (g_L s) (i2n i) with
    | false => exact hW
    | true =>
      have hi := (g_lt_n h1).2
      obtain ⟨l1, l2⟩ := wl.ex wb (show i2n i + 1 < g_n s by omega) h2
      refine ⟨⟨wb, w0, w1⟩, l1, l2.symm.trans wi, wn, wk, fun j hj => ?_⟩
      show zc_ok (v_ex (g_L s) (i2n i) j)
      by_cases q : j < g_n s
      · exact (l1 j q).1.ok
      · rw [v_ex_at, if_neg (by omega), if_neg (by omega)]; exact wo j hj
theorem v_rp_W {sel : Int32} {mend : Bool} {B TG : zv} {L : Nat → zch} {n : Nat} (hB : zv_W B) (hT : zv_W TG) (hl : nLog B L n) : zv_W (v_rp sel mend B TG L n).1.2.1 := by
  have key : ∀ k i (st : zrs), i + k = n → st.1.1 = v_go B L i → zj st.1.1 st.1.2.1 st.1.2.2.1 st.1.2.2.2 → zv_W (zf_fold (v_rpS sel mend L) i k st).1.2.1 := by
    intro k
    induction k with
    | zero => intro i st hi hm hj; exact hj.2.1
    | succ k ih =>
      intro i st hi hm hj
      have hci := (hl i (by omega)).1
      have hsi : (v_mk st.1.1 (L i)).1 = 0 := by rw [hm]; exact (hl i (by omega)).2
      refine ih (i + 1) (v_rpS sel mend L i st) (by omega) ?_ ?_
      · show (v_mk st.1.1 (L i)).2.1 = v_go B L (i + 1)
        rw [hm]
        rfl
      · have ht : zj_T st.1.1 st.1.2.1 st.1.2.2.1 st.1.2.2.2 (L i) (v_sel sel mend (L i) i st).2.1 (cond (v_ismd (v_sel sel mend (L i) i st).1) (v_sel sel mend (L i) i st).2.2 none) := by
          unfold v_sel
          cases zb_t sel i with
          | false => exact zj_T.same hj
          | true =>
            have hjt := hj.tryR (mend := mend) hci
            show zj_T st.1.1 st.1.2.1 st.1.2.2.1 st.1.2.2.2 (L i) (v_tryR mend st.1.1 st.1.2.1 st.1.2.2.1 st.1.2.2.2 (L i)).2.1 (cond (v_ismd (some (v_tryR mend st.1.1 st.1.2.1 st.1.2.2.1 st.1.2.2.2 (L i)).1)) (v_tryR mend st.1.1 st.1.2.1 st.1.2.2.1 st.1.2.2.2 (L i)).2.2 none)
            cases v_ismd (some (v_tryR mend st.1.1 st.1.2.1 st.1.2.2.1 st.1.2.2.2 (L i)).1) with
            | false => exact hjt.none
            | true => exact hjt
        exact hj.on hci hsi ht
  exact key n 0 _ (by omega) rfl (zj_0 hB hT)
theorem zW_replay {sel : Int32} {mend : Bool} (hW : zc_W s) : zc_W (z_replay s sel mend).2.2 := by
  obtain ⟨⟨wb, w0, w1⟩, wl, wi, wn, wk, wo⟩ := id hW
  unfold z_replay
  cases g_sel (g_n s) sel with
  | false => exact hW
  | true => exact ⟨⟨wb, w0, v_rp_W wb w1 wl⟩, wl, wi, wn, wn, wo⟩
end ZL1
/-! the law's calls of the class -/
def zl_G (h h' : zm_H) : Prop := (∀ a, 170 < a → a ≠ 189 → h'.1 a = h.1 a) ∧ h'.2.2.1 ≤ h.2.2.1 + 6 ∧ h'.2.2.2 ≤ h.2.2.2 + 1
theorem zc_F.G {h h' : zm_H} (f : zc_F h h') : zl_G h h' := ⟨fun a h1 _ => f.1 a h1, f.2⟩
theorem lw_k {X : zm_X} {y pc pc' E j : Nat} {ls rest : List Value} {Q : zm_O → zm_H → Prop} {h : zm_H} (hc : zm_cat (zm_hd y) pc E = some j) (hq : Q (.inl (some (.int (nI j)))) h) : zp_k X y pc pc' ls rest Q (.inr E) h := by
  unfold zp_k
  simp only [hc]
  exact hq
theorem lw_S {s : zst} {h : zm_H} {f : Nat → Int64} (a : zc_S s h) (hS : zs_H (zj_put h 189 f)) : zc_S s (zj_put h 189 f) := a.eq (S := fun x => x = 189) hS (zh_eq.rf.zj rfl) (fun x e => by omega)
theorem lw_G {h h2 : zm_H} {f : Nat → Int64} (a : zc_F h h2) : zl_G h (zj_put h2 189 f) := ⟨fun x h1 h3 => by
  have : (zj_put h2 189 f).1 x = h2.1 x := by simp [zj_put, zm_put, va_up, h3]
  rw [this]
  exact a.1 x h1, a.2⟩
theorem lw_o {h : zm_H} {f : Nat → Int64} {v : Int64} : cj (zj_put h 189 (vp_updL f 0 v)) 189 0 = v := by rw [zj_at]; simp [vp_updL]
theorem lw_01 {x : Int32} (h : x = 0 ∨ x = 1) : (x = 0 → Int32.toInt64 x = lN 0) ∧ (¬ x = 0 → Int32.toInt64 x = lN 1) := by
  refine ⟨fun q => by rw [q]; decide +kernel, fun q => ?_⟩
  rcases h with e | e
  · exact absurd e q
  · rw [e]; decide +kernel
section ZL2
variable {X : zm_X} {h : zm_H} {Q : zm_O → zm_H → Prop} {s : zst}
theorem zb_op {x : Int32} {kind : Nat} {a m b n : Int32} : (z_op s x kind a m b n).1 ≤ 3 := by
  have e : z_op s x kind a m b n = if g_ver x = false then (1, nI 0, s) else if g_leg kind a m b n = false then (2, nI 0, s) else if x = 0 then (if g_n s = 30 then (3, nI 0, s) else (0, nI (v_mk (g_0 s) (kind, i2n a, i2n m, i2n b, i2n n)).1, if (v_mk (g_0 s) (kind, i2n a, i2n m, i2n b, i2n n)).1 = 0 then z_app (z_put0 s (v_mk (g_0 s) (kind, i2n a, i2n m, i2n b, i2n n)).2.1) (kind, i2n a, i2n m, i2n b, i2n n) else z_put0 s (v_mk (g_0 s) (kind, i2n a, i2n m, i2n b, i2n n)).2.1)) else (0, nI (v_mk (g_1 s) (kind, i2n a, i2n m, i2n b, i2n n)).1, z_put1 s (v_mk (g_1 s) (kind, i2n a, i2n m, i2n b, i2n n)).2.1) := rfl
  rw [e]
  by_cases h1 : g_ver x = false
  · rw [if_pos h1]; show 1 ≤ 3; decide
  rw [if_neg h1]
  by_cases h2 : g_leg kind a m b n = false
  · rw [if_pos h2]; show 2 ≤ 3; decide
  rw [if_neg h2]
  by_cases h3 : x = 0
  · rw [if_pos h3]
    by_cases h4 : g_n s = 30
    · rw [if_pos h4]; show 3 ≤ 3; decide
    · rw [if_neg h4]; exact Nat.zero_le _
  · rw [if_neg h3]; exact Nat.zero_le _
theorem zb_look {x v : Int32} {l : Bool} : (z_look s x l v).1 ≤ 2 := by
  show g_wr x l ≤ 2
  unfold g_wr
  cases g_ver x <;> cases l <;> decide
theorem zb_classes {x : Int32} : (z_classes s x).1 ≤ 1 := by unfold z_classes; cases g_ver x <;> first | exact Nat.zero_le _ | exact Nat.le_refl 1
theorem zb_uses {x : Int32} : (z_uses s x).1 ≤ 1 := by unfold z_uses; cases g_ver x <;> first | exact Nat.zero_le _ | exact Nat.le_refl 1
theorem zb_className {x i : Int32} : (z_className s x i).1 ≤ 1 := by
  rw [zcn]
  cases g_ver x with
  | false => exact Nat.le_refl 1
  | true =>
    show (if v_nbo (z_ver s x) i = 0 then ((1, nI 0, s) : Nat × Int32 × zst) else (0, nI (v_nbo (z_ver s x) i), s)).1 ≤ 1
    by_cases q : v_nbo (z_ver s x) i = 0
    · rw [if_pos q]; exact Nat.le_refl 1
    · rw [if_neg q]; exact Nat.zero_le _
theorem zb_kind {i : Int32} : (z_kind s i).1 ≤ 1 := by unfold z_kind; cases g_lt (g_n s) i <;> first | exact Nat.zero_le _ | exact Nat.le_refl 1
theorem zb_name {i w : Int32} : (z_name s i w).1 ≤ 1 := by unfold z_name; cases g_lt (g_n s) i && g_lt 4 w <;> first | exact Nat.zero_le _ | exact Nat.le_refl 1
theorem zb_undo : (z_undo s).1 ≤ 1 := by
  unfold z_undo
  by_cases q : g_n s = 0
  · rw [if_pos q]; exact Nat.le_refl 1
  · rw [if_neg q]; exact Nat.zero_le _
theorem zb_commutes {i : Int32} : (z_commutes s i).1 ≤ 1 := by unfold z_commutes; cases g_lt (g_n s - 1) i <;> first | exact Nat.zero_le _ | exact Nat.le_refl 1
theorem zb_exchange {i : Int32} : (z_exchange s i).1 ≤ 1 := by
  unfold z_exchange
  cases g_lt (g_n s - 1) i with
  | false => exact Nat.le_refl 1
  | true => cases v_com (g_b s) (g_L s) (i2n i) <;> exact Nat.zero_le _
theorem zb_needs {i : Int32} : (z_needs s i).1 ≤ 1 := by unfold z_needs; cases g_lt (g_n s) i <;> first | exact Nat.zero_le _ | exact Nat.le_refl 1
theorem zb_matchC {a : Int32} : (z_matchC s a).1 ≤ 1 := by unfold z_matchC; cases g_isC a <;> first | exact Nat.zero_le _ | exact Nat.le_refl 1
theorem zb_matchM {a m : Int32} : (z_matchM s a m).1 ≤ 1 := by unfold z_matchM; cases g_isC a && g_isM m <;> first | exact Nat.zero_le _ | exact Nat.le_refl 1
theorem zb_replay {sel : Int32} {mend : Bool} : (z_replay s sel mend).1 ≤ 1 := by unfold z_replay; cases g_sel (g_n s) sel <;> first | exact Nat.zero_le _ | exact Nat.le_refl 1
theorem zb_forecast {sel : Int32} {mend : Bool} : (z_forecast s sel mend).1 ≤ 1 := by unfold z_forecast; cases g_sel (g_n s) sel <;> first | exact Nat.zero_le _ | exact Nat.le_refl 1
theorem zb_outcome {i : Int32} : (z_outcome s i).1 ≤ 1 := by unfold z_outcome; cases g_lt (g_k s) i <;> first | exact Nat.zero_le _ | exact Nat.le_refl 1
theorem z01_hasUse {x a m b n : Int32} : (z_hasUse s x a m b n).2.1 = 0 ∨ (z_hasUse s x a m b n).2.1 = 1 := by
  show cond (g_wr x (g_four a m b n) == 0) (zf_b (v_has (z_ver s x) (i2n a) (i2n m) (i2n b) (i2n n))) (nI 0) = 0 ∨ cond (g_wr x (g_four a m b n) == 0) (zf_b (v_has (z_ver s x) (i2n a) (i2n m) (i2n b) (i2n n))) (nI 0) = 1
  cases (g_wr x (g_four a m b n) == 0) with
  | false => exact Or.inl (by show nI 0 = 0; decide)
  | true => exact zf_b01 _
theorem z01_commutes {i : Int32} : (z_commutes s i).2.1 = 0 ∨ (z_commutes s i).2.1 = 1 := by
  unfold z_commutes
  cases g_lt (g_n s - 1) i with
  | false => exact Or.inl (by show nI 0 = 0; decide)
  | true => exact zf_b01 _
theorem z01_exchange {i : Int32} : (z_exchange s i).2.1 = 0 ∨ (z_exchange s i).2.1 = 1 := by
  unfold z_exchange
  cases g_lt (g_n s - 1) i with
  | false => exact Or.inl (by show nI 0 = 0; decide)
  | true =>
    cases v_com (g_b s) (g_L s) (i2n i) with
    | false => exact Or.inl (by show nI 0 = 0; decide)
    | true => exact Or.inr (by show nI 1 = 1; decide)
theorem s_Law_addClass {x a : Int32} (hs : zc_S s h) (hW : zc_W s) (hq : ∀ h', zc_S (z_op s x 0 a (nI 0) (nI 0) (nI 0)).2.2 h' → zl_G h h' → ((z_op s x 0 a (nI 0) (nI 0) (nI 0)).1 = 0 → cj h' 189 0 = Int32.toInt64 (z_op s x 0 a (nI 0) (nI 0) (nI 0)).2.1) → Q (.inl (some (.int (nI (z_op s x 0 a (nI 0) (nI 0) (nI 0)).1)))) h') : zp_wm X y_Law_addClass [.ref 0, .int x, .int a, .ref 189] h Q := by
  have hS := hs.1
  have hbd : (z_op s x 0 a (nI 0) (nI 0) (nI 0)).1 ≤ 3 := zb_op
  have hE : ∀ pc' ls rest, (z_op s x 0 a (nI 0) (nI 0) (nI 0)).1 ≠ 0 → ∀ h2, zc_S (z_op s x 0 a (nI 0) (nI 0) (nI 0)).2.2 h2 → zc_F h h2 → zp_k X y_Law_addClass 5 pc' ls rest Q (.inr ((fun k => k - 1) (z_op s x 0 a (nI 0) (nI 0) (nI 0)).1)) h2 := by
    intro pc' ls rest zz h2 s2 f2
    have hq2 := hq h2 s2 f2.G (fun q => absurd q zz)
    have hc : (z_op s x 0 a (nI 0) (nI 0) (nI 0)).1 = 1 ∨ (z_op s x 0 a (nI 0) (nI 0) (nI 0)).1 = 2 ∨ (z_op s x 0 a (nI 0) (nI 0) (nI 0)).1 = 3 := by omega
    rcases hc with e | e | e
    · rw [e] at hq2 ⊢
      exact lw_k (j := 1) rfl hq2
    · rw [e] at hq2 ⊢
      exact lw_k (j := 2) rfl hq2
    · rw [e] at hq2 ⊢
      exact lw_k (j := 3) rfl hq2
  show zp_wp X y_Law_addClass 0 [.ref 0, .int x, .int a, .ref 189, zm_mk] [] h Q
  refine zp_aload_n (x := 189) rfl rfl ?_
  refine zp_iconst (v := (nI 0)) rfl (by decide +kernel) ?_
  refine zp_aload_n (x := 0) rfl rfl ?_
  refine zp_iload_n (x := x) rfl rfl ?_
  refine zp_iload_n (x := a) rfl rfl ?_
  refine zq_virt hS rfl rfl (by first | assumption | exact ⟨by decide, rfl⟩) rfl (s_RR_addClass hs hW ⟨fun zz h2 s2 f2 => ?_, fun zz h2 s2 f2 => hE _ _ _ zz h2 s2 f2⟩)
  have hS := s2.1
  show zp_wp X y_Law_addClass 8 [.ref 0, .int x, .int a, .ref 189, zm_mk] [.int ((z_op s x 0 a (nI 0) (nI 0) (nI 0)).2.1), .int (nI 0), .ref 189] h2 Q
  refine zp_i2l rfl rfl ?_
  refine zq_last hS rfl (by first | assumption | exact ⟨by decide, rfl⟩) (by omega) (by first | decide | omega) (fun hS9 => ?_)
  have hS := hS9
  refine zp_goto (tgt := 25) rfl rfl ?_
  refine zp_iconst (v := (nI 0)) rfl (by decide +kernel) ?_
  refine zp_iret rfl rfl ?_
  have hq2 := hq _ (lw_S s2 (by assumption)) (lw_G f2) (fun _ => lw_o)
  rw [zz] at hq2
  exact hq2
theorem s_Law_removeClass {x a : Int32} (hs : zc_S s h) (hW : zc_W s) (hq : ∀ h', zc_S (z_op s x 1 a (nI 0) (nI 0) (nI 0)).2.2 h' → zl_G h h' → ((z_op s x 1 a (nI 0) (nI 0) (nI 0)).1 = 0 → cj h' 189 0 = Int32.toInt64 (z_op s x 1 a (nI 0) (nI 0) (nI 0)).2.1) → Q (.inl (some (.int (nI (z_op s x 1 a (nI 0) (nI 0) (nI 0)).1)))) h') : zp_wm X y_Law_removeClass [.ref 0, .int x, .int a, .ref 189] h Q := by
  have hS := hs.1
  have hbd : (z_op s x 1 a (nI 0) (nI 0) (nI 0)).1 ≤ 3 := zb_op
  have hE : ∀ pc' ls rest, (z_op s x 1 a (nI 0) (nI 0) (nI 0)).1 ≠ 0 → ∀ h2, zc_S (z_op s x 1 a (nI 0) (nI 0) (nI 0)).2.2 h2 → zc_F h h2 → zp_k X y_Law_removeClass 5 pc' ls rest Q (.inr ((fun k => k - 1) (z_op s x 1 a (nI 0) (nI 0) (nI 0)).1)) h2 := by
    intro pc' ls rest zz h2 s2 f2
    have hq2 := hq h2 s2 f2.G (fun q => absurd q zz)
    have hc : (z_op s x 1 a (nI 0) (nI 0) (nI 0)).1 = 1 ∨ (z_op s x 1 a (nI 0) (nI 0) (nI 0)).1 = 2 ∨ (z_op s x 1 a (nI 0) (nI 0) (nI 0)).1 = 3 := by omega
    rcases hc with e | e | e
    · rw [e] at hq2 ⊢
      exact lw_k (j := 1) rfl hq2
    · rw [e] at hq2 ⊢
      exact lw_k (j := 2) rfl hq2
    · rw [e] at hq2 ⊢
      exact lw_k (j := 3) rfl hq2
  show zp_wp X y_Law_removeClass 0 [.ref 0, .int x, .int a, .ref 189, zm_mk] [] h Q
  refine zp_aload_n (x := 189) rfl rfl ?_
  refine zp_iconst (v := (nI 0)) rfl (by decide +kernel) ?_
  refine zp_aload_n (x := 0) rfl rfl ?_
  refine zp_iload_n (x := x) rfl rfl ?_
  refine zp_iload_n (x := a) rfl rfl ?_
  refine zq_virt hS rfl rfl (by first | assumption | exact ⟨by decide, rfl⟩) rfl (s_RR_removeClass hs hW ⟨fun zz h2 s2 f2 => ?_, fun zz h2 s2 f2 => hE _ _ _ zz h2 s2 f2⟩)
  have hS := s2.1
  show zp_wp X y_Law_removeClass 8 [.ref 0, .int x, .int a, .ref 189, zm_mk] [.int ((z_op s x 1 a (nI 0) (nI 0) (nI 0)).2.1), .int (nI 0), .ref 189] h2 Q
  refine zp_i2l rfl rfl ?_
  refine zq_last hS rfl (by first | assumption | exact ⟨by decide, rfl⟩) (by omega) (by first | decide | omega) (fun hS9 => ?_)
  have hS := hS9
  refine zp_goto (tgt := 25) rfl rfl ?_
  refine zp_iconst (v := (nI 0)) rfl (by decide +kernel) ?_
  refine zp_iret rfl rfl ?_
  have hq2 := hq _ (lw_S s2 (by assumption)) (lw_G f2) (fun _ => lw_o)
  rw [zz] at hq2
  exact hq2
theorem s_Law_renameClass {x a b : Int32} (hs : zc_S s h) (hW : zc_W s) (hq : ∀ h', zc_S (z_op s x 2 a (nI 0) b (nI 0)).2.2 h' → zl_G h h' → ((z_op s x 2 a (nI 0) b (nI 0)).1 = 0 → cj h' 189 0 = Int32.toInt64 (z_op s x 2 a (nI 0) b (nI 0)).2.1) → Q (.inl (some (.int (nI (z_op s x 2 a (nI 0) b (nI 0)).1)))) h') : zp_wm X y_Law_renameClass [.ref 0, .int x, .int a, .int b, .ref 189] h Q := by
  have hS := hs.1
  have hbd : (z_op s x 2 a (nI 0) b (nI 0)).1 ≤ 3 := zb_op
  have hE : ∀ pc' ls rest, (z_op s x 2 a (nI 0) b (nI 0)).1 ≠ 0 → ∀ h2, zc_S (z_op s x 2 a (nI 0) b (nI 0)).2.2 h2 → zc_F h h2 → zp_k X y_Law_renameClass 7 pc' ls rest Q (.inr ((fun k => k - 1) (z_op s x 2 a (nI 0) b (nI 0)).1)) h2 := by
    intro pc' ls rest zz h2 s2 f2
    have hq2 := hq h2 s2 f2.G (fun q => absurd q zz)
    have hc : (z_op s x 2 a (nI 0) b (nI 0)).1 = 1 ∨ (z_op s x 2 a (nI 0) b (nI 0)).1 = 2 ∨ (z_op s x 2 a (nI 0) b (nI 0)).1 = 3 := by omega
    rcases hc with e | e | e
    · rw [e] at hq2 ⊢
      exact lw_k (j := 1) rfl hq2
    · rw [e] at hq2 ⊢
      exact lw_k (j := 2) rfl hq2
    · rw [e] at hq2 ⊢
      exact lw_k (j := 3) rfl hq2
  show zp_wp X y_Law_renameClass 0 [.ref 0, .int x, .int a, .int b, .ref 189, zm_mk] [] h Q
  refine zp_aload (x := 189) rfl rfl ?_
  refine zp_iconst (v := (nI 0)) rfl (by decide +kernel) ?_
  refine zp_aload_n (x := 0) rfl rfl ?_
  refine zp_iload_n (x := x) rfl rfl ?_
  refine zp_iload_n (x := a) rfl rfl ?_
  refine zp_iload_n (x := b) rfl rfl ?_
  refine zq_virt hS rfl rfl (by first | assumption | exact ⟨by decide, rfl⟩) rfl (s_RR_renameClass hs hW ⟨fun zz h2 s2 f2 => ?_, fun zz h2 s2 f2 => hE _ _ _ zz h2 s2 f2⟩)
  have hS := s2.1
  show zp_wp X y_Law_renameClass 10 [.ref 0, .int x, .int a, .int b, .ref 189, zm_mk] [.int ((z_op s x 2 a (nI 0) b (nI 0)).2.1), .int (nI 0), .ref 189] h2 Q
  refine zp_i2l rfl rfl ?_
  refine zq_last hS rfl (by first | assumption | exact ⟨by decide, rfl⟩) (by omega) (by first | decide | omega) (fun hS11 => ?_)
  have hS := hS11
  refine zp_goto (tgt := 27) rfl rfl ?_
  refine zp_iconst (v := (nI 0)) rfl (by decide +kernel) ?_
  refine zp_iret rfl rfl ?_
  have hq2 := hq _ (lw_S s2 (by assumption)) (lw_G f2) (fun _ => lw_o)
  rw [zz] at hq2
  exact hq2
theorem s_Law_setSuper {x a b : Int32} (hs : zc_S s h) (hW : zc_W s) (hq : ∀ h', zc_S (z_op s x 3 a (nI 0) b (nI 0)).2.2 h' → zl_G h h' → ((z_op s x 3 a (nI 0) b (nI 0)).1 = 0 → cj h' 189 0 = Int32.toInt64 (z_op s x 3 a (nI 0) b (nI 0)).2.1) → Q (.inl (some (.int (nI (z_op s x 3 a (nI 0) b (nI 0)).1)))) h') : zp_wm X y_Law_setSuper [.ref 0, .int x, .int a, .int b, .ref 189] h Q := by
  have hS := hs.1
  have hbd : (z_op s x 3 a (nI 0) b (nI 0)).1 ≤ 3 := zb_op
  have hE : ∀ pc' ls rest, (z_op s x 3 a (nI 0) b (nI 0)).1 ≠ 0 → ∀ h2, zc_S (z_op s x 3 a (nI 0) b (nI 0)).2.2 h2 → zc_F h h2 → zp_k X y_Law_setSuper 7 pc' ls rest Q (.inr ((fun k => k - 1) (z_op s x 3 a (nI 0) b (nI 0)).1)) h2 := by
    intro pc' ls rest zz h2 s2 f2
    have hq2 := hq h2 s2 f2.G (fun q => absurd q zz)
    have hc : (z_op s x 3 a (nI 0) b (nI 0)).1 = 1 ∨ (z_op s x 3 a (nI 0) b (nI 0)).1 = 2 ∨ (z_op s x 3 a (nI 0) b (nI 0)).1 = 3 := by omega
    rcases hc with e | e | e
    · rw [e] at hq2 ⊢
      exact lw_k (j := 1) rfl hq2
    · rw [e] at hq2 ⊢
      exact lw_k (j := 2) rfl hq2
    · rw [e] at hq2 ⊢
      exact lw_k (j := 3) rfl hq2
  show zp_wp X y_Law_setSuper 0 [.ref 0, .int x, .int a, .int b, .ref 189, zm_mk] [] h Q
  refine zp_aload (x := 189) rfl rfl ?_
  refine zp_iconst (v := (nI 0)) rfl (by decide +kernel) ?_
  refine zp_aload_n (x := 0) rfl rfl ?_
  refine zp_iload_n (x := x) rfl rfl ?_
  refine zp_iload_n (x := a) rfl rfl ?_
  refine zp_iload_n (x := b) rfl rfl ?_
  refine zq_virt hS rfl rfl (by first | assumption | exact ⟨by decide, rfl⟩) rfl (s_RR_setSuper hs hW ⟨fun zz h2 s2 f2 => ?_, fun zz h2 s2 f2 => hE _ _ _ zz h2 s2 f2⟩)
  have hS := s2.1
  show zp_wp X y_Law_setSuper 10 [.ref 0, .int x, .int a, .int b, .ref 189, zm_mk] [.int ((z_op s x 3 a (nI 0) b (nI 0)).2.1), .int (nI 0), .ref 189] h2 Q
  refine zp_i2l rfl rfl ?_
  refine zq_last hS rfl (by first | assumption | exact ⟨by decide, rfl⟩) (by omega) (by first | decide | omega) (fun hS11 => ?_)
  have hS := hS11
  refine zp_goto (tgt := 27) rfl rfl ?_
  refine zp_iconst (v := (nI 0)) rfl (by decide +kernel) ?_
  refine zp_iret rfl rfl ?_
  have hq2 := hq _ (lw_S s2 (by assumption)) (lw_G f2) (fun _ => lw_o)
  rw [zz] at hq2
  exact hq2
theorem s_Law_addMember {x a m : Int32} (hs : zc_S s h) (hW : zc_W s) (hq : ∀ h', zc_S (z_op s x 4 a m (nI 0) (nI 0)).2.2 h' → zl_G h h' → ((z_op s x 4 a m (nI 0) (nI 0)).1 = 0 → cj h' 189 0 = Int32.toInt64 (z_op s x 4 a m (nI 0) (nI 0)).2.1) → Q (.inl (some (.int (nI (z_op s x 4 a m (nI 0) (nI 0)).1)))) h') : zp_wm X y_Law_addMember [.ref 0, .int x, .int a, .int m, .ref 189] h Q := by
  have hS := hs.1
  have hbd : (z_op s x 4 a m (nI 0) (nI 0)).1 ≤ 3 := zb_op
  have hE : ∀ pc' ls rest, (z_op s x 4 a m (nI 0) (nI 0)).1 ≠ 0 → ∀ h2, zc_S (z_op s x 4 a m (nI 0) (nI 0)).2.2 h2 → zc_F h h2 → zp_k X y_Law_addMember 7 pc' ls rest Q (.inr ((fun k => k - 1) (z_op s x 4 a m (nI 0) (nI 0)).1)) h2 := by
    intro pc' ls rest zz h2 s2 f2
    have hq2 := hq h2 s2 f2.G (fun q => absurd q zz)
    have hc : (z_op s x 4 a m (nI 0) (nI 0)).1 = 1 ∨ (z_op s x 4 a m (nI 0) (nI 0)).1 = 2 ∨ (z_op s x 4 a m (nI 0) (nI 0)).1 = 3 := by omega
    rcases hc with e | e | e
    · rw [e] at hq2 ⊢
      exact lw_k (j := 1) rfl hq2
    · rw [e] at hq2 ⊢
      exact lw_k (j := 2) rfl hq2
    · rw [e] at hq2 ⊢
      exact lw_k (j := 3) rfl hq2
  show zp_wp X y_Law_addMember 0 [.ref 0, .int x, .int a, .int m, .ref 189, zm_mk] [] h Q
  refine zp_aload (x := 189) rfl rfl ?_
  refine zp_iconst (v := (nI 0)) rfl (by decide +kernel) ?_
  refine zp_aload_n (x := 0) rfl rfl ?_
  refine zp_iload_n (x := x) rfl rfl ?_
  refine zp_iload_n (x := a) rfl rfl ?_
  refine zp_iload_n (x := m) rfl rfl ?_
  refine zq_virt hS rfl rfl (by first | assumption | exact ⟨by decide, rfl⟩) rfl (s_RR_addMember hs hW ⟨fun zz h2 s2 f2 => ?_, fun zz h2 s2 f2 => hE _ _ _ zz h2 s2 f2⟩)
  have hS := s2.1
  show zp_wp X y_Law_addMember 10 [.ref 0, .int x, .int a, .int m, .ref 189, zm_mk] [.int ((z_op s x 4 a m (nI 0) (nI 0)).2.1), .int (nI 0), .ref 189] h2 Q
  refine zp_i2l rfl rfl ?_
  refine zq_last hS rfl (by first | assumption | exact ⟨by decide, rfl⟩) (by omega) (by first | decide | omega) (fun hS11 => ?_)
  have hS := hS11
  refine zp_goto (tgt := 27) rfl rfl ?_
  refine zp_iconst (v := (nI 0)) rfl (by decide +kernel) ?_
  refine zp_iret rfl rfl ?_
  have hq2 := hq _ (lw_S s2 (by assumption)) (lw_G f2) (fun _ => lw_o)
  rw [zz] at hq2
  exact hq2
theorem s_Law_removeMember {x a m : Int32} (hs : zc_S s h) (hW : zc_W s) (hq : ∀ h', zc_S (z_op s x 5 a m (nI 0) (nI 0)).2.2 h' → zl_G h h' → ((z_op s x 5 a m (nI 0) (nI 0)).1 = 0 → cj h' 189 0 = Int32.toInt64 (z_op s x 5 a m (nI 0) (nI 0)).2.1) → Q (.inl (some (.int (nI (z_op s x 5 a m (nI 0) (nI 0)).1)))) h') : zp_wm X y_Law_removeMember [.ref 0, .int x, .int a, .int m, .ref 189] h Q := by
  have hS := hs.1
  have hbd : (z_op s x 5 a m (nI 0) (nI 0)).1 ≤ 3 := zb_op
  have hE : ∀ pc' ls rest, (z_op s x 5 a m (nI 0) (nI 0)).1 ≠ 0 → ∀ h2, zc_S (z_op s x 5 a m (nI 0) (nI 0)).2.2 h2 → zc_F h h2 → zp_k X y_Law_removeMember 7 pc' ls rest Q (.inr ((fun k => k - 1) (z_op s x 5 a m (nI 0) (nI 0)).1)) h2 := by
    intro pc' ls rest zz h2 s2 f2
    have hq2 := hq h2 s2 f2.G (fun q => absurd q zz)
    have hc : (z_op s x 5 a m (nI 0) (nI 0)).1 = 1 ∨ (z_op s x 5 a m (nI 0) (nI 0)).1 = 2 ∨ (z_op s x 5 a m (nI 0) (nI 0)).1 = 3 := by omega
    rcases hc with e | e | e
    · rw [e] at hq2 ⊢
      exact lw_k (j := 1) rfl hq2
    · rw [e] at hq2 ⊢
      exact lw_k (j := 2) rfl hq2
    · rw [e] at hq2 ⊢
      exact lw_k (j := 3) rfl hq2
  show zp_wp X y_Law_removeMember 0 [.ref 0, .int x, .int a, .int m, .ref 189, zm_mk] [] h Q
  refine zp_aload (x := 189) rfl rfl ?_
  refine zp_iconst (v := (nI 0)) rfl (by decide +kernel) ?_
  refine zp_aload_n (x := 0) rfl rfl ?_
  refine zp_iload_n (x := x) rfl rfl ?_
  refine zp_iload_n (x := a) rfl rfl ?_
  refine zp_iload_n (x := m) rfl rfl ?_
  refine zq_virt hS rfl rfl (by first | assumption | exact ⟨by decide, rfl⟩) rfl (s_RR_removeMember hs hW ⟨fun zz h2 s2 f2 => ?_, fun zz h2 s2 f2 => hE _ _ _ zz h2 s2 f2⟩)
  have hS := s2.1
  show zp_wp X y_Law_removeMember 10 [.ref 0, .int x, .int a, .int m, .ref 189, zm_mk] [.int ((z_op s x 5 a m (nI 0) (nI 0)).2.1), .int (nI 0), .ref 189] h2 Q
  refine zp_i2l rfl rfl ?_
  refine zq_last hS rfl (by first | assumption | exact ⟨by decide, rfl⟩) (by omega) (by first | decide | omega) (fun hS11 => ?_)
  have hS := hS11
  refine zp_goto (tgt := 27) rfl rfl ?_
  refine zp_iconst (v := (nI 0)) rfl (by decide +kernel) ?_
  refine zp_iret rfl rfl ?_
  have hq2 := hq _ (lw_S s2 (by assumption)) (lw_G f2) (fun _ => lw_o)
  rw [zz] at hq2
  exact hq2
theorem s_Law_renameMember {x a m n : Int32} (hs : zc_S s h) (hW : zc_W s) (hq : ∀ h', zc_S (z_op s x 6 a m (nI 0) n).2.2 h' → zl_G h h' → ((z_op s x 6 a m (nI 0) n).1 = 0 → cj h' 189 0 = Int32.toInt64 (z_op s x 6 a m (nI 0) n).2.1) → Q (.inl (some (.int (nI (z_op s x 6 a m (nI 0) n).1)))) h') : zp_wm X y_Law_renameMember [.ref 0, .int x, .int a, .int m, .int n, .ref 189] h Q := by
  have hS := hs.1
  have hbd : (z_op s x 6 a m (nI 0) n).1 ≤ 3 := zb_op
  have hE : ∀ pc' ls rest, (z_op s x 6 a m (nI 0) n).1 ≠ 0 → ∀ h2, zc_S (z_op s x 6 a m (nI 0) n).2.2 h2 → zc_F h h2 → zp_k X y_Law_renameMember 9 pc' ls rest Q (.inr ((fun k => k - 1) (z_op s x 6 a m (nI 0) n).1)) h2 := by
    intro pc' ls rest zz h2 s2 f2
    have hq2 := hq h2 s2 f2.G (fun q => absurd q zz)
    have hc : (z_op s x 6 a m (nI 0) n).1 = 1 ∨ (z_op s x 6 a m (nI 0) n).1 = 2 ∨ (z_op s x 6 a m (nI 0) n).1 = 3 := by omega
    rcases hc with e | e | e
    · rw [e] at hq2 ⊢
      exact lw_k (j := 1) rfl hq2
    · rw [e] at hq2 ⊢
      exact lw_k (j := 2) rfl hq2
    · rw [e] at hq2 ⊢
      exact lw_k (j := 3) rfl hq2
  show zp_wp X y_Law_renameMember 0 [.ref 0, .int x, .int a, .int m, .int n, .ref 189, zm_mk] [] h Q
  refine zp_aload (x := 189) rfl rfl ?_
  refine zp_iconst (v := (nI 0)) rfl (by decide +kernel) ?_
  refine zp_aload_n (x := 0) rfl rfl ?_
  refine zp_iload_n (x := x) rfl rfl ?_
  refine zp_iload_n (x := a) rfl rfl ?_
  refine zp_iload_n (x := m) rfl rfl ?_
  refine zp_iload (x := n) rfl rfl ?_
  refine zq_virt hS rfl rfl (by first | assumption | exact ⟨by decide, rfl⟩) rfl (s_RR_renameMember hs hW ⟨fun zz h2 s2 f2 => ?_, fun zz h2 s2 f2 => hE _ _ _ zz h2 s2 f2⟩)
  have hS := s2.1
  show zp_wp X y_Law_renameMember 12 [.ref 0, .int x, .int a, .int m, .int n, .ref 189, zm_mk] [.int ((z_op s x 6 a m (nI 0) n).2.1), .int (nI 0), .ref 189] h2 Q
  refine zp_i2l rfl rfl ?_
  refine zq_last hS rfl (by first | assumption | exact ⟨by decide, rfl⟩) (by omega) (by first | decide | omega) (fun hS13 => ?_)
  have hS := hS13
  refine zp_goto (tgt := 29) rfl rfl ?_
  refine zp_iconst (v := (nI 0)) rfl (by decide +kernel) ?_
  refine zp_iret rfl rfl ?_
  have hq2 := hq _ (lw_S s2 (by assumption)) (lw_G f2) (fun _ => lw_o)
  rw [zz] at hq2
  exact hq2
theorem s_Law_moveMember {x a m b : Int32} (hs : zc_S s h) (hW : zc_W s) (hq : ∀ h', zc_S (z_op s x 7 a m b (nI 0)).2.2 h' → zl_G h h' → ((z_op s x 7 a m b (nI 0)).1 = 0 → cj h' 189 0 = Int32.toInt64 (z_op s x 7 a m b (nI 0)).2.1) → Q (.inl (some (.int (nI (z_op s x 7 a m b (nI 0)).1)))) h') : zp_wm X y_Law_moveMember [.ref 0, .int x, .int a, .int m, .int b, .ref 189] h Q := by
  have hS := hs.1
  have hbd : (z_op s x 7 a m b (nI 0)).1 ≤ 3 := zb_op
  have hE : ∀ pc' ls rest, (z_op s x 7 a m b (nI 0)).1 ≠ 0 → ∀ h2, zc_S (z_op s x 7 a m b (nI 0)).2.2 h2 → zc_F h h2 → zp_k X y_Law_moveMember 9 pc' ls rest Q (.inr ((fun k => k - 1) (z_op s x 7 a m b (nI 0)).1)) h2 := by
    intro pc' ls rest zz h2 s2 f2
    have hq2 := hq h2 s2 f2.G (fun q => absurd q zz)
    have hc : (z_op s x 7 a m b (nI 0)).1 = 1 ∨ (z_op s x 7 a m b (nI 0)).1 = 2 ∨ (z_op s x 7 a m b (nI 0)).1 = 3 := by omega
    rcases hc with e | e | e
    · rw [e] at hq2 ⊢
      exact lw_k (j := 1) rfl hq2
    · rw [e] at hq2 ⊢
      exact lw_k (j := 2) rfl hq2
    · rw [e] at hq2 ⊢
      exact lw_k (j := 3) rfl hq2
  show zp_wp X y_Law_moveMember 0 [.ref 0, .int x, .int a, .int m, .int b, .ref 189, zm_mk] [] h Q
  refine zp_aload (x := 189) rfl rfl ?_
  refine zp_iconst (v := (nI 0)) rfl (by decide +kernel) ?_
  refine zp_aload_n (x := 0) rfl rfl ?_
  refine zp_iload_n (x := x) rfl rfl ?_
  refine zp_iload_n (x := a) rfl rfl ?_
  refine zp_iload_n (x := m) rfl rfl ?_
  refine zp_iload (x := b) rfl rfl ?_
  refine zq_virt hS rfl rfl (by first | assumption | exact ⟨by decide, rfl⟩) rfl (s_RR_moveMember hs hW ⟨fun zz h2 s2 f2 => ?_, fun zz h2 s2 f2 => hE _ _ _ zz h2 s2 f2⟩)
  have hS := s2.1
  show zp_wp X y_Law_moveMember 12 [.ref 0, .int x, .int a, .int m, .int b, .ref 189, zm_mk] [.int ((z_op s x 7 a m b (nI 0)).2.1), .int (nI 0), .ref 189] h2 Q
  refine zp_i2l rfl rfl ?_
  refine zq_last hS rfl (by first | assumption | exact ⟨by decide, rfl⟩) (by omega) (by first | decide | omega) (fun hS13 => ?_)
  have hS := hS13
  refine zp_goto (tgt := 29) rfl rfl ?_
  refine zp_iconst (v := (nI 0)) rfl (by decide +kernel) ?_
  refine zp_iret rfl rfl ?_
  have hq2 := hq _ (lw_S s2 (by assumption)) (lw_G f2) (fun _ => lw_o)
  rw [zz] at hq2
  exact hq2
theorem s_Law_addUse {x a m b n : Int32} (hs : zc_S s h) (hW : zc_W s) (hq : ∀ h', zc_S (z_op s x 8 a m b n).2.2 h' → zl_G h h' → ((z_op s x 8 a m b n).1 = 0 → cj h' 189 0 = Int32.toInt64 (z_op s x 8 a m b n).2.1) → Q (.inl (some (.int (nI (z_op s x 8 a m b n).1)))) h') : zp_wm X y_Law_addUse [.ref 0, .int x, .int a, .int m, .int b, .int n, .ref 189] h Q := by
  have hS := hs.1
  have hbd : (z_op s x 8 a m b n).1 ≤ 3 := zb_op
  have hE : ∀ pc' ls rest, (z_op s x 8 a m b n).1 ≠ 0 → ∀ h2, zc_S (z_op s x 8 a m b n).2.2 h2 → zc_F h h2 → zp_k X y_Law_addUse 11 pc' ls rest Q (.inr ((fun k => k - 1) (z_op s x 8 a m b n).1)) h2 := by
    intro pc' ls rest zz h2 s2 f2
    have hq2 := hq h2 s2 f2.G (fun q => absurd q zz)
    have hc : (z_op s x 8 a m b n).1 = 1 ∨ (z_op s x 8 a m b n).1 = 2 ∨ (z_op s x 8 a m b n).1 = 3 := by omega
    rcases hc with e | e | e
    · rw [e] at hq2 ⊢
      exact lw_k (j := 1) rfl hq2
    · rw [e] at hq2 ⊢
      exact lw_k (j := 2) rfl hq2
    · rw [e] at hq2 ⊢
      exact lw_k (j := 3) rfl hq2
  show zp_wp X y_Law_addUse 0 [.ref 0, .int x, .int a, .int m, .int b, .int n, .ref 189, zm_mk] [] h Q
  refine zp_aload (x := 189) rfl rfl ?_
  refine zp_iconst (v := (nI 0)) rfl (by decide +kernel) ?_
  refine zp_aload_n (x := 0) rfl rfl ?_
  refine zp_iload_n (x := x) rfl rfl ?_
  refine zp_iload_n (x := a) rfl rfl ?_
  refine zp_iload_n (x := m) rfl rfl ?_
  refine zp_iload (x := b) rfl rfl ?_
  refine zp_iload (x := n) rfl rfl ?_
  refine zq_virt hS rfl rfl (by first | assumption | exact ⟨by decide, rfl⟩) rfl (s_RR_addUse hs hW ⟨fun zz h2 s2 f2 => ?_, fun zz h2 s2 f2 => hE _ _ _ zz h2 s2 f2⟩)
  have hS := s2.1
  show zp_wp X y_Law_addUse 14 [.ref 0, .int x, .int a, .int m, .int b, .int n, .ref 189, zm_mk] [.int ((z_op s x 8 a m b n).2.1), .int (nI 0), .ref 189] h2 Q
  refine zp_i2l rfl rfl ?_
  refine zq_last hS rfl (by first | assumption | exact ⟨by decide, rfl⟩) (by omega) (by first | decide | omega) (fun hS15 => ?_)
  have hS := hS15
  refine zp_goto (tgt := 31) rfl rfl ?_
  refine zp_iconst (v := (nI 0)) rfl (by decide +kernel) ?_
  refine zp_iret rfl rfl ?_
  have hq2 := hq _ (lw_S s2 (by assumption)) (lw_G f2) (fun _ => lw_o)
  rw [zz] at hq2
  exact hq2
theorem s_Law_removeUse {x a m b n : Int32} (hs : zc_S s h) (hW : zc_W s) (hq : ∀ h', zc_S (z_op s x 9 a m b n).2.2 h' → zl_G h h' → ((z_op s x 9 a m b n).1 = 0 → cj h' 189 0 = Int32.toInt64 (z_op s x 9 a m b n).2.1) → Q (.inl (some (.int (nI (z_op s x 9 a m b n).1)))) h') : zp_wm X y_Law_removeUse [.ref 0, .int x, .int a, .int m, .int b, .int n, .ref 189] h Q := by
  have hS := hs.1
  have hbd : (z_op s x 9 a m b n).1 ≤ 3 := zb_op
  have hE : ∀ pc' ls rest, (z_op s x 9 a m b n).1 ≠ 0 → ∀ h2, zc_S (z_op s x 9 a m b n).2.2 h2 → zc_F h h2 → zp_k X y_Law_removeUse 11 pc' ls rest Q (.inr ((fun k => k - 1) (z_op s x 9 a m b n).1)) h2 := by
    intro pc' ls rest zz h2 s2 f2
    have hq2 := hq h2 s2 f2.G (fun q => absurd q zz)
    have hc : (z_op s x 9 a m b n).1 = 1 ∨ (z_op s x 9 a m b n).1 = 2 ∨ (z_op s x 9 a m b n).1 = 3 := by omega
    rcases hc with e | e | e
    · rw [e] at hq2 ⊢
      exact lw_k (j := 1) rfl hq2
    · rw [e] at hq2 ⊢
      exact lw_k (j := 2) rfl hq2
    · rw [e] at hq2 ⊢
      exact lw_k (j := 3) rfl hq2
  show zp_wp X y_Law_removeUse 0 [.ref 0, .int x, .int a, .int m, .int b, .int n, .ref 189, zm_mk] [] h Q
  refine zp_aload (x := 189) rfl rfl ?_
  refine zp_iconst (v := (nI 0)) rfl (by decide +kernel) ?_
  refine zp_aload_n (x := 0) rfl rfl ?_
  refine zp_iload_n (x := x) rfl rfl ?_
  refine zp_iload_n (x := a) rfl rfl ?_
  refine zp_iload_n (x := m) rfl rfl ?_
  refine zp_iload (x := b) rfl rfl ?_
  refine zp_iload (x := n) rfl rfl ?_
  refine zq_virt hS rfl rfl (by first | assumption | exact ⟨by decide, rfl⟩) rfl (s_RR_removeUse hs hW ⟨fun zz h2 s2 f2 => ?_, fun zz h2 s2 f2 => hE _ _ _ zz h2 s2 f2⟩)
  have hS := s2.1
  show zp_wp X y_Law_removeUse 14 [.ref 0, .int x, .int a, .int m, .int b, .int n, .ref 189, zm_mk] [.int ((z_op s x 9 a m b n).2.1), .int (nI 0), .ref 189] h2 Q
  refine zp_i2l rfl rfl ?_
  refine zq_last hS rfl (by first | assumption | exact ⟨by decide, rfl⟩) (by omega) (by first | decide | omega) (fun hS15 => ?_)
  have hS := hS15
  refine zp_goto (tgt := 31) rfl rfl ?_
  refine zp_iconst (v := (nI 0)) rfl (by decide +kernel) ?_
  refine zp_iret rfl rfl ?_
  have hq2 := hq _ (lw_S s2 (by assumption)) (lw_G f2) (fun _ => lw_o)
  rw [zz] at hq2
  exact hq2
theorem s_Law_classes {x : Int32} (hs : zc_S s h) (hW : zc_W s) (hq : ∀ h', zc_S (z_classes s x).2.2 h' → zl_G h h' → ((z_classes s x).1 = 0 → cj h' 189 0 = Int32.toInt64 (z_classes s x).2.1) → Q (.inl (some (.int (nI (z_classes s x).1)))) h') : zp_wm X y_Law_classes [.ref 0, .int x, .ref 189] h Q := by
  have hS := hs.1
  have hbd : (z_classes s x).1 ≤ 1 := zb_classes
  have hE : ∀ pc' ls rest, (z_classes s x).1 ≠ 0 → ∀ h2, zc_S (z_classes s x).2.2 h2 → zc_F h h2 → zp_k X y_Law_classes 4 pc' ls rest Q (.inr ((fun k => k - 1) (z_classes s x).1)) h2 := by
    intro pc' ls rest zz h2 s2 f2
    have hq2 := hq h2 s2 f2.G (fun q => absurd q zz)
    have hc : (z_classes s x).1 = 1 := by omega
    rw [hc] at hq2 ⊢
    exact lw_k (j := 1) rfl hq2
  show zp_wp X y_Law_classes 0 [.ref 0, .int x, .ref 189, zm_mk] [] h Q
  refine zp_aload_n (x := 189) rfl rfl ?_
  refine zp_iconst (v := (nI 0)) rfl (by decide +kernel) ?_
  refine zp_aload_n (x := 0) rfl rfl ?_
  refine zp_iload_n (x := x) rfl rfl ?_
  refine zq_virt hS rfl rfl (by first | assumption | exact ⟨by decide, rfl⟩) rfl (s_RR_classes hs hW ⟨fun zz h2 s2 f2 => ?_, fun zz h2 s2 f2 => hE _ _ _ zz h2 s2 f2⟩)
  have hS := s2.1
  show zp_wp X y_Law_classes 7 [.ref 0, .int x, .ref 189, zm_mk] [.int ((z_classes s x).2.1), .int (nI 0), .ref 189] h2 Q
  refine zp_i2l rfl rfl ?_
  refine zq_last hS rfl (by first | assumption | exact ⟨by decide, rfl⟩) (by omega) (by first | decide | omega) (fun hS8 => ?_)
  have hS := hS8
  refine zp_goto (tgt := 15) rfl rfl ?_
  refine zp_iconst (v := (nI 0)) rfl (by decide +kernel) ?_
  refine zp_iret rfl rfl ?_
  have hq2 := hq _ (lw_S s2 (by assumption)) (lw_G f2) (fun _ => lw_o)
  rw [zz] at hq2
  exact hq2
theorem s_Law_className {x i : Int32} (hs : zc_S s h) (hW : zc_W s) (hq : ∀ h', zc_S (z_className s x i).2.2 h' → zl_G h h' → ((z_className s x i).1 = 0 → cj h' 189 0 = Int32.toInt64 (z_className s x i).2.1) → Q (.inl (some (.int (nI (z_className s x i).1)))) h') : zp_wm X y_Law_className [.ref 0, .int x, .int i, .ref 189] h Q := by
  have hS := hs.1
  have hbd : (z_className s x i).1 ≤ 1 := zb_className
  have hE : ∀ pc' ls rest, (z_className s x i).1 ≠ 0 → ∀ h2, zc_S (z_className s x i).2.2 h2 → zc_F h h2 → zp_k X y_Law_className 5 pc' ls rest Q (.inr ((fun k => k - 1) (z_className s x i).1)) h2 := by
    intro pc' ls rest zz h2 s2 f2
    have hq2 := hq h2 s2 f2.G (fun q => absurd q zz)
    have hc : (z_className s x i).1 = 1 := by omega
    rw [hc] at hq2 ⊢
    exact lw_k (j := 1) rfl hq2
  show zp_wp X y_Law_className 0 [.ref 0, .int x, .int i, .ref 189, zm_mk] [] h Q
  refine zp_aload_n (x := 189) rfl rfl ?_
  refine zp_iconst (v := (nI 0)) rfl (by decide +kernel) ?_
  refine zp_aload_n (x := 0) rfl rfl ?_
  refine zp_iload_n (x := x) rfl rfl ?_
  refine zp_iload_n (x := i) rfl rfl ?_
  refine zq_virt hS rfl rfl (by first | assumption | exact ⟨by decide, rfl⟩) rfl (s_RR_className hs hW ⟨fun zz h2 s2 f2 => ?_, fun zz h2 s2 f2 => hE _ _ _ zz h2 s2 f2⟩)
  have hS := s2.1
  show zp_wp X y_Law_className 8 [.ref 0, .int x, .int i, .ref 189, zm_mk] [.int ((z_className s x i).2.1), .int (nI 0), .ref 189] h2 Q
  refine zp_i2l rfl rfl ?_
  refine zq_last hS rfl (by first | assumption | exact ⟨by decide, rfl⟩) (by omega) (by first | decide | omega) (fun hS9 => ?_)
  have hS := hS9
  refine zp_goto (tgt := 17) rfl rfl ?_
  refine zp_iconst (v := (nI 0)) rfl (by decide +kernel) ?_
  refine zp_iret rfl rfl ?_
  have hq2 := hq _ (lw_S s2 (by assumption)) (lw_G f2) (fun _ => lw_o)
  rw [zz] at hq2
  exact hq2
theorem s_Law_superOf {x a : Int32} (hs : zc_S s h) (hW : zc_W s) (hq : ∀ h', zc_S (z_superOf s x a).2.2 h' → zl_G h h' → ((z_superOf s x a).1 = 0 → cj h' 189 0 = Int32.toInt64 (z_superOf s x a).2.1) → Q (.inl (some (.int (nI (z_superOf s x a).1)))) h') : zp_wm X y_Law_superOf [.ref 0, .int x, .int a, .ref 189] h Q := by
  have hS := hs.1
  have hbd : (z_superOf s x a).1 ≤ 2 := zb_look
  have hE : ∀ pc' ls rest, (z_superOf s x a).1 ≠ 0 → ∀ h2, zc_S (z_superOf s x a).2.2 h2 → zc_F h h2 → zp_k X y_Law_superOf 5 pc' ls rest Q (.inr ((fun k => k - 1) (z_superOf s x a).1)) h2 := by
    intro pc' ls rest zz h2 s2 f2
    have hq2 := hq h2 s2 f2.G (fun q => absurd q zz)
    have hc : (z_superOf s x a).1 = 1 ∨ (z_superOf s x a).1 = 2 := by omega
    rcases hc with e | e
    · rw [e] at hq2 ⊢
      exact lw_k (j := 1) rfl hq2
    · rw [e] at hq2 ⊢
      exact lw_k (j := 2) rfl hq2
  show zp_wp X y_Law_superOf 0 [.ref 0, .int x, .int a, .ref 189, zm_mk] [] h Q
  refine zp_aload_n (x := 189) rfl rfl ?_
  refine zp_iconst (v := (nI 0)) rfl (by decide +kernel) ?_
  refine zp_aload_n (x := 0) rfl rfl ?_
  refine zp_iload_n (x := x) rfl rfl ?_
  refine zp_iload_n (x := a) rfl rfl ?_
  refine zq_virt hS rfl rfl (by first | assumption | exact ⟨by decide, rfl⟩) rfl (s_RR_superOf hs hW ⟨fun zz h2 s2 f2 => ?_, fun zz h2 s2 f2 => hE _ _ _ zz h2 s2 f2⟩)
  have hS := s2.1
  show zp_wp X y_Law_superOf 8 [.ref 0, .int x, .int a, .ref 189, zm_mk] [.int ((z_superOf s x a).2.1), .int (nI 0), .ref 189] h2 Q
  refine zp_i2l rfl rfl ?_
  refine zq_last hS rfl (by first | assumption | exact ⟨by decide, rfl⟩) (by omega) (by first | decide | omega) (fun hS9 => ?_)
  have hS := hS9
  refine zp_goto (tgt := 21) rfl rfl ?_
  refine zp_iconst (v := (nI 0)) rfl (by decide +kernel) ?_
  refine zp_iret rfl rfl ?_
  have hq2 := hq _ (lw_S s2 (by assumption)) (lw_G f2) (fun _ => lw_o)
  rw [zz] at hq2
  exact hq2
theorem s_Law_members {x a : Int32} (hs : zc_S s h) (hW : zc_W s) (hq : ∀ h', zc_S (z_members s x a).2.2 h' → zl_G h h' → ((z_members s x a).1 = 0 → cj h' 189 0 = Int32.toInt64 (z_members s x a).2.1) → Q (.inl (some (.int (nI (z_members s x a).1)))) h') : zp_wm X y_Law_members [.ref 0, .int x, .int a, .ref 189] h Q := by
  have hS := hs.1
  have hbd : (z_members s x a).1 ≤ 2 := zb_look
  have hE : ∀ pc' ls rest, (z_members s x a).1 ≠ 0 → ∀ h2, zc_S (z_members s x a).2.2 h2 → zc_F h h2 → zp_k X y_Law_members 5 pc' ls rest Q (.inr ((fun k => k - 1) (z_members s x a).1)) h2 := by
    intro pc' ls rest zz h2 s2 f2
    have hq2 := hq h2 s2 f2.G (fun q => absurd q zz)
    have hc : (z_members s x a).1 = 1 ∨ (z_members s x a).1 = 2 := by omega
    rcases hc with e | e
    · rw [e] at hq2 ⊢
      exact lw_k (j := 1) rfl hq2
    · rw [e] at hq2 ⊢
      exact lw_k (j := 2) rfl hq2
  show zp_wp X y_Law_members 0 [.ref 0, .int x, .int a, .ref 189, zm_mk] [] h Q
  refine zp_aload_n (x := 189) rfl rfl ?_
  refine zp_iconst (v := (nI 0)) rfl (by decide +kernel) ?_
  refine zp_aload_n (x := 0) rfl rfl ?_
  refine zp_iload_n (x := x) rfl rfl ?_
  refine zp_iload_n (x := a) rfl rfl ?_
  refine zq_virt hS rfl rfl (by first | assumption | exact ⟨by decide, rfl⟩) rfl (s_RR_members hs hW ⟨fun zz h2 s2 f2 => ?_, fun zz h2 s2 f2 => hE _ _ _ zz h2 s2 f2⟩)
  have hS := s2.1
  show zp_wp X y_Law_members 8 [.ref 0, .int x, .int a, .ref 189, zm_mk] [.int ((z_members s x a).2.1), .int (nI 0), .ref 189] h2 Q
  refine zp_i2l rfl rfl ?_
  refine zq_last hS rfl (by first | assumption | exact ⟨by decide, rfl⟩) (by omega) (by first | decide | omega) (fun hS9 => ?_)
  have hS := hS9
  refine zp_goto (tgt := 21) rfl rfl ?_
  refine zp_iconst (v := (nI 0)) rfl (by decide +kernel) ?_
  refine zp_iret rfl rfl ?_
  have hq2 := hq _ (lw_S s2 (by assumption)) (lw_G f2) (fun _ => lw_o)
  rw [zz] at hq2
  exact hq2
theorem s_Law_uses {x : Int32} (hs : zc_S s h) (hW : zc_W s) (hq : ∀ h', zc_S (z_uses s x).2.2 h' → zl_G h h' → ((z_uses s x).1 = 0 → cj h' 189 0 = Int32.toInt64 (z_uses s x).2.1) → Q (.inl (some (.int (nI (z_uses s x).1)))) h') : zp_wm X y_Law_uses [.ref 0, .int x, .ref 189] h Q := by
  have hS := hs.1
  have hbd : (z_uses s x).1 ≤ 1 := zb_uses
  have hE : ∀ pc' ls rest, (z_uses s x).1 ≠ 0 → ∀ h2, zc_S (z_uses s x).2.2 h2 → zc_F h h2 → zp_k X y_Law_uses 4 pc' ls rest Q (.inr ((fun k => k - 1) (z_uses s x).1)) h2 := by
    intro pc' ls rest zz h2 s2 f2
    have hq2 := hq h2 s2 f2.G (fun q => absurd q zz)
    have hc : (z_uses s x).1 = 1 := by omega
    rw [hc] at hq2 ⊢
    exact lw_k (j := 1) rfl hq2
  show zp_wp X y_Law_uses 0 [.ref 0, .int x, .ref 189, zm_mk] [] h Q
  refine zp_aload_n (x := 189) rfl rfl ?_
  refine zp_iconst (v := (nI 0)) rfl (by decide +kernel) ?_
  refine zp_aload_n (x := 0) rfl rfl ?_
  refine zp_iload_n (x := x) rfl rfl ?_
  refine zq_virt hS rfl rfl (by first | assumption | exact ⟨by decide, rfl⟩) rfl (s_RR_uses hs hW ⟨fun zz h2 s2 f2 => ?_, fun zz h2 s2 f2 => hE _ _ _ zz h2 s2 f2⟩)
  have hS := s2.1
  show zp_wp X y_Law_uses 7 [.ref 0, .int x, .ref 189, zm_mk] [.int ((z_uses s x).2.1), .int (nI 0), .ref 189] h2 Q
  refine zp_i2l rfl rfl ?_
  refine zq_last hS rfl (by first | assumption | exact ⟨by decide, rfl⟩) (by omega) (by first | decide | omega) (fun hS8 => ?_)
  have hS := hS8
  refine zp_goto (tgt := 15) rfl rfl ?_
  refine zp_iconst (v := (nI 0)) rfl (by decide +kernel) ?_
  refine zp_iret rfl rfl ?_
  have hq2 := hq _ (lw_S s2 (by assumption)) (lw_G f2) (fun _ => lw_o)
  rw [zz] at hq2
  exact hq2
theorem s_Law_hasUse {x a m b n : Int32} (hs : zc_S s h) (hW : zc_W s) (hq : ∀ h', zc_S (z_hasUse s x a m b n).2.2 h' → zl_G h h' → ((z_hasUse s x a m b n).1 = 0 → cj h' 189 0 = Int32.toInt64 (z_hasUse s x a m b n).2.1) → Q (.inl (some (.int (nI (z_hasUse s x a m b n).1)))) h') : zp_wm X y_Law_hasUse [.ref 0, .int x, .int a, .int m, .int b, .int n, .ref 189] h Q := by
  have hS := hs.1
  have hbd : (z_hasUse s x a m b n).1 ≤ 2 := zb_look
  have hE : ∀ pc' ls rest, (z_hasUse s x a m b n).1 ≠ 0 → ∀ h2, zc_S (z_hasUse s x a m b n).2.2 h2 → zc_F h h2 → zp_k X y_Law_hasUse 11 pc' ls rest Q (.inr ((fun k => k - 1) (z_hasUse s x a m b n).1)) h2 := by
    intro pc' ls rest zz h2 s2 f2
    have hq2 := hq h2 s2 f2.G (fun q => absurd q zz)
    have hc : (z_hasUse s x a m b n).1 = 1 ∨ (z_hasUse s x a m b n).1 = 2 := by omega
    rcases hc with e | e
    · rw [e] at hq2 ⊢
      exact lw_k (j := 1) rfl hq2
    · rw [e] at hq2 ⊢
      exact lw_k (j := 2) rfl hq2
  show zp_wp X y_Law_hasUse 0 [.ref 0, .int x, .int a, .int m, .int b, .int n, .ref 189, zm_mk] [] h Q
  have h01 := lw_01 (z01_hasUse (s := s) (x := x) (a := a) (m := m) (b := b) (n := n))
  refine zp_aload (x := 189) rfl rfl ?_
  refine zp_iconst (v := (nI 0)) rfl (by decide +kernel) ?_
  refine zp_aload_n (x := 0) rfl rfl ?_
  refine zp_iload_n (x := x) rfl rfl ?_
  refine zp_iload_n (x := a) rfl rfl ?_
  refine zp_iload_n (x := m) rfl rfl ?_
  refine zp_iload (x := b) rfl rfl ?_
  refine zp_iload (x := n) rfl rfl ?_
  refine zq_virt hS rfl rfl (by first | assumption | exact ⟨by decide, rfl⟩) rfl (s_RR_hasUse hs hW ⟨fun zz h2 s2 f2 => ?_, fun zz h2 s2 f2 => hE _ _ _ zz h2 s2 f2⟩)
  have hS := s2.1
  show zp_wp X y_Law_hasUse 14 [.ref 0, .int x, .int a, .int m, .int b, .int n, .ref 189, zm_mk] [.int ((z_hasUse s x a m b n).2.1), .int (nI 0), .ref 189] h2 Q
  refine zp_if_eq (tgt := 21) rfl rfl (fun b14 => ?_) (fun b14 => ?_)
  · refine zp_lconst (v := lN 0) rfl rfl ?_
    refine zq_last hS rfl (by first | assumption | exact ⟨by decide, rfl⟩) (by omega) (by first | decide | omega) (fun hS22 => ?_)
    have hS := hS22
    refine zp_goto (tgt := 34) rfl rfl ?_
    refine zp_iconst (v := (nI 0)) rfl (by decide +kernel) ?_
    refine zp_iret rfl rfl ?_
    first
    | (have hq2 := hq _ (lw_S s2 (by assumption)) (lw_G f2) (fun _ => lw_o.trans (h01.1 b14).symm)
       rw [zz] at hq2
       exact hq2)
    | (have hq2 := hq _ (lw_S s2 (by assumption)) (lw_G f2) (fun _ => lw_o.trans (h01.2 b14).symm)
       rw [zz] at hq2
       exact hq2)
    | omega
  · refine zp_lconst (v := lN 1) rfl rfl ?_
    refine zp_goto (tgt := 22) rfl rfl ?_
    refine zq_last hS rfl (by first | assumption | exact ⟨by decide, rfl⟩) (by omega) (by first | decide | omega) (fun hS22 => ?_)
    have hS := hS22
    refine zp_goto (tgt := 34) rfl rfl ?_
    refine zp_iconst (v := (nI 0)) rfl (by decide +kernel) ?_
    refine zp_iret rfl rfl ?_
    first
    | (have hq2 := hq _ (lw_S s2 (by assumption)) (lw_G f2) (fun _ => lw_o.trans (h01.1 b14).symm)
       rw [zz] at hq2
       exact hq2)
    | (have hq2 := hq _ (lw_S s2 (by assumption)) (lw_G f2) (fun _ => lw_o.trans (h01.2 b14).symm)
       rw [zz] at hq2
       exact hq2)
    | omega
theorem s_Law_kindOf {i : Int32} (hs : zc_S s h) (hW : zc_W s) (hq : ∀ h', zc_S (z_kind s i).2.2 h' → zl_G h h' → ((z_kind s i).1 = 0 → cj h' 189 0 = Int32.toInt64 (z_kind s i).2.1) → Q (.inl (some (.int (nI (z_kind s i).1)))) h') : zp_wm X y_Law_kindOf [.ref 0, .int i, .ref 189] h Q := by
  have hS := hs.1
  have hbd : (z_kind s i).1 ≤ 1 := zb_kind
  have hE : ∀ pc' ls rest, (z_kind s i).1 ≠ 0 → ∀ h2, zc_S (z_kind s i).2.2 h2 → zc_F h h2 → zp_k X y_Law_kindOf 4 pc' ls rest Q (.inr ((fun k => k - 1) (z_kind s i).1)) h2 := by
    intro pc' ls rest zz h2 s2 f2
    have hq2 := hq h2 s2 f2.G (fun q => absurd q zz)
    have hc : (z_kind s i).1 = 1 := by omega
    rw [hc] at hq2 ⊢
    exact lw_k (j := 1) rfl hq2
  show zp_wp X y_Law_kindOf 0 [.ref 0, .int i, .ref 189, zm_mk] [] h Q
  refine zp_aload_n (x := 189) rfl rfl ?_
  refine zp_iconst (v := (nI 0)) rfl (by decide +kernel) ?_
  refine zp_aload_n (x := 0) rfl rfl ?_
  refine zp_iload_n (x := i) rfl rfl ?_
  refine zq_virt hS rfl rfl (by first | assumption | exact ⟨by decide, rfl⟩) rfl (s_RR_kindOf hs hW ⟨fun zz h2 s2 f2 => ?_, fun zz h2 s2 f2 => hE _ _ _ zz h2 s2 f2⟩)
  have hS := s2.1
  show zp_wp X y_Law_kindOf 7 [.ref 0, .int i, .ref 189, zm_mk] [.int ((z_kind s i).2.1), .int (nI 0), .ref 189] h2 Q
  refine zp_i2l rfl rfl ?_
  refine zq_last hS rfl (by first | assumption | exact ⟨by decide, rfl⟩) (by omega) (by first | decide | omega) (fun hS8 => ?_)
  have hS := hS8
  refine zp_goto (tgt := 15) rfl rfl ?_
  refine zp_iconst (v := (nI 0)) rfl (by decide +kernel) ?_
  refine zp_iret rfl rfl ?_
  have hq2 := hq _ (lw_S s2 (by assumption)) (lw_G f2) (fun _ => lw_o)
  rw [zz] at hq2
  exact hq2
theorem s_Law_nameOf {i w : Int32} (hs : zc_S s h) (hW : zc_W s) (hq : ∀ h', zc_S (z_name s i w).2.2 h' → zl_G h h' → ((z_name s i w).1 = 0 → cj h' 189 0 = Int32.toInt64 (z_name s i w).2.1) → Q (.inl (some (.int (nI (z_name s i w).1)))) h') : zp_wm X y_Law_nameOf [.ref 0, .int i, .int w, .ref 189] h Q := by
  have hS := hs.1
  have hbd : (z_name s i w).1 ≤ 1 := zb_name
  have hE : ∀ pc' ls rest, (z_name s i w).1 ≠ 0 → ∀ h2, zc_S (z_name s i w).2.2 h2 → zc_F h h2 → zp_k X y_Law_nameOf 5 pc' ls rest Q (.inr ((fun k => k - 1) (z_name s i w).1)) h2 := by
    intro pc' ls rest zz h2 s2 f2
    have hq2 := hq h2 s2 f2.G (fun q => absurd q zz)
    have hc : (z_name s i w).1 = 1 := by omega
    rw [hc] at hq2 ⊢
    exact lw_k (j := 1) rfl hq2
  show zp_wp X y_Law_nameOf 0 [.ref 0, .int i, .int w, .ref 189, zm_mk] [] h Q
  refine zp_aload_n (x := 189) rfl rfl ?_
  refine zp_iconst (v := (nI 0)) rfl (by decide +kernel) ?_
  refine zp_aload_n (x := 0) rfl rfl ?_
  refine zp_iload_n (x := i) rfl rfl ?_
  refine zp_iload_n (x := w) rfl rfl ?_
  refine zq_virt hS rfl rfl (by first | assumption | exact ⟨by decide, rfl⟩) rfl (s_RR_nameOf hs hW ⟨fun zz h2 s2 f2 => ?_, fun zz h2 s2 f2 => hE _ _ _ zz h2 s2 f2⟩)
  have hS := s2.1
  show zp_wp X y_Law_nameOf 8 [.ref 0, .int i, .int w, .ref 189, zm_mk] [.int ((z_name s i w).2.1), .int (nI 0), .ref 189] h2 Q
  refine zp_i2l rfl rfl ?_
  refine zq_last hS rfl (by first | assumption | exact ⟨by decide, rfl⟩) (by omega) (by first | decide | omega) (fun hS9 => ?_)
  have hS := hS9
  refine zp_goto (tgt := 17) rfl rfl ?_
  refine zp_iconst (v := (nI 0)) rfl (by decide +kernel) ?_
  refine zp_iret rfl rfl ?_
  have hq2 := hq _ (lw_S s2 (by assumption)) (lw_G f2) (fun _ => lw_o)
  rw [zz] at hq2
  exact hq2
theorem s_Law_undo (hs : zc_S s h) (hW : zc_W s) (hq : ∀ h', zc_S (z_undo s).2.2 h' → zl_G h h' → ((z_undo s).1 = 0 → cj h' 189 0 = Int32.toInt64 (z_undo s).2.1) → Q (.inl (some (.int (nI (z_undo s).1)))) h') : zp_wm X y_Law_undo [.ref 0, .ref 189] h Q := by
  have hS := hs.1
  have hbd : (z_undo s).1 ≤ 1 := zb_undo
  have hE : ∀ pc' ls rest, (z_undo s).1 ≠ 0 → ∀ h2, zc_S (z_undo s).2.2 h2 → zc_F h h2 → zp_k X y_Law_undo 3 pc' ls rest Q (.inr ((fun _ => 2) (z_undo s).1)) h2 := by
    intro pc' ls rest zz h2 s2 f2
    have hq2 := hq h2 s2 f2.G (fun q => absurd q zz)
    have hc : (z_undo s).1 = 1 := by omega
    rw [hc] at hq2 ⊢
    exact lw_k (j := 1) rfl hq2
  show zp_wp X y_Law_undo 0 [.ref 0, .ref 189, zm_mk] [] h Q
  refine zp_aload_n (x := 189) rfl rfl ?_
  refine zp_iconst (v := (nI 0)) rfl (by decide +kernel) ?_
  refine zp_aload_n (x := 0) rfl rfl ?_
  refine zq_virt hS rfl rfl (by first | assumption | exact ⟨by decide, rfl⟩) rfl (s_RR_undo hs hW ⟨fun zz h2 s2 f2 => ?_, fun zz h2 s2 f2 => hE _ _ _ zz h2 s2 f2⟩)
  have hS := s2.1
  show zp_wp X y_Law_undo 6 [.ref 0, .ref 189, zm_mk] [.int ((z_undo s).2.1), .int (nI 0), .ref 189] h2 Q
  refine zp_i2l rfl rfl ?_
  refine zq_last hS rfl (by first | assumption | exact ⟨by decide, rfl⟩) (by omega) (by first | decide | omega) (fun hS7 => ?_)
  have hS := hS7
  refine zp_goto (tgt := 14) rfl rfl ?_
  refine zp_iconst (v := (nI 0)) rfl (by decide +kernel) ?_
  refine zp_iret rfl rfl ?_
  have hq2 := hq _ (lw_S s2 (by assumption)) (lw_G f2) (fun _ => lw_o)
  rw [zz] at hq2
  exact hq2
theorem s_Law_commutes {i : Int32} (hs : zc_S s h) (hW : zc_W s) (hq : ∀ h', zc_S (z_commutes s i).2.2 h' → zl_G h h' → ((z_commutes s i).1 = 0 → cj h' 189 0 = Int32.toInt64 (z_commutes s i).2.1) → Q (.inl (some (.int (nI (z_commutes s i).1)))) h') : zp_wm X y_Law_commutes [.ref 0, .int i, .ref 189] h Q := by
  have hS := hs.1
  have hbd : (z_commutes s i).1 ≤ 1 := zb_commutes
  have hE : ∀ pc' ls rest, (z_commutes s i).1 ≠ 0 → ∀ h2, zc_S (z_commutes s i).2.2 h2 → zc_F h h2 → zp_k X y_Law_commutes 4 pc' ls rest Q (.inr ((fun k => k - 1) (z_commutes s i).1)) h2 := by
    intro pc' ls rest zz h2 s2 f2
    have hq2 := hq h2 s2 f2.G (fun q => absurd q zz)
    have hc : (z_commutes s i).1 = 1 := by omega
    rw [hc] at hq2 ⊢
    exact lw_k (j := 1) rfl hq2
  show zp_wp X y_Law_commutes 0 [.ref 0, .int i, .ref 189, zm_mk] [] h Q
  have h01 := lw_01 (z01_commutes (s := s) (i := i))
  refine zp_aload_n (x := 189) rfl rfl ?_
  refine zp_iconst (v := (nI 0)) rfl (by decide +kernel) ?_
  refine zp_aload_n (x := 0) rfl rfl ?_
  refine zp_iload_n (x := i) rfl rfl ?_
  refine zq_virt hS rfl rfl (by first | assumption | exact ⟨by decide, rfl⟩) rfl (s_RR_commutes hs hW ⟨fun zz h2 s2 f2 => ?_, fun zz h2 s2 f2 => hE _ _ _ zz h2 s2 f2⟩)
  have hS := s2.1
  show zp_wp X y_Law_commutes 7 [.ref 0, .int i, .ref 189, zm_mk] [.int ((z_commutes s i).2.1), .int (nI 0), .ref 189] h2 Q
  refine zp_if_eq (tgt := 14) rfl rfl (fun b7 => ?_) (fun b7 => ?_)
  · refine zp_lconst (v := lN 0) rfl rfl ?_
    refine zq_last hS rfl (by first | assumption | exact ⟨by decide, rfl⟩) (by omega) (by first | decide | omega) (fun hS15 => ?_)
    have hS := hS15
    refine zp_goto (tgt := 22) rfl rfl ?_
    refine zp_iconst (v := (nI 0)) rfl (by decide +kernel) ?_
    refine zp_iret rfl rfl ?_
    first
    | (have hq2 := hq _ (lw_S s2 (by assumption)) (lw_G f2) (fun _ => lw_o.trans (h01.1 b7).symm)
       rw [zz] at hq2
       exact hq2)
    | (have hq2 := hq _ (lw_S s2 (by assumption)) (lw_G f2) (fun _ => lw_o.trans (h01.2 b7).symm)
       rw [zz] at hq2
       exact hq2)
    | omega
  · refine zp_lconst (v := lN 1) rfl rfl ?_
    refine zp_goto (tgt := 15) rfl rfl ?_
    refine zq_last hS rfl (by first | assumption | exact ⟨by decide, rfl⟩) (by omega) (by first | decide | omega) (fun hS15 => ?_)
    have hS := hS15
    refine zp_goto (tgt := 22) rfl rfl ?_
    refine zp_iconst (v := (nI 0)) rfl (by decide +kernel) ?_
    refine zp_iret rfl rfl ?_
    first
    | (have hq2 := hq _ (lw_S s2 (by assumption)) (lw_G f2) (fun _ => lw_o.trans (h01.1 b7).symm)
       rw [zz] at hq2
       exact hq2)
    | (have hq2 := hq _ (lw_S s2 (by assumption)) (lw_G f2) (fun _ => lw_o.trans (h01.2 b7).symm)
       rw [zz] at hq2
       exact hq2)
    | omega
theorem s_Law_exchange {i : Int32} (hs : zc_S s h) (hW : zc_W s) (hq : ∀ h', zc_S (z_exchange s i).2.2 h' → zl_G h h' → ((z_exchange s i).1 = 0 → cj h' 189 0 = Int32.toInt64 (z_exchange s i).2.1) → Q (.inl (some (.int (nI (z_exchange s i).1)))) h') : zp_wm X y_Law_exchange [.ref 0, .int i, .ref 189] h Q := by
  have hS := hs.1
  have hbd : (z_exchange s i).1 ≤ 1 := zb_exchange
  have hE : ∀ pc' ls rest, (z_exchange s i).1 ≠ 0 → ∀ h2, zc_S (z_exchange s i).2.2 h2 → zc_F h h2 → zp_k X y_Law_exchange 4 pc' ls rest Q (.inr ((fun k => k - 1) (z_exchange s i).1)) h2 := by
    intro pc' ls rest zz h2 s2 f2
    have hq2 := hq h2 s2 f2.G (fun q => absurd q zz)
    have hc : (z_exchange s i).1 = 1 := by omega
    rw [hc] at hq2 ⊢
    exact lw_k (j := 1) rfl hq2
  show zp_wp X y_Law_exchange 0 [.ref 0, .int i, .ref 189, zm_mk] [] h Q
  have h01 := lw_01 (z01_exchange (s := s) (i := i))
  refine zp_aload_n (x := 189) rfl rfl ?_
  refine zp_iconst (v := (nI 0)) rfl (by decide +kernel) ?_
  refine zp_aload_n (x := 0) rfl rfl ?_
  refine zp_iload_n (x := i) rfl rfl ?_
  refine zq_virt hS rfl rfl (by first | assumption | exact ⟨by decide, rfl⟩) rfl (s_RR_exchange hs hW ⟨fun zz h2 s2 f2 => ?_, fun zz h2 s2 f2 => hE _ _ _ zz h2 s2 f2⟩)
  have hS := s2.1
  show zp_wp X y_Law_exchange 7 [.ref 0, .int i, .ref 189, zm_mk] [.int ((z_exchange s i).2.1), .int (nI 0), .ref 189] h2 Q
  refine zp_if_eq (tgt := 14) rfl rfl (fun b7 => ?_) (fun b7 => ?_)
  · refine zp_lconst (v := lN 0) rfl rfl ?_
    refine zq_last hS rfl (by first | assumption | exact ⟨by decide, rfl⟩) (by omega) (by first | decide | omega) (fun hS15 => ?_)
    have hS := hS15
    refine zp_goto (tgt := 22) rfl rfl ?_
    refine zp_iconst (v := (nI 0)) rfl (by decide +kernel) ?_
    refine zp_iret rfl rfl ?_
    first
    | (have hq2 := hq _ (lw_S s2 (by assumption)) (lw_G f2) (fun _ => lw_o.trans (h01.1 b7).symm)
       rw [zz] at hq2
       exact hq2)
    | (have hq2 := hq _ (lw_S s2 (by assumption)) (lw_G f2) (fun _ => lw_o.trans (h01.2 b7).symm)
       rw [zz] at hq2
       exact hq2)
    | omega
  · refine zp_lconst (v := lN 1) rfl rfl ?_
    refine zp_goto (tgt := 15) rfl rfl ?_
    refine zq_last hS rfl (by first | assumption | exact ⟨by decide, rfl⟩) (by omega) (by first | decide | omega) (fun hS15 => ?_)
    have hS := hS15
    refine zp_goto (tgt := 22) rfl rfl ?_
    refine zp_iconst (v := (nI 0)) rfl (by decide +kernel) ?_
    refine zp_iret rfl rfl ?_
    first
    | (have hq2 := hq _ (lw_S s2 (by assumption)) (lw_G f2) (fun _ => lw_o.trans (h01.1 b7).symm)
       rw [zz] at hq2
       exact hq2)
    | (have hq2 := hq _ (lw_S s2 (by assumption)) (lw_G f2) (fun _ => lw_o.trans (h01.2 b7).symm)
       rw [zz] at hq2
       exact hq2)
    | omega
theorem s_Law_needs {i : Int32} (hs : zc_S s h) (hW : zc_W s) (hq : ∀ h', zc_S (z_needs s i).2.2 h' → zl_G h h' → ((z_needs s i).1 = 0 → cj h' 189 0 = Int32.toInt64 (z_needs s i).2.1) → Q (.inl (some (.int (nI (z_needs s i).1)))) h') : zp_wm X y_Law_needs [.ref 0, .int i, .ref 189] h Q := by
  have hS := hs.1
  have hbd : (z_needs s i).1 ≤ 1 := zb_needs
  have hE : ∀ pc' ls rest, (z_needs s i).1 ≠ 0 → ∀ h2, zc_S (z_needs s i).2.2 h2 → zc_F h h2 → zp_k X y_Law_needs 4 pc' ls rest Q (.inr ((fun k => k - 1) (z_needs s i).1)) h2 := by
    intro pc' ls rest zz h2 s2 f2
    have hq2 := hq h2 s2 f2.G (fun q => absurd q zz)
    have hc : (z_needs s i).1 = 1 := by omega
    rw [hc] at hq2 ⊢
    exact lw_k (j := 1) rfl hq2
  show zp_wp X y_Law_needs 0 [.ref 0, .int i, .ref 189, zm_mk] [] h Q
  refine zp_aload_n (x := 189) rfl rfl ?_
  refine zp_iconst (v := (nI 0)) rfl (by decide +kernel) ?_
  refine zp_aload_n (x := 0) rfl rfl ?_
  refine zp_iload_n (x := i) rfl rfl ?_
  refine zq_virt hS rfl rfl (by first | assumption | exact ⟨by decide, rfl⟩) rfl (s_RR_needs hs hW ⟨fun zz h2 s2 f2 => ?_, fun zz h2 s2 f2 => hE _ _ _ zz h2 s2 f2⟩)
  have hS := s2.1
  show zp_wp X y_Law_needs 7 [.ref 0, .int i, .ref 189, zm_mk] [.int ((z_needs s i).2.1), .int (nI 0), .ref 189] h2 Q
  refine zp_i2l rfl rfl ?_
  refine zq_last hS rfl (by first | assumption | exact ⟨by decide, rfl⟩) (by omega) (by first | decide | omega) (fun hS8 => ?_)
  have hS := hS8
  refine zp_goto (tgt := 15) rfl rfl ?_
  refine zp_iconst (v := (nI 0)) rfl (by decide +kernel) ?_
  refine zp_iret rfl rfl ?_
  have hq2 := hq _ (lw_S s2 (by assumption)) (lw_G f2) (fun _ => lw_o)
  rw [zz] at hq2
  exact hq2
theorem s_Law_matchOfClass {a : Int32} (hs : zc_S s h) (hW : zc_W s) (hq : ∀ h', zc_S (z_matchC s a).2.2 h' → zl_G h h' → ((z_matchC s a).1 = 0 → cj h' 189 0 = Int32.toInt64 (z_matchC s a).2.1) → Q (.inl (some (.int (nI (z_matchC s a).1)))) h') : zp_wm X y_Law_matchOfClass [.ref 0, .int a, .ref 189] h Q := by
  have hS := hs.1
  have hbd : (z_matchC s a).1 ≤ 1 := zb_matchC
  have hE : ∀ pc' ls rest, (z_matchC s a).1 ≠ 0 → ∀ h2, zc_S (z_matchC s a).2.2 h2 → zc_F h h2 → zp_k X y_Law_matchOfClass 4 pc' ls rest Q (.inr ((fun _ => 1) (z_matchC s a).1)) h2 := by
    intro pc' ls rest zz h2 s2 f2
    have hq2 := hq h2 s2 f2.G (fun q => absurd q zz)
    have hc : (z_matchC s a).1 = 1 := by omega
    rw [hc] at hq2 ⊢
    exact lw_k (j := 1) rfl hq2
  show zp_wp X y_Law_matchOfClass 0 [.ref 0, .int a, .ref 189, zm_mk] [] h Q
  refine zp_aload_n (x := 189) rfl rfl ?_
  refine zp_iconst (v := (nI 0)) rfl (by decide +kernel) ?_
  refine zp_aload_n (x := 0) rfl rfl ?_
  refine zp_iload_n (x := a) rfl rfl ?_
  refine zq_virt hS rfl rfl (by first | assumption | exact ⟨by decide, rfl⟩) rfl (s_RR_matchOfClass hs hW ⟨fun zz h2 s2 f2 => ?_, fun zz h2 s2 f2 => hE _ _ _ zz h2 s2 f2⟩)
  have hS := s2.1
  show zp_wp X y_Law_matchOfClass 7 [.ref 0, .int a, .ref 189, zm_mk] [.int ((z_matchC s a).2.1), .int (nI 0), .ref 189] h2 Q
  refine zp_i2l rfl rfl ?_
  refine zq_last hS rfl (by first | assumption | exact ⟨by decide, rfl⟩) (by omega) (by first | decide | omega) (fun hS8 => ?_)
  have hS := hS8
  refine zp_goto (tgt := 15) rfl rfl ?_
  refine zp_iconst (v := (nI 0)) rfl (by decide +kernel) ?_
  refine zp_iret rfl rfl ?_
  have hq2 := hq _ (lw_S s2 (by assumption)) (lw_G f2) (fun _ => lw_o)
  rw [zz] at hq2
  exact hq2
theorem s_Law_matchOfMember {a m : Int32} (hs : zc_S s h) (hW : zc_W s) (hq : ∀ h', zc_S (z_matchM s a m).2.2 h' → zl_G h h' → ((z_matchM s a m).1 = 0 → cj h' 189 0 = Int32.toInt64 (z_matchM s a m).2.1) → Q (.inl (some (.int (nI (z_matchM s a m).1)))) h') : zp_wm X y_Law_matchOfMember [.ref 0, .int a, .int m, .ref 189] h Q := by
  have hS := hs.1
  have hbd : (z_matchM s a m).1 ≤ 1 := zb_matchM
  have hE : ∀ pc' ls rest, (z_matchM s a m).1 ≠ 0 → ∀ h2, zc_S (z_matchM s a m).2.2 h2 → zc_F h h2 → zp_k X y_Law_matchOfMember 5 pc' ls rest Q (.inr ((fun _ => 1) (z_matchM s a m).1)) h2 := by
    intro pc' ls rest zz h2 s2 f2
    have hq2 := hq h2 s2 f2.G (fun q => absurd q zz)
    have hc : (z_matchM s a m).1 = 1 := by omega
    rw [hc] at hq2 ⊢
    exact lw_k (j := 1) rfl hq2
  show zp_wp X y_Law_matchOfMember 0 [.ref 0, .int a, .int m, .ref 189, zm_mk] [] h Q
  refine zp_aload_n (x := 189) rfl rfl ?_
  refine zp_iconst (v := (nI 0)) rfl (by decide +kernel) ?_
  refine zp_aload_n (x := 0) rfl rfl ?_
  refine zp_iload_n (x := a) rfl rfl ?_
  refine zp_iload_n (x := m) rfl rfl ?_
  refine zq_virt hS rfl rfl (by first | assumption | exact ⟨by decide, rfl⟩) rfl (s_RR_matchOfMember hs hW ⟨fun zz h2 s2 f2 => ?_, fun zz h2 s2 f2 => hE _ _ _ zz h2 s2 f2⟩)
  have hS := s2.1
  show zp_wp X y_Law_matchOfMember 8 [.ref 0, .int a, .int m, .ref 189, zm_mk] [.int ((z_matchM s a m).2.1), .int (nI 0), .ref 189] h2 Q
  refine zp_i2l rfl rfl ?_
  refine zq_last hS rfl (by first | assumption | exact ⟨by decide, rfl⟩) (by omega) (by first | decide | omega) (fun hS9 => ?_)
  have hS := hS9
  refine zp_goto (tgt := 17) rfl rfl ?_
  refine zp_iconst (v := (nI 0)) rfl (by decide +kernel) ?_
  refine zp_iret rfl rfl ?_
  have hq2 := hq _ (lw_S s2 (by assumption)) (lw_G f2) (fun _ => lw_o)
  rw [zz] at hq2
  exact hq2
theorem s_Law_replay {sel : Int32} {mend : Bool} (hs : zc_S s h) (hW : zc_W s) (hq : ∀ h', zc_S (z_replay s sel mend).2.2 h' → zl_G h h' → ((z_replay s sel mend).1 = 0 → cj h' 189 0 = Int32.toInt64 (z_replay s sel mend).2.1) → Q (.inl (some (.int (nI (z_replay s sel mend).1)))) h') : zp_wm X y_Law_replay [.ref 0, .int sel, .int (zf_b mend), .ref 189] h Q := by
  have hS := hs.1
  have hbd : (z_replay s sel mend).1 ≤ 1 := zb_replay
  have hE : ∀ pc' ls rest, (z_replay s sel mend).1 ≠ 0 → ∀ h2, zc_S (z_replay s sel mend).2.2 h2 → zc_F h h2 → zp_k X y_Law_replay 5 pc' ls rest Q (.inr ((fun _ => 1) (z_replay s sel mend).1)) h2 := by
    intro pc' ls rest zz h2 s2 f2
    have hq2 := hq h2 s2 f2.G (fun q => absurd q zz)
    have hc : (z_replay s sel mend).1 = 1 := by omega
    rw [hc] at hq2 ⊢
    exact lw_k (j := 1) rfl hq2
  show zp_wp X y_Law_replay 0 [.ref 0, .int sel, .int (zf_b mend), .ref 189, zm_mk] [] h Q
  refine zp_aload_n (x := 189) rfl rfl ?_
  refine zp_iconst (v := (nI 0)) rfl (by decide +kernel) ?_
  refine zp_aload_n (x := 0) rfl rfl ?_
  refine zp_iload_n (x := sel) rfl rfl ?_
  refine zp_iload_n (x := (zf_b mend)) rfl rfl ?_
  refine zq_virt hS rfl rfl (by first | assumption | exact ⟨by decide, rfl⟩) rfl (s_RR_replay hs hW ⟨fun zz h2 s2 f2 => ?_, fun zz h2 s2 f2 => hE _ _ _ zz h2 s2 f2⟩)
  have hS := s2.1
  show zp_wp X y_Law_replay 8 [.ref 0, .int sel, .int (zf_b mend), .ref 189, zm_mk] [.int ((z_replay s sel mend).2.1), .int (nI 0), .ref 189] h2 Q
  refine zp_i2l rfl rfl ?_
  refine zq_last hS rfl (by first | assumption | exact ⟨by decide, rfl⟩) (by omega) (by first | decide | omega) (fun hS9 => ?_)
  have hS := hS9
  refine zp_goto (tgt := 17) rfl rfl ?_
  refine zp_iconst (v := (nI 0)) rfl (by decide +kernel) ?_
  refine zp_iret rfl rfl ?_
  have hq2 := hq _ (lw_S s2 (by assumption)) (lw_G f2) (fun _ => lw_o)
  rw [zz] at hq2
  exact hq2
theorem s_Law_forecast {sel : Int32} {mend : Bool} (hs : zc_S s h) (hW : zc_W s) (hq : ∀ h', zc_S (z_forecast s sel mend).2.2 h' → zl_G h h' → ((z_forecast s sel mend).1 = 0 → cj h' 189 0 = Int32.toInt64 (z_forecast s sel mend).2.1) → Q (.inl (some (.int (nI (z_forecast s sel mend).1)))) h') : zp_wm X y_Law_forecast [.ref 0, .int sel, .int (zf_b mend), .ref 189] h Q := by
  have hS := hs.1
  have hbd : (z_forecast s sel mend).1 ≤ 1 := zb_forecast
  have hE : ∀ pc' ls rest, (z_forecast s sel mend).1 ≠ 0 → ∀ h2, zc_S (z_forecast s sel mend).2.2 h2 → zc_F h h2 → zp_k X y_Law_forecast 5 pc' ls rest Q (.inr ((fun _ => 1) (z_forecast s sel mend).1)) h2 := by
    intro pc' ls rest zz h2 s2 f2
    have hq2 := hq h2 s2 f2.G (fun q => absurd q zz)
    have hc : (z_forecast s sel mend).1 = 1 := by omega
    rw [hc] at hq2 ⊢
    exact lw_k (j := 1) rfl hq2
  show zp_wp X y_Law_forecast 0 [.ref 0, .int sel, .int (zf_b mend), .ref 189, zm_mk] [] h Q
  refine zp_aload_n (x := 189) rfl rfl ?_
  refine zp_iconst (v := (nI 0)) rfl (by decide +kernel) ?_
  refine zp_aload_n (x := 0) rfl rfl ?_
  refine zp_iload_n (x := sel) rfl rfl ?_
  refine zp_iload_n (x := (zf_b mend)) rfl rfl ?_
  refine zq_virt hS rfl rfl (by first | assumption | exact ⟨by decide, rfl⟩) rfl (s_RR_forecast hs hW ⟨fun zz h2 s2 f2 => ?_, fun zz h2 s2 f2 => hE _ _ _ zz h2 s2 f2⟩)
  have hS := s2.1
  show zp_wp X y_Law_forecast 8 [.ref 0, .int sel, .int (zf_b mend), .ref 189, zm_mk] [.int ((z_forecast s sel mend).2.1), .int (nI 0), .ref 189] h2 Q
  refine zp_i2l rfl rfl ?_
  refine zq_last hS rfl (by first | assumption | exact ⟨by decide, rfl⟩) (by omega) (by first | decide | omega) (fun hS9 => ?_)
  have hS := hS9
  refine zp_goto (tgt := 17) rfl rfl ?_
  refine zp_iconst (v := (nI 0)) rfl (by decide +kernel) ?_
  refine zp_iret rfl rfl ?_
  have hq2 := hq _ (lw_S s2 (by assumption)) (lw_G f2) (fun _ => lw_o)
  rw [zz] at hq2
  exact hq2
theorem s_Law_outcome {i : Int32} (hs : zc_S s h) (hW : zc_W s) (hq : ∀ h', zc_S (z_outcome s i).2.2 h' → zl_G h h' → ((z_outcome s i).1 = 0 → cj h' 189 0 = Int32.toInt64 (z_outcome s i).2.1) → Q (.inl (some (.int (nI (z_outcome s i).1)))) h') : zp_wm X y_Law_outcome [.ref 0, .int i, .ref 189] h Q := by
  have hS := hs.1
  have hbd : (z_outcome s i).1 ≤ 1 := zb_outcome
  have hE : ∀ pc' ls rest, (z_outcome s i).1 ≠ 0 → ∀ h2, zc_S (z_outcome s i).2.2 h2 → zc_F h h2 → zp_k X y_Law_outcome 4 pc' ls rest Q (.inr ((fun k => k - 1) (z_outcome s i).1)) h2 := by
    intro pc' ls rest zz h2 s2 f2
    have hq2 := hq h2 s2 f2.G (fun q => absurd q zz)
    have hc : (z_outcome s i).1 = 1 := by omega
    rw [hc] at hq2 ⊢
    exact lw_k (j := 1) rfl hq2
  show zp_wp X y_Law_outcome 0 [.ref 0, .int i, .ref 189, zm_mk] [] h Q
  refine zp_aload_n (x := 189) rfl rfl ?_
  refine zp_iconst (v := (nI 0)) rfl (by decide +kernel) ?_
  refine zp_aload_n (x := 0) rfl rfl ?_
  refine zp_iload_n (x := i) rfl rfl ?_
  refine zq_virt hS rfl rfl (by first | assumption | exact ⟨by decide, rfl⟩) rfl (s_RR_outcome hs hW ⟨fun zz h2 s2 f2 => ?_, fun zz h2 s2 f2 => hE _ _ _ zz h2 s2 f2⟩)
  have hS := s2.1
  show zp_wp X y_Law_outcome 7 [.ref 0, .int i, .ref 189, zm_mk] [.int ((z_outcome s i).2.1), .int (nI 0), .ref 189] h2 Q
  refine zp_i2l rfl rfl ?_
  refine zq_last hS rfl (by first | assumption | exact ⟨by decide, rfl⟩) (by omega) (by first | decide | omega) (fun hS8 => ?_)
  have hS := hS8
  refine zp_goto (tgt := 15) rfl rfl ?_
  refine zp_iconst (v := (nI 0)) rfl (by decide +kernel) ?_
  refine zp_iret rfl rfl ?_
  have hq2 := hq _ (lw_S s2 (by assumption)) (lw_G f2) (fun _ => lw_o)
  rw [zz] at hq2
  exact hq2
end ZL2
