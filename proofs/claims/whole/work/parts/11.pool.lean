/-! instructions by the pool that are no calls -/
theorem zm_cl_at {a : Nat} (h : a < 8) : zm_cl[a]? = some (zm_cn a, zm_T a, zm_N a) := by
  match a, h with
  | 0, _ => rfl
  | 1, _ => rfl
  | 2, _ => rfl
  | 3, _ => rfl
  | 4, _ => rfl
  | 5, _ => rfl
  | 6, _ => rfl
  | 7, _ => rfl
theorem zm_lay_good (C : String) (T : u_T) (N : Nat) : ∀ w ∈ u_ws C T N, goodWord w = true := by
  intro w hw
  obtain ⟨k, -, rfl⟩ := List.mem_map.mp hw
  unfold u_lay
  split <;> rfl
theorem zm_cls {a : Nat} (h : a < 8) : (∀ w ∈ u_ws (zm_cn a) (zm_T a) (zm_N a), w ∈ zm_tb) ∧ (∀ k, k < zm_N a → parseFieldDescriptor (zm_T a k).2.2.1 = some (zm_ty a k)) ∧ (∀ x, x < zm_N a → ∀ y, y < zm_N a → x ≠ y → (zm_T a x).2.1 ≠ (zm_T a y).2.1) ∧ Cond.instantiable (zm_cn a) (zm_N a) ∈ zm_tb ∧ Cond.initialized (zm_cn a) ∈ zm_tb := by
  match a, h with
  | 0, _ => exact ⟨fun w hw => zm_tb_in (zm_h0 w hw) (zm_lay_good _ _ _ w hw), zm_t0, zm_n0, zm_tb_in zm_i0 rfl, zm_tb_in zm_z0 rfl⟩
  | 1, _ => exact ⟨fun w hw => zm_tb_in (zm_h1 w hw) (zm_lay_good _ _ _ w hw), zm_t1, zm_n1, zm_tb_in zm_i1 rfl, zm_tb_in zm_z1 rfl⟩
  | 2, _ => exact ⟨fun w hw => zm_tb_in (zm_h2 w hw) (zm_lay_good _ _ _ w hw), zm_t2, zm_n2, zm_tb_in zm_i2 rfl, zm_tb_in zm_z2 rfl⟩
  | 3, _ => exact ⟨fun w hw => zm_tb_in (zm_h3 w hw) (zm_lay_good _ _ _ w hw), zm_t3, zm_n3, zm_tb_in zm_i3 rfl, zm_tb_in zm_z3 rfl⟩
  | 4, _ => exact ⟨fun w hw => zm_tb_in (zm_h4 w hw) (zm_lay_good _ _ _ w hw), zm_t4, zm_n4, zm_tb_in zm_i4 rfl, zm_tb_in zm_z4 rfl⟩
  | 5, _ => exact ⟨fun w hw => zm_tb_in (zm_h5 w hw) (zm_lay_good _ _ _ w hw), zm_t5, zm_n5, zm_tb_in zm_i5 rfl, zm_tb_in zm_z5 rfl⟩
  | 6, _ => exact ⟨fun w hw => zm_tb_in (zm_h6 w hw) (zm_lay_good _ _ _ w hw), zm_t6, zm_n6, zm_tb_in zm_i6 rfl, zm_tb_in zm_z6 rfl⟩
  | 7, _ => exact ⟨fun w hw => zm_tb_in (zm_h7 w hw) (zm_lay_good _ _ _ w hw), zm_t7, zm_n7, zm_tb_in zm_i7 rfl, zm_tb_in zm_z7 rfl⟩
theorem zm_fit_ok (b b0 : Nat) {ty : FieldType} {v : Value} (h : zm_fit ty v = true) : narrow ty (zm_tr b b0 v) = zm_tr b b0 v ∧ fits ty (zm_tr b b0 v) = true := by
  unfold zm_fit at h
  split at h
  · exact ⟨rfl, rfl⟩
  · exact ⟨rfl, rfl⟩
  · exact ⟨rfl, rfl⟩
  · cases h
theorem zm_dc_ok {y pc n : Nat} {i : Instr} (h : zm_dc y pc i n = true) : decode (zm_by y) pc = .ok (i, n) := of_decide_eq_true h
theorem zm_dv_ok (a j : Nat) (h : a < 8) (hj : j < zm_N a) : defaultValue (zm_ty a j) = zm_dv (zm_ty a j) := by
  have key : ∀ a, a < 8 → ∀ j, j < zm_N a → zm_ty a j ≠ .long ∧ zm_ty a j ≠ .float ∧ zm_ty a j ≠ .double ∧ zm_ty a j ≠ .boolean ∧ zm_ty a j ≠ .byte ∧ zm_ty a j ≠ .char ∧ zm_ty a j ≠ .short := by decide +kernel
  have := key a h j hj
  cases ht : zm_ty a j <;> simp_all [defaultValue, zm_dv]
section ZRS
variable {p : Program} {l : Launch} {e : Env} {R : Room} {s : State} {m : MethodId} {args : Array Value} {below : List Frame} {meth : Method} {c : Code} {H : Heap} {locs : List Loc} {cells slots : Nat} {Q : State → Prop}
variable {X : zm_X} {b b0 : Nat} {D : va_G} {cA : Nat → ClassId} {u0 v0 : Nat}
set_option maxHeartbeats 4000000 in
theorem zm_rs_sound {y pc pc' pc2 k idx a j : Nat} {ml st ml2 st2 : List Value} {h h2 : zm_H} {ls : Array Slot} (C : zm_cx X b b0 D cA p s m args meth c u0 y) (hok : zm_okI y (pc, .inr (k, idx, a, j), pc') = true)
    (hz : zm_rs k idx a j pc' ml st h = some (pc2, ml2, st2, h2)) (hl : zm_lr b b0 ml ls (zm_mx y)) (hw : zm_wk b b0 D cA s h H locs) (hu : cells + u0 = zm_uc h) (hv : slots + v0 = zm_us h) (hR : zm_uc h2 ≤ u0 + R.cells) (hR2 : zm_us h2 ≤ v0 + R.slots)
    (hf1 : 1 ≤ R.frames) (hf2 : 40 ≤ R.locals)
    (kk : ∀ (ls2 : Array Slot) (H2 : Heap) (locs2 : List Loc) (cells2 slots2 : Nat), cells2 + u0 = zm_uc h2 → slots2 + v0 = zm_us h2 → zm_lr b b0 ml2 ls2 (zm_mx y) → zm_wk b b0 D cA s h2 H2 locs2 → W p l e R s m args below meth c H2 locs2 cells2 slots2 Q (F0 m pc2 ls2 (st2.map (zm_tr b b0)))) :
    W p l e R s m args below meth c H locs cells slots Q (F0 m pc ls (st.map (zm_tr b b0))) := by
  obtain ⟨hx, hb, hml, hown, hts, hnm, hG, hX, hb0, hbs, hub⟩ := id C
  have hK := hG.1
  have hP := hw.1
  have hS := hw.2
  have hD := zm_ws_D b b0 cA h
  have in_i : ∀ {a n : Nat} {f : Nat → Int32}, zm_iarr h a = some (n, f) → (zm_ws b b0 cA h)[a]? = some (b + a, .inl (cA 0, n, .inl f)) := by
    intro a n f h1
    obtain ⟨h2, h3⟩ := zm_iarr_spec h1
    rw [zm_ws_at h2, h3]
    rfl
  have in_l : ∀ {a n : Nat} {f : Nat → Int64}, zm_larr h a = some (n, f) → (zm_ws b b0 cA h)[a]? = some (b + a, .inl (cA 1, n, .inr (.inl f))) := by
    intro a n f h1
    obtain ⟨h2, h3⟩ := zm_larr_spec h1
    rw [zm_ws_at h2, h3]
    rfl
  have in_o : ∀ {a : Nat} {x : Nat × List Value}, zm_obj h a = some x → (zm_ws b b0 cA h)[a]? = some (b + a, .inr (x.1, x.2.map (zm_tr b b0))) := by
    intro a x h1
    obtain ⟨h2, h3⟩ := zm_obj_spec h1
    rw [zm_ws_at h2, h3]
    rfl
  have hfull : ∀ {w : Cond}, w ∈ lw_tbl → goodWord w = true → w.before args s = true := fun h1 h2 => hts _ (zm_tb_in h1 h2)
  revert hok hz
  match k with
  | 0 =>
    intro hok hz
    simp only [zm_okI, Bool.and_eq_true, decide_eq_true_eq, Nat.blt_eq] at hok
    obtain ⟨⟨⟨⟨d1, d2⟩, d3⟩, d4⟩, d5⟩ := hok
    have d2 := Nat.eq_of_beq_eq_true d2
    subst d2
    simp only [zm_rs] at hz
    split at hz
    · rename_i q t
      split at hz
      · rename_i cc fs h1
        cases h3 : Nat.beq cc a with
        | false => rw [h3] at hz; cases hz
        | true =>
          rw [h3] at hz
          have h3 := Nat.eq_of_beq_eq_true h3
          subst h3
          simp only [cond_true] at hz
          split at hz
          · rename_i v h4
            cases hz
            exact va_get hx hb hts (zm_cls d5).1 hown hK hP q (in_o h1) (zm_cl_at d5) j d4 (hfull (zm_fl_in _ d3) rfl) (fun _ h => h) (v := zm_tr b b0 v) (by rw [List.getElem?_map, h4]; rfl) (zm_dc_ok d1) (kk ls H locs cells slots hu hv hl hw)
          · cases hz
      · cases hz
    · cases hz
  | 1 =>
    intro hok hz
    simp only [zm_okI, Bool.and_eq_true, decide_eq_true_eq, Nat.blt_eq, Bool.not_eq_true'] at hok
    obtain ⟨⟨⟨⟨⟨d1, d2⟩, d3⟩, d4⟩, d5⟩, d6⟩ := hok
    have d2 := Nat.eq_of_beq_eq_true d2
    subst d2
    simp only [zm_rs] at hz
    split at hz
    · rename_i v q t
      split at hz
      · rename_i cc fs h1
        cases h3 : (Nat.beq cc a && Nat.blt j fs.length && zm_fit (zm_ty a j) v) with
        | false => rw [h3] at hz; cases hz
        | true =>
          rw [h3] at hz
          simp only [Bool.and_eq_true, Nat.blt_eq] at h3
          obtain ⟨⟨h3, h4⟩, h5⟩ := h3
          have h3 := Nat.eq_of_beq_eq_true h3
          subst h3
          cases hz
          obtain ⟨f1, f2⟩ := zm_fit_ok b b0 h5
          obtain ⟨z1, z2, z3, z4, z5⟩ := zm_cls d5
          refine va_put hx hb hts z1 (zm_ty cc) z2 z3 hown hK hP hD hS q (in_o h1) (zm_cl_at d5) j d4 (hfull (zm_fl_in _ d3) rfl) (fun _ h => h) d6 (z2 j d4) f1 f2 (by rw [List.length_map]; exact h4) (zm_dc_ok d1) (fun H1 locs1 g1 g2 g3 => kk ls H1 locs1 cells slots hu hv hl (zm_wk_put ?_ g3))
          rw [← List.map_set] at g1
          exact g1
      · cases hz
    · cases hz
  | 2 =>
    intro hok hz
    simp only [zm_okI, Bool.and_eq_true, decide_eq_true_eq, Nat.blt_eq] at hok
    obtain ⟨⟨⟨⟨⟨⟨⟨d1, d2⟩, d3⟩, d4⟩, d5⟩, d6⟩, d7⟩, d8⟩ := hok
    have d2 := Nat.eq_of_beq_eq_true d2
    subst d2
    simp only [zm_rs] at hz
    split at hz
    · rename_i v q t
      split at hz
      · rename_i cc fs h1
        cases h3 : (Nat.beq cc a && Nat.blt j fs.length && zm_fit (zm_ty a j) v) with
        | false => rw [h3] at hz; cases hz
        | true =>
          rw [h3] at hz
          simp only [Bool.and_eq_true, Nat.blt_eq] at h3
          obtain ⟨⟨h3, h4⟩, h5⟩ := h3
          have h3 := Nat.eq_of_beq_eq_true h3
          subst h3
          cases hz
          obtain ⟨f1, f2⟩ := zm_fit_ok b b0 h5
          obtain ⟨z1, z2, z3, z4, z5⟩ := zm_cls d5
          refine va_putF hx hb hts z1 (zm_ty cc) z2 z3 hown hK hP hD hS q (in_o h1) (zm_cl_at d5) j d4 (hfull (zm_fl_in _ d3) rfl) (fun _ h => h) d6 (hnm.trans d7) d8 (z2 j d4) f1 f2 (by rw [List.length_map]; exact h4) (zm_dc_ok d1) (fun H1 locs1 g1 g2 g3 => kk ls H1 locs1 cells slots hu hv hl (zm_wk_put ?_ g3))
          rw [← List.map_set] at g1
          exact g1
      · cases hz
    · cases hz
  | 8 =>
    intro hok hz
    simp only [zm_okI, Bool.and_eq_true, decide_eq_true_eq] at hok
    obtain ⟨⟨d1, d2⟩, d3⟩ := hok
    have d2 := Nat.eq_of_beq_eq_true d2
    subst d2
    simp only [zm_rs] at hz
    split at hz
    · rename_i q t
      cases h3 : Nat.ble (zm_wd t) 8 with
      | false => rw [h3] at hz; cases hz
      | true =>
        rw [h3] at hz
        cases hz
        have h3 := Nat.le_of_ble_eq_true h3
        refine W.objInit hx hb hown (hfull (zm_ob_in _ d3) rfl) (hfull zm_obj_i rfl) (hfull zm_obj_c rfl) (g := F0 m pc ls ((Value.ref q :: st2).map (zm_tr b b0))) rfl (by rw [hml]; exact hl.1) (a := b + q) (rest := st2.map (zm_tr b b0)) rfl (zm_dc_ok d1) hf1 ?_ ?_
        · show 2 * 0 + _ + 12 ≤ _
          rw [zm_tr_sum]
          omega
        · exact kk ls H locs cells slots hu hv hl hw
    · cases hz
  | 9 =>
    intro hok hz
    simp only [zm_okI, Bool.and_eq_true, decide_eq_true_eq, Nat.blt_eq] at hok
    obtain ⟨⟨⟨d1, d2⟩, d3⟩, d4⟩ := hok
    have d2 := Nat.eq_of_beq_eq_true d2
    subst d2
    simp only [zm_rs] at hz
    cases h3 : Nat.beq h.2.2.2 0 with
    | false => rw [h3] at hz; cases hz
    | true =>
      rw [h3] at hz
      cases hz
      have h32 := Nat.eq_of_beq_eq_true h3
      refine zm_sz fun hsz => ?_
      have hH : H.size = b + h.2.1 := by
        have h1 := zm_size hP (Nat.le_trans hbs hS.1)
        unfold zm_uc at hu
        omega
      have r1 : zm_uc h + 1 ≤ u0 + R.cells := by have := hR; simp only [zm_uc, zm_new] at this ⊢; omega
      have r2 : zm_us h + zm_N a ≤ v0 + R.slots := by have := hR2; simp only [zm_us, zm_new] at this ⊢; omega
      obtain ⟨z1, z2, z3, z4, z5⟩ := zm_cls d4
      have hKn := hK.1 a _ (zm_cl_at d4)
      refine W.newcK hx hb hown (hfull (zm_ck_in _ d3) rfl) (hts _ z4) (hts _ z5) (g := F0 m pc ls (st.map (zm_tr b b0))) rfl (zm_dc_ok d1) (by omega) (by omega) hKn.2.1 hH fun H1 kC hkC e1 z9 o1 => ?_
      refine kk ls H1 locs (cells + 1) (slots + zm_N a) (by simp only [zm_uc, zm_new] at hu ⊢; omega) (by simp only [zm_us, zm_new] at hv ⊢; omega) hl (zm_wk_new hw hH (by rw [z9, hH]) (by rw [hH]; exact o1) ?_)
      refine ⟨_, zm_cl_at d4, (u_born (zm_ty a) hts z1 hKn hkC e1 z2).to (fun q hq => ?_)⟩
      have hq : q < zm_N a := hq
      rw [zm_dv_ok a q d4 hq]
      have : (((List.range (zm_N a)).map (fun j => zm_dv (zm_ty a j))).map (zm_tr b b0))[q]? = some (zm_tr b b0 (zm_dv (zm_ty a q))) := by
        rw [List.getElem?_map, List.getElem?_map, List.getElem?_range hq]
        rfl
      simp only [vp_V, List.getD_eq_getElem?_getD, this, Option.getD_some]
      cases zm_ty a q <;> rfl
  | 10 =>
    intro hok hz
    simp only [zm_okI, Bool.and_eq_true, decide_eq_true_eq] at hok
    obtain ⟨⟨d1, d2⟩, d3⟩ := hok
    have d2 := Nat.eq_of_beq_eq_true d2
    subst d2
    simp only [zm_rs] at hz
    split at hz
    · rename_i n t
      split at hz
      · cases hz
      · rename_i h3
        have h30 : ¬ n < 0 := fun q => h3 (Or.inl q)
        have h31 : n.toNatClampNeg < 10000 := Nat.not_le.mp fun q => h3 (Or.inr (Or.inl q))
        have h32 : h.2.2.2 = 0 := Decidable.not_not.mp fun q => h3 (Or.inr (Or.inr q))
        cases hz
        refine zm_sz fun hsz => ?_
        have hH : H.size = b + h.2.1 := by
          have h1 := zm_size hP (Nat.le_trans hbs hS.1)
          unfold zm_uc at hu
          omega
        have r1 : zm_uc h + 1 ≤ u0 + R.cells := by have := hR; simp only [zm_uc, zm_new] at this ⊢; omega
        have r2 : zm_us h + n.toNatClampNeg ≤ v0 + R.slots := by have := hR2; simp only [zm_us, zm_new] at this ⊢; omega
        refine W.anew hx hb hown (hfull (zm_ck_in _ d3) rfl) (va_AO.use hG.2.2.2.2.1) (g := F0 m pc ls ((Value.int n :: t).map (zm_tr b b0))) rfl (zm_dc_ok d1) (rest := t.map (zm_tr b b0)) rfl h30 (by omega) (by omega) (by omega) fun cA1 kA comp f1 f2 f3 f4 => ?_
        obtain ⟨kA9, comp9, q1, q2, q3, q4⟩ := (hK.2 2 _ rfl).2
        have hcA : cA1 = cA 2 := Option.some.inj (f1.symm.trans q4)
        subst hcA
        rw [hH]
        refine kk ls _ locs (cells + 1) (slots + n.toNatClampNeg) (by simp only [zm_uc, zm_new] at hu ⊢; omega) (by simp only [zm_us, zm_new] at hv ⊢; omega) hl (zm_wk_new hw hH (by rw [Array.size_push]) (fun q hq => by rw [Array.getElem?_push, if_neg (Nat.ne_of_lt hq)]) ?_)
        show (H.push _)[b + h.2.1]? = some (vp_cell _ _)
        rw [← hH, Array.getElem?_push_size, vp_cell_q, arrV_new]
        rfl
    · cases hz
  | 11 =>
    intro hok hz
    simp only [zm_okI, Bool.and_eq_true, decide_eq_true_eq] at hok
    obtain ⟨⟨⟨d1, d2⟩, d3⟩, d4⟩ := hok
    have d2 := Nat.eq_of_beq_eq_true d2
    subst d2
    have hn : nativeFrameWords "java/lang/System" "arraycopy" 5 = 7 := by decide +kernel
    simp only [zm_rs] at hz
    split at hz
    · rename_i n dp q1 sp q0 t
      split at hz
      · cases hz
      · rename_i h3
        have t1 : ¬ sp < 0 := fun q => h3 (Or.inl q)
        have t2 : ¬ dp < 0 := fun q => h3 (Or.inr (Or.inl q))
        have t3 : ¬ n < 0 := fun q => h3 (Or.inr (Or.inr (Or.inl q)))
        have t4 : zm_wd t ≤ 8 := Nat.not_lt.mp fun q => h3 (Or.inr (Or.inr (Or.inr q)))
        split at hz
        · rename_i n0 f n1 g h4 h5
          split at hz
          · rename_i h6
            cases hz
            exact va_copyi hx hb (by rw [hml, hl.1]) hown (hfull (zm_ac_in _ d3) rfl) (hfull zm_acp_n rfl) (hfull zm_acp_s rfl) (hfull zm_sys_i rfl) hK hP hD hS q0 q1 0 0 (in_i h4) (in_i h5) rfl rfl rfl t1 t2 t3 h6.1 h6.2 (fun i hi => rfl) hf1 (by rw [zm_tr_sum, hn]; omega) (zm_dc_ok d1)
              (fun H1 locs1 g1 g2 g3 => kk ls H1 locs1 cells slots hu hv hl (zm_wk_put g1 g3))
          · cases hz
        · split at hz
          · rename_i n0 f n1 g h4 h5
            split at hz
            · rename_i h6
              cases hz
              exact va_copyl hx hb (by rw [hml, hl.1]) hown (hfull (zm_ac_in _ d3) rfl) (hfull zm_acp_n rfl) (hfull zm_acp_s rfl) (hfull zm_sys_i rfl) hK hP hD hS q0 q1 1 1 (in_l h4) (in_l h5) rfl rfl rfl t1 t2 t3 h6.1 h6.2 (fun i hi => rfl) hf1 (by rw [zm_tr_sum, hn]; omega) (zm_dc_ok d1)
                (fun H1 locs1 g1 g2 g3 => kk ls H1 locs1 cells slots hu hv hl (zm_wk_put g1 g3))
            · cases hz
          · cases hz
    · cases hz
  | 13 =>
    intro hok hz
    simp only [zm_okI, Bool.and_eq_true, decide_eq_true_eq] at hok
    obtain ⟨⟨d1, d2⟩, d3⟩ := hok
    have d2 := Nat.eq_of_beq_eq_true d2
    subst d2
    cases hz
    exact lv_ldcw hx hb hown (hfull (zm_ic_in _ d3) rfl) (zm_dc_ok d1) (kk ls H locs cells slots hu hv hl hw)
  | 14 =>
    intro hok hz
    simp only [zm_okI, Bool.and_eq_true, decide_eq_true_eq] at hok
    obtain ⟨⟨d1, d2⟩, d3⟩ := hok
    have d2 := Nat.eq_of_beq_eq_true d2
    subst d2
    cases hz
    exact lv_ldc2 hx hb hown (hfull (zm_lc_in _ d3) rfl) (zm_dc_ok d1) (kk ls H locs cells slots hu hv hl hw)
  | 16 =>
    intro hok hz
    simp only [zm_okI, Bool.and_eq_true, decide_eq_true_eq, Nat.blt_eq] at hok
    obtain ⟨⟨⟨⟨d1, d2⟩, d3⟩, d4⟩, d5⟩ := hok
    have d2 := Nat.eq_of_beq_eq_true d2
    subst d2
    simp only [zm_rs] at hz
    split at hz
    · rename_i y1 x1 t
      cases h3 : Nat.ble (zm_wd t) 8 with
      | false => rw [h3] at hz; cases hz
      | true =>
        rw [h3] at hz
        cases hz
        have h3 := Nat.le_of_ble_eq_true h3
        have k9 := kk ls H locs cells slots hu hv hl hw
        match a, d4, d3, k9 with
        | 0, _, d3, k9 => exact va_mmax hx hb (by rw [hml, hl.1]) hown (hfull (zm_mm_in _ d3) rfl) (hfull zm_max_s rfl) (hfull zm_math_i rfl) (hfull zm_max_c rfl) hf1 (by rw [zm_tr_sum]; omega) (by omega) (by omega) (zm_dc_ok d1) k9
        | 1, _, d3, k9 => exact va_mmin hx hb (by rw [hml, hl.1]) hown (hfull (zm_mm_in _ d3) rfl) (hfull zm_min_s rfl) (hfull zm_math_i rfl) (hfull zm_min_c rfl) hf1 (by rw [zm_tr_sum]; omega) (by omega) (by omega) (zm_dc_ok d1) k9
    · cases hz
  | 3 => intro _ hz; simp [zm_rs] at hz
  | 4 => intro _ hz; simp [zm_rs] at hz
  | 5 => intro _ hz; simp [zm_rs] at hz
  | 6 => intro _ hz; simp [zm_rs] at hz
  | 7 => intro _ hz; simp [zm_rs] at hz
  | 12 => intro _ hz; simp [zm_rs] at hz
  | 15 => intro _ hz; simp [zm_rs] at hz
  | n + 17 => intro _ hz; simp [zm_rs] at hz
end ZRS
