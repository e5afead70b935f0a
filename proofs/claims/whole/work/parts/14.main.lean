/-! calls of every kind, and the theorem -/
theorem zm_cal_spec {k a y : Nat} {st as rest : List Value} {h : zm_H} (hz : zm_cal k a y st h = some (as, rest)) : zm_lv a < zm_lv y ∧ a < zm_nM ∧ zm_wd rest ≤ 8 ∧ (zm_exp as).length ≤ zm_mx a ∧
    (((k = 3 ∨ k = 4 ∨ k = 15) ∧ as.length = zm_ar a ∧ st = as.reverse ++ rest) ∨ (k = 5 ∧ ∃ r ps fs, as = .ref r :: ps ∧ ps.length = zm_ar a ∧ st = ps.reverse ++ .ref r :: rest ∧ zm_obj h r = some (zm_own a, fs)) ∨
      ((k = 6 ∨ k = 7) ∧ ∃ r ps, as = .ref r :: ps ∧ ps.length = zm_ar a ∧ st = ps.reverse ++ .ref r :: rest)) := by
  unfold zm_cal at hz
  cases hc : (Nat.blt (zm_lv a) (zm_lv y) && Nat.blt a zm_nM) with
  | false => rw [hc] at hz; cases hz
  | true =>
    rw [hc] at hz
    simp only [Bool.and_eq_true, Nat.blt_eq] at hc
    simp only [cond_true] at hz
    have stat : ∀ (hk : k = 3 ∨ k = 4 ∨ k = 15), (match zm_pop (zm_ar a) [] st with
      | some (as, rest) => cond (Nat.ble (zm_wd rest) 8 && Nat.ble (zm_exp as).length (zm_mx a)) (some (as, rest)) none
      | none => none) = some (as, rest) → zm_lv a < zm_lv y ∧ a < zm_nM ∧ zm_wd rest ≤ 8 ∧ (zm_exp as).length ≤ zm_mx a ∧
    (((k = 3 ∨ k = 4 ∨ k = 15) ∧ as.length = zm_ar a ∧ st = as.reverse ++ rest) ∨ (k = 5 ∧ ∃ r ps fs, as = .ref r :: ps ∧ ps.length = zm_ar a ∧ st = ps.reverse ++ .ref r :: rest ∧ zm_obj h r = some (zm_own a, fs)) ∨
      ((k = 6 ∨ k = 7) ∧ ∃ r ps, as = .ref r :: ps ∧ ps.length = zm_ar a ∧ st = ps.reverse ++ .ref r :: rest)) := by
      intro hk hz
      split at hz
      · rename_i as1 rest1 hp
        cases hb : (Nat.ble (zm_wd rest1) 8 && Nat.ble (zm_exp as1).length (zm_mx a)) with
        | false => rw [hb] at hz; cases hz
        | true =>
          rw [hb] at hz
          cases hz
          rw [Bool.and_eq_true] at hb
          obtain ⟨ps, e1, e2, e3⟩ := zm_pop_spec _ _ _ _ _ hp
          rw [List.append_nil] at e1
          subst e1
          exact ⟨hc.1, hc.2, Nat.le_of_ble_eq_true hb.1, Nat.le_of_ble_eq_true hb.2, Or.inl ⟨hk, e2, e3⟩⟩
      · cases hz
    have spec : ∀ (hk : k = 6 ∨ k = 7), (match zm_pop (zm_ar a) [] st with
      | some (as, .ref r :: rest) => cond (Nat.ble (zm_wd rest) 8 && Nat.ble (zm_exp (.ref r :: as)).length (zm_mx a)) (some (.ref r :: as, rest)) none
      | _ => none) = some (as, rest) → zm_lv a < zm_lv y ∧ a < zm_nM ∧ zm_wd rest ≤ 8 ∧ (zm_exp as).length ≤ zm_mx a ∧
    (((k = 3 ∨ k = 4 ∨ k = 15) ∧ as.length = zm_ar a ∧ st = as.reverse ++ rest) ∨ (k = 5 ∧ ∃ r ps fs, as = .ref r :: ps ∧ ps.length = zm_ar a ∧ st = ps.reverse ++ .ref r :: rest ∧ zm_obj h r = some (zm_own a, fs)) ∨
      ((k = 6 ∨ k = 7) ∧ ∃ r ps, as = .ref r :: ps ∧ ps.length = zm_ar a ∧ st = ps.reverse ++ .ref r :: rest)) := by
      intro hk hz
      split at hz
      · rename_i as1 r1 rest1 hp
        cases hb : (Nat.ble (zm_wd rest1) 8 && Nat.ble (zm_exp (.ref r1 :: as1)).length (zm_mx a)) with
        | false => rw [hb] at hz; cases hz
        | true =>
          rw [hb] at hz
          cases hz
          rw [Bool.and_eq_true] at hb
          obtain ⟨ps, e1, e2, e3⟩ := zm_pop_spec _ _ _ _ _ hp
          rw [List.append_nil] at e1
          subst e1
          exact ⟨hc.1, hc.2, Nat.le_of_ble_eq_true hb.1, Nat.le_of_ble_eq_true hb.2, Or.inr (Or.inr ⟨hk, _, _, rfl, e2, e3⟩)⟩
      · cases hz
    split at hz
    · exact stat (Or.inl rfl) hz
    · exact stat (Or.inr (Or.inl rfl)) hz
    · exact stat (Or.inr (Or.inr rfl)) hz
    · split at hz
      · rename_i as1 r1 rest1 hp
        split at hz
        · rename_i c1 fs1 ho
          cases hb : (Nat.beq c1 (zm_own a) && Nat.ble (zm_wd rest1) 8 && Nat.ble (zm_exp (.ref r1 :: as1)).length (zm_mx a)) with
          | false => rw [hb] at hz; cases hz
          | true =>
            rw [hb] at hz
            cases hz
            simp only [Bool.and_eq_true] at hb
            obtain ⟨ps, e1, e2, e3⟩ := zm_pop_spec _ _ _ _ _ hp
            rw [List.append_nil] at e1
            subst e1
            have e4 := Nat.eq_of_beq_eq_true hb.1.1
            rw [e4] at ho
            exact ⟨hc.1, hc.2, Nat.le_of_ble_eq_true hb.1.2, Nat.le_of_ble_eq_true hb.2, Or.inr (Or.inl ⟨rfl, _, _, _, rfl, e2, e3, ho⟩)⟩
        · cases hz
      · cases hz
    · exact spec (Or.inl rfl) hz
    · exact spec (Or.inr rfl) hz
    · cases hz
theorem zm_ret_len {i : Instr} {rt : Option FieldType} {st : List Value} {v : Option Value} (h : zm_ret i rt st = some v) : zm_len i = 1 := by
  cases i <;> first | rfl | (simp [zm_ret] at h; done)
section ZMN
variable {p : Program} {l : Launch} {e : Env} {R : Room} {s : State} {m : MethodId} {args : Array Value} {below : List Frame} {meth : Method} {c : Code} {H : Heap} {locs : List Loc} {cells slots : Nat} {Q : State → Prop}
variable {X : zm_X} {b b0 : Nat} {D : va_G} {cA : Nat → ClassId} {u0 v0 : Nat}
theorem zm_words {a : Nat} (ha : a < zm_nM) (hts : ∀ w ∈ zm_tb, w.before args s = true) : ∀ w ∈ zm_cw a :: zm_tb, ∀ (a' : Array Value) (U : State), s.WarmedH U.vm → w.before a' U = true := by
  intro w hw a' U hW
  have h1 : w ∈ zm_tb := by
    rcases List.mem_cons.mp hw with rfl | h
    · exact (zm_wfacts ha).1
    · exact h
  exact word_at hW (good_of_word (List.mem_filter.mp h1).2) (hts w h1)
theorem zm_sig {a : Nat} (ha : a < zm_nM) : ∀ sig, parseMethodDescriptor (zm_nm a).desc = some sig → zm_ar a = sig.parameters.length := by
  intro sig hs
  have h2 := (zm_facts ha).2.2.2.2.1
  rw [hs] at h2
  exact (Option.some.inj h2).symm
theorem zm_cwc {a : Nat} (h : zm_kd a ≠ 3) : zm_cw a = .code (zm_nm a) (zm_by a) (zm_mx a) (zm_rt a) := by
  unfold zm_cw
  cases h9 : Nat.beq (zm_kd a) 3 with
  | true => exact absurd (Nat.eq_of_beq_eq_true h9) h
  | false => rfl
theorem zm_pre {as : List Value} {h : zm_H} {y : Nat} (C : zm_cx X b b0 D cA p s m args meth c u0 y) (hZ : zm_Z b s) (hw : zm_wk b b0 D cA s h H locs) (hu : cells + u0 = zm_uc h) (hsz : H.size ≤ s.heap.size + cells) : ∀ U : State, U.heap = H → s.WarmedH U.vm → zm_Pc X b b0 D cA as h (as.map (zm_tr b b0)).toArray U := by
  obtain ⟨hx, hb, hml, hown, hts, hnm, hG, hX, hb0, hbs, hub⟩ := C
  obtain ⟨hP, hS⟩ := hw
  intro U hU hW
  refine ⟨rfl, zm_G.moved hW hG, ?_, hb0, by rw [hU]; exact Nat.le_trans hbs hS.1, by rw [hU]; omega, by rw [hU]; exact hP, ?_, ?_⟩
  · rw [hU]
    exact (hX.kept (hS.2.1 b0 (Nat.lt_of_lt_of_le hb0 hbs) (Nat.not_le.mpr hb0))).moved hW.alike
  · rw [hU]
    exact vx_Zq.moved hW.alike (hZ.1.kept hS.2.1)
  · rw [hU]
    exact vx_Zq.moved hW.alike (hZ.2.kept hS.2.1)
set_option maxHeartbeats 2000000 in
theorem zm_call_run {n y k a idx j pc pc' : Nat} {st as rest ml : List Value} {h h2 : zm_H} {r2 : zm_O} {ls : Array Slot} (hC : zm_Cn l X b b0 D cA n) (C : zm_cx X b b0 D cA p s m args meth c u0 y) (hZ : zm_Z b s) (hok : zm_okI y (pc, .inr (k, idx, a, j), pc') = true) (hcal : zm_cal k a y st h = some (as, rest)) (hrun : zm_run X n a 0 (zm_ent as (zm_mx a)) [] h = some (r2, h2))
    (hl : zm_lr b b0 ml ls (zm_mx y)) (hw : zm_wk b b0 D cA s h H locs) (hu : cells + u0 = zm_uc h) (hv : slots + v0 = zm_us h) (hR : zm_uc h2 ≤ u0 + R.cells) (hR2 : zm_us h2 ≤ v0 + R.slots) (hlv : zm_lv y ≤ R.frames) (hlo : 40 * zm_lv y ≤ R.locals) (hsz : H.size ≤ s.heap.size + cells) :
    pc' = pc + 3 ∧ vx_Run p l e R s m args below meth c H locs cells slots (zm_uc h2 - zm_uc h) (zm_us h2 - zm_us h) (F0 m pc ls (st.map (zm_tr b b0))) (rest.map (zm_tr b b0)) (zm_Qc b b0 D cA r2 h2 (as.map (zm_tr b b0)).toArray) (zm_XC b b0 D cA r2 h2) (zm_A b) := by
  obtain ⟨hx, hb, hml, hown, hts, hnm, hG, hX, hb0, hbs, hub⟩ := id C
  obtain ⟨c1, c2, c3, c4, c5⟩ := zm_cal_spec hcal
  obtain ⟨f1, f2, f3, f4, f5, f6, f7, f8, f9⟩ := zm_facts c2
  obtain ⟨w1, w2, w3, w4⟩ := zm_wfacts c2
  have hM := hC a as h r2 h2 c2 c4 hrun
  have hm := zm_mono _ _ _ _ _ _ _ _ hrun
  have hP := hw.1
  have S : CallFix p m c (zm_by y) (zm_mx y) s args zm_tb (zm_cn (zm_own y)) := ⟨hx, hb, hml, hown, hts⟩
  have hfit : cells + (zm_uc h2 - zm_uc h) ≤ R.cells ∧ slots + (zm_us h2 - zm_us h) ≤ R.slots := by omega
  have hfr : zm_lv a + 1 ≤ R.frames := by omega
  have hlc : 8 + (zm_mx a + 11) + 40 * zm_lv a ≤ R.locals := by omega
  have hW9 : 2 * (F0 m pc ls (st.map (zm_tr b b0))).monitorRoom + ((rest.map (zm_tr b b0)).map fun v => v.category).sum ≤ 8 := lv_room (by rw [zm_tr_sum]; exact c3)
  have hpre := zm_pre (as := as) C hZ hw hu hsz
  have hwords := zm_words (args := args) (s := s) c2 hts
  have hsig := zm_sig c2
  have hlen9 : (as.map (zm_tr b b0)).length = as.length := List.length_map _
  rcases c5 with ⟨hk, e1, e2⟩ | ⟨rfl, r, ps, fs, rfl, e1, e2, e3⟩ | ⟨hk, r, ps, rfl, e1, e2⟩
  · have hstk : (F0 m pc ls (st.map (zm_tr b b0))).stack = (as.map (zm_tr b b0)).reverse ++ rest.map (zm_tr b b0) := by
      show st.map (zm_tr b b0) = _
      rw [e2, List.map_append, List.map_reverse]
    rcases hk with rfl | rfl | rfl
    · simp only [zm_okI, Bool.and_eq_true, decide_eq_true_eq] at hok
      obtain ⟨⟨⟨d1, d2⟩, d3⟩, d4⟩ := hok
      have d4 := Nat.eq_of_beq_eq_true d4
      refine ⟨Nat.eq_of_beq_eq_true d2, ?_⟩
      have hlink : (Cond.methodLink (zm_cn (zm_own y)) idx (zm_nm a)).before args s = true := hts (.methodLink (zm_cn (zm_own y)) idx (zm_nm a)) (zm_tb_in (zm_ml_in (zm_own y, idx, a) d3) rfl)
      have hc1 : zm_cw a ∈ zm_cw a :: zm_tb := List.mem_cons_self
      have hc2 := hts _ w1
      have hcw := zm_cwc (a := a) (by rw [d4]; decide)
      have hst : (Cond.static (zm_nm a)).before args s = true := by
        have h9 := hts _ w3
        unfold zm_kw at h9
        rw [d4] at h9
        exact h9
      exact vx_runS S hM ⟨⟨rfl, rfl, hfr, hlc, hwords, List.mem_cons.mpr (Or.inl hcw.symm), hcw ▸ hc2, hts _ w2, f4, hsig, hlink⟩, hst⟩ ⟨zm_blind, hpre⟩ rfl (by rw [hlen9]; exact e1) hl.1 hstk hW9 (zm_dc_ok d1) hfit
    · simp only [zm_okI, Bool.and_eq_true, decide_eq_true_eq] at hok
      obtain ⟨⟨⟨d1, d2⟩, d3⟩, d4⟩ := hok
      have d4 := Nat.eq_of_beq_eq_true d4
      refine ⟨Nat.eq_of_beq_eq_true d2, ?_⟩
      have hlink : (Cond.methodLinkNest (zm_cn (zm_own y)) idx (zm_nm a) "RefactoringReplay").before args s = true := va_Nw.use (w := .methodLinkNest (zm_cn (zm_own y)) idx (zm_nm a) "RefactoringReplay") rfl (hG.2.1 (zm_own y, idx, a) d3)
      have hc1 : zm_cw a ∈ zm_cw a :: zm_tb := List.mem_cons_self
      have hc2 := hts _ w1
      have hcw := zm_cwc (a := a) (by rw [d4]; decide)
      have hst : (Cond.static (zm_nm a)).before args s = true := by
        have h9 := hts _ w3
        unfold zm_kw at h9
        rw [d4] at h9
        exact h9
      exact vx_runSN S hM ⟨⟨⟨rfl, rfl, hfr, hlc, hwords, List.mem_cons.mpr (Or.inl hcw.symm)⟩, hcw ▸ hc2, hts _ w2, f4, hsig, hlink⟩, hst, trivial⟩ ⟨zm_blind, hpre⟩ rfl (by rw [hlen9]; exact e1) hl.1 hstk hW9 (zm_dc_ok d1) hfit
    · simp only [zm_okI, Bool.and_eq_true, decide_eq_true_eq] at hok
      obtain ⟨⟨⟨d1, d2⟩, d3⟩, d4⟩ := hok
      have d4 := Nat.eq_of_beq_eq_true d4
      refine ⟨Nat.eq_of_beq_eq_true d2, ?_⟩
      have hlink : (Cond.methodLink (zm_cn (zm_own y)) idx (zm_nm a)).before args s = true := hts (.methodLink (zm_cn (zm_own y)) idx (zm_nm a)) (zm_tb_in (zm_ml_in (zm_own y, idx, a) d3) rfl)
      have hc1 : zm_cw a ∈ zm_cw a :: zm_tb := List.mem_cons_self
      have hc2 := hts _ w1
      have hcw : zm_cw a = .codeWith (zm_nm a) (zm_by a) (zm_mx a) (zm_rt a) (zm_hh a) := by
        unfold zm_cw
        rw [d4]
        rfl
      have hst : (Cond.static (zm_nm a)).before args s = true := by
        have h9 := hts _ w3
        unfold zm_kw at h9
        rw [d4] at h9
        exact h9
      exact vx_runSX (hh := zm_hh a) S hM ⟨⟨rfl, rfl, hfr, hlc, hwords, List.mem_cons.mpr (Or.inl hcw.symm)⟩, hcw ▸ hc2, hts _ w2, f4, hsig, hlink, hst⟩ ⟨zm_blind, hpre⟩ rfl (by rw [hlen9]; exact e1) hl.1 hstk hW9 (zm_dc_ok d1) hfit
  · have hstk : (F0 m pc ls (st.map (zm_tr b b0))).stack = (ps.map (zm_tr b b0)).reverse ++ .ref (b + r) :: rest.map (zm_tr b b0) := by
      show st.map (zm_tr b b0) = _
      rw [e2, List.map_append, List.map_reverse]
      rfl
    simp only [zm_okI, Bool.and_eq_true, decide_eq_true_eq, Nat.blt_eq] at hok
    obtain ⟨⟨⟨⟨d1, d2⟩, d3⟩, d4⟩, d5⟩ := hok
    have d4 := Nat.eq_of_beq_eq_true d4
    refine ⟨Nat.eq_of_beq_eq_true d2, ?_⟩
    have hlink : (Cond.methodLink (zm_cn (zm_own y)) idx (zm_nm a)).before args s = true := hts (.methodLink (zm_cn (zm_own y)) idx (zm_nm a)) (zm_tb_in (zm_ml_in (zm_own y, idx, a) d3) rfl)
    have hc1 : zm_cw a ∈ zm_cw a :: zm_tb := List.mem_cons_self
    have hc2 := hts _ w1
    have hcw := zm_cwc (a := a) (by rw [d4]; decide)
    have hin : (Cond.instanceMethod (zm_nm a)).before args s = true := by
      have h9 := hts _ w3
      unfold zm_kw at h9
      rw [d4] at h9
      exact h9
    obtain ⟨o1, o2⟩ := zm_obj_spec e3
    have hat : (zm_ws b b0 cA h)[r]? = some (b + r, .inr (zm_own a, fs.map (zm_tr b b0))) := by rw [zm_ws_at o1, o2]; rfl
    have hrecv := va_recv hG.1 hP (zm_cl_at d5) hat
    exact vx_runV (C := (zm_nm a).cls) S hM ⟨⟨rfl, rfl, hfr, hlc, hwords, List.mem_cons.mpr (Or.inl hcw.symm), hcw ▸ hc2, hts _ w2, f4, hsig, hlink⟩, hin, hts _ (w4 d4)⟩ ⟨zm_blind, hrecv, hpre⟩ rfl (by rw [List.length_map]; exact e1) hl.1 hstk hW9 (zm_dc_ok d1) hfit
  · have hstk : (F0 m pc ls (st.map (zm_tr b b0))).stack = (ps.map (zm_tr b b0)).reverse ++ .ref (b + r) :: rest.map (zm_tr b b0) := by
      show st.map (zm_tr b b0) = _
      rw [e2, List.map_append, List.map_reverse]
      rfl
    rcases hk with rfl | rfl
    · simp only [zm_okI, Bool.and_eq_true, decide_eq_true_eq] at hok
      obtain ⟨⟨⟨d1, d2⟩, d3⟩, d4⟩ := hok
      have d4 := Nat.eq_of_beq_eq_true d4
      refine ⟨Nat.eq_of_beq_eq_true d2, ?_⟩
      have hlink : (Cond.methodLink (zm_cn (zm_own y)) idx (zm_nm a)).before args s = true := hts (.methodLink (zm_cn (zm_own y)) idx (zm_nm a)) (zm_tb_in (zm_ml_in (zm_own y, idx, a) d3) rfl)
      have hc1 : zm_cw a ∈ zm_cw a :: zm_tb := List.mem_cons_self
      have hc2 := hts _ w1
      have hcw := zm_cwc (a := a) (by rw [d4]; decide)
      obtain ⟨g1, g2⟩ := f9 d4
      have hin : (Cond.instanceMethod (zm_nm a)).before args s = true := by
        have h9 := hts _ w3
        unfold zm_kw at h9
        rw [d4] at h9
        exact h9
      rw [g2] at hcw
      exact vx_runI S hM ⟨⟨rfl, rfl, hfr, hlc, hwords, List.mem_cons.mpr (Or.inl hcw.symm), hcw ▸ hc2, hts _ w2, f4, hsig, hlink⟩, g1, hin⟩ ⟨zm_blind, hpre⟩ rfl (by rw [List.length_map]; exact e1) hl.1 hstk hW9 (zm_dc_ok d1) hfit
    · simp only [zm_okI, Bool.and_eq_true, decide_eq_true_eq] at hok
      obtain ⟨⟨⟨d1, d2⟩, d3⟩, d4⟩ := hok
      have d4 := Nat.eq_of_beq_eq_true d4
      refine ⟨Nat.eq_of_beq_eq_true d2, ?_⟩
      have hlink : (Cond.methodLinkNest (zm_cn (zm_own y)) idx (zm_nm a) "RefactoringReplay").before args s = true := va_Nw.use (w := .methodLinkNest (zm_cn (zm_own y)) idx (zm_nm a) "RefactoringReplay") rfl (hG.2.1 (zm_own y, idx, a) d3)
      have hc1 : zm_cw a ∈ zm_cw a :: zm_tb := List.mem_cons_self
      have hc2 := hts _ w1
      have hcw := zm_cwc (a := a) (by rw [d4]; decide)
      obtain ⟨g1, g2⟩ := f9 d4
      have hin : (Cond.instanceMethod (zm_nm a)).before args s = true := by
        have h9 := hts _ w3
        unfold zm_kw at h9
        rw [d4] at h9
        exact h9
      rw [g2] at hcw
      exact vx_runIN S hM ⟨⟨⟨rfl, rfl, hfr, hlc, hwords, List.mem_cons.mpr (Or.inl hcw.symm)⟩, hcw ▸ hc2, hts _ w2, f4, hsig, hlink⟩, g1, hin⟩ ⟨zm_blind, hpre⟩ rfl (by rw [List.length_map]; exact e1) hl.1 hstk hW9 (zm_dc_ok d1) hfit
end ZMN
set_option maxHeartbeats 2000000 in
/-- THE RUNS OF THE SMALL MACHINE ARE RUNS OF THE REAL ONE -/
theorem zm_sound {l : Launch} {X : zm_X} {b b0 : Nat} {D : va_G} {cA : Nat → ClassId} (hltr : l.stackTraces = false) : ∀ n, zm_Fr l X b b0 D cA n := by
  intro n
  induction n with
  | zero => intro y pc ml st h r h' hrun; cases hrun
  | succ n ih =>
    have hC := zm_C_of_F ih
    intro y pc ml st h r h' hrun hok hokh hh p e R s m args below meth c H locs cells slots u0 v0 ls C hr hlocks hht hZ hl hw hu hv hR hR2 hlv hlo h1
    rcases zm_run_cases hrun with ⟨i, pc', v, hlk, hret, rfl, rfl⟩ | ⟨i, pc', pc2, ml2, st2, h2, hlk, hs, hr2⟩ | ⟨k, idx, a, j, pc', as, rest, r2, h2, hlk, hcal, hr2, hx⟩ | ⟨idx, a, j, pc', hlk, hwd, rfl, rfl⟩ | ⟨k, idx, a, j, pc', pc2, ml2, st2, h2, hlk, hs, hr2⟩
    · have hI := zm_lk_ok hok hlk
      simp only [zm_okI, Bool.and_eq_true, Bool.or_eq_true] at hI
      have hlen := zm_ret_len hret
      have hd := zm_dc_ok hI.1
      rw [hlen] at hI
      rcases hI.2 with h9 | h9
      · have h9 := Nat.eq_of_beq_eq_true h9
        rw [h9, Nat.add_sub_cancel_left] at hd
        exact zm_ret_sound C hr hlocks hd hret hw (by omega) (by omega)
      · cases h9
    · have hI := zm_lk_ok hok hlk
      simp only [zm_okI, Bool.and_eq_true, Bool.or_eq_true] at hI
      have hm := zm_mono _ _ _ _ _ _ _ _ hr2
      refine zm_st_sound (v0 := v0) C (zm_dc_ok hI.1) (hI.2.imp Nat.eq_of_beq_eq_true Nat.eq_of_beq_eq_true) hs hl hw hu hv (by omega) (by omega) (fun ls2 H2 locs2 c2 s2 e1 e2 hl2 hw2 => ?_)
      exact ih y pc2 ml2 st2 h2 r h' hr2 hok hokh hh p e R s m args below meth c H2 locs2 c2 s2 u0 v0 ls2 C hr hlocks hht hZ hl2 hw2 e1 e2 hR hR2 hlv hlo h1
    · have hI := zm_lk_ok hok hlk
      have hm := zm_mono _ _ _ _ _ _ _ _ hr2
      have hm3 : zm_uc h2 ≤ zm_uc h' ∧ zm_us h2 ≤ zm_us h' := by
        rcases hx with ⟨v, -, hr3⟩ | ⟨E, -, rfl, -⟩
        · exact zm_mono _ _ _ _ _ _ _ _ hr3
        · exact ⟨Nat.le_refl _, Nat.le_refl _⟩
      refine zm_sz fun hsz => ?_
      obtain ⟨rfl, hrn⟩ := zm_call_run (R := R) (e := e) (below := below) (v0 := v0) hC C hZ hI hcal hr2 hl hw hu hv (by omega) (by omega) hlv hlo hsz
      refine zm_after hrn hw.2 (fun v hv9 H1 locs1 hP1 hS1 => ?_) (fun k9 hk9 hk3 q ce H1 locs1 hP1 hS1 hce hcv hcl => ?_)
      · rcases hx with ⟨v2, e9, hr3⟩ | ⟨E, e9, -⟩
        · cases e9.symm.trans hv9
          have e8 : (v.map (zm_tr b b0)).toList ++ rest.map (zm_tr b b0) = (v.toList ++ rest).map (zm_tr b b0) := by cases v <;> rfl
          rw [e8]
          exact ih y (pc + 3) ml (v.toList ++ rest) h2 r h' hr3 hok hokh hh p e R s m args below meth c H1 locs1 _ _ u0 v0 ls C hr hlocks hht hZ hl ⟨hP1, hS1⟩ (by omega) (by omega) hR hR2 hlv hlo h1
        · cases e9.symm.trans hv9
      · rcases hx with ⟨v2, e9, hr3⟩ | ⟨E, e9, rfl, hx⟩
        · cases e9.symm.trans hk9
        · cases e9.symm.trans hk9
          rcases hx with ⟨q0, hcat, rfl⟩ | ⟨hcat, rfl⟩
          · have hkd : zm_kd y = 3 := by
              rcases hh with h9 | h9
              · exact h9
              · rw [h9.1] at hcat; cases hcat
            exact zm_catch_sound C hr hlocks hht hokh hkd hk3 hcat hl hP1 hS1 hce hcv hcl (by omega) (by omega)
          · exact zm_out_sound C hlocks hht hokh hh hk3 hcat hP1 hS1 hce hcv hcl (by omega) (by omega)
    · have hI := zm_lk_ok hok hlk
      have r1 : zm_uc h + 1 ≤ u0 + R.cells := by have := hR; simp only [zm_uc] at this ⊢; omega
      have r2 : zm_us h + 6 ≤ v0 + R.slots := by have := hR2; simp only [zm_us] at this ⊢; omega
      exact zm_throw_sound hltr C hlocks hh hht hokh hZ hI hwd hl hw hu hv r1 r2 hlv hlo
    · have hI := zm_lk_ok hok hlk
      have hm := zm_mono _ _ _ _ _ _ _ _ hr2
      refine zm_rs_sound (v0 := v0) C hI hs hl hw hu hv (by omega) (by omega) (by omega) (by omega) (fun ls2 H2 locs2 c2 s2 e1 e2 hl2 hw2 => ?_)
      exact ih y pc2 ml2 st2 h2 r h' hr2 hok hokh hh p e R s m args below meth c H2 locs2 c2 s2 u0 v0 ls2 C hr hlocks hht hZ hl2 hw2 e1 e2 hR hR2 hlv hlo h1
