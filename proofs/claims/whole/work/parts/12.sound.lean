/-! the runs of the small machine are runs of the real one -/
theorem zm_run_cases {X : zm_X} {n y pc : Nat} {ml st : List Value} {h h' : zm_H} {r : zm_O} (hrun : zm_run X (n + 1) y pc ml st h = some (r, h')) :
    (∃ i pc' v, zm_lk (zm_cd y) pc = some (.inl i, pc') ∧ zm_ret i (zm_rt y) st = some v ∧ r = .inl v ∧ h' = h) ∨
    (∃ i pc' pc2 ml2 st2 h2, zm_lk (zm_cd y) pc = some (.inl i, pc') ∧ zm_st X i pc pc' ml st h = some (pc2, ml2, st2, h2) ∧ zm_run X n y pc2 ml2 st2 h2 = some (r, h')) ∨
    (∃ k idx a j pc' as rest r2 h2, zm_lk (zm_cd y) pc = some (.inr (k, idx, a, j), pc') ∧ zm_cal k a y st h = some (as, rest) ∧ zm_run X n a 0 (zm_ent as (zm_mx a)) [] h = some (r2, h2) ∧
      ((∃ v, r2 = .inl v ∧ zm_run X n y pc' ml (v.toList ++ rest) h2 = some (r, h')) ∨ (∃ E, r2 = .inr E ∧ h' = h2 ∧ ((∃ q, zm_cat (zm_hd y) pc E = some q ∧ r = .inl (some (.int (Int32.ofNat q)))) ∨ (zm_cat (zm_hd y) pc E = none ∧ r = .inr E))))) ∨
    (∃ idx a j pc', zm_lk (zm_cd y) pc = some (.inr (12, idx, a, j), pc') ∧ zm_wd st ≤ 8 ∧ r = .inr a ∧ h' = (h.1, h.2.1, h.2.2.1 + 6, h.2.2.2 + 1)) ∨
    (∃ k idx a j pc' pc2 ml2 st2 h2, zm_lk (zm_cd y) pc = some (.inr (k, idx, a, j), pc') ∧ zm_rs k idx a j pc' ml st h = some (pc2, ml2, st2, h2) ∧ zm_run X n y pc2 ml2 st2 h2 = some (r, h')) := by
  rw [zm_run] at hrun
  split at hrun
  · cases hrun
  · rename_i i pc' hlk
    split at hrun
    · rename_i v hv
      cases hrun
      exact Or.inl ⟨i, pc', v, hlk, hv, rfl, rfl⟩
    · split at hrun
      · cases hrun
      · rename_i pc2 ml2 st2 h2 hs
        exact Or.inr (Or.inl ⟨i, pc', pc2, ml2, st2, h2, hlk, hs, hrun⟩)
  · rename_i k idx a j pc' hlk
    split at hrun
    · rename_i as rest hc
      split at hrun
      · cases hrun
      · rename_i v h2 hr
        exact Or.inr (Or.inr (Or.inl ⟨k, idx, a, j, pc', as, rest, _, h2, hlk, hc, hr, Or.inl ⟨v, rfl, hrun⟩⟩))
      · rename_i E h2 hr
        split at hrun
        · rename_i q hq
          cases hrun
          exact Or.inr (Or.inr (Or.inl ⟨k, idx, a, j, pc', as, rest, _, _, hlk, hc, hr, Or.inr ⟨E, rfl, rfl, Or.inl ⟨q, hq, rfl⟩⟩⟩))
        · rename_i hq
          cases hrun
          exact Or.inr (Or.inr (Or.inl ⟨k, idx, a, j, pc', as, rest, _, _, hlk, hc, hr, Or.inr ⟨_, rfl, rfl, Or.inr ⟨hq, rfl⟩⟩⟩))
    · cases hk : Nat.beq k 12 with
      | true =>
        rw [hk] at hrun
        have hk := Nat.eq_of_beq_eq_true hk
        subst hk
        cases hw : Nat.ble (zm_wd st) 8 with
        | false => rw [hw] at hrun; cases hrun
        | true =>
          rw [hw] at hrun
          cases hrun
          exact Or.inr (Or.inr (Or.inr (Or.inl ⟨idx, _, j, pc', hlk, Nat.le_of_ble_eq_true hw, rfl, rfl⟩)))
      | false =>
        rw [hk] at hrun
        simp only [cond_false] at hrun
        split at hrun
        · cases hrun
        · rename_i pc2 ml2 st2 h2 hs
          exact Or.inr (Or.inr (Or.inr (Or.inr ⟨k, idx, a, j, pc', pc2, ml2, st2, h2, hlk, hs, hrun⟩)))
theorem zm_lk1_mem {c : List zm_I} {pc : Nat} {r : zm_R × Nat} (h : zm_lk1 c pc = some r) : (pc, r) ∈ c := by
  induction c with
  | nil => cases h
  | cons q t ih =>
    obtain ⟨k, r'⟩ := q
    simp only [zm_lk1] at h
    cases hk : Nat.beq k pc with
    | true =>
      rw [hk] at h
      cases h
      have hk := Nat.eq_of_beq_eq_true hk
      subst hk
      exact List.mem_cons_self
    | false =>
      rw [hk] at h
      exact List.mem_cons_of_mem _ (ih h)
theorem zm_lk_ok {y pc : Nat} {r : zm_R × Nat} (hok : zm_okC y = true) (h : zm_lk (zm_cd y) pc = some r) : zm_okI y (pc, r) = true := by
  unfold zm_okC at hok
  generalize zm_cd y = c at hok h
  induction c with
  | nil => cases h
  | cons q t ih =>
    obtain ⟨k, c'⟩ := q
    rw [List.all_cons, Bool.and_eq_true] at hok
    simp only [zm_lk] at h
    cases hk : Nat.ble pc k with
    | true =>
      rw [hk] at h
      exact List.all_eq_true.mp hok.1 _ (zm_lk1_mem h)
    | false =>
      rw [hk] at h
      exact ih hok.2 h
/-- what an instruction does to the counts -/
theorem zm_st_cnt {X : zm_X} {i : Instr} {pc pc' pc2 : Nat} {ml st ml2 st2 : List Value} {h h2 : zm_H} (hz : zm_st X i pc pc' ml st h = some (pc2, ml2, st2, h2)) : h2 = h ∨ (∃ a e, h2 = zm_put h a e) ∨ (∃ e k, h2 = zm_new h e k) := by
  cases i
  all_goals first
    | (simp [zm_st] at hz; done)
    | (cases hz; exact Or.inl rfl)
    | (obtain ⟨_, _, _, rfl, e1⟩ := zm_ii_spec hz; cases e1; exact Or.inl rfl)
    | (obtain ⟨_, _, _, rfl, e1⟩ := zm_ll_spec hz; cases e1; exact Or.inl rfl)
    | (obtain ⟨_, _, _, rfl, e1⟩ := zm_li_spec hz; cases e1; exact Or.inl rfl)
    | (obtain ⟨_, _, e1⟩ := zm_iload_spec hz; cases e1; exact Or.inl rfl)
    | (obtain ⟨_, _, e1⟩ := zm_lload_spec hz; cases e1; exact Or.inl rfl)
    | (obtain ⟨_, _, _, _, _, e1⟩ := zm_aload_spec 0 0 hz; cases e1; exact Or.inl rfl)
    | (obtain ⟨_, _, _, rfl, _, e1⟩ := zm_istore_spec hz; cases e1; exact Or.inl rfl)
    | (obtain ⟨_, _, _, rfl, _, e1⟩ := zm_lstore_spec hz; cases e1; exact Or.inl rfl)
    | (obtain ⟨_, _, _, rfl, _, e1⟩ := zm_astore_spec hz; cases e1; exact Or.inl rfl)
    | (obtain ⟨_, _, e1⟩ := zm_jmp_spec hz; cases e1; exact Or.inl rfl)
    | (simp only [zm_st] at hz
       repeat' split at hz
       all_goals first
         | (cases hz; done)
         | (cases hz; exact Or.inl rfl)
         | (cases hz; exact Or.inr (Or.inl ⟨_, _, rfl⟩))
         | (cases hz; exact Or.inr (Or.inr ⟨_, _, rfl⟩))
         | (obtain ⟨_, _, e1⟩ := zm_br_spec hz; cases e1; exact Or.inl rfl)
         | (obtain ⟨_, _, e1⟩ := zm_jmp_spec hz; cases e1; exact Or.inl rfl)
         | (obtain ⟨_, _, e1⟩ := Option.map_eq_some_iff.mp hz; cases e1; exact Or.inl rfl)
         | (rename_i v t; cases hc : Nat.beq v.category 1 <;> rw [hc] at hz <;> cases hz; exact Or.inl rfl)
         | (rename_i v1 v2 t; cases hc : (Nat.beq v1.category 1 && Nat.beq v2.category 1) <;> rw [hc] at hz <;> cases hz; exact Or.inl rfl))
theorem zm_rs_cnt {k idx a j pc' pc2 : Nat} {ml st ml2 st2 : List Value} {h h2 : zm_H} (hz : zm_rs k idx a j pc' ml st h = some (pc2, ml2, st2, h2)) : h2 = h ∨ (∃ a e, h2 = zm_put h a e) ∨ (∃ e k, h2 = zm_new h e k) := by
  unfold zm_rs at hz
  repeat' split at hz
  all_goals first
    | (cases hz; done)
    | (cases hz; exact Or.inl rfl)
    | (cases hz; exact Or.inr (Or.inl ⟨_, _, rfl⟩))
    | (cases hz; exact Or.inr (Or.inr ⟨_, _, rfl⟩))
    | (simp only [Bool.cond_eq_ite] at hz
       repeat' split at hz
       all_goals first
         | (cases hz; done)
         | (cases hz; exact Or.inl rfl)
         | (cases hz; exact Or.inr (Or.inl ⟨_, _, rfl⟩))
         | (cases hz; exact Or.inr (Or.inr ⟨_, _, rfl⟩)))
theorem zm_cnt_le {h h2 : zm_H} (hz : h2 = h ∨ (∃ a e, h2 = zm_put h a e) ∨ (∃ e k, h2 = zm_new h e k)) : zm_uc h ≤ zm_uc h2 ∧ zm_us h ≤ zm_us h2 := by
  rcases hz with rfl | ⟨a, e, rfl⟩ | ⟨e, k, rfl⟩
  · exact ⟨Nat.le_refl _, Nat.le_refl _⟩
  · exact ⟨Nat.le_refl _, Nat.le_refl _⟩
  · simp only [zm_uc, zm_us, zm_new]; omega
theorem zm_mono {X : zm_X} : ∀ (n y pc : Nat) (ml st : List Value) (h : zm_H) (r : zm_O) (h' : zm_H), zm_run X n y pc ml st h = some (r, h') → zm_uc h ≤ zm_uc h' ∧ zm_us h ≤ zm_us h' := by
  intro n
  induction n with
  | zero => intro y pc ml st h r h' hr; cases hr
  | succ n ih =>
    intro y pc ml st h r h' hr
    rcases zm_run_cases hr with ⟨i, pc', v, -, -, -, rfl⟩ | ⟨i, pc', pc2, ml2, st2, h2, -, hs, hr2⟩ | ⟨k, idx, a, j, pc', as, rest, r2, h2, -, -, hr2, hx⟩ | ⟨idx, a, j, pc', -, -, -, rfl⟩ | ⟨k, idx, a, j, pc', pc2, ml2, st2, h2, -, hs, hr2⟩
    · exact ⟨Nat.le_refl _, Nat.le_refl _⟩
    · have h1 := zm_cnt_le (zm_st_cnt hs)
      have h3 := ih _ _ _ _ _ _ _ hr2
      omega
    · have h1 := ih _ _ _ _ _ _ _ hr2
      rcases hx with ⟨v, -, hr3⟩ | ⟨E, -, rfl, -⟩
      · have h3 := ih _ _ _ _ _ _ _ hr3
        omega
      · exact h1
    · simp only [zm_uc, zm_us]; omega
    · have h1 := zm_cnt_le (zm_rs_cnt hs)
      have h3 := ih _ _ _ _ _ _ _ hr2
      omega
/-! contracts -/
def zm_Z (b : Nat) (s : State) : Prop := vx_Zq Bundle.tN "UNASSIGNED_STACK" Bundle.steD (zm_A b) s s.heap ∧ vx_Zq Bundle.tN "SUPPRESSED_SENTINEL" Bundle.listD (zm_A b) s s.heap
def zm_Pc (X : zm_X) (b b0 : Nat) (D : va_G) (cA : Nat → ClassId) (as : List Value) (h : zm_H) : Array Value → State → Prop := fun a U =>
  a = (as.map (zm_tr b b0)).toArray ∧ zm_G D cA U ∧ va_X b0 X.1 X.2 U U.heap ∧ b0 < b ∧ b ≤ U.heap.size ∧ U.heap.size ≤ b + zm_uc h ∧ va_P D zm_cl (zm_ws b b0 cA h) U.heap ∧ zm_Z b U
def zm_Qc (b b0 : Nat) (D : va_G) (cA : Nat → ClassId) (r : zm_O) (h' : zm_H) : Array Value → State → Outcome → State → Prop := fun _ st o t =>
  ∃ v, r = .inl v ∧ o = .returned (v.map (zm_tr b b0)) ∧ va_P D zm_cl (zm_ws b b0 cA h') t.heap ∧ va_F (zm_A b) st t
def zm_XC (b b0 : Nat) (D : va_G) (cA : Nat → ClassId) (r : zm_O) (h' : zm_H) : String → State → State → Prop := fun E st t =>
  ∃ k, r = .inr k ∧ E = zm_ex k ∧ k < 3 ∧ va_P D zm_cl (zm_ws b b0 cA h') t.heap ∧ va_F (zm_A b) st t
def zm_rm (y : Nat) (h h' : zm_H) : Room := { frames := zm_lv y, cells := zm_uc h' - zm_uc h, slots := zm_us h' - zm_us h, locals := 40 * zm_lv y }
def zm_Ct (l : Launch) (X : zm_X) (b b0 : Nat) (D : va_G) (cA : Nat → ClassId) (y : Nat) (as : List Value) (h : zm_H) (r : zm_O) (h' : zm_H) : Prop :=
  vx_Met l (zm_nm y) (zm_cw y :: zm_tb) (zm_rm y h h') (zm_Pc X b b0 D cA as h) (zm_Qc b b0 D cA r h') (zm_XC b b0 D cA r h') (zm_uc h' - zm_uc h) (zm_us h' - zm_us h) (zm_A b)
def zm_Cn (l : Launch) (X : zm_X) (b b0 : Nat) (D : va_G) (cA : Nat → ClassId) (n : Nat) : Prop := ∀ (y : Nat) (as : List Value) (h : zm_H) (r : zm_O) (h' : zm_H), y < zm_nM → (zm_exp as).length ≤ zm_mx y → zm_run X n y 0 (zm_ent as (zm_mx y)) [] h = some (r, h') → zm_Ct l X b b0 D cA y as h r h'
def zm_Fr (l : Launch) (X : zm_X) (b b0 : Nat) (D : va_G) (cA : Nat → ClassId) (n : Nat) : Prop := ∀ (y pc : Nat) (ml st : List Value) (h : zm_H) (r : zm_O) (h' : zm_H), zm_run X n y pc ml st h = some (r, h') → zm_okC y = true → zm_okh y = true → (zm_kd y = 3 ∨ (zm_hd y = [] ∧ zm_hh y = [])) →
  ∀ (p : Program) (e : Env) (R : Room) (s : State) (m : MethodId) (args : Array Value) (below : List Frame) (meth : Method) (c : Code) (H : Heap) (locs : List Loc) (cells slots u0 v0 : Nat) (ls : Array Slot), zm_cx X b b0 D cA p s m args meth c u0 y → meth.sig.returnType = zm_rt y → meth.locks = false → c.exceptionTable.toList = tableOf (zm_hh y) → zm_Z b s →
    zm_lr b b0 ml ls (zm_mx y) → zm_wk b b0 D cA s h H locs → cells + u0 = zm_uc h → slots + v0 = zm_us h → zm_uc h' ≤ u0 + R.cells → zm_us h' ≤ v0 + R.slots → zm_lv y ≤ R.frames → 40 * zm_lv y ≤ R.locals → 1 ≤ zm_lv y →
    W p l e R s m args below meth c H locs cells slots (vx_MQ below (zm_Qc b b0 D cA r h') (zm_XC b b0 D cA r h') args s R.cells R.slots (zm_A b)) (F0 m pc ls (st.map (zm_tr b b0)))
theorem zm_blind {X : zm_X} {b b0 : Nat} {D : va_G} {cA : Nat → ClassId} {as : List Value} {h : zm_H} : FrameBlind (zm_Pc X b b0 D cA as h) := by
  intro a U g mk q
  obtain ⟨q1, q2, q3, q4, q5, q6, q7, q8, q9⟩ := q
  exact ⟨q1, zm_G.moved (s := U) (U := U.calling g mk a) (State.WarmedH.refl U) q2, va_X.moved (u := U) (U := U.calling g mk a) (Vm.Alike.refl U.vm) q3, q4, q5, q6, q7, vx_Zq.moved (u := U) (U := U.calling g mk a) (Vm.Alike.refl U.vm) q8, vx_Zq.moved (u := U) (U := U.calling g mk a) (Vm.Alike.refl U.vm) q9⟩
/-- the facts of a method that was checked -/
theorem zm_facts {y : Nat} (hy : y < zm_nM) : zm_okC y = true ∧ zm_okh y = true ∧ plainName (zm_nm y).cls = true ∧ ((zm_nm y).cls ≠ "java/lang/invoke/MethodHandle" ∧ (zm_nm y).cls ≠ "java/lang/invoke/VarHandle") ∧ (parseMethodDescriptor (zm_nm y).desc).map (fun d => d.parameters.length) = some (zm_ar y) ∧ zm_mx y ≤ 21 ∧ 1 ≤ zm_lv y ∧ (zm_kd y = 3 ∨ (zm_hd y = [] ∧ zm_hh y = [])) ∧ (zm_kd y = 2 → (zm_md y).1 = "<init>" ∧ zm_rt y = none) := by
  have h := zm_kay hy
  simp only [zm_oka, zm_okn, Bool.and_eq_true, Bool.or_eq_true, Bool.not_eq_true', decide_eq_true_eq] at h
  obtain ⟨⟨h1, h2⟩, h3⟩ := h
  obtain ⟨⟨⟨⟨⟨⟨⟨g1, g2⟩, g3⟩, g4⟩, g5⟩, g6⟩, g7⟩, g8⟩ := h2
  refine ⟨h1, h3, g1, ⟨g2, g3⟩, g4, Nat.le_of_ble_eq_true g5, Nat.le_of_ble_eq_true g6, ?_, ?_⟩
  · rcases g7 with g | ⟨ga, gb⟩
    · exact Or.inl (Nat.eq_of_beq_eq_true g)
    · exact Or.inr ⟨List.length_eq_zero_iff.mp (Nat.eq_of_beq_eq_true ga), List.length_eq_zero_iff.mp (Nat.eq_of_beq_eq_true gb)⟩
  · intro h9
    rcases g8 with g | g
    · rw [h9] at g; cases g
    · exact g
theorem zm_wfacts {y : Nat} (hy : y < zm_nM) : zm_cw y ∈ zm_tb ∧ Cond.initialized (zm_nm y).cls ∈ zm_tb ∧ zm_kw y ∈ zm_tb ∧ (zm_kd y = 1 → Cond.selects (zm_nm y).cls (zm_nm y) (zm_nm y) ∈ zm_tb) := by
  have h := zm_oky hy
  simp only [zm_okm, zm_at, Bool.and_eq_true, Bool.or_eq_true, Bool.not_eq_true', decide_eq_true_eq] at h
  obtain ⟨⟨⟨h1, h2⟩, h3⟩, h4⟩ := h
  refine ⟨zm_tb_in (List.mem_of_getElem? h1) ?_, zm_tb_in (List.mem_of_getElem? h2) rfl, zm_tb_in (List.mem_of_getElem? h3) ?_, fun h9 => ?_⟩
  · unfold zm_cw; cases Nat.beq (zm_kd y) 3 <;> rfl
  · unfold zm_kw; cases (Nat.beq (zm_kd y) 0 || Nat.beq (zm_kd y) 3) <;> rfl
  · rcases h4 with h4 | h4
    · rw [h9] at h4; cases h4
    · exact zm_tb_in (List.mem_of_getElem? h4) rfl
set_option maxHeartbeats 1000000 in
theorem zm_C_of_F {l : Launch} {X : zm_X} {b b0 : Nat} {D : va_G} {cA : Nat → ClassId} {n : Nat} (hF : zm_Fr l X b b0 D cA n) : zm_Cn l X b b0 D cA n := by
  intro y as h r h' hy has hrun
  obtain ⟨f1, f2, f3, f4, f5, f6, f7, f8, f9⟩ := zm_facts hy
  have hm := zm_mono _ _ _ _ _ _ _ _ hrun
  have body : ∀ (p : Program) (e : Env) (s : State) (m : MethodId) (args : Array Value) (below : List Frame) (meth : Method) (c : Code) (s₁ : State), BodyLoose p l (zm_nm y) (headSpec (zm_cw y :: zm_tb) (zm_rm y h h')) (zm_by y) (zm_mx y) (zm_rt y) e s m args below meth c s₁ → c.maxLocals = zm_mx y → c.exceptionTable.toList = tableOf (zm_hh y) → zm_Pc X b b0 D cA as h args s →
      W p l e (headSpec (zm_cw y :: zm_tb) (zm_rm y h h')).room s m args below meth c s.heap [] 0 0 (vx_MQ below (zm_Qc b b0 D cA r h') (zm_XC b b0 D cA r h') args s (zm_uc h' - zm_uc h) (zm_us h' - zm_us h) (zm_A b)) (entryFrame m args (zm_mx y)) := by
    intro p e s m args below meth c s₁ B hml ht hP
    obtain ⟨rfl, hG, hX, hb0, hbs, hub, hP, hZ⟩ := hP
    rw [lg_entry_eq]
    have hts : ∀ w ∈ zm_tb, w.before (as.map (zm_tr b b0)).toArray s = true := fun w hw => atoms_spec (ws := zm_cw y :: zm_tb) B.pre w (List.mem_cons_of_mem _ hw)
    exact hF y 0 _ [] h r h' hrun f1 f2 f8 p e (zm_rm y h h') s m _ below meth c s.heap [] 0 0 (zm_uc h) (zm_us h) _ ⟨B.exec, B.bytes, hml, findClass_of_methodNamed B.named, hts, (name_of_methodNamed B.named B.method).1, hG, hX, hb0, hbs, hub⟩ B.returns B.notSynchronized ht hZ (zm_lr_entry b b0 as has) ⟨hP, va_S.rf⟩ (Nat.zero_add _) (Nat.zero_add _)
      (by show zm_uc h' ≤ zm_uc h + (zm_uc h' - zm_uc h); omega) (by show zm_us h' ≤ zm_us h + (zm_us h' - zm_us h); omega) (Nat.le_refl _) (Nat.le_refl _) f7
  rcases Nat.decEq (zm_kd y) 3 with h3 | h3
  · have hcw : zm_cw y = .code (zm_nm y) (zm_by y) (zm_mx y) (zm_rt y) := by
      unfold zm_cw
      cases h9 : Nat.beq (zm_kd y) 3 with
      | true => exact absurd (Nat.eq_of_beq_eq_true h9) h3
      | false => rfl
    have hhh : zm_hh y = [] := by
      rcases f8 with f8 | f8
      · exact absurd f8 h3
      · exact f8.2
    refine vx_ofW (cc := zm_by y) (maxL := zm_mx y) (ret := zm_rt y) f3 (by rw [hcw]) ?_
    intro p e s m args below meth c s₁ B hml ht hP
    refine body p e s m args below meth c s₁ B hml ?_ hP
    rw [hhh]
    exact List.eq_nil_iff_forall_not_mem.mpr ht
  · have hcw : zm_cw y = .codeWith (zm_nm y) (zm_by y) (zm_mx y) (zm_rt y) (zm_hh y) := by
      unfold zm_cw
      rw [h3]
      rfl
    refine vx_ofWH (cc := zm_by y) (maxL := zm_mx y) (ret := zm_rt y) (hh := zm_hh y) f3 (by rw [hcw]) ?_
    intro p e s m args below meth c s₁ B hml hP
    refine body p e s m args below meth c s₁ B hml ?_ hP
    have h9 := atoms_spec (ws := zm_cw y :: zm_tb) B.pre _ List.mem_cons_self
    rw [hcw] at h9
    exact vx_table (x := zm_nm y) B h9
