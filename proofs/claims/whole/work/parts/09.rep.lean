/-! how the small heap lies in the real one: cell i at address b + i; the script at b0 -/
def zm_tr (b b0 : Nat) : Value → Value
  | .ref i => .ref (b + i)
  | .retAddr _ => .ref b0
  | v => v
def zm_cv (b b0 : Nat) (cA : Nat → ClassId) : zm_E → va_E
  | .inl (k, n, .inr (.inr (.inr (.inr f)))) => .inl (cA k, n, .inr (.inr (.inr (.inr (fun j => (f j).map (fun a => b + a))))))
  | .inl (k, x) => .inl (cA k, x)
  | .inr (c, fs) => .inr (c, fs.map (zm_tr b b0))
def zm_ws (b b0 : Nat) (cA : Nat → ClassId) (h : zm_H) : va_W := (List.range h.2.1).map (fun i => (b + i, zm_cv b b0 cA (h.1 i)))
theorem zm_ws_len (b b0 : Nat) (cA : Nat → ClassId) (h : zm_H) : (zm_ws b b0 cA h).length = h.2.1 := by simp [zm_ws]
theorem zm_ws_at {b b0 : Nat} {cA : Nat → ClassId} {h : zm_H} {a : Nat} (ha : a < h.2.1) : (zm_ws b b0 cA h)[a]? = some (b + a, zm_cv b b0 cA (h.1 a)) := by
  simp [zm_ws, List.getElem?_map, List.getElem?_range ha]
theorem zm_ws_put {b b0 : Nat} {cA : Nat → ClassId} {h : zm_H} {a : Nat} (e : zm_E) : (zm_ws b b0 cA h).set a (b + a, zm_cv b b0 cA e) = zm_ws b b0 cA (zm_put h a e) := by
  apply List.ext_getElem?
  intro i
  by_cases hi : i < h.2.1
  · rw [zm_ws_at (h := zm_put h a e) (show i < (zm_put h a e).2.1 from hi)]
    by_cases hia : a = i
    · subst hia
      rw [List.getElem?_set_self (by rw [zm_ws_len]; exact hi)]
      simp [zm_put, va_up]
    · rw [List.getElem?_set_ne hia, zm_ws_at hi]
      simp [zm_put, va_up, Ne.symm hia]
  · rw [List.getElem?_eq_none (by rw [List.length_set, zm_ws_len]; omega), List.getElem?_eq_none (by rw [zm_ws_len]; exact Nat.le_of_not_lt hi)]
theorem zm_ws_new {b b0 : Nat} {cA : Nat → ClassId} {h : zm_H} (e : zm_E) (k : Nat) : zm_ws b b0 cA h ++ [(b + h.2.1, zm_cv b b0 cA e)] = zm_ws b b0 cA (zm_new h e k) := by
  simp only [zm_ws, zm_new, List.range_succ, List.map_append, List.map_cons, List.map_nil]
  congr 1
  · apply List.map_congr_left
    intro i hi
    have : i < h.2.1 := List.mem_range.mp hi
    simp [va_up, Nat.ne_of_lt this]
  · simp [va_up]
def zm_A (b : Nat) : Nat → Prop := fun q => b ≤ q
theorem zm_ws_D (b b0 : Nat) (cA : Nat → ClassId) (h : zm_H) : va_D (zm_A b) (zm_ws b b0 cA h) := by
  have key : ∀ (k : Nat) (q : Nat × va_E), (zm_ws b b0 cA h)[k]? = some q → q.1 = b + k := by
    intro k q hq
    have hl : k < h.2.1 := by
      have := (List.getElem?_eq_some_iff.mp hq).1
      rwa [zm_ws_len] at this
    rw [zm_ws_at hl] at hq
    cases hq
    rfl
  refine ⟨fun i j p q hi hj e => ?_, fun k q hk => ?_⟩
  · have h1 := key i p hi
    have h2 := key j q hj
    omega
  · show b ≤ q.1
    rw [key k q hk]
    exact Nat.le_add_right _ _
theorem zm_tr_cat (b b0 : Nat) (v : Value) : (zm_tr b b0 v).category = v.category := by cases v <;> rfl
theorem zm_tr_sum (b b0 : Nat) (st : List Value) : ((st.map (zm_tr b b0)).map fun v => v.category).sum = zm_wd st := by
  unfold zm_wd
  rw [List.map_map]
  congr 1
  apply List.map_congr_left
  intro v _
  exact zm_tr_cat b b0 v
/-! locals -/
def zm_lr (b b0 : Nat) (ml : List Value) (ls : Array Slot) (nL : Nat) : Prop := ls.size = nL ∧ ml.length = nL ∧ lv_wf ls ∧ ∀ (i : Nat) (v : Value), ml[i]? = some v → v ≠ zm_mk → ls[i]? = some (.val (zm_tr b b0 v))
def zm_pr (b b0 : Nat) (ml : List Value) : List (Nat × Value) := (List.range ml.length).filterMap (fun i => (ml[i]?).bind (fun v => if v = zm_mk then none else some (i, zm_tr b b0 v)))
theorem zm_pr_mem {b b0 : Nat} {ml : List Value} {q : Nat × Value} : q ∈ zm_pr b b0 ml ↔ ∃ v, ml[q.1]? = some v ∧ v ≠ zm_mk ∧ q.2 = zm_tr b b0 v := by
  unfold zm_pr
  rw [List.mem_filterMap]
  constructor
  · rintro ⟨i, hi, h⟩
    cases hv : ml[i]? with
    | none => rw [hv] at h; cases h
    | some v =>
      rw [hv] at h
      simp only [Option.bind_some] at h
      by_cases hm : v = zm_mk
      · rw [if_pos hm] at h; cases h
      · rw [if_neg hm] at h
        cases h
        exact ⟨v, hv, hm, rfl⟩
  · rintro ⟨v, hv, hm, hq⟩
    refine ⟨q.1, List.mem_range.mpr (List.getElem?_eq_some_iff.mp hv).1, ?_⟩
    rw [hv, Option.bind_some, if_neg hm, ← hq]
theorem zm_lr_has {b b0 : Nat} {ml : List Value} {ls : Array Slot} {nL : Nat} (h : zm_lr b b0 ml ls nL) : lv_has ls nL (zm_pr b b0 ml) := by
  obtain ⟨h1, h2, h3, h4⟩ := h
  refine ⟨h1, h3, fun q hq => ?_⟩
  obtain ⟨v, hv, hm, he⟩ := zm_pr_mem.mp hq
  rw [he]
  exact h4 _ _ hv hm
theorem zm_lr_at {b b0 : Nat} {ml : List Value} {ls : Array Slot} {nL i : Nat} {v : Value} (h : zm_lr b b0 ml ls nL) (hv : ml[i]? = some v) (hm : v ≠ zm_mk) : ls[i]? = some (.val (zm_tr b b0 v)) := h.2.2.2 i v hv hm
theorem zm_pv_ok {ml : List Value} {i j : Nat} {v : Value} (h : zm_pv ml i = true) (hj : j + 1 = i) (hv : ml[j]? = some v) : ¬ v.category = 2 := by
  subst hj
  simp only [zm_pv, hv] at h
  cases v <;> simp_all [Value.category]
theorem zm_sto_spec {ml ml' : List Value} {i : Nat} {v : Value} (h : zm_sto ml i v = some ml') : i < ml.length ∧ zm_pv ml i = true ∧ ml' = ml.set i v := by
  unfold zm_sto at h
  cases hc : (Nat.blt i ml.length && zm_pv ml i) with
  | false => rw [hc] at h; cases h
  | true =>
    rw [hc] at h
    cases h
    simp only [Bool.and_eq_true, Nat.blt_eq] at hc
    exact ⟨hc.1, hc.2, rfl⟩
theorem zm_sto2_spec {ml ml' : List Value} {i : Nat} {v : Value} (h : zm_sto2 ml i v = some ml') : i + 1 < ml.length ∧ zm_pv ml i = true ∧ ml' = (ml.set i v).set (i + 1) zm_mk := by
  unfold zm_sto2 at h
  cases hc : (Nat.blt (i + 1) ml.length && zm_pv ml i) with
  | false => rw [hc] at h; cases h
  | true =>
    rw [hc] at h
    cases h
    simp only [Bool.and_eq_true, Nat.blt_eq] at hc
    exact ⟨hc.1, hc.2, rfl⟩
theorem zm_lr_sto {b b0 : Nat} {ml ml' : List Value} {ls ls' : Array Slot} {nL i : Nat} {v : Value} (h : zm_lr b b0 ml ls nL) (hs : zm_sto ml i v = some ml')
    (h' : lv_has ls' nL ((i, zm_tr b b0 v) :: (zm_pr b b0 ml).filter (fun q => !(q.1 == i) && !(q.1 + 1 == i && q.2.category == 2)))) : zm_lr b b0 ml' ls' nL := by
  obtain ⟨hi, hp, rfl⟩ := zm_sto_spec hs
  obtain ⟨g1, g2, g3⟩ := h'
  refine ⟨g1, by rw [List.length_set]; exact h.2.1, g2, fun j w hw hm => ?_⟩
  by_cases hj : i = j
  · subst hj
    rw [List.getElem?_set_self hi] at hw
    cases hw
    exact g3 _ List.mem_cons_self
  · rw [List.getElem?_set_ne hj] at hw
    refine g3 (j, zm_tr b b0 w) (List.mem_cons_of_mem _ (List.mem_filter.mpr ⟨zm_pr_mem.mpr ⟨w, hw, hm, rfl⟩, ?_⟩))
    simp only [Bool.and_eq_true, Bool.not_eq_true', beq_eq_false_iff_ne, ne_eq, Bool.and_eq_false_iff, zm_tr_cat]
    refine ⟨fun e => hj e.symm, ?_⟩
    by_cases hj1 : j + 1 = i
    · exact Or.inr (zm_pv_ok hp hj1 hw)
    · exact Or.inl hj1
theorem zm_lr_sto2 {b b0 : Nat} {ml ml' : List Value} {ls ls' : Array Slot} {nL i : Nat} {v : Value} (h : zm_lr b b0 ml ls nL) (hs : zm_sto2 ml i v = some ml')
    (h' : lv_has ls' nL ((i, zm_tr b b0 v) :: (zm_pr b b0 ml).filter (fun q => !(q.1 == i) && (!(q.1 == i + 1) && !(q.1 + 1 == i && q.2.category == 2))))) : zm_lr b b0 ml' ls' nL := by
  obtain ⟨hi, hp, rfl⟩ := zm_sto2_spec hs
  obtain ⟨g1, g2, g3⟩ := h'
  refine ⟨g1, by rw [List.length_set, List.length_set]; exact h.2.1, g2, fun j w hw hm => ?_⟩
  by_cases hj2 : i + 1 = j
  · subst hj2
    rw [List.getElem?_set_self (by rw [List.length_set]; exact hi)] at hw
    cases hw
    exact absurd rfl hm
  rw [List.getElem?_set_ne hj2] at hw
  by_cases hj : i = j
  · subst hj
    rw [List.getElem?_set_self (by omega)] at hw
    cases hw
    exact g3 _ List.mem_cons_self
  · rw [List.getElem?_set_ne hj] at hw
    refine g3 (j, zm_tr b b0 w) (List.mem_cons_of_mem _ (List.mem_filter.mpr ⟨zm_pr_mem.mpr ⟨w, hw, hm, rfl⟩, ?_⟩))
    simp only [Bool.and_eq_true, Bool.not_eq_true', beq_eq_false_iff_ne, ne_eq, Bool.and_eq_false_iff, zm_tr_cat]
    refine ⟨fun e => hj e.symm, fun e => hj2 e.symm, ?_⟩
    by_cases hj1 : j + 1 = i
    · exact Or.inr (zm_pv_ok hp hj1 hw)
    · exact Or.inl hj1
theorem zm_sl_len (b b0 : Nat) (vs : List Value) : (lg_sl (vs.map (zm_tr b b0))).length = (zm_exp vs).length := by
  induction vs with
  | nil => rfl
  | cons v t ih =>
    have e : lg_sl ((v :: t).map (zm_tr b b0)) = (if (zm_tr b b0 v).category = 2 then [Slot.val (zm_tr b b0 v), Slot.second] else [Slot.val (zm_tr b b0 v)]) ++ lg_sl (t.map (zm_tr b b0)) := by simp [lg_sl]
    rw [e, List.length_append, ih]
    cases v <;> simp [zm_exp, zm_tr, Value.category] <;> omega
theorem zm_exp_args (b b0 : Nat) (vs : List Value) : ∀ (k i : Nat) (v : Value), (zm_exp vs)[i]? = some v → v ≠ zm_mk → (k + i, zm_tr b b0 v) ∈ lv_args k (vs.map (zm_tr b b0)) := by
  induction vs with
  | nil => intro k i v h _; simp [zm_exp] at h
  | cons x t ih =>
    intro k i v h hm
    have one : ∀ (hx : (zm_tr b b0 x).category = 1) (he : zm_exp (x :: t) = x :: zm_exp t), (k + i, zm_tr b b0 v) ∈ lv_args k ((x :: t).map (zm_tr b b0)) := by
      intro hx he
      rw [he] at h
      rw [List.map_cons, lv_args, if_neg (by omega)]
      cases i with
      | zero => simp at h; subst h; exact List.mem_cons_self
      | succ j =>
        have := ih (k + 1) j v (by simpa using h) hm
        rw [show k + (j + 1) = k + 1 + j by omega]
        exact List.mem_cons_of_mem _ this
    have two : ∀ (hx : (zm_tr b b0 x).category = 2) (he : zm_exp (x :: t) = x :: zm_mk :: zm_exp t), (k + i, zm_tr b b0 v) ∈ lv_args k ((x :: t).map (zm_tr b b0)) := by
      intro hx he
      rw [he] at h
      rw [List.map_cons, lv_args, if_pos hx]
      match i, h with
      | 0, h => simp at h; subst h; exact List.mem_cons_self
      | 1, h => simp at h; exact absurd h.symm hm
      | j + 2, h =>
        have := ih (k + 2) j v (by simpa using h) hm
        rw [show k + (j + 2) = k + 2 + j by omega]
        exact List.mem_cons_of_mem _ this
    cases x <;> first | exact one rfl rfl | exact two rfl rfl
theorem zm_lr_entry (b b0 : Nat) (vs : List Value) {n : Nat} (h : (zm_exp vs).length ≤ n) : zm_lr b b0 (zm_ent vs n) ((lg_sl (vs.map (zm_tr b b0)) ++ List.replicate (n - (lg_sl (vs.map (zm_tr b b0))).length) Slot.unset).toArray) n := by
  obtain ⟨h1, h2, h3⟩ := lv_entry (vs.map (zm_tr b b0)) (n := n) (by rw [zm_sl_len]; exact h)
  refine ⟨h1, by simp [zm_ent]; omega, h2, fun i v hv hm => ?_⟩
  unfold zm_ent at hv
  by_cases hi : i < (zm_exp vs).length
  · rw [List.getElem?_append_left hi] at hv
    have := zm_exp_args b b0 vs 0 i v hv hm
    rw [Nat.zero_add] at this
    exact h3 _ this
  · rw [List.getElem?_append_right (by omega)] at hv
    have h4 := List.mem_of_getElem? hv
    exact absurd (List.eq_of_mem_replicate h4) hm
