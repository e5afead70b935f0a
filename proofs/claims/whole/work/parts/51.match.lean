/-! the class: pairs of classes and of members -/
def zq_MA (q : Nat) : Prop := zs_O q 3 [some (q + 1), some (q + 2), some (q + 3), some (q + 4)] ∧ zs_I (q + 1) 12 ∧ zs_I (q + 2) 12 ∧ zs_I (q + 3) 40 ∧ zs_I (q + 4) 40
theorem qM_150 : zq_MA 150 := ⟨⟨by decide, rfl⟩, ⟨by decide, rfl⟩, ⟨by decide, rfl⟩, ⟨by decide, rfl⟩, ⟨by decide, rfl⟩⟩
theorem qM_163 : zq_MA 163 := ⟨⟨by decide, rfl⟩, ⟨by decide, rfl⟩, ⟨by decide, rfl⟩, ⟨by decide, rfl⟩, ⟨by decide, rfl⟩⟩
/-- C from n places to n places, and back -/
def zi_v (C F : Nat → Option Nat) (n : Nat) : Prop := ∀ c p, c < n → p < n → (F p = some c ↔ C c = some p)
def zq_m (C : Nat → Option Nat) (n a b : Nat) (h : zm_H) : Prop := zr_M C n (ci h a) ∧ zo_lt C n n ∧ ∃ F, zr_M F n (ci h b) ∧ zo_lt F n n ∧ zi_v C F n
def zq_M (C M : Nat → Option Nat) (q : Nat) (h : zm_H) : Prop := zq_m C 12 (q + 1) (q + 2) h ∧ zq_m M 40 (q + 3) (q + 4) h
theorem zq_m.eq {C : Nat → Option Nat} {n a b : Nat} {S : Nat → Prop} {h h' : zm_H} (m : zq_m C n a b h) (e : zh_eq S h h') (ha : ¬ S a) (hb : ¬ S b) : zq_m C n a b h' := by
  unfold zq_m
  rw [e.gi ha, e.gi hb]
  exact m
theorem zq_m.cg {C C' : Nat → Option Nat} {n a b : Nat} {h : zm_H} (m : zq_m C n a b h) (e : ∀ c, c < n → C' c = C c) : zq_m C' n a b h := by
  obtain ⟨h1, h2, F, h3, h4, h5⟩ := m
  exact ⟨fun c hc => by rw [e c hc]; exact h1 c hc, fun c hc => by rw [e c hc]; exact h2 c hc, F, h3, h4, fun c p hc hp => by rw [e c hc]; exact h5 c p hc hp⟩
theorem zq_M.eq {C M : Nat → Option Nat} {q : Nat} {S : Nat → Prop} {h h' : zm_H} (m : zq_M C M q h) (e : zh_eq S h h') (hS : ∀ x, q < x → x ≤ q + 4 → ¬ S x) : zq_M C M q h' := ⟨m.1.eq e (hS _ (by omega) (by omega)) (hS _ (by omega) (by omega)), m.2.eq e (hS _ (by omega) (by omega)) (hS _ (by omega) (by omega))⟩
theorem zi_v.m {C F : Nat → Option Nat} {n p : Nat} (h : zi_v C F n) (hF : zo_lt F n n) (hp : p < n) : F p = none ↔ v_isM C n p = false := by
  constructor
  · intro e
    cases q : v_isM C n p with
    | false => rfl
    | true =>
      obtain ⟨k, k1, k2⟩ := v_isM_yes q
      rw [(h k p k1 hp).mpr k2] at e
      cases e
  · intro e
    cases q : F p with
    | none => rfl
    | some c => exact absurd ((h c p (hF p hp c q) hp).mp q) (v_isM_no e (hF p hp c q))
theorem zi_v.inj {C F : Nat → Option Nat} {n c d p : Nat} (h : zi_v C F n) (hc : c < n) (hd : d < n) (hp : p < n) (e1 : C c = some p) (e2 : C d = some p) : c = d := by
  have a := (h c p hc hp).mpr e1
  rw [(h d p hd hp).mpr e2] at a
  injection a with a
  exact a.symm
theorem zf_o_ge {x : Option Nat} (hx : ∀ i, x = some i → i < 2 ^ 31) : 0 ≤ zf_o x ↔ x ≠ none := by
  cases x with
  | none => exact ⟨fun q => absurd q (by decide), fun q => absurd rfl q⟩
  | some i => exact ⟨fun _ q => (by cases q), fun _ => nI_pos' (hx i rfl)⟩
theorem va_up_n {C : Nat → Option Nat} {c : Nat} (h : C c = none) : va_up C c none = C := by
  funext j
  simp only [va_up]
  by_cases e : j = c
  · rw [if_pos e, e, h]
  · rw [if_neg e]
theorem va_up_s {α : Type} {C : Nat → α} {c : Nat} {x : α} : va_up C c x c = x := by simp [va_up]
theorem va_up_o {α : Type} {C : Nat → α} {c j : Nat} {x : α} (h : j ≠ c) : va_up C c x j = C j := by simp [va_up, h]
theorem zi_v.join {C F : Nat → Option Nat} {n c p : Nat} (h : zi_v C F n) (hF : zo_lt F n n) (hc : c < n) (hp : p < n) (h0 : C c = none) (hu : v_isM C n p = false) : zi_v (va_up C c (some p)) (va_up F p (some c)) n := by
  intro d r hd hr
  by_cases e1 : r = p
  · subst e1
    rw [va_up_s]
    by_cases e2 : d = c
    · subst e2
      rw [va_up_s]
      exact ⟨fun _ => rfl, fun _ => rfl⟩
    · rw [va_up_o e2]
      refine ⟨fun q => ?_, fun q => absurd q (v_isM_no hu hd)⟩
      injection q with q
      exact absurd q.symm e2
  · rw [va_up_o e1]
    by_cases e2 : d = c
    · subst e2
      rw [va_up_s]
      refine ⟨fun q => ?_, fun q => ?_⟩
      · rw [(h d r hd hr).mp q] at h0; cases h0
      · injection q with q
        exact absurd q.symm e1
    · rw [va_up_o e2]
      exact h d r hd hr
theorem zi_v.part {C F : Nat → Option Nat} {n c p : Nat} (h : zi_v C F n) (hc : c < n) (hp : p < n) (h0 : C c = some p) : zi_v (va_up C c none) (va_up F p none) n := by
  intro d r hd hr
  by_cases e1 : r = p
  · subst e1
    rw [va_up_s]
    by_cases e2 : d = c
    · subst e2
      rw [va_up_s]
      exact ⟨fun q => (by cases q), fun q => (by cases q)⟩
    · rw [va_up_o e2]
      exact ⟨fun q => (by cases q), fun q => absurd (h.inj hd hc hr q h0) e2⟩
  · rw [va_up_o e1]
    by_cases e2 : d = c
    · subst e2
      rw [va_up_s]
      refine ⟨fun q => ?_, fun q => (by cases q)⟩
      rw [(h d r hd hr).mp q] at h0
      injection h0 with h0
      exact absurd h0 e1
    · rw [va_up_o e2]
      exact h d r hd hr
section ZP11
variable {X : zm_X} {h : zm_H} {Q : zm_O → zm_H → Prop} {V W B : zv} {p q l : Nat} {C M : Nat → Option Nat}
theorem s_Arrays_fill {a n : Nat} {x : Int32} (hS : zs_H h) (ha : zs_I a n) (hn : n ≤ 40) (hq : ∀ h', zs_H h' → zh_eq (fun y => y = a) h h' → (∀ k, k < n → ci h' a k = x) → Q (.inl none) h') : zp_wm X y_Arrays_fill [.ref a, .int x] h Q := by
  show zp_wp X y_Arrays_fill 0 [.ref a, .int x, zm_mk, zm_mk] [] h Q
  have lp : ∀ k i h', i + k = n → zs_H h' → zh_eq (fun y => y = a) h h' → (∀ k, k < i → ci h' a k = x) → zp_wp X y_Arrays_fill 5 [.ref a, .int x, .int (nI i), .int (nI n)] [] h' Q := by
    intro k
    induction k with
    | zero =>
      intro i h' hi hS he hc
      refine zp_iload_n (x := (nI i)) rfl rfl ?_
      refine zp_iload_n (x := (nI n)) rfl rfl ?_
      refine zp_icmpN_ge (tgt := 20) rfl rfl (by omega) (by omega) (fun b7 => ?_) (fun b7 => ?_)
      · refine zp_vret rfl rfl ?_
        exact hq h' hS he (fun k hk => hc k (by omega))
      · omega
    | succ k ih =>
      intro i h' hi hS he hc
      refine zp_iload_n (x := (nI i)) rfl rfl ?_
      refine zp_iload_n (x := (nI n)) rfl rfl ?_
      refine zp_icmpN_ge (tgt := 20) rfl rfl (by omega) (by omega) (fun b7 => ?_) (fun b7 => ?_)
      · omega
      · refine zp_aload_n (x := a) rfl rfl ?_
        refine zp_iload_n (x := (nI i)) rfl rfl ?_
        refine zp_iload_n (x := x) rfl rfl ?_
        refine zq_iast hS rfl (by first | assumption | exact ⟨by decide, rfl⟩) (by omega) (by first | decide | omega) (fun hS13 => ?_)
        have hS := hS13
        refine zp_iincN_2 rfl rfl ?_
        refine zp_goto (tgt := 5) rfl rfl ?_
        refine ih (i + 1) _ (by omega) hS (he.zi rfl) (fun j hj => ?_)
        rw [zi_at]
        by_cases e : j = i
        · subst e; rw [pk_us]
        · rw [pk_un e]; exact hc j (by omega)
  refine zp_iconst (v := (nI 0)) rfl (by decide +kernel) ?_
  refine zp_istore_n_2 rfl rfl ?_
  refine zp_aload_n (x := a) rfl rfl ?_
  refine zq_alen (n := n) hS rfl (by first | assumption | exact ⟨by decide, rfl⟩) ?_
  refine zp_istore_n_3 rfl rfl ?_
  exact lp n 0 h (by omega) hS zh_eq.rf (fun k hk => absurd hk (by omega))
theorem s_Match_joinClasses {c : Nat} {x : Option Nat} (hS : zs_H h) (hA : zq_MA q) (hm : zq_m C 12 (q + 1) (q + 2) h) (hc : c < 12) (h0 : C c = none) (hx : ∀ p, x = some p → p < 12 ∧ v_isM C 12 p = false) (hq : ∀ h', zs_H h' → zh_eq (fun y => y = q + 1 ∨ y = q + 2) h h' → zq_m (va_up C c x) 12 (q + 1) (q + 2) h' → Q (.inl none) h') : zp_wm X y_Match_joinClasses [.ref q, .int (nI c), .int (zf_o x)] h Q := by
  obtain ⟨hA0, hA1, hA2, hA3, hA4⟩ := hA
  cases x with
  | none =>
    rw [va_up_n h0] at hq
    show zp_wp X y_Match_joinClasses 0 [.ref q, .int (nI c), .int (-1)] [] h Q
    refine zp_iload_n (x := (nI c)) rfl rfl ?_
    refine zp_ifF (tgt := 34) rfl rfl (zc_lt (by omega)) ?_
    refine zp_iload_n (x := (nI c)) rfl rfl ?_
    refine zp_bipush (v := (nI 12)) rfl (by decide +kernel) ?_
    refine zp_icmpN_ge (tgt := 34) rfl rfl (by omega) (by omega) (fun b7 => ?_) (fun b7 => ?_)
    · omega
    · refine zp_iload_n (x := (-1)) rfl rfl ?_
      refine zp_ifT (tgt := 34) rfl rfl (by decide +kernel) ?_
      refine zp_vret rfl rfl ?_
      exact hq _ hS zh_eq.rf hm
  | some p =>
    obtain ⟨hp, hu⟩ := hx p rfl
    obtain ⟨h1, h2, F, h3, h4, h5⟩ := hm
    show zp_wp X y_Match_joinClasses 0 [.ref q, .int (nI c), .int (nI p)] [] h Q
    refine zp_iload_n (x := (nI c)) rfl rfl ?_
    refine zp_ifF (tgt := 34) rfl rfl (zc_lt (by omega)) ?_
    refine zp_iload_n (x := (nI c)) rfl rfl ?_
    refine zp_bipush (v := (nI 12)) rfl (by decide +kernel) ?_
    refine zp_icmpN_ge (tgt := 34) rfl rfl (by omega) (by omega) (fun b7 => ?_) (fun b7 => ?_)
    · omega
    · refine zp_iload_n (x := (nI p)) rfl rfl ?_
      refine zp_ifF (tgt := 34) rfl rfl (zc_lt (by omega)) ?_
      refine zp_iload_n (x := (nI p)) rfl rfl ?_
      refine zp_bipush (v := (nI 12)) rfl (by decide +kernel) ?_
      refine zp_icmpN_ge (tgt := 34) rfl rfl (by omega) (by omega) (fun b17 => ?_) (fun b17 => ?_)
      · omega
      · refine zp_aload_n (x := q) rfl rfl ?_
        refine zq_getr (k9 := (q + 1)) hS rfl (by first | assumption | exact ⟨by decide, rfl⟩) rfl ?_
        refine zp_iload_n (x := (nI c)) rfl rfl ?_
        refine zp_iload_n (x := (nI p)) rfl rfl ?_
        refine zq_iast hS rfl (by first | assumption | exact ⟨by decide, rfl⟩) (by omega) (by first | decide | omega) (fun hS26 => ?_)
        have hS := hS26
        refine zp_aload_n (x := q) rfl rfl ?_
        refine zq_getr (k9 := (q + 2)) hS rfl (by first | assumption | exact ⟨by decide, rfl⟩) rfl ?_
        refine zp_iload_n (x := (nI p)) rfl rfl ?_
        refine zp_iload_n (x := (nI c)) rfl rfl ?_
        refine zq_iast hS rfl (by first | assumption | exact ⟨by decide, rfl⟩) (by omega) (by first | decide | omega) (fun hS33 => ?_)
        have hS := hS33
        refine zp_vret rfl rfl ?_
        refine hq _ hS ((zh_eq.rf.zi (Or.inl rfl)).zi (Or.inr rfl)) ⟨?_, h2.up (fun j hj => by cases hj; exact hp), va_up F p (some c), ?_, h4.up (fun j hj => by cases hj; exact hc), h5.join h4 hc hp h0 hu⟩
        · rw [zi_ne (by omega), zi_at]; exact h1.up (x := some p)
        · rw [zi_at, zi_ne (by omega)]; exact h3.up (x := some c)
theorem s_Match_joinMembers {c : Nat} {x : Option Nat} (hS : zs_H h) (hA : zq_MA q) (hm : zq_m C 40 (q + 3) (q + 4) h) (hc : c < 40) (h0 : C c = none) (hx : ∀ p, x = some p → p < 40 ∧ v_isM C 40 p = false) (hq : ∀ h', zs_H h' → zh_eq (fun y => y = q + 3 ∨ y = q + 4) h h' → zq_m (va_up C c x) 40 (q + 3) (q + 4) h' → Q (.inl none) h') : zp_wm X y_Match_joinMembers [.ref q, .int (nI c), .int (zf_o x)] h Q := by
  obtain ⟨hA0, hA1, hA2, hA3, hA4⟩ := hA
  cases x with
  | none =>
    rw [va_up_n h0] at hq
    show zp_wp X y_Match_joinMembers 0 [.ref q, .int (nI c), .int (-1)] [] h Q
    refine zp_iload_n (x := (nI c)) rfl rfl ?_
    refine zp_ifF (tgt := 34) rfl rfl (zc_lt (by omega)) ?_
    refine zp_iload_n (x := (nI c)) rfl rfl ?_
    refine zp_bipush (v := (nI 40)) rfl (by decide +kernel) ?_
    refine zp_icmpN_ge (tgt := 34) rfl rfl (by omega) (by omega) (fun b7 => ?_) (fun b7 => ?_)
    · omega
    · refine zp_iload_n (x := (-1)) rfl rfl ?_
      refine zp_ifT (tgt := 34) rfl rfl (by decide +kernel) ?_
      refine zp_vret rfl rfl ?_
      exact hq _ hS zh_eq.rf hm
  | some p =>
    obtain ⟨hp, hu⟩ := hx p rfl
    obtain ⟨h1, h2, F, h3, h4, h5⟩ := hm
    show zp_wp X y_Match_joinMembers 0 [.ref q, .int (nI c), .int (nI p)] [] h Q
    refine zp_iload_n (x := (nI c)) rfl rfl ?_
    refine zp_ifF (tgt := 34) rfl rfl (zc_lt (by omega)) ?_
    refine zp_iload_n (x := (nI c)) rfl rfl ?_
    refine zp_bipush (v := (nI 40)) rfl (by decide +kernel) ?_
    refine zp_icmpN_ge (tgt := 34) rfl rfl (by omega) (by omega) (fun b7 => ?_) (fun b7 => ?_)
    · omega
    · refine zp_iload_n (x := (nI p)) rfl rfl ?_
      refine zp_ifF (tgt := 34) rfl rfl (zc_lt (by omega)) ?_
      refine zp_iload_n (x := (nI p)) rfl rfl ?_
      refine zp_bipush (v := (nI 40)) rfl (by decide +kernel) ?_
      refine zp_icmpN_ge (tgt := 34) rfl rfl (by omega) (by omega) (fun b17 => ?_) (fun b17 => ?_)
      · omega
      · refine zp_aload_n (x := q) rfl rfl ?_
        refine zq_getr (k9 := (q + 3)) hS rfl (by first | assumption | exact ⟨by decide, rfl⟩) rfl ?_
        refine zp_iload_n (x := (nI c)) rfl rfl ?_
        refine zp_iload_n (x := (nI p)) rfl rfl ?_
        refine zq_iast hS rfl (by first | assumption | exact ⟨by decide, rfl⟩) (by omega) (by first | decide | omega) (fun hS26 => ?_)
        have hS := hS26
        refine zp_aload_n (x := q) rfl rfl ?_
        refine zq_getr (k9 := (q + 4)) hS rfl (by first | assumption | exact ⟨by decide, rfl⟩) rfl ?_
        refine zp_iload_n (x := (nI p)) rfl rfl ?_
        refine zp_iload_n (x := (nI c)) rfl rfl ?_
        refine zq_iast hS rfl (by first | assumption | exact ⟨by decide, rfl⟩) (by omega) (by first | decide | omega) (fun hS33 => ?_)
        have hS := hS33
        refine zp_vret rfl rfl ?_
        refine hq _ hS ((zh_eq.rf.zi (Or.inl rfl)).zi (Or.inr rfl)) ⟨?_, h2.up (fun j hj => by cases hj; exact hp), va_up F p (some c), ?_, h4.up (fun j hj => by cases hj; exact hc), h5.join h4 hc hp h0 hu⟩
        · rw [zi_ne (by omega), zi_at]; exact h1.up (x := some p)
        · rw [zi_at, zi_ne (by omega)]; exact h3.up (x := some c)
theorem s_Match_partClass {c : Nat} (hS : zs_H h) (hA : zq_MA q) (hm : zq_m C 12 (q + 1) (q + 2) h) (hc : c < 12) (hq : ∀ h', zs_H h' → zh_eq (fun y => y = q + 1 ∨ y = q + 2) h h' → zq_m (va_up C c none) 12 (q + 1) (q + 2) h' → Q (.inl none) h') : zp_wm X y_Match_partClass [.ref q, .int (nI c)] h Q := by
  obtain ⟨hA0, hA1, hA2, hA3, hA4⟩ := hA
  obtain ⟨h1, h2, F, h3, h4, h5⟩ := hm
  have e1 := h1 c hc
  show zp_wp X y_Match_partClass 0 [.ref q, .int (nI c), zm_mk] [] h Q
  cases hx : C c with
  | none =>
    rw [hx] at e1
    refine zp_iload_n (x := (nI c)) rfl rfl ?_
    refine zp_ifF (tgt := 41) rfl rfl (zc_lt (by omega)) ?_
    refine zp_iload_n (x := (nI c)) rfl rfl ?_
    refine zp_bipush (v := (nI 12)) rfl (by decide +kernel) ?_
    refine zp_icmpN_ge (tgt := 41) rfl rfl (by omega) (by omega) (fun b7 => ?_) (fun b7 => ?_)
    · omega
    · refine zp_aload_n (x := q) rfl rfl ?_
      refine zq_getr (k9 := (q + 1)) hS rfl (by first | assumption | exact ⟨by decide, rfl⟩) rfl ?_
      refine zp_iload_n (x := (nI c)) rfl rfl ?_
      refine zq_iald hS rfl (by first | assumption | exact ⟨by decide, rfl⟩) (by omega) (by first | decide | omega) ?_
      rw [e1]
      refine zp_istore_n_2 rfl rfl ?_
      refine zp_iload_n (x := (-1)) rfl rfl ?_
      refine zp_ifT (tgt := 34) rfl rfl (by decide +kernel) ?_
      refine zp_aload_n (x := q) rfl rfl ?_
      refine zq_getr (k9 := (q + 1)) hS rfl (by first | assumption | exact ⟨by decide, rfl⟩) rfl ?_
      refine zp_iload_n (x := (nI c)) rfl rfl ?_
      refine zp_iconst (v := (-1)) rfl (by decide +kernel) ?_
      refine zq_iast hS rfl (by first | assumption | exact ⟨by decide, rfl⟩) (by omega) (by first | decide | omega) (fun hS40 => ?_)
      have hS := hS40
      refine zp_vret rfl rfl ?_
      refine hq _ hS (zh_eq.rf.zi (Or.inl rfl)) ⟨?_, h2.up (fun j hj => by cases hj), F, ?_, h4, ?_⟩
      · rw [zi_at]; exact h1.up (x := none)
      · rw [zi_ne (by omega)]; exact h3
      · rw [va_up_n hx]; exact h5
  | some p =>
    rw [hx] at e1
    have hp := h2 c hc p hx
    refine zp_iload_n (x := (nI c)) rfl rfl ?_
    refine zp_ifF (tgt := 41) rfl rfl (zc_lt (by omega)) ?_
    refine zp_iload_n (x := (nI c)) rfl rfl ?_
    refine zp_bipush (v := (nI 12)) rfl (by decide +kernel) ?_
    refine zp_icmpN_ge (tgt := 41) rfl rfl (by omega) (by omega) (fun b7 => ?_) (fun b7 => ?_)
    · omega
    · refine zp_aload_n (x := q) rfl rfl ?_
      refine zq_getr (k9 := (q + 1)) hS rfl (by first | assumption | exact ⟨by decide, rfl⟩) rfl ?_
      refine zp_iload_n (x := (nI c)) rfl rfl ?_
      refine zq_iald hS rfl (by first | assumption | exact ⟨by decide, rfl⟩) (by omega) (by first | decide | omega) ?_
      rw [e1]
      refine zp_istore_n_2 rfl rfl ?_
      refine zp_iload_n (x := (nI p)) rfl rfl ?_
      refine zp_ifF (tgt := 34) rfl rfl (zc_lt (by omega)) ?_
      refine zp_iload_n (x := (nI p)) rfl rfl ?_
      refine zp_bipush (v := (nI 12)) rfl (by decide +kernel) ?_
      refine zp_icmpN_ge (tgt := 34) rfl rfl (by omega) (by omega) (fun b24 => ?_) (fun b24 => ?_)
      · omega
      · refine zp_aload_n (x := q) rfl rfl ?_
        refine zq_getr (k9 := (q + 2)) hS rfl (by first | assumption | exact ⟨by decide, rfl⟩) rfl ?_
        refine zp_iload_n (x := (nI p)) rfl rfl ?_
        refine zp_iconst (v := (-1)) rfl (by decide +kernel) ?_
        refine zq_iast hS rfl (by first | assumption | exact ⟨by decide, rfl⟩) (by omega) (by first | decide | omega) (fun hS33 => ?_)
        have hS := hS33
        refine zp_aload_n (x := q) rfl rfl ?_
        refine zq_getr (k9 := (q + 1)) hS rfl (by first | assumption | exact ⟨by decide, rfl⟩) rfl ?_
        refine zp_iload_n (x := (nI c)) rfl rfl ?_
        refine zp_iconst (v := (-1)) rfl (by decide +kernel) ?_
        refine zq_iast hS rfl (by first | assumption | exact ⟨by decide, rfl⟩) (by omega) (by first | decide | omega) (fun hS40 => ?_)
        have hS := hS40
        refine zp_vret rfl rfl ?_
        refine hq _ hS ((zh_eq.rf.zi (Or.inr rfl)).zi (Or.inl rfl)) ⟨?_, h2.up (fun j hj => by cases hj), va_up F p none, ?_, h4.up (fun j hj => by cases hj), h5.part hc hp hx⟩
        · rw [zi_at, zi_ne (by omega)]; exact h1.up (x := none)
        · rw [zi_ne (by omega), zi_at]; exact h3.up (x := none)
theorem s_Match_partMember {c : Nat} (hS : zs_H h) (hA : zq_MA q) (hm : zq_m C 40 (q + 3) (q + 4) h) (hc : c < 40) (hq : ∀ h', zs_H h' → zh_eq (fun y => y = q + 3 ∨ y = q + 4) h h' → zq_m (va_up C c none) 40 (q + 3) (q + 4) h' → Q (.inl none) h') : zp_wm X y_Match_partMember [.ref q, .int (nI c)] h Q := by
  obtain ⟨hA0, hA1, hA2, hA3, hA4⟩ := hA
  obtain ⟨h1, h2, F, h3, h4, h5⟩ := hm
  have e1 := h1 c hc
  show zp_wp X y_Match_partMember 0 [.ref q, .int (nI c), zm_mk] [] h Q
  cases hx : C c with
  | none =>
    rw [hx] at e1
    refine zp_iload_n (x := (nI c)) rfl rfl ?_
    refine zp_ifF (tgt := 41) rfl rfl (zc_lt (by omega)) ?_
    refine zp_iload_n (x := (nI c)) rfl rfl ?_
    refine zp_bipush (v := (nI 40)) rfl (by decide +kernel) ?_
    refine zp_icmpN_ge (tgt := 41) rfl rfl (by omega) (by omega) (fun b7 => ?_) (fun b7 => ?_)
    · omega
    · refine zp_aload_n (x := q) rfl rfl ?_
      refine zq_getr (k9 := (q + 3)) hS rfl (by first | assumption | exact ⟨by decide, rfl⟩) rfl ?_
      refine zp_iload_n (x := (nI c)) rfl rfl ?_
      refine zq_iald hS rfl (by first | assumption | exact ⟨by decide, rfl⟩) (by omega) (by first | decide | omega) ?_
      rw [e1]
      refine zp_istore_n_2 rfl rfl ?_
      refine zp_iload_n (x := (-1)) rfl rfl ?_
      refine zp_ifT (tgt := 34) rfl rfl (by decide +kernel) ?_
      refine zp_aload_n (x := q) rfl rfl ?_
      refine zq_getr (k9 := (q + 3)) hS rfl (by first | assumption | exact ⟨by decide, rfl⟩) rfl ?_
      refine zp_iload_n (x := (nI c)) rfl rfl ?_
      refine zp_iconst (v := (-1)) rfl (by decide +kernel) ?_
      refine zq_iast hS rfl (by first | assumption | exact ⟨by decide, rfl⟩) (by omega) (by first | decide | omega) (fun hS40 => ?_)
      have hS := hS40
      refine zp_vret rfl rfl ?_
      refine hq _ hS (zh_eq.rf.zi (Or.inl rfl)) ⟨?_, h2.up (fun j hj => by cases hj), F, ?_, h4, ?_⟩
      · rw [zi_at]; exact h1.up (x := none)
      · rw [zi_ne (by omega)]; exact h3
      · rw [va_up_n hx]; exact h5
  | some p =>
    rw [hx] at e1
    have hp := h2 c hc p hx
    refine zp_iload_n (x := (nI c)) rfl rfl ?_
    refine zp_ifF (tgt := 41) rfl rfl (zc_lt (by omega)) ?_
    refine zp_iload_n (x := (nI c)) rfl rfl ?_
    refine zp_bipush (v := (nI 40)) rfl (by decide +kernel) ?_
    refine zp_icmpN_ge (tgt := 41) rfl rfl (by omega) (by omega) (fun b7 => ?_) (fun b7 => ?_)
    · omega
    · refine zp_aload_n (x := q) rfl rfl ?_
      refine zq_getr (k9 := (q + 3)) hS rfl (by first | assumption | exact ⟨by decide, rfl⟩) rfl ?_
      refine zp_iload_n (x := (nI c)) rfl rfl ?_
      refine zq_iald hS rfl (by first | assumption | exact ⟨by decide, rfl⟩) (by omega) (by first | decide | omega) ?_
      rw [e1]
      refine zp_istore_n_2 rfl rfl ?_
      refine zp_iload_n (x := (nI p)) rfl rfl ?_
      refine zp_ifF (tgt := 34) rfl rfl (zc_lt (by omega)) ?_
      refine zp_iload_n (x := (nI p)) rfl rfl ?_
      refine zp_bipush (v := (nI 40)) rfl (by decide +kernel) ?_
      refine zp_icmpN_ge (tgt := 34) rfl rfl (by omega) (by omega) (fun b24 => ?_) (fun b24 => ?_)
      · omega
      · refine zp_aload_n (x := q) rfl rfl ?_
        refine zq_getr (k9 := (q + 4)) hS rfl (by first | assumption | exact ⟨by decide, rfl⟩) rfl ?_
        refine zp_iload_n (x := (nI p)) rfl rfl ?_
        refine zp_iconst (v := (-1)) rfl (by decide +kernel) ?_
        refine zq_iast hS rfl (by first | assumption | exact ⟨by decide, rfl⟩) (by omega) (by first | decide | omega) (fun hS33 => ?_)
        have hS := hS33
        refine zp_aload_n (x := q) rfl rfl ?_
        refine zq_getr (k9 := (q + 3)) hS rfl (by first | assumption | exact ⟨by decide, rfl⟩) rfl ?_
        refine zp_iload_n (x := (nI c)) rfl rfl ?_
        refine zp_iconst (v := (-1)) rfl (by decide +kernel) ?_
        refine zq_iast hS rfl (by first | assumption | exact ⟨by decide, rfl⟩) (by omega) (by first | decide | omega) (fun hS40 => ?_)
        have hS := hS40
        refine zp_vret rfl rfl ?_
        refine hq _ hS ((zh_eq.rf.zi (Or.inr rfl)).zi (Or.inl rfl)) ⟨?_, h2.up (fun j hj => by cases hj), va_up F p none, ?_, h4.up (fun j hj => by cases hj), h5.part hc hp hx⟩
        · rw [zi_at, zi_ne (by omega)]; exact h1.up (x := none)
        · rw [zi_ne (by omega), zi_at]; exact h3.up (x := none)
end ZP11
