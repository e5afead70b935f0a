/-! the reference: copying, looking, names -/
abbrev zch : Type := Nat × Nat × Nat × Nat × Nat
/-- a whole state: base, version 0, version 1; the log's 30 places, how many; outcomes: how many, which -/
abbrev zst : Type := (zv × zv × zv) × ((Nat → zch) × Nat) × Nat × (Nat → Int32)
def g_b (s : zst) : zv := s.1.1
def g_0 (s : zst) : zv := s.1.2.1
def g_1 (s : zst) : zv := s.1.2.2
def g_L (s : zst) : Nat → zch := s.2.1.1
def g_n (s : zst) : Nat := s.2.1.2
def g_k (s : zst) : Nat := s.2.2.1
def g_O (s : zst) : Nat → Int32 := s.2.2.2
def i2n (x : Int32) : Nat := x.toNatClampNeg
def g_isC (x : Int32) : Bool := decide (65 ≤ x) && decide (x ≤ 90)
def g_isM (x : Int32) : Bool := decide (97 ≤ x) && decide (x ≤ 122)
def g_ver (x : Int32) : Bool := decide (x = 0) || decide (x = 1)
theorem nI_i2n {x : Int32} (h : 0 ≤ x) : nI (i2n x) = x := by
  have h0 : (0 : Int) ≤ x.toInt := by have := Int32.le_iff_toInt_le.mp h; simpa using this
  apply Int32.toInt.inj
  have h1 : x.toInt < 2 ^ 31 := Int32.toInt_lt x
  have h2 : x.toNatClampNeg < 2 ^ 31 := by unfold Int32.toNatClampNeg; omega
  have h3 : (nI (x.toNatClampNeg)).toInt = (x.toNatClampNeg : Int) := Int32.toInt_ofNat_of_lt h2
  show (nI (x.toNatClampNeg)).toInt = x.toInt
  rw [h3]
  unfold Int32.toNatClampNeg
  omega
theorem g_isC_n {x : Int32} (h : g_isC x = true) : nI (i2n x) = x ∧ 65 ≤ i2n x ∧ i2n x ≤ 90 := by
  simp only [g_isC, Bool.and_eq_true, decide_eq_true_eq] at h
  obtain ⟨h1, h2⟩ := h
  have h1 := Int32.le_iff_toInt_le.mp h1
  have h2 := Int32.le_iff_toInt_le.mp h2
  have e1 : (65 : Int32).toInt = 65 := by decide
  have e2 : (90 : Int32).toInt = 90 := by decide
  refine ⟨nI_i2n (Int32.le_iff_toInt_le.mpr (by simp; omega)), ?_, ?_⟩ <;> unfold i2n Int32.toNatClampNeg <;> omega
theorem g_isM_n {x : Int32} (h : g_isM x = true) : nI (i2n x) = x ∧ 97 ≤ i2n x ∧ i2n x ≤ 122 := by
  simp only [g_isM, Bool.and_eq_true, decide_eq_true_eq] at h
  obtain ⟨h1, h2⟩ := h
  have h1 := Int32.le_iff_toInt_le.mp h1
  have h2 := Int32.le_iff_toInt_le.mp h2
  have e1 : (97 : Int32).toInt = 97 := by decide
  have e2 : (122 : Int32).toInt = 122 := by decide
  refine ⟨nI_i2n (Int32.le_iff_toInt_le.mpr (by simp; omega)), ?_, ?_⟩ <;> unfold i2n Int32.toNatClampNeg <;> omega
theorem g_ver_in {x : Int32} : (if nI 0 ≤ x ∧ x ≤ nI 1 then (1 : Int32) else 0) = zf_b (g_ver x) := by
  unfold g_ver
  have e0 : (nI 0).toInt = 0 := by decide
  have e1 : (nI 1).toInt = 1 := by decide
  have f0 : (0 : Int32).toInt = 0 := by decide
  have f1 : (1 : Int32).toInt = 1 := by decide
  by_cases h0 : x = 0
  · subst h0; decide +kernel
  · by_cases h1 : x = 1
    · subst h1; decide +kernel
    · rw [if_neg]
      · simp [h0, h1, zf_b]
      · intro q
        have q1 := Int32.le_iff_toInt_le.mp q.1
        have q2 := Int32.le_iff_toInt_le.mp q.2
        have : x.toInt = 0 ∨ x.toInt = 1 := by omega
        rcases this with t | t
        · exact h0 (Int32.toInt.inj (by rw [t, f0]))
        · exact h1 (Int32.toInt.inj (by rw [t, f1]))
theorem g_isC_in {x : Int32} : (if nI 65 ≤ x ∧ x ≤ nI 90 then (1 : Int32) else 0) = zf_b (g_isC x) := by
  unfold g_isC
  have e0 : nI 65 = 65 := by decide
  have e1 : nI 90 = 90 := by decide
  rw [e0, e1]
  by_cases h1 : 65 ≤ x <;> by_cases h2 : x ≤ 90 <;> simp [h1, h2, zf_b]
theorem g_isM_in {x : Int32} : (if nI 97 ≤ x ∧ x ≤ nI 122 then (1 : Int32) else 0) = zf_b (g_isM x) := by
  unfold g_isM
  have e0 : nI 97 = 97 := by decide
  have e1 : nI 122 = 122 := by decide
  rw [e0, e1]
  by_cases h1 : 97 ≤ x <;> by_cases h2 : x ≤ 122 <;> simp [h1, h2, zf_b]
theorem zb_ne {a b : Nat} (h : ¬ a = b) : (a == b) = false := by simp [h]
theorem zb_eq {a b : Nat} (h : a = b) : (a == b) = true := by simp [h]
theorem zf_b01 (b : Bool) : zf_b b = 0 ∨ zf_b b = 1 := by cases b <;> decide
section ZR6
variable {X : zm_X} {h : zm_H} {Q : zm_O → zm_H → Prop} {V : zv} {r : Nat}
theorem s_Mod_copies {q0 q1 : Nat} (hS : zs_H h) (h0 : zs_I q0 1704) (h1 : zs_I q1 1704) (hne : q0 ≠ q1) (hq : ∀ h', zs_H h' → zh_eq (fun x => x = q1) h h' → (∀ k, k < 1704 → ci h' q1 k = ci h q0 k) → Q (.inl none) h') : zp_wm X y_Mod_copies [.ref q0, .ref q1] h Q := by
  show zp_wp X y_Mod_copies 0 [.ref q0, .ref q1, zm_mk] [] h Q
  have lp : ∀ k i h', i + k = 1704 → zs_H h' → zh_eq (fun x => x = q1) h h' → (∀ k, k < i → ci h' q1 k = ci h q0 k) → zp_wp X y_Mod_copies 2 [.ref q0, .ref q1, .int (nI i)] [] h' Q := by
    intro k
    induction k with
    | zero =>
      intro i h' hi hS he hc
      refine zp_iload_n (x := (nI i)) rfl rfl ?_
      refine zp_sipush (v := (nI 1704)) rfl (by decide +kernel) ?_
      refine zp_icmpN_ge (tgt := 21) rfl rfl (by omega) (by omega) (fun b6 => ?_) (fun b6 => ?_)
      · refine zp_vret rfl rfl ?_
        exact hq h' hS he (fun k hk => hc k (by omega))
      · omega
    | succ k ih =>
      intro i h' hi hS he hc
      refine zp_iload_n (x := (nI i)) rfl rfl ?_
      refine zp_sipush (v := (nI 1704)) rfl (by decide +kernel) ?_
      refine zp_icmpN_ge (tgt := 21) rfl rfl (by omega) (by omega) (fun b6 => ?_) (fun b6 => ?_)
      · omega
      · refine zp_aload_n (x := q1) rfl rfl ?_
        refine zp_iload_n (x := (nI i)) rfl rfl ?_
        refine zp_aload_n (x := q0) rfl rfl ?_
        refine zp_iload_n (x := (nI i)) rfl rfl ?_
        refine zq_iald hS rfl (by first | assumption | exact ⟨by decide, rfl⟩) (by omega) (by decide) ?_
        refine zq_iast hS rfl (by first | assumption | exact ⟨by decide, rfl⟩) (by omega) (by decide) (fun hS14 => ?_)
        have hS := hS14
        refine zp_iincN_2 rfl rfl ?_
        refine zp_goto (tgt := 2) rfl rfl ?_
        refine ih (i + 1) _ (by omega) hS (he.zi rfl) (fun j hj => ?_)
        rw [zi_at]
        by_cases e : j = i
        · subst e; rw [pk_us, he.gi hne]
        · rw [pk_un e]; exact hc j (by omega)
  refine zp_iconst (v := (nI 0)) rfl (by decide +kernel) ?_
  refine zp_istore_n_2 rfl rfl ?_
  exact lp 1704 0 h rfl hS zh_eq.rf (fun k hk => absurd hk (by omega))
theorem s_Mod_copiesLog {q0 q1 : Nat} (hS : zs_H h) (h0 : zs_I q0 150) (h1 : zs_I q1 150) (hne : q0 ≠ q1) (hq : ∀ h', zs_H h' → zh_eq (fun x => x = q1) h h' → (∀ k, k < 150 → ci h' q1 k = ci h q0 k) → Q (.inl none) h') : zp_wm X y_Mod_copiesLog [.ref q0, .ref q1] h Q := by
  show zp_wp X y_Mod_copiesLog 0 [.ref q0, .ref q1, zm_mk] [] h Q
  have lp : ∀ k i h', i + k = 150 → zs_H h' → zh_eq (fun x => x = q1) h h' → (∀ k, k < i → ci h' q1 k = ci h q0 k) → zp_wp X y_Mod_copiesLog 2 [.ref q0, .ref q1, .int (nI i)] [] h' Q := by
    intro k
    induction k with
    | zero =>
      intro i h' hi hS he hc
      refine zp_iload_n (x := (nI i)) rfl rfl ?_
      refine zp_sipush (v := (nI 150)) rfl (by decide +kernel) ?_
      refine zp_icmpN_ge (tgt := 21) rfl rfl (by omega) (by omega) (fun b6 => ?_) (fun b6 => ?_)
      · refine zp_vret rfl rfl ?_
        exact hq h' hS he (fun k hk => hc k (by omega))
      · omega
    | succ k ih =>
      intro i h' hi hS he hc
      refine zp_iload_n (x := (nI i)) rfl rfl ?_
      refine zp_sipush (v := (nI 150)) rfl (by decide +kernel) ?_
      refine zp_icmpN_ge (tgt := 21) rfl rfl (by omega) (by omega) (fun b6 => ?_) (fun b6 => ?_)
      · omega
      · refine zp_aload_n (x := q1) rfl rfl ?_
        refine zp_iload_n (x := (nI i)) rfl rfl ?_
        refine zp_aload_n (x := q0) rfl rfl ?_
        refine zp_iload_n (x := (nI i)) rfl rfl ?_
        refine zq_iald hS rfl (by first | assumption | exact ⟨by decide, rfl⟩) (by omega) (by decide) ?_
        refine zq_iast hS rfl (by first | assumption | exact ⟨by decide, rfl⟩) (by omega) (by decide) (fun hS14 => ?_)
        have hS := hS14
        refine zp_iincN_2 rfl rfl ?_
        refine zp_goto (tgt := 2) rfl rfl ?_
        refine ih (i + 1) _ (by omega) hS (he.zi rfl) (fun j hj => ?_)
        rw [zi_at]
        by_cases e : j = i
        · subst e; rw [pk_us, he.gi hne]
        · rw [pk_un e]; exact hc j (by omega)
  refine zp_iconst (v := (nI 0)) rfl (by decide +kernel) ?_
  refine zp_istore_n_2 rfl rfl ?_
  exact lp 150 0 h rfl hS zh_eq.rf (fun k hk => absurd hk (by omega))
/-- rows alike hold the same -/
theorem zv_R.cp {A B : Nat → Int32} (hV : zv_R V A) (he : ∀ k, k < 1704 → B k = A k) : zv_R V B := by
  obtain ⟨h1, h2, h3, h4, h5⟩ := hV
  exact ⟨fun i hi => (he _ (by omega)).trans (h1 i hi), fun i hi => (he _ (by omega)).trans (h2 i hi), fun i hi => (he _ (by omega)).trans (h3 i hi), fun i hi => (he _ (by omega)).trans (h4 i hi), fun i k hi hk => (he _ (by omega)).trans (h5 i k hi hk)⟩
theorem s_Mod_isClassName {x : Int32} (hq : Q (.inl (some (.int (zf_b (g_isC x))))) h) : zp_wm X y_Mod_isClassName [.int x] h Q := by
  show zp_wp X y_Mod_isClassName 0 [.int x] [] h Q
  refine zp_iload_n (x := x) rfl rfl ?_
  refine zp_bipush (v := (nI 65)) rfl (by decide +kernel) ?_
  refine zp_bipush (v := (nI 90)) rfl (by decide +kernel) ?_
  refine zp_call rfl rfl (s_Mod_in ?_)
  show zp_wp X y_Mod_isClassName 8 [.int x] [.int (if nI 65 ≤ x ∧ x ≤ nI 90 then (1 : Int32) else 0)] h Q
  refine zp_zret rfl rfl (by rw [g_isC_in]; exact zf_b01 _) ?_
  rw [g_isC_in]; exact hq
theorem s_Mod_isMemberName {x : Int32} (hq : Q (.inl (some (.int (zf_b (g_isM x))))) h) : zp_wm X y_Mod_isMemberName [.int x] h Q := by
  show zp_wp X y_Mod_isMemberName 0 [.int x] [] h Q
  refine zp_iload_n (x := x) rfl rfl ?_
  refine zp_bipush (v := (nI 97)) rfl (by decide +kernel) ?_
  refine zp_bipush (v := (nI 122)) rfl (by decide +kernel) ?_
  refine zp_call rfl rfl (s_Mod_in ?_)
  show zp_wp X y_Mod_isMemberName 8 [.int x] [.int (if nI 97 ≤ x ∧ x ≤ nI 122 then (1 : Int32) else 0)] h Q
  refine zp_zret rfl rfl (by rw [g_isM_in]; exact zf_b01 _) ?_
  rw [g_isM_in]; exact hq
def g_four (a m b n : Int32) : Bool := g_isC a && g_isM m && g_isC b && g_isM n
theorem s_Mod_areFour {a m b n : Int32} (hq : Q (.inl (some (.int (zf_b (g_four a m b n))))) h) : zp_wm X y_Mod_areFour [.int a, .int m, .int b, .int n] h Q := by
  show zp_wp X y_Mod_areFour 0 [.int a, .int m, .int b, .int n] [] h Q
  unfold g_four at hq
  refine zp_iload_n (x := a) rfl rfl ?_
  refine zp_call rfl rfl (s_Mod_isClassName ?_)
  cases e1 : g_isC a with
  | false =>
    show zp_wp X y_Mod_areFour 4 [.int a, .int m, .int b, .int n] [.int (nI 0)] h Q
    refine zp_ifT (tgt := 32) rfl rfl (by decide +kernel) ?_
    refine zp_iconst (v := (nI 0)) rfl (by decide +kernel) ?_
    refine zp_zret rfl rfl (by decide) ?_
    simp only [*] at hq; exact hq
  | true =>
    show zp_wp X y_Mod_areFour 4 [.int a, .int m, .int b, .int n] [.int (nI 1)] h Q
    refine zp_ifF (tgt := 32) rfl rfl (by decide +kernel) ?_
    refine zp_iload_n (x := m) rfl rfl ?_
    refine zp_call rfl rfl (s_Mod_isMemberName ?_)
    cases e2 : g_isM m with
    | false =>
      show zp_wp X y_Mod_areFour 11 [.int a, .int m, .int b, .int n] [.int (nI 0)] h Q
      refine zp_ifT (tgt := 32) rfl rfl (by decide +kernel) ?_
      refine zp_iconst (v := (nI 0)) rfl (by decide +kernel) ?_
      refine zp_zret rfl rfl (by decide) ?_
      simp only [*] at hq; exact hq
    | true =>
      show zp_wp X y_Mod_areFour 11 [.int a, .int m, .int b, .int n] [.int (nI 1)] h Q
      refine zp_ifF (tgt := 32) rfl rfl (by decide +kernel) ?_
      refine zp_iload_n (x := b) rfl rfl ?_
      refine zp_call rfl rfl (s_Mod_isClassName ?_)
      cases e3 : g_isC b with
      | false =>
        show zp_wp X y_Mod_areFour 18 [.int a, .int m, .int b, .int n] [.int (nI 0)] h Q
        refine zp_ifT (tgt := 32) rfl rfl (by decide +kernel) ?_
        refine zp_iconst (v := (nI 0)) rfl (by decide +kernel) ?_
        refine zp_zret rfl rfl (by decide) ?_
        simp only [*] at hq; exact hq
      | true =>
        show zp_wp X y_Mod_areFour 18 [.int a, .int m, .int b, .int n] [.int (nI 1)] h Q
        refine zp_ifF (tgt := 32) rfl rfl (by decide +kernel) ?_
        refine zp_iload_n (x := n) rfl rfl ?_
        refine zp_call rfl rfl (s_Mod_isMemberName ?_)
        cases e4 : g_isM n with
        | false =>
          show zp_wp X y_Mod_areFour 25 [.int a, .int m, .int b, .int n] [.int (nI 0)] h Q
          refine zp_ifT (tgt := 32) rfl rfl (by decide +kernel) ?_
          refine zp_iconst (v := (nI 0)) rfl (by decide +kernel) ?_
          refine zp_zret rfl rfl (by decide) ?_
          simp only [*] at hq; exact hq
        | true =>
          show zp_wp X y_Mod_areFour 25 [.int a, .int m, .int b, .int n] [.int (nI 1)] h Q
          refine zp_ifF (tgt := 32) rfl rfl (by decide +kernel) ?_
          refine zp_iconst (v := (nI 1)) rfl (by decide +kernel) ?_
          refine zp_goto (tgt := 33) rfl rfl ?_
          refine zp_zret rfl rfl (by decide) ?_
          simp only [*] at hq; exact hq
theorem s_Mod_fails {x : Int32} (hS : zs_H h) (hq : zs_H (zf_put h 171 9 x) → Q (.inl (some (.int (nI 0)))) (zf_put h 171 9 x)) : zp_wm X y_Mod_fails [.ref 171, .int x] h Q := by
  show zp_wp X y_Mod_fails 0 [.ref 171, .int x] [] h Q
  refine zp_aload_n (x := 171) rfl rfl ?_
  refine zp_iload_n (x := x) rfl rfl ?_
  refine zq_put hS rfl (by first | assumption | exact ⟨by decide, rfl⟩) rfl rfl (fun hS2 => ?_)
  have hS := hS2
  refine zp_iconst (v := (nI 0)) rfl (by decide +kernel) ?_
  refine zp_iret rfl rfl ?_
  exact hq hS
theorem s_Mod_thrown (hS : zs_H h) (hq : Q (.inl (some (.int (cf h 171 9)))) h) : zp_wm X y_Mod_thrown [.ref 171] h Q := by
  show zp_wp X y_Mod_thrown 0 [.ref 171] [] h Q
  refine zp_aload_n (x := 171) rfl rfl ?_
  refine zq_geti hS rfl (by first | assumption | exact ⟨by decide, rfl⟩) rfl ?_
  refine zp_iret rfl rfl ?_
  exact hq
theorem zf_at9 {h : zm_H} {a c j : Nat} {rs : List (Option Nat)} {x : Int32} (hS : zs_H (zf_put h a j x)) (ha : zs_O a c rs) (hj : rs[j]? = some none) : cf (zf_put h a j x) a j = x := by
  have hl := (zs_obj hS ha).2.1
  rw [zf_cs_at, List.length_set] at hl
  unfold cf
  rw [zf_cs_at, List.getElem?_set_self (by rw [hl]; exact (List.getElem?_eq_some_iff.mp hj).1)]
theorem s_Mod_lacksVersion {x : Int32} (hS : zs_H h) (hq : zs_H (zf_put h 171 9 (nI (cond (g_ver x) 0 1))) → Q (.inl (some (.int (zf_b (!g_ver x))))) (zf_put h 171 9 (nI (cond (g_ver x) 0 1)))) : zp_wm X y_Mod_lacksVersion [.ref 171, .int x] h Q := by
  show zp_wp X y_Mod_lacksVersion 0 [.ref 171, .int x] [] h Q
  refine zp_aload_n (x := 171) rfl rfl ?_
  refine zp_iload_n (x := x) rfl rfl ?_
  refine zp_iconst (v := (nI 0)) rfl (by decide +kernel) ?_
  refine zp_iconst (v := (nI 1)) rfl (by decide +kernel) ?_
  refine zp_call rfl rfl (s_Mod_in ?_)
  rw [g_ver_in]
  cases e1 : g_ver x with
  | false =>
    show zp_wp X y_Mod_lacksVersion 7 [.ref 171, .int x] [.int (nI 0), .ref 171] h Q
    refine zp_ifT (tgt := 14) rfl rfl (by decide +kernel) ?_
    refine zp_iconst (v := (nI 1)) rfl (by decide +kernel) ?_
    refine zq_put hS rfl (by first | assumption | exact ⟨by decide, rfl⟩) rfl rfl (fun hS15 => ?_)
    have hS := hS15
    refine zp_aload_n (x := 171) rfl rfl ?_
    refine zq_geti hS rfl (by first | assumption | exact ⟨by decide, rfl⟩) rfl ?_
    rw [zf_at9 hS15 (by first | assumption | exact ⟨by decide, rfl⟩) rfl]
    refine zp_iconst (v := (nI 1)) rfl (by decide +kernel) ?_
    refine zp_icF (tgt := 30) rfl rfl (by decide +kernel) ?_
    refine zp_iconst (v := (nI 1)) rfl (by decide +kernel) ?_
    refine zp_goto (tgt := 31) rfl rfl ?_
    refine zp_zret rfl rfl (by decide) ?_
    rw [e1] at hq; exact hq hS
  | true =>
    show zp_wp X y_Mod_lacksVersion 7 [.ref 171, .int x] [.int (nI 1), .ref 171] h Q
    refine zp_ifF (tgt := 14) rfl rfl (by decide +kernel) ?_
    refine zp_iconst (v := (nI 0)) rfl (by decide +kernel) ?_
    refine zp_goto (tgt := 15) rfl rfl ?_
    refine zq_put hS rfl (by first | assumption | exact ⟨by decide, rfl⟩) rfl rfl (fun hS15 => ?_)
    have hS := hS15
    refine zp_aload_n (x := 171) rfl rfl ?_
    refine zq_geti hS rfl (by first | assumption | exact ⟨by decide, rfl⟩) rfl ?_
    rw [zf_at9 hS15 (by first | assumption | exact ⟨by decide, rfl⟩) rfl]
    refine zp_iconst (v := (nI 1)) rfl (by decide +kernel) ?_
    refine zp_icT (tgt := 30) rfl rfl (by decide +kernel) ?_
    refine zp_iconst (v := (nI 0)) rfl (by decide +kernel) ?_
    refine zp_zret rfl rfl (by decide) ?_
    rw [e1] at hq; exact hq hS
/-- which exception a wrong version or name brings -/
def g_wr (x : Int32) (l : Bool) : Nat := cond (g_ver x) (cond l 0 2) 1
theorem s_Mod_isWrong {x : Int32} {l : Bool} (hS : zs_H h) (hq : zs_H (zf_put h 171 9 (nI (g_wr x l))) → Q (.inl (some (.int (zf_b (!(g_wr x l == 0)))))) (zf_put h 171 9 (nI (g_wr x l)))) : zp_wm X y_Mod_isWrong [.ref 171, .int x, .int (zf_b l)] h Q := by
  unfold g_wr at hq
  cases l with
  | false =>
    show zp_wp X y_Mod_isWrong 0 [.ref 171, .int x, .int (nI 0)] [] h Q
    refine zp_aload_n (x := 171) rfl rfl ?_
    refine zp_iload_n (x := x) rfl rfl ?_
    refine zp_iconst (v := (nI 0)) rfl (by decide +kernel) ?_
    refine zp_iconst (v := (nI 1)) rfl (by decide +kernel) ?_
    refine zp_call rfl rfl (s_Mod_in ?_)
    rw [g_ver_in]
    cases e1 : g_ver x with
    | false =>
      show zp_wp X y_Mod_isWrong 7 [.ref 171, .int x, .int (nI 0)] [.int (nI 0), .ref 171] h Q
      refine zp_ifF (tgt := 14) rfl rfl (by decide +kernel) ?_
      refine zp_iconst (v := (nI 1)) rfl (by decide +kernel) ?_
      refine zp_goto (tgt := 23) rfl rfl ?_
      refine zq_put hS rfl (by first | assumption | exact ⟨by decide, rfl⟩) rfl rfl (fun hS23 => ?_)
      have hS := hS23
      refine zp_aload_n (x := 171) rfl rfl ?_
      refine zq_geti hS rfl (by first | assumption | exact ⟨by decide, rfl⟩) rfl ?_
      rw [zf_at9 hS23 (by first | assumption | exact ⟨by decide, rfl⟩) rfl]
      refine zp_ifF (tgt := 37) rfl rfl (by decide +kernel) ?_
      refine zp_iconst (v := (nI 1)) rfl (by decide +kernel) ?_
      refine zp_goto (tgt := 38) rfl rfl ?_
      refine zp_zret rfl rfl (by decide) ?_
      rw [e1] at hq; exact hq hS
    | true =>
      show zp_wp X y_Mod_isWrong 7 [.ref 171, .int x, .int (nI 0)] [.int (nI 1), .ref 171] h Q
      refine zp_ifT (tgt := 14) rfl rfl (by decide +kernel) ?_
      refine zp_iload_n (x := (nI 0)) rfl rfl ?_
      refine zp_ifT (tgt := 22) rfl rfl (by decide +kernel) ?_
      refine zp_iconst (v := (nI 2)) rfl (by decide +kernel) ?_
      refine zq_put hS rfl (by first | assumption | exact ⟨by decide, rfl⟩) rfl rfl (fun hS23 => ?_)
      have hS := hS23
      refine zp_aload_n (x := 171) rfl rfl ?_
      refine zq_geti hS rfl (by first | assumption | exact ⟨by decide, rfl⟩) rfl ?_
      rw [zf_at9 hS23 (by first | assumption | exact ⟨by decide, rfl⟩) rfl]
      refine zp_ifF (tgt := 37) rfl rfl (by decide +kernel) ?_
      refine zp_iconst (v := (nI 1)) rfl (by decide +kernel) ?_
      refine zp_goto (tgt := 38) rfl rfl ?_
      refine zp_zret rfl rfl (by decide) ?_
      rw [e1] at hq; exact hq hS
  | true =>
    show zp_wp X y_Mod_isWrong 0 [.ref 171, .int x, .int (nI 1)] [] h Q
    refine zp_aload_n (x := 171) rfl rfl ?_
    refine zp_iload_n (x := x) rfl rfl ?_
    refine zp_iconst (v := (nI 0)) rfl (by decide +kernel) ?_
    refine zp_iconst (v := (nI 1)) rfl (by decide +kernel) ?_
    refine zp_call rfl rfl (s_Mod_in ?_)
    rw [g_ver_in]
    cases e1 : g_ver x with
    | false =>
      show zp_wp X y_Mod_isWrong 7 [.ref 171, .int x, .int (nI 1)] [.int (nI 0), .ref 171] h Q
      refine zp_ifF (tgt := 14) rfl rfl (by decide +kernel) ?_
      refine zp_iconst (v := (nI 1)) rfl (by decide +kernel) ?_
      refine zp_goto (tgt := 23) rfl rfl ?_
      refine zq_put hS rfl (by first | assumption | exact ⟨by decide, rfl⟩) rfl rfl (fun hS23 => ?_)
      have hS := hS23
      refine zp_aload_n (x := 171) rfl rfl ?_
      refine zq_geti hS rfl (by first | assumption | exact ⟨by decide, rfl⟩) rfl ?_
      rw [zf_at9 hS23 (by first | assumption | exact ⟨by decide, rfl⟩) rfl]
      refine zp_ifF (tgt := 37) rfl rfl (by decide +kernel) ?_
      refine zp_iconst (v := (nI 1)) rfl (by decide +kernel) ?_
      refine zp_goto (tgt := 38) rfl rfl ?_
      refine zp_zret rfl rfl (by decide) ?_
      rw [e1] at hq; exact hq hS
    | true =>
      show zp_wp X y_Mod_isWrong 7 [.ref 171, .int x, .int (nI 1)] [.int (nI 1), .ref 171] h Q
      refine zp_ifT (tgt := 14) rfl rfl (by decide +kernel) ?_
      refine zp_iload_n (x := (nI 1)) rfl rfl ?_
      refine zp_ifF (tgt := 22) rfl rfl (by decide +kernel) ?_
      refine zp_iconst (v := (nI 0)) rfl (by decide +kernel) ?_
      refine zp_goto (tgt := 23) rfl rfl ?_
      refine zq_put hS rfl (by first | assumption | exact ⟨by decide, rfl⟩) rfl rfl (fun hS23 => ?_)
      have hS := hS23
      refine zp_aload_n (x := 171) rfl rfl ?_
      refine zq_geti hS rfl (by first | assumption | exact ⟨by decide, rfl⟩) rfl ?_
      rw [zf_at9 hS23 (by first | assumption | exact ⟨by decide, rfl⟩) rfl]
      refine zp_ifT (tgt := 37) rfl rfl (by decide +kernel) ?_
      refine zp_iconst (v := (nI 0)) rfl (by decide +kernel) ?_
      refine zp_zret rfl rfl (by decide) ?_
      rw [e1] at hq; exact hq hS
theorem s_Mod_looks {x : Int32} {V0 V1 : zv} (hS : zs_H h) (hx : g_ver x = true) (h0 : zv_R V0 (ci h 172)) (h1 : zv_R V1 (ci h 173)) (hq : ∀ h', zs_H h' → zh_eq (fun a => a = 175) h h' → zv_R (if x = 0 then V0 else V1) (ci h' 175) → Q (.inl none) h') : zp_wm X y_Mod_looks [.ref 171, .int x] h Q := by
  show zp_wp X y_Mod_looks 0 [.ref 171, .int x] [] h Q
  refine zp_iload_n (x := x) rfl rfl ?_
  refine zp_if_ne (tgt := 11) rfl rfl (fun b1 => ?_) (fun b1 => ?_)
  · refine zp_aload_n (x := 171) rfl rfl ?_
    refine zq_getr (k9 := 173) hS rfl (by first | assumption | exact ⟨by decide, rfl⟩) rfl ?_
    refine zp_aload_n (x := 171) rfl rfl ?_
    refine zq_getr (k9 := 175) hS rfl (by first | assumption | exact ⟨by decide, rfl⟩) rfl ?_
    refine zp_call rfl rfl (s_Mod_copies hS ⟨by decide, rfl⟩ ⟨by decide, rfl⟩ (by decide) (fun h' hS he hc => ?_))
    show zp_wp X y_Mod_looks 22 [.ref 171, .int x] [] h' Q
    refine zp_vret rfl rfl ?_
    exact hq h' hS he (by first | (rw [if_pos (by simpa using b1)]; exact h0.cp hc) | (rw [if_neg b1]; exact h1.cp hc))
  · refine zp_aload_n (x := 171) rfl rfl ?_
    refine zq_getr (k9 := 172) hS rfl (by first | assumption | exact ⟨by decide, rfl⟩) rfl ?_
    refine zp_goto (tgt := 15) rfl rfl ?_
    refine zp_aload_n (x := 171) rfl rfl ?_
    refine zq_getr (k9 := 175) hS rfl (by first | assumption | exact ⟨by decide, rfl⟩) rfl ?_
    refine zp_call rfl rfl (s_Mod_copies hS ⟨by decide, rfl⟩ ⟨by decide, rfl⟩ (by decide) (fun h' hS he hc => ?_))
    show zp_wp X y_Mod_looks 22 [.ref 171, .int x] [] h' Q
    refine zp_vret rfl rfl ?_
    exact hq h' hS he (by first | (rw [if_pos (by simpa using b1)]; exact h0.cp hc) | (rw [if_neg b1]; exact h1.cp hc))
/-- the i-th class by its name -/
def v_ol (V : zv) : Nat → Nat → Nat → Option Nat
  | _, 0, _ => none
  | nm, k + 1, i => match v_cls V nm with
    | some c => if i = 0 then some c else v_ol V (nm + 1) k (i - 1)
    | none => v_ol V (nm + 1) k i
def v_ord (V : zv) (i : Nat) : Option Nat := v_ol V 65 26 i
theorem v_ol_12 {V : zv} : ∀ {k nm i c : Nat}, v_ol V nm k i = some c → c < 12
  | 0, _, _, _, h => by cases h
  | k + 1, nm, i, c, h => by
    unfold v_ol at h
    split at h
    · rename_i d hd
      split at h
      · cases h; exact (v_cls_lt hd).1
      · exact v_ol_12 h
    · exact v_ol_12 h
theorem v_ord_12 {V : zv} {i : Nat} : ∀ c, v_ord V i = some c → c < 12 := fun _ h => v_ol_12 h
theorem s_Mod_ordered {i : Nat} (hS : zs_H h) (hr : zs_I r 1704) (hV : zv_R V (ci h r)) (hB : zv_B V) (hi : i < 2 ^ 31) (hq : Q (.inl (some (.int (zf_o (v_ord V i))))) h) : zp_wm X y_Mod_ordered [.ref r, .int (nI i)] h Q := by
  show zp_wp X y_Mod_ordered 0 [.ref r, .int (nI i), zm_mk, zm_mk, zm_mk] [] h Q
  have lp : ∀ k nm j x, nm + k = 91 → j < 2 ^ 31 → v_ord V i = v_ol V nm k j → zp_wp X y_Mod_ordered 5 [.ref r, .int (nI i), .int (nI j), .int (nI nm), x] [] h Q := by
    intro k
    induction k with
    | zero =>
      intro nm j x hn hj he
      refine zp_iload_n (x := (nI nm)) rfl rfl ?_
      refine zp_bipush (v := (nI 90)) rfl (by decide +kernel) ?_
      refine zp_icmpN_gt (tgt := 49) rfl rfl (by omega) (by omega) (fun b8 => ?_) (fun b8 => ?_)
      · refine zp_iconst (v := (-1)) rfl (by decide +kernel) ?_
        refine zp_iret rfl rfl ?_
        rw [he] at hq; exact hq
      · omega
    | succ k ih =>
      intro nm j x hn hj he
      unfold v_ol at he
      refine zp_iload_n (x := (nI nm)) rfl rfl ?_
      refine zp_bipush (v := (nI 90)) rfl (by decide +kernel) ?_
      refine zp_icmpN_gt (tgt := 49) rfl rfl (by omega) (by omega) (fun b8 => ?_) (fun b8 => ?_)
      · omega
      · refine zp_aload_n (x := r) rfl rfl ?_
        refine zp_iload_n (x := (nI nm)) rfl rfl ?_
        refine zp_call rfl rfl (t_Mod_classAt hS hr hV hB (by omega) ?_)
        cases hz : v_cls V nm with
        | none =>
          show zp_wp X y_Mod_ordered 16 [.ref r, .int (nI i), .int (nI j), .int (nI nm), x] [.int (-1)] h Q
          refine zp_istore_4 rfl rfl ?_
          refine zp_iload (x := (-1)) rfl rfl ?_
          refine zp_ifT (tgt := 30) rfl rfl (by decide +kernel) ?_
          refine zp_iload_n (x := (nI j)) rfl rfl ?_
          refine zp_iload (x := (-1)) rfl rfl ?_
          refine zp_ifT (tgt := 40) rfl rfl (by decide +kernel) ?_
          refine zp_iconst (v := (nI 0)) rfl (by decide +kernel) ?_
          first | rw [hz] at he | skip
          refine zp_isubN rfl (by omega) ?_
          refine zp_istore_n_2 rfl rfl ?_
          refine zp_iincN_3 rfl rfl ?_
          refine zp_goto (tgt := 5) rfl rfl ?_
          exact ih (nm + 1) _ _ (by omega) (by omega) (by first | (simp only [b24, if_false] at he; exact he) | (simp only [hz] at he; exact he))
        | some c =>
          have hc := (v_cls_lt hz).1
          show zp_wp X y_Mod_ordered 16 [.ref r, .int (nI i), .int (nI j), .int (nI nm), x] [.int (nI c)] h Q
          refine zp_istore_4 rfl rfl ?_
          refine zp_iload (x := (nI c)) rfl rfl ?_
          refine zp_ifF (tgt := 30) rfl rfl (zc_lt (by omega)) ?_
          refine zp_iload_n (x := (nI j)) rfl rfl ?_
          refine zp_ifN_ne (tgt := 30) rfl rfl (by omega) (fun b24 => ?_) (fun b24 => ?_)
          · refine zp_iload_n (x := (nI j)) rfl rfl ?_
            refine zp_iload (x := (nI c)) rfl rfl ?_
            refine zp_ifF (tgt := 40) rfl rfl (zc_lt (by omega)) ?_
            refine zp_iconst (v := (nI 1)) rfl (by decide +kernel) ?_
            refine zp_goto (tgt := 41) rfl rfl ?_
            first | rw [hz] at he | skip
            refine zp_isubN rfl (by omega) ?_
            refine zp_istore_n_2 rfl rfl ?_
            refine zp_iincN_3 rfl rfl ?_
            refine zp_goto (tgt := 5) rfl rfl ?_
            exact ih (nm + 1) _ _ (by omega) (by omega) (by first | (simp only [b24, if_false] at he; exact he) | (simp only [hz] at he; exact he))
          · refine zp_iload (x := (nI c)) rfl rfl ?_
            refine zp_iret rfl rfl ?_
            simp only [hz, b24, if_true] at he; rw [he] at hq; exact hq
  refine zp_iload_n (x := (nI i)) rfl rfl ?_
  refine zp_istore_n_2 rfl rfl ?_
  refine zp_bipush (v := (nI 65)) rfl (by decide +kernel) ?_
  refine zp_istore_n_3 rfl rfl ?_
  exact lp 26 65 i _ rfl hi rfl
def v_sn (V : zv) (c : Nat) : Nat := if v_sp V c = 0 then 0 else v_cn V (v_sp V c - 1)
theorem s_Mod_nameOfSuper {c : Nat} (hS : zs_H h) (hr : zs_I r 1704) (hV : zv_R V (ci h r)) (hB : zv_B V) (hc : c < 12) (hq : Q (.inl (some (.int (nI (v_sn V c))))) h) : zp_wm X y_Mod_nameOfSuper [.ref r, .int (nI c)] h Q := by
  show zp_wp X y_Mod_nameOfSuper 0 [.ref r, .int (nI c)] [] h Q
  unfold v_sn at hq
  refine zp_aload_n (x := r) rfl rfl ?_
  refine zp_bipush (v := (nI 12)) rfl (by decide +kernel) ?_
  refine zp_iload_n (x := (nI c)) rfl rfl ?_
  refine zp_iaddN rfl ?_
  refine zq_iald hS rfl (by first | assumption | exact ⟨by decide, rfl⟩) (by omega) (by decide) ?_
  rw [hV.2.1 (c) (by omega)]
  have q5 := hB.2.1 (c) (by omega)
  refine zp_ifN_ne (tgt := 13) rfl rfl (by omega) (fun b6 => ?_) (fun b6 => ?_)
  · refine zp_aload_n (x := r) rfl rfl ?_
    refine zp_aload_n (x := r) rfl rfl ?_
    refine zp_bipush (v := (nI 12)) rfl (by decide +kernel) ?_
    refine zp_iload_n (x := (nI c)) rfl rfl ?_
    refine zp_iaddN rfl ?_
    refine zq_iald hS rfl (by first | assumption | exact ⟨by decide, rfl⟩) (by omega) (by decide) ?_
    rw [hV.2.1 (c) (by omega)]
    have q19 := hB.2.1 (c) (by omega)
    refine zp_iconst (v := (nI 1)) rfl (by decide +kernel) ?_
    refine zp_isubN rfl (by omega) ?_
    refine zq_iald hS rfl (by first | assumption | exact ⟨by decide, rfl⟩) (by omega) (by decide) ?_
    rw [hV.1 ((v_sp V (c)) - 1) (by omega)]
    have q22 := hB.1 ((v_sp V (c)) - 1) (by omega)
    refine zp_iret rfl rfl ?_
    first | (rw [if_pos b6] at hq; exact hq) | (rw [if_neg b6] at hq; exact hq)
  · refine zp_iconst (v := (nI 0)) rfl (by decide +kernel) ?_
    refine zp_goto (tgt := 23) rfl rfl ?_
    refine zp_iret rfl rfl ?_
    first | (rw [if_pos b6] at hq; exact hq) | (rw [if_neg b6] at hq; exact hq)
def zf_fold {α : Type} (f : Nat → α → α) : Nat → Nat → α → α
  | _, 0, a => a
  | i, k + 1, a => zf_fold f (i + 1) k (f i a)
def v_bit (n : Nat) : Int32 := nI 1 <<< ((nI n - nI 97) &&& 31)
/-- the set of the names of members of classes with S -/
def v_msk (V : zv) (S : Nat → Bool) : Int32 := zf_fold (fun m a => a ||| cond (!(v_mn V m == 0) && S (v_ow V m)) (v_bit (v_mn V m)) (nI 0)) 0 40 (nI 0)
theorem s_Mod_membersOf {c : Nat} (hS : zs_H h) (hr : zs_I r 1704) (hV : zv_R V (ci h r)) (hB : zv_B V) (hc : c < 12) (hq : Q (.inl (some (.int (v_msk V (fun o => o == c))))) h) : zp_wm X y_Mod_membersOf [.ref r, .int (nI c)] h Q := by
  show zp_wp X y_Mod_membersOf 0 [.ref r, .int (nI c), zm_mk, zm_mk] [] h Q
  have lp : ∀ k i a, i + k = 40 → v_msk V (fun o => o == c) = zf_fold (fun m a => a ||| cond (!(v_mn V m == 0) && (fun o => o == c) (v_ow V m)) (v_bit (v_mn V m)) (nI 0)) i k a → zp_wp X y_Mod_membersOf 4 [.ref r, .int (nI c), .int a, .int (nI i)] [] h Q := by
    intro k
    induction k with
    | zero =>
      intro i a hi he
      refine zp_iload_n (x := (nI i)) rfl rfl ?_
      refine zp_bipush (v := (nI 40)) rfl (by decide +kernel) ?_
      refine zp_icmpN_ge (tgt := 53) rfl rfl (by omega) (by omega) (fun b7 => ?_) (fun b7 => ?_)
      · refine zp_iload_n (x := a) rfl rfl ?_
        refine zp_iret rfl rfl ?_
        rw [he] at hq; exact hq
      · omega
    | succ k ih =>
      intro i a hi he
      unfold zf_fold at he
      refine zp_iload_n (x := (nI i)) rfl rfl ?_
      refine zp_bipush (v := (nI 40)) rfl (by decide +kernel) ?_
      refine zp_icmpN_ge (tgt := 53) rfl rfl (by omega) (by omega) (fun b7 => ?_) (fun b7 => ?_)
      · omega
      · refine zp_iload_n (x := a) rfl rfl ?_
        refine zp_aload_n (x := r) rfl rfl ?_
        refine zp_bipush (v := (nI 24)) rfl (by decide +kernel) ?_
        refine zp_iload_n (x := (nI i)) rfl rfl ?_
        refine zp_iaddN rfl ?_
        refine zq_iald hS rfl (by first | assumption | exact ⟨by decide, rfl⟩) (by omega) (by decide) ?_
        rw [hV.2.2.1 (i) (by omega)]
        have q16 := hB.2.2.1 (i) (by omega)
        refine zp_ifN_eq (tgt := 44) rfl rfl (by omega) (fun b17 => ?_) (fun b17 => ?_)
        · refine zp_iconst (v := (nI 0)) rfl (by decide +kernel) ?_
          refine zp_ior rfl rfl ?_
          refine zp_istore_n_2 rfl rfl ?_
          refine zp_iincN_3 rfl rfl ?_
          refine zp_goto (tgt := 4) rfl rfl ?_
          exact ih (i + 1) _ (by omega) (by rw [he]; congr 2; first | (simp [zb_ne b17, zb_eq b27, v_bit]; done) | (simp [zb_ne b17, zb_ne b27]; done) | (simp [b17]; done))
        · refine zp_aload_n (x := r) rfl rfl ?_
          refine zp_bipush (v := (nI 64)) rfl (by decide +kernel) ?_
          refine zp_iload_n (x := (nI i)) rfl rfl ?_
          refine zp_iaddN rfl ?_
          refine zq_iald hS rfl (by first | assumption | exact ⟨by decide, rfl⟩) (by omega) (by decide) ?_
          rw [hV.2.2.2.1 (i) (by omega)]
          have q25 := hB.2.2.2 (i) (by omega)
          refine zp_iload_n (x := (nI c)) rfl rfl ?_
          refine zp_icmpN_ne (tgt := 44) rfl rfl (by omega) (by omega) (fun b27 => ?_) (fun b27 => ?_)
          · refine zp_iconst (v := (nI 0)) rfl (by decide +kernel) ?_
            refine zp_ior rfl rfl ?_
            refine zp_istore_n_2 rfl rfl ?_
            refine zp_iincN_3 rfl rfl ?_
            refine zp_goto (tgt := 4) rfl rfl ?_
            exact ih (i + 1) _ (by omega) (by rw [he]; congr 2; first | (simp [zb_ne b17, zb_eq b27, v_bit]; done) | (simp [zb_ne b17, zb_ne b27]; done) | (simp [b17]; done))
          · refine zp_iconst (v := (nI 1)) rfl (by decide +kernel) ?_
            refine zp_aload_n (x := r) rfl rfl ?_
            refine zp_bipush (v := (nI 24)) rfl (by decide +kernel) ?_
            refine zp_iload_n (x := (nI i)) rfl rfl ?_
            refine zp_iaddN rfl ?_
            refine zq_iald hS rfl (by first | assumption | exact ⟨by decide, rfl⟩) (by omega) (by decide) ?_
            rw [hV.2.2.1 (i) (by omega)]
            have q36 := hB.2.2.1 (i) (by omega)
            refine zp_bipush (v := (nI 97)) rfl (by decide +kernel) ?_
            refine zp_isub rfl rfl ?_
            refine zp_ishl rfl rfl ?_
            refine zp_goto (tgt := 45) rfl rfl ?_
            refine zp_ior rfl rfl ?_
            refine zp_istore_n_2 rfl rfl ?_
            refine zp_iincN_3 rfl rfl ?_
            refine zp_goto (tgt := 4) rfl rfl ?_
            exact ih (i + 1) _ (by omega) (by rw [he]; congr 2; first | (simp [zb_ne b17, zb_eq b27, v_bit]; done) | (simp [zb_ne b17, zb_ne b27]; done) | (simp [b17]; done))
  refine zp_iconst (v := (nI 0)) rfl (by decide +kernel) ?_
  refine zp_istore_n_2 rfl rfl ?_
  refine zp_iconst (v := (nI 0)) rfl (by decide +kernel) ?_
  refine zp_istore_n_3 rfl rfl ?_
  exact lp 40 0 _ rfl rfl
end ZR6
