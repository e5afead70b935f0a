/-! the class: a program in its seven cells, and what its looking methods answer -/
abbrev q_rs (p : Nat) : List (Option Nat) := [some (p + 1), some (p + 2), some (p + 3), some (p + 4), some (p + 5), some (p + 6)]
def zq_A (p : Nat) : Prop := zs_O p 4 (q_rs p) ∧ zs_I (p + 1) 12 ∧ zs_I (p + 2) 12 ∧ zs_I (p + 3) 12 ∧ zs_I (p + 4) 40 ∧ zs_I (p + 5) 40 ∧ zs_J (p + 6) 40
/-- a member's class, if it is there; a class's superclass, if it is there and has one; its ancestors -/
def v_own (V : zv) (m : Nat) : Option Nat := if v_mn V m = 0 then none else some (v_ow V m)
def v_par (V : zv) (c : Nat) : Option Nat := if v_cn V c = 0 then none else v_pr (v_sp V c)
def v_anc (V : zv) (c u : Nat) : Bool := !(v_cn V c == 0) && v_up V (v_pr (v_sp V c)) u 11
def zq_P (V : zv) (p : Nat) (h : zm_H) : Prop := (∀ c, c < 12 → ci h (p + 1) c = nI (v_cn V c)) ∧ (∀ c, c < 12 → ci h (p + 2) c = zf_o (v_par V c)) ∧ (∀ c, c < 12 → ∀ k, k < 32 → bt (ci h (p + 3) c) k = v_anc V c k) ∧ (∀ m, m < 40 → ci h (p + 4) m = nI (v_mn V m)) ∧ (∀ m, m < 40 → ci h (p + 5) m = zf_o (v_own V m)) ∧ (∀ m, m < 40 → ∀ k, k < 64 → bl (cj h (p + 6) m) k = (decide (k < 40) && v_us V m k))
theorem zq_P.cn {V : zv} {p : Nat} {h : zm_H} (a : zq_P V p h) : ∀ c, c < 12 → ci h (p + 1) c = nI (v_cn V c) := a.1
theorem zq_P.sp {V : zv} {p : Nat} {h : zm_H} (a : zq_P V p h) : ∀ c, c < 12 → ci h (p + 2) c = zf_o (v_par V c) := a.2.1
theorem zq_P.ab {V : zv} {p : Nat} {h : zm_H} (a : zq_P V p h) : ∀ c, c < 12 → ∀ k, k < 32 → bt (ci h (p + 3) c) k = v_anc V c k := a.2.2.1
theorem zq_P.mn {V : zv} {p : Nat} {h : zm_H} (a : zq_P V p h) : ∀ m, m < 40 → ci h (p + 4) m = nI (v_mn V m) := a.2.2.2.1
theorem zq_P.ow {V : zv} {p : Nat} {h : zm_H} (a : zq_P V p h) : ∀ m, m < 40 → ci h (p + 5) m = zf_o (v_own V m) := a.2.2.2.2.1
theorem zq_P.us {V : zv} {p : Nat} {h : zm_H} (a : zq_P V p h) : ∀ m, m < 40 → ∀ k, k < 64 → bl (cj h (p + 6) m) k = (decide (k < 40) && v_us V m k) := a.2.2.2.2.2
theorem zq_P.eq {V : zv} {p : Nat} {S : Nat → Prop} {h h' : zm_H} (a : zq_P V p h) (e : zh_eq S h h') (hS : ∀ x, p < x → x ≤ p + 6 → ¬ S x) : zq_P V p h' := by
  unfold zq_P
  rw [e.gi (hS (p + 1) (by omega) (by omega)), e.gi (hS (p + 2) (by omega) (by omega)), e.gi (hS (p + 3) (by omega) (by omega)), e.gi (hS (p + 4) (by omega) (by omega)), e.gi (hS (p + 5) (by omega) (by omega)), e.gj (hS (p + 6) (by omega) (by omega))]
  exact a
theorem v_own_l {V : zv} {m : Nat} (h : v_mn V m ≠ 0) : v_own V m = some (v_ow V m) := by unfold v_own; rw [if_neg h]
theorem v_own_o {V : zv} {m : Nat} (h : v_mn V m ≠ 0) : zf_o (v_own V m) = nI (v_ow V m) := by rw [v_own_l h]; rfl
theorem v_own_s {V : zv} {m o : Nat} (h : v_own V m = some o) : v_mn V m ≠ 0 ∧ v_ow V m = o := by
  unfold v_own at h
  split at h
  · cases h
  · rename_i q; injection h with h; exact ⟨q, h⟩
theorem v_own_n {V : zv} {m : Nat} (h : v_own V m = none) : v_mn V m = 0 := by
  unfold v_own at h
  split at h
  · assumption
  · cases h
theorem zf_o_eq' {c : Option Nat} {u : Nat} (hc : ∀ i, c = some i → i < 2 ^ 31) (hu : u < 2 ^ 31) : zf_o c = nI u ↔ c = some u := ⟨fun q => (zf_o_eq hc hu).mp q.symm, fun q => ((zf_o_eq hc hu).mpr q).symm⟩
theorem b_or0 (a : Int32) : a ||| nI 0 = a := b_ext (fun i _ => by rw [b_or, b_0, Bool.or_false])
theorem zf_any_cong {p q : Nat → Bool} : ∀ {k c : Nat}, (∀ j, c ≤ j → j < c + k → p j = q j) → zf_any p c k = zf_any q c k
  | 0, _, _ => rfl
  | k + 1, c, h => by
    unfold zf_any
    rw [h c (Nat.le_refl _) (by omega), zf_any_cong (fun j h1 h2 => h j (by omega) (by omega))]
theorem zf_ct_add {p : Nat → Bool} : ∀ (a b c : Nat), zf_ct p c (a + b) = zf_ct p c a + zf_ct p (c + a) b
  | 0, b, c => by rw [Nat.zero_add]; show _ = 0 + zf_ct p (c + 0) b; rw [Nat.zero_add]; rfl
  | a + 1, b, c => by
    rw [show a + 1 + b = (a + b) + 1 by omega]
    show cond (p c) 1 0 + zf_ct p (c + 1) (a + b) = cond (p c) 1 0 + zf_ct p (c + 1) a + zf_ct p (c + (a + 1)) b
    rw [zf_ct_add a b (c + 1), show c + 1 + a = c + (a + 1) by omega, Nat.add_assoc]
theorem zf_ct_0 {p : Nat → Bool} : ∀ {k c : Nat}, (∀ j, c ≤ j → j < c + k → p j = false) → zf_ct p c k = 0
  | 0, _, _ => rfl
  | k + 1, c, h => by
    unfold zf_ct
    rw [h c (Nat.le_refl _) (by omega), zf_ct_0 (fun j h1 h2 => h j (by omega) (by omega))]
    rfl
theorem zf_ct_sh {p : Nat → Bool} (s : Nat) : ∀ {k c : Nat}, zf_ct p (c + s) k = zf_ct (fun j => p (j + s)) c k
  | 0, _ => rfl
  | k + 1, c => by
    unfold zf_ct
    rw [show c + s + 1 = c + 1 + s by omega, zf_ct_sh s]
/-- the uses of V, row by row -/
def v_ur (V : zv) : Nat → Nat → Nat
  | _, 0 => 0
  | u, k + 1 => zf_ct (v_us V u) 0 40 + v_ur V (u + 1) k
theorem v_ur_s (V : zv) (u k : Nat) : v_ur V u (k + 1) = zf_ct (v_us V u) 0 40 + v_ur V (u + 1) k := by rw [v_ur]
theorem v_ur_r (V : zv) (u n : Nat) (hn : n ≤ 40) : zf_ct (fun i => v_us V (i / 40) (i % 40)) (40 * u) n = zf_ct (v_us V u) 0 n := by
  have e := zf_ct_sh (p := fun i => v_us V (i / 40) (i % 40)) (40 * u) (k := n) (c := 0)
  rw [Nat.zero_add] at e
  rw [e]
  apply zf_ct_cong
  intro j _ hj
  rw [show (j + 40 * u) / 40 = u by omega, show (j + 40 * u) % 40 = j by omega]
theorem v_ur_ct (V : zv) : ∀ (k u : Nat), zf_ct (fun i => v_us V (i / 40) (i % 40)) (40 * u) (40 * k) = v_ur V u k
  | 0, _ => rfl
  | k + 1, u => by
    rw [show 40 * (k + 1) = 40 + 40 * k by omega, zf_ct_add, show 40 * u + 40 = 40 * (u + 1) by omega, v_ur_ct V k (u + 1), v_ur_r V u 40 (Nat.le_refl _), v_ur_s]
theorem v_nu_ur (V : zv) : v_nu V = v_ur V 0 40 := v_ur_ct V 40 0
def v_uo (V : zv) (u t : Option Nat) : Bool := match u, t with
  | some u, some t => v_us V u t
  | _, _ => false
theorem zl_c (b : Bool) : lg_cmp (lN (cond b 1 0)) (lN 0) = zf_b b := by cases b <;> decide +kernel
theorem zf_b0 {b : Bool} : zf_b b = 0 ↔ b = false := by cases b <;> decide
section ZP1
variable {X : zm_X} {h : zm_H} {Q : zm_O → zm_H → Prop} {V W : zv} {p q : Nat}
theorem zq_P.bc (hP : zq_P V p h) {u : Nat} (hu : u < 40) : zf_ct (bl (cj h (p + 6) u)) 0 64 = zf_ct (v_us V u) 0 40 := by
  rw [zf_ct_cong (q := fun k => decide (k < 40) && v_us V u k) (fun j _ hj => hP.us u hu j (by omega)), show (64 : Nat) = 40 + 24 from rfl, zf_ct_add, zf_ct_0 (k := 24) (fun j h1 _ => by rw [decide_eq_false (by omega)]; rfl), Nat.add_zero]
  exact zf_ct_cong (fun j _ hj => by rw [decide_eq_true (by omega)]; rfl)
theorem s_Prog_classAt {a : Nat} (hS : zs_H h) (hA : zq_A p) (hP : zq_P V p h) (hB : zv_B V) (ha : a < 128) (hq : Q (.inl (some (.int (zf_o (v_cls V a))))) h) : zp_wm X y_Prog_classAt [.ref p, .int (nI a)] h Q := by
  obtain ⟨hA0, hA1, hA2, hA3, hA4, hA5, hA6⟩ := hA
  show zp_wp X y_Prog_classAt 0 [.ref p, .int (nI a), zm_mk] [] h Q
  have lp : ∀ k c, c + k = 12 → (a ≠ 0 → v_cls V a = zf_fst (fun c => v_cn V c == a) c k) → zp_wp X y_Prog_classAt 2 [.ref p, .int (nI a), .int (nI c)] [] h Q := by
    intro k
    induction k with
    | zero =>
      intro c hc he
      refine zp_iload_n (x := (nI c)) rfl rfl ?_
      refine zp_bipush (v := (nI 12)) rfl (by decide +kernel) ?_
      refine zp_icmpN_ge (tgt := 30) rfl rfl (by omega) (by omega) (fun b5 => ?_) (fun b5 => ?_)
      · refine zp_iconst (v := (-1)) rfl (by decide +kernel) ?_
        refine zp_iret rfl rfl ?_
        have e : v_cls V a = none := by
          by_cases h0 : a = 0
          · simp [v_cls, h0]
          · exact he h0
        rw [e] at hq
        exact hq
      · omega
    | succ k ih =>
      intro c hc he
      refine zp_iload_n (x := (nI c)) rfl rfl ?_
      refine zp_bipush (v := (nI 12)) rfl (by decide +kernel) ?_
      refine zp_icmpN_ge (tgt := 30) rfl rfl (by omega) (by omega) (fun b5 => ?_) (fun b5 => ?_)
      · omega
      · refine zp_iload_n (x := (nI a)) rfl rfl ?_
        refine zp_ifN_eq (tgt := 30) rfl rfl (by omega) (fun b9 => ?_) (fun b9 => ?_)
        · refine zp_iconst (v := (-1)) rfl (by decide +kernel) ?_
          refine zp_iret rfl rfl ?_
          have e : v_cls V a = none := by simp [v_cls, b9]
          rw [e] at hq
          exact hq
        · refine zp_aload_n (x := p) rfl rfl ?_
          refine zq_getr (k9 := (p + 1)) hS rfl (by first | assumption | exact ⟨by decide, rfl⟩) rfl ?_
          refine zp_iload_n (x := (nI c)) rfl rfl ?_
          refine zq_iald hS rfl (by first | assumption | exact ⟨by decide, rfl⟩) (by omega) (by first | decide | omega) ?_
          rw [hP.cn (c) (by omega)]
          have q17 := hB.1 (c) (by omega)
          refine zp_iload_n (x := (nI a)) rfl rfl ?_
          refine zp_icmpN_ne (tgt := 24) rfl rfl (by omega) (by omega) (fun b19 => ?_) (fun b19 => ?_)
          · refine zp_iincN_2 rfl rfl ?_
            refine zp_goto (tgt := 2) rfl rfl ?_
            exact ih (c + 1) (by omega) (fun h0 => (he h0).trans (zf_fst_f (zb_ne b19)))
          · refine zp_iload_n (x := (nI c)) rfl rfl ?_
            refine zp_iret rfl rfl ?_
            rw [(he b9).trans (zf_fst_t (zb_eq b19))] at hq
            exact hq
  refine zp_iconst (v := (nI 0)) rfl (by decide +kernel) ?_
  refine zp_istore_n_2 rfl rfl ?_
  exact lp 12 0 rfl (fun h0 => by unfold v_cls; rw [if_neg h0])
theorem v_own_31 (hW : zv_W V) {m : Nat} (hm : m < 40) : ∀ i, v_own V m = some i → i < 12 := fun i hi => by
  obtain ⟨h1, h2⟩ := v_own_s hi
  have := hW.2.2.2.1 m hm
  omega
theorem s_Prog_memberIn {c m : Nat} (hS : zs_H h) (hA : zq_A p) (hP : zq_P V p h) (hW : zv_W V) (hc : c < 12) (hm : m < 128) (hm0 : m ≠ 0) (hq : Q (.inl (some (.int (zf_o (v_mem V (some c) m))))) h) : zp_wm X y_Prog_memberIn [.ref p, .int (nI c), .int (nI m)] h Q := by
  have hB := hW.B
  obtain ⟨hA0, hA1, hA2, hA3, hA4, hA5, hA6⟩ := hA
  show zp_wp X y_Prog_memberIn 0 [.ref p, .int (nI c), .int (nI m), zm_mk] [] h Q
  have lp : ∀ k i, i + k = 40 → v_mem V (some c) m = zf_fst (fun k => v_mn V k == m && v_ow V k == c) i k → zp_wp X y_Prog_memberIn 2 [.ref p, .int (nI c), .int (nI m), .int (nI i)] [] h Q := by
    intro k
    induction k with
    | zero =>
      intro i hi he
      refine zp_iload_n (x := (nI i)) rfl rfl ?_
      refine zp_bipush (v := (nI 40)) rfl (by decide +kernel) ?_
      refine zp_icmpN_ge (tgt := 36) rfl rfl (by omega) (by omega) (fun b5 => ?_) (fun b5 => ?_)
      · refine zp_iconst (v := (-1)) rfl (by decide +kernel) ?_
        refine zp_iret rfl rfl ?_
        rw [he] at hq; exact hq
      · omega
    | succ k ih =>
      intro i hi he
      have ho : zf_o (v_own V i) = nI c ↔ v_own V i = some c := zf_o_eq' (fun j hj => by have := v_own_31 hW (by omega) j hj; omega) (by omega)
      refine zp_iload_n (x := (nI i)) rfl rfl ?_
      refine zp_bipush (v := (nI 40)) rfl (by decide +kernel) ?_
      refine zp_icmpN_ge (tgt := 36) rfl rfl (by omega) (by omega) (fun b5 => ?_) (fun b5 => ?_)
      · omega
      · refine zp_aload_n (x := p) rfl rfl ?_
        refine zq_getr (k9 := (p + 5)) hS rfl (by first | assumption | exact ⟨by decide, rfl⟩) rfl ?_
        refine zp_iload_n (x := (nI i)) rfl rfl ?_
        refine zq_iald hS rfl (by first | assumption | exact ⟨by decide, rfl⟩) (by omega) (by first | decide | omega) ?_
        rw [hP.ow (i) (by omega)]
        refine zp_iload_n (x := (nI c)) rfl rfl ?_
        refine zp_icmp_ne (tgt := 30) rfl rfl (fun b15 => ?_) (fun b15 => ?_)
        · have he2 : (v_mn V i == m && v_ow V i == c) = false := by
            by_cases e1 : v_mn V i = m
            · by_cases e2 : v_ow V i = c
              · exact absurd (ho.mpr (by rw [v_own_l (by omega), e2])) b15
              · simp [e2]
            · simp [e1]
          refine zp_iincN_3 rfl rfl ?_
          refine zp_goto (tgt := 2) rfl rfl ?_
          exact ih (i + 1) (by omega) (by rw [he, zf_fst_f he2])
        · refine zp_aload_n (x := p) rfl rfl ?_
          refine zq_getr (k9 := (p + 4)) hS rfl (by first | assumption | exact ⟨by decide, rfl⟩) rfl ?_
          refine zp_iload_n (x := (nI i)) rfl rfl ?_
          refine zq_iald hS rfl (by first | assumption | exact ⟨by decide, rfl⟩) (by omega) (by first | decide | omega) ?_
          rw [hP.mn (i) (by omega)]
          have q23 := hB.2.2.1 (i) (by omega)
          refine zp_iload_n (x := (nI m)) rfl rfl ?_
          refine zp_icmpN_ne (tgt := 30) rfl rfl (by omega) (by omega) (fun b25 => ?_) (fun b25 => ?_)
          · have he2 : (v_mn V i == m && v_ow V i == c) = false := by simp [b25]
            refine zp_iincN_3 rfl rfl ?_
            refine zp_goto (tgt := 2) rfl rfl ?_
            exact ih (i + 1) (by omega) (by rw [he, zf_fst_f he2])
          · refine zp_iload_n (x := (nI i)) rfl rfl ?_
            refine zp_iret rfl rfl ?_
            obtain ⟨o1, o2⟩ := v_own_s (ho.mp (Decidable.not_not.mp b15))
            rw [he, zf_fst_t (by simp [b25, o2])] at hq
            exact hq
  refine zp_iconst (v := (nI 0)) rfl (by decide +kernel) ?_
  refine zp_istore_n_3 rfl rfl ?_
  exact lp 40 0 rfl rfl
theorem s_Prog_memberAt {a m : Nat} (hS : zs_H h) (hA : zq_A p) (hP : zq_P V p h) (hW : zv_W V) (ha : a < 128) (hm : m < 128) (hm0 : m ≠ 0) (hq : Q (.inl (some (.int (zf_o (v_mem V (v_cls V a) m))))) h) : zp_wm X y_Prog_memberAt [.ref p, .int (nI a), .int (nI m)] h Q := by
  have hA' := hA
  obtain ⟨hA0, hA1, hA2, hA3, hA4, hA5, hA6⟩ := hA
  show zp_wp X y_Prog_memberAt 0 [.ref p, .int (nI a), .int (nI m), zm_mk] [] h Q
  refine zp_aload_n (x := p) rfl rfl ?_
  refine zp_iload_n (x := (nI a)) rfl rfl ?_
  refine zq_virt hS rfl rfl (by first | assumption | exact ⟨by decide, rfl⟩) rfl (s_Prog_classAt hS hA' hP hW.B ha ?_)
  cases hc : v_cls V a with
  | none =>
    show zp_wp X y_Prog_memberAt 5 [.ref p, .int (nI a), .int (nI m), zm_mk] [.int (-1)] h Q
    refine zp_istore_n_3 rfl rfl ?_
    refine zp_iload_n (x := (-1)) rfl rfl ?_
    refine zp_ifF (tgt := 14) rfl rfl (by decide +kernel) ?_
    refine zp_iconst (v := (-1)) rfl (by decide +kernel) ?_
    refine zp_goto (tgt := 20) rfl rfl ?_
    refine zp_iret rfl rfl ?_
    rw [hc] at hq; exact hq
  | some c =>
    have hc12 := (v_cls_lt hc).1
    show zp_wp X y_Prog_memberAt 5 [.ref p, .int (nI a), .int (nI m), zm_mk] [.int (nI c)] h Q
    refine zp_istore_n_3 rfl rfl ?_
    refine zp_iload_n (x := (nI c)) rfl rfl ?_
    refine zp_ifT (tgt := 14) rfl rfl (zc_ge (by omega)) ?_
    refine zp_aload_n (x := p) rfl rfl ?_
    refine zp_iload_n (x := (nI c)) rfl rfl ?_
    refine zp_iload_n (x := (nI m)) rfl rfl ?_
    refine zq_virt hS rfl rfl (by first | assumption | exact ⟨by decide, rfl⟩) rfl (s_Prog_memberIn hS hA' hP hW hc12 hm hm0 ?_)
    show zp_wp X y_Prog_memberAt 20 [.ref p, .int (nI a), .int (nI m), .int (nI c)] [.int (zf_o (v_mem V (some c) m))] h Q
    refine zp_iret rfl rfl ?_
    rw [hc] at hq; exact hq
theorem s_Prog_freeSlot {a n : Nat} {f : Nat → Nat} (hS : zs_H h) (hr : zs_I a n) (hn : n ≤ 40) (hf : ∀ i, i < n → ci h a i = nI (f i)) (hb : ∀ i, i < n → f i < 128) (hq : Q (.inl (some (.int (zf_o (zf_fst (fun i => f i == 0) 0 n))))) h) : zp_wm X y_Prog_freeSlot [.ref a] h Q := by
  show zp_wp X y_Prog_freeSlot 0 [.ref a, zm_mk] [] h Q
  have lp : ∀ k i, i + k = n → zf_fst (fun i => f i == 0) 0 n = zf_fst (fun i => f i == 0) i k → zp_wp X y_Prog_freeSlot 2 [.ref a, .int (nI i)] [] h Q := by
    intro k
    induction k with
    | zero =>
      intro i hi he
      refine zp_iload_n (x := (nI i)) rfl rfl ?_
      refine zp_aload_n (x := a) rfl rfl ?_
      refine zq_alen (n := n) hS rfl (by first | assumption | exact ⟨by decide, rfl⟩) ?_
      refine zp_icmpN_ge (tgt := 22) rfl rfl (by omega) (by omega) (fun b5 => ?_) (fun b5 => ?_)
      · refine zp_iconst (v := (-1)) rfl (by decide +kernel) ?_
        refine zp_iret rfl rfl ?_
        rw [he] at hq; exact hq
      · omega
    | succ k ih =>
      intro i hi he
      have hfb := hb i (by omega)
      refine zp_iload_n (x := (nI i)) rfl rfl ?_
      refine zp_aload_n (x := a) rfl rfl ?_
      refine zq_alen (n := n) hS rfl (by first | assumption | exact ⟨by decide, rfl⟩) ?_
      refine zp_icmpN_ge (tgt := 22) rfl rfl (by omega) (by omega) (fun b5 => ?_) (fun b5 => ?_)
      · omega
      · refine zp_aload_n (x := a) rfl rfl ?_
        refine zp_iload_n (x := (nI i)) rfl rfl ?_
        refine zq_iald hS rfl (by first | assumption | exact ⟨by decide, rfl⟩) (by omega) (by first | decide | omega) ?_
        rw [hf (i) (by omega)]
        refine zp_ifN_ne (tgt := 16) rfl rfl (by omega) (fun b11 => ?_) (fun b11 => ?_)
        · refine zp_iincN_1 rfl rfl ?_
          refine zp_goto (tgt := 2) rfl rfl ?_
          exact ih (i + 1) (by omega) (he.trans (zf_fst_f (zb_ne b11)))
        · refine zp_iload_n (x := (nI i)) rfl rfl ?_
          refine zp_iret rfl rfl ?_
          rw [he.trans (zf_fst_t (zb_eq b11))] at hq; exact hq
  refine zp_iconst (v := (nI 0)) rfl (by decide +kernel) ?_
  refine zp_istore_n_1 rfl rfl ?_
  exact lp n 0 (by omega) rfl
theorem s_Prog_isUse {u t : Option Nat} (hS : zs_H h) (hA : zq_A p) (hP : zq_P V p h) (hu : ∀ i, u = some i → i < 40) (ht : ∀ i, t = some i → i < 40) (hq : Q (.inl (some (.int (zf_b (v_uo V u t))))) h) : zp_wm X y_Prog_isUse [.ref p, .int (zf_o u), .int (zf_o t)] h Q := by
  obtain ⟨hA0, hA1, hA2, hA3, hA4, hA5, hA6⟩ := hA
  cases u with
  | none =>
    show zp_wp X y_Prog_isUse 0 [.ref p, .int (-1), .int (zf_o t)] [] h Q
    refine zp_iload_n (x := (-1)) rfl rfl ?_
    refine zp_ifT (tgt := 33) rfl rfl (by decide +kernel) ?_
    refine zp_iconst (v := (nI 0)) rfl (by decide +kernel) ?_
    refine zp_zret rfl rfl (by decide) ?_
    exact hq
  | some u =>
    have hu := hu u rfl
    cases t with
    | none =>
      show zp_wp X y_Prog_isUse 0 [.ref p, .int (nI u), .int (-1)] [] h Q
      refine zp_iload_n (x := (nI u)) rfl rfl ?_
      refine zp_ifF (tgt := 33) rfl rfl (zc_lt (by omega)) ?_
      refine zp_iload_n (x := (nI u)) rfl rfl ?_
      refine zp_bipush (v := (nI 40)) rfl (by decide +kernel) ?_
      refine zp_icmpN_ge (tgt := 33) rfl rfl (by omega) (by omega) (fun b7 => ?_) (fun b7 => ?_)
      · omega
      · refine zp_iload_n (x := (-1)) rfl rfl ?_
        refine zp_ifT (tgt := 33) rfl rfl (by decide +kernel) ?_
        refine zp_iconst (v := (nI 0)) rfl (by decide +kernel) ?_
        refine zp_zret rfl rfl (by decide) ?_
        exact hq
    | some t =>
      have ht := ht t rfl
      have hz : v_uo V (some u) (some t) = v_us V u t := rfl
      rw [hz] at hq
      show zp_wp X y_Prog_isUse 0 [.ref p, .int (nI u), .int (nI t)] [] h Q
      refine zp_iload_n (x := (nI u)) rfl rfl ?_
      refine zp_ifF (tgt := 33) rfl rfl (zc_lt (by omega)) ?_
      refine zp_iload_n (x := (nI u)) rfl rfl ?_
      refine zp_bipush (v := (nI 40)) rfl (by decide +kernel) ?_
      refine zp_icmpN_ge (tgt := 33) rfl rfl (by omega) (by omega) (fun b7 => ?_) (fun b7 => ?_)
      · omega
      · refine zp_iload_n (x := (nI t)) rfl rfl ?_
        refine zp_ifF (tgt := 33) rfl rfl (zc_lt (by omega)) ?_
        refine zp_aload_n (x := p) rfl rfl ?_
        refine zq_getr (k9 := (p + 6)) hS rfl (by first | assumption | exact ⟨by decide, rfl⟩) rfl ?_
        refine zp_iload_n (x := (nI u)) rfl rfl ?_
        refine zq_lald hS rfl (by first | assumption | exact ⟨by decide, rfl⟩) (by omega) (by first | decide | omega) ?_
        refine zp_iload_n (x := (nI t)) rfl rfl ?_
        refine zp_lshr rfl rfl ?_
        refine zp_lconst (v := lN 1) rfl rfl ?_
        refine zp_land rfl rfl ?_
        rw [bl_t (by omega), hP.us u hu t (by omega), decide_eq_true ht, Bool.true_and]
        refine zp_lconst (v := lN 0) rfl rfl ?_
        refine zp_lcmp rfl rfl ?_
        rw [zl_c]
        refine zp_if_eq (tgt := 33) rfl rfl (fun b26 => ?_) (fun b26 => ?_)
        · refine zp_iconst (v := (nI 0)) rfl (by decide +kernel) ?_
          refine zp_zret rfl rfl (by decide) ?_
          first | (rw [zf_b0.mp b26] at hq; exact hq) | (rw [show v_us V u t = true by cases e : v_us V u t with | true => rfl | false => rw [e] at b26; exact absurd rfl b26] at hq; exact hq)
        · refine zp_iconst (v := (nI 1)) rfl (by decide +kernel) ?_
          refine zp_goto (tgt := 34) rfl rfl ?_
          refine zp_zret rfl rfl (by decide) ?_
          first | (rw [zf_b0.mp b26] at hq; exact hq) | (rw [show v_us V u t = true by cases e : v_us V u t with | true => rfl | false => rw [e] at b26; exact absurd rfl b26] at hq; exact hq)
theorem s_Prog_usersOf {m : Nat} (hS : zs_H h) (hA : zq_A p) (hP : zq_P V p h) (hm : m < 40) (hq : Q (.inl (some (.int (nI (zf_ct (fun k => v_us V k m) 0 40))))) h) : zp_wm X y_Prog_usersOf [.ref p, .int (nI m)] h Q := by
  obtain ⟨hA0, hA1, hA2, hA3, hA4, hA5, hA6⟩ := hA
  show zp_wp X y_Prog_usersOf 0 [.ref p, .int (nI m), zm_mk, zm_mk] [] h Q
  have lp : ∀ k i n, i + k = 40 → zf_ct (fun k => v_us V k m) 0 40 = n + zf_ct (fun k => v_us V k m) i k → zp_wp X y_Prog_usersOf 4 [.ref p, .int (nI m), .int (nI n), .int (nI i)] [] h Q := by
    intro k
    induction k with
    | zero =>
      intro i n hi he
      refine zp_iload_n (x := (nI i)) rfl rfl ?_
      refine zp_bipush (v := (nI 40)) rfl (by decide +kernel) ?_
      refine zp_icmpN_ge (tgt := 30) rfl rfl (by omega) (by omega) (fun b7 => ?_) (fun b7 => ?_)
      · refine zp_iload_n (x := (nI n)) rfl rfl ?_
        refine zp_iret rfl rfl ?_
        rw [he] at hq; exact hq
      · omega
    | succ k ih =>
      intro i n hi he
      rw [show zf_ct (fun k => v_us V k m) i (k + 1) = cond (v_us V i m) 1 0 + zf_ct (fun k => v_us V k m) (i + 1) k from rfl] at he
      refine zp_iload_n (x := (nI i)) rfl rfl ?_
      refine zp_bipush (v := (nI 40)) rfl (by decide +kernel) ?_
      refine zp_icmpN_ge (tgt := 30) rfl rfl (by omega) (by omega) (fun b7 => ?_) (fun b7 => ?_)
      · omega
      · refine zp_iload_n (x := (nI n)) rfl rfl ?_
        refine zp_aload_n (x := p) rfl rfl ?_
        refine zq_getr (k9 := (p + 6)) hS rfl (by first | assumption | exact ⟨by decide, rfl⟩) rfl ?_
        refine zp_iload_n (x := (nI i)) rfl rfl ?_
        refine zq_lald hS rfl (by first | assumption | exact ⟨by decide, rfl⟩) (by omega) (by first | decide | omega) ?_
        refine zp_iload_n (x := (nI m)) rfl rfl ?_
        refine zp_lshr rfl rfl ?_
        refine zp_lconst (v := lN 1) rfl rfl ?_
        refine zp_land rfl rfl ?_
        rw [bl_t (by omega), hP.us i (by omega) m (by omega), decide_eq_true hm, Bool.true_and]
        refine zp_l2i rfl rfl ?_
        rw [lN_i]
        refine zp_iaddN rfl ?_
        refine zp_istore_n_2 rfl rfl ?_
        refine zp_iincN_3 rfl rfl ?_
        refine zp_goto (tgt := 4) rfl rfl ?_
        exact ih (i + 1) _ (by omega) (by rw [he, Nat.add_assoc])
  refine zp_iconst (v := (nI 0)) rfl (by decide +kernel) ?_
  refine zp_istore_n_2 rfl rfl ?_
  refine zp_iconst (v := (nI 0)) rfl (by decide +kernel) ?_
  refine zp_istore_n_3 rfl rfl ?_
  exact lp 40 0 0 rfl (Nat.zero_add _).symm
theorem s_Prog_useCount (hS : zs_H h) (hA : zq_A p) (hP : zq_P V p h) (hq : Q (.inl (some (.int (nI (v_nu V))))) h) : zp_wm X y_Prog_useCount [.ref p] h Q := by
  obtain ⟨hA0, hA1, hA2, hA3, hA4, hA5, hA6⟩ := hA
  rw [v_nu_ur] at hq
  show zp_wp X y_Prog_useCount 0 [.ref p, zm_mk, zm_mk] [] h Q
  have lp : ∀ k i n, i + k = 40 → v_ur V 0 40 = n + v_ur V i k → zp_wp X y_Prog_useCount 4 [.ref p, .int (nI n), .int (nI i)] [] h Q := by
    intro k
    induction k with
    | zero =>
      intro i n hi he
      refine zp_iload_n (x := (nI i)) rfl rfl ?_
      refine zp_bipush (v := (nI 40)) rfl (by decide +kernel) ?_
      refine zp_icmpN_ge (tgt := 28) rfl rfl (by omega) (by omega) (fun b7 => ?_) (fun b7 => ?_)
      · refine zp_iload_n (x := (nI n)) rfl rfl ?_
        refine zp_iret rfl rfl ?_
        rw [he] at hq; exact hq
      · omega
    | succ k ih =>
      intro i n hi he
      rw [show v_ur V i (k + 1) = zf_ct (v_us V i) 0 40 + v_ur V (i + 1) k from rfl] at he
      refine zp_iload_n (x := (nI i)) rfl rfl ?_
      refine zp_bipush (v := (nI 40)) rfl (by decide +kernel) ?_
      refine zp_icmpN_ge (tgt := 28) rfl rfl (by omega) (by omega) (fun b7 => ?_) (fun b7 => ?_)
      · omega
      · refine zp_iload_n (x := (nI n)) rfl rfl ?_
        refine zp_aload_n (x := p) rfl rfl ?_
        refine zq_getr (k9 := (p + 6)) hS rfl (by first | assumption | exact ⟨by decide, rfl⟩) rfl ?_
        refine zp_iload_n (x := (nI i)) rfl rfl ?_
        refine zq_lald hS rfl (by first | assumption | exact ⟨by decide, rfl⟩) (by omega) (by first | decide | omega) ?_
        refine zp_call rfl rfl (s_Long_bitCount ?_)
        rw [hP.bc (by omega)]
        show zp_wp X y_Prog_useCount 20 [.ref p, .int (nI n), .int (nI i)] [.int (nI (zf_ct (v_us V i) 0 40)), .int (nI n)] h Q
        refine zp_iaddN rfl ?_
        refine zp_istore_n_1 rfl rfl ?_
        refine zp_iincN_2 rfl rfl ?_
        refine zp_goto (tgt := 4) rfl rfl ?_
        exact ih (i + 1) _ (by omega) (by rw [he, Nat.add_assoc])
  refine zp_iconst (v := (nI 0)) rfl (by decide +kernel) ?_
  refine zp_istore_n_1 rfl rfl ?_
  refine zp_iconst (v := (nI 0)) rfl (by decide +kernel) ?_
  refine zp_istore_n_2 rfl rfl ?_
  exact lp 40 0 0 rfl (Nat.zero_add _).symm
theorem s_Prog_classCount (hS : zs_H h) (hA : zq_A p) (hP : zq_P V p h) (hB : zv_B V) (hq : Q (.inl (some (.int (nI (v_nc V))))) h) : zp_wm X y_Prog_classCount [.ref p] h Q := by
  obtain ⟨hA0, hA1, hA2, hA3, hA4, hA5, hA6⟩ := hA
  show zp_wp X y_Prog_classCount 0 [.ref p, zm_mk, zm_mk] [] h Q
  have lp : ∀ k i n, i + k = 12 → v_nc V = n + zf_ct (fun c => !(v_cn V c == 0)) i k → zp_wp X y_Prog_classCount 4 [.ref p, .int (nI n), .int (nI i)] [] h Q := by
    intro k
    induction k with
    | zero =>
      intro i n hi he
      refine zp_iload_n (x := (nI i)) rfl rfl ?_
      refine zp_bipush (v := (nI 12)) rfl (by decide +kernel) ?_
      refine zp_icmpN_ge (tgt := 33) rfl rfl (by omega) (by omega) (fun b7 => ?_) (fun b7 => ?_)
      · refine zp_iload_n (x := (nI n)) rfl rfl ?_
        refine zp_iret rfl rfl ?_
        rw [he] at hq; exact hq
      · omega
    | succ k ih =>
      intro i n hi he
      rw [show zf_ct (fun c => !(v_cn V c == 0)) i (k + 1) = cond (!(v_cn V i == 0)) 1 0 + zf_ct (fun c => !(v_cn V c == 0)) (i + 1) k from rfl] at he
      refine zp_iload_n (x := (nI i)) rfl rfl ?_
      refine zp_bipush (v := (nI 12)) rfl (by decide +kernel) ?_
      refine zp_icmpN_ge (tgt := 33) rfl rfl (by omega) (by omega) (fun b7 => ?_) (fun b7 => ?_)
      · omega
      · refine zp_iload_n (x := (nI n)) rfl rfl ?_
        refine zp_aload_n (x := p) rfl rfl ?_
        refine zq_getr (k9 := (p + 1)) hS rfl (by first | assumption | exact ⟨by decide, rfl⟩) rfl ?_
        refine zp_iload_n (x := (nI i)) rfl rfl ?_
        refine zq_iald hS rfl (by first | assumption | exact ⟨by decide, rfl⟩) (by omega) (by first | decide | omega) ?_
        rw [hP.cn (i) (by omega)]
        have q16 := hB.1 (i) (by omega)
        refine zp_ifN_ne (tgt := 24) rfl rfl (by omega) (fun b17 => ?_) (fun b17 => ?_)
        · refine zp_iconst (v := (nI 1)) rfl (by decide +kernel) ?_
          refine zp_iaddN rfl ?_
          refine zp_istore_n_1 rfl rfl ?_
          refine zp_iincN_2 rfl rfl ?_
          refine zp_goto (tgt := 4) rfl rfl ?_
          first | exact ih (i + 1) _ (by omega) (by rw [he, zb_eq b17]; simp) | exact ih (i + 1) _ (by omega) (by rw [he, zb_ne b17]; simp; omega)
        · refine zp_iconst (v := (nI 0)) rfl (by decide +kernel) ?_
          refine zp_goto (tgt := 25) rfl rfl ?_
          refine zp_iaddN rfl ?_
          refine zp_istore_n_1 rfl rfl ?_
          refine zp_iincN_2 rfl rfl ?_
          refine zp_goto (tgt := 4) rfl rfl ?_
          first | exact ih (i + 1) _ (by omega) (by rw [he, zb_eq b17]; simp) | exact ih (i + 1) _ (by omega) (by rw [he, zb_ne b17]; simp; omega)
  refine zp_iconst (v := (nI 0)) rfl (by decide +kernel) ?_
  refine zp_istore_n_1 rfl rfl ?_
  refine zp_iconst (v := (nI 0)) rfl (by decide +kernel) ?_
  refine zp_istore_n_2 rfl rfl ?_
  exact lp 12 0 0 rfl (Nat.zero_add _).symm
theorem s_Prog_memberCount (hS : zs_H h) (hA : zq_A p) (hP : zq_P V p h) (hB : zv_B V) (hq : Q (.inl (some (.int (nI (v_nm V))))) h) : zp_wm X y_Prog_memberCount [.ref p] h Q := by
  obtain ⟨hA0, hA1, hA2, hA3, hA4, hA5, hA6⟩ := hA
  show zp_wp X y_Prog_memberCount 0 [.ref p, zm_mk, zm_mk] [] h Q
  have lp : ∀ k i n, i + k = 40 → v_nm V = n + zf_ct (fun c => !(v_mn V c == 0)) i k → zp_wp X y_Prog_memberCount 4 [.ref p, .int (nI n), .int (nI i)] [] h Q := by
    intro k
    induction k with
    | zero =>
      intro i n hi he
      refine zp_iload_n (x := (nI i)) rfl rfl ?_
      refine zp_bipush (v := (nI 40)) rfl (by decide +kernel) ?_
      refine zp_icmpN_ge (tgt := 33) rfl rfl (by omega) (by omega) (fun b7 => ?_) (fun b7 => ?_)
      · refine zp_iload_n (x := (nI n)) rfl rfl ?_
        refine zp_iret rfl rfl ?_
        rw [he] at hq; exact hq
      · omega
    | succ k ih =>
      intro i n hi he
      rw [show zf_ct (fun c => !(v_mn V c == 0)) i (k + 1) = cond (!(v_mn V i == 0)) 1 0 + zf_ct (fun c => !(v_mn V c == 0)) (i + 1) k from rfl] at he
      refine zp_iload_n (x := (nI i)) rfl rfl ?_
      refine zp_bipush (v := (nI 40)) rfl (by decide +kernel) ?_
      refine zp_icmpN_ge (tgt := 33) rfl rfl (by omega) (by omega) (fun b7 => ?_) (fun b7 => ?_)
      · omega
      · refine zp_iload_n (x := (nI n)) rfl rfl ?_
        refine zp_aload_n (x := p) rfl rfl ?_
        refine zq_getr (k9 := (p + 4)) hS rfl (by first | assumption | exact ⟨by decide, rfl⟩) rfl ?_
        refine zp_iload_n (x := (nI i)) rfl rfl ?_
        refine zq_iald hS rfl (by first | assumption | exact ⟨by decide, rfl⟩) (by omega) (by first | decide | omega) ?_
        rw [hP.mn (i) (by omega)]
        have q16 := hB.2.2.1 (i) (by omega)
        refine zp_ifN_ne (tgt := 24) rfl rfl (by omega) (fun b17 => ?_) (fun b17 => ?_)
        · refine zp_iconst (v := (nI 1)) rfl (by decide +kernel) ?_
          refine zp_iaddN rfl ?_
          refine zp_istore_n_1 rfl rfl ?_
          refine zp_iincN_2 rfl rfl ?_
          refine zp_goto (tgt := 4) rfl rfl ?_
          first | exact ih (i + 1) _ (by omega) (by rw [he, zb_eq b17]; simp) | exact ih (i + 1) _ (by omega) (by rw [he, zb_ne b17]; simp; omega)
        · refine zp_iconst (v := (nI 0)) rfl (by decide +kernel) ?_
          refine zp_goto (tgt := 25) rfl rfl ?_
          refine zp_iaddN rfl ?_
          refine zp_istore_n_1 rfl rfl ?_
          refine zp_iincN_2 rfl rfl ?_
          refine zp_goto (tgt := 4) rfl rfl ?_
          first | exact ih (i + 1) _ (by omega) (by rw [he, zb_eq b17]; simp) | exact ih (i + 1) _ (by omega) (by rw [he, zb_ne b17]; simp; omega)
  refine zp_iconst (v := (nI 0)) rfl (by decide +kernel) ?_
  refine zp_istore_n_1 rfl rfl ?_
  refine zp_iconst (v := (nI 0)) rfl (by decide +kernel) ?_
  refine zp_istore_n_2 rfl rfl ?_
  exact lp 40 0 0 rfl (Nat.zero_add _).symm
end ZP1
