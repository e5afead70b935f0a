/-! replaying, as mathematics -/
def v_nmF (TG : zv) (C : Nat → Option Nat) (k : Option Nat) : Nat := match k with
  | none => 0
  | some c => match C c with
    | none => 0
    | some p => v_cn TG p
def v_mbF (MV : zv) (M : Nat → Option Nat) (a m : Nat) : Option Nat := match v_mem MV (v_cls MV a) m with
  | none => none
  | some k => M k
def v_onm (TG : zv) (p : Option Nat) : Nat := match p with
  | none => 0
  | some p => v_cn TG (v_ow TG p)
def v_mnm (TG : zv) (p : Option Nat) : Nat := match p with
  | none => 0
  | some p => v_mn TG p
/-- a change as it is meant in the target, and whether all of it is there -/
def v_pA (MV TG : zv) (C M : Nat → Option Nat) (c : zch) : Nat := if c.1 ≤ 4 then v_nmF TG C (v_cls MV c.2.1) else v_onm TG (v_mbF MV M c.2.1 c.2.2.1)
def v_pM (MV TG : zv) (M : Nat → Option Nat) (c : zch) : Nat := if c.1 ≤ 4 then c.2.2.1 else v_mnm TG (v_mbF MV M c.2.1 c.2.2.1)
def v_pB (MV TG : zv) (C M : Nat → Option Nat) (c : zch) : Nat := if 8 ≤ c.1 then v_onm TG (v_mbF MV M c.2.2.2.1 c.2.2.2.2) else if c.1 = 7 ∨ (c.1 = 3 ∧ ¬ c.2.2.2.1 = 0) then v_nmF TG C (v_cls MV c.2.2.2.1) else c.2.2.2.1
def v_pN (MV TG : zv) (M : Nat → Option Nat) (c : zch) : Nat := if 8 ≤ c.1 then v_mnm TG (v_mbF MV M c.2.2.2.1 c.2.2.2.2) else c.2.2.2.2
def v_plan (MV TG : zv) (C M : Nat → Option Nat) (c : zch) : zch := if c.1 = 0 then c else (c.1, v_pA MV TG C M c, v_pM MV TG M c, v_pB MV TG C M c, v_pN MV TG M c)
def v_hasP (MV TG : zv) (C M : Nat → Option Nat) (c : zch) : Bool := if c.1 = 0 then true else !(v_pA MV TG C M c == 0) && (if 8 ≤ c.1 then (v_mbF MV M c.2.2.2.1 c.2.2.2.2).isSome else if c.1 = 7 ∨ (c.1 = 3 ∧ ¬ c.2.2.2.1 = 0) then !(v_pB MV TG C M c == 0) else true)
def v_cnt (c : zch) (f : Nat) : Bool := if c.1 = 2 then c.2.1 == c.2.2.2.1 else if c.1 = 6 then c.2.2.1 == c.2.2.2.2 else f == 1 && (c.1 == 0 || c.1 == 4 || c.1 == 7 || c.1 == 8)
def v_nx (n : Nat) : Nat := if n = 90 then 65 else if n = 122 then 97 else n + 1
def v_adv (c : zch) : zch := (c.1, c.2.1, if c.1 = 4 then v_nx c.2.2.1 else c.2.2.1, if c.1 = 2 then v_nx c.2.2.2.1 else c.2.2.2.1, if c.1 = 6 then v_nx c.2.2.2.2 else c.2.2.2.2)
/-- an outcome, the target, what was added -/
abbrev zto : Type := Nat × zv × Option Nat
def v_mend (TG : zv) (f : Nat) : Nat → zch → zto
  | 0, _ => (f, TG, none)
  | k + 1, pl => if (v_mk TG (v_adv pl)).1 = 0 then (100, (v_mk TG (v_adv pl)).2.1, (v_mk TG (v_adv pl)).2.2) else if ¬ (v_mk TG (v_adv pl)).1 = 1 ∧ ¬ (v_mk TG (v_adv pl)).1 = 5 then ((v_mk TG (v_adv pl)).1, TG, none) else v_mend TG f k (v_adv pl)
def v_may (mend : Bool) (kind f : Nat) : Bool := mend && (f == 1 && kind == 2 || f == 5 && (kind == 4 || kind == 6))
def v_old (TG : zv) (pl : zch) : Option Nat := if pl.1 = 0 then v_cls TG pl.2.1 else if pl.1 = 4 then v_mem TG (v_cls TG pl.2.1) pl.2.2.1 else none
def v_els (TG : zv) (C M : Nat → Option Nat) (pl : zch) : Bool := match v_old TG pl with
  | none => false
  | some p => if pl.1 = 0 then v_isM C 12 p else v_isM M 40 p
def v_tryR (mend : Bool) (MV TG : zv) (C M : Nat → Option Nat) (c : zch) : zto :=
  let pl := v_plan MV TG C M c
  if v_hasP MV TG C M c = false then (2, TG, none)
  else if (v_mk TG pl).1 = 0 then (0, (v_mk TG pl).2.1, (v_mk TG pl).2.2)
  else if v_cnt pl (v_mk TG pl).1 then (cond (v_els TG C M pl) 6 0, TG, cond (v_els TG C M pl) none (v_old TG pl))
  else if v_may mend pl.1 (v_mk TG pl).1 then v_mend TG (v_mk TG pl).1 25 pl
  else ((v_mk TG pl).1, TG, none)
def v_onC (MV : zv) (C : Nat → Option Nat) (c : zch) (mt : Option Nat) : Nat → Option Nat :=
  if c.1 = 0 then (match (v_mk MV c).2.2 with
    | some i => va_up C i mt
    | none => C)
  else if c.1 = 1 then (match v_cls MV c.2.1 with
    | some i => va_up C i none
    | none => C)
  else C
def v_onM (MV : zv) (M : Nat → Option Nat) (c : zch) (mt : Option Nat) : Nat → Option Nat :=
  if c.1 = 4 then (match (v_mk MV c).2.2 with
    | some i => va_up M i mt
    | none => M)
  else if c.1 = 5 then (match v_mem MV (v_cls MV c.2.1) c.2.2.1 with
    | some i => va_up M i none
    | none => M)
  else M
/-- moving, target, matches; how many are made; outcomes -/
abbrev zrs : Type := (zv × zv × (Nat → Option Nat) × (Nat → Option Nat)) × Nat × (Nat → Option Nat)
def v_sel (sel : Int32) (mend : Bool) (c : zch) (i : Nat) (st : zrs) : Option Nat × zv × Option Nat := if zb_t sel i then (some (v_tryR mend st.1.1 st.1.2.1 st.1.2.2.1 st.1.2.2.2 c).1, (v_tryR mend st.1.1 st.1.2.1 st.1.2.2.1 st.1.2.2.2 c).2) else (none, st.1.2.1, none)
def v_ismd (o : Option Nat) : Bool := o == some 0 || o == some 100
def v_rpS (sel : Int32) (mend : Bool) (L : Nat → zch) (i : Nat) (st : zrs) : zrs :=
  let o := v_sel sel mend (L i) i st
  let mt := cond (v_ismd o.1) o.2.2 none
  (((v_mk st.1.1 (L i)).2.1, o.2.1, v_onC st.1.1 st.1.2.2.1 (L i) mt, v_onM st.1.1 st.1.2.2.2 (L i) mt), st.2.1 + cond (v_ismd o.1) 1 0, va_up st.2.2 i o.1)
def v_rp (sel : Int32) (mend : Bool) (B TG : zv) (L : Nat → zch) (n : Nat) : zrs := zf_fold (v_rpS sel mend L) 0 n ((B, TG, v_mC B TG, v_mM B TG), 0, fun _ => none)
/-! what a change does -/
section ZM
variable {V : zv}
theorem mk_fail {c : zch} (h : (v_mk V c).1 ≠ 0) : (v_mk V c).2.1 = V ∧ (v_mk V c).2.2 = none := by
  obtain ⟨kind, a, m, b, n⟩ := c
  unfold v_mk at *
  dsimp only at *
  have hC : ∀ c a, (v_addC V c a).1 ≠ 0 → (v_addC V c a).2.1 = V ∧ (v_addC V c a).2.2 = none := fun c a => by unfold v_addC; (repeat' split) <;> simp
  have h1 : ∀ c, (v_remC V c).1 ≠ 0 → (v_remC V c).2.1 = V ∧ (v_remC V c).2.2 = none := fun c => by unfold v_remC; (repeat' split) <;> simp
  have h2 : ∀ c b, (v_renC V c b).1 ≠ 0 → (v_renC V c b).2.1 = V ∧ (v_renC V c b).2.2 = none := fun c b => by unfold v_renC; (repeat' split) <;> simp
  have h3 : ∀ c b, (v_supC V c b).1 ≠ 0 → (v_supC V c b).2.1 = V ∧ (v_supC V c b).2.2 = none := fun c b => by unfold v_supC; (repeat' split) <;> simp
  have h4 : ∀ c b, (v_addM V c b).1 ≠ 0 → (v_addM V c b).2.1 = V ∧ (v_addM V c b).2.2 = none := fun c b => by unfold v_addM; (repeat' split) <;> simp
  have h5 : ∀ c, (v_remM V c).1 ≠ 0 → (v_remM V c).2.1 = V ∧ (v_remM V c).2.2 = none := fun c => by unfold v_remM; (repeat' split) <;> simp
  have h6 : ∀ c k n, (v_renM V c k n).1 ≠ 0 → (v_renM V c k n).2.1 = V ∧ (v_renM V c k n).2.2 = none := fun c k n => by unfold v_renM; (repeat' split) <;> simp
  have h7 : ∀ c k n, (v_movM V c k n).1 ≠ 0 → (v_movM V c k n).2.1 = V ∧ (v_movM V c k n).2.2 = none := fun c k n => by unfold v_movM; (repeat' split) <;> simp
  have h8 : ∀ c k, (v_addU V c k).1 ≠ 0 → (v_addU V c k).2.1 = V ∧ (v_addU V c k).2.2 = none := fun c k => by unfold v_addU; (repeat' split) <;> simp
  have h9 : ∀ c k, (v_remU V c k).1 ≠ 0 → (v_remU V c k).2.1 = V ∧ (v_remU V c k).2.2 = none := fun c k => by unfold v_remU; (repeat' split) <;> simp
  match kind, h with
  | 0, h => exact hC _ _ h
  | 1, h => exact h1 _ h
  | 2, h => exact h2 _ _ h
  | 3, h => exact h3 _ _ h
  | 4, h => exact h4 _ _ h
  | 5, h => exact h5 _ h
  | 6, h => exact h6 _ _ _ h
  | 7, h => exact h7 _ _ _ h
  | 8, h => exact h8 _ _ h
  | k + 9, h => exact h9 _ _ h
theorem mk_cn {c : zch} {p : Nat} (hl : zc_leg c) (hp : v_cn V p ≠ 0) (h1 : c.1 = 1 → v_cls V c.2.1 ≠ some p) : v_cn (v_mk V c).2.1 p ≠ 0 := by
  obtain ⟨kind, a, m, b, n⟩ := c
  obtain ⟨l1, l2, l3, l4, l5⟩ := hl
  unfold v_mk
  dsimp only at *
  match kind, l1, l3, l4, l5, h1 with
  | 0, _, _, _, _, _ =>
    show v_cn (v_addC V (v_cls V a) a).2.1 p ≠ 0
    unfold v_addC
    split
    · exact hp
    · split
      · exact hp
      · split
        · simp only [w_10, w_0]; split <;> omega
        · exact hp
  | 1, _, _, _, _, h1 =>
    show v_cn (v_remC V (v_cls V a)).2.1 p ≠ 0
    unfold v_remC
    split
    · exact hp
    · rename_i c e
      split
      · exact hp
      · split
        · exact hp
        · simp only [w_0]
          have : p ≠ c := fun q => h1 rfl (by rw [e, q])
          rw [if_neg this]
          exact hp
  | 2, _, _, l4, _, _ =>
    show v_cn (v_renC V (v_cls V a) b).2.1 p ≠ 0
    unfold v_renC
    split
    · exact hp
    · split
      · exact hp
      · simp only [w_0]; split <;> omega
  | 3, _, _, _, _, _ =>
    show v_cn (v_supC V (v_cls V a) b).2.1 p ≠ 0
    unfold v_supC
    (repeat' split) <;> exact hp
  | 4, _, _, _, _, _ =>
    show v_cn (v_addM V (v_cls V a) m).2.1 p ≠ 0
    unfold v_addM
    (repeat' split) <;> exact hp
  | 5, _, _, _, _, _ =>
    show v_cn (v_remM V (v_mem V (v_cls V a) m)).2.1 p ≠ 0
    unfold v_remM
    (repeat' split) <;> exact hp
  | 6, _, _, _, _, _ =>
    show v_cn (v_renM V (v_cls V a) (v_mem V (v_cls V a) m) n).2.1 p ≠ 0
    unfold v_renM
    (repeat' split) <;> exact hp
  | 7, _, _, _, _, _ =>
    show v_cn (v_movM V (v_cls V a) (v_mem V (v_cls V a) m) (v_cls V b)).2.1 p ≠ 0
    unfold v_movM
    (repeat' split) <;> exact hp
  | 8, _, _, _, _, _ =>
    show v_cn (v_addU V (v_mem V (v_cls V a) m) (v_mem V (v_cls V b) n)).2.1 p ≠ 0
    unfold v_addU
    (repeat' split) <;> exact hp
  | k + 9, _, _, _, _, _ =>
    show v_cn (v_remU V (v_mem V (v_cls V a) m) (v_mem V (v_cls V b) n)).2.1 p ≠ 0
    unfold v_remU
    (repeat' split) <;> exact hp
theorem mk_mn {c : zch} {p : Nat} (hl : zc_leg c) (hp : v_mn V p ≠ 0) (h1 : c.1 = 5 → v_mem V (v_cls V c.2.1) c.2.2.1 ≠ some p) : v_mn (v_mk V c).2.1 p ≠ 0 := by
  obtain ⟨kind, a, m, b, n⟩ := c
  obtain ⟨l1, l2, l3, l4, l5⟩ := hl
  unfold v_mk
  dsimp only at *
  match kind, l1, l3, l4, l5, h1 with
  | 0, _, _, _, _, _ =>
    show v_mn (v_addC V (v_cls V a) a).2.1 p ≠ 0
    unfold v_addC
    (repeat' split) <;> exact hp
  | 1, _, _, _, _, h1 =>
    show v_mn (v_remC V (v_cls V a)).2.1 p ≠ 0
    unfold v_remC
    (repeat' split) <;> exact hp
  | 2, _, _, l4, _, _ =>
    show v_mn (v_renC V (v_cls V a) b).2.1 p ≠ 0
    unfold v_renC
    (repeat' split) <;> exact hp
  | 3, _, _, _, _, _ =>
    show v_mn (v_supC V (v_cls V a) b).2.1 p ≠ 0
    unfold v_supC
    (repeat' split) <;> exact hp
  | 4, _, l3, _, _, _ =>
    show v_mn (v_addM V (v_cls V a) m).2.1 p ≠ 0
    unfold v_addM
    split
    · exact hp
    · split
      · exact hp
      · split
        · exact hp
        · split
          · exact hp
          · split
            · simp only [w_32, w_22]; split <;> omega
            · exact hp
  | 5, _, _, _, _, h1 =>
    show v_mn (v_remM V (v_mem V (v_cls V a) m)).2.1 p ≠ 0
    unfold v_remM
    split
    · exact hp
    · rename_i k e
      split
      · exact hp
      · simp only [w_22, w_52]
        have : p ≠ k := fun q => h1 rfl (by rw [e, q])
        rw [if_neg this]
        exact hp
  | 6, _, _, _, l5, _ =>
    show v_mn (v_renM V (v_cls V a) (v_mem V (v_cls V a) m) n).2.1 p ≠ 0
    unfold v_renM
    split
    · exact hp
    · split
      · exact hp
      · simp only [w_22]; split <;> omega
  | 7, _, _, _, _, _ =>
    show v_mn (v_movM V (v_cls V a) (v_mem V (v_cls V a) m) (v_cls V b)).2.1 p ≠ 0
    unfold v_movM
    (repeat' split) <;> exact hp
  | 8, _, _, _, _, _ =>
    show v_mn (v_addU V (v_mem V (v_cls V a) m) (v_mem V (v_cls V b) n)).2.1 p ≠ 0
    unfold v_addU
    (repeat' split) <;> exact hp
  | k + 9, _, _, _, _, _ =>
    show v_mn (v_remU V (v_mem V (v_cls V a) m) (v_mem V (v_cls V b) n)).2.1 p ≠ 0
    unfold v_remU
    (repeat' split) <;> exact hp
theorem mk_add0 {c : zch} (hl : zc_leg c) (h0 : c.1 = 0) (hs : (v_mk V c).1 = 0) : ∃ i, (v_mk V c).2.2 = some i ∧ i < 12 ∧ v_cn V i = 0 ∧ v_cn (v_mk V c).2.1 i = c.2.1 := by
  obtain ⟨kind, a, m, b, n⟩ := c
  obtain ⟨l1, l2, l3, l4, l5⟩ := hl
  dsimp only at *
  subst h0
  unfold v_mk at *
  dsimp only at *
  have e : ∀ m b n, v_make V 0 a m b n = v_addC V (v_cls V a) a := fun _ _ _ => rfl
  rw [e] at *
  unfold v_addC at *
  split
  · rename_i q; rw [if_pos q] at hs; cases hs
  · rename_i q
    rw [if_neg q] at hs
    split
    · rename_i q2; rw [if_pos q2] at hs; cases hs
    · rename_i q2
      rw [if_neg q2] at hs
      split
      · rename_i i hi
        obtain ⟨-, i2, i3, -⟩ := zf_fst_some hi
        refine ⟨i, rfl, by omega, by simpa using i3, ?_⟩
        simp only [w_10, w_0, if_true]
      · rename_i hi; rw [hi] at hs; cases hs
theorem mk_add4 {c : zch} (hl : zc_leg c) (h0 : c.1 = 4) (hs : (v_mk V c).1 = 0) : ∃ i k, (v_mk V c).2.2 = some i ∧ i < 40 ∧ v_mn V i = 0 ∧ v_mn (v_mk V c).2.1 i = c.2.2.1 ∧ v_cls V c.2.1 = some k ∧ v_ow (v_mk V c).2.1 i = k := by
  obtain ⟨kind, a, m, b, n⟩ := c
  obtain ⟨l1, l2, l3, l4, l5⟩ := hl
  dsimp only at *
  subst h0
  unfold v_mk at *
  dsimp only at *
  have e : ∀ m b n, v_make V 4 a m b n = v_addM V (v_cls V a) m := fun _ _ _ => rfl
  rw [e] at *
  cases hc : v_cls V a with
  | none => rw [hc] at hs; cases hs
  | some k =>
    rw [hc] at hs
    unfold v_addM at *
    dsimp only at *
    split
    · rename_i q; rw [if_pos q] at hs; cases hs
    · rename_i q
      rw [if_neg q] at hs
      split
      · rename_i q2; rw [if_pos q2] at hs; cases hs
      · rename_i q2
        rw [if_neg q2] at hs
        split
        · rename_i q3; rw [if_pos q3] at hs; cases hs
        · rename_i q3
          rw [if_neg q3] at hs
          split
          · rename_i i hi
            obtain ⟨-, i2, i3, -⟩ := zf_fst_some hi
            refine ⟨i, k, rfl, by omega, by simpa using i3, ?_, rfl, ?_⟩
            · simp only [w_32, w_22, if_true]
            · simp only [w_33, if_true]
          · rename_i hi; rw [hi] at hs; cases hs
theorem mk_1 {c : zch} (h0 : c.1 = 1) (hs : (v_mk V c).1 = 0) : ∃ i, v_cls V c.2.1 = some i ∧ v_cn (v_mk V c).2.1 = va_up (v_cn V) i 0 := by
  obtain ⟨kind, a, m, b, n⟩ := c
  dsimp only at *
  subst h0
  unfold v_mk at *
  dsimp only at *
  have e : ∀ m b n, v_make V 1 a m b n = v_remC V (v_cls V a) := fun _ _ _ => rfl
  rw [e] at *
  cases hc : v_cls V a with
  | none => rw [hc] at hs; cases hs
  | some k =>
    rw [hc] at hs
    refine ⟨k, rfl, ?_⟩
    unfold v_remC at *
    dsimp only at *
    split
    · rename_i q; rw [if_pos q] at hs; cases hs
    · rename_i q
      rw [if_neg q] at hs
      split
      · rename_i q; rw [if_pos q] at hs; cases hs
      · rfl
theorem mk_5 {c : zch} (h0 : c.1 = 5) (hs : (v_mk V c).1 = 0) : ∃ i, v_mem V (v_cls V c.2.1) c.2.2.1 = some i ∧ v_mn (v_mk V c).2.1 = va_up (v_mn V) i 0 := by
  obtain ⟨kind, a, m, b, n⟩ := c
  dsimp only at *
  subst h0
  unfold v_mk at *
  dsimp only at *
  have e : ∀ m b n, v_make V 5 a m b n = v_remM V (v_mem V (v_cls V a) m) := fun _ _ _ => rfl
  rw [e] at *
  cases hc : v_mem V (v_cls V a) m with
  | none => rw [hc] at hs; cases hs
  | some k =>
    rw [hc] at hs
    refine ⟨k, rfl, ?_⟩
    unfold v_remM at *
    dsimp only at *
    split
    · rename_i q; rw [if_pos q] at hs; cases hs
    · rfl
end ZM
/-! matches stay sound -/
def zj_C (MV TG : zv) (C : Nat → Option Nat) : Prop := (∀ c, c < 12 → ∀ p, C c = some p → p < 12 ∧ v_cn MV c ≠ 0 ∧ v_cn TG p ≠ 0) ∧ (∀ c d, c < 12 → d < 12 → ∀ p, C c = some p → C d = some p → c = d)
def zj_M (MV TG : zv) (M : Nat → Option Nat) : Prop := (∀ c, c < 40 → ∀ p, M c = some p → p < 40 ∧ v_mn MV c ≠ 0 ∧ v_mn TG p ≠ 0) ∧ (∀ c d, c < 40 → d < 40 → ∀ p, M c = some p → M d = some p → c = d)
def zj (MV TG : zv) (C M : Nat → Option Nat) : Prop := zv_W MV ∧ zv_W TG ∧ zj_C MV TG C ∧ zj_M MV TG M
section ZJ
variable {V W MV TG : zv} {C M : Nat → Option Nat}
theorem v_isM_no {n p k : Nat} (h : v_isM C n p = false) (hk : k < n) : C k ≠ some p := by
  intro e
  have := zf_any_no (p := fun k => C k == some p) (by unfold v_isM at h; rw [h]; decide) hk
  simp [e] at this
theorem v_isM_yes {n p : Nat} (h : v_isM C n p = true) : ∃ k, k < n ∧ C k = some p := by
  obtain ⟨j, _, h2, h3⟩ := zf_any_iff.mp h
  exact ⟨j, by omega, by simpa using h3⟩
theorem v_cls_at {p : Nat} (hW : zv_W V) (hp : p < 12) (hl : v_cn V p ≠ 0) : v_cls V (v_cn V p) = some p := by
  cases h : v_cls V (v_cn V p) with
  | none => exact absurd rfl (v_cls_none h hl hp)
  | some q =>
    obtain ⟨h1, h2, h3⟩ := v_cls_lt h
    rw [hW.2.2.2.2.2.1 p q hp h1 hl h2.symm]
theorem v_mem_at {p : Nat} (hW : zv_W V) (hp : p < 40) (hl : v_mn V p ≠ 0) : v_mem V (some (v_ow V p)) (v_mn V p) = some p := by
  cases h : v_mem V (some (v_ow V p)) (v_mn V p) with
  | none =>
    have := zf_fst_ne (j := p) h (by omega) (by omega)
    simp at this
  | some q =>
    obtain ⟨h1, h2, h3⟩ := v_mem_lt h
    rw [hW.2.2.2.2.2.2.2.2.1 p q hp h1 hl h2.symm (by injection h3)]
theorem v_ol_l : ∀ {k nm i c : Nat}, v_ol V nm k i = some c → v_cn V c ≠ 0
  | 0, _, _, _, h => by cases h
  | k + 1, nm, i, c, h => by
    unfold v_ol at h
    split at h
    · rename_i d hd
      split at h
      · cases h; exact (v_cls_l _ hd).2
      · exact v_ol_l h
    · exact v_ol_l h
theorem v_like_ok {c p : Nat} (h : v_like V W C c = some p) : p < 12 ∧ v_cn W p ≠ 0 ∧ v_isM C 12 p = false := by
  unfold v_like at h
  split at h
  · have := zf_fold_ind (f := v_lkS W C (v_msk V (fun o => o == c))) (P := fun b => ∀ j, b.1 = some j → j < 12 ∧ v_cn W j ≠ 0 ∧ v_isM C 12 j = false) (fun i b hb => by
      unfold v_lkS
      split
      · exact hb
      · rename_i q hq
        unfold v_lk1
        split
        · rename_i hlt
          intro j hj
          cases hj
          refine ⟨v_ord_12 _ hq, v_ol_l hq, ?_⟩
          cases e : v_isM C 12 q with
          | false => rfl
          | true => unfold v_cm at hlt; rw [e] at hlt; exact absurd hlt (by simp)
        · exact hb) 12 0 (none, 0) (fun j hj => by cases hj)
    exact this p h
  · cases h
theorem v_lone_ok {nm p : Nat} (h : v_lone W M nm = some p) : p < 40 ∧ v_mn W p = nm ∧ v_isM M 40 p = false := by
  refine ⟨v_lone_40 p h, ?_⟩
  unfold v_lone at h
  split at h
  · have := zf_fold_ind (f := v_lnS W M nm) (P := fun b => ∀ j, b.1 = some j → v_mn W j = nm ∧ v_isM M 40 j = false) (fun i b hb => by
      unfold v_lnS
      cases e : (v_mn W i == nm && !v_isM M 40 i) with
      | false => exact hb
      | true =>
        intro j hj
        cases hj
        simpa using e) 40 0 (none, 0) (fun j hj => by cases hj)
    exact this p h
  · cases h
theorem zj_C0 (hV : zv_W V) : zj_C V W (v_mC0 V W) := by
  refine ⟨fun c hc p hp => ?_, fun c d hc hd p h1 h2 => ?_⟩
  · obtain ⟨g1, g2, g3⟩ := v_cls_lt hp
    exact ⟨g1, g3, by rw [g2]; exact g3⟩
  · obtain ⟨g1, g2, g3⟩ := v_cls_lt h1
    obtain ⟨k1, k2, k3⟩ := v_cls_lt h2
    exact hV.2.2.2.2.2.1 c d hc hd g3 (by rw [← g2, ← k2])
theorem zj_C.up {i : Nat} {x : Option Nat} (h : zj_C MV TG C) (hi : i < 12) (hl : x ≠ none → v_cn MV i ≠ 0) (hx : ∀ p, x = some p → p < 12 ∧ v_cn TG p ≠ 0 ∧ ∀ k, k < 12 → C k ≠ some p) : zj_C MV TG (va_up C i x) := by
  obtain ⟨h1, h2⟩ := h
  refine ⟨fun c hc p hp => ?_, fun c d hc hd p g1 g2 => ?_⟩
  · by_cases e : c = i
    · subst e
      simp only [va_up, if_true] at hp
      exact ⟨(hx p hp).1, hl (by rw [hp]; simp), (hx p hp).2.1⟩
    · simp only [va_up, if_neg e] at hp
      exact h1 c hc p hp
  · by_cases e : c = i <;> by_cases e2 : d = i
    · rw [e, e2]
    · subst e
      simp only [va_up, if_true] at g1
      simp only [va_up, if_neg e2] at g2
      exact absurd g2 ((hx p g1).2.2 d hd)
    · subst e2
      simp only [va_up, if_true] at g2
      simp only [va_up, if_neg e] at g1
      exact absurd g1 ((hx p g2).2.2 c hc)
    · simp only [va_up, if_neg e] at g1
      simp only [va_up, if_neg e2] at g2
      exact h2 c d hc hd p g1 g2
theorem zj_M.up {i : Nat} {x : Option Nat} (h : zj_M MV TG M) (hi : i < 40) (hl : x ≠ none → v_mn MV i ≠ 0) (hx : ∀ p, x = some p → p < 40 ∧ v_mn TG p ≠ 0 ∧ ∀ k, k < 40 → M k ≠ some p) : zj_M MV TG (va_up M i x) := by
  obtain ⟨h1, h2⟩ := h
  refine ⟨fun c hc p hp => ?_, fun c d hc hd p g1 g2 => ?_⟩
  · by_cases e : c = i
    · subst e
      simp only [va_up, if_true] at hp
      exact ⟨(hx p hp).1, hl (by rw [hp]; simp), (hx p hp).2.1⟩
    · simp only [va_up, if_neg e] at hp
      exact h1 c hc p hp
  · by_cases e : c = i <;> by_cases e2 : d = i
    · rw [e, e2]
    · subst e
      simp only [va_up, if_true] at g1
      simp only [va_up, if_neg e2] at g2
      exact absurd g2 ((hx p g1).2.2 d hd)
    · subst e2
      simp only [va_up, if_true] at g2
      simp only [va_up, if_neg e] at g1
      exact absurd g1 ((hx p g2).2.2 c hc)
    · simp only [va_up, if_neg e] at g1
      simp only [va_up, if_neg e2] at g2
      exact h2 c d hc hd p g1 g2
theorem zj_Cs {c : Nat} (h : zj_C V W C) (hc : c < 12) (hl : v_cn V c ≠ 0) : zj_C V W (v_mCs V W c C) := by
  unfold v_mCs
  split
  · exact h.up hc (fun _ => hl) (fun p hp => ⟨(v_like_ok hp).1, (v_like_ok hp).2.1, fun k hk => v_isM_no (v_like_ok hp).2.2 hk⟩)
  · exact h
theorem zj_mC (hV : zv_W V) : zj_C V W (v_mC V W) := zf_fold_ind (P := zj_C V W) (fun i C hC => by
    unfold v_mC1
    split
    · exact hC
    · rename_i c hc
      exact zj_Cs hC (v_ord_12 c hc) (v_ol_l hc)) 12 0 _ (zj_C0 hV)
theorem zj_M0 (hV : zv_W V) (hC : zj_C V W C) : zj_M V W (v_mM0 V W C) := by
  refine ⟨fun c hc p hp => ?_, fun c d hc hd p h1 h2 => ?_⟩
  · unfold v_mM0 at hp
    split at hp
    · cases hp
    · rename_i hn
      obtain ⟨g1, g2, g3⟩ := v_mem_lt hp
      exact ⟨g1, hn, by rw [g2]; exact hn⟩
  · unfold v_mM0 at h1 h2
    split at h1
    · cases h1
    · rename_i hn
      split at h2
      · cases h2
      · obtain ⟨g1, g2, g3⟩ := v_mem_lt h1
        obtain ⟨k1, k2, k3⟩ := v_mem_lt h2
        have o1 := hV.2.2.2.1 c hc
        have o2 := hV.2.2.2.1 d hd
        exact hV.2.2.2.2.2.2.2.2.1 c d hc hd hn (by rw [← g2, ← k2]) (hC.2 _ _ o1 o2 _ g3 k3)
theorem zj_Ms {c : Option Nat} {nm : Nat} (hn : nm ≠ 0) (h : zj_M V W M) : zj_M V W (v_mMs V W c nm M) := by
  unfold v_mMs
  split
  · exact h
  · rename_i m hm
    obtain ⟨m1, m2, m3⟩ := v_mem_lt hm
    split
    · exact h.up m1 (fun _ => by rw [m2]; exact hn) (fun p hp => ⟨(v_lone_ok hp).1, by rw [(v_lone_ok hp).2.1]; exact hn, fun k hk => v_isM_no (v_lone_ok hp).2.2 hk⟩)
    · exact h
theorem zj_mM (hV : zv_W V) : zj_M V W (v_mM V W) := zf_fold_ind (P := zj_M V W) (fun i M hM => by
    have : ∀ k nm M, nm ≠ 0 → zj_M V W M → zj_M V W (zf_fold (v_mMs V W (v_ord V i)) nm k M) := by
      intro k
      induction k with
      | zero => intro nm M _ h; exact h
      | succ k ih => intro nm M h0 h; exact ih (nm + 1) _ (by omega) (zj_Ms h0 h)
    exact this 26 97 M (by decide) hM) 12 0 _ (zj_M0 hV (zj_mC hV))
theorem zj_0 (hV : zv_W V) (hW : zv_W W) : zj V W (v_mC V W) (v_mM V W) := ⟨hV, hW, zj_mC hV, zj_mM hV⟩
/-! a step -/
theorem zj.nmF {k : Option Nat} (h : zj MV TG C M) (hk : ∀ i, k = some i → i < 12) (h0 : v_nmF TG C k ≠ 0) : ∃ c p, k = some c ∧ c < 12 ∧ C c = some p ∧ p < 12 ∧ v_nmF TG C k = v_cn TG p ∧ (65 ≤ v_cn TG p ∧ v_cn TG p ≤ 90) ∧ v_cls TG (v_cn TG p) = some p := by
  cases k with
  | none => exact absurd rfl h0
  | some c =>
    have hc := hk c rfl
    cases e : C c with
    | none => exact absurd (by simp [v_nmF, e]) h0
    | some p =>
      obtain ⟨p1, p2, p3⟩ := h.2.2.1.1 c hc p e
      exact ⟨c, p, rfl, hc, e, p1, by simp [v_nmF, e], by have := h.2.1.1 p p1; omega, v_cls_at h.2.1 p1 p3⟩
theorem zj.mbF {a m p : Nat} (h : zj MV TG C M) (hp : v_mbF MV M a m = some p) : ∃ k, v_mem MV (v_cls MV a) m = some k ∧ k < 40 ∧ M k = some p ∧ p < 40 ∧ (65 ≤ v_cn TG (v_ow TG p) ∧ v_cn TG (v_ow TG p) ≤ 90) ∧ (97 ≤ v_mn TG p ∧ v_mn TG p ≤ 122) ∧ v_mem TG (v_cls TG (v_cn TG (v_ow TG p))) (v_mn TG p) = some p := by
  unfold v_mbF at hp
  split at hp
  · cases hp
  · rename_i k hk
    have k1 := (v_mem_lt hk).1
    obtain ⟨p1, p2, p3⟩ := h.2.2.2.1 k k1 p hp
    have o1 := h.2.1.2.2.2.1 p p1
    have o2 := h.2.1.2.2.2.2.2.2.2.1 p p1 p3
    refine ⟨k, hk, k1, hp, p1, by have := h.2.1.1 _ o1; omega, by have := h.2.1.2.2.1 p p1; omega, ?_⟩
    rw [v_cls_at h.2.1 o1 o2]
    exact v_mem_at h.2.1 p1 p3
theorem v_plan_1 {c : zch} : (v_plan MV TG C M c).1 = c.1 := by
  unfold v_plan
  split <;> rfl
theorem zj.leg {c : zch} (h : zj MV TG C M) (hc : zc_leg c) (hh : v_hasP MV TG C M c = true) : zc_leg (v_plan MV TG C M c) := by
  obtain ⟨kind, a, m, b, n⟩ := c
  obtain ⟨l1, l2, l3, l4, l5⟩ := hc
  dsimp only at *
  unfold v_plan
  split
  · exact ⟨l1, l2, l3, l4, l5⟩
  · rename_i k0
    unfold v_hasP at hh
    rw [if_neg k0, Bool.and_eq_true] at hh
    obtain ⟨hA, hR⟩ := hh
    have hA : v_pA MV TG C M (kind, a, m, b, n) ≠ 0 := by simpa using hA
    dsimp only at *
    have rA : (65 ≤ v_pA MV TG C M (kind, a, m, b, n) ∧ v_pA MV TG C M (kind, a, m, b, n) ≤ 90) ∧ (4 < kind → 97 ≤ v_pM MV TG M (kind, a, m, b, n) ∧ v_pM MV TG M (kind, a, m, b, n) ≤ 122) := by
      unfold v_pA v_pM at *
      dsimp only at *
      split at hA
      · rename_i k4
        rw [if_pos k4]
        obtain ⟨c, p, q1, q2, q3, q4, q5, q6, q7⟩ := h.nmF v_cls_12 hA
        rw [q5]
        exact ⟨q6, fun q => absurd q (by omega)⟩
      · rename_i k4
        rw [if_neg k4, if_neg k4]
        cases e : v_mbF MV M a m with
        | none => rw [e] at hA; exact absurd rfl hA
        | some p =>
          obtain ⟨k, q1, q2, q3, q4, q5, q6, q7⟩ := h.mbF e
          exact ⟨q5, fun _ => q6⟩
    have rM : kind ≤ 4 → v_pM MV TG M (kind, a, m, b, n) = m := fun q => by unfold v_pM; rw [if_pos q]
    refine ⟨l1, rA.1, ?_, ?_, ?_⟩
    · dsimp only
      constructor
      · intro q; rw [rM (by omega)]; omega
      · intro q
        by_cases e : kind = 4
        · rw [rM (by omega)]; omega
        · exact rA.2 (by omega)
    · dsimp only
      unfold v_pB at *
      dsimp only at *
      by_cases k8 : 8 ≤ kind
      · rw [if_pos k8] at hR ⊢
        cases e : v_mbF MV M b n with
        | none => rw [e] at hR; cases hR
        | some p =>
          obtain ⟨k, q1, q2, q3, q4, q5, q6, q7⟩ := h.mbF e
          simp only [v_onm]
          omega
      · rw [if_neg k8] at hR ⊢
        by_cases k7 : kind = 7 ∨ (kind = 3 ∧ ¬ b = 0)
        · rw [if_pos k7] at hR ⊢
          rw [if_neg k8, if_pos k7] at hR
          obtain ⟨c, p, q1, q2, q3, q4, q5, q6, q7⟩ := h.nmF v_cls_12 (show v_nmF TG C (v_cls MV b) ≠ 0 by simpa using hR)
          rw [q5]
          omega
        · rw [if_neg k7]
          omega
    · dsimp only
      unfold v_pN
      dsimp only
      by_cases k8 : 8 ≤ kind
      · rw [if_pos k8] at hR ⊢
        cases e : v_mbF MV M b n with
        | none => rw [e] at hR; cases hR
        | some p =>
          obtain ⟨k, q1, q2, q3, q4, q5, q6, q7⟩ := h.mbF e
          simp only [v_mnm]
          omega
      · rw [if_neg k8]
        omega
/-- what a tried change leaves -/
def zj_T (MV TG : zv) (C M : Nat → Option Nat) (c : zch) (TG' : zv) (mt : Option Nat) : Prop := zv_W TG' ∧ (∀ p, p < 12 → v_cn TG p ≠ 0 → (c.1 = 1 → ∀ c0, v_cls MV c.2.1 = some c0 → C c0 ≠ some p) → v_cn TG' p ≠ 0) ∧ (∀ p, p < 40 → v_mn TG p ≠ 0 → (c.1 = 5 → ∀ c0, v_mem MV (v_cls MV c.2.1) c.2.2.1 = some c0 → M c0 ≠ some p) → v_mn TG' p ≠ 0) ∧ (c.1 = 0 → ∀ p, mt = some p → p < 12 ∧ v_cn TG' p ≠ 0 ∧ ∀ k, k < 12 → C k ≠ some p) ∧ (c.1 = 4 → ∀ p, mt = some p → p < 40 ∧ v_mn TG' p ≠ 0 ∧ ∀ k, k < 40 → M k ≠ some p)
theorem zj_T.same {c : zch} (h : zj MV TG C M) : zj_T MV TG C M c TG none := ⟨h.2.1, fun _ _ q _ => q, fun _ _ q _ => q, fun _ p q => (by cases q), fun _ p q => (by cases q)⟩
theorem zj.made {c pl : zch} (h : zj MV TG C M) (hc : c.1 = pl.1) (hl : zc_leg pl) (hs : (v_mk TG pl).1 = 0) (h1 : c.1 = 1 → ∃ c0 p, v_cls MV c.2.1 = some c0 ∧ C c0 = some p ∧ v_cls TG pl.2.1 = some p) (h5 : c.1 = 5 → ∃ c0 p, v_mem MV (v_cls MV c.2.1) c.2.2.1 = some c0 ∧ M c0 = some p ∧ v_mem TG (v_cls TG pl.2.1) pl.2.2.1 = some p) : zj_T MV TG C M c (v_mk TG pl).2.1 (v_mk TG pl).2.2 := by
  refine ⟨h.2.1.mk hl, fun p hp hn hx => ?_, fun p hp hn hx => ?_, fun k0 p hp => ?_, fun k0 p hp => ?_⟩
  · refine mk_cn hl hn (fun k1 e => ?_)
    obtain ⟨c0, p0, q1, q2, q3⟩ := h1 (by rw [hc]; exact k1)
    rw [q3] at e
    cases e
    exact hx (by rw [hc]; exact k1) c0 q1 q2
  · refine mk_mn hl hn (fun k1 e => ?_)
    obtain ⟨c0, p0, q1, q2, q3⟩ := h5 (by rw [hc]; exact k1)
    rw [q3] at e
    cases e
    exact hx (by rw [hc]; exact k1) c0 q1 q2
  · obtain ⟨i, i1, i2, i3, i4⟩ := mk_add0 hl (by rw [← hc]; exact k0) hs
    rw [i1] at hp
    cases hp
    refine ⟨i2, by rw [i4]; have := hl.2.1; omega, fun k hk e => (h.2.2.1.1 k hk _ e).2.2 i3⟩
  · obtain ⟨i, k, i1, i2, i3, i4, -⟩ := mk_add4 hl (by rw [← hc]; exact k0) hs
    rw [i1] at hp
    cases hp
    have : 97 ≤ pl.2.2.1 := (hl.2.2.1.2 (by omega)).1
    exact ⟨i2, by rw [i4]; omega, fun k hk e => (h.2.2.2.1 k hk _ e).2.2 i3⟩
theorem v_adv_leg {pl : zch} (h : zc_leg pl) : zc_leg (v_adv pl) := by
  obtain ⟨kind, a, m, b, n⟩ := pl
  obtain ⟨l1, l2, l3, l4, l5⟩ := h
  dsimp only at *
  refine ⟨l1, l2, ?_, ?_, ?_⟩ <;> dsimp only [v_adv] <;> unfold v_nx <;> (repeat' split) <;> omega
theorem v_mend_T {c : zch} (h : zj MV TG C M) (f : Nat) (h1 : c.1 ≠ 1) (h5 : c.1 ≠ 5) : ∀ (k : Nat) (pl : zch), c.1 = pl.1 → zc_leg pl → zj_T MV TG C M c (v_mend TG f k pl).2.1 (v_mend TG f k pl).2.2
  | 0, _, _, _ => zj_T.same h
  | k + 1, pl, hc, hl => by
    unfold v_mend
    split
    · rename_i hs
      exact h.made hc (v_adv_leg hl) hs (fun q => absurd q h1) (fun q => absurd q h5)
    · split
      · exact zj_T.same h
      · exact v_mend_T h f h1 h5 k (v_adv pl) hc (v_adv_leg hl)
theorem zj.tryR {c : zch} {mend : Bool} (h : zj MV TG C M) (hc : zc_leg c) : zj_T MV TG C M c (v_tryR mend MV TG C M c).2.1 (v_tryR mend MV TG C M c).2.2 := by
  unfold v_tryR
  dsimp only
  split
  · exact zj_T.same h
  · rename_i hh
    have hh : v_hasP MV TG C M c = true := by simpa using hh
    have hl := h.leg hc hh
    have e1 := (v_plan_1 (MV := MV) (TG := TG) (C := C) (M := M) (c := c)).symm
    split
    · rename_i hs
      refine h.made e1 hl hs (fun k1 => ?_) (fun k1 => ?_)
      · have ep : (v_plan MV TG C M c).2.1 = v_nmF TG C (v_cls MV c.2.1) := by
          unfold v_plan v_pA
          rw [if_neg (by omega)]
          dsimp only
          rw [if_pos (by omega)]
        rw [ep]
        obtain ⟨c0, p, q1, q2, q3, q4, q5, q6, q7⟩ := h.nmF (k := v_cls MV c.2.1) v_cls_12 (by rw [← ep]; have := hl.2.1; omega)
        exact ⟨c0, p, q1, q3, by rw [q5]; exact q7⟩
      · have ep : (v_plan MV TG C M c).2.1 = v_onm TG (v_mbF MV M c.2.1 c.2.2.1) ∧ (v_plan MV TG C M c).2.2.1 = v_mnm TG (v_mbF MV M c.2.1 c.2.2.1) := by
          unfold v_plan v_pA v_pM
          rw [if_neg (by omega)]
          dsimp only
          rw [if_neg (by omega), if_neg (by omega)]
          exact ⟨rfl, rfl⟩
        rw [ep.1, ep.2]
        cases e : v_mbF MV M c.2.1 c.2.2.1 with
        | none => rw [e] at ep; have := hl.2.1; rw [ep.1] at this; exact absurd this.1 (by simp [v_onm])
        | some p =>
          obtain ⟨k, q1, q2, q3, q4, q5, q6, q7⟩ := h.mbF e
          exact ⟨k, p, q1, q3, q7⟩
    · rename_i hs
      split
      · rename_i hcn
        dsimp only
        cases he : v_els TG C M (v_plan MV TG C M c) with
        | true => exact zj_T.same h
        | false =>
          refine ⟨h.2.1, fun _ _ q _ => q, fun _ _ q _ => q, fun k0 p hp => ?_, fun k0 p hp => ?_⟩
          · simp only [cond_false] at hp
            have hp2 := hp
            unfold v_els at he
            rw [hp] at he
            simp only [e1 ▸ k0, if_true] at he
            unfold v_old at hp2
            rw [if_pos (by omega)] at hp2
            obtain ⟨g1, g2⟩ := v_cls_l _ hp2
            exact ⟨g1, g2, fun k hk => v_isM_no he hk⟩
          · simp only [cond_false] at hp
            have hp2 := hp
            unfold v_els at he
            rw [hp] at he
            dsimp only at he
            rw [if_neg (by omega)] at he
            unfold v_old at hp2
            rw [if_neg (by omega), if_pos (by omega)] at hp2
            obtain ⟨g1, g2⟩ := v_mem_l (by have := (hl.2.2.1.2 (by omega)).1; omega) _ hp2
            exact ⟨g1, g2, fun k hk => v_isM_no he hk⟩
      · split
        · rename_i hm
          unfold v_may at hm
          simp only [Bool.and_eq_true, Bool.or_eq_true, beq_iff_eq] at hm
          exact v_mend_T h _ (by omega) (by omega) 25 _ e1 hl
        · exact zj_T.same h
theorem zj.on {c : zch} {TG' : zv} {mt : Option Nat} (h : zj MV TG C M) (hc : zc_leg c) (hs : (v_mk MV c).1 = 0) (ht : zj_T MV TG C M c TG' mt) : zj (v_mk MV c).2.1 TG' (v_onC MV C c mt) (v_onM MV M c mt) := by
  obtain ⟨t1, t2, t3, t4, t5⟩ := ht
  obtain ⟨w1, w2, ⟨c1, c2⟩, ⟨m1, m2⟩⟩ := h
  refine ⟨w1.mk hc, t1, ?_, ?_⟩
  · unfold v_onC
    split
    · rename_i k0
      obtain ⟨i, i1, i2, i3, i4⟩ := mk_add0 hc k0 hs
      rw [i1]
      dsimp only
      have base : zj_C (v_mk MV c).2.1 TG' C := ⟨fun d hd p hp => ⟨(c1 d hd p hp).1, mk_cn hc (c1 d hd p hp).2.1 (fun q => absurd q (by omega)), t2 p (c1 d hd p hp).1 (c1 d hd p hp).2.2 (fun q => absurd q (by omega))⟩, c2⟩
      exact base.up i2 (fun _ => by rw [i4]; have := hc.2.1; omega) (fun p hp => t4 k0 p hp)
    · split
      · rename_i k0 k1
        obtain ⟨i, i1, i2⟩ := mk_1 k1 hs
        have hi := (v_cls_lt i1).1
        rw [i1]
        dsimp only
        refine ⟨fun d hd p hp => ?_, fun d e hd he p g1 g2 => ?_⟩
        · by_cases q : d = i
          · subst q; simp only [va_up, if_true] at hp; cases hp
          · simp only [va_up, if_neg q] at hp
            refine ⟨(c1 d hd p hp).1, mk_cn hc (c1 d hd p hp).2.1 (fun _ e => ?_), t2 p (c1 d hd p hp).1 (c1 d hd p hp).2.2 (fun _ c0 e1 e2 => ?_)⟩
            · rw [i1] at e; cases e; exact q rfl
            · rw [i1] at e1; cases e1; exact q (c2 d _ hd hi p hp e2)
        · by_cases q : d = i
          · subst q; simp only [va_up, if_true] at g1; cases g1
          · by_cases q2 : e = i
            · subst q2; simp only [va_up, if_true] at g2; cases g2
            · simp only [va_up, if_neg q] at g1
              simp only [va_up, if_neg q2] at g2
              exact c2 d e hd he p g1 g2
      · rename_i k0 k1
        exact ⟨fun d hd p hp => ⟨(c1 d hd p hp).1, mk_cn hc (c1 d hd p hp).2.1 (fun q => absurd q k1), t2 p (c1 d hd p hp).1 (c1 d hd p hp).2.2 (fun q => absurd q k1)⟩, c2⟩
  · unfold v_onM
    split
    · rename_i k0
      obtain ⟨i, k, i1, i2, i3, i4, -⟩ := mk_add4 hc k0 hs
      rw [i1]
      dsimp only
      have base : zj_M (v_mk MV c).2.1 TG' M := ⟨fun d hd p hp => ⟨(m1 d hd p hp).1, mk_mn hc (m1 d hd p hp).2.1 (fun q => absurd q (by omega)), t3 p (m1 d hd p hp).1 (m1 d hd p hp).2.2 (fun q => absurd q (by omega))⟩, m2⟩
      exact base.up i2 (fun _ => by rw [i4]; have := (hc.2.2.1.2 (by omega)).1; omega) (fun p hp => t5 k0 p hp)
    · split
      · rename_i k0 k1
        obtain ⟨i, i1, i2⟩ := mk_5 k1 hs
        have hi := (v_mem_lt i1).1
        rw [i1]
        dsimp only
        refine ⟨fun d hd p hp => ?_, fun d e hd he p g1 g2 => ?_⟩
        · by_cases q : d = i
          · subst q; simp only [va_up, if_true] at hp; cases hp
          · simp only [va_up, if_neg q] at hp
            refine ⟨(m1 d hd p hp).1, mk_mn hc (m1 d hd p hp).2.1 (fun _ e => ?_), t3 p (m1 d hd p hp).1 (m1 d hd p hp).2.2 (fun _ c0 e1 e2 => ?_)⟩
            · rw [i1] at e; cases e; exact q rfl
            · rw [i1] at e1; cases e1; exact q (m2 d _ hd hi p hp e2)
        · by_cases q : d = i
          · subst q; simp only [va_up, if_true] at g1; cases g1
          · by_cases q2 : e = i
            · subst q2; simp only [va_up, if_true] at g2; cases g2
            · simp only [va_up, if_neg q] at g1
              simp only [va_up, if_neg q2] at g2
              exact m2 d e hd he p g1 g2
      · rename_i k0 k1
        exact ⟨fun d hd p hp => ⟨(m1 d hd p hp).1, mk_mn hc (m1 d hd p hp).2.1 (fun q => absurd q k1), t3 p (m1 d hd p hp).1 (m1 d hd p hp).2.2 (fun q => absurd q k1)⟩, m2⟩
end ZJ
