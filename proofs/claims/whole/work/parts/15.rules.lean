/-! the small machine's rules: zp_wp is 'it comes to an end with Q' -/
theorem zp_st_nret {X : zm_X} {i : Instr} {pc pc' : Nat} {ml st : List Value} {h : zm_H} {z : zm_S} {rt : Option FieldType} (hz : zm_st X i pc pc' ml st h = some z) : zm_ret i rt st = none := by
  cases i <;> first | rfl | (simp [zm_st] at hz; done)
theorem zp_rs_ncal {k idx a j pc' y : Nat} {ml st : List Value} {h : zm_H} {z : zm_S} (hz : zm_rs k idx a j pc' ml st h = some z) : zm_cal k a y st h = none ∧ Nat.beq k 12 = false := by
  revert hz
  match k with
  | 3 | 4 | 5 | 6 | 7 | 12 | 15 => intro hz; simp [zm_rs] at hz
  | 0 | 1 | 2 | 8 | 9 | 10 | 11 | 13 | 14 | 16 => intro _; refine ⟨?_, rfl⟩; unfold zm_cal; cases (Nat.blt (zm_lv a) (zm_lv y) && Nat.blt a zm_nM) <;> rfl
  | n + 17 => intro hz; simp [zm_rs] at hz
theorem zp_run_ret {X : zm_X} {n y pc pc' : Nat} {i : Instr} {ml st : List Value} {h : zm_H} {v : Option Value} (hlk : zm_lk (zm_cd y) pc = some (.inl i, pc')) (hr : zm_ret i (zm_rt y) st = some v) : zm_run X (n + 1) y pc ml st h = some (.inl v, h) := by
  rw [zm_run, hlk]
  simp only [hr]
theorem zp_run_st {X : zm_X} {n y pc pc' pc2 : Nat} {i : Instr} {ml st ml2 st2 : List Value} {h h2 : zm_H} (hlk : zm_lk (zm_cd y) pc = some (.inl i, pc')) (hs : zm_st X i pc pc' ml st h = some (pc2, ml2, st2, h2)) : zm_run X (n + 1) y pc ml st h = zm_run X n y pc2 ml2 st2 h2 := by
  rw [zm_run, hlk]
  simp only [zp_st_nret hs, hs]
theorem zp_run_rs {X : zm_X} {n y pc pc' pc2 k idx a j : Nat} {ml st ml2 st2 : List Value} {h h2 : zm_H} (hlk : zm_lk (zm_cd y) pc = some (.inr (k, idx, a, j), pc')) (hs : zm_rs k idx a j pc' ml st h = some (pc2, ml2, st2, h2)) : zm_run X (n + 1) y pc ml st h = zm_run X n y pc2 ml2 st2 h2 := by
  rw [zm_run, hlk]
  obtain ⟨h1, h2⟩ := zp_rs_ncal (y := y) hs
  simp only [h1, h2, cond_false, hs]
theorem zp_run_thr {X : zm_X} {n y pc pc' idx a j : Nat} {ml st : List Value} {h : zm_H} (hlk : zm_lk (zm_cd y) pc = some (.inr (12, idx, a, j), pc')) (hw : zm_wd st ≤ 8) : zm_run X (n + 1) y pc ml st h = some (.inr a, (h.1, h.2.1, h.2.2.1 + 6, h.2.2.2 + 1)) := by
  rw [zm_run, hlk]
  have h1 : zm_cal 12 a y st h = none := by unfold zm_cal; cases (Nat.blt (zm_lv a) (zm_lv y) && Nat.blt a zm_nM) <;> rfl
  have h2 : Nat.beq 12 12 = true := rfl
  simp only [h1, h2, cond_true, Nat.ble_eq_true_of_le hw]
theorem zp_run_call {X : zm_X} {n y pc pc' k idx a j : Nat} {ml st as rest : List Value} {h : zm_H} (hlk : zm_lk (zm_cd y) pc = some (.inr (k, idx, a, j), pc')) (hc : zm_cal k a y st h = some (as, rest)) : zm_run X (n + 1) y pc ml st h =
    match zm_run X n a 0 (zm_ent as (zm_mx a)) [] h with
        | none => none
        | some (.inl v, h2) => zm_run X n y pc' ml (v.toList ++ rest) h2
        | some (.inr E, h2) => match zm_cat (zm_hd y) pc E with
          | some j => some (.inl (some (.int (Int32.ofNat j))), h2)
          | none => some (.inr E, h2) := by
  rw [zm_run, hlk]
  simp only [hc]
  cases zm_run X n a 0 (zm_ent as (zm_mx a)) [] h with
  | none => rfl
  | some z =>
    obtain ⟨r, h2⟩ := z
    cases r with
    | inl v => rfl
    | inr E =>
      cases hq : zm_cat (zm_hd y) pc E with
      | none => simp only [hq]
      | some j => simp only [hq]
theorem zp_succ {X : zm_X} : ∀ (n y pc : Nat) (ml st : List Value) (h : zm_H) (z : zm_O × zm_H), zm_run X n y pc ml st h = some z → zm_run X (n + 1) y pc ml st h = some z := by
  intro n
  induction n with
  | zero => intro y pc ml st h z hr; cases hr
  | succ n ih =>
    intro y pc ml st h z hr
    obtain ⟨r, h'⟩ := z
    rcases zm_run_cases hr with ⟨i, pc', v, hlk, hret, rfl, rfl⟩ | ⟨i, pc', pc2, ml2, st2, h2, hlk, hs, hr2⟩ | ⟨k, idx, a, j, pc', as, rest, r2, h2, hlk, hcal, hr2, hx⟩ | ⟨idx, a, j, pc', hlk, hwd, rfl, rfl⟩ | ⟨k, idx, a, j, pc', pc2, ml2, st2, h2, hlk, hs, hr2⟩
    · exact zp_run_ret hlk hret
    · rw [zp_run_st hlk hs]; exact ih _ _ _ _ _ _ hr2
    · rw [zp_run_call hlk hcal, ih _ _ _ _ _ _ hr2]
      rcases hx with ⟨v, rfl, hr3⟩ | ⟨E, rfl, rfl, hx⟩
      · exact ih _ _ _ _ _ _ hr3
      · rcases hx with ⟨q, hq, rfl⟩ | ⟨hq, rfl⟩
        · simp only [hq]
        · simp only [hq]
    · exact zp_run_thr hlk hwd
    · rw [zp_run_rs hlk hs]; exact ih _ _ _ _ _ _ hr2
theorem zp_add {X : zm_X} {n y pc : Nat} {ml st : List Value} {h : zm_H} {z : zm_O × zm_H} (k : Nat) (hr : zm_run X n y pc ml st h = some z) : zm_run X (n + k) y pc ml st h = some z := by
  induction k with
  | zero => exact hr
  | succ k ih => exact zp_succ _ _ _ _ _ _ _ ih
def zp_wp (X : zm_X) (y pc : Nat) (ls st : List Value) (h : zm_H) (Q : zm_O → zm_H → Prop) : Prop := ∃ n r h', zm_run X n y pc ls st h = some (r, h') ∧ Q r h'
/-- a method: from its entry -/
def zp_wm (X : zm_X) (y : Nat) (as : List Value) (h : zm_H) (Q : zm_O → zm_H → Prop) : Prop := zp_wp X y 0 (zm_ent as (zm_mx y)) [] h Q
/-- behind a call -/
def zp_k (X : zm_X) (y pc pc' : Nat) (ls rest : List Value) (Q : zm_O → zm_H → Prop) : zm_O → zm_H → Prop := fun r h => match r with
  | .inl none => zp_wp X y pc' ls rest h Q
  | .inl (some v) => zp_wp X y pc' ls (v :: rest) h Q
  | .inr E => match zm_cat (zm_hd y) pc E with
    | some j => Q (.inl (some (.int (Int32.ofNat j)))) h
    | none => Q (.inr E) h
section ZP
variable {X : zm_X} {y pc pc' : Nat} {ls st : List Value} {h : zm_H} {Q : zm_O → zm_H → Prop}
theorem zp_mono {Q' : zm_O → zm_H → Prop} (hq : ∀ r h', Q r h' → Q' r h') (k : zp_wp X y pc ls st h Q) : zp_wp X y pc ls st h Q' := by
  obtain ⟨n, r, h', h1, h2⟩ := k
  exact ⟨n, r, h', h1, hq r h' h2⟩
theorem zp_st {i : Instr} {pc2 : Nat} {ls2 st2 : List Value} {h2 : zm_H} (hf : zm_lk (zm_cd y) pc = some (.inl i, pc')) (hs : zm_st X i pc pc' ls st h = some (pc2, ls2, st2, h2)) (k : zp_wp X y pc2 ls2 st2 h2 Q) : zp_wp X y pc ls st h Q := by
  obtain ⟨n, r, h', h1, hq⟩ := k
  exact ⟨n + 1, r, h', by rw [zp_run_st hf hs]; exact h1, hq⟩
theorem zp_rs {kd idx a j pc2 : Nat} {ls2 st2 : List Value} {h2 : zm_H} (hf : zm_lk (zm_cd y) pc = some (.inr (kd, idx, a, j), pc')) (hs : zm_rs kd idx a j pc' ls st h = some (pc2, ls2, st2, h2)) (k : zp_wp X y pc2 ls2 st2 h2 Q) : zp_wp X y pc ls st h Q := by
  obtain ⟨n, r, h', h1, hq⟩ := k
  exact ⟨n + 1, r, h', by rw [zp_run_rs hf hs]; exact h1, hq⟩
theorem zp_ret {i : Instr} {v : Option Value} (hf : zm_lk (zm_cd y) pc = some (.inl i, pc')) (hr : zm_ret i (zm_rt y) st = some v) (hq : Q (.inl v) h) : zp_wp X y pc ls st h Q := ⟨1, _, _, zp_run_ret hf hr, hq⟩
theorem zp_throw {idx a j : Nat} (hf : zm_lk (zm_cd y) pc = some (.inr (12, idx, a, j), pc')) (hw : zm_wd st ≤ 8) (hq : Q (.inr a) (h.1, h.2.1, h.2.2.1 + 6, h.2.2.2 + 1)) : zp_wp X y pc ls st h Q := ⟨1, _, _, zp_run_thr hf hw, hq⟩
theorem zp_call {kd idx a j : Nat} {as rest : List Value} (hf : zm_lk (zm_cd y) pc = some (.inr (kd, idx, a, j), pc')) (hc : zm_cal kd a y st h = some (as, rest)) (k : zp_wm X a as h (zp_k X y pc pc' ls rest Q)) : zp_wp X y pc ls st h Q := by
  obtain ⟨n, r, h', h1, hq⟩ := k
  match r, hq, h1 with
  | .inl none, hq, h1 =>
    obtain ⟨n2, r2, h2, h3, hq2⟩ := hq
    refine ⟨n + n2 + 1, r2, h2, ?_, hq2⟩
    rw [zp_run_call hf hc, zp_add n2 h1]
    rw [Nat.add_comm n n2]
    exact zp_add n h3
  | .inl (some v), hq, h1 =>
    obtain ⟨n2, r2, h2, h3, hq2⟩ := hq
    refine ⟨n + n2 + 1, r2, h2, ?_, hq2⟩
    rw [zp_run_call hf hc, zp_add n2 h1]
    rw [Nat.add_comm n n2]
    exact zp_add n h3
  | .inr E, hq, h1 =>
    unfold zp_k at hq
    cases hcat : zm_cat (zm_hd y) pc E with
    | some q =>
      simp only [hcat] at hq
      exact ⟨n + 1, _, _, by rw [zp_run_call hf hc, h1]; simp only [hcat], hq⟩
    | none =>
      simp only [hcat] at hq
      exact ⟨n + 1, _, _, by rw [zp_run_call hf hc, h1]; simp only [hcat], hq⟩
/-- a call on an object -/
theorem zp_virt {idx a j r : Nat} {as rest fs : List Value} (hf : zm_lk (zm_cd y) pc = some (.inr (5, idx, a, j), pc')) (hp : zm_pop (zm_ar a) [] st = some (as, .ref r :: rest)) (ho : zm_obj h r = some (zm_own a, fs)) (hc : (Nat.blt (zm_lv a) (zm_lv y) && Nat.blt a zm_nM && (Nat.ble (zm_wd rest) 8 && Nat.ble (zm_exp (.ref r :: as)).length (zm_mx a))) = true) (k : zp_wm X a (.ref r :: as) h (zp_k X y pc pc' ls rest Q)) : zp_wp X y pc ls st h Q := by
  refine zp_call hf ?_ k
  simp only [Bool.and_eq_true] at hc
  unfold zm_cal
  rw [hc.1.1, hc.1.2]
  simp only [Bool.and_true, cond_true, hp, ho, hc.2.1, hc.2.2, Nat.beq_refl]

theorem zp_iconst {n : Int} {v : Int32} (hf : zm_lk (zm_cd y) pc = some (.inl (.iconst n), pc')) (hv : (Int32.ofInt n) = v) (k : zp_wp X y pc' ls (.int v :: st) h Q) : zp_wp X y pc ls st h Q := zp_st hf (by rw [← hv]; rfl) k
theorem zp_bipush {n : Int} {v : Int32} (hf : zm_lk (zm_cd y) pc = some (.inl (.bipush n), pc')) (hv : (Int8.ofInt n).toInt32 = v) (k : zp_wp X y pc' ls (.int v :: st) h Q) : zp_wp X y pc ls st h Q := zp_st hf (by rw [← hv]; rfl) k
theorem zp_sipush {n : Int} {v : Int32} (hf : zm_lk (zm_cd y) pc = some (.inl (.sipush n), pc')) (hv : (Int16.ofInt n).toInt32 = v) (k : zp_wp X y pc' ls (.int v :: st) h Q) : zp_wp X y pc ls st h Q := zp_st hf (by rw [← hv]; rfl) k
theorem zp_lconst {n : Fin 2} {v : Int64} (hf : zm_lk (zm_cd y) pc = some (.inl (.lconst n), pc')) (hv : Int64.ofNat n = v) (k : zp_wp X y pc' ls (.long v :: st) h Q) : zp_wp X y pc ls st h Q := zp_st hf (by rw [← hv]; rfl) k
theorem zp_iload {i : Nat} {x : Int32} (hf : zm_lk (zm_cd y) pc = some (.inl (.iload i), pc')) (hl : ls[(i : Nat)]? = some (.int x)) (k : zp_wp X y pc' ls (.int x :: st) h Q) : zp_wp X y pc ls st h Q := zp_st hf (by simp only [zm_st, zm_iload, hl]) k
theorem zp_iload_n {i : Fin 4} {x : Int32} (hf : zm_lk (zm_cd y) pc = some (.inl (.iload_n i), pc')) (hl : ls[(i : Nat)]? = some (.int x)) (k : zp_wp X y pc' ls (.int x :: st) h Q) : zp_wp X y pc ls st h Q := zp_st hf (by simp only [zm_st, zm_iload, hl]) k
theorem zp_lload {i : Nat} {x : Int64} (hf : zm_lk (zm_cd y) pc = some (.inl (.lload i), pc')) (hl : ls[(i : Nat)]? = some (.long x)) (k : zp_wp X y pc' ls (.long x :: st) h Q) : zp_wp X y pc ls st h Q := zp_st hf (by simp only [zm_st, zm_lload, hl]) k
theorem zp_lload_n {i : Fin 4} {x : Int64} (hf : zm_lk (zm_cd y) pc = some (.inl (.lload_n i), pc')) (hl : ls[(i : Nat)]? = some (.long x)) (k : zp_wp X y pc' ls (.long x :: st) h Q) : zp_wp X y pc ls st h Q := zp_st hf (by simp only [zm_st, zm_lload, hl]) k
theorem zp_aload {i : Nat} {x : Nat} (hf : zm_lk (zm_cd y) pc = some (.inl (.aload i), pc')) (hl : ls[(i : Nat)]? = some (.ref x)) (k : zp_wp X y pc' ls (.ref x :: st) h Q) : zp_wp X y pc ls st h Q := zp_st hf (by simp only [zm_st, zm_aload, hl]) k
theorem zp_aload_n {i : Fin 4} {x : Nat} (hf : zm_lk (zm_cd y) pc = some (.inl (.aload_n i), pc')) (hl : ls[(i : Nat)]? = some (.ref x)) (k : zp_wp X y pc' ls (.ref x :: st) h Q) : zp_wp X y pc ls st h Q := zp_st hf (by simp only [zm_st, zm_aload, hl]) k
theorem zp_sload {i : Nat} {x : Nat} (hf : zm_lk (zm_cd y) pc = some (.inl (.aload i), pc')) (hl : ls[(i : Nat)]? = some (.retAddr x)) (k : zp_wp X y pc' ls (.retAddr x :: st) h Q) : zp_wp X y pc ls st h Q := zp_st hf (by simp only [zm_st, zm_aload, hl]) k
theorem zp_sload_n {i : Fin 4} {x : Nat} (hf : zm_lk (zm_cd y) pc = some (.inl (.aload_n i), pc')) (hl : ls[(i : Nat)]? = some (.retAddr x)) (k : zp_wp X y pc' ls (.retAddr x :: st) h Q) : zp_wp X y pc ls st h Q := zp_st hf (by simp only [zm_st, zm_aload, hl]) k
theorem zp_iadd {x x2 v : Int32} (hf : zm_lk (zm_cd y) pc = some (.inl .iadd, pc')) (hv : x + x2 = v) (k : zp_wp X y pc' ls (.int v :: st) h Q) : zp_wp X y pc ls (.int x2 :: .int x :: st) h Q := zp_st hf (by rw [← hv]; rfl) k
theorem zp_isub {x x2 v : Int32} (hf : zm_lk (zm_cd y) pc = some (.inl .isub, pc')) (hv : x - x2 = v) (k : zp_wp X y pc' ls (.int v :: st) h Q) : zp_wp X y pc ls (.int x2 :: .int x :: st) h Q := zp_st hf (by rw [← hv]; rfl) k
theorem zp_imul {x x2 v : Int32} (hf : zm_lk (zm_cd y) pc = some (.inl .imul, pc')) (hv : x * x2 = v) (k : zp_wp X y pc' ls (.int v :: st) h Q) : zp_wp X y pc ls (.int x2 :: .int x :: st) h Q := zp_st hf (by rw [← hv]; rfl) k
theorem zp_iand {x x2 v : Int32} (hf : zm_lk (zm_cd y) pc = some (.inl .iand, pc')) (hv : x &&& x2 = v) (k : zp_wp X y pc' ls (.int v :: st) h Q) : zp_wp X y pc ls (.int x2 :: .int x :: st) h Q := zp_st hf (by rw [← hv]; rfl) k
theorem zp_ior {x x2 v : Int32} (hf : zm_lk (zm_cd y) pc = some (.inl .ior, pc')) (hv : x ||| x2 = v) (k : zp_wp X y pc' ls (.int v :: st) h Q) : zp_wp X y pc ls (.int x2 :: .int x :: st) h Q := zp_st hf (by rw [← hv]; rfl) k
theorem zp_ixor {x x2 v : Int32} (hf : zm_lk (zm_cd y) pc = some (.inl .ixor, pc')) (hv : x ^^^ x2 = v) (k : zp_wp X y pc' ls (.int v :: st) h Q) : zp_wp X y pc ls (.int x2 :: .int x :: st) h Q := zp_st hf (by rw [← hv]; rfl) k
theorem zp_ishl {x x2 v : Int32} (hf : zm_lk (zm_cd y) pc = some (.inl .ishl, pc')) (hv : x <<< (x2 &&& 31) = v) (k : zp_wp X y pc' ls (.int v :: st) h Q) : zp_wp X y pc ls (.int x2 :: .int x :: st) h Q := zp_st hf (by rw [← hv]; rfl) k
theorem zp_ishr {x x2 v : Int32} (hf : zm_lk (zm_cd y) pc = some (.inl .ishr, pc')) (hv : x >>> (x2 &&& 31) = v) (k : zp_wp X y pc' ls (.int v :: st) h Q) : zp_wp X y pc ls (.int x2 :: .int x :: st) h Q := zp_st hf (by rw [← hv]; rfl) k
theorem zp_iushr {x x2 v : Int32} (hf : zm_lk (zm_cd y) pc = some (.inl .iushr, pc')) (hv : (x.toUInt32 >>> (x2.toUInt32 &&& Int32.toUInt32 31)).toInt32 = v) (k : zp_wp X y pc' ls (.int v :: st) h Q) : zp_wp X y pc ls (.int x2 :: .int x :: st) h Q := zp_st hf (by rw [← hv]; rfl) k
theorem zp_iaddN {a b : Nat} (hf : zm_lk (zm_cd y) pc = some (.inl .iadd, pc')) (k : zp_wp X y pc' ls (.int (nI (a + b)) :: st) h Q) : zp_wp X y pc ls (.int (nI b) :: .int (nI a) :: st) h Q := zp_iadd hf (nI_add a b) k
theorem zp_imulN {a b : Nat} (hf : zm_lk (zm_cd y) pc = some (.inl .imul, pc')) (k : zp_wp X y pc' ls (.int (nI (a * b)) :: st) h Q) : zp_wp X y pc ls (.int (nI b) :: .int (nI a) :: st) h Q := zp_imul hf (pk_mul a b) k
theorem zp_isubN {a b : Nat} (hf : zm_lk (zm_cd y) pc = some (.inl .isub, pc')) (hb : b ≤ a) (k : zp_wp X y pc' ls (.int (nI (a - b)) :: st) h Q) : zp_wp X y pc ls (.int (nI b) :: .int (nI a) :: st) h Q := zp_isub hf (pk_sub hb) k
theorem zp_idiv {x x2 v : Int32} (hf : zm_lk (zm_cd y) pc = some (.inl .idiv, pc')) (hz : ¬ x2 = 0) (hv : x / x2 = v) (k : zp_wp X y pc' ls (.int v :: st) h Q) : zp_wp X y pc ls (.int x2 :: .int x :: st) h Q := zp_st hf (by rw [← hv]; simp only [zm_st, if_neg hz]) k
theorem zp_irem {x x2 v : Int32} (hf : zm_lk (zm_cd y) pc = some (.inl .irem, pc')) (hz : ¬ x2 = 0) (hv : x - x / x2 * x2 = v) (k : zp_wp X y pc' ls (.int v :: st) h Q) : zp_wp X y pc ls (.int x2 :: .int x :: st) h Q := zp_st hf (by rw [← hv]; simp only [zm_st, if_neg hz]) k
theorem zp_ladd {x x2 v : Int64} (hf : zm_lk (zm_cd y) pc = some (.inl .ladd, pc')) (hv : x + x2 = v) (k : zp_wp X y pc' ls (.long v :: st) h Q) : zp_wp X y pc ls (.long x2 :: .long x :: st) h Q := zp_st hf (by rw [← hv]; rfl) k
theorem zp_lsub {x x2 v : Int64} (hf : zm_lk (zm_cd y) pc = some (.inl .lsub, pc')) (hv : x - x2 = v) (k : zp_wp X y pc' ls (.long v :: st) h Q) : zp_wp X y pc ls (.long x2 :: .long x :: st) h Q := zp_st hf (by rw [← hv]; rfl) k
theorem zp_lmul {x x2 v : Int64} (hf : zm_lk (zm_cd y) pc = some (.inl .lmul, pc')) (hv : x * x2 = v) (k : zp_wp X y pc' ls (.long v :: st) h Q) : zp_wp X y pc ls (.long x2 :: .long x :: st) h Q := zp_st hf (by rw [← hv]; rfl) k
theorem zp_land {x x2 v : Int64} (hf : zm_lk (zm_cd y) pc = some (.inl .land, pc')) (hv : x &&& x2 = v) (k : zp_wp X y pc' ls (.long v :: st) h Q) : zp_wp X y pc ls (.long x2 :: .long x :: st) h Q := zp_st hf (by rw [← hv]; rfl) k
theorem zp_lor {x x2 v : Int64} (hf : zm_lk (zm_cd y) pc = some (.inl .lor, pc')) (hv : x ||| x2 = v) (k : zp_wp X y pc' ls (.long v :: st) h Q) : zp_wp X y pc ls (.long x2 :: .long x :: st) h Q := zp_st hf (by rw [← hv]; rfl) k
theorem zp_lxor {x x2 v : Int64} (hf : zm_lk (zm_cd y) pc = some (.inl .lxor, pc')) (hv : x ^^^ x2 = v) (k : zp_wp X y pc' ls (.long v :: st) h Q) : zp_wp X y pc ls (.long x2 :: .long x :: st) h Q := zp_st hf (by rw [← hv]; rfl) k
theorem zp_lshl {x v : Int64} {x2 : Int32} (hf : zm_lk (zm_cd y) pc = some (.inl .lshl, pc')) (hv : x <<< (x2.toInt64 &&& 63) = v) (k : zp_wp X y pc' ls (.long v :: st) h Q) : zp_wp X y pc ls (.int x2 :: .long x :: st) h Q := zp_st hf (by rw [← hv]; rfl) k
theorem zp_lshr {x v : Int64} {x2 : Int32} (hf : zm_lk (zm_cd y) pc = some (.inl .lshr, pc')) (hv : x >>> (x2.toInt64 &&& 63) = v) (k : zp_wp X y pc' ls (.long v :: st) h Q) : zp_wp X y pc ls (.int x2 :: .long x :: st) h Q := zp_st hf (by rw [← hv]; rfl) k
theorem zp_lushr {x v : Int64} {x2 : Int32} (hf : zm_lk (zm_cd y) pc = some (.inl .lushr, pc')) (hv : (x.toUInt64 >>> (x2.toInt64.toUInt64 &&& Int64.toUInt64 63)).toInt64 = v) (k : zp_wp X y pc' ls (.long v :: st) h Q) : zp_wp X y pc ls (.int x2 :: .long x :: st) h Q := zp_st hf (by rw [← hv]; rfl) k
theorem zp_i2l {x : Int32} {v : Int64} (hf : zm_lk (zm_cd y) pc = some (.inl .i2l, pc')) (hv : x.toInt64 = v) (k : zp_wp X y pc' ls (.long v :: st) h Q) : zp_wp X y pc ls (.int x :: st) h Q := zp_st hf (by rw [← hv]; rfl) k
theorem zp_l2i {x : Int64} {v : Int32} (hf : zm_lk (zm_cd y) pc = some (.inl .l2i, pc')) (hv : x.toInt32 = v) (k : zp_wp X y pc' ls (.int v :: st) h Q) : zp_wp X y pc ls (.long x :: st) h Q := zp_st hf (by rw [← hv]; rfl) k
theorem zp_lcmp {x x2 : Int64} {v : Int32} (hf : zm_lk (zm_cd y) pc = some (.inl .lcmp, pc')) (hv : lg_cmp x x2 = v) (k : zp_wp X y pc' ls (.int v :: st) h Q) : zp_wp X y pc ls (.long x2 :: .long x :: st) h Q := zp_st hf (by rw [← hv]; rfl) k
theorem zp_dup_i {x : Int32} (hf : zm_lk (zm_cd y) pc = some (.inl .dup, pc')) (k : zp_wp X y pc' ls (.int x :: .int x :: st) h Q) : zp_wp X y pc ls (.int x :: st) h Q := zp_st hf (rfl) k
theorem zp_pop_i {x : Int32} (hf : zm_lk (zm_cd y) pc = some (.inl .pop, pc')) (k : zp_wp X y pc' ls st h Q) : zp_wp X y pc ls (.int x :: st) h Q := zp_st hf (rfl) k
theorem zp_dup_a {x : Nat} (hf : zm_lk (zm_cd y) pc = some (.inl .dup, pc')) (k : zp_wp X y pc' ls (.ref x :: .ref x :: st) h Q) : zp_wp X y pc ls (.ref x :: st) h Q := zp_st hf (rfl) k
theorem zp_pop_a {x : Nat} (hf : zm_lk (zm_cd y) pc = some (.inl .pop, pc')) (k : zp_wp X y pc' ls st h Q) : zp_wp X y pc ls (.ref x :: st) h Q := zp_st hf (rfl) k
theorem zp_dup2_ia {x : Int32} {q : Nat} (hf : zm_lk (zm_cd y) pc = some (.inl .dup2, pc')) (k : zp_wp X y pc' ls (.int x :: .ref q :: .int x :: .ref q :: st) h Q) : zp_wp X y pc ls (.int x :: .ref q :: st) h Q := zp_st hf (rfl) k
theorem zp_istore_0 {old : Value} {t : List Value} {x : Int32} (hf : zm_lk (zm_cd y) pc = some (.inl (.istore 0), pc')) (hp : zm_pv (old :: t) 0 = true) (k : zp_wp X y pc' (.int x :: t) st h Q) : zp_wp X y pc (old :: t) (.int x :: st) h Q := zp_st (ls2 := .int x :: t) hf rfl k
theorem zp_istore_n_0 {old : Value} {t : List Value} {x : Int32} (hf : zm_lk (zm_cd y) pc = some (.inl (.istore_n 0), pc')) (hp : zm_pv (old :: t) 0 = true) (k : zp_wp X y pc' (.int x :: t) st h Q) : zp_wp X y pc (old :: t) (.int x :: st) h Q := zp_st (ls2 := .int x :: t) hf rfl k
theorem zp_astore_0 {old : Value} {t : List Value} {x : Nat} (hf : zm_lk (zm_cd y) pc = some (.inl (.astore 0), pc')) (hp : zm_pv (old :: t) 0 = true) (k : zp_wp X y pc' (.ref x :: t) st h Q) : zp_wp X y pc (old :: t) (.ref x :: st) h Q := zp_st (ls2 := .ref x :: t) hf rfl k
theorem zp_astore_n_0 {old : Value} {t : List Value} {x : Nat} (hf : zm_lk (zm_cd y) pc = some (.inl (.astore_n 0), pc')) (hp : zm_pv (old :: t) 0 = true) (k : zp_wp X y pc' (.ref x :: t) st h Q) : zp_wp X y pc (old :: t) (.ref x :: st) h Q := zp_st (ls2 := .ref x :: t) hf rfl k
theorem zp_iinc_0 {t : List Value} {x v : Int32} {m : Int} (hf : zm_lk (zm_cd y) pc = some (.inl (.iinc 0 m), pc')) (hv : x + Int32.ofInt m = v) (hp : zm_pv (.int x :: t) 0 = true) (k : zp_wp X y pc' (.int v :: t) st h Q) : zp_wp X y pc (.int x :: t) st h Q := zp_st (ls2 := .int v :: t) hf (by rw [← hv]; rfl) k
theorem zp_iincN_0 {t : List Value} {a : Nat} (hf : zm_lk (zm_cd y) pc = some (.inl (.iinc 0 1), pc')) (hp : zm_pv (.int (nI a) :: t) 0 = true) (k : zp_wp X y pc' (.int (nI (a + 1)) :: t) st h Q) : zp_wp X y pc (.int (nI a) :: t) st h Q := zp_iinc_0 hf (nI_1 a) hp k
theorem zp_lstore_0 {old old2 : Value} {t : List Value} {x : Int64} (hf : zm_lk (zm_cd y) pc = some (.inl (.lstore 0), pc')) (hp : zm_pv (old :: old2 :: t) 0 = true) (k : zp_wp X y pc' (.long x :: zm_mk :: t) st h Q) : zp_wp X y pc (old :: old2 :: t) (.long x :: st) h Q := zp_st (ls2 := .long x :: zm_mk :: t) hf rfl k
theorem zp_lstore_n_0 {old old2 : Value} {t : List Value} {x : Int64} (hf : zm_lk (zm_cd y) pc = some (.inl (.lstore_n 0), pc')) (hp : zm_pv (old :: old2 :: t) 0 = true) (k : zp_wp X y pc' (.long x :: zm_mk :: t) st h Q) : zp_wp X y pc (old :: old2 :: t) (.long x :: st) h Q := zp_st (ls2 := .long x :: zm_mk :: t) hf rfl k
theorem zp_istore_1 {l0 old : Value} {t : List Value} {x : Int32} (hf : zm_lk (zm_cd y) pc = some (.inl (.istore 1), pc')) (hp : zm_pv (l0 :: old :: t) 1 = true) (k : zp_wp X y pc' (l0 :: .int x :: t) st h Q) : zp_wp X y pc (l0 :: old :: t) (.int x :: st) h Q := zp_st (ls2 := l0 :: .int x :: t) hf (by show (zm_sto (l0 :: old :: t) 1 (.int x)).map _ = _; unfold zm_sto; rw [hp, Nat.blt_eq.mpr (by simp)]; rfl) k
theorem zp_istore_n_1 {l0 old : Value} {t : List Value} {x : Int32} (hf : zm_lk (zm_cd y) pc = some (.inl (.istore_n 1), pc')) (hp : zm_pv (l0 :: old :: t) 1 = true) (k : zp_wp X y pc' (l0 :: .int x :: t) st h Q) : zp_wp X y pc (l0 :: old :: t) (.int x :: st) h Q := zp_st (ls2 := l0 :: .int x :: t) hf (by show (zm_sto (l0 :: old :: t) 1 (.int x)).map _ = _; unfold zm_sto; rw [hp, Nat.blt_eq.mpr (by simp)]; rfl) k
theorem zp_astore_1 {l0 old : Value} {t : List Value} {x : Nat} (hf : zm_lk (zm_cd y) pc = some (.inl (.astore 1), pc')) (hp : zm_pv (l0 :: old :: t) 1 = true) (k : zp_wp X y pc' (l0 :: .ref x :: t) st h Q) : zp_wp X y pc (l0 :: old :: t) (.ref x :: st) h Q := zp_st (ls2 := l0 :: .ref x :: t) hf (by show (zm_sto (l0 :: old :: t) 1 (.ref x)).map _ = _; unfold zm_sto; rw [hp, Nat.blt_eq.mpr (by simp)]; rfl) k
theorem zp_astore_n_1 {l0 old : Value} {t : List Value} {x : Nat} (hf : zm_lk (zm_cd y) pc = some (.inl (.astore_n 1), pc')) (hp : zm_pv (l0 :: old :: t) 1 = true) (k : zp_wp X y pc' (l0 :: .ref x :: t) st h Q) : zp_wp X y pc (l0 :: old :: t) (.ref x :: st) h Q := zp_st (ls2 := l0 :: .ref x :: t) hf (by show (zm_sto (l0 :: old :: t) 1 (.ref x)).map _ = _; unfold zm_sto; rw [hp, Nat.blt_eq.mpr (by simp)]; rfl) k
theorem zp_iinc_1 {l0 : Value} {t : List Value} {x v : Int32} {m : Int} (hf : zm_lk (zm_cd y) pc = some (.inl (.iinc 1 m), pc')) (hv : x + Int32.ofInt m = v) (hp : zm_pv (l0 :: .int x :: t) 1 = true) (k : zp_wp X y pc' (l0 :: .int v :: t) st h Q) : zp_wp X y pc (l0 :: .int x :: t) st h Q := zp_st (ls2 := l0 :: .int v :: t) hf (by rw [← hv]; show (zm_sto (l0 :: .int x :: t) 1 (.int (x + Int32.ofInt m))).map _ = _; unfold zm_sto; rw [hp, Nat.blt_eq.mpr (by simp)]; rfl) k
theorem zp_iincN_1 {l0 : Value} {t : List Value} {a : Nat} (hf : zm_lk (zm_cd y) pc = some (.inl (.iinc 1 1), pc')) (hp : zm_pv (l0 :: .int (nI a) :: t) 1 = true) (k : zp_wp X y pc' (l0 :: .int (nI (a + 1)) :: t) st h Q) : zp_wp X y pc (l0 :: .int (nI a) :: t) st h Q := zp_iinc_1 hf (nI_1 a) hp k
theorem zp_lstore_1 {l0 old old2 : Value} {t : List Value} {x : Int64} (hf : zm_lk (zm_cd y) pc = some (.inl (.lstore 1), pc')) (hp : zm_pv (l0 :: old :: old2 :: t) 1 = true) (k : zp_wp X y pc' (l0 :: .long x :: zm_mk :: t) st h Q) : zp_wp X y pc (l0 :: old :: old2 :: t) (.long x :: st) h Q := zp_st (ls2 := l0 :: .long x :: zm_mk :: t) hf (by show (zm_sto2 (l0 :: old :: old2 :: t) 1 (.long x)).map _ = _; unfold zm_sto2; rw [hp, Nat.blt_eq.mpr (by simp)]; rfl) k
theorem zp_lstore_n_1 {l0 old old2 : Value} {t : List Value} {x : Int64} (hf : zm_lk (zm_cd y) pc = some (.inl (.lstore_n 1), pc')) (hp : zm_pv (l0 :: old :: old2 :: t) 1 = true) (k : zp_wp X y pc' (l0 :: .long x :: zm_mk :: t) st h Q) : zp_wp X y pc (l0 :: old :: old2 :: t) (.long x :: st) h Q := zp_st (ls2 := l0 :: .long x :: zm_mk :: t) hf (by show (zm_sto2 (l0 :: old :: old2 :: t) 1 (.long x)).map _ = _; unfold zm_sto2; rw [hp, Nat.blt_eq.mpr (by simp)]; rfl) k
theorem zp_istore_2 {l0 l1 old : Value} {t : List Value} {x : Int32} (hf : zm_lk (zm_cd y) pc = some (.inl (.istore 2), pc')) (hp : zm_pv (l0 :: l1 :: old :: t) 2 = true) (k : zp_wp X y pc' (l0 :: l1 :: .int x :: t) st h Q) : zp_wp X y pc (l0 :: l1 :: old :: t) (.int x :: st) h Q := zp_st (ls2 := l0 :: l1 :: .int x :: t) hf (by show (zm_sto (l0 :: l1 :: old :: t) 2 (.int x)).map _ = _; unfold zm_sto; rw [hp, Nat.blt_eq.mpr (by simp)]; rfl) k
theorem zp_istore_n_2 {l0 l1 old : Value} {t : List Value} {x : Int32} (hf : zm_lk (zm_cd y) pc = some (.inl (.istore_n 2), pc')) (hp : zm_pv (l0 :: l1 :: old :: t) 2 = true) (k : zp_wp X y pc' (l0 :: l1 :: .int x :: t) st h Q) : zp_wp X y pc (l0 :: l1 :: old :: t) (.int x :: st) h Q := zp_st (ls2 := l0 :: l1 :: .int x :: t) hf (by show (zm_sto (l0 :: l1 :: old :: t) 2 (.int x)).map _ = _; unfold zm_sto; rw [hp, Nat.blt_eq.mpr (by simp)]; rfl) k
theorem zp_astore_2 {l0 l1 old : Value} {t : List Value} {x : Nat} (hf : zm_lk (zm_cd y) pc = some (.inl (.astore 2), pc')) (hp : zm_pv (l0 :: l1 :: old :: t) 2 = true) (k : zp_wp X y pc' (l0 :: l1 :: .ref x :: t) st h Q) : zp_wp X y pc (l0 :: l1 :: old :: t) (.ref x :: st) h Q := zp_st (ls2 := l0 :: l1 :: .ref x :: t) hf (by show (zm_sto (l0 :: l1 :: old :: t) 2 (.ref x)).map _ = _; unfold zm_sto; rw [hp, Nat.blt_eq.mpr (by simp)]; rfl) k
theorem zp_astore_n_2 {l0 l1 old : Value} {t : List Value} {x : Nat} (hf : zm_lk (zm_cd y) pc = some (.inl (.astore_n 2), pc')) (hp : zm_pv (l0 :: l1 :: old :: t) 2 = true) (k : zp_wp X y pc' (l0 :: l1 :: .ref x :: t) st h Q) : zp_wp X y pc (l0 :: l1 :: old :: t) (.ref x :: st) h Q := zp_st (ls2 := l0 :: l1 :: .ref x :: t) hf (by show (zm_sto (l0 :: l1 :: old :: t) 2 (.ref x)).map _ = _; unfold zm_sto; rw [hp, Nat.blt_eq.mpr (by simp)]; rfl) k
theorem zp_iinc_2 {l0 l1 : Value} {t : List Value} {x v : Int32} {m : Int} (hf : zm_lk (zm_cd y) pc = some (.inl (.iinc 2 m), pc')) (hv : x + Int32.ofInt m = v) (hp : zm_pv (l0 :: l1 :: .int x :: t) 2 = true) (k : zp_wp X y pc' (l0 :: l1 :: .int v :: t) st h Q) : zp_wp X y pc (l0 :: l1 :: .int x :: t) st h Q := zp_st (ls2 := l0 :: l1 :: .int v :: t) hf (by rw [← hv]; show (zm_sto (l0 :: l1 :: .int x :: t) 2 (.int (x + Int32.ofInt m))).map _ = _; unfold zm_sto; rw [hp, Nat.blt_eq.mpr (by simp)]; rfl) k
theorem zp_iincN_2 {l0 l1 : Value} {t : List Value} {a : Nat} (hf : zm_lk (zm_cd y) pc = some (.inl (.iinc 2 1), pc')) (hp : zm_pv (l0 :: l1 :: .int (nI a) :: t) 2 = true) (k : zp_wp X y pc' (l0 :: l1 :: .int (nI (a + 1)) :: t) st h Q) : zp_wp X y pc (l0 :: l1 :: .int (nI a) :: t) st h Q := zp_iinc_2 hf (nI_1 a) hp k
theorem zp_lstore_2 {l0 l1 old old2 : Value} {t : List Value} {x : Int64} (hf : zm_lk (zm_cd y) pc = some (.inl (.lstore 2), pc')) (hp : zm_pv (l0 :: l1 :: old :: old2 :: t) 2 = true) (k : zp_wp X y pc' (l0 :: l1 :: .long x :: zm_mk :: t) st h Q) : zp_wp X y pc (l0 :: l1 :: old :: old2 :: t) (.long x :: st) h Q := zp_st (ls2 := l0 :: l1 :: .long x :: zm_mk :: t) hf (by show (zm_sto2 (l0 :: l1 :: old :: old2 :: t) 2 (.long x)).map _ = _; unfold zm_sto2; rw [hp, Nat.blt_eq.mpr (by simp)]; rfl) k
theorem zp_lstore_n_2 {l0 l1 old old2 : Value} {t : List Value} {x : Int64} (hf : zm_lk (zm_cd y) pc = some (.inl (.lstore_n 2), pc')) (hp : zm_pv (l0 :: l1 :: old :: old2 :: t) 2 = true) (k : zp_wp X y pc' (l0 :: l1 :: .long x :: zm_mk :: t) st h Q) : zp_wp X y pc (l0 :: l1 :: old :: old2 :: t) (.long x :: st) h Q := zp_st (ls2 := l0 :: l1 :: .long x :: zm_mk :: t) hf (by show (zm_sto2 (l0 :: l1 :: old :: old2 :: t) 2 (.long x)).map _ = _; unfold zm_sto2; rw [hp, Nat.blt_eq.mpr (by simp)]; rfl) k
theorem zp_istore_3 {l0 l1 l2 old : Value} {t : List Value} {x : Int32} (hf : zm_lk (zm_cd y) pc = some (.inl (.istore 3), pc')) (hp : zm_pv (l0 :: l1 :: l2 :: old :: t) 3 = true) (k : zp_wp X y pc' (l0 :: l1 :: l2 :: .int x :: t) st h Q) : zp_wp X y pc (l0 :: l1 :: l2 :: old :: t) (.int x :: st) h Q := zp_st (ls2 := l0 :: l1 :: l2 :: .int x :: t) hf (by show (zm_sto (l0 :: l1 :: l2 :: old :: t) 3 (.int x)).map _ = _; unfold zm_sto; rw [hp, Nat.blt_eq.mpr (by simp)]; rfl) k
theorem zp_istore_n_3 {l0 l1 l2 old : Value} {t : List Value} {x : Int32} (hf : zm_lk (zm_cd y) pc = some (.inl (.istore_n 3), pc')) (hp : zm_pv (l0 :: l1 :: l2 :: old :: t) 3 = true) (k : zp_wp X y pc' (l0 :: l1 :: l2 :: .int x :: t) st h Q) : zp_wp X y pc (l0 :: l1 :: l2 :: old :: t) (.int x :: st) h Q := zp_st (ls2 := l0 :: l1 :: l2 :: .int x :: t) hf (by show (zm_sto (l0 :: l1 :: l2 :: old :: t) 3 (.int x)).map _ = _; unfold zm_sto; rw [hp, Nat.blt_eq.mpr (by simp)]; rfl) k
theorem zp_astore_3 {l0 l1 l2 old : Value} {t : List Value} {x : Nat} (hf : zm_lk (zm_cd y) pc = some (.inl (.astore 3), pc')) (hp : zm_pv (l0 :: l1 :: l2 :: old :: t) 3 = true) (k : zp_wp X y pc' (l0 :: l1 :: l2 :: .ref x :: t) st h Q) : zp_wp X y pc (l0 :: l1 :: l2 :: old :: t) (.ref x :: st) h Q := zp_st (ls2 := l0 :: l1 :: l2 :: .ref x :: t) hf (by show (zm_sto (l0 :: l1 :: l2 :: old :: t) 3 (.ref x)).map _ = _; unfold zm_sto; rw [hp, Nat.blt_eq.mpr (by simp)]; rfl) k
theorem zp_astore_n_3 {l0 l1 l2 old : Value} {t : List Value} {x : Nat} (hf : zm_lk (zm_cd y) pc = some (.inl (.astore_n 3), pc')) (hp : zm_pv (l0 :: l1 :: l2 :: old :: t) 3 = true) (k : zp_wp X y pc' (l0 :: l1 :: l2 :: .ref x :: t) st h Q) : zp_wp X y pc (l0 :: l1 :: l2 :: old :: t) (.ref x :: st) h Q := zp_st (ls2 := l0 :: l1 :: l2 :: .ref x :: t) hf (by show (zm_sto (l0 :: l1 :: l2 :: old :: t) 3 (.ref x)).map _ = _; unfold zm_sto; rw [hp, Nat.blt_eq.mpr (by simp)]; rfl) k
theorem zp_iinc_3 {l0 l1 l2 : Value} {t : List Value} {x v : Int32} {m : Int} (hf : zm_lk (zm_cd y) pc = some (.inl (.iinc 3 m), pc')) (hv : x + Int32.ofInt m = v) (hp : zm_pv (l0 :: l1 :: l2 :: .int x :: t) 3 = true) (k : zp_wp X y pc' (l0 :: l1 :: l2 :: .int v :: t) st h Q) : zp_wp X y pc (l0 :: l1 :: l2 :: .int x :: t) st h Q := zp_st (ls2 := l0 :: l1 :: l2 :: .int v :: t) hf (by rw [← hv]; show (zm_sto (l0 :: l1 :: l2 :: .int x :: t) 3 (.int (x + Int32.ofInt m))).map _ = _; unfold zm_sto; rw [hp, Nat.blt_eq.mpr (by simp)]; rfl) k
theorem zp_iincN_3 {l0 l1 l2 : Value} {t : List Value} {a : Nat} (hf : zm_lk (zm_cd y) pc = some (.inl (.iinc 3 1), pc')) (hp : zm_pv (l0 :: l1 :: l2 :: .int (nI a) :: t) 3 = true) (k : zp_wp X y pc' (l0 :: l1 :: l2 :: .int (nI (a + 1)) :: t) st h Q) : zp_wp X y pc (l0 :: l1 :: l2 :: .int (nI a) :: t) st h Q := zp_iinc_3 hf (nI_1 a) hp k
theorem zp_lstore_3 {l0 l1 l2 old old2 : Value} {t : List Value} {x : Int64} (hf : zm_lk (zm_cd y) pc = some (.inl (.lstore 3), pc')) (hp : zm_pv (l0 :: l1 :: l2 :: old :: old2 :: t) 3 = true) (k : zp_wp X y pc' (l0 :: l1 :: l2 :: .long x :: zm_mk :: t) st h Q) : zp_wp X y pc (l0 :: l1 :: l2 :: old :: old2 :: t) (.long x :: st) h Q := zp_st (ls2 := l0 :: l1 :: l2 :: .long x :: zm_mk :: t) hf (by show (zm_sto2 (l0 :: l1 :: l2 :: old :: old2 :: t) 3 (.long x)).map _ = _; unfold zm_sto2; rw [hp, Nat.blt_eq.mpr (by simp)]; rfl) k
theorem zp_lstore_n_3 {l0 l1 l2 old old2 : Value} {t : List Value} {x : Int64} (hf : zm_lk (zm_cd y) pc = some (.inl (.lstore_n 3), pc')) (hp : zm_pv (l0 :: l1 :: l2 :: old :: old2 :: t) 3 = true) (k : zp_wp X y pc' (l0 :: l1 :: l2 :: .long x :: zm_mk :: t) st h Q) : zp_wp X y pc (l0 :: l1 :: l2 :: old :: old2 :: t) (.long x :: st) h Q := zp_st (ls2 := l0 :: l1 :: l2 :: .long x :: zm_mk :: t) hf (by show (zm_sto2 (l0 :: l1 :: l2 :: old :: old2 :: t) 3 (.long x)).map _ = _; unfold zm_sto2; rw [hp, Nat.blt_eq.mpr (by simp)]; rfl) k
theorem zp_istore_4 {l0 l1 l2 l3 old : Value} {t : List Value} {x : Int32} (hf : zm_lk (zm_cd y) pc = some (.inl (.istore 4), pc')) (hp : zm_pv (l0 :: l1 :: l2 :: l3 :: old :: t) 4 = true) (k : zp_wp X y pc' (l0 :: l1 :: l2 :: l3 :: .int x :: t) st h Q) : zp_wp X y pc (l0 :: l1 :: l2 :: l3 :: old :: t) (.int x :: st) h Q := zp_st (ls2 := l0 :: l1 :: l2 :: l3 :: .int x :: t) hf (by show (zm_sto (l0 :: l1 :: l2 :: l3 :: old :: t) 4 (.int x)).map _ = _; unfold zm_sto; rw [hp, Nat.blt_eq.mpr (by simp)]; rfl) k
theorem zp_astore_4 {l0 l1 l2 l3 old : Value} {t : List Value} {x : Nat} (hf : zm_lk (zm_cd y) pc = some (.inl (.astore 4), pc')) (hp : zm_pv (l0 :: l1 :: l2 :: l3 :: old :: t) 4 = true) (k : zp_wp X y pc' (l0 :: l1 :: l2 :: l3 :: .ref x :: t) st h Q) : zp_wp X y pc (l0 :: l1 :: l2 :: l3 :: old :: t) (.ref x :: st) h Q := zp_st (ls2 := l0 :: l1 :: l2 :: l3 :: .ref x :: t) hf (by show (zm_sto (l0 :: l1 :: l2 :: l3 :: old :: t) 4 (.ref x)).map _ = _; unfold zm_sto; rw [hp, Nat.blt_eq.mpr (by simp)]; rfl) k
theorem zp_iinc_4 {l0 l1 l2 l3 : Value} {t : List Value} {x v : Int32} {m : Int} (hf : zm_lk (zm_cd y) pc = some (.inl (.iinc 4 m), pc')) (hv : x + Int32.ofInt m = v) (hp : zm_pv (l0 :: l1 :: l2 :: l3 :: .int x :: t) 4 = true) (k : zp_wp X y pc' (l0 :: l1 :: l2 :: l3 :: .int v :: t) st h Q) : zp_wp X y pc (l0 :: l1 :: l2 :: l3 :: .int x :: t) st h Q := zp_st (ls2 := l0 :: l1 :: l2 :: l3 :: .int v :: t) hf (by rw [← hv]; show (zm_sto (l0 :: l1 :: l2 :: l3 :: .int x :: t) 4 (.int (x + Int32.ofInt m))).map _ = _; unfold zm_sto; rw [hp, Nat.blt_eq.mpr (by simp)]; rfl) k
theorem zp_iincN_4 {l0 l1 l2 l3 : Value} {t : List Value} {a : Nat} (hf : zm_lk (zm_cd y) pc = some (.inl (.iinc 4 1), pc')) (hp : zm_pv (l0 :: l1 :: l2 :: l3 :: .int (nI a) :: t) 4 = true) (k : zp_wp X y pc' (l0 :: l1 :: l2 :: l3 :: .int (nI (a + 1)) :: t) st h Q) : zp_wp X y pc (l0 :: l1 :: l2 :: l3 :: .int (nI a) :: t) st h Q := zp_iinc_4 hf (nI_1 a) hp k
theorem zp_lstore_4 {l0 l1 l2 l3 old old2 : Value} {t : List Value} {x : Int64} (hf : zm_lk (zm_cd y) pc = some (.inl (.lstore 4), pc')) (hp : zm_pv (l0 :: l1 :: l2 :: l3 :: old :: old2 :: t) 4 = true) (k : zp_wp X y pc' (l0 :: l1 :: l2 :: l3 :: .long x :: zm_mk :: t) st h Q) : zp_wp X y pc (l0 :: l1 :: l2 :: l3 :: old :: old2 :: t) (.long x :: st) h Q := zp_st (ls2 := l0 :: l1 :: l2 :: l3 :: .long x :: zm_mk :: t) hf (by show (zm_sto2 (l0 :: l1 :: l2 :: l3 :: old :: old2 :: t) 4 (.long x)).map _ = _; unfold zm_sto2; rw [hp, Nat.blt_eq.mpr (by simp)]; rfl) k
theorem zp_istore_5 {l0 l1 l2 l3 l4 old : Value} {t : List Value} {x : Int32} (hf : zm_lk (zm_cd y) pc = some (.inl (.istore 5), pc')) (hp : zm_pv (l0 :: l1 :: l2 :: l3 :: l4 :: old :: t) 5 = true) (k : zp_wp X y pc' (l0 :: l1 :: l2 :: l3 :: l4 :: .int x :: t) st h Q) : zp_wp X y pc (l0 :: l1 :: l2 :: l3 :: l4 :: old :: t) (.int x :: st) h Q := zp_st (ls2 := l0 :: l1 :: l2 :: l3 :: l4 :: .int x :: t) hf (by show (zm_sto (l0 :: l1 :: l2 :: l3 :: l4 :: old :: t) 5 (.int x)).map _ = _; unfold zm_sto; rw [hp, Nat.blt_eq.mpr (by simp)]; rfl) k
theorem zp_astore_5 {l0 l1 l2 l3 l4 old : Value} {t : List Value} {x : Nat} (hf : zm_lk (zm_cd y) pc = some (.inl (.astore 5), pc')) (hp : zm_pv (l0 :: l1 :: l2 :: l3 :: l4 :: old :: t) 5 = true) (k : zp_wp X y pc' (l0 :: l1 :: l2 :: l3 :: l4 :: .ref x :: t) st h Q) : zp_wp X y pc (l0 :: l1 :: l2 :: l3 :: l4 :: old :: t) (.ref x :: st) h Q := zp_st (ls2 := l0 :: l1 :: l2 :: l3 :: l4 :: .ref x :: t) hf (by show (zm_sto (l0 :: l1 :: l2 :: l3 :: l4 :: old :: t) 5 (.ref x)).map _ = _; unfold zm_sto; rw [hp, Nat.blt_eq.mpr (by simp)]; rfl) k
theorem zp_iinc_5 {l0 l1 l2 l3 l4 : Value} {t : List Value} {x v : Int32} {m : Int} (hf : zm_lk (zm_cd y) pc = some (.inl (.iinc 5 m), pc')) (hv : x + Int32.ofInt m = v) (hp : zm_pv (l0 :: l1 :: l2 :: l3 :: l4 :: .int x :: t) 5 = true) (k : zp_wp X y pc' (l0 :: l1 :: l2 :: l3 :: l4 :: .int v :: t) st h Q) : zp_wp X y pc (l0 :: l1 :: l2 :: l3 :: l4 :: .int x :: t) st h Q := zp_st (ls2 := l0 :: l1 :: l2 :: l3 :: l4 :: .int v :: t) hf (by rw [← hv]; show (zm_sto (l0 :: l1 :: l2 :: l3 :: l4 :: .int x :: t) 5 (.int (x + Int32.ofInt m))).map _ = _; unfold zm_sto; rw [hp, Nat.blt_eq.mpr (by simp)]; rfl) k
theorem zp_iincN_5 {l0 l1 l2 l3 l4 : Value} {t : List Value} {a : Nat} (hf : zm_lk (zm_cd y) pc = some (.inl (.iinc 5 1), pc')) (hp : zm_pv (l0 :: l1 :: l2 :: l3 :: l4 :: .int (nI a) :: t) 5 = true) (k : zp_wp X y pc' (l0 :: l1 :: l2 :: l3 :: l4 :: .int (nI (a + 1)) :: t) st h Q) : zp_wp X y pc (l0 :: l1 :: l2 :: l3 :: l4 :: .int (nI a) :: t) st h Q := zp_iinc_5 hf (nI_1 a) hp k
theorem zp_lstore_5 {l0 l1 l2 l3 l4 old old2 : Value} {t : List Value} {x : Int64} (hf : zm_lk (zm_cd y) pc = some (.inl (.lstore 5), pc')) (hp : zm_pv (l0 :: l1 :: l2 :: l3 :: l4 :: old :: old2 :: t) 5 = true) (k : zp_wp X y pc' (l0 :: l1 :: l2 :: l3 :: l4 :: .long x :: zm_mk :: t) st h Q) : zp_wp X y pc (l0 :: l1 :: l2 :: l3 :: l4 :: old :: old2 :: t) (.long x :: st) h Q := zp_st (ls2 := l0 :: l1 :: l2 :: l3 :: l4 :: .long x :: zm_mk :: t) hf (by show (zm_sto2 (l0 :: l1 :: l2 :: l3 :: l4 :: old :: old2 :: t) 5 (.long x)).map _ = _; unfold zm_sto2; rw [hp, Nat.blt_eq.mpr (by simp)]; rfl) k
theorem zp_istore_6 {l0 l1 l2 l3 l4 l5 old : Value} {t : List Value} {x : Int32} (hf : zm_lk (zm_cd y) pc = some (.inl (.istore 6), pc')) (hp : zm_pv (l0 :: l1 :: l2 :: l3 :: l4 :: l5 :: old :: t) 6 = true) (k : zp_wp X y pc' (l0 :: l1 :: l2 :: l3 :: l4 :: l5 :: .int x :: t) st h Q) : zp_wp X y pc (l0 :: l1 :: l2 :: l3 :: l4 :: l5 :: old :: t) (.int x :: st) h Q := zp_st (ls2 := l0 :: l1 :: l2 :: l3 :: l4 :: l5 :: .int x :: t) hf (by show (zm_sto (l0 :: l1 :: l2 :: l3 :: l4 :: l5 :: old :: t) 6 (.int x)).map _ = _; unfold zm_sto; rw [hp, Nat.blt_eq.mpr (by simp)]; rfl) k
theorem zp_astore_6 {l0 l1 l2 l3 l4 l5 old : Value} {t : List Value} {x : Nat} (hf : zm_lk (zm_cd y) pc = some (.inl (.astore 6), pc')) (hp : zm_pv (l0 :: l1 :: l2 :: l3 :: l4 :: l5 :: old :: t) 6 = true) (k : zp_wp X y pc' (l0 :: l1 :: l2 :: l3 :: l4 :: l5 :: .ref x :: t) st h Q) : zp_wp X y pc (l0 :: l1 :: l2 :: l3 :: l4 :: l5 :: old :: t) (.ref x :: st) h Q := zp_st (ls2 := l0 :: l1 :: l2 :: l3 :: l4 :: l5 :: .ref x :: t) hf (by show (zm_sto (l0 :: l1 :: l2 :: l3 :: l4 :: l5 :: old :: t) 6 (.ref x)).map _ = _; unfold zm_sto; rw [hp, Nat.blt_eq.mpr (by simp)]; rfl) k
theorem zp_iinc_6 {l0 l1 l2 l3 l4 l5 : Value} {t : List Value} {x v : Int32} {m : Int} (hf : zm_lk (zm_cd y) pc = some (.inl (.iinc 6 m), pc')) (hv : x + Int32.ofInt m = v) (hp : zm_pv (l0 :: l1 :: l2 :: l3 :: l4 :: l5 :: .int x :: t) 6 = true) (k : zp_wp X y pc' (l0 :: l1 :: l2 :: l3 :: l4 :: l5 :: .int v :: t) st h Q) : zp_wp X y pc (l0 :: l1 :: l2 :: l3 :: l4 :: l5 :: .int x :: t) st h Q := zp_st (ls2 := l0 :: l1 :: l2 :: l3 :: l4 :: l5 :: .int v :: t) hf (by rw [← hv]; show (zm_sto (l0 :: l1 :: l2 :: l3 :: l4 :: l5 :: .int x :: t) 6 (.int (x + Int32.ofInt m))).map _ = _; unfold zm_sto; rw [hp, Nat.blt_eq.mpr (by simp)]; rfl) k
theorem zp_iincN_6 {l0 l1 l2 l3 l4 l5 : Value} {t : List Value} {a : Nat} (hf : zm_lk (zm_cd y) pc = some (.inl (.iinc 6 1), pc')) (hp : zm_pv (l0 :: l1 :: l2 :: l3 :: l4 :: l5 :: .int (nI a) :: t) 6 = true) (k : zp_wp X y pc' (l0 :: l1 :: l2 :: l3 :: l4 :: l5 :: .int (nI (a + 1)) :: t) st h Q) : zp_wp X y pc (l0 :: l1 :: l2 :: l3 :: l4 :: l5 :: .int (nI a) :: t) st h Q := zp_iinc_6 hf (nI_1 a) hp k
theorem zp_lstore_6 {l0 l1 l2 l3 l4 l5 old old2 : Value} {t : List Value} {x : Int64} (hf : zm_lk (zm_cd y) pc = some (.inl (.lstore 6), pc')) (hp : zm_pv (l0 :: l1 :: l2 :: l3 :: l4 :: l5 :: old :: old2 :: t) 6 = true) (k : zp_wp X y pc' (l0 :: l1 :: l2 :: l3 :: l4 :: l5 :: .long x :: zm_mk :: t) st h Q) : zp_wp X y pc (l0 :: l1 :: l2 :: l3 :: l4 :: l5 :: old :: old2 :: t) (.long x :: st) h Q := zp_st (ls2 := l0 :: l1 :: l2 :: l3 :: l4 :: l5 :: .long x :: zm_mk :: t) hf (by show (zm_sto2 (l0 :: l1 :: l2 :: l3 :: l4 :: l5 :: old :: old2 :: t) 6 (.long x)).map _ = _; unfold zm_sto2; rw [hp, Nat.blt_eq.mpr (by simp)]; rfl) k
theorem zp_istore_7 {l0 l1 l2 l3 l4 l5 l6 old : Value} {t : List Value} {x : Int32} (hf : zm_lk (zm_cd y) pc = some (.inl (.istore 7), pc')) (hp : zm_pv (l0 :: l1 :: l2 :: l3 :: l4 :: l5 :: l6 :: old :: t) 7 = true) (k : zp_wp X y pc' (l0 :: l1 :: l2 :: l3 :: l4 :: l5 :: l6 :: .int x :: t) st h Q) : zp_wp X y pc (l0 :: l1 :: l2 :: l3 :: l4 :: l5 :: l6 :: old :: t) (.int x :: st) h Q := zp_st (ls2 := l0 :: l1 :: l2 :: l3 :: l4 :: l5 :: l6 :: .int x :: t) hf (by show (zm_sto (l0 :: l1 :: l2 :: l3 :: l4 :: l5 :: l6 :: old :: t) 7 (.int x)).map _ = _; unfold zm_sto; rw [hp, Nat.blt_eq.mpr (by simp)]; rfl) k
theorem zp_astore_7 {l0 l1 l2 l3 l4 l5 l6 old : Value} {t : List Value} {x : Nat} (hf : zm_lk (zm_cd y) pc = some (.inl (.astore 7), pc')) (hp : zm_pv (l0 :: l1 :: l2 :: l3 :: l4 :: l5 :: l6 :: old :: t) 7 = true) (k : zp_wp X y pc' (l0 :: l1 :: l2 :: l3 :: l4 :: l5 :: l6 :: .ref x :: t) st h Q) : zp_wp X y pc (l0 :: l1 :: l2 :: l3 :: l4 :: l5 :: l6 :: old :: t) (.ref x :: st) h Q := zp_st (ls2 := l0 :: l1 :: l2 :: l3 :: l4 :: l5 :: l6 :: .ref x :: t) hf (by show (zm_sto (l0 :: l1 :: l2 :: l3 :: l4 :: l5 :: l6 :: old :: t) 7 (.ref x)).map _ = _; unfold zm_sto; rw [hp, Nat.blt_eq.mpr (by simp)]; rfl) k
theorem zp_iinc_7 {l0 l1 l2 l3 l4 l5 l6 : Value} {t : List Value} {x v : Int32} {m : Int} (hf : zm_lk (zm_cd y) pc = some (.inl (.iinc 7 m), pc')) (hv : x + Int32.ofInt m = v) (hp : zm_pv (l0 :: l1 :: l2 :: l3 :: l4 :: l5 :: l6 :: .int x :: t) 7 = true) (k : zp_wp X y pc' (l0 :: l1 :: l2 :: l3 :: l4 :: l5 :: l6 :: .int v :: t) st h Q) : zp_wp X y pc (l0 :: l1 :: l2 :: l3 :: l4 :: l5 :: l6 :: .int x :: t) st h Q := zp_st (ls2 := l0 :: l1 :: l2 :: l3 :: l4 :: l5 :: l6 :: .int v :: t) hf (by rw [← hv]; show (zm_sto (l0 :: l1 :: l2 :: l3 :: l4 :: l5 :: l6 :: .int x :: t) 7 (.int (x + Int32.ofInt m))).map _ = _; unfold zm_sto; rw [hp, Nat.blt_eq.mpr (by simp)]; rfl) k
theorem zp_iincN_7 {l0 l1 l2 l3 l4 l5 l6 : Value} {t : List Value} {a : Nat} (hf : zm_lk (zm_cd y) pc = some (.inl (.iinc 7 1), pc')) (hp : zm_pv (l0 :: l1 :: l2 :: l3 :: l4 :: l5 :: l6 :: .int (nI a) :: t) 7 = true) (k : zp_wp X y pc' (l0 :: l1 :: l2 :: l3 :: l4 :: l5 :: l6 :: .int (nI (a + 1)) :: t) st h Q) : zp_wp X y pc (l0 :: l1 :: l2 :: l3 :: l4 :: l5 :: l6 :: .int (nI a) :: t) st h Q := zp_iinc_7 hf (nI_1 a) hp k
theorem zp_lstore_7 {l0 l1 l2 l3 l4 l5 l6 old old2 : Value} {t : List Value} {x : Int64} (hf : zm_lk (zm_cd y) pc = some (.inl (.lstore 7), pc')) (hp : zm_pv (l0 :: l1 :: l2 :: l3 :: l4 :: l5 :: l6 :: old :: old2 :: t) 7 = true) (k : zp_wp X y pc' (l0 :: l1 :: l2 :: l3 :: l4 :: l5 :: l6 :: .long x :: zm_mk :: t) st h Q) : zp_wp X y pc (l0 :: l1 :: l2 :: l3 :: l4 :: l5 :: l6 :: old :: old2 :: t) (.long x :: st) h Q := zp_st (ls2 := l0 :: l1 :: l2 :: l3 :: l4 :: l5 :: l6 :: .long x :: zm_mk :: t) hf (by show (zm_sto2 (l0 :: l1 :: l2 :: l3 :: l4 :: l5 :: l6 :: old :: old2 :: t) 7 (.long x)).map _ = _; unfold zm_sto2; rw [hp, Nat.blt_eq.mpr (by simp)]; rfl) k
theorem zp_istore_8 {l0 l1 l2 l3 l4 l5 l6 l7 old : Value} {t : List Value} {x : Int32} (hf : zm_lk (zm_cd y) pc = some (.inl (.istore 8), pc')) (hp : zm_pv (l0 :: l1 :: l2 :: l3 :: l4 :: l5 :: l6 :: l7 :: old :: t) 8 = true) (k : zp_wp X y pc' (l0 :: l1 :: l2 :: l3 :: l4 :: l5 :: l6 :: l7 :: .int x :: t) st h Q) : zp_wp X y pc (l0 :: l1 :: l2 :: l3 :: l4 :: l5 :: l6 :: l7 :: old :: t) (.int x :: st) h Q := zp_st (ls2 := l0 :: l1 :: l2 :: l3 :: l4 :: l5 :: l6 :: l7 :: .int x :: t) hf (by show (zm_sto (l0 :: l1 :: l2 :: l3 :: l4 :: l5 :: l6 :: l7 :: old :: t) 8 (.int x)).map _ = _; unfold zm_sto; rw [hp, Nat.blt_eq.mpr (by simp)]; rfl) k
theorem zp_astore_8 {l0 l1 l2 l3 l4 l5 l6 l7 old : Value} {t : List Value} {x : Nat} (hf : zm_lk (zm_cd y) pc = some (.inl (.astore 8), pc')) (hp : zm_pv (l0 :: l1 :: l2 :: l3 :: l4 :: l5 :: l6 :: l7 :: old :: t) 8 = true) (k : zp_wp X y pc' (l0 :: l1 :: l2 :: l3 :: l4 :: l5 :: l6 :: l7 :: .ref x :: t) st h Q) : zp_wp X y pc (l0 :: l1 :: l2 :: l3 :: l4 :: l5 :: l6 :: l7 :: old :: t) (.ref x :: st) h Q := zp_st (ls2 := l0 :: l1 :: l2 :: l3 :: l4 :: l5 :: l6 :: l7 :: .ref x :: t) hf (by show (zm_sto (l0 :: l1 :: l2 :: l3 :: l4 :: l5 :: l6 :: l7 :: old :: t) 8 (.ref x)).map _ = _; unfold zm_sto; rw [hp, Nat.blt_eq.mpr (by simp)]; rfl) k
theorem zp_iinc_8 {l0 l1 l2 l3 l4 l5 l6 l7 : Value} {t : List Value} {x v : Int32} {m : Int} (hf : zm_lk (zm_cd y) pc = some (.inl (.iinc 8 m), pc')) (hv : x + Int32.ofInt m = v) (hp : zm_pv (l0 :: l1 :: l2 :: l3 :: l4 :: l5 :: l6 :: l7 :: .int x :: t) 8 = true) (k : zp_wp X y pc' (l0 :: l1 :: l2 :: l3 :: l4 :: l5 :: l6 :: l7 :: .int v :: t) st h Q) : zp_wp X y pc (l0 :: l1 :: l2 :: l3 :: l4 :: l5 :: l6 :: l7 :: .int x :: t) st h Q := zp_st (ls2 := l0 :: l1 :: l2 :: l3 :: l4 :: l5 :: l6 :: l7 :: .int v :: t) hf (by rw [← hv]; show (zm_sto (l0 :: l1 :: l2 :: l3 :: l4 :: l5 :: l6 :: l7 :: .int x :: t) 8 (.int (x + Int32.ofInt m))).map _ = _; unfold zm_sto; rw [hp, Nat.blt_eq.mpr (by simp)]; rfl) k
theorem zp_iincN_8 {l0 l1 l2 l3 l4 l5 l6 l7 : Value} {t : List Value} {a : Nat} (hf : zm_lk (zm_cd y) pc = some (.inl (.iinc 8 1), pc')) (hp : zm_pv (l0 :: l1 :: l2 :: l3 :: l4 :: l5 :: l6 :: l7 :: .int (nI a) :: t) 8 = true) (k : zp_wp X y pc' (l0 :: l1 :: l2 :: l3 :: l4 :: l5 :: l6 :: l7 :: .int (nI (a + 1)) :: t) st h Q) : zp_wp X y pc (l0 :: l1 :: l2 :: l3 :: l4 :: l5 :: l6 :: l7 :: .int (nI a) :: t) st h Q := zp_iinc_8 hf (nI_1 a) hp k
theorem zp_lstore_8 {l0 l1 l2 l3 l4 l5 l6 l7 old old2 : Value} {t : List Value} {x : Int64} (hf : zm_lk (zm_cd y) pc = some (.inl (.lstore 8), pc')) (hp : zm_pv (l0 :: l1 :: l2 :: l3 :: l4 :: l5 :: l6 :: l7 :: old :: old2 :: t) 8 = true) (k : zp_wp X y pc' (l0 :: l1 :: l2 :: l3 :: l4 :: l5 :: l6 :: l7 :: .long x :: zm_mk :: t) st h Q) : zp_wp X y pc (l0 :: l1 :: l2 :: l3 :: l4 :: l5 :: l6 :: l7 :: old :: old2 :: t) (.long x :: st) h Q := zp_st (ls2 := l0 :: l1 :: l2 :: l3 :: l4 :: l5 :: l6 :: l7 :: .long x :: zm_mk :: t) hf (by show (zm_sto2 (l0 :: l1 :: l2 :: l3 :: l4 :: l5 :: l6 :: l7 :: old :: old2 :: t) 8 (.long x)).map _ = _; unfold zm_sto2; rw [hp, Nat.blt_eq.mpr (by simp)]; rfl) k
theorem zp_istore_9 {l0 l1 l2 l3 l4 l5 l6 l7 l8 old : Value} {t : List Value} {x : Int32} (hf : zm_lk (zm_cd y) pc = some (.inl (.istore 9), pc')) (hp : zm_pv (l0 :: l1 :: l2 :: l3 :: l4 :: l5 :: l6 :: l7 :: l8 :: old :: t) 9 = true) (k : zp_wp X y pc' (l0 :: l1 :: l2 :: l3 :: l4 :: l5 :: l6 :: l7 :: l8 :: .int x :: t) st h Q) : zp_wp X y pc (l0 :: l1 :: l2 :: l3 :: l4 :: l5 :: l6 :: l7 :: l8 :: old :: t) (.int x :: st) h Q := zp_st (ls2 := l0 :: l1 :: l2 :: l3 :: l4 :: l5 :: l6 :: l7 :: l8 :: .int x :: t) hf (by show (zm_sto (l0 :: l1 :: l2 :: l3 :: l4 :: l5 :: l6 :: l7 :: l8 :: old :: t) 9 (.int x)).map _ = _; unfold zm_sto; rw [hp, Nat.blt_eq.mpr (by simp)]; rfl) k
theorem zp_astore_9 {l0 l1 l2 l3 l4 l5 l6 l7 l8 old : Value} {t : List Value} {x : Nat} (hf : zm_lk (zm_cd y) pc = some (.inl (.astore 9), pc')) (hp : zm_pv (l0 :: l1 :: l2 :: l3 :: l4 :: l5 :: l6 :: l7 :: l8 :: old :: t) 9 = true) (k : zp_wp X y pc' (l0 :: l1 :: l2 :: l3 :: l4 :: l5 :: l6 :: l7 :: l8 :: .ref x :: t) st h Q) : zp_wp X y pc (l0 :: l1 :: l2 :: l3 :: l4 :: l5 :: l6 :: l7 :: l8 :: old :: t) (.ref x :: st) h Q := zp_st (ls2 := l0 :: l1 :: l2 :: l3 :: l4 :: l5 :: l6 :: l7 :: l8 :: .ref x :: t) hf (by show (zm_sto (l0 :: l1 :: l2 :: l3 :: l4 :: l5 :: l6 :: l7 :: l8 :: old :: t) 9 (.ref x)).map _ = _; unfold zm_sto; rw [hp, Nat.blt_eq.mpr (by simp)]; rfl) k
theorem zp_iinc_9 {l0 l1 l2 l3 l4 l5 l6 l7 l8 : Value} {t : List Value} {x v : Int32} {m : Int} (hf : zm_lk (zm_cd y) pc = some (.inl (.iinc 9 m), pc')) (hv : x + Int32.ofInt m = v) (hp : zm_pv (l0 :: l1 :: l2 :: l3 :: l4 :: l5 :: l6 :: l7 :: l8 :: .int x :: t) 9 = true) (k : zp_wp X y pc' (l0 :: l1 :: l2 :: l3 :: l4 :: l5 :: l6 :: l7 :: l8 :: .int v :: t) st h Q) : zp_wp X y pc (l0 :: l1 :: l2 :: l3 :: l4 :: l5 :: l6 :: l7 :: l8 :: .int x :: t) st h Q := zp_st (ls2 := l0 :: l1 :: l2 :: l3 :: l4 :: l5 :: l6 :: l7 :: l8 :: .int v :: t) hf (by rw [← hv]; show (zm_sto (l0 :: l1 :: l2 :: l3 :: l4 :: l5 :: l6 :: l7 :: l8 :: .int x :: t) 9 (.int (x + Int32.ofInt m))).map _ = _; unfold zm_sto; rw [hp, Nat.blt_eq.mpr (by simp)]; rfl) k
theorem zp_iincN_9 {l0 l1 l2 l3 l4 l5 l6 l7 l8 : Value} {t : List Value} {a : Nat} (hf : zm_lk (zm_cd y) pc = some (.inl (.iinc 9 1), pc')) (hp : zm_pv (l0 :: l1 :: l2 :: l3 :: l4 :: l5 :: l6 :: l7 :: l8 :: .int (nI a) :: t) 9 = true) (k : zp_wp X y pc' (l0 :: l1 :: l2 :: l3 :: l4 :: l5 :: l6 :: l7 :: l8 :: .int (nI (a + 1)) :: t) st h Q) : zp_wp X y pc (l0 :: l1 :: l2 :: l3 :: l4 :: l5 :: l6 :: l7 :: l8 :: .int (nI a) :: t) st h Q := zp_iinc_9 hf (nI_1 a) hp k
theorem zp_lstore_9 {l0 l1 l2 l3 l4 l5 l6 l7 l8 old old2 : Value} {t : List Value} {x : Int64} (hf : zm_lk (zm_cd y) pc = some (.inl (.lstore 9), pc')) (hp : zm_pv (l0 :: l1 :: l2 :: l3 :: l4 :: l5 :: l6 :: l7 :: l8 :: old :: old2 :: t) 9 = true) (k : zp_wp X y pc' (l0 :: l1 :: l2 :: l3 :: l4 :: l5 :: l6 :: l7 :: l8 :: .long x :: zm_mk :: t) st h Q) : zp_wp X y pc (l0 :: l1 :: l2 :: l3 :: l4 :: l5 :: l6 :: l7 :: l8 :: old :: old2 :: t) (.long x :: st) h Q := zp_st (ls2 := l0 :: l1 :: l2 :: l3 :: l4 :: l5 :: l6 :: l7 :: l8 :: .long x :: zm_mk :: t) hf (by show (zm_sto2 (l0 :: l1 :: l2 :: l3 :: l4 :: l5 :: l6 :: l7 :: l8 :: old :: old2 :: t) 9 (.long x)).map _ = _; unfold zm_sto2; rw [hp, Nat.blt_eq.mpr (by simp)]; rfl) k
theorem zp_istore_10 {l0 l1 l2 l3 l4 l5 l6 l7 l8 l9 old : Value} {t : List Value} {x : Int32} (hf : zm_lk (zm_cd y) pc = some (.inl (.istore 10), pc')) (hp : zm_pv (l0 :: l1 :: l2 :: l3 :: l4 :: l5 :: l6 :: l7 :: l8 :: l9 :: old :: t) 10 = true) (k : zp_wp X y pc' (l0 :: l1 :: l2 :: l3 :: l4 :: l5 :: l6 :: l7 :: l8 :: l9 :: .int x :: t) st h Q) : zp_wp X y pc (l0 :: l1 :: l2 :: l3 :: l4 :: l5 :: l6 :: l7 :: l8 :: l9 :: old :: t) (.int x :: st) h Q := zp_st (ls2 := l0 :: l1 :: l2 :: l3 :: l4 :: l5 :: l6 :: l7 :: l8 :: l9 :: .int x :: t) hf (by show (zm_sto (l0 :: l1 :: l2 :: l3 :: l4 :: l5 :: l6 :: l7 :: l8 :: l9 :: old :: t) 10 (.int x)).map _ = _; unfold zm_sto; rw [hp, Nat.blt_eq.mpr (by simp)]; rfl) k
theorem zp_astore_10 {l0 l1 l2 l3 l4 l5 l6 l7 l8 l9 old : Value} {t : List Value} {x : Nat} (hf : zm_lk (zm_cd y) pc = some (.inl (.astore 10), pc')) (hp : zm_pv (l0 :: l1 :: l2 :: l3 :: l4 :: l5 :: l6 :: l7 :: l8 :: l9 :: old :: t) 10 = true) (k : zp_wp X y pc' (l0 :: l1 :: l2 :: l3 :: l4 :: l5 :: l6 :: l7 :: l8 :: l9 :: .ref x :: t) st h Q) : zp_wp X y pc (l0 :: l1 :: l2 :: l3 :: l4 :: l5 :: l6 :: l7 :: l8 :: l9 :: old :: t) (.ref x :: st) h Q := zp_st (ls2 := l0 :: l1 :: l2 :: l3 :: l4 :: l5 :: l6 :: l7 :: l8 :: l9 :: .ref x :: t) hf (by show (zm_sto (l0 :: l1 :: l2 :: l3 :: l4 :: l5 :: l6 :: l7 :: l8 :: l9 :: old :: t) 10 (.ref x)).map _ = _; unfold zm_sto; rw [hp, Nat.blt_eq.mpr (by simp)]; rfl) k
theorem zp_iinc_10 {l0 l1 l2 l3 l4 l5 l6 l7 l8 l9 : Value} {t : List Value} {x v : Int32} {m : Int} (hf : zm_lk (zm_cd y) pc = some (.inl (.iinc 10 m), pc')) (hv : x + Int32.ofInt m = v) (hp : zm_pv (l0 :: l1 :: l2 :: l3 :: l4 :: l5 :: l6 :: l7 :: l8 :: l9 :: .int x :: t) 10 = true) (k : zp_wp X y pc' (l0 :: l1 :: l2 :: l3 :: l4 :: l5 :: l6 :: l7 :: l8 :: l9 :: .int v :: t) st h Q) : zp_wp X y pc (l0 :: l1 :: l2 :: l3 :: l4 :: l5 :: l6 :: l7 :: l8 :: l9 :: .int x :: t) st h Q := zp_st (ls2 := l0 :: l1 :: l2 :: l3 :: l4 :: l5 :: l6 :: l7 :: l8 :: l9 :: .int v :: t) hf (by rw [← hv]; show (zm_sto (l0 :: l1 :: l2 :: l3 :: l4 :: l5 :: l6 :: l7 :: l8 :: l9 :: .int x :: t) 10 (.int (x + Int32.ofInt m))).map _ = _; unfold zm_sto; rw [hp, Nat.blt_eq.mpr (by simp)]; rfl) k
theorem zp_iincN_10 {l0 l1 l2 l3 l4 l5 l6 l7 l8 l9 : Value} {t : List Value} {a : Nat} (hf : zm_lk (zm_cd y) pc = some (.inl (.iinc 10 1), pc')) (hp : zm_pv (l0 :: l1 :: l2 :: l3 :: l4 :: l5 :: l6 :: l7 :: l8 :: l9 :: .int (nI a) :: t) 10 = true) (k : zp_wp X y pc' (l0 :: l1 :: l2 :: l3 :: l4 :: l5 :: l6 :: l7 :: l8 :: l9 :: .int (nI (a + 1)) :: t) st h Q) : zp_wp X y pc (l0 :: l1 :: l2 :: l3 :: l4 :: l5 :: l6 :: l7 :: l8 :: l9 :: .int (nI a) :: t) st h Q := zp_iinc_10 hf (nI_1 a) hp k
theorem zp_lstore_10 {l0 l1 l2 l3 l4 l5 l6 l7 l8 l9 old old2 : Value} {t : List Value} {x : Int64} (hf : zm_lk (zm_cd y) pc = some (.inl (.lstore 10), pc')) (hp : zm_pv (l0 :: l1 :: l2 :: l3 :: l4 :: l5 :: l6 :: l7 :: l8 :: l9 :: old :: old2 :: t) 10 = true) (k : zp_wp X y pc' (l0 :: l1 :: l2 :: l3 :: l4 :: l5 :: l6 :: l7 :: l8 :: l9 :: .long x :: zm_mk :: t) st h Q) : zp_wp X y pc (l0 :: l1 :: l2 :: l3 :: l4 :: l5 :: l6 :: l7 :: l8 :: l9 :: old :: old2 :: t) (.long x :: st) h Q := zp_st (ls2 := l0 :: l1 :: l2 :: l3 :: l4 :: l5 :: l6 :: l7 :: l8 :: l9 :: .long x :: zm_mk :: t) hf (by show (zm_sto2 (l0 :: l1 :: l2 :: l3 :: l4 :: l5 :: l6 :: l7 :: l8 :: l9 :: old :: old2 :: t) 10 (.long x)).map _ = _; unfold zm_sto2; rw [hp, Nat.blt_eq.mpr (by simp)]; rfl) k
theorem zp_istore_11 {l0 l1 l2 l3 l4 l5 l6 l7 l8 l9 l10 old : Value} {t : List Value} {x : Int32} (hf : zm_lk (zm_cd y) pc = some (.inl (.istore 11), pc')) (hp : zm_pv (l0 :: l1 :: l2 :: l3 :: l4 :: l5 :: l6 :: l7 :: l8 :: l9 :: l10 :: old :: t) 11 = true) (k : zp_wp X y pc' (l0 :: l1 :: l2 :: l3 :: l4 :: l5 :: l6 :: l7 :: l8 :: l9 :: l10 :: .int x :: t) st h Q) : zp_wp X y pc (l0 :: l1 :: l2 :: l3 :: l4 :: l5 :: l6 :: l7 :: l8 :: l9 :: l10 :: old :: t) (.int x :: st) h Q := zp_st (ls2 := l0 :: l1 :: l2 :: l3 :: l4 :: l5 :: l6 :: l7 :: l8 :: l9 :: l10 :: .int x :: t) hf (by show (zm_sto (l0 :: l1 :: l2 :: l3 :: l4 :: l5 :: l6 :: l7 :: l8 :: l9 :: l10 :: old :: t) 11 (.int x)).map _ = _; unfold zm_sto; rw [hp, Nat.blt_eq.mpr (by simp)]; rfl) k
theorem zp_astore_11 {l0 l1 l2 l3 l4 l5 l6 l7 l8 l9 l10 old : Value} {t : List Value} {x : Nat} (hf : zm_lk (zm_cd y) pc = some (.inl (.astore 11), pc')) (hp : zm_pv (l0 :: l1 :: l2 :: l3 :: l4 :: l5 :: l6 :: l7 :: l8 :: l9 :: l10 :: old :: t) 11 = true) (k : zp_wp X y pc' (l0 :: l1 :: l2 :: l3 :: l4 :: l5 :: l6 :: l7 :: l8 :: l9 :: l10 :: .ref x :: t) st h Q) : zp_wp X y pc (l0 :: l1 :: l2 :: l3 :: l4 :: l5 :: l6 :: l7 :: l8 :: l9 :: l10 :: old :: t) (.ref x :: st) h Q := zp_st (ls2 := l0 :: l1 :: l2 :: l3 :: l4 :: l5 :: l6 :: l7 :: l8 :: l9 :: l10 :: .ref x :: t) hf (by show (zm_sto (l0 :: l1 :: l2 :: l3 :: l4 :: l5 :: l6 :: l7 :: l8 :: l9 :: l10 :: old :: t) 11 (.ref x)).map _ = _; unfold zm_sto; rw [hp, Nat.blt_eq.mpr (by simp)]; rfl) k
theorem zp_iinc_11 {l0 l1 l2 l3 l4 l5 l6 l7 l8 l9 l10 : Value} {t : List Value} {x v : Int32} {m : Int} (hf : zm_lk (zm_cd y) pc = some (.inl (.iinc 11 m), pc')) (hv : x + Int32.ofInt m = v) (hp : zm_pv (l0 :: l1 :: l2 :: l3 :: l4 :: l5 :: l6 :: l7 :: l8 :: l9 :: l10 :: .int x :: t) 11 = true) (k : zp_wp X y pc' (l0 :: l1 :: l2 :: l3 :: l4 :: l5 :: l6 :: l7 :: l8 :: l9 :: l10 :: .int v :: t) st h Q) : zp_wp X y pc (l0 :: l1 :: l2 :: l3 :: l4 :: l5 :: l6 :: l7 :: l8 :: l9 :: l10 :: .int x :: t) st h Q := zp_st (ls2 := l0 :: l1 :: l2 :: l3 :: l4 :: l5 :: l6 :: l7 :: l8 :: l9 :: l10 :: .int v :: t) hf (by rw [← hv]; show (zm_sto (l0 :: l1 :: l2 :: l3 :: l4 :: l5 :: l6 :: l7 :: l8 :: l9 :: l10 :: .int x :: t) 11 (.int (x + Int32.ofInt m))).map _ = _; unfold zm_sto; rw [hp, Nat.blt_eq.mpr (by simp)]; rfl) k
theorem zp_iincN_11 {l0 l1 l2 l3 l4 l5 l6 l7 l8 l9 l10 : Value} {t : List Value} {a : Nat} (hf : zm_lk (zm_cd y) pc = some (.inl (.iinc 11 1), pc')) (hp : zm_pv (l0 :: l1 :: l2 :: l3 :: l4 :: l5 :: l6 :: l7 :: l8 :: l9 :: l10 :: .int (nI a) :: t) 11 = true) (k : zp_wp X y pc' (l0 :: l1 :: l2 :: l3 :: l4 :: l5 :: l6 :: l7 :: l8 :: l9 :: l10 :: .int (nI (a + 1)) :: t) st h Q) : zp_wp X y pc (l0 :: l1 :: l2 :: l3 :: l4 :: l5 :: l6 :: l7 :: l8 :: l9 :: l10 :: .int (nI a) :: t) st h Q := zp_iinc_11 hf (nI_1 a) hp k
theorem zp_lstore_11 {l0 l1 l2 l3 l4 l5 l6 l7 l8 l9 l10 old old2 : Value} {t : List Value} {x : Int64} (hf : zm_lk (zm_cd y) pc = some (.inl (.lstore 11), pc')) (hp : zm_pv (l0 :: l1 :: l2 :: l3 :: l4 :: l5 :: l6 :: l7 :: l8 :: l9 :: l10 :: old :: old2 :: t) 11 = true) (k : zp_wp X y pc' (l0 :: l1 :: l2 :: l3 :: l4 :: l5 :: l6 :: l7 :: l8 :: l9 :: l10 :: .long x :: zm_mk :: t) st h Q) : zp_wp X y pc (l0 :: l1 :: l2 :: l3 :: l4 :: l5 :: l6 :: l7 :: l8 :: l9 :: l10 :: old :: old2 :: t) (.long x :: st) h Q := zp_st (ls2 := l0 :: l1 :: l2 :: l3 :: l4 :: l5 :: l6 :: l7 :: l8 :: l9 :: l10 :: .long x :: zm_mk :: t) hf (by show (zm_sto2 (l0 :: l1 :: l2 :: l3 :: l4 :: l5 :: l6 :: l7 :: l8 :: l9 :: l10 :: old :: old2 :: t) 11 (.long x)).map _ = _; unfold zm_sto2; rw [hp, Nat.blt_eq.mpr (by simp)]; rfl) k
theorem zp_brs {b : Bool} {off : Int} {tgt : Nat} {ls st : List Value} {h : zm_H} (ht : (pc : Int) + off = (tgt : Int)) : zm_br b pc pc' off ls st h = some (cond b tgt pc', ls, st, h) := by
  unfold zm_br
  rw [ht, if_pos (Int.natCast_nonneg tgt)]
  rfl
theorem zp_if_eq {x : Int32} {off : Int} {tgt : Nat} (hf : zm_lk (zm_cd y) pc = some (.inl (.ifCond .eq off), pc')) (ht : (pc : Int) + off = (tgt : Int)) (kt : x = 0 → zp_wp X y tgt ls st h Q) (kf : ¬ (x = 0) → zp_wp X y pc' ls st h Q) : zp_wp X y pc ls (.int x :: st) h Q := by
  by_cases hc : x = 0
  · exact zp_st hf (by show zm_br (decide (x = 0)) pc pc' off ls st h = _; rw [zp_brs ht, decide_eq_true hc]; rfl) (kt hc)
  · exact zp_st hf (by show zm_br (decide (x = 0)) pc pc' off ls st h = _; rw [zp_brs ht, decide_eq_false hc]; rfl) (kf hc)
theorem zp_icmp_eq {x x2 : Int32} {off : Int} {tgt : Nat} (hf : zm_lk (zm_cd y) pc = some (.inl (.if_icmp .eq off), pc')) (ht : (pc : Int) + off = (tgt : Int)) (kt : x = x2 → zp_wp X y tgt ls st h Q) (kf : ¬ (x = x2) → zp_wp X y pc' ls st h Q) : zp_wp X y pc ls (.int x2 :: .int x :: st) h Q := by
  by_cases hc : x = x2
  · exact zp_st hf (by show zm_br (decide (x = x2)) pc pc' off ls st h = _; rw [zp_brs ht, decide_eq_true hc]; rfl) (kt hc)
  · exact zp_st hf (by show zm_br (decide (x = x2)) pc pc' off ls st h = _; rw [zp_brs ht, decide_eq_false hc]; rfl) (kf hc)
theorem zp_if_ne {x : Int32} {off : Int} {tgt : Nat} (hf : zm_lk (zm_cd y) pc = some (.inl (.ifCond .ne off), pc')) (ht : (pc : Int) + off = (tgt : Int)) (kt : ¬ x = 0 → zp_wp X y tgt ls st h Q) (kf : ¬ (¬ x = 0) → zp_wp X y pc' ls st h Q) : zp_wp X y pc ls (.int x :: st) h Q := by
  by_cases hc : ¬ x = 0
  · exact zp_st hf (by show zm_br (decide (¬ x = 0)) pc pc' off ls st h = _; rw [zp_brs ht, decide_eq_true hc]; rfl) (kt hc)
  · exact zp_st hf (by show zm_br (decide (¬ x = 0)) pc pc' off ls st h = _; rw [zp_brs ht, decide_eq_false hc]; rfl) (kf hc)
theorem zp_icmp_ne {x x2 : Int32} {off : Int} {tgt : Nat} (hf : zm_lk (zm_cd y) pc = some (.inl (.if_icmp .ne off), pc')) (ht : (pc : Int) + off = (tgt : Int)) (kt : ¬ x = x2 → zp_wp X y tgt ls st h Q) (kf : ¬ (¬ x = x2) → zp_wp X y pc' ls st h Q) : zp_wp X y pc ls (.int x2 :: .int x :: st) h Q := by
  by_cases hc : ¬ x = x2
  · exact zp_st hf (by show zm_br (decide (¬ x = x2)) pc pc' off ls st h = _; rw [zp_brs ht, decide_eq_true hc]; rfl) (kt hc)
  · exact zp_st hf (by show zm_br (decide (¬ x = x2)) pc pc' off ls st h = _; rw [zp_brs ht, decide_eq_false hc]; rfl) (kf hc)
theorem zp_if_lt {x : Int32} {off : Int} {tgt : Nat} (hf : zm_lk (zm_cd y) pc = some (.inl (.ifCond .lt off), pc')) (ht : (pc : Int) + off = (tgt : Int)) (kt : x < 0 → zp_wp X y tgt ls st h Q) (kf : ¬ (x < 0) → zp_wp X y pc' ls st h Q) : zp_wp X y pc ls (.int x :: st) h Q := by
  by_cases hc : x < 0
  · exact zp_st hf (by show zm_br (decide (x < 0)) pc pc' off ls st h = _; rw [zp_brs ht, decide_eq_true hc]; rfl) (kt hc)
  · exact zp_st hf (by show zm_br (decide (x < 0)) pc pc' off ls st h = _; rw [zp_brs ht, decide_eq_false hc]; rfl) (kf hc)
theorem zp_icmp_lt {x x2 : Int32} {off : Int} {tgt : Nat} (hf : zm_lk (zm_cd y) pc = some (.inl (.if_icmp .lt off), pc')) (ht : (pc : Int) + off = (tgt : Int)) (kt : x < x2 → zp_wp X y tgt ls st h Q) (kf : ¬ (x < x2) → zp_wp X y pc' ls st h Q) : zp_wp X y pc ls (.int x2 :: .int x :: st) h Q := by
  by_cases hc : x < x2
  · exact zp_st hf (by show zm_br (decide (x < x2)) pc pc' off ls st h = _; rw [zp_brs ht, decide_eq_true hc]; rfl) (kt hc)
  · exact zp_st hf (by show zm_br (decide (x < x2)) pc pc' off ls st h = _; rw [zp_brs ht, decide_eq_false hc]; rfl) (kf hc)
theorem zp_if_ge {x : Int32} {off : Int} {tgt : Nat} (hf : zm_lk (zm_cd y) pc = some (.inl (.ifCond .ge off), pc')) (ht : (pc : Int) + off = (tgt : Int)) (kt : 0 ≤ x → zp_wp X y tgt ls st h Q) (kf : ¬ (0 ≤ x) → zp_wp X y pc' ls st h Q) : zp_wp X y pc ls (.int x :: st) h Q := by
  by_cases hc : 0 ≤ x
  · exact zp_st hf (by show zm_br (decide (0 ≤ x)) pc pc' off ls st h = _; rw [zp_brs ht, decide_eq_true hc]; rfl) (kt hc)
  · exact zp_st hf (by show zm_br (decide (0 ≤ x)) pc pc' off ls st h = _; rw [zp_brs ht, decide_eq_false hc]; rfl) (kf hc)
theorem zp_icmp_ge {x x2 : Int32} {off : Int} {tgt : Nat} (hf : zm_lk (zm_cd y) pc = some (.inl (.if_icmp .ge off), pc')) (ht : (pc : Int) + off = (tgt : Int)) (kt : x2 ≤ x → zp_wp X y tgt ls st h Q) (kf : ¬ (x2 ≤ x) → zp_wp X y pc' ls st h Q) : zp_wp X y pc ls (.int x2 :: .int x :: st) h Q := by
  by_cases hc : x2 ≤ x
  · exact zp_st hf (by show zm_br (decide (x2 ≤ x)) pc pc' off ls st h = _; rw [zp_brs ht, decide_eq_true hc]; rfl) (kt hc)
  · exact zp_st hf (by show zm_br (decide (x2 ≤ x)) pc pc' off ls st h = _; rw [zp_brs ht, decide_eq_false hc]; rfl) (kf hc)
theorem zp_if_gt {x : Int32} {off : Int} {tgt : Nat} (hf : zm_lk (zm_cd y) pc = some (.inl (.ifCond .gt off), pc')) (ht : (pc : Int) + off = (tgt : Int)) (kt : 0 < x → zp_wp X y tgt ls st h Q) (kf : ¬ (0 < x) → zp_wp X y pc' ls st h Q) : zp_wp X y pc ls (.int x :: st) h Q := by
  by_cases hc : 0 < x
  · exact zp_st hf (by show zm_br (decide (0 < x)) pc pc' off ls st h = _; rw [zp_brs ht, decide_eq_true hc]; rfl) (kt hc)
  · exact zp_st hf (by show zm_br (decide (0 < x)) pc pc' off ls st h = _; rw [zp_brs ht, decide_eq_false hc]; rfl) (kf hc)
theorem zp_icmp_gt {x x2 : Int32} {off : Int} {tgt : Nat} (hf : zm_lk (zm_cd y) pc = some (.inl (.if_icmp .gt off), pc')) (ht : (pc : Int) + off = (tgt : Int)) (kt : x2 < x → zp_wp X y tgt ls st h Q) (kf : ¬ (x2 < x) → zp_wp X y pc' ls st h Q) : zp_wp X y pc ls (.int x2 :: .int x :: st) h Q := by
  by_cases hc : x2 < x
  · exact zp_st hf (by show zm_br (decide (x2 < x)) pc pc' off ls st h = _; rw [zp_brs ht, decide_eq_true hc]; rfl) (kt hc)
  · exact zp_st hf (by show zm_br (decide (x2 < x)) pc pc' off ls st h = _; rw [zp_brs ht, decide_eq_false hc]; rfl) (kf hc)
theorem zp_if_le {x : Int32} {off : Int} {tgt : Nat} (hf : zm_lk (zm_cd y) pc = some (.inl (.ifCond .le off), pc')) (ht : (pc : Int) + off = (tgt : Int)) (kt : x ≤ 0 → zp_wp X y tgt ls st h Q) (kf : ¬ (x ≤ 0) → zp_wp X y pc' ls st h Q) : zp_wp X y pc ls (.int x :: st) h Q := by
  by_cases hc : x ≤ 0
  · exact zp_st hf (by show zm_br (decide (x ≤ 0)) pc pc' off ls st h = _; rw [zp_brs ht, decide_eq_true hc]; rfl) (kt hc)
  · exact zp_st hf (by show zm_br (decide (x ≤ 0)) pc pc' off ls st h = _; rw [zp_brs ht, decide_eq_false hc]; rfl) (kf hc)
theorem zp_icmp_le {x x2 : Int32} {off : Int} {tgt : Nat} (hf : zm_lk (zm_cd y) pc = some (.inl (.if_icmp .le off), pc')) (ht : (pc : Int) + off = (tgt : Int)) (kt : x ≤ x2 → zp_wp X y tgt ls st h Q) (kf : ¬ (x ≤ x2) → zp_wp X y pc' ls st h Q) : zp_wp X y pc ls (.int x2 :: .int x :: st) h Q := by
  by_cases hc : x ≤ x2
  · exact zp_st hf (by show zm_br (decide (x ≤ x2)) pc pc' off ls st h = _; rw [zp_brs ht, decide_eq_true hc]; rfl) (kt hc)
  · exact zp_st hf (by show zm_br (decide (x ≤ x2)) pc pc' off ls st h = _; rw [zp_brs ht, decide_eq_false hc]; rfl) (kf hc)
theorem zp_icmpN_eq {a b : Nat} {off : Int} {tgt : Nat} (hf : zm_lk (zm_cd y) pc = some (.inl (.if_icmp .eq off), pc')) (ht : (pc : Int) + off = (tgt : Int)) (ha : a < 2 ^ 31) (hb : b < 2 ^ 31) (kt : a = b → zp_wp X y tgt ls st h Q) (kf : ¬ a = b → zp_wp X y pc' ls st h Q) : zp_wp X y pc ls (.int (nI b) :: .int (nI a) :: st) h Q := by
  have e1 := nI_eq ha hb
  have e2 := nI_ltI ha hb
  have e3 := nI_leI ha hb
  have e4 := nI_ltI hb ha
  have e5 := nI_leI hb ha
  refine zp_icmp_eq hf ht (fun hc => kt ?_) (fun hc => kf ?_) <;> simp only [e1, e2, e3, e4, e5] at hc <;> omega
theorem zp_icmpN_ne {a b : Nat} {off : Int} {tgt : Nat} (hf : zm_lk (zm_cd y) pc = some (.inl (.if_icmp .ne off), pc')) (ht : (pc : Int) + off = (tgt : Int)) (ha : a < 2 ^ 31) (hb : b < 2 ^ 31) (kt : ¬ a = b → zp_wp X y tgt ls st h Q) (kf : a = b → zp_wp X y pc' ls st h Q) : zp_wp X y pc ls (.int (nI b) :: .int (nI a) :: st) h Q := by
  have e1 := nI_eq ha hb
  have e2 := nI_ltI ha hb
  have e3 := nI_leI ha hb
  have e4 := nI_ltI hb ha
  have e5 := nI_leI hb ha
  refine zp_icmp_ne hf ht (fun hc => kt ?_) (fun hc => kf ?_) <;> simp only [e1, e2, e3, e4, e5] at hc <;> omega
theorem zp_icmpN_lt {a b : Nat} {off : Int} {tgt : Nat} (hf : zm_lk (zm_cd y) pc = some (.inl (.if_icmp .lt off), pc')) (ht : (pc : Int) + off = (tgt : Int)) (ha : a < 2 ^ 31) (hb : b < 2 ^ 31) (kt : a < b → zp_wp X y tgt ls st h Q) (kf : b ≤ a → zp_wp X y pc' ls st h Q) : zp_wp X y pc ls (.int (nI b) :: .int (nI a) :: st) h Q := by
  have e1 := nI_eq ha hb
  have e2 := nI_ltI ha hb
  have e3 := nI_leI ha hb
  have e4 := nI_ltI hb ha
  have e5 := nI_leI hb ha
  refine zp_icmp_lt hf ht (fun hc => kt ?_) (fun hc => kf ?_) <;> simp only [e1, e2, e3, e4, e5] at hc <;> omega
theorem zp_icmpN_ge {a b : Nat} {off : Int} {tgt : Nat} (hf : zm_lk (zm_cd y) pc = some (.inl (.if_icmp .ge off), pc')) (ht : (pc : Int) + off = (tgt : Int)) (ha : a < 2 ^ 31) (hb : b < 2 ^ 31) (kt : b ≤ a → zp_wp X y tgt ls st h Q) (kf : a < b → zp_wp X y pc' ls st h Q) : zp_wp X y pc ls (.int (nI b) :: .int (nI a) :: st) h Q := by
  have e1 := nI_eq ha hb
  have e2 := nI_ltI ha hb
  have e3 := nI_leI ha hb
  have e4 := nI_ltI hb ha
  have e5 := nI_leI hb ha
  refine zp_icmp_ge hf ht (fun hc => kt ?_) (fun hc => kf ?_) <;> simp only [e1, e2, e3, e4, e5] at hc <;> omega
theorem zp_icmpN_gt {a b : Nat} {off : Int} {tgt : Nat} (hf : zm_lk (zm_cd y) pc = some (.inl (.if_icmp .gt off), pc')) (ht : (pc : Int) + off = (tgt : Int)) (ha : a < 2 ^ 31) (hb : b < 2 ^ 31) (kt : b < a → zp_wp X y tgt ls st h Q) (kf : a ≤ b → zp_wp X y pc' ls st h Q) : zp_wp X y pc ls (.int (nI b) :: .int (nI a) :: st) h Q := by
  have e1 := nI_eq ha hb
  have e2 := nI_ltI ha hb
  have e3 := nI_leI ha hb
  have e4 := nI_ltI hb ha
  have e5 := nI_leI hb ha
  refine zp_icmp_gt hf ht (fun hc => kt ?_) (fun hc => kf ?_) <;> simp only [e1, e2, e3, e4, e5] at hc <;> omega
theorem zp_icmpN_le {a b : Nat} {off : Int} {tgt : Nat} (hf : zm_lk (zm_cd y) pc = some (.inl (.if_icmp .le off), pc')) (ht : (pc : Int) + off = (tgt : Int)) (ha : a < 2 ^ 31) (hb : b < 2 ^ 31) (kt : a ≤ b → zp_wp X y tgt ls st h Q) (kf : b < a → zp_wp X y pc' ls st h Q) : zp_wp X y pc ls (.int (nI b) :: .int (nI a) :: st) h Q := by
  have e1 := nI_eq ha hb
  have e2 := nI_ltI ha hb
  have e3 := nI_leI ha hb
  have e4 := nI_ltI hb ha
  have e5 := nI_leI hb ha
  refine zp_icmp_le hf ht (fun hc => kt ?_) (fun hc => kf ?_) <;> simp only [e1, e2, e3, e4, e5] at hc <;> omega
theorem zp_goto {off : Int} {tgt : Nat} (hf : zm_lk (zm_cd y) pc = some (.inl (.goto off), pc')) (ht : (pc : Int) + off = (tgt : Int)) (k : zp_wp X y tgt ls st h Q) : zp_wp X y pc ls st h Q := zp_st hf (by show zm_jmp pc off ls st h = _; unfold zm_jmp; rw [ht, if_pos (Int.natCast_nonneg tgt)]; rfl) k
theorem zp_switch {d lo hi off : Int} {offs : Array Int} {tgt : Nat} {x : Int32} (hf : zm_lk (zm_cd y) pc = some (.inl (.tableswitch d lo hi offs), pc')) (h1 : ¬ x.toInt < lo) (h2 : ¬ hi < x.toInt) (ho : offs[(x.toInt - lo).toNat]? = some off) (ht : (pc : Int) + off = (tgt : Int)) (k : zp_wp X y tgt ls st h Q) : zp_wp X y pc ls (.int x :: st) h Q :=
  zp_st hf (by simp only [zm_st]; rw [if_neg (fun q => q.elim h1 h2)]; simp only [ho]; unfold zm_jmp; rw [ht, if_pos (Int.natCast_nonneg tgt)]; rfl) k
theorem zp_switchD {d lo hi : Int} {offs : Array Int} {tgt : Nat} {x : Int32} (hf : zm_lk (zm_cd y) pc = some (.inl (.tableswitch d lo hi offs), pc')) (h1 : x.toInt < lo ∨ hi < x.toInt) (ht : (pc : Int) + d = (tgt : Int)) (k : zp_wp X y tgt ls st h Q) : zp_wp X y pc ls (.int x :: st) h Q :=
  zp_st hf (by simp only [zm_st]; rw [if_pos h1]; unfold zm_jmp; rw [ht, if_pos (Int.natCast_nonneg tgt)]; rfl) k
/-! memory; an index is a number -/
theorem zp_nix {j n : Nat} (hj : j < n) (hn : n ≤ 2 ^ 30) : ¬ (nI j < 0 ∨ n ≤ (nI j).toNatClampNeg) ∧ (nI j).toNatClampNeg = j := by
  have h1 : (nI j).toNatClampNeg = j := nI_clamp (by omega)
  refine ⟨fun q => ?_, h1⟩
  rcases q with q | q
  · exact nI_pos (by omega) q
  · rw [h1] at q; omega
theorem zp_iald {a n j : Nat} {f : Nat → Int32} (hf : zm_lk (zm_cd y) pc = some (.inl .iaload, pc')) (ha : zm_iarr h a = some (n, f)) (hj : j < n) (hn : n ≤ 2 ^ 30) (k : zp_wp X y pc' ls (.int (f j) :: st) h Q) : zp_wp X y pc ls (.int (nI j) :: .ref a :: st) h Q := by
  obtain ⟨h1, h2⟩ := zp_nix hj hn
  exact zp_st hf (by simp only [zm_st, ha]; rw [if_neg h1, h2]) k
theorem zp_sald {j : Nat} {q : Nat} (hf : zm_lk (zm_cd y) pc = some (.inl .iaload, pc')) (hj : j < X.1) (hn : X.1 ≤ 2 ^ 30) (k : zp_wp X y pc' ls (.int (X.2 j) :: st) h Q) : zp_wp X y pc ls (.int (nI j) :: .retAddr q :: st) h Q := by
  obtain ⟨h1, h2⟩ := zp_nix hj hn
  exact zp_st hf (by simp only [zm_st]; rw [if_neg h1, h2]) k
theorem zp_lald {a n j : Nat} {f : Nat → Int64} (hf : zm_lk (zm_cd y) pc = some (.inl .laload, pc')) (ha : zm_larr h a = some (n, f)) (hj : j < n) (hn : n ≤ 2 ^ 30) (k : zp_wp X y pc' ls (.long (f j) :: st) h Q) : zp_wp X y pc ls (.int (nI j) :: .ref a :: st) h Q := by
  obtain ⟨h1, h2⟩ := zp_nix hj hn
  exact zp_st hf (by simp only [zm_st, ha]; rw [if_neg h1, h2]) k
theorem zp_qald {a n j q : Nat} {f : Nat → Option Nat} (hf : zm_lk (zm_cd y) pc = some (.inl .aaload, pc')) (ha : zm_qarr h a = some (n, f)) (hj : j < n) (hn : n ≤ 2 ^ 30) (hq : f j = some q) (k : zp_wp X y pc' ls (.ref q :: st) h Q) : zp_wp X y pc ls (.int (nI j) :: .ref a :: st) h Q := by
  obtain ⟨h1, h2⟩ := zp_nix hj hn
  exact zp_st hf (by simp only [zm_st, ha]; rw [if_neg h1, h2, hq]) k
theorem zp_iast {a n j : Nat} {x : Int32} {f : Nat → Int32} (hf : zm_lk (zm_cd y) pc = some (.inl .iastore, pc')) (ha : zm_iarr h a = some (n, f)) (hj : j < n) (hn : n ≤ 2 ^ 30) (k : zp_wp X y pc' ls st (zm_put h a (.inl (0, n, .inl (upd f j x)))) Q) : zp_wp X y pc ls (.int x :: .int (nI j) :: .ref a :: st) h Q := by
  obtain ⟨h1, h2⟩ := zp_nix hj hn
  exact zp_st hf (by simp only [zm_st, ha]; rw [if_neg h1, h2]) k
theorem zp_last {a n j : Nat} {x : Int64} {f : Nat → Int64} (hf : zm_lk (zm_cd y) pc = some (.inl .lastore, pc')) (ha : zm_larr h a = some (n, f)) (hj : j < n) (hn : n ≤ 2 ^ 30) (k : zp_wp X y pc' ls st (zm_put h a (.inl (1, n, .inr (.inl (vp_updL f j x))))) Q) : zp_wp X y pc ls (.long x :: .int (nI j) :: .ref a :: st) h Q := by
  obtain ⟨h1, h2⟩ := zp_nix hj hn
  exact zp_st hf (by simp only [zm_st, ha]; rw [if_neg h1, h2]) k
theorem zp_qast {a n j v : Nat} {fs : List Value} {f : Nat → Option Nat} (hf : zm_lk (zm_cd y) pc = some (.inl .aastore, pc')) (ha : zm_qarr h a = some (n, f)) (hv : zm_obj h v = some (0, fs)) (hj : j < n) (hn : n ≤ 2 ^ 30) (k : zp_wp X y pc' ls st (zm_put h a (.inl (2, n, .inr (.inr (.inr (.inr (va_up f j (some v)))))))) Q) : zp_wp X y pc ls (.ref v :: .int (nI j) :: .ref a :: st) h Q := by
  obtain ⟨h1, h2⟩ := zp_nix hj hn
  exact zp_st hf (by simp only [zm_st, ha, hv]; rw [if_neg h1, h2]) k
theorem zp_alen {a n : Nat} {f : Nat → Int32} (hf : zm_lk (zm_cd y) pc = some (.inl .arraylength, pc')) (ha : zm_iarr h a = some (n, f)) (k : zp_wp X y pc' ls (.int (nI n) :: st) h Q) : zp_wp X y pc ls (.ref a :: st) h Q := zp_st hf (by simp only [zm_st, ha]; rfl) k
theorem zp_slen {q : Nat} (hf : zm_lk (zm_cd y) pc = some (.inl .arraylength, pc')) (k : zp_wp X y pc' ls (.int (nI X.1) :: st) h Q) : zp_wp X y pc ls (.retAddr q :: st) h Q := zp_st hf rfl k
theorem zp_newi {n : Nat} (hf : zm_lk (zm_cd y) pc = some (.inl (.newarray .int), pc')) (hn : n < 10000) (hx : h.2.2.2 = 0) (k : zp_wp X y pc' ls (.ref h.2.1 :: st) (zm_new h (.inl (0, n, .inl (fun _ => 0))) n) Q) : zp_wp X y pc ls (.int (nI n) :: st) h Q := by
  have h1 : (nI n).toNatClampNeg = n := nI_clamp (by omega)
  exact zp_st hf (by simp only [zm_st]; rw [if_neg (fun q => by rcases q with q | q | q; exact nI_pos (by omega) q; (rw [h1] at q; omega); exact q hx), h1]) k
theorem zp_newl {n : Nat} (hf : zm_lk (zm_cd y) pc = some (.inl (.newarray .long), pc')) (hn : n < 10000) (hx : h.2.2.2 = 0) (k : zp_wp X y pc' ls (.ref h.2.1 :: st) (zm_new h (.inl (1, n, .inr (.inl (fun _ => 0)))) n) Q) : zp_wp X y pc ls (.int (nI n) :: st) h Q := by
  have h1 : (nI n).toNatClampNeg = n := nI_clamp (by omega)
  exact zp_st hf (by simp only [zm_st]; rw [if_neg (fun q => by rcases q with q | q | q; exact nI_pos (by omega) q; (rw [h1] at q; omega); exact q hx), h1]) k
theorem zp_newq {n idx a j : Nat} (hf : zm_lk (zm_cd y) pc = some (.inr (10, idx, a, j), pc')) (hn : n < 10000) (hx : h.2.2.2 = 0) (k : zp_wp X y pc' ls (.ref h.2.1 :: st) (zm_new h (.inl (2, n, .inr (.inr (.inr (.inr (fun _ => none)))))) n) Q) : zp_wp X y pc ls (.int (nI n) :: st) h Q := by
  have h1 : (nI n).toNatClampNeg = n := nI_clamp (by omega)
  exact zp_rs hf (by simp only [zm_rs]; rw [if_neg (fun q => by rcases q with q | q | q; exact nI_pos (by omega) q; (rw [h1] at q; omega); exact q hx), h1]) k
theorem zp_get {idx c j q : Nat} {fs : List Value} {v : Value} (hf : zm_lk (zm_cd y) pc = some (.inr (0, idx, c, j), pc')) (ho : zm_obj h q = some (c, fs)) (hv : fs[j]? = some v) (k : zp_wp X y pc' ls (v :: st) h Q) : zp_wp X y pc ls (.ref q :: st) h Q :=
  zp_rs hf (by simp only [zm_rs, ho, Nat.beq_refl, cond_true, hv]) k
theorem zp_put {idx c j q : Nat} {fs : List Value} {v : Value} (hf : zm_lk (zm_cd y) pc = some (.inr (1, idx, c, j), pc')) (ho : zm_obj h q = some (c, fs)) (hv : (Nat.blt j fs.length && zm_fit (zm_ty c j) v) = true) (k : zp_wp X y pc' ls st (zm_put h q (.inr (c, fs.set j v))) Q) : zp_wp X y pc ls (v :: .ref q :: st) h Q :=
  zp_rs hf (by simp only [zm_rs, ho, Nat.beq_refl, Bool.true_and, hv, cond_true]) k
theorem zp_putF {idx c j q : Nat} {fs : List Value} {v : Value} (hf : zm_lk (zm_cd y) pc = some (.inr (2, idx, c, j), pc')) (ho : zm_obj h q = some (c, fs)) (hv : (Nat.blt j fs.length && zm_fit (zm_ty c j) v) = true) (k : zp_wp X y pc' ls st (zm_put h q (.inr (c, fs.set j v))) Q) : zp_wp X y pc ls (v :: .ref q :: st) h Q :=
  zp_rs hf (by simp only [zm_rs, ho, Nat.beq_refl, Bool.true_and, hv, cond_true]) k
theorem zp_objI {idx a j q : Nat} (hf : zm_lk (zm_cd y) pc = some (.inr (8, idx, a, j), pc')) (hw : Nat.ble (zm_wd st) 8 = true) (k : zp_wp X y pc' ls st h Q) : zp_wp X y pc ls (.ref q :: st) h Q := zp_rs hf (by simp only [zm_rs, hw, cond_true]) k
theorem zp_new {idx a j : Nat} {fs : List Value} {n : Nat} (hf : zm_lk (zm_cd y) pc = some (.inr (9, idx, a, j), pc')) (hx : h.2.2.2 = 0) (hn : zm_N a = n) (hfs : (List.range (zm_N a)).map (fun j => zm_dv (zm_ty a j)) = fs) (k : zp_wp X y pc' ls (.ref h.2.1 :: st) (zm_new h (.inr (a, fs)) n) Q) : zp_wp X y pc ls st h Q :=
  zp_rs hf (by rw [← hn, ← hfs]; simp only [zm_rs, hx]; rfl) k
theorem zp_cpyi {idx a j q0 q1 n0 n1 n sp dp : Nat} {f g : Nat → Int32} (hf : zm_lk (zm_cd y) pc = some (.inr (11, idx, a, j), pc')) (h0 : zm_iarr h q0 = some (n0, f)) (h1 : zm_iarr h q1 = some (n1, g)) (hn : n < 10000 ∧ sp < 10000 ∧ dp < 10000) (hw : zm_wd st ≤ 8) (h2 : sp + n ≤ n0 ∧ dp + n ≤ n1) (k : zp_wp X y pc' ls st (zm_put h q1 (.inl (0, n1, .inl (va_cpy f g sp dp n)))) Q) : zp_wp X y pc ls (.int (nI n) :: .int (nI dp) :: .ref q1 :: .int (nI sp) :: .ref q0 :: st) h Q := by
  have e1 : (nI n).toNatClampNeg = n := nI_clamp (by omega)
  have e2 : (nI sp).toNatClampNeg = sp := nI_clamp (by omega)
  have e3 : (nI dp).toNatClampNeg = dp := nI_clamp (by omega)
  refine zp_rs hf ?_ k
  simp only [zm_rs, h0, h1, e1, e2, e3]
  rw [if_neg (fun q => by rcases q with q | q | q | q; exact nI_pos (by omega) q; exact nI_pos (by omega) q; exact nI_pos (by omega) q; omega), if_pos h2]
theorem zp_cpyl {idx a j q0 q1 n0 n1 n sp dp : Nat} {f g : Nat → Int64} (hf : zm_lk (zm_cd y) pc = some (.inr (11, idx, a, j), pc')) (h0 : zm_larr h q0 = some (n0, f)) (h1 : zm_larr h q1 = some (n1, g)) (h00 : zm_iarr h q0 = none) (hn : n < 10000 ∧ sp < 10000 ∧ dp < 10000) (hw : zm_wd st ≤ 8) (h2 : sp + n ≤ n0 ∧ dp + n ≤ n1) (k : zp_wp X y pc' ls st (zm_put h q1 (.inl (1, n1, .inr (.inl (va_cpy f g sp dp n))))) Q) : zp_wp X y pc ls (.int (nI n) :: .int (nI dp) :: .ref q1 :: .int (nI sp) :: .ref q0 :: st) h Q := by
  have e1 : (nI n).toNatClampNeg = n := nI_clamp (by omega)
  have e2 : (nI sp).toNatClampNeg = sp := nI_clamp (by omega)
  have e3 : (nI dp).toNatClampNeg = dp := nI_clamp (by omega)
  refine zp_rs hf ?_ k
  simp only [zm_rs, h0, h1, h00, e1, e2, e3]
  rw [if_neg (fun q => by rcases q with q | q | q | q; exact nI_pos (by omega) q; exact nI_pos (by omega) q; exact nI_pos (by omega) q; omega), if_pos h2]
theorem zp_max {idx j : Nat} {x x2 : Int32} (hf : zm_lk (zm_cd y) pc = some (.inr (16, idx, 0, j), pc')) (hw : Nat.ble (zm_wd st) 8 = true) (k : zp_wp X y pc' ls (.int (if x < x2 then x2 else x) :: st) h Q) : zp_wp X y pc ls (.int x2 :: .int x :: st) h Q := zp_rs hf (by simp only [zm_rs, hw, cond_true]; rfl) k
theorem zp_min {idx j : Nat} {x x2 : Int32} (hf : zm_lk (zm_cd y) pc = some (.inr (16, idx, 1, j), pc')) (hw : Nat.ble (zm_wd st) 8 = true) (k : zp_wp X y pc' ls (.int (if x2 < x then x2 else x) :: st) h Q) : zp_wp X y pc ls (.int x2 :: .int x :: st) h Q := zp_rs hf (by simp only [zm_rs, hw, cond_true]; rfl) k
theorem zp_ldcw {idx a j : Nat} (hf : zm_lk (zm_cd y) pc = some (.inr (13, idx, a, j), pc')) (k : zp_wp X y pc' ls (.int (nI a) :: st) h Q) : zp_wp X y pc ls st h Q := zp_rs hf rfl k
theorem zp_ldc2 {idx a j : Nat} (hf : zm_lk (zm_cd y) pc = some (.inr (14, idx, a, j), pc')) (k : zp_wp X y pc' ls (.long (lN a) :: st) h Q) : zp_wp X y pc ls st h Q := zp_rs hf rfl k
/-! ends -/
theorem zp_iret {v : Int32} (hf : zm_lk (zm_cd y) pc = some (.inl .ireturn, pc')) (hr : zm_rt y = some .int) (hq : Q (.inl (some (.int v))) h) : zp_wp X y pc ls [.int v] h Q := zp_ret hf (by simp only [zm_ret, hr]) hq
theorem zp_zret {v : Int32} (hf : zm_lk (zm_cd y) pc = some (.inl .ireturn, pc')) (hr : zm_rt y = some .boolean) (hv : v = 0 ∨ v = 1) (hq : Q (.inl (some (.int v))) h) : zp_wp X y pc ls [.int v] h Q := zp_ret hf (by simp only [zm_ret, hr, if_pos hv]) hq
theorem zp_lret {v : Int64} (hf : zm_lk (zm_cd y) pc = some (.inl .lreturn, pc')) (hr : zm_rt y = some .long) (hq : Q (.inl (some (.long v))) h) : zp_wp X y pc ls [.long v] h Q := zp_ret hf (by simp only [zm_ret, hr]) hq
theorem zp_aret {v : Nat} {n : String} (hf : zm_lk (zm_cd y) pc = some (.inl .areturn, pc')) (hr : zm_rt y = some (.object n)) (hq : Q (.inl (some (.ref v))) h) : zp_wp X y pc ls [.ref v] h Q := zp_ret hf (by simp only [zm_ret, hr]) hq
theorem zp_vret (hf : zm_lk (zm_cd y) pc = some (.inl .return_, pc')) (hr : zm_rt y = none) (hq : Q (.inl none) h) : zp_wp X y pc ls [] h Q := zp_ret hf (by simp only [zm_ret, hr]) hq
end ZP

