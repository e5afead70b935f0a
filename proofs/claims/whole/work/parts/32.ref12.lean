/-! the reference: matching -/
def zr_M (C : Nat → Option Nat) (n : Nat) (A : Nat → Int32) : Prop := ∀ i, i < n → A i = zf_o (C i)
def zo_lt (C : Nat → Option Nat) (n k : Nat) : Prop := ∀ i, i < n → ∀ j, C i = some j → j < k
def v_isM (C : Nat → Option Nat) (n p : Nat) : Bool := zf_any (fun k => C k == some p) 0 n
def zb_t (x : Int32) (k : Nat) : Bool := decide (¬ (x >>> (nI k &&& 31)) &&& nI 1 = 0)
def v_ctb (x : Int32) : Nat := zf_ct (zb_t x) 0 26
theorem zb_1 (x : Int32) : x &&& nI 1 = 0 ∨ x &&& nI 1 = nI 1 := by
  have h : ∀ y : BitVec 32, y &&& 1#32 = 0#32 ∨ y &&& 1#32 = 1#32 := by
    intro y
    have e : y &&& 1#32 = if y.getLsbD 0 then 1#32 else 0#32 := by
      apply BitVec.eq_of_getLsbD_eq
      intro i hi
      rw [BitVec.getLsbD_and, BitVec.getLsbD_one]
      by_cases h0 : i = 0
      · subst h0; cases y.getLsbD 0 <;> simp
      · cases y.getLsbD 0 <;> simp [h0, BitVec.getLsbD_one]
    rw [e]
    split
    · exact Or.inr rfl
    · exact Or.inl rfl
  rcases h x.toBitVec with h | h
  · exact Or.inl (Int32.toBitVec.inj h)
  · exact Or.inr (Int32.toBitVec.inj h)
theorem zb_tn (x : Int32) (k : Nat) : (x >>> (nI k &&& 31)) &&& nI 1 = nI (cond (zb_t x k) 1 0) := by
  unfold zb_t
  rcases zb_1 (x >>> (nI k &&& 31)) with h | h
  · rw [h]; simp [nI_0]
  · rw [h]; simp [show ¬ nI 1 = 0 by decide]
section ZR12
variable {X : zm_X} {h h1 h2 : zm_H} {Q : zm_O → zm_H → Prop} {V W B : zv} {s : zst} {T : List Nat} {r o l d : Nat} {L : Nat → zch} {c : zch} {C M : Nat → Option Nat}
theorem s_Mod_isMatched {n p a : Nat} (hS : zs_H h) (ha : zs_I a n) (hn : n ≤ 40) (hp : p < 40) (hC : zr_M C n (ci h a)) (hl : zo_lt C n 40) (hq : Q (.inl (some (.int (zf_b (v_isM C n p))))) h) : zp_wm X y_Mod_isMatched [.ref 171, .ref a, .int (nI n), .int (nI p)] h Q := by
  show zp_wp X y_Mod_isMatched 0 [.ref 171, .ref a, .int (nI n), .int (nI p), zm_mk, zm_mk] [] h Q
  have lp : ∀ k i b, i + k = n → v_isM C n p = (b || zf_any (fun k => C k == some p) i k) → zp_wp X y_Mod_isMatched 6 [.ref 171, .ref a, .int (nI n), .int (nI p), .int (zf_b b), .int (nI i)] [] h Q := by
    intro k
    induction k with
    | zero =>
      intro i b hi he
      refine zp_iload (x := (nI i)) rfl rfl ?_
      refine zp_iload_n (x := (nI n)) rfl rfl ?_
      refine zp_icmpN_ge (tgt := 38) rfl rfl (by omega) (by omega) (fun b9 => ?_) (fun b9 => ?_)
      · refine zp_iload (x := (zf_b b)) rfl rfl ?_
        refine zp_zret rfl rfl (zf_b01 _) ?_
        rw [he, show zf_any (fun k => C k == some p) i 0 = false from rfl, Bool.or_false] at hq; exact hq
      · omega
    | succ k ih =>
      intro i b hi he
      refine zp_iload (x := (nI i)) rfl rfl ?_
      refine zp_iload_n (x := (nI n)) rfl rfl ?_
      refine zp_icmpN_ge (tgt := 38) rfl rfl (by omega) (by omega) (fun b9 => ?_) (fun b9 => ?_)
      · omega
      · cases hb : b with
        | false =>
          show zp_wp X y_Mod_isMatched 12 [.ref 171, .ref a, .int (nI n), .int (nI p), .int (nI 0), .int (nI i)] [] h Q
          refine zp_iload (x := (nI 0)) rfl rfl ?_
          refine zp_ifF (tgt := 25) rfl rfl (by decide +kernel) ?_
          refine zp_aload_n (x := a) rfl rfl ?_
          refine zp_iload (x := (nI i)) rfl rfl ?_
          refine zq_iald hS rfl (by first | assumption | exact ⟨by decide, rfl⟩) (by omega) (by first | decide | omega) ?_
          rw [hC i (by omega)]
          refine zp_iload_n (x := (nI p)) rfl rfl ?_
          refine zp_icmp_ne (tgt := 29) rfl rfl (fun b22 => ?_) (fun b22 => ?_)
          · refine zp_iconst (v := (nI 0)) rfl (by decide +kernel) ?_
            refine zp_istore_4 rfl rfl ?_
            refine zp_iincN_5 rfl rfl ?_
            refine zp_goto (tgt := 6) rfl rfl ?_
            rw [show zf_any (fun k => C k == some p) i (k + 1) = ((C i == some p) || zf_any (fun k => C k == some p) (i + 1) k) from rfl, hb] at he
            first
            | exact ih (i + 1) true (by omega) (by simpa using he)
            | (have b22 : ¬ C i = some p := fun e => b22 ((zf_o_eq (fun j hj => by have := hl i (by omega) j hj; omega) (by omega)).mpr e).symm
               rw [beq_eq_false_iff_ne.mpr b22] at he
               exact ih (i + 1) false (by omega) he)
            | (have b22 : C i = some p := (zf_o_eq (fun j hj => by have := hl i (by omega) j hj; omega) (by omega)).mp (Decidable.not_not.mp b22).symm
               exact ih (i + 1) true (by omega) (by simpa [b22] using he))
          · refine zp_iconst (v := (nI 1)) rfl (by decide +kernel) ?_
            refine zp_goto (tgt := 30) rfl rfl ?_
            refine zp_istore_4 rfl rfl ?_
            refine zp_iincN_5 rfl rfl ?_
            refine zp_goto (tgt := 6) rfl rfl ?_
            rw [show zf_any (fun k => C k == some p) i (k + 1) = ((C i == some p) || zf_any (fun k => C k == some p) (i + 1) k) from rfl, hb] at he
            first
            | exact ih (i + 1) true (by omega) (by simpa using he)
            | (have b22 : ¬ C i = some p := fun e => b22 ((zf_o_eq (fun j hj => by have := hl i (by omega) j hj; omega) (by omega)).mpr e).symm
               rw [beq_eq_false_iff_ne.mpr b22] at he
               exact ih (i + 1) false (by omega) he)
            | (have b22 : C i = some p := (zf_o_eq (fun j hj => by have := hl i (by omega) j hj; omega) (by omega)).mp (Decidable.not_not.mp b22).symm
               exact ih (i + 1) true (by omega) (by simpa [b22] using he))
        | true =>
          show zp_wp X y_Mod_isMatched 12 [.ref 171, .ref a, .int (nI n), .int (nI p), .int (nI 1), .int (nI i)] [] h Q
          refine zp_iload (x := (nI 1)) rfl rfl ?_
          refine zp_ifT (tgt := 25) rfl rfl (by decide +kernel) ?_
          refine zp_iconst (v := (nI 1)) rfl (by decide +kernel) ?_
          refine zp_goto (tgt := 30) rfl rfl ?_
          refine zp_istore_4 rfl rfl ?_
          refine zp_iincN_5 rfl rfl ?_
          refine zp_goto (tgt := 6) rfl rfl ?_
          rw [show zf_any (fun k => C k == some p) i (k + 1) = ((C i == some p) || zf_any (fun k => C k == some p) (i + 1) k) from rfl, hb] at he
          first
          | exact ih (i + 1) true (by omega) (by simpa using he)
          | (have b22 : ¬ C i = some p := fun e => b22 ((zf_o_eq (fun j hj => by have := hl i (by omega) j hj; omega) (by omega)).mpr e).symm
             rw [beq_eq_false_iff_ne.mpr b22] at he
             exact ih (i + 1) false (by omega) he)
          | (have b22 : C i = some p := (zf_o_eq (fun j hj => by have := hl i (by omega) j hj; omega) (by omega)).mp (Decidable.not_not.mp b22).symm
             exact ih (i + 1) true (by omega) (by simpa [b22] using he))
  refine zp_iconst (v := (nI 0)) rfl (by decide +kernel) ?_
  refine zp_istore_4 rfl rfl ?_
  refine zp_iconst (v := (nI 0)) rfl (by decide +kernel) ?_
  refine zp_istore_5 rfl rfl ?_
  exact lp n 0 false (by omega) rfl
theorem s_Mod_bits {x : Int32} (hq : Q (.inl (some (.int (nI (v_ctb x))))) h) : zp_wm X y_Mod_bits [.int x] h Q := by
  show zp_wp X y_Mod_bits 0 [.int x, zm_mk, zm_mk] [] h Q
  have lp : ∀ k i n, i + k = 26 → v_ctb x = n + zf_ct (zb_t x) i k → zp_wp X y_Mod_bits 4 [.int x, .int (nI n), .int (nI i)] [] h Q := by
    intro k
    induction k with
    | zero =>
      intro i n hi he
      refine zp_iload_n (x := (nI i)) rfl rfl ?_
      refine zp_bipush (v := (nI 26)) rfl (by decide +kernel) ?_
      refine zp_icmpN_ge (tgt := 24) rfl rfl (by omega) (by omega) (fun b7 => ?_) (fun b7 => ?_)
      · refine zp_iload_n (x := (nI n)) rfl rfl ?_
        refine zp_iret rfl rfl ?_
        rw [he] at hq; exact hq
      · omega
    | succ k ih =>
      intro i n hi he
      refine zp_iload_n (x := (nI i)) rfl rfl ?_
      refine zp_bipush (v := (nI 26)) rfl (by decide +kernel) ?_
      refine zp_icmpN_ge (tgt := 24) rfl rfl (by omega) (by omega) (fun b7 => ?_) (fun b7 => ?_)
      · omega
      · refine zp_iload_n (x := (nI n)) rfl rfl ?_
        refine zp_iload_n (x := x) rfl rfl ?_
        refine zp_iload_n (x := (nI i)) rfl rfl ?_
        refine zp_ishr rfl rfl ?_
        refine zp_iconst (v := (nI 1)) rfl (by decide +kernel) ?_
        refine zp_iand rfl rfl ?_
        rw [zb_tn]
        refine zp_iaddN rfl ?_
        refine zp_istore_n_1 rfl rfl ?_
        refine zp_iincN_2 rfl rfl ?_
        refine zp_goto (tgt := 4) rfl rfl ?_
        refine ih (i + 1) _ (by omega) ?_
        rw [he, show zf_ct (zb_t x) i (k + 1) = cond (zb_t x i) 1 0 + zf_ct (zb_t x) (i + 1) k from rfl]
        omega
  refine zp_iconst (v := (nI 0)) rfl (by decide +kernel) ?_
  refine zp_istore_n_1 rfl rfl ?_
  refine zp_iconst (v := (nI 0)) rfl (by decide +kernel) ?_
  refine zp_istore_n_2 rfl rfl ?_
  exact lp 26 0 0 rfl (by rw [Nat.zero_add]; rfl)
def v_cm (W : zv) (C : Nat → Option Nat) (its : Int32) (k : Nat) : Nat := cond (v_isM C 12 k) 0 (v_ctb (v_msk W (fun o => o == k) &&& its))
/-- the best so far, and how much it has in common -/
def v_lk1 (W : zv) (C : Nat → Option Nat) (its : Int32) (k : Nat) (b : Option Nat × Nat) : Option Nat × Nat := if b.2 < v_cm W C its k then (some k, v_cm W C its k) else b
def v_lkS (W : zv) (C : Nat → Option Nat) (its : Int32) (i : Nat) (b : Option Nat × Nat) : Option Nat × Nat := match v_ord W i with
  | none => b
  | some k => v_lk1 W C its k b
def v_like (V W : zv) (C : Nat → Option Nat) (c : Nat) : Option Nat := if v_ctb (v_msk V (fun o => o == c)) ≤ 2 * (zf_fold (v_lkS W C (v_msk V (fun o => o == c))) 0 12 (none, 0)).2 then (zf_fold (v_lkS W C (v_msk V (fun o => o == c))) 0 12 (none, 0)).1 else none
theorem v_ctb_26 (x : Int32) : v_ctb x ≤ 26 := zf_ct_le _ _ _
theorem v_cm_26 {its : Int32} {k : Nat} : v_cm W C its k ≤ 26 := by
  unfold v_cm
  cases v_isM C 12 k
  · exact v_ctb_26 _
  · exact Nat.zero_le _
theorem s_Mod_likest {c : Nat} (hS : zs_H h) (hr : zs_I r 1704) (hV : zv_R V (ci h 174)) (hB : zv_B V) (hW : zv_R W (ci h r)) (hB2 : zv_B W) (hC : zr_M C 12 (ci h 183)) (hl : zo_lt C 12 40) (hc : c < 12) (hq : Q (.inl (some (.int (zf_o (v_like V W C c))))) h) : zp_wm X y_Mod_likest [.ref 171, .int (nI c), .ref r] h Q := by
  show zp_wp X y_Mod_likest 0 [.ref 171, .int (nI c), .ref r, zm_mk, zm_mk, zm_mk, zm_mk, zm_mk, zm_mk] [] h Q
  unfold v_like at hq
  generalize hits : v_msk V (fun o => o == c) = its at hq
  have lp : ∀ k i b x y, i + k = 12 → b.2 ≤ 26 → zf_fold (v_lkS W C its) 0 12 (none, 0) = zf_fold (v_lkS W C its) i k b → zp_wp X y_Mod_likest 18 [.ref 171, .int (nI c), .ref r, .int its, .int (zf_o b.1), .int (nI b.2), .int (nI i), x, y] [] h Q := by
    intro k
    induction k with
    | zero =>
      intro i b x y hi hb he
      have he : zf_fold (v_lkS W C its) 0 12 (none, 0) = b := he
      have h26 := v_ctb_26 its
      refine zp_iload (x := (nI i)) rfl rfl ?_
      refine zp_bipush (v := (nI 12)) rfl (by decide +kernel) ?_
      refine zp_icmpN_ge (tgt := 108) rfl rfl (by omega) (by omega) (fun b22 => ?_) (fun b22 => ?_)
      · refine zp_iconst (v := (nI 2)) rfl (by decide +kernel) ?_
        refine zp_iload (x := (nI b.2)) rfl rfl ?_
        refine zp_imulN rfl ?_
        refine zp_iload_n (x := its) rfl rfl ?_
        refine zp_call rfl rfl (s_Mod_bits ?_)
        show zp_wp X y_Mod_likest 116 [.ref 171, .int (nI c), .ref r, .int its, .int (zf_o b.1), .int (nI b.2), .int (nI i), x, y] [.int (nI (v_ctb its)), .int (nI (2 * b.2))] h Q
        refine zp_icmpN_lt (tgt := 124) rfl rfl (by omega) (by omega) (fun b116 => ?_) (fun b116 => ?_)
        · refine zp_iconst (v := (-1)) rfl (by decide +kernel) ?_
          refine zp_iret rfl rfl ?_
          rw [he] at hq
          first | (rw [if_pos (by omega)] at hq; exact hq) | (rw [if_neg (by omega)] at hq; exact hq)
        · refine zp_iload (x := (zf_o b.1)) rfl rfl ?_
          refine zp_goto (tgt := 125) rfl rfl ?_
          refine zp_iret rfl rfl ?_
          rw [he] at hq
          first | (rw [if_pos (by omega)] at hq; exact hq) | (rw [if_neg (by omega)] at hq; exact hq)
      · omega
    | succ k ih =>
      intro i b x y hi hb he
      rw [show zf_fold (v_lkS W C its) i (k + 1) b = zf_fold (v_lkS W C its) (i + 1) k (v_lkS W C its i b) from rfl] at he
      have h26 := fun k => v_cm_26 (W := W) (C := C) (its := its) (k := k)
      refine zp_iload (x := (nI i)) rfl rfl ?_
      refine zp_bipush (v := (nI 12)) rfl (by decide +kernel) ?_
      refine zp_icmpN_ge (tgt := 108) rfl rfl (by omega) (by omega) (fun b22 => ?_) (fun b22 => ?_)
      · omega
      · refine zp_aload_n (x := r) rfl rfl ?_
        refine zp_iload (x := (nI i)) rfl rfl ?_
        refine zp_call rfl rfl (s_Mod_ordered hS hr hW hB2 (by omega) ?_)
        cases hz : v_ord W i with
        | none =>
          show zp_wp X y_Mod_likest 31 [.ref 171, .int (nI c), .ref r, .int its, .int (zf_o b.1), .int (nI b.2), .int (nI i), x, y] [.int (-1)] h Q
          refine zp_istore_7 rfl rfl ?_
          refine zp_iload (x := (-1)) rfl rfl ?_
          refine zp_ifT (tgt := 53) rfl rfl (by decide +kernel) ?_
          refine zp_iconst (v := (nI 0)) rfl (by decide +kernel) ?_
          refine zp_goto (tgt := 68) rfl rfl ?_
          refine zp_istore_8 rfl rfl ?_
          refine zp_iload (x := (nI 0)) rfl rfl ?_
          refine zp_iload (x := (nI b.2)) rfl rfl ?_
          refine zp_icmpN_le (tgt := 82) rfl rfl (by omega) (by omega) (fun b74 => ?_) (fun b74 => ?_)
          · refine zp_iload (x := (zf_o b.1)) rfl rfl ?_
            refine zp_istore_4 rfl rfl ?_
            refine zp_iload (x := (nI 0)) rfl rfl ?_
            refine zp_iload (x := (nI b.2)) rfl rfl ?_
            refine zp_icmpN_le (tgt := 98) rfl rfl (by omega) (by omega) (fun b90 => ?_) (fun b90 => ?_)
            · refine zp_iload (x := (nI b.2)) rfl rfl ?_
              refine zp_istore_5 rfl rfl ?_
              refine zp_iincN_6 rfl rfl ?_
              refine zp_goto (tgt := 18) rfl rfl ?_
              first
              | omega
              | (refine ih (i + 1) b _ _ (by omega) hb ?_; rw [he]; simp only [v_lkS, hz]; done)
              | (refine ih (i + 1) b _ _ (by omega) hb ?_; rw [he]; simp only [v_lkS, hz, v_lk1, v_cm, em, cond_true]; rw [if_neg (by omega)])
              | (refine ih (i + 1) b _ _ (by omega) hb ?_; rw [he]; simp only [v_lkS, hz, v_lk1, v_cm, em, cond_false]; rw [if_neg (by omega)])
              | (refine ih (i + 1) (some q, v_ctb (v_msk W (fun o => o == q) &&& its)) _ _ (by omega) h26 ?_; rw [he]; simp only [v_lkS, hz, v_lk1, v_cm, em, cond_false]; rw [if_pos (by omega)])
            · refine zp_iload (x := (nI 0)) rfl rfl ?_
              refine zp_goto (tgt := 100) rfl rfl ?_
              refine zp_istore_5 rfl rfl ?_
              refine zp_iincN_6 rfl rfl ?_
              refine zp_goto (tgt := 18) rfl rfl ?_
              first
              | omega
              | (refine ih (i + 1) b _ _ (by omega) hb ?_; rw [he]; simp only [v_lkS, hz]; done)
              | (refine ih (i + 1) b _ _ (by omega) hb ?_; rw [he]; simp only [v_lkS, hz, v_lk1, v_cm, em, cond_true]; rw [if_neg (by omega)])
              | (refine ih (i + 1) b _ _ (by omega) hb ?_; rw [he]; simp only [v_lkS, hz, v_lk1, v_cm, em, cond_false]; rw [if_neg (by omega)])
              | (refine ih (i + 1) (some q, v_ctb (v_msk W (fun o => o == q) &&& its)) _ _ (by omega) h26 ?_; rw [he]; simp only [v_lkS, hz, v_lk1, v_cm, em, cond_false]; rw [if_pos (by omega)])
          · refine zp_iload (x := (-1)) rfl rfl ?_
            refine zp_goto (tgt := 84) rfl rfl ?_
            refine zp_istore_4 rfl rfl ?_
            refine zp_iload (x := (nI 0)) rfl rfl ?_
            refine zp_iload (x := (nI b.2)) rfl rfl ?_
            refine zp_icmpN_le (tgt := 98) rfl rfl (by omega) (by omega) (fun b90 => ?_) (fun b90 => ?_)
            · refine zp_iload (x := (nI b.2)) rfl rfl ?_
              refine zp_istore_5 rfl rfl ?_
              refine zp_iincN_6 rfl rfl ?_
              refine zp_goto (tgt := 18) rfl rfl ?_
              first
              | omega
              | (refine ih (i + 1) b _ _ (by omega) hb ?_; rw [he]; simp only [v_lkS, hz]; done)
              | (refine ih (i + 1) b _ _ (by omega) hb ?_; rw [he]; simp only [v_lkS, hz, v_lk1, v_cm, em, cond_true]; rw [if_neg (by omega)])
              | (refine ih (i + 1) b _ _ (by omega) hb ?_; rw [he]; simp only [v_lkS, hz, v_lk1, v_cm, em, cond_false]; rw [if_neg (by omega)])
              | (refine ih (i + 1) (some q, v_ctb (v_msk W (fun o => o == q) &&& its)) _ _ (by omega) h26 ?_; rw [he]; simp only [v_lkS, hz, v_lk1, v_cm, em, cond_false]; rw [if_pos (by omega)])
            · refine zp_iload (x := (nI 0)) rfl rfl ?_
              refine zp_goto (tgt := 100) rfl rfl ?_
              refine zp_istore_5 rfl rfl ?_
              refine zp_iincN_6 rfl rfl ?_
              refine zp_goto (tgt := 18) rfl rfl ?_
              first
              | omega
              | (refine ih (i + 1) b _ _ (by omega) hb ?_; rw [he]; simp only [v_lkS, hz]; done)
              | (refine ih (i + 1) b _ _ (by omega) hb ?_; rw [he]; simp only [v_lkS, hz, v_lk1, v_cm, em, cond_true]; rw [if_neg (by omega)])
              | (refine ih (i + 1) b _ _ (by omega) hb ?_; rw [he]; simp only [v_lkS, hz, v_lk1, v_cm, em, cond_false]; rw [if_neg (by omega)])
              | (refine ih (i + 1) (some q, v_ctb (v_msk W (fun o => o == q) &&& its)) _ _ (by omega) h26 ?_; rw [he]; simp only [v_lkS, hz, v_lk1, v_cm, em, cond_false]; rw [if_pos (by omega)])
        | some q =>
          have hq12 := v_ord_12 q hz
          have h26 := v_ctb_26 (v_msk W (fun o => o == q) &&& its)
          show zp_wp X y_Mod_likest 31 [.ref 171, .int (nI c), .ref r, .int its, .int (zf_o b.1), .int (nI b.2), .int (nI i), x, y] [.int (nI q)] h Q
          refine zp_istore_7 rfl rfl ?_
          refine zp_iload (x := (nI q)) rfl rfl ?_
          refine zp_ifF (tgt := 53) rfl rfl (zc_lt (by omega)) ?_
          refine zp_aload_n (x := 171) rfl rfl ?_
          refine zp_aload_n (x := 171) rfl rfl ?_
          refine zq_getr (k9 := 183) hS rfl (by first | assumption | exact ⟨by decide, rfl⟩) rfl ?_
          refine zp_bipush (v := (nI 12)) rfl (by decide +kernel) ?_
          refine zp_iload (x := (nI q)) rfl rfl ?_
          refine zq_virt hS rfl rfl (by first | assumption | exact ⟨by decide, rfl⟩) rfl (s_Mod_isMatched hS ⟨by decide, rfl⟩ (by decide) (by omega) hC hl ?_)
          cases em : v_isM C 12 q with
          | false =>
            show zp_wp X y_Mod_likest 50 [.ref 171, .int (nI c), .ref r, .int its, .int (zf_o b.1), .int (nI b.2), .int (nI i), .int (nI q), y] [.int (nI 0)] h Q
            refine zp_ifT (tgt := 57) rfl rfl (by decide +kernel) ?_
            refine zp_aload_n (x := r) rfl rfl ?_
            refine zp_iload (x := (nI q)) rfl rfl ?_
            refine zp_call rfl rfl (s_Mod_membersOf hS hr hW hB2 hq12 ?_)
            show zp_wp X y_Mod_likest 63 [.ref 171, .int (nI c), .ref r, .int its, .int (zf_o b.1), .int (nI b.2), .int (nI i), .int (nI q), y] [.int (v_msk W (fun o => o == q))] h Q
            refine zp_iload_n (x := its) rfl rfl ?_
            refine zp_iand rfl rfl ?_
            refine zp_call rfl rfl (s_Mod_bits ?_)
            show zp_wp X y_Mod_likest 68 [.ref 171, .int (nI c), .ref r, .int its, .int (zf_o b.1), .int (nI b.2), .int (nI i), .int (nI q), y] [.int (nI (v_ctb (v_msk W (fun o => o == q) &&& its)))] h Q
            refine zp_istore_8 rfl rfl ?_
            refine zp_iload (x := (nI (v_ctb (v_msk W (fun o => o == q) &&& its)))) rfl rfl ?_
            refine zp_iload (x := (nI b.2)) rfl rfl ?_
            refine zp_icmpN_le (tgt := 82) rfl rfl (by omega) (by omega) (fun b74 => ?_) (fun b74 => ?_)
            · refine zp_iload (x := (zf_o b.1)) rfl rfl ?_
              refine zp_istore_4 rfl rfl ?_
              refine zp_iload (x := (nI (v_ctb (v_msk W (fun o => o == q) &&& its)))) rfl rfl ?_
              refine zp_iload (x := (nI b.2)) rfl rfl ?_
              refine zp_icmpN_le (tgt := 98) rfl rfl (by omega) (by omega) (fun b90 => ?_) (fun b90 => ?_)
              · refine zp_iload (x := (nI b.2)) rfl rfl ?_
                refine zp_istore_5 rfl rfl ?_
                refine zp_iincN_6 rfl rfl ?_
                refine zp_goto (tgt := 18) rfl rfl ?_
                first
                | omega
                | (refine ih (i + 1) b _ _ (by omega) hb ?_; rw [he]; simp only [v_lkS, hz]; done)
                | (refine ih (i + 1) b _ _ (by omega) hb ?_; rw [he]; simp only [v_lkS, hz, v_lk1, v_cm, em, cond_true]; rw [if_neg (by omega)])
                | (refine ih (i + 1) b _ _ (by omega) hb ?_; rw [he]; simp only [v_lkS, hz, v_lk1, v_cm, em, cond_false]; rw [if_neg (by omega)])
                | (refine ih (i + 1) (some q, v_ctb (v_msk W (fun o => o == q) &&& its)) _ _ (by omega) h26 ?_; rw [he]; simp only [v_lkS, hz, v_lk1, v_cm, em, cond_false]; rw [if_pos (by omega)])
              · refine zp_iload (x := (nI (v_ctb (v_msk W (fun o => o == q) &&& its)))) rfl rfl ?_
                refine zp_goto (tgt := 100) rfl rfl ?_
                refine zp_istore_5 rfl rfl ?_
                refine zp_iincN_6 rfl rfl ?_
                refine zp_goto (tgt := 18) rfl rfl ?_
                first
                | omega
                | (refine ih (i + 1) b _ _ (by omega) hb ?_; rw [he]; simp only [v_lkS, hz]; done)
                | (refine ih (i + 1) b _ _ (by omega) hb ?_; rw [he]; simp only [v_lkS, hz, v_lk1, v_cm, em, cond_true]; rw [if_neg (by omega)])
                | (refine ih (i + 1) b _ _ (by omega) hb ?_; rw [he]; simp only [v_lkS, hz, v_lk1, v_cm, em, cond_false]; rw [if_neg (by omega)])
                | (refine ih (i + 1) (some q, v_ctb (v_msk W (fun o => o == q) &&& its)) _ _ (by omega) h26 ?_; rw [he]; simp only [v_lkS, hz, v_lk1, v_cm, em, cond_false]; rw [if_pos (by omega)])
            · refine zp_iload (x := (nI q)) rfl rfl ?_
              refine zp_goto (tgt := 84) rfl rfl ?_
              refine zp_istore_4 rfl rfl ?_
              refine zp_iload (x := (nI (v_ctb (v_msk W (fun o => o == q) &&& its)))) rfl rfl ?_
              refine zp_iload (x := (nI b.2)) rfl rfl ?_
              refine zp_icmpN_le (tgt := 98) rfl rfl (by omega) (by omega) (fun b90 => ?_) (fun b90 => ?_)
              · refine zp_iload (x := (nI b.2)) rfl rfl ?_
                refine zp_istore_5 rfl rfl ?_
                refine zp_iincN_6 rfl rfl ?_
                refine zp_goto (tgt := 18) rfl rfl ?_
                first
                | omega
                | (refine ih (i + 1) b _ _ (by omega) hb ?_; rw [he]; simp only [v_lkS, hz]; done)
                | (refine ih (i + 1) b _ _ (by omega) hb ?_; rw [he]; simp only [v_lkS, hz, v_lk1, v_cm, em, cond_true]; rw [if_neg (by omega)])
                | (refine ih (i + 1) b _ _ (by omega) hb ?_; rw [he]; simp only [v_lkS, hz, v_lk1, v_cm, em, cond_false]; rw [if_neg (by omega)])
                | (refine ih (i + 1) (some q, v_ctb (v_msk W (fun o => o == q) &&& its)) _ _ (by omega) h26 ?_; rw [he]; simp only [v_lkS, hz, v_lk1, v_cm, em, cond_false]; rw [if_pos (by omega)])
              · refine zp_iload (x := (nI (v_ctb (v_msk W (fun o => o == q) &&& its)))) rfl rfl ?_
                refine zp_goto (tgt := 100) rfl rfl ?_
                refine zp_istore_5 rfl rfl ?_
                refine zp_iincN_6 rfl rfl ?_
                refine zp_goto (tgt := 18) rfl rfl ?_
                first
                | omega
                | (refine ih (i + 1) b _ _ (by omega) hb ?_; rw [he]; simp only [v_lkS, hz]; done)
                | (refine ih (i + 1) b _ _ (by omega) hb ?_; rw [he]; simp only [v_lkS, hz, v_lk1, v_cm, em, cond_true]; rw [if_neg (by omega)])
                | (refine ih (i + 1) b _ _ (by omega) hb ?_; rw [he]; simp only [v_lkS, hz, v_lk1, v_cm, em, cond_false]; rw [if_neg (by omega)])
                | (refine ih (i + 1) (some q, v_ctb (v_msk W (fun o => o == q) &&& its)) _ _ (by omega) h26 ?_; rw [he]; simp only [v_lkS, hz, v_lk1, v_cm, em, cond_false]; rw [if_pos (by omega)])
          | true =>
            show zp_wp X y_Mod_likest 50 [.ref 171, .int (nI c), .ref r, .int its, .int (zf_o b.1), .int (nI b.2), .int (nI i), .int (nI q), y] [.int (nI 1)] h Q
            refine zp_ifF (tgt := 57) rfl rfl (by decide +kernel) ?_
            refine zp_iconst (v := (nI 0)) rfl (by decide +kernel) ?_
            refine zp_goto (tgt := 68) rfl rfl ?_
            refine zp_istore_8 rfl rfl ?_
            refine zp_iload (x := (nI 0)) rfl rfl ?_
            refine zp_iload (x := (nI b.2)) rfl rfl ?_
            refine zp_icmpN_le (tgt := 82) rfl rfl (by omega) (by omega) (fun b74 => ?_) (fun b74 => ?_)
            · refine zp_iload (x := (zf_o b.1)) rfl rfl ?_
              refine zp_istore_4 rfl rfl ?_
              refine zp_iload (x := (nI 0)) rfl rfl ?_
              refine zp_iload (x := (nI b.2)) rfl rfl ?_
              refine zp_icmpN_le (tgt := 98) rfl rfl (by omega) (by omega) (fun b90 => ?_) (fun b90 => ?_)
              · refine zp_iload (x := (nI b.2)) rfl rfl ?_
                refine zp_istore_5 rfl rfl ?_
                refine zp_iincN_6 rfl rfl ?_
                refine zp_goto (tgt := 18) rfl rfl ?_
                first
                | omega
                | (refine ih (i + 1) b _ _ (by omega) hb ?_; rw [he]; simp only [v_lkS, hz]; done)
                | (refine ih (i + 1) b _ _ (by omega) hb ?_; rw [he]; simp only [v_lkS, hz, v_lk1, v_cm, em, cond_true]; rw [if_neg (by omega)])
                | (refine ih (i + 1) b _ _ (by omega) hb ?_; rw [he]; simp only [v_lkS, hz, v_lk1, v_cm, em, cond_false]; rw [if_neg (by omega)])
                | (refine ih (i + 1) (some q, v_ctb (v_msk W (fun o => o == q) &&& its)) _ _ (by omega) h26 ?_; rw [he]; simp only [v_lkS, hz, v_lk1, v_cm, em, cond_false]; rw [if_pos (by omega)])
              · refine zp_iload (x := (nI 0)) rfl rfl ?_
                refine zp_goto (tgt := 100) rfl rfl ?_
                refine zp_istore_5 rfl rfl ?_
                refine zp_iincN_6 rfl rfl ?_
                refine zp_goto (tgt := 18) rfl rfl ?_
                first
                | omega
                | (refine ih (i + 1) b _ _ (by omega) hb ?_; rw [he]; simp only [v_lkS, hz]; done)
                | (refine ih (i + 1) b _ _ (by omega) hb ?_; rw [he]; simp only [v_lkS, hz, v_lk1, v_cm, em, cond_true]; rw [if_neg (by omega)])
                | (refine ih (i + 1) b _ _ (by omega) hb ?_; rw [he]; simp only [v_lkS, hz, v_lk1, v_cm, em, cond_false]; rw [if_neg (by omega)])
                | (refine ih (i + 1) (some q, v_ctb (v_msk W (fun o => o == q) &&& its)) _ _ (by omega) h26 ?_; rw [he]; simp only [v_lkS, hz, v_lk1, v_cm, em, cond_false]; rw [if_pos (by omega)])
            · refine zp_iload (x := (nI q)) rfl rfl ?_
              refine zp_goto (tgt := 84) rfl rfl ?_
              refine zp_istore_4 rfl rfl ?_
              refine zp_iload (x := (nI 0)) rfl rfl ?_
              refine zp_iload (x := (nI b.2)) rfl rfl ?_
              refine zp_icmpN_le (tgt := 98) rfl rfl (by omega) (by omega) (fun b90 => ?_) (fun b90 => ?_)
              · refine zp_iload (x := (nI b.2)) rfl rfl ?_
                refine zp_istore_5 rfl rfl ?_
                refine zp_iincN_6 rfl rfl ?_
                refine zp_goto (tgt := 18) rfl rfl ?_
                first
                | omega
                | (refine ih (i + 1) b _ _ (by omega) hb ?_; rw [he]; simp only [v_lkS, hz]; done)
                | (refine ih (i + 1) b _ _ (by omega) hb ?_; rw [he]; simp only [v_lkS, hz, v_lk1, v_cm, em, cond_true]; rw [if_neg (by omega)])
                | (refine ih (i + 1) b _ _ (by omega) hb ?_; rw [he]; simp only [v_lkS, hz, v_lk1, v_cm, em, cond_false]; rw [if_neg (by omega)])
                | (refine ih (i + 1) (some q, v_ctb (v_msk W (fun o => o == q) &&& its)) _ _ (by omega) h26 ?_; rw [he]; simp only [v_lkS, hz, v_lk1, v_cm, em, cond_false]; rw [if_pos (by omega)])
              · refine zp_iload (x := (nI 0)) rfl rfl ?_
                refine zp_goto (tgt := 100) rfl rfl ?_
                refine zp_istore_5 rfl rfl ?_
                refine zp_iincN_6 rfl rfl ?_
                refine zp_goto (tgt := 18) rfl rfl ?_
                first
                | omega
                | (refine ih (i + 1) b _ _ (by omega) hb ?_; rw [he]; simp only [v_lkS, hz]; done)
                | (refine ih (i + 1) b _ _ (by omega) hb ?_; rw [he]; simp only [v_lkS, hz, v_lk1, v_cm, em, cond_true]; rw [if_neg (by omega)])
                | (refine ih (i + 1) b _ _ (by omega) hb ?_; rw [he]; simp only [v_lkS, hz, v_lk1, v_cm, em, cond_false]; rw [if_neg (by omega)])
                | (refine ih (i + 1) (some q, v_ctb (v_msk W (fun o => o == q) &&& its)) _ _ (by omega) h26 ?_; rw [he]; simp only [v_lkS, hz, v_lk1, v_cm, em, cond_false]; rw [if_pos (by omega)])
  refine zp_aload_n (x := 171) rfl rfl ?_
  refine zq_getr (k9 := 174) hS rfl (by first | assumption | exact ⟨by decide, rfl⟩) rfl ?_
  refine zp_iload_n (x := (nI c)) rfl rfl ?_
  refine zp_call rfl rfl (s_Mod_membersOf hS ⟨by decide, rfl⟩ hV hB hc ?_)
  rw [hits]
  show zp_wp X y_Mod_likest 8 [.ref 171, .int (nI c), .ref r, zm_mk, zm_mk, zm_mk, zm_mk, zm_mk, zm_mk] [.int its] h Q
  refine zp_istore_n_3 rfl rfl ?_
  refine zp_iconst (v := (-1)) rfl (by decide +kernel) ?_
  refine zp_istore_4 rfl rfl ?_
  refine zp_iconst (v := (nI 0)) rfl (by decide +kernel) ?_
  refine zp_istore_5 rfl rfl ?_
  refine zp_iconst (v := (nI 0)) rfl (by decide +kernel) ?_
  refine zp_istore_6 rfl rfl ?_
  exact lp 12 0 (none, 0) _ _ rfl (by decide) rfl
def v_lnS (W : zv) (M : Nat → Option Nat) (name : Nat) (k : Nat) (b : Option Nat × Nat) : Option Nat × Nat := cond (v_mn W k == name && !(v_isM M 40 k)) (some k, b.2 + 1) b
def v_lone (W : zv) (M : Nat → Option Nat) (name : Nat) : Option Nat := if (zf_fold (v_lnS W M name) 0 40 (none, 0)).2 = 1 then (zf_fold (v_lnS W M name) 0 40 (none, 0)).1 else none
theorem s_Mod_lonely {nm : Nat} (hS : zs_H h) (hr : zs_I r 1704) (hW : zv_R W (ci h r)) (hB2 : zv_B W) (hM : zr_M M 40 (ci h 184)) (hl : zo_lt M 40 40) (hn : nm < 128) (hq : Q (.inl (some (.int (zf_o (v_lone W M nm))))) h) : zp_wm X y_Mod_lonely [.ref 171, .ref r, .int (nI nm)] h Q := by
  show zp_wp X y_Mod_lonely 0 [.ref 171, .ref r, .int (nI nm), zm_mk, zm_mk, zm_mk] [] h Q
  unfold v_lone at hq
  have lp : ∀ k i b, i + k = 40 → b.2 ≤ i → zf_fold (v_lnS W M nm) 0 40 (none, 0) = zf_fold (v_lnS W M nm) i k b → zp_wp X y_Mod_lonely 8 [.ref 171, .ref r, .int (nI nm), .int (zf_o b.1), .int (nI b.2), .int (nI i)] [] h Q := by
    intro k
    induction k with
    | zero =>
      intro i b hi hb he
      have he : zf_fold (v_lnS W M nm) 0 40 (none, 0) = b := he
      refine zp_iload (x := (nI i)) rfl rfl ?_
      refine zp_bipush (v := (nI 40)) rfl (by decide +kernel) ?_
      refine zp_icmpN_ge (tgt := 53) rfl rfl (by omega) (by omega) (fun b12 => ?_) (fun b12 => ?_)
      · refine zp_iload (x := (nI b.2)) rfl rfl ?_
        refine zp_iconst (v := (nI 1)) rfl (by decide +kernel) ?_
        refine zp_icmpN_ne (tgt := 63) rfl rfl (by omega) (by omega) (fun b56 => ?_) (fun b56 => ?_)
        · refine zp_iconst (v := (-1)) rfl (by decide +kernel) ?_
          refine zp_iret rfl rfl ?_
          rw [he] at hq; first | (rw [if_pos b56] at hq; exact hq) | (rw [if_neg b56] at hq; exact hq)
        · refine zp_iload_n (x := (zf_o b.1)) rfl rfl ?_
          refine zp_goto (tgt := 64) rfl rfl ?_
          refine zp_iret rfl rfl ?_
          rw [he] at hq; first | (rw [if_pos b56] at hq; exact hq) | (rw [if_neg b56] at hq; exact hq)
      · omega
    | succ k ih =>
      intro i b hi hb he
      rw [show zf_fold (v_lnS W M nm) i (k + 1) b = zf_fold (v_lnS W M nm) (i + 1) k (v_lnS W M nm i b) from rfl] at he
      refine zp_iload (x := (nI i)) rfl rfl ?_
      refine zp_bipush (v := (nI 40)) rfl (by decide +kernel) ?_
      refine zp_icmpN_ge (tgt := 53) rfl rfl (by omega) (by omega) (fun b12 => ?_) (fun b12 => ?_)
      · omega
      · refine zp_aload_n (x := r) rfl rfl ?_
        refine zp_bipush (v := (nI 24)) rfl (by decide +kernel) ?_
        refine zp_iload (x := (nI i)) rfl rfl ?_
        refine zp_iaddN rfl ?_
        refine zq_iald hS rfl (by first | assumption | exact ⟨by decide, rfl⟩) (by omega) (by first | decide | omega) ?_
        rw [hW.2.2.1 (i) (by omega)]
        have q21 := hB2.2.2.1 (i) (by omega)
        refine zp_iload_n (x := (nI nm)) rfl rfl ?_
        refine zp_icmpN_ne (tgt := 47) rfl rfl (by omega) (by omega) (fun b23 => ?_) (fun b23 => ?_)
        · refine zp_iincN_5 rfl rfl ?_
          refine zp_goto (tgt := 8) rfl rfl ?_
          first
          | (refine ih (i + 1) b (by omega) (by omega) ?_; rw [he]; simp only [v_lnS, em, Bool.not_true, Bool.and_false, cond_false]; done)
          | (refine ih (i + 1) (some i, b.2 + 1) (by omega) (by simp only; omega) ?_; rw [he]; simp only [v_lnS, zb_eq b23, em, Bool.not_false, Bool.and_true, cond_true]; done)
          | (refine ih (i + 1) b (by omega) (by omega) ?_; rw [he]; simp only [v_lnS, zb_ne b23, Bool.false_and, cond_false]; done)
        · refine zp_aload_n (x := 171) rfl rfl ?_
          refine zp_aload_n (x := 171) rfl rfl ?_
          refine zq_getr (k9 := 184) hS rfl (by first | assumption | exact ⟨by decide, rfl⟩) rfl ?_
          refine zp_bipush (v := (nI 40)) rfl (by decide +kernel) ?_
          refine zp_iload (x := (nI i)) rfl rfl ?_
          refine zq_virt hS rfl rfl (by first | assumption | exact ⟨by decide, rfl⟩) rfl (s_Mod_isMatched hS ⟨by decide, rfl⟩ (by decide) (by omega) hM hl ?_)
          cases em : v_isM M 40 i with
          | false =>
            show zp_wp X y_Mod_lonely 38 [.ref 171, .ref r, .int (nI nm), .int (zf_o b.1), .int (nI b.2), .int (nI i)] [.int (nI 0)] h Q
            refine zp_ifF (tgt := 47) rfl rfl (by decide +kernel) ?_
            refine zp_iload (x := (nI i)) rfl rfl ?_
            refine zp_istore_n_3 rfl rfl ?_
            refine zp_iincN_4 rfl rfl ?_
            refine zp_iincN_5 rfl rfl ?_
            refine zp_goto (tgt := 8) rfl rfl ?_
            first
            | (refine ih (i + 1) b (by omega) (by omega) ?_; rw [he]; simp only [v_lnS, em, Bool.not_true, Bool.and_false, cond_false]; done)
            | (refine ih (i + 1) (some i, b.2 + 1) (by omega) (by simp only; omega) ?_; rw [he]; simp only [v_lnS, zb_eq b23, em, Bool.not_false, Bool.and_true, cond_true]; done)
            | (refine ih (i + 1) b (by omega) (by omega) ?_; rw [he]; simp only [v_lnS, zb_ne b23, Bool.false_and, cond_false]; done)
          | true =>
            show zp_wp X y_Mod_lonely 38 [.ref 171, .ref r, .int (nI nm), .int (zf_o b.1), .int (nI b.2), .int (nI i)] [.int (nI 1)] h Q
            refine zp_ifT (tgt := 47) rfl rfl (by decide +kernel) ?_
            refine zp_iincN_5 rfl rfl ?_
            refine zp_goto (tgt := 8) rfl rfl ?_
            first
            | (refine ih (i + 1) b (by omega) (by omega) ?_; rw [he]; simp only [v_lnS, em, Bool.not_true, Bool.and_false, cond_false]; done)
            | (refine ih (i + 1) (some i, b.2 + 1) (by omega) (by simp only; omega) ?_; rw [he]; simp only [v_lnS, zb_eq b23, em, Bool.not_false, Bool.and_true, cond_true]; done)
            | (refine ih (i + 1) b (by omega) (by omega) ?_; rw [he]; simp only [v_lnS, zb_ne b23, Bool.false_and, cond_false]; done)
  refine zp_iconst (v := (-1)) rfl (by decide +kernel) ?_
  refine zp_istore_n_3 rfl rfl ?_
  refine zp_iconst (v := (nI 0)) rfl (by decide +kernel) ?_
  refine zp_istore_4 rfl rfl ?_
  refine zp_iconst (v := (nI 0)) rfl (by decide +kernel) ?_
  refine zp_istore_5 rfl rfl ?_
  exact lp 40 0 (none, 0) rfl (by decide) rfl
/-! the matches of two versions -/
def v_mC0 (V W : zv) (c : Nat) : Option Nat := v_cls W (v_cn V c)
def v_mCs (V W : zv) (c : Nat) (C : Nat → Option Nat) : Nat → Option Nat := if C c = none then va_up C c (v_like V W C c) else C
def v_mC1 (V W : zv) (i : Nat) (C : Nat → Option Nat) : Nat → Option Nat := match v_ord V i with
  | none => C
  | some c => v_mCs V W c C
def v_mC (V W : zv) : Nat → Option Nat := zf_fold (v_mC1 V W) 0 12 (v_mC0 V W)
def v_mM0 (V W : zv) (C : Nat → Option Nat) (m : Nat) : Option Nat := if v_mn V m = 0 then none else v_mem W (C (v_ow V m)) (v_mn V m)
def v_mMs (V W : zv) (c : Option Nat) (nm : Nat) (M : Nat → Option Nat) : Nat → Option Nat := match v_mem V c nm with
  | none => M
  | some m => if M m = none then va_up M m (v_lone W M nm) else M
def v_mM1 (V W : zv) (i : Nat) (M : Nat → Option Nat) : Nat → Option Nat := zf_fold (v_mMs V W (v_ord V i)) 97 26 M
def v_mM (V W : zv) : Nat → Option Nat := zf_fold (v_mM1 V W) 0 12 (v_mM0 V W (v_mC V W))
theorem zr_M.up {n i : Nat} {A : Nat → Int32} {x : Option Nat} (hC : zr_M C n A) : zr_M (va_up C i x) n (upd A i (zf_o x)) := by
  intro j hj
  by_cases e : j = i
  · subst e; rw [pk_us]; simp [va_up]
  · rw [pk_un e]; simp only [va_up, if_neg e]; exact hC j hj
theorem zo_lt.up {n k i : Nat} {x : Option Nat} (hC : zo_lt C n k) (hx : ∀ j, x = some j → j < k) : zo_lt (va_up C i x) n k := by
  intro a ha j hj
  by_cases e : a = i
  · subst e; simp only [va_up, if_true] at hj; exact hx j hj
  · simp only [va_up, if_neg e] at hj; exact hC a ha j hj
theorem zf_fold_ind {α : Type} {f : Nat → α → α} {P : α → Prop} (hf : ∀ i a, P a → P (f i a)) : ∀ (k i : Nat) (a : α), P a → P (zf_fold f i k a)
  | 0, _, _, h => h
  | k + 1, i, a, h => zf_fold_ind hf k (i + 1) (f i a) (hf i a h)
theorem v_like_12 {c : Nat} : ∀ j, v_like V W C c = some j → j < 12 := by
  intro j hj
  unfold v_like at hj
  split at hj
  · have := zf_fold_ind (f := v_lkS W C (v_msk V (fun o => o == c))) (P := fun b => ∀ j, b.1 = some j → j < 12) (fun i b hb => by
      unfold v_lkS
      split
      · exact hb
      · rename_i q hq
        unfold v_lk1
        split
        · intro j hj; cases hj; exact v_ord_12 _ hq
        · exact hb) 12 0 (none, 0) (fun j hj => by cases hj)
    exact this j hj
  · cases hj
theorem v_lone_40 {nm : Nat} : ∀ j, v_lone W M nm = some j → j < 40 := by
  intro j hj
  unfold v_lone at hj
  split at hj
  · have : ∀ (k i : Nat) (b : Option Nat × Nat), i + k = 40 → (∀ j, b.1 = some j → j < 40) → ∀ j, (zf_fold (v_lnS W M nm) i k b).1 = some j → j < 40 := by
      intro k
      induction k with
      | zero => intro i b _ hb; exact hb
      | succ k ih =>
        intro i b hi hb
        refine ih (i + 1) _ (by omega) ?_
        unfold v_lnS
        cases (v_mn W i == nm && !v_isM M 40 i)
        · exact hb
        · intro j hj; cases hj; omega
    exact this 40 0 (none, 0) rfl (fun j hj => by cases hj) j hj
  · cases hj
theorem s_Mod_matches (hS : zs_H h) (hr : zs_I r 1704) (hV : zv_R V (ci h 174)) (hB : zv_B V) (hW : zv_R W (ci h r)) (hB2 : zv_B W) (hq : ∀ h', zr_G [183, 184] h h' → zr_M (v_mC V W) 12 (ci h' 183) → zr_M (v_mM V W) 40 (ci h' 184) → zo_lt (v_mC V W) 12 12 → zo_lt (v_mM V W) 40 40 → Q (.inl none) h') : zp_wm X y_Mod_matches [.ref 171, .ref r] h Q := by
  show zp_wp X y_Mod_matches 0 [.ref 171, .ref r, zm_mk, zm_mk, zm_mk] [] h Q
  have r171 := zs_I_ne hr zs_M
  have r183 : r ≠ 183 := fun e => by subst e; exact absurd (zs_I_n hr ⟨by decide, rfl⟩ : 1704 = 12) (by decide)
  have r184 : r ≠ 184 := fun e => by subst e; exact absurd (zs_I_n hr ⟨by decide, rfl⟩ : 1704 = 40) (by decide)
  have rT : r ∉ [183, 184] := by simp [r183, r184]
  -- members that are alone
  have l4 : ∀ k i h' M x y, i + k = 12 → zr_G [183, 184] h h' → zr_M (v_mC V W) 12 (ci h' 183) → zo_lt (v_mC V W) 12 12 → zr_M M 40 (ci h' 184) → zo_lt M 40 40 → v_mM V W = zf_fold (v_mM1 V W) i k M → zp_wp X y_Mod_matches 153 [.ref 171, .ref r, .int (nI i), x, y] [] h' Q := by
    intro k
    induction k with
    | zero =>
      intro i h' M x y hi hG hC hCl hM hMl he
      have he : v_mM V W = M := he
      refine zp_iload_n (x := (nI i)) rfl rfl ?_
      refine zp_bipush (v := (nI 12)) rfl (by decide +kernel) ?_
      refine zp_icmpN_ge (tgt := 226) rfl rfl (by omega) (by omega) (fun b156 => ?_) (fun b156 => ?_)
      · refine zp_vret rfl rfl ?_
        rw [he] at hq; exact hq h' hG hC hM hCl hMl
      · omega
    | succ k ih =>
      intro i h' M x y hi hG hC hCl hM hMl he
      rw [show zf_fold (v_mM1 V W) i (k + 1) M = zf_fold (v_mM1 V W) (i + 1) k (v_mM1 V W i M) from rfl] at he
      have inn : ∀ k2 nm h' M2 y, nm + k2 = 123 → zr_G [183, 184] h h' → zr_M (v_mC V W) 12 (ci h' 183) → zr_M M2 40 (ci h' 184) → zo_lt M2 40 40 → v_mM1 V W i M = zf_fold (v_mMs V W (v_ord V i)) nm k2 M2 → zp_wp X y_Mod_matches 162 [.ref 171, .ref r, .int (nI i), .int (nI nm), y] [] h' Q := by
        intro k2
        induction k2 with
        | zero =>
          intro nm h' M2 y hn hG hC hM hMl he2
          have he2 : v_mM1 V W i M = M2 := he2
          refine zp_iload_n (x := (nI nm)) rfl rfl ?_
          refine zp_bipush (v := (nI 122)) rfl (by decide +kernel) ?_
          refine zp_icmpN_gt (tgt := 220) rfl rfl (by omega) (by omega) (fun b165 => ?_) (fun b165 => ?_)
          · refine zp_iincN_2 rfl rfl ?_
            refine zp_goto (tgt := 153) rfl rfl ?_
            exact ih (i + 1) h' M2 _ _ (by omega) hG hC hCl hM hMl (by rw [he, he2])
          · omega
        | succ k2 ih2 =>
          intro nm h' M2 y hn hG hC hM hMl he2
          rw [show zf_fold (v_mMs V W (v_ord V i)) nm (k2 + 1) M2 = zf_fold (v_mMs V W (v_ord V i)) (nm + 1) k2 (v_mMs V W (v_ord V i) nm M2) from rfl] at he2
          have hS := hG.1.1
          have hV' : zv_R V (ci h' 174) := by rw [hG.gi (by decide) (by decide)]; exact hV
          have hW' : zv_R W (ci h' r) := by rw [hG.gi rT r171]; exact hW
          refine zp_iload_n (x := (nI nm)) rfl rfl ?_
          refine zp_bipush (v := (nI 122)) rfl (by decide +kernel) ?_
          refine zp_icmpN_gt (tgt := 220) rfl rfl (by omega) (by omega) (fun b165 => ?_) (fun b165 => ?_)
          · omega
          · refine zp_aload_n (x := 171) rfl rfl ?_
            refine zq_getr (k9 := 174) hS rfl (by first | assumption | exact ⟨by decide, rfl⟩) rfl ?_
            refine zp_aload_n (x := 171) rfl rfl ?_
            refine zq_getr (k9 := 174) hS rfl (by first | assumption | exact ⟨by decide, rfl⟩) rfl ?_
            refine zp_iload_n (x := (nI i)) rfl rfl ?_
            refine zp_call rfl rfl (s_Mod_ordered hS ⟨by decide, rfl⟩ hV' hB (by omega) ?_)
            show zp_wp X y_Mod_matches 180 [.ref 171, .ref r, .int (nI i), .int (nI nm), y] [.int (zf_o (v_ord V i)), .ref 174] h' Q
            refine zp_iload_n (x := (nI nm)) rfl rfl ?_
            refine zp_call rfl rfl (t_Mod_memberAt hS ⟨by decide, rfl⟩ hV' hB v_ord_12 (by omega) ?_)
            cases hz : v_mem V (v_ord V i) nm with
            | none =>
              show zp_wp X y_Mod_matches 184 [.ref 171, .ref r, .int (nI i), .int (nI nm), y] [.int (-1)] h' Q
              refine zp_istore_4 rfl rfl ?_
              refine zp_iload (x := (-1)) rfl rfl ?_
              refine zp_ifT (tgt := 214) rfl rfl (by decide +kernel) ?_
              refine zp_iincN_3 rfl rfl ?_
              refine zp_goto (tgt := 162) rfl rfl ?_
              first
              | (refine ih2 (nm + 1) h' M2 _ (by omega) hG hC hM hMl ?_; rw [he2]; simp only [v_mMs, hz]; done)
              | (refine ih2 (nm + 1) h' M2 _ (by omega) hG hC hM hMl ?_; rw [he2]; simp only [v_mMs, hz, hMm]; rw [if_neg (by simp)])
              | (refine ih2 (nm + 1) _ (va_up M2 m (v_lone W M2 nm)) _ (by omega) (hG.tr (zr_G.zi (T := [183, 184]) (by decide) (by decide) hS) (fun _ q => q)) (by rw [zi_ne (by decide)]; exact hC) (by rw [zi_at]; exact hM.up) (hMl.up v_lone_40) ?_; rw [he2]; simp only [v_mMs, hz, hMm]; rw [if_pos trivial])
            | some m =>
              have hm := (v_mem_lt hz).1
              show zp_wp X y_Mod_matches 184 [.ref 171, .ref r, .int (nI i), .int (nI nm), y] [.int (nI m)] h' Q
              refine zp_istore_4 rfl rfl ?_
              refine zp_iload (x := (nI m)) rfl rfl ?_
              refine zp_ifF (tgt := 214) rfl rfl (zc_lt (by omega)) ?_
              refine zp_aload_n (x := 171) rfl rfl ?_
              refine zq_getr (k9 := 184) hS rfl (by first | assumption | exact ⟨by decide, rfl⟩) rfl ?_
              refine zp_iload (x := (nI m)) rfl rfl ?_
              refine zq_iald hS rfl (by first | assumption | exact ⟨by decide, rfl⟩) (by omega) (by first | decide | omega) ?_
              rw [hM m (by omega)]
              cases hMm : M2 m with
              | none =>
                show zp_wp X y_Mod_matches 198 [.ref 171, .ref r, .int (nI i), .int (nI nm), .int (nI m)] [.int (-1)] h' Q
                refine zp_ifF (tgt := 214) rfl rfl (by decide +kernel) ?_
                refine zp_aload_n (x := 171) rfl rfl ?_
                refine zq_getr (k9 := 184) hS rfl (by first | assumption | exact ⟨by decide, rfl⟩) rfl ?_
                refine zp_iload (x := (nI m)) rfl rfl ?_
                refine zp_aload_n (x := 171) rfl rfl ?_
                refine zp_aload_n (x := r) rfl rfl ?_
                refine zp_iload_n (x := (nI nm)) rfl rfl ?_
                refine zq_virt hS rfl rfl (by first | assumption | exact ⟨by decide, rfl⟩) rfl (s_Mod_lonely (M := M2) hS hr hW' hB2 hM hMl (by omega) ?_)
                show zp_wp X y_Mod_matches 213 [.ref 171, .ref r, .int (nI i), .int (nI nm), .int (nI m)] [.int (zf_o (v_lone W M2 nm)), .int (nI m), .ref 184] h' Q
                refine zq_iast hS rfl (by first | assumption | exact ⟨by decide, rfl⟩) (by omega) (by decide) (fun hS213 => ?_)
                have hS := hS213
                refine zp_iincN_3 rfl rfl ?_
                refine zp_goto (tgt := 162) rfl rfl ?_
                first
                | (refine ih2 (nm + 1) h' M2 _ (by omega) hG hC hM hMl ?_; rw [he2]; simp only [v_mMs, hz]; done)
                | (refine ih2 (nm + 1) h' M2 _ (by omega) hG hC hM hMl ?_; rw [he2]; simp only [v_mMs, hz, hMm]; rw [if_neg (by simp)])
                | (refine ih2 (nm + 1) _ (va_up M2 m (v_lone W M2 nm)) _ (by omega) (hG.tr (zr_G.zi (T := [183, 184]) (by decide) (by decide) hS) (fun _ q => q)) (by rw [zi_ne (by decide)]; exact hC) (by rw [zi_at]; exact hM.up) (hMl.up v_lone_40) ?_; rw [he2]; simp only [v_mMs, hz, hMm]; rw [if_pos trivial])
              | some o =>
                have ho := hMl m hm o hMm
                show zp_wp X y_Mod_matches 198 [.ref 171, .ref r, .int (nI i), .int (nI nm), .int (nI m)] [.int (nI o)] h' Q
                refine zp_ifT (tgt := 214) rfl rfl (zc_ge (by omega)) ?_
                refine zp_iincN_3 rfl rfl ?_
                refine zp_goto (tgt := 162) rfl rfl ?_
                first
                | (refine ih2 (nm + 1) h' M2 _ (by omega) hG hC hM hMl ?_; rw [he2]; simp only [v_mMs, hz]; done)
                | (refine ih2 (nm + 1) h' M2 _ (by omega) hG hC hM hMl ?_; rw [he2]; simp only [v_mMs, hz, hMm]; rw [if_neg (by simp)])
                | (refine ih2 (nm + 1) _ (va_up M2 m (v_lone W M2 nm)) _ (by omega) (hG.tr (zr_G.zi (T := [183, 184]) (by decide) (by decide) hS) (fun _ q => q)) (by rw [zi_ne (by decide)]; exact hC) (by rw [zi_at]; exact hM.up) (hMl.up v_lone_40) ?_; rw [he2]; simp only [v_mMs, hz, hMm]; rw [if_pos trivial])
      refine zp_iload_n (x := (nI i)) rfl rfl ?_
      refine zp_bipush (v := (nI 12)) rfl (by decide +kernel) ?_
      refine zp_icmpN_ge (tgt := 226) rfl rfl (by omega) (by omega) (fun b156 => ?_) (fun b156 => ?_)
      · omega
      · refine zp_bipush (v := (nI 97)) rfl (by decide +kernel) ?_
        refine zp_istore_n_3 rfl rfl ?_
        exact inn 26 97 h' M _ rfl hG hC hM hMl rfl
  -- members by their classes
  have l3 : ∀ k i h' x y, i + k = 40 → zr_G [183, 184] h h' → zr_M (v_mC V W) 12 (ci h' 183) → zo_lt (v_mC V W) 12 12 → zr_M (v_mM0 V W (v_mC V W)) i (ci h' 184) → zp_wp X y_Mod_matches 80 [.ref 171, .ref r, .int (nI i), x, y] [] h' Q := by
    intro k
    induction k with
    | zero =>
      intro i h' x y hi hG hC hCl hM
      have hi : i = 40 := by omega
      subst hi
      refine zp_iload_n (x := (nI 40)) rfl rfl ?_
      refine zp_bipush (v := (nI 40)) rfl (by decide +kernel) ?_
      refine zp_icT (tgt := 151) rfl rfl (by decide +kernel) ?_
      refine zp_iconst (v := (nI 0)) rfl (by decide +kernel) ?_
      refine zp_istore_n_2 rfl rfl ?_
      refine l4 12 0 h' _ _ _ rfl hG hC hCl hM (fun m hm j hj => ?_) rfl
      unfold v_mM0 at hj
      split at hj
      · cases hj
      · exact (v_mem_lt hj).1
    | succ k ih =>
      intro i h' x y hi hG hC hCl hM
      have hS := hG.1.1
      have hV' : zv_R V (ci h' 174) := by rw [hG.gi (by decide) (by decide)]; exact hV
      have hW' : zv_R W (ci h' r) := by rw [hG.gi rT r171]; exact hW
      have st : ∀ z, z = v_mM0 V W (v_mC V W) i → zr_M (v_mM0 V W (v_mC V W)) (i + 1) (upd (ci h' 184) i (zf_o z)) := by
        intro z hz j hj
        by_cases e : j = i
        · subst e; rw [pk_us, hz]
        · rw [pk_un e]; exact hM j (by omega)
      refine zp_iload_n (x := (nI i)) rfl rfl ?_
      refine zp_bipush (v := (nI 40)) rfl (by decide +kernel) ?_
      refine zp_icmpN_ge (tgt := 151) rfl rfl (by omega) (by omega) (fun b83 => ?_) (fun b83 => ?_)
      · omega
      · refine zp_aload_n (x := 171) rfl rfl ?_
        refine zq_getr (k9 := 174) hS rfl (by first | assumption | exact ⟨by decide, rfl⟩) rfl ?_
        refine zp_bipush (v := (nI 24)) rfl (by decide +kernel) ?_
        refine zp_iload_n (x := (nI i)) rfl rfl ?_
        refine zp_iaddN rfl ?_
        refine zq_iald hS rfl (by first | assumption | exact ⟨by decide, rfl⟩) (by omega) (by first | decide | omega) ?_
        rw [hV'.2.2.1 (i) (by omega)]
        have q94 := hB.2.2.1 (i) (by omega)
        refine zp_ifN_eq (tgt := 102) rfl rfl (by omega) (fun b95 => ?_) (fun b95 => ?_)
        · refine zp_iconst (v := (nI 0)) rfl (by decide +kernel) ?_
          refine zp_istore_n_3 rfl rfl ?_
          refine zp_aload_n (x := 171) rfl rfl ?_
          refine zq_getr (k9 := 184) hS rfl (by first | assumption | exact ⟨by decide, rfl⟩) rfl ?_
          refine zp_iload_n (x := (nI i)) rfl rfl ?_
          refine zp_iload_n (x := (nI 0)) rfl rfl ?_
          refine zp_ifT (tgt := 143) rfl rfl (by decide +kernel) ?_
          refine zp_iconst (v := (-1)) rfl (by decide +kernel) ?_
          refine zq_iast hS rfl (by first | assumption | exact ⟨by decide, rfl⟩) (by omega) (by decide) (fun hS144 => ?_)
          have hS := hS144
          refine zp_iincN_2 rfl rfl ?_
          refine zp_goto (tgt := 80) rfl rfl ?_
          refine ih (i + 1) _ _ _ (by omega) (hG.tr (zr_G.zi (T := [183, 184]) (by decide) (by decide) hS) (fun _ q => q)) (by rw [zi_ne (by decide)]; exact hC) hCl ?_
          rw [zi_at]
          first
          | (refine st none ?_; unfold v_mM0; rw [if_pos b95])
          | (refine st _ ?_; unfold v_mM0; rw [if_neg b95])
        · refine zp_iconst (v := (nI 1)) rfl (by decide +kernel) ?_
          refine zp_goto (tgt := 103) rfl rfl ?_
          refine zp_istore_n_3 rfl rfl ?_
          refine zp_aload_n (x := 171) rfl rfl ?_
          refine zq_getr (k9 := 184) hS rfl (by first | assumption | exact ⟨by decide, rfl⟩) rfl ?_
          refine zp_iload_n (x := (nI i)) rfl rfl ?_
          refine zp_iload_n (x := (nI 1)) rfl rfl ?_
          refine zp_ifF (tgt := 143) rfl rfl (by decide +kernel) ?_
          refine zp_aload_n (x := r) rfl rfl ?_
          refine zp_aload_n (x := 171) rfl rfl ?_
          refine zq_getr (k9 := 183) hS rfl (by first | assumption | exact ⟨by decide, rfl⟩) rfl ?_
          refine zp_aload_n (x := 171) rfl rfl ?_
          refine zq_getr (k9 := 174) hS rfl (by first | assumption | exact ⟨by decide, rfl⟩) rfl ?_
          refine zp_bipush (v := (nI 64)) rfl (by decide +kernel) ?_
          refine zp_iload_n (x := (nI i)) rfl rfl ?_
          refine zp_iaddN rfl ?_
          refine zq_iald hS rfl (by first | assumption | exact ⟨by decide, rfl⟩) (by omega) (by first | decide | omega) ?_
          rw [hV'.2.2.2.1 (i) (by omega)]
          have q126 := hB.2.2.2 (i) (by omega)
          refine zq_iald hS rfl (by first | assumption | exact ⟨by decide, rfl⟩) (by omega) (by first | decide | omega) ?_
          rw [hC (v_ow V (i)) (by omega)]
          refine zp_aload_n (x := 171) rfl rfl ?_
          refine zq_getr (k9 := 174) hS rfl (by first | assumption | exact ⟨by decide, rfl⟩) rfl ?_
          refine zp_bipush (v := (nI 24)) rfl (by decide +kernel) ?_
          refine zp_iload_n (x := (nI i)) rfl rfl ?_
          refine zp_iaddN rfl ?_
          refine zq_iald hS rfl (by first | assumption | exact ⟨by decide, rfl⟩) (by omega) (by first | decide | omega) ?_
          rw [hV'.2.2.1 (i) (by omega)]
          have q136 := hB.2.2.1 (i) (by omega)
          refine zp_call rfl rfl (t_Mod_memberAt hS hr hW' hB2 (fun j hj => hCl _ (by omega) j hj) (by omega) ?_)
          show zp_wp X y_Mod_matches 140 [.ref 171, .ref r, .int (nI i), .int (nI 1), y] [.int (zf_o (v_mem W (v_mC V W (v_ow V i)) (v_mn V i))), .int (nI i), .ref 184] h' Q
          refine zp_goto (tgt := 144) rfl rfl ?_
          refine zq_iast hS rfl (by first | assumption | exact ⟨by decide, rfl⟩) (by omega) (by decide) (fun hS144 => ?_)
          have hS := hS144
          refine zp_iincN_2 rfl rfl ?_
          refine zp_goto (tgt := 80) rfl rfl ?_
          refine ih (i + 1) _ _ _ (by omega) (hG.tr (zr_G.zi (T := [183, 184]) (by decide) (by decide) hS) (fun _ q => q)) (by rw [zi_ne (by decide)]; exact hC) hCl ?_
          rw [zi_at]
          first
          | (refine st none ?_; unfold v_mM0; rw [if_pos b95])
          | (refine st _ ?_; unfold v_mM0; rw [if_neg b95])
  -- classes by their members
  have l2 : ∀ k i h' C x y, i + k = 12 → zr_G [183, 184] h h' → zr_M C 12 (ci h' 183) → zo_lt C 12 12 → v_mC V W = zf_fold (v_mC1 V W) i k C → zp_wp X y_Mod_matches 32 [.ref 171, .ref r, .int (nI i), x, y] [] h' Q := by
    intro k
    induction k with
    | zero =>
      intro i h' C x y hi hG hC hCl he
      have he : v_mC V W = C := he
      subst he
      refine zp_iload_n (x := (nI i)) rfl rfl ?_
      refine zp_bipush (v := (nI 12)) rfl (by decide +kernel) ?_
      refine zp_icmpN_ge (tgt := 78) rfl rfl (by omega) (by omega) (fun b35 => ?_) (fun b35 => ?_)
      · refine zp_iconst (v := (nI 0)) rfl (by decide +kernel) ?_
        refine zp_istore_n_2 rfl rfl ?_
        exact l3 40 0 h' _ _ rfl hG hC hCl (fun j hj => absurd hj (by omega))
      · omega
    | succ k ih =>
      intro i h' C x y hi hG hC hCl he
      rw [show zf_fold (v_mC1 V W) i (k + 1) C = zf_fold (v_mC1 V W) (i + 1) k (v_mC1 V W i C) from rfl] at he
      have hS := hG.1.1
      have hV' : zv_R V (ci h' 174) := by rw [hG.gi (by decide) (by decide)]; exact hV
      have hW' : zv_R W (ci h' r) := by rw [hG.gi rT r171]; exact hW
      refine zp_iload_n (x := (nI i)) rfl rfl ?_
      refine zp_bipush (v := (nI 12)) rfl (by decide +kernel) ?_
      refine zp_icmpN_ge (tgt := 78) rfl rfl (by omega) (by omega) (fun b35 => ?_) (fun b35 => ?_)
      · omega
      · refine zp_aload_n (x := 171) rfl rfl ?_
        refine zq_getr (k9 := 174) hS rfl (by first | assumption | exact ⟨by decide, rfl⟩) rfl ?_
        refine zp_iload_n (x := (nI i)) rfl rfl ?_
        refine zp_call rfl rfl (s_Mod_ordered hS ⟨by decide, rfl⟩ hV' hB (by omega) ?_)
        cases hz : v_ord V i with
        | none =>
          show zp_wp X y_Mod_matches 46 [.ref 171, .ref r, .int (nI i), x, y] [.int (-1)] h' Q
          refine zp_istore_n_3 rfl rfl ?_
          refine zp_iload_n (x := (-1)) rfl rfl ?_
          refine zp_ifT (tgt := 72) rfl rfl (by decide +kernel) ?_
          refine zp_iincN_2 rfl rfl ?_
          refine zp_goto (tgt := 32) rfl rfl ?_
          first
          | (refine ih (i + 1) h' C _ _ (by omega) hG hC hCl ?_; rw [he]; simp only [v_mC1, hz]; done)
          | (refine ih (i + 1) h' C _ _ (by omega) hG hC hCl ?_; rw [he]; simp only [v_mC1, hz, v_mCs, hCc]; rw [if_neg (by simp)])
          | (refine ih (i + 1) _ (va_up C c (v_like V W C c)) _ _ (by omega) (hG.tr (zr_G.zi (T := [183, 184]) (by decide) (by decide) hS) (fun _ q => q)) (by rw [zi_at]; exact hC.up) (hCl.up v_like_12) ?_; rw [he]; simp only [v_mC1, hz, v_mCs, hCc]; rw [if_pos trivial])
        | some c =>
          have hc := v_ord_12 c hz
          show zp_wp X y_Mod_matches 46 [.ref 171, .ref r, .int (nI i), x, y] [.int (nI c)] h' Q
          refine zp_istore_n_3 rfl rfl ?_
          refine zp_iload_n (x := (nI c)) rfl rfl ?_
          refine zp_ifF (tgt := 72) rfl rfl (zc_lt (by omega)) ?_
          refine zp_aload_n (x := 171) rfl rfl ?_
          refine zq_getr (k9 := 183) hS rfl (by first | assumption | exact ⟨by decide, rfl⟩) rfl ?_
          refine zp_iload_n (x := (nI c)) rfl rfl ?_
          refine zq_iald hS rfl (by first | assumption | exact ⟨by decide, rfl⟩) (by omega) (by first | decide | omega) ?_
          rw [hC (c) (by omega)]
          cases hCc : C c with
          | none =>
            show zp_wp X y_Mod_matches 57 [.ref 171, .ref r, .int (nI i), .int (nI c), y] [.int (-1)] h' Q
            refine zp_ifF (tgt := 72) rfl rfl (by decide +kernel) ?_
            refine zp_aload_n (x := 171) rfl rfl ?_
            refine zq_getr (k9 := 183) hS rfl (by first | assumption | exact ⟨by decide, rfl⟩) rfl ?_
            refine zp_iload_n (x := (nI c)) rfl rfl ?_
            refine zp_aload_n (x := 171) rfl rfl ?_
            refine zp_iload_n (x := (nI c)) rfl rfl ?_
            refine zp_aload_n (x := r) rfl rfl ?_
            refine zq_virt hS rfl rfl (by first | assumption | exact ⟨by decide, rfl⟩) rfl (s_Mod_likest (V := V) (W := W) (C := C) hS hr hV' hB hW' hB2 hC (fun i hi j hj => Nat.lt_trans (hCl i hi j hj) (by decide)) hc ?_)
            show zp_wp X y_Mod_matches 71 [.ref 171, .ref r, .int (nI i), .int (nI c), y] [.int (zf_o (v_like V W C c)), .int (nI c), .ref 183] h' Q
            refine zq_iast hS rfl (by first | assumption | exact ⟨by decide, rfl⟩) (by omega) (by decide) (fun hS71 => ?_)
            have hS := hS71
            refine zp_iincN_2 rfl rfl ?_
            refine zp_goto (tgt := 32) rfl rfl ?_
            first
            | (refine ih (i + 1) h' C _ _ (by omega) hG hC hCl ?_; rw [he]; simp only [v_mC1, hz]; done)
            | (refine ih (i + 1) h' C _ _ (by omega) hG hC hCl ?_; rw [he]; simp only [v_mC1, hz, v_mCs, hCc]; rw [if_neg (by simp)])
            | (refine ih (i + 1) _ (va_up C c (v_like V W C c)) _ _ (by omega) (hG.tr (zr_G.zi (T := [183, 184]) (by decide) (by decide) hS) (fun _ q => q)) (by rw [zi_at]; exact hC.up) (hCl.up v_like_12) ?_; rw [he]; simp only [v_mC1, hz, v_mCs, hCc]; rw [if_pos trivial])
          | some o =>
            have ho := hCl c hc o hCc
            show zp_wp X y_Mod_matches 57 [.ref 171, .ref r, .int (nI i), .int (nI c), y] [.int (nI o)] h' Q
            refine zp_ifT (tgt := 72) rfl rfl (zc_ge (by omega)) ?_
            refine zp_iincN_2 rfl rfl ?_
            refine zp_goto (tgt := 32) rfl rfl ?_
            first
            | (refine ih (i + 1) h' C _ _ (by omega) hG hC hCl ?_; rw [he]; simp only [v_mC1, hz]; done)
            | (refine ih (i + 1) h' C _ _ (by omega) hG hC hCl ?_; rw [he]; simp only [v_mC1, hz, v_mCs, hCc]; rw [if_neg (by simp)])
            | (refine ih (i + 1) _ (va_up C c (v_like V W C c)) _ _ (by omega) (hG.tr (zr_G.zi (T := [183, 184]) (by decide) (by decide) hS) (fun _ q => q)) (by rw [zi_at]; exact hC.up) (hCl.up v_like_12) ?_; rw [he]; simp only [v_mC1, hz, v_mCs, hCc]; rw [if_pos trivial])
  -- classes by their names
  have l1 : ∀ k i h', i + k = 12 → zr_G [183, 184] h h' → zr_M (v_mC0 V W) i (ci h' 183) → zp_wp X y_Mod_matches 2 [.ref 171, .ref r, .int (nI i), zm_mk, zm_mk] [] h' Q := by
    intro k
    induction k with
    | zero =>
      intro i h' hi hG hC
      have hi : i = 12 := by omega
      subst hi
      refine zp_iload_n (x := (nI 12)) rfl rfl ?_
      refine zp_bipush (v := (nI 12)) rfl (by decide +kernel) ?_
      refine zp_icT (tgt := 30) rfl rfl (by decide +kernel) ?_
      refine zp_iconst (v := (nI 0)) rfl (by decide +kernel) ?_
      refine zp_istore_n_2 rfl rfl ?_
      exact l2 12 0 h' _ _ _ rfl hG hC (fun c _ j hj => v_cls_12 j hj) rfl
    | succ k ih =>
      intro i h' hi hG hC
      have hS := hG.1.1
      have hV' : zv_R V (ci h' 174) := by rw [hG.gi (by decide) (by decide)]; exact hV
      have hW' : zv_R W (ci h' r) := by rw [hG.gi rT r171]; exact hW
      refine zp_iload_n (x := (nI i)) rfl rfl ?_
      refine zp_bipush (v := (nI 12)) rfl (by decide +kernel) ?_
      refine zp_icmpN_ge (tgt := 30) rfl rfl (by omega) (by omega) (fun b5 => ?_) (fun b5 => ?_)
      · omega
      · refine zp_aload_n (x := 171) rfl rfl ?_
        refine zq_getr (k9 := 183) hS rfl (by first | assumption | exact ⟨by decide, rfl⟩) rfl ?_
        refine zp_iload_n (x := (nI i)) rfl rfl ?_
        refine zp_aload_n (x := r) rfl rfl ?_
        refine zp_aload_n (x := 171) rfl rfl ?_
        refine zq_getr (k9 := 174) hS rfl (by first | assumption | exact ⟨by decide, rfl⟩) rfl ?_
        refine zp_iload_n (x := (nI i)) rfl rfl ?_
        refine zq_iald hS rfl (by first | assumption | exact ⟨by decide, rfl⟩) (by omega) (by first | decide | omega) ?_
        rw [hV'.1 (i) (by omega)]
        have q19 := hB.1 (i) (by omega)
        refine zp_call rfl rfl (t_Mod_classAt hS hr hW' hB2 (by omega) ?_)
        show zp_wp X y_Mod_matches 23 [.ref 171, .ref r, .int (nI i), zm_mk, zm_mk] [.int (zf_o (v_mC0 V W i)), .int (nI i), .ref 183] h' Q
        refine zq_iast hS rfl (by first | assumption | exact ⟨by decide, rfl⟩) (by omega) (by decide) (fun hS23 => ?_)
        have hS := hS23
        refine zp_iincN_2 rfl rfl ?_
        refine zp_goto (tgt := 2) rfl rfl ?_
        refine ih (i + 1) _ (by omega) (hG.tr (zr_G.zi (T := [183, 184]) (by decide) (by decide) hS) (fun _ q => q)) ?_
        rw [zi_at]
        intro j hj
        by_cases e : j = i
        · subst e; rw [pk_us]
        · rw [pk_un e]; exact hC j (by omega)
  refine zp_iconst (v := (nI 0)) rfl (by decide +kernel) ?_
  refine zp_istore_n_2 rfl rfl ?_
  exact l1 12 0 h rfl (zr_G.rf hS) (fun j hj => absurd hj (by omega))
end ZR12
