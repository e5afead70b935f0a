/-! versions that are well formed, and that changes keep them so -/
theorem w_0 (V : zv) (c x k : Nat) : v_cn (v_set1 V c x) k = if k = c then x else v_cn V k := by simp [v_cn, v_set1, va_up]
theorem w_1 (V : zv) (c x k : Nat) : v_sp (v_set1 V c x) k = v_sp V k := rfl
theorem w_2 (V : zv) (c x k : Nat) : v_mn (v_set1 V c x) k = v_mn V k := rfl
theorem w_3 (V : zv) (c x k : Nat) : v_ow (v_set1 V c x) k = v_ow V k := rfl
theorem w_u0 (V : zv) (c x k j : Nat) : v_us (v_set1 V c x) k j = v_us V k j := rfl
theorem w_10 (V : zv) (c x k : Nat) : v_cn (v_set2 V c x) k = v_cn V k := rfl
theorem w_11 (V : zv) (c x k : Nat) : v_sp (v_set2 V c x) k = if k = c then x else v_sp V k := by simp [v_sp, v_set2, va_up]
theorem w_12 (V : zv) (c x k : Nat) : v_mn (v_set2 V c x) k = v_mn V k := rfl
theorem w_13 (V : zv) (c x k : Nat) : v_ow (v_set2 V c x) k = v_ow V k := rfl
theorem w_u1 (V : zv) (c x k j : Nat) : v_us (v_set2 V c x) k j = v_us V k j := rfl
theorem w_20 (V : zv) (c x k : Nat) : v_cn (v_set3 V c x) k = v_cn V k := rfl
theorem w_21 (V : zv) (c x k : Nat) : v_sp (v_set3 V c x) k = v_sp V k := rfl
theorem w_22 (V : zv) (c x k : Nat) : v_mn (v_set3 V c x) k = if k = c then x else v_mn V k := by simp [v_mn, v_set3, va_up]
theorem w_23 (V : zv) (c x k : Nat) : v_ow (v_set3 V c x) k = v_ow V k := rfl
theorem w_u2 (V : zv) (c x k j : Nat) : v_us (v_set3 V c x) k j = v_us V k j := rfl
theorem w_30 (V : zv) (c x k : Nat) : v_cn (v_set4 V c x) k = v_cn V k := rfl
theorem w_31 (V : zv) (c x k : Nat) : v_sp (v_set4 V c x) k = v_sp V k := rfl
theorem w_32 (V : zv) (c x k : Nat) : v_mn (v_set4 V c x) k = v_mn V k := rfl
theorem w_33 (V : zv) (c x k : Nat) : v_ow (v_set4 V c x) k = if k = c then x else v_ow V k := by simp [v_ow, v_set4, va_up]
theorem w_u3 (V : zv) (c x k j : Nat) : v_us (v_set4 V c x) k j = v_us V k j := rfl
theorem w_40 (V : zv) (m n k : Nat) (b : Bool) : v_cn (v_set5 V m n b) k = v_cn V k := rfl
theorem w_50 (V : zv) (m k : Nat) : v_cn (v_clr V m) k = v_cn V k := rfl
theorem w_41 (V : zv) (m n k : Nat) (b : Bool) : v_sp (v_set5 V m n b) k = v_sp V k := rfl
theorem w_51 (V : zv) (m k : Nat) : v_sp (v_clr V m) k = v_sp V k := rfl
theorem w_42 (V : zv) (m n k : Nat) (b : Bool) : v_mn (v_set5 V m n b) k = v_mn V k := rfl
theorem w_52 (V : zv) (m k : Nat) : v_mn (v_clr V m) k = v_mn V k := rfl
theorem w_43 (V : zv) (m n k : Nat) (b : Bool) : v_ow (v_set5 V m n b) k = v_ow V k := rfl
theorem w_53 (V : zv) (m k : Nat) : v_ow (v_clr V m) k = v_ow V k := rfl
theorem w_u4 (V : zv) (m n k j : Nat) (b : Bool) : v_us (v_set5 V m n b) k j = if k = m ∧ j = n then b else v_us V k j := by
  by_cases h1 : k = m
  · subst h1
    by_cases h2 : j = n <;> simp [v_us, v_set5, va_up, h2]
  · simp [v_us, v_set5, va_up, h1]
theorem w_u5 (V : zv) (m k j : Nat) : v_us (v_clr V m) k j = if k = m then false else v_us V k j := by
  by_cases h1 : k = m <;> simp [v_us, v_clr, va_up, h1]
def zv_W (V : zv) : Prop := (∀ c, c < 12 → v_cn V c = 0 ∨ (65 ≤ v_cn V c ∧ v_cn V c ≤ 90)) ∧ (∀ c, c < 12 → v_sp V c ≤ 12) ∧ (∀ m, m < 40 → v_mn V m = 0 ∨ (97 ≤ v_mn V m ∧ v_mn V m ≤ 122)) ∧ (∀ m, m < 40 → v_ow V m < 12) ∧ zv_U V ∧ (∀ c d, c < 12 → d < 12 → v_cn V c ≠ 0 → v_cn V c = v_cn V d → c = d) ∧ (∀ c, c < 12 → v_cn V c ≠ 0 → v_sp V c ≠ 0 → v_cn V (v_sp V c - 1) ≠ 0) ∧ (∀ m, m < 40 → v_mn V m ≠ 0 → v_cn V (v_ow V m) ≠ 0) ∧ (∀ m k, m < 40 → k < 40 → v_mn V m ≠ 0 → v_mn V m = v_mn V k → v_ow V m = v_ow V k → m = k) ∧ v_nu V ≤ 60
theorem zv_W.B {V : zv} (h : zv_W V) : zv_B V := ⟨fun c hc => by have := h.1 c hc; omega, h.2.1, fun m hm => by have := h.2.2.1 m hm; omega, h.2.2.2.1⟩
theorem zv_W.U {V : zv} (h : zv_W V) : zv_U V := h.2.2.2.2.1
/-- a change with legal names -/
def zc_leg (c : zch) : Prop := c.1 < 10 ∧ (65 ≤ c.2.1 ∧ c.2.1 ≤ 90) ∧ ((c.1 < 4 → c.2.2.1 = 0) ∧ (4 ≤ c.1 → 97 ≤ c.2.2.1 ∧ c.2.2.1 ≤ 122)) ∧ ((c.1 = 2 ∨ 7 ≤ c.1 → 65 ≤ c.2.2.2.1 ∧ c.2.2.2.1 ≤ 90) ∧ (c.1 = 3 → c.2.2.2.1 = 0 ∨ (65 ≤ c.2.2.2.1 ∧ c.2.2.2.1 ≤ 90)) ∧ (c.1 < 2 ∨ (4 ≤ c.1 ∧ c.1 ≤ 6) → c.2.2.2.1 = 0)) ∧ ((c.1 = 6 ∨ 8 ≤ c.1 → 97 ≤ c.2.2.2.2 ∧ c.2.2.2.2 ≤ 122) ∧ (c.1 < 6 ∨ c.1 = 7 → c.2.2.2.2 = 0))
theorem zc_leg.ok {c : zch} (h : zc_leg c) : zc_ok c := by
  obtain ⟨h1, h2, h3, h4, h5⟩ := h
  refine ⟨h1, ?_, ?_, ?_, ?_⟩ <;> omega
theorem zf_fst_ne {p : Nat → Bool} {k c j : Nat} (h : zf_fst p c k = none) (h1 : c ≤ j) (h2 : j < c + k) : p j = false := zf_fst_none h j h1 h2
theorem v_cls_none {V : zv} {a c : Nat} (h : v_cls V a = none) (ha : a ≠ 0) (hc : c < 12) : v_cn V c ≠ a := by
  unfold v_cls at h
  rw [if_neg ha] at h
  have := zf_fst_ne (j := c) h (by omega) (by omega)
  simpa using this
theorem zf_any_no {p : Nat → Bool} {k j : Nat} (h : ¬ zf_any p 0 k = true) (hj : j < k) : p j = false := by
  cases e : p j with
  | false => rfl
  | true => exact absurd (zf_any_iff.mpr ⟨j, by omega, by omega, e⟩) h
theorem v_und_self (V : zv) (c : Nat) : v_und V c c = true := by simp [v_und, v_up]
theorem v_kin_self (V : zv) (c : Nat) : v_kin V c c = true := by simp [v_kin, v_und_self]
/-- counting -/
theorem zf_ct_mono {p q : Nat → Bool} : ∀ {k c : Nat}, (∀ j, c ≤ j → j < c + k → p j = true → q j = true) → zf_ct p c k ≤ zf_ct q c k
  | 0, _, _ => Nat.le_refl _
  | k + 1, c, h => by
    have ih := zf_ct_mono (p := p) (q := q) (k := k) (c := c + 1) (fun j h1 h2 => h j (by omega) (by omega))
    have h0 := h c (by omega) (by omega)
    unfold zf_ct
    cases e : p c with
    | false => simp; omega
    | true => rw [h0 e]; omega
theorem zf_ct_one {p q : Nat → Bool} {i : Nat} : ∀ {k c : Nat}, (∀ j, c ≤ j → j < c + k → j ≠ i → p j = true → q j = true) → zf_ct p c k ≤ zf_ct q c k + 1
  | 0, _, _ => by simp [zf_ct]
  | k + 1, c, h => by
    by_cases hc : c = i
    · have ih := zf_ct_mono (p := p) (q := q) (k := k) (c := c + 1) (fun j h1 h2 => h j (by omega) (by omega) (by omega))
      unfold zf_ct
      cases p c <;> cases q c <;> simp <;> omega
    · have ih := zf_ct_one (p := p) (q := q) (i := i) (k := k) (c := c + 1) (fun j h1 h2 => h j (by omega) (by omega))
      have h0 := h c (by omega) (by omega) hc
      unfold zf_ct
      cases e : p c with
      | false => simp; omega
      | true => rw [h0 e]; omega
theorem v_nu_le {V W : zv} (h : ∀ a b, a < 40 → b < 40 → v_us W a b = true → v_us V a b = true) : v_nu W ≤ v_nu V := zf_ct_mono (fun j _ h2 e => h _ _ (by omega) (by omega) e)
theorem v_nu_one {V W : zv} {m n : Nat} (hn : n < 40) (h : ∀ a b, a < 40 → b < 40 → ¬ (a = m ∧ b = n) → v_us W a b = true → v_us V a b = true) : v_nu W ≤ v_nu V + 1 := zf_ct_one (i := 40 * m + n) (fun j _ h2 e1 e => h _ _ (by omega) (by omega) (by omega) e)
section ZW
variable {V : zv}
theorem zv_W.addC {a : Nat} (h : zv_W V) (ha : 65 ≤ a ∧ a ≤ 90) : zv_W (v_addC V (v_cls V a) a).2.1 := by
  obtain ⟨w1, w2, w3, w4, w5, w6, w7, w8, w9, w10⟩ := id h
  unfold v_addC
  split
  · exact h
  · rename_i hn
    split
    · exact h
    · split
      · rename_i i hi
        obtain ⟨-, i2, i3, -⟩ := zf_fst_some hi
        have i3 : v_cn V i = 0 := by simpa using i3
        have hn : v_cls V a = none := by simpa using hn
        refine ⟨fun c hc => ?_, fun c hc => ?_, w3, w4, w5, fun c d hc hd => ?_, fun c hc => ?_, fun m hm => ?_, w9, w10⟩
        · simp only [w_10, w_0]; have := w1 c hc; split <;> omega
        · simp only [w_11, w_1]; have := w2 c hc; split <;> omega
        · simp only [w_10, w_0]
          have q1 := v_cls_none hn (by omega) hc
          have q2 := v_cls_none hn (by omega) hd
          have q3 := w6 c d hc hd
          split <;> split <;> omega
        · simp only [w_10, w_0, w_11, w_1]
          have := w7 c hc
          split
          · intro _ q; exact absurd rfl q
          · intro p q
            have := this p q
            split <;> omega
        · simp only [w_10, w_0, w_12, w_2, w_13, w_3]
          intro p
          have := w8 m hm p
          split <;> omega
      · exact h
theorem zv_W.remC {c : Option Nat} (h : zv_W V) (hc : ∀ i, c = some i → i < 12) : zv_W (v_remC V c).2.1 := by
  obtain ⟨w1, w2, w3, w4, w5, w6, w7, w8, w9, w10⟩ := id h
  unfold v_remC
  split
  · exact h
  · rename_i c
    have hc := hc c rfl
    split
    · exact h
    · rename_i h1
      split
      · exact h
      · rename_i h2
        refine ⟨fun d hd => ?_, w2, w3, w4, w5, fun d e hd he => ?_, fun d hd => ?_, fun m hm => ?_, w9, w10⟩
        · simp only [w_0]; have := w1 d hd; split <;> omega
        · simp only [w_0]; have := w6 d e hd he; split <;> split <;> omega
        · simp only [w_0, w_1]
          have q := zf_any_no h2 hd
          have q2 := w7 d hd
          split
          · intro p; exact absurd rfl p
          · intro p1 p2
            have := q2 p1 p2
            simp [p1] at q
            split <;> omega
        · simp only [w_0, w_2, w_3]
          have q := zf_any_no h1 hm
          intro p1
          have := w8 m hm p1
          simp [p1] at q
          split <;> omega
theorem zv_W.renC {c : Option Nat} {b : Nat} (h : zv_W V) (hc : ∀ i, c = some i → i < 12 ∧ v_cn V i ≠ 0) (hb : 65 ≤ b ∧ b ≤ 90) : zv_W (v_renC V c b).2.1 := by
  obtain ⟨w1, w2, w3, w4, w5, w6, w7, w8, w9, w10⟩ := id h
  unfold v_renC
  split
  · exact h
  · rename_i c
    obtain ⟨hc, hl⟩ := hc c rfl
    split
    · exact h
    · rename_i hn
      have hn : v_cls V b = none := by simpa using hn
      refine ⟨fun d hd => ?_, w2, w3, w4, w5, fun d e hd he => ?_, fun d hd => ?_, fun m hm => ?_, w9, w10⟩
      · simp only [w_0]; have := w1 d hd; split <;> omega
      · simp only [w_0]
        have q1 := v_cls_none hn (by omega) hd
        have q2 := v_cls_none hn (by omega) he
        have := w6 d e hd he
        split <;> split <;> omega
      · simp only [w_0, w_1]
        have q2 := w7 d hd
        intro p1 p2
        split
        · omega
        · split at p1
          · rename_i e; subst e
            exact q2 hl p2
          · exact q2 p1 p2
      · simp only [w_0, w_2, w_3]
        intro p1
        have := w8 m hm p1
        split <;> omega
theorem zv_W.supC {c : Option Nat} {b : Nat} (h : zv_W V) (hc : ∀ i, c = some i → i < 12 ∧ v_cn V i ≠ 0) : zv_W (v_supC V c b).2.1 := by
  obtain ⟨w1, w2, w3, w4, w5, w6, w7, w8, w9, w10⟩ := id h
  unfold v_supC
  have key : ∀ c x, c < 12 → x ≤ 12 → (x ≠ 0 → v_cn V (x - 1) ≠ 0) → zv_W (v_set2 V c x) := by
    intro c x hc hx hl
    refine ⟨w1, fun d hd => ?_, w3, w4, w5, w6, fun d hd => ?_, w8, w9, w10⟩
    · simp only [w_11]; have := w2 d hd; split <;> omega
    · simp only [w_11, w_10]
      have q2 := w7 d hd
      split
      · exact fun _ => hl
      · exact q2
  split
  · exact h
  · rename_i c
    obtain ⟨hc, hl⟩ := hc c rfl
    split
    · split
      · exact key c 0 hc (by omega) (fun q => absurd rfl q)
      · exact h
    · rename_i s hs
      obtain ⟨s1, s2, s3⟩ := v_cls_lt hs
      split
      · exact h
      · split
        · exact h
        · exact key c (s + 1) hc (by omega) (fun _ => by rw [Nat.add_sub_cancel, s2]; exact s3)
theorem zv_W.addM {c : Option Nat} {m : Nat} (h : zv_W V) (hc : ∀ i, c = some i → i < 12 ∧ v_cn V i ≠ 0) (hm : 97 ≤ m ∧ m ≤ 122) : zv_W (v_addM V c m).2.1 := by
  obtain ⟨w1, w2, w3, w4, w5, w6, w7, w8, w9, w10⟩ := id h
  unfold v_addM
  split
  · exact h
  · rename_i c
    obtain ⟨hc, hl⟩ := hc c rfl
    split
    · exact h
    · rename_i hn
      split
      · exact h
      · split
        · exact h
        · split
          · rename_i i hi
            obtain ⟨-, i2, i3, -⟩ := zf_fst_some hi
            have i3 : v_mn V i = 0 := by simpa using i3
            have hn : v_mem V (some c) m = none := by simpa using hn
            have hn : ∀ k, k < 40 → ¬ (v_mn V k = m ∧ v_ow V k = c) := by
              intro k hk
              have := zf_fst_ne (j := k) hn (by omega) (by omega)
              simpa using this
            refine ⟨w1, w2, fun k hk => ?_, fun k hk => ?_, fun a b ha hb => ?_, w6, w7, fun k hk => ?_, fun k j hk hj => ?_, w10⟩
            · simp only [w_32, w_22]; have := w3 k hk; split <;> omega
            · simp only [w_33]; have := w4 k hk; split
              · exact hc
              · exact this
            · simp only [w_u3, w_u2, w_32, w_22]
              intro q
              have := w5 a b ha hb q
              constructor <;> split <;> omega
            · simp only [w_32, w_22, w_30, w_20, w_33]
              have := w8 k hk
              split
              · exact fun _ => hl
              · exact this
            · simp only [w_32, w_22, w_33]
              have q1 := w9 k j hk hj
              have q2 := hn k hk
              have q3 := hn j hj
              have e3 : ∀ z, v_ow (v_set3 V i m) z = v_ow V z := fun _ => rfl
              simp only [e3]
              by_cases e1 : k = i <;> by_cases e2 : j = i
              · omega
              · simp only [if_pos e1, if_neg e2]; intro _ p1 p2; exact absurd ⟨p1.symm, p2.symm⟩ q3
              · simp only [if_neg e1, if_pos e2]; intro _ p1 p2; exact absurd ⟨p1, p2⟩ q2
              · simp only [if_neg e1, if_neg e2]; exact q1
          · exact h
theorem zv_W.remM {k : Option Nat} (h : zv_W V) (hk : ∀ i, k = some i → i < 40) : zv_W (v_remM V k).2.1 := by
  obtain ⟨w1, w2, w3, w4, w5, w6, w7, w8, w9, w10⟩ := id h
  unfold v_remM
  split
  · exact h
  · rename_i k
    have hk := hk k rfl
    split
    · exact h
    · rename_i hn
      have hn : ∀ j, j < 40 → j ≠ k → v_us V j k = false := by
        intro j hj hjk
        have := zf_any_no hn hj
        simpa [hjk] using this
      refine ⟨w1, w2, fun j hj => ?_, w4, fun a b ha hb => ?_, w6, w7, fun j hj => ?_, fun j i hj hi => ?_, ?_⟩
      · simp only [w_22, w_52]; have := w3 j hj; split <;> omega
      · simp only [w_u2, w_u5, w_22, w_52]
        by_cases e1 : a = k
        · simp [e1]
        · simp only [if_neg e1]
          intro q
          have q2 := w5 a b ha hb q
          have : b ≠ k := fun e => by subst e; rw [hn a ha e1] at q; cases q
          simp only [if_neg this]
          exact q2
      · simp only [w_22, w_52]
        have := w8 j hj
        split
        · intro q; exact absurd rfl q
        · exact this
      · simp only [w_22, w_52]
        have := w9 j i hj hi
        split
        · intro q; exact absurd rfl q
        · split
          · intro p q; exact absurd q p
          · exact this
      · refine Nat.le_trans (v_nu_le (V := V) (fun a b _ _ q => ?_)) w10
        simp only [w_u2, w_u5] at q
        split at q
        · cases q
        · exact q
theorem v_tak_no {c name : Nat} {but : Option Nat} (h : ¬ v_tak V c name but = true) {m : Nat} (hm : m < 40) (hb : some m ≠ but) (ho : v_ow V m = c) : v_mn V m ≠ name := by
  have := zf_any_no h hm
  intro e
  rw [ho, v_kin_self] at this
  simp [e, hb] at this
theorem zv_W.renM {k c : Option Nat} {n : Nat} (h : zv_W V) (hk : ∀ i, k = some i → i < 40 ∧ v_mn V i ≠ 0 ∧ c = some (v_ow V i)) (hn : 97 ≤ n ∧ n ≤ 122) : zv_W (v_renM V c k n).2.1 := by
  obtain ⟨w1, w2, w3, w4, w5, w6, w7, w8, w9, w10⟩ := id h
  unfold v_renM
  split
  · exact h
  · rename_i k
    obtain ⟨hk, hl, hc⟩ := hk k rfl
    subst hc
    split
    · exact h
    · rename_i ht
      have ht : ¬ v_tak V (v_ow V k) n none = true := ht
      refine ⟨w1, w2, fun j hj => ?_, w4, fun a b ha hb => ?_, w6, w7, fun j hj => ?_, fun j i hj hi => ?_, w10⟩
      · simp only [w_22]; have := w3 j hj; split <;> omega
      · simp only [w_22, w_u2]
        intro q
        have := w5 a b ha hb q
        constructor <;> split <;> omega
      · simp only [w_22, w_20, w_23]
        have := w8 j hj
        split
        · rename_i e; subst e; exact fun _ => this hl
        · exact this
      · simp only [w_22, w_23]
        have q1 := w9 j i hj hi
        have q2 := v_tak_no (m := j) ht hj (by simp)
        have q3 := v_tak_no (m := i) ht hi (by simp)
        by_cases e1 : j = k <;> by_cases e2 : i = k
        · omega
        · simp only [if_pos e1, if_neg e2]; intro _ p1 p2; subst e1; exact absurd p1.symm (q3 p2.symm)
        · simp only [if_neg e1, if_pos e2]; intro _ p1 p2; subst e2; exact absurd p1 (q2 p2)
        · simp only [if_neg e1, if_neg e2]; exact q1
theorem zv_W.movM {k c to : Option Nat} (h : zv_W V) (hk : ∀ i, k = some i → i < 40 ∧ v_mn V i ≠ 0) (ht : ∀ i, to = some i → i < 12 ∧ v_cn V i ≠ 0) : zv_W (v_movM V c k to).2.1 := by
  obtain ⟨w1, w2, w3, w4, w5, w6, w7, w8, w9, w10⟩ := id h
  unfold v_movM
  split
  · rename_i k to
    obtain ⟨hk, hl⟩ := hk k rfl
    obtain ⟨ht, htl⟩ := ht to rfl
    split
    · exact h
    · split
      · exact h
      · rename_i hn
        refine ⟨w1, w2, w3, fun j hj => ?_, w5, w6, w7, fun j hj => ?_, fun j i hj hi => ?_, w10⟩
        · simp only [w_33]; have := w4 j hj; split <;> omega
        · simp only [w_33, w_30, w_32]
          have := w8 j hj
          split
          · exact fun _ => htl
          · exact this
        · simp only [w_33, w_32]
          have q1 := w9 j i hj hi
          have q2 : j ≠ k → v_ow V j = to → v_mn V j ≠ v_mn V k := fun e => v_tak_no (m := j) hn hj (by simp [e])
          have q3 : i ≠ k → v_ow V i = to → v_mn V i ≠ v_mn V k := fun e => v_tak_no (m := i) hn hi (by simp [e])
          by_cases e1 : j = k <;> by_cases e2 : i = k
          · omega
          · simp only [if_pos e1, if_neg e2]; intro _ p1 p2; subst e1; exact absurd p1.symm (q3 e2 p2.symm)
          · simp only [if_neg e1, if_pos e2]; intro _ p1 p2; subst e2; exact absurd p1 (q2 e1 p2)
          · simp only [if_neg e1, if_neg e2]; exact q1
  · exact h
theorem zv_W.addU {m n : Option Nat} (h : zv_W V) (hm : ∀ i, m = some i → i < 40 ∧ v_mn V i ≠ 0) (hn : ∀ i, n = some i → i < 40 ∧ v_mn V i ≠ 0) : zv_W (v_addU V m n).2.1 := by
  obtain ⟨w1, w2, w3, w4, w5, w6, w7, w8, w9, w10⟩ := id h
  unfold v_addU
  split
  · rename_i m n
    obtain ⟨hm, hml⟩ := hm m rfl
    obtain ⟨hn, hnl⟩ := hn n rfl
    split
    · exact h
    · split
      · exact h
      · rename_i h60
        refine ⟨w1, w2, w3, w4, fun a b ha hb => ?_, w6, w7, w8, w9, ?_⟩
        · simp only [w_u4, w_42]
          split
          · rename_i e; obtain ⟨e1, e2⟩ := e; subst e1 e2; exact fun _ => ⟨hml, hnl⟩
          · exact w5 a b ha hb
        · have := v_nu_one (V := V) (W := v_set5 V m n true) (m := m) hn (fun a b _ _ e q => by simp only [w_u4, if_neg e] at q; exact q)
          show v_nu (v_set5 V m n true) ≤ 60
          omega
  · exact h
theorem zv_W.remU {m n : Option Nat} (h : zv_W V) : zv_W (v_remU V m n).2.1 := by
  obtain ⟨w1, w2, w3, w4, w5, w6, w7, w8, w9, w10⟩ := id h
  unfold v_remU
  split
  · split
    · refine ⟨w1, w2, w3, w4, fun a b ha hb => ?_, w6, w7, w8, w9, ?_⟩
      · simp only [w_u4, w_42]
        split
        · intro q; cases q
        · exact w5 a b ha hb
      · refine Nat.le_trans (v_nu_le (V := V) (fun a b _ _ q => ?_)) w10
        simp only [w_u4] at q
        split at q
        · cases q
        · exact q
    · exact h
  · exact h
theorem v_cls_l {a : Nat} : ∀ i, v_cls V a = some i → i < 12 ∧ v_cn V i ≠ 0 := fun i h => by
  obtain ⟨h1, h2, h3⟩ := v_cls_lt h
  exact ⟨h1, by rw [h2]; exact h3⟩
theorem v_mem_l {c : Option Nat} {m : Nat} (hm : m ≠ 0) : ∀ i, v_mem V c m = some i → i < 40 ∧ v_mn V i ≠ 0 := fun i h => by
  obtain ⟨h1, h2, h3⟩ := v_mem_lt h
  exact ⟨h1, by rw [h2]; exact hm⟩
theorem zv_W.mk {c : zch} (h : zv_W V) (hc : zc_leg c) : zv_W (v_mk V c).2.1 := by
  obtain ⟨kind, a, m, b, n⟩ := c
  obtain ⟨h1, h2, h3, h4, h5⟩ := hc
  dsimp only at h1 h2 h3 h4 h5
  unfold v_mk
  dsimp only
  match kind, h1, h3, h4, h5 with
  | 0, _, h3, h4, h5 => exact h.addC h2
  | 1, _, h3, h4, h5 => exact h.remC v_cls_12
  | 2, _, h3, h4, h5 => exact h.renC v_cls_l (h4.1 (by omega))
  | 3, _, h3, h4, h5 => exact h.supC v_cls_l
  | 4, _, h3, h4, h5 => exact h.addM v_cls_l (h3.2 (by omega))
  | 5, _, h3, h4, h5 => exact h.remM v_mem_40
  | 6, _, h3, h4, h5 =>
    have h3 : 97 ≤ m ∧ m ≤ 122 := h3.2 (by omega)
    exact h.renM (fun i hi => ⟨(v_mem_l (by omega) i hi).1, (v_mem_l (by omega) i hi).2, (v_mem_lt hi).2.2⟩) (h5.1 (by omega))
  | 7, _, h3, h4, h5 =>
    have h3 : 97 ≤ m ∧ m ≤ 122 := h3.2 (by omega)
    exact h.movM (v_mem_l (by omega)) v_cls_l
  | 8, _, h3, h4, h5 =>
    have h3 : 97 ≤ m ∧ m ≤ 122 := h3.2 (by omega)
    have h5 : 97 ≤ n ∧ n ≤ 122 := h5.1 (by omega)
    exact h.addU (v_mem_l (by omega)) (v_mem_l (by omega))
  | 9, _, h3, h4, h5 => exact h.remU
  | k + 10, h1, _, _, _ => exact absurd h1 (by omega)
theorem zv_W.go {L : Nat → zch} (h : zv_W V) : ∀ n, (∀ i, i < n → zc_leg (L i)) → zv_W (v_go V L n)
  | 0, _ => h
  | n + 1, hl => (h.go n (fun i hi => hl i (by omega))).mk (hl n (by omega))
end ZW

