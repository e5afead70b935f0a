/-! the mathematical state of one version: class names, supers (0: none, else the place + 1), member names, homes, uses; by places -/
abbrev zv : Type := (Nat → Nat) × (Nat → Nat) × (Nat → Nat) × (Nat → Nat) × (Nat → Nat → Bool)
def v_cn (V : zv) : Nat → Nat := V.1
def v_sp (V : zv) : Nat → Nat := V.2.1
def v_mn (V : zv) : Nat → Nat := V.2.2.1
def v_ow (V : zv) : Nat → Nat := V.2.2.2.1
def v_us (V : zv) : Nat → Nat → Bool := V.2.2.2.2
def zf_b (b : Bool) : Int32 := cond b 1 0
def zf_any (p : Nat → Bool) : Nat → Nat → Bool
  | _, 0 => false
  | c, k + 1 => p c || zf_any p (c + 1) k
def zf_ct (p : Nat → Bool) : Nat → Nat → Nat
  | _, 0 => 0
  | c, k + 1 => cond (p c) 1 0 + zf_ct p (c + 1) k
theorem zf_ct_le (p : Nat → Bool) : ∀ k c, zf_ct p c k ≤ k
  | 0, _ => Nat.le_refl _
  | k + 1, c => by
    have := zf_ct_le p k (c + 1)
    unfold zf_ct
    cases p c <;> simp <;> omega
theorem zf_any_iff {p : Nat → Bool} : ∀ {k c : Nat}, zf_any p c k = true ↔ ∃ j, c ≤ j ∧ j < c + k ∧ p j = true
  | 0, c => by
    constructor
    · intro h; cases h
    · rintro ⟨j, h1, h2, -⟩; omega
  | k + 1, c => by
    unfold zf_any
    rw [Bool.or_eq_true, zf_any_iff]
    constructor
    · rintro (h | ⟨j, h1, h2, h3⟩)
      · exact ⟨c, Nat.le_refl _, by omega, h⟩
      · exact ⟨j, by omega, by omega, h3⟩
    · rintro ⟨j, h1, h2, h3⟩
      by_cases hj : j = c
      · exact Or.inl (by rw [← hj]; exact h3)
      · exact Or.inr ⟨j, by omega, by omega, h3⟩
def v_cls (V : zv) (a : Nat) : Option Nat := if a = 0 then none else zf_fst (fun c => v_cn V c == a) 0 12
def v_mem (V : zv) (c : Option Nat) (m : Nat) : Option Nat := match c with
  | none => none
  | some c => zf_fst (fun k => v_mn V k == m && v_ow V k == c) 0 40
def v_pr (s : Nat) : Option Nat := match s with
  | 0 => none
  | s + 1 => some s
def v_up (V : zv) : Option Nat → Nat → Nat → Bool
  | k, u, 0 => k == some u
  | none, _, _ + 1 => false
  | some k, u, n + 1 => if k = u then true else v_up V (v_pr (v_sp V k)) u n
def v_und (V : zv) (c u : Nat) : Bool := v_up V (some c) u 12
def v_kin (V : zv) (c k : Nat) : Bool := v_und V c k || v_und V k c
def v_tak (V : zv) (c name : Nat) (but : Option Nat) : Bool := zf_any (fun m => v_mn V m == name && !(some m == but) && v_kin V c (v_ow V m)) 0 40
def v_nc (V : zv) : Nat := zf_ct (fun c => !(v_cn V c == 0)) 0 12
def v_nm (V : zv) : Nat := zf_ct (fun m => !(v_mn V m == 0)) 0 40
def v_nu (V : zv) : Nat := zf_ct (fun i => v_us V (i / 40) (i % 40)) 0 1600
def v_set1 (V : zv) (c x : Nat) : zv := (va_up V.1 c x, V.2)
def v_set2 (V : zv) (c x : Nat) : zv := (V.1, va_up V.2.1 c x, V.2.2)
def v_set3 (V : zv) (m x : Nat) : zv := (V.1, V.2.1, va_up V.2.2.1 m x, V.2.2.2)
def v_set4 (V : zv) (m x : Nat) : zv := (V.1, V.2.1, V.2.2.1, va_up V.2.2.2.1 m x, V.2.2.2.2)
def v_set5 (V : zv) (m k : Nat) (x : Bool) : zv := (V.1, V.2.1, V.2.2.1, V.2.2.2.1, va_up V.2.2.2.2 m (va_up (V.2.2.2.2 m) k x))
/-- the uses of m are gone -/
def v_clr (V : zv) (m : Nat) : zv := (V.1, V.2.1, V.2.2.1, V.2.2.2.1, va_up V.2.2.2.2 m (fun _ => false))
abbrev zvr : Type := Nat × zv × Option Nat
def v_addC (V : zv) (c : Option Nat) (a : Nat) : zvr :=
  if c.isSome then (1, V, none) else if v_nc V = 12 then (9, V, none) else match zf_fst (fun i => v_cn V i == 0) 0 12 with
    | some i => (0, v_set2 (v_set1 V i a) i 0, some i)
    | none => (9, V, none)
def v_remC (V : zv) (c : Option Nat) : zvr := match c with
  | none => (2, V, none)
  | some c => if zf_any (fun k => !(v_mn V k == 0) && v_ow V k == c) 0 40 then (3, V, none) else if zf_any (fun k => !(v_cn V k == 0) && v_sp V k == c + 1) 0 12 then (3, V, none) else (0, v_set1 V c 0, none)
def v_renC (V : zv) (c : Option Nat) (b : Nat) : zvr := match c with
  | none => (2, V, none)
  | some c => if (v_cls V b).isSome then (1, V, none) else (0, v_set1 V c b, none)
def v_supC (V : zv) (c : Option Nat) (b : Nat) : zvr := match c with
  | none => (2, V, none)
  | some c => match v_cls V b with
    | none => if b = 0 then (0, v_set2 V c 0, none) else (2, V, none)
    | some s => if v_und V s c then (4, V, none) else if zf_any (fun k => !(v_mn V k == 0) && v_und V (v_ow V k) c && zf_any (fun o => v_mn V o == v_mn V k && v_und V s (v_ow V o)) 0 40) 0 40 then (5, V, none) else (0, v_set2 V c (s + 1), none)
def v_addM (V : zv) (c : Option Nat) (m : Nat) : zvr := match c with
  | none => (2, V, none)
  | some c => if (v_mem V (some c) m).isSome then (1, V, none) else if v_tak V c m none then (5, V, none) else if v_nm V = 40 then (9, V, none) else match zf_fst (fun i => v_mn V i == 0) 0 40 with
    | some i => (0, v_set4 (v_set3 V i m) i c, some i)
    | none => (9, V, none)
def v_remM (V : zv) (k : Option Nat) : zvr := match k with
  | none => (2, V, none)
  | some k => if zf_any (fun j => !(j == k) && v_us V j k) 0 40 then (3, V, none) else (0, v_set3 (v_clr V k) k 0, none)
def v_renM (V : zv) (c k : Option Nat) (n : Nat) : zvr := match k with
  | none => (2, V, none)
  | some k => if v_tak V (c.getD 0) n none then (5, V, none) else (0, v_set3 V k n, none)
def v_movM (V : zv) (c k to : Option Nat) : zvr := match k, to with
  | some k, some to => if c = some to then (1, V, none) else if v_tak V to (v_mn V k) (some k) then (5, V, none) else (0, v_set4 V k to, none)
  | _, _ => (2, V, none)
def v_addU (V : zv) (m n : Option Nat) : zvr := match m, n with
  | some m, some n => if v_us V m n then (1, V, none) else if v_nu V = 60 then (9, V, none) else (0, v_set5 V m n true, none)
  | _, _ => (2, V, none)
def v_remU (V : zv) (m n : Option Nat) : zvr := match m, n with
  | some m, some n => if v_us V m n then (0, v_set5 V m n false, none) else (2, V, none)
  | _, _ => (2, V, none)
def v_make (V : zv) (kind a m b n : Nat) : zvr :=
  let c := v_cls V a
  match kind with
  | 0 => v_addC V c a
  | 1 => v_remC V c
  | 2 => v_renC V c b
  | 3 => v_supC V c b
  | 4 => v_addM V c m
  | 5 => v_remM V (v_mem V c m)
  | 6 => v_renM V c (v_mem V c m) n
  | 7 => v_movM V c (v_mem V c m) (v_cls V b)
  | 8 => v_addU V (v_mem V c m) (v_mem V (v_cls V b) n)
  | _ => v_remU V (v_mem V c m) (v_mem V (v_cls V b) n)
/-- numbers in their ranges -/
def zv_B (V : zv) : Prop := (∀ c, c < 12 → v_cn V c < 128) ∧ (∀ c, c < 12 → v_sp V c ≤ 12) ∧ (∀ m, m < 40 → v_mn V m < 128) ∧ (∀ m, m < 40 → v_ow V m < 12)
/-- a row of the reference holds V -/
def zv_R (V : zv) (A : Nat → Int32) : Prop := (∀ c, c < 12 → A c = nI (v_cn V c)) ∧ (∀ c, c < 12 → A (12 + c) = nI (v_sp V c)) ∧ (∀ m, m < 40 → A (24 + m) = nI (v_mn V m)) ∧ (∀ m, m < 40 → A (64 + m) = nI (v_ow V m)) ∧ (∀ m k, m < 40 → k < 40 → A (104 + 40 * m + k) = nI (cond (v_us V m k) 1 0))
theorem v_pr_sub (s : Nat) : nI s - nI 1 = zf_o (v_pr s) := by
  cases s with
  | zero => decide +kernel
  | succ t => exact nI_pred t
theorem v_cls_lt {V : zv} {a i : Nat} (h : v_cls V a = some i) : i < 12 ∧ v_cn V i = a ∧ a ≠ 0 := by
  unfold v_cls at h
  split at h
  · cases h
  · rename_i h0
    obtain ⟨-, h2, h3, -⟩ := zf_fst_some h
    exact ⟨by omega, by simpa using h3, h0⟩
theorem v_mem_lt {V : zv} {c : Option Nat} {m i : Nat} (h : v_mem V c m = some i) : i < 40 ∧ v_mn V i = m ∧ c = some (v_ow V i) := by
  unfold v_mem at h
  split at h
  · cases h
  · obtain ⟨-, h2, h3, -⟩ := zf_fst_some h
    simp only [Bool.and_eq_true, beq_iff_eq] at h3
    exact ⟨by omega, h3.1, by rw [h3.2]⟩
theorem zv_cls {V : zv} {A : Nat → Int32} {a : Nat} (hV : zv_R V A) (hB : zv_B V) (ha : a < 2 ^ 31) : zr_cls A (nI a) = v_cls V a := by
  unfold zr_cls v_cls
  by_cases h0 : a = 0
  · subst h0
    rw [if_neg (by decide +kernel), if_pos rfl]
  · rw [if_pos (by have := nI_lt (a := 0) (b := a) (by omega) ha; rwa [nI_0] at this), if_neg h0]
    apply zf_fst_cong
    intro j _ hj
    rw [hV.1 j (by omega)]
    have := hB.1 j (by omega)
    have e := nI_eq (a := v_cn V j) (b := a) (by omega) ha
    by_cases hc : v_cn V j = a
    · simp [hc]
    · have h1 : ¬ nI (v_cn V j) = nI a := fun q => hc (e.mp q)
      simp [hc, h1]
theorem zv_mem {V : zv} {A : Nat → Int32} {c : Option Nat} {m : Nat} (hV : zv_R V A) (hB : zv_B V) (hc : ∀ i, c = some i → i < 2 ^ 31) (hm : m < 2 ^ 31) : zr_mem A c (nI m) = v_mem V c m := by
  cases c with
  | none => rfl
  | some c =>
    have hc := hc c rfl
    unfold zr_mem v_mem
    apply zf_fst_cong
    intro j _ hj
    rw [hV.2.2.1 j (by omega), hV.2.2.2.1 j (by omega)]
    have b1 := hB.2.2.1 j (by omega)
    have b2 := hB.2.2.2 j (by omega)
    have e1 := nI_eq (a := v_mn V j) (b := m) (by omega) hm
    have e2 := nI_eq (a := v_ow V j) (b := c) (by omega) hc
    simp only [e1, e2]
    by_cases h1 : v_mn V j = m <;> by_cases h2 : v_ow V j = c <;> simp [h1, h2]
