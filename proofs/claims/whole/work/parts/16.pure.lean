/-! pure words for loops -/
/-- the first place from c on, of k places, with p -/
def zf_fst (p : Nat → Bool) : Nat → Nat → Option Nat
  | _, 0 => none
  | c, k + 1 => cond (p c) (some c) (zf_fst p (c + 1) k)
def zf_o : Option Nat → Int32
  | none => -1
  | some i => nI i
theorem zf_fst_some {p : Nat → Bool} : ∀ {k c i : Nat}, zf_fst p c k = some i → c ≤ i ∧ i < c + k ∧ p i = true ∧ ∀ j, c ≤ j → j < i → p j = false
  | 0, _, _, h => by cases h
  | k + 1, c, i, h => by
    unfold zf_fst at h
    cases hc : p c with
    | true =>
      rw [hc] at h
      cases h
      exact ⟨Nat.le_refl _, by omega, hc, fun j h1 h2 => by omega⟩
    | false =>
      rw [hc] at h
      obtain ⟨h1, h2, h3, h4⟩ := zf_fst_some (p := p) h
      refine ⟨by omega, by omega, h3, fun j g1 g2 => ?_⟩
      by_cases hj : j = c
      · rw [hj]; exact hc
      · exact h4 j (by omega) g2
theorem zf_fst_none {p : Nat → Bool} : ∀ {k c : Nat}, zf_fst p c k = none → ∀ j, c ≤ j → j < c + k → p j = false
  | 0, _, _ => fun j h1 h2 => by omega
  | k + 1, c, h => by
    unfold zf_fst at h
    cases hc : p c with
    | true => rw [hc] at h; cases h
    | false =>
      rw [hc] at h
      intro j h1 h2
      by_cases hj : j = c
      · rw [hj]; exact hc
      · exact zf_fst_none (p := p) h j (by omega) (by omega)
theorem zf_fst_cong {p q : Nat → Bool} : ∀ {k c : Nat}, (∀ j, c ≤ j → j < c + k → p j = q j) → zf_fst p c k = zf_fst q c k
  | 0, _, _ => rfl
  | k + 1, c, h => by
    unfold zf_fst
    rw [h c (Nat.le_refl _) (by omega), zf_fst_cong (fun j h1 h2 => h j (by omega) (by omega))]
theorem zf_fst_t {p : Nat → Bool} {c k : Nat} (h : p c = true) : zf_fst p c (k + 1) = some c := by simp [zf_fst, h]
theorem zf_fst_f {p : Nat → Bool} {c k : Nat} (h : p c = false) : zf_fst p c (k + 1) = zf_fst p (c + 1) k := by simp [zf_fst, h]
