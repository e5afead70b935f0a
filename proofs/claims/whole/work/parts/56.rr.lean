/-! the class: its whole state, what its calls answer -/
def zx (h : zm_H) : zm_H := (h.1, h.2.1, h.2.2.1 + 6, h.2.2.2 + 1)
def zc_S (s : zst) (h : zm_H) : Prop := zs_H h ∧ zq_P (g_b s) 1 h ∧ zq_P (g_0 s) 8 h ∧ zq_P (g_1 s) 15 h ∧ zq_L (g_L s) 29 h ∧ cf h 29 1 = nI (g_n s) ∧ cf h 0 10 = nI (g_k s) ∧ ∀ i, i < g_k s → ci h 170 i = g_O s i
/-- versions are well formed, every change of the log can be made, and leads to version 0 -/
def zc_W (s : zst) : Prop := (zv_W (g_b s) ∧ zv_W (g_0 s) ∧ zv_W (g_1 s)) ∧ nLog (g_b s) (g_L s) (g_n s) ∧ nIso (v_go (g_b s) (g_L s) (g_n s)) (g_0 s) ∧ g_n s ≤ 30 ∧ g_k s ≤ 30 ∧ ∀ i, i < 30 → zc_ok (g_L s i)
theorem zc_W.B {s : zst} (h : zc_W s) : zr_B s := ⟨⟨h.1.2.1.B, h.1.2.2.B, h.1.1.B⟩, h.2.2.2.2.2, h.2.2.2.1, h.2.2.2.2.1⟩
def zc_F (h h' : zm_H) : Prop := (∀ a, 170 < a → h'.1 a = h.1 a) ∧ h'.2.2.1 ≤ h.2.2.1 + 6 ∧ h'.2.2.2 ≤ h.2.2.2 + 1
theorem zc_F.of {S : Nat → Prop} {h h' : zm_H} (e : zh_eq S h h') (hS : ∀ x, S x → x ≤ 170) : zc_F h h' := ⟨fun a ha => e.2 a (fun q => absurd (hS a q) (by omega)), by rw [e.1]; omega, by rw [e.1]; omega⟩
theorem zc_F.ox {S : Nat → Prop} {h h' : zm_H} (e : zh_eq S h h') (hS : ∀ x, S x → x ≤ 170) : zc_F h (zx h') := ⟨fun a ha => e.2 a (fun q => absurd (hS a q) (by omega)), by show h'.2.2.1 + 6 ≤ _; rw [e.1]; omega, by show h'.2.2.2 + 1 ≤ _; rw [e.1]; omega⟩
theorem zc_F.rf {h : zm_H} : zc_F h h := zc_F.of (S := fun _ => False) zh_eq.rf (fun _ q => q.elim)
theorem zc_F.x {h : zm_H} : zc_F h (zx h) := zc_F.ox (S := fun _ => False) zh_eq.rf (fun _ q => q.elim)
/-- what lasts -/
theorem zc_S.eq {s : zst} {S : Nat → Prop} {h h' : zm_H} (a : zc_S s h) (hS' : zs_H h') (e : zh_eq S h h') (h1 : ∀ x, S x → (22 ≤ x ∧ x ≤ 28) ∨ (61 ≤ x ∧ x ≤ 169) ∨ 171 ≤ x) : zc_S s h' := by
  have nS : ∀ x, ¬ ((22 ≤ x ∧ x ≤ 28) ∨ (61 ≤ x ∧ x ≤ 169) ∨ 171 ≤ x) → ¬ S x := fun x q z => q (h1 x z)
  obtain ⟨a1, a2, a3, a4, a5, a6, a7, a8⟩ := a
  refine ⟨hS', a2.eq e (fun x _ _ => nS x (by omega)), a3.eq e (fun x _ _ => nS x (by omega)), a4.eq e (fun x _ _ => nS x (by omega)), a5.eq e (fun x _ _ => nS x (by omega)), ?_, ?_, ?_⟩
  · rw [e.gf (nS 29 (by omega))]; exact a6
  · rw [e.gf (nS 0 (by omega))]; exact a7
  · rw [e.gi (nS 170 (by omega))]; exact a8
theorem zc_S.x {s : zst} {h : zm_H} (a : zc_S s h) : zc_S s (zx h) := a
def zc_R (z : Nat × Int32 × zst) (e : Nat → Nat) (h : zm_H) (Q : zm_O → zm_H → Prop) : Prop := (z.1 = 0 → ∀ h', zc_S z.2.2 h' → zc_F h h' → Q (.inl (some (.int z.2.1))) h') ∧ (z.1 ≠ 0 → ∀ h', zc_S z.2.2 h' → zc_F h h' → Q (.inr (e z.1)) h')
def q_ver (x : Int32) : Nat := if x = 0 then 8 else 15
theorem q_ver_ok {s : zst} {x : Int32} {h : zm_H} (hs : zc_S s h) (hW : zc_W s) (hv : g_ver x = true) : ∃ p, q_ver x = p ∧ zq_A p ∧ zq_P (z_ver s x) p h ∧ zv_W (z_ver s x) := by
  refine ⟨_, rfl, ?_⟩
  unfold q_ver z_ver
  by_cases e : x = 0
  · rw [if_pos e, if_pos e]; exact ⟨qA_8, hs.2.2.1, hW.1.2.1⟩
  · rw [if_neg e, if_neg e]; exact ⟨qA_15, hs.2.2.2.1, hW.1.2.2⟩
theorem b_xor (x y : Int32) (i : Nat) : bt (x ^^^ y) i = (bt x i ^^ bt y i) := by unfold bt; rw [Int32.toBitVec_xor, BitVec.getLsbD_xor]
theorem b_m1 : ∀ i, i < 32 → bt (-1) i = true := by decide +kernel
theorem b_all : ∀ n, n < 31 → (nI 1 <<< (nI n &&& 31)) - nI 1 = nI (2 ^ n - 1) := by decide +kernel
theorem i_nn {x : Int32} (h : bt x 31 = false) : 0 ≤ x := by
  have h1 : x.toBitVec.msb = false := by rw [BitVec.msb_eq_getLsbD_last]; exact h
  rw [BitVec.msb_eq_toInt] at h1
  have h2 : ¬ x.toBitVec.toInt < 0 := by simpa using h1
  have h3 : x.toInt = x.toBitVec.toInt := rfl
  have h4 : (0 : Int32).toInt = 0 := by decide
  exact Int32.le_iff_toInt_le.mpr (by rw [h4, h3]; omega)
theorem g_sel_n {n : Nat} {sel : Int32} (hn : n ≤ 30) : sel &&& (((nI 1 <<< (nI n &&& 31)) - nI 1) ^^^ (-1)) = 0 ↔ sel >>> (nI n &&& 31) = 0 := by
  rw [b_all n (by omega), bt_z, bt_z]
  have e : ∀ i, i < 32 → bt (sel &&& (nI (2 ^ n - 1) ^^^ (-1))) i = (bt sel i && !(decide (i < n))) := by
    intro i hi
    rw [b_and, b_xor, b_m1 i hi, bt_N hi, Nat.testBit_two_pow_sub_one]
    simp
  constructor
  · intro h i hi
    rw [b_sshr n (by omega) _ hi]
    by_cases q : n + i < 32
    · rw [if_pos q]
      have := h (n + i) q
      rw [e _ q, decide_eq_false (by omega)] at this
      simpa using this
    · rw [if_neg q]
      have := h 31 (by omega)
      rw [e _ (by omega), decide_eq_false (by omega)] at this
      simpa using this
  · intro h i hi
    rw [e i hi]
    by_cases q : i < n
    · rw [decide_eq_true q]; simp
    · have := h (i - n) (by omega)
      rw [b_sshr n (by omega) _ (by omega), if_pos (by omega), show n + (i - n) = i by omega] at this
      rw [this]
      rfl
theorem g_sel_nn {n : Nat} {sel : Int32} (hn : n ≤ 30) (h : sel >>> (nI n &&& 31) = 0) : 0 ≤ sel := by
  refine i_nn ?_
  have := bt_z.mp h 31 (by omega)
  rw [b_sshr n (by omega) _ (by omega)] at this
  by_cases q : n + 31 < 32
  · rw [if_pos q, show n + 31 = 31 by omega] at this; exact this
  · rw [if_neg q] at this; exact this
section ZP16
variable {X : zm_X} {h : zm_H} {Q : zm_O → zm_H → Prop} {s : zst}
theorem s_RR_programOf {x : Int32} (hS : zs_H h) (hq : g_ver x = true → Q (.inl (some (.ref (q_ver x)))) h) (he : g_ver x = false → Q (.inr 0) (zx h)) : zp_wm X y_RR_programOf [.ref 0, .int x] h Q := by
  show zp_wp X y_RR_programOf 0 [.ref 0, .int x] [] h Q
  by_cases h0 : x = 0
  · subst h0
    show zp_wp X y_RR_programOf 0 [.ref 0, .int (nI 0)] [] h Q
    refine zp_iload_n (x := (nI 0)) rfl rfl ?_
    refine zp_ifT (tgt := 19) rfl rfl (by decide +kernel) ?_
    refine zp_iload_n (x := (nI 0)) rfl rfl ?_
    refine zp_ifF (tgt := 30) rfl rfl (by decide +kernel) ?_
    refine zp_aload_n (x := 0) rfl rfl ?_
    refine zq_getr (k9 := 8) hS rfl (by first | assumption | exact ⟨by decide, rfl⟩) rfl ?_
    refine zp_goto (tgt := 34) rfl rfl ?_
    refine zp_aret rfl rfl ?_
    exact hq rfl
  · by_cases h1 : x = 1
    · subst h1
      show zp_wp X y_RR_programOf 0 [.ref 0, .int (nI 1)] [] h Q
      refine zp_iload_n (x := (nI 1)) rfl rfl ?_
      refine zp_ifF (tgt := 19) rfl rfl (by decide +kernel) ?_
      refine zp_iload_n (x := (nI 1)) rfl rfl ?_
      refine zp_iconst (v := (nI 1)) rfl (by decide +kernel) ?_
      refine zp_icT (tgt := 19) rfl rfl (by decide +kernel) ?_
      refine zp_iload_n (x := (nI 1)) rfl rfl ?_
      refine zp_ifT (tgt := 30) rfl rfl (by decide +kernel) ?_
      refine zp_aload_n (x := 0) rfl rfl ?_
      refine zq_getr (k9 := 15) hS rfl (by first | assumption | exact ⟨by decide, rfl⟩) rfl ?_
      refine zp_aret rfl rfl ?_
      exact hq rfl
    · have hv : g_ver x = false := by simp [g_ver, h0, h1]
      refine zp_iload_n (x := x) rfl rfl ?_
      refine zp_if_eq (tgt := 19) rfl rfl (fun b1 => ?_) (fun b1 => ?_)
      · exact absurd b1 h0
      · refine zp_iload_n (x := x) rfl rfl ?_
        refine zp_iconst (v := (nI 1)) rfl (by decide +kernel) ?_
        refine zp_icmp_eq (tgt := 19) rfl rfl (fun b6 => ?_) (fun b6 => ?_)
        · exact absurd b6 h1
        · refine zp_throw rfl (by decide) ?_
          exact he hv
theorem s_RR_requireClassName {x : Int32} (hq : g_isC x = true → Q (.inl none) h) (he : g_isC x = false → Q (.inr 1) (zx h)) : zp_wm X y_RR_requireClassName [.int x] h Q := by
  show zp_wp X y_RR_requireClassName 0 [.int x] [] h Q
  refine zp_iload_n (x := x) rfl rfl ?_
  refine zp_call rfl rfl (s_RR_isClassName ?_)
  cases e : g_isC x with
  | false =>
    show zp_wp X y_RR_requireClassName 4 [.int x] [.int (nI 0)] h Q
    refine zp_ifF (tgt := 17) rfl rfl (by decide +kernel) ?_
    refine zp_throw rfl (by decide) ?_
    exact he e
  | true =>
    show zp_wp X y_RR_requireClassName 4 [.int x] [.int (nI 1)] h Q
    refine zp_ifT (tgt := 17) rfl rfl (by decide +kernel) ?_
    refine zp_vret rfl rfl ?_
    exact hq e
theorem s_RR_requireMemberName {x : Int32} (hq : g_isM x = true → Q (.inl none) h) (he : g_isM x = false → Q (.inr 1) (zx h)) : zp_wm X y_RR_requireMemberName [.int x] h Q := by
  show zp_wp X y_RR_requireMemberName 0 [.int x] [] h Q
  refine zp_iload_n (x := x) rfl rfl ?_
  refine zp_call rfl rfl (s_RR_isMemberName ?_)
  cases e : g_isM x with
  | false =>
    show zp_wp X y_RR_requireMemberName 4 [.int x] [.int (nI 0)] h Q
    refine zp_ifF (tgt := 17) rfl rfl (by decide +kernel) ?_
    refine zp_throw rfl (by decide) ?_
    exact he e
  | true =>
    show zp_wp X y_RR_requireMemberName 4 [.int x] [.int (nI 1)] h Q
    refine zp_ifT (tgt := 17) rfl rfl (by decide +kernel) ?_
    refine zp_vret rfl rfl ?_
    exact hq e
theorem i2n_lt {x : Int32} {n : Nat} (h0 : ¬ x < 0) (hn : n < 2 ^ 31) : x < nI n ↔ i2n x < n := by
  have h1 := nI_i2n (Int32.not_lt.mp h0)
  have h2 : i2n x < 2 ^ 31 := by have := (nI_of h0).choose_spec; unfold i2n; rw [this.2, nI_clamp this.1]; exact this.1
  rw [← h1]
  have e : i2n (nI (i2n x)) = i2n x := by rw [h1]
  rw [e]
  exact ⟨fun q => Decidable.byContradiction (fun z => absurd q (Int32.not_lt.mpr (by
    rcases Nat.lt_or_eq_of_le (Nat.not_lt.mp z) with z1 | z1
    · exact Int32.le_of_lt (nI_lt z1 h2)
    · rw [z1]; exact Int32.le_refl _))), fun q => nI_lt q hn⟩
theorem s_RR_requireChange {i : Int32} {n : Nat} (hS : zs_H h) (hn : cf h 29 1 = nI n) (hn2 : n ≤ 30) (hq : g_lt n i = true → Q (.inl none) h) (he : g_lt n i = false → Q (.inr 0) (zx h)) : zp_wm X y_RR_requireChange [.ref 0, .int i] h Q := by
  show zp_wp X y_RR_requireChange 0 [.ref 0, .int i] [] h Q
  refine zp_iload_n (x := i) rfl rfl ?_
  refine zp_if_lt (tgt := 15) rfl rfl (fun b1 => ?_) (fun b1 => ?_)
  · refine zp_throw rfl (by decide) ?_
    refine he ?_
    unfold g_lt
    first
    | (rw [decide_eq_false (Int32.not_le.mpr b1)]; rfl)
    | (rw [decide_eq_false (fun q => b12 ((i2n_lt b1 (by omega)).mpr q)), Bool.and_false])
    | omega
  · refine zp_iload_n (x := i) rfl rfl ?_
    refine zp_aload_n (x := 0) rfl rfl ?_
    refine zq_getr (k9 := 29) hS rfl (by first | assumption | exact ⟨by decide, rfl⟩) rfl ?_
    refine zq_geti hS rfl (by first | assumption | exact ⟨by decide, rfl⟩) rfl ?_
    rw [hn]
    refine zp_icmp_lt (tgt := 25) rfl rfl (fun b12 => ?_) (fun b12 => ?_)
    · refine zp_vret rfl rfl ?_
      refine hq ?_
      unfold g_lt
      rw [decide_eq_true (Int32.not_lt.mp b1), decide_eq_true ((i2n_lt b1 (by omega)).mp b12)]
      rfl
    · refine zp_throw rfl (by decide) ?_
      refine he ?_
      unfold g_lt
      first
      | (rw [decide_eq_false (Int32.not_le.mpr b1)]; rfl)
      | (rw [decide_eq_false (fun q => b12 ((i2n_lt b1 (by omega)).mpr q)), Bool.and_false])
      | omega
theorem nI_s1 : ∀ n, n < 31 → 0 < n → nI n - nI 1 = nI (n - 1) := by decide +kernel
theorem s_RR_requireNeighbours {i : Int32} {n : Nat} (hS : zs_H h) (hn : cf h 29 1 = nI n) (hn2 : n ≤ 30) (hq : g_lt (n - 1) i = true → Q (.inl none) h) (he : g_lt (n - 1) i = false → Q (.inr 0) (zx h)) : zp_wm X y_RR_requireNeighbours [.ref 0, .int i] h Q := by
  show zp_wp X y_RR_requireNeighbours 0 [.ref 0, .int i] [] h Q
  by_cases h0 : n = 0
  · subst h0
    have hg : g_lt (0 - 1) i = false := by unfold g_lt; simp
    refine zp_iload_n (x := i) rfl rfl ?_
    refine zp_if_lt (tgt := 17) rfl rfl (fun b1 => ?_) (fun b1 => ?_)
    · refine zp_throw rfl (by decide) ?_
      exact he hg
    · refine zp_iload_n (x := i) rfl rfl ?_
      refine zp_aload_n (x := 0) rfl rfl ?_
      refine zq_getr (k9 := 29) hS rfl (by first | assumption | exact ⟨by decide, rfl⟩) rfl ?_
      refine zq_geti hS rfl (by first | assumption | exact ⟨by decide, rfl⟩) rfl ?_
      rw [hn]
      refine zp_iconst (v := (nI 1)) rfl (by decide +kernel) ?_
      refine zp_isub rfl rfl ?_
      refine zp_icmp_lt (tgt := 28) rfl rfl (fun b14 => ?_) (fun b14 => ?_)
      · refine zp_vret rfl rfl ?_
        exact absurd (Int32.not_lt.mp b1) (Int32.not_le.mpr (Int32.lt_of_lt_of_le b14 (by decide)))
      · refine zp_throw rfl (by decide) ?_
        exact he hg
  · have e1 := nI_s1 n (by omega) (by omega)
    refine zp_iload_n (x := i) rfl rfl ?_
    refine zp_if_lt (tgt := 17) rfl rfl (fun b1 => ?_) (fun b1 => ?_)
    · refine zp_throw rfl (by decide) ?_
      refine he ?_
      unfold g_lt
      first
      | (rw [decide_eq_false (Int32.not_le.mpr b1)]; rfl)
      | (rw [decide_eq_false (fun q => b14 ((i2n_lt b1 (by omega)).mpr q)), Bool.and_false])
      | omega
    · refine zp_iload_n (x := i) rfl rfl ?_
      refine zp_aload_n (x := 0) rfl rfl ?_
      refine zq_getr (k9 := 29) hS rfl (by first | assumption | exact ⟨by decide, rfl⟩) rfl ?_
      refine zq_geti hS rfl (by first | assumption | exact ⟨by decide, rfl⟩) rfl ?_
      rw [hn]
      refine zp_iconst (v := (nI 1)) rfl (by decide +kernel) ?_
      refine zp_isub rfl rfl ?_
      rw [e1]
      refine zp_icmp_lt (tgt := 28) rfl rfl (fun b14 => ?_) (fun b14 => ?_)
      · refine zp_vret rfl rfl ?_
        refine hq ?_
        unfold g_lt
        rw [decide_eq_true (Int32.not_lt.mp b1), decide_eq_true ((i2n_lt b1 (by omega)).mp b14)]
        rfl
      · refine zp_throw rfl (by decide) ?_
        refine he ?_
        unfold g_lt
        first
        | (rw [decide_eq_false (Int32.not_le.mpr b1)]; rfl)
        | (rw [decide_eq_false (fun q => b14 ((i2n_lt b1 (by omega)).mpr q)), Bool.and_false])
        | omega
theorem s_RR_requireSelection {sel : Int32} {n : Nat} (hS : zs_H h) (hn : cf h 29 1 = nI n) (hn2 : n ≤ 30) (hq : g_sel n sel = true → Q (.inl none) h) (he : g_sel n sel = false → Q (.inr 1) (zx h)) : zp_wm X y_RR_requireSelection [.ref 0, .int sel] h Q := by
  show zp_wp X y_RR_requireSelection 0 [.ref 0, .int sel, zm_mk] [] h Q
  refine zp_iconst (v := (nI 1)) rfl (by decide +kernel) ?_
  refine zp_aload_n (x := 0) rfl rfl ?_
  refine zq_getr (k9 := 29) hS rfl (by first | assumption | exact ⟨by decide, rfl⟩) rfl ?_
  refine zq_geti hS rfl (by first | assumption | exact ⟨by decide, rfl⟩) rfl ?_
  rw [hn]
  refine zp_ishl rfl rfl ?_
  refine zp_iconst (v := (nI 1)) rfl (by decide +kernel) ?_
  refine zp_isub rfl rfl ?_
  refine zp_istore_n_2 rfl rfl ?_
  refine zp_iload_n (x := sel) rfl rfl ?_
  refine zp_iconst (v := (-1)) rfl (by decide +kernel) ?_
  refine zp_icmp_eq (tgt := 36) rfl rfl (fun b14 => ?_) (fun b14 => ?_)
  · refine zp_vret rfl rfl ?_
    refine hq ?_
    unfold g_sel
    first
    | (rw [decide_eq_true b14]; rfl)
    | (have q := (g_sel_n hn2).mp b22
       rw [decide_eq_true q, decide_eq_true (g_sel_nn hn2 q), Bool.and_true, Bool.or_true])
    | omega
  · refine zp_iload_n (x := sel) rfl rfl ?_
    refine zp_iload_n (x := (((nI 1) <<< ((nI n) &&& 31)) - (nI 1))) rfl rfl ?_
    refine zp_iconst (v := (-1)) rfl (by decide +kernel) ?_
    refine zp_ixor rfl rfl ?_
    refine zp_iand rfl rfl ?_
    refine zp_if_eq (tgt := 36) rfl rfl (fun b22 => ?_) (fun b22 => ?_)
    · refine zp_vret rfl rfl ?_
      refine hq ?_
      unfold g_sel
      first
      | (rw [decide_eq_true b14]; rfl)
      | (have q := (g_sel_n hn2).mp b22
         rw [decide_eq_true q, decide_eq_true (g_sel_nn hn2 q), Bool.and_true, Bool.or_true])
      | omega
    · refine zp_throw rfl (by decide) ?_
      refine he ?_
      unfold g_sel
      rw [decide_eq_false b14, decide_eq_false (fun q => b22 ((g_sel_n hn2).mpr q)), Bool.and_false]
      rfl
/-! changes -/
theorem s_RR_change {x : Int32} {kind : Nat} {a m b n : Int32} (hs : zc_S s h) (hW : zc_W s) (hk : kind < 10) (hl : g_leg kind a m b n = true → (g_ok a ∧ g_ok m ∧ g_ok b ∧ g_ok n) ∧ zc_leg (kind, i2n a, i2n m, i2n b, i2n n)) (hq : zc_R (z_op s x kind a m b n) (fun k => k - 1) h Q) : zp_wm X y_RR_change [.ref 0, .int x, .int (nI kind), .int a, .int m, .int b, .int n] h Q := by
  have hS := hs.1
  have hW' := hW
  obtain ⟨⟨wb, w0, w1⟩, wl, wi, wn, wk, wo⟩ := hW
  show zp_wp X y_RR_change 0 [.ref 0, .int x, .int (nI kind), .int a, .int m, .int b, .int n, zm_mk, zm_mk] [] h Q
  unfold z_op z_chg at hq
  rcases g_ver_c x with hv | hv | hv
  · rw [if_pos hv] at hq
    refine zp_aload_n (x := 0) rfl rfl ?_
    refine zp_iload_n (x := x) rfl rfl ?_
    refine zq_virt hS rfl rfl (by first | assumption | exact ⟨by decide, rfl⟩) rfl (s_RR_programOf hS (fun q => by rw [hv] at q; cases q) (fun _ => hq.2 (show (1 : Nat) ≠ 0 by decide) _ hs.x zc_F.x))
  · subst hv
    rw [if_neg (show ¬ g_ver (nI 0) = false by decide +kernel)] at hq
    have go : ∀ hl1 : g_leg kind a m b n = true, zp_wp X y_RR_change 0 [.ref 0, .int (nI 0), .int (nI kind), .int a, .int m, .int b, .int n, zm_mk, zm_mk] [] h Q := by
      intro hl1
      rw [hl1, if_neg (by decide), if_pos (show nI 0 = 0 by decide)] at hq
      have hq : zc_R (if g_n s = 30 then (3, nI 0, s) else (0, nI (v_mk (g_0 s) (kind, i2n a, i2n m, i2n b, i2n n)).1, if (v_mk (g_0 s) (kind, i2n a, i2n m, i2n b, i2n n)).1 = 0 then z_app (z_put0 s (v_mk (g_0 s) (kind, i2n a, i2n m, i2n b, i2n n)).2.1) (kind, i2n a, i2n m, i2n b, i2n n) else z_put0 s (v_mk (g_0 s) (kind, i2n a, i2n m, i2n b, i2n n)).2.1)) (fun k => k - 1) h Q := hq
      obtain ⟨⟨oa, om, ob, on⟩, hlg⟩ := hl hl1
      have hok := hlg.ok
      have f9 : (v_mk (g_0 s) (kind, i2n a, i2n m, i2n b, i2n n)).1 < 10 := v_mk_9
      refine zp_aload_n (x := 0) rfl rfl ?_
      refine zp_iload_n (x := (nI 0)) rfl rfl ?_
      refine zq_virt hS rfl rfl (by first | assumption | exact ⟨by decide, rfl⟩) rfl (s_RR_programOf hS (fun _ => ?_) (fun q => absurd q (by decide +kernel)))
      rw [show q_ver (nI 0) = 8 by decide +kernel]
      show zp_wp X y_RR_change 5 [.ref 0, .int (nI 0), .int (nI kind), .int a, .int m, .int b, .int n, zm_mk, zm_mk] [.ref 8] h Q
      refine zp_astore_7 rfl rfl ?_
      refine zp_aload_n (x := 0) rfl rfl ?_
      refine zq_getr (k9 := 61) hS rfl (by first | assumption | exact ⟨by decide, rfl⟩) rfl ?_
      refine zp_iload_n (x := (nI kind)) rfl rfl ?_
      refine zp_iload_n (x := a) rfl rfl ?_
      refine zp_iload (x := m) rfl rfl ?_
      refine zp_iload (x := b) rfl rfl ?_
      refine zp_iload (x := n) rfl rfl ?_
      refine zq_virt hS rfl rfl (by first | assumption | exact ⟨by decide, rfl⟩) rfl (s_Change_set hS qC_61 (fun ha hSa hea hca => ?_))
      have hS := hSa
      have hsa : zc_S s ha := hs.eq hSa hea (fun x e => by omega)
      have hna := hsa.2.2.2.2.2.1
      have hca2 : zq_c (kind, i2n a, i2n m, i2n b, i2n n) 61 ha := ⟨hca.1, hca.2.1.trans oa.1.symm, hca.2.2.1.trans om.1.symm, hca.2.2.2.1.trans ob.1.symm, hca.2.2.2.2.trans on.1.symm⟩
      show zp_wp X y_RR_change 22 [.ref 0, .int (nI 0), .int (nI kind), .int a, .int m, .int b, .int n, .ref 8, zm_mk] [] ha Q
      refine zp_aload_n (x := 0) rfl rfl ?_
      refine zq_getr (k9 := 61) hS rfl (by first | assumption | exact ⟨by decide, rfl⟩) rfl ?_
      refine zq_virt hS rfl rfl (by first | assumption | exact ⟨by decide, rfl⟩) rfl (s_Change_hasLegalNames hSa qC_61 hca hk ?_)
      rw [hl1]
      show zp_wp X y_RR_change 29 [.ref 0, .int (nI 0), .int (nI kind), .int a, .int m, .int b, .int n, .ref 8, zm_mk] [.int (nI 1)] ha Q
      refine zp_ifT (tgt := 42) rfl rfl (by decide +kernel) ?_
      refine zp_iload_n (x := (nI 0)) rfl rfl ?_
      refine zp_ifF (tgt := 68) rfl rfl (by decide +kernel) ?_
      refine zp_aload_n (x := 0) rfl rfl ?_
      refine zq_getr (k9 := 29) hS rfl (by first | assumption | exact ⟨by decide, rfl⟩) rfl ?_
      refine zq_geti hS rfl (by first | assumption | exact ⟨by decide, rfl⟩) rfl ?_
      rw [hna]
      refine zp_bipush (v := (nI 30)) rfl (by decide +kernel) ?_
      refine zp_icmpN_lt (tgt := 68) rfl rfl (by omega) (by omega) (fun b55 => ?_) (fun b55 => ?_)
      · refine zp_aload (x := 8) rfl rfl ?_
        refine zp_aload_n (x := 0) rfl rfl ?_
        refine zq_getr (k9 := 61) hS rfl (by first | assumption | exact ⟨by decide, rfl⟩) rfl ?_
        refine zq_virt hS rfl rfl (by first | assumption | exact ⟨by decide, rfl⟩) rfl (s_Prog_attempt hSa qA_8 hsa.2.2.1 w0 qC_61 hca2 hlg (fun hb pb => ?_))
        have hS := pb.1
        have fb : zc_F h hb := zc_F.of (S := fun x => x = 61 ∨ (8 < x ∧ x ≤ 14)) ((hea.mono (fun x e => Or.inl e)).trans (pb.2.1.mono (fun x e => Or.inr e))) (fun x e => by omega)
        have hsb : zc_S (z_put0 s (v_mk (g_0 s) (kind, i2n a, i2n m, i2n b, i2n n)).2.1) hb := ⟨pb.1, hsa.2.1.eq pb.2.1 (fun x _ _ => by omega), pb.2.2, hsa.2.2.2.1.eq pb.2.1 (fun x _ _ => by omega), hsa.2.2.2.2.1.eq pb.2.1 (fun x _ _ => by omega), by rw [pb.2.1.gf (by omega)]; exact hna, by rw [pb.2.1.gf (by omega)]; exact hsa.2.2.2.2.2.2.1, by rw [pb.2.1.gi (by omega)]; exact hsa.2.2.2.2.2.2.2⟩
        show zp_wp X y_RR_change 77 [.ref 0, .int (nI 0), .int (nI kind), .int a, .int m, .int b, .int n, .ref 8, zm_mk] [.int (nI ((v_mk (g_0 s) (kind, i2n a, i2n m, i2n b, i2n n)).1))] hb Q
        refine zp_istore_8 rfl rfl ?_
        refine zp_iload (x := (nI ((v_mk (g_0 s) (kind, i2n a, i2n m, i2n b, i2n n)).1))) rfl rfl ?_
        refine zp_ifN_ne (tgt := 99) rfl rfl (by omega) (fun b81 => ?_) (fun b81 => ?_)
        · refine zp_iload (x := (nI ((v_mk (g_0 s) (kind, i2n a, i2n m, i2n b, i2n n)).1))) rfl rfl ?_
          refine zp_iret rfl rfl ?_
          rw [if_neg (show ¬ g_n s = 30 by omega)] at hq
          first
          | (rw [if_pos b81] at hq
             exact hq.1 rfl hc ⟨hSc, hsb.2.1.eq hec (fun x _ _ => by omega), hsb.2.2.1.eq hec (fun x _ _ => by omega), hsb.2.2.2.1.eq hec (fun x _ _ => by omega), hLc, hnc, by rw [hec.gf (by omega)]; exact hsb.2.2.2.2.2.2.1, by rw [hec.gi (by omega)]; exact hsb.2.2.2.2.2.2.2⟩ (zc_F.of (S := fun x => x = 61 ∨ (8 < x ∧ x ≤ 14) ∨ (29 ≤ x ∧ x ≤ 60)) (((hea.mono (fun x e => Or.inl e)).trans (pb.2.1.mono (fun x e => by omega))).trans (hec.mono (fun x e => by omega))) (fun x e => by omega)))
          | (rw [if_neg b81] at hq
             exact hq.1 rfl hb hsb fb)
          | omega
        · refine zp_iload_n (x := (nI 0)) rfl rfl ?_
          refine zp_ifF (tgt := 99) rfl rfl (by decide +kernel) ?_
          refine zp_aload_n (x := 0) rfl rfl ?_
          refine zq_getr (k9 := 29) hS rfl (by first | assumption | exact ⟨by decide, rfl⟩) rfl ?_
          refine zp_aload_n (x := 0) rfl rfl ?_
          refine zq_getr (k9 := 61) hS rfl (by first | assumption | exact ⟨by decide, rfl⟩) rfl ?_
          refine zq_virt hS rfl rfl (by first | assumption | exact ⟨by decide, rfl⟩) rfl (s_List_append (n := g_n s) pb.1 qK_29 hsb.2.2.2.2.1 hsb.2.2.2.2.2.1 (by omega) qC_61 (hca2.eq pb.2.1 (by omega)) (fun hc hSc hec hLc hnc => ?_))
          have hS := hSc
          show zp_wp X y_RR_change 99 [.ref 0, .int (nI 0), .int (nI kind), .int a, .int m, .int b, .int n, .ref 8, .int (nI ((v_mk (g_0 s) (kind, i2n a, i2n m, i2n b, i2n n)).1))] [] hc Q
          refine zp_iload (x := (nI ((v_mk (g_0 s) (kind, i2n a, i2n m, i2n b, i2n n)).1))) rfl rfl ?_
          refine zp_iret rfl rfl ?_
          rw [if_neg (show ¬ g_n s = 30 by omega)] at hq
          first
          | (rw [if_pos b81] at hq
             exact hq.1 rfl hc ⟨hSc, hsb.2.1.eq hec (fun x _ _ => by omega), hsb.2.2.1.eq hec (fun x _ _ => by omega), hsb.2.2.2.1.eq hec (fun x _ _ => by omega), hLc, hnc, by rw [hec.gf (by omega)]; exact hsb.2.2.2.2.2.2.1, by rw [hec.gi (by omega)]; exact hsb.2.2.2.2.2.2.2⟩ (zc_F.of (S := fun x => x = 61 ∨ (8 < x ∧ x ≤ 14) ∨ (29 ≤ x ∧ x ≤ 60)) (((hea.mono (fun x e => Or.inl e)).trans (pb.2.1.mono (fun x e => by omega))).trans (hec.mono (fun x e => by omega))) (fun x e => by omega)))
          | (rw [if_neg b81] at hq
             exact hq.1 rfl hb hsb fb)
          | omega
      · refine zp_throw rfl (by decide) ?_
        rw [if_pos (by omega)] at hq
        exact hq.2 (by show 3 ≠ 0; decide) _ hsa.x (zc_F.ox hea (fun x e => by omega))
    cases hl1 : g_leg kind a m b n with
    | true => exact go hl1
    | false =>
      rw [hl1, if_pos rfl] at hq
      refine zp_aload_n (x := 0) rfl rfl ?_
      refine zp_iload_n (x := (nI 0)) rfl rfl ?_
      refine zq_virt hS rfl rfl (by first | assumption | exact ⟨by decide, rfl⟩) rfl (s_RR_programOf hS (fun _ => ?_) (fun q => absurd q (by decide +kernel)))
      rw [show q_ver (nI 0) = 8 by decide +kernel]
      show zp_wp X y_RR_change 5 [.ref 0, .int (nI 0), .int (nI kind), .int a, .int m, .int b, .int n, zm_mk, zm_mk] [.ref 8] h Q
      refine zp_astore_7 rfl rfl ?_
      refine zp_aload_n (x := 0) rfl rfl ?_
      refine zq_getr (k9 := 61) hS rfl (by first | assumption | exact ⟨by decide, rfl⟩) rfl ?_
      refine zp_iload_n (x := (nI kind)) rfl rfl ?_
      refine zp_iload_n (x := a) rfl rfl ?_
      refine zp_iload (x := m) rfl rfl ?_
      refine zp_iload (x := b) rfl rfl ?_
      refine zp_iload (x := n) rfl rfl ?_
      refine zq_virt hS rfl rfl (by first | assumption | exact ⟨by decide, rfl⟩) rfl (s_Change_set hS qC_61 (fun ha hSa hea hca => ?_))
      have hS := hSa
      have hsa : zc_S s ha := hs.eq hSa hea (fun x e => by omega)
      show zp_wp X y_RR_change 22 [.ref 0, .int (nI 0), .int (nI kind), .int a, .int m, .int b, .int n, .ref 8, zm_mk] [] ha Q
      refine zp_aload_n (x := 0) rfl rfl ?_
      refine zq_getr (k9 := 61) hS rfl (by first | assumption | exact ⟨by decide, rfl⟩) rfl ?_
      refine zq_virt hS rfl rfl (by first | assumption | exact ⟨by decide, rfl⟩) rfl (s_Change_hasLegalNames hSa qC_61 hca hk ?_)
      rw [hl1]
      show zp_wp X y_RR_change 29 [.ref 0, .int (nI 0), .int (nI kind), .int a, .int m, .int b, .int n, .ref 8, zm_mk] [.int (nI 0)] ha Q
      refine zp_ifF (tgt := 42) rfl rfl (by decide +kernel) ?_
      refine zp_throw rfl (by decide) ?_
      exact hq.2 (by show 2 ≠ 0; decide) _ hsa.x (zc_F.ox hea (fun x e => by omega))
  · subst hv
    rw [if_neg (show ¬ g_ver (nI 1) = false by decide +kernel)] at hq
    have go : ∀ hl1 : g_leg kind a m b n = true, zp_wp X y_RR_change 0 [.ref 0, .int (nI 1), .int (nI kind), .int a, .int m, .int b, .int n, zm_mk, zm_mk] [] h Q := by
      intro hl1
      rw [hl1, if_neg (by decide), if_neg (show ¬ nI 1 = 0 by decide)] at hq
      obtain ⟨⟨oa, om, ob, on⟩, hlg⟩ := hl hl1
      have hok := hlg.ok
      have f9 : (v_mk (g_1 s) (kind, i2n a, i2n m, i2n b, i2n n)).1 < 10 := v_mk_9
      refine zp_aload_n (x := 0) rfl rfl ?_
      refine zp_iload_n (x := (nI 1)) rfl rfl ?_
      refine zq_virt hS rfl rfl (by first | assumption | exact ⟨by decide, rfl⟩) rfl (s_RR_programOf hS (fun _ => ?_) (fun q => absurd q (by decide +kernel)))
      rw [show q_ver (nI 1) = 15 by decide +kernel]
      show zp_wp X y_RR_change 5 [.ref 0, .int (nI 1), .int (nI kind), .int a, .int m, .int b, .int n, zm_mk, zm_mk] [.ref 15] h Q
      refine zp_astore_7 rfl rfl ?_
      refine zp_aload_n (x := 0) rfl rfl ?_
      refine zq_getr (k9 := 61) hS rfl (by first | assumption | exact ⟨by decide, rfl⟩) rfl ?_
      refine zp_iload_n (x := (nI kind)) rfl rfl ?_
      refine zp_iload_n (x := a) rfl rfl ?_
      refine zp_iload (x := m) rfl rfl ?_
      refine zp_iload (x := b) rfl rfl ?_
      refine zp_iload (x := n) rfl rfl ?_
      refine zq_virt hS rfl rfl (by first | assumption | exact ⟨by decide, rfl⟩) rfl (s_Change_set hS qC_61 (fun ha hSa hea hca => ?_))
      have hS := hSa
      have hsa : zc_S s ha := hs.eq hSa hea (fun x e => by omega)
      have hna := hsa.2.2.2.2.2.1
      have hca2 : zq_c (kind, i2n a, i2n m, i2n b, i2n n) 61 ha := ⟨hca.1, hca.2.1.trans oa.1.symm, hca.2.2.1.trans om.1.symm, hca.2.2.2.1.trans ob.1.symm, hca.2.2.2.2.trans on.1.symm⟩
      show zp_wp X y_RR_change 22 [.ref 0, .int (nI 1), .int (nI kind), .int a, .int m, .int b, .int n, .ref 15, zm_mk] [] ha Q
      refine zp_aload_n (x := 0) rfl rfl ?_
      refine zq_getr (k9 := 61) hS rfl (by first | assumption | exact ⟨by decide, rfl⟩) rfl ?_
      refine zq_virt hS rfl rfl (by first | assumption | exact ⟨by decide, rfl⟩) rfl (s_Change_hasLegalNames hSa qC_61 hca hk ?_)
      rw [hl1]
      show zp_wp X y_RR_change 29 [.ref 0, .int (nI 1), .int (nI kind), .int a, .int m, .int b, .int n, .ref 15, zm_mk] [.int (nI 1)] ha Q
      refine zp_ifT (tgt := 42) rfl rfl (by decide +kernel) ?_
      refine zp_iload_n (x := (nI 1)) rfl rfl ?_
      refine zp_ifT (tgt := 68) rfl rfl (by decide +kernel) ?_
      refine zp_aload (x := 15) rfl rfl ?_
      refine zp_aload_n (x := 0) rfl rfl ?_
      refine zq_getr (k9 := 61) hS rfl (by first | assumption | exact ⟨by decide, rfl⟩) rfl ?_
      refine zq_virt hS rfl rfl (by first | assumption | exact ⟨by decide, rfl⟩) rfl (s_Prog_attempt hSa qA_15 hsa.2.2.2.1 w1 qC_61 hca2 hlg (fun hb pb => ?_))
      have hS := pb.1
      have fb : zc_F h hb := zc_F.of (S := fun x => x = 61 ∨ (15 < x ∧ x ≤ 21)) ((hea.mono (fun x e => Or.inl e)).trans (pb.2.1.mono (fun x e => Or.inr e))) (fun x e => by omega)
      have hsb : zc_S (z_put1 s (v_mk (g_1 s) (kind, i2n a, i2n m, i2n b, i2n n)).2.1) hb := ⟨pb.1, hsa.2.1.eq pb.2.1 (fun x _ _ => by omega), hsa.2.2.1.eq pb.2.1 (fun x _ _ => by omega), pb.2.2, hsa.2.2.2.2.1.eq pb.2.1 (fun x _ _ => by omega), by rw [pb.2.1.gf (by omega)]; exact hna, by rw [pb.2.1.gf (by omega)]; exact hsa.2.2.2.2.2.2.1, by rw [pb.2.1.gi (by omega)]; exact hsa.2.2.2.2.2.2.2⟩
      show zp_wp X y_RR_change 77 [.ref 0, .int (nI 1), .int (nI kind), .int a, .int m, .int b, .int n, .ref 15, zm_mk] [.int (nI ((v_mk (g_1 s) (kind, i2n a, i2n m, i2n b, i2n n)).1))] hb Q
      refine zp_istore_8 rfl rfl ?_
      refine zp_iload (x := (nI ((v_mk (g_1 s) (kind, i2n a, i2n m, i2n b, i2n n)).1))) rfl rfl ?_
      refine zp_ifN_ne (tgt := 99) rfl rfl (by omega) (fun b81 => ?_) (fun b81 => ?_)
      · refine zp_iload (x := (nI ((v_mk (g_1 s) (kind, i2n a, i2n m, i2n b, i2n n)).1))) rfl rfl ?_
        refine zp_iret rfl rfl ?_
        exact hq.1 rfl hb hsb fb
      · refine zp_iload_n (x := (nI 1)) rfl rfl ?_
        refine zp_ifT (tgt := 99) rfl rfl (by decide +kernel) ?_
        refine zp_iload (x := (nI ((v_mk (g_1 s) (kind, i2n a, i2n m, i2n b, i2n n)).1))) rfl rfl ?_
        refine zp_iret rfl rfl ?_
        exact hq.1 rfl hb hsb fb
    cases hl1 : g_leg kind a m b n with
    | true => exact go hl1
    | false =>
      rw [hl1, if_pos rfl] at hq
      refine zp_aload_n (x := 0) rfl rfl ?_
      refine zp_iload_n (x := (nI 1)) rfl rfl ?_
      refine zq_virt hS rfl rfl (by first | assumption | exact ⟨by decide, rfl⟩) rfl (s_RR_programOf hS (fun _ => ?_) (fun q => absurd q (by decide +kernel)))
      rw [show q_ver (nI 1) = 15 by decide +kernel]
      show zp_wp X y_RR_change 5 [.ref 0, .int (nI 1), .int (nI kind), .int a, .int m, .int b, .int n, zm_mk, zm_mk] [.ref 15] h Q
      refine zp_astore_7 rfl rfl ?_
      refine zp_aload_n (x := 0) rfl rfl ?_
      refine zq_getr (k9 := 61) hS rfl (by first | assumption | exact ⟨by decide, rfl⟩) rfl ?_
      refine zp_iload_n (x := (nI kind)) rfl rfl ?_
      refine zp_iload_n (x := a) rfl rfl ?_
      refine zp_iload (x := m) rfl rfl ?_
      refine zp_iload (x := b) rfl rfl ?_
      refine zp_iload (x := n) rfl rfl ?_
      refine zq_virt hS rfl rfl (by first | assumption | exact ⟨by decide, rfl⟩) rfl (s_Change_set hS qC_61 (fun ha hSa hea hca => ?_))
      have hS := hSa
      have hsa : zc_S s ha := hs.eq hSa hea (fun x e => by omega)
      show zp_wp X y_RR_change 22 [.ref 0, .int (nI 1), .int (nI kind), .int a, .int m, .int b, .int n, .ref 15, zm_mk] [] ha Q
      refine zp_aload_n (x := 0) rfl rfl ?_
      refine zq_getr (k9 := 61) hS rfl (by first | assumption | exact ⟨by decide, rfl⟩) rfl ?_
      refine zq_virt hS rfl rfl (by first | assumption | exact ⟨by decide, rfl⟩) rfl (s_Change_hasLegalNames hSa qC_61 hca hk ?_)
      rw [hl1]
      show zp_wp X y_RR_change 29 [.ref 0, .int (nI 1), .int (nI kind), .int a, .int m, .int b, .int n, .ref 15, zm_mk] [.int (nI 0)] ha Q
      refine zp_ifF (tgt := 42) rfl rfl (by decide +kernel) ?_
      refine zp_throw rfl (by decide) ?_
      exact hq.2 (by show 2 ≠ 0; decide) _ hsa.x (zc_F.ox hea (fun x e => by omega))
theorem i2n_0 : i2n (nI 0) = 0 := by decide +kernel
theorem s_RR_addClass {x a : Int32} (hs : zc_S s h) (hW : zc_W s) (hq : zc_R (z_op s x 0 a (nI 0) (nI 0) (nI 0)) (fun k => k - 1) h Q) : zp_wm X y_RR_addClass [.ref 0, .int x, .int a] h Q := by
  have hS := hs.1
  have hl : g_leg 0 a (nI 0) (nI 0) (nI 0) = true → (g_ok a ∧ g_ok (nI 0) ∧ g_ok (nI 0) ∧ g_ok (nI 0)) ∧ zc_leg (0, i2n a, i2n (nI 0), i2n (nI 0), i2n (nI 0)) := by
    intro hl
    have ea : g_isC a = true := hl
    have na := (g_isC_n ea).2
    refine ⟨⟨g_okC ea, g_ok0, g_ok0, g_ok0⟩, ?_⟩
    have z0 := i2n_0
    unfold zc_leg
    dsimp only
    omega
  show zp_wp X y_RR_addClass 0 [.ref 0, .int x, .int a] [] h Q
  refine zp_aload_n (x := 0) rfl rfl ?_
  refine zp_iload_n (x := x) rfl rfl ?_
  refine zp_iconst (v := (nI 0)) rfl (by decide +kernel) ?_
  refine zp_iload_n (x := a) rfl rfl ?_
  refine zp_iconst (v := (nI 0)) rfl (by decide +kernel) ?_
  refine zp_iconst (v := (nI 0)) rfl (by decide +kernel) ?_
  refine zp_iconst (v := (nI 0)) rfl (by decide +kernel) ?_
  refine zq_virt hS rfl rfl (by first | assumption | exact ⟨by decide, rfl⟩) rfl (s_RR_change hs hW (by decide) hl ⟨fun z h2 s2 f2 => ?_, fun z h2 s2 f2 => hq.2 z h2 s2 f2⟩)
  show zp_wp X y_RR_addClass 10 [.ref 0, .int x, .int a] [.int ((z_op s x 0 a (nI 0) (nI 0) (nI 0)).2.1)] h2 Q
  refine zp_iret rfl rfl ?_
  exact hq.1 z h2 s2 f2
theorem s_RR_removeClass {x a : Int32} (hs : zc_S s h) (hW : zc_W s) (hq : zc_R (z_op s x 1 a (nI 0) (nI 0) (nI 0)) (fun k => k - 1) h Q) : zp_wm X y_RR_removeClass [.ref 0, .int x, .int a] h Q := by
  have hS := hs.1
  have hl : g_leg 1 a (nI 0) (nI 0) (nI 0) = true → (g_ok a ∧ g_ok (nI 0) ∧ g_ok (nI 0) ∧ g_ok (nI 0)) ∧ zc_leg (1, i2n a, i2n (nI 0), i2n (nI 0), i2n (nI 0)) := by
    intro hl
    have ea : g_isC a = true := hl
    have na := (g_isC_n ea).2
    refine ⟨⟨g_okC ea, g_ok0, g_ok0, g_ok0⟩, ?_⟩
    have z0 := i2n_0
    unfold zc_leg
    dsimp only
    omega
  show zp_wp X y_RR_removeClass 0 [.ref 0, .int x, .int a] [] h Q
  refine zp_aload_n (x := 0) rfl rfl ?_
  refine zp_iload_n (x := x) rfl rfl ?_
  refine zp_iconst (v := (nI 1)) rfl (by decide +kernel) ?_
  refine zp_iload_n (x := a) rfl rfl ?_
  refine zp_iconst (v := (nI 0)) rfl (by decide +kernel) ?_
  refine zp_iconst (v := (nI 0)) rfl (by decide +kernel) ?_
  refine zp_iconst (v := (nI 0)) rfl (by decide +kernel) ?_
  refine zq_virt hS rfl rfl (by first | assumption | exact ⟨by decide, rfl⟩) rfl (s_RR_change hs hW (by decide) hl ⟨fun z h2 s2 f2 => ?_, fun z h2 s2 f2 => hq.2 z h2 s2 f2⟩)
  show zp_wp X y_RR_removeClass 10 [.ref 0, .int x, .int a] [.int ((z_op s x 1 a (nI 0) (nI 0) (nI 0)).2.1)] h2 Q
  refine zp_iret rfl rfl ?_
  exact hq.1 z h2 s2 f2
theorem s_RR_renameClass {x a b : Int32} (hs : zc_S s h) (hW : zc_W s) (hq : zc_R (z_op s x 2 a (nI 0) b (nI 0)) (fun k => k - 1) h Q) : zp_wm X y_RR_renameClass [.ref 0, .int x, .int a, .int b] h Q := by
  have hS := hs.1
  have hl : g_leg 2 a (nI 0) b (nI 0) = true → (g_ok a ∧ g_ok (nI 0) ∧ g_ok b ∧ g_ok (nI 0)) ∧ zc_leg (2, i2n a, i2n (nI 0), i2n b, i2n (nI 0)) := by
    intro hl
    have hl : (g_isC a && g_isC b) = true := hl
    rw [Bool.and_eq_true] at hl
    obtain ⟨ea, eb⟩ := hl
    have na := (g_isC_n ea).2
    have nb := (g_isC_n eb).2
    refine ⟨⟨g_okC ea, g_ok0, g_okC eb, g_ok0⟩, ?_⟩
    have z0 := i2n_0
    unfold zc_leg
    dsimp only
    omega
  show zp_wp X y_RR_renameClass 0 [.ref 0, .int x, .int a, .int b] [] h Q
  refine zp_aload_n (x := 0) rfl rfl ?_
  refine zp_iload_n (x := x) rfl rfl ?_
  refine zp_iconst (v := (nI 2)) rfl (by decide +kernel) ?_
  refine zp_iload_n (x := a) rfl rfl ?_
  refine zp_iconst (v := (nI 0)) rfl (by decide +kernel) ?_
  refine zp_iload_n (x := b) rfl rfl ?_
  refine zp_iconst (v := (nI 0)) rfl (by decide +kernel) ?_
  refine zq_virt hS rfl rfl (by first | assumption | exact ⟨by decide, rfl⟩) rfl (s_RR_change hs hW (by decide) hl ⟨fun z h2 s2 f2 => ?_, fun z h2 s2 f2 => hq.2 z h2 s2 f2⟩)
  show zp_wp X y_RR_renameClass 10 [.ref 0, .int x, .int a, .int b] [.int ((z_op s x 2 a (nI 0) b (nI 0)).2.1)] h2 Q
  refine zp_iret rfl rfl ?_
  exact hq.1 z h2 s2 f2
theorem s_RR_setSuper {x a b : Int32} (hs : zc_S s h) (hW : zc_W s) (hq : zc_R (z_op s x 3 a (nI 0) b (nI 0)) (fun k => k - 1) h Q) : zp_wm X y_RR_setSuper [.ref 0, .int x, .int a, .int b] h Q := by
  have hS := hs.1
  have hl : g_leg 3 a (nI 0) b (nI 0) = true → (g_ok a ∧ g_ok (nI 0) ∧ g_ok b ∧ g_ok (nI 0)) ∧ zc_leg (3, i2n a, i2n (nI 0), i2n b, i2n (nI 0)) := by
    intro hl
    have hl : (g_isC a && (decide (b = 0) || g_isC b)) = true := hl
    rw [Bool.and_eq_true, Bool.or_eq_true, decide_eq_true_eq] at hl
    obtain ⟨ea, eb⟩ := hl
    have na := (g_isC_n ea).2
    have nb : i2n b = 0 ∨ (65 ≤ i2n b ∧ i2n b ≤ 90) := eb.elim (fun q => Or.inl (by rw [q]; decide +kernel)) (fun q => Or.inr (g_isC_n q).2)
    have ob : g_ok b := eb.elim (fun q => by rw [q]; exact g_ok0) (fun q => g_okC q)
    refine ⟨⟨g_okC ea, g_ok0, ob, g_ok0⟩, ?_⟩
    have z0 := i2n_0
    unfold zc_leg
    dsimp only
    omega
  show zp_wp X y_RR_setSuper 0 [.ref 0, .int x, .int a, .int b] [] h Q
  refine zp_aload_n (x := 0) rfl rfl ?_
  refine zp_iload_n (x := x) rfl rfl ?_
  refine zp_iconst (v := (nI 3)) rfl (by decide +kernel) ?_
  refine zp_iload_n (x := a) rfl rfl ?_
  refine zp_iconst (v := (nI 0)) rfl (by decide +kernel) ?_
  refine zp_iload_n (x := b) rfl rfl ?_
  refine zp_iconst (v := (nI 0)) rfl (by decide +kernel) ?_
  refine zq_virt hS rfl rfl (by first | assumption | exact ⟨by decide, rfl⟩) rfl (s_RR_change hs hW (by decide) hl ⟨fun z h2 s2 f2 => ?_, fun z h2 s2 f2 => hq.2 z h2 s2 f2⟩)
  show zp_wp X y_RR_setSuper 10 [.ref 0, .int x, .int a, .int b] [.int ((z_op s x 3 a (nI 0) b (nI 0)).2.1)] h2 Q
  refine zp_iret rfl rfl ?_
  exact hq.1 z h2 s2 f2
theorem s_RR_addMember {x a m : Int32} (hs : zc_S s h) (hW : zc_W s) (hq : zc_R (z_op s x 4 a m (nI 0) (nI 0)) (fun k => k - 1) h Q) : zp_wm X y_RR_addMember [.ref 0, .int x, .int a, .int m] h Q := by
  have hS := hs.1
  have hl : g_leg 4 a m (nI 0) (nI 0) = true → (g_ok a ∧ g_ok m ∧ g_ok (nI 0) ∧ g_ok (nI 0)) ∧ zc_leg (4, i2n a, i2n m, i2n (nI 0), i2n (nI 0)) := by
    intro hl
    have hl : (g_isC a && g_isM m) = true := hl
    rw [Bool.and_eq_true] at hl
    obtain ⟨ea, em⟩ := hl
    have na := (g_isC_n ea).2
    have nm := (g_isM_n em).2
    refine ⟨⟨g_okC ea, g_okM em, g_ok0, g_ok0⟩, ?_⟩
    have z0 := i2n_0
    unfold zc_leg
    dsimp only
    omega
  show zp_wp X y_RR_addMember 0 [.ref 0, .int x, .int a, .int m] [] h Q
  refine zp_aload_n (x := 0) rfl rfl ?_
  refine zp_iload_n (x := x) rfl rfl ?_
  refine zp_iconst (v := (nI 4)) rfl (by decide +kernel) ?_
  refine zp_iload_n (x := a) rfl rfl ?_
  refine zp_iload_n (x := m) rfl rfl ?_
  refine zp_iconst (v := (nI 0)) rfl (by decide +kernel) ?_
  refine zp_iconst (v := (nI 0)) rfl (by decide +kernel) ?_
  refine zq_virt hS rfl rfl (by first | assumption | exact ⟨by decide, rfl⟩) rfl (s_RR_change hs hW (by decide) hl ⟨fun z h2 s2 f2 => ?_, fun z h2 s2 f2 => hq.2 z h2 s2 f2⟩)
  show zp_wp X y_RR_addMember 10 [.ref 0, .int x, .int a, .int m] [.int ((z_op s x 4 a m (nI 0) (nI 0)).2.1)] h2 Q
  refine zp_iret rfl rfl ?_
  exact hq.1 z h2 s2 f2
theorem s_RR_removeMember {x a m : Int32} (hs : zc_S s h) (hW : zc_W s) (hq : zc_R (z_op s x 5 a m (nI 0) (nI 0)) (fun k => k - 1) h Q) : zp_wm X y_RR_removeMember [.ref 0, .int x, .int a, .int m] h Q := by
  have hS := hs.1
  have hl : g_leg 5 a m (nI 0) (nI 0) = true → (g_ok a ∧ g_ok m ∧ g_ok (nI 0) ∧ g_ok (nI 0)) ∧ zc_leg (5, i2n a, i2n m, i2n (nI 0), i2n (nI 0)) := by
    intro hl
    have hl : (g_isC a && g_isM m) = true := hl
    rw [Bool.and_eq_true] at hl
    obtain ⟨ea, em⟩ := hl
    have na := (g_isC_n ea).2
    have nm := (g_isM_n em).2
    refine ⟨⟨g_okC ea, g_okM em, g_ok0, g_ok0⟩, ?_⟩
    have z0 := i2n_0
    unfold zc_leg
    dsimp only
    omega
  show zp_wp X y_RR_removeMember 0 [.ref 0, .int x, .int a, .int m] [] h Q
  refine zp_aload_n (x := 0) rfl rfl ?_
  refine zp_iload_n (x := x) rfl rfl ?_
  refine zp_iconst (v := (nI 5)) rfl (by decide +kernel) ?_
  refine zp_iload_n (x := a) rfl rfl ?_
  refine zp_iload_n (x := m) rfl rfl ?_
  refine zp_iconst (v := (nI 0)) rfl (by decide +kernel) ?_
  refine zp_iconst (v := (nI 0)) rfl (by decide +kernel) ?_
  refine zq_virt hS rfl rfl (by first | assumption | exact ⟨by decide, rfl⟩) rfl (s_RR_change hs hW (by decide) hl ⟨fun z h2 s2 f2 => ?_, fun z h2 s2 f2 => hq.2 z h2 s2 f2⟩)
  show zp_wp X y_RR_removeMember 10 [.ref 0, .int x, .int a, .int m] [.int ((z_op s x 5 a m (nI 0) (nI 0)).2.1)] h2 Q
  refine zp_iret rfl rfl ?_
  exact hq.1 z h2 s2 f2
theorem s_RR_renameMember {x a m n : Int32} (hs : zc_S s h) (hW : zc_W s) (hq : zc_R (z_op s x 6 a m (nI 0) n) (fun k => k - 1) h Q) : zp_wm X y_RR_renameMember [.ref 0, .int x, .int a, .int m, .int n] h Q := by
  have hS := hs.1
  have hl : g_leg 6 a m (nI 0) n = true → (g_ok a ∧ g_ok m ∧ g_ok (nI 0) ∧ g_ok n) ∧ zc_leg (6, i2n a, i2n m, i2n (nI 0), i2n n) := by
    intro hl
    have hl : (g_isC a && g_isM m && g_isM n) = true := hl
    rw [Bool.and_eq_true, Bool.and_eq_true] at hl
    obtain ⟨⟨ea, em⟩, en⟩ := hl
    have na := (g_isC_n ea).2
    have nm := (g_isM_n em).2
    have nn := (g_isM_n en).2
    refine ⟨⟨g_okC ea, g_okM em, g_ok0, g_okM en⟩, ?_⟩
    have z0 := i2n_0
    unfold zc_leg
    dsimp only
    omega
  show zp_wp X y_RR_renameMember 0 [.ref 0, .int x, .int a, .int m, .int n] [] h Q
  refine zp_aload_n (x := 0) rfl rfl ?_
  refine zp_iload_n (x := x) rfl rfl ?_
  refine zp_bipush (v := (nI 6)) rfl (by decide +kernel) ?_
  refine zp_iload_n (x := a) rfl rfl ?_
  refine zp_iload_n (x := m) rfl rfl ?_
  refine zp_iconst (v := (nI 0)) rfl (by decide +kernel) ?_
  refine zp_iload (x := n) rfl rfl ?_
  refine zq_virt hS rfl rfl (by first | assumption | exact ⟨by decide, rfl⟩) rfl (s_RR_change hs hW (by decide) hl ⟨fun z h2 s2 f2 => ?_, fun z h2 s2 f2 => hq.2 z h2 s2 f2⟩)
  show zp_wp X y_RR_renameMember 12 [.ref 0, .int x, .int a, .int m, .int n] [.int ((z_op s x 6 a m (nI 0) n).2.1)] h2 Q
  refine zp_iret rfl rfl ?_
  exact hq.1 z h2 s2 f2
theorem s_RR_moveMember {x a m b : Int32} (hs : zc_S s h) (hW : zc_W s) (hq : zc_R (z_op s x 7 a m b (nI 0)) (fun k => k - 1) h Q) : zp_wm X y_RR_moveMember [.ref 0, .int x, .int a, .int m, .int b] h Q := by
  have hS := hs.1
  have hl : g_leg 7 a m b (nI 0) = true → (g_ok a ∧ g_ok m ∧ g_ok b ∧ g_ok (nI 0)) ∧ zc_leg (7, i2n a, i2n m, i2n b, i2n (nI 0)) := by
    intro hl
    have hl : (g_isC a && g_isM m && g_isC b) = true := hl
    rw [Bool.and_eq_true, Bool.and_eq_true] at hl
    obtain ⟨⟨ea, em⟩, eb⟩ := hl
    have na := (g_isC_n ea).2
    have nm := (g_isM_n em).2
    have nb := (g_isC_n eb).2
    refine ⟨⟨g_okC ea, g_okM em, g_okC eb, g_ok0⟩, ?_⟩
    have z0 := i2n_0
    unfold zc_leg
    dsimp only
    omega
  show zp_wp X y_RR_moveMember 0 [.ref 0, .int x, .int a, .int m, .int b] [] h Q
  refine zp_aload_n (x := 0) rfl rfl ?_
  refine zp_iload_n (x := x) rfl rfl ?_
  refine zp_bipush (v := (nI 7)) rfl (by decide +kernel) ?_
  refine zp_iload_n (x := a) rfl rfl ?_
  refine zp_iload_n (x := m) rfl rfl ?_
  refine zp_iload (x := b) rfl rfl ?_
  refine zp_iconst (v := (nI 0)) rfl (by decide +kernel) ?_
  refine zq_virt hS rfl rfl (by first | assumption | exact ⟨by decide, rfl⟩) rfl (s_RR_change hs hW (by decide) hl ⟨fun z h2 s2 f2 => ?_, fun z h2 s2 f2 => hq.2 z h2 s2 f2⟩)
  show zp_wp X y_RR_moveMember 12 [.ref 0, .int x, .int a, .int m, .int b] [.int ((z_op s x 7 a m b (nI 0)).2.1)] h2 Q
  refine zp_iret rfl rfl ?_
  exact hq.1 z h2 s2 f2
theorem s_RR_addUse {x a m b n : Int32} (hs : zc_S s h) (hW : zc_W s) (hq : zc_R (z_op s x 8 a m b n) (fun k => k - 1) h Q) : zp_wm X y_RR_addUse [.ref 0, .int x, .int a, .int m, .int b, .int n] h Q := by
  have hS := hs.1
  have hl : g_leg 8 a m b n = true → (g_ok a ∧ g_ok m ∧ g_ok b ∧ g_ok n) ∧ zc_leg (8, i2n a, i2n m, i2n b, i2n n) := by
    intro hl
    have hl : (g_isC a && g_isM m && g_isC b && g_isM n) = true := hl
    rw [Bool.and_eq_true, Bool.and_eq_true, Bool.and_eq_true] at hl
    obtain ⟨⟨⟨ea, em⟩, eb⟩, en⟩ := hl
    have na := (g_isC_n ea).2
    have nm := (g_isM_n em).2
    have nb := (g_isC_n eb).2
    have nn := (g_isM_n en).2
    refine ⟨⟨g_okC ea, g_okM em, g_okC eb, g_okM en⟩, ?_⟩
    have z0 := i2n_0
    unfold zc_leg
    dsimp only
    omega
  show zp_wp X y_RR_addUse 0 [.ref 0, .int x, .int a, .int m, .int b, .int n] [] h Q
  refine zp_aload_n (x := 0) rfl rfl ?_
  refine zp_iload_n (x := x) rfl rfl ?_
  refine zp_bipush (v := (nI 8)) rfl (by decide +kernel) ?_
  refine zp_iload_n (x := a) rfl rfl ?_
  refine zp_iload_n (x := m) rfl rfl ?_
  refine zp_iload (x := b) rfl rfl ?_
  refine zp_iload (x := n) rfl rfl ?_
  refine zq_virt hS rfl rfl (by first | assumption | exact ⟨by decide, rfl⟩) rfl (s_RR_change hs hW (by decide) hl ⟨fun z h2 s2 f2 => ?_, fun z h2 s2 f2 => hq.2 z h2 s2 f2⟩)
  show zp_wp X y_RR_addUse 13 [.ref 0, .int x, .int a, .int m, .int b, .int n] [.int ((z_op s x 8 a m b n).2.1)] h2 Q
  refine zp_iret rfl rfl ?_
  exact hq.1 z h2 s2 f2
theorem s_RR_removeUse {x a m b n : Int32} (hs : zc_S s h) (hW : zc_W s) (hq : zc_R (z_op s x 9 a m b n) (fun k => k - 1) h Q) : zp_wm X y_RR_removeUse [.ref 0, .int x, .int a, .int m, .int b, .int n] h Q := by
  have hS := hs.1
  have hl : g_leg 9 a m b n = true → (g_ok a ∧ g_ok m ∧ g_ok b ∧ g_ok n) ∧ zc_leg (9, i2n a, i2n m, i2n b, i2n n) := by
    intro hl
    have hl : (g_isC a && g_isM m && g_isC b && g_isM n) = true := hl
    rw [Bool.and_eq_true, Bool.and_eq_true, Bool.and_eq_true] at hl
    obtain ⟨⟨⟨ea, em⟩, eb⟩, en⟩ := hl
    have na := (g_isC_n ea).2
    have nm := (g_isM_n em).2
    have nb := (g_isC_n eb).2
    have nn := (g_isM_n en).2
    refine ⟨⟨g_okC ea, g_okM em, g_okC eb, g_okM en⟩, ?_⟩
    have z0 := i2n_0
    unfold zc_leg
    dsimp only
    omega
  show zp_wp X y_RR_removeUse 0 [.ref 0, .int x, .int a, .int m, .int b, .int n] [] h Q
  refine zp_aload_n (x := 0) rfl rfl ?_
  refine zp_iload_n (x := x) rfl rfl ?_
  refine zp_bipush (v := (nI 9)) rfl (by decide +kernel) ?_
  refine zp_iload_n (x := a) rfl rfl ?_
  refine zp_iload_n (x := m) rfl rfl ?_
  refine zp_iload (x := b) rfl rfl ?_
  refine zp_iload (x := n) rfl rfl ?_
  refine zq_virt hS rfl rfl (by first | assumption | exact ⟨by decide, rfl⟩) rfl (s_RR_change hs hW (by decide) hl ⟨fun z h2 s2 f2 => ?_, fun z h2 s2 f2 => hq.2 z h2 s2 f2⟩)
  show zp_wp X y_RR_removeUse 13 [.ref 0, .int x, .int a, .int m, .int b, .int n] [.int ((z_op s x 9 a m b n).2.1)] h2 Q
  refine zp_iret rfl rfl ?_
  exact hq.1 z h2 s2 f2
end ZP16
