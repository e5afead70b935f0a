/-! the reference: looking -/
def zr_cls (A : Nat → Int32) (name : Int32) : Option Nat := if 0 < name then zf_fst (fun c => decide (A c = name)) 0 12 else none
def zr_mem (A : Nat → Int32) (c : Option Nat) (name : Int32) : Option Nat := match c with
  | none => none
  | some c => zf_fst (fun m => decide (A (24 + m) = name ∧ A (64 + m) = nI c)) 0 40
section ZR1
variable {X : zm_X} {h : zm_H} {Q : zm_O → zm_H → Prop}
theorem s_Mod_in {x lo hi : Int32} (hq : Q (.inl (some (.int (if lo ≤ x ∧ x ≤ hi then 1 else 0)))) h) : zp_wm X y_Mod_in [.int x, .int lo, .int hi] h Q := by
  show zp_wp X y_Mod_in 0 [.int x, .int lo, .int hi] [] h Q
  refine zp_iload_n rfl rfl ?_
  refine zp_iload_n rfl rfl ?_
  refine zp_icmp_lt (tgt := 14) rfl rfl (fun hc => ?_) (fun hc => ?_)
  · refine zp_iconst (v := (nI 0)) rfl (by decide +kernel) ?_
    refine zp_zret rfl rfl (by decide) ?_
    rw [if_neg (fun q => Int32.not_le.mpr hc q.1)] at hq
    exact hq
  refine zp_iload_n rfl rfl ?_
  refine zp_iload_n rfl rfl ?_
  refine zp_icmp_gt (tgt := 14) rfl rfl (fun hd => ?_) (fun hd => ?_)
  · refine zp_iconst (v := (nI 0)) rfl (by decide +kernel) ?_
    refine zp_zret rfl rfl (by decide) ?_
    rw [if_neg (fun q => Int32.not_le.mpr hd q.2)] at hq
    exact hq
  refine zp_iconst (v := (nI 1)) rfl (by decide +kernel) ?_
  refine zp_goto (tgt := 15) rfl rfl ?_
  refine zp_zret rfl rfl (by decide) ?_
  rw [if_pos ⟨Int32.not_lt.mp hc, Int32.not_lt.mp hd⟩] at hq
  exact hq
theorem s_Mod_classAt {r : Nat} {name : Int32} (hS : zs_H h) (hr : zs_I r 1704) (hq : Q (.inl (some (.int (zf_o (zr_cls (ci h r) name))))) h) : zp_wm X y_Mod_classAt [.ref r, .int name] h Q := by
  show zp_wp X y_Mod_classAt 0 [.ref r, .int name, zm_mk] [] h Q
  have loop : ∀ k c : Nat, c + k = 12 → (0 < name → zr_cls (ci h r) name = zf_fst (fun c => decide (ci h r c = name)) c k) → zp_wp X y_Mod_classAt 2 [.ref r, .int name, .int (nI c)] [] h Q := by
    intro k
    induction k with
    | zero =>
      intro c hc hz
      refine zp_iload_n rfl rfl ?_
      refine zp_bipush (v := (nI 12)) rfl (by decide +kernel) ?_
      refine zp_icmpN_ge (tgt := 27) rfl rfl (by omega) (by omega) (fun h1 => ?_) (fun h1 => ?_)
      · refine zp_iconst (v := (-1)) rfl (by decide +kernel) ?_
        refine zp_iret rfl rfl ?_
        have : zr_cls (ci h r) name = none := by
          by_cases h0 : 0 < name
          · exact hz h0
          · simp [zr_cls, h0]
        rw [this] at hq
        exact hq
      · omega
    | succ k ih =>
      intro c hc hz
      refine zp_iload_n rfl rfl ?_
      refine zp_bipush (v := (nI 12)) rfl (by decide +kernel) ?_
      refine zp_icmpN_ge (tgt := 27) rfl rfl (by omega) (by omega) (fun h1 => ?_) (fun h1 => ?_)
      · omega
      refine zp_iload_n rfl rfl ?_
      refine zp_if_le (tgt := 27) rfl rfl (fun h2 => ?_) (fun h2 => ?_)
      · refine zp_iconst (v := (-1)) rfl (by decide +kernel) ?_
        refine zp_iret rfl rfl ?_
        have : zr_cls (ci h r) name = none := by simp [zr_cls, Int32.not_lt.mpr h2]
        rw [this] at hq
        exact hq
      have h2 := Int32.not_le.mp h2
      refine zp_aload_n rfl rfl ?_
      refine zp_iload_n rfl rfl ?_
      refine zq_iald hS rfl (by first | assumption | exact ⟨by decide, rfl⟩) (by omega) (by decide) ?_
      refine zp_iload_n rfl rfl ?_
      refine zp_icmp_ne (tgt := 21) rfl rfl (fun h3 => ?_) (fun h3 => ?_)
      · first | refine zp_iincN_2 rfl rfl ?_ | refine zp_iinc_2 rfl rfl rfl ?_
        refine zp_goto (tgt := 2) rfl rfl ?_
        exact ih (c + 1) (by omega) (fun h0 => by rw [hz h0, zf_fst_f (by simp [h3])])
      · refine zp_iload_n rfl rfl ?_
        refine zp_iret rfl rfl ?_
        have h3 := Decidable.not_not.mp h3
        rw [hz h2, zf_fst_t (by simp [h3])] at hq
        exact hq
  refine zp_iconst (v := (nI 0)) rfl (by decide +kernel) ?_
  refine zp_istore_n_2 rfl rfl ?_
  exact loop 12 0 rfl (fun h0 => by simp [zr_cls, h0])
theorem s_Mod_memberAt {r : Nat} {c : Option Nat} {name : Int32} (hS : zs_H h) (hr : zs_I r 1704) (hcl : ∀ i, c = some i → i < 2 ^ 31) (hq : Q (.inl (some (.int (zf_o (zr_mem (ci h r) c name))))) h) : zp_wm X y_Mod_memberAt [.ref r, .int (zf_o c), .int name] h Q := by
  show zp_wp X y_Mod_memberAt 0 [.ref r, .int (zf_o c), .int name, zm_mk] [] h Q
  have loop : ∀ k m : Nat, m + k = 40 → (∀ i, c = some i → zr_mem (ci h r) c name = zf_fst (fun m => decide (ci h r (24 + m) = name ∧ ci h r (64 + m) = nI i)) m k) → zp_wp X y_Mod_memberAt 2 [.ref r, .int (zf_o c), .int name, .int (nI m)] [] h Q := by
    intro k
    induction k with
    | zero =>
      intro m hm hz
      refine zp_iload_n rfl rfl ?_
      refine zp_bipush (v := (nI 40)) rfl (by decide +kernel) ?_
      refine zp_icmpN_ge (tgt := 40) rfl rfl (by omega) (by omega) (fun h1 => ?_) (fun h1 => ?_)
      · refine zp_iconst (v := (-1)) rfl (by decide +kernel) ?_
        refine zp_iret rfl rfl ?_
        have : zr_mem (ci h r) c name = none := by
          cases c with
          | none => rfl
          | some i => exact hz i rfl
        rw [this] at hq
        exact hq
      · omega
    | succ k ih =>
      intro m hm hz
      refine zp_iload_n rfl rfl ?_
      refine zp_bipush (v := (nI 40)) rfl (by decide +kernel) ?_
      refine zp_icmpN_ge (tgt := 40) rfl rfl (by omega) (by omega) (fun h1 => ?_) (fun h1 => ?_)
      · omega
      refine zp_iload_n rfl rfl ?_
      cases c with
      | none =>
        refine zp_if_lt (tgt := 40) rfl rfl (fun h2 => ?_) (fun h2 => ?_)
        · refine zp_iconst (v := (-1)) rfl (by decide +kernel) ?_
          refine zp_iret rfl rfl ?_
          exact hq
        · exact absurd (by decide) h2
      | some i =>
        have hi := hcl i rfl
        refine zp_if_lt (tgt := 40) rfl rfl (fun h2 => ?_) (fun h2 => ?_)
        · exact absurd h2 (nI_pos hi)
        refine zp_aload_n rfl rfl ?_
        refine zp_bipush (v := (nI 24)) rfl (by decide +kernel) ?_
        refine zp_iload_n rfl rfl ?_
        first | refine zp_iaddN rfl ?_ | refine zp_iadd rfl rfl ?_
        refine zq_iald hS rfl (by first | assumption | exact ⟨by decide, rfl⟩) (by omega) (by decide) ?_
        refine zp_iload_n rfl rfl ?_
        refine zp_icmp_ne (tgt := 34) rfl rfl (fun h3 => ?_) (fun h3 => ?_)
        · first | refine zp_iincN_3 rfl rfl ?_ | refine zp_iinc_3 rfl rfl rfl ?_
          refine zp_goto (tgt := 2) rfl rfl ?_
          exact ih (m + 1) (by omega) (fun j hj => by cases hj; rw [hz i rfl, zf_fst_f (by simp [h3])])
        have h3 := Decidable.not_not.mp h3
        refine zp_aload_n rfl rfl ?_
        refine zp_bipush (v := (nI 64)) rfl (by decide +kernel) ?_
        refine zp_iload_n rfl rfl ?_
        first | refine zp_iaddN rfl ?_ | refine zp_iadd rfl rfl ?_
        refine zq_iald hS rfl (by first | assumption | exact ⟨by decide, rfl⟩) (by omega) (by decide) ?_
        refine zp_iload_n rfl rfl ?_
        refine zp_icmp_ne (tgt := 34) rfl rfl (fun h4 => ?_) (fun h4 => ?_)
        · first | refine zp_iincN_3 rfl rfl ?_ | refine zp_iinc_3 rfl rfl rfl ?_
          refine zp_goto (tgt := 2) rfl rfl ?_
          refine ih (m + 1) (by omega) (fun j hj => ?_)
          cases hj
          rw [hz i rfl, zf_fst_f]
          have h4 : ¬ ci h r (64 + m) = nI i := h4
          simp [h4]
        · refine zp_iload_n rfl rfl ?_
          refine zp_iret rfl rfl ?_
          have h4 : ci h r (64 + m) = nI i := Decidable.not_not.mp h4
          rw [hz i rfl, zf_fst_t (by simp [h3, h4])] at hq
          exact hq
  refine zp_iconst (v := (nI 0)) rfl (by decide +kernel) ?_
  refine zp_istore_n_3 rfl rfl ?_
  refine loop 40 0 rfl (fun i hi => ?_)
  subst hi
  rfl
end ZR1
