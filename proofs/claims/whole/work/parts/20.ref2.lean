/-! the reference: what its helpers answer of V -/
section ZR2
variable {X : zm_X} {h : zm_H} {Q : zm_O → zm_H → Prop} {V : zv} {r : Nat}
theorem t_Mod_classAt {a : Nat} (hS : zs_H h) (hr : zs_I r 1704) (hV : zv_R V (ci h r)) (hB : zv_B V) (ha : a < 2 ^ 31) (hq : Q (.inl (some (.int (zf_o (v_cls V a))))) h) : zp_wm X y_Mod_classAt [.ref r, .int (nI a)] h Q := by
  refine s_Mod_classAt hS hr ?_
  rw [zv_cls hV hB ha]
  exact hq
theorem t_Mod_memberAt {c : Option Nat} {m : Nat} (hS : zs_H h) (hr : zs_I r 1704) (hV : zv_R V (ci h r)) (hB : zv_B V) (hc : ∀ i, c = some i → i < 12) (hm : m < 2 ^ 31) (hq : Q (.inl (some (.int (zf_o (v_mem V c m))))) h) : zp_wm X y_Mod_memberAt [.ref r, .int (zf_o c), .int (nI m)] h Q := by
  have hc' : ∀ i, c = some i → i < 2 ^ 31 := fun i hi => Nat.lt_trans (hc i hi) (by decide)
  refine s_Mod_memberAt hS hr hc' ?_
  rw [zv_mem hV hB hc' hm]
  exact hq
theorem t_Mod_memberOf {a m : Nat} (hS : zs_H h) (hr : zs_I r 1704) (hV : zv_R V (ci h r)) (hB : zv_B V) (ha : a < 2 ^ 31) (hm : m < 2 ^ 31) (hq : Q (.inl (some (.int (zf_o (v_mem V (v_cls V a) m))))) h) : zp_wm X y_Mod_memberOf [.ref r, .int (nI a), .int (nI m)] h Q := by
  show zp_wp X y_Mod_memberOf 0 [.ref r, .int (nI a), .int (nI m)] [] h Q
  refine zp_aload_n rfl rfl ?_
  refine zp_aload_n rfl rfl ?_
  refine zp_iload_n rfl rfl ?_
  refine zp_call rfl rfl (t_Mod_classAt hS hr hV hB ha ?_)
  refine zp_iload_n rfl rfl ?_
  refine zp_call rfl rfl (t_Mod_memberAt hS hr hV hB (fun i hi => (v_cls_lt hi).1) hm ?_)
  refine zp_iret rfl rfl ?_
  exact hq
theorem s_Mod_countOf {fr many : Nat} {p : Nat → Bool} (hS : zs_H h) (hr : zs_I r 1704) (hf : fr + many ≤ 1704) (hp : ∀ i, i < many → (ci h r (fr + i) = 0 ↔ p i = false)) (hq : Q (.inl (some (.int (nI (zf_ct p 0 many))))) h) : zp_wm X y_Mod_countOf [.ref r, .int (nI fr), .int (nI many)] h Q := by
  show zp_wp X y_Mod_countOf 0 [.ref r, .int (nI fr), .int (nI many), zm_mk, zm_mk] [] h Q
  have loop : ∀ k i n : Nat, i + k = many → n ≤ i → n + zf_ct p i k = zf_ct p 0 many → zp_wp X y_Mod_countOf 5 [.ref r, .int (nI fr), .int (nI many), .int (nI n), .int (nI i)] [] h Q := by
    intro k
    induction k with
    | zero =>
      intro i n hi hn he
      refine zp_iload rfl rfl ?_
      refine zp_iload_n rfl rfl ?_
      refine zp_icmpN_ge (tgt := 34) rfl rfl (by omega) (by omega) (fun h1 => ?_) (fun h1 => ?_)
      · refine zp_iload_n rfl rfl ?_
        refine zp_iret rfl rfl ?_
        rw [← he] at hq
        exact hq
      · omega
    | succ k ih =>
      intro i n hi hn he
      refine zp_iload rfl rfl ?_
      refine zp_iload_n rfl rfl ?_
      refine zp_icmpN_ge (tgt := 34) rfl rfl (by omega) (by omega) (fun h1 => ?_) (fun h1 => ?_)
      · omega
      refine zp_iload_n rfl rfl ?_
      refine zp_aload_n rfl rfl ?_
      refine zp_iload_n rfl rfl ?_
      refine zp_iload rfl rfl ?_
      first | refine zp_iaddN rfl ?_ | refine zp_iadd rfl rfl ?_
      refine zq_iald hS rfl (by first | assumption | exact ⟨by decide, rfl⟩) (by omega) (by decide) ?_
      have hz := hp i (by omega)
      have next : ∀ d : Nat, d = cond (p i) 1 0 → zp_wp X y_Mod_countOf 26 [.ref r, .int (nI fr), .int (nI many), .int (nI n), .int (nI i)] [.int (nI d), .int (nI n)] h Q := by
        intro d hd
        first | refine zp_iaddN rfl ?_ | refine zp_iadd rfl rfl ?_
        refine zp_istore_n_3 rfl rfl ?_
        first | refine zp_iincN_4 rfl rfl ?_ | refine zp_iinc_4 rfl rfl rfl ?_
        refine zp_goto (tgt := 5) rfl rfl ?_
        refine ih (i + 1) (n + d) (by omega) (by rw [hd]; cases p i <;> simp <;> omega) ?_
        rw [← he]
        show n + d + zf_ct p (i + 1) k = n + (cond (p i) 1 0 + zf_ct p (i + 1) k)
        rw [← hd]
        omega
      refine zp_if_eq (tgt := 25) rfl rfl (fun h2 => ?_) (fun h2 => ?_)
      · refine zp_iconst (v := (nI 0)) rfl (by decide +kernel) ?_
        exact next 0 (by rw [hz.mp h2]; rfl)
      · refine zp_iconst (v := (nI 1)) rfl (by decide +kernel) ?_
        refine zp_goto (tgt := 26) rfl rfl ?_
        refine next 1 ?_
        cases hpi : p i with
        | true => rfl
        | false => exact absurd (hz.mpr hpi) h2
  refine zp_iconst (v := (nI 0)) rfl (by decide +kernel) ?_
  refine zp_istore_n_3 rfl rfl ?_
  refine zp_iconst (v := (nI 0)) rfl (by decide +kernel) ?_
  refine zp_istore_4 rfl rfl ?_
  exact loop many 0 0 (by omega) (Nat.le_refl _) (by omega)
theorem s_Mod_isUnder {c u : Nat} (hS : zs_H h) (hr : zs_I r 1704) (hV : zv_R V (ci h r)) (hB : zv_B V) (hc : c < 12) (hu : u < 12) (hq : Q (.inl (some (.int (zf_b (v_und V c u))))) h) : zp_wm X y_Mod_isUnder [.ref r, .int (nI c), .int (nI u)] h Q := by
  show zp_wp X y_Mod_isUnder 0 [.ref r, .int (nI c), .int (nI u), zm_mk, zm_mk] [] h Q
  have hend : ∀ (ko : Option Nat) (i : Nat), (∀ k, ko = some k → k < 12) → (ko == some u) = v_und V c u → zp_wp X y_Mod_isUnder 36 [.ref r, .int (nI c), .int (nI u), .int (zf_o ko), .int (nI i)] [] h Q := by
    intro ko i hk he
    rw [← he] at hq
    refine zp_iload_n rfl rfl ?_
    refine zp_iload_n rfl rfl ?_
    cases ko with
    | none =>
      refine zp_icmp_ne (tgt := 45) rfl rfl (fun h1 => ?_) (fun h1 => ?_)
      · refine zp_iconst (v := (nI 0)) rfl (by decide +kernel) ?_
        refine zp_zret rfl rfl (by decide) ?_
        exact hq
      · have h1 : (-1 : Int32) = nI u := Decidable.not_not.mp h1
        exact absurd (show (-1 : Int32) < 0 by decide) (by rw [h1]; exact nI_pos (by omega))
    | some k =>
      have hk := hk k rfl
      refine zp_icmpN_ne (a := k) (b := u) (tgt := 45) rfl rfl (by omega) (by omega) (fun h1 => ?_) (fun h1 => ?_)
      · refine zp_iconst (v := (nI 0)) rfl (by decide +kernel) ?_
        refine zp_zret rfl rfl (by decide) ?_
        have : (some k == some u) = false := by simp [h1]
        rw [this] at hq
        exact hq
      · refine zp_iconst (v := (nI 1)) rfl (by decide +kernel) ?_
        refine zp_goto (tgt := 46) rfl rfl ?_
        refine zp_zret rfl rfl (by decide) ?_
        have : (some k == some u) = true := by simp [h1]
        rw [this] at hq
        exact hq
  have loop : ∀ (n i : Nat) (ko : Option Nat), i + n = 12 → (∀ k, ko = some k → k < 12) → v_up V ko u n = v_und V c u → zp_wp X y_Mod_isUnder 5 [.ref r, .int (nI c), .int (nI u), .int (zf_o ko), .int (nI i)] [] h Q := by
    intro n
    induction n with
    | zero =>
      intro i ko hi hk he
      refine zp_iload rfl rfl ?_
      refine zp_bipush (v := (nI 12)) rfl (by decide +kernel) ?_
      refine zp_icmpN_ge (tgt := 36) rfl rfl (by omega) (by omega) (fun h1 => ?_) (fun h1 => ?_)
      · exact hend ko i hk (by rw [← he]; cases ko <;> rfl)
      · omega
    | succ n ih =>
      intro i ko hi hk he
      refine zp_iload rfl rfl ?_
      refine zp_bipush (v := (nI 12)) rfl (by decide +kernel) ?_
      refine zp_icmpN_ge (tgt := 36) rfl rfl (by omega) (by omega) (fun h1 => ?_) (fun h1 => ?_)
      · omega
      refine zp_iload_n rfl rfl ?_
      cases ko with
      | none =>
        refine zp_if_lt (tgt := 36) rfl rfl (fun h2 => ?_) (fun h2 => ?_)
        · exact hend none i hk (by rw [← he]; rfl)
        · exact absurd (by decide) h2
      | some k =>
        have hk := hk k rfl
        refine zp_if_lt (tgt := 36) rfl rfl (fun h2 => ?_) (fun h2 => ?_)
        · exact absurd h2 (nI_pos (by omega))
        refine zp_iload_n rfl rfl ?_
        refine zp_iload_n rfl rfl ?_
        refine zp_icmpN_eq (a := k) (b := u) (tgt := 36) rfl rfl (by omega) (by omega) (fun h3 => ?_) (fun h3 => ?_)
        · exact hend (some k) i (fun k' hk' => by cases hk'; exact hk) (by rw [← he]; simp [v_up, h3])
        refine zp_aload_n rfl rfl ?_
        refine zp_bipush (v := (nI 12)) rfl (by decide +kernel) ?_
        refine zp_iload_n (x := nI k) rfl rfl ?_
        first | refine zp_iaddN rfl ?_ | refine zp_iadd rfl rfl ?_
        refine zq_iald hS rfl (by first | assumption | exact ⟨by decide, rfl⟩) (by omega) (by decide) ?_
        refine zp_iconst (v := (nI 1)) rfl (by decide +kernel) ?_
        rw [hV.2.1 k hk]
        refine zp_isub (v := zf_o (v_pr (v_sp V k))) rfl (v_pr_sub _) ?_
        refine zp_istore_n_3 rfl rfl ?_
        first | refine zp_iincN_4 rfl rfl ?_ | refine zp_iinc_4 rfl rfl rfl ?_
        refine zp_goto (tgt := 5) rfl rfl ?_
        refine ih (i + 1) (v_pr (v_sp V k)) (by omega) (fun k' hk' => ?_) (by rw [← he]; simp [v_up, h3])
        have := hB.2.1 k hk
        cases hs : v_sp V k with
        | zero => rw [hs] at hk'; cases hk'
        | succ t => rw [hs] at hk'; cases hk'; omega
  refine zp_iload_n rfl rfl ?_
  refine zp_istore_n_3 rfl rfl ?_
  refine zp_iconst (v := (nI 0)) rfl (by decide +kernel) ?_
  refine zp_istore_4 rfl rfl ?_
  exact loop 12 0 (some c) rfl (fun k hk => by cases hk; exact hc) rfl
theorem s_Mod_areKin {c k : Nat} (hS : zs_H h) (hr : zs_I r 1704) (hV : zv_R V (ci h r)) (hB : zv_B V) (hc : c < 12) (hk : k < 12) (hq : Q (.inl (some (.int (zf_b (v_kin V c k))))) h) : zp_wm X y_Mod_areKin [.ref r, .int (nI c), .int (nI k)] h Q := by
  show zp_wp X y_Mod_areKin 0 [.ref r, .int (nI c), .int (nI k)] [] h Q
  unfold v_kin at hq
  refine zp_aload_n rfl rfl ?_
  refine zp_iload_n rfl rfl ?_
  refine zp_iload_n rfl rfl ?_
  refine zp_call rfl rfl (s_Mod_isUnder hS hr hV hB hc hk ?_)
  cases h1 : v_und V c k with
  | true =>
    rw [h1] at hq
    refine zp_if_ne (tgt := 18) rfl rfl (fun h2 => ?_) (fun h2 => ?_)
    · refine zp_iconst (v := (nI 1)) rfl (by decide +kernel) ?_
      refine zp_goto (tgt := 23) rfl rfl ?_
      refine zp_zret rfl rfl (by decide) ?_
      exact hq
    · exact absurd (Decidable.not_not.mp h2) (by decide)
  | false =>
    rw [h1] at hq
    refine zp_if_ne (tgt := 18) rfl rfl (fun h2 => ?_) (fun h2 => ?_)
    · exact absurd rfl h2
    refine zp_aload_n rfl rfl ?_
    refine zp_iload_n rfl rfl ?_
    refine zp_iload_n rfl rfl ?_
    refine zp_call rfl rfl (s_Mod_isUnder hS hr hV hB hk hc ?_)
    cases h3 : v_und V k c with
    | true =>
      rw [h3] at hq
      refine zp_if_eq (tgt := 22) rfl rfl (fun h4 => ?_) (fun h4 => ?_)
      · exact absurd h4 (by decide)
      refine zp_iconst (v := (nI 1)) rfl (by decide +kernel) ?_
      refine zp_goto (tgt := 23) rfl rfl ?_
      refine zp_zret rfl rfl (by decide) ?_
      exact hq
    | false =>
      rw [h3] at hq
      refine zp_if_eq (tgt := 22) rfl rfl (fun h4 => ?_) (fun h4 => ?_)
      · refine zp_iconst (v := (nI 0)) rfl (by decide +kernel) ?_
        refine zp_zret rfl rfl (by decide) ?_
        exact hq
      · exact absurd rfl h4
theorem zf_o_eq {c : Option Nat} {u : Nat} (hc : ∀ i, c = some i → i < 2 ^ 31) (hu : u < 2 ^ 31) : nI u = zf_o c ↔ c = some u := by
  cases c with
  | none =>
    refine ⟨fun q => ?_, fun q => by cases q⟩
    exact absurd (show (-1 : Int32) < 0 by decide) (by rw [show (-1 : Int32) = nI u from q.symm]; exact nI_pos hu)
  | some i =>
    have := nI_eq (a := u) (b := i) hu (hc i rfl)
    refine ⟨fun q => by rw [this.mp q], fun q => by cases q; rfl⟩
theorem s_Mod_isTaken {c name : Nat} {but : Option Nat} (hS : zs_H h) (hr : zs_I r 1704) (hV : zv_R V (ci h r)) (hB : zv_B V) (hc : c < 12) (hn : name < 2 ^ 31) (hb : ∀ i, but = some i → i < 2 ^ 31) (hq : Q (.inl (some (.int (zf_b (v_tak V c name but))))) h) : zp_wm X y_Mod_isTaken [.ref r, .int (nI c), .int (nI name), .int (zf_o but)] h Q := by
  show zp_wp X y_Mod_isTaken 0 [.ref r, .int (nI c), .int (nI name), .int (zf_o but), zm_mk, zm_mk] [] h Q
  unfold v_tak at hq
  generalize hpp : (fun m => v_mn V m == name && !(some m == but) && v_kin V c (v_ow V m)) = p at hq
  have loop : ∀ (k i : Nat) (is : Bool), i + k = 40 → (is || zf_any p i k) = zf_any p 0 40 → zp_wp X y_Mod_isTaken 6 [.ref r, .int (nI c), .int (nI name), .int (zf_o but), .int (zf_b is), .int (nI i)] [] h Q := by
    intro k
    induction k with
    | zero =>
      intro i is hi he
      refine zp_iload rfl rfl ?_
      refine zp_bipush (v := (nI 40)) rfl (by decide +kernel) ?_
      refine zp_icmpN_ge (tgt := 63) rfl rfl (by omega) (by omega) (fun h1 => ?_) (fun h1 => ?_)
      · refine zp_iload rfl rfl ?_
        refine zp_zret rfl rfl (by cases is <;> decide) ?_
        rw [← he] at hq
        simpa [zf_any] using hq
      · omega
    | succ k ih =>
      intro i is hi he
      have next : ∀ (d : Bool), d = (is || p i) → zp_wp X y_Mod_isTaken 55 [.ref r, .int (nI c), .int (nI name), .int (zf_o but), .int (zf_b is), .int (nI i)] [.int (zf_b d)] h Q := by
        intro d hd
        refine zp_istore_4 rfl rfl ?_
        first | refine zp_iincN_5 rfl rfl ?_ | refine zp_iinc_5 rfl rfl rfl ?_
        refine zp_goto (tgt := 6) rfl rfl ?_
        refine ih (i + 1) d (by omega) ?_
        rw [← he, hd]
        show (is || p i || zf_any p (i + 1) k) = (is || (p i || zf_any p (i + 1) k))
        rw [Bool.or_assoc]
      refine zp_iload rfl rfl ?_
      refine zp_bipush (v := (nI 40)) rfl (by decide +kernel) ?_
      refine zp_icmpN_ge (tgt := 63) rfl rfl (by omega) (by omega) (fun h1 => ?_) (fun h1 => ?_)
      · omega
      refine zp_iload rfl rfl ?_
      cases is with
      | true =>
        refine zp_if_ne (tgt := 50) rfl rfl (fun h2 => ?_) (fun h2 => ?_)
        · refine zp_iconst (v := (nI 1)) rfl (by decide +kernel) ?_
          refine zp_goto (tgt := 55) rfl rfl ?_
          exact next true rfl
        · exact absurd (Decidable.not_not.mp h2) (by decide)
      | false =>
        refine zp_if_ne (tgt := 50) rfl rfl (fun h2 => ?_) (fun h2 => ?_)
        · exact absurd rfl h2
        have hpi : p i = (v_mn V i == name && !(some i == but) && v_kin V c (v_ow V i)) := by rw [← hpp]
        refine zp_aload_n rfl rfl ?_
        refine zp_bipush (v := (nI 24)) rfl (by decide +kernel) ?_
        refine zp_iload rfl rfl ?_
        first | refine zp_iaddN rfl ?_ | refine zp_iadd rfl rfl ?_
        refine zq_iald hS rfl (by first | assumption | exact ⟨by decide, rfl⟩) (by omega) (by decide) ?_
        refine zp_iload_n rfl rfl ?_
        rw [hV.2.2.1 i (by omega)]
        have b1 := hB.2.2.1 i (by omega)
        have b2 := hB.2.2.2 i (by omega)
        refine zp_icmpN_ne (a := v_mn V i) (b := name) (tgt := 54) rfl rfl (by omega) hn (fun h3 => ?_) (fun h3 => ?_)
        · refine zp_iconst (v := (nI 0)) rfl (by decide +kernel) ?_
          exact next false (by rw [hpi]; simp [h3])
        refine zp_iload rfl rfl ?_
        refine zp_iload_n rfl rfl ?_
        refine zp_icmp_eq (tgt := 54) rfl rfl (fun h4 => ?_) (fun h4 => ?_)
        · refine zp_iconst (v := (nI 0)) rfl (by decide +kernel) ?_
          have h4 := (zf_o_eq hb (by omega)).mp h4
          exact next false (by rw [hpi, h4]; simp)
        have h4 : ¬ but = some i := fun q => h4 ((zf_o_eq hb (by omega)).mpr q)
        refine zp_aload_n rfl rfl ?_
        refine zp_iload_n rfl rfl ?_
        refine zp_aload_n rfl rfl ?_
        refine zp_bipush (v := (nI 64)) rfl (by decide +kernel) ?_
        refine zp_iload rfl rfl ?_
        first | refine zp_iaddN rfl ?_ | refine zp_iadd rfl rfl ?_
        refine zq_iald hS rfl (by first | assumption | exact ⟨by decide, rfl⟩) (by omega) (by decide) ?_
        rw [hV.2.2.2.1 i (by omega)]
        refine zp_call rfl rfl (s_Mod_areKin hS hr hV hB hc b2 ?_)
        have h5 : p i = v_kin V c (v_ow V i) := by
          rw [hpi]
          have : (some i == but) = false := by simp [Ne.symm h4]
          simp [h3, this]
        cases h6 : v_kin V c (v_ow V i) with
        | true =>
          refine zp_if_eq (tgt := 54) rfl rfl (fun h7 => ?_) (fun h7 => ?_)
          · exact absurd h7 (by decide)
          refine zp_iconst (v := (nI 1)) rfl (by decide +kernel) ?_
          refine zp_goto (tgt := 55) rfl rfl ?_
          exact next true (by rw [h5, h6]; rfl)
        | false =>
          refine zp_if_eq (tgt := 54) rfl rfl (fun h7 => ?_) (fun h7 => ?_)
          · refine zp_iconst (v := (nI 0)) rfl (by decide +kernel) ?_
            exact next false (by rw [h5, h6]; rfl)
          · exact absurd rfl h7
  refine zp_iconst (v := (nI 0)) rfl (by decide +kernel) ?_
  refine zp_istore_4 rfl rfl ?_
  refine zp_iconst (v := (nI 0)) rfl (by decide +kernel) ?_
  refine zp_istore_5 rfl rfl ?_
  exact loop 40 0 false rfl (Bool.false_or _)
theorem s_Mod_freeAt {fr n i : Nat} {p : Nat → Bool} (hS : zs_H h) (hr : zs_I r 1704) (hf : fr + n ≤ 1704) (hp : ∀ i, i < n → (ci h r (fr + i) = 0 ↔ p i = true)) (hi : zf_fst p 0 n = some i) (hq : Q (.inl (some (.int (nI i)))) h) : zp_wm X y_Mod_freeAt [.ref r, .int (nI fr)] h Q := by
  show zp_wp X y_Mod_freeAt 0 [.ref r, .int (nI fr), zm_mk] [] h Q
  have loop : ∀ k j : Nat, j + k = n → zf_fst p j k = some i → zp_wp X y_Mod_freeAt 2 [.ref r, .int (nI fr), .int (nI j)] [] h Q := by
    intro k
    induction k with
    | zero => intro j _ he; cases he
    | succ k ih =>
      intro j hj he
      refine zp_aload_n rfl rfl ?_
      refine zp_iload_n rfl rfl ?_
      refine zp_iload_n rfl rfl ?_
      first | refine zp_iaddN rfl ?_ | refine zp_iadd rfl rfl ?_
      refine zq_iald hS rfl (by first | assumption | exact ⟨by decide, rfl⟩) (by omega) (by decide) ?_
      have hz := hp j (by omega)
      refine zp_if_eq (tgt := 16) rfl rfl (fun h1 => ?_) (fun h1 => ?_)
      · refine zp_iload_n rfl rfl ?_
        refine zp_iret rfl rfl ?_
        rw [zf_fst_t (hz.mp h1)] at he
        cases he
        exact hq
      · first | refine zp_iincN_2 rfl rfl ?_ | refine zp_iinc_2 rfl rfl rfl ?_
        refine zp_goto (tgt := 2) rfl rfl ?_
        refine ih (j + 1) (by omega) ?_
        cases hpj : p j with
        | true => exact absurd (hz.mpr hpj) h1
        | false => rw [zf_fst_f hpj] at he; exact he
  refine zp_iconst (v := (nI 0)) rfl (by decide +kernel) ?_
  refine zp_istore_n_2 rfl rfl ?_
  exact loop n 0 (by omega) hi
end ZR2
