/-! the same by names: the class's way to tell it, and the names of a version -/
theorem lg_cmp0 {x y : Int64} (h : lg_cmp x y = 0) : x = y := by
  unfold lg_cmp at h
  split at h
  · exact absurd h (by decide)
  · split at h
    · assumption
    · exact absurd h (by decide)
theorem zf_any_z {p : Nat → Bool} {n : Nat} : zf_any p 0 n = false ↔ ∀ j, j < n → p j = false := by
  constructor
  · intro h j hj
    exact zf_any_no (by rw [h]; decide) hj
  · intro h
    cases e : zf_any p 0 n with
    | false => rfl
    | true =>
      obtain ⟨j, -, h2, h3⟩ := zf_any_iff.mp e
      rw [h j (by omega)] at h3
      cases h3
theorem zf_any_y {p : Nat → Bool} {n j : Nat} (hj : j < n) (h : p j = true) : zf_any p 0 n = true := zf_any_iff.mpr ⟨j, Nat.zero_le _, by omega, h⟩
theorem v_bad3_uo (V W : zv) (k : Nat) : v_bad3 V W k = (v_us V (k / 40) (k % 40) && !(v_uo W (v_twin V (k / 40) W) (v_twin V (k % 40) W))) := by
  unfold v_bad3
  cases v_twin V (k / 40) W <;> cases v_twin V (k % 40) W <;> rfl
section ZP8
variable {X : zm_X} {h : zm_H} {Q : zm_O → zm_H → Prop} {V W : zv} {p q : Nat}
theorem s_Prog_hasClassesIn (hS : zs_H h) (hA : zq_A p) (hP : zq_P V p h) (hV : zv_W V) (hA2 : zq_A q) (hP2 : zq_P W q h) (hW : zv_W W) (hq : Q (.inl (some (.int (zf_b (!(zf_any (v_bad1 V W) 0 12)))))) h) : zp_wm X y_Prog_hasClassesIn [.ref p, .ref q] h Q := by
  have hB := hV.B
  have hAp := hA
  have hAq := hA2
  have hq0 := hA2.1
  obtain ⟨hA0, hA1, hA2, hA3, hA4, hA5, hA6⟩ := hA
  show zp_wp X y_Prog_hasClassesIn 0 [.ref p, .ref q, zm_mk, zm_mk] [] h Q
  have lp : ∀ k i z, i + k = 12 → (∀ j, j < i → v_bad1 V W j = false) → zp_wp X y_Prog_hasClassesIn 2 [.ref p, .ref q, .int (nI i), z] [] h Q := by
    intro k
    induction k with
    | zero =>
      intro i z hi he
      have hi : i = 12 := by omega
      subst hi
      refine zp_iload_n (x := (nI 12)) rfl rfl ?_
      refine zp_bipush (v := (nI 12)) rfl (by decide +kernel) ?_
      refine zp_icT (tgt := 53) rfl rfl (by decide +kernel) ?_
      refine zp_iconst (v := (nI 1)) rfl (by decide +kernel) ?_
      refine zp_zret rfl rfl (by decide) ?_
      rw [zf_any_z.mpr he] at hq; exact hq
    | succ k ih =>
      intro i z hi he
      have nx : ∀ z, v_bad1 V W i = false → zp_wp X y_Prog_hasClassesIn 47 [.ref p, .ref q, .int (nI i), z] [] h Q := by
        intro z hb
        refine zp_iincN_2 rfl rfl ?_
        refine zp_goto (tgt := 2) rfl rfl ?_
        exact ih (i + 1) _ (by omega) (fun j hj => by by_cases e : j = i; exact e ▸ hb; exact he j (by omega))
      refine zp_iload_n (x := (nI i)) rfl rfl ?_
      refine zp_bipush (v := (nI 12)) rfl (by decide +kernel) ?_
      refine zp_icmpN_ge (tgt := 53) rfl rfl (by omega) (by omega) (fun b5 => ?_) (fun b5 => ?_)
      · omega
      · refine zp_aload_n (x := p) rfl rfl ?_
        refine zq_getr (k9 := (p + 1)) hS rfl (by first | assumption | exact ⟨by decide, rfl⟩) rfl ?_
        refine zp_iload_n (x := (nI i)) rfl rfl ?_
        refine zq_iald hS rfl (by first | assumption | exact ⟨by decide, rfl⟩) (by omega) (by first | decide | omega) ?_
        rw [hP.cn (i) (by omega)]
        have q13 := hB.1 (i) (by omega)
        refine zp_ifN_eq (tgt := 47) rfl rfl (by omega) (fun b14 => ?_) (fun b14 => ?_)
        · first
          | exact nx _ (by unfold v_bad1; rw [zb_eq b14]; rfl)
          | exact nx _ (by unfold v_bad1; rw [zb_ne b14, hz]; simp only [zb_eq b42]; rfl)
        · refine zp_aload_n (x := q) rfl rfl ?_
          refine zp_aload_n (x := p) rfl rfl ?_
          refine zq_getr (k9 := (p + 1)) hS rfl (by first | assumption | exact ⟨by decide, rfl⟩) rfl ?_
          refine zp_iload_n (x := (nI i)) rfl rfl ?_
          refine zq_iald hS rfl (by first | assumption | exact ⟨by decide, rfl⟩) (by omega) (by first | decide | omega) ?_
          rw [hP.cn (i) (by omega)]
          have q23 := hB.1 (i) (by omega)
          refine zq_virt hS rfl rfl (by first | assumption | exact ⟨by decide, rfl⟩) rfl (s_Prog_classAt hS hAq hP2 hW.B (by omega) ?_)
          cases hz : v_cls W (v_cn V i) with
          | none =>
            show zp_wp X y_Prog_hasClassesIn 27 [.ref p, .ref q, .int (nI i), z] [.int (-1)] h Q
            refine zp_istore_n_3 rfl rfl ?_
            refine zp_iload_n (x := (-1)) rfl rfl ?_
            refine zp_ifT (tgt := 45) rfl rfl (by decide +kernel) ?_
            refine zp_iconst (v := (nI 0)) rfl (by decide +kernel) ?_
            refine zp_zret rfl rfl (by decide) ?_
            have hb : v_bad1 V W i = true := by
              unfold v_bad1
              rw [zb_ne b14, hz]
              first
              | rfl
              | (simp only [zb_ne b42]; rfl)
            rw [zf_any_y (show i < 12 by omega) hb] at hq
            exact hq
          | some k9 =>
            have hk9 := v_cls_l _ hz
            show zp_wp X y_Prog_hasClassesIn 27 [.ref p, .ref q, .int (nI i), z] [.int (nI k9)] h Q
            refine zp_istore_n_3 rfl rfl ?_
            refine zp_iload_n (x := (nI k9)) rfl rfl ?_
            refine zp_ifF (tgt := 45) rfl rfl (zc_lt (by omega)) ?_
            refine zp_aload_n (x := p) rfl rfl ?_
            refine zp_iload_n (x := (nI i)) rfl rfl ?_
            refine zq_virt hS rfl rfl (by first | assumption | exact ⟨by decide, rfl⟩) rfl (s_Prog_superNameOf hS hAp hP hB (by omega) b14 ?_)
            have hs1 := v_sn_lt (V := V) (c := i) hB (by omega)
            show zp_wp X y_Prog_hasClassesIn 37 [.ref p, .ref q, .int (nI i), .int (nI k9)] [.int (nI (v_sn V i))] h Q
            refine zp_aload_n (x := q) rfl rfl ?_
            refine zp_iload_n (x := (nI k9)) rfl rfl ?_
            refine zq_virt hS rfl rfl (by first | assumption | exact ⟨by decide, rfl⟩) rfl (s_Prog_superNameOf hS hAq hP2 hW.B hk9.1 hk9.2 ?_)
            have hs2 := v_sn_lt (V := W) (c := k9) hW.B hk9.1
            show zp_wp X y_Prog_hasClassesIn 42 [.ref p, .ref q, .int (nI i), .int (nI k9)] [.int (nI (v_sn W k9)), .int (nI (v_sn V i))] h Q
            refine zp_icmpN_eq (tgt := 47) rfl rfl (by omega) (by omega) (fun b42 => ?_) (fun b42 => ?_)
            · first
              | exact nx _ (by unfold v_bad1; rw [zb_eq b14]; rfl)
              | exact nx _ (by unfold v_bad1; rw [zb_ne b14, hz]; simp only [zb_eq b42]; rfl)
            · refine zp_iconst (v := (nI 0)) rfl (by decide +kernel) ?_
              refine zp_zret rfl rfl (by decide) ?_
              have hb : v_bad1 V W i = true := by
                unfold v_bad1
                rw [zb_ne b14, hz]
                first
                | rfl
                | (simp only [zb_ne b42]; rfl)
              rw [zf_any_y (show i < 12 by omega) hb] at hq
              exact hq
  refine zp_iconst (v := (nI 0)) rfl (by decide +kernel) ?_
  refine zp_istore_n_2 rfl rfl ?_
  exact lp 12 0 _ rfl (fun j hj => absurd hj (by omega))
theorem s_Prog_hasMembersIn (hS : zs_H h) (hA : zq_A p) (hP : zq_P V p h) (hV : zv_W V) (hA2 : zq_A q) (hP2 : zq_P W q h) (hW : zv_W W) (hq : Q (.inl (some (.int (zf_b (!(zf_any (v_bad2 V W) 0 40)))))) h) : zp_wm X y_Prog_hasMembersIn [.ref p, .ref q] h Q := by
  have hB := hV.B
  have hAp := hA
  have hAq := hA2
  obtain ⟨hA0, hA1, hA2, hA3, hA4, hA5, hA6⟩ := hA
  show zp_wp X y_Prog_hasMembersIn 0 [.ref p, .ref q, zm_mk] [] h Q
  have lp : ∀ k i, i + k = 40 → (∀ j, j < i → v_bad2 V W j = false) → zp_wp X y_Prog_hasMembersIn 2 [.ref p, .ref q, .int (nI i)] [] h Q := by
    intro k
    induction k with
    | zero =>
      intro i hi he
      have hi : i = 40 := by omega
      subst hi
      refine zp_iload_n (x := (nI 40)) rfl rfl ?_
      refine zp_bipush (v := (nI 40)) rfl (by decide +kernel) ?_
      refine zp_icT (tgt := 34) rfl rfl (by decide +kernel) ?_
      refine zp_iconst (v := (nI 1)) rfl (by decide +kernel) ?_
      refine zp_zret rfl rfl (by decide) ?_
      rw [zf_any_z.mpr he] at hq; exact hq
    | succ k ih =>
      intro i hi he
      have nx : v_bad2 V W i = false → zp_wp X y_Prog_hasMembersIn 28 [.ref p, .ref q, .int (nI i)] [] h Q := by
        intro hb
        refine zp_iincN_2 rfl rfl ?_
        refine zp_goto (tgt := 2) rfl rfl ?_
        exact ih (i + 1) (by omega) (fun j hj => by by_cases e : j = i; exact e ▸ hb; exact he j (by omega))
      refine zp_iload_n (x := (nI i)) rfl rfl ?_
      refine zp_bipush (v := (nI 40)) rfl (by decide +kernel) ?_
      refine zp_icmpN_ge (tgt := 34) rfl rfl (by omega) (by omega) (fun b5 => ?_) (fun b5 => ?_)
      · omega
      · refine zp_aload_n (x := p) rfl rfl ?_
        refine zq_getr (k9 := (p + 4)) hS rfl (by first | assumption | exact ⟨by decide, rfl⟩) rfl ?_
        refine zp_iload_n (x := (nI i)) rfl rfl ?_
        refine zq_iald hS rfl (by first | assumption | exact ⟨by decide, rfl⟩) (by omega) (by first | decide | omega) ?_
        rw [hP.mn (i) (by omega)]
        have q13 := hB.2.2.1 (i) (by omega)
        refine zp_ifN_eq (tgt := 28) rfl rfl (by omega) (fun b14 => ?_) (fun b14 => ?_)
        · first
          | exact nx (by unfold v_bad2; rw [zb_eq b14]; rfl)
          | exact nx (by unfold v_bad2; rw [hz]; simp)
        · refine zp_aload_n (x := p) rfl rfl ?_
          refine zp_iload_n (x := (nI i)) rfl rfl ?_
          refine zp_aload_n (x := q) rfl rfl ?_
          refine zq_virt hS rfl rfl (by first | assumption | exact ⟨by decide, rfl⟩) rfl (s_Prog_twinOf hS hAp hP hV hAq hP2 hW (by omega) b14 ?_)
          cases hz : v_twin V i W with
          | none =>
            show zp_wp X y_Prog_hasMembersIn 23 [.ref p, .ref q, .int (nI i)] [.int (-1)] h Q
            refine zp_ifF (tgt := 28) rfl rfl (by decide +kernel) ?_
            refine zp_iconst (v := (nI 0)) rfl (by decide +kernel) ?_
            refine zp_zret rfl rfl (by decide) ?_
            have hb : v_bad2 V W i = true := by unfold v_bad2; rw [zb_ne b14, hz]; rfl
            rw [zf_any_y (show i < 40 by omega) hb] at hq
            exact hq
          | some k9 =>
            have hk9 := (v_mem_lt hz).1
            show zp_wp X y_Prog_hasMembersIn 23 [.ref p, .ref q, .int (nI i)] [.int (nI k9)] h Q
            refine zp_ifT (tgt := 28) rfl rfl (zc_ge (by omega)) ?_
            first
            | exact nx (by unfold v_bad2; rw [zb_eq b14]; rfl)
            | exact nx (by unfold v_bad2; rw [hz]; simp)
  refine zp_iconst (v := (nI 0)) rfl (by decide +kernel) ?_
  refine zp_istore_n_2 rfl rfl ?_
  exact lp 40 0 rfl (fun j hj => absurd hj (by omega))
theorem s_Prog_hasUsesIn (hS : zs_H h) (hA : zq_A p) (hP : zq_P V p h) (hV : zv_W V) (hA2 : zq_A q) (hP2 : zq_P W q h) (hW : zv_W W) (hq : Q (.inl (some (.int (zf_b (!(zf_any (v_bad3 V W) 0 1600)))))) h) : zp_wm X y_Prog_hasUsesIn [.ref p, .ref q] h Q := by
  have hB := hV.B
  have hAp := hA
  have hAq := hA2
  have hq0 := hA2.1
  obtain ⟨hA0, hA1, hA2, hA3, hA4, hA5, hA6⟩ := hA
  show zp_wp X y_Prog_hasUsesIn 0 [.ref p, .ref q, zm_mk, zm_mk] [] h Q
  have lp : ∀ k i z, i + k = 40 → (∀ j, j < 40 * i → v_bad3 V W j = false) → zp_wp X y_Prog_hasUsesIn 2 [.ref p, .ref q, .int (nI i), z] [] h Q := by
    intro k
    induction k with
    | zero =>
      intro i z hi he
      have hi : i = 40 := by omega
      subst hi
      refine zp_iload_n (x := (nI 40)) rfl rfl ?_
      refine zp_bipush (v := (nI 40)) rfl (by decide +kernel) ?_
      refine zp_icT (tgt := 69) rfl rfl (by decide +kernel) ?_
      refine zp_iconst (v := (nI 1)) rfl (by decide +kernel) ?_
      refine zp_zret rfl rfl (by decide) ?_
      rw [zf_any_z.mpr he] at hq; exact hq
    | succ k ih =>
      intro i z hi he
      have nx : ∀ z, (∀ j, j < 40 * (i + 1) → v_bad3 V W j = false) → zp_wp X y_Prog_hasUsesIn 63 [.ref p, .ref q, .int (nI i), z] [] h Q := by
        intro z hb
        refine zp_iincN_2 rfl rfl ?_
        refine zp_goto (tgt := 2) rfl rfl ?_
        exact ih (i + 1) _ (by omega) hb
      have lq : ∀ r t, t + r = 40 → (∀ j, j < 40 * i + t → v_bad3 V W j = false) → zp_wp X y_Prog_hasUsesIn 10 [.ref p, .ref q, .int (nI i), .int (nI t)] [] h Q := by
        intro r
        induction r with
        | zero =>
          intro t ht hb
          have ht : t = 40 := by omega
          subst ht
          refine zp_iload_n (x := (nI 40)) rfl rfl ?_
          refine zp_bipush (v := (nI 40)) rfl (by decide +kernel) ?_
          refine zp_icT (tgt := 63) rfl rfl (by decide +kernel) ?_
          exact nx _ (fun j hj => hb j (by omega))
        | succ r ih2 =>
          intro t ht hb
          have e40 : (40 * i + t) / 40 = i ∧ (40 * i + t) % 40 = t := by omega
          have hb3 := v_bad3_uo V W (40 * i + t)
          rw [e40.1, e40.2] at hb3
          have ny : v_bad3 V W (40 * i + t) = false → zp_wp X y_Prog_hasUsesIn 57 [.ref p, .ref q, .int (nI i), .int (nI t)] [] h Q := by
            intro hc
            refine zp_iincN_3 rfl rfl ?_
            refine zp_goto (tgt := 10) rfl rfl ?_
            exact ih2 (t + 1) (by omega) (fun j hj => by by_cases e : j = 40 * i + t; exact e ▸ hc; exact hb j (by omega))
          refine zp_iload_n (x := (nI t)) rfl rfl ?_
          refine zp_bipush (v := (nI 40)) rfl (by decide +kernel) ?_
          refine zp_icmpN_ge (tgt := 63) rfl rfl (by omega) (by omega) (fun b13 => ?_) (fun b13 => ?_)
          · omega
          · refine zp_aload_n (x := p) rfl rfl ?_
            refine zq_getr (k9 := (p + 6)) hS rfl (by first | assumption | exact ⟨by decide, rfl⟩) rfl ?_
            refine zp_iload_n (x := (nI i)) rfl rfl ?_
            refine zq_lald hS rfl (by first | assumption | exact ⟨by decide, rfl⟩) (by omega) (by first | decide | omega) ?_
            refine zp_lconst (v := lN 0) rfl rfl ?_
            refine zp_lcmp rfl rfl ?_
            refine zp_if_eq (tgt := 63) rfl rfl (fun b24 => ?_) (fun b24 => ?_)
            · refine nx _ (fun j hj => ?_)
              by_cases e : j < 40 * i
              · exact he j e
              · have h0 : cj h (p + 6) i = lN 0 := lg_cmp0 b24
                have hu := hP.us i (by omega) (j % 40) (by omega)
                rw [h0, bl_0, decide_eq_true (by omega), Bool.true_and] at hu
                rw [v_bad3_uo, show j / 40 = i by omega, ← hu]
                rfl
            · refine zp_aload_n (x := p) rfl rfl ?_
              refine zp_iload_n (x := (nI i)) rfl rfl ?_
              refine zp_iload_n (x := (nI t)) rfl rfl ?_
              refine zq_virt hS rfl rfl (by first | assumption | exact ⟨by decide, rfl⟩) rfl (s_Prog_isUse (u := some i) (t := some t) hS hAp hP (fun z hz => by cases hz; omega) (fun z hz => by cases hz; omega) ?_)
              rw [show v_uo V (some i) (some t) = v_us V i t from rfl]
              cases hx : v_us V i t with
              | false =>
                show zp_wp X y_Prog_hasUsesIn 33 [.ref p, .ref q, .int (nI i), .int (nI t)] [.int (nI 0)] h Q
                refine zp_ifT (tgt := 57) rfl rfl (by decide +kernel) ?_
                first
                | exact ny (by rw [hb3, hx, hy]; rfl)
                | exact ny (by rw [hb3, hx]; rfl)
              | true =>
                show zp_wp X y_Prog_hasUsesIn 33 [.ref p, .ref q, .int (nI i), .int (nI t)] [.int (nI 1)] h Q
                refine zp_ifF (tgt := 57) rfl rfl (by decide +kernel) ?_
                refine zp_aload_n (x := q) rfl rfl ?_
                refine zp_aload_n (x := p) rfl rfl ?_
                refine zp_iload_n (x := (nI i)) rfl rfl ?_
                refine zp_aload_n (x := q) rfl rfl ?_
                refine zq_virt hS rfl rfl (by first | assumption | exact ⟨by decide, rfl⟩) rfl (s_Prog_twinOf hS hAp hP hV hAq hP2 hW (by omega) (hV.U i t (by omega) (by omega) hx).1 ?_)
                show zp_wp X y_Prog_hasUsesIn 43 [.ref p, .ref q, .int (nI i), .int (nI t)] [.int (zf_o (v_twin V i W)), .ref q] h Q
                refine zp_aload_n (x := p) rfl rfl ?_
                refine zp_iload_n (x := (nI t)) rfl rfl ?_
                refine zp_aload_n (x := q) rfl rfl ?_
                refine zq_virt hS rfl rfl (by first | assumption | exact ⟨by decide, rfl⟩) rfl (s_Prog_twinOf hS hAp hP hV hAq hP2 hW (by omega) (hV.U i t (by omega) (by omega) hx).2 ?_)
                show zp_wp X y_Prog_hasUsesIn 49 [.ref p, .ref q, .int (nI i), .int (nI t)] [.int (zf_o (v_twin V t W)), .int (zf_o (v_twin V i W)), .ref q] h Q
                refine zq_virt hS rfl rfl (by first | assumption | exact ⟨by decide, rfl⟩) rfl (s_Prog_isUse hS hAq hP2 v_mem_40 v_mem_40 ?_)
                cases hy : v_uo W (v_twin V i W) (v_twin V t W) with
                | false =>
                  show zp_wp X y_Prog_hasUsesIn 52 [.ref p, .ref q, .int (nI i), .int (nI t)] [.int (nI 0)] h Q
                  refine zp_ifF (tgt := 57) rfl rfl (by decide +kernel) ?_
                  refine zp_iconst (v := (nI 0)) rfl (by decide +kernel) ?_
                  refine zp_zret rfl rfl (by decide) ?_
                  rw [zf_any_y (show 40 * i + t < 1600 by omega) (by rw [hb3, hx, hy]; rfl)] at hq
                  exact hq
                | true =>
                  show zp_wp X y_Prog_hasUsesIn 52 [.ref p, .ref q, .int (nI i), .int (nI t)] [.int (nI 1)] h Q
                  refine zp_ifT (tgt := 57) rfl rfl (by decide +kernel) ?_
                  first
                  | exact ny (by rw [hb3, hx, hy]; rfl)
                  | exact ny (by rw [hb3, hx]; rfl)
      refine zp_iload_n (x := (nI i)) rfl rfl ?_
      refine zp_bipush (v := (nI 40)) rfl (by decide +kernel) ?_
      refine zp_icmpN_ge (tgt := 69) rfl rfl (by omega) (by omega) (fun b5 => ?_) (fun b5 => ?_)
      · omega
      · refine zp_iconst (v := (nI 0)) rfl (by decide +kernel) ?_
        refine zp_istore_n_3 rfl rfl ?_
        exact lq 40 0 rfl (fun j hj => he j (by omega))
  refine zp_iconst (v := (nI 0)) rfl (by decide +kernel) ?_
  refine zp_istore_n_2 rfl rfl ?_
  exact lp 40 0 _ rfl (fun j hj => absurd hj (by omega))
end ZP8
/-! injections and counts -/
theorem zf_ct_inj {p : Nat → Bool} {f : Nat → Nat} {m : Nat} : ∀ (n : Nat) (q : Nat → Bool), (∀ i, i < n → p i = true → f i < m ∧ q (f i) = true) → (∀ i j, i < n → j < n → p i = true → p j = true → f i = f j → i = j) → zf_ct p 0 n ≤ zf_ct q 0 m
  | 0, _, _, _ => Nat.zero_le _
  | n + 1, q, h1, h2 => by
    have e : zf_ct p 0 (n + 1) = zf_ct p 0 n + cond (p n) 1 0 := by
      rw [zf_ct_add n 1 0, Nat.zero_add]
      rfl
    rw [e]
    cases hp : p n with
    | false => exact zf_ct_inj n q (fun i hi => h1 i (by omega)) (fun i j hi hj => h2 i j (by omega) (by omega))
    | true =>
      obtain ⟨g1, g2⟩ := h1 n (by omega) hp
      rw [zf_ct_but (p := q) (i := f n) (k := m) (c := 0) (Nat.zero_le _) (by omega), g2]
      refine Nat.add_le_add_right (zf_ct_inj n (fun j => !(j == f n) && q j) (fun i hi hpi => ?_) (fun i j hi hj => h2 i j (by omega) (by omega))) 1
      obtain ⟨k1, k2⟩ := h1 i (by omega) hpi
      refine ⟨k1, ?_⟩
      have : ¬ f i = f n := fun q => by have := h2 i n (by omega) (by omega) hpi hp q; omega
      rw [zb_ne this, k2]
      rfl
theorem zf_ct_sur {p q : Nat → Bool} {f : Nat → Nat} {n m j : Nat} (h1 : ∀ i, i < n → p i = true → f i < m ∧ q (f i) = true) (h2 : ∀ i j, i < n → j < n → p i = true → p j = true → f i = f j → i = j) (he : zf_ct p 0 n = zf_ct q 0 m) (hj : j < m) (hqj : q j = true) : ∃ i, i < n ∧ p i = true ∧ f i = j := by
  refine Classical.byContradiction (fun hn => ?_)
  have hne : ∀ i, i < n → p i = true → ¬ f i = j := fun i hi hp q => hn ⟨i, hi, hp, q⟩
  have h3 := zf_ct_inj (p := p) (f := f) (m := m) n (fun i => !(i == j) && q i) (fun i hi hp => ⟨(h1 i hi hp).1, by rw [zb_ne (hne i hi hp), (h1 i hi hp).2]; rfl⟩) h2
  rw [he, zf_ct_but (p := q) (i := j) (k := m) (c := 0) (Nat.zero_le _) (by omega), hqj] at h3
  have : cond true 1 0 = 1 := rfl
  omega
/-! what a version has, by names -/
def nS (V : zv) (a b : Nat) : Prop := ∃ c, c < 12 ∧ v_cn V c = a ∧ a ≠ 0 ∧ v_sn V c = b
def nM (V : zv) (a m : Nat) : Prop := ∃ k, k < 40 ∧ v_mn V k = m ∧ m ≠ 0 ∧ v_cn V (v_ow V k) = a
def nU (V : zv) (a m b n : Nat) : Prop := ∃ k j, k < 40 ∧ j < 40 ∧ v_us V k j = true ∧ (v_mn V k = m ∧ v_cn V (v_ow V k) = a) ∧ (v_mn V j = n ∧ v_cn V (v_ow V j) = b)
def nSub (V W : zv) : Prop := (∀ a b, nS V a b → nS W a b) ∧ (∀ a m, nM V a m → nM W a m) ∧ (∀ a m b n, nU V a m b n → nU W a m b n)
def nIso (V W : zv) : Prop := nSub V W ∧ nSub W V
theorem nIso.symm {V W : zv} (h : nIso V W) : nIso W V := ⟨h.2, h.1⟩
theorem nSub.trans {V W Z : zv} (h : nSub V W) (g : nSub W Z) : nSub V Z := ⟨fun a b q => g.1 a b (h.1 a b q), fun a b q => g.2.1 a b (h.2.1 a b q), fun a b c d q => g.2.2 a b c d (h.2.2 a b c d q)⟩
theorem nIso.trans {V W Z : zv} (h : nIso V W) (g : nIso W Z) : nIso V Z := ⟨h.1.trans g.1, g.2.trans h.2⟩
theorem nIso.rf {V : zv} : nIso V V := ⟨⟨fun _ _ q => q, fun _ _ q => q, fun _ _ _ _ q => q⟩, ⟨fun _ _ q => q, fun _ _ q => q, fun _ _ _ _ q => q⟩⟩
section ZN
variable {V W : zv}
theorem cls_iff {a c : Nat} (hV : zv_W V) : v_cls V a = some c ↔ c < 12 ∧ v_cn V c = a ∧ a ≠ 0 := by
  constructor
  · exact v_cls_lt
  · rintro ⟨h1, h2, h3⟩
    subst h2
    exact v_cls_at hV h1 h3
theorem mem_iff {a m k : Nat} (hV : zv_W V) (hm : m ≠ 0) : v_mem V (v_cls V a) m = some k ↔ k < 40 ∧ v_mn V k = m ∧ v_cn V (v_ow V k) = a := by
  constructor
  · intro h
    obtain ⟨h1, h2, h3⟩ := v_mem_lt h
    exact ⟨h1, h2, (v_cls_lt h3).2.1⟩
  · rintro ⟨h1, h2, h3⟩
    subst h2
    have hl := hV.2.2.2.2.2.2.2.1 k h1 hm
    rw [← h3, v_cls_at hV (hV.2.2.2.1 k h1) hl]
    exact v_mem_at hV h1 hm
theorem nM_mem {a m : Nat} (hV : zv_W V) (hm : m ≠ 0) : nM V a m ↔ ∃ k, v_mem V (v_cls V a) m = some k := by
  constructor
  · rintro ⟨k, h1, h2, h3, h4⟩
    exact ⟨k, (mem_iff hV hm).mpr ⟨h1, h2, h4⟩⟩
  · rintro ⟨k, h⟩
    obtain ⟨h1, h2, h3⟩ := (mem_iff hV hm).mp h
    exact ⟨k, h1, h2, hm, h3⟩
theorem nM_un {k j : Nat} (hV : zv_W V) (hk : k < 40) (hj : j < 40) (hl : v_mn V k ≠ 0) (h1 : v_mn V k = v_mn V j) (h2 : v_cn V (v_ow V k) = v_cn V (v_ow V j)) : k = j := by
  have o := hV.2.2.2.2.2.1 _ _ (hV.2.2.2.1 k hk) (hV.2.2.2.1 j hj) (hV.2.2.2.2.2.2.2.1 k hk hl) h2
  exact hV.2.2.2.2.2.2.2.2.1 k j hk hj hl h1 o
theorem v_bad1_f {c : Nat} (hW : zv_W W) : v_bad1 V W c = false ↔ (v_cn V c ≠ 0 → nS W (v_cn V c) (v_sn V c)) := by
  unfold v_bad1
  by_cases e : v_cn V c = 0
  · rw [zb_eq e]
    exact ⟨fun _ q => absurd e q, fun _ => rfl⟩
  · rw [zb_ne e]
    constructor
    · intro h _
      cases hz : v_cls W (v_cn V c) with
      | none => rw [hz] at h; cases h
      | some k =>
        rw [hz] at h
        obtain ⟨k1, k2, k3⟩ := v_cls_lt hz
        have h : v_sn V c = v_sn W k := by simpa using h
        exact ⟨k, k1, k2, k3, h.symm⟩
    · intro h
      obtain ⟨k, k1, k2, k3, k4⟩ := h e
      rw [(cls_iff hW).mpr ⟨k1, k2, k3⟩]
      simp [k4]
theorem v_bad2_f {m : Nat} (hW : zv_W W) : v_bad2 V W m = false ↔ (v_mn V m ≠ 0 → nM W (v_cn V (v_ow V m)) (v_mn V m)) := by
  unfold v_bad2 v_twin
  by_cases e : v_mn V m = 0
  · rw [zb_eq e]
    exact ⟨fun _ q => absurd e q, fun _ => rfl⟩
  · rw [zb_ne e]
    constructor
    · intro h _
      refine (nM_mem hW e).mpr ?_
      cases hz : v_mem W (v_cls W (v_cn V (v_ow V m))) (v_mn V m) with
      | none => rw [hz] at h; cases h
      | some k => exact ⟨k, rfl⟩
    · intro h
      obtain ⟨k, hk⟩ := (nM_mem hW e).mp (h e)
      rw [hk]
      rfl
theorem v_bad3_f {i t : Nat} (hV : zv_W V) (hW : zv_W W) (hi : i < 40) (ht : t < 40) : v_bad3 V W (40 * i + t) = false ↔ (v_us V i t = true → nU W (v_cn V (v_ow V i)) (v_mn V i) (v_cn V (v_ow V t)) (v_mn V t)) := by
  rw [v_bad3_uo, show (40 * i + t) / 40 = i by omega, show (40 * i + t) % 40 = t by omega]
  cases e : v_us V i t with
  | false => exact ⟨fun _ q => absurd q (by decide), fun _ => rfl⟩
  | true =>
    obtain ⟨l1, l2⟩ := hV.U i t hi ht e
    constructor
    · intro h _
      have h : v_uo W (v_twin V i W) (v_twin V t W) = true := by simpa using h
      cases e1 : v_twin V i W with
      | none => rw [e1] at h; cases h
      | some k =>
        cases e2 : v_twin V t W with
        | none => rw [e1, e2] at h; cases h
        | some j =>
          rw [e1, e2] at h
          obtain ⟨a1, a2, a3⟩ := (mem_iff hW l1).mp e1
          obtain ⟨b1, b2, b3⟩ := (mem_iff hW l2).mp e2
          exact ⟨k, j, a1, b1, h, ⟨a2, a3⟩, ⟨b2, b3⟩⟩
    · intro h
      obtain ⟨k, j, a1, b1, hu, ⟨a2, a3⟩, ⟨b2, b3⟩⟩ := h rfl
      have e1 : v_twin V i W = some k := (mem_iff hW l1).mpr ⟨a1, a2, a3⟩
      have e2 : v_twin V t W = some j := (mem_iff hW l2).mpr ⟨b1, b2, b3⟩
      rw [e1, e2]
      show (true && !(v_us W k j)) = false
      rw [hu]
      rfl
theorem v_part_n (hV : zv_W V) (hW : zv_W W) : v_part V W = true ↔ nSub V W := by
  unfold v_part
  simp only [Bool.and_eq_true, Bool.not_eq_true', zf_any_z]
  constructor
  · rintro ⟨h1, h2, h3⟩
    refine ⟨?_, ?_, ?_⟩
    · rintro a b ⟨c, c1, c2, c3, c4⟩
      subst c2
      subst c4
      exact (v_bad1_f hW).mp (h1 c c1) c3
    · rintro a m ⟨k, k1, k2, k3, k4⟩
      subst k2
      subst k4
      exact (v_bad2_f hW).mp (h2 k k1) k3
    · rintro a m b n ⟨k, j, k1, j1, hu, ⟨k2, k3⟩, ⟨j2, j3⟩⟩
      subst k2
      subst k3
      subst j2
      subst j3
      exact (v_bad3_f hV hW k1 j1).mp (h3 _ (by omega)) hu
  · rintro ⟨h1, h2, h3⟩
    refine ⟨fun c hc => (v_bad1_f hW).mpr (fun hl => h1 _ _ ⟨c, hc, rfl, hl, rfl⟩), fun m hm => (v_bad2_f hW).mpr (fun hl => h2 _ _ ⟨m, hm, rfl, hl, rfl⟩), fun j hj => ?_⟩
    have := (v_bad3_f (V := V) (W := W) (i := j / 40) (t := j % 40) hV hW (by omega) (by omega)).mpr (fun hu => h3 _ _ _ _ ⟨j / 40, j % 40, by omega, by omega, hu, ⟨rfl, rfl⟩, ⟨rfl, rfl⟩⟩)
    rw [show 40 * (j / 40) + j % 40 = j by omega] at this
    exact this
theorem v_one_n (hV : zv_W V) (hW : zv_W W) : v_one V W = true ↔ nIso V W := by
  unfold v_one
  rw [Bool.and_eq_true, v_part_n hV hW, v_part_n hW hV]
  rfl
/-! counts -/
def n_f1 (V W : zv) (c : Nat) : Nat := (v_cls W (v_cn V c)).getD 0
def n_f2 (V W : zv) (m : Nat) : Nat := (v_twin V m W).getD 0
def n_f3 (V W : zv) (i : Nat) : Nat := 40 * n_f2 V W (i / 40) + n_f2 V W (i % 40)
theorem n_f1_ok (hV : zv_W V) (hW : zv_W W) (h : nSub V W) {c : Nat} (hc : c < 12) (hl : v_cn V c ≠ 0) : n_f1 V W c < 12 ∧ v_cn W (n_f1 V W c) = v_cn V c ∧ v_sn W (n_f1 V W c) = v_sn V c := by
  obtain ⟨k, k1, k2, k3, k4⟩ := h.1 _ _ ⟨c, hc, rfl, hl, rfl⟩
  have e : v_cls W (v_cn V c) = some k := (cls_iff hW).mpr ⟨k1, k2, k3⟩
  unfold n_f1
  rw [e]
  exact ⟨k1, k2, k4⟩
theorem n_f2_ok (hV : zv_W V) (hW : zv_W W) (h : nSub V W) {m : Nat} (hm : m < 40) (hl : v_mn V m ≠ 0) : n_f2 V W m < 40 ∧ v_mn W (n_f2 V W m) = v_mn V m ∧ v_cn W (v_ow W (n_f2 V W m)) = v_cn V (v_ow V m) := by
  obtain ⟨k, k1, k2, k3, k4⟩ := h.2.1 _ _ ⟨m, hm, rfl, hl, rfl⟩
  have e : v_twin V m W = some k := (mem_iff hW hl).mpr ⟨k1, k2, k4⟩
  unfold n_f2
  rw [e]
  exact ⟨k1, k2, k4⟩
theorem n_f1_inj (hV : zv_W V) (hW : zv_W W) (h : nSub V W) : ∀ i j, i < 12 → j < 12 → (!(v_cn V i == 0)) = true → (!(v_cn V j == 0)) = true → n_f1 V W i = n_f1 V W j → i = j := by
  intro i j hi hj pi pj e
  have pi : v_cn V i ≠ 0 := by simpa using pi
  have pj : v_cn V j ≠ 0 := by simpa using pj
  have a := n_f1_ok hV hW h hi pi
  have b := n_f1_ok hV hW h hj pj
  exact hV.2.2.2.2.2.1 i j hi hj pi (by rw [← a.2.1, ← b.2.1, e])
theorem n_f2_inj (hV : zv_W V) (hW : zv_W W) (h : nSub V W) : ∀ i j, i < 40 → j < 40 → v_mn V i ≠ 0 → v_mn V j ≠ 0 → n_f2 V W i = n_f2 V W j → i = j := by
  intro i j hi hj pi pj e
  have a := n_f2_ok hV hW h hi pi
  have b := n_f2_ok hV hW h hj pj
  exact nM_un hV hi hj pi (by rw [← a.2.1, ← b.2.1, e]) (by rw [← a.2.2, ← b.2.2, e])
theorem n_f3_ok (hV : zv_W V) (hW : zv_W W) (h : nSub V W) : ∀ i, i < 1600 → v_us V (i / 40) (i % 40) = true → n_f3 V W i < 1600 ∧ v_us W (n_f3 V W i / 40) (n_f3 V W i % 40) = true := by
  intro i hi hu
  obtain ⟨l1, l2⟩ := hV.U _ _ (by omega) (by omega) hu
  have a := n_f2_ok hV hW h (m := i / 40) (by omega) l1
  have b := n_f2_ok hV hW h (m := i % 40) (by omega) l2
  have e1 : n_f3 V W i / 40 = n_f2 V W (i / 40) := by unfold n_f3; omega
  have e2 : n_f3 V W i % 40 = n_f2 V W (i % 40) := by unfold n_f3; omega
  refine ⟨by unfold n_f3; omega, ?_⟩
  rw [e1, e2]
  obtain ⟨k, j, k1, j1, hu2, ⟨k2, k3⟩, ⟨j2, j3⟩⟩ := h.2.2 _ _ _ _ ⟨i / 40, i % 40, by omega, by omega, hu, ⟨rfl, rfl⟩, ⟨rfl, rfl⟩⟩
  have f1 : n_f2 V W (i / 40) = k := nM_un hW a.1 k1 (by rw [a.2.1]; exact l1) (by rw [a.2.1, k2]) (by rw [a.2.2, k3])
  have f2 : n_f2 V W (i % 40) = j := nM_un hW b.1 j1 (by rw [b.2.1]; exact l2) (by rw [b.2.1, j2]) (by rw [b.2.2, j3])
  rw [f1, f2]
  exact hu2
theorem n_f3_inj (hV : zv_W V) (hW : zv_W W) (h : nSub V W) : ∀ i j, i < 1600 → j < 1600 → v_us V (i / 40) (i % 40) = true → v_us V (j / 40) (j % 40) = true → n_f3 V W i = n_f3 V W j → i = j := by
  intro i j hi hj ui uj e
  obtain ⟨l1, l2⟩ := hV.U _ _ (by omega) (by omega) ui
  obtain ⟨l3, l4⟩ := hV.U _ _ (by omega) (by omega) uj
  have a := n_f2_ok hV hW h (m := i % 40) (by omega) l2
  have b := n_f2_ok hV hW h (m := j % 40) (by omega) l4
  unfold n_f3 at e
  have e1 := n_f2_inj hV hW h (i / 40) (j / 40) (by omega) (by omega) l1 l3 (by omega)
  have e2 := n_f2_inj hV hW h (i % 40) (j % 40) (by omega) (by omega) l2 l4 (by omega)
  omega
theorem n_f1_q (hV : zv_W V) (hW : zv_W W) (h : nSub V W) : ∀ i, i < 12 → (!(v_cn V i == 0)) = true → n_f1 V W i < 12 ∧ (!(v_cn W (n_f1 V W i) == 0)) = true := by
  intro i hi pi
  have pi : v_cn V i ≠ 0 := by simpa using pi
  have a := n_f1_ok hV hW h hi pi
  exact ⟨a.1, by rw [a.2.1]; simpa using pi⟩
theorem n_f2_q (hV : zv_W V) (hW : zv_W W) (h : nSub V W) : ∀ i, i < 40 → (!(v_mn V i == 0)) = true → n_f2 V W i < 40 ∧ (!(v_mn W (n_f2 V W i) == 0)) = true := by
  intro i hi pi
  have pi : v_mn V i ≠ 0 := by simpa using pi
  have a := n_f2_ok hV hW h hi pi
  exact ⟨a.1, by rw [a.2.1]; simpa using pi⟩
theorem n_le (hV : zv_W V) (hW : zv_W W) (h : nSub V W) : v_nc V ≤ v_nc W ∧ v_nm V ≤ v_nm W ∧ v_nu V ≤ v_nu W :=
  ⟨zf_ct_inj (f := n_f1 V W) 12 _ (n_f1_q hV hW h) (n_f1_inj hV hW h), zf_ct_inj (f := n_f2 V W) 40 _ (n_f2_q hV hW h) (fun i j hi hj pi pj => n_f2_inj hV hW h i j hi hj (by simpa using pi) (by simpa using pj)), zf_ct_inj (f := n_f3 V W) 1600 _ (n_f3_ok hV hW h) (n_f3_inj hV hW h)⟩
theorem n_sur (hV : zv_W V) (hW : zv_W W) (h : nSub V W) (e1 : v_nc V = v_nc W) (e2 : v_nm V = v_nm W) (e3 : v_nu V = v_nu W) : nSub W V := by
  refine ⟨?_, ?_, ?_⟩
  · rintro a b ⟨c, c1, c2, c3, c4⟩
    obtain ⟨i, i1, i2, i3⟩ := zf_ct_sur (n_f1_q hV hW h) (n_f1_inj hV hW h) e1 c1 (show (!(v_cn W c == 0)) = true by rw [c2]; simpa using c3)
    have i2 : v_cn V i ≠ 0 := by simpa using i2
    have g := n_f1_ok hV hW h i1 i2
    rw [i3] at g
    exact ⟨i, i1, by rw [← g.2.1, c2], c3, by rw [← g.2.2, c4]⟩
  · rintro a m ⟨c, c1, c2, c3, c4⟩
    obtain ⟨i, i1, i2, i3⟩ := zf_ct_sur (n_f2_q hV hW h) (fun i j hi hj pi pj => n_f2_inj hV hW h i j hi hj (by simpa using pi) (by simpa using pj)) e2 c1 (show (!(v_mn W c == 0)) = true by rw [c2]; simpa using c3)
    have i2 : v_mn V i ≠ 0 := by simpa using i2
    have g := n_f2_ok hV hW h i1 i2
    rw [i3] at g
    exact ⟨i, i1, by rw [← g.2.1, c2], c3, by rw [← g.2.2, c4]⟩
  · rintro a m b n ⟨k, j, k1, j1, hu, ⟨k2, k3⟩, ⟨j2, j3⟩⟩
    have hu9 : v_us W ((40 * k + j) / 40) ((40 * k + j) % 40) = true := by rw [show (40 * k + j) / 40 = k by omega, show (40 * k + j) % 40 = j by omega]; exact hu
    obtain ⟨i, i1, i2, i3⟩ := zf_ct_sur (q := fun i => v_us W (i / 40) (i % 40)) (n_f3_ok hV hW h) (n_f3_inj hV hW h) e3 (show 40 * k + j < 1600 by omega) hu9
    obtain ⟨l1, l2⟩ := hV.U _ _ (by omega) (by omega) i2
    have a9 := n_f2_ok hV hW h (m := i / 40) (by omega) l1
    have b9 := n_f2_ok hV hW h (m := i % 40) (by omega) l2
    unfold n_f3 at i3
    have f1 : n_f2 V W (i / 40) = k := by omega
    have f2 : n_f2 V W (i % 40) = j := by omega
    rw [f1] at a9
    rw [f2] at b9
    exact ⟨i / 40, i % 40, by omega, by omega, i2, ⟨by rw [← a9.2.1, k2], by rw [← a9.2.2, k3]⟩, ⟨by rw [← b9.2.1, j2], by rw [← b9.2.2, j3]⟩⟩
theorem n_ct (hV : zv_W V) (hW : zv_W W) (h : nIso V W) : v_nc V = v_nc W ∧ v_nm V = v_nm W ∧ v_nu V = v_nu W := by
  have a := n_le hV hW h.1
  have b := n_le hW hV h.2
  exact ⟨Nat.le_antisymm a.1 b.1, Nat.le_antisymm a.2.1 b.2.1, Nat.le_antisymm a.2.2 b.2.2⟩
theorem v_one_c (hV : zv_W V) (hW : zv_W W) : v_one V W = (v_nc V == v_nc W && (v_nm V == v_nm W && (v_nu V == v_nu W && v_part V W))) := by
  by_cases h : nSub V W
  · have h1 := (v_part_n hV hW).mpr h
    by_cases e1 : v_nc V = v_nc W
    · by_cases e2 : v_nm V = v_nm W
      · by_cases e3 : v_nu V = v_nu W
        · rw [(v_one_n hV hW).mpr ⟨h, n_sur hV hW h e1 e2 e3⟩, zb_eq e1, zb_eq e2, zb_eq e3, h1]; rfl
        · rw [zb_ne e3]
          have : ¬ v_one V W = true := fun q => e3 (n_ct hV hW ((v_one_n hV hW).mp q)).2.2
          simp [this]
      · rw [zb_ne e2]
        have : ¬ v_one V W = true := fun q => e2 (n_ct hV hW ((v_one_n hV hW).mp q)).2.1
        simp [this]
    · rw [zb_ne e1]
      have : ¬ v_one V W = true := fun q => e1 (n_ct hV hW ((v_one_n hV hW).mp q)).1
      simp [this]
  · have h1 : ¬ v_part V W = true := fun q => h ((v_part_n hV hW).mp q)
    have h2 : ¬ v_one V W = true := fun q => h ((v_one_n hV hW).mp q).1
    simp [h1, h2]
end ZN
section ZP9
variable {X : zm_X} {h : zm_H} {Q : zm_O → zm_H → Prop} {V W : zv} {p q : Nat}
theorem s_Prog_isSameAs (hS : zs_H h) (hA : zq_A p) (hP : zq_P V p h) (hV : zv_W V) (hA2 : zq_A q) (hP2 : zq_P W q h) (hW : zv_W W) (hq : Q (.inl (some (.int (zf_b (v_one V W))))) h) : zp_wm X y_Prog_isSameAs [.ref p, .ref q] h Q := by
  have hp0 := hA.1
  have hq0 := hA2.1
  have n1 := zf_ct_le (fun c => !(v_cn V c == 0)) 12 0
  have n2 := zf_ct_le (fun c => !(v_cn W c == 0)) 12 0
  have n3 := zf_ct_le (fun c => !(v_mn V c == 0)) 40 0
  have n4 := zf_ct_le (fun c => !(v_mn W c == 0)) 40 0
  have n1 : v_nc V ≤ 12 := n1
  have n2 : v_nc W ≤ 12 := n2
  have n3 : v_nm V ≤ 40 := n3
  have n4 : v_nm W ≤ 40 := n4
  have n5 : v_nu V ≤ 60 := hV.2.2.2.2.2.2.2.2.2
  have n6 : v_nu W ≤ 60 := hW.2.2.2.2.2.2.2.2.2
  rw [v_one_c hV hW] at hq
  unfold v_part at hq
  show zp_wp X y_Prog_isSameAs 0 [.ref p, .ref q] [] h Q
  refine zp_aload_n (x := p) rfl rfl ?_
  refine zq_virt hS rfl rfl (by first | assumption | exact ⟨by decide, rfl⟩) rfl (s_Prog_classCount hS hA hP hV.B ?_)
  show zp_wp X y_Prog_isSameAs 4 [.ref p, .ref q] [.int (nI (v_nc V))] h Q
  refine zp_aload_n (x := q) rfl rfl ?_
  refine zq_virt hS rfl rfl (by first | assumption | exact ⟨by decide, rfl⟩) rfl (s_Prog_classCount hS hA2 hP2 hW.B ?_)
  show zp_wp X y_Prog_isSameAs 8 [.ref p, .ref q] [.int (nI (v_nc W)), .int (nI (v_nc V))] h Q
  refine zp_icmpN_ne (tgt := 61) rfl rfl (by omega) (by omega) (fun b8 => ?_) (fun b8 => ?_)
  · refine zp_iconst (v := (nI 0)) rfl (by decide +kernel) ?_
    refine zp_zret rfl rfl (by decide) ?_
    first
    | (rw [zb_ne b8] at hq; exact hq)
    | (rw [zb_ne b19, Bool.false_and, Bool.and_false] at hq; exact hq)
    | (rw [zb_ne b30, Bool.false_and, Bool.and_false, Bool.and_false] at hq; exact hq)
    | (rw [x1, Bool.false_and, Bool.and_false, Bool.and_false, Bool.and_false] at hq; exact hq)
    | (rw [x2, Bool.false_and, Bool.and_false, Bool.and_false, Bool.and_false, Bool.and_false] at hq; exact hq)
    | (rw [x3, Bool.and_false, Bool.and_false, Bool.and_false, Bool.and_false, Bool.and_false] at hq; exact hq)
    | (rw [zb_eq b8, zb_eq b19, zb_eq b30, x1, x2, x3] at hq; exact hq)
  · refine zp_aload_n (x := p) rfl rfl ?_
    refine zq_virt hS rfl rfl (by first | assumption | exact ⟨by decide, rfl⟩) rfl (s_Prog_memberCount hS hA hP hV.B ?_)
    show zp_wp X y_Prog_isSameAs 15 [.ref p, .ref q] [.int (nI (v_nm V))] h Q
    refine zp_aload_n (x := q) rfl rfl ?_
    refine zq_virt hS rfl rfl (by first | assumption | exact ⟨by decide, rfl⟩) rfl (s_Prog_memberCount hS hA2 hP2 hW.B ?_)
    show zp_wp X y_Prog_isSameAs 19 [.ref p, .ref q] [.int (nI (v_nm W)), .int (nI (v_nm V))] h Q
    refine zp_icmpN_ne (tgt := 61) rfl rfl (by omega) (by omega) (fun b19 => ?_) (fun b19 => ?_)
    · refine zp_iconst (v := (nI 0)) rfl (by decide +kernel) ?_
      refine zp_zret rfl rfl (by decide) ?_
      first
      | (rw [zb_ne b8] at hq; exact hq)
      | (rw [zb_ne b19, Bool.false_and, Bool.and_false] at hq; exact hq)
      | (rw [zb_ne b30, Bool.false_and, Bool.and_false, Bool.and_false] at hq; exact hq)
      | (rw [x1, Bool.false_and, Bool.and_false, Bool.and_false, Bool.and_false] at hq; exact hq)
      | (rw [x2, Bool.false_and, Bool.and_false, Bool.and_false, Bool.and_false, Bool.and_false] at hq; exact hq)
      | (rw [x3, Bool.and_false, Bool.and_false, Bool.and_false, Bool.and_false, Bool.and_false] at hq; exact hq)
      | (rw [zb_eq b8, zb_eq b19, zb_eq b30, x1, x2, x3] at hq; exact hq)
    · refine zp_aload_n (x := p) rfl rfl ?_
      refine zq_virt hS rfl rfl (by first | assumption | exact ⟨by decide, rfl⟩) rfl (s_Prog_useCount hS hA hP ?_)
      show zp_wp X y_Prog_isSameAs 26 [.ref p, .ref q] [.int (nI (v_nu V))] h Q
      refine zp_aload_n (x := q) rfl rfl ?_
      refine zq_virt hS rfl rfl (by first | assumption | exact ⟨by decide, rfl⟩) rfl (s_Prog_useCount hS hA2 hP2 ?_)
      show zp_wp X y_Prog_isSameAs 30 [.ref p, .ref q] [.int (nI (v_nu W)), .int (nI (v_nu V))] h Q
      refine zp_icmpN_ne (tgt := 61) rfl rfl (by omega) (by omega) (fun b30 => ?_) (fun b30 => ?_)
      · refine zp_iconst (v := (nI 0)) rfl (by decide +kernel) ?_
        refine zp_zret rfl rfl (by decide) ?_
        first
        | (rw [zb_ne b8] at hq; exact hq)
        | (rw [zb_ne b19, Bool.false_and, Bool.and_false] at hq; exact hq)
        | (rw [zb_ne b30, Bool.false_and, Bool.and_false, Bool.and_false] at hq; exact hq)
        | (rw [x1, Bool.false_and, Bool.and_false, Bool.and_false, Bool.and_false] at hq; exact hq)
        | (rw [x2, Bool.false_and, Bool.and_false, Bool.and_false, Bool.and_false, Bool.and_false] at hq; exact hq)
        | (rw [x3, Bool.and_false, Bool.and_false, Bool.and_false, Bool.and_false, Bool.and_false] at hq; exact hq)
        | (rw [zb_eq b8, zb_eq b19, zb_eq b30, x1, x2, x3] at hq; exact hq)
      · refine zp_aload_n (x := p) rfl rfl ?_
        refine zp_aload_n (x := q) rfl rfl ?_
        refine zq_virt hS rfl rfl (by first | assumption | exact ⟨by decide, rfl⟩) rfl (s_Prog_hasClassesIn hS hA hP hV hA2 hP2 hW ?_)
        cases x1 : !(zf_any (v_bad1 V W) 0 12) with
        | false =>
          show zp_wp X y_Prog_isSameAs 38 [.ref p, .ref q] [.int (nI 0)] h Q
          refine zp_ifT (tgt := 61) rfl rfl (by decide +kernel) ?_
          refine zp_iconst (v := (nI 0)) rfl (by decide +kernel) ?_
          refine zp_zret rfl rfl (by decide) ?_
          first
          | (rw [zb_ne b8] at hq; exact hq)
          | (rw [zb_ne b19, Bool.false_and, Bool.and_false] at hq; exact hq)
          | (rw [zb_ne b30, Bool.false_and, Bool.and_false, Bool.and_false] at hq; exact hq)
          | (rw [x1, Bool.false_and, Bool.and_false, Bool.and_false, Bool.and_false] at hq; exact hq)
          | (rw [x2, Bool.false_and, Bool.and_false, Bool.and_false, Bool.and_false, Bool.and_false] at hq; exact hq)
          | (rw [x3, Bool.and_false, Bool.and_false, Bool.and_false, Bool.and_false, Bool.and_false] at hq; exact hq)
          | (rw [zb_eq b8, zb_eq b19, zb_eq b30, x1, x2, x3] at hq; exact hq)
        | true =>
          show zp_wp X y_Prog_isSameAs 38 [.ref p, .ref q] [.int (nI 1)] h Q
          refine zp_ifF (tgt := 61) rfl rfl (by decide +kernel) ?_
          refine zp_aload_n (x := p) rfl rfl ?_
          refine zp_aload_n (x := q) rfl rfl ?_
          refine zq_virt hS rfl rfl (by first | assumption | exact ⟨by decide, rfl⟩) rfl (s_Prog_hasMembersIn hS hA hP hV hA2 hP2 hW ?_)
          cases x2 : !(zf_any (v_bad2 V W) 0 40) with
          | false =>
            show zp_wp X y_Prog_isSameAs 46 [.ref p, .ref q] [.int (nI 0)] h Q
            refine zp_ifT (tgt := 61) rfl rfl (by decide +kernel) ?_
            refine zp_iconst (v := (nI 0)) rfl (by decide +kernel) ?_
            refine zp_zret rfl rfl (by decide) ?_
            first
            | (rw [zb_ne b8] at hq; exact hq)
            | (rw [zb_ne b19, Bool.false_and, Bool.and_false] at hq; exact hq)
            | (rw [zb_ne b30, Bool.false_and, Bool.and_false, Bool.and_false] at hq; exact hq)
            | (rw [x1, Bool.false_and, Bool.and_false, Bool.and_false, Bool.and_false] at hq; exact hq)
            | (rw [x2, Bool.false_and, Bool.and_false, Bool.and_false, Bool.and_false, Bool.and_false] at hq; exact hq)
            | (rw [x3, Bool.and_false, Bool.and_false, Bool.and_false, Bool.and_false, Bool.and_false] at hq; exact hq)
            | (rw [zb_eq b8, zb_eq b19, zb_eq b30, x1, x2, x3] at hq; exact hq)
          | true =>
            show zp_wp X y_Prog_isSameAs 46 [.ref p, .ref q] [.int (nI 1)] h Q
            refine zp_ifF (tgt := 61) rfl rfl (by decide +kernel) ?_
            refine zp_aload_n (x := p) rfl rfl ?_
            refine zp_aload_n (x := q) rfl rfl ?_
            refine zq_virt hS rfl rfl (by first | assumption | exact ⟨by decide, rfl⟩) rfl (s_Prog_hasUsesIn hS hA hP hV hA2 hP2 hW ?_)
            cases x3 : !(zf_any (v_bad3 V W) 0 1600) with
            | false =>
              show zp_wp X y_Prog_isSameAs 54 [.ref p, .ref q] [.int (nI 0)] h Q
              refine zp_ifT (tgt := 61) rfl rfl (by decide +kernel) ?_
              refine zp_iconst (v := (nI 0)) rfl (by decide +kernel) ?_
              refine zp_zret rfl rfl (by decide) ?_
              first
              | (rw [zb_ne b8] at hq; exact hq)
              | (rw [zb_ne b19, Bool.false_and, Bool.and_false] at hq; exact hq)
              | (rw [zb_ne b30, Bool.false_and, Bool.and_false, Bool.and_false] at hq; exact hq)
              | (rw [x1, Bool.false_and, Bool.and_false, Bool.and_false, Bool.and_false] at hq; exact hq)
              | (rw [x2, Bool.false_and, Bool.and_false, Bool.and_false, Bool.and_false, Bool.and_false] at hq; exact hq)
              | (rw [x3, Bool.and_false, Bool.and_false, Bool.and_false, Bool.and_false, Bool.and_false] at hq; exact hq)
              | (rw [zb_eq b8, zb_eq b19, zb_eq b30, x1, x2, x3] at hq; exact hq)
            | true =>
              show zp_wp X y_Prog_isSameAs 54 [.ref p, .ref q] [.int (nI 1)] h Q
              refine zp_ifF (tgt := 61) rfl rfl (by decide +kernel) ?_
              refine zp_iconst (v := (nI 1)) rfl (by decide +kernel) ?_
              refine zp_goto (tgt := 62) rfl rfl ?_
              refine zp_zret rfl rfl (by decide) ?_
              first
              | (rw [zb_ne b8] at hq; exact hq)
              | (rw [zb_ne b19, Bool.false_and, Bool.and_false] at hq; exact hq)
              | (rw [zb_ne b30, Bool.false_and, Bool.and_false, Bool.and_false] at hq; exact hq)
              | (rw [x1, Bool.false_and, Bool.and_false, Bool.and_false, Bool.and_false] at hq; exact hq)
              | (rw [x2, Bool.false_and, Bool.and_false, Bool.and_false, Bool.and_false, Bool.and_false] at hq; exact hq)
              | (rw [x3, Bool.and_false, Bool.and_false, Bool.and_false, Bool.and_false, Bool.and_false] at hq; exact hq)
              | (rw [zb_eq b8, zb_eq b19, zb_eq b30, x1, x2, x3] at hq; exact hq)
end ZP9
