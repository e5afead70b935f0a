/-! the order of names, by places and by names; the class: matching -/
def v_byn {α : Type} (V : zv) (g : Nat → α → α) (nm : Nat) (a : α) : α := match v_cls V nm with
  | none => a
  | some c => g c a
def v_byk {α : Type} (V : zv) (g : Nat → α → α) (nm k : Nat) (i : Nat) (a : α) : α := match v_ol V nm k i with
  | none => a
  | some c => g c a
theorem zf_fold_id {α : Type} {f : Nat → α → α} (hf : ∀ i a, f i a = a) : ∀ (N i : Nat) (a : α), zf_fold f i N a = a
  | 0, _, _ => rfl
  | N + 1, i, a => by
    show zf_fold f (i + 1) N (f i a) = a
    rw [hf, zf_fold_id hf N]
theorem zf_fold_sh {α : Type} {f : Nat → α → α} (s : Nat) : ∀ (N i : Nat) (a : α), zf_fold f (i + s) N a = zf_fold (fun j => f (j + s)) i N a
  | 0, _, _ => rfl
  | N + 1, i, a => by
    show zf_fold f (i + s + 1) N (f (i + s) a) = zf_fold (fun j => f (j + s)) (i + 1) N (f (i + s) a)
    rw [← zf_fold_sh s N (i + 1), show i + s + 1 = i + 1 + s by omega]
theorem v_by {α : Type} (V : zv) (g : Nat → α → α) : ∀ (k nm N : Nat) (a : α), zf_ct (fun x => (v_cls V x).isSome) nm k ≤ N → zf_fold (v_byk V g nm k) 0 N a = zf_fold (v_byn V g) nm k a
  | 0, nm, N, a, _ => zf_fold_id (fun i a => rfl) N 0 a
  | k + 1, nm, N, a, h => by
    rw [show zf_ct (fun x => (v_cls V x).isSome) nm (k + 1) = cond ((v_cls V nm).isSome) 1 0 + zf_ct (fun x => (v_cls V x).isSome) (nm + 1) k from rfl] at h
    show _ = zf_fold (v_byn V g) (nm + 1) k (v_byn V g nm a)
    cases hz : v_cls V nm with
    | none =>
      rw [hz] at h
      have e : v_byk V g nm (k + 1) = v_byk V g (nm + 1) k := by
        funext i b
        have : v_ol V nm (k + 1) i = v_ol V (nm + 1) k i := by rw [v_ol, hz]
        unfold v_byk
        rw [this]
      have e2 : v_byn V g nm a = a := by unfold v_byn; rw [hz]
      rw [e, e2]
      exact v_by V g k (nm + 1) N a (by simpa using h)
    | some c =>
      rw [hz] at h
      have h : 1 + zf_ct (fun x => (v_cls V x).isSome) (nm + 1) k ≤ N := h
      obtain ⟨M, rfl⟩ : ∃ M, N = M + 1 := ⟨N - 1, by omega⟩
      have e0 : v_byk V g nm (k + 1) 0 a = g c a := by
        have : v_ol V nm (k + 1) 0 = some c := by rw [v_ol, hz]; rfl
        unfold v_byk
        rw [this]
      have e1 : (fun j => v_byk V g nm (k + 1) (j + 1)) = v_byk V g (nm + 1) k := by
        funext i b
        have : v_ol V nm (k + 1) (i + 1) = v_ol V (nm + 1) k i := by
          rw [v_ol, hz]
          show (if i + 1 = 0 then some c else v_ol V (nm + 1) k (i + 1 - 1)) = _
          rw [if_neg (by omega)]
          rfl
        unfold v_byk
        rw [this]
      have e2 : v_byn V g nm a = g c a := by unfold v_byn; rw [hz]
      show zf_fold (v_byk V g nm (k + 1)) (0 + 1) M (v_byk V g nm (k + 1) 0 a) = _
      rw [e0, e2, zf_fold_sh 1, e1]
      exact v_by V g k (nm + 1) M _ (by omega)
theorem v_c12 (V : zv) : zf_ct (fun x => (v_cls V x).isSome) 65 26 ≤ 12 := by
  have e := zf_ct_sh (p := fun x => (v_cls V x).isSome) 65 (k := 26) (c := 0)
  rw [Nat.zero_add] at e
  rw [e]
  have := zf_ct_inj (p := fun j => (v_cls V (j + 65)).isSome) (f := fun j => (v_cls V (j + 65)).getD 0) (m := 12) 26 (fun _ => true) (fun i hi hp => by
    cases hz : v_cls V (i + 65) with
    | none => simp only [hz] at hp; cases hp
    | some c => exact ⟨(v_cls_lt hz).1, rfl⟩) (fun i j hi hj hp hq he => by
    cases hz : v_cls V (i + 65) with
    | none => simp only [hz] at hp; cases hp
    | some c =>
      cases hy : v_cls V (j + 65) with
      | none => simp only [hy] at hq; cases hq
      | some d =>
        simp only [hz, hy, Option.getD_some] at he
        have a := (v_cls_lt hz).2.1
        have b := (v_cls_lt hy).2.1
        rw [he, b] at a
        omega)
  exact this
theorem v_byo {α : Type} (V : zv) (g : Nat → α → α) (a : α) : zf_fold (v_byk V g 65 26) 0 12 a = zf_fold (v_byn V g) 65 26 a := v_by V g 26 65 12 a (v_c12 V)
/-! the reference's matches, by names -/
def v_lik (W : zv) (C : Nat → Option Nat) (its : Int32) : Option Nat := if v_ctb its ≤ 2 * (zf_fold (v_byn W (v_lk1 W C its)) 65 26 (none, 0)).2 then (zf_fold (v_byn W (v_lk1 W C its)) 65 26 (none, 0)).1 else none
theorem v_like_n (V W : zv) (C : Nat → Option Nat) (c : Nat) : v_like V W C c = v_lik W C (v_msk V (fun o => o == c)) := by
  unfold v_like v_lik
  have e : v_lkS W C (v_msk V (fun o => o == c)) = v_byk W (v_lk1 W C (v_msk V (fun o => o == c))) 65 26 := by
    funext i b
    unfold v_lkS v_byk v_ord
    cases v_ol W 65 26 i <;> rfl
  rw [e, v_byo]
theorem v_mC_n (V W : zv) : v_mC V W = zf_fold (v_byn V (v_mCs V W)) 65 26 (v_mC0 V W) := by
  unfold v_mC
  have e : v_mC1 V W = v_byk V (v_mCs V W) 65 26 := by
    funext i b
    unfold v_mC1 v_byk v_ord
    cases v_ol V 65 26 i <;> rfl
  rw [e, v_byo]
theorem v_mM_n (V W : zv) : v_mM V W = zf_fold (v_byn V (fun c M => zf_fold (v_mMs V W (some c)) 97 26 M)) 65 26 (v_mM0 V W (v_mC V W)) := by
  unfold v_mM
  have e : v_mM1 V W = v_byk V (fun c M => zf_fold (v_mMs V W (some c)) 97 26 M) 65 26 := by
    funext i b
    unfold v_mM1 v_byk v_ord
    cases v_ol V 65 26 i with
    | none => exact zf_fold_id (fun i a => rfl) 26 97 b
    | some c => rfl
  rw [e, v_byo]
theorem bc_ctb {x : Int32} (hx : ∀ k, 26 ≤ k → k < 32 → bt x k = false) : zf_ct (bt x) 0 32 = v_ctb x := by
  rw [show (32 : Nat) = 26 + 6 from rfl, zf_ct_add, zf_ct_0 (c := 0 + 26) (fun j h1 h2 => hx j (by omega) (by omega)), Nat.add_zero]
  unfold v_ctb
  exact zf_ct_cong (fun j _ h2 => (zb_bt (by omega)).symm)
theorem msk_hi {V : zv} (hW : zv_W V) (S : Nat → Bool) : ∀ k, 26 ≤ k → k < 32 → bt (v_msk V S) k = false := by
  intro k h1 h2
  rw [v_msk_bt hW S h2]
  refine zf_any_z.mpr (fun m hm => ?_)
  have := hW.2.2.1 m hm
  rw [zb_ne (show ¬ v_mn V m = 97 + k by omega), Bool.and_false]
theorem b_comm (x y : Int32) : x &&& y = y &&& x := b_ext (fun i _ => by rw [b_and, b_and, Bool.and_comm])
section ZP12
variable {X : zm_X} {h : zm_H} {Q : zm_O → zm_H → Prop} {V W B : zv} {p q t : Nat} {C M : Nat → Option Nat}
theorem s_Match_closestTo {its : Int32} (hS : zs_H h) (hA : zq_MA q) (hm : zq_m C 12 (q + 1) (q + 2) h) (hT : zq_A t) (hP : zq_P W t h) (hW : zv_W W) (hi : ∀ k, 26 ≤ k → k < 32 → bt its k = false) (hq : Q (.inl (some (.int (zf_o (v_lik W C its))))) h) : zp_wm X y_Match_closestTo [.ref q, .int its, .ref t] h Q := by
  obtain ⟨hA0, hA1, hA2, hA3, hA4⟩ := hA
  have hT0 := hT.1
  obtain ⟨h1, h2, F, h3, h4, h5⟩ := hm
  have hc26 : v_ctb its ≤ 26 := v_ctb_26 its
  show zp_wp X y_Match_closestTo 0 [.ref q, .int its, .ref t, zm_mk, zm_mk, zm_mk, zm_mk, zm_mk] [] h Q
  have lp : ∀ k nm (b : Option Nat × Nat) x y, nm + k = 91 → b.2 ≤ 26 → zf_fold (v_byn W (v_lk1 W C its)) 65 26 (none, 0) = zf_fold (v_byn W (v_lk1 W C its)) nm k b → zp_wp X y_Match_closestTo 9 [.ref q, .int its, .ref t, .int (zf_o b.1), .int (nI b.2), .int (nI nm), x, y] [] h Q := by
    intro k
    induction k with
    | zero =>
      intro nm b x y hk hb he
      have he : zf_fold (v_byn W (v_lk1 W C its)) 65 26 (none, 0) = b := he
      unfold v_lik at hq
      rw [he] at hq
      refine zp_iload (x := (nI nm)) rfl rfl ?_
      refine zp_bipush (v := (nI 90)) rfl (by decide +kernel) ?_
      refine zp_icmpN_gt (tgt := 74) rfl rfl (by omega) (by omega) (fun b13 => ?_) (fun b13 => ?_)
      · refine zp_iconst (v := (nI 2)) rfl (by decide +kernel) ?_
        refine zp_iload (x := (nI b.2)) rfl rfl ?_
        refine zp_imulN rfl ?_
        refine zp_iload_n (x := its) rfl rfl ?_
        refine zp_call rfl rfl (s_Integer_bitCount ?_)
        rw [bc_ctb hi]
        show zp_wp X y_Match_closestTo 82 [.ref q, .int its, .ref t, .int (zf_o b.1), .int (nI b.2), .int (nI nm), x, y] [.int (nI (v_ctb its)), .int (nI (2 * b.2))] h Q
        refine zp_icmpN_lt (tgt := 89) rfl rfl (by omega) (by omega) (fun b82 => ?_) (fun b82 => ?_)
        · refine zp_iconst (v := (-1)) rfl (by decide +kernel) ?_
          refine zp_iret rfl rfl ?_
          first
          | (rw [if_pos (by omega)] at hq; exact hq)
          | (rw [if_neg (by omega)] at hq; exact hq)
        · refine zp_iload_n (x := (zf_o b.1)) rfl rfl ?_
          refine zp_goto (tgt := 90) rfl rfl ?_
          refine zp_iret rfl rfl ?_
          first
          | (rw [if_pos (by omega)] at hq; exact hq)
          | (rw [if_neg (by omega)] at hq; exact hq)
      · omega
    | succ k ih =>
      intro nm b x y hk hb he
      rw [show zf_fold (v_byn W (v_lk1 W C its)) nm (k + 1) b = zf_fold (v_byn W (v_lk1 W C its)) (nm + 1) k (v_byn W (v_lk1 W C its) nm b) from rfl] at he
      have nx : ∀ (b' : Option Nat × Nat) x y, b'.2 ≤ 26 → v_byn W (v_lk1 W C its) nm b = b' → zp_wp X y_Match_closestTo 68 [.ref q, .int its, .ref t, .int (zf_o b'.1), .int (nI b'.2), .int (nI nm), x, y] [] h Q := by
        intro b' x y hb' e
        rw [e] at he
        refine zp_iincN_5 rfl rfl ?_
        refine zp_goto (tgt := 9) rfl rfl ?_
        exact ih (nm + 1) b' _ _ (by omega) hb' he
      refine zp_iload (x := (nI nm)) rfl rfl ?_
      refine zp_bipush (v := (nI 90)) rfl (by decide +kernel) ?_
      refine zp_icmpN_gt (tgt := 74) rfl rfl (by omega) (by omega) (fun b13 => ?_) (fun b13 => ?_)
      · omega
      · refine zp_aload_n (x := t) rfl rfl ?_
        refine zp_iload (x := (nI nm)) rfl rfl ?_
        refine zq_virt hS rfl rfl (by first | assumption | exact ⟨by decide, rfl⟩) rfl (s_Prog_classAt hS hT hP hW.B (by omega) ?_)
        cases hz : v_cls W nm with
        | none =>
          show zp_wp X y_Match_closestTo 22 [.ref q, .int its, .ref t, .int (zf_o b.1), .int (nI b.2), .int (nI nm), x, y] [.int (-1)] h Q
          refine zp_istore_6 rfl rfl ?_
          refine zp_iload (x := (-1)) rfl rfl ?_
          refine zp_ifT (tgt := 68) rfl rfl (by decide +kernel) ?_
          first
          | exact nx b _ _ hb (by rw [hb9]; unfold v_lk1; rw [if_neg (by omega)])
          | exact nx (some k9, v_cm W C its k9) _ _ hc9 (by rw [hb9]; unfold v_lk1; rw [if_pos (by omega)])
          | exact nx b _ _ hb (by
              rw [hb9]
              have hm : v_isM C 12 k9 = true := by
                cases e : v_isM C 12 k9 with
                | true => rfl
                | false => rw [(h5.m h4 hk9).mpr e] at hF; cases hF
              unfold v_lk1 v_cm
              rw [hm, if_neg (by simp)])
          | exact nx b _ _ hb (by unfold v_byn; rw [hz])
        | some k9 =>
          have hk9 := (v_cls_lt hz).1
          have hc9 : v_cm W C its k9 ≤ 26 := v_cm_26
          have hb9 : v_byn W (v_lk1 W C its) nm b = v_lk1 W C its k9 b := by unfold v_byn; rw [hz]
          show zp_wp X y_Match_closestTo 22 [.ref q, .int its, .ref t, .int (zf_o b.1), .int (nI b.2), .int (nI nm), x, y] [.int (nI k9)] h Q
          refine zp_istore_6 rfl rfl ?_
          refine zp_iload (x := (nI k9)) rfl rfl ?_
          refine zp_ifF (tgt := 68) rfl rfl (zc_lt (by omega)) ?_
          refine zp_aload_n (x := q) rfl rfl ?_
          refine zq_getr (k9 := (q + 2)) hS rfl (by first | assumption | exact ⟨by decide, rfl⟩) rfl ?_
          refine zp_iload (x := (nI k9)) rfl rfl ?_
          refine zq_iald hS rfl (by first | assumption | exact ⟨by decide, rfl⟩) (by omega) (by first | decide | omega) ?_
          rw [h3 (k9) hk9]
          cases hF : F k9 with
          | none =>
            show zp_wp X y_Match_closestTo 36 [.ref q, .int its, .ref t, .int (zf_o b.1), .int (nI b.2), .int (nI nm), .int (nI k9), y] [.int (-1)] h Q
            refine zp_ifF (tgt := 68) rfl rfl (by decide +kernel) ?_
            refine zp_iload_n (x := its) rfl rfl ?_
            refine zp_aload_n (x := t) rfl rfl ?_
            refine zp_iconst (v := (nI 1)) rfl (by decide +kernel) ?_
            refine zp_iload (x := (nI k9)) rfl rfl ?_
            refine zp_ishl rfl rfl ?_
            refine zq_virt hS rfl rfl (by first | assumption | exact ⟨by decide, rfl⟩) rfl (s_Prog_namesIn hS hT hP hW ?_)
            rw [v_msk_1 hk9 hW]
            show zp_wp X y_Match_closestTo 48 [.ref q, .int its, .ref t, .int (zf_o b.1), .int (nI b.2), .int (nI nm), .int (nI k9), y] [.int (v_msk W (fun o => o == k9)), .int its] h Q
            refine zp_iand rfl rfl ?_
            refine zp_call rfl rfl (s_Integer_bitCount ?_)
            have hcm : zf_ct (bt (its &&& v_msk W (fun o => o == k9))) 0 32 = v_cm W C its k9 := by
              rw [bc_ctb (fun k a b => by rw [b_and, hi k a b]; rfl), b_comm]
              unfold v_cm
              rw [(h5.m h4 hk9).mp hF]
              rfl
            rw [hcm]
            show zp_wp X y_Match_closestTo 52 [.ref q, .int its, .ref t, .int (zf_o b.1), .int (nI b.2), .int (nI nm), .int (nI k9), y] [.int (nI (v_cm W C its k9))] h Q
            refine zp_istore_7 rfl rfl ?_
            refine zp_iload (x := (nI (v_cm W C its k9))) rfl rfl ?_
            refine zp_iload (x := (nI b.2)) rfl rfl ?_
            refine zp_icmpN_le (tgt := 68) rfl rfl (by omega) (by omega) (fun b58 => ?_) (fun b58 => ?_)
            · first
              | exact nx b _ _ hb (by rw [hb9]; unfold v_lk1; rw [if_neg (by omega)])
              | exact nx (some k9, v_cm W C its k9) _ _ hc9 (by rw [hb9]; unfold v_lk1; rw [if_pos (by omega)])
              | exact nx b _ _ hb (by
                  rw [hb9]
                  have hm : v_isM C 12 k9 = true := by
                    cases e : v_isM C 12 k9 with
                    | true => rfl
                    | false => rw [(h5.m h4 hk9).mpr e] at hF; cases hF
                  unfold v_lk1 v_cm
                  rw [hm, if_neg (by simp)])
              | exact nx b _ _ hb (by unfold v_byn; rw [hz])
            · refine zp_iload (x := (nI (v_cm W C its k9))) rfl rfl ?_
              refine zp_istore_4 rfl rfl ?_
              refine zp_iload (x := (nI k9)) rfl rfl ?_
              refine zp_istore_n_3 rfl rfl ?_
              first
              | exact nx b _ _ hb (by rw [hb9]; unfold v_lk1; rw [if_neg (by omega)])
              | exact nx (some k9, v_cm W C its k9) _ _ hc9 (by rw [hb9]; unfold v_lk1; rw [if_pos (by omega)])
              | exact nx b _ _ hb (by
                  rw [hb9]
                  have hm : v_isM C 12 k9 = true := by
                    cases e : v_isM C 12 k9 with
                    | true => rfl
                    | false => rw [(h5.m h4 hk9).mpr e] at hF; cases hF
                  unfold v_lk1 v_cm
                  rw [hm, if_neg (by simp)])
              | exact nx b _ _ hb (by unfold v_byn; rw [hz])
          | some c9 =>
            have hc99 := h4 k9 hk9 c9 hF
            show zp_wp X y_Match_closestTo 36 [.ref q, .int its, .ref t, .int (zf_o b.1), .int (nI b.2), .int (nI nm), .int (nI k9), y] [.int (nI c9)] h Q
            refine zp_ifT (tgt := 68) rfl rfl (zc_ge (by omega)) ?_
            first
            | exact nx b _ _ hb (by rw [hb9]; unfold v_lk1; rw [if_neg (by omega)])
            | exact nx (some k9, v_cm W C its k9) _ _ hc9 (by rw [hb9]; unfold v_lk1; rw [if_pos (by omega)])
            | exact nx b _ _ hb (by
                rw [hb9]
                have hm : v_isM C 12 k9 = true := by
                  cases e : v_isM C 12 k9 with
                  | true => rfl
                  | false => rw [(h5.m h4 hk9).mpr e] at hF; cases hF
                unfold v_lk1 v_cm
                rw [hm, if_neg (by simp)])
            | exact nx b _ _ hb (by unfold v_byn; rw [hz])
  refine zp_iconst (v := (-1)) rfl (by decide +kernel) ?_
  refine zp_istore_n_3 rfl rfl ?_
  refine zp_iconst (v := (nI 0)) rfl (by decide +kernel) ?_
  refine zp_istore_4 rfl rfl ?_
  refine zp_bipush (v := (nI 65)) rfl (by decide +kernel) ?_
  refine zp_istore_5 rfl rfl ?_
  exact lp 26 65 (none, 0) _ _ rfl (by decide) rfl
theorem s_Match_onlyFree {nm : Nat} (hS : zs_H h) (hA : zq_MA q) (hm : zq_m M 40 (q + 3) (q + 4) h) (hT : zq_A t) (hP : zq_P W t h) (hW : zv_W W) (hn : nm < 128) (hq : Q (.inl (some (.int (zf_o (v_lone W M nm))))) h) : zp_wm X y_Match_onlyFree [.ref q, .ref t, .int (nI nm)] h Q := by
  obtain ⟨hA0, hA1, hA2, hA3, hA4⟩ := hA
  have hB := hW.B
  obtain ⟨hT0, hT1, hT2, hT3, hT4, hT5, hT6⟩ := hT
  obtain ⟨h1, h2, F, h3, h4, h5⟩ := hm
  unfold v_lone at hq
  show zp_wp X y_Match_onlyFree 0 [.ref q, .ref t, .int (nI nm), zm_mk, zm_mk, zm_mk] [] h Q
  have lp : ∀ k i (b : Option Nat × Nat), i + k = 40 → b.2 ≤ i → zf_fold (v_lnS W M nm) 0 40 (none, 0) = zf_fold (v_lnS W M nm) i k b → zp_wp X y_Match_onlyFree 8 [.ref q, .ref t, .int (nI nm), .int (zf_o b.1), .int (nI b.2), .int (nI i)] [] h Q := by
    intro k
    induction k with
    | zero =>
      intro i b hk hb he
      have he : zf_fold (v_lnS W M nm) 0 40 (none, 0) = b := he
      rw [he] at hq
      refine zp_iload (x := (nI i)) rfl rfl ?_
      refine zp_bipush (v := (nI 40)) rfl (by decide +kernel) ?_
      refine zp_icmpN_ge (tgt := 48) rfl rfl (by omega) (by omega) (fun b12 => ?_) (fun b12 => ?_)
      · refine zp_iload (x := (nI b.2)) rfl rfl ?_
        refine zp_iconst (v := (nI 1)) rfl (by decide +kernel) ?_
        refine zp_icmpN_ne (tgt := 58) rfl rfl (by omega) (by omega) (fun b51 => ?_) (fun b51 => ?_)
        · refine zp_iconst (v := (-1)) rfl (by decide +kernel) ?_
          refine zp_iret rfl rfl ?_
          first
          | (rw [if_neg b51] at hq; exact hq)
          | (rw [if_pos b51] at hq; exact hq)
        · refine zp_iload_n (x := (zf_o b.1)) rfl rfl ?_
          refine zp_goto (tgt := 59) rfl rfl ?_
          refine zp_iret rfl rfl ?_
          first
          | (rw [if_neg b51] at hq; exact hq)
          | (rw [if_pos b51] at hq; exact hq)
      · omega
    | succ k ih =>
      intro i b hk hb he
      rw [show zf_fold (v_lnS W M nm) i (k + 1) b = zf_fold (v_lnS W M nm) (i + 1) k (v_lnS W M nm i b) from rfl] at he
      have nx : ∀ (b' : Option Nat × Nat), b'.2 ≤ i + 1 → v_lnS W M nm i b = b' → zp_wp X y_Match_onlyFree 42 [.ref q, .ref t, .int (nI nm), .int (zf_o b'.1), .int (nI b'.2), .int (nI i)] [] h Q := by
        intro b' hb' e
        rw [e] at he
        refine zp_iincN_5 rfl rfl ?_
        refine zp_goto (tgt := 8) rfl rfl ?_
        exact ih (i + 1) b' (by omega) hb' he
      refine zp_iload (x := (nI i)) rfl rfl ?_
      refine zp_bipush (v := (nI 40)) rfl (by decide +kernel) ?_
      refine zp_icmpN_ge (tgt := 48) rfl rfl (by omega) (by omega) (fun b12 => ?_) (fun b12 => ?_)
      · omega
      · refine zp_aload_n (x := t) rfl rfl ?_
        refine zq_getr (k9 := (t + 4)) hS rfl (by first | assumption | exact ⟨by decide, rfl⟩) rfl ?_
        refine zp_iload (x := (nI i)) rfl rfl ?_
        refine zq_iald hS rfl (by first | assumption | exact ⟨by decide, rfl⟩) (by omega) (by first | decide | omega) ?_
        rw [hP.mn (i) (by omega)]
        have q21 := hB.2.2.1 (i) (by omega)
        refine zp_iload_n (x := (nI nm)) rfl rfl ?_
        refine zp_icmpN_ne (tgt := 42) rfl rfl (by omega) (by omega) (fun b23 => ?_) (fun b23 => ?_)
        · first
          | exact nx b (by omega) (by unfold v_lnS; rw [zb_ne b23]; rfl)
          | exact nx (some i, b.2 + 1) (by show b.2 + 1 ≤ i + 1; omega) (by unfold v_lnS; rw [zb_eq b23, (h5.m h4 (by omega)).mp hF]; rfl)
          | exact nx b (by omega) (by
              have hm : v_isM M 40 i = true := by
                cases e : v_isM M 40 i with
                | true => rfl
                | false => rw [(h5.m h4 (by omega)).mpr e] at hF; cases hF
              unfold v_lnS
              rw [hm, Bool.not_true, Bool.and_false]
              rfl)
        · refine zp_aload_n (x := q) rfl rfl ?_
          refine zq_getr (k9 := (q + 4)) hS rfl (by first | assumption | exact ⟨by decide, rfl⟩) rfl ?_
          refine zp_iload (x := (nI i)) rfl rfl ?_
          refine zq_iald hS rfl (by first | assumption | exact ⟨by decide, rfl⟩) (by omega) (by first | decide | omega) ?_
          rw [h3 (i) (by omega)]
          cases hF : F i with
          | none =>
            show zp_wp X y_Match_onlyFree 33 [.ref q, .ref t, .int (nI nm), .int (zf_o b.1), .int (nI b.2), .int (nI i)] [.int (-1)] h Q
            refine zp_ifF (tgt := 42) rfl rfl (by decide +kernel) ?_
            refine zp_iload (x := (nI i)) rfl rfl ?_
            refine zp_istore_n_3 rfl rfl ?_
            refine zp_iincN_4 rfl rfl ?_
            first
            | exact nx b (by omega) (by unfold v_lnS; rw [zb_ne b23]; rfl)
            | exact nx (some i, b.2 + 1) (by show b.2 + 1 ≤ i + 1; omega) (by unfold v_lnS; rw [zb_eq b23, (h5.m h4 (by omega)).mp hF]; rfl)
            | exact nx b (by omega) (by
                have hm : v_isM M 40 i = true := by
                  cases e : v_isM M 40 i with
                  | true => rfl
                  | false => rw [(h5.m h4 (by omega)).mpr e] at hF; cases hF
                unfold v_lnS
                rw [hm, Bool.not_true, Bool.and_false]
                rfl)
          | some c9 =>
            have hc99 := h4 i (by omega) c9 hF
            show zp_wp X y_Match_onlyFree 33 [.ref q, .ref t, .int (nI nm), .int (zf_o b.1), .int (nI b.2), .int (nI i)] [.int (nI c9)] h Q
            refine zp_ifT (tgt := 42) rfl rfl (zc_ge (by omega)) ?_
            first
            | exact nx b (by omega) (by unfold v_lnS; rw [zb_ne b23]; rfl)
            | exact nx (some i, b.2 + 1) (by show b.2 + 1 ≤ i + 1; omega) (by unfold v_lnS; rw [zb_eq b23, (h5.m h4 (by omega)).mp hF]; rfl)
            | exact nx b (by omega) (by
                have hm : v_isM M 40 i = true := by
                  cases e : v_isM M 40 i with
                  | true => rfl
                  | false => rw [(h5.m h4 (by omega)).mpr e] at hF; cases hF
                unfold v_lnS
                rw [hm, Bool.not_true, Bool.and_false]
                rfl)
  refine zp_iconst (v := (-1)) rfl (by decide +kernel) ?_
  refine zp_istore_n_3 rfl rfl ?_
  refine zp_iconst (v := (nI 0)) rfl (by decide +kernel) ?_
  refine zp_istore_4 rfl rfl ?_
  refine zp_iconst (v := (nI 0)) rfl (by decide +kernel) ?_
  refine zp_istore_5 rfl rfl ?_
  exact lp 40 0 (none, 0) rfl (by decide) rfl
theorem s_Match_joinClassesByName (hS : zs_H h) (hA : zq_MA q) (hm : zq_m (fun _ => none) 12 (q + 1) (q + 2) h) (hA1 : zq_A p) (hP : zq_P V p h) (hV : zv_W V) (hT : zq_A t) (hP2 : zq_P W t h) (hW : zv_W W) (hd : (p + 6 < q ∨ q + 4 < p) ∧ (t + 6 < q ∨ q + 4 < t)) (hq : ∀ h', zs_H h' → zh_eq (fun y => y = q + 1 ∨ y = q + 2) h h' → zq_m (v_mC0 V W) 12 (q + 1) (q + 2) h' → Q (.inl none) h') : zp_wm X y_Match_joinClassesByName [.ref q, .ref p, .ref t] h Q := by
  have hq0 := hA.1
  have hB := hV.B
  have hT0 := hT.1
  have hAA := hA
  have p1 := hA1.1
  have p2 := hA1.2.1
  show zp_wp X y_Match_joinClassesByName 0 [.ref q, .ref p, .ref t, zm_mk] [] h Q
  have lp : ∀ k i h2, i + k = 12 → zs_H h2 → zh_eq (fun y => y = q + 1 ∨ y = q + 2) h h2 → zq_m (fun c => if c < i then v_mC0 V W c else none) 12 (q + 1) (q + 2) h2 → zp_wp X y_Match_joinClassesByName 2 [.ref q, .ref p, .ref t, .int (nI i)] [] h2 Q := by
    intro k
    induction k with
    | zero =>
      intro i h2 hi hS he hm
      have hi : i = 12 := by omega
      subst hi
      refine zp_iload_n (x := (nI 12)) rfl rfl ?_
      refine zp_bipush (v := (nI 12)) rfl (by decide +kernel) ?_
      refine zp_icT (tgt := 29) rfl rfl (by decide +kernel) ?_
      refine zp_vret rfl rfl ?_
      exact hq _ hS he (hm.cg (fun c hc => by rw [if_pos hc]))
    | succ k ih =>
      intro i h2 hi hS he hm
      have hPa : zq_P V p h2 := hP.eq he (fun x _ _ => by omega)
      have hPb : zq_P W t h2 := hP2.eq he (fun x _ _ => by omega)
      refine zp_iload_n (x := (nI i)) rfl rfl ?_
      refine zp_bipush (v := (nI 12)) rfl (by decide +kernel) ?_
      refine zp_icmpN_ge (tgt := 29) rfl rfl (by omega) (by omega) (fun b5 => ?_) (fun b5 => ?_)
      · omega
      · refine zp_aload_n (x := q) rfl rfl ?_
        refine zp_iload_n (x := (nI i)) rfl rfl ?_
        refine zp_aload_n (x := t) rfl rfl ?_
        refine zp_aload_n (x := p) rfl rfl ?_
        refine zq_getr (k9 := (p + 1)) hS rfl (by first | assumption | exact ⟨by decide, rfl⟩) rfl ?_
        refine zp_iload_n (x := (nI i)) rfl rfl ?_
        refine zq_iald hS rfl (by first | assumption | exact ⟨by decide, rfl⟩) (by omega) (by first | decide | omega) ?_
        rw [hPa.cn (i) (by omega)]
        have q16 := hB.1 (i) (by omega)
        refine zq_virt hS rfl rfl (by first | assumption | exact ⟨by decide, rfl⟩) rfl (s_Prog_classAt hS hT hPb hW.B (by omega) ?_)
        show zp_wp X y_Match_joinClassesByName 20 [.ref q, .ref p, .ref t, .int (nI i)] [.int (zf_o (v_cls W (v_cn V i))), .int (nI i), .ref q] h2 Q
        refine zq_virt hS rfl rfl (by first | assumption | exact ⟨by decide, rfl⟩) rfl (s_Match_joinClasses hS hAA hm (by omega) (by rw [if_neg (by omega)]) (fun r hr => ⟨(v_cls_lt hr).1, ?_⟩) (fun h3 hS3 he3 hm3 => ?_))
        · cases e : v_isM (fun c => if c < i then v_mC0 V W c else none) 12 r with
          | false => rfl
          | true =>
            obtain ⟨k9, k1, k2⟩ := v_isM_yes e
            have k2 : (if k9 < i then v_mC0 V W k9 else none) = some r := k2
            by_cases e2 : k9 < i
            · rw [if_pos e2] at k2
              have a := v_cls_lt k2
              have b := v_cls_lt hr
              have := cn_un hV (c := k9) (d := i) (by omega) (by omega) a.2.2 (by rw [← a.2.1, b.2.1])
              omega
            · rw [if_neg e2] at k2; cases k2
        have hS := hS3
        show zp_wp X y_Match_joinClassesByName 23 [.ref q, .ref p, .ref t, .int (nI i)] [] h3 Q
        refine zp_iincN_3 rfl rfl ?_
        refine zp_goto (tgt := 2) rfl rfl ?_
        refine ih (i + 1) _ (by omega) hS3 (he.trans he3) (hm3.cg (fun c hc => ?_))
        by_cases e : c = i
        · subst e; rw [va_up_s, if_pos (by omega)]; rfl
        · rw [va_up_o e]
          by_cases e2 : c < i
          · rw [if_pos e2, if_pos (by omega)]
          · rw [if_neg e2, if_neg (by omega)]
  refine zp_iconst (v := (nI 0)) rfl (by decide +kernel) ?_
  refine zp_istore_n_3 rfl rfl ?_
  exact lp 12 0 h rfl hS zh_eq.rf (hm.cg (fun c hc => by rw [if_neg (by omega)]))
theorem s_Match_joinClassesByMembers (hS : zs_H h) (hA : zq_MA q) (hm : zq_m (v_mC0 V W) 12 (q + 1) (q + 2) h) (hA1 : zq_A p) (hP : zq_P V p h) (hV : zv_W V) (hT : zq_A t) (hP2 : zq_P W t h) (hW : zv_W W) (hd : (p + 6 < q ∨ q + 4 < p) ∧ (t + 6 < q ∨ q + 4 < t)) (hq : ∀ h', zs_H h' → zh_eq (fun y => y = q + 1 ∨ y = q + 2) h h' → zq_m (v_mC V W) 12 (q + 1) (q + 2) h' → Q (.inl none) h') : zp_wm X y_Match_joinClassesByMembers [.ref q, .ref p, .ref t] h Q := by
  obtain ⟨q0, q1, q2, q3, q4⟩ := id hA
  have p0 := hA1.1
  have t0 := hT.1
  show zp_wp X y_Match_joinClassesByMembers 0 [.ref q, .ref p, .ref t, zm_mk, zm_mk] [] h Q
  have lp : ∀ k nm h2 C x, nm + k = 91 → zs_H h2 → zh_eq (fun y => y = q + 1 ∨ y = q + 2) h h2 → zq_m C 12 (q + 1) (q + 2) h2 → v_mC V W = zf_fold (v_byn V (v_mCs V W)) nm k C → zp_wp X y_Match_joinClassesByMembers 3 [.ref q, .ref p, .ref t, .int (nI nm), x] [] h2 Q := by
    intro k
    induction k with
    | zero =>
      intro nm h2 C x hi hS he hm ht
      have ht : v_mC V W = C := ht
      rw [ht] at hq
      refine zp_iload_n (x := (nI nm)) rfl rfl ?_
      refine zp_bipush (v := (nI 90)) rfl (by decide +kernel) ?_
      refine zp_icmpN_gt (tgt := 56) rfl rfl (by omega) (by omega) (fun b6 => ?_) (fun b6 => ?_)
      · refine zp_vret rfl rfl ?_
        exact hq _ hS he hm
      · omega
    | succ k ih =>
      intro nm h2 C x hi hS he hm ht
      have hPa : zq_P V p h2 := hP.eq he (fun x _ _ => by omega)
      have hPb : zq_P W t h2 := hP2.eq he (fun x _ _ => by omega)
      obtain ⟨h1, h1b, F, h3, h4, h5⟩ := id hm
      rw [show zf_fold (v_byn V (v_mCs V W)) nm (k + 1) C = zf_fold (v_byn V (v_mCs V W)) (nm + 1) k (v_byn V (v_mCs V W) nm C) from rfl] at ht
      have nx : ∀ h3 C' x, zs_H h3 → zh_eq (fun y => y = q + 1 ∨ y = q + 2) h h3 → zq_m C' 12 (q + 1) (q + 2) h3 → v_byn V (v_mCs V W) nm C = C' → zp_wp X y_Match_joinClassesByMembers 50 [.ref q, .ref p, .ref t, .int (nI nm), x] [] h3 Q := by
        intro h3 C' x hS he hm e
        rw [e] at ht
        refine zp_iincN_3 rfl rfl ?_
        refine zp_goto (tgt := 3) rfl rfl ?_
        exact ih (nm + 1) _ C' _ (by omega) hS he hm ht
      refine zp_iload_n (x := (nI nm)) rfl rfl ?_
      refine zp_bipush (v := (nI 90)) rfl (by decide +kernel) ?_
      refine zp_icmpN_gt (tgt := 56) rfl rfl (by omega) (by omega) (fun b6 => ?_) (fun b6 => ?_)
      · omega
      · refine zp_aload_n (x := p) rfl rfl ?_
        refine zp_iload_n (x := (nI nm)) rfl rfl ?_
        refine zq_virt hS rfl rfl (by first | assumption | exact ⟨by decide, rfl⟩) rfl (s_Prog_classAt hS hA1 hPa hV.B (by omega) ?_)
        cases hz : v_cls V nm with
        | none =>
          show zp_wp X y_Match_joinClassesByMembers 14 [.ref q, .ref p, .ref t, .int (nI nm), x] [.int (-1)] h2 Q
          refine zp_istore_4 rfl rfl ?_
          refine zp_iload (x := (-1)) rfl rfl ?_
          refine zp_ifT (tgt := 50) rfl rfl (by decide +kernel) ?_
          first
          | exact nx _ _ _ hS3 (he.trans he3) hm3 (by rw [hb9]; unfold v_mCs; rw [if_pos hF])
          | exact nx _ C _ hS he hm (by rw [hb9]; unfold v_mCs; rw [if_neg (fun q => by rw [hF] at q; cases q)])
          | exact nx _ C _ hS he hm (by unfold v_byn; rw [hz])
        | some c9 =>
          have hc9 := (v_cls_lt hz).1
          have hb9 : v_byn V (v_mCs V W) nm C = v_mCs V W c9 C := by unfold v_byn; rw [hz]
          show zp_wp X y_Match_joinClassesByMembers 14 [.ref q, .ref p, .ref t, .int (nI nm), x] [.int (nI c9)] h2 Q
          refine zp_istore_4 rfl rfl ?_
          refine zp_iload (x := (nI c9)) rfl rfl ?_
          refine zp_ifF (tgt := 50) rfl rfl (zc_lt (by omega)) ?_
          refine zp_aload_n (x := q) rfl rfl ?_
          refine zq_getr (k9 := (q + 1)) hS rfl (by first | assumption | exact ⟨by decide, rfl⟩) rfl ?_
          refine zp_iload (x := (nI c9)) rfl rfl ?_
          refine zq_iald hS rfl (by first | assumption | exact ⟨by decide, rfl⟩) (by omega) (by first | decide | omega) ?_
          rw [h1 (c9) hc9]
          cases hF : C c9 with
          | none =>
            show zp_wp X y_Match_joinClassesByMembers 28 [.ref q, .ref p, .ref t, .int (nI nm), .int (nI c9)] [.int (-1)] h2 Q
            refine zp_ifF (tgt := 50) rfl rfl (by decide +kernel) ?_
            refine zp_aload_n (x := q) rfl rfl ?_
            refine zp_iload (x := (nI c9)) rfl rfl ?_
            refine zp_aload_n (x := q) rfl rfl ?_
            refine zp_aload_n (x := p) rfl rfl ?_
            refine zp_iconst (v := (nI 1)) rfl (by decide +kernel) ?_
            refine zp_iload (x := (nI c9)) rfl rfl ?_
            refine zp_ishl rfl rfl ?_
            refine zq_virt hS rfl rfl (by first | assumption | exact ⟨by decide, rfl⟩) rfl (s_Prog_namesIn hS hA1 hPa hV ?_)
            rw [v_msk_1 hc9 hV]
            show zp_wp X y_Match_joinClassesByMembers 43 [.ref q, .ref p, .ref t, .int (nI nm), .int (nI c9)] [.int (v_msk V (fun o => o == c9)), .ref q, .int (nI c9), .ref q] h2 Q
            refine zp_aload_n (x := t) rfl rfl ?_
            refine zq_virt hS rfl rfl (by first | assumption | exact ⟨by decide, rfl⟩) rfl (s_Match_closestTo hS hA hm hT hPb hW (msk_hi hV _) ?_)
            rw [← v_like_n]
            show zp_wp X y_Match_joinClassesByMembers 47 [.ref q, .ref p, .ref t, .int (nI nm), .int (nI c9)] [.int (zf_o (v_like V W C c9)), .int (nI c9), .ref q] h2 Q
            refine zq_virt hS rfl rfl (by first | assumption | exact ⟨by decide, rfl⟩) rfl (s_Match_joinClasses hS hA hm hc9 hF (fun r hr => ⟨(v_like_ok hr).1, (v_like_ok hr).2.2⟩) (fun h3 hS3 he3 hm3 => ?_))
            have hS := hS3
            show zp_wp X y_Match_joinClassesByMembers 50 [.ref q, .ref p, .ref t, .int (nI nm), .int (nI c9)] [] h3 Q
            first
            | exact nx _ _ _ hS3 (he.trans he3) hm3 (by rw [hb9]; unfold v_mCs; rw [if_pos hF])
            | exact nx _ C _ hS he hm (by rw [hb9]; unfold v_mCs; rw [if_neg (fun q => by rw [hF] at q; cases q)])
            | exact nx _ C _ hS he hm (by unfold v_byn; rw [hz])
          | some p9 =>
            have hp9 := h1b c9 hc9 p9 hF
            show zp_wp X y_Match_joinClassesByMembers 28 [.ref q, .ref p, .ref t, .int (nI nm), .int (nI c9)] [.int (nI p9)] h2 Q
            refine zp_ifT (tgt := 50) rfl rfl (zc_ge (by omega)) ?_
            first
            | exact nx _ _ _ hS3 (he.trans he3) hm3 (by rw [hb9]; unfold v_mCs; rw [if_pos hF])
            | exact nx _ C _ hS he hm (by rw [hb9]; unfold v_mCs; rw [if_neg (fun q => by rw [hF] at q; cases q)])
            | exact nx _ C _ hS he hm (by unfold v_byn; rw [hz])
  refine zp_bipush (v := (nI 65)) rfl (by decide +kernel) ?_
  refine zp_istore_n_3 rfl rfl ?_
  exact lp 26 65 h _ _ rfl hS zh_eq.rf hm (v_mC_n V W)
theorem s_Match_joinMembersOfClasses (hS : zs_H h) (hA : zq_MA q) (hm : zq_M C (fun _ => none) q h) (hj : zj_C V W C) (hA1 : zq_A p) (hP : zq_P V p h) (hV : zv_W V) (hT : zq_A t) (hP2 : zq_P W t h) (hW : zv_W W) (hd : (p + 6 < q ∨ q + 4 < p) ∧ (t + 6 < q ∨ q + 4 < t)) (hq : ∀ h', zs_H h' → zh_eq (fun y => y = q + 3 ∨ y = q + 4) h h' → zq_m (v_mM0 V W C) 40 (q + 3) (q + 4) h' → Q (.inl none) h') : zp_wm X y_Match_joinMembersOfClasses [.ref q, .ref p, .ref t] h Q := by
  obtain ⟨q0, q1, q2, q3, q4⟩ := id hA
  obtain ⟨p0, p1, p2, p3, p4, p5, p6⟩ := hA1
  have hB := hV.B
  have t0 := hT.1
  show zp_wp X y_Match_joinMembersOfClasses 0 [.ref q, .ref p, .ref t, zm_mk, zm_mk, zm_mk] [] h Q
  have lp : ∀ k i h2 x y, i + k = 40 → zs_H h2 → zh_eq (fun y => y = q + 3 ∨ y = q + 4) h h2 → zq_m (fun m => if m < i then v_mM0 V W C m else none) 40 (q + 3) (q + 4) h2 → zp_wp X y_Match_joinMembersOfClasses 2 [.ref q, .ref p, .ref t, .int (nI i), x, y] [] h2 Q := by
    intro k
    induction k with
    | zero =>
      intro i h2 x y hi hS he hm
      have hi : i = 40 := by omega
      subst hi
      refine zp_iload_n (x := (nI 40)) rfl rfl ?_
      refine zp_bipush (v := (nI 40)) rfl (by decide +kernel) ?_
      refine zp_icT (tgt := 69) rfl rfl (by decide +kernel) ?_
      refine zp_vret rfl rfl ?_
      exact hq _ hS he (hm.cg (fun c hc => by rw [if_pos hc]))
    | succ k ih =>
      intro i h2 x y hi hS he hm2
      have hPa : zq_P V p h2 := hP.eq he (fun x _ _ => by omega)
      have hPb : zq_P W t h2 := hP2.eq he (fun x _ _ => by omega)
      have hmC : zq_m C 12 (q + 1) (q + 2) h2 := hm.1.eq he (by omega) (by omega)
      obtain ⟨h1, h1b, F, h3, h4, h5⟩ := id hmC
      have nx : ∀ h3 x y, zs_H h3 → zh_eq (fun y => y = q + 3 ∨ y = q + 4) h h3 → zq_m (fun m => if m < i + 1 then v_mM0 V W C m else none) 40 (q + 3) (q + 4) h3 → zp_wp X y_Match_joinMembersOfClasses 63 [.ref q, .ref p, .ref t, .int (nI i), x, y] [] h3 Q := by
        intro h3 x y hS he hm
        refine zp_iincN_3 rfl rfl ?_
        refine zp_goto (tgt := 2) rfl rfl ?_
        exact ih (i + 1) _ _ _ (by omega) hS he hm
      have no : v_mM0 V W C i = none → zq_m (fun m => if m < i + 1 then v_mM0 V W C m else none) 40 (q + 3) (q + 4) h2 := by
        intro e
        refine hm2.cg (fun c hc => ?_)
        by_cases e2 : c = i
        · subst e2; rw [if_pos (by omega), if_neg (by omega), e]
        · by_cases e3 : c < i
          · rw [if_pos e3, if_pos (by omega)]
          · rw [if_neg e3, if_neg (by omega)]
      refine zp_iload_n (x := (nI i)) rfl rfl ?_
      refine zp_bipush (v := (nI 40)) rfl (by decide +kernel) ?_
      refine zp_icmpN_ge (tgt := 69) rfl rfl (by omega) (by omega) (fun b5 => ?_) (fun b5 => ?_)
      · omega
      · refine zp_aload_n (x := p) rfl rfl ?_
        refine zq_getr (k9 := (p + 5)) hS rfl (by first | assumption | exact ⟨by decide, rfl⟩) rfl ?_
        refine zp_iload_n (x := (nI i)) rfl rfl ?_
        refine zq_iald hS rfl (by first | assumption | exact ⟨by decide, rfl⟩) (by omega) (by first | decide | omega) ?_
        rw [hPa.ow (i) (by omega)]
        cases ho : v_own V i with
        | none =>
          show zp_wp X y_Match_joinMembersOfClasses 14 [.ref q, .ref p, .ref t, .int (nI i), x, y] [.int (-1)] h2 Q
          refine zp_istore_4 rfl rfl ?_
          refine zp_iload (x := (-1)) rfl rfl ?_
          refine zp_ifT (tgt := 28) rfl rfl (by decide +kernel) ?_
          refine zp_iconst (v := (-1)) rfl (by decide +kernel) ?_
          refine zp_goto (tgt := 39) rfl rfl ?_
          refine zp_istore_5 rfl rfl ?_
          refine zp_iload (x := (-1)) rfl rfl ?_
          refine zp_ifT (tgt := 63) rfl rfl (by decide +kernel) ?_
          first
          | exact nx _ _ _ hS he (no (by unfold v_mM0; rw [if_pos (v_own_n ho)]))
          | (refine nx _ _ _ hS3 (he.trans he3) (hm3.cg (fun c hc => ?_))
             by_cases e : c = i
             · subst e
               rw [va_up_s, if_pos (by omega)]
               unfold v_mM0
               rw [if_neg ho2.1, ho2.2, hF]
             · rw [va_up_o e]
               by_cases e2 : c < i
               · rw [if_pos e2, if_pos (by omega)]
               · rw [if_neg e2, if_neg (by omega)])
          | exact nx _ _ _ hS he (no (by unfold v_mM0; rw [if_neg ho2.1, ho2.2, hF]; rfl))
          | omega
        | some o =>
          have ho12 := v_own_31 hV (by omega) o ho
          have ho2 := v_own_s ho
          show zp_wp X y_Match_joinMembersOfClasses 14 [.ref q, .ref p, .ref t, .int (nI i), x, y] [.int (nI o)] h2 Q
          refine zp_istore_4 rfl rfl ?_
          refine zp_iload (x := (nI o)) rfl rfl ?_
          refine zp_ifF (tgt := 28) rfl rfl (zc_lt (by omega)) ?_
          refine zp_iload (x := (nI o)) rfl rfl ?_
          refine zp_bipush (v := (nI 12)) rfl (by decide +kernel) ?_
          refine zp_icmpN_lt (tgt := 32) rfl rfl (by omega) (by omega) (fun b25 => ?_) (fun b25 => ?_)
          · refine zp_aload_n (x := q) rfl rfl ?_
            refine zq_getr (k9 := (q + 1)) hS rfl (by first | assumption | exact ⟨by decide, rfl⟩) rfl ?_
            refine zp_iload (x := (nI o)) rfl rfl ?_
            refine zq_iald hS rfl (by first | assumption | exact ⟨by decide, rfl⟩) (by omega) (by first | decide | omega) ?_
            rw [h1 (o) ho12]
            cases hF : C o with
            | none =>
              show zp_wp X y_Match_joinMembersOfClasses 39 [.ref q, .ref p, .ref t, .int (nI i), .int (nI o), y] [.int (-1)] h2 Q
              refine zp_istore_5 rfl rfl ?_
              refine zp_iload (x := (-1)) rfl rfl ?_
              refine zp_ifT (tgt := 63) rfl rfl (by decide +kernel) ?_
              first
              | exact nx _ _ _ hS he (no (by unfold v_mM0; rw [if_pos (v_own_n ho)]))
              | (refine nx _ _ _ hS3 (he.trans he3) (hm3.cg (fun c hc => ?_))
                 by_cases e : c = i
                 · subst e
                   rw [va_up_s, if_pos (by omega)]
                   unfold v_mM0
                   rw [if_neg ho2.1, ho2.2, hF]
                 · rw [va_up_o e]
                   by_cases e2 : c < i
                   · rw [if_pos e2, if_pos (by omega)]
                   · rw [if_neg e2, if_neg (by omega)])
              | exact nx _ _ _ hS he (no (by unfold v_mM0; rw [if_neg ho2.1, ho2.2, hF]; rfl))
              | omega
            | some p9 =>
              have hp9 := h1b o ho12 p9 hF
              show zp_wp X y_Match_joinMembersOfClasses 39 [.ref q, .ref p, .ref t, .int (nI i), .int (nI o), y] [.int (nI p9)] h2 Q
              refine zp_istore_5 rfl rfl ?_
              refine zp_iload (x := (nI p9)) rfl rfl ?_
              refine zp_ifF (tgt := 63) rfl rfl (zc_lt (by omega)) ?_
              refine zp_aload_n (x := q) rfl rfl ?_
              refine zp_iload_n (x := (nI i)) rfl rfl ?_
              refine zp_aload_n (x := t) rfl rfl ?_
              refine zp_iload (x := (nI p9)) rfl rfl ?_
              refine zp_aload_n (x := p) rfl rfl ?_
              refine zq_getr (k9 := (p + 4)) hS rfl (by first | assumption | exact ⟨by decide, rfl⟩) rfl ?_
              refine zp_iload_n (x := (nI i)) rfl rfl ?_
              refine zq_iald hS rfl (by first | assumption | exact ⟨by decide, rfl⟩) (by omega) (by first | decide | omega) ?_
              rw [hPa.mn (i) (by omega)]
              have q56 := hB.2.2.1 (i) (by omega)
              refine zq_virt hS rfl rfl (by first | assumption | exact ⟨by decide, rfl⟩) rfl (s_Prog_memberIn hS hT hPb hW hp9 (by omega) ho2.1 ?_)
              show zp_wp X y_Match_joinMembersOfClasses 60 [.ref q, .ref p, .ref t, .int (nI i), .int (nI o), .int (nI p9)] [.int (zf_o (v_mem W (some p9) (v_mn V i))), .int (nI i), .ref q] h2 Q
              refine zq_virt hS rfl rfl (by first | assumption | exact ⟨by decide, rfl⟩) rfl (s_Match_joinMembers hS hA hm2 (by omega) (by rw [if_neg (by omega)]) (fun r hr => ⟨(v_mem_lt hr).1, ?_⟩) (fun h3 hS3 he3 hm3 => ?_))
              · cases e : v_isM (fun m => if m < i then v_mM0 V W C m else none) 40 r with
                | false => rfl
                | true =>
                  obtain ⟨k9, k1, k2⟩ := v_isM_yes e
                  have k2 : (if k9 < i then v_mM0 V W C k9 else none) = some r := k2
                  by_cases e2 : k9 < i
                  · rw [if_pos e2] at k2
                    unfold v_mM0 at k2
                    by_cases e3 : v_mn V k9 = 0
                    · rw [if_pos e3] at k2; cases k2
                    · rw [if_neg e3] at k2
                      have a := v_mem_lt k2
                      have b := v_mem_lt hr
                      have hb2 : p9 = v_ow W r := by have := b.2.2; injection this
                      have hc := hj.2 (v_ow V k9) (v_ow V i) (hV.2.2.2.1 k9 k1) (hV.2.2.2.1 i (by omega)) (v_ow W r) a.2.2 (by rw [ho2.2, hF, hb2])
                      have := hV.2.2.2.2.2.2.2.2.1 k9 i k1 (by omega) e3 (by rw [← a.2.1, b.2.1]) hc
                      omega
                  · rw [if_neg e2] at k2; cases k2
              have hS := hS3
              show zp_wp X y_Match_joinMembersOfClasses 63 [.ref q, .ref p, .ref t, .int (nI i), .int (nI o), .int (nI p9)] [] h3 Q
              first
              | exact nx _ _ _ hS he (no (by unfold v_mM0; rw [if_pos (v_own_n ho)]))
              | (refine nx _ _ _ hS3 (he.trans he3) (hm3.cg (fun c hc => ?_))
                 by_cases e : c = i
                 · subst e
                   rw [va_up_s, if_pos (by omega)]
                   unfold v_mM0
                   rw [if_neg ho2.1, ho2.2, hF]
                 · rw [va_up_o e]
                   by_cases e2 : c < i
                   · rw [if_pos e2, if_pos (by omega)]
                   · rw [if_neg e2, if_neg (by omega)])
              | exact nx _ _ _ hS he (no (by unfold v_mM0; rw [if_neg ho2.1, ho2.2, hF]; rfl))
              | omega
          · omega
  refine zp_iconst (v := (nI 0)) rfl (by decide +kernel) ?_
  refine zp_istore_n_3 rfl rfl ?_
  exact lp 40 0 h _ _ rfl hS zh_eq.rf (hm.2.cg (fun c hc => by rw [if_neg (by omega)]))
theorem s_Match_joinLoneMembers (hS : zs_H h) (hA : zq_MA q) (hm : zq_m (v_mM0 V W (v_mC V W)) 40 (q + 3) (q + 4) h) (hA1 : zq_A p) (hP : zq_P V p h) (hV : zv_W V) (hT : zq_A t) (hP2 : zq_P W t h) (hW : zv_W W) (hd : (p + 6 < q ∨ q + 4 < p) ∧ (t + 6 < q ∨ q + 4 < t)) (hq : ∀ h', zs_H h' → zh_eq (fun y => y = q + 3 ∨ y = q + 4) h h' → zq_m (v_mM V W) 40 (q + 3) (q + 4) h' → Q (.inl none) h') : zp_wm X y_Match_joinLoneMembers [.ref q, .ref p, .ref t] h Q := by
  obtain ⟨q0, q1, q2, q3, q4⟩ := id hA
  have p0 := hA1.1
  have t0 := hT.1
  show zp_wp X y_Match_joinLoneMembers 0 [.ref q, .ref p, .ref t, zm_mk, zm_mk, zm_mk, zm_mk] [] h Q
  have lp : ∀ k nm h2 M x y z, nm + k = 91 → zs_H h2 → zh_eq (fun y => y = q + 3 ∨ y = q + 4) h h2 → zq_m M 40 (q + 3) (q + 4) h2 → v_mM V W = zf_fold (v_byn V (fun c M => zf_fold (v_mMs V W (some c)) 97 26 M)) nm k M → zp_wp X y_Match_joinLoneMembers 3 [.ref q, .ref p, .ref t, .int (nI nm), x, y, z] [] h2 Q := by
    intro k
    induction k with
    | zero =>
      intro nm h2 M x y z hi hS he hm ht
      have ht : v_mM V W = M := ht
      rw [ht] at hq
      refine zp_iload_n (x := (nI nm)) rfl rfl ?_
      refine zp_bipush (v := (nI 90)) rfl (by decide +kernel) ?_
      refine zp_icmpN_gt (tgt := 82) rfl rfl (by omega) (by omega) (fun b6 => ?_) (fun b6 => ?_)
      · refine zp_vret rfl rfl ?_
        exact hq _ hS he hm
      · omega
    | succ k ih =>
      intro nm h2 M x y z hi hS he hm ht
      have hPa : zq_P V p h2 := hP.eq he (fun x _ _ => by omega)
      rw [show zf_fold (v_byn V (fun c M => zf_fold (v_mMs V W (some c)) 97 26 M)) nm (k + 1) M = zf_fold (v_byn V (fun c M => zf_fold (v_mMs V W (some c)) 97 26 M)) (nm + 1) k (v_byn V (fun c M => zf_fold (v_mMs V W (some c)) 97 26 M) nm M) from rfl] at ht
      have nx : ∀ h3 M' x y z, zs_H h3 → zh_eq (fun y => y = q + 3 ∨ y = q + 4) h h3 → zq_m M' 40 (q + 3) (q + 4) h3 → v_byn V (fun c M => zf_fold (v_mMs V W (some c)) 97 26 M) nm M = M' → zp_wp X y_Match_joinLoneMembers 76 [.ref q, .ref p, .ref t, .int (nI nm), x, y, z] [] h3 Q := by
        intro h3 M' x y z hS he hm e
        rw [e] at ht
        refine zp_iincN_3 rfl rfl ?_
        refine zp_goto (tgt := 3) rfl rfl ?_
        exact ih (nm + 1) _ M' _ _ _ (by omega) hS he hm ht
      have inn : ∀ c, c < 12 → v_cls V nm = some c → ∀ r m h3 M' z, m + r = 123 → 97 ≤ m → zs_H h3 → zh_eq (fun y => y = q + 3 ∨ y = q + 4) h h3 → zq_m M' 40 (q + 3) (q + 4) h3 → zf_fold (v_mMs V W (some c)) 97 26 M = zf_fold (v_mMs V W (some c)) m r M' → zp_wp X y_Match_joinLoneMembers 20 [.ref q, .ref p, .ref t, .int (nI nm), .int (nI c), .int (nI m), z] [] h3 Q := by
        intro c hc hz r
        induction r with
        | zero =>
          intro m h3 M' z hr h97 hS he hm e
          have e : zf_fold (v_mMs V W (some c)) 97 26 M = M' := e
          refine zp_iload (x := (nI m)) rfl rfl ?_
          refine zp_bipush (v := (nI 122)) rfl (by decide +kernel) ?_
          refine zp_icmpN_gt (tgt := 76) rfl rfl (by omega) (by omega) (fun b24 => ?_) (fun b24 => ?_)
          · exact nx _ M' _ _ _ hS he hm (by unfold v_byn; rw [hz]; exact e)
          · omega
        | succ r ih2 =>
          intro m h3 M' z hr h97 hS he hm e
          have hPa : zq_P V p h3 := hP.eq he (fun x _ _ => by omega)
          have hPb : zq_P W t h3 := hP2.eq he (fun x _ _ => by omega)
          obtain ⟨h1, h1b, F, h3', h4, h5⟩ := id hm
          rw [show zf_fold (v_mMs V W (some c)) m (r + 1) M' = zf_fold (v_mMs V W (some c)) (m + 1) r (v_mMs V W (some c) m M') from rfl] at e
          have ny : ∀ h4 M2 z, zs_H h4 → zh_eq (fun y => y = q + 3 ∨ y = q + 4) h h4 → zq_m M2 40 (q + 3) (q + 4) h4 → v_mMs V W (some c) m M' = M2 → zp_wp X y_Match_joinLoneMembers 70 [.ref q, .ref p, .ref t, .int (nI nm), .int (nI c), .int (nI m), z] [] h4 Q := by
            intro h4 M2 z hS he hm e2
            rw [e2] at e
            refine zp_iincN_5 rfl rfl ?_
            refine zp_goto (tgt := 20) rfl rfl ?_
            exact ih2 (m + 1) _ M2 _ (by omega) (by omega) hS he hm e
          refine zp_iload (x := (nI m)) rfl rfl ?_
          refine zp_bipush (v := (nI 122)) rfl (by decide +kernel) ?_
          refine zp_icmpN_gt (tgt := 76) rfl rfl (by omega) (by omega) (fun b24 => ?_) (fun b24 => ?_)
          · omega
          · refine zp_iload (x := (nI c)) rfl rfl ?_
            refine zp_ifF (tgt := 76) rfl rfl (zc_lt (by omega)) ?_
            refine zp_aload_n (x := p) rfl rfl ?_
            refine zp_iload (x := (nI c)) rfl rfl ?_
            refine zp_iload (x := (nI m)) rfl rfl ?_
            refine zq_virt hS rfl rfl (by first | assumption | exact ⟨by decide, rfl⟩) rfl (s_Prog_memberIn hS hA1 hPa hV hc (by omega) (by omega) ?_)
            cases hy : v_mem V (some c) m with
            | none =>
              show zp_wp X y_Match_joinLoneMembers 40 [.ref q, .ref p, .ref t, .int (nI nm), .int (nI c), .int (nI m), z] [.int (-1)] h3 Q
              refine zp_istore_6 rfl rfl ?_
              refine zp_iload (x := (-1)) rfl rfl ?_
              refine zp_ifT (tgt := 70) rfl rfl (by decide +kernel) ?_
              first
              | exact ny _ _ _ hS5 (he.trans he5) hm5 (by unfold v_mMs; rw [hy]; simp only [if_pos hF])
              | exact ny _ M' _ hS he hm (by unfold v_mMs; rw [hy]; simp only [hF]; rfl)
              | exact ny _ M' _ hS he hm (by unfold v_mMs; rw [hy])
            | some m9 =>
              have hm9 := (v_mem_lt hy).1
              show zp_wp X y_Match_joinLoneMembers 40 [.ref q, .ref p, .ref t, .int (nI nm), .int (nI c), .int (nI m), z] [.int (nI m9)] h3 Q
              refine zp_istore_6 rfl rfl ?_
              refine zp_iload (x := (nI m9)) rfl rfl ?_
              refine zp_ifF (tgt := 70) rfl rfl (zc_lt (by omega)) ?_
              refine zp_aload_n (x := q) rfl rfl ?_
              refine zq_getr (k9 := (q + 3)) hS rfl (by first | assumption | exact ⟨by decide, rfl⟩) rfl ?_
              refine zp_iload (x := (nI m9)) rfl rfl ?_
              refine zq_iald hS rfl (by first | assumption | exact ⟨by decide, rfl⟩) (by omega) (by first | decide | omega) ?_
              rw [h1 (m9) hm9]
              cases hF : M' m9 with
              | none =>
                show zp_wp X y_Match_joinLoneMembers 54 [.ref q, .ref p, .ref t, .int (nI nm), .int (nI c), .int (nI m), .int (nI m9)] [.int (-1)] h3 Q
                refine zp_ifF (tgt := 70) rfl rfl (by decide +kernel) ?_
                refine zp_aload_n (x := q) rfl rfl ?_
                refine zp_iload (x := (nI m9)) rfl rfl ?_
                refine zp_aload_n (x := q) rfl rfl ?_
                refine zp_aload_n (x := t) rfl rfl ?_
                refine zp_iload (x := (nI m)) rfl rfl ?_
                refine zq_virt hS rfl rfl (by first | assumption | exact ⟨by decide, rfl⟩) rfl (s_Match_onlyFree hS hA hm hT hPb hW (by omega) ?_)
                show zp_wp X y_Match_joinLoneMembers 67 [.ref q, .ref p, .ref t, .int (nI nm), .int (nI c), .int (nI m), .int (nI m9)] [.int (zf_o (v_lone W M' m)), .int (nI m9), .ref q] h3 Q
                refine zq_virt hS rfl rfl (by first | assumption | exact ⟨by decide, rfl⟩) rfl (s_Match_joinMembers hS hA hm hm9 hF (fun r hr => ⟨(v_lone_ok hr).1, (v_lone_ok hr).2.2⟩) (fun h5 hS5 he5 hm5 => ?_))
                have hS := hS5
                show zp_wp X y_Match_joinLoneMembers 70 [.ref q, .ref p, .ref t, .int (nI nm), .int (nI c), .int (nI m), .int (nI m9)] [] h5 Q
                first
                | exact ny _ _ _ hS5 (he.trans he5) hm5 (by unfold v_mMs; rw [hy]; simp only [if_pos hF])
                | exact ny _ M' _ hS he hm (by unfold v_mMs; rw [hy]; simp only [hF]; rfl)
                | exact ny _ M' _ hS he hm (by unfold v_mMs; rw [hy])
              | some p9 =>
                have hp9 := h1b m9 hm9 p9 hF
                show zp_wp X y_Match_joinLoneMembers 54 [.ref q, .ref p, .ref t, .int (nI nm), .int (nI c), .int (nI m), .int (nI m9)] [.int (nI p9)] h3 Q
                refine zp_ifT (tgt := 70) rfl rfl (zc_ge (by omega)) ?_
                first
                | exact ny _ _ _ hS5 (he.trans he5) hm5 (by unfold v_mMs; rw [hy]; simp only [if_pos hF])
                | exact ny _ M' _ hS he hm (by unfold v_mMs; rw [hy]; simp only [hF]; rfl)
                | exact ny _ M' _ hS he hm (by unfold v_mMs; rw [hy])
      have non : v_cls V nm = none → ∀ z, zp_wp X y_Match_joinLoneMembers 20 [.ref q, .ref p, .ref t, .int (nI nm), .int (-1), .int (nI 97), z] [] h2 Q := by
        intro hz z
        refine zp_iload (x := (nI 97)) rfl rfl ?_
        refine zp_bipush (v := (nI 122)) rfl (by decide +kernel) ?_
        refine zp_icF (tgt := 76) rfl rfl (by decide +kernel) ?_
        refine zp_iload (x := (-1)) rfl rfl ?_
        refine zp_ifT (tgt := 76) rfl rfl (by decide +kernel) ?_
        exact nx _ M _ _ _ hS he hm (by unfold v_byn; rw [hz])
      refine zp_iload_n (x := (nI nm)) rfl rfl ?_
      refine zp_bipush (v := (nI 90)) rfl (by decide +kernel) ?_
      refine zp_icmpN_gt (tgt := 82) rfl rfl (by omega) (by omega) (fun b6 => ?_) (fun b6 => ?_)
      · omega
      · refine zp_aload_n (x := p) rfl rfl ?_
        refine zp_iload_n (x := (nI nm)) rfl rfl ?_
        refine zq_virt hS rfl rfl (by first | assumption | exact ⟨by decide, rfl⟩) rfl (s_Prog_classAt hS hA1 hPa hV.B (by omega) ?_)
        cases hz : v_cls V nm with
        | none =>
          show zp_wp X y_Match_joinLoneMembers 14 [.ref q, .ref p, .ref t, .int (nI nm), x, y, z] [.int (-1)] h2 Q
          refine zp_istore_4 rfl rfl ?_
          refine zp_bipush (v := (nI 97)) rfl (by decide +kernel) ?_
          refine zp_istore_5 rfl rfl ?_
          first
          | exact inn c9 hc9 hz 26 97 _ M _ rfl (by decide) hS he hm rfl
          | exact non hz _
        | some c9 =>
          have hc9 := (v_cls_lt hz).1
          show zp_wp X y_Match_joinLoneMembers 14 [.ref q, .ref p, .ref t, .int (nI nm), x, y, z] [.int (nI c9)] h2 Q
          refine zp_istore_4 rfl rfl ?_
          refine zp_bipush (v := (nI 97)) rfl (by decide +kernel) ?_
          refine zp_istore_5 rfl rfl ?_
          first
          | exact inn c9 hc9 hz 26 97 _ M _ rfl (by decide) hS he hm rfl
          | exact non hz _
  refine zp_bipush (v := (nI 65)) rfl (by decide +kernel) ?_
  refine zp_istore_n_3 rfl rfl ?_
  exact lp 26 65 h _ _ _ _ rfl hS zh_eq.rf hm (v_mM_n V W)
theorem s_Match_find (hS : zs_H h) (hA : zq_MA q) (hA1 : zq_A p) (hP : zq_P V p h) (hV : zv_W V) (hT : zq_A t) (hP2 : zq_P W t h) (hW : zv_W W) (hd : (p + 6 < q ∨ q + 4 < p) ∧ (t + 6 < q ∨ q + 4 < t)) (hq : ∀ h', zs_H h' → zh_eq (fun y => q < y ∧ y ≤ q + 4) h h' → zq_M (v_mC V W) (v_mM V W) q h' → Q (.inl none) h') : zp_wm X y_Match_find [.ref q, .ref p, .ref t] h Q := by
  obtain ⟨q0, q1, q2, q3, q4⟩ := id hA
  show zp_wp X y_Match_find 0 [.ref q, .ref p, .ref t] [] h Q
  have em : ∀ n : Nat, zo_lt (fun _ => none) n n ∧ zi_v (fun _ => none) (fun _ => none) n := fun n => ⟨fun i _ j hj => (by cases hj), fun c p _ _ => ⟨fun q => (by cases q), fun q => (by cases q)⟩⟩
  refine zp_aload_n (x := q) rfl rfl ?_
  refine zq_getr (k9 := (q + 1)) hS rfl (by first | assumption | exact ⟨by decide, rfl⟩) rfl ?_
  refine zp_iconst (v := (-1)) rfl (by decide +kernel) ?_
  refine zp_call rfl rfl (s_Arrays_fill hS q1 (by decide) (fun ha hSa hea hca => ?_))
  have hS := hSa
  show zp_wp X y_Match_find 8 [.ref q, .ref p, .ref t] [] ha Q
  refine zp_aload_n (x := q) rfl rfl ?_
  refine zq_getr (k9 := (q + 2)) hS rfl (by first | assumption | exact ⟨by decide, rfl⟩) rfl ?_
  refine zp_iconst (v := (-1)) rfl (by decide +kernel) ?_
  refine zp_call rfl rfl (s_Arrays_fill hSa q2 (by decide) (fun hb hSb heb hcb => ?_))
  have hS := hSb
  show zp_wp X y_Match_find 16 [.ref q, .ref p, .ref t] [] hb Q
  refine zp_aload_n (x := q) rfl rfl ?_
  refine zq_getr (k9 := (q + 3)) hS rfl (by first | assumption | exact ⟨by decide, rfl⟩) rfl ?_
  refine zp_iconst (v := (-1)) rfl (by decide +kernel) ?_
  refine zp_call rfl rfl (s_Arrays_fill hSb q3 (by decide) (fun hc hSc hec hcc => ?_))
  have hS := hSc
  show zp_wp X y_Match_find 24 [.ref q, .ref p, .ref t] [] hc Q
  refine zp_aload_n (x := q) rfl rfl ?_
  refine zq_getr (k9 := (q + 4)) hS rfl (by first | assumption | exact ⟨by decide, rfl⟩) rfl ?_
  refine zp_iconst (v := (-1)) rfl (by decide +kernel) ?_
  refine zp_call rfl rfl (s_Arrays_fill hSc q4 (by decide) (fun hf hSf hef hcf => ?_))
  have hS := hSf
  have ef : zh_eq (fun y => q < y ∧ y ≤ q + 4) h hf := (((hea.mono (fun x e => by omega)).trans (heb.mono (fun x e => by omega))).trans (hec.mono (fun x e => by omega))).trans (hef.mono (fun x e => by omega))
  have m1 : zq_m (fun _ => none) 12 (q + 1) (q + 2) hf := ⟨fun i hi => by rw [hef.gi (by omega), hec.gi (by omega), heb.gi (by omega)]; exact hca i hi, (em 12).1, fun _ => none, fun i hi => by rw [hef.gi (by omega), hec.gi (by omega)]; exact hcb i hi, (em 12).1, (em 12).2⟩
  have m2 : zq_m (fun _ => none) 40 (q + 3) (q + 4) hf := ⟨fun i hi => by rw [hef.gi (by omega)]; exact hcc i hi, (em 40).1, fun _ => none, fun i hi => hcf i hi, (em 40).1, (em 40).2⟩
  show zp_wp X y_Match_find 32 [.ref q, .ref p, .ref t] [] hf Q
  refine zp_aload_n (x := q) rfl rfl ?_
  refine zp_aload_n (x := p) rfl rfl ?_
  refine zp_aload_n (x := t) rfl rfl ?_
  refine zq_virt hS rfl rfl (by first | assumption | exact ⟨by decide, rfl⟩) rfl (s_Match_joinClassesByName hSf hA m1 hA1 (hP.eq ef (fun x _ _ => by omega)) hV hT (hP2.eq ef (fun x _ _ => by omega)) hW hd (fun hg hSg heg hmg => ?_))
  have hS := hSg
  have eg : zh_eq (fun y => q < y ∧ y ≤ q + 4) h hg := ef.trans (heg.mono (fun x e => by omega))
  show zp_wp X y_Match_find 38 [.ref q, .ref p, .ref t] [] hg Q
  refine zp_aload_n (x := q) rfl rfl ?_
  refine zp_aload_n (x := p) rfl rfl ?_
  refine zp_aload_n (x := t) rfl rfl ?_
  refine zq_virt hS rfl rfl (by first | assumption | exact ⟨by decide, rfl⟩) rfl (s_Match_joinClassesByMembers hSg hA hmg hA1 (hP.eq eg (fun x _ _ => by omega)) hV hT (hP2.eq eg (fun x _ _ => by omega)) hW hd (fun hk hSk hek hmk => ?_))
  have hS := hSk
  have ek : zh_eq (fun y => q < y ∧ y ≤ q + 4) h hk := eg.trans (hek.mono (fun x e => by omega))
  have m3 : zq_m (fun _ => none) 40 (q + 3) (q + 4) hk := (m2.eq heg (by omega) (by omega)).eq hek (by omega) (by omega)
  show zp_wp X y_Match_find 44 [.ref q, .ref p, .ref t] [] hk Q
  refine zp_aload_n (x := q) rfl rfl ?_
  refine zp_aload_n (x := p) rfl rfl ?_
  refine zp_aload_n (x := t) rfl rfl ?_
  refine zq_virt hS rfl rfl (by first | assumption | exact ⟨by decide, rfl⟩) rfl (s_Match_joinMembersOfClasses hSk hA ⟨hmk, m3⟩ (zj_mC hV) hA1 (hP.eq ek (fun x _ _ => by omega)) hV hT (hP2.eq ek (fun x _ _ => by omega)) hW hd (fun hl hSl hel hml => ?_))
  have hS := hSl
  have el : zh_eq (fun y => q < y ∧ y ≤ q + 4) h hl := ek.trans (hel.mono (fun x e => by omega))
  show zp_wp X y_Match_find 50 [.ref q, .ref p, .ref t] [] hl Q
  refine zp_aload_n (x := q) rfl rfl ?_
  refine zp_aload_n (x := p) rfl rfl ?_
  refine zp_aload_n (x := t) rfl rfl ?_
  refine zq_virt hS rfl rfl (by first | assumption | exact ⟨by decide, rfl⟩) rfl (s_Match_joinLoneMembers hSl hA hml hA1 (hP.eq el (fun x _ _ => by omega)) hV hT (hP2.eq el (fun x _ _ => by omega)) hW hd (fun hn hSn hen hmn => ?_))
  show zp_wp X y_Match_find 56 [.ref q, .ref p, .ref t] [] hn Q
  refine zp_vret rfl rfl ?_
  exact hq _ hSn (el.trans (hen.mono (fun x e => by omega))) ⟨(hmk.eq hel (by omega) (by omega)).eq hen (by omega) (by omega), hmn⟩
end ZP12
