/-! the reference: the fingerprint -/
def v_mixM (V : zv) (c : Nat) (nm : Nat) (f : Int64) : Int64 := match v_mem V (some c) nm with
  | none => f
  | some m => (lN 31 * ((lN 31 * f) + (Int32.toInt64 (nI (zf_ct (fun k => v_us V m k) 0 40))))) + (Int32.toInt64 (nI (zf_ct (fun k => v_us V k m) 0 40)))
def v_mixC (V : zv) (c : Nat) (f : Int64) : Int64 := zf_fold (v_mixM V c) 97 26 ((lN 31 * ((lN 31 * ((lN 31 * f) + Int32.toInt64 (nI (v_cn V c)))) + Int32.toInt64 (nI (v_sn V c)))) + Int32.toInt64 (v_msk V (fun o => o == c)))
def v_mixI (V : zv) (i : Nat) (f : Int64) : Int64 := match v_ord V i with
  | none => f
  | some c => v_mixC V c f
def v_mix (V : zv) (f : Int64) : Int64 := zf_fold (v_mixI V) 0 12 f
def z_print (s : zst) : Int64 := (lN 31 * v_mix (g_1 s) (v_mix (g_0 s) (lN 43))) + Int32.toInt64 (nI (g_n s))
section ZR16
variable {X : zm_X} {h h1 h2 : zm_H} {Q : zm_O → zm_H → Prop} {V : zv} {s : zst} {r : Nat}
theorem s_Mod_mixes {f : Int64} (hS : zs_H h) (hr : zs_I r 1704) (hV : zv_R V (ci h r)) (hB : zv_B V) (hq : Q (.inl (some (.long (v_mix V f)))) h) : zp_wm X y_Mod_mixes [.long f, .ref r] h Q := by
  show zp_wp X y_Mod_mixes 0 [.long f, zm_mk, .ref r, zm_mk, zm_mk, zm_mk, zm_mk, zm_mk, zm_mk, zm_mk, zm_mk, zm_mk] [] h Q
  have lp : ∀ k i g x y z u v w, i + k = 12 → v_mix V f = zf_fold (v_mixI V) i k g → zp_wp X y_Mod_mixes 5 [.long f, zm_mk, .ref r, .long g, zm_mk, .int (nI i), x, y, z, u, v, w] [] h Q := by
    intro k
    induction k with
    | zero =>
      intro i g x y z u v w hi he
      refine zp_iload (x := (nI i)) rfl rfl ?_
      refine zp_bipush (v := (nI 12)) rfl (by decide +kernel) ?_
      refine zp_icmpN_ge (tgt := 188) rfl rfl (by omega) (by omega) (fun b9 => ?_) (fun b9 => ?_)
      · refine zp_lload_n (x := g) rfl rfl ?_
        refine zp_lret rfl rfl ?_
        rw [he] at hq; exact hq
      · omega
    | succ k ih =>
      intro i g x y z u v w hi he
      rw [show zf_fold (v_mixI V) i (k + 1) g = zf_fold (v_mixI V) (i + 1) k (v_mixI V i g) from rfl] at he
      have nml : ∀ c, c < 12 → v_ord V i = some c → ∀ k2 nm g2 z u v w, nm + k2 = 123 → v_mixC V c g = zf_fold (v_mixM V c) nm k2 g2 → zp_wp X y_Mod_mixes 69 [.long f, zm_mk, .ref r, .long g2, zm_mk, .int (nI i), .int (nI c), .int (nI nm), z, u, v, w] [] h Q := by
        intro c hc hz k2
        induction k2 with
        | zero =>
          intro nm g2 z u v w hn he2
          refine zp_iload (x := (nI nm)) rfl rfl ?_
          refine zp_bipush (v := (nI 122)) rfl (by decide +kernel) ?_
          refine zp_icmpN_gt (tgt := 182) rfl rfl (by omega) (by omega) (fun b73 => ?_) (fun b73 => ?_)
          · refine zp_iincN_5 rfl rfl ?_
            refine zp_goto (tgt := 5) rfl rfl ?_
            refine ih (i + 1) _ _ _ _ _ _ _ (by omega) ?_
            rw [he]
            unfold v_mixI
            rw [hz]
            dsimp only
            rw [he2]
            rfl
          · omega
        | succ k2 ih2 =>
          intro nm g2 z u v w hn he2
          rw [show zf_fold (v_mixM V c) nm (k2 + 1) g2 = zf_fold (v_mixM V c) (nm + 1) k2 (v_mixM V c nm g2) from rfl] at he2
          have cnt : ∀ m, m < 40 → v_mem V (some c) nm = some m → ∀ k3 j a b, j + k3 = 40 → a ≤ j → b ≤ j → zf_ct (fun k => v_us V m k) 0 40 = a + zf_ct (fun k => v_us V m k) j k3 → zf_ct (fun k => v_us V k m) 0 40 = b + zf_ct (fun k => v_us V k m) j k3 → zp_wp X y_Mod_mixes 95 [.long f, zm_mk, .ref r, .long g2, zm_mk, .int (nI i), .int (nI c), .int (nI nm), .int (nI m), .int (nI a), .int (nI b), .int (nI j)] [] h Q := by
            intro m hm hzm k3
            induction k3 with
            | zero =>
              intro j a b hj ha hb e1 e2
              have e1 : zf_ct (fun k => v_us V m k) 0 40 = a := e1
              have e2 : zf_ct (fun k => v_us V k m) 0 40 = b := e2
              refine zp_iload (x := (nI j)) rfl rfl ?_
              refine zp_bipush (v := (nI 40)) rfl (by decide +kernel) ?_
              refine zp_icmpN_ge (tgt := 149) rfl rfl (by omega) (by omega) (fun b99 => ?_) (fun b99 => ?_)
              · refine zp_iload (x := (nI m)) rfl rfl ?_
                refine zp_ifT (tgt := 158) rfl rfl (zc_ge (by omega)) ?_
                refine zp_ldc2 rfl ?_
                refine zp_ldc2 rfl ?_
                refine zp_lload_n (x := g2) rfl rfl ?_
                refine zp_lmul rfl rfl ?_
                refine zp_iload (x := (nI a)) rfl rfl ?_
                refine zp_i2l rfl rfl ?_
                refine zp_ladd rfl rfl ?_
                refine zp_lmul rfl rfl ?_
                refine zp_iload (x := (nI b)) rfl rfl ?_
                refine zp_i2l rfl rfl ?_
                refine zp_ladd rfl rfl ?_
                refine zp_lstore_n_3 rfl rfl ?_
                refine zp_iincN_7 rfl rfl ?_
                refine zp_goto (tgt := 69) rfl rfl ?_
                refine ih2 (nm + 1) _ _ _ _ _ (by omega) ?_
                rw [he2]
                unfold v_mixM
                rw [hzm]
                dsimp only
                rw [e1, e2]
              · omega
            | succ k3 ih3 =>
              intro j a b hj ha hb e1 e2
              rw [show zf_ct (fun k => v_us V m k) j (k3 + 1) = cond (v_us V m j) 1 0 + zf_ct (fun k => v_us V m k) (j + 1) k3 from rfl] at e1
              rw [show zf_ct (fun k => v_us V k m) j (k3 + 1) = cond (v_us V j m) 1 0 + zf_ct (fun k => v_us V k m) (j + 1) k3 from rfl] at e2
              refine zp_iload (x := (nI j)) rfl rfl ?_
              refine zp_bipush (v := (nI 40)) rfl (by decide +kernel) ?_
              refine zp_icmpN_ge (tgt := 149) rfl rfl (by omega) (by omega) (fun b99 => ?_) (fun b99 => ?_)
              · omega
              · refine zp_iload (x := (nI m)) rfl rfl ?_
                refine zp_ifF (tgt := 149) rfl rfl (zc_lt (by omega)) ?_
                refine zp_iload (x := (nI a)) rfl rfl ?_
                refine zp_aload_n (x := r) rfl rfl ?_
                refine zp_bipush (v := (nI 104)) rfl (by decide +kernel) ?_
                refine zp_bipush (v := (nI 40)) rfl (by decide +kernel) ?_
                refine zp_iload (x := (nI m)) rfl rfl ?_
                refine zp_imulN rfl ?_
                refine zp_iaddN rfl ?_
                refine zp_iload (x := (nI j)) rfl rfl ?_
                refine zp_iaddN rfl ?_
                refine zq_iald hS rfl (by first | assumption | exact ⟨by decide, rfl⟩) (by omega) (by first | decide | omega) ?_
                rw [hV.2.2.2.2 (m) (j) (by omega) (by omega)]
                have q121 : cond (v_us V (m) (j)) 1 0 ≤ 1 := by cases v_us V (m) (j) <;> decide
                refine zp_iaddN rfl ?_
                refine zp_istore_9 rfl rfl ?_
                refine zp_iload (x := (nI b)) rfl rfl ?_
                refine zp_aload_n (x := r) rfl rfl ?_
                refine zp_bipush (v := (nI 104)) rfl (by decide +kernel) ?_
                refine zp_bipush (v := (nI 40)) rfl (by decide +kernel) ?_
                refine zp_iload (x := (nI j)) rfl rfl ?_
                refine zp_imulN rfl ?_
                refine zp_iaddN rfl ?_
                refine zp_iload (x := (nI m)) rfl rfl ?_
                refine zp_iaddN rfl ?_
                refine zq_iald hS rfl (by first | assumption | exact ⟨by decide, rfl⟩) (by omega) (by first | decide | omega) ?_
                rw [hV.2.2.2.2 (j) (m) (by omega) (by omega)]
                have q139 : cond (v_us V (j) (m)) 1 0 ≤ 1 := by cases v_us V (j) (m) <;> decide
                refine zp_iaddN rfl ?_
                refine zp_istore_10 rfl rfl ?_
                refine zp_iincN_11 rfl rfl ?_
                refine zp_goto (tgt := 95) rfl rfl ?_
                exact ih3 (j + 1) _ _ (by omega) (by omega) (by omega) (by omega) (by omega)
          have no95 : v_mem V (some c) nm = none → zp_wp X y_Mod_mixes 95 [.long f, zm_mk, .ref r, .long g2, zm_mk, .int (nI i), .int (nI c), .int (nI nm), .int (-1), .int (nI 0), .int (nI 0), .int (nI 0)] [] h Q := by
            intro hzm
            refine zp_iload (x := (nI 0)) rfl rfl ?_
            refine zp_bipush (v := (nI 40)) rfl (by decide +kernel) ?_
            refine zp_icF (tgt := 149) rfl rfl (by decide +kernel) ?_
            refine zp_iload (x := (-1)) rfl rfl ?_
            refine zp_ifT (tgt := 149) rfl rfl (by decide +kernel) ?_
            refine zp_iload (x := (-1)) rfl rfl ?_
            refine zp_ifF (tgt := 158) rfl rfl (by decide +kernel) ?_
            refine zp_lload_n (x := g2) rfl rfl ?_
            refine zp_goto (tgt := 175) rfl rfl ?_
            refine zp_lstore_n_3 rfl rfl ?_
            refine zp_iincN_7 rfl rfl ?_
            refine zp_goto (tgt := 69) rfl rfl ?_
            exact ih2 (nm + 1) _ _ _ _ _ (by omega) (by rw [he2]; unfold v_mixM; rw [hzm])
          refine zp_iload (x := (nI nm)) rfl rfl ?_
          refine zp_bipush (v := (nI 122)) rfl (by decide +kernel) ?_
          refine zp_icmpN_gt (tgt := 182) rfl rfl (by omega) (by omega) (fun b73 => ?_) (fun b73 => ?_)
          · omega
          · refine zp_aload_n (x := r) rfl rfl ?_
            refine zp_iload (x := (nI c)) rfl rfl ?_
            refine zp_iload (x := (nI nm)) rfl rfl ?_
            refine zp_call rfl rfl (t_Mod_memberAt (c := some c) hS hr hV hB (fun j hj => by cases hj; exact hc) (by omega) ?_)
            cases hzm : v_mem V (some c) nm with
            | none =>
              show zp_wp X y_Mod_mixes 84 [.long f, zm_mk, .ref r, .long g2, zm_mk, .int (nI i), .int (nI c), .int (nI nm), z, u, v, w] [.int (-1)] h Q
              refine zp_istore_8 rfl rfl ?_
              refine zp_iconst (v := (nI 0)) rfl (by decide +kernel) ?_
              refine zp_istore_9 rfl rfl ?_
              refine zp_iconst (v := (nI 0)) rfl (by decide +kernel) ?_
              refine zp_istore_10 rfl rfl ?_
              refine zp_iconst (v := (nI 0)) rfl (by decide +kernel) ?_
              refine zp_istore_11 rfl rfl ?_
              first
              | exact cnt m hm hzm 40 0 0 0 rfl (by decide) (by decide) (by omega) (by omega)
              | exact no95 hzm
            | some m =>
              have hm := (v_mem_lt hzm).1
              show zp_wp X y_Mod_mixes 84 [.long f, zm_mk, .ref r, .long g2, zm_mk, .int (nI i), .int (nI c), .int (nI nm), z, u, v, w] [.int (nI m)] h Q
              refine zp_istore_8 rfl rfl ?_
              refine zp_iconst (v := (nI 0)) rfl (by decide +kernel) ?_
              refine zp_istore_9 rfl rfl ?_
              refine zp_iconst (v := (nI 0)) rfl (by decide +kernel) ?_
              refine zp_istore_10 rfl rfl ?_
              refine zp_iconst (v := (nI 0)) rfl (by decide +kernel) ?_
              refine zp_istore_11 rfl rfl ?_
              first
              | exact cnt m hm hzm 40 0 0 0 rfl (by decide) (by decide) (by omega) (by omega)
              | exact no95 hzm
      refine zp_iload (x := (nI i)) rfl rfl ?_
      refine zp_bipush (v := (nI 12)) rfl (by decide +kernel) ?_
      refine zp_icmpN_ge (tgt := 188) rfl rfl (by omega) (by omega) (fun b9 => ?_) (fun b9 => ?_)
      · omega
      · refine zp_aload_n (x := r) rfl rfl ?_
        refine zp_iload (x := (nI i)) rfl rfl ?_
        refine zp_call rfl rfl (s_Mod_ordered hS hr hV hB (by omega) ?_)
        cases hz : v_ord V i with
        | none =>
          show zp_wp X y_Mod_mixes 18 [.long f, zm_mk, .ref r, .long g, zm_mk, .int (nI i), x, y, z, u, v, w] [.int (-1)] h Q
          refine zp_istore_6 rfl rfl ?_
          refine zp_iload (x := (-1)) rfl rfl ?_
          refine zp_ifT (tgt := 182) rfl rfl (by decide +kernel) ?_
          refine zp_iincN_5 rfl rfl ?_
          refine zp_goto (tgt := 5) rfl rfl ?_
          exact ih (i + 1) _ _ _ _ _ _ _ (by omega) (by rw [he]; unfold v_mixI; rw [hz])
        | some c =>
          have hc := v_ord_12 c hz
          show zp_wp X y_Mod_mixes 18 [.long f, zm_mk, .ref r, .long g, zm_mk, .int (nI i), x, y, z, u, v, w] [.int (nI c)] h Q
          refine zp_istore_6 rfl rfl ?_
          refine zp_iload (x := (nI c)) rfl rfl ?_
          refine zp_ifF (tgt := 182) rfl rfl (zc_lt (by omega)) ?_
          refine zp_ldc2 rfl ?_
          refine zp_lload_n (x := g) rfl rfl ?_
          refine zp_lmul rfl rfl ?_
          refine zp_aload_n (x := r) rfl rfl ?_
          refine zp_iload (x := (nI c)) rfl rfl ?_
          refine zq_iald hS rfl (by first | assumption | exact ⟨by decide, rfl⟩) (by omega) (by first | decide | omega) ?_
          rw [hV.1 (c) (by omega)]
          have q33 := hB.1 (c) (by omega)
          refine zp_i2l rfl rfl ?_
          refine zp_ladd rfl rfl ?_
          refine zp_lstore_n_3 rfl rfl ?_
          refine zp_ldc2 rfl ?_
          refine zp_lload_n (x := (((lN 31) * g) + (Int32.toInt64 (nI (v_cn V (c)))))) rfl rfl ?_
          refine zp_lmul rfl rfl ?_
          refine zp_aload_n (x := r) rfl rfl ?_
          refine zp_iload (x := (nI c)) rfl rfl ?_
          refine zp_call rfl rfl (s_Mod_nameOfSuper hS hr hV hB hc ?_)
          show zp_wp X y_Mod_mixes 48 [.long f, zm_mk, .ref r, .long (((lN 31) * g) + (Int32.toInt64 (nI (v_cn V (c))))), zm_mk, .int (nI i), .int (nI c), y, z, u, v, w] [.int (nI (v_sn V c)), .long ((lN 31) * (((lN 31) * g) + (Int32.toInt64 (nI (v_cn V (c))))))] h Q
          refine zp_i2l rfl rfl ?_
          refine zp_ladd rfl rfl ?_
          refine zp_lstore_n_3 rfl rfl ?_
          refine zp_ldc2 rfl ?_
          refine zp_lload_n (x := (((lN 31) * (((lN 31) * g) + (Int32.toInt64 (nI (v_cn V (c)))))) + (Int32.toInt64 (nI (v_sn V c))))) rfl rfl ?_
          refine zp_lmul rfl rfl ?_
          refine zp_aload_n (x := r) rfl rfl ?_
          refine zp_iload (x := (nI c)) rfl rfl ?_
          refine zp_call rfl rfl (s_Mod_membersOf hS hr hV hB hc ?_)
          show zp_wp X y_Mod_mixes 62 [.long f, zm_mk, .ref r, .long (((lN 31) * (((lN 31) * g) + (Int32.toInt64 (nI (v_cn V (c)))))) + (Int32.toInt64 (nI (v_sn V c)))), zm_mk, .int (nI i), .int (nI c), y, z, u, v, w] [.int (v_msk V (fun o => o == c)), .long ((lN 31) * (((lN 31) * (((lN 31) * g) + (Int32.toInt64 (nI (v_cn V (c)))))) + (Int32.toInt64 (nI (v_sn V c)))))] h Q
          refine zp_i2l rfl rfl ?_
          refine zp_ladd rfl rfl ?_
          refine zp_lstore_n_3 rfl rfl ?_
          refine zp_bipush (v := (nI 97)) rfl (by decide +kernel) ?_
          refine zp_istore_7 rfl rfl ?_
          exact nml c hc hz 26 97 _ _ _ _ _ rfl rfl
  refine zp_lload_n (x := f) rfl rfl ?_
  refine zp_lstore_n_3 rfl rfl ?_
  refine zp_iconst (v := (nI 0)) rfl (by decide +kernel) ?_
  refine zp_istore_5 rfl rfl ?_
  exact lp 12 0 f _ _ _ _ _ _ rfl rfl
theorem s_Mod_fingerprint (hs : zr_S s h) (hB : zr_B s) (hq : ∀ h', zr_D s 0 h h' → Q (.inl (some (.long (z_print s)))) h') : zp_wm X y_Mod_fingerprint [.ref 171] h Q := by
  have hS := hs.1
  have hn := hs.2.2.2.1
  show zp_wp X y_Mod_fingerprint 0 [.ref 171] [] h Q
  refine zp_aload_n (x := 171) rfl rfl ?_
  refine zp_iconst (v := (nI 0)) rfl (by decide +kernel) ?_
  refine zq_put hS rfl (by first | assumption | exact ⟨by decide, rfl⟩) rfl rfl (fun hS2 => ?_)
  have hS := hS2
  refine zp_ldc2 rfl ?_
  refine zp_ldc2 rfl ?_
  refine zp_aload_n (x := 171) rfl rfl ?_
  refine zq_getr (k9 := 172) hS rfl (by first | assumption | exact ⟨by decide, rfl⟩) rfl ?_
  refine zp_call rfl rfl (s_Mod_mixes (V := g_0 s) hS ⟨by decide, rfl⟩ (zr_hs9 hs hS).2.1.1 hB.1.1 ?_)
  show zp_wp X y_Mod_fingerprint 18 [.ref 171] [.long (v_mix (g_0 s) (lN 43)), .long (lN 31)] (zf_put h 171 9 (nI 0)) Q
  refine zp_aload_n (x := 171) rfl rfl ?_
  refine zq_getr (k9 := 173) hS rfl (by first | assumption | exact ⟨by decide, rfl⟩) rfl ?_
  refine zp_call rfl rfl (s_Mod_mixes (V := g_1 s) hS ⟨by decide, rfl⟩ (zr_hs9 hs hS).2.1.2.1 hB.1.2.1 ?_)
  show zp_wp X y_Mod_fingerprint 25 [.ref 171] [.long (v_mix (g_1 s) (v_mix (g_0 s) (lN 43))), .long (lN 31)] (zf_put h 171 9 (nI 0)) Q
  refine zp_lmul rfl rfl ?_
  refine zp_aload_n (x := 171) rfl rfl ?_
  refine zq_geti hS rfl (by first | assumption | exact ⟨by decide, rfl⟩) rfl ?_
  rw [zf_nj (by decide)]
  rw [hn]
  refine zp_i2l rfl rfl ?_
  refine zp_ladd rfl rfl ?_
  refine zp_lret rfl rfl ?_
  exact hq _ ((zr_F.f9 (T := []) hS).D hs (by decide) (by decide) (zf_at9 hS zs_M rfl))
end ZR16
