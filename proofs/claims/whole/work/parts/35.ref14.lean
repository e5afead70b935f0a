/-! the reference: a change is tried on the target -/
section ZR14
variable {X : zm_X} {h h1 h2 : zm_H} {Q : zm_O → zm_H → Prop} {V W B MV TG : zv} {s : zst} {T : List Nat} {r o l d : Nat} {L : Nat → zch} {c pl : zch} {C M : Nat → Option Nat}
theorem s_Mod_counts {f kind : Nat} (hS : zs_H h) (hp : zr_p pl h) (hk : pl.1 = kind) (hc : zc_ok pl) (hf : f < 10) (hq : Q (.inl (some (.int (zf_b (v_cnt pl f))))) h) : zp_wm X y_Mod_counts [.ref 171, .int (nI kind), .int (nI f)] h Q := by
  show zp_wp X y_Mod_counts 0 [.ref 171, .int (nI kind), .int (nI f)] [] h Q
  obtain ⟨p1, p2, p3, p4⟩ := hp
  obtain ⟨k1, k2, k3, k4, k5⟩ := hc
  refine zp_iload_n (x := (nI kind)) rfl rfl ?_
  refine zp_iconst (v := (nI 2)) rfl (by decide +kernel) ?_
  refine zp_icmpN_ne (tgt := 22) rfl rfl (by omega) (by omega) (fun b2 => ?_) (fun b2 => ?_)
  · refine zp_iload_n (x := (nI kind)) rfl rfl ?_
    refine zp_bipush (v := (nI 6)) rfl (by decide +kernel) ?_
    refine zp_icmpN_ne (tgt := 45) rfl rfl (by omega) (by omega) (fun b25 => ?_) (fun b25 => ?_)
    · refine zp_iload_n (x := (nI f)) rfl rfl ?_
      refine zp_iconst (v := (nI 1)) rfl (by decide +kernel) ?_
      refine zp_icmpN_ne (tgt := 75) rfl rfl (by omega) (by omega) (fun b47 => ?_) (fun b47 => ?_)
      · refine zp_iconst (v := (nI 0)) rfl (by decide +kernel) ?_
        refine zp_zret rfl rfl (by decide) ?_
        have hv : v_cnt pl f = false := by
          unfold v_cnt
          (repeat' split) <;> first | (exfalso; omega) | (simp; omega)
        rw [hv] at hq
        exact hq
      · refine zp_iload_n (x := (nI kind)) rfl rfl ?_
        refine zp_ifN_eq (tgt := 71) rfl rfl (by omega) (fun b51 => ?_) (fun b51 => ?_)
        · refine zp_iconst (v := (nI 1)) rfl (by decide +kernel) ?_
          refine zp_goto (tgt := 76) rfl rfl ?_
          refine zp_zret rfl rfl (by decide) ?_
          have hv : v_cnt pl f = true := by
            unfold v_cnt
            (repeat' split) <;> first | (exfalso; omega) | (simp; omega)
          rw [hv] at hq
          exact hq
        · refine zp_iload_n (x := (nI kind)) rfl rfl ?_
          refine zp_iconst (v := (nI 4)) rfl (by decide +kernel) ?_
          refine zp_icmpN_eq (tgt := 71) rfl rfl (by omega) (by omega) (fun b56 => ?_) (fun b56 => ?_)
          · refine zp_iconst (v := (nI 1)) rfl (by decide +kernel) ?_
            refine zp_goto (tgt := 76) rfl rfl ?_
            refine zp_zret rfl rfl (by decide) ?_
            have hv : v_cnt pl f = true := by
              unfold v_cnt
              (repeat' split) <;> first | (exfalso; omega) | (simp; omega)
            rw [hv] at hq
            exact hq
          · refine zp_iload_n (x := (nI kind)) rfl rfl ?_
            refine zp_bipush (v := (nI 7)) rfl (by decide +kernel) ?_
            refine zp_icmpN_eq (tgt := 71) rfl rfl (by omega) (by omega) (fun b62 => ?_) (fun b62 => ?_)
            · refine zp_iconst (v := (nI 1)) rfl (by decide +kernel) ?_
              refine zp_goto (tgt := 76) rfl rfl ?_
              refine zp_zret rfl rfl (by decide) ?_
              have hv : v_cnt pl f = true := by
                unfold v_cnt
                (repeat' split) <;> first | (exfalso; omega) | (simp; omega)
              rw [hv] at hq
              exact hq
            · refine zp_iload_n (x := (nI kind)) rfl rfl ?_
              refine zp_bipush (v := (nI 8)) rfl (by decide +kernel) ?_
              refine zp_icmpN_ne (tgt := 75) rfl rfl (by omega) (by omega) (fun b68 => ?_) (fun b68 => ?_)
              · refine zp_iconst (v := (nI 0)) rfl (by decide +kernel) ?_
                refine zp_zret rfl rfl (by decide) ?_
                have hv : v_cnt pl f = false := by
                  unfold v_cnt
                  (repeat' split) <;> first | (exfalso; omega) | (simp; omega)
                rw [hv] at hq
                exact hq
              · refine zp_iconst (v := (nI 1)) rfl (by decide +kernel) ?_
                refine zp_goto (tgt := 76) rfl rfl ?_
                refine zp_zret rfl rfl (by decide) ?_
                have hv : v_cnt pl f = true := by
                  unfold v_cnt
                  (repeat' split) <;> first | (exfalso; omega) | (simp; omega)
                rw [hv] at hq
                exact hq
    · refine zp_aload_n (x := 171) rfl rfl ?_
      refine zq_geti hS rfl (by first | assumption | exact ⟨by decide, rfl⟩) rfl ?_
      rw [p2]
      refine zp_aload_n (x := 171) rfl rfl ?_
      refine zq_geti hS rfl (by first | assumption | exact ⟨by decide, rfl⟩) rfl ?_
      rw [p4]
      refine zp_icmpN_ne (tgt := 43) rfl rfl (by omega) (by omega) (fun b36 => ?_) (fun b36 => ?_)
      · refine zp_iconst (v := (nI 0)) rfl (by decide +kernel) ?_
        refine zp_zret rfl rfl (by decide) ?_
        have hv : v_cnt pl f = false := by
          unfold v_cnt
          (repeat' split) <;> first | (exfalso; omega) | (simp; omega)
        rw [hv] at hq
        exact hq
      · refine zp_iconst (v := (nI 1)) rfl (by decide +kernel) ?_
        refine zp_goto (tgt := 44) rfl rfl ?_
        refine zp_zret rfl rfl (by decide) ?_
        have hv : v_cnt pl f = true := by
          unfold v_cnt
          (repeat' split) <;> first | (exfalso; omega) | (simp; omega)
        rw [hv] at hq
        exact hq
  · refine zp_aload_n (x := 171) rfl rfl ?_
    refine zq_geti hS rfl (by first | assumption | exact ⟨by decide, rfl⟩) rfl ?_
    rw [p1]
    refine zp_aload_n (x := 171) rfl rfl ?_
    refine zq_geti hS rfl (by first | assumption | exact ⟨by decide, rfl⟩) rfl ?_
    rw [p3]
    refine zp_icmpN_ne (tgt := 20) rfl rfl (by omega) (by omega) (fun b13 => ?_) (fun b13 => ?_)
    · refine zp_iconst (v := (nI 0)) rfl (by decide +kernel) ?_
      refine zp_zret rfl rfl (by decide) ?_
      have hv : v_cnt pl f = false := by
        unfold v_cnt
        (repeat' split) <;> first | (exfalso; omega) | (simp; omega)
      rw [hv] at hq
      exact hq
    · refine zp_iconst (v := (nI 1)) rfl (by decide +kernel) ?_
      refine zp_goto (tgt := 21) rfl rfl ?_
      refine zp_zret rfl rfl (by decide) ?_
      have hv : v_cnt pl f = true := by
        unfold v_cnt
        (repeat' split) <;> first | (exfalso; omega) | (simp; omega)
      rw [hv] at hq
      exact hq
theorem s_Mod_nextLetter {n : Nat} (hn : n < 128) (hq : Q (.inl (some (.int (nI (v_nx n))))) h) : zp_wm X y_Mod_nextLetter [.int (nI n)] h Q := by
  show zp_wp X y_Mod_nextLetter 0 [.int (nI n)] [] h Q
  unfold v_nx at hq
  refine zp_iload_n (x := (nI n)) rfl rfl ?_
  refine zp_bipush (v := (nI 90)) rfl (by decide +kernel) ?_
  refine zp_icmpN_ne (tgt := 11) rfl rfl (by omega) (by omega) (fun b3 => ?_) (fun b3 => ?_)
  · refine zp_iload_n (x := (nI n)) rfl rfl ?_
    refine zp_bipush (v := (nI 122)) rfl (by decide +kernel) ?_
    refine zp_icmpN_ne (tgt := 22) rfl rfl (by omega) (by omega) (fun b14 => ?_) (fun b14 => ?_)
    · refine zp_iload_n (x := (nI n)) rfl rfl ?_
      refine zp_iconst (v := (nI 1)) rfl (by decide +kernel) ?_
      refine zp_iaddN rfl ?_
      refine zp_iret rfl rfl ?_
      first | (rw [if_pos b3] at hq; exact hq) | (rw [if_neg b3, if_pos b14] at hq; exact hq) | (rw [if_neg b3, if_neg b14] at hq; exact hq)
    · refine zp_bipush (v := (nI 97)) rfl (by decide +kernel) ?_
      refine zp_goto (tgt := 25) rfl rfl ?_
      refine zp_iret rfl rfl ?_
      first | (rw [if_pos b3] at hq; exact hq) | (rw [if_neg b3, if_pos b14] at hq; exact hq) | (rw [if_neg b3, if_neg b14] at hq; exact hq)
  · refine zp_bipush (v := (nI 65)) rfl (by decide +kernel) ?_
    refine zp_goto (tgt := 25) rfl rfl ?_
    refine zp_iret rfl rfl ?_
    first | (rw [if_pos b3] at hq; exact hq) | (rw [if_neg b3, if_pos b14] at hq; exact hq) | (rw [if_neg b3, if_neg b14] at hq; exact hq)
theorem zr_p.post {V' : zv} {ad : Option Nat} {r : Nat} (a : zr_p pl h) (b : zr_post V' ad r h h1) : zr_p pl h1 := by
  obtain ⟨p1, p2, p3, p4⟩ := a
  exact ⟨(b.2.2.2.2 21 (by decide)).trans p1, (b.2.2.2.2 22 (by decide)).trans p2, (b.2.2.2.2 23 (by decide)).trans p3, (b.2.2.2.2 24 (by decide)).trans p4⟩
theorem s_Mod_mends {f kind : Nat} (hS : zs_H h) (hk : pl.1 = kind) (hk2 : kind = 2 ∨ kind = 4 ∨ kind = 6) (hl : zc_leg pl) (hW : zv_W TG) (hV : zv_R TG (ci h 186)) (hp : zr_p pl h) (had : cf h 171 10 = -1) (hq : ∀ h', zr_G [186] h h' → zv_R (v_mend TG f 25 pl).2.1 (ci h' 186) → cf h' 171 10 = zf_o (v_mend TG f 25 pl).2.2 → Q (.inl (some (.int (nI (v_mend TG f 25 pl).1)))) h') : zp_wm X y_Mod_mends [.ref 171, .int (nI kind), .int (nI f)] h Q := by
  show zp_wp X y_Mod_mends 0 [.ref 171, .int (nI kind), .int (nI f), zm_mk, zm_mk] [] h Q
  have lp : ∀ k j pl' h' x, j + k = 25 → pl'.1 = kind → zr_G [186] h h' → zv_R TG (ci h' 186) → zr_p pl' h' → cf h' 171 10 = -1 → zc_leg pl' → v_mend TG f 25 pl = v_mend TG f k pl' → zp_wp X y_Mod_mends 2 [.ref 171, .int (nI kind), .int (nI f), .int (nI j), x] [] h' Q := by
    intro k
    induction k with
    | zero =>
      intro j pl' h' x hj hk hG hV hp had hl he
      refine zp_iload_n (x := (nI j)) rfl rfl ?_
      refine zp_bipush (v := (nI 25)) rfl (by decide +kernel) ?_
      refine zp_icmpN_ge (tgt := 134) rfl rfl (by omega) (by omega) (fun b5 => ?_) (fun b5 => ?_)
      · refine zp_iload_n (x := (nI f)) rfl rfl ?_
        refine zp_iret rfl rfl ?_
        rw [he] at hq; exact hq _ hG hV had
      · omega
    | succ k ih =>
      intro j pl' h' x hj hk hG hV hp had hl he
      obtain ⟨kd, a, m, b, n⟩ := pl'
      dsimp only at hk
      subst hk
      have hS := hG.1.1
      have ho := hl.ok
      obtain ⟨o1, o2, o3, o4, o5⟩ := ho
      obtain ⟨p1, p2, p3, p4⟩ := id hp
      have hl2 := v_adv_leg hl
      have ho2 := hl2.ok
      dsimp only at o1 o2 o3 o4 o5 p1 p2 p3 p4
      have st : ∀ (H : zm_H) (h2 : zm_H) (y : Value), zr_G [186] h H → zr_p (v_adv (kd, a, m, b, n)) H → zr_post (v_mk TG (v_adv (kd, a, m, b, n))).2.1 (v_mk TG (v_adv (kd, a, m, b, n))).2.2 186 H h2 → zp_wp X y_Mod_mends 105 [.ref 171, .int (nI kd), .int (nI f), .int (nI j), .int (nI (v_mk TG (v_adv (kd, a, m, b, n))).1)] [] h2 Q := by
        intro H h2 y hG1 hp1 hp2
        have m9 : (v_mk TG (v_adv (kd, a, m, b, n))).1 < 10 := v_make_9
        have hG2 : zr_G [186] h h2 := hG1.tr (zr_G.mk (T := [186]) hp2 (by decide)) (fun _ q => q)
        have hS := hp2.1
        have hs : v_mend TG f (k + 1) (kd, a, m, b, n) = if (v_mk TG (v_adv (kd, a, m, b, n))).1 = 0 then (100, (v_mk TG (v_adv (kd, a, m, b, n))).2.1, (v_mk TG (v_adv (kd, a, m, b, n))).2.2) else if ¬ (v_mk TG (v_adv (kd, a, m, b, n))).1 = 1 ∧ ¬ (v_mk TG (v_adv (kd, a, m, b, n))).1 = 5 then ((v_mk TG (v_adv (kd, a, m, b, n))).1, TG, none) else v_mend TG f k (v_adv (kd, a, m, b, n)) := rfl
        rw [hs] at he
        refine zp_iload (x := (nI ((v_mk TG (v_adv (kd, a, m, b, n))).1))) rfl rfl ?_
        refine zp_ifN_ne (tgt := 113) rfl rfl (by omega) (fun b107 => ?_) (fun b107 => ?_)
        · obtain ⟨z1, z2⟩ := mk_fail b107
          rw [if_neg b107] at he
          have hV2 := hp2.2.2.1
          have ha2 := hp2.2.2.2.1
          rw [z1] at hV2
          rw [z2] at ha2
          refine zp_iload (x := (nI ((v_mk TG (v_adv (kd, a, m, b, n))).1))) rfl rfl ?_
          refine zp_iconst (v := (nI 1)) rfl (by decide +kernel) ?_
          refine zp_icmpN_eq (tgt := 128) rfl rfl (by omega) (by omega) (fun b116 => ?_) (fun b116 => ?_)
          · refine zp_iincN_3 rfl rfl ?_
            refine zp_goto (tgt := 2) rfl rfl ?_
            exact ih (j + 1) _ _ _ (by omega) rfl hG2 hV2 (hp1.post hp2) ha2 hl2 (by rw [he, if_neg (by omega)])
          · refine zp_iload (x := (nI ((v_mk TG (v_adv (kd, a, m, b, n))).1))) rfl rfl ?_
            refine zp_iconst (v := (nI 5)) rfl (by decide +kernel) ?_
            refine zp_icmpN_eq (tgt := 128) rfl rfl (by omega) (by omega) (fun b122 => ?_) (fun b122 => ?_)
            · refine zp_iincN_3 rfl rfl ?_
              refine zp_goto (tgt := 2) rfl rfl ?_
              exact ih (j + 1) _ _ _ (by omega) rfl hG2 hV2 (hp1.post hp2) ha2 hl2 (by rw [he, if_neg (by omega)])
            · refine zp_iload (x := (nI ((v_mk TG (v_adv (kd, a, m, b, n))).1))) rfl rfl ?_
              refine zp_iret rfl rfl ?_
              rw [he, if_pos ⟨b116, b122⟩] at hq; exact hq _ hG2 hV2 ha2
        · refine zp_bipush (v := (nI 100)) rfl (by decide +kernel) ?_
          refine zp_iret rfl rfl ?_
          rw [he, if_pos b107] at hq; exact hq _ hG2 hp2.2.2.1 hp2.2.2.2.1
      rcases hk2 with e | e | e
      · subst e
        refine zp_iload_n (x := (nI j)) rfl rfl ?_
        refine zp_bipush (v := (nI 25)) rfl (by decide +kernel) ?_
        refine zp_icmpN_ge (tgt := 134) rfl rfl (by omega) (by omega) (fun b5 => ?_) (fun b5 => ?_)
        · omega
        · refine zp_aload_n (x := 171) rfl rfl ?_
          refine zp_iload_n (x := (nI 2)) rfl rfl ?_
          refine zp_iconst (v := (nI 2)) rfl (by decide +kernel) ?_
          refine zp_icF (tgt := 24) rfl rfl (by decide +kernel) ?_
          refine zp_aload_n (x := 171) rfl rfl ?_
          refine zq_geti hS rfl (by first | assumption | exact ⟨by decide, rfl⟩) rfl ?_
          rw [p3]
          refine zp_call rfl rfl (s_Mod_nextLetter (by omega) ?_)
          show zp_wp X y_Mod_mends 21 [.ref 171, .int (nI 2), .int (nI f), .int (nI j), x] [.int (nI (v_nx b)), .ref 171] h' Q
          refine zp_goto (tgt := 28) rfl rfl ?_
          refine zq_put hS rfl (by first | assumption | exact ⟨by decide, rfl⟩) rfl rfl (fun hS28 => ?_)
          have hS := hS28
          refine zp_aload_n (x := 171) rfl rfl ?_
          refine zp_iload_n (x := (nI 2)) rfl rfl ?_
          refine zp_iconst (v := (nI 4)) rfl (by decide +kernel) ?_
          refine zp_icT (tgt := 47) rfl rfl (by decide +kernel) ?_
          refine zp_aload_n (x := 171) rfl rfl ?_
          refine zq_geti hS rfl (by first | assumption | exact ⟨by decide, rfl⟩) rfl ?_
          rw [zf_nj (by decide)]
          rw [p2]
          refine zq_put hS rfl (by first | assumption | exact ⟨by decide, rfl⟩) rfl rfl (fun hS51 => ?_)
          have hS := hS51
          refine zp_aload_n (x := 171) rfl rfl ?_
          refine zp_iload_n (x := (nI 2)) rfl rfl ?_
          refine zp_bipush (v := (nI 6)) rfl (by decide +kernel) ?_
          refine zp_icT (tgt := 71) rfl rfl (by decide +kernel) ?_
          refine zp_aload_n (x := 171) rfl rfl ?_
          refine zq_geti hS rfl (by first | assumption | exact ⟨by decide, rfl⟩) rfl ?_
          rw [zf_nj (by decide), zf_nj (by decide)]
          rw [p4]
          refine zq_put hS rfl (by first | assumption | exact ⟨by decide, rfl⟩) rfl rfl (fun hS75 => ?_)
          have hS := hS75
          refine zp_aload_n (x := 171) rfl rfl ?_
          refine zp_aload_n (x := 171) rfl rfl ?_
          refine zq_getr (k9 := 186) hS rfl (by first | assumption | exact ⟨by decide, rfl⟩) rfl ?_
          refine zp_iload_n (x := (nI 2)) rfl rfl ?_
          refine zp_aload_n (x := 171) rfl rfl ?_
          refine zq_geti hS rfl (by first | assumption | exact ⟨by decide, rfl⟩) rfl ?_
          rw [zf_nj (by decide), zf_nj (by decide), zf_nj (by decide)]
          rw [p1]
          refine zp_aload_n (x := 171) rfl rfl ?_
          refine zq_geti hS rfl (by first | assumption | exact ⟨by decide, rfl⟩) rfl ?_
          rw [zf_nj (by decide), zf_at9 hS51 (by first | assumption | exact ⟨by decide, rfl⟩) rfl]
          refine zp_aload_n (x := 171) rfl rfl ?_
          refine zq_geti hS rfl (by first | assumption | exact ⟨by decide, rfl⟩) rfl ?_
          rw [zf_nj (by decide), zf_nj (by decide), zf_at9 hS28 (by first | assumption | exact ⟨by decide, rfl⟩) rfl]
          refine zp_aload_n (x := 171) rfl rfl ?_
          refine zq_geti hS rfl (by first | assumption | exact ⟨by decide, rfl⟩) rfl ?_
          rw [zf_at9 hS75 (by first | assumption | exact ⟨by decide, rfl⟩) rfl]
          refine zq_virt hS rfl rfl (by first | assumption | exact ⟨by decide, rfl⟩) rfl (s_Mod_makes (V := TG) hS ⟨by decide, rfl⟩ (by rw [zf_ci (by decide), zf_ci (by decide), zf_ci (by decide)]; exact hV) hW.B ho2.1 ho2.2.1 ho2.2.2.1 ho2.2.2.2.1 ho2.2.2.2.2 (fun h2 hp2 => ?_))
          have hG1 := (((hG.f (by decide) hS28).f (by decide) hS51).f (by decide) hS75)
          have hp1 : zr_p (v_adv (2, a, m, b, n)) (zf_put (zf_put (zf_put h' 171 23 (nI (v_nx b))) 171 22 (nI m)) 171 24 (nI n)) := ⟨(by rw [zf_nj (by decide), zf_nj (by decide), zf_nj (by decide)]; exact p1), (by rw [zf_nj (by decide)]; exact zf_at9 hS51 zs_M rfl), (by rw [zf_nj (by decide), zf_nj (by decide)]; exact zf_at9 hS28 zs_M rfl), (by exact zf_at9 hS75 zs_M rfl)⟩
          show zp_wp X y_Mod_mends 103 [.ref 171, .int (nI 2), .int (nI f), .int (nI j), x] [.int (nI ((v_mk TG (v_adv (2, a, m, b, n))).1))] h2 Q
          refine zp_istore_4 rfl rfl ?_
          exact st _ h2 zm_mk hG1 hp1 hp2
      · subst e
        refine zp_iload_n (x := (nI j)) rfl rfl ?_
        refine zp_bipush (v := (nI 25)) rfl (by decide +kernel) ?_
        refine zp_icmpN_ge (tgt := 134) rfl rfl (by omega) (by omega) (fun b5 => ?_) (fun b5 => ?_)
        · omega
        · refine zp_aload_n (x := 171) rfl rfl ?_
          refine zp_iload_n (x := (nI 4)) rfl rfl ?_
          refine zp_iconst (v := (nI 2)) rfl (by decide +kernel) ?_
          refine zp_icT (tgt := 24) rfl rfl (by decide +kernel) ?_
          refine zp_aload_n (x := 171) rfl rfl ?_
          refine zq_geti hS rfl (by first | assumption | exact ⟨by decide, rfl⟩) rfl ?_
          rw [p3]
          refine zq_put hS rfl (by first | assumption | exact ⟨by decide, rfl⟩) rfl rfl (fun hS28 => ?_)
          have hS := hS28
          refine zp_aload_n (x := 171) rfl rfl ?_
          refine zp_iload_n (x := (nI 4)) rfl rfl ?_
          refine zp_iconst (v := (nI 4)) rfl (by decide +kernel) ?_
          refine zp_icF (tgt := 47) rfl rfl (by decide +kernel) ?_
          refine zp_aload_n (x := 171) rfl rfl ?_
          refine zq_geti hS rfl (by first | assumption | exact ⟨by decide, rfl⟩) rfl ?_
          rw [zf_nj (by decide)]
          rw [p2]
          refine zp_call rfl rfl (s_Mod_nextLetter (by omega) ?_)
          show zp_wp X y_Mod_mends 44 [.ref 171, .int (nI 4), .int (nI f), .int (nI j), x] [.int (nI (v_nx m)), .ref 171] (zf_put h' 171 23 (nI b)) Q
          refine zp_goto (tgt := 51) rfl rfl ?_
          refine zq_put hS rfl (by first | assumption | exact ⟨by decide, rfl⟩) rfl rfl (fun hS51 => ?_)
          have hS := hS51
          refine zp_aload_n (x := 171) rfl rfl ?_
          refine zp_iload_n (x := (nI 4)) rfl rfl ?_
          refine zp_bipush (v := (nI 6)) rfl (by decide +kernel) ?_
          refine zp_icT (tgt := 71) rfl rfl (by decide +kernel) ?_
          refine zp_aload_n (x := 171) rfl rfl ?_
          refine zq_geti hS rfl (by first | assumption | exact ⟨by decide, rfl⟩) rfl ?_
          rw [zf_nj (by decide), zf_nj (by decide)]
          rw [p4]
          refine zq_put hS rfl (by first | assumption | exact ⟨by decide, rfl⟩) rfl rfl (fun hS75 => ?_)
          have hS := hS75
          refine zp_aload_n (x := 171) rfl rfl ?_
          refine zp_aload_n (x := 171) rfl rfl ?_
          refine zq_getr (k9 := 186) hS rfl (by first | assumption | exact ⟨by decide, rfl⟩) rfl ?_
          refine zp_iload_n (x := (nI 4)) rfl rfl ?_
          refine zp_aload_n (x := 171) rfl rfl ?_
          refine zq_geti hS rfl (by first | assumption | exact ⟨by decide, rfl⟩) rfl ?_
          rw [zf_nj (by decide), zf_nj (by decide), zf_nj (by decide)]
          rw [p1]
          refine zp_aload_n (x := 171) rfl rfl ?_
          refine zq_geti hS rfl (by first | assumption | exact ⟨by decide, rfl⟩) rfl ?_
          rw [zf_nj (by decide), zf_at9 hS51 (by first | assumption | exact ⟨by decide, rfl⟩) rfl]
          refine zp_aload_n (x := 171) rfl rfl ?_
          refine zq_geti hS rfl (by first | assumption | exact ⟨by decide, rfl⟩) rfl ?_
          rw [zf_nj (by decide), zf_nj (by decide), zf_at9 hS28 (by first | assumption | exact ⟨by decide, rfl⟩) rfl]
          refine zp_aload_n (x := 171) rfl rfl ?_
          refine zq_geti hS rfl (by first | assumption | exact ⟨by decide, rfl⟩) rfl ?_
          rw [zf_at9 hS75 (by first | assumption | exact ⟨by decide, rfl⟩) rfl]
          refine zq_virt hS rfl rfl (by first | assumption | exact ⟨by decide, rfl⟩) rfl (s_Mod_makes (V := TG) hS ⟨by decide, rfl⟩ (by rw [zf_ci (by decide), zf_ci (by decide), zf_ci (by decide)]; exact hV) hW.B ho2.1 ho2.2.1 ho2.2.2.1 ho2.2.2.2.1 ho2.2.2.2.2 (fun h2 hp2 => ?_))
          have hG1 := (((hG.f (by decide) hS28).f (by decide) hS51).f (by decide) hS75)
          have hp1 : zr_p (v_adv (4, a, m, b, n)) (zf_put (zf_put (zf_put h' 171 23 (nI b)) 171 22 (nI (v_nx m))) 171 24 (nI n)) := ⟨(by rw [zf_nj (by decide), zf_nj (by decide), zf_nj (by decide)]; exact p1), (by rw [zf_nj (by decide)]; exact zf_at9 hS51 zs_M rfl), (by rw [zf_nj (by decide), zf_nj (by decide)]; exact zf_at9 hS28 zs_M rfl), (by exact zf_at9 hS75 zs_M rfl)⟩
          show zp_wp X y_Mod_mends 103 [.ref 171, .int (nI 4), .int (nI f), .int (nI j), x] [.int (nI ((v_mk TG (v_adv (4, a, m, b, n))).1))] h2 Q
          refine zp_istore_4 rfl rfl ?_
          exact st _ h2 zm_mk hG1 hp1 hp2
      · subst e
        refine zp_iload_n (x := (nI j)) rfl rfl ?_
        refine zp_bipush (v := (nI 25)) rfl (by decide +kernel) ?_
        refine zp_icmpN_ge (tgt := 134) rfl rfl (by omega) (by omega) (fun b5 => ?_) (fun b5 => ?_)
        · omega
        · refine zp_aload_n (x := 171) rfl rfl ?_
          refine zp_iload_n (x := (nI 6)) rfl rfl ?_
          refine zp_iconst (v := (nI 2)) rfl (by decide +kernel) ?_
          refine zp_icT (tgt := 24) rfl rfl (by decide +kernel) ?_
          refine zp_aload_n (x := 171) rfl rfl ?_
          refine zq_geti hS rfl (by first | assumption | exact ⟨by decide, rfl⟩) rfl ?_
          rw [p3]
          refine zq_put hS rfl (by first | assumption | exact ⟨by decide, rfl⟩) rfl rfl (fun hS28 => ?_)
          have hS := hS28
          refine zp_aload_n (x := 171) rfl rfl ?_
          refine zp_iload_n (x := (nI 6)) rfl rfl ?_
          refine zp_iconst (v := (nI 4)) rfl (by decide +kernel) ?_
          refine zp_icT (tgt := 47) rfl rfl (by decide +kernel) ?_
          refine zp_aload_n (x := 171) rfl rfl ?_
          refine zq_geti hS rfl (by first | assumption | exact ⟨by decide, rfl⟩) rfl ?_
          rw [zf_nj (by decide)]
          rw [p2]
          refine zq_put hS rfl (by first | assumption | exact ⟨by decide, rfl⟩) rfl rfl (fun hS51 => ?_)
          have hS := hS51
          refine zp_aload_n (x := 171) rfl rfl ?_
          refine zp_iload_n (x := (nI 6)) rfl rfl ?_
          refine zp_bipush (v := (nI 6)) rfl (by decide +kernel) ?_
          refine zp_icF (tgt := 71) rfl rfl (by decide +kernel) ?_
          refine zp_aload_n (x := 171) rfl rfl ?_
          refine zq_geti hS rfl (by first | assumption | exact ⟨by decide, rfl⟩) rfl ?_
          rw [zf_nj (by decide), zf_nj (by decide)]
          rw [p4]
          refine zp_call rfl rfl (s_Mod_nextLetter (by omega) ?_)
          show zp_wp X y_Mod_mends 68 [.ref 171, .int (nI 6), .int (nI f), .int (nI j), x] [.int (nI (v_nx n)), .ref 171] (zf_put (zf_put h' 171 23 (nI b)) 171 22 (nI m)) Q
          refine zp_goto (tgt := 75) rfl rfl ?_
          refine zq_put hS rfl (by first | assumption | exact ⟨by decide, rfl⟩) rfl rfl (fun hS75 => ?_)
          have hS := hS75
          refine zp_aload_n (x := 171) rfl rfl ?_
          refine zp_aload_n (x := 171) rfl rfl ?_
          refine zq_getr (k9 := 186) hS rfl (by first | assumption | exact ⟨by decide, rfl⟩) rfl ?_
          refine zp_iload_n (x := (nI 6)) rfl rfl ?_
          refine zp_aload_n (x := 171) rfl rfl ?_
          refine zq_geti hS rfl (by first | assumption | exact ⟨by decide, rfl⟩) rfl ?_
          rw [zf_nj (by decide), zf_nj (by decide), zf_nj (by decide)]
          rw [p1]
          refine zp_aload_n (x := 171) rfl rfl ?_
          refine zq_geti hS rfl (by first | assumption | exact ⟨by decide, rfl⟩) rfl ?_
          rw [zf_nj (by decide), zf_at9 hS51 (by first | assumption | exact ⟨by decide, rfl⟩) rfl]
          refine zp_aload_n (x := 171) rfl rfl ?_
          refine zq_geti hS rfl (by first | assumption | exact ⟨by decide, rfl⟩) rfl ?_
          rw [zf_nj (by decide), zf_nj (by decide), zf_at9 hS28 (by first | assumption | exact ⟨by decide, rfl⟩) rfl]
          refine zp_aload_n (x := 171) rfl rfl ?_
          refine zq_geti hS rfl (by first | assumption | exact ⟨by decide, rfl⟩) rfl ?_
          rw [zf_at9 hS75 (by first | assumption | exact ⟨by decide, rfl⟩) rfl]
          refine zq_virt hS rfl rfl (by first | assumption | exact ⟨by decide, rfl⟩) rfl (s_Mod_makes (V := TG) hS ⟨by decide, rfl⟩ (by rw [zf_ci (by decide), zf_ci (by decide), zf_ci (by decide)]; exact hV) hW.B ho2.1 ho2.2.1 ho2.2.2.1 ho2.2.2.2.1 ho2.2.2.2.2 (fun h2 hp2 => ?_))
          have hG1 := (((hG.f (by decide) hS28).f (by decide) hS51).f (by decide) hS75)
          have hp1 : zr_p (v_adv (6, a, m, b, n)) (zf_put (zf_put (zf_put h' 171 23 (nI b)) 171 22 (nI m)) 171 24 (nI (v_nx n))) := ⟨(by rw [zf_nj (by decide), zf_nj (by decide), zf_nj (by decide)]; exact p1), (by rw [zf_nj (by decide)]; exact zf_at9 hS51 zs_M rfl), (by rw [zf_nj (by decide), zf_nj (by decide)]; exact zf_at9 hS28 zs_M rfl), (by exact zf_at9 hS75 zs_M rfl)⟩
          show zp_wp X y_Mod_mends 103 [.ref 171, .int (nI 6), .int (nI f), .int (nI j), x] [.int (nI ((v_mk TG (v_adv (6, a, m, b, n))).1))] h2 Q
          refine zp_istore_4 rfl rfl ?_
          exact st _ h2 zm_mk hG1 hp1 hp2
  refine zp_iconst (v := (nI 0)) rfl (by decide +kernel) ?_
  refine zp_istore_n_3 rfl rfl ?_
  exact lp 25 0 pl h _ rfl hk (zr_G.rf hS) hV hp had hl rfl
end ZR14
