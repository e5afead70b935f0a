/-! the reference: along a log, changes carried through others, exchanges -/
def zr_c (c : zch) (A : Nat → Int32) : Prop := A 0 = nI c.1 ∧ A 1 = nI c.2.1 ∧ A 2 = nI c.2.2.1 ∧ A 3 = nI c.2.2.2.1 ∧ A 4 = nI c.2.2.2.2
def v_rnC (d : zch) (fr to : Nat) : zch := (d.1, if ¬ d.1 = 0 ∧ d.2.1 = fr then to else d.2.1, d.2.2.1, if (d.1 = 3 ∨ 7 ≤ d.1) ∧ d.2.2.2.1 = fr then to else d.2.2.2.1, d.2.2.2.2)
def v_rnP (d : zch) (a m ta tm : Nat) : zch := (d.1, if 5 ≤ d.1 ∧ d.2.1 = a ∧ d.2.2.1 = m then ta else d.2.1, if 5 ≤ d.1 ∧ d.2.1 = a ∧ d.2.2.1 = m then tm else d.2.2.1, if 8 ≤ d.1 ∧ d.2.2.2.1 = a ∧ d.2.2.2.2 = m then ta else d.2.2.2.1, if 8 ≤ d.1 ∧ d.2.2.2.1 = a ∧ d.2.2.2.2 = m then tm else d.2.2.2.2)
def v_car (d c : zch) (bk : Bool) : zch :=
  if c.1 = 2 then v_rnC d (cond bk c.2.2.2.1 c.2.1) (cond bk c.2.1 c.2.2.2.1)
  else if c.1 = 6 then v_rnP d c.2.1 (cond bk c.2.2.2.2 c.2.2.1) c.2.1 (cond bk c.2.2.1 c.2.2.2.2)
  else if c.1 = 7 then v_rnP d (cond bk c.2.2.2.1 c.2.1) c.2.2.1 (cond bk c.2.1 c.2.2.2.1) c.2.2.1
  else d
theorem zc_leg.rnC {d : zch} {fr to : Nat} (hd : zc_leg d) (hf : 65 ≤ fr) (ht : 65 ≤ to ∧ to ≤ 90) : zc_leg (v_rnC d fr to) := by
  obtain ⟨dk, da, dm, db, dn⟩ := d
  obtain ⟨d1, d2, d3, d4, d5⟩ := hd
  dsimp only at *
  refine ⟨d1, ?_, d3, ?_, d5⟩ <;> dsimp only [v_rnC] <;> split <;> omega
theorem zc_leg.rnP {d : zch} {a m ta tm : Nat} (hd : zc_leg d) (ht : 65 ≤ ta ∧ ta ≤ 90) (hm : 97 ≤ tm ∧ tm ≤ 122) : zc_leg (v_rnP d a m ta tm) := by
  obtain ⟨dk, da, dm, db, dn⟩ := d
  obtain ⟨d1, d2, d3, d4, d5⟩ := hd
  dsimp only at *
  refine ⟨d1, ?_, ?_, ?_, ?_⟩ <;> dsimp only [v_rnP] <;> split <;> omega
theorem zc_leg.car {d c : zch} {bk : Bool} (hd : zc_leg d) (hc : zc_leg c) : zc_leg (v_car d c bk) := by
  obtain ⟨c1, c2, c3, c4, c5⟩ := hc
  unfold v_car
  split
  · exact hd.rnC (by cases bk <;> (first | simp only [cond_true, cond_false] | skip) <;> omega) (by cases bk <;> (first | simp only [cond_true, cond_false] | skip) <;> omega)
  · split
    · exact hd.rnP (by cases bk <;> (first | simp only [cond_true, cond_false] | skip) <;> omega) (by cases bk <;> (first | simp only [cond_true, cond_false] | skip) <;> omega)
    · split
      · exact hd.rnP (by cases bk <;> (first | simp only [cond_true, cond_false] | skip) <;> omega) (by cases bk <;> (first | simp only [cond_true, cond_false] | skip) <;> omega)
      · exact hd
theorem zs_I_n {a n m : Nat} (h1 : zs_I a n) (h2 : zs_I a m) : n = m := by
  have h3 := h1.2.symm.trans h2.2
  injection h3 with _ h4
  injection h4
section ZR10
variable {X : zm_X} {h h1 h2 : zm_H} {Q : zm_O → zm_H → Prop} {V W B : zv} {s : zst} {T : List Nat} {r o l d : Nat} {L : Nat → zch} {c : zch}
/-- as zr_F; what a call would throw stays, too -/
def zr_G (T : List Nat) (h h' : zm_H) : Prop := zr_F T h h' ∧ cf h' 171 9 = cf h 171 9
theorem zr_G.rf (hS : zs_H h) : zr_G T h h := ⟨zr_F.rf hS, rfl⟩
theorem zr_G.tr {U : List Nat} (a : zr_G T h h1) (b : zr_G U h1 h2) (hu : ∀ x, x ∈ U → x ∈ T) : zr_G T h h2 := ⟨a.1.tr b.1 hu, b.2.trans a.2⟩
theorem zr_G.cp {q : Nat} (hS : zs_H h2) (he : zh_eq (fun x => x = q) h1 h2) (hq : q ∈ T) (h0 : 171 ≠ q) : zr_G T h1 h2 := ⟨zr_F.cp hS he hq h0, he.gf h0⟩
theorem zr_G.f10 {x : Int32} (hS : zs_H (zf_put h 171 10 x)) : zr_G T h (zf_put h 171 10 x) := ⟨zr_F.f10 hS, zf_nj (by decide)⟩
theorem zr_G.f21 {x : Int32} {i : Nat} (hi : 21 ≤ i) (hS : zs_H (zf_put h 171 i x)) : zr_G T h (zf_put h 171 i x) := ⟨zr_F.f21 hi hS, zf_nj (by omega)⟩
theorem zr_G.zi {a : Nat} {f : Nat → Int32} (ha : a ∈ T) (h0 : 171 ≠ a) (hS : zs_H (zi_put h a f)) : zr_G T h (zi_put h a f) := ⟨zr_F.zi ha h0 hS, zi_cf h0⟩
theorem zr_G.mk {V' : zv} {ad : Option Nat} {r : Nat} (hp : zr_post V' ad r h h1) (hr : r ∈ T) : zr_G T h h1 := ⟨zr_F.mk hp hr, hp.2.2.2.2 9 (by decide)⟩
theorem zr_G.gi (a : zr_G T h h1) {x : Nat} (hx : x ∉ T) (h0 : x ≠ 171) : ci h1 x = ci h x := a.1.gi hx h0
theorem zr_G.gf (a : zr_G T h h1) {j : Nat} (h10 : j ≠ 10) (h21 : j < 21) : cf h1 171 j = cf h 171 j := by
  by_cases e : j = 9
  · subst e; exact a.2
  · exact a.1.2.2 j e h10 h21
theorem s_Mod_goesTo {n : Nat} (hS : zs_H h) (hr : zs_I r 1704) (h4 : r ≠ 174) (hb : zv_R B (ci h 174)) (hW : zv_W B) (hl : zs_I l 150) (hL : zr_L L (ci h l)) (hn : n ≤ 30) (hc : ∀ i, i < n → zc_leg (L i)) (hq : ∀ h', zr_G [r] h h' → zv_R (v_go B L n) (ci h' r) → Q (.inl none) h') : zp_wm X y_Mod_goesTo [.ref 171, .ref r, .ref l, .int (nI n)] h Q := by
  show zp_wp X y_Mod_goesTo 0 [.ref 171, .ref r, .ref l, .int (nI n), zm_mk, zm_mk] [] h Q
  have r1 := zs_I_ne hr zs_M
  have l1 := zs_I_ne hl zs_M
  have lr : l ≠ r := fun e => by subst e; exact absurd (zs_I_n hr hl) (by decide)
  have lp : ∀ k i h' x, i + k = n → zr_G [r] h h' → zv_R (v_go B L i) (ci h' r) → zp_wp X y_Mod_goesTo 11 [.ref 171, .ref r, .ref l, .int (nI n), .int (nI i), x] [] h' Q := by
    intro k
    induction k with
    | zero =>
      intro i h' x hi hF hV
      have hi : i = n := by omega
      subst hi
      refine zp_iload (x := (nI i)) rfl rfl ?_
      refine zp_iload_n (x := (nI i)) rfl rfl ?_
      refine zp_icmpN_ge (tgt := 33) rfl rfl (by omega) (by omega) (fun b14 => ?_) (fun b14 => ?_)
      · refine zp_vret rfl rfl ?_
        exact hq h' hF hV
      · omega
    | succ k ih =>
      intro i h' x hi hF hV
      have hS := hF.1.1
      refine zp_iload (x := (nI i)) rfl rfl ?_
      refine zp_iload_n (x := (nI n)) rfl rfl ?_
      refine zp_icmpN_ge (tgt := 33) rfl rfl (by omega) (by omega) (fun b14 => ?_) (fun b14 => ?_)
      · omega
      · refine zp_aload_n (x := 171) rfl rfl ?_
        refine zp_aload_n (x := r) rfl rfl ?_
        refine zp_aload_n (x := l) rfl rfl ?_
        refine zp_iload (x := (nI i)) rfl rfl ?_
        refine zq_virt hS rfl rfl (by first | assumption | exact ⟨by decide, rfl⟩) rfl (s_Mod_makesOf hS hr hV (hW.go i (fun j hj => hc j (by omega))).B hl (by rw [hF.gi (by simpa using lr) l1]; exact hL) (by omega) (hc i (by omega)).ok (fun h2 hp => ?_))
        show zp_wp X y_Mod_goesTo 25 [.ref 171, .ref r, .ref l, .int (nI n), .int (nI i), x] [.int (nI ((v_mk (v_go B L i) (L i)).1))] h2 Q
        refine zp_istore_5 rfl rfl ?_
        refine zp_iincN_4 rfl rfl ?_
        refine zp_goto (tgt := 11) rfl rfl ?_
        exact ih (i + 1) _ _ (by omega) (hF.tr (zr_G.mk (T := [r]) hp (by simp)) (fun _ q => q)) hp.2.2.1
  refine zp_aload_n (x := 171) rfl rfl ?_
  refine zq_getr (k9 := 174) hS rfl (by first | assumption | exact ⟨by decide, rfl⟩) rfl ?_
  refine zp_aload_n (x := r) rfl rfl ?_
  refine zp_call rfl rfl (s_Mod_copies hS ⟨by decide, rfl⟩ hr (Ne.symm h4) (fun h2 hS2 he hcc => ?_))
  show zp_wp X y_Mod_goesTo 8 [.ref 171, .ref r, .ref l, .int (nI n), zm_mk, zm_mk] [] h2 Q
  refine zp_iconst (v := (nI 0)) rfl (by decide +kernel) ?_
  refine zp_istore_4 rfl rfl ?_
  exact lp n 0 h2 _ (by omega) (zr_G.cp hS2 he (by simp) (Ne.symm r1)) (hb.cp hcc)
def z_undo (s : zst) : Nat × Int32 × zst := if g_n s = 0 then (1, nI 0, s) else (0, nI (g_n s - 1), ((g_b s, v_go (g_b s) (g_L s) (g_n s - 1), g_1 s), (g_L s, g_n s - 1), s.2.2))
theorem s_Mod_undo (hs : zr_S s h) (hB : zr_B s) (hW : zv_W (g_b s)) (hc : ∀ i, i < g_n s → zc_leg (g_L s i)) (hq : ∀ h', zr_D (z_undo s).2.2 (z_undo s).1 h h' → Q (.inl (some (.int (z_undo s).2.1))) h') : zp_wm X y_Mod_undo [.ref 171] h Q := by
  have hS := hs.1
  have hn := hs.2.2.2.1
  have hn30 := hB.2.2.1
  unfold z_undo at hq
  show zp_wp X y_Mod_undo 0 [.ref 171] [] h Q
  by_cases h0 : g_n s = 0
  · rw [if_pos h0] at hq
    refine zp_aload_n (x := 171) rfl rfl ?_
    refine zp_iconst (v := (nI 0)) rfl (by decide +kernel) ?_
    refine zq_put hS rfl (by first | assumption | exact ⟨by decide, rfl⟩) rfl rfl (fun hS2 => ?_)
    have hS := hS2
    refine zp_aload_n (x := 171) rfl rfl ?_
    refine zq_geti hS rfl (by first | assumption | exact ⟨by decide, rfl⟩) rfl ?_
    rw [zf_nj (by decide)]
    rw [hn]
    refine zp_ifN_ne (tgt := 18) rfl rfl (by omega) (fun b9 => ?_) (fun b9 => ?_)
    · omega
    · refine zp_aload_n (x := 171) rfl rfl ?_
      refine zp_iconst (v := (nI 1)) rfl (by decide +kernel) ?_
      refine zq_virt hS rfl rfl (by first | assumption | exact ⟨by decide, rfl⟩) rfl (s_Mod_fails hS (fun hS3 => ?_))
      show zp_wp X y_Mod_undo 17 [.ref 171] [.int (nI 0)] (zf_put (zf_put h 171 9 (nI 0)) 171 9 (nI 1)) Q
      refine zp_iret rfl rfl ?_
      exact hq _ (zr_9 hs hS hS3)
  · rw [if_neg h0] at hq
    refine zp_aload_n (x := 171) rfl rfl ?_
    refine zp_iconst (v := (nI 0)) rfl (by decide +kernel) ?_
    refine zq_put hS rfl (by first | assumption | exact ⟨by decide, rfl⟩) rfl rfl (fun hS2 => ?_)
    have hS := hS2
    refine zp_aload_n (x := 171) rfl rfl ?_
    refine zq_geti hS rfl (by first | assumption | exact ⟨by decide, rfl⟩) rfl ?_
    rw [zf_nj (by decide)]
    rw [hn]
    refine zp_ifN_ne (tgt := 18) rfl rfl (by omega) (fun b9 => ?_) (fun b9 => ?_)
    · refine zp_aload_n (x := 171) rfl rfl ?_
      refine zp_dup_a rfl ?_
      refine zq_geti hS rfl (by first | assumption | exact ⟨by decide, rfl⟩) rfl ?_
      rw [zf_nj (by decide)]
      rw [hn]
      refine zp_iconst (v := (nI 1)) rfl (by decide +kernel) ?_
      refine zp_isubN rfl (by omega) ?_
      refine zq_put hS rfl (by first | assumption | exact ⟨by decide, rfl⟩) rfl rfl (fun hS25 => ?_)
      have hS := hS25
      refine zp_aload_n (x := 171) rfl rfl ?_
      refine zp_aload_n (x := 171) rfl rfl ?_
      refine zq_getr (k9 := 172) hS rfl (by first | assumption | exact ⟨by decide, rfl⟩) rfl ?_
      refine zp_aload_n (x := 171) rfl rfl ?_
      refine zq_getr (k9 := 178) hS rfl (by first | assumption | exact ⟨by decide, rfl⟩) rfl ?_
      refine zp_aload_n (x := 171) rfl rfl ?_
      refine zq_geti hS rfl (by first | assumption | exact ⟨by decide, rfl⟩) rfl ?_
      rw [zf_at9 hS25 (by first | assumption | exact ⟨by decide, rfl⟩) rfl]
      refine zq_virt hS rfl rfl (by first | assumption | exact ⟨by decide, rfl⟩) rfl (s_Mod_goesTo (B := g_b s) (L := g_L s) hS ⟨by decide, rfl⟩ (by decide) (by rw [zf_ci (by decide), zf_ci (by decide)]; exact hs.2.1.2.2) hW ⟨by decide, rfl⟩ (by rw [zf_ci (by decide), zf_ci (by decide)]; exact hs.2.2.1) (by omega) (fun i hi => hc i (by omega)) (fun h2 hF hV => ?_))
      have c8 : cf h2 171 8 = nI (g_n s - 1) := by rw [hF.gf (by decide) (by decide)]; exact zf_at9 hS zs_M rfl
      have c9 : cf h2 171 9 = nI 0 := by rw [hF.2, zf_nj (by decide)]; exact zf_at9 hS2 zs_M rfl
      have g1 : ∀ a, a ≠ 171 → a ∉ [172] → ci h2 a = ci h a := fun a p q => by rw [hF.gi q p, zf_ci p, zf_ci p]
      have hS := hF.1.1
      show zp_wp X y_Mod_undo 44 [.ref 171] [] h2 Q
      refine zp_aload_n (x := 171) rfl rfl ?_
      refine zq_geti hS rfl (by first | assumption | exact ⟨by decide, rfl⟩) rfl ?_
      rw [c8]
      refine zp_iret rfl rfl ?_
      refine hq _ ⟨⟨hF.1.1, ⟨hV, ?_, ?_⟩, ?_, c8, ?_, ?_⟩, ?_, c9⟩
      · rw [g1 _ (by decide) (by decide)]; exact hs.2.1.2.1
      · rw [g1 _ (by decide) (by decide)]; exact hs.2.1.2.2
      · rw [g1 _ (by decide) (by decide)]; exact hs.2.2.1
      · rw [hF.gf (by decide) (by decide), zf_nj (by decide), zf_nj (by decide)]; exact hs.2.2.2.2.1
      · rw [g1 _ (by decide) (by decide)]; exact hs.2.2.2.2.2
      · exact ((zh_eq.rf.zf (by decide)).zf (by decide)).trans (hF.1.big (by decide))
    · omega
theorem s_Mod_hasMember {k : Nat} (hk : k < 2 ^ 31) (hq : Q (.inl (some (.int (zf_b (decide (5 ≤ k)))))) h) : zp_wm X y_Mod_hasMember [.int (nI k)] h Q := by
  show zp_wp X y_Mod_hasMember 0 [.int (nI k)] [] h Q
  refine zp_iload_n (x := (nI k)) rfl rfl ?_
  refine zp_iconst (v := (nI 5)) rfl (by decide +kernel) ?_
  refine zp_icmpN_lt (tgt := 9) rfl rfl (by omega) (by omega) (fun b2 => ?_) (fun b2 => ?_)
  · refine zp_iconst (v := (nI 0)) rfl (by decide +kernel) ?_
    refine zp_zret rfl rfl (by decide) ?_
    first | (rw [decide_eq_true b2] at hq; exact hq) | (rw [decide_eq_false (by omega)] at hq; exact hq)
  · refine zp_iconst (v := (nI 1)) rfl (by decide +kernel) ?_
    refine zp_goto (tgt := 10) rfl rfl ?_
    refine zp_zret rfl rfl (by decide) ?_
    first | (rw [decide_eq_true b2] at hq; exact hq) | (rw [decide_eq_false (by omega)] at hq; exact hq)
theorem zh_one {f : Nat → Int32} (q : zh_eq (fun x => x = d) h h1) : zh_eq (fun x => x = d) h (zi_put h1 d f) := q.zi rfl
theorem s_Mod_renames {fr to : Nat} (hS : zs_H h) (hd : zs_I d 5) (hc : zr_c c (ci h d)) (hk : zc_ok c) (hf : fr < 128) (hq : ∀ h', zs_H h' → zh_eq (fun x => x = d) h h' → zr_c (v_rnC c fr to) (ci h' d) → Q (.inl none) h') : zp_wm X y_Mod_renames [.ref d, .int (nI fr), .int (nI to)] h Q := by
  show zp_wp X y_Mod_renames 0 [.ref d, .int (nI fr), .int (nI to), zm_mk] [] h Q
  obtain ⟨c0, c1, c2, c3, c4⟩ := hc
  obtain ⟨k0, k1, k2, k3, k4⟩ := hk
  have fin : ∀ x y h', zs_H h' → zh_eq (fun x => x = d) h h' → ci h' d = upd (upd (ci h d) 1 (nI x)) 3 (nI y) → v_rnC c fr to = (c.1, x, c.2.2.1, y, c.2.2.2.2) → Q (.inl none) h' := by
    intro x y h' hS' he hA hv
    refine hq h' hS' he ?_
    rw [hv, hA]
    refine ⟨?_, ?_, ?_, ?_, ?_⟩
    · rw [pk_un (by decide), pk_un (by decide)]; exact c0
    · rw [pk_un (by decide), pk_us]
    · rw [pk_un (by decide), pk_un (by decide)]; exact c2
    · rw [pk_us]
    · rw [pk_un (by decide), pk_un (by decide)]; exact c4
  refine zp_aload_n (x := d) rfl rfl ?_
  refine zp_iconst (v := (nI 0)) rfl (by decide +kernel) ?_
  refine zq_iald hS rfl (by first | assumption | exact ⟨by decide, rfl⟩) (by omega) (by decide) ?_
  rw [c0]
  refine zp_istore_n_3 rfl rfl ?_
  refine zp_aload_n (x := d) rfl rfl ?_
  refine zp_iconst (v := (nI 1)) rfl (by decide +kernel) ?_
  refine zp_iload_n (x := (nI c.1)) rfl rfl ?_
  refine zp_ifN_eq (tgt := 21) rfl rfl (by omega) (fun b7 => ?_) (fun b7 => ?_)
  · refine zp_aload_n (x := d) rfl rfl ?_
    refine zp_iconst (v := (nI 1)) rfl (by decide +kernel) ?_
    refine zq_iald hS rfl (by first | assumption | exact ⟨by decide, rfl⟩) (by omega) (by decide) ?_
    rw [c1]
    refine zq_iast hS rfl (by first | assumption | exact ⟨by decide, rfl⟩) (by omega) (by decide) (fun hS24 => ?_)
    have hS := hS24
    refine zp_aload_n (x := d) rfl rfl ?_
    refine zp_iconst (v := (nI 3)) rfl (by decide +kernel) ?_
    refine zp_iload_n (x := (nI c.1)) rfl rfl ?_
    refine zp_iconst (v := (nI 3)) rfl (by decide +kernel) ?_
    refine zp_icmpN_eq (tgt := 38) rfl rfl (by omega) (by omega) (fun b29 => ?_) (fun b29 => ?_)
    · refine zp_aload_n (x := d) rfl rfl ?_
      refine zp_iconst (v := (nI 3)) rfl (by decide +kernel) ?_
      refine zq_iald hS rfl (by first | assumption | exact ⟨by decide, rfl⟩) (by omega) (by decide) ?_
      rw [zi_at, pk_un (by decide), c3]
      refine zp_iload_n (x := (nI fr)) rfl rfl ?_
      refine zp_icmpN_ne (tgt := 49) rfl rfl (by omega) (by omega) (fun b42 => ?_) (fun b42 => ?_)
      · refine zp_aload_n (x := d) rfl rfl ?_
        refine zp_iconst (v := (nI 3)) rfl (by decide +kernel) ?_
        refine zq_iald hS rfl (by first | assumption | exact ⟨by decide, rfl⟩) (by omega) (by decide) ?_
        rw [zi_at, pk_un (by decide), c3]
        refine zq_iast hS rfl (by first | assumption | exact ⟨by decide, rfl⟩) (by omega) (by decide) (fun hS52 => ?_)
        have hS := hS52
        refine zp_vret rfl rfl ?_
        refine fin _ _ _ hS (zh_one (zh_one zh_eq.rf)) (by rw [zi_at, zi_at]) ?_
        unfold v_rnC
        refine Prod.ext rfl (Prod.ext ?_ (Prod.ext rfl (Prod.ext ?_ rfl))) <;> (dsimp only; split <;> first | rfl | omega)
      · refine zp_iload_n (x := (nI to)) rfl rfl ?_
        refine zp_goto (tgt := 52) rfl rfl ?_
        refine zq_iast hS rfl (by first | assumption | exact ⟨by decide, rfl⟩) (by omega) (by decide) (fun hS52 => ?_)
        have hS := hS52
        refine zp_vret rfl rfl ?_
        refine fin _ _ _ hS (zh_one (zh_one zh_eq.rf)) (by rw [zi_at, zi_at]) ?_
        unfold v_rnC
        refine Prod.ext rfl (Prod.ext ?_ (Prod.ext rfl (Prod.ext ?_ rfl))) <;> (dsimp only; split <;> first | rfl | omega)
    · refine zp_iload_n (x := (nI c.1)) rfl rfl ?_
      refine zp_bipush (v := (nI 7)) rfl (by decide +kernel) ?_
      refine zp_icmpN_lt (tgt := 49) rfl rfl (by omega) (by omega) (fun b35 => ?_) (fun b35 => ?_)
      · refine zp_aload_n (x := d) rfl rfl ?_
        refine zp_iconst (v := (nI 3)) rfl (by decide +kernel) ?_
        refine zq_iald hS rfl (by first | assumption | exact ⟨by decide, rfl⟩) (by omega) (by decide) ?_
        rw [zi_at, pk_un (by decide), c3]
        refine zq_iast hS rfl (by first | assumption | exact ⟨by decide, rfl⟩) (by omega) (by decide) (fun hS52 => ?_)
        have hS := hS52
        refine zp_vret rfl rfl ?_
        refine fin _ _ _ hS (zh_one (zh_one zh_eq.rf)) (by rw [zi_at, zi_at]) ?_
        unfold v_rnC
        refine Prod.ext rfl (Prod.ext ?_ (Prod.ext rfl (Prod.ext ?_ rfl))) <;> (dsimp only; split <;> first | rfl | omega)
      · refine zp_aload_n (x := d) rfl rfl ?_
        refine zp_iconst (v := (nI 3)) rfl (by decide +kernel) ?_
        refine zq_iald hS rfl (by first | assumption | exact ⟨by decide, rfl⟩) (by omega) (by decide) ?_
        rw [zi_at, pk_un (by decide), c3]
        refine zp_iload_n (x := (nI fr)) rfl rfl ?_
        refine zp_icmpN_ne (tgt := 49) rfl rfl (by omega) (by omega) (fun b42 => ?_) (fun b42 => ?_)
        · refine zp_aload_n (x := d) rfl rfl ?_
          refine zp_iconst (v := (nI 3)) rfl (by decide +kernel) ?_
          refine zq_iald hS rfl (by first | assumption | exact ⟨by decide, rfl⟩) (by omega) (by decide) ?_
          rw [zi_at, pk_un (by decide), c3]
          refine zq_iast hS rfl (by first | assumption | exact ⟨by decide, rfl⟩) (by omega) (by decide) (fun hS52 => ?_)
          have hS := hS52
          refine zp_vret rfl rfl ?_
          refine fin _ _ _ hS (zh_one (zh_one zh_eq.rf)) (by rw [zi_at, zi_at]) ?_
          unfold v_rnC
          refine Prod.ext rfl (Prod.ext ?_ (Prod.ext rfl (Prod.ext ?_ rfl))) <;> (dsimp only; split <;> first | rfl | omega)
        · refine zp_iload_n (x := (nI to)) rfl rfl ?_
          refine zp_goto (tgt := 52) rfl rfl ?_
          refine zq_iast hS rfl (by first | assumption | exact ⟨by decide, rfl⟩) (by omega) (by decide) (fun hS52 => ?_)
          have hS := hS52
          refine zp_vret rfl rfl ?_
          refine fin _ _ _ hS (zh_one (zh_one zh_eq.rf)) (by rw [zi_at, zi_at]) ?_
          unfold v_rnC
          refine Prod.ext rfl (Prod.ext ?_ (Prod.ext rfl (Prod.ext ?_ rfl))) <;> (dsimp only; split <;> first | rfl | omega)
  · refine zp_aload_n (x := d) rfl rfl ?_
    refine zp_iconst (v := (nI 1)) rfl (by decide +kernel) ?_
    refine zq_iald hS rfl (by first | assumption | exact ⟨by decide, rfl⟩) (by omega) (by decide) ?_
    rw [c1]
    refine zp_iload_n (x := (nI fr)) rfl rfl ?_
    refine zp_icmpN_ne (tgt := 21) rfl rfl (by omega) (by omega) (fun b14 => ?_) (fun b14 => ?_)
    · refine zp_aload_n (x := d) rfl rfl ?_
      refine zp_iconst (v := (nI 1)) rfl (by decide +kernel) ?_
      refine zq_iald hS rfl (by first | assumption | exact ⟨by decide, rfl⟩) (by omega) (by decide) ?_
      rw [c1]
      refine zq_iast hS rfl (by first | assumption | exact ⟨by decide, rfl⟩) (by omega) (by decide) (fun hS24 => ?_)
      have hS := hS24
      refine zp_aload_n (x := d) rfl rfl ?_
      refine zp_iconst (v := (nI 3)) rfl (by decide +kernel) ?_
      refine zp_iload_n (x := (nI c.1)) rfl rfl ?_
      refine zp_iconst (v := (nI 3)) rfl (by decide +kernel) ?_
      refine zp_icmpN_eq (tgt := 38) rfl rfl (by omega) (by omega) (fun b29 => ?_) (fun b29 => ?_)
      · refine zp_aload_n (x := d) rfl rfl ?_
        refine zp_iconst (v := (nI 3)) rfl (by decide +kernel) ?_
        refine zq_iald hS rfl (by first | assumption | exact ⟨by decide, rfl⟩) (by omega) (by decide) ?_
        rw [zi_at, pk_un (by decide), c3]
        refine zp_iload_n (x := (nI fr)) rfl rfl ?_
        refine zp_icmpN_ne (tgt := 49) rfl rfl (by omega) (by omega) (fun b42 => ?_) (fun b42 => ?_)
        · refine zp_aload_n (x := d) rfl rfl ?_
          refine zp_iconst (v := (nI 3)) rfl (by decide +kernel) ?_
          refine zq_iald hS rfl (by first | assumption | exact ⟨by decide, rfl⟩) (by omega) (by decide) ?_
          rw [zi_at, pk_un (by decide), c3]
          refine zq_iast hS rfl (by first | assumption | exact ⟨by decide, rfl⟩) (by omega) (by decide) (fun hS52 => ?_)
          have hS := hS52
          refine zp_vret rfl rfl ?_
          refine fin _ _ _ hS (zh_one (zh_one zh_eq.rf)) (by rw [zi_at, zi_at]) ?_
          unfold v_rnC
          refine Prod.ext rfl (Prod.ext ?_ (Prod.ext rfl (Prod.ext ?_ rfl))) <;> (dsimp only; split <;> first | rfl | omega)
        · refine zp_iload_n (x := (nI to)) rfl rfl ?_
          refine zp_goto (tgt := 52) rfl rfl ?_
          refine zq_iast hS rfl (by first | assumption | exact ⟨by decide, rfl⟩) (by omega) (by decide) (fun hS52 => ?_)
          have hS := hS52
          refine zp_vret rfl rfl ?_
          refine fin _ _ _ hS (zh_one (zh_one zh_eq.rf)) (by rw [zi_at, zi_at]) ?_
          unfold v_rnC
          refine Prod.ext rfl (Prod.ext ?_ (Prod.ext rfl (Prod.ext ?_ rfl))) <;> (dsimp only; split <;> first | rfl | omega)
      · refine zp_iload_n (x := (nI c.1)) rfl rfl ?_
        refine zp_bipush (v := (nI 7)) rfl (by decide +kernel) ?_
        refine zp_icmpN_lt (tgt := 49) rfl rfl (by omega) (by omega) (fun b35 => ?_) (fun b35 => ?_)
        · refine zp_aload_n (x := d) rfl rfl ?_
          refine zp_iconst (v := (nI 3)) rfl (by decide +kernel) ?_
          refine zq_iald hS rfl (by first | assumption | exact ⟨by decide, rfl⟩) (by omega) (by decide) ?_
          rw [zi_at, pk_un (by decide), c3]
          refine zq_iast hS rfl (by first | assumption | exact ⟨by decide, rfl⟩) (by omega) (by decide) (fun hS52 => ?_)
          have hS := hS52
          refine zp_vret rfl rfl ?_
          refine fin _ _ _ hS (zh_one (zh_one zh_eq.rf)) (by rw [zi_at, zi_at]) ?_
          unfold v_rnC
          refine Prod.ext rfl (Prod.ext ?_ (Prod.ext rfl (Prod.ext ?_ rfl))) <;> (dsimp only; split <;> first | rfl | omega)
        · refine zp_aload_n (x := d) rfl rfl ?_
          refine zp_iconst (v := (nI 3)) rfl (by decide +kernel) ?_
          refine zq_iald hS rfl (by first | assumption | exact ⟨by decide, rfl⟩) (by omega) (by decide) ?_
          rw [zi_at, pk_un (by decide), c3]
          refine zp_iload_n (x := (nI fr)) rfl rfl ?_
          refine zp_icmpN_ne (tgt := 49) rfl rfl (by omega) (by omega) (fun b42 => ?_) (fun b42 => ?_)
          · refine zp_aload_n (x := d) rfl rfl ?_
            refine zp_iconst (v := (nI 3)) rfl (by decide +kernel) ?_
            refine zq_iald hS rfl (by first | assumption | exact ⟨by decide, rfl⟩) (by omega) (by decide) ?_
            rw [zi_at, pk_un (by decide), c3]
            refine zq_iast hS rfl (by first | assumption | exact ⟨by decide, rfl⟩) (by omega) (by decide) (fun hS52 => ?_)
            have hS := hS52
            refine zp_vret rfl rfl ?_
            refine fin _ _ _ hS (zh_one (zh_one zh_eq.rf)) (by rw [zi_at, zi_at]) ?_
            unfold v_rnC
            refine Prod.ext rfl (Prod.ext ?_ (Prod.ext rfl (Prod.ext ?_ rfl))) <;> (dsimp only; split <;> first | rfl | omega)
          · refine zp_iload_n (x := (nI to)) rfl rfl ?_
            refine zp_goto (tgt := 52) rfl rfl ?_
            refine zq_iast hS rfl (by first | assumption | exact ⟨by decide, rfl⟩) (by omega) (by decide) (fun hS52 => ?_)
            have hS := hS52
            refine zp_vret rfl rfl ?_
            refine fin _ _ _ hS (zh_one (zh_one zh_eq.rf)) (by rw [zi_at, zi_at]) ?_
            unfold v_rnC
            refine Prod.ext rfl (Prod.ext ?_ (Prod.ext rfl (Prod.ext ?_ rfl))) <;> (dsimp only; split <;> first | rfl | omega)
    · refine zp_iload_n (x := (nI to)) rfl rfl ?_
      refine zp_goto (tgt := 24) rfl rfl ?_
      refine zq_iast hS rfl (by first | assumption | exact ⟨by decide, rfl⟩) (by omega) (by decide) (fun hS24 => ?_)
      have hS := hS24
      refine zp_aload_n (x := d) rfl rfl ?_
      refine zp_iconst (v := (nI 3)) rfl (by decide +kernel) ?_
      refine zp_iload_n (x := (nI c.1)) rfl rfl ?_
      refine zp_iconst (v := (nI 3)) rfl (by decide +kernel) ?_
      refine zp_icmpN_eq (tgt := 38) rfl rfl (by omega) (by omega) (fun b29 => ?_) (fun b29 => ?_)
      · refine zp_aload_n (x := d) rfl rfl ?_
        refine zp_iconst (v := (nI 3)) rfl (by decide +kernel) ?_
        refine zq_iald hS rfl (by first | assumption | exact ⟨by decide, rfl⟩) (by omega) (by decide) ?_
        rw [zi_at, pk_un (by decide), c3]
        refine zp_iload_n (x := (nI fr)) rfl rfl ?_
        refine zp_icmpN_ne (tgt := 49) rfl rfl (by omega) (by omega) (fun b42 => ?_) (fun b42 => ?_)
        · refine zp_aload_n (x := d) rfl rfl ?_
          refine zp_iconst (v := (nI 3)) rfl (by decide +kernel) ?_
          refine zq_iald hS rfl (by first | assumption | exact ⟨by decide, rfl⟩) (by omega) (by decide) ?_
          rw [zi_at, pk_un (by decide), c3]
          refine zq_iast hS rfl (by first | assumption | exact ⟨by decide, rfl⟩) (by omega) (by decide) (fun hS52 => ?_)
          have hS := hS52
          refine zp_vret rfl rfl ?_
          refine fin _ _ _ hS (zh_one (zh_one zh_eq.rf)) (by rw [zi_at, zi_at]) ?_
          unfold v_rnC
          refine Prod.ext rfl (Prod.ext ?_ (Prod.ext rfl (Prod.ext ?_ rfl))) <;> (dsimp only; split <;> first | rfl | omega)
        · refine zp_iload_n (x := (nI to)) rfl rfl ?_
          refine zp_goto (tgt := 52) rfl rfl ?_
          refine zq_iast hS rfl (by first | assumption | exact ⟨by decide, rfl⟩) (by omega) (by decide) (fun hS52 => ?_)
          have hS := hS52
          refine zp_vret rfl rfl ?_
          refine fin _ _ _ hS (zh_one (zh_one zh_eq.rf)) (by rw [zi_at, zi_at]) ?_
          unfold v_rnC
          refine Prod.ext rfl (Prod.ext ?_ (Prod.ext rfl (Prod.ext ?_ rfl))) <;> (dsimp only; split <;> first | rfl | omega)
      · refine zp_iload_n (x := (nI c.1)) rfl rfl ?_
        refine zp_bipush (v := (nI 7)) rfl (by decide +kernel) ?_
        refine zp_icmpN_lt (tgt := 49) rfl rfl (by omega) (by omega) (fun b35 => ?_) (fun b35 => ?_)
        · refine zp_aload_n (x := d) rfl rfl ?_
          refine zp_iconst (v := (nI 3)) rfl (by decide +kernel) ?_
          refine zq_iald hS rfl (by first | assumption | exact ⟨by decide, rfl⟩) (by omega) (by decide) ?_
          rw [zi_at, pk_un (by decide), c3]
          refine zq_iast hS rfl (by first | assumption | exact ⟨by decide, rfl⟩) (by omega) (by decide) (fun hS52 => ?_)
          have hS := hS52
          refine zp_vret rfl rfl ?_
          refine fin _ _ _ hS (zh_one (zh_one zh_eq.rf)) (by rw [zi_at, zi_at]) ?_
          unfold v_rnC
          refine Prod.ext rfl (Prod.ext ?_ (Prod.ext rfl (Prod.ext ?_ rfl))) <;> (dsimp only; split <;> first | rfl | omega)
        · refine zp_aload_n (x := d) rfl rfl ?_
          refine zp_iconst (v := (nI 3)) rfl (by decide +kernel) ?_
          refine zq_iald hS rfl (by first | assumption | exact ⟨by decide, rfl⟩) (by omega) (by decide) ?_
          rw [zi_at, pk_un (by decide), c3]
          refine zp_iload_n (x := (nI fr)) rfl rfl ?_
          refine zp_icmpN_ne (tgt := 49) rfl rfl (by omega) (by omega) (fun b42 => ?_) (fun b42 => ?_)
          · refine zp_aload_n (x := d) rfl rfl ?_
            refine zp_iconst (v := (nI 3)) rfl (by decide +kernel) ?_
            refine zq_iald hS rfl (by first | assumption | exact ⟨by decide, rfl⟩) (by omega) (by decide) ?_
            rw [zi_at, pk_un (by decide), c3]
            refine zq_iast hS rfl (by first | assumption | exact ⟨by decide, rfl⟩) (by omega) (by decide) (fun hS52 => ?_)
            have hS := hS52
            refine zp_vret rfl rfl ?_
            refine fin _ _ _ hS (zh_one (zh_one zh_eq.rf)) (by rw [zi_at, zi_at]) ?_
            unfold v_rnC
            refine Prod.ext rfl (Prod.ext ?_ (Prod.ext rfl (Prod.ext ?_ rfl))) <;> (dsimp only; split <;> first | rfl | omega)
          · refine zp_iload_n (x := (nI to)) rfl rfl ?_
            refine zp_goto (tgt := 52) rfl rfl ?_
            refine zq_iast hS rfl (by first | assumption | exact ⟨by decide, rfl⟩) (by omega) (by decide) (fun hS52 => ?_)
            have hS := hS52
            refine zp_vret rfl rfl ?_
            refine fin _ _ _ hS (zh_one (zh_one zh_eq.rf)) (by rw [zi_at, zi_at]) ?_
            unfold v_rnC
            refine Prod.ext rfl (Prod.ext ?_ (Prod.ext rfl (Prod.ext ?_ rfl))) <;> (dsimp only; split <;> first | rfl | omega)
theorem s_Mod_renamesPair {a m ta tm : Nat} (hS : zs_H h) (hd : zs_I d 5) (hc : zr_c c (ci h d)) (hk : zc_ok c) (ha : a < 128) (hm : m < 128) (hq : ∀ h', zs_H h' → zh_eq (fun x => x = d) h h' → zr_c (v_rnP c a m ta tm) (ci h' d) → Q (.inl none) h') : zp_wm X y_Mod_renamesPair [.ref d, .int (nI a), .int (nI m), .int (nI ta), .int (nI tm)] h Q := by
  show zp_wp X y_Mod_renamesPair 0 [.ref d, .int (nI a), .int (nI m), .int (nI ta), .int (nI tm), zm_mk] [] h Q
  obtain ⟨c0, c1, c2, c3, c4⟩ := id hc
  obtain ⟨k0, k1, k2, k3, k4⟩ := hk
  have t1 : ∀ h', zs_H h' → zh_eq (fun x => x = d) h h' → zr_c (c.1, (v_rnP c a m ta tm).2.1, (v_rnP c a m ta tm).2.2.1, c.2.2.2.1, c.2.2.2.2) (ci h' d) → zp_wp X y_Mod_renamesPair 36 [.ref d, .int (nI a), .int (nI m), .int (nI ta), .int (nI tm), .int (nI c.1)] [] h' Q := by
    intro h' hS he hz
    obtain ⟨z0, z1, z2, z3, z4⟩ := id hz
    refine zp_iload (x := (nI c.1)) rfl rfl ?_
    refine zp_bipush (v := (nI 8)) rfl (by decide +kernel) ?_
    refine zp_icmpN_lt (tgt := 66) rfl rfl (by omega) (by omega) (fun b40 => ?_) (fun b40 => ?_)
    · refine zp_vret rfl rfl ?_
      first
      | (refine hq _ hS he ?_
         have e : v_rnP c a m ta tm = (c.1, (v_rnP c a m ta tm).2.1, (v_rnP c a m ta tm).2.2.1, c.2.2.2.1, c.2.2.2.2) := by
           refine Prod.ext rfl (Prod.ext rfl (Prod.ext rfl (Prod.ext ?_ ?_))) <;> (dsimp only [v_rnP]; split <;> first | rfl | omega)
         rw [e]
         exact hz)
      | (refine hq _ hS (zh_one (zh_one he)) ?_
         have e : v_rnP c a m ta tm = (c.1, (v_rnP c a m ta tm).2.1, (v_rnP c a m ta tm).2.2.1, ta, tm) := by
           refine Prod.ext rfl (Prod.ext rfl (Prod.ext rfl (Prod.ext ?_ ?_))) <;> (dsimp only [v_rnP]; split <;> first | rfl | omega)
         rw [e, zi_at, zi_at]
         refine ⟨?_, ?_, ?_, ?_, ?_⟩
         · rw [pk_un (by decide), pk_un (by decide)]; exact z0
         · rw [pk_un (by decide), pk_un (by decide)]; exact z1
         · rw [pk_un (by decide), pk_un (by decide)]; exact z2
         · rw [pk_un (by decide), pk_us]
         · rw [pk_us])
    · refine zp_aload_n (x := d) rfl rfl ?_
      refine zp_iconst (v := (nI 3)) rfl (by decide +kernel) ?_
      refine zq_iald hS rfl (by first | assumption | exact ⟨by decide, rfl⟩) (by omega) (by decide) ?_
      rw [z3]
      dsimp only
      refine zp_iload_n (x := (nI a)) rfl rfl ?_
      refine zp_icmpN_ne (tgt := 66) rfl rfl (by omega) (by omega) (fun b47 => ?_) (fun b47 => ?_)
      · refine zp_vret rfl rfl ?_
        first
        | (refine hq _ hS he ?_
           have e : v_rnP c a m ta tm = (c.1, (v_rnP c a m ta tm).2.1, (v_rnP c a m ta tm).2.2.1, c.2.2.2.1, c.2.2.2.2) := by
             refine Prod.ext rfl (Prod.ext rfl (Prod.ext rfl (Prod.ext ?_ ?_))) <;> (dsimp only [v_rnP]; split <;> first | rfl | omega)
           rw [e]
           exact hz)
        | (refine hq _ hS (zh_one (zh_one he)) ?_
           have e : v_rnP c a m ta tm = (c.1, (v_rnP c a m ta tm).2.1, (v_rnP c a m ta tm).2.2.1, ta, tm) := by
             refine Prod.ext rfl (Prod.ext rfl (Prod.ext rfl (Prod.ext ?_ ?_))) <;> (dsimp only [v_rnP]; split <;> first | rfl | omega)
           rw [e, zi_at, zi_at]
           refine ⟨?_, ?_, ?_, ?_, ?_⟩
           · rw [pk_un (by decide), pk_un (by decide)]; exact z0
           · rw [pk_un (by decide), pk_un (by decide)]; exact z1
           · rw [pk_un (by decide), pk_un (by decide)]; exact z2
           · rw [pk_un (by decide), pk_us]
           · rw [pk_us])
      · refine zp_aload_n (x := d) rfl rfl ?_
        refine zp_iconst (v := (nI 4)) rfl (by decide +kernel) ?_
        refine zq_iald hS rfl (by first | assumption | exact ⟨by decide, rfl⟩) (by omega) (by decide) ?_
        rw [z4]
        dsimp only
        refine zp_iload_n (x := (nI m)) rfl rfl ?_
        refine zp_icmpN_ne (tgt := 66) rfl rfl (by omega) (by omega) (fun b54 => ?_) (fun b54 => ?_)
        · refine zp_vret rfl rfl ?_
          first
          | (refine hq _ hS he ?_
             have e : v_rnP c a m ta tm = (c.1, (v_rnP c a m ta tm).2.1, (v_rnP c a m ta tm).2.2.1, c.2.2.2.1, c.2.2.2.2) := by
               refine Prod.ext rfl (Prod.ext rfl (Prod.ext rfl (Prod.ext ?_ ?_))) <;> (dsimp only [v_rnP]; split <;> first | rfl | omega)
             rw [e]
             exact hz)
          | (refine hq _ hS (zh_one (zh_one he)) ?_
             have e : v_rnP c a m ta tm = (c.1, (v_rnP c a m ta tm).2.1, (v_rnP c a m ta tm).2.2.1, ta, tm) := by
               refine Prod.ext rfl (Prod.ext rfl (Prod.ext rfl (Prod.ext ?_ ?_))) <;> (dsimp only [v_rnP]; split <;> first | rfl | omega)
             rw [e, zi_at, zi_at]
             refine ⟨?_, ?_, ?_, ?_, ?_⟩
             · rw [pk_un (by decide), pk_un (by decide)]; exact z0
             · rw [pk_un (by decide), pk_un (by decide)]; exact z1
             · rw [pk_un (by decide), pk_un (by decide)]; exact z2
             · rw [pk_un (by decide), pk_us]
             · rw [pk_us])
        · refine zp_aload_n (x := d) rfl rfl ?_
          refine zp_iconst (v := (nI 3)) rfl (by decide +kernel) ?_
          refine zp_iload_n (x := (nI ta)) rfl rfl ?_
          refine zq_iast hS rfl (by first | assumption | exact ⟨by decide, rfl⟩) (by omega) (by decide) (fun hS60 => ?_)
          have hS := hS60
          refine zp_aload_n (x := d) rfl rfl ?_
          refine zp_iconst (v := (nI 4)) rfl (by decide +kernel) ?_
          refine zp_iload (x := (nI tm)) rfl rfl ?_
          refine zq_iast hS rfl (by first | assumption | exact ⟨by decide, rfl⟩) (by omega) (by decide) (fun hS65 => ?_)
          have hS := hS65
          refine zp_vret rfl rfl ?_
          first
          | (refine hq _ hS he ?_
             have e : v_rnP c a m ta tm = (c.1, (v_rnP c a m ta tm).2.1, (v_rnP c a m ta tm).2.2.1, c.2.2.2.1, c.2.2.2.2) := by
               refine Prod.ext rfl (Prod.ext rfl (Prod.ext rfl (Prod.ext ?_ ?_))) <;> (dsimp only [v_rnP]; split <;> first | rfl | omega)
             rw [e]
             exact hz)
          | (refine hq _ hS (zh_one (zh_one he)) ?_
             have e : v_rnP c a m ta tm = (c.1, (v_rnP c a m ta tm).2.1, (v_rnP c a m ta tm).2.2.1, ta, tm) := by
               refine Prod.ext rfl (Prod.ext rfl (Prod.ext rfl (Prod.ext ?_ ?_))) <;> (dsimp only [v_rnP]; split <;> first | rfl | omega)
             rw [e, zi_at, zi_at]
             refine ⟨?_, ?_, ?_, ?_, ?_⟩
             · rw [pk_un (by decide), pk_un (by decide)]; exact z0
             · rw [pk_un (by decide), pk_un (by decide)]; exact z1
             · rw [pk_un (by decide), pk_un (by decide)]; exact z2
             · rw [pk_un (by decide), pk_us]
             · rw [pk_us])
  refine zp_aload_n (x := d) rfl rfl ?_
  refine zp_iconst (v := (nI 0)) rfl (by decide +kernel) ?_
  refine zq_iald hS rfl (by first | assumption | exact ⟨by decide, rfl⟩) (by omega) (by decide) ?_
  rw [c0]
  refine zp_istore_5 rfl rfl ?_
  refine zp_iload (x := (nI c.1)) rfl rfl ?_
  refine zp_call rfl rfl (s_Mod_hasMember (by omega) ?_)
  cases hm5 : decide (5 ≤ c.1) with
  | false =>
    show zp_wp X y_Mod_renamesPair 10 [.ref d, .int (nI a), .int (nI m), .int (nI ta), .int (nI tm), .int (nI c.1)] [.int (nI 0)] h Q
    refine zp_ifT (tgt := 36) rfl rfl (by decide +kernel) ?_
    first
    | (refine t1 _ hS zh_eq.rf ?_
       have e : v_rnP c a m ta tm = (c.1, c.2.1, c.2.2.1, (v_rnP c a m ta tm).2.2.2) := by
         refine Prod.ext rfl (Prod.ext ?_ (Prod.ext ?_ rfl)) <;> (dsimp only [v_rnP]; split <;> first | rfl | (simp only [decide_eq_false_iff_not, decide_eq_true_eq] at hm5; omega))
       rw [e]
       exact hc)
    | (refine t1 _ hS (zh_one (zh_one zh_eq.rf)) ?_
       have e : v_rnP c a m ta tm = (c.1, ta, tm, (v_rnP c a m ta tm).2.2.2) := by
         refine Prod.ext rfl (Prod.ext ?_ (Prod.ext ?_ rfl)) <;> (dsimp only [v_rnP]; split <;> first | rfl | (simp only [decide_eq_false_iff_not, decide_eq_true_eq] at hm5; omega))
       rw [e, zi_at, zi_at]
       refine ⟨?_, ?_, ?_, ?_, ?_⟩
       · rw [pk_un (by decide), pk_un (by decide)]; exact c0
       · rw [pk_un (by decide), pk_us]
       · rw [pk_us]
       · rw [pk_un (by decide), pk_un (by decide)]; exact c3
       · rw [pk_un (by decide), pk_un (by decide)]; exact c4)
  | true =>
    show zp_wp X y_Mod_renamesPair 10 [.ref d, .int (nI a), .int (nI m), .int (nI ta), .int (nI tm), .int (nI c.1)] [.int (nI 1)] h Q
    refine zp_ifF (tgt := 36) rfl rfl (by decide +kernel) ?_
    refine zp_aload_n (x := d) rfl rfl ?_
    refine zp_iconst (v := (nI 1)) rfl (by decide +kernel) ?_
    refine zq_iald hS rfl (by first | assumption | exact ⟨by decide, rfl⟩) (by omega) (by decide) ?_
    rw [c1]
    refine zp_iload_n (x := (nI a)) rfl rfl ?_
    refine zp_icmpN_ne (tgt := 36) rfl rfl (by omega) (by omega) (fun b17 => ?_) (fun b17 => ?_)
    · first
      | (refine t1 _ hS zh_eq.rf ?_
         have e : v_rnP c a m ta tm = (c.1, c.2.1, c.2.2.1, (v_rnP c a m ta tm).2.2.2) := by
           refine Prod.ext rfl (Prod.ext ?_ (Prod.ext ?_ rfl)) <;> (dsimp only [v_rnP]; split <;> first | rfl | (simp only [decide_eq_false_iff_not, decide_eq_true_eq] at hm5; omega))
         rw [e]
         exact hc)
      | (refine t1 _ hS (zh_one (zh_one zh_eq.rf)) ?_
         have e : v_rnP c a m ta tm = (c.1, ta, tm, (v_rnP c a m ta tm).2.2.2) := by
           refine Prod.ext rfl (Prod.ext ?_ (Prod.ext ?_ rfl)) <;> (dsimp only [v_rnP]; split <;> first | rfl | (simp only [decide_eq_false_iff_not, decide_eq_true_eq] at hm5; omega))
         rw [e, zi_at, zi_at]
         refine ⟨?_, ?_, ?_, ?_, ?_⟩
         · rw [pk_un (by decide), pk_un (by decide)]; exact c0
         · rw [pk_un (by decide), pk_us]
         · rw [pk_us]
         · rw [pk_un (by decide), pk_un (by decide)]; exact c3
         · rw [pk_un (by decide), pk_un (by decide)]; exact c4)
    · refine zp_aload_n (x := d) rfl rfl ?_
      refine zp_iconst (v := (nI 2)) rfl (by decide +kernel) ?_
      refine zq_iald hS rfl (by first | assumption | exact ⟨by decide, rfl⟩) (by omega) (by decide) ?_
      rw [c2]
      refine zp_iload_n (x := (nI m)) rfl rfl ?_
      refine zp_icmpN_ne (tgt := 36) rfl rfl (by omega) (by omega) (fun b24 => ?_) (fun b24 => ?_)
      · first
        | (refine t1 _ hS zh_eq.rf ?_
           have e : v_rnP c a m ta tm = (c.1, c.2.1, c.2.2.1, (v_rnP c a m ta tm).2.2.2) := by
             refine Prod.ext rfl (Prod.ext ?_ (Prod.ext ?_ rfl)) <;> (dsimp only [v_rnP]; split <;> first | rfl | (simp only [decide_eq_false_iff_not, decide_eq_true_eq] at hm5; omega))
           rw [e]
           exact hc)
        | (refine t1 _ hS (zh_one (zh_one zh_eq.rf)) ?_
           have e : v_rnP c a m ta tm = (c.1, ta, tm, (v_rnP c a m ta tm).2.2.2) := by
             refine Prod.ext rfl (Prod.ext ?_ (Prod.ext ?_ rfl)) <;> (dsimp only [v_rnP]; split <;> first | rfl | (simp only [decide_eq_false_iff_not, decide_eq_true_eq] at hm5; omega))
           rw [e, zi_at, zi_at]
           refine ⟨?_, ?_, ?_, ?_, ?_⟩
           · rw [pk_un (by decide), pk_un (by decide)]; exact c0
           · rw [pk_un (by decide), pk_us]
           · rw [pk_us]
           · rw [pk_un (by decide), pk_un (by decide)]; exact c3
           · rw [pk_un (by decide), pk_un (by decide)]; exact c4)
      · refine zp_aload_n (x := d) rfl rfl ?_
        refine zp_iconst (v := (nI 1)) rfl (by decide +kernel) ?_
        refine zp_iload_n (x := (nI ta)) rfl rfl ?_
        refine zq_iast hS rfl (by first | assumption | exact ⟨by decide, rfl⟩) (by omega) (by decide) (fun hS30 => ?_)
        have hS := hS30
        refine zp_aload_n (x := d) rfl rfl ?_
        refine zp_iconst (v := (nI 2)) rfl (by decide +kernel) ?_
        refine zp_iload (x := (nI tm)) rfl rfl ?_
        refine zq_iast hS rfl (by first | assumption | exact ⟨by decide, rfl⟩) (by omega) (by decide) (fun hS35 => ?_)
        have hS := hS35
        first
        | (refine t1 _ hS zh_eq.rf ?_
           have e : v_rnP c a m ta tm = (c.1, c.2.1, c.2.2.1, (v_rnP c a m ta tm).2.2.2) := by
             refine Prod.ext rfl (Prod.ext ?_ (Prod.ext ?_ rfl)) <;> (dsimp only [v_rnP]; split <;> first | rfl | (simp only [decide_eq_false_iff_not, decide_eq_true_eq] at hm5; omega))
           rw [e]
           exact hc)
        | (refine t1 _ hS (zh_one (zh_one zh_eq.rf)) ?_
           have e : v_rnP c a m ta tm = (c.1, ta, tm, (v_rnP c a m ta tm).2.2.2) := by
             refine Prod.ext rfl (Prod.ext ?_ (Prod.ext ?_ rfl)) <;> (dsimp only [v_rnP]; split <;> first | rfl | (simp only [decide_eq_false_iff_not, decide_eq_true_eq] at hm5; omega))
           rw [e, zi_at, zi_at]
           refine ⟨?_, ?_, ?_, ?_, ?_⟩
           · rw [pk_un (by decide), pk_un (by decide)]; exact c0
           · rw [pk_un (by decide), pk_us]
           · rw [pk_us]
           · rw [pk_un (by decide), pk_un (by decide)]; exact c3
           · rw [pk_un (by decide), pk_un (by decide)]; exact c4)
theorem s_Mod_carries {e : zch} {bk : Bool} (hS : zs_H h) (hd : zs_I d 5) (hc : zr_c c (ci h d)) (hk : zc_ok c) (hk2 : zc_ok e) (hq : ∀ h', zs_H h' → zh_eq (fun x => x = d) h h' → zr_c (v_car c e bk) (ci h' d) → Q (.inl none) h') : zp_wm X y_Mod_carries [.ref d, .int (nI e.1), .int (nI e.2.1), .int (nI e.2.2.1), .int (nI e.2.2.2.1), .int (nI e.2.2.2.2), .int (zf_b bk)] h Q := by
  obtain ⟨j0, j1, j2, j3, j4⟩ := hk2
  unfold v_car at hq
  cases bk with
  | true =>
    show zp_wp X y_Mod_carries 0 [.ref d, .int (nI e.1), .int (nI e.2.1), .int (nI e.2.2.1), .int (nI e.2.2.2.1), .int (nI e.2.2.2.2), .int (nI 1)] [] h Q
    refine zp_iload_n (x := (nI e.1)) rfl rfl ?_
    refine zp_iconst (v := (nI 2)) rfl (by decide +kernel) ?_
    refine zp_icmpN_ne (tgt := 34) rfl rfl (by omega) (by omega) (fun b2 => ?_) (fun b2 => ?_)
    · refine zp_iload_n (x := (nI e.1)) rfl rfl ?_
      refine zp_bipush (v := (nI 6)) rfl (by decide +kernel) ?_
      refine zp_icmpN_ne (tgt := 71) rfl rfl (by omega) (by omega) (fun b37 => ?_) (fun b37 => ?_)
      · refine zp_iload_n (x := (nI e.1)) rfl rfl ?_
        refine zp_bipush (v := (nI 7)) rfl (by decide +kernel) ?_
        refine zp_icmpN_ne (tgt := 105) rfl rfl (by omega) (by omega) (fun b74 => ?_) (fun b74 => ?_)
        · refine zp_vret rfl rfl ?_
          first | (rw [if_pos b2] at hq; exact hq _ hS2 he hz) | (rw [if_neg b2, if_pos b37] at hq; exact hq _ hS2 he hz) | (rw [if_neg b2, if_neg b37, if_pos b74] at hq; exact hq _ hS2 he hz) | (rw [if_neg b2, if_neg b37, if_neg b74] at hq; exact hq _ hS zh_eq.rf hc)
        · refine zp_aload_n (x := d) rfl rfl ?_
          refine zp_iload (x := (nI 1)) rfl rfl ?_
          refine zp_ifF (tgt := 88) rfl rfl (by decide +kernel) ?_
          refine zp_iload (x := (nI e.2.2.2.1)) rfl rfl ?_
          refine zp_goto (tgt := 89) rfl rfl ?_
          refine zp_iload_n (x := (nI e.2.2.1)) rfl rfl ?_
          refine zp_iload (x := (nI 1)) rfl rfl ?_
          refine zp_ifF (tgt := 99) rfl rfl (by decide +kernel) ?_
          refine zp_iload_n (x := (nI e.2.1)) rfl rfl ?_
          refine zp_goto (tgt := 101) rfl rfl ?_
          refine zp_iload_n (x := (nI e.2.2.1)) rfl rfl ?_
          refine zp_call rfl rfl (s_Mod_renamesPair hS hd hc hk (by omega) (by omega) (fun h2 hS2 he hz => ?_))
          show zp_wp X y_Mod_carries 105 [.ref d, .int (nI e.1), .int (nI e.2.1), .int (nI e.2.2.1), .int (nI e.2.2.2.1), .int (nI e.2.2.2.2), .int (nI 1)] [] h2 Q
          refine zp_vret rfl rfl ?_
          first | (rw [if_pos b2] at hq; exact hq _ hS2 he hz) | (rw [if_neg b2, if_pos b37] at hq; exact hq _ hS2 he hz) | (rw [if_neg b2, if_neg b37, if_pos b74] at hq; exact hq _ hS2 he hz) | (rw [if_neg b2, if_neg b37, if_neg b74] at hq; exact hq _ hS zh_eq.rf hc)
      · refine zp_aload_n (x := d) rfl rfl ?_
        refine zp_iload_n (x := (nI e.2.1)) rfl rfl ?_
        refine zp_iload (x := (nI 1)) rfl rfl ?_
        refine zp_ifF (tgt := 52) rfl rfl (by decide +kernel) ?_
        refine zp_iload (x := (nI e.2.2.2.2)) rfl rfl ?_
        refine zp_goto (tgt := 53) rfl rfl ?_
        refine zp_iload_n (x := (nI e.2.1)) rfl rfl ?_
        refine zp_iload (x := (nI 1)) rfl rfl ?_
        refine zp_ifF (tgt := 63) rfl rfl (by decide +kernel) ?_
        refine zp_iload_n (x := (nI e.2.2.1)) rfl rfl ?_
        refine zp_goto (tgt := 65) rfl rfl ?_
        refine zp_call rfl rfl (s_Mod_renamesPair hS hd hc hk (by omega) (by omega) (fun h2 hS2 he hz => ?_))
        show zp_wp X y_Mod_carries 68 [.ref d, .int (nI e.1), .int (nI e.2.1), .int (nI e.2.2.1), .int (nI e.2.2.2.1), .int (nI e.2.2.2.2), .int (nI 1)] [] h2 Q
        refine zp_goto (tgt := 105) rfl rfl ?_
        refine zp_vret rfl rfl ?_
        first | (rw [if_pos b2] at hq; exact hq _ hS2 he hz) | (rw [if_neg b2, if_pos b37] at hq; exact hq _ hS2 he hz) | (rw [if_neg b2, if_neg b37, if_pos b74] at hq; exact hq _ hS2 he hz) | (rw [if_neg b2, if_neg b37, if_neg b74] at hq; exact hq _ hS zh_eq.rf hc)
    · refine zp_aload_n (x := d) rfl rfl ?_
      refine zp_iload (x := (nI 1)) rfl rfl ?_
      refine zp_ifF (tgt := 16) rfl rfl (by decide +kernel) ?_
      refine zp_iload (x := (nI e.2.2.2.1)) rfl rfl ?_
      refine zp_goto (tgt := 17) rfl rfl ?_
      refine zp_iload (x := (nI 1)) rfl rfl ?_
      refine zp_ifF (tgt := 26) rfl rfl (by decide +kernel) ?_
      refine zp_iload_n (x := (nI e.2.1)) rfl rfl ?_
      refine zp_goto (tgt := 28) rfl rfl ?_
      refine zp_call rfl rfl (s_Mod_renames hS hd hc hk j3 (fun h2 hS2 he hz => ?_))
      show zp_wp X y_Mod_carries 31 [.ref d, .int (nI e.1), .int (nI e.2.1), .int (nI e.2.2.1), .int (nI e.2.2.2.1), .int (nI e.2.2.2.2), .int (nI 1)] [] h2 Q
      refine zp_goto (tgt := 105) rfl rfl ?_
      refine zp_vret rfl rfl ?_
      first | (rw [if_pos b2] at hq; exact hq _ hS2 he hz) | (rw [if_neg b2, if_pos b37] at hq; exact hq _ hS2 he hz) | (rw [if_neg b2, if_neg b37, if_pos b74] at hq; exact hq _ hS2 he hz) | (rw [if_neg b2, if_neg b37, if_neg b74] at hq; exact hq _ hS zh_eq.rf hc)
  | false =>
    show zp_wp X y_Mod_carries 0 [.ref d, .int (nI e.1), .int (nI e.2.1), .int (nI e.2.2.1), .int (nI e.2.2.2.1), .int (nI e.2.2.2.2), .int (nI 0)] [] h Q
    refine zp_iload_n (x := (nI e.1)) rfl rfl ?_
    refine zp_iconst (v := (nI 2)) rfl (by decide +kernel) ?_
    refine zp_icmpN_ne (tgt := 34) rfl rfl (by omega) (by omega) (fun b2 => ?_) (fun b2 => ?_)
    · refine zp_iload_n (x := (nI e.1)) rfl rfl ?_
      refine zp_bipush (v := (nI 6)) rfl (by decide +kernel) ?_
      refine zp_icmpN_ne (tgt := 71) rfl rfl (by omega) (by omega) (fun b37 => ?_) (fun b37 => ?_)
      · refine zp_iload_n (x := (nI e.1)) rfl rfl ?_
        refine zp_bipush (v := (nI 7)) rfl (by decide +kernel) ?_
        refine zp_icmpN_ne (tgt := 105) rfl rfl (by omega) (by omega) (fun b74 => ?_) (fun b74 => ?_)
        · refine zp_vret rfl rfl ?_
          first | (rw [if_pos b2] at hq; exact hq _ hS2 he hz) | (rw [if_neg b2, if_pos b37] at hq; exact hq _ hS2 he hz) | (rw [if_neg b2, if_neg b37, if_pos b74] at hq; exact hq _ hS2 he hz) | (rw [if_neg b2, if_neg b37, if_neg b74] at hq; exact hq _ hS zh_eq.rf hc)
        · refine zp_aload_n (x := d) rfl rfl ?_
          refine zp_iload (x := (nI 0)) rfl rfl ?_
          refine zp_ifT (tgt := 88) rfl rfl (by decide +kernel) ?_
          refine zp_iload_n (x := (nI e.2.1)) rfl rfl ?_
          refine zp_iload_n (x := (nI e.2.2.1)) rfl rfl ?_
          refine zp_iload (x := (nI 0)) rfl rfl ?_
          refine zp_ifT (tgt := 99) rfl rfl (by decide +kernel) ?_
          refine zp_iload (x := (nI e.2.2.2.1)) rfl rfl ?_
          refine zp_iload_n (x := (nI e.2.2.1)) rfl rfl ?_
          refine zp_call rfl rfl (s_Mod_renamesPair hS hd hc hk (by omega) (by omega) (fun h2 hS2 he hz => ?_))
          show zp_wp X y_Mod_carries 105 [.ref d, .int (nI e.1), .int (nI e.2.1), .int (nI e.2.2.1), .int (nI e.2.2.2.1), .int (nI e.2.2.2.2), .int (nI 0)] [] h2 Q
          refine zp_vret rfl rfl ?_
          first | (rw [if_pos b2] at hq; exact hq _ hS2 he hz) | (rw [if_neg b2, if_pos b37] at hq; exact hq _ hS2 he hz) | (rw [if_neg b2, if_neg b37, if_pos b74] at hq; exact hq _ hS2 he hz) | (rw [if_neg b2, if_neg b37, if_neg b74] at hq; exact hq _ hS zh_eq.rf hc)
      · refine zp_aload_n (x := d) rfl rfl ?_
        refine zp_iload_n (x := (nI e.2.1)) rfl rfl ?_
        refine zp_iload (x := (nI 0)) rfl rfl ?_
        refine zp_ifT (tgt := 52) rfl rfl (by decide +kernel) ?_
        refine zp_iload_n (x := (nI e.2.2.1)) rfl rfl ?_
        refine zp_iload_n (x := (nI e.2.1)) rfl rfl ?_
        refine zp_iload (x := (nI 0)) rfl rfl ?_
        refine zp_ifT (tgt := 63) rfl rfl (by decide +kernel) ?_
        refine zp_iload (x := (nI e.2.2.2.2)) rfl rfl ?_
        refine zp_call rfl rfl (s_Mod_renamesPair hS hd hc hk (by omega) (by omega) (fun h2 hS2 he hz => ?_))
        show zp_wp X y_Mod_carries 68 [.ref d, .int (nI e.1), .int (nI e.2.1), .int (nI e.2.2.1), .int (nI e.2.2.2.1), .int (nI e.2.2.2.2), .int (nI 0)] [] h2 Q
        refine zp_goto (tgt := 105) rfl rfl ?_
        refine zp_vret rfl rfl ?_
        first | (rw [if_pos b2] at hq; exact hq _ hS2 he hz) | (rw [if_neg b2, if_pos b37] at hq; exact hq _ hS2 he hz) | (rw [if_neg b2, if_neg b37, if_pos b74] at hq; exact hq _ hS2 he hz) | (rw [if_neg b2, if_neg b37, if_neg b74] at hq; exact hq _ hS zh_eq.rf hc)
    · refine zp_aload_n (x := d) rfl rfl ?_
      refine zp_iload (x := (nI 0)) rfl rfl ?_
      refine zp_ifT (tgt := 16) rfl rfl (by decide +kernel) ?_
      refine zp_iload_n (x := (nI e.2.1)) rfl rfl ?_
      refine zp_iload (x := (nI 0)) rfl rfl ?_
      refine zp_ifT (tgt := 26) rfl rfl (by decide +kernel) ?_
      refine zp_iload (x := (nI e.2.2.2.1)) rfl rfl ?_
      refine zp_call rfl rfl (s_Mod_renames hS hd hc hk j1 (fun h2 hS2 he hz => ?_))
      show zp_wp X y_Mod_carries 31 [.ref d, .int (nI e.1), .int (nI e.2.1), .int (nI e.2.2.1), .int (nI e.2.2.2.1), .int (nI e.2.2.2.2), .int (nI 0)] [] h2 Q
      refine zp_goto (tgt := 105) rfl rfl ?_
      refine zp_vret rfl rfl ?_
      first | (rw [if_pos b2] at hq; exact hq _ hS2 he hz) | (rw [if_neg b2, if_pos b37] at hq; exact hq _ hS2 he hz) | (rw [if_neg b2, if_neg b37, if_pos b74] at hq; exact hq _ hS2 he hz) | (rw [if_neg b2, if_neg b37, if_neg b74] at hq; exact hq _ hS zh_eq.rf hc)
end ZR10
