/-! the reference: the calls that change a version, and those that look -/
def g_leg (kind : Nat) (a m b n : Int32) : Bool := match kind with
  | 0 => g_isC a
  | 1 => g_isC a
  | 2 => g_isC a && g_isC b
  | 3 => g_isC a && (decide (b = 0) || g_isC b)
  | 4 => g_isC a && g_isM m
  | 5 => g_isC a && g_isM m
  | 6 => g_isC a && g_isM m && g_isM n
  | 7 => g_isC a && g_isM m && g_isC b
  | _ => g_four a m b n
def z_op (s : zst) (x : Int32) (kind : Nat) (a m b n : Int32) : Nat × Int32 × zst := z_chg s x kind (i2n a) (i2n m) (i2n b) (i2n n) (g_leg kind a m b n)
theorem g_okC {x : Int32} (h : g_isC x = true) : g_ok x := ⟨(g_isC_n h).1, by have := (g_isC_n h).2; omega⟩
theorem g_okM {x : Int32} (h : g_isM x = true) : g_ok x := ⟨(g_isM_n h).1, by have := (g_isM_n h).2; omega⟩
theorem g_ok0 : g_ok (nI 0) := ⟨by decide +kernel, by decide +kernel⟩
section ZR8
variable {X : zm_X} {h h1 h2 : zm_H} {Q : zm_O → zm_H → Prop} {V : zv} {s : zst} {T : List Nat}
theorem s_Mod_changesL {x : Int32} {kind : Nat} {a m b n v : Int32} (hv : v = zf_b (g_leg kind a m b n)) (hs : zr_S s h) (hB : zr_B s) (hk : kind < 10) (hl : g_leg kind a m b n = true → g_ok a ∧ g_ok m ∧ g_ok b ∧ g_ok n) (hq : ∀ h', zr_D (z_op s x kind a m b n).2.2 (z_op s x kind a m b n).1 h h' → Q (.inl (some (.int (z_op s x kind a m b n).2.1))) h') : zp_wm X y_Mod_changes [.ref 171, .int x, .int (nI kind), .int a, .int m, .int b, .int n, .int v] h Q := by
  rw [hv]
  exact s_Mod_changes hs hB hk hl hq

theorem s_Mod_addClass {x a : Int32} (hs : zr_S s h) (hB : zr_B s) (hq : ∀ h', zr_D (z_op s x 0 a (nI 0) (nI 0) (nI 0)).2.2 (z_op s x 0 a (nI 0) (nI 0) (nI 0)).1 h h' → Q (.inl (some (.int (z_op s x 0 a (nI 0) (nI 0) (nI 0)).2.1))) h') : zp_wm X y_Mod_addClass [.ref 171, .int x, .int a] h Q := by
  have hS := hs.1
  show zp_wp X y_Mod_addClass 0 [.ref 171, .int x, .int a] [] h Q
  refine zp_aload_n (x := 171) rfl rfl ?_
  refine zp_iload_n (x := x) rfl rfl ?_
  refine zp_iconst (v := (nI 0)) rfl (by decide +kernel) ?_
  refine zp_iload_n (x := a) rfl rfl ?_
  refine zp_iconst (v := (nI 0)) rfl (by decide +kernel) ?_
  refine zp_iconst (v := (nI 0)) rfl (by decide +kernel) ?_
  refine zp_iconst (v := (nI 0)) rfl (by decide +kernel) ?_
  refine zp_iload_n (x := a) rfl rfl ?_
  refine zp_call rfl rfl (s_Mod_isClassName ?_)
  show zp_wp X y_Mod_addClass 11 [.ref 171, .int x, .int a] [.int (zf_b (g_isC a)), .int (nI 0), .int (nI 0), .int (nI 0), .int a, .int (nI 0), .int x, .ref 171] h Q
  refine zq_virt hS rfl rfl (by first | assumption | exact ⟨by decide, rfl⟩) rfl (s_Mod_changesL (rfl) hs hB (by decide) (fun l => ⟨g_okC l, g_ok0, g_ok0, g_ok0⟩) (fun h2 hD => ?_))
  show zp_wp X y_Mod_addClass 14 [.ref 171, .int x, .int a] [.int ((z_op s x 0 a (nI 0) (nI 0) (nI 0)).2.1)] h2 Q
  refine zp_iret rfl rfl ?_
  exact hq _ hD
theorem s_Mod_removeClass {x a : Int32} (hs : zr_S s h) (hB : zr_B s) (hq : ∀ h', zr_D (z_op s x 1 a (nI 0) (nI 0) (nI 0)).2.2 (z_op s x 1 a (nI 0) (nI 0) (nI 0)).1 h h' → Q (.inl (some (.int (z_op s x 1 a (nI 0) (nI 0) (nI 0)).2.1))) h') : zp_wm X y_Mod_removeClass [.ref 171, .int x, .int a] h Q := by
  have hS := hs.1
  show zp_wp X y_Mod_removeClass 0 [.ref 171, .int x, .int a] [] h Q
  refine zp_aload_n (x := 171) rfl rfl ?_
  refine zp_iload_n (x := x) rfl rfl ?_
  refine zp_iconst (v := (nI 1)) rfl (by decide +kernel) ?_
  refine zp_iload_n (x := a) rfl rfl ?_
  refine zp_iconst (v := (nI 0)) rfl (by decide +kernel) ?_
  refine zp_iconst (v := (nI 0)) rfl (by decide +kernel) ?_
  refine zp_iconst (v := (nI 0)) rfl (by decide +kernel) ?_
  refine zp_iload_n (x := a) rfl rfl ?_
  refine zp_call rfl rfl (s_Mod_isClassName ?_)
  show zp_wp X y_Mod_removeClass 11 [.ref 171, .int x, .int a] [.int (zf_b (g_isC a)), .int (nI 0), .int (nI 0), .int (nI 0), .int a, .int (nI 1), .int x, .ref 171] h Q
  refine zq_virt hS rfl rfl (by first | assumption | exact ⟨by decide, rfl⟩) rfl (s_Mod_changesL (rfl) hs hB (by decide) (fun l => ⟨g_okC l, g_ok0, g_ok0, g_ok0⟩) (fun h2 hD => ?_))
  show zp_wp X y_Mod_removeClass 14 [.ref 171, .int x, .int a] [.int ((z_op s x 1 a (nI 0) (nI 0) (nI 0)).2.1)] h2 Q
  refine zp_iret rfl rfl ?_
  exact hq _ hD
theorem s_Mod_renameClass {x a b : Int32} (hs : zr_S s h) (hB : zr_B s) (hq : ∀ h', zr_D (z_op s x 2 a (nI 0) b (nI 0)).2.2 (z_op s x 2 a (nI 0) b (nI 0)).1 h h' → Q (.inl (some (.int (z_op s x 2 a (nI 0) b (nI 0)).2.1))) h') : zp_wm X y_Mod_renameClass [.ref 171, .int x, .int a, .int b] h Q := by
  have hS := hs.1
  show zp_wp X y_Mod_renameClass 0 [.ref 171, .int x, .int a, .int b] [] h Q
  refine zp_aload_n (x := 171) rfl rfl ?_
  refine zp_iload_n (x := x) rfl rfl ?_
  refine zp_iconst (v := (nI 2)) rfl (by decide +kernel) ?_
  refine zp_iload_n (x := a) rfl rfl ?_
  refine zp_iconst (v := (nI 0)) rfl (by decide +kernel) ?_
  refine zp_iload_n (x := b) rfl rfl ?_
  refine zp_iconst (v := (nI 0)) rfl (by decide +kernel) ?_
  refine zp_iload_n (x := a) rfl rfl ?_
  refine zp_call rfl rfl (s_Mod_isClassName ?_)
  cases e1 : g_isC a with
  | false =>
    show zp_wp X y_Mod_renameClass 11 [.ref 171, .int x, .int a, .int b] [.int (nI 0), .int (nI 0), .int b, .int (nI 0), .int a, .int (nI 2), .int x, .ref 171] h Q
    refine zp_ifT (tgt := 25) rfl rfl (by decide +kernel) ?_
    refine zp_iconst (v := (nI 0)) rfl (by decide +kernel) ?_
    refine zq_virt hS rfl rfl (by first | assumption | exact ⟨by decide, rfl⟩) rfl (s_Mod_changesL (by first | (simp only [g_leg, e1, e2]; rfl) | (simp only [g_leg, e1]; rfl)) hs hB (by decide) (fun l => by simp only [g_leg, Bool.and_eq_true] at l; exact ⟨g_okC l.1, g_ok0, g_okC l.2, g_ok0⟩) (fun h2 hD => ?_))
    show zp_wp X y_Mod_renameClass 29 [.ref 171, .int x, .int a, .int b] [.int ((z_op s x 2 a (nI 0) b (nI 0)).2.1)] h2 Q
    refine zp_iret rfl rfl ?_
    exact hq _ hD
  | true =>
    show zp_wp X y_Mod_renameClass 11 [.ref 171, .int x, .int a, .int b] [.int (nI 1), .int (nI 0), .int b, .int (nI 0), .int a, .int (nI 2), .int x, .ref 171] h Q
    refine zp_ifF (tgt := 25) rfl rfl (by decide +kernel) ?_
    refine zp_iload_n (x := b) rfl rfl ?_
    refine zp_call rfl rfl (s_Mod_isClassName ?_)
    cases e2 : g_isC b with
    | false =>
      show zp_wp X y_Mod_renameClass 18 [.ref 171, .int x, .int a, .int b] [.int (nI 0), .int (nI 0), .int b, .int (nI 0), .int a, .int (nI 2), .int x, .ref 171] h Q
      refine zp_ifT (tgt := 25) rfl rfl (by decide +kernel) ?_
      refine zp_iconst (v := (nI 0)) rfl (by decide +kernel) ?_
      refine zq_virt hS rfl rfl (by first | assumption | exact ⟨by decide, rfl⟩) rfl (s_Mod_changesL (by first | (simp only [g_leg, e1, e2]; rfl) | (simp only [g_leg, e1]; rfl)) hs hB (by decide) (fun l => by simp only [g_leg, Bool.and_eq_true] at l; exact ⟨g_okC l.1, g_ok0, g_okC l.2, g_ok0⟩) (fun h2 hD => ?_))
      show zp_wp X y_Mod_renameClass 29 [.ref 171, .int x, .int a, .int b] [.int ((z_op s x 2 a (nI 0) b (nI 0)).2.1)] h2 Q
      refine zp_iret rfl rfl ?_
      exact hq _ hD
    | true =>
      show zp_wp X y_Mod_renameClass 18 [.ref 171, .int x, .int a, .int b] [.int (nI 1), .int (nI 0), .int b, .int (nI 0), .int a, .int (nI 2), .int x, .ref 171] h Q
      refine zp_ifF (tgt := 25) rfl rfl (by decide +kernel) ?_
      refine zp_iconst (v := (nI 1)) rfl (by decide +kernel) ?_
      refine zp_goto (tgt := 26) rfl rfl ?_
      refine zq_virt hS rfl rfl (by first | assumption | exact ⟨by decide, rfl⟩) rfl (s_Mod_changesL (by first | (simp only [g_leg, e1, e2]; rfl) | (simp only [g_leg, e1]; rfl)) hs hB (by decide) (fun l => by simp only [g_leg, Bool.and_eq_true] at l; exact ⟨g_okC l.1, g_ok0, g_okC l.2, g_ok0⟩) (fun h2 hD => ?_))
      show zp_wp X y_Mod_renameClass 29 [.ref 171, .int x, .int a, .int b] [.int ((z_op s x 2 a (nI 0) b (nI 0)).2.1)] h2 Q
      refine zp_iret rfl rfl ?_
      exact hq _ hD
theorem s_Mod_setSuper {x a b : Int32} (hs : zr_S s h) (hB : zr_B s) (hq : ∀ h', zr_D (z_op s x 3 a (nI 0) b (nI 0)).2.2 (z_op s x 3 a (nI 0) b (nI 0)).1 h h' → Q (.inl (some (.int (z_op s x 3 a (nI 0) b (nI 0)).2.1))) h') : zp_wm X y_Mod_setSuper [.ref 171, .int x, .int a, .int b] h Q := by
  have hS := hs.1
  show zp_wp X y_Mod_setSuper 0 [.ref 171, .int x, .int a, .int b] [] h Q
  refine zp_aload_n (x := 171) rfl rfl ?_
  refine zp_iload_n (x := x) rfl rfl ?_
  refine zp_iconst (v := (nI 3)) rfl (by decide +kernel) ?_
  refine zp_iload_n (x := a) rfl rfl ?_
  refine zp_iconst (v := (nI 0)) rfl (by decide +kernel) ?_
  refine zp_iload_n (x := b) rfl rfl ?_
  refine zp_iconst (v := (nI 0)) rfl (by decide +kernel) ?_
  refine zp_iload_n (x := a) rfl rfl ?_
  refine zp_call rfl rfl (s_Mod_isClassName ?_)
  cases e1 : g_isC a with
  | false =>
    show zp_wp X y_Mod_setSuper 11 [.ref 171, .int x, .int a, .int b] [.int (nI 0), .int (nI 0), .int b, .int (nI 0), .int a, .int (nI 3), .int x, .ref 171] h Q
    refine zp_ifT (tgt := 29) rfl rfl (by decide +kernel) ?_
    refine zp_iconst (v := (nI 0)) rfl (by decide +kernel) ?_
    refine zq_virt hS rfl rfl (by first | assumption | exact ⟨by decide, rfl⟩) rfl (s_Mod_changesL (by first | (simp only [g_leg, e1, e2, decide_eq_false b15]; rfl) | (simp only [g_leg, e1, decide_eq_true b15]; rfl) | (simp only [g_leg, e1]; rfl)) hs hB (by decide) (fun l => by simp only [g_leg, Bool.and_eq_true, Bool.or_eq_true, decide_eq_true_eq] at l; exact ⟨g_okC l.1, g_ok0, l.2.elim (fun e => by rw [e]; exact g_ok0) g_okC, g_ok0⟩) (fun h2 hD => ?_))
    show zp_wp X y_Mod_setSuper 33 [.ref 171, .int x, .int a, .int b] [.int ((z_op s x 3 a (nI 0) b (nI 0)).2.1)] h2 Q
    refine zp_iret rfl rfl ?_
    exact hq _ hD
  | true =>
    show zp_wp X y_Mod_setSuper 11 [.ref 171, .int x, .int a, .int b] [.int (nI 1), .int (nI 0), .int b, .int (nI 0), .int a, .int (nI 3), .int x, .ref 171] h Q
    refine zp_ifF (tgt := 29) rfl rfl (by decide +kernel) ?_
    refine zp_iload_n (x := b) rfl rfl ?_
    refine zp_if_eq (tgt := 25) rfl rfl (fun b15 => ?_) (fun b15 => ?_)
    · refine zp_iconst (v := (nI 1)) rfl (by decide +kernel) ?_
      refine zp_goto (tgt := 30) rfl rfl ?_
      refine zq_virt hS rfl rfl (by first | assumption | exact ⟨by decide, rfl⟩) rfl (s_Mod_changesL (by first | (simp only [g_leg, e1, e2, decide_eq_false b15]; rfl) | (simp only [g_leg, e1, decide_eq_true b15]; rfl) | (simp only [g_leg, e1]; rfl)) hs hB (by decide) (fun l => by simp only [g_leg, Bool.and_eq_true, Bool.or_eq_true, decide_eq_true_eq] at l; exact ⟨g_okC l.1, g_ok0, l.2.elim (fun e => by rw [e]; exact g_ok0) g_okC, g_ok0⟩) (fun h2 hD => ?_))
      show zp_wp X y_Mod_setSuper 33 [.ref 171, .int x, .int a, .int b] [.int ((z_op s x 3 a (nI 0) b (nI 0)).2.1)] h2 Q
      refine zp_iret rfl rfl ?_
      exact hq _ hD
    · refine zp_iload_n (x := b) rfl rfl ?_
      refine zp_call rfl rfl (s_Mod_isClassName ?_)
      cases e2 : g_isC b with
      | false =>
        show zp_wp X y_Mod_setSuper 22 [.ref 171, .int x, .int a, .int b] [.int (nI 0), .int (nI 0), .int b, .int (nI 0), .int a, .int (nI 3), .int x, .ref 171] h Q
        refine zp_ifT (tgt := 29) rfl rfl (by decide +kernel) ?_
        refine zp_iconst (v := (nI 0)) rfl (by decide +kernel) ?_
        refine zq_virt hS rfl rfl (by first | assumption | exact ⟨by decide, rfl⟩) rfl (s_Mod_changesL (by first | (simp only [g_leg, e1, e2, decide_eq_false b15]; rfl) | (simp only [g_leg, e1, decide_eq_true b15]; rfl) | (simp only [g_leg, e1]; rfl)) hs hB (by decide) (fun l => by simp only [g_leg, Bool.and_eq_true, Bool.or_eq_true, decide_eq_true_eq] at l; exact ⟨g_okC l.1, g_ok0, l.2.elim (fun e => by rw [e]; exact g_ok0) g_okC, g_ok0⟩) (fun h2 hD => ?_))
        show zp_wp X y_Mod_setSuper 33 [.ref 171, .int x, .int a, .int b] [.int ((z_op s x 3 a (nI 0) b (nI 0)).2.1)] h2 Q
        refine zp_iret rfl rfl ?_
        exact hq _ hD
      | true =>
        show zp_wp X y_Mod_setSuper 22 [.ref 171, .int x, .int a, .int b] [.int (nI 1), .int (nI 0), .int b, .int (nI 0), .int a, .int (nI 3), .int x, .ref 171] h Q
        refine zp_ifF (tgt := 29) rfl rfl (by decide +kernel) ?_
        refine zp_iconst (v := (nI 1)) rfl (by decide +kernel) ?_
        refine zp_goto (tgt := 30) rfl rfl ?_
        refine zq_virt hS rfl rfl (by first | assumption | exact ⟨by decide, rfl⟩) rfl (s_Mod_changesL (by first | (simp only [g_leg, e1, e2, decide_eq_false b15]; rfl) | (simp only [g_leg, e1, decide_eq_true b15]; rfl) | (simp only [g_leg, e1]; rfl)) hs hB (by decide) (fun l => by simp only [g_leg, Bool.and_eq_true, Bool.or_eq_true, decide_eq_true_eq] at l; exact ⟨g_okC l.1, g_ok0, l.2.elim (fun e => by rw [e]; exact g_ok0) g_okC, g_ok0⟩) (fun h2 hD => ?_))
        show zp_wp X y_Mod_setSuper 33 [.ref 171, .int x, .int a, .int b] [.int ((z_op s x 3 a (nI 0) b (nI 0)).2.1)] h2 Q
        refine zp_iret rfl rfl ?_
        exact hq _ hD
theorem s_Mod_addMember {x a m : Int32} (hs : zr_S s h) (hB : zr_B s) (hq : ∀ h', zr_D (z_op s x 4 a m (nI 0) (nI 0)).2.2 (z_op s x 4 a m (nI 0) (nI 0)).1 h h' → Q (.inl (some (.int (z_op s x 4 a m (nI 0) (nI 0)).2.1))) h') : zp_wm X y_Mod_addMember [.ref 171, .int x, .int a, .int m] h Q := by
  have hS := hs.1
  show zp_wp X y_Mod_addMember 0 [.ref 171, .int x, .int a, .int m] [] h Q
  refine zp_aload_n (x := 171) rfl rfl ?_
  refine zp_iload_n (x := x) rfl rfl ?_
  refine zp_iconst (v := (nI 4)) rfl (by decide +kernel) ?_
  refine zp_iload_n (x := a) rfl rfl ?_
  refine zp_iload_n (x := m) rfl rfl ?_
  refine zp_iconst (v := (nI 0)) rfl (by decide +kernel) ?_
  refine zp_iconst (v := (nI 0)) rfl (by decide +kernel) ?_
  refine zp_iload_n (x := a) rfl rfl ?_
  refine zp_call rfl rfl (s_Mod_isClassName ?_)
  cases e1 : g_isC a with
  | false =>
    show zp_wp X y_Mod_addMember 11 [.ref 171, .int x, .int a, .int m] [.int (nI 0), .int (nI 0), .int (nI 0), .int m, .int a, .int (nI 4), .int x, .ref 171] h Q
    refine zp_ifT (tgt := 25) rfl rfl (by decide +kernel) ?_
    refine zp_iconst (v := (nI 0)) rfl (by decide +kernel) ?_
    refine zq_virt hS rfl rfl (by first | assumption | exact ⟨by decide, rfl⟩) rfl (s_Mod_changesL (by first | (simp only [g_leg, e1, e2]; rfl) | (simp only [g_leg, e1]; rfl)) hs hB (by decide) (fun l => by simp only [g_leg, Bool.and_eq_true] at l; exact ⟨g_okC l.1, g_okM l.2, g_ok0, g_ok0⟩) (fun h2 hD => ?_))
    show zp_wp X y_Mod_addMember 29 [.ref 171, .int x, .int a, .int m] [.int ((z_op s x 4 a m (nI 0) (nI 0)).2.1)] h2 Q
    refine zp_iret rfl rfl ?_
    exact hq _ hD
  | true =>
    show zp_wp X y_Mod_addMember 11 [.ref 171, .int x, .int a, .int m] [.int (nI 1), .int (nI 0), .int (nI 0), .int m, .int a, .int (nI 4), .int x, .ref 171] h Q
    refine zp_ifF (tgt := 25) rfl rfl (by decide +kernel) ?_
    refine zp_iload_n (x := m) rfl rfl ?_
    refine zp_call rfl rfl (s_Mod_isMemberName ?_)
    cases e2 : g_isM m with
    | false =>
      show zp_wp X y_Mod_addMember 18 [.ref 171, .int x, .int a, .int m] [.int (nI 0), .int (nI 0), .int (nI 0), .int m, .int a, .int (nI 4), .int x, .ref 171] h Q
      refine zp_ifT (tgt := 25) rfl rfl (by decide +kernel) ?_
      refine zp_iconst (v := (nI 0)) rfl (by decide +kernel) ?_
      refine zq_virt hS rfl rfl (by first | assumption | exact ⟨by decide, rfl⟩) rfl (s_Mod_changesL (by first | (simp only [g_leg, e1, e2]; rfl) | (simp only [g_leg, e1]; rfl)) hs hB (by decide) (fun l => by simp only [g_leg, Bool.and_eq_true] at l; exact ⟨g_okC l.1, g_okM l.2, g_ok0, g_ok0⟩) (fun h2 hD => ?_))
      show zp_wp X y_Mod_addMember 29 [.ref 171, .int x, .int a, .int m] [.int ((z_op s x 4 a m (nI 0) (nI 0)).2.1)] h2 Q
      refine zp_iret rfl rfl ?_
      exact hq _ hD
    | true =>
      show zp_wp X y_Mod_addMember 18 [.ref 171, .int x, .int a, .int m] [.int (nI 1), .int (nI 0), .int (nI 0), .int m, .int a, .int (nI 4), .int x, .ref 171] h Q
      refine zp_ifF (tgt := 25) rfl rfl (by decide +kernel) ?_
      refine zp_iconst (v := (nI 1)) rfl (by decide +kernel) ?_
      refine zp_goto (tgt := 26) rfl rfl ?_
      refine zq_virt hS rfl rfl (by first | assumption | exact ⟨by decide, rfl⟩) rfl (s_Mod_changesL (by first | (simp only [g_leg, e1, e2]; rfl) | (simp only [g_leg, e1]; rfl)) hs hB (by decide) (fun l => by simp only [g_leg, Bool.and_eq_true] at l; exact ⟨g_okC l.1, g_okM l.2, g_ok0, g_ok0⟩) (fun h2 hD => ?_))
      show zp_wp X y_Mod_addMember 29 [.ref 171, .int x, .int a, .int m] [.int ((z_op s x 4 a m (nI 0) (nI 0)).2.1)] h2 Q
      refine zp_iret rfl rfl ?_
      exact hq _ hD
theorem s_Mod_removeMember {x a m : Int32} (hs : zr_S s h) (hB : zr_B s) (hq : ∀ h', zr_D (z_op s x 5 a m (nI 0) (nI 0)).2.2 (z_op s x 5 a m (nI 0) (nI 0)).1 h h' → Q (.inl (some (.int (z_op s x 5 a m (nI 0) (nI 0)).2.1))) h') : zp_wm X y_Mod_removeMember [.ref 171, .int x, .int a, .int m] h Q := by
  have hS := hs.1
  show zp_wp X y_Mod_removeMember 0 [.ref 171, .int x, .int a, .int m] [] h Q
  refine zp_aload_n (x := 171) rfl rfl ?_
  refine zp_iload_n (x := x) rfl rfl ?_
  refine zp_iconst (v := (nI 5)) rfl (by decide +kernel) ?_
  refine zp_iload_n (x := a) rfl rfl ?_
  refine zp_iload_n (x := m) rfl rfl ?_
  refine zp_iconst (v := (nI 0)) rfl (by decide +kernel) ?_
  refine zp_iconst (v := (nI 0)) rfl (by decide +kernel) ?_
  refine zp_iload_n (x := a) rfl rfl ?_
  refine zp_call rfl rfl (s_Mod_isClassName ?_)
  cases e1 : g_isC a with
  | false =>
    show zp_wp X y_Mod_removeMember 11 [.ref 171, .int x, .int a, .int m] [.int (nI 0), .int (nI 0), .int (nI 0), .int m, .int a, .int (nI 5), .int x, .ref 171] h Q
    refine zp_ifT (tgt := 25) rfl rfl (by decide +kernel) ?_
    refine zp_iconst (v := (nI 0)) rfl (by decide +kernel) ?_
    refine zq_virt hS rfl rfl (by first | assumption | exact ⟨by decide, rfl⟩) rfl (s_Mod_changesL (by first | (simp only [g_leg, e1, e2]; rfl) | (simp only [g_leg, e1]; rfl)) hs hB (by decide) (fun l => by simp only [g_leg, Bool.and_eq_true] at l; exact ⟨g_okC l.1, g_okM l.2, g_ok0, g_ok0⟩) (fun h2 hD => ?_))
    show zp_wp X y_Mod_removeMember 29 [.ref 171, .int x, .int a, .int m] [.int ((z_op s x 5 a m (nI 0) (nI 0)).2.1)] h2 Q
    refine zp_iret rfl rfl ?_
    exact hq _ hD
  | true =>
    show zp_wp X y_Mod_removeMember 11 [.ref 171, .int x, .int a, .int m] [.int (nI 1), .int (nI 0), .int (nI 0), .int m, .int a, .int (nI 5), .int x, .ref 171] h Q
    refine zp_ifF (tgt := 25) rfl rfl (by decide +kernel) ?_
    refine zp_iload_n (x := m) rfl rfl ?_
    refine zp_call rfl rfl (s_Mod_isMemberName ?_)
    cases e2 : g_isM m with
    | false =>
      show zp_wp X y_Mod_removeMember 18 [.ref 171, .int x, .int a, .int m] [.int (nI 0), .int (nI 0), .int (nI 0), .int m, .int a, .int (nI 5), .int x, .ref 171] h Q
      refine zp_ifT (tgt := 25) rfl rfl (by decide +kernel) ?_
      refine zp_iconst (v := (nI 0)) rfl (by decide +kernel) ?_
      refine zq_virt hS rfl rfl (by first | assumption | exact ⟨by decide, rfl⟩) rfl (s_Mod_changesL (by first | (simp only [g_leg, e1, e2]; rfl) | (simp only [g_leg, e1]; rfl)) hs hB (by decide) (fun l => by simp only [g_leg, Bool.and_eq_true] at l; exact ⟨g_okC l.1, g_okM l.2, g_ok0, g_ok0⟩) (fun h2 hD => ?_))
      show zp_wp X y_Mod_removeMember 29 [.ref 171, .int x, .int a, .int m] [.int ((z_op s x 5 a m (nI 0) (nI 0)).2.1)] h2 Q
      refine zp_iret rfl rfl ?_
      exact hq _ hD
    | true =>
      show zp_wp X y_Mod_removeMember 18 [.ref 171, .int x, .int a, .int m] [.int (nI 1), .int (nI 0), .int (nI 0), .int m, .int a, .int (nI 5), .int x, .ref 171] h Q
      refine zp_ifF (tgt := 25) rfl rfl (by decide +kernel) ?_
      refine zp_iconst (v := (nI 1)) rfl (by decide +kernel) ?_
      refine zp_goto (tgt := 26) rfl rfl ?_
      refine zq_virt hS rfl rfl (by first | assumption | exact ⟨by decide, rfl⟩) rfl (s_Mod_changesL (by first | (simp only [g_leg, e1, e2]; rfl) | (simp only [g_leg, e1]; rfl)) hs hB (by decide) (fun l => by simp only [g_leg, Bool.and_eq_true] at l; exact ⟨g_okC l.1, g_okM l.2, g_ok0, g_ok0⟩) (fun h2 hD => ?_))
      show zp_wp X y_Mod_removeMember 29 [.ref 171, .int x, .int a, .int m] [.int ((z_op s x 5 a m (nI 0) (nI 0)).2.1)] h2 Q
      refine zp_iret rfl rfl ?_
      exact hq _ hD
theorem s_Mod_renameMember {x a m n : Int32} (hs : zr_S s h) (hB : zr_B s) (hq : ∀ h', zr_D (z_op s x 6 a m (nI 0) n).2.2 (z_op s x 6 a m (nI 0) n).1 h h' → Q (.inl (some (.int (z_op s x 6 a m (nI 0) n).2.1))) h') : zp_wm X y_Mod_renameMember [.ref 171, .int x, .int a, .int m, .int n] h Q := by
  have hS := hs.1
  show zp_wp X y_Mod_renameMember 0 [.ref 171, .int x, .int a, .int m, .int n] [] h Q
  refine zp_aload_n (x := 171) rfl rfl ?_
  refine zp_iload_n (x := x) rfl rfl ?_
  refine zp_bipush (v := (nI 6)) rfl (by decide +kernel) ?_
  refine zp_iload_n (x := a) rfl rfl ?_
  refine zp_iload_n (x := m) rfl rfl ?_
  refine zp_iconst (v := (nI 0)) rfl (by decide +kernel) ?_
  refine zp_iload (x := n) rfl rfl ?_
  refine zp_iload_n (x := a) rfl rfl ?_
  refine zp_call rfl rfl (s_Mod_isClassName ?_)
  cases e1 : g_isC a with
  | false =>
    show zp_wp X y_Mod_renameMember 13 [.ref 171, .int x, .int a, .int m, .int n] [.int (nI 0), .int n, .int (nI 0), .int m, .int a, .int (nI 6), .int x, .ref 171] h Q
    refine zp_ifT (tgt := 35) rfl rfl (by decide +kernel) ?_
    refine zp_iconst (v := (nI 0)) rfl (by decide +kernel) ?_
    refine zq_virt hS rfl rfl (by first | assumption | exact ⟨by decide, rfl⟩) rfl (s_Mod_changesL (by first | (simp only [g_leg, e1, e2, e3]; rfl) | (simp only [g_leg, e1, e2]; rfl) | (simp only [g_leg, e1]; rfl)) hs hB (by decide) (fun l => by simp only [g_leg, Bool.and_eq_true] at l; exact ⟨g_okC l.1.1, g_okM l.1.2, g_ok0, g_okM l.2⟩) (fun h2 hD => ?_))
    show zp_wp X y_Mod_renameMember 39 [.ref 171, .int x, .int a, .int m, .int n] [.int ((z_op s x 6 a m (nI 0) n).2.1)] h2 Q
    refine zp_iret rfl rfl ?_
    exact hq _ hD
  | true =>
    show zp_wp X y_Mod_renameMember 13 [.ref 171, .int x, .int a, .int m, .int n] [.int (nI 1), .int n, .int (nI 0), .int m, .int a, .int (nI 6), .int x, .ref 171] h Q
    refine zp_ifF (tgt := 35) rfl rfl (by decide +kernel) ?_
    refine zp_iload_n (x := m) rfl rfl ?_
    refine zp_call rfl rfl (s_Mod_isMemberName ?_)
    cases e2 : g_isM m with
    | false =>
      show zp_wp X y_Mod_renameMember 20 [.ref 171, .int x, .int a, .int m, .int n] [.int (nI 0), .int n, .int (nI 0), .int m, .int a, .int (nI 6), .int x, .ref 171] h Q
      refine zp_ifT (tgt := 35) rfl rfl (by decide +kernel) ?_
      refine zp_iconst (v := (nI 0)) rfl (by decide +kernel) ?_
      refine zq_virt hS rfl rfl (by first | assumption | exact ⟨by decide, rfl⟩) rfl (s_Mod_changesL (by first | (simp only [g_leg, e1, e2, e3]; rfl) | (simp only [g_leg, e1, e2]; rfl) | (simp only [g_leg, e1]; rfl)) hs hB (by decide) (fun l => by simp only [g_leg, Bool.and_eq_true] at l; exact ⟨g_okC l.1.1, g_okM l.1.2, g_ok0, g_okM l.2⟩) (fun h2 hD => ?_))
      show zp_wp X y_Mod_renameMember 39 [.ref 171, .int x, .int a, .int m, .int n] [.int ((z_op s x 6 a m (nI 0) n).2.1)] h2 Q
      refine zp_iret rfl rfl ?_
      exact hq _ hD
    | true =>
      show zp_wp X y_Mod_renameMember 20 [.ref 171, .int x, .int a, .int m, .int n] [.int (nI 1), .int n, .int (nI 0), .int m, .int a, .int (nI 6), .int x, .ref 171] h Q
      refine zp_ifF (tgt := 35) rfl rfl (by decide +kernel) ?_
      refine zp_iload (x := n) rfl rfl ?_
      refine zp_call rfl rfl (s_Mod_isMemberName ?_)
      cases e3 : g_isM n with
      | false =>
        show zp_wp X y_Mod_renameMember 28 [.ref 171, .int x, .int a, .int m, .int n] [.int (nI 0), .int n, .int (nI 0), .int m, .int a, .int (nI 6), .int x, .ref 171] h Q
        refine zp_ifT (tgt := 35) rfl rfl (by decide +kernel) ?_
        refine zp_iconst (v := (nI 0)) rfl (by decide +kernel) ?_
        refine zq_virt hS rfl rfl (by first | assumption | exact ⟨by decide, rfl⟩) rfl (s_Mod_changesL (by first | (simp only [g_leg, e1, e2, e3]; rfl) | (simp only [g_leg, e1, e2]; rfl) | (simp only [g_leg, e1]; rfl)) hs hB (by decide) (fun l => by simp only [g_leg, Bool.and_eq_true] at l; exact ⟨g_okC l.1.1, g_okM l.1.2, g_ok0, g_okM l.2⟩) (fun h2 hD => ?_))
        show zp_wp X y_Mod_renameMember 39 [.ref 171, .int x, .int a, .int m, .int n] [.int ((z_op s x 6 a m (nI 0) n).2.1)] h2 Q
        refine zp_iret rfl rfl ?_
        exact hq _ hD
      | true =>
        show zp_wp X y_Mod_renameMember 28 [.ref 171, .int x, .int a, .int m, .int n] [.int (nI 1), .int n, .int (nI 0), .int m, .int a, .int (nI 6), .int x, .ref 171] h Q
        refine zp_ifF (tgt := 35) rfl rfl (by decide +kernel) ?_
        refine zp_iconst (v := (nI 1)) rfl (by decide +kernel) ?_
        refine zp_goto (tgt := 36) rfl rfl ?_
        refine zq_virt hS rfl rfl (by first | assumption | exact ⟨by decide, rfl⟩) rfl (s_Mod_changesL (by first | (simp only [g_leg, e1, e2, e3]; rfl) | (simp only [g_leg, e1, e2]; rfl) | (simp only [g_leg, e1]; rfl)) hs hB (by decide) (fun l => by simp only [g_leg, Bool.and_eq_true] at l; exact ⟨g_okC l.1.1, g_okM l.1.2, g_ok0, g_okM l.2⟩) (fun h2 hD => ?_))
        show zp_wp X y_Mod_renameMember 39 [.ref 171, .int x, .int a, .int m, .int n] [.int ((z_op s x 6 a m (nI 0) n).2.1)] h2 Q
        refine zp_iret rfl rfl ?_
        exact hq _ hD
theorem s_Mod_moveMember {x a m b : Int32} (hs : zr_S s h) (hB : zr_B s) (hq : ∀ h', zr_D (z_op s x 7 a m b (nI 0)).2.2 (z_op s x 7 a m b (nI 0)).1 h h' → Q (.inl (some (.int (z_op s x 7 a m b (nI 0)).2.1))) h') : zp_wm X y_Mod_moveMember [.ref 171, .int x, .int a, .int m, .int b] h Q := by
  have hS := hs.1
  show zp_wp X y_Mod_moveMember 0 [.ref 171, .int x, .int a, .int m, .int b] [] h Q
  refine zp_aload_n (x := 171) rfl rfl ?_
  refine zp_iload_n (x := x) rfl rfl ?_
  refine zp_bipush (v := (nI 7)) rfl (by decide +kernel) ?_
  refine zp_iload_n (x := a) rfl rfl ?_
  refine zp_iload_n (x := m) rfl rfl ?_
  refine zp_iload (x := b) rfl rfl ?_
  refine zp_iconst (v := (nI 0)) rfl (by decide +kernel) ?_
  refine zp_iload_n (x := a) rfl rfl ?_
  refine zp_call rfl rfl (s_Mod_isClassName ?_)
  cases e1 : g_isC a with
  | false =>
    show zp_wp X y_Mod_moveMember 13 [.ref 171, .int x, .int a, .int m, .int b] [.int (nI 0), .int (nI 0), .int b, .int m, .int a, .int (nI 7), .int x, .ref 171] h Q
    refine zp_ifT (tgt := 35) rfl rfl (by decide +kernel) ?_
    refine zp_iconst (v := (nI 0)) rfl (by decide +kernel) ?_
    refine zq_virt hS rfl rfl (by first | assumption | exact ⟨by decide, rfl⟩) rfl (s_Mod_changesL (by first | (simp only [g_leg, e1, e2, e3]; rfl) | (simp only [g_leg, e1, e2]; rfl) | (simp only [g_leg, e1]; rfl)) hs hB (by decide) (fun l => by simp only [g_leg, Bool.and_eq_true] at l; exact ⟨g_okC l.1.1, g_okM l.1.2, g_okC l.2, g_ok0⟩) (fun h2 hD => ?_))
    show zp_wp X y_Mod_moveMember 39 [.ref 171, .int x, .int a, .int m, .int b] [.int ((z_op s x 7 a m b (nI 0)).2.1)] h2 Q
    refine zp_iret rfl rfl ?_
    exact hq _ hD
  | true =>
    show zp_wp X y_Mod_moveMember 13 [.ref 171, .int x, .int a, .int m, .int b] [.int (nI 1), .int (nI 0), .int b, .int m, .int a, .int (nI 7), .int x, .ref 171] h Q
    refine zp_ifF (tgt := 35) rfl rfl (by decide +kernel) ?_
    refine zp_iload_n (x := m) rfl rfl ?_
    refine zp_call rfl rfl (s_Mod_isMemberName ?_)
    cases e2 : g_isM m with
    | false =>
      show zp_wp X y_Mod_moveMember 20 [.ref 171, .int x, .int a, .int m, .int b] [.int (nI 0), .int (nI 0), .int b, .int m, .int a, .int (nI 7), .int x, .ref 171] h Q
      refine zp_ifT (tgt := 35) rfl rfl (by decide +kernel) ?_
      refine zp_iconst (v := (nI 0)) rfl (by decide +kernel) ?_
      refine zq_virt hS rfl rfl (by first | assumption | exact ⟨by decide, rfl⟩) rfl (s_Mod_changesL (by first | (simp only [g_leg, e1, e2, e3]; rfl) | (simp only [g_leg, e1, e2]; rfl) | (simp only [g_leg, e1]; rfl)) hs hB (by decide) (fun l => by simp only [g_leg, Bool.and_eq_true] at l; exact ⟨g_okC l.1.1, g_okM l.1.2, g_okC l.2, g_ok0⟩) (fun h2 hD => ?_))
      show zp_wp X y_Mod_moveMember 39 [.ref 171, .int x, .int a, .int m, .int b] [.int ((z_op s x 7 a m b (nI 0)).2.1)] h2 Q
      refine zp_iret rfl rfl ?_
      exact hq _ hD
    | true =>
      show zp_wp X y_Mod_moveMember 20 [.ref 171, .int x, .int a, .int m, .int b] [.int (nI 1), .int (nI 0), .int b, .int m, .int a, .int (nI 7), .int x, .ref 171] h Q
      refine zp_ifF (tgt := 35) rfl rfl (by decide +kernel) ?_
      refine zp_iload (x := b) rfl rfl ?_
      refine zp_call rfl rfl (s_Mod_isClassName ?_)
      cases e3 : g_isC b with
      | false =>
        show zp_wp X y_Mod_moveMember 28 [.ref 171, .int x, .int a, .int m, .int b] [.int (nI 0), .int (nI 0), .int b, .int m, .int a, .int (nI 7), .int x, .ref 171] h Q
        refine zp_ifT (tgt := 35) rfl rfl (by decide +kernel) ?_
        refine zp_iconst (v := (nI 0)) rfl (by decide +kernel) ?_
        refine zq_virt hS rfl rfl (by first | assumption | exact ⟨by decide, rfl⟩) rfl (s_Mod_changesL (by first | (simp only [g_leg, e1, e2, e3]; rfl) | (simp only [g_leg, e1, e2]; rfl) | (simp only [g_leg, e1]; rfl)) hs hB (by decide) (fun l => by simp only [g_leg, Bool.and_eq_true] at l; exact ⟨g_okC l.1.1, g_okM l.1.2, g_okC l.2, g_ok0⟩) (fun h2 hD => ?_))
        show zp_wp X y_Mod_moveMember 39 [.ref 171, .int x, .int a, .int m, .int b] [.int ((z_op s x 7 a m b (nI 0)).2.1)] h2 Q
        refine zp_iret rfl rfl ?_
        exact hq _ hD
      | true =>
        show zp_wp X y_Mod_moveMember 28 [.ref 171, .int x, .int a, .int m, .int b] [.int (nI 1), .int (nI 0), .int b, .int m, .int a, .int (nI 7), .int x, .ref 171] h Q
        refine zp_ifF (tgt := 35) rfl rfl (by decide +kernel) ?_
        refine zp_iconst (v := (nI 1)) rfl (by decide +kernel) ?_
        refine zp_goto (tgt := 36) rfl rfl ?_
        refine zq_virt hS rfl rfl (by first | assumption | exact ⟨by decide, rfl⟩) rfl (s_Mod_changesL (by first | (simp only [g_leg, e1, e2, e3]; rfl) | (simp only [g_leg, e1, e2]; rfl) | (simp only [g_leg, e1]; rfl)) hs hB (by decide) (fun l => by simp only [g_leg, Bool.and_eq_true] at l; exact ⟨g_okC l.1.1, g_okM l.1.2, g_okC l.2, g_ok0⟩) (fun h2 hD => ?_))
        show zp_wp X y_Mod_moveMember 39 [.ref 171, .int x, .int a, .int m, .int b] [.int ((z_op s x 7 a m b (nI 0)).2.1)] h2 Q
        refine zp_iret rfl rfl ?_
        exact hq _ hD
theorem s_Mod_addUse {x a m b n : Int32} (hs : zr_S s h) (hB : zr_B s) (hq : ∀ h', zr_D (z_op s x 8 a m b n).2.2 (z_op s x 8 a m b n).1 h h' → Q (.inl (some (.int (z_op s x 8 a m b n).2.1))) h') : zp_wm X y_Mod_addUse [.ref 171, .int x, .int a, .int m, .int b, .int n] h Q := by
  have hS := hs.1
  show zp_wp X y_Mod_addUse 0 [.ref 171, .int x, .int a, .int m, .int b, .int n] [] h Q
  refine zp_aload_n (x := 171) rfl rfl ?_
  refine zp_iload_n (x := x) rfl rfl ?_
  refine zp_bipush (v := (nI 8)) rfl (by decide +kernel) ?_
  refine zp_iload_n (x := a) rfl rfl ?_
  refine zp_iload_n (x := m) rfl rfl ?_
  refine zp_iload (x := b) rfl rfl ?_
  refine zp_iload (x := n) rfl rfl ?_
  refine zp_iload_n (x := a) rfl rfl ?_
  refine zp_iload_n (x := m) rfl rfl ?_
  refine zp_iload (x := b) rfl rfl ?_
  refine zp_iload (x := n) rfl rfl ?_
  refine zp_call rfl rfl (s_Mod_areFour ?_)
  show zp_wp X y_Mod_addUse 19 [.ref 171, .int x, .int a, .int m, .int b, .int n] [.int (zf_b (g_four a m b n)), .int n, .int b, .int m, .int a, .int (nI 8), .int x, .ref 171] h Q
  refine zq_virt hS rfl rfl (by first | assumption | exact ⟨by decide, rfl⟩) rfl (s_Mod_changesL (rfl) hs hB (by decide) (fun l => by simp only [g_leg, g_four, Bool.and_eq_true] at l; exact ⟨g_okC l.1.1.1, g_okM l.1.1.2, g_okC l.1.2, g_okM l.2⟩) (fun h2 hD => ?_))
  show zp_wp X y_Mod_addUse 22 [.ref 171, .int x, .int a, .int m, .int b, .int n] [.int ((z_op s x 8 a m b n).2.1)] h2 Q
  refine zp_iret rfl rfl ?_
  exact hq _ hD
theorem s_Mod_removeUse {x a m b n : Int32} (hs : zr_S s h) (hB : zr_B s) (hq : ∀ h', zr_D (z_op s x 9 a m b n).2.2 (z_op s x 9 a m b n).1 h h' → Q (.inl (some (.int (z_op s x 9 a m b n).2.1))) h') : zp_wm X y_Mod_removeUse [.ref 171, .int x, .int a, .int m, .int b, .int n] h Q := by
  have hS := hs.1
  show zp_wp X y_Mod_removeUse 0 [.ref 171, .int x, .int a, .int m, .int b, .int n] [] h Q
  refine zp_aload_n (x := 171) rfl rfl ?_
  refine zp_iload_n (x := x) rfl rfl ?_
  refine zp_bipush (v := (nI 9)) rfl (by decide +kernel) ?_
  refine zp_iload_n (x := a) rfl rfl ?_
  refine zp_iload_n (x := m) rfl rfl ?_
  refine zp_iload (x := b) rfl rfl ?_
  refine zp_iload (x := n) rfl rfl ?_
  refine zp_iload_n (x := a) rfl rfl ?_
  refine zp_iload_n (x := m) rfl rfl ?_
  refine zp_iload (x := b) rfl rfl ?_
  refine zp_iload (x := n) rfl rfl ?_
  refine zp_call rfl rfl (s_Mod_areFour ?_)
  show zp_wp X y_Mod_removeUse 19 [.ref 171, .int x, .int a, .int m, .int b, .int n] [.int (zf_b (g_four a m b n)), .int n, .int b, .int m, .int a, .int (nI 9), .int x, .ref 171] h Q
  refine zq_virt hS rfl rfl (by first | assumption | exact ⟨by decide, rfl⟩) rfl (s_Mod_changesL (rfl) hs hB (by decide) (fun l => by simp only [g_leg, g_four, Bool.and_eq_true] at l; exact ⟨g_okC l.1.1.1, g_okM l.1.1.2, g_okC l.1.2, g_okM l.2⟩) (fun h2 hD => ?_))
  show zp_wp X y_Mod_removeUse 22 [.ref 171, .int x, .int a, .int m, .int b, .int n] [.int ((z_op s x 9 a m b n).2.1)] h2 Q
  refine zp_iret rfl rfl ?_
  exact hq _ hD
/-! looking -/
def z_ver (s : zst) (x : Int32) : zv := if x = 0 then g_0 s else g_1 s
theorem z_ver_B {x : Int32} (hB : zr_B s) : zv_B (z_ver s x) := by
  unfold z_ver
  split
  · exact hB.1.1
  · exact hB.1.2.1
def z_classes (s : zst) (x : Int32) : Nat × Int32 × zst := cond (g_ver x) (0, nI (v_nc (z_ver s x)), s) (1, nI 0, s)
def z_className (s : zst) (x i : Int32) : Nat × Int32 × zst := cond (g_ver x) (if i < 0 then (1, nI 0, s) else match v_ord (z_ver s x) (i2n i) with
  | none => (1, nI 0, s)
  | some c => (0, nI (v_cn (z_ver s x) c), s)) (1, nI 0, s)
def z_look (s : zst) (x : Int32) (l : Bool) (v : Int32) : Nat × Int32 × zst := (g_wr x l, cond (g_wr x l == 0) v (nI 0), s)
def z_superOf (s : zst) (x a : Int32) : Nat × Int32 × zst := z_look s x (g_isC a) (match v_cls (z_ver s x) (i2n a) with
  | none => -1
  | some c => nI (v_sn (z_ver s x) c))
def z_members (s : zst) (x a : Int32) : Nat × Int32 × zst := z_look s x (g_isC a) (match v_cls (z_ver s x) (i2n a) with
  | none => -1
  | some c => v_msk (z_ver s x) (fun o => o == c))
def z_uses (s : zst) (x : Int32) : Nat × Int32 × zst := cond (g_ver x) (0, nI (v_nu (z_ver s x)), s) (1, nI 0, s)
def v_has (V : zv) (a m b n : Nat) : Bool := match v_mem V (v_cls V a) m, v_mem V (v_cls V b) n with
  | some u, some o => v_us V u o
  | _, _ => false
def z_hasUse (s : zst) (x a m b n : Int32) : Nat × Int32 × zst := z_look s x (g_four a m b n) (zf_b (v_has (z_ver s x) (i2n a) (i2n m) (i2n b) (i2n n)))
theorem zr_look {x : Int32} {t : Int32} (hs : zr_S s h) (hS1 : zs_H (zf_put h 171 9 t)) {h2 : zm_H} (hS2 : zs_H h2) (he : zh_eq (fun a => a = 175) (zf_put h 171 9 t) h2) : zr_F [175] h h2 := (zr_F.f9 hS1).tr (zr_F.cp (T := [175]) hS2 he (by decide) (by decide)) (fun _ q => q)
theorem zr_hs9 {t : Int32} (hs : zr_S s h) (hS1 : zs_H (zf_put h 171 9 t)) : zr_S s (zf_put h 171 9 t) := (zr_F.f9 (T := []) hS1).S hs (by decide)
theorem s_Mod_classes {x : Int32} (hs : zr_S s h) (hB : zr_B s) (hq : ∀ h', zr_D (z_classes s x).2.2 (z_classes s x).1 h h' → Q (.inl (some (.int (z_classes s x).2.1))) h') : zp_wm X y_Mod_classes [.ref 171, .int x] h Q := by
  have hS := hs.1
  unfold z_classes at hq
  show zp_wp X y_Mod_classes 0 [.ref 171, .int x] [] h Q
  cases hx : g_ver x with
  | false =>
    rw [hx] at hq
    refine zp_aload_n (x := 171) rfl rfl ?_
    refine zp_iload_n (x := x) rfl rfl ?_
    refine zq_virt hS rfl rfl (by first | assumption | exact ⟨by decide, rfl⟩) rfl (s_Mod_lacksVersion hS (fun hS1 => ?_))
    rw [hx] at hS1 ⊢
    show zp_wp X y_Mod_classes 5 [.ref 171, .int x] [.int (nI 1)] (zf_put h 171 9 (nI 1)) Q
    refine zp_ifF (tgt := 10) rfl rfl (by decide +kernel) ?_
    refine zp_iconst (v := (nI 0)) rfl (by decide +kernel) ?_
    refine zp_iret rfl rfl ?_
    exact hq _ ((zr_F.f9 (T := []) hS1).D hs (by decide) (by decide) (zf_at9 hS1 zs_M rfl))
  | true =>
    rw [hx] at hq
    refine zp_aload_n (x := 171) rfl rfl ?_
    refine zp_iload_n (x := x) rfl rfl ?_
    refine zq_virt hS rfl rfl (by first | assumption | exact ⟨by decide, rfl⟩) rfl (s_Mod_lacksVersion hS (fun hS1 => ?_))
    rw [hx] at hS1 ⊢
    have hs1 := zr_hs9 hs hS1
    have hS := hS1
    show zp_wp X y_Mod_classes 5 [.ref 171, .int x] [.int (nI 0)] (zf_put h 171 9 (nI 0)) Q
    refine zp_ifT (tgt := 10) rfl rfl (by decide +kernel) ?_
    refine zp_aload_n (x := 171) rfl rfl ?_
    refine zp_iload_n (x := x) rfl rfl ?_
    refine zq_virt hS rfl rfl (by first | assumption | exact ⟨by decide, rfl⟩) rfl (s_Mod_looks hS hx hs1.2.1.1 hs1.2.1.2.1 (fun h2 hS2 he hV => ?_))
    have hS := hS2
    have hV : zv_R (z_ver s x) (ci h2 175) := hV
    show zp_wp X y_Mod_classes 15 [.ref 171, .int x] [] h2 Q
    refine zp_aload_n (x := 171) rfl rfl ?_
    refine zq_getr (k9 := 175) hS rfl (by first | assumption | exact ⟨by decide, rfl⟩) rfl ?_
    refine zp_iconst (v := (nI 0)) rfl (by decide +kernel) ?_
    refine zp_bipush (v := (nI 12)) rfl (by decide +kernel) ?_
    refine zp_call rfl rfl (s_Mod_countOf (p := fun i => !(v_cn (z_ver s x) i == 0)) hS ⟨by decide, rfl⟩ (by decide) (fun i hi => by rw [(zv_cz hV (z_ver_B hB)).1 i hi]; simp) ?_)
    show zp_wp X y_Mod_classes 25 [.ref 171, .int x] [.int (nI (v_nc (z_ver s x)))] h2 Q
    refine zp_iret rfl rfl ?_
    exact hq _ ((zr_look (x := x) hs hS1 hS2 he).D hs (by decide) (by decide) (by rw [he.gf (by decide)]; exact zf_at9 hS1 zs_M rfl))
theorem s_Mod_uses {x : Int32} (hs : zr_S s h) (hB : zr_B s) (hq : ∀ h', zr_D (z_uses s x).2.2 (z_uses s x).1 h h' → Q (.inl (some (.int (z_uses s x).2.1))) h') : zp_wm X y_Mod_uses [.ref 171, .int x] h Q := by
  have hS := hs.1
  unfold z_uses at hq
  show zp_wp X y_Mod_uses 0 [.ref 171, .int x] [] h Q
  cases hx : g_ver x with
  | false =>
    rw [hx] at hq
    refine zp_aload_n (x := 171) rfl rfl ?_
    refine zp_iload_n (x := x) rfl rfl ?_
    refine zq_virt hS rfl rfl (by first | assumption | exact ⟨by decide, rfl⟩) rfl (s_Mod_lacksVersion hS (fun hS1 => ?_))
    rw [hx] at hS1 ⊢
    show zp_wp X y_Mod_uses 5 [.ref 171, .int x] [.int (nI 1)] (zf_put h 171 9 (nI 1)) Q
    refine zp_ifF (tgt := 10) rfl rfl (by decide +kernel) ?_
    refine zp_iconst (v := (nI 0)) rfl (by decide +kernel) ?_
    refine zp_iret rfl rfl ?_
    exact hq _ ((zr_F.f9 (T := []) hS1).D hs (by decide) (by decide) (zf_at9 hS1 zs_M rfl))
  | true =>
    rw [hx] at hq
    refine zp_aload_n (x := 171) rfl rfl ?_
    refine zp_iload_n (x := x) rfl rfl ?_
    refine zq_virt hS rfl rfl (by first | assumption | exact ⟨by decide, rfl⟩) rfl (s_Mod_lacksVersion hS (fun hS1 => ?_))
    rw [hx] at hS1 ⊢
    have hs1 := zr_hs9 hs hS1
    have hS := hS1
    show zp_wp X y_Mod_uses 5 [.ref 171, .int x] [.int (nI 0)] (zf_put h 171 9 (nI 0)) Q
    refine zp_ifT (tgt := 10) rfl rfl (by decide +kernel) ?_
    refine zp_aload_n (x := 171) rfl rfl ?_
    refine zp_iload_n (x := x) rfl rfl ?_
    refine zq_virt hS rfl rfl (by first | assumption | exact ⟨by decide, rfl⟩) rfl (s_Mod_looks hS hx hs1.2.1.1 hs1.2.1.2.1 (fun h2 hS2 he hV => ?_))
    have hS := hS2
    have hV : zv_R (z_ver s x) (ci h2 175) := hV
    show zp_wp X y_Mod_uses 15 [.ref 171, .int x] [] h2 Q
    refine zp_aload_n (x := 171) rfl rfl ?_
    refine zq_getr (k9 := 175) hS rfl (by first | assumption | exact ⟨by decide, rfl⟩) rfl ?_
    refine zp_bipush (v := (nI 104)) rfl (by decide +kernel) ?_
    refine zp_sipush (v := (nI 1600)) rfl (by decide +kernel) ?_
    refine zp_call rfl rfl (s_Mod_countOf (p := fun i => v_us (z_ver s x) (i / 40) (i % 40)) hS ⟨by decide, rfl⟩ (by decide) (zv_cu hV) ?_)
    show zp_wp X y_Mod_uses 27 [.ref 171, .int x] [.int (nI (v_nu (z_ver s x)))] h2 Q
    refine zp_iret rfl rfl ?_
    exact hq _ ((zr_look (x := x) hs hS1 hS2 he).D hs (by decide) (by decide) (by rw [he.gf (by decide)]; exact zf_at9 hS1 zs_M rfl))
theorem s_Mod_className {x i : Int32} (hs : zr_S s h) (hB : zr_B s) (hq : ∀ h', zr_D (z_className s x i).2.2 (z_className s x i).1 h h' → Q (.inl (some (.int (z_className s x i).2.1))) h') : zp_wm X y_Mod_className [.ref 171, .int x, .int i] h Q := by
  have hS := hs.1
  unfold z_className at hq
  show zp_wp X y_Mod_className 0 [.ref 171, .int x, .int i, zm_mk] [] h Q
  cases hx : g_ver x with
  | false =>
    rw [hx] at hq
    refine zp_aload_n (x := 171) rfl rfl ?_
    refine zp_iload_n (x := x) rfl rfl ?_
    refine zq_virt hS rfl rfl (by first | assumption | exact ⟨by decide, rfl⟩) rfl (s_Mod_lacksVersion hS (fun hS1 => ?_))
    rw [hx] at hS1 ⊢
    show zp_wp X y_Mod_className 5 [.ref 171, .int x, .int i, zm_mk] [.int (nI 1)] (zf_put h 171 9 (nI 1)) Q
    refine zp_ifF (tgt := 10) rfl rfl (by decide +kernel) ?_
    refine zp_iconst (v := (nI 0)) rfl (by decide +kernel) ?_
    refine zp_iret rfl rfl ?_
    exact hq _ ((zr_F.f9 (T := []) hS1).D hs (by decide) (by decide) (zf_at9 hS1 zs_M rfl))
  | true =>
    rw [hx] at hq
    simp only [cond_true] at hq
    refine zp_aload_n (x := 171) rfl rfl ?_
    refine zp_iload_n (x := x) rfl rfl ?_
    refine zq_virt hS rfl rfl (by first | assumption | exact ⟨by decide, rfl⟩) rfl (s_Mod_lacksVersion hS (fun hS1 => ?_))
    rw [hx] at hS1 ⊢
    have hs1 := zr_hs9 hs hS1
    have hS := hS1
    show zp_wp X y_Mod_className 5 [.ref 171, .int x, .int i, zm_mk] [.int (nI 0)] (zf_put h 171 9 (nI 0)) Q
    refine zp_ifT (tgt := 10) rfl rfl (by decide +kernel) ?_
    refine zp_aload_n (x := 171) rfl rfl ?_
    refine zp_iload_n (x := x) rfl rfl ?_
    refine zq_virt hS rfl rfl (by first | assumption | exact ⟨by decide, rfl⟩) rfl (s_Mod_looks hS hx hs1.2.1.1 hs1.2.1.2.1 (fun h2 hS2 he hV => ?_))
    have hS := hS2
    have hV : zv_R (z_ver s x) (ci h2 175) := hV
    have hF := zr_look (x := x) hs hS1 hS2 he
    have h9 : cf h2 171 9 = nI 0 := by rw [he.gf (by decide)]; exact zf_at9 hS1 zs_M rfl
    show zp_wp X y_Mod_className 15 [.ref 171, .int x, .int i, zm_mk] [] h2 Q
    refine zp_iload_n (x := i) rfl rfl ?_
    refine zp_if_ge (tgt := 23) rfl rfl (fun b16 => ?_) (fun b16 => ?_)
    · rw [if_neg (Int32.not_lt.mpr b16)] at hq
      have hi2 : i2n i < 2 ^ 31 := by unfold i2n Int32.toNatClampNeg; have := Int32.toInt_lt i; omega
      have hi3 := nI_i2n b16
      generalize i2n i = i' at hq hi2 hi3
      subst hi3
      show zp_wp X y_Mod_className 23 [.ref 171, .int x, .int (nI i'), zm_mk] [] h2 Q
      refine zp_aload_n (x := 171) rfl rfl ?_
      refine zq_getr (k9 := 175) hS rfl (by first | assumption | exact ⟨by decide, rfl⟩) rfl ?_
      refine zp_iload_n (x := (nI i')) rfl rfl ?_
      refine zp_call rfl rfl (s_Mod_ordered hS ⟨by decide, rfl⟩ hV (z_ver_B hB) hi2 ?_)
      cases hz : v_ord (z_ver s x) i' with
      | none =>
        show zp_wp X y_Mod_className 31 [.ref 171, .int x, .int (nI i'), zm_mk] [.int (-1)] h2 Q
        refine zp_istore_n_3 rfl rfl ?_
        refine zp_iload_n (x := (-1)) rfl rfl ?_
        refine zp_ifF (tgt := 44) rfl rfl (by decide +kernel) ?_
        refine zp_aload_n (x := 171) rfl rfl ?_
        refine zp_iconst (v := (nI 1)) rfl (by decide +kernel) ?_
        refine zq_virt hS rfl rfl (by first | assumption | exact ⟨by decide, rfl⟩) rfl (s_Mod_fails hS (fun hS3 => ?_))
        show zp_wp X y_Mod_className 41 [.ref 171, .int x, .int (nI i'), .int (-1)] [.int (nI 0)] (zf_put h2 171 9 (nI 1)) Q
        refine zp_goto (tgt := 50) rfl rfl ?_
        refine zp_iret rfl rfl ?_
        first | (rw [hz] at hq; exact hq _ (hF.D hs (by decide) (by decide) h9)) | (rw [hz] at hq; exact hq _ ((hF.tr (zr_F.f9 (T := []) hS3) (fun _ q => by cases q)).D hs (by decide) (by decide) (zf_at9 hS3 zs_M rfl))) | exact hq _ ((hF.tr (zr_F.f9 (T := []) hS3) (fun _ q => by cases q)).D hs (by decide) (by decide) (zf_at9 hS3 zs_M rfl))
      | some c =>
        have hc := v_ord_12 c hz
        show zp_wp X y_Mod_className 31 [.ref 171, .int x, .int (nI i'), zm_mk] [.int (nI c)] h2 Q
        refine zp_istore_n_3 rfl rfl ?_
        refine zp_iload_n (x := (nI c)) rfl rfl ?_
        refine zp_ifT (tgt := 44) rfl rfl (zc_ge (by omega)) ?_
        refine zp_aload_n (x := 171) rfl rfl ?_
        refine zq_getr (k9 := 175) hS rfl (by first | assumption | exact ⟨by decide, rfl⟩) rfl ?_
        refine zp_iload_n (x := (nI c)) rfl rfl ?_
        refine zq_iald hS rfl (by first | assumption | exact ⟨by decide, rfl⟩) (by omega) (by decide) ?_
        rw [hV.1 c (by omega)]
        refine zp_iret rfl rfl ?_
        first | (rw [hz] at hq; exact hq _ (hF.D hs (by decide) (by decide) h9)) | (rw [hz] at hq; exact hq _ ((hF.tr (zr_F.f9 (T := []) hS3) (fun _ q => by cases q)).D hs (by decide) (by decide) (zf_at9 hS3 zs_M rfl))) | exact hq _ ((hF.tr (zr_F.f9 (T := []) hS3) (fun _ q => by cases q)).D hs (by decide) (by decide) (zf_at9 hS3 zs_M rfl))
    · rw [if_pos (Int32.not_le.mp b16)] at hq
      refine zp_iconst (v := (-1)) rfl (by decide +kernel) ?_
      refine zp_goto (tgt := 31) rfl rfl ?_
      refine zp_istore_n_3 rfl rfl ?_
      refine zp_iload_n (x := (-1)) rfl rfl ?_
      refine zp_ifF (tgt := 44) rfl rfl (by decide +kernel) ?_
      refine zp_aload_n (x := 171) rfl rfl ?_
      refine zp_iconst (v := (nI 1)) rfl (by decide +kernel) ?_
      refine zq_virt hS rfl rfl (by first | assumption | exact ⟨by decide, rfl⟩) rfl (s_Mod_fails hS (fun hS3 => ?_))
      show zp_wp X y_Mod_className 41 [.ref 171, .int x, .int i, .int (-1)] [.int (nI 0)] (zf_put h2 171 9 (nI 1)) Q
      refine zp_goto (tgt := 50) rfl rfl ?_
      refine zp_iret rfl rfl ?_
      first | (rw [hz] at hq; exact hq _ (hF.D hs (by decide) (by decide) h9)) | (rw [hz] at hq; exact hq _ ((hF.tr (zr_F.f9 (T := []) hS3) (fun _ q => by cases q)).D hs (by decide) (by decide) (zf_at9 hS3 zs_M rfl))) | exact hq _ ((hF.tr (zr_F.f9 (T := []) hS3) (fun _ q => by cases q)).D hs (by decide) (by decide) (zf_at9 hS3 zs_M rfl))

theorem s_Mod_superOf {x a : Int32} (hs : zr_S s h) (hB : zr_B s) (hq : ∀ h', zr_D (z_superOf s x a).2.2 (z_superOf s x a).1 h h' → Q (.inl (some (.int (z_superOf s x a).2.1))) h') : zp_wm X y_Mod_superOf [.ref 171, .int x, .int a] h Q := by
  have hS := hs.1
  unfold z_superOf z_look at hq
  show zp_wp X y_Mod_superOf 0 [.ref 171, .int x, .int a, zm_mk] [] h Q
  cases hw : (g_wr x (g_isC a) == 0) with
  | false =>
    rw [hw] at hq
    refine zp_aload_n (x := 171) rfl rfl ?_
    refine zp_iload_n (x := x) rfl rfl ?_
    refine zp_iload_n (x := a) rfl rfl ?_
    refine zp_call rfl rfl (s_Mod_isClassName ?_)
    show zp_wp X y_Mod_superOf 6 [.ref 171, .int x, .int a, zm_mk] [.int (zf_b (g_isC a)), .int x, .ref 171] h Q
    refine zq_virt hS rfl rfl (by first | assumption | exact ⟨by decide, rfl⟩) rfl (s_Mod_isWrong hS (fun hS1 => ?_))
    rw [hw]
    show zp_wp X y_Mod_superOf 9 [.ref 171, .int x, .int a, zm_mk] [.int (nI 1)] (zf_put h 171 9 (nI (g_wr x (g_isC a)))) Q
    refine zp_ifF (tgt := 14) rfl rfl (by decide +kernel) ?_
    refine zp_iconst (v := (nI 0)) rfl (by decide +kernel) ?_
    refine zp_iret rfl rfl ?_
    exact hq _ ((zr_F.f9 (T := []) hS1).D hs (by decide) (by decide) (zf_at9 hS1 zs_M rfl))
  | true =>
    have hw0 : g_wr x (g_isC a) = 0 := by simpa using hw
    have hl : g_ver x = true ∧ g_isC a = true := by
      unfold g_wr at hw0
      cases e1 : g_ver x <;> cases e2 : g_isC a <;> simp [e1, e2] at hw0 ⊢
    obtain ⟨hx, ha⟩ := hl
    obtain ⟨ha1, ha2⟩ := g_okC ha
    rw [hw, hw0] at hq
    refine zp_aload_n (x := 171) rfl rfl ?_
    refine zp_iload_n (x := x) rfl rfl ?_
    refine zp_iload_n (x := a) rfl rfl ?_
    refine zp_call rfl rfl (s_Mod_isClassName ?_)
    show zp_wp X y_Mod_superOf 6 [.ref 171, .int x, .int a, zm_mk] [.int (zf_b (g_isC a)), .int x, .ref 171] h Q
    refine zq_virt hS rfl rfl (by first | assumption | exact ⟨by decide, rfl⟩) rfl (s_Mod_isWrong hS (fun hS1 => ?_))
    rw [hw]
    rw [hw0] at hS1 ⊢
    have hs1 := zr_hs9 hs hS1
    have hS := hS1
    show zp_wp X y_Mod_superOf 9 [.ref 171, .int x, .int a, zm_mk] [.int (nI 0)] (zf_put h 171 9 (nI 0)) Q
    refine zp_ifT (tgt := 14) rfl rfl (by decide +kernel) ?_
    refine zp_aload_n (x := 171) rfl rfl ?_
    refine zp_iload_n (x := x) rfl rfl ?_
    refine zq_virt hS rfl rfl (by first | assumption | exact ⟨by decide, rfl⟩) rfl (s_Mod_looks hS hx hs1.2.1.1 hs1.2.1.2.1 (fun h2 hS2 he hV => ?_))
    have hS := hS2
    have hV : zv_R (z_ver s x) (ci h2 175) := hV
    have hF := zr_look (x := x) hs hS1 hS2 he
    have h9 : cf h2 171 9 = nI 0 := by rw [he.gf (by decide)]; exact zf_at9 hS1 zs_M rfl
    show zp_wp X y_Mod_superOf 19 [.ref 171, .int x, .int a, zm_mk] [] h2 Q
    rw [← ha1]
    generalize i2n a = a' at *
    show zp_wp X y_Mod_superOf 19 [.ref 171, .int x, .int (nI a'), zm_mk] [] h2 Q
    refine zp_aload_n (x := 171) rfl rfl ?_
    refine zq_getr (k9 := 175) hS rfl (by first | assumption | exact ⟨by decide, rfl⟩) rfl ?_
    refine zp_iload_n (x := (nI a')) rfl rfl ?_
    refine zp_call rfl rfl (t_Mod_classAt hS ⟨by decide, rfl⟩ hV (z_ver_B hB) (by omega) ?_)
    cases hz : v_cls (z_ver s x) a' with
    | none =>
      show zp_wp X y_Mod_superOf 27 [.ref 171, .int x, .int (nI a'), zm_mk] [.int (-1)] h2 Q
      refine zp_istore_n_3 rfl rfl ?_
      refine zp_iload_n (x := (-1)) rfl rfl ?_
      refine zp_ifF (tgt := 36) rfl rfl (by decide +kernel) ?_
      refine zp_iconst (v := (-1)) rfl (by decide +kernel) ?_
      refine zp_goto (tgt := 44) rfl rfl ?_
      refine zp_iret rfl rfl ?_
      rw [hz] at hq; exact hq _ (hF.D hs (by decide) (by decide) h9)
    | some c =>
      have hc := (v_cls_lt hz).1
      show zp_wp X y_Mod_superOf 27 [.ref 171, .int x, .int (nI a'), zm_mk] [.int (nI c)] h2 Q
      refine zp_istore_n_3 rfl rfl ?_
      refine zp_iload_n (x := (nI c)) rfl rfl ?_
      refine zp_ifT (tgt := 36) rfl rfl (zc_ge (by omega)) ?_
      refine zp_aload_n (x := 171) rfl rfl ?_
      refine zq_getr (k9 := 175) hS rfl (by first | assumption | exact ⟨by decide, rfl⟩) rfl ?_
      refine zp_iload_n (x := (nI c)) rfl rfl ?_
      refine zp_call rfl rfl (s_Mod_nameOfSuper hS ⟨by decide, rfl⟩ hV (z_ver_B hB) hc ?_)
      show zp_wp X y_Mod_superOf 44 [.ref 171, .int x, .int (nI a'), .int (nI c)] [.int (nI (v_sn (z_ver s x) c))] h2 Q
      refine zp_iret rfl rfl ?_
      rw [hz] at hq; exact hq _ (hF.D hs (by decide) (by decide) h9)
theorem s_Mod_members {x a : Int32} (hs : zr_S s h) (hB : zr_B s) (hq : ∀ h', zr_D (z_members s x a).2.2 (z_members s x a).1 h h' → Q (.inl (some (.int (z_members s x a).2.1))) h') : zp_wm X y_Mod_members [.ref 171, .int x, .int a] h Q := by
  have hS := hs.1
  unfold z_members z_look at hq
  show zp_wp X y_Mod_members 0 [.ref 171, .int x, .int a, zm_mk] [] h Q
  cases hw : (g_wr x (g_isC a) == 0) with
  | false =>
    rw [hw] at hq
    refine zp_aload_n (x := 171) rfl rfl ?_
    refine zp_iload_n (x := x) rfl rfl ?_
    refine zp_iload_n (x := a) rfl rfl ?_
    refine zp_call rfl rfl (s_Mod_isClassName ?_)
    show zp_wp X y_Mod_members 6 [.ref 171, .int x, .int a, zm_mk] [.int (zf_b (g_isC a)), .int x, .ref 171] h Q
    refine zq_virt hS rfl rfl (by first | assumption | exact ⟨by decide, rfl⟩) rfl (s_Mod_isWrong hS (fun hS1 => ?_))
    rw [hw]
    show zp_wp X y_Mod_members 9 [.ref 171, .int x, .int a, zm_mk] [.int (nI 1)] (zf_put h 171 9 (nI (g_wr x (g_isC a)))) Q
    refine zp_ifF (tgt := 14) rfl rfl (by decide +kernel) ?_
    refine zp_iconst (v := (nI 0)) rfl (by decide +kernel) ?_
    refine zp_iret rfl rfl ?_
    exact hq _ ((zr_F.f9 (T := []) hS1).D hs (by decide) (by decide) (zf_at9 hS1 zs_M rfl))
  | true =>
    have hw0 : g_wr x (g_isC a) = 0 := by simpa using hw
    have hl : g_ver x = true ∧ g_isC a = true := by
      unfold g_wr at hw0
      cases e1 : g_ver x <;> cases e2 : g_isC a <;> simp [e1, e2] at hw0 ⊢
    obtain ⟨hx, ha⟩ := hl
    obtain ⟨ha1, ha2⟩ := g_okC ha
    rw [hw, hw0] at hq
    refine zp_aload_n (x := 171) rfl rfl ?_
    refine zp_iload_n (x := x) rfl rfl ?_
    refine zp_iload_n (x := a) rfl rfl ?_
    refine zp_call rfl rfl (s_Mod_isClassName ?_)
    show zp_wp X y_Mod_members 6 [.ref 171, .int x, .int a, zm_mk] [.int (zf_b (g_isC a)), .int x, .ref 171] h Q
    refine zq_virt hS rfl rfl (by first | assumption | exact ⟨by decide, rfl⟩) rfl (s_Mod_isWrong hS (fun hS1 => ?_))
    rw [hw]
    rw [hw0] at hS1 ⊢
    have hs1 := zr_hs9 hs hS1
    have hS := hS1
    show zp_wp X y_Mod_members 9 [.ref 171, .int x, .int a, zm_mk] [.int (nI 0)] (zf_put h 171 9 (nI 0)) Q
    refine zp_ifT (tgt := 14) rfl rfl (by decide +kernel) ?_
    refine zp_aload_n (x := 171) rfl rfl ?_
    refine zp_iload_n (x := x) rfl rfl ?_
    refine zq_virt hS rfl rfl (by first | assumption | exact ⟨by decide, rfl⟩) rfl (s_Mod_looks hS hx hs1.2.1.1 hs1.2.1.2.1 (fun h2 hS2 he hV => ?_))
    have hS := hS2
    have hV : zv_R (z_ver s x) (ci h2 175) := hV
    have hF := zr_look (x := x) hs hS1 hS2 he
    have h9 : cf h2 171 9 = nI 0 := by rw [he.gf (by decide)]; exact zf_at9 hS1 zs_M rfl
    show zp_wp X y_Mod_members 19 [.ref 171, .int x, .int a, zm_mk] [] h2 Q
    rw [← ha1]
    generalize i2n a = a' at *
    show zp_wp X y_Mod_members 19 [.ref 171, .int x, .int (nI a'), zm_mk] [] h2 Q
    refine zp_aload_n (x := 171) rfl rfl ?_
    refine zq_getr (k9 := 175) hS rfl (by first | assumption | exact ⟨by decide, rfl⟩) rfl ?_
    refine zp_iload_n (x := (nI a')) rfl rfl ?_
    refine zp_call rfl rfl (t_Mod_classAt hS ⟨by decide, rfl⟩ hV (z_ver_B hB) (by omega) ?_)
    cases hz : v_cls (z_ver s x) a' with
    | none =>
      show zp_wp X y_Mod_members 27 [.ref 171, .int x, .int (nI a'), zm_mk] [.int (-1)] h2 Q
      refine zp_istore_n_3 rfl rfl ?_
      refine zp_iload_n (x := (-1)) rfl rfl ?_
      refine zp_ifF (tgt := 36) rfl rfl (by decide +kernel) ?_
      refine zp_iconst (v := (-1)) rfl (by decide +kernel) ?_
      refine zp_goto (tgt := 44) rfl rfl ?_
      refine zp_iret rfl rfl ?_
      rw [hz] at hq; exact hq _ (hF.D hs (by decide) (by decide) h9)
    | some c =>
      have hc := (v_cls_lt hz).1
      show zp_wp X y_Mod_members 27 [.ref 171, .int x, .int (nI a'), zm_mk] [.int (nI c)] h2 Q
      refine zp_istore_n_3 rfl rfl ?_
      refine zp_iload_n (x := (nI c)) rfl rfl ?_
      refine zp_ifT (tgt := 36) rfl rfl (zc_ge (by omega)) ?_
      refine zp_aload_n (x := 171) rfl rfl ?_
      refine zq_getr (k9 := 175) hS rfl (by first | assumption | exact ⟨by decide, rfl⟩) rfl ?_
      refine zp_iload_n (x := (nI c)) rfl rfl ?_
      refine zp_call rfl rfl (s_Mod_membersOf hS ⟨by decide, rfl⟩ hV (z_ver_B hB) hc ?_)
      show zp_wp X y_Mod_members 44 [.ref 171, .int x, .int (nI a'), .int (nI c)] [.int (v_msk (z_ver s x) (fun o => o == c))] h2 Q
      refine zp_iret rfl rfl ?_
      rw [hz] at hq; exact hq _ (hF.D hs (by decide) (by decide) h9)
theorem s_Mod_hasUse {x a m b n : Int32} (hs : zr_S s h) (hB : zr_B s) (hq : ∀ h', zr_D (z_hasUse s x a m b n).2.2 (z_hasUse s x a m b n).1 h h' → Q (.inl (some (.int (z_hasUse s x a m b n).2.1))) h') : zp_wm X y_Mod_hasUse [.ref 171, .int x, .int a, .int m, .int b, .int n] h Q := by
  have hS := hs.1
  unfold z_hasUse z_look at hq
  show zp_wp X y_Mod_hasUse 0 [.ref 171, .int x, .int a, .int m, .int b, .int n, zm_mk, zm_mk] [] h Q
  cases hw : (g_wr x (g_four a m b n) == 0) with
  | false =>
    rw [hw] at hq
    refine zp_aload_n (x := 171) rfl rfl ?_
    refine zp_iload_n (x := x) rfl rfl ?_
    refine zp_iload_n (x := a) rfl rfl ?_
    refine zp_iload_n (x := m) rfl rfl ?_
    refine zp_iload (x := b) rfl rfl ?_
    refine zp_iload (x := n) rfl rfl ?_
    refine zp_call rfl rfl (s_Mod_areFour ?_)
    show zp_wp X y_Mod_hasUse 11 [.ref 171, .int x, .int a, .int m, .int b, .int n, zm_mk, zm_mk] [.int (zf_b (g_four a m b n)), .int x, .ref 171] h Q
    refine zq_virt hS rfl rfl (by first | assumption | exact ⟨by decide, rfl⟩) rfl (s_Mod_isWrong hS (fun hS1 => ?_))
    rw [hw]
    show zp_wp X y_Mod_hasUse 14 [.ref 171, .int x, .int a, .int m, .int b, .int n, zm_mk, zm_mk] [.int (nI 1)] (zf_put h 171 9 (nI (g_wr x (g_four a m b n)))) Q
    refine zp_ifF (tgt := 19) rfl rfl (by decide +kernel) ?_
    refine zp_iconst (v := (nI 0)) rfl (by decide +kernel) ?_
    refine zp_zret rfl rfl (by decide) ?_
    exact hq _ ((zr_F.f9 (T := []) hS1).D hs (by decide) (by decide) (zf_at9 hS1 zs_M rfl))
  | true =>
    have hw0 : g_wr x (g_four a m b n) = 0 := by simpa using hw
    have hl : g_ver x = true ∧ g_four a m b n = true := by
      unfold g_wr at hw0
      cases e1 : g_ver x <;> cases e2 : g_four a m b n <;> simp [e1, e2] at hw0 ⊢
    obtain ⟨hx, hl⟩ := hl
    have hl2 := hl
    simp only [g_four, Bool.and_eq_true] at hl2
    obtain ⟨ha1, ha2⟩ := g_okC hl2.1.1.1
    obtain ⟨hm1, hm2⟩ := g_okM hl2.1.1.2
    obtain ⟨hb1, hb2⟩ := g_okC hl2.1.2
    obtain ⟨hn1, hn2⟩ := g_okM hl2.2
    rw [hw, hw0] at hq
    refine zp_aload_n (x := 171) rfl rfl ?_
    refine zp_iload_n (x := x) rfl rfl ?_
    refine zp_iload_n (x := a) rfl rfl ?_
    refine zp_iload_n (x := m) rfl rfl ?_
    refine zp_iload (x := b) rfl rfl ?_
    refine zp_iload (x := n) rfl rfl ?_
    refine zp_call rfl rfl (s_Mod_areFour ?_)
    show zp_wp X y_Mod_hasUse 11 [.ref 171, .int x, .int a, .int m, .int b, .int n, zm_mk, zm_mk] [.int (zf_b (g_four a m b n)), .int x, .ref 171] h Q
    refine zq_virt hS rfl rfl (by first | assumption | exact ⟨by decide, rfl⟩) rfl (s_Mod_isWrong hS (fun hS1 => ?_))
    rw [hw]
    rw [hw0] at hS1 ⊢
    have hs1 := zr_hs9 hs hS1
    have hS := hS1
    show zp_wp X y_Mod_hasUse 14 [.ref 171, .int x, .int a, .int m, .int b, .int n, zm_mk, zm_mk] [.int (nI 0)] (zf_put h 171 9 (nI 0)) Q
    refine zp_ifT (tgt := 19) rfl rfl (by decide +kernel) ?_
    refine zp_aload_n (x := 171) rfl rfl ?_
    refine zp_iload_n (x := x) rfl rfl ?_
    refine zq_virt hS rfl rfl (by first | assumption | exact ⟨by decide, rfl⟩) rfl (s_Mod_looks hS hx hs1.2.1.1 hs1.2.1.2.1 (fun h2 hS2 he hV => ?_))
    have hS := hS2
    have hV : zv_R (z_ver s x) (ci h2 175) := hV
    have hF := zr_look (x := x) hs hS1 hS2 he
    have h9 : cf h2 171 9 = nI 0 := by rw [he.gf (by decide)]; exact zf_at9 hS1 zs_M rfl
    show zp_wp X y_Mod_hasUse 24 [.ref 171, .int x, .int a, .int m, .int b, .int n, zm_mk, zm_mk] [] h2 Q
    clear hl hl2 hw hw0
    generalize i2n a = a', i2n m = m', i2n b = b', i2n n = n' at *
    subst ha1 hm1 hb1 hn1
    simp only [cond_true] at hq
    unfold v_has at hq
    show zp_wp X y_Mod_hasUse 24 [.ref 171, .int x, .int (nI a'), .int (nI m'), .int (nI b'), .int (nI n'), zm_mk, zm_mk] [] h2 Q
    refine zp_aload_n (x := 171) rfl rfl ?_
    refine zq_getr (k9 := 175) hS rfl (by first | assumption | exact ⟨by decide, rfl⟩) rfl ?_
    refine zp_iload_n (x := (nI a')) rfl rfl ?_
    refine zp_iload_n (x := (nI m')) rfl rfl ?_
    refine zp_call rfl rfl (t_Mod_memberOf hS ⟨by decide, rfl⟩ hV (z_ver_B hB) (by omega) (by omega) ?_)
    cases hz : v_mem (z_ver s x) (v_cls (z_ver s x) a') m' with
    | none =>
      show zp_wp X y_Mod_hasUse 33 [.ref 171, .int x, .int (nI a'), .int (nI m'), .int (nI b'), .int (nI n'), zm_mk, zm_mk] [.int (-1)] h2 Q
      refine zp_istore_6 rfl rfl ?_
      refine zp_aload_n (x := 171) rfl rfl ?_
      refine zq_getr (k9 := 175) hS rfl (by first | assumption | exact ⟨by decide, rfl⟩) rfl ?_
      refine zp_iload (x := (nI b')) rfl rfl ?_
      refine zp_iload (x := (nI n')) rfl rfl ?_
      refine zp_call rfl rfl (t_Mod_memberOf hS ⟨by decide, rfl⟩ hV (z_ver_B hB) (by omega) (by omega) ?_)
      cases hy : v_mem (z_ver s x) (v_cls (z_ver s x) b') n' with
      | none =>
        show zp_wp X y_Mod_hasUse 46 [.ref 171, .int x, .int (nI a'), .int (nI m'), .int (nI b'), .int (nI n'), .int (-1), zm_mk] [.int (-1)] h2 Q
        refine zp_istore_7 rfl rfl ?_
        refine zp_iload (x := (-1)) rfl rfl ?_
        refine zp_ifT (tgt := 82) rfl rfl (by decide +kernel) ?_
        refine zp_iconst (v := (nI 0)) rfl (by decide +kernel) ?_
        refine zp_zret rfl rfl (by decide) ?_
        first | (simp only [hz, hy, hus] at hq; exact hq _ (hF.D hs (by decide) (by decide) h9)) | (simp only [hz, hy] at hq; exact hq _ (hF.D hs (by decide) (by decide) h9))
      | some o =>
        have ho := (v_mem_lt hy).1
        show zp_wp X y_Mod_hasUse 46 [.ref 171, .int x, .int (nI a'), .int (nI m'), .int (nI b'), .int (nI n'), .int (-1), zm_mk] [.int (nI o)] h2 Q
        refine zp_istore_7 rfl rfl ?_
        refine zp_iload (x := (-1)) rfl rfl ?_
        refine zp_ifT (tgt := 82) rfl rfl (by decide +kernel) ?_
        refine zp_iconst (v := (nI 0)) rfl (by decide +kernel) ?_
        refine zp_zret rfl rfl (by decide) ?_
        first | (simp only [hz, hy, hus] at hq; exact hq _ (hF.D hs (by decide) (by decide) h9)) | (simp only [hz, hy] at hq; exact hq _ (hF.D hs (by decide) (by decide) h9))
    | some u =>
      have hu := (v_mem_lt hz).1
      show zp_wp X y_Mod_hasUse 33 [.ref 171, .int x, .int (nI a'), .int (nI m'), .int (nI b'), .int (nI n'), zm_mk, zm_mk] [.int (nI u)] h2 Q
      refine zp_istore_6 rfl rfl ?_
      refine zp_aload_n (x := 171) rfl rfl ?_
      refine zq_getr (k9 := 175) hS rfl (by first | assumption | exact ⟨by decide, rfl⟩) rfl ?_
      refine zp_iload (x := (nI b')) rfl rfl ?_
      refine zp_iload (x := (nI n')) rfl rfl ?_
      refine zp_call rfl rfl (t_Mod_memberOf hS ⟨by decide, rfl⟩ hV (z_ver_B hB) (by omega) (by omega) ?_)
      cases hy : v_mem (z_ver s x) (v_cls (z_ver s x) b') n' with
      | none =>
        show zp_wp X y_Mod_hasUse 46 [.ref 171, .int x, .int (nI a'), .int (nI m'), .int (nI b'), .int (nI n'), .int (nI u), zm_mk] [.int (-1)] h2 Q
        refine zp_istore_7 rfl rfl ?_
        refine zp_iload (x := (nI u)) rfl rfl ?_
        refine zp_ifF (tgt := 82) rfl rfl (zc_lt (by omega)) ?_
        refine zp_iload (x := (-1)) rfl rfl ?_
        refine zp_ifT (tgt := 82) rfl rfl (by decide +kernel) ?_
        refine zp_iconst (v := (nI 0)) rfl (by decide +kernel) ?_
        refine zp_zret rfl rfl (by decide) ?_
        first | (simp only [hz, hy, hus] at hq; exact hq _ (hF.D hs (by decide) (by decide) h9)) | (simp only [hz, hy] at hq; exact hq _ (hF.D hs (by decide) (by decide) h9))
      | some o =>
        have ho := (v_mem_lt hy).1
        show zp_wp X y_Mod_hasUse 46 [.ref 171, .int x, .int (nI a'), .int (nI m'), .int (nI b'), .int (nI n'), .int (nI u), zm_mk] [.int (nI o)] h2 Q
        refine zp_istore_7 rfl rfl ?_
        refine zp_iload (x := (nI u)) rfl rfl ?_
        refine zp_ifF (tgt := 82) rfl rfl (zc_lt (by omega)) ?_
        refine zp_iload (x := (nI o)) rfl rfl ?_
        refine zp_ifF (tgt := 82) rfl rfl (zc_lt (by omega)) ?_
        refine zp_aload_n (x := 171) rfl rfl ?_
        refine zq_getr (k9 := 175) hS rfl (by first | assumption | exact ⟨by decide, rfl⟩) rfl ?_
        refine zp_bipush (v := (nI 104)) rfl (by decide +kernel) ?_
        refine zp_bipush (v := (nI 40)) rfl (by decide +kernel) ?_
        refine zp_iload (x := (nI u)) rfl rfl ?_
        refine zp_imulN rfl ?_
        refine zp_iaddN rfl ?_
        refine zp_iload (x := (nI o)) rfl rfl ?_
        refine zp_iaddN rfl ?_
        refine zq_iald hS rfl (by first | assumption | exact ⟨by decide, rfl⟩) (by omega) (by decide) ?_
        rw [hV.2.2.2.2 u o (by omega) (by omega)]
        have q73 : cond (v_us (z_ver s x) u o) 1 0 ≤ 1 := by cases v_us (z_ver s x) u o <;> decide
        refine zp_iconst (v := (nI 1)) rfl (by decide +kernel) ?_
        refine zp_icmpN_ne (tgt := 82) rfl rfl (by omega) (by omega) (fun b75 => ?_) (fun b75 => ?_)
        · have hus : v_us (z_ver s x) u o = false := by cases e : v_us (z_ver s x) u o with | false => rfl | true => rw [e] at b75; exact absurd rfl b75
          refine zp_iconst (v := (nI 0)) rfl (by decide +kernel) ?_
          refine zp_zret rfl rfl (by decide) ?_
          first | (simp only [hz, hy, hus] at hq; exact hq _ (hF.D hs (by decide) (by decide) h9)) | (simp only [hz, hy] at hq; exact hq _ (hF.D hs (by decide) (by decide) h9))
        · have hus : v_us (z_ver s x) u o = true := by cases e : v_us (z_ver s x) u o with | true => rfl | false => rw [e] at b75; exact absurd b75 (by decide)
          refine zp_iconst (v := (nI 1)) rfl (by decide +kernel) ?_
          refine zp_goto (tgt := 83) rfl rfl ?_
          refine zp_zret rfl rfl (by decide) ?_
          first | (simp only [hz, hy, hus] at hq; exact hq _ (hF.D hs (by decide) (by decide) h9)) | (simp only [hz, hy] at hq; exact hq _ (hF.D hs (by decide) (by decide) h9))
def z_copy (s : zst) : Nat × Int32 × zst := (0, nI (v_nc (g_0 s)), z_put1 s (g_0 s))
theorem s_Mod_copyVersion (hs : zr_S s h) (hB : zr_B s) (hq : ∀ h', zr_D (z_copy s).2.2 (z_copy s).1 h h' → Q (.inl (some (.int (z_copy s).2.1))) h') : zp_wm X y_Mod_copyVersion [.ref 171] h Q := by
  have hS := hs.1
  show zp_wp X y_Mod_copyVersion 0 [.ref 171] [] h Q
  refine zp_aload_n (x := 171) rfl rfl ?_
  refine zp_iconst (v := (nI 0)) rfl (by decide +kernel) ?_
  refine zq_put hS rfl (by first | assumption | exact ⟨by decide, rfl⟩) rfl rfl (fun hS2 => ?_)
  have hS := hS2
  refine zp_aload_n (x := 171) rfl rfl ?_
  refine zq_getr (k9 := 172) hS rfl (by first | assumption | exact ⟨by decide, rfl⟩) rfl ?_
  refine zp_aload_n (x := 171) rfl rfl ?_
  refine zq_getr (k9 := 173) hS rfl (by first | assumption | exact ⟨by decide, rfl⟩) rfl ?_
  refine zp_call rfl rfl (s_Mod_copies hS ⟨by decide, rfl⟩ ⟨by decide, rfl⟩ (by decide) (fun h2 hS2 he hc => ?_))
  have hF : zr_F [173] h h2 := (zr_F.f9 hS).tr (zr_F.cp (T := [173]) hS2 he (by decide) (by decide)) (fun _ q => q)
  have h9 : cf h2 171 9 = nI 0 := by rw [he.gf (by decide)]; exact zf_at9 hS zs_M rfl
  have hV : zv_R (g_0 s) (ci h2 173) := zv_R.cp (by rw [zf_ci (by decide)]; exact hs.2.1.1) hc
  have hS := hS2
  show zp_wp X y_Mod_copyVersion 16 [.ref 171] [] h2 Q
  refine zp_aload_n (x := 171) rfl rfl ?_
  refine zq_getr (k9 := 173) hS rfl (by first | assumption | exact ⟨by decide, rfl⟩) rfl ?_
  refine zp_iconst (v := (nI 0)) rfl (by decide +kernel) ?_
  refine zp_bipush (v := (nI 12)) rfl (by decide +kernel) ?_
  refine zp_call rfl rfl (s_Mod_countOf (p := fun i => !(v_cn (g_0 s) i == 0)) hS ⟨by decide, rfl⟩ (by decide) (fun i hi => by rw [(zv_cz hV hB.1.1).1 i hi]; simp) ?_)
  show zp_wp X y_Mod_copyVersion 26 [.ref 171] [.int (nI (v_nc (g_0 s)))] h2 Q
  refine zp_iret rfl rfl ?_
  refine hq _ ⟨⟨hF.1, ⟨?_, hV, ?_⟩, ?_, ?_, ?_, ?_⟩, hF.big (by decide), h9⟩
  · rw [hF.gi (by decide) (by decide)]; exact hs.2.1.1
  · rw [hF.gi (by decide) (by decide)]; exact hs.2.1.2.2
  · rw [hF.gi (by decide) (by decide)]; exact hs.2.2.1
  · rw [hF.2.2 8 (by decide) (by decide) (by decide)]; exact hs.2.2.2.1
  · rw [hF.2.2 20 (by decide) (by decide) (by decide)]; exact hs.2.2.2.2.1
  · rw [hF.gi (by decide) (by decide)]; exact hs.2.2.2.2.2
def z_log (s : zst) : Nat × Int32 × zst := (0, nI (g_n s), s)
theorem s_Mod_log (hs : zr_S s h) (hq : ∀ h', zr_D s 0 h h' → Q (.inl (some (.int (nI (g_n s))))) h') : zp_wm X y_Mod_log [.ref 171] h Q := by
  have hS := hs.1
  have hn := hs.2.2.2.1
  show zp_wp X y_Mod_log 0 [.ref 171] [] h Q
  refine zp_aload_n (x := 171) rfl rfl ?_
  refine zp_iconst (v := (nI 0)) rfl (by decide +kernel) ?_
  refine zq_put hS rfl (by first | assumption | exact ⟨by decide, rfl⟩) rfl rfl (fun hS2 => ?_)
  have hS := hS2
  refine zp_aload_n (x := 171) rfl rfl ?_
  refine zq_geti hS rfl (by first | assumption | exact ⟨by decide, rfl⟩) rfl ?_
  rw [zf_nj (by decide)]
  rw [hn]
  refine zp_iret rfl rfl ?_
  exact hq _ ((zr_F.f9 (T := []) hS).D hs (by decide) (by decide) (zf_at9 hS zs_M rfl))
def z_clear (s : zst) : Nat × Int32 × zst := (0, nI (g_n s), ((g_0 s, g_0 s, g_1 s), (g_L s, 0), s.2.2))
theorem s_Mod_clearLog (hs : zr_S s h) (hq : ∀ h', zr_D (z_clear s).2.2 (z_clear s).1 h h' → Q (.inl (some (.int (z_clear s).2.1))) h') : zp_wm X y_Mod_clearLog [.ref 171] h Q := by
  have hS := hs.1
  have hn := hs.2.2.2.1
  show zp_wp X y_Mod_clearLog 0 [.ref 171, zm_mk] [] h Q
  refine zp_aload_n (x := 171) rfl rfl ?_
  refine zp_iconst (v := (nI 0)) rfl (by decide +kernel) ?_
  refine zq_put hS rfl (by first | assumption | exact ⟨by decide, rfl⟩) rfl rfl (fun hS2 => ?_)
  have hS := hS2
  refine zp_aload_n (x := 171) rfl rfl ?_
  refine zq_geti hS rfl (by first | assumption | exact ⟨by decide, rfl⟩) rfl ?_
  rw [zf_nj (by decide)]
  rw [hn]
  refine zp_istore_n_1 rfl rfl ?_
  refine zp_aload_n (x := 171) rfl rfl ?_
  refine zp_iconst (v := (nI 0)) rfl (by decide +kernel) ?_
  refine zq_put hS rfl (by first | assumption | exact ⟨by decide, rfl⟩) rfl rfl (fun hS12 => ?_)
  have hS := hS12
  refine zp_aload_n (x := 171) rfl rfl ?_
  refine zq_getr (k9 := 172) hS rfl (by first | assumption | exact ⟨by decide, rfl⟩) rfl ?_
  refine zp_aload_n (x := 171) rfl rfl ?_
  refine zq_getr (k9 := 174) hS rfl (by first | assumption | exact ⟨by decide, rfl⟩) rfl ?_
  refine zp_call rfl rfl (s_Mod_copies hS ⟨by decide, rfl⟩ ⟨by decide, rfl⟩ (by decide) (fun h2 hS3 he hc => ?_))
  have c8 : cf h2 171 8 = nI 0 := by rw [he.gf (by decide)]; exact zf_at9 hS12 zs_M rfl
  have c9 : cf h2 171 9 = nI 0 := by rw [he.gf (by decide), zf_nj (by decide)]; exact zf_at9 hS2 zs_M rfl
  have hg : ∀ a, a ≠ 171 → a ≠ 174 → ci h2 a = ci h a := fun a p q => by rw [he.gi q, zf_ci p, zf_ci p]
  show zp_wp X y_Mod_clearLog 26 [.ref 171, .int (nI (g_n s))] [] h2 Q
  refine zp_iload_n (x := (nI (g_n s))) rfl rfl ?_
  refine zp_iret rfl rfl ?_
  refine hq _ ⟨⟨hS3, ⟨?_, ?_, ?_⟩, ?_, c8, ?_, ?_⟩, ?_, c9⟩
  · rw [hg _ (by decide) (by decide)]; exact hs.2.1.1
  · rw [hg _ (by decide) (by decide)]; exact hs.2.1.2.1
  · exact zv_R.cp (by rw [zf_ci (by decide), zf_ci (by decide)]; exact hs.2.1.1) hc
  · rw [hg _ (by decide) (by decide)]; exact hs.2.2.1
  · rw [he.gf (by decide), zf_nj (by decide), zf_nj (by decide)]; exact hs.2.2.2.2.1
  · rw [hg _ (by decide) (by decide)]; exact hs.2.2.2.2.2
  · exact ((zh_eq.rf.zf (by decide)).zf (by decide)).trans (he.mono (fun x q => by rw [q]; decide))
end ZR8
