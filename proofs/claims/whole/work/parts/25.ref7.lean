/-! the reference: its whole state, and what a call answers -/
def zr_L (L : Nat → zch) (A : Nat → Int32) : Prop := ∀ i, i < 30 → A (5 * i) = nI (L i).1 ∧ A (5 * i + 1) = nI (L i).2.1 ∧ A (5 * i + 2) = nI (L i).2.2.1 ∧ A (5 * i + 3) = nI (L i).2.2.2.1 ∧ A (5 * i + 4) = nI (L i).2.2.2.2
theorem zr_L.cp {L : Nat → zch} {A B : Nat → Int32} (hL : zr_L L A) (he : ∀ k, k < 150 → B k = A k) : zr_L L B := by
  intro i hi
  obtain ⟨h1, h2, h3, h4, h5⟩ := hL i hi
  exact ⟨(he _ (by omega)).trans h1, (he _ (by omega)).trans h2, (he _ (by omega)).trans h3, (he _ (by omega)).trans h4, (he _ (by omega)).trans h5⟩
theorem zr_L.app {L : Nat → zch} {A : Nat → Int32} {n : Nat} {k a m b q : Nat} (hL : zr_L L A) : zr_L (va_up L n (k, a, m, b, q)) (upd (upd (upd (upd (upd A (5 * n) (nI k)) (5 * n + 1) (nI a)) (5 * n + 2) (nI m)) (5 * n + 3) (nI b)) (5 * n + 4) (nI q)) := by
  intro i hi
  by_cases e : i = n
  · subst e
    refine ⟨?_, ?_, ?_, ?_, ?_⟩
    · rw [pk_un (by omega), pk_un (by omega), pk_un (by omega), pk_un (by omega), pk_us]; simp [va_up]
    · rw [pk_un (by omega), pk_un (by omega), pk_un (by omega), pk_us]; simp [va_up]
    · rw [pk_un (by omega), pk_un (by omega), pk_us]; simp [va_up]
    · rw [pk_un (by omega), pk_us]; simp [va_up]
    · rw [pk_us]; simp [va_up]
  · obtain ⟨h1, h2, h3, h4, h5⟩ := hL i hi
    have e2 : va_up L n (k, a, m, b, q) i = L i := by simp [va_up, e]
    rw [e2]
    refine ⟨?_, ?_, ?_, ?_, ?_⟩
    · rw [pk_un (by omega), pk_un (by omega), pk_un (by omega), pk_un (by omega), pk_un (by omega)]; exact h1
    · rw [pk_un (by omega), pk_un (by omega), pk_un (by omega), pk_un (by omega), pk_un (by omega)]; exact h2
    · rw [pk_un (by omega), pk_un (by omega), pk_un (by omega), pk_un (by omega), pk_un (by omega)]; exact h3
    · rw [pk_un (by omega), pk_un (by omega), pk_un (by omega), pk_un (by omega), pk_un (by omega)]; exact h4
    · rw [pk_un (by omega), pk_un (by omega), pk_un (by omega), pk_un (by omega), pk_un (by omega)]; exact h5
def zr_S (s : zst) (h : zm_H) : Prop := zs_H h ∧ (zv_R (g_0 s) (ci h 172) ∧ zv_R (g_1 s) (ci h 173) ∧ zv_R (g_b s) (ci h 174)) ∧ zr_L (g_L s) (ci h 178) ∧ cf h 171 8 = nI (g_n s) ∧ (g_k s = 0 ∧ cf h 171 20 = -1 ∨ cf h 171 20 = nI (g_k s)) ∧ ∀ i, i < g_k s → ci h 188 i = g_O s i
/-- numbers in their ranges -/
def zc_ok (c : zch) : Prop := c.1 < 10 ∧ c.2.1 < 128 ∧ c.2.2.1 < 128 ∧ c.2.2.2.1 < 128 ∧ c.2.2.2.2 < 128
def zr_B (s : zst) : Prop := (zv_B (g_0 s) ∧ zv_B (g_1 s) ∧ zv_B (g_b s)) ∧ (∀ i, i < 30 → zc_ok (g_L s i)) ∧ g_n s ≤ 30 ∧ g_k s ≤ 30
/-- rows of T are changed, and fields that only one call needs -/
def zr_F (T : List Nat) (h h' : zm_H) : Prop := zs_H h' ∧ zh_eq (fun x => x ∈ T ∨ x = 171) h h' ∧ ∀ j, j ≠ 9 → j ≠ 10 → j < 21 → cf h' 171 j = cf h 171 j
def zr_D (s' : zst) (t : Nat) (h h' : zm_H) : Prop := zr_S s' h' ∧ zh_eq (fun x => 171 ≤ x ∧ x ≤ 188) h h' ∧ cf h' 171 9 = nI t
section ZR7
variable {X : zm_X} {h h1 h2 : zm_H} {Q : zm_O → zm_H → Prop} {V : zv} {s : zst} {T : List Nat}
theorem zr_F.rf (hS : zs_H h) : zr_F T h h := ⟨hS, zh_eq.rf, fun _ _ _ _ => rfl⟩
theorem zr_F.tr {U : List Nat} (a : zr_F T h h1) (b : zr_F U h1 h2) (hu : ∀ x, x ∈ U → x ∈ T) : zr_F T h h2 := ⟨b.1, a.2.1.trans (b.2.1.mono (fun x q => q.elim (fun z => Or.inl (hu x z)) Or.inr)), fun j p q w => (b.2.2 j p q w).trans (a.2.2 j p q w)⟩
theorem zr_F.cp {q : Nat} (hS : zs_H h2) (he : zh_eq (fun x => x = q) h1 h2) (hq : q ∈ T) (h0 : 171 ≠ q) : zr_F T h1 h2 := ⟨hS, he.mono (fun x e => Or.inl (by rw [e]; exact hq)), fun j _ _ _ => he.gf h0⟩
theorem zr_F.f9 {x : Int32} (hS : zs_H (zf_put h 171 9 x)) : zr_F T h (zf_put h 171 9 x) := ⟨hS, zh_eq.rf.zf (Or.inr rfl), fun j p _ _ => zf_nj p⟩
theorem zr_F.f10 {x : Int32} (hS : zs_H (zf_put h 171 10 x)) : zr_F T h (zf_put h 171 10 x) := ⟨hS, zh_eq.rf.zf (Or.inr rfl), fun j _ p _ => zf_nj p⟩
theorem zr_F.f21 {x : Int32} {i : Nat} (hi : 21 ≤ i) (hS : zs_H (zf_put h 171 i x)) : zr_F T h (zf_put h 171 i x) := ⟨hS, zh_eq.rf.zf (Or.inr rfl), fun j _ _ p => zf_nj (by omega)⟩
theorem zr_F.zi {a : Nat} {f : Nat → Int32} (ha : a ∈ T) (h0 : 171 ≠ a) (hS : zs_H (zi_put h a f)) : zr_F T h (zi_put h a f) := ⟨hS, zh_eq.rf.zi (Or.inl ha), fun j _ _ _ => zi_cf h0⟩
theorem zr_F.mk {V' : zv} {ad : Option Nat} {r : Nat} (hp : zr_post V' ad r h h1) (hr : r ∈ T) : zr_F T h h1 := ⟨hp.1, hp.2.1.mono (fun x q => q.elim (fun z => Or.inl (by rw [z]; exact hr)) Or.inr), fun j _ p _ => hp.2.2.2.2 j p⟩
theorem zr_F.gi (a : zr_F T h h1) {x : Nat} (hx : x ∉ T) (h0 : x ≠ 171) : ci h1 x = ci h x := a.2.1.gi (fun q => q.elim hx h0)
theorem zr_F.S (a : zr_F T h h1) (hs : zr_S s h) (hT : 172 ∉ T ∧ 173 ∉ T ∧ 174 ∉ T ∧ 178 ∉ T ∧ 188 ∉ T) : zr_S s h1 := by
  obtain ⟨b1, ⟨b2, b3, b4⟩, b5, b6, b7, b8⟩ := hs
  obtain ⟨t1, t2, t3, t4, t5⟩ := hT
  refine ⟨a.1, ⟨?_, ?_, ?_⟩, ?_, ?_, ?_, ?_⟩
  · rw [a.gi t1 (by decide)]; exact b2
  · rw [a.gi t2 (by decide)]; exact b3
  · rw [a.gi t3 (by decide)]; exact b4
  · rw [a.gi t4 (by decide)]; exact b5
  · rw [a.2.2 8 (by decide) (by decide) (by decide)]; exact b6
  · rw [a.2.2 20 (by decide) (by decide) (by decide)]; exact b7
  · rw [a.gi t5 (by decide)]; exact b8
theorem zr_F.big (a : zr_F T h h1) (hT : ∀ x, x ∈ T → 171 ≤ x ∧ x ≤ 188) : zh_eq (fun x => 171 ≤ x ∧ x ≤ 188) h h1 := a.2.1.mono (fun x q => q.elim (hT x) (fun e => by rw [e]; decide))
/-- nothing lasts -/
theorem zr_F.D {t : Nat} (a : zr_F T h h1) (hs : zr_S s h) (hT : 172 ∉ T ∧ 173 ∉ T ∧ 174 ∉ T ∧ 178 ∉ T ∧ 188 ∉ T) (hU : ∀ x, x ∈ T → 171 ≤ x ∧ x ≤ 188) (ht : cf h1 171 9 = nI t) : zr_D s t h h1 := ⟨a.S hs hT, a.big hU, ht⟩
/-! changes -/
def g_ok (x : Int32) : Prop := nI (i2n x) = x ∧ i2n x < 128
def z_put0 (s : zst) (V : zv) : zst := ((g_b s, V, g_1 s), s.2)
def z_put1 (s : zst) (V : zv) : zst := ((g_b s, g_0 s, V), s.2)
def z_app (s : zst) (c : zch) : zst := (s.1, (va_up (g_L s) (g_n s) c, g_n s + 1), s.2.2)
def z_chg (s : zst) (x : Int32) (kind a m b n : Nat) (l : Bool) : Nat × Int32 × zst :=
  if g_ver x = false then (1, nI 0, s) else if l = false then (2, nI 0, s) else if x = 0 then
    (if g_n s = 30 then (3, nI 0, s) else
      let q := v_make (g_0 s) kind a m b n
      (0, nI q.1, if q.1 = 0 then z_app (z_put0 s q.2.1) (kind, a, m, b, n) else z_put0 s q.2.1))
    else
      let q := v_make (g_1 s) kind a m b n
      (0, nI q.1, z_put1 s q.2.1)
theorem v_make_9 {kind a m b n : Nat} : (v_make V kind a m b n).1 < 10 := by
  have hC : ∀ c a, (v_addC V c a).1 < 10 := fun c a => by unfold v_addC; (repeat' split) <;> simp
  have h1 : ∀ c, (v_remC V c).1 < 10 := fun c => by unfold v_remC; (repeat' split) <;> simp
  have h2 : ∀ c b, (v_renC V c b).1 < 10 := fun c b => by unfold v_renC; (repeat' split) <;> simp
  have h3 : ∀ c b, (v_supC V c b).1 < 10 := fun c b => by unfold v_supC; (repeat' split) <;> simp
  have h4 : ∀ c b, (v_addM V c b).1 < 10 := fun c b => by unfold v_addM; (repeat' split) <;> simp
  have h5 : ∀ c, (v_remM V c).1 < 10 := fun c => by unfold v_remM; (repeat' split) <;> simp
  have h6 : ∀ c k n, (v_renM V c k n).1 < 10 := fun c k n => by unfold v_renM; (repeat' split) <;> simp
  have h7 : ∀ c k n, (v_movM V c k n).1 < 10 := fun c k n => by unfold v_movM; (repeat' split) <;> simp
  have h8 : ∀ c k, (v_addU V c k).1 < 10 := fun c k => by unfold v_addU; (repeat' split) <;> simp
  have h9 : ∀ c k, (v_remU V c k).1 < 10 := fun c k => by unfold v_remU; (repeat' split) <;> simp
  match kind with
  | 0 => exact hC _ _
  | 1 => exact h1 _
  | 2 => exact h2 _ _
  | 3 => exact h3 _ _
  | 4 => exact h4 _ _
  | 5 => exact h5 _
  | 6 => exact h6 _ _ _
  | 7 => exact h7 _ _ _
  | 8 => exact h8 _ _
  | k + 9 => exact h9 _ _
theorem g_ver_c (x : Int32) : g_ver x = false ∨ x = nI 0 ∨ x = nI 1 := by
  unfold g_ver
  by_cases h0 : x = 0
  · exact Or.inr (Or.inl (by rw [h0]; rfl))
  · by_cases h1 : x = 1
    · exact Or.inr (Or.inr (by rw [h1]; rfl))
    · exact Or.inl (by simp [h0, h1])
theorem s_Mod_changes {x : Int32} {kind : Nat} {a m b n : Int32} {l : Bool} (hs : zr_S s h) (hB : zr_B s) (hk : kind < 10) (hl : l = true → g_ok a ∧ g_ok m ∧ g_ok b ∧ g_ok n) (hq : ∀ h', zr_D (z_chg s x kind (i2n a) (i2n m) (i2n b) (i2n n) l).2.2 (z_chg s x kind (i2n a) (i2n m) (i2n b) (i2n n) l).1 h h' → Q (.inl (some (.int (z_chg s x kind (i2n a) (i2n m) (i2n b) (i2n n) l).2.1))) h') : zp_wm X y_Mod_changes [.ref 171, .int x, .int (nI kind), .int a, .int m, .int b, .int n, .int (zf_b l)] h Q := by
  have hS := hs.1
  have hn := hs.2.2.2.1
  have hn30 := hB.2.2.1
  unfold z_chg at hq
  cases l with
  | false =>
    show zp_wp X y_Mod_changes 0 [.ref 171, .int x, .int (nI kind), .int a, .int m, .int b, .int n, .int (nI 0), zm_mk, zm_mk] [] h Q
    refine zp_aload_n (x := 171) rfl rfl ?_
    refine zp_iload_n (x := x) rfl rfl ?_
    refine zp_iconst (v := (nI 0)) rfl (by decide +kernel) ?_
    refine zp_iconst (v := (nI 1)) rfl (by decide +kernel) ?_
    refine zp_call rfl rfl (s_Mod_in ?_)
    rw [g_ver_in]
    cases e1 : g_ver x with
    | false =>
      show zp_wp X y_Mod_changes 7 [.ref 171, .int x, .int (nI kind), .int a, .int m, .int b, .int n, .int (nI 0), zm_mk, zm_mk] [.int (nI 0), .ref 171] h Q
      refine zp_ifF (tgt := 14) rfl rfl (by decide +kernel) ?_
      refine zp_iconst (v := (nI 1)) rfl (by decide +kernel) ?_
      refine zp_goto (tgt := 41) rfl rfl ?_
      refine zq_put hS rfl (by first | assumption | exact ⟨by decide, rfl⟩) rfl rfl (fun hS41 => ?_)
      have hS := hS41
      refine zp_aload_n (x := 171) rfl rfl ?_
      refine zq_geti hS rfl (by first | assumption | exact ⟨by decide, rfl⟩) rfl ?_
      rw [zf_at9 hS41 (by first | assumption | exact ⟨by decide, rfl⟩) rfl]
      refine zp_ifF (tgt := 53) rfl rfl (by decide +kernel) ?_
      refine zp_iconst (v := (nI 0)) rfl (by decide +kernel) ?_
      refine zp_iret rfl rfl ?_
      rw [e1] at hq; exact hq _ ((zr_F.f9 (T := []) hS).D hs (by decide) (fun x hx => by cases hx) (zf_at9 hS zs_M rfl))
    | true =>
      show zp_wp X y_Mod_changes 7 [.ref 171, .int x, .int (nI kind), .int a, .int m, .int b, .int n, .int (nI 0), zm_mk, zm_mk] [.int (nI 1), .ref 171] h Q
      refine zp_ifT (tgt := 14) rfl rfl (by decide +kernel) ?_
      refine zp_iload (x := (nI 0)) rfl rfl ?_
      refine zp_ifF (tgt := 23) rfl rfl (by decide +kernel) ?_
      refine zp_iconst (v := (nI 2)) rfl (by decide +kernel) ?_
      refine zp_goto (tgt := 41) rfl rfl ?_
      refine zq_put hS rfl (by first | assumption | exact ⟨by decide, rfl⟩) rfl rfl (fun hS41 => ?_)
      have hS := hS41
      refine zp_aload_n (x := 171) rfl rfl ?_
      refine zq_geti hS rfl (by first | assumption | exact ⟨by decide, rfl⟩) rfl ?_
      rw [zf_at9 hS41 (by first | assumption | exact ⟨by decide, rfl⟩) rfl]
      refine zp_ifF (tgt := 53) rfl rfl (by decide +kernel) ?_
      refine zp_iconst (v := (nI 0)) rfl (by decide +kernel) ?_
      refine zp_iret rfl rfl ?_
      rw [e1] at hq; exact hq _ ((zr_F.f9 (T := []) hS).D hs (by decide) (fun x hx => by cases hx) (zf_at9 hS zs_M rfl))
  | true =>
    obtain ⟨⟨ha, ha2⟩, ⟨hm, hm2⟩, ⟨hb, hb2⟩, ⟨hnn, hn2⟩⟩ := hl rfl
    show zp_wp X y_Mod_changes 0 [.ref 171, .int x, .int (nI kind), .int a, .int m, .int b, .int n, .int (nI 1), zm_mk, zm_mk] [] h Q
    clear hl
    generalize i2n a = a', i2n m = m', i2n b = b', i2n n = n' at *
    subst ha hm hb hnn
    rcases g_ver_c x with hx | hx | hx
    · refine zp_aload_n (x := 171) rfl rfl ?_
      refine zp_iload_n (x := x) rfl rfl ?_
      refine zp_iconst (v := (nI 0)) rfl (by decide +kernel) ?_
      refine zp_iconst (v := (nI 1)) rfl (by decide +kernel) ?_
      refine zp_call rfl rfl (s_Mod_in ?_)
      rw [g_ver_in, hx]
      show zp_wp X y_Mod_changes 7 [.ref 171, .int x, .int (nI kind), .int (nI a'), .int (nI m'), .int (nI b'), .int (nI n'), .int (nI 1), zm_mk, zm_mk] [.int (nI 0), .ref 171] h Q
      refine zp_ifF (tgt := 14) rfl rfl (by decide +kernel) ?_
      refine zp_iconst (v := (nI 1)) rfl (by decide +kernel) ?_
      refine zp_goto (tgt := 41) rfl rfl ?_
      refine zq_put hS rfl (by first | assumption | exact ⟨by decide, rfl⟩) rfl rfl (fun hS41 => ?_)
      have hS := hS41
      refine zp_aload_n (x := 171) rfl rfl ?_
      refine zq_geti hS rfl (by first | assumption | exact ⟨by decide, rfl⟩) rfl ?_
      rw [zf_at9 hS41 (by first | assumption | exact ⟨by decide, rfl⟩) rfl]
      refine zp_ifF (tgt := 53) rfl rfl (by decide +kernel) ?_
      refine zp_iconst (v := (nI 0)) rfl (by decide +kernel) ?_
      refine zp_iret rfl rfl ?_
      rw [if_pos hx] at hq; exact hq _ ((zr_F.f9 (T := []) hS).D hs (by decide) (fun x hx => by cases hx) (zf_at9 hS zs_M rfl))
    · subst hx
      rw [if_neg (show ¬ g_ver (nI 0) = false by decide), if_neg (show ¬ true = false by decide), if_pos (show nI 0 = 0 by decide)] at hq
      refine zp_aload_n (x := 171) rfl rfl ?_
      refine zp_iload_n (x := (nI 0)) rfl rfl ?_
      refine zp_iconst (v := (nI 0)) rfl (by decide +kernel) ?_
      refine zp_iconst (v := (nI 1)) rfl (by decide +kernel) ?_
      refine zp_call rfl rfl (s_Mod_in ?_)
      show zp_wp X y_Mod_changes 7 [.ref 171, .int (nI 0), .int (nI kind), .int (nI a'), .int (nI m'), .int (nI b'), .int (nI n'), .int (nI 1), zm_mk, zm_mk] [.int (nI 1), .ref 171] h Q
      refine zp_ifT (tgt := 14) rfl rfl (by decide +kernel) ?_
      refine zp_iload (x := (nI 1)) rfl rfl ?_
      refine zp_ifT (tgt := 23) rfl rfl (by decide +kernel) ?_
      refine zp_iload_n (x := (nI 0)) rfl rfl ?_
      refine zp_ifF (tgt := 40) rfl rfl (by decide +kernel) ?_
      refine zp_aload_n (x := 171) rfl rfl ?_
      refine zq_geti hS rfl (by first | assumption | exact ⟨by decide, rfl⟩) rfl ?_
      rw [hn]
      refine zp_bipush (v := (nI 30)) rfl (by decide +kernel) ?_
      refine zp_icmpN_ne (tgt := 40) rfl rfl (by omega) (by omega) (fun b33 => ?_) (fun b33 => ?_)
      · refine zp_iconst (v := (nI 0)) rfl (by decide +kernel) ?_
        refine zq_put hS rfl (by first | assumption | exact ⟨by decide, rfl⟩) rfl rfl (fun hS41 => ?_)
        have hS := hS41
        refine zp_aload_n (x := 171) rfl rfl ?_
        refine zq_geti hS rfl (by first | assumption | exact ⟨by decide, rfl⟩) rfl ?_
        rw [zf_at9 hS41 (by first | assumption | exact ⟨by decide, rfl⟩) rfl]
        refine zp_ifT (tgt := 53) rfl rfl (by decide +kernel) ?_
        refine zp_iload_n (x := (nI 0)) rfl rfl ?_
        refine zp_ifF (tgt := 76) rfl rfl (by decide +kernel) ?_
        refine zp_aload_n (x := 171) rfl rfl ?_
        refine zp_aload_n (x := 171) rfl rfl ?_
        refine zq_getr (k9 := 172) hS rfl (by first | assumption | exact ⟨by decide, rfl⟩) rfl ?_
        refine zp_iload_n (x := (nI kind)) rfl rfl ?_
        refine zp_iload_n (x := (nI a')) rfl rfl ?_
        refine zp_iload (x := (nI m')) rfl rfl ?_
        refine zp_iload (x := (nI b')) rfl rfl ?_
        refine zp_iload (x := (nI n')) rfl rfl ?_
        refine zq_virt hS rfl rfl (by first | assumption | exact ⟨by decide, rfl⟩) rfl (s_Mod_makes (V := g_0 s) hS ⟨by decide, rfl⟩ (by rw [zf_ci (by decide)]; exact hs.2.1.1) hB.1.1 hk ha2 hm2 hb2 hn2 (fun h2 hp => ?_))
        rw [if_neg b33] at hq
        have hn' : cf h2 171 8 = nI (g_n s) := by rw [hp.2.2.2.2 8 (by decide), zf_nj (by decide)]; exact hn
        have h9 := (v_make_9 (V := g_0 s) (kind := kind) (a := a') (m := m') (b := b') (n := n'))
        have hF : zr_F [172] h h2 := (zr_F.f9 hS).tr (zr_F.mk (T := [172]) hp (by decide)) (fun x hx => hx)
        have h39 : cf h2 171 9 = nI 0 := by rw [hp.2.2.2.2 9 (by decide)]; exact zf_at9 hS zs_M rfl
        have hS := hp.1
        show zp_wp X y_Mod_changes 73 [.ref 171, .int (nI 0), .int (nI kind), .int (nI a'), .int (nI m'), .int (nI b'), .int (nI n'), .int (nI 1), zm_mk, zm_mk] [.int (nI ((v_make (g_0 s) kind a' m' b' n').1))] h2 Q
        refine zp_goto (tgt := 92) rfl rfl ?_
        refine zp_istore_8 rfl rfl ?_
        refine zp_iload (x := (nI ((v_make (g_0 s) kind a' m' b' n').1))) rfl rfl ?_
        refine zp_ifN_ne (tgt := 172) rfl rfl (by omega) (fun b96 => ?_) (fun b96 => ?_)
        · dsimp only at hq
          rw [if_neg b96] at hq
          have fin : Q (.inl (some (.int (nI (v_make (g_0 s) kind a' m' b' n').1)))) h2 := by
            refine hq _ ⟨⟨hF.1, ⟨hp.2.2.1, ?_, ?_⟩, ?_, ?_, ?_, ?_⟩, hF.big (by decide), h39⟩
            · rw [hF.gi (by decide) (by decide)]; exact hs.2.1.2.1
            · rw [hF.gi (by decide) (by decide)]; exact hs.2.1.2.2
            · rw [hF.gi (by decide) (by decide)]; exact hs.2.2.1
            · rw [hF.2.2 8 (by decide) (by decide) (by decide)]; exact hs.2.2.2.1
            · rw [hF.2.2 20 (by decide) (by decide) (by decide)]; exact hs.2.2.2.2.1
            · rw [hF.gi (by decide) (by decide)]; exact hs.2.2.2.2.2
          refine zp_iload (x := (nI ((v_make (g_0 s) kind a' m' b' n').1))) rfl rfl ?_
          refine zp_iret rfl rfl ?_
          first
          | exact fin
          | (refine fin _ hS ((((((zh_eq.rf.zi (Or.inl rfl)).zi (Or.inl rfl)).zi (Or.inl rfl)).zi (Or.inl rfl)).zi (Or.inl rfl)).zf (Or.inr rfl)) ?_ (zf_at9 hS zs_M rfl) (fun j hj => ?_)
             · rw [zf_ci (by decide)]; simp only [zi_at]
             · rw [zf_nj hj]; simp only [zi_cf (show (171 : Nat) ≠ 178 by decide)])
        · dsimp only at hq
          rw [if_pos b96] at hq
          have fin : ∀ h', zs_H h' → zh_eq (fun x => x = 178 ∨ x = 171) h2 h' → ci h' 178 = upd (upd (upd (upd (upd (ci h2 178) (5 * g_n s) (nI kind)) (5 * g_n s + 1) (nI a')) (5 * g_n s + 2) (nI m')) (5 * g_n s + 3) (nI b')) (5 * g_n s + 4) (nI n') → cf h' 171 8 = nI (g_n s + 1) → (∀ j, j ≠ 8 → cf h' 171 j = cf h2 171 j) → Q (.inl (some (.int (nI (v_make (g_0 s) kind a' m' b' n').1)))) h' := by
            intro h' hS' he hL' h8 hj
            refine hq _ ⟨⟨hS', ⟨?_, ?_, ?_⟩, ?_, ?_, ?_, ?_⟩, (hF.big (by decide)).trans (he.mono (fun x q => by rcases q with q | q <;> subst q <;> decide)), ?_⟩
            · rw [he.gi (by decide)]; exact hp.2.2.1
            · rw [he.gi (by decide), hF.gi (by decide) (by decide)]; exact hs.2.1.2.1
            · rw [he.gi (by decide), hF.gi (by decide) (by decide)]; exact hs.2.1.2.2
            · rw [hL', hF.gi (by decide) (by decide)]; exact hs.2.2.1.app
            · exact h8
            · rw [hj 20 (by decide), hF.2.2 20 (by decide) (by decide) (by decide)]; exact hs.2.2.2.2.1
            · rw [he.gi (by decide), hF.gi (by decide) (by decide)]; exact hs.2.2.2.2.2
            · rw [hj 9 (by decide)]; exact h39
          refine zp_iload_n (x := (nI 0)) rfl rfl ?_
          refine zp_ifF (tgt := 172) rfl rfl (by decide +kernel) ?_
          refine zp_iconst (v := (nI 5)) rfl (by decide +kernel) ?_
          refine zp_aload_n (x := 171) rfl rfl ?_
          refine zq_geti hS rfl (by first | assumption | exact ⟨by decide, rfl⟩) rfl ?_
          rw [hn']
          refine zp_imulN rfl ?_
          refine zp_istore_9 rfl rfl ?_
          refine zp_aload_n (x := 171) rfl rfl ?_
          refine zq_getr (k9 := 178) hS rfl (by first | assumption | exact ⟨by decide, rfl⟩) rfl ?_
          refine zp_iload (x := (nI (5 * (g_n s)))) rfl rfl ?_
          refine zp_iload_n (x := (nI kind)) rfl rfl ?_
          refine zq_iast hS rfl (by first | assumption | exact ⟨by decide, rfl⟩) (by omega) (by decide) (fun hS118 => ?_)
          have hS := hS118
          refine zp_aload_n (x := 171) rfl rfl ?_
          refine zq_getr (k9 := 178) hS rfl (by first | assumption | exact ⟨by decide, rfl⟩) rfl ?_
          refine zp_iload (x := (nI (5 * (g_n s)))) rfl rfl ?_
          refine zp_iconst (v := (nI 1)) rfl (by decide +kernel) ?_
          refine zp_iaddN rfl ?_
          refine zp_iload_n (x := (nI a')) rfl rfl ?_
          refine zq_iast hS rfl (by first | assumption | exact ⟨by decide, rfl⟩) (by omega) (by decide) (fun hS128 => ?_)
          have hS := hS128
          refine zp_aload_n (x := 171) rfl rfl ?_
          refine zq_getr (k9 := 178) hS rfl (by first | assumption | exact ⟨by decide, rfl⟩) rfl ?_
          refine zp_iload (x := (nI (5 * (g_n s)))) rfl rfl ?_
          refine zp_iconst (v := (nI 2)) rfl (by decide +kernel) ?_
          refine zp_iaddN rfl ?_
          refine zp_iload (x := (nI m')) rfl rfl ?_
          refine zq_iast hS rfl (by first | assumption | exact ⟨by decide, rfl⟩) (by omega) (by decide) (fun hS139 => ?_)
          have hS := hS139
          refine zp_aload_n (x := 171) rfl rfl ?_
          refine zq_getr (k9 := 178) hS rfl (by first | assumption | exact ⟨by decide, rfl⟩) rfl ?_
          refine zp_iload (x := (nI (5 * (g_n s)))) rfl rfl ?_
          refine zp_iconst (v := (nI 3)) rfl (by decide +kernel) ?_
          refine zp_iaddN rfl ?_
          refine zp_iload (x := (nI b')) rfl rfl ?_
          refine zq_iast hS rfl (by first | assumption | exact ⟨by decide, rfl⟩) (by omega) (by decide) (fun hS150 => ?_)
          have hS := hS150
          refine zp_aload_n (x := 171) rfl rfl ?_
          refine zq_getr (k9 := 178) hS rfl (by first | assumption | exact ⟨by decide, rfl⟩) rfl ?_
          refine zp_iload (x := (nI (5 * (g_n s)))) rfl rfl ?_
          refine zp_iconst (v := (nI 4)) rfl (by decide +kernel) ?_
          refine zp_iaddN rfl ?_
          refine zp_iload (x := (nI n')) rfl rfl ?_
          refine zq_iast hS rfl (by first | assumption | exact ⟨by decide, rfl⟩) (by omega) (by decide) (fun hS161 => ?_)
          have hS := hS161
          refine zp_aload_n (x := 171) rfl rfl ?_
          refine zp_dup_a rfl ?_
          refine zq_geti hS rfl (by first | assumption | exact ⟨by decide, rfl⟩) rfl ?_
          rw [zi_cf (a := 178) (b := 171) (by decide), zi_cf (a := 178) (b := 171) (by decide), zi_cf (a := 178) (b := 171) (by decide), zi_cf (a := 178) (b := 171) (by decide), zi_cf (a := 178) (b := 171) (by decide)]
          rw [hn']
          refine zp_iconst (v := (nI 1)) rfl (by decide +kernel) ?_
          refine zp_iaddN rfl ?_
          refine zq_put hS rfl (by first | assumption | exact ⟨by decide, rfl⟩) rfl rfl (fun hS169 => ?_)
          have hS := hS169
          refine zp_iload (x := (nI ((v_make (g_0 s) kind a' m' b' n').1))) rfl rfl ?_
          refine zp_iret rfl rfl ?_
          first
          | exact fin
          | (refine fin _ hS ((((((zh_eq.rf.zi (Or.inl rfl)).zi (Or.inl rfl)).zi (Or.inl rfl)).zi (Or.inl rfl)).zi (Or.inl rfl)).zf (Or.inr rfl)) ?_ (zf_at9 hS zs_M rfl) (fun j hj => ?_)
             · rw [zf_ci (by decide)]; simp only [zi_at]
             · rw [zf_nj hj]; simp only [zi_cf (show (171 : Nat) ≠ 178 by decide)])
      · refine zp_iconst (v := (nI 3)) rfl (by decide +kernel) ?_
        refine zp_goto (tgt := 41) rfl rfl ?_
        refine zq_put hS rfl (by first | assumption | exact ⟨by decide, rfl⟩) rfl rfl (fun hS41 => ?_)
        have hS := hS41
        refine zp_aload_n (x := 171) rfl rfl ?_
        refine zq_geti hS rfl (by first | assumption | exact ⟨by decide, rfl⟩) rfl ?_
        rw [zf_at9 hS41 (by first | assumption | exact ⟨by decide, rfl⟩) rfl]
        refine zp_ifF (tgt := 53) rfl rfl (by decide +kernel) ?_
        refine zp_iconst (v := (nI 0)) rfl (by decide +kernel) ?_
        refine zp_iret rfl rfl ?_
        rw [if_pos b33] at hq; exact hq _ ((zr_F.f9 (T := []) hS).D hs (by decide) (fun x hx => by cases hx) (zf_at9 hS zs_M rfl))
    · subst hx
      rw [if_neg (show ¬ g_ver (nI 1) = false by decide), if_neg (show ¬ true = false by decide), if_neg (show ¬ nI 1 = 0 by decide)] at hq
      refine zp_aload_n (x := 171) rfl rfl ?_
      refine zp_iload_n (x := (nI 1)) rfl rfl ?_
      refine zp_iconst (v := (nI 0)) rfl (by decide +kernel) ?_
      refine zp_iconst (v := (nI 1)) rfl (by decide +kernel) ?_
      refine zp_call rfl rfl (s_Mod_in ?_)
      show zp_wp X y_Mod_changes 7 [.ref 171, .int (nI 1), .int (nI kind), .int (nI a'), .int (nI m'), .int (nI b'), .int (nI n'), .int (nI 1), zm_mk, zm_mk] [.int (nI 1), .ref 171] h Q
      refine zp_ifT (tgt := 14) rfl rfl (by decide +kernel) ?_
      refine zp_iload (x := (nI 1)) rfl rfl ?_
      refine zp_ifT (tgt := 23) rfl rfl (by decide +kernel) ?_
      refine zp_iload_n (x := (nI 1)) rfl rfl ?_
      refine zp_ifT (tgt := 40) rfl rfl (by decide +kernel) ?_
      refine zp_iconst (v := (nI 0)) rfl (by decide +kernel) ?_
      refine zq_put hS rfl (by first | assumption | exact ⟨by decide, rfl⟩) rfl rfl (fun hS41 => ?_)
      have hS := hS41
      refine zp_aload_n (x := 171) rfl rfl ?_
      refine zq_geti hS rfl (by first | assumption | exact ⟨by decide, rfl⟩) rfl ?_
      rw [zf_at9 hS41 (by first | assumption | exact ⟨by decide, rfl⟩) rfl]
      refine zp_ifT (tgt := 53) rfl rfl (by decide +kernel) ?_
      refine zp_iload_n (x := (nI 1)) rfl rfl ?_
      refine zp_ifT (tgt := 76) rfl rfl (by decide +kernel) ?_
      refine zp_aload_n (x := 171) rfl rfl ?_
      refine zp_aload_n (x := 171) rfl rfl ?_
      refine zq_getr (k9 := 173) hS rfl (by first | assumption | exact ⟨by decide, rfl⟩) rfl ?_
      refine zp_iload_n (x := (nI kind)) rfl rfl ?_
      refine zp_iload_n (x := (nI a')) rfl rfl ?_
      refine zp_iload (x := (nI m')) rfl rfl ?_
      refine zp_iload (x := (nI b')) rfl rfl ?_
      refine zp_iload (x := (nI n')) rfl rfl ?_
      refine zq_virt hS rfl rfl (by first | assumption | exact ⟨by decide, rfl⟩) rfl (s_Mod_makes (V := g_1 s) hS ⟨by decide, rfl⟩ (by rw [zf_ci (by decide)]; exact hs.2.1.2.1) hB.1.2.1 hk ha2 hm2 hb2 hn2 (fun h2 hp => ?_))
      have h9 := (v_make_9 (V := g_1 s) (kind := kind) (a := a') (m := m') (b := b') (n := n'))
      have hF : zr_F [173] h h2 := (zr_F.f9 hS).tr (zr_F.mk (T := [173]) hp (by decide)) (fun x hx => hx)
      have h39 : cf h2 171 9 = nI 0 := by rw [hp.2.2.2.2 9 (by decide)]; exact zf_at9 hS zs_M rfl
      have hS := hp.1
      show zp_wp X y_Mod_changes 92 [.ref 171, .int (nI 1), .int (nI kind), .int (nI a'), .int (nI m'), .int (nI b'), .int (nI n'), .int (nI 1), zm_mk, zm_mk] [.int (nI ((v_make (g_1 s) kind a' m' b' n').1))] h2 Q
      refine zp_istore_8 rfl rfl ?_
      refine zp_iload (x := (nI ((v_make (g_1 s) kind a' m' b' n').1))) rfl rfl ?_
      refine zp_ifN_ne (tgt := 172) rfl rfl (by omega) (fun b96 => ?_) (fun b96 => ?_)
      · refine zp_iload (x := (nI ((v_make (g_1 s) kind a' m' b' n').1))) rfl rfl ?_
        refine zp_iret rfl rfl ?_
        refine hq _ ⟨⟨hF.1, ⟨?_, hp.2.2.1, ?_⟩, ?_, ?_, ?_, ?_⟩, hF.big (by decide), h39⟩
        · rw [hF.gi (by decide) (by decide)]; exact hs.2.1.1
        · rw [hF.gi (by decide) (by decide)]; exact hs.2.1.2.2
        · rw [hF.gi (by decide) (by decide)]; exact hs.2.2.1
        · rw [hF.2.2 8 (by decide) (by decide) (by decide)]; exact hs.2.2.2.1
        · rw [hF.2.2 20 (by decide) (by decide) (by decide)]; exact hs.2.2.2.2.1
        · rw [hF.gi (by decide) (by decide)]; exact hs.2.2.2.2.2
      · refine zp_iload_n (x := (nI 1)) rfl rfl ?_
        refine zp_ifT (tgt := 172) rfl rfl (by decide +kernel) ?_
        refine zp_iload (x := (nI ((v_make (g_1 s) kind a' m' b' n').1))) rfl rfl ?_
        refine zp_iret rfl rfl ?_
        refine hq _ ⟨⟨hF.1, ⟨?_, hp.2.2.1, ?_⟩, ?_, ?_, ?_, ?_⟩, hF.big (by decide), h39⟩
        · rw [hF.gi (by decide) (by decide)]; exact hs.2.1.1
        · rw [hF.gi (by decide) (by decide)]; exact hs.2.1.2.2
        · rw [hF.gi (by decide) (by decide)]; exact hs.2.2.1
        · rw [hF.2.2 8 (by decide) (by decide) (by decide)]; exact hs.2.2.2.1
        · rw [hF.2.2 20 (by decide) (by decide) (by decide)]; exact hs.2.2.2.2.1
        · rw [hF.gi (by decide) (by decide)]; exact hs.2.2.2.2.2
end ZR7
