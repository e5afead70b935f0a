/-! the first state -/
theorem kl_app_l {A B : List zm_E} {x : Nat} (h : x < A.length) : kl (A ++ B) x = kl A x := by
  simp only [kl, List.getElem?_append, if_pos h]
theorem kl_app_r {A B : List zm_E} {x : Nat} : kl (A ++ B) (A.length + x) = kl B x := by
  have h : ¬ A.length + x < A.length := by omega
  simp only [kl, List.getElem?_append, if_neg h]
  rw [Nat.add_sub_cancel_left]
def pre (A L : List zm_E) : Prop := ∃ C, L = A ++ C
theorem pre_rf {A : List zm_E} : pre A A := ⟨[], by simp⟩
theorem pre_app {A L B : List zm_E} (h : pre A L) : pre A (L ++ B) := by
  obtain ⟨C, rfl⟩ := h
  exact ⟨C ++ B, by simp⟩
theorem blk {A B L : List zm_E} {n j : Nat} (hp : pre (A ++ B) L) (hn : A.length = n) (hj : j < B.length) : kl L (n + j) = kl B j := by
  obtain ⟨C, rfl⟩ := hp
  subst hn
  rw [kl_app_l (by simp; omega), kl_app_r]
theorem kl_rep : ∀ {n j : Nat} {e : zm_E}, j < n → kl (List.replicate n e) j = e
  | 0, _, _, h => absurd h (Nat.not_lt_zero _)
  | _ + 1, 0, _, _ => rfl
  | n + 1, j + 1, e, h => kl_rep (n := n) (j := j) (e := e) (by omega)
theorem kl_cons {e : zm_E} {T : List zm_E} {x : Nat} : kl (e :: T) (x + 1) = kl T x := rfl
def okl : List zm_E → Nat → Prop
  | [], _ => True
  | e :: t, a => zs_ok e (zs_tab a) ∧ okl t (a + 1)
theorem okl_get : ∀ {l : List zm_E} {a x : Nat}, okl l a → x < l.length → zs_ok (kl l x) (zs_tab (a + x))
  | [], _, _, _, h => absurd h (Nat.not_lt_zero _)
  | e :: t, a, 0, h, _ => h.1
  | e :: t, a, x + 1, h, hx => by
    have := okl_get (l := t) (a := a + 1) (x := x) h.2 (by simpa using hx)
    rw [show a + (x + 1) = a + 1 + x by omega]
    exact this
theorem okl_app : ∀ {A B : List zm_E} {a : Nat}, okl A a → okl B (a + A.length) → okl (A ++ B) a
  | [], B, a, _, hB => hB
  | e :: t, B, a, hA, hB => ⟨hA.1, okl_app hA.2 (by rw [show a + 1 + t.length = a + (e :: t).length by simp; omega]; exact hB)⟩
theorem okl_snoc {A B : List zm_E} {a n : Nat} (hA : okl A a ∧ A.length = n) (hB : okl B (a + n)) : okl (A ++ B) a ∧ (A ++ B).length = n + B.length := by
  obtain ⟨h1, rfl⟩ := hA
  exact ⟨okl_app h1 hB, by simp⟩
def okf : List (Option Nat) → List Value → Prop
  | [], [] => True
  | some q :: rs, v :: fs => v = .ref q ∧ okf rs fs
  | none :: rs, v :: fs => (∃ x, v = .int x) ∧ okf rs fs
  | _, _ => False
theorem okf_ok : ∀ {rs : List (Option Nat)} {fs : List Value}, okf rs fs → fs.length = rs.length ∧ (∀ j q : Nat, rs[j]? = some (some q) → fs[j]? = some (Value.ref q)) ∧ (∀ j : Nat, rs[j]? = some none → ∃ x, fs[j]? = some (Value.int x))
  | [], [], _ => ⟨rfl, fun j q h => by simp at h, fun j h => by simp at h⟩
  | [], _ :: _, h => h.elim
  | some _ :: _, [], h => h.elim
  | none :: _, [], h => h.elim
  | some q :: rs, v :: fs, h => by
    obtain ⟨h1, h2⟩ := h
    obtain ⟨i1, i2, i3⟩ := okf_ok h2
    refine ⟨by simp [i1], fun j p hj => ?_, fun j hj => ?_⟩
    · cases j with
      | zero => simp at hj; rw [h1, hj]; rfl
      | succ j => exact i2 j p (by simpa using hj)
    · cases j with
      | zero => simp at hj
      | succ j => exact i3 j (by simpa using hj)
  | none :: rs, v :: fs, h => by
    obtain ⟨⟨x, h1⟩, h2⟩ := h
    obtain ⟨i1, i2, i3⟩ := okf_ok h2
    refine ⟨by simp [i1], fun j p hj => ?_, fun j hj => ?_⟩
    · cases j with
      | zero => simp at hj
      | succ j => exact i2 j p (by simpa using hj)
    · cases j with
      | zero => exact ⟨x, by rw [h1]; rfl⟩
      | succ j => exact i3 j (by simpa using hj)
theorem okf_o {c : Nat} {rs : List (Option Nat)} {fs : List Value} {a : Nat} (ht : zs_tab a = (3, c, rs)) (h : okf rs fs) : zs_ok (.inr (c, fs)) (zs_tab a) := by
  rw [ht]
  exact ⟨fs, rfl, okf_ok h⟩
theorem ok_i {n : Nat} {f : Nat → Int32} {a : Nat} (h : zs_I a n) : zs_ok (.inl (0, n, .inl f)) (zs_tab a) := by rw [h.2]; exact ⟨f, rfl⟩
theorem ok_j {n : Nat} {f : Nat → Int64} {a : Nat} (h : zs_J a n) : zs_ok (.inl (1, n, .inr (.inl f))) (zs_tab a) := by rw [h.2]; exact ⟨f, rfl⟩
theorem okl_p {a : Nat} {f g : Nat → Int32} (h : zq_A a) : okl (pcell a f g) a := ⟨okf_o h.1.2 ⟨rfl, rfl, rfl, rfl, rfl, rfl, trivial⟩, ok_i h.2.1, ok_i h.2.2.1, ok_i h.2.2.2.1, ok_i h.2.2.2.2.1, ok_i h.2.2.2.2.2.1, ok_j h.2.2.2.2.2.2, trivial⟩
theorem ok_c {a : Nat} (h : zq_C a) : zs_ok ccell (zs_tab a) := okf_o h.2 ⟨⟨_, rfl⟩, ⟨_, rfl⟩, ⟨_, rfl⟩, ⟨_, rfl⟩, ⟨_, rfl⟩, trivial⟩
theorem okl_rep : ∀ {n a : Nat}, (∀ i, i < n → zq_C (a + i)) → okl (List.replicate n ccell) a
  | 0, _, _ => trivial
  | n + 1, a, h => ⟨ok_c (h 0 (by omega)), okl_rep (fun i hi => by rw [show a + 1 + i = a + (i + 1) by omega]; exact h (i + 1) (by omega))⟩
theorem okl_l {a : Nat} {r : Nat → Option Nat} (h : zq_K a) (hr : ∀ j, j < 30 → r j = some (a + 2 + j)) : okl (lcell a r) a := by
  refine ⟨okf_o h.1.2 ⟨rfl, ⟨_, rfl⟩, trivial⟩, ?_, okl_rep (fun i hi => by rw [show a + 1 + 1 + i = a + 2 + i by omega]; exact h.2.2 i hi)⟩
  rw [h.2.1.2]
  refine ⟨r, rfl, fun j q hj => ?_⟩
  by_cases e : j < 30
  · rw [q_rows_at e] at hj
    cases hj
    exact hr j e
  · have : (q_rows a)[j]? = none := by simp [q_rows]; omega
    rw [this] at hj
    cases hj
theorem okl_m {a : Nat} (h : zq_MA a) : okl (mcell a) a := ⟨okf_o h.1.2 ⟨rfl, rfl, rfl, rfl, trivial⟩, ok_i h.2.1, ok_i h.2.2.1, ok_i h.2.2.2.1, ok_i h.2.2.2.2, trivial⟩
theorem okl_k {f0 g0 f1 g1 f2 g2 : Nat → Int32} {r3 r4 : Nat → Option Nat} (h3 : ∀ j, j < 30 → r3 j = some (62 + 24 + 2 + j)) (h4 : ∀ j, j < 30 → r4 j = some (62 + 56 + 2 + j)) : okl (kcell 62 f0 g0 f1 g1 f2 g2 r3 r4) 62 := by
  unfold kcell
  refine ⟨okf_o (rs := [some 63, some 70, some 77, some 84, some 85, some 86, some 118]) rfl ⟨rfl, rfl, rfl, rfl, rfl, rfl, rfl, trivial⟩, ?_⟩
  have o1 := okl_snoc (A := []) (a := 63) (n := 0) ⟨trivial, rfl⟩ (okl_p (f := f0) (g := g0) qA_63)
  have o2 := okl_snoc (n := 7) o1 (okl_p (f := f1) (g := g1) qA_70)
  have o3 := okl_snoc (n := 14) o2 (okl_p (f := f2) (g := g2) qA_77)
  have o4 := okl_snoc (B := [ccell]) (n := 21) o3 ⟨ok_c qC_84, trivial⟩
  have o5 := okl_snoc (B := [ccell]) (n := 22) o4 ⟨ok_c qC_85, trivial⟩
  have o6 := okl_snoc (n := 23) o5 (okl_l (r := r3) qK_86 h3)
  have o7 := okl_snoc (n := 55) o6 (okl_l (r := r4) qK_118 h4)
  exact o7.1
theorem okl_e {f0 g0 : Nat → Int32} : okl (ecell 155 f0 g0) 155 := by
  unfold ecell
  refine ⟨okf_o (rs := [some 156, some 163, some 168, some 169]) rfl ⟨rfl, rfl, rfl, rfl, trivial⟩, ?_⟩
  have o1 := okl_snoc (A := []) (a := 156) (n := 0) ⟨trivial, rfl⟩ (okl_p (f := f0) (g := g0) qA_156)
  have o2 := okl_snoc (n := 7) o1 (okl_m qM_163)
  have o3 := okl_snoc (B := [ccell]) (n := 12) o2 ⟨ok_c qC_168, trivial⟩
  have o4 := okl_snoc (B := [.inl (0, 30, .inl (fun _ => 0))]) (n := 13) o3 ⟨ok_i ⟨by decide, rfl⟩, trivial⟩
  exact o4.1
theorem okl_d : okl (dcell 171) 171 := by
  unfold dcell
  refine ⟨okf_o zs_M.2 ⟨rfl, rfl, rfl, rfl, rfl, rfl, rfl, rfl, ⟨_, rfl⟩, ⟨_, rfl⟩, ⟨_, rfl⟩, rfl, rfl, rfl, rfl, rfl, rfl, rfl, rfl, rfl, ⟨_, rfl⟩, ⟨_, rfl⟩, ⟨_, rfl⟩, ⟨_, rfl⟩, ⟨_, rfl⟩, trivial⟩, ?_⟩
  exact ⟨ok_i ⟨by decide, rfl⟩, ok_i ⟨by decide, rfl⟩, ok_i ⟨by decide, rfl⟩, ok_i ⟨by decide, rfl⟩, ok_i ⟨by decide, rfl⟩, ok_i ⟨by decide, rfl⟩, ok_i ⟨by decide, rfl⟩, ok_i ⟨by decide, rfl⟩, ok_i ⟨by decide, rfl⟩, ok_i ⟨by decide, rfl⟩, ok_i ⟨by decide, rfl⟩, ok_i ⟨by decide, rfl⟩, ok_i ⟨by decide, rfl⟩, ok_i ⟨by decide, rfl⟩, ok_i ⟨by decide, rfl⟩, ok_i ⟨by decide, rfl⟩, ok_i ⟨by decide, rfl⟩, trivial⟩
def V_0 : zv := (fun _ => 0, fun _ => 0, fun _ => 0, fun _ => 0, fun _ _ => false)
def s_0 : zst := ((V_0, V_0, V_0), (fun _ => (0, 0, 0, 0, 0), 0), 0, fun _ => 0)
theorem V_0W : zv_W V_0 := by
  refine ⟨fun _ _ => Or.inl rfl, fun _ _ => Nat.zero_le _, fun _ _ => Or.inl rfl, fun _ _ => by show 0 < 12; decide, fun _ _ _ _ h => (by cases h), fun _ _ _ _ h => absurd rfl h, fun _ _ h => absurd rfl h, fun _ _ h => absurd rfl h, fun _ _ _ _ h => absurd rfl h, ?_⟩
  have : v_nu V_0 = 0 := zf_ct_0 (fun j _ _ => rfl)
  rw [this]
  decide
theorem s_0W : zc_W s_0 := ⟨⟨V_0W, V_0W, V_0W⟩, fun i hi => absurd hi (Nat.not_lt_zero i), nIso.rf, Nat.zero_le _, Nat.zero_le _, fun i _ => by show zc_ok (0, 0, 0, 0, 0); exact ⟨by decide, by decide, by decide, by decide, by decide⟩⟩
theorem ci_of {h : zm_H} {a n : Nat} {f : Nat → Int32} (e : h.1 a = .inl (0, n, .inl f)) : ci h a = f := by simp only [ci, e]
theorem cj_of {h : zm_H} {a n : Nat} {f : Nat → Int64} (e : h.1 a = .inl (1, n, .inr (.inl f))) : cj h a = f := by simp only [cj, e]
theorem cf_of {h : zm_H} {a c j : Nat} {fs : List Value} {x : Int32} (e : h.1 a = .inr (c, fs)) (hj : fs[j]? = some (.int x)) : cf h a j = x := by simp only [cf, cs, e, hj]
theorem zq_P0 {p : Nat} {h : zm_H} {f g : Nat → Int32} (hf : ∀ i, i < 12 → f i = -1) (hg : ∀ i, i < 40 → g i = -1) (hk : ∀ j, j < 7 → h.1 (p + j) = kl (pcell p f g) j) : zq_P V_0 p h := by
  have e1 := ci_of (n := 12) (f := fun _ => 0) (hk 1 (by decide))
  have e2 := ci_of (n := 12) (f := f) (hk 2 (by decide))
  have e3 := ci_of (n := 12) (f := fun _ => 0) (hk 3 (by decide))
  have e4 := ci_of (n := 40) (f := fun _ => 0) (hk 4 (by decide))
  have e5 := ci_of (n := 40) (f := g) (hk 5 (by decide))
  have e6 := cj_of (n := 40) (f := fun _ => 0) (hk 6 (by decide))
  refine ⟨fun c _ => ?_, fun c hc => ?_, fun c _ i _ => ?_, fun m _ => ?_, fun m hm => ?_, fun m _ i _ => ?_⟩
  · rw [e1]; rfl
  · rw [e2, hf c hc]; rfl
  · rw [e3]
    have : bt 0 i = false := b_0 i
    rw [this]; rfl
  · rw [e4]; rfl
  · rw [e5, hg m hm]; rfl
  · rw [e6]
    have : bl 0 i = false := bl_0 i
    rw [this]
    show false = (decide (i < 40) && false)
    rw [Bool.and_false]
theorem zv_R0 {A : Nat → Int32} (hA : A = fun _ => 0) : zv_R V_0 A := by
  subst hA
  exact ⟨fun _ _ => rfl, fun _ _ => rfl, fun _ _ => rfl, fun _ _ => rfl, fun _ _ _ _ => rfl⟩
def lfin (f0 g0 f1 g1 f2 g2 f3 g3 : Nat → Int32) (r4 : Nat → Option Nat) (f5_0 g5_0 f5_1 g5_1 f5_2 g5_2 : Nat → Int32) (r5_0 r5_1 : Nat → Option Nat) (f7 g7 : Nat → Int32) : List zm_E := ((((((((((((([] : List zm_E) ++ (pcell 1 f0 g0)) ++ (pcell 8 f1 g1)) ++ (pcell 15 f2 g2)) ++ (pcell 22 f3 g3)) ++ (lcell 29 r4)) ++ [ccell]) ++ (kcell 62 f5_0 g5_0 f5_1 g5_1 f5_2 g5_2 r5_0 r5_1)) ++ (mcell 150)) ++ (ecell 155 f7 g7)) ++ [.inl (0, 30, .inl (fun _ => 0))]) ++ (dcell 171)) ++ [.inl (1, 1, .inr (.inl (fun _ => 0)))])
theorem lfin_e {f0 g0 f1 g1 f2 g2 f3 g3 : Nat → Int32} {r4 : Nat → Option Nat} {f5_0 g5_0 f5_1 g5_1 f5_2 g5_2 : Nat → Int32} {r5_0 r5_1 : Nat → Option Nat} {f7 g7 : Nat → Int32} : (rcell f0 g0 f1 g1 f2 g2 f3 g3 r4 f5_0 g5_0 f5_1 g5_1 f5_2 g5_2 r5_0 r5_1 f7 g7 ++ dcell 171) ++ [.inl (1, 1, .inr (.inl (fun _ => 0)))] = lfin f0 g0 f1 g1 f2 g2 f3 g3 r4 f5_0 g5_0 f5_1 g5_1 f5_2 g5_2 r5_0 r5_1 f7 g7 := rfl
set_option maxHeartbeats 4000000 in
theorem lfin_ok {f0 g0 f1 g1 f2 g2 f3 g3 : Nat → Int32} {r4 : Nat → Option Nat} {f5_0 g5_0 f5_1 g5_1 f5_2 g5_2 : Nat → Int32} {r5_0 r5_1 : Nat → Option Nat} {f7 g7 : Nat → Int32} (hr4 : ∀ j, j < 30 → r4 j = some (29 + 2 + j)) (hr5_0 : ∀ j, j < 30 → r5_0 j = some (62 + 24 + 2 + j)) (hr5_1 : ∀ j, j < 30 → r5_1 j = some (62 + 56 + 2 + j)) : (okl (lfin f0 g0 f1 g1 f2 g2 f3 g3 r4 f5_0 g5_0 f5_1 g5_1 f5_2 g5_2 r5_0 r5_1 f7 g7) 1 ∧ (lfin f0 g0 f1 g1 f2 g2 f3 g3 r4 f5_0 g5_0 f5_1 g5_1 f5_2 g5_2 r5_0 r5_1 f7 g7).length = 189) ∧ (∀ j, j < 7 → kl (lfin f0 g0 f1 g1 f2 g2 f3 g3 r4 f5_0 g5_0 f5_1 g5_1 f5_2 g5_2 r5_0 r5_1 f7 g7) (0 + j) = kl (pcell 1 f0 g0) j) ∧ (∀ j, j < 7 → kl (lfin f0 g0 f1 g1 f2 g2 f3 g3 r4 f5_0 g5_0 f5_1 g5_1 f5_2 g5_2 r5_0 r5_1 f7 g7) (7 + j) = kl (pcell 8 f1 g1) j) ∧ (∀ j, j < 7 → kl (lfin f0 g0 f1 g1 f2 g2 f3 g3 r4 f5_0 g5_0 f5_1 g5_1 f5_2 g5_2 r5_0 r5_1 f7 g7) (14 + j) = kl (pcell 15 f2 g2) j) ∧ (∀ j, j < 32 → kl (lfin f0 g0 f1 g1 f2 g2 f3 g3 r4 f5_0 g5_0 f5_1 g5_1 f5_2 g5_2 r5_0 r5_1 f7 g7) (28 + j) = kl (lcell 29 r4) j) ∧ (∀ j, j < 18 → kl (lfin f0 g0 f1 g1 f2 g2 f3 g3 r4 f5_0 g5_0 f5_1 g5_1 f5_2 g5_2 r5_0 r5_1 f7 g7) (170 + j) = kl (dcell 171) j) := by
  have o0 : okl ([] : List zm_E) 1 ∧ ([] : List zm_E).length = 0 := ⟨trivial, rfl⟩
  have o1 := okl_snoc (n := 0) (B := pcell 1 f0 g0) o0 (okl_p qA_1)
  have o1 := And.intro o1.1 (o1.2.trans (show 0 + (pcell 1 f0 g0 : List zm_E).length = 7 from rfl))
  have o2 := okl_snoc (n := 7) (B := pcell 8 f1 g1) o1 (okl_p qA_8)
  have o2 := And.intro o2.1 (o2.2.trans (show 7 + (pcell 8 f1 g1 : List zm_E).length = 14 from rfl))
  have o3 := okl_snoc (n := 14) (B := pcell 15 f2 g2) o2 (okl_p qA_15)
  have o3 := And.intro o3.1 (o3.2.trans (show 14 + (pcell 15 f2 g2 : List zm_E).length = 21 from rfl))
  have o4 := okl_snoc (n := 21) (B := pcell 22 f3 g3) o3 (okl_p qA_22)
  have o4 := And.intro o4.1 (o4.2.trans (show 21 + (pcell 22 f3 g3 : List zm_E).length = 28 from rfl))
  have o5 := okl_snoc (n := 28) (B := lcell 29 r4) o4 (okl_l qK_29 hr4)
  have o5 := And.intro o5.1 (o5.2.trans (show 28 + (lcell 29 r4 : List zm_E).length = 60 from rfl))
  have o6 := okl_snoc (n := 60) (B := [ccell]) o5 (⟨ok_c qC_61, trivial⟩)
  have o6 := And.intro o6.1 (o6.2.trans (show 60 + ([ccell] : List zm_E).length = 61 from rfl))
  have o7 := okl_snoc (n := 61) (B := kcell 62 f5_0 g5_0 f5_1 g5_1 f5_2 g5_2 r5_0 r5_1) o6 (okl_k hr5_0 hr5_1)
  have o7 := And.intro o7.1 (o7.2.trans (show 61 + (kcell 62 f5_0 g5_0 f5_1 g5_1 f5_2 g5_2 r5_0 r5_1 : List zm_E).length = 149 from rfl))
  have o8 := okl_snoc (n := 149) (B := mcell 150) o7 (okl_m qM_150)
  have o8 := And.intro o8.1 (o8.2.trans (show 149 + (mcell 150 : List zm_E).length = 154 from rfl))
  have o9 := okl_snoc (n := 154) (B := ecell 155 f7 g7) o8 (okl_e)
  have o9 := And.intro o9.1 (o9.2.trans (show 154 + (ecell 155 f7 g7 : List zm_E).length = 169 from rfl))
  have o10 := okl_snoc (n := 169) (B := [.inl (0, 30, .inl (fun _ => 0))]) o9 (⟨ok_i ⟨by decide, rfl⟩, trivial⟩)
  have o10 := And.intro o10.1 (o10.2.trans (show 169 + ([.inl (0, 30, .inl (fun _ => 0))] : List zm_E).length = 170 from rfl))
  have o11 := okl_snoc (n := 170) (B := dcell 171) o10 (okl_d)
  have o11 := And.intro o11.1 (o11.2.trans (show 170 + (dcell 171 : List zm_E).length = 188 from rfl))
  have o12 := okl_snoc (n := 188) (B := [.inl (1, 1, .inr (.inl (fun _ => 0)))]) o11 (⟨ok_j ⟨by decide, rfl⟩, trivial⟩)
  have o12 := And.intro o12.1 (o12.2.trans (show 188 + ([.inl (1, 1, .inr (.inl (fun _ => 0)))] : List zm_E).length = 189 from rfl))
  refine ⟨o12, ?_, ?_, ?_, ?_, ?_⟩
  · exact fun j hj => blk (n := 0) (B := pcell 1 f0 g0) (pre_app (pre_app (pre_app (pre_app (pre_app (pre_app (pre_app (pre_app (pre_app (pre_app (pre_app pre_rf))))))))))) o0.2 hj
  · exact fun j hj => blk (n := 7) (B := pcell 8 f1 g1) (pre_app (pre_app (pre_app (pre_app (pre_app (pre_app (pre_app (pre_app (pre_app (pre_app pre_rf)))))))))) o1.2 hj
  · exact fun j hj => blk (n := 14) (B := pcell 15 f2 g2) (pre_app (pre_app (pre_app (pre_app (pre_app (pre_app (pre_app (pre_app (pre_app pre_rf))))))))) o2.2 hj
  · exact fun j hj => blk (n := 28) (B := lcell 29 r4) (pre_app (pre_app (pre_app (pre_app (pre_app (pre_app (pre_app pre_rf))))))) o4.2 hj
  · exact fun j hj => blk (n := 170) (B := dcell 171) (pre_app pre_rf) o10.2 hj
theorem zl_init {f0 g0 f1 g1 f2 g2 f3 g3 : Nat → Int32} {r4 : Nat → Option Nat} {f5_0 g5_0 f5_1 g5_1 f5_2 g5_2 : Nat → Int32} {r5_0 r5_1 : Nat → Option Nat} {f7 g7 : Nat → Int32} {K : Nat} (hK : K ≤ zl_K) (hf0 : ∀ i, i < 12 → f0 i = -1) (hg0 : ∀ i, i < 40 → g0 i = -1) (hf1 : ∀ i, i < 12 → f1 i = -1) (hg1 : ∀ i, i < 40 → g1 i = -1) (hf2 : ∀ i, i < 12 → f2 i = -1) (hg2 : ∀ i, i < 40 → g2 i = -1) (hr4 : ∀ j, j < 30 → r4 j = some (29 + 2 + j)) (hr5_0 : ∀ j, j < 30 → r5_0 j = some (62 + 24 + 2 + j)) (hr5_1 : ∀ j, j < 30 → r5_1 j = some (62 + 56 + 2 + j)) : zl_V 0 s_0 (hl (.inr (6, [.ref 1, .ref 8, .ref 15, .ref 22, .ref 29, .ref 61, .ref 62, .ref 150, .ref 155, .ref 170, .int (nI 0)]) :: ((rcell f0 g0 f1 g1 f2 g2 f3 g3 r4 f5_0 g5_0 f5_1 g5_1 f5_2 g5_2 r5_0 r5_1 f7 g7 ++ dcell 171) ++ [.inl (1, 1, .inr (.inl (fun _ => 0)))])) K) := by
  obtain ⟨hL, p1, p8, p15, l29, d171⟩ := lfin_ok (f0 := f0) (g0 := g0) (f1 := f1) (g1 := g1) (f2 := f2) (g2 := g2) (f3 := f3) (g3 := g3) (f5_0 := f5_0) (g5_0 := g5_0) (f5_1 := f5_1) (g5_1 := g5_1) (f5_2 := f5_2) (g5_2 := g5_2) (f7 := f7) (g7 := g7) hr4 hr5_0 hr5_1
  rw [lfin_e]
  generalize lfin f0 g0 f1 g1 f2 g2 f3 g3 r4 f5_0 g5_0 f5_1 g5_1 f5_2 g5_2 r5_0 r5_1 f7 g7 = L at *
  have hk : ∀ x, (hl (.inr (6, [.ref 1, .ref 8, .ref 15, .ref 22, .ref 29, .ref 61, .ref 62, .ref 150, .ref 155, .ref 170, .int (nI 0)]) :: L) K).1 (x + 1) = kl L x := fun _ => rfl
  have hk0 : (hl (.inr (6, [.ref 1, .ref 8, .ref 15, .ref 22, .ref 29, .ref 61, .ref 62, .ref 150, .ref 155, .ref 170, .int (nI 0)]) :: L) K).1 0 = .inr (6, [.ref 1, .ref 8, .ref 15, .ref 22, .ref 29, .ref 61, .ref 62, .ref 150, .ref 155, .ref 170, .int (nI 0)]) := rfl
  have hlen : (hl (.inr (6, [.ref 1, .ref 8, .ref 15, .ref 22, .ref 29, .ref 61, .ref 62, .ref 150, .ref 155, .ref 170, .int (nI 0)]) :: L) K).2.1 = 190 := by show L.length + 1 = 190; rw [hL.2]
  have hsl : (hl (.inr (6, [.ref 1, .ref 8, .ref 15, .ref 22, .ref 29, .ref 61, .ref 62, .ref 150, .ref 155, .ref 170, .int (nI 0)]) :: L) K).2.2.1 = K := rfl
  have hex : (hl (.inr (6, [.ref 1, .ref 8, .ref 15, .ref 22, .ref 29, .ref 61, .ref 62, .ref 150, .ref 155, .ref 170, .int (nI 0)]) :: L) K).2.2.2 = 0 := rfl
  generalize hl (.inr (6, [.ref 1, .ref 8, .ref 15, .ref 22, .ref 29, .ref 61, .ref 62, .ref 150, .ref 155, .ref 170, .int (nI 0)]) :: L) K = h at *
  have hS : zs_H h := by
    refine ⟨hlen, fun x hx => ?_⟩
    have hx : x < 190 := hx
    cases x with
    | zero =>
      rw [hk0]
      exact okf_o (rs := [some 1, some 8, some 15, some 22, some 29, some 61, some 62, some 150, some 155, some 170, none]) rfl ⟨rfl, rfl, rfl, rfl, rfl, rfl, rfl, rfl, rfl, rfl, ⟨_, rfl⟩, trivial⟩
    | succ x =>
      rw [hk]
      have := okl_get hL.1 (x := x) (by rw [hL.2]; omega)
      rw [Nat.add_comm 1 x] at this
      exact this
  have P1 : zq_P V_0 1 h := zq_P0 hf0 hg0 (fun j hj => by rw [show 1 + j = (0 + j) + 1 by omega, hk]; exact p1 j hj)
  have P8 : zq_P V_0 8 h := zq_P0 hf1 hg1 (fun j hj => by rw [show 8 + j = (7 + j) + 1 by omega, hk]; exact p8 j hj)
  have P15 : zq_P V_0 15 h := zq_P0 hf2 hg2 (fun j hj => by rw [show 15 + j = (14 + j) + 1 by omega, hk]; exact p15 j hj)
  have c29 : h.1 29 = .inr (1, [.ref (29 + 1), .int 0]) := by rw [show (29 : Nat) = (28 + 0) + 1 from rfl, hk]; exact l29 0 (by decide)
  have cch : ∀ j, j < 30 → h.1 (29 + 2 + j) = ccell := fun j hj => by
    rw [show 29 + 2 + j = (28 + (2 + j)) + 1 by omega, hk, l29 (2 + j) (by omega)]
    have e : kl (lcell 29 r4) (2 + j) = kl (List.replicate 30 ccell) j := by rw [show 2 + j = j + 1 + 1 by omega]; rfl
    rw [e]
    exact kl_rep hj
  have dd : ∀ j, j < 18 → h.1 (171 + j) = kl (dcell 171) j := fun j hj => by rw [show 171 + j = (170 + j) + 1 by omega, hk]; exact d171 j hj
  have d0 := dd 0 (by decide)
  have d1 := ci_of (n := 1704) (f := fun _ => 0) (dd 1 (by decide))
  have d2 := ci_of (n := 1704) (f := fun _ => 0) (dd 2 (by decide))
  have d3 := ci_of (n := 1704) (f := fun _ => 0) (dd 3 (by decide))
  have d7 := ci_of (n := 150) (f := fun _ => 0) (dd 7 (by decide))
  refine ⟨⟨hS, P1, P8, P15, fun j hj => ?_, cf_of c29 rfl, cf_of hk0 rfl, fun i hi => absurd hi (Nat.not_lt_zero i)⟩, ⟨hS, ⟨zv_R0 d1, zv_R0 d2, zv_R0 d3⟩, fun i _ => ?_, cf_of d0 rfl, Or.inl ⟨rfl, cf_of d0 rfl⟩, fun i hi => absurd hi (Nat.not_lt_zero i)⟩, s_0W, by rw [hsl]; omega, by rw [hex]; exact Nat.le_refl 0⟩
  · have e := cch j hj
    exact ⟨cf_of e rfl, cf_of e rfl, cf_of e rfl, cf_of e rfl, cf_of e rfl⟩
  · rw [show ci h 178 = fun _ => 0 from d7]
    exact ⟨rfl, rfl, rfl, rfl, rfl⟩
