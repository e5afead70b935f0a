/-! versions that are the same by names stay so: kind by kind -/
section ZI2
variable {V W : zv}
/-- a change that can be made here can be made there, and what it gives is the same by names -/
def nGo (c : zch) (V W : zv) : Prop := (v_mk W c).1 = 0 ∧ nSub (v_mk V c).2.1 (v_mk W c).2.1 ∧ nSub (v_mk W c).2.1 (v_mk V c).2.1
theorem r0 {a : Nat} (h : (v_addC V (v_cls V a) a).1 = 0) : ∃ i, i < 12 ∧ v_cn V i = 0 ∧ v_cls V a = none ∧ v_nc V ≠ 12 ∧ (v_addC V (v_cls V a) a).2.1 = v_set2 (v_set1 V i a) i 0 := by
  unfold v_addC at h ⊢
  cases hz : v_cls V a with
  | some c => rw [hz] at h; cases h
  | none =>
    rw [hz] at h
    by_cases e : v_nc V = 12
    · rw [if_neg (by decide), if_pos e] at h; cases h
    · rw [if_neg (by decide), if_neg e] at h
      cases hf : zf_fst (fun i => v_cn V i == 0) 0 12 with
      | none => rw [hf] at h; cases h
      | some i =>
        obtain ⟨-, i2, i3, -⟩ := zf_fst_some hf
        refine ⟨i, by omega, by simpa using i3, rfl, e, ?_⟩
        rw [if_neg (by decide), if_neg e]
theorem r0' {a : Nat} (h1 : v_cls V a = none) (h2 : v_nc V ≠ 12) : (v_addC V (v_cls V a) a).1 = 0 := by
  unfold v_addC
  rw [h1, if_neg (by decide), if_neg h2]
  cases hf : zf_fst (fun i => v_cn V i == 0) 0 12 with
  | none => exact absurd (zf_nofree hf) h2
  | some i => rfl
theorem e0 {a i : Nat} (hV : zv_W V) (ha : a ≠ 0) (hi : i < 12) (hi0 : v_cn V i = 0) : (∀ x y, nS (v_set2 (v_set1 V i a) i 0) x y ↔ nS V x y ∨ (x = a ∧ y = 0)) ∧ mpM V (v_set2 (v_set1 V i a) i 0) (fun x y => (x, y)) := by
  have sn : ∀ c, c < 12 → v_cn V c ≠ 0 → v_sn (v_set2 (v_set1 V i a) i 0) c = v_sn V c := by
    intro c hc hl
    have hci : c ≠ i := fun q => hl (by rw [q]; exact hi0)
    unfold v_sn
    rw [w_11, if_neg hci, w_1]
    by_cases e : v_sp V c = 0
    · rw [if_pos e, if_pos e]
    · have hs := hV.2.2.2.2.2.2.1 c hc hl e
      rw [if_neg e, if_neg e, w_10, w_0, if_neg (fun q => hs (by rw [q]; exact hi0))]
  refine ⟨fun x y => ⟨?_, ?_⟩, fun k hk => ⟨fun q => q, fun hl => ⟨hl, ?_, rfl⟩⟩⟩
  · rintro ⟨c, c1, c2, c3, c4⟩
    rw [w_10, w_0] at c2
    by_cases e : c = i
    · subst e
      rw [if_pos rfl] at c2
      unfold v_sn at c4
      rw [w_11, if_pos rfl, if_pos rfl] at c4
      exact Or.inr ⟨c2.symm, c4.symm⟩
    · rw [if_neg e] at c2
      rw [sn c c1 (by rw [c2]; exact c3)] at c4
      exact Or.inl ⟨c, c1, c2, c3, c4⟩
  · rintro (⟨c, c1, c2, c3, c4⟩ | ⟨rfl, rfl⟩)
    · have hl : v_cn V c ≠ 0 := by rw [c2]; exact c3
      exact ⟨c, c1, by rw [w_10, w_0, if_neg (fun q => hl (by rw [q]; exact hi0))]; exact c2, c3, by rw [sn c c1 hl]; exact c4⟩
    · refine ⟨i, hi, by rw [w_10, w_0, if_pos rfl], ha, ?_⟩
      unfold v_sn
      rw [w_11, if_pos rfl, if_pos rfl]
  · have := (hm_l hV hk hl).2
    rw [w_10, w_0, if_neg]
    · rfl
    · intro q
      have q : v_ow V k = i := q
      exact this (by rw [q]; exact hi0)
theorem go0 {a m b n : Nat} (hV : zv_W V) (hW : zv_W W) (hI : nIso V W) (ha : a ≠ 0) (h : (v_mk V (0, a, m, b, n)).1 = 0) : nGo (0, a, m, b, n) V W := by
  obtain ⟨i, i1, i2, i3, i4, i5⟩ := r0 (V := V) (a := a) h
  have ho : (v_addC W (v_cls W a) a).1 = 0 := r0' (tr_clsn hV hW hI.2 i3) (by rw [← (n_ct hV hW hI).1]; exact i4)
  obtain ⟨j, j1, j2, j3, j4, j5⟩ := r0 ho
  refine ⟨ho, ?_⟩
  show nSub (v_addC V (v_cls V a) a).2.1 (v_addC W (v_cls W a) a).2.1 ∧ nSub (v_addC W (v_cls W a) a).2.1 (v_addC V (v_cls V a) a).2.1
  rw [i5, j5]
  have a1 := e0 hV ha i1 i2
  have a2 := e0 hW ha j1 j2
  refine ⟨⟨fun x y q => ?_, sub_M a1.2 a2.2 hI.1, sub_U hV hW (a1.2.U (fun _ _ _ _ => rfl)) (a2.2.U (fun _ _ _ _ => rfl)) hI.1⟩, ⟨fun x y q => ?_, sub_M a2.2 a1.2 hI.2, sub_U hW hV (a2.2.U (fun _ _ _ _ => rfl)) (a1.2.U (fun _ _ _ _ => rfl)) hI.2⟩⟩
  · rw [a1.1] at q
    rw [a2.1]
    exact q.imp (hI.1.1 _ _) (fun z => z)
  · rw [a2.1] at q
    rw [a1.1]
    exact q.imp (hI.2.1 _ _) (fun z => z)
/-! 1: a class is removed -/
theorem r1 {a : Nat} (h : (v_remC V (v_cls V a)).1 = 0) : ∃ i, v_cls V a = some i ∧ (∀ k, k < 40 → v_mn V k ≠ 0 → v_ow V k ≠ i) ∧ (∀ c, c < 12 → v_cn V c ≠ 0 → v_sp V c ≠ i + 1) ∧ (v_remC V (v_cls V a)).2.1 = v_set1 V i 0 := by
  cases hz : v_cls V a with
  | none => rw [hz] at h; cases h
  | some i =>
    rw [hz] at h
    simp only [v_remC] at h ⊢
    cases e1 : zf_any (fun k => !(v_mn V k == 0) && v_ow V k == i) 0 40 with
    | true => rw [e1] at h; cases h
    | false =>
      cases e2 : zf_any (fun k => !(v_cn V k == 0) && v_sp V k == i + 1) 0 12 with
      | true => rw [e1, e2] at h; cases h
      | false =>
        refine ⟨i, rfl, fun k hk hl q => ?_, fun c hc hl q => ?_, rfl⟩
        · have := zf_any_z.mp e1 k hk
          rw [zb_ne hl, zb_eq q] at this
          cases this
        · have := zf_any_z.mp e2 c hc
          rw [zb_ne hl, zb_eq q] at this
          cases this
theorem r1' {a i : Nat} (h : v_cls V a = some i) (h1 : ∀ k, k < 40 → v_mn V k ≠ 0 → v_ow V k ≠ i) (h2 : ∀ c, c < 12 → v_cn V c ≠ 0 → v_sp V c ≠ i + 1) : (v_remC V (v_cls V a)).1 = 0 := by
  rw [h]
  simp only [v_remC]
  have e1 : zf_any (fun k => !(v_mn V k == 0) && v_ow V k == i) 0 40 = false := zf_any_z.mpr (fun k hk => by
    by_cases e : v_mn V k = 0
    · rw [zb_eq e]; rfl
    · rw [zb_ne (h1 k hk e), Bool.and_false])
  have e2 : zf_any (fun k => !(v_cn V k == 0) && v_sp V k == i + 1) 0 12 = false := zf_any_z.mpr (fun k hk => by
    by_cases e : v_cn V k = 0
    · rw [zb_eq e]; rfl
    · rw [zb_ne (h2 k hk e), Bool.and_false])
  rw [e1, e2]
  rfl
theorem e1 {a i : Nat} (hV : zv_W V) (h : v_cls V a = some i) (h1 : ∀ k, k < 40 → v_mn V k ≠ 0 → v_ow V k ≠ i) (h2 : ∀ c, c < 12 → v_cn V c ≠ 0 → v_sp V c ≠ i + 1) : (∀ x y, nS (v_set1 V i 0) x y ↔ nS V x y ∧ x ≠ a) ∧ mpM V (v_set1 V i 0) (fun x y => (x, y)) := by
  obtain ⟨i1, i2, i3⟩ := v_cls_lt h
  have sn : ∀ c, c < 12 → v_cn V c ≠ 0 → v_sn (v_set1 V i 0) c = v_sn V c := by
    intro c hc hl
    unfold v_sn
    rw [w_1]
    by_cases e : v_sp V c = 0
    · rw [if_pos e, if_pos e]
    · have := h2 c hc hl
      rw [if_neg e, if_neg e, w_0, if_neg (by omega)]
  refine ⟨fun x y => ⟨?_, ?_⟩, fun k hk => ⟨fun q => q, fun hl => ⟨hl, ?_, rfl⟩⟩⟩
  · rintro ⟨c, c1, c2, c3, c4⟩
    rw [w_0] at c2
    by_cases e : c = i
    · rw [if_pos e] at c2; exact absurd c2.symm c3
    · rw [if_neg e] at c2
      rw [sn c c1 (by rw [c2]; exact c3)] at c4
      exact ⟨⟨c, c1, c2, c3, c4⟩, fun q => e (cn_un hV c1 i1 (by rw [c2]; exact c3) (by rw [c2, q, i2]))⟩
  · rintro ⟨⟨c, c1, c2, c3, c4⟩, hx⟩
    have hl : v_cn V c ≠ 0 := by rw [c2]; exact c3
    exact ⟨c, c1, by rw [w_0, if_neg (fun q => hx (by rw [← c2, q, i2]))]; exact c2, c3, by rw [sn c c1 hl]; exact c4⟩
  · rw [w_0, w_3, if_neg (h1 k hk hl)]
theorem go1 {a m b n : Nat} (hV : zv_W V) (hW : zv_W W) (hI : nIso V W) (h : (v_mk V (1, a, m, b, n)).1 = 0) : nGo (1, a, m, b, n) V W := by
  obtain ⟨i, i1, i2, i3, i4⟩ := r1 (V := V) (a := a) h
  obtain ⟨g1, g2, g3⟩ := v_cls_lt i1
  obtain ⟨j, j1, j2, j3, j4, j5⟩ := tr_cls hV hW hI.1 i1
  have q1 : ∀ k, k < 40 → v_mn W k ≠ 0 → v_ow W k ≠ j := by
    intro k hk hl q
    obtain ⟨k', k1, k2, k3, k4⟩ := hI.2.2.1 _ _ ⟨k, hk, rfl, hl, rfl⟩
    have hl' : v_mn V k' ≠ 0 := by rw [k2]; exact hl
    exact i2 k' k1 hl' (cn_un hV (hm_l hV k1 hl').1 g1 (hm_l hV k1 hl').2 (by rw [k4, q, j3, g2]))
  have q2 : ∀ c, c < 12 → v_cn W c ≠ 0 → v_sp W c ≠ j + 1 := by
    intro c hc hl q
    have hs : v_sn W c = a := by unfold v_sn; rw [if_neg (by omega), q]; exact j3
    obtain ⟨c', c1, c2, c3, c4⟩ := hI.2.1 _ _ ⟨c, hc, rfl, hl, hs⟩
    have hl' : v_cn V c' ≠ 0 := by rw [c2]; exact hl
    unfold v_sn at c4
    by_cases e : v_sp V c' = 0
    · rw [if_pos e] at c4; exact g3 c4.symm
    · rw [if_neg e] at c4
      have hs := hV.2.2.2.2.2.2.1 c' c1 hl' e
      have hb := hV.2.1 c' c1
      have := cn_un hV (c := v_sp V c' - 1) (by omega) g1 hs (by rw [c4, g2])
      exact i3 c' c1 hl' (by omega)
  have ho := r1' j1 q1 q2
  refine ⟨ho, ?_⟩
  obtain ⟨j', k1, k2, k3, k4⟩ := r1 ho
  rw [j1] at k1
  cases k1
  show nSub (v_remC V (v_cls V a)).2.1 (v_remC W (v_cls W a)).2.1 ∧ nSub (v_remC W (v_cls W a)).2.1 (v_remC V (v_cls V a)).2.1
  rw [i4, k4]
  have a1 := e1 hV i1 i2 i3
  have a2 := e1 hW j1 q1 q2
  refine ⟨⟨fun x y q => ?_, sub_M a1.2 a2.2 hI.1, sub_U hV hW (a1.2.U (fun _ _ _ _ => rfl)) (a2.2.U (fun _ _ _ _ => rfl)) hI.1⟩, ⟨fun x y q => ?_, sub_M a2.2 a1.2 hI.2, sub_U hW hV (a2.2.U (fun _ _ _ _ => rfl)) (a1.2.U (fun _ _ _ _ => rfl)) hI.2⟩⟩
  · rw [a1.1] at q
    rw [a2.1]
    exact ⟨hI.1.1 _ _ q.1, q.2⟩
  · rw [a2.1] at q
    rw [a1.1]
    exact ⟨hI.2.1 _ _ q.1, q.2⟩
/-! 2: a class is renamed -/
def n_rn (a b x : Nat) : Nat := if x = a then b else x
theorem e2 {a b i : Nat} (hV : zv_W V) (h : v_cls V a = some i) (hb : b ≠ 0) : mpS V (v_set1 V i b) (n_rn a b) ∧ mpM V (v_set1 V i b) (fun x y => (n_rn a b x, y)) := by
  obtain ⟨i1, i2, i3⟩ := v_cls_lt h
  have hil : v_cn V i ≠ 0 := by rw [i2]; exact i3
  have cn : ∀ c, c < 12 → v_cn V c ≠ 0 → v_cn (v_set1 V i b) c = n_rn a b (v_cn V c) := by
    intro c hc hl
    rw [w_0]
    unfold n_rn
    by_cases e : c = i
    · rw [if_pos e, e, if_pos i2]
    · rw [if_neg e, if_neg (fun q => e (cn_un hV hc i1 hl (by rw [q, i2])))]
  have nz : ∀ x, x ≠ 0 → n_rn a b x ≠ 0 := by
    intro x hx
    unfold n_rn
    split
    · exact hb
    · exact hx
  refine ⟨fun c hc => ⟨fun q => ?_, fun hl => ⟨?_, cn c hc hl, ?_⟩⟩, fun k hk => ⟨fun q => q, fun hl => ⟨hl, cn _ (hm_l hV hk hl).1 (hm_l hV hk hl).2, rfl⟩⟩⟩
  · rw [w_0] at q
    by_cases e : c = i
    · rw [e]; exact hil
    · rw [if_neg e] at q; exact q
  · rw [cn c hc hl]; exact nz _ hl
  · unfold v_sn
    rw [w_1]
    by_cases e : v_sp V c = 0
    · rw [if_pos e, if_pos e]
      unfold n_rn
      rw [if_neg (fun q => i3 q.symm)]
    · have hs := hV.2.2.2.2.2.2.1 c hc hl e
      have hb2 := hV.2.1 c hc
      rw [if_neg e, if_neg e, cn _ (by omega) hs]
theorem go2 {a m b n : Nat} (hV : zv_W V) (hW : zv_W W) (hI : nIso V W) (hb : b ≠ 0) (h : (v_mk V (2, a, m, b, n)).1 = 0) : nGo (2, a, m, b, n) V W := by
  have h : (v_renC V (v_cls V a) b).1 = 0 := h
  cases hz : v_cls V a with
  | none => rw [hz] at h; cases h
  | some i =>
    cases hf : v_cls V b with
    | some s => rw [hz] at h; simp only [v_renC, hf] at h; cases h
    | none =>
      obtain ⟨j, j1, -⟩ := tr_cls hV hW hI.1 hz
      have j2 := tr_clsn hV hW hI.2 hf
      have v1 : v_mk V (2, a, m, b, n) = (0, v_set1 V i b, none) := by show v_renC V (v_cls V a) b = _; rw [hz]; simp only [v_renC, hf]; rfl
      have v2 : v_mk W (2, a, m, b, n) = (0, v_set1 W j b, none) := by show v_renC W (v_cls W a) b = _; rw [j1]; simp only [v_renC, j2]; rfl
      unfold nGo
      rw [v1, v2]
      have a1 := e2 hV hz hb
      have a2 := e2 hW j1 hb
      exact ⟨rfl, ⟨sub_S a1.1 a2.1 hI.1, sub_M a1.2 a2.2 hI.1, sub_U hV hW (a1.2.U (fun _ _ _ _ => rfl)) (a2.2.U (fun _ _ _ _ => rfl)) hI.1⟩, ⟨sub_S a2.1 a1.1 hI.2, sub_M a2.2 a1.2 hI.2, sub_U hW hV (a2.2.U (fun _ _ _ _ => rfl)) (a1.2.U (fun _ _ _ _ => rfl)) hI.2⟩⟩
/-! 3: a superclass -/
theorem e3 {a b i t : Nat} (hV : zv_W V) (h : v_cls V a = some i) (ht : (t = 0 ∧ b = 0) ∨ ∃ s, t = s + 1 ∧ v_cn V s = b) : (∀ x y, nS (v_set2 V i t) x y ↔ (nS V x y ∧ x ≠ a) ∨ (x = a ∧ y = b)) ∧ mpM V (v_set2 V i t) (fun x y => (x, y)) := by
  obtain ⟨i1, i2, i3⟩ := v_cls_lt h
  have sni : v_sn (v_set2 V i t) i = b := by
    unfold v_sn
    rw [w_11, if_pos rfl]
    rcases ht with ⟨t1, t2⟩ | ⟨s, t1, t2⟩
    · rw [if_pos t1, t2]
    · rw [if_neg (by omega), w_10, t1]; exact t2
  have sn : ∀ c, c ≠ i → v_sn (v_set2 V i t) c = v_sn V c := by
    intro c hc
    unfold v_sn
    rw [w_11, if_neg hc, w_10]
  refine ⟨fun x y => ⟨?_, ?_⟩, fun k hk => ⟨fun q => q, fun hl => ⟨hl, rfl, rfl⟩⟩⟩
  · rintro ⟨c, c1, c2, c3, c4⟩
    rw [w_10] at c2
    by_cases e : c = i
    · subst e
      exact Or.inr ⟨by rw [← c2, i2], by rw [← c4, sni]⟩
    · rw [sn c e] at c4
      exact Or.inl ⟨⟨c, c1, c2, c3, c4⟩, fun q => e (cn_un hV c1 i1 (by rw [c2]; exact c3) (by rw [c2, q, i2]))⟩
  · rintro (⟨⟨c, c1, c2, c3, c4⟩, hx⟩ | ⟨rfl, rfl⟩)
    · exact ⟨c, c1, by rw [w_10]; exact c2, c3, by rw [sn c (fun q => hx (by rw [← c2, q, i2]))]; exact c4⟩
    · exact ⟨i, i1, by rw [w_10]; exact i2, i3, sni⟩
theorem go3s {a b i j t u : Nat} (hV : zv_W V) (hW : zv_W W) (hI : nIso V W) (h1 : v_cls V a = some i) (h2 : v_cls W a = some j) (ht : (t = 0 ∧ b = 0) ∨ ∃ s, t = s + 1 ∧ v_cn V s = b) (hu : (u = 0 ∧ b = 0) ∨ ∃ s, u = s + 1 ∧ v_cn W s = b) : nSub (v_set2 V i t) (v_set2 W j u) := by
  have a1 := e3 hV h1 ht
  have a2 := e3 hW h2 hu
  refine ⟨fun x y q => ?_, sub_M a1.2 a2.2 hI.1, sub_U hV hW (a1.2.U (fun _ _ _ _ => rfl)) (a2.2.U (fun _ _ _ _ => rfl)) hI.1⟩
  rw [a1.1] at q
  rw [a2.1]
  exact q.imp (fun z => ⟨hI.1.1 _ _ z.1, z.2⟩) (fun z => z)
theorem go3 {a m b n : Nat} (hV : zv_W V) (hW : zv_W W) (hI : nIso V W) (h : (v_mk V (3, a, m, b, n)).1 = 0) : nGo (3, a, m, b, n) V W := by
  have h : (v_supC V (v_cls V a) b).1 = 0 := h
  cases hz : v_cls V a with
  | none => rw [hz] at h; cases h
  | some i =>
    obtain ⟨g1, g2, g3⟩ := v_cls_lt hz
    have gl : v_cn V i ≠ 0 := by rw [g2]; exact g3
    obtain ⟨j, j1, j2, j3, j4, j5⟩ := tr_cls hV hW hI.1 hz
    rw [hz] at h
    cases hf : v_cls V b with
    | none =>
      simp only [v_supC, hf] at h
      by_cases hb : b = 0
      · have k2 := tr_clsn hV hW hI.2 hf
        have v1 : v_mk V (3, a, m, b, n) = (0, v_set2 V i 0, none) := by show v_supC V (v_cls V a) b = _; rw [hz]; simp only [v_supC, hf]; rw [if_pos hb]
        have v2 : v_mk W (3, a, m, b, n) = (0, v_set2 W j 0, none) := by show v_supC W (v_cls W a) b = _; rw [j1]; simp only [v_supC, k2]; rw [if_pos hb]
        unfold nGo
        rw [v1, v2]
        exact ⟨rfl, go3s hV hW hI hz j1 (Or.inl ⟨rfl, hb⟩) (Or.inl ⟨rfl, hb⟩), go3s hW hV hI.symm j1 hz (Or.inl ⟨rfl, hb⟩) (Or.inl ⟨rfl, hb⟩)⟩
      · rw [if_neg hb] at h; cases h
    | some s =>
      obtain ⟨s1, s2, s3⟩ := v_cls_lt hf
      have sl : v_cn V s ≠ 0 := by rw [s2]; exact s3
      obtain ⟨u, u1, u2, u3, u4, u5⟩ := tr_cls hV hW hI.1 hf
      simp only [v_supC, hf] at h
      cases f1 : v_und V s i with
      | true => rw [f1] at h; cases h
      | false =>
        cases f2 : zf_any (fun k => !(v_mn V k == 0) && v_und V (v_ow V k) i && zf_any (fun o => v_mn V o == v_mn V k && v_und V s (v_ow V o)) 0 40) 0 40 with
        | true => rw [f1, f2] at h; cases h
        | false =>
          have f1' : v_und W u j = false := by
            cases q : v_und W u j with
            | false => rfl
            | true =>
              have := nR_sub hI.2 _ _ _ ((und_n hW u2 u5 j2 j5).mp q)
              rw [u4, j4] at this
              rw [(und_n hV s1 sl g1 gl).mpr this] at f1
              cases f1
          have f2' : zf_any (fun k => !(v_mn W k == 0) && v_und W (v_ow W k) j && zf_any (fun o => v_mn W o == v_mn W k && v_und W u (v_ow W o)) 0 40) 0 40 = false := by
            refine zf_any_z.mpr (fun k hk => ?_)
            cases q : (!(v_mn W k == 0) && v_und W (v_ow W k) j && zf_any (fun o => v_mn W o == v_mn W k && v_und W u (v_ow W o)) 0 40) with
            | false => rfl
            | true =>
              rw [Bool.and_eq_true, Bool.and_eq_true] at q
              obtain ⟨⟨q1, q2⟩, q3⟩ := q
              obtain ⟨o, -, o1, o2⟩ := zf_any_iff.mp q3
              have o2 : (v_mn W o == v_mn W k && v_und W u (v_ow W o)) = true := o2
              rw [Bool.and_eq_true, beq_iff_eq] at o2
              have kl : v_mn W k ≠ 0 := by simpa using q1
              have ol : v_mn W o ≠ 0 := by rw [o2.1]; exact kl
              have o1 : o < 40 := by omega
              obtain ⟨k', k1, k2, k3, k4⟩ := hI.2.2.1 _ _ ⟨k, hk, rfl, kl, rfl⟩
              obtain ⟨o', p1, p2, p3, p4⟩ := hI.2.2.1 _ _ ⟨o, o1, rfl, ol, rfl⟩
              have kl' : v_mn V k' ≠ 0 := by rw [k2]; exact kl
              have ol' : v_mn V o' ≠ 0 := by rw [p2]; exact ol
              have t1 := nR_sub hI.2 _ _ _ ((und_n hW (hm_l hW hk kl).1 (hm_l hW hk kl).2 j2 j5).mp q2)
              have t2 := nR_sub hI.2 _ _ _ ((und_n hW u2 u5 (hm_l hW o1 ol).1 (hm_l hW o1 ol).2).mp o2.2)
              rw [← k4, j4] at t1
              rw [u4, ← p4] at t2
              have t1 := (und_n hV (hm_l hV k1 kl').1 (hm_l hV k1 kl').2 g1 gl).mpr t1
              have t2 := (und_n hV s1 sl (hm_l hV p1 ol').1 (hm_l hV p1 ol').2).mpr t2
              have t3 := zf_any_z.mp f2 k' k1
              rw [zb_ne kl', t1, zf_any_y (p := fun o => v_mn V o == v_mn V k' && v_und V s (v_ow V o)) p1 (by show (v_mn V o' == v_mn V k' && v_und V s (v_ow V o')) = true; rw [t2, zb_eq (by rw [p2, k2, o2.1])]; rfl)] at t3
              cases t3
          have v1 : v_mk V (3, a, m, b, n) = (0, v_set2 V i (s + 1), none) := by show v_supC V (v_cls V a) b = _; rw [hz]; simp only [v_supC, hf]; rw [f1, f2]; rfl
          have v2 : v_mk W (3, a, m, b, n) = (0, v_set2 W j (u + 1), none) := by show v_supC W (v_cls W a) b = _; rw [j1]; simp only [v_supC, u1]; rw [f1', f2']; rfl
          unfold nGo
          rw [v1, v2]
          exact ⟨rfl, go3s hV hW hI hz j1 (Or.inr ⟨s, rfl, s2⟩) (Or.inr ⟨u, rfl, u3⟩), go3s hW hV hI.symm j1 hz (Or.inr ⟨u, rfl, u3⟩) (Or.inr ⟨s, rfl, s2⟩)⟩
end ZI2
