/-! versions that are the same by names stay so: members and uses; a whole log -/
section ZI3
variable {V W : zv}
/-! 4: a member is added -/
theorem e4 {a m i c : Nat} (hV : zv_W V) (h : v_cls V a = some c) (hm : m ≠ 0) (hi : i < 40) (hi0 : v_mn V i = 0) : (∀ x y, nM (v_set4 (v_set3 V i m) i c) x y ↔ nM V x y ∨ (x = a ∧ y = m)) ∧ mpU V (v_set4 (v_set3 V i m) i c) (fun x y => (x, y)) := by
  obtain ⟨c1, c2, c3⟩ := v_cls_lt h
  refine ⟨fun x y => ⟨?_, ?_⟩, fun _ _ _ _ => rfl, fun k hk hl => ?_⟩
  · rintro ⟨k, k1, k2, k3, k4⟩
    rw [w_32, w_22] at k2
    rw [w_30, w_33, w_23] at k4
    by_cases e : k = i
    · rw [if_pos e] at k2 k4
      exact Or.inr ⟨by rw [← k4]; exact c2, k2.symm⟩
    · rw [if_neg e] at k2 k4
      exact Or.inl ⟨k, k1, k2, k3, k4⟩
  · rintro (⟨k, k1, k2, k3, k4⟩ | ⟨rfl, rfl⟩)
    · have e : ¬ k = i := fun q => k3 (by rw [← k2, q]; exact hi0)
      exact ⟨k, k1, by rw [w_32, w_22, if_neg e]; exact k2, k3, by rw [w_30, w_33, if_neg e]; exact k4⟩
    · exact ⟨i, hi, by rw [w_32, w_22, if_pos rfl], hm, by rw [w_30, w_33, if_pos rfl]; exact c2⟩
  · have e : ¬ k = i := fun q => hl (by rw [q]; exact hi0)
    rw [w_30, w_33, if_neg e, w_32, w_22, if_neg e]
    exact ⟨rfl, rfl⟩
theorem r4 {c m : Nat} (h : (v_addM V (some c) m).1 = 0) : ∃ i, i < 40 ∧ v_mn V i = 0 ∧ v_mem V (some c) m = none ∧ ¬ v_tak V c m none = true ∧ v_nm V ≠ 40 ∧ v_addM V (some c) m = (0, v_set4 (v_set3 V i m) i c, some i) := by
  simp only [v_addM] at h ⊢
  cases e1 : v_mem V (some c) m with
  | some k => rw [e1] at h; cases h
  | none =>
    cases e2 : v_tak V c m none with
    | true => rw [e1, e2] at h; cases h
    | false =>
      by_cases e3 : v_nm V = 40
      · rw [e1, e2, if_neg (by decide), if_neg (by decide), if_pos e3] at h; cases h
      · rw [e1, e2, if_neg (by decide), if_neg (by decide), if_neg e3] at h
        cases hf : zf_fst (fun i => v_mn V i == 0) 0 40 with
        | none => rw [hf] at h; cases h
        | some i =>
          obtain ⟨-, i2, i3, -⟩ := zf_fst_some hf
          refine ⟨i, by omega, by simpa using i3, rfl, by decide, e3, ?_⟩
          rw [if_neg (by decide), if_neg (by decide), if_neg e3]
theorem r4' {c m : Nat} (h1 : v_mem V (some c) m = none) (h2 : ¬ v_tak V c m none = true) (h3 : v_nm V ≠ 40) : (v_addM V (some c) m).1 = 0 := by
  simp only [v_addM]
  rw [h1, if_neg (by decide), if_neg h2, if_neg h3]
  cases hf : zf_fst (fun i => v_mn V i == 0) 0 40 with
  | none => exact absurd (zf_nofree hf) h3
  | some i => rfl
theorem go4 {a m b n : Nat} (hV : zv_W V) (hW : zv_W W) (hI : nIso V W) (hm : m ≠ 0) (h : (v_mk V (4, a, m, b, n)).1 = 0) : nGo (4, a, m, b, n) V W := by
  have h : (v_addM V (v_cls V a) m).1 = 0 := h
  cases hz : v_cls V a with
  | none => rw [hz] at h; cases h
  | some c =>
    obtain ⟨g1, g2, g3⟩ := v_cls_lt hz
    have gl : v_cn V c ≠ 0 := by rw [g2]; exact g3
    obtain ⟨j, j1, j2, j3, j4, j5⟩ := tr_cls hV hW hI.1 hz
    rw [hz] at h
    obtain ⟨i, i1, i2, i3, i4, i5, i6⟩ := r4 h
    have q1 : v_mem W (some j) m = none := by
      have := tr_memn hV hW hI.2 hm (a := a) (by rw [hz]; exact i3)
      rw [j1] at this
      exact this
    have q2 := tr_tak (bv := none) (bw := none) hV hW hI.2 g1 gl j2 j4 hm (fun _ _ _ _ _ _ _ z => by cases z) i4
    have ho := r4' q1 q2 (by rw [← (n_ct hV hW hI).2.1]; exact i5)
    obtain ⟨k, k1, k2, k3, k4, k5, k6⟩ := r4 ho
    have v1 : v_mk V (4, a, m, b, n) = (0, v_set4 (v_set3 V i m) i c, some i) := by show v_addM V (v_cls V a) m = _; rw [hz]; exact i6
    have v2 : v_mk W (4, a, m, b, n) = (0, v_set4 (v_set3 W k m) k j, some k) := by show v_addM W (v_cls W a) m = _; rw [j1]; exact k6
    unfold nGo
    rw [v1, v2]
    have a1 := e4 hV hz hm i1 i2
    have a2 := e4 hW j1 hm k1 k2
    have s1 : mpS V (v_set4 (v_set3 V i m) i c) (fun x => x) := mpS.id (fun _ => rfl) (fun _ => rfl)
    have s2 : mpS W (v_set4 (v_set3 W k m) k j) (fun x => x) := mpS.id (fun _ => rfl) (fun _ => rfl)
    refine ⟨rfl, ⟨sub_S s1 s2 hI.1, fun x y q => ?_, sub_U hV hW a1.2 a2.2 hI.1⟩, ⟨sub_S s2 s1 hI.2, fun x y q => ?_, sub_U hW hV a2.2 a1.2 hI.2⟩⟩
    · rw [a1.1] at q; rw [a2.1]; exact q.imp (hI.1.2.1 _ _) (fun z => z)
    · rw [a2.1] at q; rw [a1.1]; exact q.imp (hI.2.2.1 _ _) (fun z => z)
/-! 5: a member is removed -/
theorem e5 {a m k : Nat} (hV : zv_W V) (hm : m ≠ 0) (h : v_mem V (v_cls V a) m = some k) (hu : ∀ j, j < 40 → j ≠ k → v_us V j k = false) : (∀ x y, nM (v_set3 (v_clr V k) k 0) x y ↔ nM V x y ∧ ¬ (x = a ∧ y = m)) ∧ (∀ x y z w, nU (v_set3 (v_clr V k) k 0) x y z w ↔ nU V x y z w ∧ ¬ (x = a ∧ y = m)) := by
  obtain ⟨k1, k2, k3⟩ := (mem_iff hV hm).mp h
  have un : ∀ t, t < 40 → v_mn V t = m → v_cn V (v_ow V t) = a → t = k := fun t ht q1 q2 => nM_un hV ht k1 (by rw [q1]; exact hm) (by rw [q1, k2]) (by rw [q2, k3])
  refine ⟨fun x y => ⟨?_, ?_⟩, fun x y z w => ⟨?_, ?_⟩⟩
  · rintro ⟨t, t1, t2, t3, t4⟩
    rw [w_22, w_52] at t2
    rw [w_20, w_23, w_50, w_53] at t4
    by_cases e : t = k
    · rw [if_pos e] at t2; exact absurd t2.symm t3
    · rw [if_neg e] at t2
      exact ⟨⟨t, t1, t2, t3, t4⟩, fun q => e (un t t1 (by rw [t2, q.2]) (by rw [t4, q.1]))⟩
  · rintro ⟨⟨t, t1, t2, t3, t4⟩, hx⟩
    have e : ¬ t = k := fun q => hx ⟨by rw [← t4, q, k3], by rw [← t2, q, k2]⟩
    exact ⟨t, t1, by rw [w_22, w_52, if_neg e]; exact t2, t3, by rw [w_20, w_23, w_50, w_53]; exact t4⟩
  · rintro ⟨t, s, t1, s1, u, ⟨t2, t3⟩, ⟨s2, s3⟩⟩
    rw [w_u2, w_u5] at u
    rw [w_22, w_52] at t2 s2
    rw [w_20, w_23, w_50, w_53] at t3 s3
    by_cases e : t = k
    · rw [if_pos e] at u; cases u
    · rw [if_neg e] at u t2
      by_cases e2 : s = k
      · rw [e2, hu t t1 e] at u; cases u
      · rw [if_neg e2] at s2
        exact ⟨⟨t, s, t1, s1, u, ⟨t2, t3⟩, ⟨s2, s3⟩⟩, fun q => e (un t t1 (by rw [t2, q.2]) (by rw [t3, q.1]))⟩
  · rintro ⟨⟨t, s, t1, s1, u, ⟨t2, t3⟩, ⟨s2, s3⟩⟩, hx⟩
    have e : ¬ t = k := fun q => hx ⟨by rw [← t3, q, k3], by rw [← t2, q, k2]⟩
    have e2 : ¬ s = k := fun q => by rw [q, hu t t1 e] at u; cases u
    refine ⟨t, s, t1, s1, by rw [w_u2, w_u5, if_neg e]; exact u, ⟨by rw [w_22, w_52, if_neg e]; exact t2, by rw [w_20, w_23, w_50, w_53]; exact t3⟩, ⟨by rw [w_22, w_52, if_neg e2]; exact s2, by rw [w_20, w_23, w_50, w_53]; exact s3⟩⟩
theorem r5 {k : Nat} : (v_remM V (some k)).1 = 0 ↔ ∀ j, j < 40 → j ≠ k → v_us V j k = false := by
  simp only [v_remM]
  cases e : zf_any (fun j => !(j == k) && v_us V j k) 0 40 with
  | true =>
    refine ⟨fun q => (by cases q), fun q => ?_⟩
    obtain ⟨j, -, j1, j2⟩ := zf_any_iff.mp e
    have j2 : (!(j == k) && v_us V j k) = true := j2
    rw [Bool.and_eq_true] at j2
    rw [q j (by omega) (by simpa using j2.1)] at j2
    cases j2.2
  | false =>
    refine ⟨fun _ j hj hne => ?_, fun _ => rfl⟩
    have := zf_any_z.mp e j hj
    rw [zb_ne hne] at this
    exact this
theorem go5 {a m b n : Nat} (hV : zv_W V) (hW : zv_W W) (hI : nIso V W) (hm : m ≠ 0) (h : (v_mk V (5, a, m, b, n)).1 = 0) : nGo (5, a, m, b, n) V W := by
  have h : (v_remM V (v_mem V (v_cls V a) m)).1 = 0 := h
  cases hz : v_mem V (v_cls V a) m with
  | none => rw [hz] at h; cases h
  | some k =>
    rw [hz] at h
    have hu := r5.mp h
    obtain ⟨k1, k2, k3⟩ := (mem_iff hV hm).mp hz
    obtain ⟨j, j0, j1, j2, j3⟩ := tr_mem hV hW hI.1 hm hz
    have hu' : ∀ t, t < 40 → t ≠ j → v_us W t j = false := by
      intro t ht hne
      cases q : v_us W t j with
      | false => rfl
      | true =>
        obtain ⟨t', s', t1, s1, u, ⟨t2, t3⟩, ⟨s2, s3⟩⟩ := hI.2.2.2 _ _ _ _ ⟨t, j, ht, j1, q, ⟨rfl, rfl⟩, ⟨rfl, rfl⟩⟩
        obtain ⟨l1, l2⟩ := hV.U t' s' t1 s1 u
        obtain ⟨l3, l4⟩ := hW.U t j ht j1 q
        have f1 : s' = k := nM_un hV s1 k1 l2 (by rw [s2, j2, k2]) (by rw [s3, j3, k3])
        have f2 : t' ≠ k := fun z => hne (nM_un hW ht j1 l3 (by rw [← t2, z, k2, j2]) (by rw [← t3, z, k3, j3]))
        rw [f1, hu t' t1 f2] at u
        cases u
    have ho : (v_remM W (some j)).1 = 0 := r5.mpr hu'
    have v1 : v_mk V (5, a, m, b, n) = (0, v_set3 (v_clr V k) k 0, none) := by
      show v_remM V (v_mem V (v_cls V a) m) = _
      rw [hz]
      simp only [v_remM] at h ⊢
      by_cases e : zf_any (fun j => !(j == k) && v_us V j k) 0 40 = true
      · rw [if_pos e] at h; cases h
      · rw [if_neg e]
    have v2 : v_mk W (5, a, m, b, n) = (0, v_set3 (v_clr W j) j 0, none) := by
      show v_remM W (v_mem W (v_cls W a) m) = _
      rw [j0]
      simp only [v_remM] at ho ⊢
      by_cases e : zf_any (fun t => !(t == j) && v_us W t j) 0 40 = true
      · rw [if_pos e] at ho; cases ho
      · rw [if_neg e]
    unfold nGo
    rw [v1, v2]
    have a1 := e5 hV hm hz hu
    have a2 := e5 hW hm j0 hu'
    have s1 : mpS V (v_set3 (v_clr V k) k 0) (fun x => x) := mpS.id (fun _ => rfl) (fun _ => rfl)
    have s2 : mpS W (v_set3 (v_clr W j) j 0) (fun x => x) := mpS.id (fun _ => rfl) (fun _ => rfl)
    refine ⟨rfl, ⟨sub_S s1 s2 hI.1, fun x y q => ?_, fun x y z w q => ?_⟩, ⟨sub_S s2 s1 hI.2, fun x y q => ?_, fun x y z w q => ?_⟩⟩
    · rw [a1.1] at q; rw [a2.1]; exact ⟨hI.1.2.1 _ _ q.1, q.2⟩
    · rw [a1.2] at q; rw [a2.2]; exact ⟨hI.1.2.2 _ _ _ _ q.1, q.2⟩
    · rw [a2.1] at q; rw [a1.1]; exact ⟨hI.2.2.1 _ _ q.1, q.2⟩
    · rw [a2.2] at q; rw [a1.2]; exact ⟨hI.2.2.2 _ _ _ _ q.1, q.2⟩
/-! 6: a member is renamed; 7: it is moved -/
def n_rm (a m n x y : Nat) : Nat × Nat := if x = a ∧ y = m then (a, n) else (x, y)
def n_ro (a m b x y : Nat) : Nat × Nat := if x = a ∧ y = m then (b, m) else (x, y)
theorem e6 {a m n k : Nat} (hV : zv_W V) (hm : m ≠ 0) (hn : n ≠ 0) (h : v_mem V (v_cls V a) m = some k) : mpM V (v_set3 V k n) (n_rm a m n) := by
  obtain ⟨k1, k2, k3⟩ := (mem_iff hV hm).mp h
  intro t ht
  refine ⟨fun q => ?_, fun hl => ?_⟩
  · rw [w_22] at q
    by_cases e : t = k
    · rw [e, k2]; exact hm
    · rw [if_neg e] at q; exact q
  · rw [w_22, w_20, w_23]
    unfold n_rm
    by_cases e : t = k
    · subst e
      rw [if_pos rfl, if_pos ⟨k3, k2⟩]
      exact ⟨hn, k3, rfl⟩
    · rw [if_neg e, if_neg (fun q => e (nM_un hV ht k1 hl (by rw [q.2, k2]) (by rw [q.1, k3])))]
      exact ⟨hl, rfl, rfl⟩
theorem e7 {a m b k c : Nat} (hV : zv_W V) (hm : m ≠ 0) (h : v_mem V (v_cls V a) m = some k) (hc : v_cls V b = some c) : mpM V (v_set4 V k c) (n_ro a m b) := by
  obtain ⟨k1, k2, k3⟩ := (mem_iff hV hm).mp h
  obtain ⟨c1, c2, c3⟩ := v_cls_lt hc
  intro t ht
  refine ⟨fun q => q, fun hl => ?_⟩
  rw [w_32, w_30, w_33]
  unfold n_ro
  by_cases e : t = k
  · subst e
    rw [if_pos rfl, if_pos ⟨k3, k2⟩]
    exact ⟨hl, c2, k2⟩
  · rw [if_neg e, if_neg (fun q => e (nM_un hV ht k1 hl (by rw [q.2, k2]) (by rw [q.1, k3])))]
    exact ⟨hl, rfl, rfl⟩
theorem go6 {a m b n : Nat} (hV : zv_W V) (hW : zv_W W) (hI : nIso V W) (hm : m ≠ 0) (hn : n ≠ 0) (h : (v_mk V (6, a, m, b, n)).1 = 0) : nGo (6, a, m, b, n) V W := by
  have h : (v_renM V (v_cls V a) (v_mem V (v_cls V a) m) n).1 = 0 := h
  cases hz : v_mem V (v_cls V a) m with
  | none => rw [hz] at h; cases h
  | some k =>
    obtain ⟨k1, k2, k3⟩ := v_mem_lt hz
    obtain ⟨j, j0, j1, j2, j3⟩ := tr_mem hV hW hI.1 hm hz
    obtain ⟨g1, g2, g3⟩ := v_cls_lt k3
    have gl : v_cn V (v_ow V k) ≠ 0 := by rw [g2]; exact g3
    obtain ⟨d, d1, d2, d3, d4, d5⟩ := tr_cls hV hW hI.1 k3
    rw [hz, k3] at h
    simp only [v_renM, Option.getD_some] at h
    by_cases e : v_tak V (v_ow V k) n none = true
    · rw [if_pos e] at h; cases h
    · have q2 := tr_tak (bv := none) (bw := none) hV hW hI.2 g1 gl d2 d4 hn (fun _ _ _ _ _ _ _ z => by cases z) e
      have v1 : v_mk V (6, a, m, b, n) = (0, v_set3 V k n, none) := by show v_renM V (v_cls V a) (v_mem V (v_cls V a) m) n = _; rw [hz, k3]; simp only [v_renM, Option.getD_some]; rw [if_neg e]
      have v2 : v_mk W (6, a, m, b, n) = (0, v_set3 W j n, none) := by show v_renM W (v_cls W a) (v_mem W (v_cls W a) m) n = _; rw [j0, d1]; simp only [v_renM, Option.getD_some]; rw [if_neg q2]
      unfold nGo
      rw [v1, v2]
      have a1 := e6 hV hm hn hz
      have a2 := e6 hW hm hn j0
      have s1 : mpS V (v_set3 V k n) (fun x => x) := mpS.id (fun _ => rfl) (fun _ => rfl)
      have s2 : mpS W (v_set3 W j n) (fun x => x) := mpS.id (fun _ => rfl) (fun _ => rfl)
      exact ⟨rfl, ⟨sub_S s1 s2 hI.1, sub_M a1 a2 hI.1, sub_U hV hW (a1.U (fun _ _ _ _ => rfl)) (a2.U (fun _ _ _ _ => rfl)) hI.1⟩, ⟨sub_S s2 s1 hI.2, sub_M a2 a1 hI.2, sub_U hW hV (a2.U (fun _ _ _ _ => rfl)) (a1.U (fun _ _ _ _ => rfl)) hI.2⟩⟩
theorem go7 {a m b n : Nat} (hV : zv_W V) (hW : zv_W W) (hI : nIso V W) (hm : m ≠ 0) (h : (v_mk V (7, a, m, b, n)).1 = 0) : nGo (7, a, m, b, n) V W := by
  have h : (v_movM V (v_cls V a) (v_mem V (v_cls V a) m) (v_cls V b)).1 = 0 := h
  cases hz : v_mem V (v_cls V a) m with
  | none => rw [hz] at h; cases h
  | some k =>
    cases hf : v_cls V b with
    | none => rw [hz, hf] at h; cases h
    | some c =>
      obtain ⟨k1, k2, k3⟩ := v_mem_lt hz
      obtain ⟨j, j0, j1, j2, j3⟩ := tr_mem hV hW hI.1 hm hz
      obtain ⟨g1, g2, g3⟩ := v_cls_lt hf
      have gl : v_cn V c ≠ 0 := by rw [g2]; exact g3
      obtain ⟨d, d1, d2, d3, d4, d5⟩ := tr_cls hV hW hI.1 hf
      rw [hz, hf] at h
      simp only [v_movM] at h
      by_cases e0 : v_cls V a = some c
      · rw [if_pos e0] at h; cases h
      · rw [if_neg e0] at h
        rw [k2] at h
        by_cases e : v_tak V c m (some k) = true
        · rw [if_pos e] at h; cases h
        · have h3 := (v_cls_lt k3).2
          have q2 := tr_tak (bv := some k) (bw := some j) hV hW hI.2 g1 gl d2 d4 hm (fun t s t1 s1 t2 s2 t3 z => by
            injection z with z
            rw [nM_un hW s1 j1 (by rw [s2]; exact hm) (by rw [s2, j2]) (by rw [← t3, z, h3.1, j3])]) e
          have q0 : ¬ v_cls W a = some d := by
            intro q
            have := (v_cls_lt q).2.1
            exact e0 ((cls_iff hV).mpr ⟨g1, by rw [g2, ← d3, this], h3.2⟩)
          have v1 : v_mk V (7, a, m, b, n) = (0, v_set4 V k c, none) := by show v_movM V (v_cls V a) (v_mem V (v_cls V a) m) (v_cls V b) = _; rw [hz, hf]; simp only [v_movM]; rw [if_neg e0, k2, if_neg e]
          have v2 : v_mk W (7, a, m, b, n) = (0, v_set4 W j d, none) := by show v_movM W (v_cls W a) (v_mem W (v_cls W a) m) (v_cls W b) = _; rw [j0, d1]; simp only [v_movM]; rw [if_neg q0, j2, if_neg q2]
          unfold nGo
          rw [v1, v2]
          have a1 := e7 hV hm hz hf
          have a2 := e7 hW hm j0 d1
          have s1 : mpS V (v_set4 V k c) (fun x => x) := mpS.id (fun _ => rfl) (fun _ => rfl)
          have s2 : mpS W (v_set4 W j d) (fun x => x) := mpS.id (fun _ => rfl) (fun _ => rfl)
          exact ⟨rfl, ⟨sub_S s1 s2 hI.1, sub_M a1 a2 hI.1, sub_U hV hW (a1.U (fun _ _ _ _ => rfl)) (a2.U (fun _ _ _ _ => rfl)) hI.1⟩, ⟨sub_S s2 s1 hI.2, sub_M a2 a1 hI.2, sub_U hW hV (a2.U (fun _ _ _ _ => rfl)) (a1.U (fun _ _ _ _ => rfl)) hI.2⟩⟩
/-! 8, 9: uses -/
theorem e8 {a m b n k j : Nat} (hV : zv_W V) (hm : m ≠ 0) (hn : n ≠ 0) (h1 : v_mem V (v_cls V a) m = some k) (h2 : v_mem V (v_cls V b) n = some j) : (∀ x y z w, nU (v_set5 V k j true) x y z w ↔ nU V x y z w ∨ ((x = a ∧ y = m) ∧ (z = b ∧ w = n))) ∧ (∀ x y z w, nU (v_set5 V k j false) x y z w ↔ nU V x y z w ∧ ¬ ((x = a ∧ y = m) ∧ (z = b ∧ w = n))) := by
  obtain ⟨k1, k2, k3⟩ := (mem_iff hV hm).mp h1
  obtain ⟨j1, j2, j3⟩ := (mem_iff hV hn).mp h2
  refine ⟨fun x y z w => ⟨?_, ?_⟩, fun x y z w => ⟨?_, ?_⟩⟩
  · rintro ⟨t, s, t1, s1, u, ⟨t2, t3⟩, ⟨s2, s3⟩⟩
    rw [w_u4] at u
    rw [w_42] at t2 s2
    rw [w_40, w_43] at t3 s3
    by_cases e : t = k ∧ s = j
    · obtain ⟨rfl, rfl⟩ := e
      exact Or.inr ⟨⟨by rw [← t3, k3], by rw [← t2, k2]⟩, ⟨by rw [← s3, j3], by rw [← s2, j2]⟩⟩
    · rw [if_neg e] at u
      exact Or.inl ⟨t, s, t1, s1, u, ⟨t2, t3⟩, ⟨s2, s3⟩⟩
  · rintro (⟨t, s, t1, s1, u, ⟨t2, t3⟩, ⟨s2, s3⟩⟩ | ⟨⟨rfl, rfl⟩, ⟨rfl, rfl⟩⟩)
    · refine ⟨t, s, t1, s1, ?_, ⟨t2, t3⟩, ⟨s2, s3⟩⟩
      rw [w_u4]
      by_cases e : t = k ∧ s = j
      · rw [if_pos e]
      · rw [if_neg e]; exact u
    · exact ⟨k, j, k1, j1, by rw [w_u4, if_pos ⟨rfl, rfl⟩], ⟨k2, k3⟩, ⟨j2, j3⟩⟩
  · rintro ⟨t, s, t1, s1, u, ⟨t2, t3⟩, ⟨s2, s3⟩⟩
    rw [w_u4] at u
    rw [w_42] at t2 s2
    rw [w_40, w_43] at t3 s3
    by_cases e : t = k ∧ s = j
    · rw [if_pos e] at u; cases u
    · rw [if_neg e] at u
      obtain ⟨l1, l2⟩ := hV.U t s t1 s1 u
      refine ⟨⟨t, s, t1, s1, u, ⟨t2, t3⟩, ⟨s2, s3⟩⟩, fun q => e ⟨?_, ?_⟩⟩
      · exact nM_un hV t1 k1 l1 (by rw [t2, q.1.2, k2]) (by rw [t3, q.1.1, k3])
      · exact nM_un hV s1 j1 l2 (by rw [s2, q.2.2, j2]) (by rw [s3, q.2.1, j3])
  · rintro ⟨⟨t, s, t1, s1, u, ⟨t2, t3⟩, ⟨s2, s3⟩⟩, hx⟩
    refine ⟨t, s, t1, s1, ?_, ⟨t2, t3⟩, ⟨s2, s3⟩⟩
    rw [w_u4, if_neg]
    · exact u
    · rintro ⟨rfl, rfl⟩
      exact hx ⟨⟨by rw [← t3, k3], by rw [← t2, k2]⟩, ⟨by rw [← s3, j3], by rw [← s2, j2]⟩⟩
theorem tr_us (hV : zv_W V) (hW : zv_W W) (hI : nIso V W) {a m b n k j k' j' : Nat} (hm : m ≠ 0) (hn : n ≠ 0) (h1 : v_mem V (v_cls V a) m = some k) (h2 : v_mem V (v_cls V b) n = some j) (h3 : v_mem W (v_cls W a) m = some k') (h4 : v_mem W (v_cls W b) n = some j') : v_us W k' j' = v_us V k j := by
  obtain ⟨p1, p2, p3⟩ := (mem_iff hV hm).mp h1
  obtain ⟨q1, q2, q3⟩ := (mem_iff hV hn).mp h2
  obtain ⟨r1, r2, r3⟩ := (mem_iff hW hm).mp h3
  obtain ⟨s1, s2, s3⟩ := (mem_iff hW hn).mp h4
  have a1 := us_n hV p1 q1 (by rw [p2]; exact hm) (by rw [q2]; exact hn)
  have a2 := us_n hW r1 s1 (by rw [r2]; exact hm) (by rw [s2]; exact hn)
  rw [p2, p3, q2, q3] at a1
  rw [r2, r3, s2, s3] at a2
  cases e : v_us V k j with
  | true => exact a2.mpr (hI.1.2.2 _ _ _ _ (a1.mp e))
  | false =>
    cases e2 : v_us W k' j' with
    | false => rfl
    | true => rw [a1.mpr (hI.2.2.2 _ _ _ _ (a2.mp e2))] at e; cases e
theorem go8 {a m b n : Nat} (hV : zv_W V) (hW : zv_W W) (hI : nIso V W) (hm : m ≠ 0) (hn : n ≠ 0) (h : (v_mk V (8, a, m, b, n)).1 = 0) : nGo (8, a, m, b, n) V W := by
  have h : (v_addU V (v_mem V (v_cls V a) m) (v_mem V (v_cls V b) n)).1 = 0 := h
  cases hz : v_mem V (v_cls V a) m with
  | none => rw [hz] at h; cases q : v_mem V (v_cls V b) n <;> rw [q] at h <;> cases h
  | some k =>
    cases hf : v_mem V (v_cls V b) n with
    | none => rw [hz, hf] at h; cases h
    | some j =>
      obtain ⟨k', k0, -⟩ := tr_mem hV hW hI.1 hm hz
      obtain ⟨j', j0, -⟩ := tr_mem hV hW hI.1 hn hf
      have eu := tr_us hV hW hI hm hn hz hf k0 j0
      rw [hz, hf] at h
      simp only [v_addU] at h
      cases e1 : v_us V k j with
      | true => rw [e1] at h; cases h
      | false =>
        by_cases e2 : v_nu V = 60
        · rw [e1, if_neg (by decide), if_pos e2] at h; cases h
        · have v1 : v_mk V (8, a, m, b, n) = (0, v_set5 V k j true, none) := by show v_addU V (v_mem V (v_cls V a) m) (v_mem V (v_cls V b) n) = _; rw [hz, hf]; simp only [v_addU]; rw [e1, if_neg (by decide), if_neg e2]
          have v2 : v_mk W (8, a, m, b, n) = (0, v_set5 W k' j' true, none) := by show v_addU W (v_mem W (v_cls W a) m) (v_mem W (v_cls W b) n) = _; rw [k0, j0]; simp only [v_addU]; rw [eu, e1, if_neg (by decide), if_neg (by rw [← (n_ct hV hW hI).2.2]; exact e2)]
          unfold nGo
          rw [v1, v2]
          have a1 := (e8 hV hm hn hz hf).1
          have a2 := (e8 hW hm hn k0 j0).1
          have s1 : mpS V (v_set5 V k j true) (fun x => x) := mpS.id (fun _ => rfl) (fun _ => rfl)
          have s2 : mpS W (v_set5 W k' j' true) (fun x => x) := mpS.id (fun _ => rfl) (fun _ => rfl)
          have m1 : mpM V (v_set5 V k j true) (fun x y => (x, y)) := fun t ht => ⟨fun q => q, fun q => ⟨q, rfl, rfl⟩⟩
          have m2 : mpM W (v_set5 W k' j' true) (fun x y => (x, y)) := fun t ht => ⟨fun q => q, fun q => ⟨q, rfl, rfl⟩⟩
          refine ⟨rfl, ⟨sub_S s1 s2 hI.1, sub_M m1 m2 hI.1, fun x y z w q => ?_⟩, ⟨sub_S s2 s1 hI.2, sub_M m2 m1 hI.2, fun x y z w q => ?_⟩⟩
          · rw [a1] at q; rw [a2]; exact q.imp (hI.1.2.2 _ _ _ _) (fun z => z)
          · rw [a2] at q; rw [a1]; exact q.imp (hI.2.2.2 _ _ _ _) (fun z => z)
theorem go9 {a m b n : Nat} (hV : zv_W V) (hW : zv_W W) (hI : nIso V W) (hm : m ≠ 0) (hn : n ≠ 0) (h : (v_mk V (9, a, m, b, n)).1 = 0) : nGo (9, a, m, b, n) V W := by
  have h : (v_remU V (v_mem V (v_cls V a) m) (v_mem V (v_cls V b) n)).1 = 0 := h
  cases hz : v_mem V (v_cls V a) m with
  | none => rw [hz] at h; cases q : v_mem V (v_cls V b) n <;> rw [q] at h <;> cases h
  | some k =>
    cases hf : v_mem V (v_cls V b) n with
    | none => rw [hz, hf] at h; cases h
    | some j =>
      obtain ⟨k', k0, -⟩ := tr_mem hV hW hI.1 hm hz
      obtain ⟨j', j0, -⟩ := tr_mem hV hW hI.1 hn hf
      have eu := tr_us hV hW hI hm hn hz hf k0 j0
      rw [hz, hf] at h
      simp only [v_remU] at h
      cases e1 : v_us V k j with
      | false => rw [e1] at h; cases h
      | true =>
        have v1 : v_mk V (9, a, m, b, n) = (0, v_set5 V k j false, none) := by show v_remU V (v_mem V (v_cls V a) m) (v_mem V (v_cls V b) n) = _; rw [hz, hf]; simp only [v_remU]; rw [e1]; rfl
        have v2 : v_mk W (9, a, m, b, n) = (0, v_set5 W k' j' false, none) := by show v_remU W (v_mem W (v_cls W a) m) (v_mem W (v_cls W b) n) = _; rw [k0, j0]; simp only [v_remU]; rw [eu, e1]; rfl
        unfold nGo
        rw [v1, v2]
        have a1 := (e8 hV hm hn hz hf).2
        have a2 := (e8 hW hm hn k0 j0).2
        have s1 : mpS V (v_set5 V k j false) (fun x => x) := mpS.id (fun _ => rfl) (fun _ => rfl)
        have s2 : mpS W (v_set5 W k' j' false) (fun x => x) := mpS.id (fun _ => rfl) (fun _ => rfl)
        have m1 : mpM V (v_set5 V k j false) (fun x y => (x, y)) := fun t ht => ⟨fun q => q, fun q => ⟨q, rfl, rfl⟩⟩
        have m2 : mpM W (v_set5 W k' j' false) (fun x y => (x, y)) := fun t ht => ⟨fun q => q, fun q => ⟨q, rfl, rfl⟩⟩
        refine ⟨rfl, ⟨sub_S s1 s2 hI.1, sub_M m1 m2 hI.1, fun x y z w q => ?_⟩, ⟨sub_S s2 s1 hI.2, sub_M m2 m1 hI.2, fun x y z w q => ?_⟩⟩
        · rw [a1] at q; rw [a2]; exact ⟨hI.1.2.2 _ _ _ _ q.1, q.2⟩
        · rw [a2] at q; rw [a1]; exact ⟨hI.2.2.2 _ _ _ _ q.1, q.2⟩
theorem n_mk {c : zch} (hV : zv_W V) (hW : zv_W W) (hI : nIso V W) (hc : zc_leg c) (h : (v_mk V c).1 = 0) : (v_mk W c).1 = 0 ∧ nIso (v_mk V c).2.1 (v_mk W c).2.1 := by
  suffices q : nGo c V W from ⟨q.1, q.2⟩
  obtain ⟨kind, a, m, b, n⟩ := c
  obtain ⟨h1, h2, h3, h4, h5⟩ := hc
  dsimp only at h1 h2 h3 h4 h5
  match kind, h1, h3, h4, h5, h with
  | 0, _, h3, h4, h5, h => exact go0 hV hW hI (by omega) h
  | 1, _, h3, h4, h5, h => exact go1 hV hW hI h
  | 2, _, h3, h4, h5, h => exact go2 hV hW hI (by omega) h
  | 3, _, h3, h4, h5, h => exact go3 hV hW hI h
  | 4, _, h3, h4, h5, h => exact go4 hV hW hI (by omega) h
  | 5, _, h3, h4, h5, h => exact go5 hV hW hI (by omega) h
  | 6, _, h3, h4, h5, h => exact go6 hV hW hI (by omega) (by omega) h
  | 7, _, h3, h4, h5, h => exact go7 hV hW hI (by omega) h
  | 8, _, h3, h4, h5, h => exact go8 hV hW hI (by omega) (by omega) h
  | 9, _, h3, h4, h5, h => exact go9 hV hW hI (by omega) (by omega) h
  | k + 10, h1, _, _, _, _ => exact absurd h1 (by omega)
/-- every change of a log can be made -/
def nLog (B : zv) (L : Nat → zch) (n : Nat) : Prop := ∀ i, i < n → zc_leg (L i) ∧ (v_mk (v_go B L i) (L i)).1 = 0
theorem v_go_cong {B : zv} {L L' : Nat → zch} : ∀ n, (∀ i, i < n → L' i = L i) → v_go B L' n = v_go B L n
  | 0, _ => rfl
  | n + 1, h => by
    show (v_mk (v_go B L' n) (L' n)).2.1 = (v_mk (v_go B L n) (L n)).2.1
    rw [v_go_cong n (fun i hi => h i (by omega)), h n (by omega)]
theorem v_ex_at {L : Nat → zch} {i j : Nat} : v_ex L i j = if j = i + 1 then v_ft L i else if j = i then v_bk L i else L j := by
  unfold v_ex
  simp only [va_up]
theorem nLog.ex {B : zv} {L : Nat → zch} {n i : Nat} (hB : zv_W B) (h : nLog B L n) (hi : i + 1 < n) (hc : v_com B L i = true) : nLog B (v_ex L i) n ∧ nIso (v_go B L n) (v_go B (v_ex L i) n) := by
  unfold v_com at hc
  rw [Bool.and_eq_true, Bool.and_eq_true, beq_iff_eq, beq_iff_eq] at hc
  obtain ⟨c1, c2, c3⟩ := hc
  have hlg : ∀ j, j < n → zc_leg (L j) := fun j hj => (h j hj).1
  have hle := v_ex_leg hlg hi
  have hw : ∀ j, j ≤ n → zv_W (v_go B L j) := fun j hj => hB.go j (fun t ht => hlg t (by omega))
  have hw' : ∀ j, j ≤ n → zv_W (v_go B (v_ex L i) j) := fun j hj => hB.go j (fun t ht => hle t (by omega))
  have g0 : ∀ j, j ≤ i → v_go B (v_ex L i) j = v_go B L j := fun j hj => v_go_cong j (fun t ht => by rw [v_ex_at, if_neg (by omega), if_neg (by omega)])
  have x1 : v_ex L i i = v_bk L i := by rw [v_ex_at, if_neg (by omega), if_pos rfl]
  have x2 : v_ex L i (i + 1) = v_ft L i := by rw [v_ex_at, if_pos rfl]
  have g1 : v_go B (v_ex L i) (i + 1) = (v_mk (v_go B L i) (v_bk L i)).2.1 := by
    show (v_mk (v_go B (v_ex L i) i) (v_ex L i i)).2.1 = _
    rw [g0 i (Nat.le_refl _), x1]
  have g2 : v_go B (v_ex L i) (i + 2) = (v_mk (v_mk (v_go B L i) (v_bk L i)).2.1 (v_ft L i)).2.1 := by
    show (v_mk (v_go B (v_ex L i) (i + 1)) (v_ex L i (i + 1))).2.1 = _
    rw [g1, x2]
  have i2 : nIso (v_go B L (i + 2)) (v_go B (v_ex L i) (i + 2)) := by
    rw [g2]
    rw [← g2] at c3 ⊢
    exact ((v_one_n (hw' _ (by omega)) (hw _ (by omega))).mp c3).symm
  have step : ∀ k, i + 2 + k ≤ n → nIso (v_go B L (i + 2 + k)) (v_go B (v_ex L i) (i + 2 + k)) ∧ ∀ j, i + 2 ≤ j → j < i + 2 + k → (v_mk (v_go B (v_ex L i) j) (v_ex L i j)).1 = 0 := by
    intro k
    induction k with
    | zero => exact fun _ => ⟨i2, fun j h1 h2 => absurd h2 (by omega)⟩
    | succ k ih =>
      intro hk
      obtain ⟨q1, q2⟩ := ih (by omega)
      have e : v_ex L i (i + 2 + k) = L (i + 2 + k) := by rw [v_ex_at, if_neg (by omega), if_neg (by omega)]
      obtain ⟨r1, r2⟩ := n_mk (hw _ (by omega)) (hw' _ (by omega)) q1 (hlg (i + 2 + k) (by omega)) (h (i + 2 + k) (by omega)).2
      refine ⟨?_, fun j h1 h2 => ?_⟩
      · show nIso (v_mk (v_go B L (i + 2 + k)) (L (i + 2 + k))).2.1 (v_mk (v_go B (v_ex L i) (i + 2 + k)) (v_ex L i (i + 2 + k))).2.1
        rw [e]
        exact r2
      · by_cases e2 : j = i + 2 + k
        · rw [e2, e]; exact r1
        · exact q2 j h1 (by omega)
  obtain ⟨t1, t2⟩ := step (n - (i + 2)) (by omega)
  rw [show i + 2 + (n - (i + 2)) = n by omega] at t1 t2
  refine ⟨fun j hj => ⟨hle j hj, ?_⟩, t1⟩
  by_cases e1 : j < i
  · rw [g0 j (by omega), v_ex_at, if_neg (by omega), if_neg (by omega)]
    exact (h j hj).2
  · by_cases e2 : j = i
    · subst e2
      rw [g0 j (Nat.le_refl _), x1]
      exact c1
    · by_cases e3 : j = i + 1
      · subst e3
        rw [g1, x2]
        exact c2
      · exact t2 j (by omega) hj
end ZI3
