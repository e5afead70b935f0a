/-! versions that are the same by names stay so: a change that can be made in one can be made in the other -/
def nR (V : zv) : Nat → Nat → Nat → Prop
  | 0, x, y => x = y
  | n + 1, x, y => x = y ∨ ∃ z, z ≠ 0 ∧ nS V x z ∧ nR V n z y
section ZI
variable {V W V' W' : zv}
theorem nR_sub (h : nSub V W) : ∀ (n x y : Nat), nR V n x y → nR W n x y
  | 0, _, _, q => q
  | n + 1, x, y, q => by
    rcases q with q | ⟨z, z1, z2, z3⟩
    · exact Or.inl q
    · exact Or.inr ⟨z, z1, h.1 _ _ z2, nR_sub h n z y z3⟩
theorem cn_un {c d : Nat} (hV : zv_W V) (hc : c < 12) (hd : d < 12) (hl : v_cn V c ≠ 0) (e : v_cn V c = v_cn V d) : c = d := hV.2.2.2.2.2.1 c d hc hd hl e
theorem sn_of {c s : Nat} (h : v_pr (v_sp V c) = some s) : v_sn V c = v_cn V s := by
  have := v_pr_s h
  unfold v_sn
  rw [if_neg (by omega), this]
  rfl
theorem up_n (hV : zv_W V) {u : Nat} (hu : u < 12) (hul : v_cn V u ≠ 0) : ∀ (n c : Nat), c < 12 → v_cn V c ≠ 0 → (v_up V (some c) u n = true ↔ nR V n (v_cn V c) (v_cn V u))
  | 0, c, hc, hl => by
    show (some c == some u) = true ↔ v_cn V c = v_cn V u
    constructor
    · intro h
      have : c = u := by simpa using h
      rw [this]
    · intro h
      rw [cn_un hV hc hu hl h]
      simp
  | n + 1, c, hc, hl => by
    show (if c = u then true else v_up V (v_pr (v_sp V c)) u n) = true ↔ _
    by_cases e : c = u
    · subst e
      rw [if_pos rfl]
      exact ⟨fun _ => Or.inl rfl, fun _ => rfl⟩
    · rw [if_neg e]
      cases hp : v_pr (v_sp V c) with
      | none =>
        constructor
        · intro h
          cases n with
          | zero => cases h
          | succ n => cases h
        · rintro (h | ⟨z, z1, ⟨c', k1, k2, k3, k4⟩, z3⟩)
          · exact absurd (cn_un hV hc hu hl h) e
          · have : c = c' := cn_un hV hc k1 hl k2.symm
            subst this
            unfold v_sn at k4
            have h0 : v_sp V c = 0 := by
              cases q : v_sp V c with
              | zero => rfl
              | succ t => rw [q] at hp; cases hp
            rw [if_pos h0] at k4
            exact absurd k4.symm z1
      | some s =>
        obtain ⟨s1, s2⟩ := v_chl hV hc hl s hp
        rw [up_n hV hu hul n s s1 s2]
        constructor
        · intro h
          exact Or.inr ⟨v_cn V s, s2, ⟨c, hc, rfl, hl, sn_of hp⟩, h⟩
        · rintro (h | ⟨z, z1, ⟨c', k1, k2, k3, k4⟩, z3⟩)
          · exact absurd (cn_un hV hc hu hl h) e
          · have : c = c' := cn_un hV hc k1 hl k2.symm
            subst this
            rw [sn_of hp] at k4
            rw [k4]
            exact z3
theorem und_n (hV : zv_W V) {c u : Nat} (hc : c < 12) (hl : v_cn V c ≠ 0) (hu : u < 12) (hul : v_cn V u ≠ 0) : v_und V c u = true ↔ nR V 12 (v_cn V c) (v_cn V u) := up_n hV hu hul 12 c hc hl
theorem hm_l (hV : zv_W V) {k : Nat} (hk : k < 40) (hl : v_mn V k ≠ 0) : v_ow V k < 12 ∧ v_cn V (v_ow V k) ≠ 0 := ⟨hV.2.2.2.1 k hk, hV.2.2.2.2.2.2.2.1 k hk hl⟩
theorem tak_n (hV : zv_W V) {c name : Nat} {but : Option Nat} (hc : c < 12) (hl : v_cn V c ≠ 0) (hn : name ≠ 0) : v_tak V c name but = true ↔ ∃ k, k < 40 ∧ v_mn V k = name ∧ some k ≠ but ∧ (nR V 12 (v_cn V c) (v_cn V (v_ow V k)) ∨ nR V 12 (v_cn V (v_ow V k)) (v_cn V c)) := by
  unfold v_tak
  rw [zf_any_iff]
  constructor
  · rintro ⟨k, -, k1, k2⟩
    simp only [Bool.and_eq_true, beq_iff_eq, Bool.not_eq_true', v_kin, Bool.or_eq_true] at k2
    obtain ⟨⟨k3, k4⟩, k5⟩ := k2
    obtain ⟨o1, o2⟩ := hm_l hV (k := k) (by omega) (by omega)
    refine ⟨k, by omega, k3, fun q => ?_, ?_⟩
    · rw [q] at k4
      simp at k4
    · rcases k5 with k5 | k5
      · exact Or.inl ((und_n hV hc hl o1 o2).mp k5)
      · exact Or.inr ((und_n hV o1 o2 hc hl).mp k5)
  · rintro ⟨k, k1, k2, k3, k4⟩
    obtain ⟨o1, o2⟩ := hm_l hV (k := k) k1 (by omega)
    refine ⟨k, by omega, by omega, ?_⟩
    have e1 : (some k == but) = false := by
      cases but with
      | none => rfl
      | some z => have : ¬ k = z := fun q => k3 (by rw [q]); simp [this]
    have e2 : v_kin V c (v_ow V k) = true := by
      unfold v_kin
      rw [Bool.or_eq_true]
      rcases k4 with k4 | k4
      · exact Or.inl ((und_n hV hc hl o1 o2).mpr k4)
      · exact Or.inr ((und_n hV o1 o2 hc hl).mpr k4)
    show (v_mn V k == name && !(some k == but) && v_kin V c (v_ow V k)) = true
    rw [zb_eq k2, e1, e2]
    rfl
/-! what goes over -/
theorem tr_cls (hV : zv_W V) (hW : zv_W W) (h : nSub V W) {a c : Nat} (e : v_cls V a = some c) : ∃ d, v_cls W a = some d ∧ d < 12 ∧ v_cn W d = a ∧ v_cn W d = v_cn V c ∧ v_cn W d ≠ 0 := by
  obtain ⟨h1, h2, h3⟩ := v_cls_lt e
  obtain ⟨d, d1, d2, d3, d4⟩ := h.1 _ _ ⟨c, h1, h2, h3, rfl⟩
  exact ⟨d, (cls_iff hW).mpr ⟨d1, d2, d3⟩, d1, d2, d2.trans h2.symm, by rw [d2]; exact h3⟩
theorem tr_clsn (hV : zv_W V) (hW : zv_W W) (h : nSub W V) {a : Nat} (e : v_cls V a = none) : v_cls W a = none := by
  cases q : v_cls W a with
  | none => rfl
  | some d =>
    obtain ⟨c, c1, -⟩ := tr_cls hW hV h q
    rw [c1] at e
    cases e
theorem tr_mem (hV : zv_W V) (hW : zv_W W) (h : nSub V W) {a m k : Nat} (hm : m ≠ 0) (e : v_mem V (v_cls V a) m = some k) : ∃ j, v_mem W (v_cls W a) m = some j ∧ j < 40 ∧ v_mn W j = m ∧ v_cn W (v_ow W j) = a := by
  obtain ⟨h1, h2, h3⟩ := (mem_iff hV hm).mp e
  obtain ⟨j, j1, j2, j3, j4⟩ := h.2.1 _ _ ⟨k, h1, h2, hm, h3⟩
  exact ⟨j, (mem_iff hW hm).mpr ⟨j1, j2, j4⟩, j1, j2, j4⟩
theorem tr_memn (hV : zv_W V) (hW : zv_W W) (h : nSub W V) {a m : Nat} (hm : m ≠ 0) (e : v_mem V (v_cls V a) m = none) : v_mem W (v_cls W a) m = none := by
  cases q : v_mem W (v_cls W a) m with
  | none => rfl
  | some d =>
    obtain ⟨c, c1, -⟩ := tr_mem hW hV h hm q
    rw [c1] at e
    cases e
theorem tr_tak (hV : zv_W V) (hW : zv_W W) (h : nSub W V) {c d name : Nat} {bv bw : Option Nat} (hc : c < 12) (hcl : v_cn V c ≠ 0) (hd : d < 12) (e : v_cn W d = v_cn V c) (hn : name ≠ 0) (hb : ∀ k j, k < 40 → j < 40 → v_mn V k = name → v_mn W j = name → v_cn V (v_ow V k) = v_cn W (v_ow W j) → some k = bv → some j = bw) (q : ¬ v_tak V c name bv = true) : ¬ v_tak W d name bw = true := by
  intro q2
  refine q ((tak_n hV hc hcl hn).mpr ?_)
  obtain ⟨j, j1, j2, j3, j4⟩ := (tak_n hW hd (by rw [e]; exact hcl) hn).mp q2
  obtain ⟨k, k1, k2, k3, k4⟩ := h.2.1 _ _ ⟨j, j1, j2, hn, rfl⟩
  refine ⟨k, k1, k2, fun z => j3 (hb k j k1 j1 k2 j2 k4 z), ?_⟩
  rw [k4, ← e]
  rcases j4 with j4 | j4
  · exact Or.inl (nR_sub h _ _ _ j4)
  · exact Or.inr (nR_sub h _ _ _ j4)
theorem us_n (hV : zv_W V) {k j : Nat} (hk : k < 40) (hj : j < 40) (hl : v_mn V k ≠ 0) (hl2 : v_mn V j ≠ 0) : v_us V k j = true ↔ nU V (v_cn V (v_ow V k)) (v_mn V k) (v_cn V (v_ow V j)) (v_mn V j) := by
  constructor
  · intro h
    exact ⟨k, j, hk, hj, h, ⟨rfl, rfl⟩, ⟨rfl, rfl⟩⟩
  · rintro ⟨k', j', k1, j1, hu, ⟨k2, k3⟩, ⟨j2, j3⟩⟩
    rw [nM_un hV hk k1 hl k2.symm k3.symm, nM_un hV hj j1 hl2 j2.symm j3.symm]
    exact hu
/-- the same places, names by G -/
def mpS (V V' : zv) (G : Nat → Nat) : Prop := ∀ c, c < 12 → (v_cn V' c ≠ 0 → v_cn V c ≠ 0) ∧ (v_cn V c ≠ 0 → v_cn V' c ≠ 0 ∧ v_cn V' c = G (v_cn V c) ∧ v_sn V' c = G (v_sn V c))
def mpM (V V' : zv) (F : Nat → Nat → Nat × Nat) : Prop := ∀ k, k < 40 → (v_mn V' k ≠ 0 → v_mn V k ≠ 0) ∧ (v_mn V k ≠ 0 → v_mn V' k ≠ 0 ∧ v_cn V' (v_ow V' k) = (F (v_cn V (v_ow V k)) (v_mn V k)).1 ∧ v_mn V' k = (F (v_cn V (v_ow V k)) (v_mn V k)).2)
def mpU (V V' : zv) (F : Nat → Nat → Nat × Nat) : Prop := (∀ k j, k < 40 → j < 40 → v_us V' k j = v_us V k j) ∧ ∀ k, k < 40 → v_mn V k ≠ 0 → v_cn V' (v_ow V' k) = (F (v_cn V (v_ow V k)) (v_mn V k)).1 ∧ v_mn V' k = (F (v_cn V (v_ow V k)) (v_mn V k)).2
theorem sub_S {G : Nat → Nat} (a : mpS V V' G) (b : mpS W W' G) (h : nSub V W) : ∀ x y, nS V' x y → nS W' x y := by
  rintro x y ⟨c, c1, c2, c3, c4⟩
  have hl := (a c c1).1 (by rw [c2]; exact c3)
  obtain ⟨g1, g2, g3⟩ := (a c c1).2 hl
  obtain ⟨d, d1, d2, d3, d4⟩ := h.1 _ _ ⟨c, c1, rfl, hl, rfl⟩
  obtain ⟨f1, f2, f3⟩ := (b d d1).2 (by rw [d2]; exact hl)
  exact ⟨d, d1, by rw [f2, d2, ← g2, c2], c3, by rw [f3, d4, ← g3, c4]⟩
theorem sub_M {F : Nat → Nat → Nat × Nat} (a : mpM V V' F) (b : mpM W W' F) (h : nSub V W) : ∀ x y, nM V' x y → nM W' x y := by
  rintro x y ⟨c, c1, c2, c3, c4⟩
  have hl := (a c c1).1 (by rw [c2]; exact c3)
  obtain ⟨g1, g2, g3⟩ := (a c c1).2 hl
  obtain ⟨d, d1, d2, d3, d4⟩ := h.2.1 _ _ ⟨c, c1, rfl, hl, rfl⟩
  obtain ⟨f1, f2, f3⟩ := (b d d1).2 (by rw [d2]; exact hl)
  exact ⟨d, d1, by rw [f3, d2, d4, ← g3, c2], c3, by rw [f2, d2, d4, ← g2, c4]⟩
theorem sub_U {F : Nat → Nat → Nat × Nat} (hV : zv_W V) (hW : zv_W W) (a : mpU V V' F) (b : mpU W W' F) (h : nSub V W) : ∀ x y z w, nU V' x y z w → nU W' x y z w := by
  rintro x y z w ⟨k, j, k1, j1, hu, ⟨k2, k3⟩, ⟨j2, j3⟩⟩
  rw [a.1 k j k1 j1] at hu
  obtain ⟨l1, l2⟩ := hV.U k j k1 j1 hu
  obtain ⟨k', j', k1', j1', hu', ⟨k2', k3'⟩, ⟨j2', j3'⟩⟩ := h.2.2 _ _ _ _ ⟨k, j, k1, j1, hu, ⟨rfl, rfl⟩, ⟨rfl, rfl⟩⟩
  obtain ⟨l1', l2'⟩ := hW.U k' j' k1' j1' hu'
  have a1 := a.2 k k1 l1
  have a2 := a.2 j j1 l2
  have b1 := b.2 k' k1' l1'
  have b2 := b.2 j' j1' l2'
  refine ⟨k', j', k1', j1', by rw [b.1 k' j' k1' j1']; exact hu', ⟨?_, ?_⟩, ⟨?_, ?_⟩⟩
  · rw [b1.2, k2', k3', ← a1.2, k2]
  · rw [b1.1, k2', k3', ← a1.1, k3]
  · rw [b2.2, j2', j3', ← a2.2, j2]
  · rw [b2.1, j2', j3', ← a2.1, j3]
theorem mpM.U {F : Nat → Nat → Nat × Nat} (a : mpM V V' F) (hu : ∀ k j, k < 40 → j < 40 → v_us V' k j = v_us V k j) : mpU V V' F := ⟨hu, fun k hk hl => ((a k hk).2 hl).2⟩
theorem mpS.id (h1 : ∀ c, v_cn V' c = v_cn V c) (h2 : ∀ c, v_sp V' c = v_sp V c) : mpS V V' (fun x => x) := by
  intro c hc
  have e : v_sn V' c = v_sn V c := by unfold v_sn; rw [h2, h1]
  rw [h1, e]
  exact ⟨fun q => q, fun q => ⟨q, rfl, rfl⟩⟩
end ZI
