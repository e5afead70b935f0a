/-! one instruction of the small machine is one of the real one -/
def zm_B : List Cond := [.castable (zm_ex 0) (zm_ex 0), .castable (zm_ex 1) (zm_ex 1), .castable (zm_ex 2) (zm_ex 2),
  .declares ⟨"java/lang/RuntimeException", "<init>", "()V"⟩, .declares ⟨"java/lang/RuntimeException", "<init>", "(Ljava/lang/String;)V"⟩,
  .declares ⟨"java/lang/Exception", "<init>", "()V"⟩, .declares ⟨"java/lang/Exception", "<init>", "(Ljava/lang/String;)V"⟩,
  .declares ⟨"java/lang/Throwable", "<init>", "()V"⟩, .declares ⟨"java/lang/Throwable", "<init>", "(Ljava/lang/String;)V"⟩]
def zm_tys (cA : Nat → ClassId) : List (ClassId × FieldType) := [(cA 0, .int), (cA 1, .long), (cA 2, .object RX0)]
/-- what the tables say, and no good word says -/
def zm_G (D : va_G) (cA : Nat → ClassId) (U : State) : Prop := va_K D zm_cl (zm_tys cA) U ∧ (∀ q ∈ zm_nl, va_Nw (zm_nlw q) U) ∧ (∀ w ∈ zm_B, va_Nw w U) ∧ (∀ (k : Nat) (q : Nat × Nat × Nat × Nat × Nat × Nat × Bool), zm_sites[k]? = some q → ∃ sa, vk_R RX6 q.2.2.2.2.1 (zm_text k) sa U) ∧ va_AO RX0 U ∧ (∀ x y : Nat, x < 3 → y < 3 → x ≠ y → va_Nc (zm_ex x) (zm_ex y) U)
theorem zm_G.moved {D : va_G} {cA : Nat → ClassId} {s U : State} (hW : s.WarmedH U.vm) (h : zm_G D cA s) : zm_G D cA U := by
  obtain ⟨h1, h2, h3, h4, h5, h6⟩ := h
  refine ⟨va_K.moved hW.alike h1, fun q hq => va_Nw.warmM hW (h2 q hq), fun w hw => ?_, fun k q hq => ?_, va_AO.moved hW.alike h5, fun x y hx hy hn => va_Nc.moved hW.alike (h6 x y hx hy hn)⟩
  · have h9 := h3 w hw
    simp only [zm_B, List.mem_cons, List.mem_nil_iff, or_false] at hw
    rcases hw with rfl | rfl | rfl | rfl | rfl | rfl | rfl | rfl | rfl
    · exact va_Nw.warmC hW h9
    · exact va_Nw.warmC hW h9
    · exact va_Nw.warmC hW h9
    · exact va_Nw.warmD hW h9
    · exact va_Nw.warmD hW h9
    · exact va_Nw.warmD hW h9
    · exact va_Nw.warmD hW h9
    · exact va_Nw.warmD hW h9
    · exact va_Nw.warmD hW h9
  · obtain ⟨sa, h9⟩ := h4 k q hq
    exact ⟨sa, vk_R.warm hW h9⟩
def zm_tb : List Cond := lw_tbl.filter goodWord
theorem zm_tb_in {w : Cond} (h : w ∈ lw_tbl) (hg : goodWord w = true) : w ∈ zm_tb := List.mem_filter.mpr ⟨h, hg⟩
/-- what holds in the body of method y -/
def zm_cx (X : zm_X) (b b0 : Nat) (D : va_G) (cA : Nat → ClassId) (p : Program) (s : State) (m : MethodId) (args : Array Value) (meth : Method) (c : Code) (u0 y : Nat) : Prop :=
  p.tables.exec = Jvm.exec ∧ c.code = zm_by y ∧ c.maxLocals = zm_mx y ∧ s.vm.findClass (zm_cn (zm_own y)) = some m.cls ∧ (∀ w ∈ zm_tb, w.before args s = true) ∧ meth.name = (zm_md y).1 ∧ zm_G D cA s ∧ va_X b0 X.1 X.2 s s.heap ∧ b0 < b ∧ b ≤ s.heap.size ∧ s.heap.size ≤ b + u0
/-- how far the walk is -/
def zm_wk (b b0 : Nat) (D : va_G) (cA : Nat → ClassId) (s : State) (h : zm_H) (H : Heap) (locs : List Loc) : Prop := va_P D zm_cl (zm_ws b b0 cA h) H ∧ va_S (zm_A b) s.heap H locs
def zm_uc (h : zm_H) : Nat := h.2.1 + h.2.2.2
def zm_us (h : zm_H) : Nat := h.2.2.1
theorem zm_ii_spec {f : Int32 → Int32 → Int32} {pc' : Nat} {ml st : List Value} {h : zm_H} {z : zm_S} (hz : zm_ii f pc' ml st h = some z) : ∃ x y t, st = .int y :: .int x :: t ∧ z = (pc', ml, .int (f x y) :: t, h) := by
  unfold zm_ii at hz
  split at hz
  · cases hz; exact ⟨_, _, _, rfl, rfl⟩
  · cases hz
theorem zm_ll_spec {f : Int64 → Int64 → Int64} {pc' : Nat} {ml st : List Value} {h : zm_H} {z : zm_S} (hz : zm_ll f pc' ml st h = some z) : ∃ x y t, st = .long y :: .long x :: t ∧ z = (pc', ml, .long (f x y) :: t, h) := by
  unfold zm_ll at hz
  split at hz
  · cases hz; exact ⟨_, _, _, rfl, rfl⟩
  · cases hz
theorem zm_li_spec {f : Int64 → Int32 → Int64} {pc' : Nat} {ml st : List Value} {h : zm_H} {z : zm_S} (hz : zm_li f pc' ml st h = some z) : ∃ x y t, st = .int y :: .long x :: t ∧ z = (pc', ml, .long (f x y) :: t, h) := by
  unfold zm_li at hz
  split at hz
  · cases hz; exact ⟨_, _, _, rfl, rfl⟩
  · cases hz
theorem zm_iload_spec {k pc' : Nat} {ml st : List Value} {h : zm_H} {z : zm_S} (hz : zm_iload k pc' ml st h = some z) : ∃ x, ml[k]? = some (.int x) ∧ z = (pc', ml, .int x :: st, h) := by
  unfold zm_iload at hz
  split at hz
  · cases hz; exact ⟨_, by assumption, rfl⟩
  · cases hz
theorem zm_lload_spec {k pc' : Nat} {ml st : List Value} {h : zm_H} {z : zm_S} (hz : zm_lload k pc' ml st h = some z) : ∃ x, ml[k]? = some (.long x) ∧ z = (pc', ml, .long x :: st, h) := by
  unfold zm_lload at hz
  split at hz
  · cases hz; exact ⟨_, by assumption, rfl⟩
  · cases hz
theorem zm_aload_spec {k pc' : Nat} {ml st : List Value} {h : zm_H} {z : zm_S} (b b0 : Nat) (hz : zm_aload k pc' ml st h = some z) : ∃ v a, ml[k]? = some v ∧ v ≠ zm_mk ∧ zm_tr b b0 v = .ref a ∧ z = (pc', ml, v :: st, h) := by
  unfold zm_aload at hz
  split at hz
  · cases hz; exact ⟨_, _, by assumption, (by intro h; cases h), rfl, rfl⟩
  · cases hz; exact ⟨_, _, by assumption, (by intro h; cases h), rfl, rfl⟩
  · cases hz
theorem zm_istore_spec {k pc' : Nat} {ml st : List Value} {h : zm_H} {z : zm_S} (hz : zm_istore k pc' ml st h = some z) : ∃ x t l, st = .int x :: t ∧ zm_sto ml k (.int x) = some l ∧ z = (pc', l, t, h) := by
  unfold zm_istore at hz
  split at hz
  · obtain ⟨l, h1, h2⟩ := Option.map_eq_some_iff.mp hz
    exact ⟨_, _, l, rfl, h1, h2.symm⟩
  · cases hz
theorem zm_lstore_spec {k pc' : Nat} {ml st : List Value} {h : zm_H} {z : zm_S} (hz : zm_lstore k pc' ml st h = some z) : ∃ x t l, st = .long x :: t ∧ zm_sto2 ml k (.long x) = some l ∧ z = (pc', l, t, h) := by
  unfold zm_lstore at hz
  split at hz
  · obtain ⟨l, h1, h2⟩ := Option.map_eq_some_iff.mp hz
    exact ⟨_, _, l, rfl, h1, h2.symm⟩
  · cases hz
theorem zm_astore_spec {k pc' : Nat} {ml st : List Value} {h : zm_H} {z : zm_S} (hz : zm_astore k pc' ml st h = some z) : ∃ x t l, st = .ref x :: t ∧ zm_sto ml k (.ref x) = some l ∧ z = (pc', l, t, h) := by
  unfold zm_astore at hz
  split at hz
  · obtain ⟨l, h1, h2⟩ := Option.map_eq_some_iff.mp hz
    exact ⟨_, _, l, rfl, h1, h2.symm⟩
  · cases hz
theorem zm_jmp_spec {pc : Nat} {off : Int} {ml st : List Value} {h : zm_H} {z : zm_S} (hz : zm_jmp pc off ml st h = some z) : ∃ tgt : Nat, (pc : Int) + off = (tgt : Int) ∧ z = (tgt, ml, st, h) := by
  unfold zm_jmp at hz
  split at hz
  · rename_i h1
    cases hz
    exact ⟨_, (Int.toNat_of_nonneg h1).symm, rfl⟩
  · cases hz
theorem zm_iarr_spec {h : zm_H} {a n : Nat} {f : Nat → Int32} (hz : zm_iarr h a = some (n, f)) : a < h.2.1 ∧ h.1 a = .inl (0, n, .inl f) := by
  unfold zm_iarr at hz
  split at hz
  · rename_i h1
    cases hc : Nat.blt a h.2.1 with
    | false => rw [hc] at hz; cases hz
    | true => rw [hc] at hz; cases hz; exact ⟨Nat.blt_eq.mp hc, h1⟩
  · cases hz
theorem zm_larr_spec {h : zm_H} {a n : Nat} {f : Nat → Int64} (hz : zm_larr h a = some (n, f)) : a < h.2.1 ∧ h.1 a = .inl (1, n, .inr (.inl f)) := by
  unfold zm_larr at hz
  split at hz
  · rename_i h1
    cases hc : Nat.blt a h.2.1 with
    | false => rw [hc] at hz; cases hz
    | true => rw [hc] at hz; cases hz; exact ⟨Nat.blt_eq.mp hc, h1⟩
  · cases hz
theorem zm_qarr_spec {h : zm_H} {a n : Nat} {f : Nat → Option Nat} (hz : zm_qarr h a = some (n, f)) : a < h.2.1 ∧ h.1 a = .inl (2, n, .inr (.inr (.inr (.inr f)))) := by
  unfold zm_qarr at hz
  split at hz
  · rename_i h1
    cases hc : Nat.blt a h.2.1 with
    | false => rw [hc] at hz; cases hz
    | true => rw [hc] at hz; cases hz; exact ⟨Nat.blt_eq.mp hc, h1⟩
  · cases hz
theorem zm_obj_spec {h : zm_H} {a : Nat} {x : Nat × List Value} (hz : zm_obj h a = some x) : a < h.2.1 ∧ h.1 a = .inr x := by
  unfold zm_obj at hz
  split at hz
  · rename_i h1
    cases hc : Nat.blt a h.2.1 with
    | false => rw [hc] at hz; cases hz
    | true => rw [hc] at hz; cases hz; exact ⟨Nat.blt_eq.mp hc, h1⟩
  · cases hz
theorem zm_br_spec {bb : Bool} {pc pc' : Nat} {off : Int} {ml st : List Value} {h : zm_H} {z : zm_S} (hz : zm_br bb pc pc' off ml st h = some z) : ∃ tgt : Nat, (pc : Int) + off = (tgt : Int) ∧ z = (cond bb tgt pc', ml, st, h) := by
  unfold zm_br at hz
  split at hz
  · rename_i h1
    cases hz
    exact ⟨_, (Int.toNat_of_nonneg h1).symm, rfl⟩
  · cases hz
section ZST
variable {p : Program} {l : Launch} {e : Env} {R : Room} {s : State} {m : MethodId} {args : Array Value} {below : List Frame} {meth : Method} {c : Code} {H : Heap} {locs : List Loc} {cells slots : Nat} {Q : State → Prop}
variable {X : zm_X} {b b0 : Nat} {D : va_G} {cA : Nat → ClassId} {u0 v0 : Nat}
theorem zm_sz {g : JFrame} (k : H.size ≤ s.heap.size + cells → W p l e R s m args below meth c H locs cells slots Q g) : W p l e R s m args below meth c H locs cells slots Q g := fun T hT X => k (by have := X.heapSize; rw [hT] at this; exact this) T hT X
theorem zm_wk_put {a : Nat} {h : zm_H} {e1 : zm_E} {H1 : Heap} {locs1 : List Loc}
    (hP : va_P D zm_cl ((zm_ws b b0 cA h).set a (b + a, zm_cv b b0 cA e1)) H1) (hS : va_S (zm_A b) s.heap H1 locs1) : zm_wk b b0 D cA s (zm_put h a e1) H1 locs1 := by
  rw [zm_ws_put] at hP
  exact ⟨hP, hS⟩
theorem zm_size {h : zm_H} (hP : va_P D zm_cl (zm_ws b b0 cA h) H) (hb : b ≤ H.size) : b + h.2.1 ≤ H.size := by
  by_cases h0 : h.2.1 = 0
  · omega
  · have h1 := zm_ws_at (b := b) (b0 := b0) (cA := cA) (h := h) (a := h.2.1 - 1) (by omega)
    have h2 := vx_lt hP h1
    simp at h2
    omega
/-- a new cell -/
theorem zm_wk_new {h : zm_H} {e1 : zm_E} {k : Nat} {H1 : Heap} (hw : zm_wk b b0 D cA s h H locs) (hz : H.size = b + h.2.1) (hs : H1.size = H.size + 1) (ho : ∀ q, q < H.size → H1[q]? = H[q]?)
    (hn : va_at D zm_cl (b + h.2.1, zm_cv b b0 cA e1) H1) : zm_wk b b0 D cA s (zm_new h e1 k) H1 locs := by
  refine ⟨?_, Nat.le_trans hw.2.1 (by omega), fun x h1 h2 => (ho x (Nat.lt_of_lt_of_le h1 hw.2.1)).trans (hw.2.2.1 x h1 h2), hw.2.2.2⟩
  rw [← zm_ws_new]
  refine (hw.1.kept (fun k x hx => ho x.1 ((hw.1 k x hx).lt))).app (fun k x hx => ?_)
  have hz : k < 1 := (List.getElem?_eq_some_iff.mp hx).1
  rw [show k = 0 by omega] at hx
  cases hx
  exact hn
set_option maxHeartbeats 4000000 in
theorem zm_st_sound {y pc pc' pc2 : Nat} {i : Instr} {ml st ml2 st2 : List Value} {h h2 : zm_H} {ls : Array Slot} (C : zm_cx X b b0 D cA p s m args meth c u0 y) (hd : decode (zm_by y) pc = .ok (i, pc' - pc)) (hlen : pc' = pc + zm_len i ∨ zm_len i = 0)
    (hz : zm_st X i pc pc' ml st h = some (pc2, ml2, st2, h2)) (hl : zm_lr b b0 ml ls (zm_mx y)) (hw : zm_wk b b0 D cA s h H locs) (hu : cells + u0 = zm_uc h) (hv : slots + v0 = zm_us h) (hR : zm_uc h2 ≤ u0 + R.cells) (hR2 : zm_us h2 ≤ v0 + R.slots)
    (kk : ∀ (ls2 : Array Slot) (H2 : Heap) (locs2 : List Loc) (cells2 slots2 : Nat), cells2 + u0 = zm_uc h2 → slots2 + v0 = zm_us h2 → zm_lr b b0 ml2 ls2 (zm_mx y) → zm_wk b b0 D cA s h2 H2 locs2 → W p l e R s m args below meth c H2 locs2 cells2 slots2 Q (F0 m pc2 ls2 (st2.map (zm_tr b b0)))) :
    W p l e R s m args below meth c H locs cells slots Q (F0 m pc ls (st.map (zm_tr b b0))) := by
  obtain ⟨hx, hb, hml, hown, hts, hnm, hG, hX, hb0, hbs, hub⟩ := id C
  have hK := hG.1
  have hP := hw.1
  have hS := hw.2
  have hD := zm_ws_D b b0 cA h
  have hA : ∀ q : Nat, s.heap.size ≤ q → zm_A b q := fun q hq => Nat.le_trans hbs hq
  have hd2 : zm_len i ≠ 0 → decode (zm_by y) pc = .ok (i, zm_len i) ∧ pc' = pc + zm_len i := by
    intro h0
    rcases hlen with h1 | h1
    · subst h1
      rw [Nat.add_sub_cancel_left] at hd
      exact ⟨hd, rfl⟩
    · exact absurd h1 h0
  have mk_i : ∀ x : Int32, Value.int x ≠ zm_mk := fun x h => by cases h
  have mk_l : ∀ x : Int64, Value.long x ≠ zm_mk := fun x h => by cases h
  have in_i : ∀ {a n : Nat} {f : Nat → Int32}, zm_iarr h a = some (n, f) → (zm_ws b b0 cA h)[a]? = some (b + a, .inl (cA 0, n, .inl f)) := by
    intro a n f h1
    obtain ⟨h2, h3⟩ := zm_iarr_spec h1
    rw [zm_ws_at h2, h3]
    rfl
  have in_l : ∀ {a n : Nat} {f : Nat → Int64}, zm_larr h a = some (n, f) → (zm_ws b b0 cA h)[a]? = some (b + a, .inl (cA 1, n, .inr (.inl f))) := by
    intro a n f h1
    obtain ⟨h2, h3⟩ := zm_larr_spec h1
    rw [zm_ws_at h2, h3]
    rfl
  have in_q : ∀ {a n : Nat} {f : Nat → Option Nat}, zm_qarr h a = some (n, f) → (zm_ws b b0 cA h)[a]? = some (b + a, .inl (cA 2, n, .inr (.inr (.inr (.inr (fun j => (f j).map (fun a => b + a))))))) := by
    intro a n f h1
    obtain ⟨h2, h3⟩ := zm_qarr_spec h1
    rw [zm_ws_at h2, h3]
    rfl
  cases i
  case iconst n =>
    obtain ⟨hd9, rfl⟩ := hd2 (by simp [zm_len])
    cases hz
    exact lv_iconst hx hb hd9 rfl (kk ls H locs cells slots hu hv hl hw)
  case bipush n =>
    obtain ⟨hd9, rfl⟩ := hd2 (by simp [zm_len])
    cases hz
    exact lv_bipush hx hb hd9 rfl (kk ls H locs cells slots hu hv hl hw)
  case sipush n =>
    obtain ⟨hd9, rfl⟩ := hd2 (by simp [zm_len])
    cases hz
    exact lv_sipush hx hb hd9 rfl (kk ls H locs cells slots hu hv hl hw)
  case lconst n =>
    obtain ⟨hd9, rfl⟩ := hd2 (by simp [zm_len])
    cases hz
    exact lv_lconst hx hb hd9 rfl (kk ls H locs cells slots hu hv hl hw)
  case iload k =>
    obtain ⟨hd9, rfl⟩ := hd2 (by simp [zm_len])
    obtain ⟨x, h1, e1⟩ := zm_iload_spec hz
    cases e1
    exact lv_iload hx hb hd9 (zm_lr_at hl h1 (mk_i x)) (kk ls H locs cells slots hu hv hl hw)
  case iload_n k =>
    obtain ⟨hd9, rfl⟩ := hd2 (by simp [zm_len])
    obtain ⟨x, h1, e1⟩ := zm_iload_spec hz
    cases e1
    exact lv_iload_n hx hb hd9 rfl (zm_lr_at hl h1 (mk_i x)) (kk ls H locs cells slots hu hv hl hw)
  case lload k =>
    obtain ⟨hd9, rfl⟩ := hd2 (by simp [zm_len])
    obtain ⟨x, h1, e1⟩ := zm_lload_spec hz
    cases e1
    exact lv_lload hx hb hd9 (zm_lr_at hl h1 (mk_l x)) (kk ls H locs cells slots hu hv hl hw)
  case lload_n k =>
    obtain ⟨hd9, rfl⟩ := hd2 (by simp [zm_len])
    obtain ⟨x, h1, e1⟩ := zm_lload_spec hz
    cases e1
    exact lv_lload_n hx hb hd9 rfl (zm_lr_at hl h1 (mk_l x)) (kk ls H locs cells slots hu hv hl hw)
  case aload k =>
    obtain ⟨hd9, rfl⟩ := hd2 (by simp [zm_len])
    obtain ⟨v, a, h1, h2, h3, e1⟩ := zm_aload_spec b b0 hz
    cases e1
    have h4 := zm_lr_at hl h1 h2
    have k9 := kk ls H locs cells slots hu hv hl hw
    rw [h3] at h4
    rw [List.map_cons, h3] at k9
    exact lv_aload hx hb hd9 h4 k9
  case aload_n k =>
    obtain ⟨hd9, rfl⟩ := hd2 (by simp [zm_len])
    obtain ⟨v, a, h1, h2, h3, e1⟩ := zm_aload_spec b b0 hz
    cases e1
    have h4 := zm_lr_at hl h1 h2
    have k9 := kk ls H locs cells slots hu hv hl hw
    rw [h3] at h4
    rw [List.map_cons, h3] at k9
    exact lv_aload_n hx hb hd9 rfl h4 k9
  case istore k =>
    obtain ⟨hd9, rfl⟩ := hd2 (by simp [zm_len])
    obtain ⟨x, t, l1, rfl, h1, e1⟩ := zm_istore_spec hz
    cases e1
    exact lv_istore hx hb hd9 (zm_lr_has hl) (by rw [← hl.2.1]; exact (zm_sto_spec h1).1) rfl (fun ls' h' => kk ls' H locs cells slots hu hv (zm_lr_sto hl h1 h') hw)
  case istore_n k =>
    obtain ⟨hd9, rfl⟩ := hd2 (by simp [zm_len])
    obtain ⟨x, t, l1, rfl, h1, e1⟩ := zm_istore_spec hz
    cases e1
    exact lv_istore_n hx hb hd9 rfl (zm_lr_has hl) (by rw [← hl.2.1]; exact (zm_sto_spec h1).1) rfl (fun ls' h' => kk ls' H locs cells slots hu hv (zm_lr_sto hl h1 h') hw)
  case lstore k =>
    obtain ⟨hd9, rfl⟩ := hd2 (by simp [zm_len])
    obtain ⟨x, t, l1, rfl, h1, e1⟩ := zm_lstore_spec hz
    cases e1
    exact lv_lstore hx hb hd9 (zm_lr_has hl) (by rw [← hl.2.1]; exact (zm_sto2_spec h1).1) rfl (fun ls' h' => kk ls' H locs cells slots hu hv (zm_lr_sto2 hl h1 h') hw)
  case lstore_n k =>
    obtain ⟨hd9, rfl⟩ := hd2 (by simp [zm_len])
    obtain ⟨x, t, l1, rfl, h1, e1⟩ := zm_lstore_spec hz
    cases e1
    exact lv_lstore_n hx hb hd9 rfl (zm_lr_has hl) (by rw [← hl.2.1]; exact (zm_sto2_spec h1).1) rfl (fun ls' h' => kk ls' H locs cells slots hu hv (zm_lr_sto2 hl h1 h') hw)
  case astore k =>
    obtain ⟨hd9, rfl⟩ := hd2 (by simp [zm_len])
    obtain ⟨x, t, l1, rfl, h1, e1⟩ := zm_astore_spec hz
    cases e1
    exact lv_astore hx hb hd9 (zm_lr_has hl) (by rw [← hl.2.1]; exact (zm_sto_spec h1).1) rfl (fun ls' h' => kk ls' H locs cells slots hu hv (zm_lr_sto hl h1 h') hw)
  case astore_n k =>
    obtain ⟨hd9, rfl⟩ := hd2 (by simp [zm_len])
    obtain ⟨x, t, l1, rfl, h1, e1⟩ := zm_astore_spec hz
    cases e1
    exact lv_astore_n hx hb hd9 rfl (zm_lr_has hl) (by rw [← hl.2.1]; exact (zm_sto_spec h1).1) rfl (fun ls' h' => kk ls' H locs cells slots hu hv (zm_lr_sto hl h1 h') hw)
  case iinc k n =>
    obtain ⟨hd9, rfl⟩ := hd2 (by simp [zm_len])
    simp only [zm_st] at hz
    split at hz
    · rename_i x h1
      obtain ⟨l1, h2, e1⟩ := Option.map_eq_some_iff.mp hz
      cases e1
      obtain ⟨k9, hk9⟩ := List.getElem?_of_mem (zm_pr_mem (b := b) (b0 := b0) (ml := ml) (q := (k, .int x)) |>.mpr ⟨_, h1, mk_i x, rfl⟩)
      exact lv_iinc hx hb hd9 (zm_lr_has hl) hk9 rfl (by rw [← hl.2.1]; exact (zm_sto_spec h2).1) rfl (fun ls' h' => kk ls' H locs cells slots hu hv (zm_lr_sto hl h2 h') hw)
    · cases hz
  case iadd =>
    obtain ⟨hd9, rfl⟩ := hd2 (by simp [zm_len])
    obtain ⟨x, y1, t, rfl, e1⟩ := zm_ii_spec hz
    cases e1
    exact lv_iadd hx hb hd9 (kk ls H locs cells slots hu hv hl hw)
  case isub =>
    obtain ⟨hd9, rfl⟩ := hd2 (by simp [zm_len])
    obtain ⟨x, y1, t, rfl, e1⟩ := zm_ii_spec hz
    cases e1
    exact lv_isub hx hb hd9 (kk ls H locs cells slots hu hv hl hw)
  case imul =>
    obtain ⟨hd9, rfl⟩ := hd2 (by simp [zm_len])
    obtain ⟨x, y1, t, rfl, e1⟩ := zm_ii_spec hz
    cases e1
    exact lv_imul hx hb hd9 (kk ls H locs cells slots hu hv hl hw)
  case iand =>
    obtain ⟨hd9, rfl⟩ := hd2 (by simp [zm_len])
    obtain ⟨x, y1, t, rfl, e1⟩ := zm_ii_spec hz
    cases e1
    exact lv_iand hx hb hd9 (kk ls H locs cells slots hu hv hl hw)
  case ior =>
    obtain ⟨hd9, rfl⟩ := hd2 (by simp [zm_len])
    obtain ⟨x, y1, t, rfl, e1⟩ := zm_ii_spec hz
    cases e1
    exact lv_ior hx hb hd9 (kk ls H locs cells slots hu hv hl hw)
  case ixor =>
    obtain ⟨hd9, rfl⟩ := hd2 (by simp [zm_len])
    obtain ⟨x, y1, t, rfl, e1⟩ := zm_ii_spec hz
    cases e1
    exact lv_ixor hx hb hd9 (kk ls H locs cells slots hu hv hl hw)
  case ishl =>
    obtain ⟨hd9, rfl⟩ := hd2 (by simp [zm_len])
    obtain ⟨x, y1, t, rfl, e1⟩ := zm_ii_spec hz
    cases e1
    exact lv_ishl hx hb hd9 (kk ls H locs cells slots hu hv hl hw)
  case ishr =>
    obtain ⟨hd9, rfl⟩ := hd2 (by simp [zm_len])
    obtain ⟨x, y1, t, rfl, e1⟩ := zm_ii_spec hz
    cases e1
    exact lv_ishr hx hb hd9 (kk ls H locs cells slots hu hv hl hw)
  case iushr =>
    obtain ⟨hd9, rfl⟩ := hd2 (by simp [zm_len])
    obtain ⟨x, y1, t, rfl, e1⟩ := zm_ii_spec hz
    cases e1
    exact lv_iushr hx hb hd9 rfl (kk ls H locs cells slots hu hv hl hw)
  case idiv =>
    obtain ⟨hd9, rfl⟩ := hd2 (by simp [zm_len])
    simp only [zm_st] at hz
    split at hz
    · split at hz
      · cases hz
      · rename_i h1
        cases hz
        exact lv_idiv hx hb hd9 h1 (kk ls H locs cells slots hu hv hl hw)
    · cases hz
  case irem =>
    obtain ⟨hd9, rfl⟩ := hd2 (by simp [zm_len])
    simp only [zm_st] at hz
    split at hz
    · split at hz
      · cases hz
      · rename_i h1
        cases hz
        exact lv_irem hx hb hd9 h1 (kk ls H locs cells slots hu hv hl hw)
    · cases hz
  case ladd =>
    obtain ⟨hd9, rfl⟩ := hd2 (by simp [zm_len])
    obtain ⟨x, y1, t, rfl, e1⟩ := zm_ll_spec hz
    cases e1
    exact lv_ladd hx hb hd9 (kk ls H locs cells slots hu hv hl hw)
  case lsub =>
    obtain ⟨hd9, rfl⟩ := hd2 (by simp [zm_len])
    obtain ⟨x, y1, t, rfl, e1⟩ := zm_ll_spec hz
    cases e1
    exact lv_lsub hx hb hd9 (kk ls H locs cells slots hu hv hl hw)
  case lmul =>
    obtain ⟨hd9, rfl⟩ := hd2 (by simp [zm_len])
    obtain ⟨x, y1, t, rfl, e1⟩ := zm_ll_spec hz
    cases e1
    exact lv_lmul hx hb hd9 (kk ls H locs cells slots hu hv hl hw)
  case land =>
    obtain ⟨hd9, rfl⟩ := hd2 (by simp [zm_len])
    obtain ⟨x, y1, t, rfl, e1⟩ := zm_ll_spec hz
    cases e1
    exact lv_land hx hb hd9 (kk ls H locs cells slots hu hv hl hw)
  case lor =>
    obtain ⟨hd9, rfl⟩ := hd2 (by simp [zm_len])
    obtain ⟨x, y1, t, rfl, e1⟩ := zm_ll_spec hz
    cases e1
    exact lv_lor hx hb hd9 (kk ls H locs cells slots hu hv hl hw)
  case lxor =>
    obtain ⟨hd9, rfl⟩ := hd2 (by simp [zm_len])
    obtain ⟨x, y1, t, rfl, e1⟩ := zm_ll_spec hz
    cases e1
    exact lv_lxor hx hb hd9 (kk ls H locs cells slots hu hv hl hw)
  case lshl =>
    obtain ⟨hd9, rfl⟩ := hd2 (by simp [zm_len])
    obtain ⟨x, y1, t, rfl, e1⟩ := zm_li_spec hz
    cases e1
    exact lv_lshl hx hb hd9 rfl (kk ls H locs cells slots hu hv hl hw)
  case lshr =>
    obtain ⟨hd9, rfl⟩ := hd2 (by simp [zm_len])
    obtain ⟨x, y1, t, rfl, e1⟩ := zm_li_spec hz
    cases e1
    exact lv_lshr hx hb hd9 rfl (kk ls H locs cells slots hu hv hl hw)
  case lushr =>
    obtain ⟨hd9, rfl⟩ := hd2 (by simp [zm_len])
    obtain ⟨x, y1, t, rfl, e1⟩ := zm_li_spec hz
    cases e1
    exact lv_lushr hx hb hd9 rfl (kk ls H locs cells slots hu hv hl hw)
  case i2l =>
    obtain ⟨hd9, rfl⟩ := hd2 (by simp [zm_len])
    simp only [zm_st] at hz
    split at hz
    · cases hz
      exact lv_i2l hx hb hd9 rfl (kk ls H locs cells slots hu hv hl hw)
    · cases hz
  case l2i =>
    obtain ⟨hd9, rfl⟩ := hd2 (by simp [zm_len])
    simp only [zm_st] at hz
    split at hz
    · cases hz
      exact lv_l2i hx hb hd9 rfl (kk ls H locs cells slots hu hv hl hw)
    · cases hz
  case lcmp =>
    obtain ⟨hd9, rfl⟩ := hd2 (by simp [zm_len])
    simp only [zm_st] at hz
    split at hz
    · cases hz
      exact W.lcmp hx hb hd9 (kk ls H locs cells slots hu hv hl hw)
    · cases hz
  case dup =>
    obtain ⟨hd9, rfl⟩ := hd2 (by simp [zm_len])
    simp only [zm_st] at hz
    split at hz
    · rename_i v t
      cases h1 : Nat.beq v.category 1 with
      | false => rw [h1] at hz; cases hz
      | true =>
        rw [h1] at hz
        cases hz
        exact lv_dup hx hb hd9 (by rw [zm_tr_cat]; exact Nat.eq_of_beq_eq_true h1) (kk ls H locs cells slots hu hv hl hw)
    · cases hz
  case dup2 =>
    obtain ⟨hd9, rfl⟩ := hd2 (by simp [zm_len])
    simp only [zm_st] at hz
    split at hz
    · rename_i v1 v2 t
      cases h1 : (Nat.beq v1.category 1 && Nat.beq v2.category 1) with
      | false => rw [h1] at hz; cases hz
      | true =>
        rw [h1] at hz
        cases hz
        rw [Bool.and_eq_true] at h1
        exact lv_dup2_11 hx hb hd9 (by rw [zm_tr_cat]; exact Nat.eq_of_beq_eq_true h1.1) (by rw [zm_tr_cat]; exact Nat.eq_of_beq_eq_true h1.2) (kk ls H locs cells slots hu hv hl hw)
    · cases hz
  case pop =>
    obtain ⟨hd9, rfl⟩ := hd2 (by simp [zm_len])
    simp only [zm_st] at hz
    split at hz
    · rename_i v t
      cases h1 : Nat.beq v.category 1 with
      | false => rw [h1] at hz; cases hz
      | true =>
        rw [h1] at hz
        cases hz
        exact lv_pop hx hb hd9 (by rw [zm_tr_cat]; exact Nat.eq_of_beq_eq_true h1) (kk ls H locs cells slots hu hv hl hw)
    · cases hz
  case ifCond k off =>
    obtain ⟨hd9, rfl⟩ := hd2 (by simp [zm_len])
    simp only [zm_st] at hz
    split at hz
    · rename_i x t
      obtain ⟨tgt, h1, e1⟩ := zm_br_spec hz
      cases e1
      have k9 := kk ls H locs cells slots hu hv hl hw
      cases k <;> simp only [zm_c0] at k9
      · exact lv_if_eq hx hb hd9 h1 (fun hc => by rw [decide_eq_true hc] at k9; exact k9) (fun hc => by rw [decide_eq_false hc] at k9; exact k9)
      · exact lv_if_ne hx hb hd9 h1 (fun hc => by rw [decide_eq_true hc] at k9; exact k9) (fun hc => by rw [decide_eq_false (not_not_intro hc)] at k9; exact k9)
      · exact lv_if_lt hx hb hd9 h1 (fun hc => by rw [decide_eq_true hc] at k9; exact k9) (fun hc => by rw [decide_eq_false hc] at k9; exact k9)
      · exact lv_if_ge hx hb hd9 h1 (fun hc => by rw [decide_eq_true hc] at k9; exact k9) (fun hc => by rw [decide_eq_false hc] at k9; exact k9)
      · exact lv_if_gt hx hb hd9 h1 (fun hc => by rw [decide_eq_true hc] at k9; exact k9) (fun hc => by rw [decide_eq_false hc] at k9; exact k9)
      · exact lv_if_le hx hb hd9 h1 (fun hc => by rw [decide_eq_true hc] at k9; exact k9) (fun hc => by rw [decide_eq_false hc] at k9; exact k9)
    · cases hz
  case if_icmp k off =>
    obtain ⟨hd9, rfl⟩ := hd2 (by simp [zm_len])
    simp only [zm_st] at hz
    split at hz
    · rename_i y1 x t
      obtain ⟨tgt, h1, e1⟩ := zm_br_spec hz
      cases e1
      have k9 := kk ls H locs cells slots hu hv hl hw
      cases k <;> simp only [zm_c2] at k9
      · exact lv_icmp_eq hx hb hd9 h1 (fun hc => by rw [decide_eq_true hc] at k9; exact k9) (fun hc => by rw [decide_eq_false hc] at k9; exact k9)
      · exact lv_icmp_ne hx hb hd9 h1 (fun hc => by rw [decide_eq_true hc] at k9; exact k9) (fun hc => by rw [decide_eq_false (not_not_intro hc)] at k9; exact k9)
      · exact lv_icmp_lt hx hb hd9 h1 (fun hc => by rw [decide_eq_true hc] at k9; exact k9) (fun hc => by rw [decide_eq_false hc] at k9; exact k9)
      · exact lv_icmp_ge hx hb hd9 h1 (fun hc => by rw [decide_eq_true hc] at k9; exact k9) (fun hc => by rw [decide_eq_false hc] at k9; exact k9)
      · exact lv_icmp_gt hx hb hd9 h1 (fun hc => by rw [decide_eq_true hc] at k9; exact k9) (fun hc => by rw [decide_eq_false hc] at k9; exact k9)
      · exact lv_icmp_le hx hb hd9 h1 (fun hc => by rw [decide_eq_true hc] at k9; exact k9) (fun hc => by rw [decide_eq_false hc] at k9; exact k9)
    · cases hz
  case goto off =>
    obtain ⟨hd9, rfl⟩ := hd2 (by simp [zm_len])
    obtain ⟨tgt, h1, e1⟩ := zm_jmp_spec hz
    cases e1
    exact lv_goto hx hb hd9 h1 (kk ls H locs cells slots hu hv hl hw)
  case tableswitch d lo hi offs =>
    simp only [zm_st] at hz
    split at hz
    · rename_i x t
      split at hz
      · rename_i h0
        obtain ⟨tgt, h1, e1⟩ := zm_jmp_spec hz
        cases e1
        exact lv_tableOut hx hb hd h0 h1 (kk ls H locs cells slots hu hv hl hw)
      · rename_i h0
        split at hz
        · rename_i off h3
          obtain ⟨tgt, h1, e1⟩ := zm_jmp_spec hz
          cases e1
          exact lv_tableIn hx hb hd (fun q => h0 (Or.inl q)) (fun q => h0 (Or.inr q)) h3 h1 (kk ls H locs cells slots hu hv hl hw)
        · cases hz
    · cases hz
  case iaload =>
    obtain ⟨hd9, rfl⟩ := hd2 (by simp [zm_len])
    simp only [zm_st] at hz
    split at hz
    · rename_i j a t
      split at hz
      · rename_i n f h1
        split at hz
        · cases hz
        · rename_i h3
          cases hz
          exact va_iald hx hb hK hP a 0 (in_i h1) rfl h3 hd9 (kk ls H locs cells slots hu hv hl hw)
      · cases hz
    · rename_i j r t
      split at hz
      · cases hz
      · rename_i h3
        cases hz
        exact va_sld hx hb hX (Nat.lt_of_lt_of_le hb0 hbs) (Nat.not_le.mpr hb0) hS h3 hd9 (kk ls H locs cells slots hu hv hl hw)
    · cases hz
  case laload =>
    obtain ⟨hd9, rfl⟩ := hd2 (by simp [zm_len])
    simp only [zm_st] at hz
    split at hz
    · rename_i j a t
      split at hz
      · rename_i n f h1
        split at hz
        · cases hz
        · rename_i h3
          cases hz
          exact va_lald hx hb hK hP a 1 (in_l h1) rfl h3 hd9 (kk ls H locs cells slots hu hv hl hw)
      · cases hz
    · cases hz
  case aaload =>
    obtain ⟨hd9, rfl⟩ := hd2 (by simp [zm_len])
    simp only [zm_st] at hz
    split at hz
    · rename_i j a t
      split at hz
      · rename_i n f h1
        split at hz
        · cases hz
        · rename_i h3
          split at hz
          · rename_i q h4
            cases hz
            refine va_aldq (C := RX0) hx hb hK hP a 2 (in_q h1) rfl h3 hd9 ?_
            rw [h4]
            exact kk ls H locs cells slots hu hv hl hw
          · cases hz
      · cases hz
    · cases hz
  case iastore =>
    obtain ⟨hd9, rfl⟩ := hd2 (by simp [zm_len])
    simp only [zm_st] at hz
    split at hz
    · rename_i x j a t
      split at hz
      · rename_i n f h1
        split at hz
        · cases hz
        · rename_i h3
          cases hz
          exact va_iast hx hb hK hP hD hS a 0 (in_i h1) rfl h3 hd9 (fun H1 locs1 g1 g2 g3 => kk ls H1 locs1 cells slots hu hv hl (zm_wk_put g1 g3))
      · cases hz
    · cases hz
  case lastore =>
    obtain ⟨hd9, rfl⟩ := hd2 (by simp [zm_len])
    simp only [zm_st] at hz
    split at hz
    · rename_i x j a t
      split at hz
      · rename_i n f h1
        split at hz
        · cases hz
        · rename_i h3
          cases hz
          exact va_last hx hb hK hP hD hS a 1 (in_l h1) rfl h3 hd9 (fun H1 locs1 g1 g2 g3 => kk ls H1 locs1 cells slots hu hv hl (zm_wk_put g1 g3))
      · cases hz
    · cases hz
  case aastore =>
    obtain ⟨hd9, rfl⟩ := hd2 (by simp [zm_len])
    simp only [zm_st] at hz
    split at hz
    · rename_i v j a t
      split at hz
      · rename_i n f fs h1 h4
        split at hz
        · cases hz
        · rename_i h3
          cases hz
          obtain ⟨g1, g2⟩ := zm_obj_spec h4
          have hv9 : (zm_ws b b0 cA h)[v]? = some (b + v, .inr (0, fs.map (zm_tr b b0))) := by rw [zm_ws_at g1, g2]; rfl
          refine va_astq (r := (RX0, TX0, 5)) hx hb hK hP hD hS a 2 v 0 (in_q h1) rfl hv9 rfl h3 hd9 (fun H1 locs1 g1 g2 g3 => kk ls H1 locs1 cells slots hu hv hl (zm_wk_put ?_ g3))
          have e9 : va_up (fun j => (f j).map (fun a => b + a)) j.toNatClampNeg (some (b + v)) = fun k => ((va_up f j.toNatClampNeg (some v)) k).map (fun a => b + a) := by
            funext k
            by_cases hk : k = j.toNatClampNeg
            · simp [va_up, hk]
            · simp [va_up, hk]
          rw [e9] at g1
          exact g1
      · cases hz
    · cases hz
  case arraylength =>
    obtain ⟨hd9, rfl⟩ := hd2 (by simp [zm_len])
    simp only [zm_st] at hz
    split at hz
    · rename_i a t
      split at hz
      · rename_i n f h1
        cases hz
        exact va_alen hx hb hK hP a 0 (in_i h1) rfl rfl hd9 (kk ls H locs cells slots hu hv hl hw)
      · cases hz
    · rename_i a t
      cases hz
      exact va_slen hx hb hX (Nat.lt_of_lt_of_le hb0 hbs) (Nat.not_le.mpr hb0) hS hd9 (kk ls H locs cells slots hu hv hl hw)
    · cases hz
  case newarray ty =>
    obtain ⟨hd9, rfl⟩ := hd2 (by simp [zm_len])
    simp only [zm_st] at hz
    split at hz
    · rename_i n t
      split at hz
      · cases hz
      · rename_i h3
        have h30 : ¬ n < 0 := fun q => h3 (Or.inl q)
        have h31 : n.toNatClampNeg < 10000 := Nat.not_le.mp fun q => h3 (Or.inr (Or.inl q))
        have h32 : h.2.2.2 = 0 := Decidable.not_not.mp fun q => h3 (Or.inr (Or.inr q))
        refine zm_sz fun hsz => ?_
        have hH : H.size = b + h.2.1 := by
          have h1 := zm_size hP (Nat.le_trans hbs hS.1)
          unfold zm_uc at hu
          omega
        split at hz
        · cases hz
          have r1 : zm_uc h + 1 ≤ u0 + R.cells := by have := hR; simp only [zm_uc, zm_new] at this ⊢; omega
          have r2 : zm_us h + n.toNatClampNeg ≤ v0 + R.slots := by have := hR2; simp only [zm_us, zm_new] at this ⊢; omega
          refine va_newaK (atype := .int) hx hb (hts _ (zm_tb_in zm_ar_int rfl)) rfl hd9 rfl h30 rfl (by show n.toNatClampNeg * 4 ≤ _; omega) (by omega) (by omega) hH fun H1 cA1 e1 z1 o1 hAr hNm => ?_
          have hcA : cA1 = cA 0 := Option.some.inj (hNm.symm.trans (hK.2 0 _ rfl).2)
          subst hcA
          exact kk ls H1 locs (cells + 1) (slots + n.toNatClampNeg) (by simp only [zm_uc, zm_new] at hu ⊢; omega) (by simp only [zm_us, zm_new] at hv ⊢; omega) hl (zm_wk_new hw hH (by rw [z1, hH]) (by rw [hH]; exact o1) e1)
        · cases hz
          have r1 : zm_uc h + 1 ≤ u0 + R.cells := by have := hR; simp only [zm_uc, zm_new] at this ⊢; omega
          have r2 : zm_us h + n.toNatClampNeg ≤ v0 + R.slots := by have := hR2; simp only [zm_us, zm_new] at this ⊢; omega
          refine va_newaK (atype := .long) hx hb (hts _ (zm_tb_in zm_ar_long rfl)) rfl hd9 rfl h30 rfl (by show n.toNatClampNeg * 8 ≤ _; omega) (by omega) (by omega) hH fun H1 cA1 e1 z1 o1 hAr hNm => ?_
          have hcA : cA1 = cA 1 := Option.some.inj (hNm.symm.trans (hK.2 1 _ rfl).2)
          subst hcA
          exact kk ls H1 locs (cells + 1) (slots + n.toNatClampNeg) (by simp only [zm_uc, zm_new] at hu ⊢; omega) (by simp only [zm_us, zm_new] at hv ⊢; omega) hl (zm_wk_new hw hH (by rw [z1, hH]) (by rw [hH]; exact o1) e1)
        · cases hz
    · cases hz
  all_goals (simp [zm_st] at hz)
end ZST
