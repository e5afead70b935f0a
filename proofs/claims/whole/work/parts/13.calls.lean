/-! calls, throws, handlers, returns -/
theorem zm_pop_spec : ∀ (n : Nat) (acc st as rest : List Value), zm_pop n acc st = some (as, rest) → ∃ ps, as = ps ++ acc ∧ ps.length = n ∧ st = ps.reverse ++ rest := by
  intro n
  induction n with
  | zero =>
    intro acc st as rest h
    simp only [zm_pop] at h
    cases h
    exact ⟨[], rfl, rfl, rfl⟩
  | succ n ih =>
    intro acc st as rest h
    cases st with
    | nil => simp [zm_pop] at h
    | cons v t =>
      simp only [zm_pop] at h
      obtain ⟨ps, h1, h2, h3⟩ := ih _ _ _ _ h
      refine ⟨ps ++ [v], by rw [h1]; simp, by simp [h2], by rw [h3]; simp⟩
section ZCL
variable {p : Program} {l : Launch} {e : Env} {R : Room} {s : State} {m : MethodId} {args : Array Value} {below : List Frame} {meth : Method} {c : Code} {H : Heap} {locs : List Loc} {cells slots mc ms : Nat} {Q : State → Prop}
variable {X : zm_X} {b b0 : Nat} {D : va_G} {cA : Nat → ClassId} {u0 v0 : Nat}
theorem zm_after {r2 : zm_O} {h2 : zm_H} {pc : Nat} {ls : Array Slot} {st0 rest : List Value} {a9 : Array Value} (hr : vx_Run p l e R s m args below meth c H locs cells slots mc ms (F0 m pc ls st0) rest (zm_Qc b b0 D cA r2 h2 a9) (zm_XC b b0 D cA r2 h2) (zm_A b)) (hS : va_S (zm_A b) s.heap H locs)
    (kn : ∀ v, r2 = .inl v → ∀ (H1 : Heap) (locs1 : List Loc), va_P D zm_cl (zm_ws b b0 cA h2) H1 → va_S (zm_A b) s.heap H1 locs1 → W p l e R s m args below meth c H1 locs1 (cells + mc) (slots + ms) Q (F0 m (pc + 3) ls ((v.map (zm_tr b b0)).toList ++ rest)))
    (kx : ∀ k, r2 = .inr k → k < 3 → ∀ (q : Addr) (ce : Cell) (H1 : Heap) (locs1 : List Loc), va_P D zm_cl (zm_ws b b0 cA h2) H1 → va_S (zm_A b) s.heap H1 locs1 → H1[q]? = some ce → ce.vm = .none → s.vm.findClass (zm_ex k) = some ce.cls → vx_W p l e R s m args below meth c H1 locs1 (cells + mc) (slots + ms) Q (F0 m pc ls rest) q) :
    W p l e R s m args below meth c H locs cells slots Q (F0 m pc ls st0) := by
  intro T hT X9
  rcases hr T hT X9 with ⟨v, st₀, t, T', L, h0, X', hL, e1, e2, hq, st⟩ | ⟨q, st₀, t, T', L, E, ce, h0, X', hL, e1, e2, hq, hce, hcv, hcl, st⟩
  · obtain ⟨v2, hr2, ho, hP2, hF⟩ := hq
    cases ho
    obtain ⟨k1, k2, k3⟩ := vx_keep h0 e1 hS (fun _ _ h => h) (fun _ h => h) hL hF
    obtain ⟨t2, a1, b1⟩ := kn v2 hr2 T'.heap (locs ++ L) (by rw [e1]; exact hP2) k3 T' rfl X'
    exact ⟨t2, st t2 a1, b1⟩
  · obtain ⟨k, hr2, rfl, hk, hP2, hF⟩ := hq
    obtain ⟨k1, k2, k3⟩ := vx_keep h0 e1 hS (fun _ _ h => h) (fun _ h => h) hL hF
    obtain ⟨t2, a1, b1⟩ := kx k hr2 hk q ce T'.heap (locs ++ L) (by rw [e1]; exact hP2) k3 (by rw [e1]; exact hce) hcv hcl T' rfl X'
    exact ⟨t2, st.trans a1, b1⟩
/-- a return -/
theorem zm_ret_sound {y pc : Nat} {i : Instr} {st : List Value} {h : zm_H} {ls : Array Slot} {v : Option Value} (C : zm_cx X b b0 D cA p s m args meth c u0 y) (hr : meth.sig.returnType = zm_rt y) (hlocks : meth.locks = false) (hd : decode (zm_by y) pc = .ok (i, 1)) (hz : zm_ret i (zm_rt y) st = some v) (hw : zm_wk b b0 D cA s h H locs) (hc : cells ≤ R.cells) (hs : slots ≤ R.slots) :
    W p l e R s m args below meth c H locs cells slots (vx_MQ below (zm_Qc b b0 D cA (.inl v) h) (zm_XC b b0 D cA (.inl v) h) args s R.cells R.slots (zm_A b)) (F0 m pc ls (st.map (zm_tr b b0))) := by
  obtain ⟨hx, hb, hml, hown, hts, hnm, hG, hX, hb0, hbs, hub⟩ := id C
  obtain ⟨hP, hS⟩ := hw
  have hq : ∀ t : State, t.heap = H → s.WarmedH t.vm → zm_Qc b b0 D cA (.inl v) h args s (.returned (v.map (zm_tr b b0))) t := fun t ht _ => ⟨v, rfl, rfl, by rw [ht]; exact hP, hS.F ht⟩
  refine vx_ret (W.widen hc hs ?_)
  cases i <;> try (simp [zm_ret] at hz; done)
  case ireturn =>
    simp only [zm_ret] at hz
    split at hz
    · split at hz
      · rename_i hrt
        cases hz
        exact W.iret hx hb (by rw [hr, hrt]) hq hS.2.2 hd hlocks
      · rename_i hrt
        split at hz
        · rename_i x _ hv
          cases hz
          refine W.zret hx hb (by rw [hr, hrt]) ?_ hq hS.2.2 hd hlocks
          rcases hv with rfl | rfl <;> rfl
        · cases hz
      · cases hz
    · cases hz
  case lreturn =>
    simp only [zm_ret] at hz
    split at hz
    · split at hz
      · rename_i hrt
        cases hz
        exact W.lret hx hb (by rw [hr, hrt]) hq hS.2.2 hd hlocks
      · cases hz
    · cases hz
  case areturn =>
    simp only [zm_ret] at hz
    split at hz
    · split at hz
      · rename_i n hrt
        cases hz
        exact W.aret hx hb (by rw [hr, hrt]) (Or.inl ⟨_, rfl⟩) (Or.inr ⟨_, rfl⟩) hq hS.2.2 hd hlocks
      · cases hz
    · cases hz
  case return_ =>
    simp only [zm_ret] at hz
    split at hz
    · split at hz
      · rename_i hrt
        cases hz
        exact W.vret hx hb (by rw [hr, hrt]) hq hS.2.2 hd hlocks
      · cases hz
    · cases hz
/-- words for throws -/
def zm_names : List String := ["java/lang/RuntimeException", "java/lang/Exception"]
set_option maxRecDepth 100000 in
theorem zm_hat_g : ∀ q ∈ [(0, 88), (1, 231), (2, 157)], (∀ w ∈ (vx_atS RX6 q.2 (zm_ex q.1) zm_names).filter goodWord, w ∈ lw_tbl) := by decide +kernel
set_option maxRecDepth 100000 in
theorem zm_hat_n : ∀ q ∈ [(0, 88), (1, 231), (2, 157)], (∀ w ∈ (vx_atS RX6 q.2 (zm_ex q.1) zm_names).filter (fun w => !goodWord w), w ∈ zm_B) := by decide +kernel
set_option maxRecDepth 100000 in
theorem zm_hat_o : ∀ q ∈ [(0, 88), (1, 231), (2, 157)], (∀ w ∈ vx_atS RX6 q.2 (zm_ex q.1) zm_names, vx_ot w = true) ∧ Bundle.fit (zm_ex q.1) = true := by decide +kernel
theorem zm_fit_n : ∀ n ∈ zm_names, Bundle.fit n = true := by decide +kernel
theorem zm_ex_i : ∀ k, k < 3 → Cond.initialized (zm_ex k) ∈ lw_tbl := by decide +kernel
theorem zm_B_tab : ∀ w ∈ zm_B, w.onTables = true := by decide +kernel
theorem zm_hat {E ic : Nat} (hq : (E, ic) ∈ [(0, 88), (1, 231), (2, 157)]) (hts : ∀ w ∈ zm_tb, w.before args s = true) (hB : ∀ w ∈ zm_B, va_Nw w s) : ∀ w ∈ vx_atS RX6 ic (zm_ex E) zm_names, w.before args s = true := by
  have h1 := zm_hat_g (E, ic) hq
  have h2 := zm_hat_n (E, ic) hq
  dsimp only at h1 h2
  generalize vx_atS RX6 ic (zm_ex E) zm_names = L at h1 h2 ⊢
  refine vx_hat (B := zm_B) ?_ h2 ?_
  · intro w hw
    exact hts w (zm_tb_in (h1 w hw) (List.mem_filter.mp hw).2)
  · intro w hw
    exact va_Nw.use (zm_B_tab w hw) (hB w hw)
set_option maxHeartbeats 1000000 in
theorem zm_throw_sound {y pc pc' idx a j : Nat} {st ml : List Value} {h : zm_H} {ls : Array Slot} (hltr : l.stackTraces = false) (C : zm_cx X b b0 D cA p s m args meth c u0 y) (hlocks : meth.locks = false) (hh : zm_kd y = 3 ∨ (zm_hd y = [] ∧ zm_hh y = [])) (hht : c.exceptionTable.toList = tableOf (zm_hh y)) (hokh : zm_okh y = true) (hZ : zm_Z b s) (hok : zm_okI y (pc, .inr (12, idx, a, j), pc') = true) (hwd : zm_wd st ≤ 8)
    (hl : zm_lr b b0 ml ls (zm_mx y)) (hw : zm_wk b b0 D cA s h H locs) (hu : cells + u0 = zm_uc h) (hv : slots + v0 = zm_us h) (hR : zm_uc h + 1 ≤ u0 + R.cells) (hR2 : zm_us h + 6 ≤ v0 + R.slots) (hlv : zm_lv y ≤ R.frames) (hlo : 40 * zm_lv y ≤ R.locals) :
    W p l e R s m args below meth c H locs cells slots (vx_MQ below (zm_Qc b b0 D cA (.inr a) (h.1, h.2.1, h.2.2.1 + 6, h.2.2.2 + 1)) (zm_XC b b0 D cA (.inr a) (h.1, h.2.1, h.2.2.1 + 6, h.2.2.2 + 1)) args s R.cells R.slots (zm_A b)) (F0 m pc ls (st.map (zm_tr b b0))) := by
  obtain ⟨hx, hb, hml, hown, hts, hnm, hG, hX, hb0, hbs, hub⟩ := id C
  obtain ⟨hP, hS⟩ := hw
  simp only [zm_okI] at hok
  split at hok
  · rename_i y1 p1 E ik is ic wide hsite
    simp only [Bool.and_eq_true, decide_eq_true_eq, Nat.blt_eq] at hok
    obtain ⟨⟨⟨⟨⟨⟨⟨⟨⟨⟨⟨t1, t2⟩, t3⟩, t4⟩, t5⟩, t6⟩, t7⟩, t8⟩, t9⟩, d0⟩, d3⟩, dw⟩ := hok
    have t3 := Nat.eq_of_beq_eq_true t3
    subst t3
    have t5 := Nat.eq_of_beq_eq_true t5
    have t7 := Nat.le_of_ble_eq_true t7
    have t8 := List.length_eq_zero_iff.mp (Nat.eq_of_beq_eq_true t8)
    have hown6 : s.vm.findClass RX6 = some m.cls := by rw [t5] at hown; exact hown
    have hhh : zm_hh y = [] := by
      rcases hh with h9 | h9
      · simp only [zm_okh, Bool.or_eq_true, Bool.and_eq_true, Bool.not_eq_true'] at hokh
        rcases hokh with h8 | ⟨⟨-, h8⟩, -⟩
        · rw [h9] at h8; cases h8
        · have h8 := Nat.eq_of_beq_eq_true h8
          rw [t8] at h8
          exact List.length_eq_zero_iff.mp h8.symm
      · exact h9.2
    have hout : ∀ q : Nat, ∀ x ∈ c.exceptionTable.toList, covers x q = false := by
      intro q x hx9
      rw [hht, hhh] at hx9
      cases hx9
    obtain ⟨sa, hstr⟩ := hG.2.2.2.1 j _ hsite
    have hk : (Cond.classLink RX6 ik (zm_ex a)).before args s = true := hts _ (zm_tb_in (zm_xk_in _ t6) rfl)
    have hini : (Cond.initialized (zm_ex a)).before args s = true := hts _ (zm_tb_in (zm_ex_i a t4) rfl)
    have hgood : ∀ w ∈ Cond.classLink RX6 ik (zm_ex a) :: Cond.initialized (zm_ex a) :: vx_atS RX6 ic (zm_ex a) zm_names, vx_ot w = true := by
      intro w hw9
      rcases List.mem_cons.mp hw9 with rfl | hw9
      · rfl
      · rcases List.mem_cons.mp hw9 with rfl | hw9
        · rfl
        · exact (zm_hat_o _ t9).1 w hw9
    have hx9 : ∀ t : State, s.vm.Alike t.vm → H.size ≤ t.heap.size → (∀ q : Nat, q < H.size → t.heap[q]? = H[q]?) → zm_XC b b0 D cA (.inr a) (h.1, h.2.1, h.2.2.1 + 6, h.2.2.2 + 1) (zm_ex a) s t := by
      intro t _ g1 g2
      refine ⟨a, rfl, rfl, t4, ?_, Nat.le_trans hS.1 g1, fun q q1 q2 => (g2 q (Nat.lt_of_lt_of_le q1 hS.1)).trans (hS.2.1 q q1 q2)⟩
      exact hP.kept (fun k x hx => g2 x.1 ((hP k x hx).lt))
    cases wide with
    | false =>
      simp only [cond_false, Bool.and_eq_true] at dw
      obtain ⟨⟨dw1, dw2⟩, dw3⟩ := dw
      exact vx_throwS hx hb hltr hown6 (zm_hat_o _ t9).2 zm_fit_n hk hini hstr (zm_hat t9 hts hG.2.2.1) hgood hZ.1 hZ.2 hS (by rw [hml]; exact hl.1) (zm_dc_ok d0) (zm_dc_ok d3) (zm_dc_ok dw1) (zm_dc_ok dw2) (zm_dc_ok dw3) (hout _) (by show 2 + 3 < R.frames; omega) (by rw [zm_tr_sum]; show _ + (13 * (2 + 1) + 43) ≤ _; omega) (by omega) (by omega) hlocks hx9 hS.2.2 (by omega) (by omega)
    | true =>
      simp only [cond_true, Bool.and_eq_true] at dw
      obtain ⟨⟨dw1, dw2⟩, dw3⟩ := dw
      exact vx_throwSW hx hb hltr hown6 (zm_hat_o _ t9).2 zm_fit_n hk hini hstr (zm_hat t9 hts hG.2.2.1) hgood hZ.1 hZ.2 hS (by rw [hml]; exact hl.1) (zm_dc_ok d0) (zm_dc_ok d3) (zm_dc_ok dw1) (zm_dc_ok dw2) (zm_dc_ok dw3) (hout _) (by show 2 + 3 < R.frames; omega) (by rw [zm_tr_sum]; show _ + (13 * (2 + 1) + 43) ≤ _; omega) (by omega) (by omega) hlocks hx9 hS.2.2 (by omega) (by omega)
  · cases hok
/-! handlers -/
def zm_pass (y pc E : Nat) (z : ExceptionTableEntry) : Prop := covers z pc = false ∨ (z.catchType ≠ 0 ∧ ∃ x, x < 3 ∧ x ≠ E ∧ (zm_own y, z.catchType, x) ∈ zm_xk)
def zm_hc (y tg j : Nat) : Prop := (∃ sl, sl < zm_mx y ∧ sl < 4 ∧ decode (zm_by y) tg = .ok (.astore_n (Fin.ofNat 4 sl), 1) ∧ decode (zm_by y) (tg + 1) = .ok (.iconst (j : Int), 1) ∧ decode (zm_by y) (tg + 2) = .ok (.ireturn, 1)) ∨
  (∃ sl, sl < zm_mx y ∧ decode (zm_by y) tg = .ok (.astore sl, 2) ∧ decode (zm_by y) (tg + 2) = .ok (.iconst (j : Int), 1) ∧ decode (zm_by y) (tg + 3) = .ok (.ireturn, 1))
theorem zm_hand {y pc E : Nat} : ∀ (hd : List zm_Hd) (hh : List (Nat × Nat × Nat × Nat)), hd.length = hh.length → (hd.zip hh).all (zm_okh1 y) = true →
    (∀ j, zm_cat hd pc E = some j → ∃ pre x suf, tableOf hh = pre ++ x :: suf ∧ (∀ z ∈ pre, zm_pass y pc E z) ∧ covers x pc = true ∧ x.catchType ≠ 0 ∧ (zm_own y, x.catchType, E) ∈ zm_xk ∧ zm_hc y x.handlerPc j ∧ j < 6) ∧
    (zm_cat hd pc E = none → ∀ z ∈ tableOf hh, zm_pass y pc E z) := by
  intro hd
  induction hd with
  | nil =>
    intro hh hlen _
    cases hh with
    | nil => exact ⟨fun j h => (by cases h), fun _ z hz => (by cases hz)⟩
    | cons q t => simp at hlen
  | cons q t ih =>
    intro hh hlen hall
    cases hh with
    | nil => simp at hlen
    | cons q' t' =>
      obtain ⟨f, tt, x, j0, tg, sl, sh⟩ := q
      obtain ⟨f', tt', tg', ct⟩ := q'
      rw [List.zip_cons_cons, List.all_cons, Bool.and_eq_true] at hall
      obtain ⟨h1, h2⟩ := hall
      simp only [List.length_cons, Nat.succ.injEq] at hlen
      obtain ⟨i1, i2⟩ := ih t' hlen h2
      simp only [zm_okh1, Bool.and_eq_true, Bool.not_eq_true', Nat.blt_eq, decide_eq_true_eq] at h1
      obtain ⟨⟨⟨⟨⟨⟨⟨⟨a1, a2⟩, a3⟩, a4⟩, a5⟩, a6⟩, a7⟩, a8⟩, a9⟩ := h1
      have a1 := Nat.eq_of_beq_eq_true a1
      have a2 := Nat.eq_of_beq_eq_true a2
      have a3 := Nat.eq_of_beq_eq_true a3
      subst a1; subst a2; subst a3
      have hct : ct ≠ 0 := fun h => by rw [h] at a7; cases a7
      have htab : tableOf ((f, tt, tg, ct) :: t') = ⟨f, tt, tg, ct⟩ :: tableOf t' := rfl
      have hhc : zm_hc y tg j0 := by
        cases sh with
        | true =>
          simp only [cond_true, Bool.and_eq_true, Nat.blt_eq] at a9
          exact Or.inl ⟨sl, a6, a9.1.1.2, zm_dc_ok a9.1.1.1, zm_dc_ok a9.1.2, zm_dc_ok a9.2⟩
        | false =>
          simp only [cond_false, Bool.and_eq_true] at a9
          exact Or.inr ⟨sl, a6, zm_dc_ok a9.1.1, zm_dc_ok a9.1.2, zm_dc_ok a9.2⟩
      cases hcov : (Nat.ble f pc && Nat.blt pc tt && Nat.beq x E) with
      | true =>
        refine ⟨fun j hj => ?_, fun hn => ?_⟩
        · simp only [zm_cat, hcov, cond_true] at hj
          cases hj
          simp only [Bool.and_eq_true, Nat.blt_eq] at hcov
          have hxE := Nat.eq_of_beq_eq_true hcov.2
          subst hxE
          refine ⟨[], ⟨f, tt, tg, ct⟩, tableOf t', htab, fun z hz => (by cases hz), ?_, hct, a8, hhc, a5⟩
          simp only [covers, Bool.and_eq_true, decide_eq_true_eq]
          exact ⟨Nat.le_of_ble_eq_true hcov.1.1, hcov.1.2⟩
        · simp only [zm_cat, hcov, cond_true] at hn
          cases hn
      | false =>
        have hp : zm_pass y pc E ⟨f, tt, tg, ct⟩ := by
          by_cases hxE : x = E
          · refine Or.inl ?_
            subst hxE
            have hxx : Nat.beq x x = true := Nat.beq_refl x
            rw [hxx, Bool.and_true] at hcov
            simp only [covers]
            simp only [Bool.and_eq_false_iff] at hcov ⊢
            rcases hcov with h9 | h9
            · exact Or.inl (decide_eq_false fun q => by rw [Nat.ble_eq_true_of_le q] at h9; cases h9)
            · exact Or.inr (decide_eq_false fun q => by rw [Nat.blt_eq.mpr q] at h9; cases h9)
          · exact Or.inr ⟨hct, x, a4, hxE, a8⟩
        refine ⟨fun j hj => ?_, fun hn => ?_⟩
        · simp only [zm_cat, hcov, cond_false] at hj
          obtain ⟨pre, x9, suf, e1, e2, e3⟩ := i1 j hj
          refine ⟨⟨f, tt, tg, ct⟩ :: pre, x9, suf, by rw [htab, e1]; rfl, fun z hz => ?_, e3⟩
          rcases List.mem_cons.mp hz with rfl | hz
          · exact hp
          · exact e2 z hz
        · simp only [zm_cat, hcov, cond_false] at hn
          intro z hz
          rw [htab] at hz
          rcases List.mem_cons.mp hz with rfl | hz
          · exact hp
          · exact i2 hn z hz
theorem zm_6 : ∀ q : Nat, q < 6 → Int32.ofInt (q : Int) = Int32.ofNat q := by decide +kernel
theorem zm_pass_use {y pc E : Nat} {z : ExceptionTableEntry} (hE : E < 3) (hG : zm_G D cA s) (hts : ∀ w ∈ zm_tb, w.before args s = true) (h : zm_pass y pc E z) : covers z pc = false ∨ (z.catchType ≠ 0 ∧ ∃ nm : String, (Cond.classLink (zm_cn (zm_own y)) z.catchType nm).before args s = true ∧ va_Nc (zm_ex E) nm s) := by
  rcases h with h | ⟨h1, x, h2, h3, h4⟩
  · exact Or.inl h
  · exact Or.inr ⟨h1, zm_ex x, hts _ (zm_tb_in (zm_xk_in _ h4) rfl), hG.2.2.2.2.2 E x hE h2 (Ne.symm h3)⟩
set_option maxHeartbeats 1000000 in
theorem zm_catch_sound {y pc E q0 : Nat} {ml : List Value} {h : zm_H} {ls : Array Slot} {rest : List Value} {q : Addr} {ce : Cell} (C : zm_cx X b b0 D cA p s m args meth c u0 y) (hr : meth.sig.returnType = zm_rt y) (hlocks : meth.locks = false) (hht : c.exceptionTable.toList = tableOf (zm_hh y)) (hokh : zm_okh y = true) (hkd : zm_kd y = 3) (hE : E < 3) (hcat : zm_cat (zm_hd y) pc E = some q0)
    (hl : zm_lr b b0 ml ls (zm_mx y)) (hP : va_P D zm_cl (zm_ws b b0 cA h) H) (hS : va_S (zm_A b) s.heap H locs) (hce : H[q]? = some ce) (hcv : ce.vm = .none) (hcl : s.vm.findClass (zm_ex E) = some ce.cls) (hc : cells ≤ R.cells) (hs : slots ≤ R.slots) :
    vx_W p l e R s m args below meth c H locs cells slots (vx_MQ below (zm_Qc b b0 D cA (.inl (some (.int (Int32.ofNat q0)))) h) (zm_XC b b0 D cA (.inl (some (.int (Int32.ofNat q0)))) h) args s R.cells R.slots (zm_A b)) (F0 m pc ls rest) q := by
  obtain ⟨hx, hb, hml, hown, hts, hnm, hG, hX, hb0, hbs, hub⟩ := id C
  simp only [zm_okh, Bool.or_eq_true, Bool.and_eq_true, Bool.not_eq_true', decide_eq_true_eq] at hokh
  rcases hokh with h8 | ⟨⟨h8, h9⟩, h7⟩
  · rw [hkd] at h8; cases h8
  obtain ⟨pre, x, suf, e1, e2, e3, e4, e5, e6, e7⟩ := (zm_hand (pc := pc) (E := E) _ _ (Nat.eq_of_beq_eq_true h9) h8).1 q0 hcat
  have hB := hG.2.2.1
  have hcast : (Cond.castable (zm_ex E) (zm_ex E)).before args s = true := by
    have : Cond.castable (zm_ex E) (zm_ex E) ∈ zm_B := by
      match E, hE with
      | 0, _ => exact List.mem_of_getElem? (i := 0) rfl
      | 1, _ => exact List.mem_of_getElem? (i := 1) rfl
      | 2, _ => exact List.mem_of_getElem? (i := 2) rfl
    exact va_Nw.use rfl (hB _ this)
  refine vx_catch hown pre x suf (by rw [hht, e1]) (fun z hz => zm_pass_use hE hG hts (e2 z hz)) e3 e4 (hts _ (zm_tb_in (zm_xk_in _ e5) rfl)) hcast hce hcv hcl ?_
  have hq : ∀ t : State, t.heap = H → s.WarmedH t.vm → zm_Qc b b0 D cA (.inl (some (.int (Int32.ofNat q0)))) h args s (.returned (some (.int (Int32.ofNat q0)))) t := fun t ht _ => ⟨_, rfl, rfl, by rw [ht]; exact hP, hS.F ht⟩
  have hrt : meth.sig.returnType = some .int := hr.trans h7
  rcases e6 with ⟨sl, g1, g2, g3, g4, g5⟩ | ⟨sl, g1, g3, g4, g5⟩
  · refine lv_astore_n hx hb g3 (i := sl) (by simp [Fin.ofNat, Nat.mod_eq_of_lt g2]) (zm_lr_has hl) g1 rfl (fun ls' _ => ?_)
    refine lv_iconst hx hb g4 (v := Int32.ofNat q0) (zm_6 q0 e7) ?_
    exact vx_ret (W.widen hc hs (W.iret hx hb hrt hq hS.2.2 g5 hlocks))
  · refine lv_astore hx hb g3 (zm_lr_has hl) g1 rfl (fun ls' _ => ?_)
    refine lv_iconst hx hb g4 (v := Int32.ofNat q0) (zm_6 q0 e7) ?_
    exact vx_ret (W.widen hc hs (W.iret hx hb hrt hq hS.2.2 g5 hlocks))
theorem zm_out_sound {y pc E : Nat} {h : zm_H} {ls : Array Slot} {rest : List Value} {q : Addr} {ce : Cell} (C : zm_cx X b b0 D cA p s m args meth c u0 y) (hlocks : meth.locks = false) (hht : c.exceptionTable.toList = tableOf (zm_hh y)) (hokh : zm_okh y = true) (hh : zm_kd y = 3 ∨ (zm_hd y = [] ∧ zm_hh y = [])) (hE : E < 3) (hcat : zm_cat (zm_hd y) pc E = none)
    (hP : va_P D zm_cl (zm_ws b b0 cA h) H) (hS : va_S (zm_A b) s.heap H locs) (hce : H[q]? = some ce) (hcv : ce.vm = .none) (hcl : s.vm.findClass (zm_ex E) = some ce.cls) (hc : cells ≤ R.cells) (hs : slots ≤ R.slots) :
    vx_W p l e R s m args below meth c H locs cells slots (vx_MQ below (zm_Qc b b0 D cA (.inr E) h) (zm_XC b b0 D cA (.inr E) h) args s R.cells R.slots (zm_A b)) (F0 m pc ls rest) q := by
  obtain ⟨hx, hb, hml, hown, hts, hnm, hG, hX, hb0, hbs, hub⟩ := id C
  have hpass : ∀ z ∈ c.exceptionTable.toList, zm_pass y pc E z := by
    intro z hz
    rw [hht] at hz
    rcases hh with h9 | h9
    · simp only [zm_okh, Bool.or_eq_true, Bool.and_eq_true, Bool.not_eq_true', decide_eq_true_eq] at hokh
      rcases hokh with h8 | ⟨⟨h8, h7⟩, -⟩
      · rw [h9] at h8; cases h8
      · exact (zm_hand (pc := pc) (E := E) _ _ (Nat.eq_of_beq_eq_true h7) h8).2 hcat z hz
    · rw [h9.2] at hz
      cases hz
  exact vx_outP hown hlocks (fun z hz => zm_pass_use hE hG hts (hpass z hz)) hce hcv hcl (fun t ht _ => ⟨E, rfl, rfl, hE, by rw [ht]; exact hP, hS.F ht⟩) hS.2.2 hc hs
end ZCL
