/-! the constructors: heaps as lists of cells -/
def kl (l : List zm_E) : Nat → zm_E := fun a => (l[a]?).getD (.inr (0, []))
def hl (l : List zm_E) (k : Nat) : zm_H := (kl l, l.length, k, 0)
theorem kl_new (l : List zm_E) (e : zm_E) : va_up (kl l) l.length e = kl (l ++ [e]) := by
  funext a
  simp only [va_up, kl, List.getElem?_append]
  by_cases h1 : a = l.length
  · subst h1
    simp
  · rw [if_neg h1]
    by_cases h2 : a < l.length
    · rw [if_pos h2]
    · rw [if_neg h2]
      have h3 : l[a]? = none := by simp; omega
      have h4 : [e][a - l.length]? = none := by simp; omega
      rw [h3, h4]
theorem hl_new (l : List zm_E) (e : zm_E) (k n : Nat) : zm_new (hl l k) e n = hl (l ++ [e]) (k + n) := by
  show (va_up (kl l) l.length e, l.length + 1, k + n, 0) = (kl (l ++ [e]), (l ++ [e]).length, k + n, 0)
  rw [kl_new]
  simp
theorem kl_at {P t : List zm_E} {e : zm_E} : kl (P ++ e :: t) P.length = e := by
  simp [kl]
theorem kl_put {P t : List zm_E} {e e' : zm_E} : va_up (kl (P ++ e :: t)) P.length e' = kl (P ++ e' :: t) := by
  funext a
  simp only [va_up, kl, List.getElem?_append]
  by_cases h1 : a = P.length
  · subst h1
    simp
  · rw [if_neg h1]
    by_cases h2 : a < P.length
    · rw [if_pos h2, if_pos h2]
    · rw [if_neg h2, if_neg h2]
      obtain ⟨j, hj⟩ : ∃ j, a - P.length = j + 1 := ⟨a - P.length - 1, by omega⟩
      rw [hj]
      rfl
theorem hl_put {P t : List zm_E} {e e' : zm_E} {k a : Nat} (ha : P.length = a) : zm_put (hl (P ++ e :: t) k) a e' = hl (P ++ e' :: t) k := by
  subst ha
  show (va_up (kl (P ++ e :: t)) P.length e', (P ++ e :: t).length, k, 0) = (kl (P ++ e' :: t), (P ++ e' :: t).length, k, 0)
  rw [kl_put]
  simp
theorem hl_lt {P t : List zm_E} {e : zm_E} {k a : Nat} (ha : P.length = a) : Nat.blt a (hl (P ++ e :: t) k).2.1 = true := by
  subst ha
  rw [Nat.blt_eq]
  show P.length < (P ++ e :: t).length
  simp
theorem hl_obj {P t : List zm_E} {x : Nat × List Value} {k a : Nat} (ha : P.length = a) : zm_obj (hl (P ++ .inr x :: t) k) a = some x := by
  have h1 : (hl (P ++ .inr x :: t) k).1 a = .inr x := by subst ha; exact kl_at
  unfold zm_obj
  rw [h1]
  simp only [hl_lt ha, cond_true]
theorem hl_iarr {P t : List zm_E} {n : Nat} {f : Nat → Int32} {k a : Nat} (ha : P.length = a) : zm_iarr (hl (P ++ .inl (0, n, .inl f) :: t) k) a = some (n, f) := by
  have h1 : (hl (P ++ .inl (0, n, .inl f) :: t) k).1 a = .inl (0, n, .inl f) := by subst ha; exact kl_at
  unfold zm_iarr
  rw [h1]
  simp only [hl_lt ha, cond_true]
theorem hl_qarr {P t : List zm_E} {n : Nat} {f : Nat → Option Nat} {k a : Nat} (ha : P.length = a) : zm_qarr (hl (P ++ .inl (2, n, .inr (.inr (.inr (.inr f)))) :: t) k) a = some (n, f) := by
  have h1 : (hl (P ++ .inl (2, n, .inr (.inr (.inr (.inr f)))) :: t) k).1 a = .inl (2, n, .inr (.inr (.inr (.inr f)))) := by subst ha; exact kl_at
  unfold zm_qarr
  rw [h1]
  simp only [hl_lt ha, cond_true]
section ZK
variable {X : zm_X} {y pc pc' : Nat} {ls st : List Value} {Q : zm_O → zm_H → Prop} {P T : List zm_E} {e0 : zm_E} {k a m n : Nat}
theorem zn_len (hm : P.length + 1 + T.length = m) : (hl (P ++ e0 :: T) k).2.1 = m := by
  show (P ++ e0 :: T).length = m
  simp
  omega
theorem zn_app {B : List zm_E} : (P ++ e0 :: T) ++ B = P ++ e0 :: (T ++ B) := by simp
theorem zn_new {idx c j : Nat} {fs : List Value} (hf : zm_lk (zm_cd y) pc = some (.inr (9, idx, c, j), pc')) (hn : zm_N c = n) (hfs : (List.range (zm_N c)).map (fun j => zm_dv (zm_ty c j)) = fs) (hm : P.length + 1 + T.length = m) (k9 : zp_wp X y pc' ls (.ref m :: st) (hl (P ++ e0 :: (T ++ [.inr (c, fs)])) (k + n)) Q) : zp_wp X y pc ls st (hl (P ++ e0 :: T) k) Q := by
  refine zp_new hf rfl hn hfs ?_
  rw [hl_new, zn_app, zn_len hm]
  exact k9
theorem zn_newi (hf : zm_lk (zm_cd y) pc = some (.inl (.newarray .int), pc')) (hn : n < 10000) (hm : P.length + 1 + T.length = m) (k9 : zp_wp X y pc' ls (.ref m :: st) (hl (P ++ e0 :: (T ++ [.inl (0, n, .inl (fun _ => 0))])) (k + n)) Q) : zp_wp X y pc ls (.int (nI n) :: st) (hl (P ++ e0 :: T) k) Q := by
  refine zp_newi hf hn rfl ?_
  rw [hl_new, zn_app, zn_len hm]
  exact k9
theorem zn_newl (hf : zm_lk (zm_cd y) pc = some (.inl (.newarray .long), pc')) (hn : n < 10000) (hm : P.length + 1 + T.length = m) (k9 : zp_wp X y pc' ls (.ref m :: st) (hl (P ++ e0 :: (T ++ [.inl (1, n, .inr (.inl (fun _ => 0)))])) (k + n)) Q) : zp_wp X y pc ls (.int (nI n) :: st) (hl (P ++ e0 :: T) k) Q := by
  refine zp_newl hf hn rfl ?_
  rw [hl_new, zn_app, zn_len hm]
  exact k9
theorem zn_newq {idx c j : Nat} (hf : zm_lk (zm_cd y) pc = some (.inr (10, idx, c, j), pc')) (hn : n < 10000) (hm : P.length + 1 + T.length = m) (k9 : zp_wp X y pc' ls (.ref m :: st) (hl (P ++ e0 :: (T ++ [.inl (2, n, .inr (.inr (.inr (.inr (fun _ => none)))))])) (k + n)) Q) : zp_wp X y pc ls (.int (nI n) :: st) (hl (P ++ e0 :: T) k) Q := by
  refine zp_newq hf hn rfl ?_
  rw [hl_new, zn_app, zn_len hm]
  exact k9
theorem zn_putF {idx c j : Nat} {fs : List Value} {v : Value} (ha : P.length = a) (hf : zm_lk (zm_cd y) pc = some (.inr (2, idx, c, j), pc')) (hv : (Nat.blt j fs.length && zm_fit (zm_ty c j) v) = true) (k9 : zp_wp X y pc' ls st (hl (P ++ .inr (c, fs.set j v) :: T) k) Q) : zp_wp X y pc ls (v :: .ref a :: st) (hl (P ++ .inr (c, fs) :: T) k) Q := by
  refine zp_putF hf (hl_obj ha) hv ?_
  rw [hl_put ha]
  exact k9
theorem zn_put {idx c j : Nat} {fs : List Value} {v : Value} (ha : P.length = a) (hf : zm_lk (zm_cd y) pc = some (.inr (1, idx, c, j), pc')) (hv : (Nat.blt j fs.length && zm_fit (zm_ty c j) v) = true) (k9 : zp_wp X y pc' ls st (hl (P ++ .inr (c, fs.set j v) :: T) k) Q) : zp_wp X y pc ls (v :: .ref a :: st) (hl (P ++ .inr (c, fs) :: T) k) Q := by
  refine zp_put hf (hl_obj ha) hv ?_
  rw [hl_put ha]
  exact k9
theorem s_fill_l {f : Nat → Int32} {x : Int32} (ha : P.length = a) (hn : n ≤ 40) (hq : ∀ g : Nat → Int32, (∀ i, i < n → g i = x) → Q (.inl none) (hl (P ++ .inl (0, n, .inl g) :: T) k)) : zp_wm X y_Arrays_fill [.ref a, .int x] (hl (P ++ .inl (0, n, .inl f) :: T) k) Q := by
  show zp_wp X y_Arrays_fill 0 [.ref a, .int x, zm_mk, zm_mk] [] (hl (P ++ .inl (0, n, .inl f) :: T) k) Q
  have lp : ∀ r i (g : Nat → Int32), i + r = n → (∀ j, j < i → g j = x) → zp_wp X y_Arrays_fill 5 [.ref a, .int x, .int (nI i), .int (nI n)] [] (hl (P ++ .inl (0, n, .inl g) :: T) k) Q := by
    intro r
    induction r with
    | zero =>
      intro i g hi hg
      refine zp_iload_n (x := nI i) rfl rfl ?_
      refine zp_iload_n (x := nI n) rfl rfl ?_
      refine zp_icmpN_ge (tgt := 20) rfl rfl (by omega) (by omega) (fun b7 => ?_) (fun b7 => absurd b7 (by omega))
      exact zp_vret rfl rfl (hq g (fun j hj => hg j (by omega)))
    | succ r ih =>
      intro i g hi hg
      refine zp_iload_n (x := nI i) rfl rfl ?_
      refine zp_iload_n (x := nI n) rfl rfl ?_
      refine zp_icmpN_ge (tgt := 20) rfl rfl (by omega) (by omega) (fun b7 => absurd b7 (by omega)) (fun b7 => ?_)
      refine zp_aload_n (x := a) rfl rfl ?_
      refine zp_iload_n (x := nI i) rfl rfl ?_
      refine zp_iload_n (x := x) rfl rfl ?_
      refine zp_iast rfl (hl_iarr ha) (by omega) (by omega) ?_
      rw [hl_put ha]
      refine zp_iincN_2 rfl rfl ?_
      refine zp_goto (tgt := 5) rfl rfl ?_
      refine ih (i + 1) _ (by omega) (fun j hj => ?_)
      by_cases e : j = i
      · subst e; rw [pk_us]
      · rw [pk_un e]; exact hg j (by omega)
  refine zp_iconst (v := (nI 0)) rfl (by decide +kernel) ?_
  refine zp_istore_n_2 rfl rfl ?_
  refine zp_aload_n (x := a) rfl rfl ?_
  refine zp_alen rfl (hl_iarr ha) ?_
  refine zp_istore_n_3 rfl rfl ?_
  exact lp n 0 f (by omega) (fun j hj => absurd hj (by omega))
theorem s_Change_init {h : zm_H} (hq : Q (.inl none) h) : zp_wm X y_Change_init [.ref a] h Q := by
  show zp_wp X y_Change_init 0 [.ref a] [] h Q
  refine zp_aload_n (x := a) rfl rfl ?_
  refine zp_objI rfl rfl ?_
  exact zp_vret rfl rfl hq
/-! the cells that a constructor leaves -/
def pcell (a : Nat) (f g : Nat → Int32) : List zm_E := [.inr (4, [.ref (a + 1), .ref (a + 2), .ref (a + 3), .ref (a + 4), .ref (a + 5), .ref (a + 6)]), .inl (0, 12, .inl (fun _ => 0)), .inl (0, 12, .inl f), .inl (0, 12, .inl (fun _ => 0)), .inl (0, 40, .inl (fun _ => 0)), .inl (0, 40, .inl g), .inl (1, 40, .inr (.inl (fun _ => 0)))]
def ccell : zm_E := .inr (0, [.int 0, .int 0, .int 0, .int 0, .int 0])
def lcell (a : Nat) (r : Nat → Option Nat) : List zm_E := .inr (1, [.ref (a + 1), .int 0]) :: .inl (2, 30, .inr (.inr (.inr (.inr r)))) :: List.replicate 30 ccell
def mcell (a : Nat) : List zm_E := [.inr (3, [.ref (a + 1), .ref (a + 2), .ref (a + 3), .ref (a + 4)]), .inl (0, 12, .inl (fun _ => 0)), .inl (0, 12, .inl (fun _ => 0)), .inl (0, 40, .inl (fun _ => 0)), .inl (0, 40, .inl (fun _ => 0))]
theorem s_Prog_init {h : zm_H} (ha : P.length = a) (hh : h = hl (P ++ [.inr (4, [.null, .null, .null, .null, .null, .null])]) k) (hq : ∀ f g : Nat → Int32, (∀ i, i < 12 → f i = -1) → (∀ i, i < 40 → g i = -1) → Q (.inl none) (hl (P ++ pcell a f g) (k + 156))) : zp_wm X y_Prog_init [.ref a] h Q := by
  subst hh
  show zp_wp X y_Prog_init 0 [.ref a] [] (hl (P ++ .inr (4, [.null, .null, .null, .null, .null, .null]) :: []) (k + 0)) Q
  refine zp_aload_n (x := a) rfl rfl ?_
  refine zp_objI rfl rfl ?_
  refine zp_aload_n (x := a) rfl rfl ?_
  refine zp_bipush (v := (nI 12)) rfl (by decide +kernel) ?_
  refine zn_newi (m := (a + 1)) rfl (by decide) (by rw [ha]; rfl) ?_
  show zp_wp X y_Prog_init 9 [.ref a] [.ref (a + 1), .ref a] (hl (P ++ .inr (4, [.null, .null, .null, .null, .null, .null]) :: ([] ++ [.inl (0, 12, .inl (fun _ => 0))])) (k + 12)) Q
  refine zn_putF ha rfl rfl ?_
  show zp_wp X y_Prog_init 12 [.ref a] [] (hl (P ++ .inr (4, [.ref (a + 1), .null, .null, .null, .null, .null]) :: ([] ++ [.inl (0, 12, .inl (fun _ => 0))])) (k + 12)) Q
  refine zp_aload_n (x := a) rfl rfl ?_
  refine zp_bipush (v := (nI 12)) rfl (by decide +kernel) ?_
  refine zn_newi (m := (a + 2)) rfl (by decide) (by rw [ha]; rfl) ?_
  show zp_wp X y_Prog_init 17 [.ref a] [.ref (a + 2), .ref a] (hl (P ++ .inr (4, [.ref (a + 1), .null, .null, .null, .null, .null]) :: (([] ++ [.inl (0, 12, .inl (fun _ => 0))]) ++ [.inl (0, 12, .inl (fun _ => 0))])) (k + 24)) Q
  refine zn_putF ha rfl rfl ?_
  show zp_wp X y_Prog_init 20 [.ref a] [] (hl (P ++ .inr (4, [.ref (a + 1), .ref (a + 2), .null, .null, .null, .null]) :: (([] ++ [.inl (0, 12, .inl (fun _ => 0))]) ++ [.inl (0, 12, .inl (fun _ => 0))])) (k + 24)) Q
  refine zp_aload_n (x := a) rfl rfl ?_
  refine zp_bipush (v := (nI 12)) rfl (by decide +kernel) ?_
  refine zn_newi (m := (a + 3)) rfl (by decide) (by rw [ha]; rfl) ?_
  show zp_wp X y_Prog_init 25 [.ref a] [.ref (a + 3), .ref a] (hl (P ++ .inr (4, [.ref (a + 1), .ref (a + 2), .null, .null, .null, .null]) :: ((([] ++ [.inl (0, 12, .inl (fun _ => 0))]) ++ [.inl (0, 12, .inl (fun _ => 0))]) ++ [.inl (0, 12, .inl (fun _ => 0))])) (k + 36)) Q
  refine zn_putF ha rfl rfl ?_
  show zp_wp X y_Prog_init 28 [.ref a] [] (hl (P ++ .inr (4, [.ref (a + 1), .ref (a + 2), .ref (a + 3), .null, .null, .null]) :: ((([] ++ [.inl (0, 12, .inl (fun _ => 0))]) ++ [.inl (0, 12, .inl (fun _ => 0))]) ++ [.inl (0, 12, .inl (fun _ => 0))])) (k + 36)) Q
  refine zp_aload_n (x := a) rfl rfl ?_
  refine zp_bipush (v := (nI 40)) rfl (by decide +kernel) ?_
  refine zn_newi (m := (a + 4)) rfl (by decide) (by rw [ha]; rfl) ?_
  show zp_wp X y_Prog_init 33 [.ref a] [.ref (a + 4), .ref a] (hl (P ++ .inr (4, [.ref (a + 1), .ref (a + 2), .ref (a + 3), .null, .null, .null]) :: (((([] ++ [.inl (0, 12, .inl (fun _ => 0))]) ++ [.inl (0, 12, .inl (fun _ => 0))]) ++ [.inl (0, 12, .inl (fun _ => 0))]) ++ [.inl (0, 40, .inl (fun _ => 0))])) (k + 76)) Q
  refine zn_putF ha rfl rfl ?_
  show zp_wp X y_Prog_init 36 [.ref a] [] (hl (P ++ .inr (4, [.ref (a + 1), .ref (a + 2), .ref (a + 3), .ref (a + 4), .null, .null]) :: (((([] ++ [.inl (0, 12, .inl (fun _ => 0))]) ++ [.inl (0, 12, .inl (fun _ => 0))]) ++ [.inl (0, 12, .inl (fun _ => 0))]) ++ [.inl (0, 40, .inl (fun _ => 0))])) (k + 76)) Q
  refine zp_aload_n (x := a) rfl rfl ?_
  refine zp_bipush (v := (nI 40)) rfl (by decide +kernel) ?_
  refine zn_newi (m := (a + 5)) rfl (by decide) (by rw [ha]; rfl) ?_
  show zp_wp X y_Prog_init 41 [.ref a] [.ref (a + 5), .ref a] (hl (P ++ .inr (4, [.ref (a + 1), .ref (a + 2), .ref (a + 3), .ref (a + 4), .null, .null]) :: ((((([] ++ [.inl (0, 12, .inl (fun _ => 0))]) ++ [.inl (0, 12, .inl (fun _ => 0))]) ++ [.inl (0, 12, .inl (fun _ => 0))]) ++ [.inl (0, 40, .inl (fun _ => 0))]) ++ [.inl (0, 40, .inl (fun _ => 0))])) (k + 116)) Q
  refine zn_putF ha rfl rfl ?_
  show zp_wp X y_Prog_init 44 [.ref a] [] (hl (P ++ .inr (4, [.ref (a + 1), .ref (a + 2), .ref (a + 3), .ref (a + 4), .ref (a + 5), .null]) :: ((((([] ++ [.inl (0, 12, .inl (fun _ => 0))]) ++ [.inl (0, 12, .inl (fun _ => 0))]) ++ [.inl (0, 12, .inl (fun _ => 0))]) ++ [.inl (0, 40, .inl (fun _ => 0))]) ++ [.inl (0, 40, .inl (fun _ => 0))])) (k + 116)) Q
  refine zp_aload_n (x := a) rfl rfl ?_
  refine zp_bipush (v := (nI 40)) rfl (by decide +kernel) ?_
  refine zn_newl (m := (a + 6)) rfl (by decide) (by rw [ha]; rfl) ?_
  show zp_wp X y_Prog_init 49 [.ref a] [.ref (a + 6), .ref a] (hl (P ++ .inr (4, [.ref (a + 1), .ref (a + 2), .ref (a + 3), .ref (a + 4), .ref (a + 5), .null]) :: (((((([] ++ [.inl (0, 12, .inl (fun _ => 0))]) ++ [.inl (0, 12, .inl (fun _ => 0))]) ++ [.inl (0, 12, .inl (fun _ => 0))]) ++ [.inl (0, 40, .inl (fun _ => 0))]) ++ [.inl (0, 40, .inl (fun _ => 0))]) ++ [.inl (1, 40, .inr (.inl (fun _ => 0)))])) (k + 156)) Q
  refine zn_putF ha rfl rfl ?_
  show zp_wp X y_Prog_init 52 [.ref a] [] (hl (P ++ .inr (4, [.ref (a + 1), .ref (a + 2), .ref (a + 3), .ref (a + 4), .ref (a + 5), .ref (a + 6)]) :: (((((([] ++ [.inl (0, 12, .inl (fun _ => 0))]) ++ [.inl (0, 12, .inl (fun _ => 0))]) ++ [.inl (0, 12, .inl (fun _ => 0))]) ++ [.inl (0, 40, .inl (fun _ => 0))]) ++ [.inl (0, 40, .inl (fun _ => 0))]) ++ [.inl (1, 40, .inr (.inl (fun _ => 0)))])) (k + 156)) Q
  show zp_wp X y_Prog_init 52 [.ref a] [] (hl (P ++ .inr (4, [.ref (a + 1), .ref (a + 2), .ref (a + 3), .ref (a + 4), .ref (a + 5), .ref (a + 6)]) :: [.inl (0, 12, .inl (fun _ => 0)), .inl (0, 12, .inl (fun _ => 0)), .inl (0, 12, .inl (fun _ => 0)), .inl (0, 40, .inl (fun _ => 0)), .inl (0, 40, .inl (fun _ => 0)), .inl (1, 40, .inr (.inl (fun _ => 0)))]) (k + 156)) Q
  refine zp_aload_n (x := a) rfl rfl ?_
  refine zp_get (v := .ref (a + 2)) rfl (hl_obj ha) rfl ?_
  refine zp_iconst (v := (-1)) rfl (by decide +kernel) ?_
  have e1 : (hl (P ++ .inr (4, [.ref (a + 1), .ref (a + 2), .ref (a + 3), .ref (a + 4), .ref (a + 5), .ref (a + 6)]) :: [.inl (0, 12, .inl (fun _ => 0)), .inl (0, 12, .inl (fun _ => 0)), .inl (0, 12, .inl (fun _ => 0)), .inl (0, 40, .inl (fun _ => 0)), .inl (0, 40, .inl (fun _ => 0)), .inl (1, 40, .inr (.inl (fun _ => 0)))]) (k + 156)) = (hl ((P ++ [.inr (4, [.ref (a + 1), .ref (a + 2), .ref (a + 3), .ref (a + 4), .ref (a + 5), .ref (a + 6)]), .inl (0, 12, .inl (fun _ => 0))]) ++ .inl (0, 12, .inl (fun _ => 0)) :: [.inl (0, 12, .inl (fun _ => 0)), .inl (0, 40, .inl (fun _ => 0)), .inl (0, 40, .inl (fun _ => 0)), .inl (1, 40, .inr (.inl (fun _ => 0)))]) (k + 156)) := by simp
  rw [e1]
  refine zp_call rfl rfl (s_fill_l (by simp [ha]) (by decide) (fun f hf => ?_))
  have e2 : (hl ((P ++ [.inr (4, [.ref (a + 1), .ref (a + 2), .ref (a + 3), .ref (a + 4), .ref (a + 5), .ref (a + 6)]), .inl (0, 12, .inl (fun _ => 0))]) ++ .inl (0, 12, .inl f) :: [.inl (0, 12, .inl (fun _ => 0)), .inl (0, 40, .inl (fun _ => 0)), .inl (0, 40, .inl (fun _ => 0)), .inl (1, 40, .inr (.inl (fun _ => 0)))]) (k + 156)) = (hl (P ++ .inr (4, [.ref (a + 1), .ref (a + 2), .ref (a + 3), .ref (a + 4), .ref (a + 5), .ref (a + 6)]) :: [.inl (0, 12, .inl (fun _ => 0)), .inl (0, 12, .inl f), .inl (0, 12, .inl (fun _ => 0)), .inl (0, 40, .inl (fun _ => 0)), .inl (0, 40, .inl (fun _ => 0)), .inl (1, 40, .inr (.inl (fun _ => 0)))]) (k + 156)) := by simp
  rw [e2]
  show zp_wp X y_Prog_init 60 [.ref a] [] (hl (P ++ .inr (4, [.ref (a + 1), .ref (a + 2), .ref (a + 3), .ref (a + 4), .ref (a + 5), .ref (a + 6)]) :: [.inl (0, 12, .inl (fun _ => 0)), .inl (0, 12, .inl f), .inl (0, 12, .inl (fun _ => 0)), .inl (0, 40, .inl (fun _ => 0)), .inl (0, 40, .inl (fun _ => 0)), .inl (1, 40, .inr (.inl (fun _ => 0)))]) (k + 156)) Q
  refine zp_aload_n (x := a) rfl rfl ?_
  refine zp_get (v := .ref (a + 5)) rfl (hl_obj ha) rfl ?_
  refine zp_iconst (v := (-1)) rfl (by decide +kernel) ?_
  have e3 : (hl (P ++ .inr (4, [.ref (a + 1), .ref (a + 2), .ref (a + 3), .ref (a + 4), .ref (a + 5), .ref (a + 6)]) :: [.inl (0, 12, .inl (fun _ => 0)), .inl (0, 12, .inl f), .inl (0, 12, .inl (fun _ => 0)), .inl (0, 40, .inl (fun _ => 0)), .inl (0, 40, .inl (fun _ => 0)), .inl (1, 40, .inr (.inl (fun _ => 0)))]) (k + 156)) = (hl ((P ++ [.inr (4, [.ref (a + 1), .ref (a + 2), .ref (a + 3), .ref (a + 4), .ref (a + 5), .ref (a + 6)]), .inl (0, 12, .inl (fun _ => 0)), .inl (0, 12, .inl f), .inl (0, 12, .inl (fun _ => 0)), .inl (0, 40, .inl (fun _ => 0))]) ++ .inl (0, 40, .inl (fun _ => 0)) :: [.inl (1, 40, .inr (.inl (fun _ => 0)))]) (k + 156)) := by simp
  rw [e3]
  refine zp_call rfl rfl (s_fill_l (by simp [ha]) (by decide) (fun g hg => ?_))
  have e4 : (hl ((P ++ [.inr (4, [.ref (a + 1), .ref (a + 2), .ref (a + 3), .ref (a + 4), .ref (a + 5), .ref (a + 6)]), .inl (0, 12, .inl (fun _ => 0)), .inl (0, 12, .inl f), .inl (0, 12, .inl (fun _ => 0)), .inl (0, 40, .inl (fun _ => 0))]) ++ .inl (0, 40, .inl g) :: [.inl (1, 40, .inr (.inl (fun _ => 0)))]) (k + 156)) = (hl (P ++ .inr (4, [.ref (a + 1), .ref (a + 2), .ref (a + 3), .ref (a + 4), .ref (a + 5), .ref (a + 6)]) :: [.inl (0, 12, .inl (fun _ => 0)), .inl (0, 12, .inl f), .inl (0, 12, .inl (fun _ => 0)), .inl (0, 40, .inl (fun _ => 0)), .inl (0, 40, .inl g), .inl (1, 40, .inr (.inl (fun _ => 0)))]) (k + 156)) := by simp
  rw [e4]
  exact zp_vret (y := y_Prog_init) rfl rfl (hq f g hf hg)
theorem s_List_init {h : zm_H} (ha : P.length = a) (hh : h = hl (P ++ [.inr (1, [.null, .int 0])]) k) (hq : ∀ r : Nat → Option Nat, (∀ j, j < 30 → r j = some (a + 2 + j)) → Q (.inl none) (hl (P ++ lcell a r) (k + 180))) : zp_wm X y_List_init [.ref a] h Q := by
  subst hh
  have lp : ∀ t i (r : Nat → Option Nat), i + t = 30 → (∀ j, j < i → r j = some (a + 2 + j)) → zp_wp X y_List_init 15 [.ref a, .int (nI i)] [] (hl (P ++ .inr (1, [.ref (a + 1), .int 0]) :: (.inl (2, 30, .inr (.inr (.inr (.inr r)))) :: List.replicate i ccell)) (k + (30 + 5 * i))) Q := by
    intro t
    induction t with
    | zero =>
      intro i r hi hr
      have hi : i = 30 := by omega
      subst hi
      refine zp_iload_n (x := nI 30) rfl rfl ?_
      refine zp_bipush (v := (nI 30)) rfl (by decide +kernel) ?_
      refine zp_icT (tgt := 40) rfl rfl (by decide +kernel) ?_
      refine zp_aload_n (x := a) rfl rfl ?_
      refine zp_iconst (v := (nI 0)) rfl (by decide +kernel) ?_
      refine zn_put ha rfl rfl ?_
      exact zp_vret rfl rfl (hq r hr)
    | succ t ih =>
      intro i r hi hr
      refine zp_iload_n (x := nI i) rfl rfl ?_
      refine zp_bipush (v := (nI 30)) rfl (by decide +kernel) ?_
      refine zp_icmpN_ge (tgt := 40) rfl rfl (by omega) (by omega) (fun b18 => absurd b18 (by omega)) (fun b18 => ?_)
      refine zp_aload_n (x := a) rfl rfl ?_
      refine zp_get (v := .ref (a + 1)) rfl (hl_obj ha) rfl ?_
      refine zp_iload_n (x := nI i) rfl rfl ?_
      refine zn_new (n := 5) (fs := [.int 0, .int 0, .int 0, .int 0, .int 0]) (m := a + 2 + i) rfl rfl rfl (by rw [ha]; simp; omega) ?_
      refine zp_dup_a rfl ?_
      refine zp_call rfl rfl (s_Change_init ?_)
      have e1 : P ++ .inr (1, [.ref (a + 1), .int 0]) :: ((.inl (2, 30, .inr (.inr (.inr (.inr r)))) :: List.replicate i ccell) ++ [.inr (0, [.int 0, .int 0, .int 0, .int 0, .int 0])]) = (P ++ [.inr (1, [.ref (a + 1), .int 0]), .inl (2, 30, .inr (.inr (.inr (.inr r))))] ++ List.replicate i ccell) ++ .inr (0, [.int 0, .int 0, .int 0, .int 0, .int 0]) :: [] := by simp
      have e2 : P ++ .inr (1, [.ref (a + 1), .int 0]) :: ((.inl (2, 30, .inr (.inr (.inr (.inr r)))) :: List.replicate i ccell) ++ [.inr (0, [.int 0, .int 0, .int 0, .int 0, .int 0])]) = (P ++ [.inr (1, [.ref (a + 1), .int 0])]) ++ .inl (2, 30, .inr (.inr (.inr (.inr r)))) :: (List.replicate i ccell ++ [.inr (0, [.int 0, .int 0, .int 0, .int 0, .int 0])]) := by simp
      have hov : zm_obj (hl (P ++ .inr (1, [.ref (a + 1), .int 0]) :: ((.inl (2, 30, .inr (.inr (.inr (.inr r)))) :: List.replicate i ccell) ++ [.inr (0, [.int 0, .int 0, .int 0, .int 0, .int 0])])) (k + (30 + 5 * i) + 5)) (a + 2 + i) = some (0, [.int 0, .int 0, .int 0, .int 0, .int 0]) := by
        rw [e1]
        exact hl_obj (by simp [ha]; omega)
      have hoq : zm_qarr (hl (P ++ .inr (1, [.ref (a + 1), .int 0]) :: ((.inl (2, 30, .inr (.inr (.inr (.inr r)))) :: List.replicate i ccell) ++ [.inr (0, [.int 0, .int 0, .int 0, .int 0, .int 0])])) (k + (30 + 5 * i) + 5)) (a + 1) = some (30, r) := by
        rw [e2]
        exact hl_qarr (by simp [ha])
      refine zp_qast rfl hoq hov (by omega) (by decide) ?_
      rw [e2, hl_put (by simp [ha])]
      refine zp_iincN_1 rfl rfl ?_
      refine zp_goto (tgt := 15) rfl rfl ?_
      have e3 : (P ++ [.inr (1, [.ref (a + 1), .int 0])]) ++ .inl (2, 30, .inr (.inr (.inr (.inr (va_up r i (some (a + 2 + i))))))) :: (List.replicate i ccell ++ [.inr (0, [.int 0, .int 0, .int 0, .int 0, .int 0])]) = P ++ .inr (1, [.ref (a + 1), .int 0]) :: (.inl (2, 30, .inr (.inr (.inr (.inr (va_up r i (some (a + 2 + i))))))) :: List.replicate (i + 1) ccell) := by
        rw [List.replicate_succ']
        simp [ccell]
      have e4 : k + (30 + 5 * i) + 5 = k + (30 + 5 * (i + 1)) := by omega
      rw [e3, e4]
      refine ih (i + 1) _ (by omega) (fun j hj => ?_)
      by_cases e : j = i
      · subst e; rw [va_up_s]
      · rw [va_up_o e]; exact hr j (by omega)
  show zp_wp X y_List_init 0 [.ref a, zm_mk] [] (hl (P ++ .inr (1, [.null, .int 0]) :: []) k) Q
  refine zp_aload_n (x := a) rfl rfl ?_
  refine zp_objI rfl rfl ?_
  refine zp_aload_n (x := a) rfl rfl ?_
  refine zp_bipush (v := (nI 30)) rfl (by decide +kernel) ?_
  refine zn_newq (m := a + 1) rfl (by decide) (by rw [ha]; rfl) ?_
  refine zn_putF ha rfl rfl ?_
  refine zp_iconst (v := (nI 0)) rfl (by decide +kernel) ?_
  refine zp_istore_n_1 rfl rfl ?_
  exact lp 30 0 (fun _ => none) rfl (fun j hj => absurd hj (by omega))
theorem s_Match_init {h : zm_H} (ha : P.length = a) (hh : h = hl (P ++ [.inr (3, [.null, .null, .null, .null])]) k) (hq : Q (.inl none) (hl (P ++ mcell a) (k + 104))) : zp_wm X y_Match_init [.ref a] h Q := by
  subst hh
  show zp_wp X y_Match_init 0 [.ref a] [] (hl (P ++ .inr (3, [.null, .null, .null, .null]) :: []) (k + 0)) Q
  refine zp_aload_n (x := a) rfl rfl ?_
  refine zp_objI rfl rfl ?_
  refine zp_aload_n (x := a) rfl rfl ?_
  refine zp_bipush (v := (nI 12)) rfl (by decide +kernel) ?_
  refine zn_newi (m := (a + 1)) rfl (by decide) (by rw [ha]; rfl) ?_
  show zp_wp X y_Match_init 9 [.ref a] [.ref (a + 1), .ref a] (hl (P ++ .inr (3, [.null, .null, .null, .null]) :: ([] ++ [.inl (0, 12, .inl (fun _ => 0))])) (k + 12)) Q
  refine zn_putF ha rfl rfl ?_
  show zp_wp X y_Match_init 12 [.ref a] [] (hl (P ++ .inr (3, [.ref (a + 1), .null, .null, .null]) :: ([] ++ [.inl (0, 12, .inl (fun _ => 0))])) (k + 12)) Q
  refine zp_aload_n (x := a) rfl rfl ?_
  refine zp_bipush (v := (nI 12)) rfl (by decide +kernel) ?_
  refine zn_newi (m := (a + 2)) rfl (by decide) (by rw [ha]; rfl) ?_
  show zp_wp X y_Match_init 17 [.ref a] [.ref (a + 2), .ref a] (hl (P ++ .inr (3, [.ref (a + 1), .null, .null, .null]) :: (([] ++ [.inl (0, 12, .inl (fun _ => 0))]) ++ [.inl (0, 12, .inl (fun _ => 0))])) (k + 24)) Q
  refine zn_putF ha rfl rfl ?_
  show zp_wp X y_Match_init 20 [.ref a] [] (hl (P ++ .inr (3, [.ref (a + 1), .ref (a + 2), .null, .null]) :: (([] ++ [.inl (0, 12, .inl (fun _ => 0))]) ++ [.inl (0, 12, .inl (fun _ => 0))])) (k + 24)) Q
  refine zp_aload_n (x := a) rfl rfl ?_
  refine zp_bipush (v := (nI 40)) rfl (by decide +kernel) ?_
  refine zn_newi (m := (a + 3)) rfl (by decide) (by rw [ha]; rfl) ?_
  show zp_wp X y_Match_init 25 [.ref a] [.ref (a + 3), .ref a] (hl (P ++ .inr (3, [.ref (a + 1), .ref (a + 2), .null, .null]) :: ((([] ++ [.inl (0, 12, .inl (fun _ => 0))]) ++ [.inl (0, 12, .inl (fun _ => 0))]) ++ [.inl (0, 40, .inl (fun _ => 0))])) (k + 64)) Q
  refine zn_putF ha rfl rfl ?_
  show zp_wp X y_Match_init 28 [.ref a] [] (hl (P ++ .inr (3, [.ref (a + 1), .ref (a + 2), .ref (a + 3), .null]) :: ((([] ++ [.inl (0, 12, .inl (fun _ => 0))]) ++ [.inl (0, 12, .inl (fun _ => 0))]) ++ [.inl (0, 40, .inl (fun _ => 0))])) (k + 64)) Q
  refine zp_aload_n (x := a) rfl rfl ?_
  refine zp_bipush (v := (nI 40)) rfl (by decide +kernel) ?_
  refine zn_newi (m := (a + 4)) rfl (by decide) (by rw [ha]; rfl) ?_
  show zp_wp X y_Match_init 33 [.ref a] [.ref (a + 4), .ref a] (hl (P ++ .inr (3, [.ref (a + 1), .ref (a + 2), .ref (a + 3), .null]) :: (((([] ++ [.inl (0, 12, .inl (fun _ => 0))]) ++ [.inl (0, 12, .inl (fun _ => 0))]) ++ [.inl (0, 40, .inl (fun _ => 0))]) ++ [.inl (0, 40, .inl (fun _ => 0))])) (k + 104)) Q
  refine zn_putF ha rfl rfl ?_
  show zp_wp X y_Match_init 36 [.ref a] [] (hl (P ++ .inr (3, [.ref (a + 1), .ref (a + 2), .ref (a + 3), .ref (a + 4)]) :: (((([] ++ [.inl (0, 12, .inl (fun _ => 0))]) ++ [.inl (0, 12, .inl (fun _ => 0))]) ++ [.inl (0, 40, .inl (fun _ => 0))]) ++ [.inl (0, 40, .inl (fun _ => 0))])) (k + 104)) Q
  refine zp_vret rfl rfl ?_
  exact hq
def kcell (a : Nat) (f0 g0 f1 g1 f2 g2 : Nat → Int32) (r3 r4 : Nat → Option Nat) : List zm_E := .inr (2, [.ref (a + 1), .ref (a + 8), .ref (a + 15), .ref (a + 22), .ref (a + 23), .ref (a + 24), .ref (a + 56)]) :: ((((((([] ++ (pcell (a + 1) f0 g0)) ++ (pcell (a + 8) f1 g1)) ++ (pcell (a + 15) f2 g2)) ++ [.inr (0, [.int 0, .int 0, .int 0, .int 0, .int 0])]) ++ [.inr (0, [.int 0, .int 0, .int 0, .int 0, .int 0])]) ++ (lcell (a + 24) r3)) ++ (lcell (a + 56) r4))
theorem s_Comm_init {h : zm_H} (ha : P.length = a) (hh : h = hl (P ++ [.inr (2, [.null, .null, .null, .null, .null, .null, .null])]) k) (hq : ∀ f0 g0 : Nat → Int32, (∀ i, i < 12 → f0 i = -1) → (∀ i, i < 40 → g0 i = -1) → ∀ f1 g1 : Nat → Int32, (∀ i, i < 12 → f1 i = -1) → (∀ i, i < 40 → g1 i = -1) → ∀ f2 g2 : Nat → Int32, (∀ i, i < 12 → f2 i = -1) → (∀ i, i < 40 → g2 i = -1) → ∀ r3 : Nat → Option Nat, (∀ j, j < 30 → r3 j = some (a + 24 + 2 + j)) → ∀ r4 : Nat → Option Nat, (∀ j, j < 30 → r4 j = some (a + 56 + 2 + j)) → Q (.inl none) (hl (P ++ kcell a f0 g0 f1 g1 f2 g2 r3 r4) (k + 860))) : zp_wm X y_Comm_init [.ref a] h Q := by
  subst hh
  show zp_wp X y_Comm_init 0 [.ref a] [] (hl (P ++ .inr (2, [.null, .null, .null, .null, .null, .null, .null]) :: []) (k + 0)) Q
  refine zp_aload_n (x := a) rfl rfl ?_
  refine zp_objI rfl rfl ?_
  refine zp_aload_n (x := a) rfl rfl ?_
  refine zn_new (n := 6) (fs := [.null, .null, .null, .null, .null, .null]) (m := (a + 1)) rfl rfl rfl (by rw [ha]; rfl) ?_
  show zp_wp X y_Comm_init 8 [.ref a] [.ref (a + 1), .ref a] (hl (P ++ .inr (2, [.null, .null, .null, .null, .null, .null, .null]) :: ([] ++ [.inr (4, [.null, .null, .null, .null, .null, .null])])) (k + 6)) Q
  refine zp_dup_a rfl ?_
  refine zp_call rfl rfl (s_Prog_init (P := P ++ .inr (2, [.null, .null, .null, .null, .null, .null, .null]) :: []) (a := (a + 1)) (k := k + 6) (by rw [List.length_append, ha]; rfl) (by simp) (fun f0 g0 hf0 hg0 => ?_))
  rw [zn_app]
  show zp_wp X y_Comm_init 12 [.ref a] [.ref (a + 1), .ref a] (hl (P ++ .inr (2, [.null, .null, .null, .null, .null, .null, .null]) :: ([] ++ (pcell (a + 1) f0 g0))) (k + 162)) Q
  refine zn_putF ha rfl rfl ?_
  show zp_wp X y_Comm_init 15 [.ref a] [] (hl (P ++ .inr (2, [.ref (a + 1), .null, .null, .null, .null, .null, .null]) :: ([] ++ (pcell (a + 1) f0 g0))) (k + 162)) Q
  refine zp_aload_n (x := a) rfl rfl ?_
  refine zn_new (n := 6) (fs := [.null, .null, .null, .null, .null, .null]) (m := (a + 8)) rfl rfl rfl (by rw [ha]; rfl) ?_
  show zp_wp X y_Comm_init 19 [.ref a] [.ref (a + 8), .ref a] (hl (P ++ .inr (2, [.ref (a + 1), .null, .null, .null, .null, .null, .null]) :: (([] ++ (pcell (a + 1) f0 g0)) ++ [.inr (4, [.null, .null, .null, .null, .null, .null])])) (k + 168)) Q
  refine zp_dup_a rfl ?_
  refine zp_call rfl rfl (s_Prog_init (P := P ++ .inr (2, [.ref (a + 1), .null, .null, .null, .null, .null, .null]) :: ([] ++ (pcell (a + 1) f0 g0))) (a := (a + 8)) (k := k + 168) (by rw [List.length_append, ha]; rfl) (by simp) (fun f1 g1 hf1 hg1 => ?_))
  rw [zn_app]
  show zp_wp X y_Comm_init 23 [.ref a] [.ref (a + 8), .ref a] (hl (P ++ .inr (2, [.ref (a + 1), .null, .null, .null, .null, .null, .null]) :: (([] ++ (pcell (a + 1) f0 g0)) ++ (pcell (a + 8) f1 g1))) (k + 324)) Q
  refine zn_putF ha rfl rfl ?_
  show zp_wp X y_Comm_init 26 [.ref a] [] (hl (P ++ .inr (2, [.ref (a + 1), .ref (a + 8), .null, .null, .null, .null, .null]) :: (([] ++ (pcell (a + 1) f0 g0)) ++ (pcell (a + 8) f1 g1))) (k + 324)) Q
  refine zp_aload_n (x := a) rfl rfl ?_
  refine zn_new (n := 6) (fs := [.null, .null, .null, .null, .null, .null]) (m := (a + 15)) rfl rfl rfl (by rw [ha]; rfl) ?_
  show zp_wp X y_Comm_init 30 [.ref a] [.ref (a + 15), .ref a] (hl (P ++ .inr (2, [.ref (a + 1), .ref (a + 8), .null, .null, .null, .null, .null]) :: ((([] ++ (pcell (a + 1) f0 g0)) ++ (pcell (a + 8) f1 g1)) ++ [.inr (4, [.null, .null, .null, .null, .null, .null])])) (k + 330)) Q
  refine zp_dup_a rfl ?_
  refine zp_call rfl rfl (s_Prog_init (P := P ++ .inr (2, [.ref (a + 1), .ref (a + 8), .null, .null, .null, .null, .null]) :: (([] ++ (pcell (a + 1) f0 g0)) ++ (pcell (a + 8) f1 g1))) (a := (a + 15)) (k := k + 330) (by rw [List.length_append, ha]; rfl) (by simp) (fun f2 g2 hf2 hg2 => ?_))
  rw [zn_app]
  show zp_wp X y_Comm_init 34 [.ref a] [.ref (a + 15), .ref a] (hl (P ++ .inr (2, [.ref (a + 1), .ref (a + 8), .null, .null, .null, .null, .null]) :: ((([] ++ (pcell (a + 1) f0 g0)) ++ (pcell (a + 8) f1 g1)) ++ (pcell (a + 15) f2 g2))) (k + 486)) Q
  refine zn_putF ha rfl rfl ?_
  show zp_wp X y_Comm_init 37 [.ref a] [] (hl (P ++ .inr (2, [.ref (a + 1), .ref (a + 8), .ref (a + 15), .null, .null, .null, .null]) :: ((([] ++ (pcell (a + 1) f0 g0)) ++ (pcell (a + 8) f1 g1)) ++ (pcell (a + 15) f2 g2))) (k + 486)) Q
  refine zp_aload_n (x := a) rfl rfl ?_
  refine zn_new (n := 5) (fs := [.int 0, .int 0, .int 0, .int 0, .int 0]) (m := (a + 22)) rfl rfl rfl (by rw [ha]; rfl) ?_
  show zp_wp X y_Comm_init 41 [.ref a] [.ref (a + 22), .ref a] (hl (P ++ .inr (2, [.ref (a + 1), .ref (a + 8), .ref (a + 15), .null, .null, .null, .null]) :: (((([] ++ (pcell (a + 1) f0 g0)) ++ (pcell (a + 8) f1 g1)) ++ (pcell (a + 15) f2 g2)) ++ [.inr (0, [.int 0, .int 0, .int 0, .int 0, .int 0])])) (k + 491)) Q
  refine zp_dup_a rfl ?_
  refine zp_call rfl rfl (s_Change_init ?_)
  show zp_wp X y_Comm_init 45 [.ref a] [.ref (a + 22), .ref a] (hl (P ++ .inr (2, [.ref (a + 1), .ref (a + 8), .ref (a + 15), .null, .null, .null, .null]) :: (((([] ++ (pcell (a + 1) f0 g0)) ++ (pcell (a + 8) f1 g1)) ++ (pcell (a + 15) f2 g2)) ++ [.inr (0, [.int 0, .int 0, .int 0, .int 0, .int 0])])) (k + 491)) Q
  refine zn_putF ha rfl rfl ?_
  show zp_wp X y_Comm_init 48 [.ref a] [] (hl (P ++ .inr (2, [.ref (a + 1), .ref (a + 8), .ref (a + 15), .ref (a + 22), .null, .null, .null]) :: (((([] ++ (pcell (a + 1) f0 g0)) ++ (pcell (a + 8) f1 g1)) ++ (pcell (a + 15) f2 g2)) ++ [.inr (0, [.int 0, .int 0, .int 0, .int 0, .int 0])])) (k + 491)) Q
  refine zp_aload_n (x := a) rfl rfl ?_
  refine zn_new (n := 5) (fs := [.int 0, .int 0, .int 0, .int 0, .int 0]) (m := (a + 23)) rfl rfl rfl (by rw [ha]; rfl) ?_
  show zp_wp X y_Comm_init 52 [.ref a] [.ref (a + 23), .ref a] (hl (P ++ .inr (2, [.ref (a + 1), .ref (a + 8), .ref (a + 15), .ref (a + 22), .null, .null, .null]) :: ((((([] ++ (pcell (a + 1) f0 g0)) ++ (pcell (a + 8) f1 g1)) ++ (pcell (a + 15) f2 g2)) ++ [.inr (0, [.int 0, .int 0, .int 0, .int 0, .int 0])]) ++ [.inr (0, [.int 0, .int 0, .int 0, .int 0, .int 0])])) (k + 496)) Q
  refine zp_dup_a rfl ?_
  refine zp_call rfl rfl (s_Change_init ?_)
  show zp_wp X y_Comm_init 56 [.ref a] [.ref (a + 23), .ref a] (hl (P ++ .inr (2, [.ref (a + 1), .ref (a + 8), .ref (a + 15), .ref (a + 22), .null, .null, .null]) :: ((((([] ++ (pcell (a + 1) f0 g0)) ++ (pcell (a + 8) f1 g1)) ++ (pcell (a + 15) f2 g2)) ++ [.inr (0, [.int 0, .int 0, .int 0, .int 0, .int 0])]) ++ [.inr (0, [.int 0, .int 0, .int 0, .int 0, .int 0])])) (k + 496)) Q
  refine zn_putF ha rfl rfl ?_
  show zp_wp X y_Comm_init 59 [.ref a] [] (hl (P ++ .inr (2, [.ref (a + 1), .ref (a + 8), .ref (a + 15), .ref (a + 22), .ref (a + 23), .null, .null]) :: ((((([] ++ (pcell (a + 1) f0 g0)) ++ (pcell (a + 8) f1 g1)) ++ (pcell (a + 15) f2 g2)) ++ [.inr (0, [.int 0, .int 0, .int 0, .int 0, .int 0])]) ++ [.inr (0, [.int 0, .int 0, .int 0, .int 0, .int 0])])) (k + 496)) Q
  refine zp_aload_n (x := a) rfl rfl ?_
  refine zn_new (n := 2) (fs := [.null, .int 0]) (m := (a + 24)) rfl rfl rfl (by rw [ha]; rfl) ?_
  show zp_wp X y_Comm_init 63 [.ref a] [.ref (a + 24), .ref a] (hl (P ++ .inr (2, [.ref (a + 1), .ref (a + 8), .ref (a + 15), .ref (a + 22), .ref (a + 23), .null, .null]) :: (((((([] ++ (pcell (a + 1) f0 g0)) ++ (pcell (a + 8) f1 g1)) ++ (pcell (a + 15) f2 g2)) ++ [.inr (0, [.int 0, .int 0, .int 0, .int 0, .int 0])]) ++ [.inr (0, [.int 0, .int 0, .int 0, .int 0, .int 0])]) ++ [.inr (1, [.null, .int 0])])) (k + 498)) Q
  refine zp_dup_a rfl ?_
  refine zp_call rfl rfl (s_List_init (P := P ++ .inr (2, [.ref (a + 1), .ref (a + 8), .ref (a + 15), .ref (a + 22), .ref (a + 23), .null, .null]) :: ((((([] ++ (pcell (a + 1) f0 g0)) ++ (pcell (a + 8) f1 g1)) ++ (pcell (a + 15) f2 g2)) ++ [.inr (0, [.int 0, .int 0, .int 0, .int 0, .int 0])]) ++ [.inr (0, [.int 0, .int 0, .int 0, .int 0, .int 0])])) (a := (a + 24)) (k := k + 498) (by rw [List.length_append, ha]; rfl) (by simp) (fun r3 hr3 => ?_))
  rw [zn_app]
  show zp_wp X y_Comm_init 67 [.ref a] [.ref (a + 24), .ref a] (hl (P ++ .inr (2, [.ref (a + 1), .ref (a + 8), .ref (a + 15), .ref (a + 22), .ref (a + 23), .null, .null]) :: (((((([] ++ (pcell (a + 1) f0 g0)) ++ (pcell (a + 8) f1 g1)) ++ (pcell (a + 15) f2 g2)) ++ [.inr (0, [.int 0, .int 0, .int 0, .int 0, .int 0])]) ++ [.inr (0, [.int 0, .int 0, .int 0, .int 0, .int 0])]) ++ (lcell (a + 24) r3))) (k + 678)) Q
  refine zn_putF ha rfl rfl ?_
  show zp_wp X y_Comm_init 70 [.ref a] [] (hl (P ++ .inr (2, [.ref (a + 1), .ref (a + 8), .ref (a + 15), .ref (a + 22), .ref (a + 23), .ref (a + 24), .null]) :: (((((([] ++ (pcell (a + 1) f0 g0)) ++ (pcell (a + 8) f1 g1)) ++ (pcell (a + 15) f2 g2)) ++ [.inr (0, [.int 0, .int 0, .int 0, .int 0, .int 0])]) ++ [.inr (0, [.int 0, .int 0, .int 0, .int 0, .int 0])]) ++ (lcell (a + 24) r3))) (k + 678)) Q
  refine zp_aload_n (x := a) rfl rfl ?_
  refine zn_new (n := 2) (fs := [.null, .int 0]) (m := (a + 56)) rfl rfl rfl (by rw [ha]; rfl) ?_
  show zp_wp X y_Comm_init 74 [.ref a] [.ref (a + 56), .ref a] (hl (P ++ .inr (2, [.ref (a + 1), .ref (a + 8), .ref (a + 15), .ref (a + 22), .ref (a + 23), .ref (a + 24), .null]) :: ((((((([] ++ (pcell (a + 1) f0 g0)) ++ (pcell (a + 8) f1 g1)) ++ (pcell (a + 15) f2 g2)) ++ [.inr (0, [.int 0, .int 0, .int 0, .int 0, .int 0])]) ++ [.inr (0, [.int 0, .int 0, .int 0, .int 0, .int 0])]) ++ (lcell (a + 24) r3)) ++ [.inr (1, [.null, .int 0])])) (k + 680)) Q
  refine zp_dup_a rfl ?_
  refine zp_call rfl rfl (s_List_init (P := P ++ .inr (2, [.ref (a + 1), .ref (a + 8), .ref (a + 15), .ref (a + 22), .ref (a + 23), .ref (a + 24), .null]) :: (((((([] ++ (pcell (a + 1) f0 g0)) ++ (pcell (a + 8) f1 g1)) ++ (pcell (a + 15) f2 g2)) ++ [.inr (0, [.int 0, .int 0, .int 0, .int 0, .int 0])]) ++ [.inr (0, [.int 0, .int 0, .int 0, .int 0, .int 0])]) ++ (lcell (a + 24) r3))) (a := (a + 56)) (k := k + 680) (by rw [List.length_append, ha]; rfl) (by simp) (fun r4 hr4 => ?_))
  rw [zn_app]
  show zp_wp X y_Comm_init 78 [.ref a] [.ref (a + 56), .ref a] (hl (P ++ .inr (2, [.ref (a + 1), .ref (a + 8), .ref (a + 15), .ref (a + 22), .ref (a + 23), .ref (a + 24), .null]) :: ((((((([] ++ (pcell (a + 1) f0 g0)) ++ (pcell (a + 8) f1 g1)) ++ (pcell (a + 15) f2 g2)) ++ [.inr (0, [.int 0, .int 0, .int 0, .int 0, .int 0])]) ++ [.inr (0, [.int 0, .int 0, .int 0, .int 0, .int 0])]) ++ (lcell (a + 24) r3)) ++ (lcell (a + 56) r4))) (k + 860)) Q
  refine zn_putF ha rfl rfl ?_
  show zp_wp X y_Comm_init 81 [.ref a] [] (hl (P ++ .inr (2, [.ref (a + 1), .ref (a + 8), .ref (a + 15), .ref (a + 22), .ref (a + 23), .ref (a + 24), .ref (a + 56)]) :: ((((((([] ++ (pcell (a + 1) f0 g0)) ++ (pcell (a + 8) f1 g1)) ++ (pcell (a + 15) f2 g2)) ++ [.inr (0, [.int 0, .int 0, .int 0, .int 0, .int 0])]) ++ [.inr (0, [.int 0, .int 0, .int 0, .int 0, .int 0])]) ++ (lcell (a + 24) r3)) ++ (lcell (a + 56) r4))) (k + 860)) Q
  refine zp_vret rfl rfl ?_
  exact hq f0 g0 hf0 hg0 f1 g1 hf1 hg1 f2 g2 hf2 hg2 r3 hr3 r4 hr4
def ecell (a : Nat) (f0 g0 : Nat → Int32) : List zm_E := .inr (5, [.ref (a + 1), .ref (a + 8), .ref (a + 13), .ref (a + 14)]) :: (((([] ++ (pcell (a + 1) f0 g0)) ++ (mcell (a + 8))) ++ [.inr (0, [.int 0, .int 0, .int 0, .int 0, .int 0])]) ++ [.inl (0, 30, .inl (fun _ => 0))])
theorem s_Repl_init {h : zm_H} (ha : P.length = a) (hh : h = hl (P ++ [.inr (5, [.null, .null, .null, .null])]) k) (hq : ∀ f0 g0 : Nat → Int32, (∀ i, i < 12 → f0 i = -1) → (∀ i, i < 40 → g0 i = -1) → Q (.inl none) (hl (P ++ ecell a f0 g0) (k + 305))) : zp_wm X y_Repl_init [.ref a] h Q := by
  subst hh
  show zp_wp X y_Repl_init 0 [.ref a] [] (hl (P ++ .inr (5, [.null, .null, .null, .null]) :: []) (k + 0)) Q
  refine zp_aload_n (x := a) rfl rfl ?_
  refine zp_objI rfl rfl ?_
  refine zp_aload_n (x := a) rfl rfl ?_
  refine zn_new (n := 6) (fs := [.null, .null, .null, .null, .null, .null]) (m := (a + 1)) rfl rfl rfl (by rw [ha]; rfl) ?_
  show zp_wp X y_Repl_init 8 [.ref a] [.ref (a + 1), .ref a] (hl (P ++ .inr (5, [.null, .null, .null, .null]) :: ([] ++ [.inr (4, [.null, .null, .null, .null, .null, .null])])) (k + 6)) Q
  refine zp_dup_a rfl ?_
  refine zp_call rfl rfl (s_Prog_init (P := P ++ .inr (5, [.null, .null, .null, .null]) :: []) (a := (a + 1)) (k := k + 6) (by rw [List.length_append, ha]; rfl) (by simp) (fun f0 g0 hf0 hg0 => ?_))
  rw [zn_app]
  show zp_wp X y_Repl_init 12 [.ref a] [.ref (a + 1), .ref a] (hl (P ++ .inr (5, [.null, .null, .null, .null]) :: ([] ++ (pcell (a + 1) f0 g0))) (k + 162)) Q
  refine zn_putF ha rfl rfl ?_
  show zp_wp X y_Repl_init 15 [.ref a] [] (hl (P ++ .inr (5, [.ref (a + 1), .null, .null, .null]) :: ([] ++ (pcell (a + 1) f0 g0))) (k + 162)) Q
  refine zp_aload_n (x := a) rfl rfl ?_
  refine zn_new (n := 4) (fs := [.null, .null, .null, .null]) (m := (a + 8)) rfl rfl rfl (by rw [ha]; rfl) ?_
  show zp_wp X y_Repl_init 19 [.ref a] [.ref (a + 8), .ref a] (hl (P ++ .inr (5, [.ref (a + 1), .null, .null, .null]) :: (([] ++ (pcell (a + 1) f0 g0)) ++ [.inr (3, [.null, .null, .null, .null])])) (k + 166)) Q
  refine zp_dup_a rfl ?_
  refine zp_call rfl rfl (s_Match_init (P := P ++ .inr (5, [.ref (a + 1), .null, .null, .null]) :: ([] ++ (pcell (a + 1) f0 g0))) (a := (a + 8)) (k := k + 166) (by rw [List.length_append, ha]; rfl) (by simp) ?_)
  rw [zn_app]
  show zp_wp X y_Repl_init 23 [.ref a] [.ref (a + 8), .ref a] (hl (P ++ .inr (5, [.ref (a + 1), .null, .null, .null]) :: (([] ++ (pcell (a + 1) f0 g0)) ++ (mcell (a + 8)))) (k + 270)) Q
  refine zn_putF ha rfl rfl ?_
  show zp_wp X y_Repl_init 26 [.ref a] [] (hl (P ++ .inr (5, [.ref (a + 1), .ref (a + 8), .null, .null]) :: (([] ++ (pcell (a + 1) f0 g0)) ++ (mcell (a + 8)))) (k + 270)) Q
  refine zp_aload_n (x := a) rfl rfl ?_
  refine zn_new (n := 5) (fs := [.int 0, .int 0, .int 0, .int 0, .int 0]) (m := (a + 13)) rfl rfl rfl (by rw [ha]; rfl) ?_
  show zp_wp X y_Repl_init 30 [.ref a] [.ref (a + 13), .ref a] (hl (P ++ .inr (5, [.ref (a + 1), .ref (a + 8), .null, .null]) :: ((([] ++ (pcell (a + 1) f0 g0)) ++ (mcell (a + 8))) ++ [.inr (0, [.int 0, .int 0, .int 0, .int 0, .int 0])])) (k + 275)) Q
  refine zp_dup_a rfl ?_
  refine zp_call rfl rfl (s_Change_init ?_)
  show zp_wp X y_Repl_init 34 [.ref a] [.ref (a + 13), .ref a] (hl (P ++ .inr (5, [.ref (a + 1), .ref (a + 8), .null, .null]) :: ((([] ++ (pcell (a + 1) f0 g0)) ++ (mcell (a + 8))) ++ [.inr (0, [.int 0, .int 0, .int 0, .int 0, .int 0])])) (k + 275)) Q
  refine zn_putF ha rfl rfl ?_
  show zp_wp X y_Repl_init 37 [.ref a] [] (hl (P ++ .inr (5, [.ref (a + 1), .ref (a + 8), .ref (a + 13), .null]) :: ((([] ++ (pcell (a + 1) f0 g0)) ++ (mcell (a + 8))) ++ [.inr (0, [.int 0, .int 0, .int 0, .int 0, .int 0])])) (k + 275)) Q
  refine zp_aload_n (x := a) rfl rfl ?_
  refine zp_bipush (v := (nI 30)) rfl (by decide +kernel) ?_
  refine zn_newi (m := (a + 14)) rfl (by decide) (by rw [ha]; rfl) ?_
  show zp_wp X y_Repl_init 42 [.ref a] [.ref (a + 14), .ref a] (hl (P ++ .inr (5, [.ref (a + 1), .ref (a + 8), .ref (a + 13), .null]) :: (((([] ++ (pcell (a + 1) f0 g0)) ++ (mcell (a + 8))) ++ [.inr (0, [.int 0, .int 0, .int 0, .int 0, .int 0])]) ++ [.inl (0, 30, .inl (fun _ => 0))])) (k + 305)) Q
  refine zn_putF ha rfl rfl ?_
  show zp_wp X y_Repl_init 45 [.ref a] [] (hl (P ++ .inr (5, [.ref (a + 1), .ref (a + 8), .ref (a + 13), .ref (a + 14)]) :: (((([] ++ (pcell (a + 1) f0 g0)) ++ (mcell (a + 8))) ++ [.inr (0, [.int 0, .int 0, .int 0, .int 0, .int 0])]) ++ [.inl (0, 30, .inl (fun _ => 0))])) (k + 305)) Q
  refine zp_vret rfl rfl ?_
  exact hq f0 g0 hf0 hg0
end ZK
