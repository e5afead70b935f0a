/-! the heap behind the constructors: what each cell is, for ever (190 cells) -/
def zs_n : Nat := 190
def zs_tab (a : Nat) : Nat × Nat × List (Option Nat) := cond (Nat.blt a 95) (cond (Nat.blt a 47) (cond (Nat.blt a 23) (cond (Nat.blt a 11) (cond (Nat.blt a 5) (cond (Nat.blt a 2) (cond (Nat.blt a 1) ((3, 6, [some 1, some 8, some 15, some 22, some 29, some 61, some 62, some 150, some 155, some 170, none])) ((3, 4, [some 2, some 3, some 4, some 5, some 6, some 7]))) (cond (Nat.blt a 3) ((0, 12, [])) (cond (Nat.blt a 4) ((0, 12, [])) ((0, 12, []))))) (cond (Nat.blt a 8) (cond (Nat.blt a 6) ((0, 40, [])) (cond (Nat.blt a 7) ((0, 40, [])) ((1, 40, [])))) (cond (Nat.blt a 9) ((3, 4, [some 9, some 10, some 11, some 12, some 13, some 14])) (cond (Nat.blt a 10) ((0, 12, [])) ((0, 12, [])))))) (cond (Nat.blt a 17) (cond (Nat.blt a 14) (cond (Nat.blt a 12) ((0, 12, [])) (cond (Nat.blt a 13) ((0, 40, [])) ((0, 40, [])))) (cond (Nat.blt a 15) ((1, 40, [])) (cond (Nat.blt a 16) ((3, 4, [some 16, some 17, some 18, some 19, some 20, some 21])) ((0, 12, []))))) (cond (Nat.blt a 20) (cond (Nat.blt a 18) ((0, 12, [])) (cond (Nat.blt a 19) ((0, 12, [])) ((0, 40, [])))) (cond (Nat.blt a 21) ((0, 40, [])) (cond (Nat.blt a 22) ((1, 40, [])) ((3, 4, [some 23, some 24, some 25, some 26, some 27, some 28]))))))) (cond (Nat.blt a 35) (cond (Nat.blt a 29) (cond (Nat.blt a 26) (cond (Nat.blt a 24) ((0, 12, [])) (cond (Nat.blt a 25) ((0, 12, [])) ((0, 12, [])))) (cond (Nat.blt a 27) ((0, 40, [])) (cond (Nat.blt a 28) ((0, 40, [])) ((1, 40, []))))) (cond (Nat.blt a 32) (cond (Nat.blt a 30) ((3, 1, [some 30, none])) (cond (Nat.blt a 31) ((2, 30, [some 31, some 32, some 33, some 34, some 35, some 36, some 37, some 38, some 39, some 40, some 41, some 42, some 43, some 44, some 45, some 46, some 47, some 48, some 49, some 50, some 51, some 52, some 53, some 54, some 55, some 56, some 57, some 58, some 59, some 60])) ((3, 0, [none, none, none, none, none])))) (cond (Nat.blt a 33) ((3, 0, [none, none, none, none, none])) (cond (Nat.blt a 34) ((3, 0, [none, none, none, none, none])) ((3, 0, [none, none, none, none, none])))))) (cond (Nat.blt a 41) (cond (Nat.blt a 38) (cond (Nat.blt a 36) ((3, 0, [none, none, none, none, none])) (cond (Nat.blt a 37) ((3, 0, [none, none, none, none, none])) ((3, 0, [none, none, none, none, none])))) (cond (Nat.blt a 39) ((3, 0, [none, none, none, none, none])) (cond (Nat.blt a 40) ((3, 0, [none, none, none, none, none])) ((3, 0, [none, none, none, none, none]))))) (cond (Nat.blt a 44) (cond (Nat.blt a 42) ((3, 0, [none, none, none, none, none])) (cond (Nat.blt a 43) ((3, 0, [none, none, none, none, none])) ((3, 0, [none, none, none, none, none])))) (cond (Nat.blt a 45) ((3, 0, [none, none, none, none, none])) (cond (Nat.blt a 46) ((3, 0, [none, none, none, none, none])) ((3, 0, [none, none, none, none, none])))))))) (cond (Nat.blt a 71) (cond (Nat.blt a 59) (cond (Nat.blt a 53) (cond (Nat.blt a 50) (cond (Nat.blt a 48) ((3, 0, [none, none, none, none, none])) (cond (Nat.blt a 49) ((3, 0, [none, none, none, none, none])) ((3, 0, [none, none, none, none, none])))) (cond (Nat.blt a 51) ((3, 0, [none, none, none, none, none])) (cond (Nat.blt a 52) ((3, 0, [none, none, none, none, none])) ((3, 0, [none, none, none, none, none]))))) (cond (Nat.blt a 56) (cond (Nat.blt a 54) ((3, 0, [none, none, none, none, none])) (cond (Nat.blt a 55) ((3, 0, [none, none, none, none, none])) ((3, 0, [none, none, none, none, none])))) (cond (Nat.blt a 57) ((3, 0, [none, none, none, none, none])) (cond (Nat.blt a 58) ((3, 0, [none, none, none, none, none])) ((3, 0, [none, none, none, none, none])))))) (cond (Nat.blt a 65) (cond (Nat.blt a 62) (cond (Nat.blt a 60) ((3, 0, [none, none, none, none, none])) (cond (Nat.blt a 61) ((3, 0, [none, none, none, none, none])) ((3, 0, [none, none, none, none, none])))) (cond (Nat.blt a 63) ((3, 2, [some 63, some 70, some 77, some 84, some 85, some 86, some 118])) (cond (Nat.blt a 64) ((3, 4, [some 64, some 65, some 66, some 67, some 68, some 69])) ((0, 12, []))))) (cond (Nat.blt a 68) (cond (Nat.blt a 66) ((0, 12, [])) (cond (Nat.blt a 67) ((0, 12, [])) ((0, 40, [])))) (cond (Nat.blt a 69) ((0, 40, [])) (cond (Nat.blt a 70) ((1, 40, [])) ((3, 4, [some 71, some 72, some 73, some 74, some 75, some 76]))))))) (cond (Nat.blt a 83) (cond (Nat.blt a 77) (cond (Nat.blt a 74) (cond (Nat.blt a 72) ((0, 12, [])) (cond (Nat.blt a 73) ((0, 12, [])) ((0, 12, [])))) (cond (Nat.blt a 75) ((0, 40, [])) (cond (Nat.blt a 76) ((0, 40, [])) ((1, 40, []))))) (cond (Nat.blt a 80) (cond (Nat.blt a 78) ((3, 4, [some 78, some 79, some 80, some 81, some 82, some 83])) (cond (Nat.blt a 79) ((0, 12, [])) ((0, 12, [])))) (cond (Nat.blt a 81) ((0, 12, [])) (cond (Nat.blt a 82) ((0, 40, [])) ((0, 40, [])))))) (cond (Nat.blt a 89) (cond (Nat.blt a 86) (cond (Nat.blt a 84) ((1, 40, [])) (cond (Nat.blt a 85) ((3, 0, [none, none, none, none, none])) ((3, 0, [none, none, none, none, none])))) (cond (Nat.blt a 87) ((3, 1, [some 87, none])) (cond (Nat.blt a 88) ((2, 30, [some 88, some 89, some 90, some 91, some 92, some 93, some 94, some 95, some 96, some 97, some 98, some 99, some 100, some 101, some 102, some 103, some 104, some 105, some 106, some 107, some 108, some 109, some 110, some 111, some 112, some 113, some 114, some 115, some 116, some 117])) ((3, 0, [none, none, none, none, none]))))) (cond (Nat.blt a 92) (cond (Nat.blt a 90) ((3, 0, [none, none, none, none, none])) (cond (Nat.blt a 91) ((3, 0, [none, none, none, none, none])) ((3, 0, [none, none, none, none, none])))) (cond (Nat.blt a 93) ((3, 0, [none, none, none, none, none])) (cond (Nat.blt a 94) ((3, 0, [none, none, none, none, none])) ((3, 0, [none, none, none, none, none]))))))))) (cond (Nat.blt a 142) (cond (Nat.blt a 118) (cond (Nat.blt a 106) (cond (Nat.blt a 100) (cond (Nat.blt a 97) (cond (Nat.blt a 96) ((3, 0, [none, none, none, none, none])) ((3, 0, [none, none, none, none, none]))) (cond (Nat.blt a 98) ((3, 0, [none, none, none, none, none])) (cond (Nat.blt a 99) ((3, 0, [none, none, none, none, none])) ((3, 0, [none, none, none, none, none]))))) (cond (Nat.blt a 103) (cond (Nat.blt a 101) ((3, 0, [none, none, none, none, none])) (cond (Nat.blt a 102) ((3, 0, [none, none, none, none, none])) ((3, 0, [none, none, none, none, none])))) (cond (Nat.blt a 104) ((3, 0, [none, none, none, none, none])) (cond (Nat.blt a 105) ((3, 0, [none, none, none, none, none])) ((3, 0, [none, none, none, none, none])))))) (cond (Nat.blt a 112) (cond (Nat.blt a 109) (cond (Nat.blt a 107) ((3, 0, [none, none, none, none, none])) (cond (Nat.blt a 108) ((3, 0, [none, none, none, none, none])) ((3, 0, [none, none, none, none, none])))) (cond (Nat.blt a 110) ((3, 0, [none, none, none, none, none])) (cond (Nat.blt a 111) ((3, 0, [none, none, none, none, none])) ((3, 0, [none, none, none, none, none]))))) (cond (Nat.blt a 115) (cond (Nat.blt a 113) ((3, 0, [none, none, none, none, none])) (cond (Nat.blt a 114) ((3, 0, [none, none, none, none, none])) ((3, 0, [none, none, none, none, none])))) (cond (Nat.blt a 116) ((3, 0, [none, none, none, none, none])) (cond (Nat.blt a 117) ((3, 0, [none, none, none, none, none])) ((3, 0, [none, none, none, none, none]))))))) (cond (Nat.blt a 130) (cond (Nat.blt a 124) (cond (Nat.blt a 121) (cond (Nat.blt a 119) ((3, 1, [some 119, none])) (cond (Nat.blt a 120) ((2, 30, [some 120, some 121, some 122, some 123, some 124, some 125, some 126, some 127, some 128, some 129, some 130, some 131, some 132, some 133, some 134, some 135, some 136, some 137, some 138, some 139, some 140, some 141, some 142, some 143, some 144, some 145, some 146, some 147, some 148, some 149])) ((3, 0, [none, none, none, none, none])))) (cond (Nat.blt a 122) ((3, 0, [none, none, none, none, none])) (cond (Nat.blt a 123) ((3, 0, [none, none, none, none, none])) ((3, 0, [none, none, none, none, none]))))) (cond (Nat.blt a 127) (cond (Nat.blt a 125) ((3, 0, [none, none, none, none, none])) (cond (Nat.blt a 126) ((3, 0, [none, none, none, none, none])) ((3, 0, [none, none, none, none, none])))) (cond (Nat.blt a 128) ((3, 0, [none, none, none, none, none])) (cond (Nat.blt a 129) ((3, 0, [none, none, none, none, none])) ((3, 0, [none, none, none, none, none])))))) (cond (Nat.blt a 136) (cond (Nat.blt a 133) (cond (Nat.blt a 131) ((3, 0, [none, none, none, none, none])) (cond (Nat.blt a 132) ((3, 0, [none, none, none, none, none])) ((3, 0, [none, none, none, none, none])))) (cond (Nat.blt a 134) ((3, 0, [none, none, none, none, none])) (cond (Nat.blt a 135) ((3, 0, [none, none, none, none, none])) ((3, 0, [none, none, none, none, none]))))) (cond (Nat.blt a 139) (cond (Nat.blt a 137) ((3, 0, [none, none, none, none, none])) (cond (Nat.blt a 138) ((3, 0, [none, none, none, none, none])) ((3, 0, [none, none, none, none, none])))) (cond (Nat.blt a 140) ((3, 0, [none, none, none, none, none])) (cond (Nat.blt a 141) ((3, 0, [none, none, none, none, none])) ((3, 0, [none, none, none, none, none])))))))) (cond (Nat.blt a 166) (cond (Nat.blt a 154) (cond (Nat.blt a 148) (cond (Nat.blt a 145) (cond (Nat.blt a 143) ((3, 0, [none, none, none, none, none])) (cond (Nat.blt a 144) ((3, 0, [none, none, none, none, none])) ((3, 0, [none, none, none, none, none])))) (cond (Nat.blt a 146) ((3, 0, [none, none, none, none, none])) (cond (Nat.blt a 147) ((3, 0, [none, none, none, none, none])) ((3, 0, [none, none, none, none, none]))))) (cond (Nat.blt a 151) (cond (Nat.blt a 149) ((3, 0, [none, none, none, none, none])) (cond (Nat.blt a 150) ((3, 0, [none, none, none, none, none])) ((3, 3, [some 151, some 152, some 153, some 154])))) (cond (Nat.blt a 152) ((0, 12, [])) (cond (Nat.blt a 153) ((0, 12, [])) ((0, 40, [])))))) (cond (Nat.blt a 160) (cond (Nat.blt a 157) (cond (Nat.blt a 155) ((0, 40, [])) (cond (Nat.blt a 156) ((3, 5, [some 156, some 163, some 168, some 169])) ((3, 4, [some 157, some 158, some 159, some 160, some 161, some 162])))) (cond (Nat.blt a 158) ((0, 12, [])) (cond (Nat.blt a 159) ((0, 12, [])) ((0, 12, []))))) (cond (Nat.blt a 163) (cond (Nat.blt a 161) ((0, 40, [])) (cond (Nat.blt a 162) ((0, 40, [])) ((1, 40, [])))) (cond (Nat.blt a 164) ((3, 3, [some 164, some 165, some 166, some 167])) (cond (Nat.blt a 165) ((0, 12, [])) ((0, 12, []))))))) (cond (Nat.blt a 178) (cond (Nat.blt a 172) (cond (Nat.blt a 169) (cond (Nat.blt a 167) ((0, 40, [])) (cond (Nat.blt a 168) ((0, 40, [])) ((3, 0, [none, none, none, none, none])))) (cond (Nat.blt a 170) ((0, 30, [])) (cond (Nat.blt a 171) ((0, 30, [])) ((3, 7, [some 172, some 173, some 174, some 175, some 176, some 177, some 178, some 179, none, none, none, some 180, some 181, some 182, some 183, some 184, some 185, some 186, some 187, some 188, none, none, none, none, none]))))) (cond (Nat.blt a 175) (cond (Nat.blt a 173) ((0, 1704, [])) (cond (Nat.blt a 174) ((0, 1704, [])) ((0, 1704, [])))) (cond (Nat.blt a 176) ((0, 1704, [])) (cond (Nat.blt a 177) ((0, 1704, [])) ((0, 1704, [])))))) (cond (Nat.blt a 184) (cond (Nat.blt a 181) (cond (Nat.blt a 179) ((0, 150, [])) (cond (Nat.blt a 180) ((0, 150, [])) ((0, 5, [])))) (cond (Nat.blt a 182) ((0, 5, [])) (cond (Nat.blt a 183) ((0, 150, [])) ((0, 12, []))))) (cond (Nat.blt a 187) (cond (Nat.blt a 185) ((0, 40, [])) (cond (Nat.blt a 186) ((0, 1704, [])) ((0, 1704, [])))) (cond (Nat.blt a 188) ((0, 30, [])) (cond (Nat.blt a 189) ((0, 30, [])) ((1, 1, [])))))))))
abbrev a_base : Nat := 1
abbrev a_zero : Nat := 8
abbrev a_one : Nat := 15
abbrev a_trial : Nat := 22
abbrev a_changes : Nat := 29
abbrev a_wanted : Nat := 61
abbrev a_comm : Nat := 62
abbrev a_match : Nat := 150
abbrev a_repl : Nat := 155
abbrev a_outs : Nat := 170
abbrev a_M : Nat := 171
abbrev a_m_first : Nat := 172
abbrev a_m_second : Nat := 173
abbrev a_m_base : Nat := 174
abbrev a_m_at : Nat := 175
abbrev a_m_here : Nat := 176
abbrev a_m_there : Nat := 177
abbrev a_m_log : Nat := 178
abbrev a_m_taken : Nat := 179
abbrev a_m_back : Nat := 180
abbrev a_m_forth : Nat := 181
abbrev a_m_tried : Nat := 182
abbrev a_m_classMatch : Nat := 183
abbrev a_m_memberMatch : Nat := 184
abbrev a_m_moving : Nat := 185
abbrev a_m_target : Nat := 186
abbrev a_m_outcomes : Nat := 187
abbrev a_m_latest : Nat := 188
abbrev a_out : Nat := 189
def zs_ok (e : zm_E) (k : Nat × Nat × List (Option Nat)) : Prop := match k with
  | (0, n, _) => ∃ f, e = .inl (0, n, .inl f)
  | (1, n, _) => ∃ f, e = .inl (1, n, .inr (.inl f))
  | (2, n, rs) => ∃ f, e = .inl (2, n, .inr (.inr (.inr (.inr f)))) ∧ ∀ j q : Nat, rs[j]? = some (some q) → f j = some q
  | (_, c, rs) => ∃ fs : List Value, e = .inr (c, fs) ∧ fs.length = rs.length ∧ (∀ j q : Nat, rs[j]? = some (some q) → fs[j]? = some (Value.ref q)) ∧ (∀ j : Nat, rs[j]? = some none → ∃ x, fs[j]? = some (Value.int x))
def zs_H (h : zm_H) : Prop := h.2.1 = zs_n ∧ ∀ a, a < zs_n → zs_ok (h.1 a) (zs_tab a)
/-- an int array of n places, a long one, an array of references, an object -/
def zs_I (a n : Nat) : Prop := a < zs_n ∧ zs_tab a = (0, n, [])
def zs_J (a n : Nat) : Prop := a < zs_n ∧ zs_tab a = (1, n, [])
def zs_Q (a n : Nat) (rs : List (Option Nat)) : Prop := a < zs_n ∧ zs_tab a = (2, n, rs)
def zs_O (a c : Nat) (rs : List (Option Nat)) : Prop := a < zs_n ∧ zs_tab a = (3, c, rs)
def ci (h : zm_H) (a : Nat) : Nat → Int32 := match h.1 a with
  | .inl (_, _, .inl f) => f
  | _ => fun _ => 0
def cj (h : zm_H) (a : Nat) : Nat → Int64 := match h.1 a with
  | .inl (_, _, .inr (.inl f)) => f
  | _ => fun _ => 0
def cs (h : zm_H) (a : Nat) : List Value := match h.1 a with
  | .inr (_, fs) => fs
  | _ => []
def cf (h : zm_H) (a j : Nat) : Int32 := match (cs h a)[j]? with
  | some (.int x) => x
  | _ => 0
def zi_put (h : zm_H) (a : Nat) (f : Nat → Int32) : zm_H := zm_put h a (.inl (0, (zs_tab a).2.1, .inl f))
def zj_put (h : zm_H) (a : Nat) (f : Nat → Int64) : zm_H := zm_put h a (.inl (1, (zs_tab a).2.1, .inr (.inl f)))
def zf_put (h : zm_H) (a j : Nat) (x : Int32) : zm_H := zm_put h a (.inr ((zs_tab a).2.1, (cs h a).set j (.int x)))
theorem zs_iarr {h : zm_H} {a n : Nat} (hS : zs_H h) (ha : zs_I a n) : zm_iarr h a = some (n, ci h a) := by
  obtain ⟨h1, h2⟩ := ha
  have h3 := hS.2 a h1
  rw [h2] at h3
  obtain ⟨f, h4⟩ := h3
  unfold zm_iarr ci
  rw [h4, hS.1, Nat.blt_eq.mpr h1]
  rfl
theorem zs_larr {h : zm_H} {a n : Nat} (hS : zs_H h) (ha : zs_J a n) : zm_larr h a = some (n, cj h a) := by
  obtain ⟨h1, h2⟩ := ha
  have h3 := hS.2 a h1
  rw [h2] at h3
  obtain ⟨f, h4⟩ := h3
  unfold zm_larr cj
  rw [h4, hS.1, Nat.blt_eq.mpr h1]
  rfl
theorem zs_inone {h : zm_H} {a n : Nat} (hS : zs_H h) (ha : zs_J a n) : zm_iarr h a = none := by
  obtain ⟨h1, h2⟩ := ha
  have h3 := hS.2 a h1
  rw [h2] at h3
  obtain ⟨f, h4⟩ := h3
  unfold zm_iarr
  rw [h4]
  rfl
theorem zs_qarr {h : zm_H} {a n : Nat} {rs : List (Option Nat)} (hS : zs_H h) (ha : zs_Q a n rs) : ∃ f, zm_qarr h a = some (n, f) ∧ ∀ j q : Nat, rs[j]? = some (some q) → f j = some q := by
  obtain ⟨h1, h2⟩ := ha
  have h3 := hS.2 a h1
  rw [h2] at h3
  obtain ⟨f, h4, h5⟩ := h3
  refine ⟨f, ?_, h5⟩
  unfold zm_qarr
  rw [h4, hS.1, Nat.blt_eq.mpr h1]
  rfl
theorem zs_obj {h : zm_H} {a c : Nat} {rs : List (Option Nat)} (hS : zs_H h) (ha : zs_O a c rs) : zm_obj h a = some (c, cs h a) ∧ (cs h a).length = rs.length ∧ (∀ j q : Nat, rs[j]? = some (some q) → (cs h a)[j]? = some (Value.ref q)) ∧ (∀ j : Nat, rs[j]? = some none → (cs h a)[j]? = some (Value.int (cf h a j))) := by
  obtain ⟨h1, h2⟩ := ha
  have h3 := hS.2 a h1
  rw [h2] at h3
  obtain ⟨fs, h4, h5, h6, h7⟩ := h3
  have e : cs h a = fs := by unfold cs; rw [h4]
  refine ⟨?_, by rw [e]; exact h5, fun j q hj => by rw [e]; exact h6 j q hj, fun j hj => ?_⟩
  · unfold zm_obj
    rw [h4, hS.1, Nat.blt_eq.mpr h1, e]
    rfl
  · obtain ⟨x, hx⟩ := h7 j hj
    unfold cf
    rw [e, hx]
theorem zs_puti {h : zm_H} {a n : Nat} {f : Nat → Int32} (hS : zs_H h) (ha : zs_I a n) : zs_H (zi_put h a f) := by
  refine ⟨hS.1, fun b hb => ?_⟩
  by_cases hba : b = a
  · subst hba
    rw [ha.2]
    exact ⟨f, by simp [zi_put, zm_put, va_up, ha.2]⟩
  · have : (zi_put h a f).1 b = h.1 b := by simp [zi_put, zm_put, va_up, hba]
    rw [this]
    exact hS.2 b hb
theorem zs_putj {h : zm_H} {a n : Nat} {f : Nat → Int64} (hS : zs_H h) (ha : zs_J a n) : zs_H (zj_put h a f) := by
  refine ⟨hS.1, fun b hb => ?_⟩
  by_cases hba : b = a
  · subst hba
    rw [ha.2]
    exact ⟨f, by simp [zj_put, zm_put, va_up, ha.2]⟩
  · have : (zj_put h a f).1 b = h.1 b := by simp [zj_put, zm_put, va_up, hba]
    rw [this]
    exact hS.2 b hb
theorem zs_putf {h : zm_H} {a c j : Nat} {rs : List (Option Nat)} {x : Int32} (hS : zs_H h) (ha : zs_O a c rs) (hj : rs[j]? = some none) : zs_H (zf_put h a j x) := by
  obtain ⟨-, g2, g3, g4⟩ := zs_obj hS ha
  refine ⟨hS.1, fun b hb => ?_⟩
  by_cases hba : b = a
  · subst hba
    rw [ha.2]
    refine ⟨(cs h b).set j (.int x), by simp [zf_put, zm_put, va_up, ha.2], by rw [List.length_set]; exact g2, fun i q hi => ?_, fun i hi => ?_⟩
    · have hij : j ≠ i := fun q => by rw [q, hi] at hj; cases hj
      rw [List.getElem?_set_ne hij]
      exact g3 i q hi
    · by_cases hij : j = i
      · subst hij
        exact ⟨x, List.getElem?_set_self (by rw [g2]; exact (List.getElem?_eq_some_iff.mp hj).1)⟩
      · rw [List.getElem?_set_ne hij]
        exact ⟨_, g4 i hi⟩
  · have : (zf_put h a j x).1 b = h.1 b := by simp [zf_put, zm_put, va_up, hba]
    rw [this]
    exact hS.2 b hb
/-! reading behind writing -/
theorem zi_at {h : zm_H} {a : Nat} {f : Nat → Int32} : ci (zi_put h a f) a = f := by simp [ci, zi_put, zm_put, va_up]
theorem zi_ne {h : zm_H} {a b : Nat} {f : Nat → Int32} (hb : b ≠ a) : ci (zi_put h a f) b = ci h b := by simp [ci, zi_put, zm_put, va_up, hb]
theorem zi_cj {h : zm_H} {a b : Nat} {f : Nat → Int32} (hb : b ≠ a) : cj (zi_put h a f) b = cj h b := by simp [cj, zi_put, zm_put, va_up, hb]
theorem zi_cs {h : zm_H} {a b : Nat} {f : Nat → Int32} (hb : b ≠ a) : cs (zi_put h a f) b = cs h b := by simp [cs, zi_put, zm_put, va_up, hb]
theorem zi_cf {h : zm_H} {a b j : Nat} {f : Nat → Int32} (hb : b ≠ a) : cf (zi_put h a f) b j = cf h b j := by unfold cf; rw [zi_cs hb]
theorem zj_at {h : zm_H} {a : Nat} {f : Nat → Int64} : cj (zj_put h a f) a = f := by simp [cj, zj_put, zm_put, va_up]
theorem zj_ne {h : zm_H} {a b : Nat} {f : Nat → Int64} (hb : b ≠ a) : cj (zj_put h a f) b = cj h b := by simp [cj, zj_put, zm_put, va_up, hb]
theorem zj_ci {h : zm_H} {a b : Nat} {f : Nat → Int64} (hb : b ≠ a) : ci (zj_put h a f) b = ci h b := by simp [ci, zj_put, zm_put, va_up, hb]
theorem zj_cs {h : zm_H} {a b : Nat} {f : Nat → Int64} (hb : b ≠ a) : cs (zj_put h a f) b = cs h b := by simp [cs, zj_put, zm_put, va_up, hb]
theorem zj_cf {h : zm_H} {a b j : Nat} {f : Nat → Int64} (hb : b ≠ a) : cf (zj_put h a f) b j = cf h b j := by unfold cf; rw [zj_cs hb]
theorem zf_ci {h : zm_H} {a b j : Nat} {x : Int32} (hb : b ≠ a) : ci (zf_put h a j x) b = ci h b := by simp [ci, zf_put, zm_put, va_up, hb]
theorem zf_cj {h : zm_H} {a b j : Nat} {x : Int32} (hb : b ≠ a) : cj (zf_put h a j x) b = cj h b := by simp [cj, zf_put, zm_put, va_up, hb]
theorem zf_cs {h : zm_H} {a b j : Nat} {x : Int32} (hb : b ≠ a) : cs (zf_put h a j x) b = cs h b := by simp [cs, zf_put, zm_put, va_up, hb]
theorem zf_ne {h : zm_H} {a b j i : Nat} {x : Int32} (hb : b ≠ a) : cf (zf_put h a j x) b i = cf h b i := by unfold cf; rw [zf_cs hb]
theorem zf_cs_at {h : zm_H} {a j : Nat} {x : Int32} : cs (zf_put h a j x) a = (cs h a).set j (.int x) := by simp [cs, zf_put, zm_put, va_up]
theorem zf_at {h : zm_H} {a c j : Nat} {rs : List (Option Nat)} {x : Int32} (hS : zs_H h) (ha : zs_O a c rs) (hj : rs[j]? = some none) : cf (zf_put h a j x) a j = x := by
  unfold cf
  rw [zf_cs_at, List.getElem?_set_self (by rw [(zs_obj hS ha).2.1]; exact (List.getElem?_eq_some_iff.mp hj).1)]
theorem zf_nj {h : zm_H} {a j i : Nat} {x : Int32} (hij : i ≠ j) : cf (zf_put h a j x) a i = cf h a i := by
  unfold cf
  rw [zf_cs_at, List.getElem?_set_ne (Ne.symm hij)]
theorem zi_zi {h : zm_H} {a : Nat} {f g : Nat → Int32} : zi_put (zi_put h a f) a g = zi_put h a g := by
  unfold zi_put zm_put
  congr 1
  funext j
  simp only [va_up]
  split <;> rfl
theorem zi_2 {h : zm_H} {a : Nat} {f : Nat → Int32} : (zi_put h a f).2 = h.2 := rfl
theorem zj_2 {h : zm_H} {a : Nat} {f : Nat → Int64} : (zj_put h a f).2 = h.2 := rfl
theorem zf_2 {h : zm_H} {a j : Nat} {x : Int32} : (zf_put h a j x).2 = h.2 := rfl
/-! what stays -/
/-- the same but for cells in S -/
def zh_eq (S : Nat → Prop) (h h' : zm_H) : Prop := h'.2 = h.2 ∧ ∀ a, ¬ S a → h'.1 a = h.1 a
theorem zh_eq.rf {S : Nat → Prop} {h : zm_H} : zh_eq S h h := ⟨rfl, fun _ _ => rfl⟩
theorem zh_eq.trans {S : Nat → Prop} {h h1 h2 : zm_H} (a : zh_eq S h h1) (b : zh_eq S h1 h2) : zh_eq S h h2 := ⟨b.1.trans a.1, fun x hx => (b.2 x hx).trans (a.2 x hx)⟩
theorem zh_eq.mono {S S' : Nat → Prop} {h h1 : zm_H} (a : zh_eq S h h1) (hs : ∀ x, S x → S' x) : zh_eq S' h h1 := ⟨a.1, fun x hx => a.2 x (fun q => hx (hs x q))⟩
theorem zh_eq.zi {S : Nat → Prop} {h h1 : zm_H} {a : Nat} {f : Nat → Int32} (q : zh_eq S h h1) (ha : S a) : zh_eq S h (zi_put h1 a f) := ⟨q.1, fun x hx => by have : x ≠ a := fun e => hx (by rw [e]; exact ha); simp [zi_put, zm_put, va_up, this, q.2 x hx]⟩
theorem zh_eq.zj {S : Nat → Prop} {h h1 : zm_H} {a : Nat} {f : Nat → Int64} (q : zh_eq S h h1) (ha : S a) : zh_eq S h (zj_put h1 a f) := ⟨q.1, fun x hx => by have : x ≠ a := fun e => hx (by rw [e]; exact ha); simp [zj_put, zm_put, va_up, this, q.2 x hx]⟩
theorem zh_eq.zf {S : Nat → Prop} {h h1 : zm_H} {a j : Nat} {x : Int32} (q : zh_eq S h h1) (ha : S a) : zh_eq S h (zf_put h1 a j x) := ⟨q.1, fun y hx => by have : y ≠ a := fun e => hx (by rw [e]; exact ha); simp [zf_put, zm_put, va_up, this, q.2 y hx]⟩
theorem zh_eq.gi {S : Nat → Prop} {h h1 : zm_H} (q : zh_eq S h h1) {a : Nat} (ha : ¬ S a) : ci h1 a = ci h a := by simp only [ci, q.2 a ha]
theorem zh_eq.gj {S : Nat → Prop} {h h1 : zm_H} (q : zh_eq S h h1) {a : Nat} (ha : ¬ S a) : cj h1 a = cj h a := by simp only [cj, q.2 a ha]
theorem zh_eq.gs {S : Nat → Prop} {h h1 : zm_H} (q : zh_eq S h h1) {a : Nat} (ha : ¬ S a) : cs h1 a = cs h a := by simp only [cs, q.2 a ha]
theorem zh_eq.gf {S : Nat → Prop} {h h1 : zm_H} (q : zh_eq S h h1) {a j : Nat} (ha : ¬ S a) : cf h1 a j = cf h a j := by simp only [cf, q.gs ha]
/-! the rules over the shape -/
section ZQ
variable {X : zm_X} {y pc pc' : Nat} {ls st : List Value} {h : zm_H} {Q : zm_O → zm_H → Prop}
theorem zq_iald {a n j : Nat} (hS : zs_H h) (hf : zm_lk (zm_cd y) pc = some (.inl .iaload, pc')) (ha : zs_I a n) (hj : j < n) (hn : n ≤ 2 ^ 30) (k : zp_wp X y pc' ls (.int (ci h a j) :: st) h Q) : zp_wp X y pc ls (.int (nI j) :: .ref a :: st) h Q := zp_iald hf (zs_iarr hS ha) hj hn k
theorem zq_lald {a n j : Nat} (hS : zs_H h) (hf : zm_lk (zm_cd y) pc = some (.inl .laload, pc')) (ha : zs_J a n) (hj : j < n) (hn : n ≤ 2 ^ 30) (k : zp_wp X y pc' ls (.long (cj h a j) :: st) h Q) : zp_wp X y pc ls (.int (nI j) :: .ref a :: st) h Q := zp_lald hf (zs_larr hS ha) hj hn k
theorem zq_qald {a n j q : Nat} {rs : List (Option Nat)} (hS : zs_H h) (hf : zm_lk (zm_cd y) pc = some (.inl .aaload, pc')) (ha : zs_Q a n rs) (hj : j < n) (hn : n ≤ 2 ^ 30) (hq : rs[j]? = some (some q)) (k : zp_wp X y pc' ls (.ref q :: st) h Q) : zp_wp X y pc ls (.int (nI j) :: .ref a :: st) h Q := by
  obtain ⟨f, h1, h2⟩ := zs_qarr hS ha
  exact zp_qald hf h1 hj hn (h2 j q hq) k
theorem zq_iast {a n j : Nat} {x : Int32} (hS : zs_H h) (hf : zm_lk (zm_cd y) pc = some (.inl .iastore, pc')) (ha : zs_I a n) (hj : j < n) (hn : n ≤ 2 ^ 30) (k : zs_H (zi_put h a (upd (ci h a) j x)) → zp_wp X y pc' ls st (zi_put h a (upd (ci h a) j x)) Q) : zp_wp X y pc ls (.int x :: .int (nI j) :: .ref a :: st) h Q := by
  have k := k (zs_puti hS ha)
  unfold zi_put at k
  rw [ha.2] at k
  exact zp_iast hf (zs_iarr hS ha) hj hn k
theorem zq_last {a n j : Nat} {x : Int64} (hS : zs_H h) (hf : zm_lk (zm_cd y) pc = some (.inl .lastore, pc')) (ha : zs_J a n) (hj : j < n) (hn : n ≤ 2 ^ 30) (k : zs_H (zj_put h a (vp_updL (cj h a) j x)) → zp_wp X y pc' ls st (zj_put h a (vp_updL (cj h a) j x)) Q) : zp_wp X y pc ls (.long x :: .int (nI j) :: .ref a :: st) h Q := by
  have k := k (zs_putj hS ha)
  unfold zj_put at k
  rw [ha.2] at k
  exact zp_last hf (zs_larr hS ha) hj hn k
theorem zq_alen {a n : Nat} (hS : zs_H h) (hf : zm_lk (zm_cd y) pc = some (.inl .arraylength, pc')) (ha : zs_I a n) (k : zp_wp X y pc' ls (.int (nI n) :: st) h Q) : zp_wp X y pc ls (.ref a :: st) h Q := zp_alen hf (zs_iarr hS ha) k
theorem zq_getr {idx c j q k9 : Nat} {rs : List (Option Nat)} (hS : zs_H h) (hf : zm_lk (zm_cd y) pc = some (.inr (0, idx, c, j), pc')) (ho : zs_O q c rs) (hr : rs[j]? = some (some k9)) (k : zp_wp X y pc' ls (.ref k9 :: st) h Q) : zp_wp X y pc ls (.ref q :: st) h Q := zp_get hf (zs_obj hS ho).1 ((zs_obj hS ho).2.2.1 j k9 hr) k
theorem zq_geti {idx c j q : Nat} {rs : List (Option Nat)} (hS : zs_H h) (hf : zm_lk (zm_cd y) pc = some (.inr (0, idx, c, j), pc')) (ho : zs_O q c rs) (hr : rs[j]? = some none) (k : zp_wp X y pc' ls (.int (cf h q j) :: st) h Q) : zp_wp X y pc ls (.ref q :: st) h Q := zp_get hf (zs_obj hS ho).1 ((zs_obj hS ho).2.2.2 j hr) k
theorem zq_put {idx c j q : Nat} {rs : List (Option Nat)} {x : Int32} (hS : zs_H h) (hf : zm_lk (zm_cd y) pc = some (.inr (1, idx, c, j), pc')) (ho : zs_O q c rs) (hr : rs[j]? = some none) (hft : zm_fit (zm_ty c j) (.int x) = true) (k : zs_H (zf_put h q j x) → zp_wp X y pc' ls st (zf_put h q j x) Q) : zp_wp X y pc ls (.int x :: .ref q :: st) h Q := by
  have k := k (zs_putf hS ho hr)
  unfold zf_put at k
  rw [ho.2] at k
  obtain ⟨g1, g2, -⟩ := zs_obj hS ho
  exact zp_put hf g1 (by rw [hft, Nat.blt_eq.mpr (by rw [g2]; exact (List.getElem?_eq_some_iff.mp hr).1)]; rfl) k
theorem zq_virt {idx a j r : Nat} {as rest : List Value} {rs : List (Option Nat)} (hS : zs_H h) (hf : zm_lk (zm_cd y) pc = some (.inr (5, idx, a, j), pc')) (hp : zm_pop (zm_ar a) [] st = some (as, .ref r :: rest)) (ho : zs_O r (zm_own a) rs) (hc : (Nat.blt (zm_lv a) (zm_lv y) && Nat.blt a zm_nM && (Nat.ble (zm_wd rest) 8 && Nat.ble (zm_exp (.ref r :: as)).length (zm_mx a))) = true) (k : zp_wm X a (.ref r :: as) h (zp_k X y pc pc' ls rest Q)) : zp_wp X y pc ls st h Q := zp_virt hf hp (zs_obj hS ho).1 hc k
theorem zq_cpyi {idx a j q0 q1 n0 n1 n sp dp : Nat} (hS : zs_H h) (hf : zm_lk (zm_cd y) pc = some (.inr (11, idx, a, j), pc')) (h0 : zs_I q0 n0) (h1 : zs_I q1 n1) (hn : n < 10000 ∧ sp < 10000 ∧ dp < 10000) (hw : zm_wd st ≤ 8) (h2 : sp + n ≤ n0 ∧ dp + n ≤ n1) (k : zs_H (zi_put h q1 (va_cpy (ci h q0) (ci h q1) sp dp n)) → zp_wp X y pc' ls st (zi_put h q1 (va_cpy (ci h q0) (ci h q1) sp dp n)) Q) : zp_wp X y pc ls (.int (nI n) :: .int (nI dp) :: .ref q1 :: .int (nI sp) :: .ref q0 :: st) h Q := by
  have k := k (zs_puti hS h1)
  unfold zi_put at k
  rw [h1.2] at k
  exact zp_cpyi hf (zs_iarr hS h0) (zs_iarr hS h1) hn hw h2 k
theorem zq_cpyl {idx a j q0 q1 n0 n1 n sp dp : Nat} (hS : zs_H h) (hf : zm_lk (zm_cd y) pc = some (.inr (11, idx, a, j), pc')) (h0 : zs_J q0 n0) (h1 : zs_J q1 n1) (hn : n < 10000 ∧ sp < 10000 ∧ dp < 10000) (hw : zm_wd st ≤ 8) (h2 : sp + n ≤ n0 ∧ dp + n ≤ n1) (k : zs_H (zj_put h q1 (va_cpy (cj h q0) (cj h q1) sp dp n)) → zp_wp X y pc' ls st (zj_put h q1 (va_cpy (cj h q0) (cj h q1) sp dp n)) Q) : zp_wp X y pc ls (.int (nI n) :: .int (nI dp) :: .ref q1 :: .int (nI sp) :: .ref q0 :: st) h Q := by
  have k := k (zs_putj hS h1)
  unfold zj_put at k
  rw [h1.2] at k
  exact zp_cpyl hf (zs_larr hS h0) (zs_larr hS h1) (zs_inone hS h0) hn hw h2 k
end ZQ

