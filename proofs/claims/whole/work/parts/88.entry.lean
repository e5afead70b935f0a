/-! what holds at the law's entry (beside lw_tbl) -/
theorem zl_B : ∀ w ∈ zm_B, w ∈ lw_tbl := by decide +kernel
theorem zl_l1 : Cond.laysStatic Bundle.tN "UNASSIGNED_STACK" Bundle.steD ∈ lw_tbl := List.mem_of_getElem? (i := 466) (by decide +kernel)
theorem zl_l2 : Cond.laysStatic Bundle.tN "SUPPRESSED_SENTINEL" Bundle.listD ∈ lw_tbl := List.mem_of_getElem? (i := 468) (by decide +kernel)
theorem zl_i1 : Cond.initialized Bundle.tN ∈ lw_tbl := List.mem_of_getElem? (i := 89) (by decide +kernel)
theorem zl_r1 : Cond.isRef (.static Bundle.tN "UNASSIGNED_STACK" Bundle.steD) ∈ flatC (Jvm.Cond.and given_1 narrow_1) := by decide +kernel
theorem zl_r2 : Cond.isRef (.static Bundle.tN "SUPPRESSED_SENTINEL" Bundle.listD) ∈ flatC (Jvm.Cond.and given_1 narrow_1) := by decide +kernel
theorem zl_s0 : Cond.stringRef RX6 242 (zm_text 0) ∈ lw_tbl ∧ Cond.exactly (.string RX6 242) "java/lang/String" ∈ flatC (Jvm.Cond.and given_1 narrow_1) := ⟨List.mem_of_getElem? (i := 480) (by decide +kernel), by decide +kernel⟩
theorem zl_s1 : Cond.stringRef RX6 229 (zm_text 1) ∈ lw_tbl ∧ Cond.exactly (.string RX6 229) "java/lang/String" ∈ flatC (Jvm.Cond.and given_1 narrow_1) := ⟨List.mem_of_getElem? (i := 534) (by decide +kernel), by decide +kernel⟩
theorem zl_s2 : Cond.stringRef RX6 232 (zm_text 2) ∈ lw_tbl ∧ Cond.exactly (.string RX6 232) "java/lang/String" ∈ flatC (Jvm.Cond.and given_1 narrow_1) := ⟨List.mem_of_getElem? (i := 550) (by decide +kernel), by decide +kernel⟩
theorem zl_s3 : Cond.stringRef RX6 86 (zm_text 3) ∈ lw_tbl ∧ Cond.exactly (.string RX6 86) "java/lang/String" ∈ flatC (Jvm.Cond.and given_1 narrow_1) := ⟨List.mem_of_getElem? (i := 717) (by decide +kernel), by decide +kernel⟩
theorem zl_s4 : Cond.stringRef RX6 248 (zm_text 4) ∈ lw_tbl ∧ Cond.exactly (.string RX6 248) "java/lang/String" ∈ flatC (Jvm.Cond.and given_1 narrow_1) := ⟨List.mem_of_getElem? (i := 729) (by decide +kernel), by decide +kernel⟩
theorem zl_s5 : Cond.stringRef RX6 253 (zm_text 5) ∈ lw_tbl ∧ Cond.exactly (.string RX6 253) "java/lang/String" ∈ flatC (Jvm.Cond.and given_1 narrow_1) := ⟨List.mem_of_getElem? (i := 756) (by decide +kernel), by decide +kernel⟩
theorem zl_s6 : Cond.stringRef RX6 255 (zm_text 6) ∈ lw_tbl ∧ Cond.exactly (.string RX6 255) "java/lang/String" ∈ flatC (Jvm.Cond.and given_1 narrow_1) := ⟨List.mem_of_getElem? (i := 770) (by decide +kernel), by decide +kernel⟩
theorem zl_s7 : Cond.stringRef RX6 151 (zm_text 7) ∈ lw_tbl ∧ Cond.exactly (.string RX6 151) "java/lang/String" ∈ flatC (Jvm.Cond.and given_1 narrow_1) := ⟨List.mem_of_getElem? (i := 788) (by decide +kernel), by decide +kernel⟩
theorem zl_s8 : Cond.stringRef RX6 155 (zm_text 8) ∈ lw_tbl ∧ Cond.exactly (.string RX6 155) "java/lang/String" ∈ flatC (Jvm.Cond.and given_1 narrow_1) := ⟨List.mem_of_getElem? (i := 796) (by decide +kernel), by decide +kernel⟩
theorem zl_s9 : Cond.stringRef RX6 257 (zm_text 9) ∈ lw_tbl ∧ Cond.exactly (.string RX6 257) "java/lang/String" ∈ flatC (Jvm.Cond.and given_1 narrow_1) := ⟨List.mem_of_getElem? (i := 814) (by decide +kernel), by decide +kernel⟩
theorem zl_s10 : Cond.stringRef RX6 259 (zm_text 10) ∈ lw_tbl ∧ Cond.exactly (.string RX6 259) "java/lang/String" ∈ flatC (Jvm.Cond.and given_1 narrow_1) := ⟨List.mem_of_getElem? (i := 956) (by decide +kernel), by decide +kernel⟩
theorem zl_s11 : Cond.stringRef RX6 209 (zm_text 11) ∈ lw_tbl ∧ Cond.exactly (.string RX6 209) "java/lang/String" ∈ flatC (Jvm.Cond.and given_1 narrow_1) := ⟨List.mem_of_getElem? (i := 1044) (by decide +kernel), by decide +kernel⟩
theorem zl_str (k : Nat) (q : Nat × Nat × Nat × Nat × Nat × Nat × Bool) (hq : zm_sites[k]? = some q) : Cond.stringRef RX6 q.2.2.2.2.1 (zm_text k) ∈ lw_tbl ∧ Cond.exactly (.string RX6 q.2.2.2.2.1) "java/lang/String" ∈ flatC (Jvm.Cond.and given_1 narrow_1) := by
  match k, hq with
  | 0, hq => cases hq; exact zl_s0
  | 1, hq => cases hq; exact zl_s1
  | 2, hq => cases hq; exact zl_s2
  | 3, hq => cases hq; exact zl_s3
  | 4, hq => cases hq; exact zl_s4
  | 5, hq => cases hq; exact zl_s5
  | 6, hq => cases hq; exact zl_s6
  | 7, hq => cases hq; exact zl_s7
  | 8, hq => cases hq; exact zl_s8
  | 9, hq => cases hq; exact zl_s9
  | 10, hq => cases hq; exact zl_s10
  | 11, hq => cases hq; exact zl_s11
  | k + 12, hq => simp [zm_sites] at hq
theorem zl_n01 : Cond.not (.castable (zm_ex 0) (zm_ex 1)) ∈ flatC (Jvm.Cond.and given_1 narrow_1) := by decide +kernel
theorem zl_n02 : Cond.not (.castable (zm_ex 0) (zm_ex 2)) ∈ flatC (Jvm.Cond.and given_1 narrow_1) := by decide +kernel
theorem zl_n10 : Cond.not (.castable (zm_ex 1) (zm_ex 0)) ∈ flatC (Jvm.Cond.and given_1 narrow_1) := by decide +kernel
theorem zl_n12 : Cond.not (.castable (zm_ex 1) (zm_ex 2)) ∈ flatC (Jvm.Cond.and given_1 narrow_1) := by decide +kernel
theorem zl_n20 : Cond.not (.castable (zm_ex 2) (zm_ex 0)) ∈ flatC (Jvm.Cond.and given_1 narrow_1) := by decide +kernel
theorem zl_n21 : Cond.not (.castable (zm_ex 2) (zm_ex 1)) ∈ flatC (Jvm.Cond.and given_1 narrow_1) := by decide +kernel
theorem zl_nc (x y : Nat) (hx : x < 3) (hy : y < 3) (hn : x ≠ y) : Cond.not (.castable (zm_ex x) (zm_ex y)) ∈ flatC (Jvm.Cond.and given_1 narrow_1) := by
  match x, hx, y, hy, hn with
  | 0, _, 0, _, hn => exact absurd rfl hn
  | 0, _, 1, _, _ => exact zl_n01
  | 0, _, 2, _, _ => exact zl_n02
  | 1, _, 0, _, _ => exact zl_n10
  | 1, _, 1, _, hn => exact absurd rfl hn
  | 1, _, 2, _, _ => exact zl_n12
  | 2, _, 0, _, _ => exact zl_n20
  | 2, _, 1, _, _ => exact zl_n21
  | 2, _, 2, _, hn => exact absurd rfl hn
