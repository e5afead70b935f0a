/-! bits of ints and longs (bt .. b_sshr: kit/laws/BITS), counting them -/
def bt (x : Int32) (i : Nat) : Bool := x.toBitVec.getLsbD i
theorem b_ext {x y : Int32} (h : ∀ i, i < 32 → bt x i = bt y i) : x = y := Int32.toBitVec_inj.mp (BitVec.eq_of_getLsbD_eq (fun i hi => h i hi))
theorem b_or (x y : Int32) (i : Nat) : bt (x ||| y) i = (bt x i || bt y i) := by unfold bt; rw [Int32.toBitVec_or, BitVec.getLsbD_or]
theorem b_and (x y : Int32) (i : Nat) : bt (x &&& y) i = (bt x i && bt y i) := by unfold bt; rw [Int32.toBitVec_and, BitVec.getLsbD_and]
theorem b_0 (i : Nat) : bt (nI 0) i = false := BitVec.getLsbD_zero
theorem s_l : ∀ n, n < 32 → ((nI n &&& 31).toBitVec.smod 32).toNat = n := by decide +kernel
theorem b_shl (n : Nat) (hn : n < 32) (x : Int32) {i : Nat} (hi : i < 32) : bt (x <<< (nI n &&& 31)) i = (decide (n ≤ i) && bt x (i - n)) := by
  unfold bt
  rw [Int32.toBitVec_shiftLeft]
  show (x.toBitVec <<< ((nI n &&& 31).toBitVec.smod 32).toNat).getLsbD i = _
  rw [s_l n hn, BitVec.getLsbD_shiftLeft]
  rcases Nat.lt_or_ge i n with h | h
  · simp [h, Nat.not_le.mpr h]
  · simp [hi, h, Nat.not_lt.mpr h]
theorem b_sshr (n : Nat) (hn : n < 32) (x : Int32) {i : Nat} (hi : i < 32) : bt (x >>> (nI n &&& 31)) i = if n + i < 32 then bt x (n + i) else bt x 31 := by
  unfold bt
  rw [Int32.toBitVec_shiftRight]
  show (x.toBitVec.sshiftRight ((nI n &&& 31).toBitVec.smod 32).toNat).getLsbD i = _
  rw [s_l n hn, BitVec.getLsbD_sshiftRight, BitVec.msb_eq_getLsbD_last]
  simp [hi]
theorem b_one : ∀ i, i < 32 → bt (nI 1) i = decide (i = 0) := by decide +kernel
theorem b_1shl {n i : Nat} (hn : n < 32) (hi : i < 32) : bt (nI 1 <<< (nI n &&& 31)) i = (i == n) := by
  rw [b_shl n hn _ hi, b_one _ (by omega)]
  by_cases e : i = n
  · subst e; simp
  · by_cases e2 : n ≤ i
    · have : ¬ i - n = 0 := by omega
      simp [e, this]
    · simp [e, e2]
theorem zb_bt {x : Int32} {k : Nat} (hk : k < 32) : zb_t x k = bt x k := by
  have e : bt ((x >>> (nI k &&& 31)) &&& nI 1) 0 = bt x k := by
    rw [b_and, b_sshr k hk x (by decide), b_one 0 (by decide)]
    simp [hk]
  unfold zb_t
  rcases zb_1 (x >>> (nI k &&& 31)) with h | h
  · rw [h] at e ⊢
    rw [← e]
    decide
  · rw [h] at e ⊢
    rw [← e]
    decide
theorem bt_z {x : Int32} : x = 0 ↔ ∀ i, i < 32 → bt x i = false := by
  constructor
  · intro h i _; rw [h, ← nI_0]; exact b_0 i
  · intro h; rw [← nI_0]; exact b_ext (fun i hi => by rw [h i hi, b_0])
/-- the same of longs -/
def bl (x : Int64) (i : Nat) : Bool := x.toBitVec.getLsbD i
theorem bl_ext {x y : Int64} (h : ∀ i, i < 64 → bl x i = bl y i) : x = y := Int64.toBitVec_inj.mp (BitVec.eq_of_getLsbD_eq (fun i hi => h i hi))
theorem bl_or (x y : Int64) (i : Nat) : bl (x ||| y) i = (bl x i || bl y i) := by unfold bl; rw [Int64.toBitVec_or, BitVec.getLsbD_or]
theorem bl_and (x y : Int64) (i : Nat) : bl (x &&& y) i = (bl x i && bl y i) := by unfold bl; rw [Int64.toBitVec_and, BitVec.getLsbD_and]
theorem bl_xor (x y : Int64) (i : Nat) : bl (x ^^^ y) i = (bl x i ^^ bl y i) := by unfold bl; rw [Int64.toBitVec_xor, BitVec.getLsbD_xor]
theorem bl_0 (i : Nat) : bl (lN 0) i = false := BitVec.getLsbD_zero
theorem bl_one : ∀ i, i < 64 → bl (lN 1) i = decide (i = 0) := by decide +kernel
theorem bl_m1 : ∀ i, i < 64 → bl (lN 18446744073709551615) i = true := by decide +kernel
theorem sl_l : ∀ n, n < 64 → ((Int32.toInt64 (nI n) &&& 63).toBitVec.smod 64).toNat = n := by decide +kernel
theorem bl_shl (n : Nat) (hn : n < 64) (x : Int64) {i : Nat} (hi : i < 64) : bl (x <<< (Int32.toInt64 (nI n) &&& 63)) i = (decide (n ≤ i) && bl x (i - n)) := by
  unfold bl
  rw [Int64.toBitVec_shiftLeft]
  show (x.toBitVec <<< ((Int32.toInt64 (nI n) &&& 63).toBitVec.smod 64).toNat).getLsbD i = _
  rw [sl_l n hn, BitVec.getLsbD_shiftLeft]
  rcases Nat.lt_or_ge i n with h | h
  · simp [h, Nat.not_le.mpr h]
  · simp [hi, h, Nat.not_lt.mpr h]
theorem bl_sshr (n : Nat) (hn : n < 64) (x : Int64) {i : Nat} (hi : i < 64) : bl (x >>> (Int32.toInt64 (nI n) &&& 63)) i = if n + i < 64 then bl x (n + i) else bl x 63 := by
  unfold bl
  rw [Int64.toBitVec_shiftRight]
  show (x.toBitVec.sshiftRight ((Int32.toInt64 (nI n) &&& 63).toBitVec.smod 64).toNat).getLsbD i = _
  rw [sl_l n hn, BitVec.getLsbD_sshiftRight, BitVec.msb_eq_getLsbD_last]
  simp [hi]
theorem bl_1shl {n i : Nat} (hn : n < 64) (hi : i < 64) : bl (lN 1 <<< (Int32.toInt64 (nI n) &&& 63)) i = (i == n) := by
  rw [bl_shl n hn _ hi, bl_one _ (by omega)]
  by_cases e : i = n
  · subst e; simp
  · by_cases e2 : n ≤ i
    · have : ¬ i - n = 0 := by omega
      simp [e, this]
    · simp [e, e2]
theorem bl_t {x : Int64} {k : Nat} (hk : k < 64) : (x >>> (Int32.toInt64 (nI k) &&& 63)) &&& lN 1 = lN (cond (bl x k) 1 0) := by
  apply bl_ext
  intro i hi
  rw [bl_and, bl_sshr k hk x hi, bl_one i hi]
  by_cases e : i = 0
  · subst e
    simp only [Nat.add_zero, if_pos hk, decide_true, Bool.and_true]
    cases bl x k <;> decide
  · simp only [decide_eq_false e, Bool.and_false]
    cases bl x k
    · exact (bl_0 i).symm
    · show false = bl (lN 1) i; rw [bl_one i hi]; exact (decide_eq_false e).symm
/-! counting bits: digits of w bits -/
def zd (w : Nat) (d : Nat → Nat) : Nat → Nat → Nat
  | _, 0 => 0
  | i, k + 1 => 2 ^ w * zd w d (i + 1) k + d i
section ZD
variable {w : Nat} {d a c m : Nat → Nat}
theorem zd_lt (hd : ∀ j, d j < 2 ^ w) : ∀ k i, zd w d i k < 2 ^ (w * k)
  | 0, _ => by simp [zd]
  | k + 1, i => by
    have h1 := zd_lt hd k (i + 1)
    have h2 := hd i
    unfold zd
    rw [Nat.mul_succ, Nat.pow_add, Nat.mul_comm (2 ^ (w * k))]
    calc 2 ^ w * zd w d (i + 1) k + d i < 2 ^ w * zd w d (i + 1) k + 2 ^ w := by omega
      _ = 2 ^ w * (zd w d (i + 1) k + 1) := (Nat.mul_succ _ _).symm
      _ ≤ 2 ^ w * 2 ^ (w * k) := Nat.mul_le_mul_left _ h1
theorem zd_add : ∀ k i, zd w (fun j => a j + c j) i k = zd w a i k + zd w c i k
  | 0, _ => rfl
  | k + 1, i => by
    unfold zd
    rw [zd_add k (i + 1), Nat.mul_add]
    omega
theorem zd_sh (s : Nat) : ∀ k i, zd w d (i + s) k = zd w (fun j => d (j + s)) i k
  | 0, _ => rfl
  | k + 1, i => by
    unfold zd
    rw [← zd_sh s k (i + 1), show i + s + 1 = i + 1 + s by omega]
theorem zd_succ : ∀ k i, d (i + k) = 0 → zd w d i (k + 1) = zd w d i k
  | 0, i, h => by
    show 2 ^ w * 0 + d i = 0
    rw [Nat.mul_zero, Nat.zero_add]
    exact h
  | k + 1, i, h => by
    show 2 ^ w * zd w d (i + 1) (k + 1) + d i = 2 ^ w * zd w d (i + 1) k + d i
    rw [zd_succ k (i + 1) (by rw [← h]; congr 1; omega)]
theorem zd_q (hd : ∀ j, d j < 2 ^ w) {k : Nat} (h0 : d k = 0) : zd w d 0 k / 2 ^ w = zd w (fun j => d (j + 1)) 0 k := by
  cases k with
  | zero => simp [zd]
  | succ k =>
    show (2 ^ w * zd w d (0 + 1) k + d 0) / 2 ^ w = _
    rw [Nat.mul_add_div (Nat.two_pow_pos w), Nat.div_eq_of_lt (hd 0), Nat.add_zero, zd_sh 1 k 0]
    exact (zd_succ (d := fun j => d (j + 1)) k 0 (by rw [Nat.zero_add]; exact h0)).symm
theorem zd_pair : ∀ k i, zd w d (2 * i) (2 * k) = zd (2 * w) (fun j => d (2 * j) + 2 ^ w * d (2 * j + 1)) i k
  | 0, _ => rfl
  | k + 1, i => by
    show 2 ^ w * (2 ^ w * zd w d (2 * i + 1 + 1) (2 * k) + d (2 * i + 1)) + d (2 * i) = 2 ^ (2 * w) * zd (2 * w) _ (i + 1) k + (d (2 * i) + 2 ^ w * d (2 * i + 1))
    rw [show 2 * i + 1 + 1 = 2 * (i + 1) by omega, zd_pair k (i + 1), Nat.mul_add, ← Nat.mul_assoc, ← Nat.pow_add, show w + w = 2 * w by omega]
    omega
theorem zd_and1 {A B x y : Nat} (hx : x < 2 ^ w) (hy : y < 2 ^ w) : (2 ^ w * A + x) &&& (2 ^ w * B + y) = 2 ^ w * (A &&& B) + (x &&& y) := by
  apply Nat.eq_of_testBit_eq
  intro j
  rw [Nat.testBit_and, Nat.testBit_two_pow_mul_add _ hx, Nat.testBit_two_pow_mul_add _ hy, Nat.testBit_two_pow_mul_add _ (Nat.and_lt_two_pow x hy)]
  split
  · rw [Nat.testBit_and]
  · rw [Nat.testBit_and]
theorem zd_and (ha : ∀ j, a j < 2 ^ w) (hm : ∀ j, m j < 2 ^ w) : ∀ k i, zd w a i k &&& zd w m i k = zd w (fun j => a j &&& m j) i k
  | 0, _ => by simp [zd]
  | k + 1, i => by
    unfold zd
    rw [zd_and1 (ha i) (hm i), zd_and ha hm k (i + 1)]
theorem zd_bits (n : Nat) : ∀ k i, zd 1 (fun j => (n.testBit j).toNat) i k = n / 2 ^ i % 2 ^ k
  | 0, _ => by simp [zd, Nat.mod_one]
  | k + 1, i => by
    unfold zd
    rw [zd_bits n k (i + 1), Nat.toNat_testBit, Nat.pow_succ 2 k, Nat.mul_comm (2 ^ k) 2, Nat.mod_mul, Nat.pow_succ 2 i, ← Nat.div_div_eq_div_mul, Nat.pow_one]
    omega
end ZD
def pc_b (n j : Nat) : Nat := (n.testBit j).toNat
def pc_c (n j : Nat) : Nat := pc_b n (2 * j) + pc_b n (2 * j + 1)
def pc_e (n j : Nat) : Nat := pc_c n (2 * j) + pc_c n (2 * j + 1)
def pc_f (n j : Nat) : Nat := pc_e n (2 * j) + pc_e n (2 * j + 1)
theorem pc_b1 (n j : Nat) : pc_b n j ≤ 1 := by unfold pc_b; cases n.testBit j <;> decide
theorem pc_c2 (n j : Nat) : pc_c n j ≤ 2 := by have := pc_b1 n (2 * j); have := pc_b1 n (2 * j + 1); unfold pc_c; omega
theorem pc_e4 (n j : Nat) : pc_e n j ≤ 4 := by have := pc_c2 n (2 * j); have := pc_c2 n (2 * j + 1); unfold pc_e; omega
theorem pc_f8 (n j : Nat) : pc_f n j ≤ 8 := by have := pc_e4 n (2 * j); have := pc_e4 n (2 * j + 1); unfold pc_f; omega
section PC
variable {n K : Nat}
theorem pc_b0 (hn : n < 2 ^ (8 * K)) {j : Nat} (hj : 8 * K ≤ j) : pc_b n j = 0 := by
  unfold pc_b
  rw [Nat.testBit_lt_two_pow (Nat.lt_of_lt_of_le hn (Nat.pow_le_pow_right (by decide) hj))]
  rfl
theorem pc_c0 (hn : n < 2 ^ (8 * K)) {j : Nat} (hj : 4 * K ≤ j) : pc_c n j = 0 := by unfold pc_c; rw [pc_b0 hn (by omega), pc_b0 hn (by omega)]
theorem pc_e0 (hn : n < 2 ^ (8 * K)) {j : Nat} (hj : 2 * K ≤ j) : pc_e n j = 0 := by unfold pc_e; rw [pc_c0 hn (by omega), pc_c0 hn (by omega)]
theorem pc_f0 (hn : n < 2 ^ (8 * K)) {j : Nat} (hj : K ≤ j) : pc_f n j = 0 := by unfold pc_f; rw [pc_e0 hn (by omega), pc_e0 hn (by omega)]
theorem pc_n0 (hn : n < 2 ^ (8 * K)) : n = zd 1 (pc_b n) 0 (8 * K) := by
  have := zd_bits n (8 * K) 0
  rw [Nat.pow_zero, Nat.div_one, Nat.mod_eq_of_lt hn] at this
  exact this.symm
theorem pc_n1 (hn : n < 2 ^ (8 * K)) : n - (n / 2 ^ 1 &&& zd 2 (fun _ => 1) 0 (4 * K)) = zd 2 (pc_c n) 0 (4 * K) := by
  have e0 := pc_n0 hn
  have e1 : n / 2 ^ 1 = zd 1 (fun j => pc_b n (j + 1)) 0 (8 * K) := by
    have := zd_q (w := 1) (d := pc_b n) (fun j => by have := pc_b1 n j; omega) (pc_b0 hn (Nat.le_refl _))
    rw [← e0] at this
    exact this
  have e2 : zd 1 (fun j => pc_b n (j + 1)) 0 (8 * K) = zd 2 (fun j => pc_b n (2 * j + 1) + 2 * pc_b n (2 * j + 2)) 0 (4 * K) := by
    have := zd_pair (w := 1) (d := fun j => pc_b n (j + 1)) (4 * K) 0
    rw [show 2 * (4 * K) = 8 * K by omega] at this
    exact this
  have e3 : zd 2 (fun j => pc_b n (2 * j + 1) + 2 * pc_b n (2 * j + 2)) 0 (4 * K) &&& zd 2 (fun _ => 1) 0 (4 * K) = zd 2 (fun j => pc_b n (2 * j + 1)) 0 (4 * K) := by
    rw [zd_and (fun j => by have := pc_b1 n (2 * j + 1); have := pc_b1 n (2 * j + 2); omega) (fun j => by decide)]
    congr 1
    funext j
    have := pc_b1 n (2 * j + 1)
    rw [Nat.and_one_is_mod]
    omega
  have e4 : n = zd 2 (fun j => pc_c n j + pc_b n (2 * j + 1)) 0 (4 * K) := by
    have := zd_pair (w := 1) (d := pc_b n) (4 * K) 0
    rw [show 2 * (4 * K) = 8 * K by omega, Nat.mul_zero, ← e0] at this
    refine this.trans ?_
    congr 1
    funext j
    unfold pc_c
    omega
  rw [zd_add] at e4
  rw [e1, e2, e3]
  omega
theorem pc_n2 (hn : n < 2 ^ (8 * K)) : (zd 2 (pc_c n) 0 (4 * K) &&& zd 4 (fun _ => 3) 0 (2 * K)) + (zd 2 (pc_c n) 0 (4 * K) / 2 ^ 2 &&& zd 4 (fun _ => 3) 0 (2 * K)) = zd 4 (pc_e n) 0 (2 * K) := by
  have e1 : zd 2 (pc_c n) 0 (4 * K) / 2 ^ 2 = zd 2 (fun j => pc_c n (j + 1)) 0 (4 * K) := zd_q (fun j => by have := pc_c2 n j; omega) (pc_c0 hn (Nat.le_refl _))
  have p : ∀ d : Nat → Nat, zd 2 d 0 (4 * K) = zd 4 (fun j => d (2 * j) + 4 * d (2 * j + 1)) 0 (2 * K) := by
    intro d
    have := zd_pair (w := 2) (d := d) (2 * K) 0
    rw [show 2 * (2 * K) = 4 * K by omega] at this
    exact this
  have q : ∀ d : Nat → Nat, (∀ j, d j ≤ 2) → zd 2 d 0 (4 * K) &&& zd 4 (fun _ => 3) 0 (2 * K) = zd 4 (fun j => d (2 * j)) 0 (2 * K) := by
    intro d hd
    rw [p d, zd_and (fun j => by have := hd (2 * j); have := hd (2 * j + 1); omega) (fun j => by decide)]
    congr 1
    funext j
    have := hd (2 * j)
    show (d (2 * j) + 4 * d (2 * j + 1)) &&& (2 ^ 2 - 1) = _
    rw [Nat.and_two_pow_sub_one_eq_mod]
    omega
  rw [e1, q _ (pc_c2 n), q _ (fun j => pc_c2 n (j + 1)), ← zd_add]
  rfl
theorem pc_n3 (hn : n < 2 ^ (8 * K)) : (zd 4 (pc_e n) 0 (2 * K) + zd 4 (pc_e n) 0 (2 * K) / 2 ^ 4) &&& zd 8 (fun _ => 15) 0 K = zd 8 (pc_f n) 0 K := by
  have e1 : zd 4 (pc_e n) 0 (2 * K) / 2 ^ 4 = zd 4 (fun j => pc_e n (j + 1)) 0 (2 * K) := zd_q (fun j => by have := pc_e4 n j; omega) (pc_e0 hn (Nat.le_refl _))
  rw [e1, ← zd_add]
  have p := zd_pair (w := 4) (d := fun j => pc_e n j + pc_e n (j + 1)) K 0
  rw [Nat.mul_zero] at p
  rw [p, zd_and (fun j => by have := pc_e4 n (2 * j); have := pc_e4 n (2 * j + 1); have := pc_e4 n (2 * j + 1 + 1); show _ < 2 ^ 8; omega) (fun j => by show _ < 2 ^ 8; decide)]
  congr 1
  funext j
  have := pc_e4 n (2 * j)
  have := pc_e4 n (2 * j + 1)
  show _ &&& (2 ^ 4 - 1) = _
  rw [Nat.and_two_pow_sub_one_eq_mod]
  unfold pc_f
  omega
theorem pc_sh {f : Nat → Nat} {b : Nat} (hf : ∀ j, f j ≤ b) (hb : b < 2 ^ 8) (h0 : ∀ j, K ≤ j → f j = 0) : ∀ s, zd 8 f 0 K / 2 ^ (8 * s) = zd 8 (fun j => f (j + s)) 0 K
  | 0 => by rw [Nat.mul_zero, Nat.pow_zero, Nat.div_one]; rfl
  | s + 1 => by
    rw [Nat.mul_succ, Nat.pow_add, ← Nat.div_div_eq_div_mul, pc_sh hf hb h0 s, zd_q (fun j => Nat.lt_of_le_of_lt (hf _) hb) (h0 _ (by omega))]
    congr 1
    funext j
    congr 1
    omega
theorem pc_st {f : Nat → Nat} {b : Nat} (hf : ∀ j, f j ≤ b) (hb : b < 2 ^ 8) (h0 : ∀ j, K ≤ j → f j = 0) (s : Nat) : zd 8 f 0 K + zd 8 f 0 K / 2 ^ (8 * s) = zd 8 (fun j => f j + f (j + s)) 0 K := by rw [pc_sh hf hb h0 s, ← zd_add]
theorem pc_lo {f : Nat → Nat} {k : Nat} : zd 8 f 0 (k + 1) % 2 ^ 6 = f 0 % 2 ^ 6 ∧ zd 8 f 0 (k + 1) % 2 ^ 7 = f 0 % 2 ^ 7 := by
  show (2 ^ 8 * zd 8 f (0 + 1) k + f 0) % 2 ^ 6 = f 0 % 2 ^ 6 ∧ (2 ^ 8 * zd 8 f (0 + 1) k + f 0) % 2 ^ 7 = f 0 % 2 ^ 7
  omega
end PC
theorem pc_cong (n j : Nat) : pc_b n j = cond (n.testBit j) 1 0 := by unfold pc_b; cases n.testBit j <;> rfl
theorem pc_32 (n : Nat) : pc_f n 0 + pc_f n 1 + (pc_f n 2 + pc_f n 3) = zf_ct n.testBit 0 32 := by
  simp only [pc_f, pc_e, pc_c, pc_cong, zf_ct, Nat.reduceMul, Nat.reduceAdd, Nat.zero_add, Nat.add_zero, Nat.add_assoc]
theorem pc_64 (n : Nat) : pc_f n 0 + pc_f n 1 + (pc_f n 2 + pc_f n 3) + (pc_f n 4 + pc_f n 5 + (pc_f n 6 + pc_f n 7)) = zf_ct n.testBit 0 64 := by
  simp only [pc_f, pc_e, pc_c, pc_cong, zf_ct, Nat.reduceMul, Nat.reduceAdd, Nat.zero_add, Nat.add_zero, Nat.add_assoc]
theorem zf_ct_cong {p q : Nat → Bool} : ∀ {k c : Nat}, (∀ j, c ≤ j → j < c + k → p j = q j) → zf_ct p c k = zf_ct q c k
  | 0, _, _ => rfl
  | k + 1, c, h => by
    unfold zf_ct
    rw [h c (Nat.le_refl _) (by omega), zf_ct_cong (fun j h1 h2 => h j (by omega) (by omega))]
theorem wb_inj {a b : Int64} (h : a.toBitVec = b.toBitVec) : a = b := Int64.toBitVec_inj.mp h
theorem wb_tb (n : Nat) : (lN n).toBitVec = BitVec.ofNat 64 n := rfl
theorem wb_tn {n : Nat} (h : n < 2 ^ 64) : (lN n).toBitVec.toNat = n := by rw [wb_tb, BitVec.toNat_ofNat, Nat.mod_eq_of_lt h]
theorem wb_of (x : Int64) : ∃ n, n < 2 ^ 64 ∧ x = lN n := ⟨x.toBitVec.toNat, x.toBitVec.isLt, wb_inj (by rw [wb_tb]; simp)⟩
theorem wb_of32 (x : Int32) : ∃ n, n < 2 ^ 32 ∧ x = nI n := ⟨x.toBitVec.toNat, x.toBitVec.isLt, Int32.toBitVec_inj.mp (by show _ = BitVec.ofNat 32 _; simp)⟩
theorem wb_cu : ∀ k, k < 64 → ((nI k).toInt64.toUInt64 &&& Int64.toUInt64 63) = UInt64.ofNat k := by decide +kernel
theorem wb_shr {n k : Nat} (hn : n < 2 ^ 64) (hk : k < 64) : ((lN n).toUInt64 >>> ((nI k).toInt64.toUInt64 &&& Int64.toUInt64 63)).toInt64 = lN (n / 2 ^ k) := by
  rw [wb_cu k hk]
  apply wb_inj
  apply BitVec.eq_of_toNat_eq
  show ((lN n).toUInt64 >>> UInt64.ofNat k).toNat = (BitVec.ofNat 64 _).toNat
  have h1 : (UInt64.ofNat k).toNat = k := by
    show (BitVec.ofNat 64 k).toNat = k
    rw [BitVec.toNat_ofNat, Nat.mod_eq_of_lt (by omega)]
  have h2 : (lN n).toUInt64.toNat = n := wb_tn hn
  rw [UInt64.toNat_shiftRight, h1, h2, Nat.mod_eq_of_lt hk, Nat.shiftRight_eq_div_pow, BitVec.toNat_ofNat, Nat.mod_eq_of_lt (Nat.lt_of_le_of_lt (Nat.div_le_self _ _) hn)]
theorem fb_andL (a b : Nat) : lN a &&& lN b = lN (a &&& b) := by
  apply Int64.toBitVec_inj.1
  show BitVec.ofNat 64 a &&& BitVec.ofNat 64 b = BitVec.ofNat 64 (a &&& b)
  apply BitVec.eq_of_getLsbD_eq
  intro i hi
  simp [hi]
theorem nx_and (a b : Nat) : nI a &&& nI b = nI (a &&& b) := by
  apply Int32.toBitVec_inj.1
  show BitVec.ofNat 32 a &&& BitVec.ofNat 32 b = BitVec.ofNat 32 (a &&& b)
  apply BitVec.eq_of_getLsbD_eq
  intro i hi
  simp [hi]
theorem bl_N {n i : Nat} (hi : i < 64) : bl (lN n) i = n.testBit i := by
  unfold bl
  rw [wb_tb, BitVec.getLsbD_ofNat]
  simp [hi]
theorem bt_N {n i : Nat} (hi : i < 32) : bt (nI n) i = n.testBit i := by
  show (BitVec.ofNat 32 n).getLsbD i = _
  rw [BitVec.getLsbD_ofNat]
  simp [hi]
theorem s_u : ∀ n, n < 32 → (((nI n).toUInt32 &&& Int32.toUInt32 31).toBitVec % 32).toNat = n := by decide +kernel
section ZB
variable {X : zm_X} {h : zm_H} {Q : zm_O → zm_H → Prop}
theorem s_Long_bitCount {x : Int64} (hq : Q (.inl (some (.int (nI (zf_ct (bl x) 0 64))))) h) : zp_wm X y_Long_bitCount [.long x] h Q := by
  obtain ⟨n, hn, rfl⟩ := wb_of x
  have hn : n < 2 ^ (8 * 8) := hn
  rw [zf_ct_cong (fun j _ hj => bl_N (n := n) (by omega)), ← pc_64] at hq
  have e1 := pc_n1 hn
  have e2 := pc_n2 hn
  have e3 := pc_n3 hn
  have M1 : zd 2 (fun _ => 1) 0 (4 * 8) = 6148914691236517205 := by decide +kernel
  have M2 : zd 4 (fun _ => 3) 0 (2 * 8) = 3689348814741910323 := by decide +kernel
  have M3 : zd 8 (fun _ => 15) 0 8 = 1085102592571150095 := by decide +kernel
  rw [M1] at e1
  rw [M2] at e2
  rw [M3] at e3
  have l1 : zd 2 (pc_c n) 0 (4 * 8) < 2 ^ 64 := zd_lt (w := 2) (fun j => by have := pc_c2 n j; omega) 32 0
  have l2 : zd 4 (pc_e n) 0 (2 * 8) < 2 ^ 64 := zd_lt (w := 4) (fun j => by have := pc_e4 n j; omega) 16 0
  have l3 : zd 8 (pc_f n) 0 8 < 2 ^ 64 := zd_lt (w := 8) (fun j => by have := pc_f8 n j; omega) 8 0
  have f1 : ∀ j, 8 ≤ j → pc_f n j = 0 := fun j hj => pc_f0 hn hj
  have e4 := pc_st (K := 8) (pc_f8 n) (by decide) f1 1
  have b4 : ∀ j, pc_f n j + pc_f n (j + 1) ≤ 16 := fun j => by have := pc_f8 n j; have := pc_f8 n (j + 1); omega
  have e5 := pc_st (K := 8) b4 (by decide) (fun j hj => by rw [f1 j hj, f1 _ (by omega)]) 2
  have b5 : ∀ j, pc_f n j + pc_f n (j + 1) + (pc_f n (j + 2) + pc_f n (j + 2 + 1)) ≤ 32 := fun j => by have := b4 j; have := b4 (j + 2); omega
  have e6 := pc_st (K := 8) b5 (by decide) (fun j hj => by rw [f1 j hj, f1 _ (by omega), f1 _ (by omega), f1 _ (by omega)]) 4
  have l4 : zd 8 (fun j => pc_f n j + pc_f n (j + 1)) 0 8 < 2 ^ 64 := zd_lt (w := 8) (fun j => by have := b4 j; omega) 8 0
  have l5 : zd 8 (fun j => pc_f n j + pc_f n (j + 1) + (pc_f n (j + 2) + pc_f n (j + 2 + 1))) 0 8 < 2 ^ 64 := zd_lt (w := 8) (fun j => by have := b5 j; omega) 8 0
  have a1 : n / 2 ^ 1 &&& 6148914691236517205 ≤ n := Nat.le_trans Nat.and_le_left (Nat.div_le_self _ _)
  show zp_wp X y_Long_bitCount 0 [.long (lN n), zm_mk] [] h Q
  refine zp_lload_n (x := lN n) rfl rfl ?_
  refine zp_lload_n (x := lN n) rfl rfl ?_
  refine zp_iconst (v := nI 1) rfl (by decide +kernel) ?_
  refine zp_lushr (v := lN (n / 2 ^ 1)) rfl (wb_shr hn (by decide)) ?_
  refine zp_ldc2 rfl ?_
  refine zp_land (v := lN (n / 2 ^ 1 &&& 6148914691236517205)) rfl (fb_andL _ _) ?_
  refine zp_lsub (v := lN (zd 2 (pc_c n) 0 (4 * 8))) rfl (by rw [lN_sub a1, e1]) ?_
  refine zp_lstore_n_0 rfl rfl ?_
  generalize zd 2 (pc_c n) 0 (4 * 8) = n1 at *
  refine zp_lload_n (x := lN n1) rfl rfl ?_
  refine zp_ldc2 rfl ?_
  refine zp_land (v := lN (n1 &&& 3689348814741910323)) rfl (fb_andL _ _) ?_
  refine zp_lload_n (x := lN n1) rfl rfl ?_
  refine zp_iconst (v := nI 2) rfl (by decide +kernel) ?_
  refine zp_lushr (v := lN (n1 / 2 ^ 2)) rfl (wb_shr l1 (by decide)) ?_
  refine zp_ldc2 rfl ?_
  refine zp_land (v := lN (n1 / 2 ^ 2 &&& 3689348814741910323)) rfl (fb_andL _ _) ?_
  refine zp_ladd (v := lN (zd 4 (pc_e n) 0 (2 * 8))) rfl (by rw [lN_add, e2]) ?_
  refine zp_lstore_n_0 rfl rfl ?_
  generalize zd 4 (pc_e n) 0 (2 * 8) = n2 at *
  refine zp_lload_n (x := lN n2) rfl rfl ?_
  refine zp_lload_n (x := lN n2) rfl rfl ?_
  refine zp_iconst (v := nI 4) rfl (by decide +kernel) ?_
  refine zp_lushr (v := lN (n2 / 2 ^ 4)) rfl (wb_shr l2 (by decide)) ?_
  refine zp_ladd (v := lN (n2 + n2 / 2 ^ 4)) rfl (lN_add _ _) ?_
  refine zp_ldc2 rfl ?_
  refine zp_land (v := lN (zd 8 (pc_f n) 0 8)) rfl ((fb_andL _ 1085102592571150095).trans (by rw [e3])) ?_
  refine zp_lstore_n_0 rfl rfl ?_
  refine zp_lload_n (x := lN (zd 8 (pc_f n) 0 8)) rfl rfl ?_
  refine zp_lload_n (x := lN (zd 8 (pc_f n) 0 8)) rfl rfl ?_
  refine zp_bipush (v := nI 8) rfl (by decide +kernel) ?_
  refine zp_lushr (v := lN (zd 8 (pc_f n) 0 8 / 2 ^ 8)) rfl (wb_shr l3 (by decide)) ?_
  refine zp_ladd (v := lN (zd 8 (fun j => pc_f n j + pc_f n (j + 1)) 0 8)) rfl (by rw [lN_add, ← e4]) ?_
  refine zp_lstore_n_0 rfl rfl ?_
  generalize zd 8 (fun j => pc_f n j + pc_f n (j + 1)) 0 8 = n4 at *
  refine zp_lload_n (x := lN n4) rfl rfl ?_
  refine zp_lload_n (x := lN n4) rfl rfl ?_
  refine zp_bipush (v := nI 16) rfl (by decide +kernel) ?_
  refine zp_lushr (v := lN (n4 / 2 ^ 16)) rfl (wb_shr l4 (by decide)) ?_
  refine zp_ladd (v := lN (zd 8 (fun j => pc_f n j + pc_f n (j + 1) + (pc_f n (j + 2) + pc_f n (j + 2 + 1))) 0 8)) rfl (by rw [lN_add, ← e5]) ?_
  refine zp_lstore_n_0 rfl rfl ?_
  generalize zd 8 (fun j => pc_f n j + pc_f n (j + 1) + (pc_f n (j + 2) + pc_f n (j + 2 + 1))) 0 8 = n5 at *
  refine zp_lload_n (x := lN n5) rfl rfl ?_
  refine zp_lload_n (x := lN n5) rfl rfl ?_
  refine zp_bipush (v := nI 32) rfl (by decide +kernel) ?_
  refine zp_lushr (v := lN (n5 / 2 ^ 32)) rfl (wb_shr l5 (by decide)) ?_
  refine zp_ladd (v := lN (n5 + n5 / 2 ^ 32)) rfl (lN_add _ _) ?_
  refine zp_lstore_n_0 rfl rfl ?_
  refine zp_lload_n (x := lN (n5 + n5 / 2 ^ 32)) rfl rfl ?_
  refine zp_l2i (v := nI (n5 + n5 / 2 ^ 32)) rfl (lN_i _) ?_
  refine zp_bipush (v := nI 127) rfl (by decide +kernel) ?_
  refine zp_iand (v := nI ((n5 + n5 / 2 ^ 32) % 2 ^ 7)) rfl (by rw [nx_and, show (127 : Nat) = 2 ^ 7 - 1 from rfl, Nat.and_two_pow_sub_one_eq_mod]) ?_
  refine zp_iret rfl rfl ?_
  rw [show n5 + n5 / 2 ^ 32 = n5 + n5 / 2 ^ (8 * 4) from rfl, e6, (pc_lo (k := 7)).2]
  have t1 : pc_f n 0 + pc_f n 1 + (pc_f n 2 + pc_f n 3) ≤ 32 := b5 0
  have t2 : pc_f n 4 + pc_f n 5 + (pc_f n 6 + pc_f n 7) ≤ 32 := b5 4
  show Q (.inl (some (.int (nI ((pc_f n 0 + pc_f n 1 + (pc_f n 2 + pc_f n 3) + (pc_f n 4 + pc_f n 5 + (pc_f n 6 + pc_f n 7))) % 2 ^ 7))))) h
  rw [Nat.mod_eq_of_lt (by omega)]
  exact hq
theorem s_Integer_bitCount {x : Int32} (hq : Q (.inl (some (.int (nI (zf_ct (bt x) 0 32))))) h) : zp_wm X y_Integer_bitCount [.int x] h Q := by
  obtain ⟨n, hn, rfl⟩ := wb_of32 x
  have hn : n < 2 ^ (8 * 4) := hn
  rw [zf_ct_cong (fun j _ hj => bt_N (n := n) (by omega)), ← pc_32] at hq
  have e1 := pc_n1 hn
  have e2 := pc_n2 hn
  have e3 := pc_n3 hn
  have M1 : zd 2 (fun _ => 1) 0 (4 * 4) = 1431655765 := by decide +kernel
  have M2 : zd 4 (fun _ => 3) 0 (2 * 4) = 858993459 := by decide +kernel
  have M3 : zd 8 (fun _ => 15) 0 4 = 252645135 := by decide +kernel
  rw [M1] at e1
  rw [M2] at e2
  rw [M3] at e3
  have l1 : zd 2 (pc_c n) 0 (4 * 4) < 2 ^ 32 := zd_lt (w := 2) (fun j => by have := pc_c2 n j; omega) 16 0
  have l2 : zd 4 (pc_e n) 0 (2 * 4) < 2 ^ 32 := zd_lt (w := 4) (fun j => by have := pc_e4 n j; omega) 8 0
  have l3 : zd 8 (pc_f n) 0 4 < 2 ^ 32 := zd_lt (w := 8) (fun j => by have := pc_f8 n j; omega) 4 0
  have f1 : ∀ j, 4 ≤ j → pc_f n j = 0 := fun j hj => pc_f0 hn hj
  have e4 := pc_st (K := 4) (pc_f8 n) (by decide) f1 1
  have b4 : ∀ j, pc_f n j + pc_f n (j + 1) ≤ 16 := fun j => by have := pc_f8 n j; have := pc_f8 n (j + 1); omega
  have e5 := pc_st (K := 4) b4 (by decide) (fun j hj => by rw [f1 j hj, f1 _ (by omega)]) 2
  have l4 : zd 8 (fun j => pc_f n j + pc_f n (j + 1)) 0 4 < 2 ^ 32 := zd_lt (w := 8) (fun j => by have := b4 j; omega) 4 0
  have a1 : n / 2 ^ 1 &&& 1431655765 ≤ n := Nat.le_trans Nat.and_le_left (Nat.div_le_self _ _)
  show zp_wp X y_Integer_bitCount 0 [.int (nI n)] [] h Q
  refine zp_iload_n (x := nI n) rfl rfl ?_
  refine zp_iload_n (x := nI n) rfl rfl ?_
  refine zp_iconst (v := nI 1) rfl (by decide +kernel) ?_
  refine zp_iushr (v := nI (n / 2 ^ 1)) rfl (pk_ushrN hn _ 1 (s_u 1 (by decide))) ?_
  refine zp_ldcw rfl ?_
  refine zp_iand (v := nI (n / 2 ^ 1 &&& 1431655765)) rfl (nx_and _ _) ?_
  refine zp_isub (v := nI (zd 2 (pc_c n) 0 (4 * 4))) rfl (by rw [pk_sub a1, e1]) ?_
  refine zp_istore_n_0 rfl rfl ?_
  generalize zd 2 (pc_c n) 0 (4 * 4) = n1 at *
  refine zp_iload_n (x := nI n1) rfl rfl ?_
  refine zp_ldcw rfl ?_
  refine zp_iand (v := nI (n1 &&& 858993459)) rfl (nx_and _ _) ?_
  refine zp_iload_n (x := nI n1) rfl rfl ?_
  refine zp_iconst (v := nI 2) rfl (by decide +kernel) ?_
  refine zp_iushr (v := nI (n1 / 2 ^ 2)) rfl (pk_ushrN l1 _ 2 (s_u 2 (by decide))) ?_
  refine zp_ldcw rfl ?_
  refine zp_iand (v := nI (n1 / 2 ^ 2 &&& 858993459)) rfl (nx_and _ _) ?_
  refine zp_iadd (v := nI (zd 4 (pc_e n) 0 (2 * 4))) rfl (by rw [nI_add, e2]) ?_
  refine zp_istore_n_0 rfl rfl ?_
  generalize zd 4 (pc_e n) 0 (2 * 4) = n2 at *
  refine zp_iload_n (x := nI n2) rfl rfl ?_
  refine zp_iload_n (x := nI n2) rfl rfl ?_
  refine zp_iconst (v := nI 4) rfl (by decide +kernel) ?_
  refine zp_iushr (v := nI (n2 / 2 ^ 4)) rfl (pk_ushrN l2 _ 4 (s_u 4 (by decide))) ?_
  refine zp_iadd (v := nI (n2 + n2 / 2 ^ 4)) rfl (nI_add _ _) ?_
  refine zp_ldcw rfl ?_
  refine zp_iand (v := nI (zd 8 (pc_f n) 0 4)) rfl ((nx_and _ 252645135).trans (by rw [e3])) ?_
  refine zp_istore_n_0 rfl rfl ?_
  refine zp_iload_n (x := nI (zd 8 (pc_f n) 0 4)) rfl rfl ?_
  refine zp_iload_n (x := nI (zd 8 (pc_f n) 0 4)) rfl rfl ?_
  refine zp_bipush (v := nI 8) rfl (by decide +kernel) ?_
  refine zp_iushr (v := nI (zd 8 (pc_f n) 0 4 / 2 ^ 8)) rfl (pk_ushrN l3 _ 8 (s_u 8 (by decide))) ?_
  refine zp_iadd (v := nI (zd 8 (fun j => pc_f n j + pc_f n (j + 1)) 0 4)) rfl (by rw [nI_add, ← e4]) ?_
  refine zp_istore_n_0 rfl rfl ?_
  generalize zd 8 (fun j => pc_f n j + pc_f n (j + 1)) 0 4 = n4 at *
  refine zp_iload_n (x := nI n4) rfl rfl ?_
  refine zp_iload_n (x := nI n4) rfl rfl ?_
  refine zp_bipush (v := nI 16) rfl (by decide +kernel) ?_
  refine zp_iushr (v := nI (n4 / 2 ^ 16)) rfl (pk_ushrN l4 _ 16 (s_u 16 (by decide))) ?_
  refine zp_iadd (v := nI (n4 + n4 / 2 ^ 16)) rfl (nI_add _ _) ?_
  refine zp_istore_n_0 rfl rfl ?_
  refine zp_iload_n (x := nI (n4 + n4 / 2 ^ 16)) rfl rfl ?_
  refine zp_bipush (v := nI 63) rfl (by decide +kernel) ?_
  refine zp_iand (v := nI ((n4 + n4 / 2 ^ 16) % 2 ^ 6)) rfl (by rw [nx_and, show (63 : Nat) = 2 ^ 6 - 1 from rfl, Nat.and_two_pow_sub_one_eq_mod]) ?_
  refine zp_iret rfl rfl ?_
  rw [show n4 + n4 / 2 ^ 16 = n4 + n4 / 2 ^ (8 * 2) from rfl, e5, (pc_lo (k := 3)).1]
  have t1 : pc_f n 0 + pc_f n 1 ≤ 16 := b4 0
  have t2 : pc_f n 2 + pc_f n 3 ≤ 16 := b4 2
  show Q (.inl (some (.int (nI ((pc_f n 0 + pc_f n 1 + (pc_f n 2 + pc_f n 3)) % 2 ^ 6))))) h
  rw [Nat.mod_eq_of_lt (by omega)]
  exact hq
end ZB
