/-! the small machine: the same code over a small heap; its runs are what the real machine does (part 08) -/
abbrev zm_E : Type := (Nat × vp_A) ⊕ (Nat × List Value)
/-- cells, how many, slots, exceptions made (then nothing else is made any more) -/
abbrev zm_H : Type := (Nat → zm_E) × Nat × Nat × Nat
abbrev zm_S : Type := Nat × List Value × List Value × zm_H
/-- returned, or thrown: the number of the exception's class -/
abbrev zm_O : Type := (Option Value) ⊕ Nat
/-- the script: its length, its ints -/
abbrev zm_X : Type := Nat × (Nat → Int32)
/-- a local that isn't set -/
def zm_mk : Value := .float 0
def zm_lk1 : List zm_I → Nat → Option (zm_R × Nat)
  | [], _ => none
  | (k, r) :: t, pc => cond (Nat.beq k pc) (some r) (zm_lk1 t pc)
def zm_lk : zm_C → Nat → Option (zm_R × Nat)
  | [], _ => none
  | (b, c) :: t, pc => cond (Nat.ble pc b) (zm_lk1 c pc) (zm_lk t pc)
def zm_put (h : zm_H) (i : Nat) (e : zm_E) : zm_H := (va_up h.1 i e, h.2)
def zm_new (h : zm_H) (e : zm_E) (k : Nat) : zm_H := (va_up h.1 h.2.1 e, h.2.1 + 1, h.2.2.1 + k, h.2.2.2)
def zm_pv (ls : List Value) (i : Nat) : Bool := match i with
  | 0 => true
  | j + 1 => match ls[j]? with
    | some (.long _) => false
    | some (.double _) => false
    | _ => true
def zm_sto (ls : List Value) (i : Nat) (v : Value) : Option (List Value) := cond (Nat.blt i ls.length && zm_pv ls i) (some (ls.set i v)) none
def zm_sto2 (ls : List Value) (i : Nat) (v : Value) : Option (List Value) := cond (Nat.blt (i + 1) ls.length && zm_pv ls i) (some ((ls.set i v).set (i + 1) zm_mk)) none
def zm_c0 (k : ClassFile.Cond) (x : Int32) : Bool := match k with
  | .eq => decide (x = 0)
  | .ne => decide (¬ x = 0)
  | .lt => decide (x < 0)
  | .ge => decide (0 ≤ x)
  | .gt => decide (0 < x)
  | .le => decide (x ≤ 0)
def zm_c2 (k : ClassFile.Cond) (x y : Int32) : Bool := match k with
  | .eq => decide (x = y)
  | .ne => decide (¬ x = y)
  | .lt => decide (x < y)
  | .ge => decide (y ≤ x)
  | .gt => decide (y < x)
  | .le => decide (x ≤ y)
def zm_jmp (pc : Nat) (off : Int) (ls st : List Value) (h : zm_H) : Option zm_S := if 0 ≤ (pc : Int) + off then some (((pc : Int) + off).toNat, ls, st, h) else none
def zm_br (b : Bool) (pc pc' : Nat) (off : Int) (ls st : List Value) (h : zm_H) : Option zm_S := if 0 ≤ (pc : Int) + off then some (cond b ((pc : Int) + off).toNat pc', ls, st, h) else none
def zm_ii (f : Int32 → Int32 → Int32) (pc' : Nat) (ls st : List Value) (h : zm_H) : Option zm_S := match st with
  | .int y :: .int x :: t => some (pc', ls, .int (f x y) :: t, h)
  | _ => none
def zm_ll (f : Int64 → Int64 → Int64) (pc' : Nat) (ls st : List Value) (h : zm_H) : Option zm_S := match st with
  | .long y :: .long x :: t => some (pc', ls, .long (f x y) :: t, h)
  | _ => none
def zm_li (f : Int64 → Int32 → Int64) (pc' : Nat) (ls st : List Value) (h : zm_H) : Option zm_S := match st with
  | .int y :: .long x :: t => some (pc', ls, .long (f x y) :: t, h)
  | _ => none
def zm_iload (k pc' : Nat) (ls st : List Value) (h : zm_H) : Option zm_S := match ls[k]? with
  | some (.int x) => some (pc', ls, .int x :: st, h)
  | _ => none
def zm_lload (k pc' : Nat) (ls st : List Value) (h : zm_H) : Option zm_S := match ls[k]? with
  | some (.long x) => some (pc', ls, .long x :: st, h)
  | _ => none
def zm_aload (k pc' : Nat) (ls st : List Value) (h : zm_H) : Option zm_S := match ls[k]? with
  | some (.ref x) => some (pc', ls, .ref x :: st, h)
  | some (.retAddr x) => some (pc', ls, .retAddr x :: st, h)
  | _ => none
def zm_istore (k pc' : Nat) (ls st : List Value) (h : zm_H) : Option zm_S := match st with
  | .int x :: t => (zm_sto ls k (.int x)).map (fun l => (pc', l, t, h))
  | _ => none
def zm_lstore (k pc' : Nat) (ls st : List Value) (h : zm_H) : Option zm_S := match st with
  | .long x :: t => (zm_sto2 ls k (.long x)).map (fun l => (pc', l, t, h))
  | _ => none
def zm_astore (k pc' : Nat) (ls st : List Value) (h : zm_H) : Option zm_S := match st with
  | .ref x :: t => (zm_sto ls k (.ref x)).map (fun l => (pc', l, t, h))
  | _ => none
/-- an int array at a, a long array, an array of references -/
def zm_iarr (h : zm_H) (a : Nat) : Option (Nat × (Nat → Int32)) := match h.1 a with
  | .inl (0, n, .inl f) => cond (Nat.blt a h.2.1) (some (n, f)) none
  | _ => none
def zm_larr (h : zm_H) (a : Nat) : Option (Nat × (Nat → Int64)) := match h.1 a with
  | .inl (1, n, .inr (.inl f)) => cond (Nat.blt a h.2.1) (some (n, f)) none
  | _ => none
def zm_qarr (h : zm_H) (a : Nat) : Option (Nat × (Nat → Option Nat)) := match h.1 a with
  | .inl (2, n, .inr (.inr (.inr (.inr f)))) => cond (Nat.blt a h.2.1) (some (n, f)) none
  | _ => none
def zm_obj (h : zm_H) (a : Nat) : Option (Nat × List Value) := match h.1 a with
  | .inr x => cond (Nat.blt a h.2.1) (some x) none
  | _ => none
/-- an instruction that reads no pool: the next state -/
def zm_st (X : zm_X) (i : Instr) (pc pc' : Nat) (ls st : List Value) (h : zm_H) : Option zm_S := match i with
  | .iconst n => some (pc', ls, .int (Int32.ofInt n) :: st, h)
  | .bipush n => some (pc', ls, .int (Int8.ofInt n).toInt32 :: st, h)
  | .sipush n => some (pc', ls, .int (Int16.ofInt n).toInt32 :: st, h)
  | .lconst n => some (pc', ls, .long (Int64.ofNat n) :: st, h)
  | .iload k => zm_iload k pc' ls st h
  | .iload_n k => zm_iload k pc' ls st h
  | .lload k => zm_lload k pc' ls st h
  | .lload_n k => zm_lload k pc' ls st h
  | .aload k => zm_aload k pc' ls st h
  | .aload_n k => zm_aload k pc' ls st h
  | .istore k => zm_istore k pc' ls st h
  | .istore_n k => zm_istore k pc' ls st h
  | .lstore k => zm_lstore k pc' ls st h
  | .lstore_n k => zm_lstore k pc' ls st h
  | .astore k => zm_astore k pc' ls st h
  | .astore_n k => zm_astore k pc' ls st h
  | .iinc k c => match ls[k]? with
    | some (.int x) => (zm_sto ls k (.int (x + Int32.ofInt c))).map (fun l => (pc', l, st, h))
    | _ => none
  | .iadd => zm_ii (fun x y => x + y) pc' ls st h
  | .isub => zm_ii (fun x y => x - y) pc' ls st h
  | .imul => zm_ii (fun x y => x * y) pc' ls st h
  | .iand => zm_ii (fun x y => x &&& y) pc' ls st h
  | .ior => zm_ii (fun x y => x ||| y) pc' ls st h
  | .ixor => zm_ii (fun x y => x ^^^ y) pc' ls st h
  | .ishl => zm_ii (fun x y => x <<< (y &&& 31)) pc' ls st h
  | .ishr => zm_ii (fun x y => x >>> (y &&& 31)) pc' ls st h
  | .iushr => zm_ii (fun x y => (x.toUInt32 >>> (y.toUInt32 &&& Int32.toUInt32 31)).toInt32) pc' ls st h
  | .idiv => match st with
    | .int y :: .int x :: t => if y = 0 then none else some (pc', ls, .int (x / y) :: t, h)
    | _ => none
  | .irem => match st with
    | .int y :: .int x :: t => if y = 0 then none else some (pc', ls, .int (x - x / y * y) :: t, h)
    | _ => none
  | .ladd => zm_ll (fun x y => x + y) pc' ls st h
  | .lsub => zm_ll (fun x y => x - y) pc' ls st h
  | .lmul => zm_ll (fun x y => x * y) pc' ls st h
  | .land => zm_ll (fun x y => x &&& y) pc' ls st h
  | .lor => zm_ll (fun x y => x ||| y) pc' ls st h
  | .lxor => zm_ll (fun x y => x ^^^ y) pc' ls st h
  | .lshl => zm_li (fun x y => x <<< (y.toInt64 &&& 63)) pc' ls st h
  | .lshr => zm_li (fun x y => x >>> (y.toInt64 &&& 63)) pc' ls st h
  | .lushr => zm_li (fun x y => (x.toUInt64 >>> (y.toInt64.toUInt64 &&& Int64.toUInt64 63)).toInt64) pc' ls st h
  | .i2l => match st with
    | .int x :: t => some (pc', ls, .long x.toInt64 :: t, h)
    | _ => none
  | .l2i => match st with
    | .long x :: t => some (pc', ls, .int x.toInt32 :: t, h)
    | _ => none
  | .lcmp => match st with
    | .long y :: .long x :: t => some (pc', ls, .int (lg_cmp x y) :: t, h)
    | _ => none
  | .dup => match st with
    | v :: t => cond (Nat.beq v.category 1) (some (pc', ls, v :: v :: t, h)) none
    | _ => none
  | .dup2 => match st with
    | va :: vb :: t => cond (Nat.beq va.category 1 && Nat.beq vb.category 1) (some (pc', ls, va :: vb :: va :: vb :: t, h)) none
    | _ => none
  | .pop => match st with
    | v :: t => cond (Nat.beq v.category 1) (some (pc', ls, t, h)) none
    | _ => none
  | .ifCond c off => match st with
    | .int x :: t => zm_br (zm_c0 c x) pc pc' off ls t h
    | _ => none
  | .if_icmp c off => match st with
    | .int y :: .int x :: t => zm_br (zm_c2 c x y) pc pc' off ls t h
    | _ => none
  | .goto off => zm_jmp pc off ls st h
  | .tableswitch d lo hi offs => match st with
    | .int x :: t => if x.toInt < lo ∨ hi < x.toInt then zm_jmp pc d ls t h else match offs[(x.toInt - lo).toNat]? with
      | some off => zm_jmp pc off ls t h
      | none => none
    | _ => none
  | .iaload => match st with
    | .int j :: .ref a :: t => match zm_iarr h a with
      | some (n, f) => if j < 0 ∨ n ≤ j.toNatClampNeg then none else some (pc', ls, .int (f j.toNatClampNeg) :: t, h)
      | none => none
    | .int j :: .retAddr _ :: t => if j < 0 ∨ X.1 ≤ j.toNatClampNeg then none else some (pc', ls, .int (X.2 j.toNatClampNeg) :: t, h)
    | _ => none
  | .laload => match st with
    | .int j :: .ref a :: t => match zm_larr h a with
      | some (n, f) => if j < 0 ∨ n ≤ j.toNatClampNeg then none else some (pc', ls, .long (f j.toNatClampNeg) :: t, h)
      | none => none
    | _ => none
  | .aaload => match st with
    | .int j :: .ref a :: t => match zm_qarr h a with
      | some (n, f) => if j < 0 ∨ n ≤ j.toNatClampNeg then none else match f j.toNatClampNeg with
        | some q => some (pc', ls, .ref q :: t, h)
        | none => none
      | none => none
    | _ => none
  | .iastore => match st with
    | .int x :: .int j :: .ref a :: t => match zm_iarr h a with
      | some (n, f) => if j < 0 ∨ n ≤ j.toNatClampNeg then none else some (pc', ls, t, zm_put h a (.inl (0, n, .inl (upd f j.toNatClampNeg x))))
      | none => none
    | _ => none
  | .lastore => match st with
    | .long x :: .int j :: .ref a :: t => match zm_larr h a with
      | some (n, f) => if j < 0 ∨ n ≤ j.toNatClampNeg then none else some (pc', ls, t, zm_put h a (.inl (1, n, .inr (.inl (vp_updL f j.toNatClampNeg x)))))
      | none => none
    | _ => none
  | .aastore => match st with
    | .ref v :: .int j :: .ref a :: t => match zm_qarr h a, zm_obj h v with
      | some (n, f), some (0, _) => if j < 0 ∨ n ≤ j.toNatClampNeg then none else some (pc', ls, t, zm_put h a (.inl (2, n, .inr (.inr (.inr (.inr (va_up f j.toNatClampNeg (some v))))))))
      | _, _ => none
    | _ => none
  | .arraylength => match st with
    | .ref a :: t => match zm_iarr h a with
      | some (n, _) => some (pc', ls, .int (Int32.ofNat n) :: t, h)
      | none => none
    | .retAddr _ :: t => some (pc', ls, .int (Int32.ofNat X.1) :: t, h)
    | _ => none
  | .newarray ty => match st with
    | .int n :: t => if n < 0 ∨ 10000 ≤ n.toNatClampNeg ∨ ¬ h.2.2.2 = 0 then none else match ty with
      | .int => some (pc', ls, .ref h.2.1 :: t, zm_new h (.inl (0, n.toNatClampNeg, .inl (fun _ => 0))) n.toNatClampNeg)
      | .long => some (pc', ls, .ref h.2.1 :: t, zm_new h (.inl (1, n.toNatClampNeg, .inr (.inl (fun _ => 0)))) n.toNatClampNeg)
      | _ => none
    | _ => none
  | _ => none
/-- a return, by the method's type -/
def zm_ret (i : Instr) (rt : Option FieldType) (st : List Value) : Option (Option Value) := match i with
  | .ireturn => match st with
    | [.int v] => match rt with
      | some .int => some (some (.int v))
      | some .boolean => if v = 0 ∨ v = 1 then some (some (.int v)) else none
      | _ => none
    | _ => none
  | .lreturn => match st with
    | [.long v] => match rt with
      | some .long => some (some (.long v))
      | _ => none
    | _ => none
  | .areturn => match st with
    | [.ref v] => match rt with
      | some (.object _) => some (some (.ref v))
      | _ => none
    | _ => none
  | .return_ => match st with
    | [] => match rt with
      | none => some none
      | _ => none
    | _ => none
  | _ => none
def zm_wd (st : List Value) : Nat := (st.map fun v => v.category).sum
def zm_pop : Nat → List Value → List Value → Option (List Value × List Value)
  | 0, acc, st => some (acc, st)
  | n + 1, acc, v :: t => zm_pop n (v :: acc) t
  | _ + 1, _, [] => none
def zm_exp : List Value → List Value
  | [] => []
  | .long x :: t => .long x :: zm_mk :: zm_exp t
  | .double x :: t => .double x :: zm_mk :: zm_exp t
  | v :: t => v :: zm_exp t
def zm_ent (args : List Value) (mx : Nat) : List Value := zm_exp args ++ List.replicate (mx - (zm_exp args).length) zm_mk
/-- a call: the callee's arguments, and the rest of the stack -/
def zm_cal (k a y : Nat) (st : List Value) (h : zm_H) : Option (List Value × List Value) :=
  cond (Nat.blt (zm_lv a) (zm_lv y) && Nat.blt a zm_nM)
    (match k with
    | 3 | 4 | 15 => match zm_pop (zm_ar a) [] st with
      | some (as, rest) => cond (Nat.ble (zm_wd rest) 8 && Nat.ble (zm_exp as).length (zm_mx a)) (some (as, rest)) none
      | none => none
    | 5 => match zm_pop (zm_ar a) [] st with
      | some (as, .ref r :: rest) => match zm_obj h r with
        | some (c, _) => cond (Nat.beq c (zm_own a) && Nat.ble (zm_wd rest) 8 && Nat.ble (zm_exp (.ref r :: as)).length (zm_mx a)) (some (.ref r :: as, rest)) none
        | none => none
      | _ => none
    | 6 | 7 => match zm_pop (zm_ar a) [] st with
      | some (as, .ref r :: rest) => cond (Nat.ble (zm_wd rest) 8 && Nat.ble (zm_exp (.ref r :: as)).length (zm_mx a)) (some (.ref r :: as, rest)) none
      | _ => none
    | _ => none) none
def zm_dv : FieldType → Value
  | .int => .int 0
  | _ => .null
def zm_fit (ty : FieldType) (v : Value) : Bool := match ty, v with
  | .int, .int _ => true
  | .object _, .ref _ => true
  | .array _, .ref _ => true
  | _, _ => false
/-- an instruction by the pool, that is no call -/
def zm_rs (k idx a b pc' : Nat) (ls st : List Value) (h : zm_H) : Option zm_S := match k with
  | 0 => match st with
    | .ref q :: t => match zm_obj h q with
      | some (c, fs) => cond (Nat.beq c a) (match fs[b]? with
        | some v => some (pc', ls, v :: t, h)
        | none => none) none
      | none => none
    | _ => none
  | 1 | 2 => match st with
    | v :: .ref q :: t => match zm_obj h q with
      | some (c, fs) => cond (Nat.beq c a && Nat.blt b fs.length && zm_fit (zm_ty a b) v) (some (pc', ls, t, zm_put h q (.inr (a, fs.set b v)))) none
      | none => none
    | _ => none
  | 8 => match st with
    | .ref _ :: t => cond (Nat.ble (zm_wd t) 8) (some (pc', ls, t, h)) none
    | _ => none
  | 9 => cond (!Nat.beq h.2.2.2 0) none (some (pc', ls, .ref h.2.1 :: st, zm_new h (.inr (a, (List.range (zm_N a)).map (fun j => zm_dv (zm_ty a j)))) (zm_N a)))
  | 10 => match st with
    | .int n :: t => if n < 0 ∨ 10000 ≤ n.toNatClampNeg ∨ ¬ h.2.2.2 = 0 then none else some (pc', ls, .ref h.2.1 :: t, zm_new h (.inl (2, n.toNatClampNeg, .inr (.inr (.inr (.inr (fun _ => none)))))) n.toNatClampNeg)
    | _ => none
  | 11 => match st with
    | .int n :: .int dp :: .ref q1 :: .int sp :: .ref q0 :: t => if sp < 0 ∨ dp < 0 ∨ n < 0 ∨ 8 < zm_wd t then none else match zm_iarr h q0, zm_iarr h q1 with
      | some (n0, f), some (n1, g) => if sp.toNatClampNeg + n.toNatClampNeg ≤ n0 ∧ dp.toNatClampNeg + n.toNatClampNeg ≤ n1 then some (pc', ls, t, zm_put h q1 (.inl (0, n1, .inl (va_cpy f g sp.toNatClampNeg dp.toNatClampNeg n.toNatClampNeg)))) else none
      | _, _ => match zm_larr h q0, zm_larr h q1 with
        | some (n0, f), some (n1, g) => if sp.toNatClampNeg + n.toNatClampNeg ≤ n0 ∧ dp.toNatClampNeg + n.toNatClampNeg ≤ n1 then some (pc', ls, t, zm_put h q1 (.inl (1, n1, .inr (.inl (va_cpy f g sp.toNatClampNeg dp.toNatClampNeg n.toNatClampNeg))))) else none
        | _, _ => none
    | _ => none
  | 16 => match st with
    | .int y :: .int x :: t => cond (Nat.ble (zm_wd t) 8) (some (pc', ls, .int (cond (Nat.beq a 0) (if x < y then y else x) (if y < x then y else x)) :: t, h)) none
    | _ => none
  | 13 => some (pc', ls, .int (Int32.ofNat a) :: st, h)
  | 14 => some (pc', ls, .long (Int64.ofNat a) :: st, h)
  | _ => none
/-- the handler that takes exception E at pc: its answer -/
def zm_cat : List zm_Hd → Nat → Nat → Option Nat
  | [], _, _ => none
  | (f, t, x, j, _) :: l, pc, E => cond (Nat.ble f pc && Nat.blt pc t && Nat.beq x E) (some j) (zm_cat l pc E)
noncomputable def zm_run (X : zm_X) : Nat → Nat → Nat → List Value → List Value → zm_H → Option (zm_O × zm_H)
  | 0, _, _, _, _, _ => none
  | n + 1, y, pc, ls, st, h =>
    match zm_lk (zm_cd y) pc with
    | none => none
    | some (.inl i, pc') =>
      match zm_ret i (zm_rt y) st with
      | some v => some (.inl v, h)
      | none => match zm_st X i pc pc' ls st h with
        | none => none
        | some (pc2, ls2, st2, h2) => zm_run X n y pc2 ls2 st2 h2
    | some (.inr (k, idx, a, b), pc') =>
      match zm_cal k a y st h with
      | some (as, rest) =>
        match zm_run X n a 0 (zm_ent as (zm_mx a)) [] h with
        | none => none
        | some (.inl v, h2) => zm_run X n y pc' ls (v.toList ++ rest) h2
        | some (.inr E, h2) => match zm_cat (zm_hd y) pc E with
          | some j => some (.inl (some (.int (Int32.ofNat j))), h2)
          | none => some (.inr E, h2)
      | none =>
        cond (Nat.beq k 12) (cond (Nat.ble (zm_wd st) 8) (some (.inr a, (h.1, h.2.1, h.2.2.1 + 6, h.2.2.2 + 1))) none)
          (match zm_rs k idx a b pc' ls st h with
          | none => none
          | some (pc2, ls2, st2, h2) => zm_run X n y pc2 ls2 st2 h2)
