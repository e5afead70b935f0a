def zm_ex : Nat → String := fun k => match k with
  | 0 => "java/lang/IndexOutOfBoundsException"
  | 1 => "java/lang/IllegalArgumentException"
  | _ => "java/lang/IllegalStateException"
def zm_xk : List (Nat × Nat × Nat) := [(6, 84, 0), (6, 153, 2), (6, 227, 1), (8, 13, 0), (8, 15, 1), (8, 17, 2)]
def zm_xkp : List Nat := [439, 541, 525, 424, 425, 426]
def zm_xkw (q : Nat × Nat × Nat) : Cond := .classLink (zm_cn q.1) q.2.1 (zm_ex q.2.2)
theorem zm_xk_in : ∀ q ∈ zm_xk, zm_xkw q ∈ lw_tbl := zm_all_in (p := zm_xkp) (by decide +kernel)
/-- throws: method, pc, exception, index of the class, of the text, of the constructor, wide -/
def zm_sites : List (Nat × Nat × Nat × Nat × Nat × Nat × Bool) := [(9, 9, 0, 84, 242, 88, false), (41, 32, 1, 227, 229, 231, false), (41, 58, 2, 153, 232, 157, false), (105, 14, 0, 84, 86, 88, false), (110, 7, 1, 227, 248, 231, false), (124, 7, 1, 227, 253, 231, false), (145, 15, 0, 84, 255, 88, false), (150, 64, 0, 84, 151, 88, false), (156, 10, 2, 153, 155, 157, false), (161, 17, 0, 84, 257, 88, true), (212, 25, 1, 227, 259, 231, true), (244, 12, 0, 84, 209, 88, false)]
def zm_text : Nat → String := fun k => match k with
  | 0 => "version is not 0 or 1"
  | 1 => "a name is illegal"
  | 2 => "the log is full"
  | 3 => "there is no such class"
  | 4 => "a class name is not from A to Z"
  | 5 => "a member name is not from a to z"
  | 6 => "there is no such change"
  | 7 => "which is not from 0 to 3"
  | 8 => "the log is empty"
  | 9 => "there is no such change, or none behind it"
  | 10 => "the selection has a bit without a change"
  | _ => "no replay had such a change"
def zm_len : Instr → Nat
  | .bipush _ | .iload _ | .lload _ | .aload _ | .istore _ | .lstore _ | .astore _ | .newarray _ => 2
  | .sipush _ | .iinc _ _ | .ifCond _ _ | .if_icmp _ _ | .goto _ => 3
  | .tableswitch _ _ _ _ => 0
  | _ => 1
def zm_dc (y pc : Nat) (i : Instr) (n : Nat) : Bool := decide (decode (zm_by y) pc = .ok (i, n))
def zm_okI (y : Nat) (q : zm_I) : Bool := match q with
  | (pc, .inl i, pc') => zm_dc y pc i (pc' - pc) && (Nat.beq pc' (pc + zm_len i) || Nat.beq (zm_len i) 0)
  | (pc, .inr (k, idx, a, b), pc') => match k with
    | 0 => zm_dc y pc (.getfield idx) 3 && Nat.beq pc' (pc + 3) && decide ((zm_own y, idx, a, b) ∈ zm_fl) && Nat.blt b (zm_N a) && Nat.blt a 8
    | 1 => zm_dc y pc (.putfield idx) 3 && Nat.beq pc' (pc + 3) && decide ((zm_own y, idx, a, b) ∈ zm_fl) && Nat.blt b (zm_N a) && Nat.blt a 8 && !(zm_T a b).2.2.2
    | 2 => zm_dc y pc (.putfield idx) 3 && Nat.beq pc' (pc + 3) && decide ((zm_own y, idx, a, b) ∈ zm_fl) && Nat.blt b (zm_N a) && Nat.blt a 8 && (zm_T a b).2.2.2 && decide ((zm_md y).1 = "<init>") && decide ((zm_T a b).1 = zm_cn (zm_own y))
    | 3 => zm_dc y pc (.invokestatic idx) 3 && Nat.beq pc' (pc + 3) && decide ((zm_own y, idx, a) ∈ zm_ml) && Nat.beq (zm_kd a) 0
    | 4 => zm_dc y pc (.invokestatic idx) 3 && Nat.beq pc' (pc + 3) && decide ((zm_own y, idx, a) ∈ zm_nl) && Nat.beq (zm_kd a) 0
    | 5 => zm_dc y pc (.invokevirtual idx) 3 && Nat.beq pc' (pc + 3) && decide ((zm_own y, idx, a) ∈ zm_ml) && Nat.beq (zm_kd a) 1 && Nat.blt (zm_own a) 8
    | 6 => zm_dc y pc (.invokespecial idx) 3 && Nat.beq pc' (pc + 3) && decide ((zm_own y, idx, a) ∈ zm_ml) && Nat.beq (zm_kd a) 2
    | 7 => zm_dc y pc (.invokespecial idx) 3 && Nat.beq pc' (pc + 3) && decide ((zm_own y, idx, a) ∈ zm_nl) && Nat.beq (zm_kd a) 2
    | 8 => zm_dc y pc (.invokespecial idx) 3 && Nat.beq pc' (pc + 3) && decide ((zm_own y, idx) ∈ zm_ob)
    | 9 => zm_dc y pc (.new idx) 3 && Nat.beq pc' (pc + 3) && decide ((zm_own y, idx, a) ∈ zm_ck) && Nat.blt a 8
    | 10 => zm_dc y pc (.anewarray idx) 3 && Nat.beq pc' (pc + 3) && decide ((zm_own y, idx, 0) ∈ zm_ck)
    | 11 => zm_dc y pc (.invokestatic idx) 3 && Nat.beq pc' (pc + 3) && decide ((zm_own y, idx) ∈ zm_ac) && Nat.ble 3 (zm_lv y)
    | 12 => match zm_sites[b]? with
      | some (y', p', E, ik, is, ic, wide) => Nat.beq y y' && Nat.beq pc p' && Nat.beq a E && Nat.blt a 3 && Nat.beq (zm_own y) 6 && decide ((6, ik, E) ∈ zm_xk) && Nat.ble 6 (zm_lv y) && Nat.beq (zm_hd y).length 0 && decide ((E, ic) ∈ [(0, 88), (1, 231), (2, 157)]) && zm_dc y pc (.new ik) 3 && zm_dc y (pc + 3) .dup 1 &&
        cond wide (zm_dc y (pc + 4) (.ldc_w is) 3 && zm_dc y (pc + 7) (.invokespecial ic) 3 && zm_dc y (pc + 10) .athrow 1) (zm_dc y (pc + 4) (.ldc is) 2 && zm_dc y (pc + 6) (.invokespecial ic) 3 && zm_dc y (pc + 9) .athrow 1)
      | none => false
    | 13 => zm_dc y pc (.ldc_w idx) 3 && Nat.beq pc' (pc + 3) && decide ((zm_own y, idx, a) ∈ zm_ic)
    | 14 => zm_dc y pc (.ldc2_w idx) 3 && Nat.beq pc' (pc + 3) && decide ((zm_own y, idx, a) ∈ zm_lc)
    | 16 => zm_dc y pc (.invokestatic idx) 3 && Nat.beq pc' (pc + 3) && decide ((zm_own y, idx, a) ∈ zm_mm) && Nat.blt a 2 && Nat.ble 3 (zm_lv y)
    | 15 => zm_dc y pc (.invokestatic idx) 3 && Nat.beq pc' (pc + 3) && decide ((zm_own y, idx, a) ∈ zm_ml) && Nat.beq (zm_kd a) 3
    | _ => false
noncomputable def zm_okC (y : Nat) : Bool := (zm_cd y).all (fun q => q.2.all (zm_okI y))
/-- a method's own facts -/
def zm_okn (y : Nat) : Bool := plainName (zm_nm y).cls && decide ((zm_nm y).cls ≠ "java/lang/invoke/MethodHandle") && decide ((zm_nm y).cls ≠ "java/lang/invoke/VarHandle") && decide ((parseMethodDescriptor (zm_nm y).desc).map (fun d => d.parameters.length) = some (zm_ar y)) && Nat.ble (zm_mx y) 21 && Nat.ble 1 (zm_lv y) && (Nat.beq (zm_kd y) 3 || (Nat.beq (zm_hd y).length 0 && Nat.beq (zm_hh y).length 0)) && (!Nat.beq (zm_kd y) 2 || (decide ((zm_md y).1 = "<init>") && decide (zm_rt y = none)))
/-- the handlers -/
def zm_okh1 (y : Nat) (q : zm_Hd × (Nat × Nat × Nat × Nat)) : Bool := match q with
  | ((f, t, x, j, tg, sl, sh), (f', t', tg', ct)) => Nat.beq f f' && Nat.beq t t' && Nat.beq tg tg' && Nat.blt x 3 && Nat.blt j 6 && Nat.blt sl (zm_mx y) && !Nat.beq ct 0 && decide ((zm_own y, ct, x) ∈ zm_xk) && cond sh (zm_dc y tg (.astore_n (Fin.ofNat 4 sl)) 1 && Nat.blt sl 4 && zm_dc y (tg + 1) (.iconst (j : Int)) 1 && zm_dc y (tg + 2) .ireturn 1) (zm_dc y tg (.astore sl) 2 && zm_dc y (tg + 2) (.iconst (j : Int)) 1 && zm_dc y (tg + 3) .ireturn 1)
def zm_okh (y : Nat) : Bool := !Nat.beq (zm_kd y) 3 || ((zm_hd y).zip (zm_hh y)).all (zm_okh1 y) && Nat.beq (zm_hd y).length (zm_hh y).length && decide (zm_rt y = some .int)
noncomputable def zm_oka (y : Nat) : Bool := zm_okC y && zm_okn y && zm_okh y
theorem zm_ka_0 : zm_oka 0 = true := by decide +kernel
theorem zm_ka_1 : zm_oka 1 = true := by decide +kernel
theorem zm_ka_2 : zm_oka 2 = true := by decide +kernel
theorem zm_ka_3 : zm_oka 3 = true := by decide +kernel
theorem zm_ka_4 : zm_oka 4 = true := by decide +kernel
theorem zm_ka_5 : zm_oka 5 = true := by decide +kernel
theorem zm_ka_6 : zm_oka 6 = true := by decide +kernel
theorem zm_ka_7 : zm_oka 7 = true := by decide +kernel
theorem zm_ka_8 : zm_oka 8 = true := by decide +kernel
theorem zm_ka_9 : zm_oka 9 = true := by decide +kernel
theorem zm_ka_10 : zm_oka 10 = true := by decide +kernel
theorem zm_ka_11 : zm_oka 11 = true := by decide +kernel
theorem zm_ka_12 : zm_oka 12 = true := by decide +kernel
theorem zm_ka_13 : zm_oka 13 = true := by decide +kernel
theorem zm_ka_14 : zm_oka 14 = true := by decide +kernel
theorem zm_ka_15 : zm_oka 15 = true := by decide +kernel
theorem zm_ka_16 : zm_oka 16 = true := by decide +kernel
theorem zm_ka_17 : zm_oka 17 = true := by decide +kernel
theorem zm_ka_18 : zm_oka 18 = true := by decide +kernel
theorem zm_ka_19 : zm_oka 19 = true := by decide +kernel
theorem zm_ka_20 : zm_oka 20 = true := by decide +kernel
theorem zm_ka_21 : zm_oka 21 = true := by decide +kernel
theorem zm_ka_22 : zm_oka 22 = true := by decide +kernel
theorem zm_ka_23 : zm_oka 23 = true := by decide +kernel
theorem zm_ka_24 : zm_oka 24 = true := by decide +kernel
theorem zm_ka_25 : zm_oka 25 = true := by decide +kernel
theorem zm_ka_26 : zm_oka 26 = true := by decide +kernel
theorem zm_ka_27 : zm_oka 27 = true := by decide +kernel
theorem zm_ka_28 : zm_oka 28 = true := by decide +kernel
theorem zm_ka_29 : zm_oka 29 = true := by decide +kernel
theorem zm_ka_30 : zm_oka 30 = true := by decide +kernel
theorem zm_ka_31 : zm_oka 31 = true := by decide +kernel
theorem zm_ka_32 : zm_oka 32 = true := by decide +kernel
theorem zm_ka_33 : zm_oka 33 = true := by decide +kernel
theorem zm_ka_34 : zm_oka 34 = true := by decide +kernel
theorem zm_ka_35 : zm_oka 35 = true := by decide +kernel
theorem zm_ka_36 : zm_oka 36 = true := by decide +kernel
theorem zm_ka_37 : zm_oka 37 = true := by decide +kernel
theorem zm_ka_38 : zm_oka 38 = true := by decide +kernel
theorem zm_ka_39 : zm_oka 39 = true := by decide +kernel
theorem zm_ka_40 : zm_oka 40 = true := by decide +kernel
theorem zm_ka_41 : zm_oka 41 = true := by decide +kernel
theorem zm_ka_42 : zm_oka 42 = true := by decide +kernel
theorem zm_ka_43 : zm_oka 43 = true := by decide +kernel
theorem zm_ka_44 : zm_oka 44 = true := by decide +kernel
theorem zm_ka_45 : zm_oka 45 = true := by decide +kernel
theorem zm_ka_46 : zm_oka 46 = true := by decide +kernel
theorem zm_ka_47 : zm_oka 47 = true := by decide +kernel
theorem zm_ka_48 : zm_oka 48 = true := by decide +kernel
theorem zm_ka_49 : zm_oka 49 = true := by decide +kernel
theorem zm_ka_50 : zm_oka 50 = true := by decide +kernel
theorem zm_ka_51 : zm_oka 51 = true := by decide +kernel
theorem zm_ka_52 : zm_oka 52 = true := by decide +kernel
theorem zm_ka_53 : zm_oka 53 = true := by decide +kernel
theorem zm_ka_54 : zm_oka 54 = true := by decide +kernel
theorem zm_ka_55 : zm_oka 55 = true := by decide +kernel
theorem zm_ka_56 : zm_oka 56 = true := by decide +kernel
theorem zm_ka_57 : zm_oka 57 = true := by decide +kernel
theorem zm_ka_58 : zm_oka 58 = true := by decide +kernel
theorem zm_ka_59 : zm_oka 59 = true := by decide +kernel
theorem zm_ka_60 : zm_oka 60 = true := by decide +kernel
theorem zm_ka_61 : zm_oka 61 = true := by decide +kernel
theorem zm_ka_62 : zm_oka 62 = true := by decide +kernel
theorem zm_ka_63 : zm_oka 63 = true := by decide +kernel
theorem zm_ka_64 : zm_oka 64 = true := by decide +kernel
theorem zm_ka_65 : zm_oka 65 = true := by decide +kernel
theorem zm_ka_66 : zm_oka 66 = true := by decide +kernel
theorem zm_ka_67 : zm_oka 67 = true := by decide +kernel
theorem zm_ka_68 : zm_oka 68 = true := by decide +kernel
theorem zm_ka_69 : zm_oka 69 = true := by decide +kernel
theorem zm_ka_70 : zm_oka 70 = true := by decide +kernel
theorem zm_ka_71 : zm_oka 71 = true := by decide +kernel
theorem zm_ka_72 : zm_oka 72 = true := by decide +kernel
theorem zm_ka_73 : zm_oka 73 = true := by decide +kernel
theorem zm_ka_74 : zm_oka 74 = true := by decide +kernel
theorem zm_ka_75 : zm_oka 75 = true := by decide +kernel
theorem zm_ka_76 : zm_oka 76 = true := by decide +kernel
theorem zm_ka_77 : zm_oka 77 = true := by decide +kernel
theorem zm_ka_78 : zm_oka 78 = true := by decide +kernel
theorem zm_ka_79 : zm_oka 79 = true := by decide +kernel
theorem zm_ka_80 : zm_oka 80 = true := by decide +kernel
theorem zm_ka_81 : zm_oka 81 = true := by decide +kernel
theorem zm_ka_82 : zm_oka 82 = true := by decide +kernel
theorem zm_ka_83 : zm_oka 83 = true := by decide +kernel
theorem zm_ka_84 : zm_oka 84 = true := by decide +kernel
theorem zm_ka_85 : zm_oka 85 = true := by decide +kernel
theorem zm_ka_86 : zm_oka 86 = true := by decide +kernel
theorem zm_ka_87 : zm_oka 87 = true := by decide +kernel
theorem zm_ka_88 : zm_oka 88 = true := by decide +kernel
theorem zm_ka_89 : zm_oka 89 = true := by decide +kernel
theorem zm_ka_90 : zm_oka 90 = true := by decide +kernel
theorem zm_ka_91 : zm_oka 91 = true := by decide +kernel
theorem zm_ka_92 : zm_oka 92 = true := by decide +kernel
theorem zm_ka_93 : zm_oka 93 = true := by decide +kernel
theorem zm_ka_94 : zm_oka 94 = true := by decide +kernel
theorem zm_ka_95 : zm_oka 95 = true := by decide +kernel
theorem zm_ka_96 : zm_oka 96 = true := by decide +kernel
theorem zm_ka_97 : zm_oka 97 = true := by decide +kernel
theorem zm_ka_98 : zm_oka 98 = true := by decide +kernel
theorem zm_ka_99 : zm_oka 99 = true := by decide +kernel
theorem zm_ka_100 : zm_oka 100 = true := by decide +kernel
theorem zm_ka_101 : zm_oka 101 = true := by decide +kernel
theorem zm_ka_102 : zm_oka 102 = true := by decide +kernel
theorem zm_ka_103 : zm_oka 103 = true := by decide +kernel
theorem zm_ka_104 : zm_oka 104 = true := by decide +kernel
theorem zm_ka_105 : zm_oka 105 = true := by decide +kernel
theorem zm_ka_106 : zm_oka 106 = true := by decide +kernel
theorem zm_ka_107 : zm_oka 107 = true := by decide +kernel
theorem zm_ka_108 : zm_oka 108 = true := by decide +kernel
theorem zm_ka_109 : zm_oka 109 = true := by decide +kernel
theorem zm_ka_110 : zm_oka 110 = true := by decide +kernel
theorem zm_ka_111 : zm_oka 111 = true := by decide +kernel
theorem zm_ka_112 : zm_oka 112 = true := by decide +kernel
theorem zm_ka_113 : zm_oka 113 = true := by decide +kernel
theorem zm_ka_114 : zm_oka 114 = true := by decide +kernel
theorem zm_ka_115 : zm_oka 115 = true := by decide +kernel
theorem zm_ka_116 : zm_oka 116 = true := by decide +kernel
theorem zm_ka_117 : zm_oka 117 = true := by decide +kernel
theorem zm_ka_118 : zm_oka 118 = true := by decide +kernel
theorem zm_ka_119 : zm_oka 119 = true := by decide +kernel
theorem zm_ka_120 : zm_oka 120 = true := by decide +kernel
theorem zm_ka_121 : zm_oka 121 = true := by decide +kernel
theorem zm_ka_122 : zm_oka 122 = true := by decide +kernel
theorem zm_ka_123 : zm_oka 123 = true := by decide +kernel
theorem zm_ka_124 : zm_oka 124 = true := by decide +kernel
theorem zm_ka_125 : zm_oka 125 = true := by decide +kernel
theorem zm_ka_126 : zm_oka 126 = true := by decide +kernel
theorem zm_ka_127 : zm_oka 127 = true := by decide +kernel
theorem zm_ka_128 : zm_oka 128 = true := by decide +kernel
theorem zm_ka_129 : zm_oka 129 = true := by decide +kernel
theorem zm_ka_130 : zm_oka 130 = true := by decide +kernel
theorem zm_ka_131 : zm_oka 131 = true := by decide +kernel
theorem zm_ka_132 : zm_oka 132 = true := by decide +kernel
theorem zm_ka_133 : zm_oka 133 = true := by decide +kernel
theorem zm_ka_134 : zm_oka 134 = true := by decide +kernel
theorem zm_ka_135 : zm_oka 135 = true := by decide +kernel
theorem zm_ka_136 : zm_oka 136 = true := by decide +kernel
theorem zm_ka_137 : zm_oka 137 = true := by decide +kernel
theorem zm_ka_138 : zm_oka 138 = true := by decide +kernel
theorem zm_ka_139 : zm_oka 139 = true := by decide +kernel
theorem zm_ka_140 : zm_oka 140 = true := by decide +kernel
theorem zm_ka_141 : zm_oka 141 = true := by decide +kernel
theorem zm_ka_142 : zm_oka 142 = true := by decide +kernel
theorem zm_ka_143 : zm_oka 143 = true := by decide +kernel
theorem zm_ka_144 : zm_oka 144 = true := by decide +kernel
theorem zm_ka_145 : zm_oka 145 = true := by decide +kernel
theorem zm_ka_146 : zm_oka 146 = true := by decide +kernel
theorem zm_ka_147 : zm_oka 147 = true := by decide +kernel
theorem zm_ka_148 : zm_oka 148 = true := by decide +kernel
theorem zm_ka_149 : zm_oka 149 = true := by decide +kernel
theorem zm_ka_150 : zm_oka 150 = true := by decide +kernel
theorem zm_ka_151 : zm_oka 151 = true := by decide +kernel
theorem zm_ka_152 : zm_oka 152 = true := by decide +kernel
theorem zm_ka_153 : zm_oka 153 = true := by decide +kernel
theorem zm_ka_154 : zm_oka 154 = true := by decide +kernel
theorem zm_ka_155 : zm_oka 155 = true := by decide +kernel
theorem zm_ka_156 : zm_oka 156 = true := by decide +kernel
theorem zm_ka_157 : zm_oka 157 = true := by decide +kernel
theorem zm_ka_158 : zm_oka 158 = true := by decide +kernel
theorem zm_ka_159 : zm_oka 159 = true := by decide +kernel
theorem zm_ka_160 : zm_oka 160 = true := by decide +kernel
theorem zm_ka_161 : zm_oka 161 = true := by decide +kernel
theorem zm_ka_162 : zm_oka 162 = true := by decide +kernel
theorem zm_ka_163 : zm_oka 163 = true := by decide +kernel
theorem zm_ka_164 : zm_oka 164 = true := by decide +kernel
theorem zm_ka_165 : zm_oka 165 = true := by decide +kernel
theorem zm_ka_166 : zm_oka 166 = true := by decide +kernel
theorem zm_ka_167 : zm_oka 167 = true := by decide +kernel
theorem zm_ka_168 : zm_oka 168 = true := by decide +kernel
theorem zm_ka_169 : zm_oka 169 = true := by decide +kernel
theorem zm_ka_170 : zm_oka 170 = true := by decide +kernel
theorem zm_ka_171 : zm_oka 171 = true := by decide +kernel
theorem zm_ka_172 : zm_oka 172 = true := by decide +kernel
theorem zm_ka_173 : zm_oka 173 = true := by decide +kernel
theorem zm_ka_174 : zm_oka 174 = true := by decide +kernel
theorem zm_ka_175 : zm_oka 175 = true := by decide +kernel
theorem zm_ka_176 : zm_oka 176 = true := by decide +kernel
theorem zm_ka_177 : zm_oka 177 = true := by decide +kernel
theorem zm_ka_178 : zm_oka 178 = true := by decide +kernel
theorem zm_ka_179 : zm_oka 179 = true := by decide +kernel
theorem zm_ka_180 : zm_oka 180 = true := by decide +kernel
theorem zm_ka_181 : zm_oka 181 = true := by decide +kernel
theorem zm_ka_182 : zm_oka 182 = true := by decide +kernel
theorem zm_ka_183 : zm_oka 183 = true := by decide +kernel
theorem zm_ka_184 : zm_oka 184 = true := by decide +kernel
theorem zm_ka_185 : zm_oka 185 = true := by decide +kernel
theorem zm_ka_186 : zm_oka 186 = true := by decide +kernel
theorem zm_ka_187 : zm_oka 187 = true := by decide +kernel
theorem zm_ka_188 : zm_oka 188 = true := by decide +kernel
theorem zm_ka_189 : zm_oka 189 = true := by decide +kernel
theorem zm_ka_190 : zm_oka 190 = true := by decide +kernel
theorem zm_ka_191 : zm_oka 191 = true := by decide +kernel
theorem zm_ka_192 : zm_oka 192 = true := by decide +kernel
theorem zm_ka_193 : zm_oka 193 = true := by decide +kernel
theorem zm_ka_194 : zm_oka 194 = true := by decide +kernel
theorem zm_ka_195 : zm_oka 195 = true := by decide +kernel
theorem zm_ka_196 : zm_oka 196 = true := by decide +kernel
theorem zm_ka_197 : zm_oka 197 = true := by decide +kernel
theorem zm_ka_198 : zm_oka 198 = true := by decide +kernel
theorem zm_ka_199 : zm_oka 199 = true := by decide +kernel
theorem zm_ka_200 : zm_oka 200 = true := by decide +kernel
theorem zm_ka_201 : zm_oka 201 = true := by decide +kernel
theorem zm_ka_202 : zm_oka 202 = true := by decide +kernel
theorem zm_ka_203 : zm_oka 203 = true := by decide +kernel
theorem zm_ka_204 : zm_oka 204 = true := by decide +kernel
theorem zm_ka_205 : zm_oka 205 = true := by decide +kernel
theorem zm_ka_206 : zm_oka 206 = true := by decide +kernel
theorem zm_ka_207 : zm_oka 207 = true := by decide +kernel
theorem zm_ka_208 : zm_oka 208 = true := by decide +kernel
theorem zm_ka_209 : zm_oka 209 = true := by decide +kernel
theorem zm_ka_210 : zm_oka 210 = true := by decide +kernel
theorem zm_ka_211 : zm_oka 211 = true := by decide +kernel
theorem zm_ka_212 : zm_oka 212 = true := by decide +kernel
theorem zm_ka_213 : zm_oka 213 = true := by decide +kernel
theorem zm_ka_214 : zm_oka 214 = true := by decide +kernel
theorem zm_ka_215 : zm_oka 215 = true := by decide +kernel
theorem zm_ka_216 : zm_oka 216 = true := by decide +kernel
theorem zm_ka_217 : zm_oka 217 = true := by decide +kernel
theorem zm_ka_218 : zm_oka 218 = true := by decide +kernel
theorem zm_ka_219 : zm_oka 219 = true := by decide +kernel
theorem zm_ka_220 : zm_oka 220 = true := by decide +kernel
theorem zm_ka_221 : zm_oka 221 = true := by decide +kernel
theorem zm_ka_222 : zm_oka 222 = true := by decide +kernel
theorem zm_ka_223 : zm_oka 223 = true := by decide +kernel
theorem zm_ka_224 : zm_oka 224 = true := by decide +kernel
theorem zm_ka_225 : zm_oka 225 = true := by decide +kernel
theorem zm_ka_226 : zm_oka 226 = true := by decide +kernel
theorem zm_ka_227 : zm_oka 227 = true := by decide +kernel
theorem zm_ka_228 : zm_oka 228 = true := by decide +kernel
theorem zm_ka_229 : zm_oka 229 = true := by decide +kernel
theorem zm_ka_230 : zm_oka 230 = true := by decide +kernel
theorem zm_ka_231 : zm_oka 231 = true := by decide +kernel
theorem zm_ka_232 : zm_oka 232 = true := by decide +kernel
theorem zm_ka_233 : zm_oka 233 = true := by decide +kernel
theorem zm_ka_234 : zm_oka 234 = true := by decide +kernel
theorem zm_ka_235 : zm_oka 235 = true := by decide +kernel
theorem zm_ka_236 : zm_oka 236 = true := by decide +kernel
theorem zm_ka_237 : zm_oka 237 = true := by decide +kernel
theorem zm_ka_238 : zm_oka 238 = true := by decide +kernel
theorem zm_ka_239 : zm_oka 239 = true := by decide +kernel
theorem zm_ka_240 : zm_oka 240 = true := by decide +kernel
theorem zm_ka_241 : zm_oka 241 = true := by decide +kernel
theorem zm_ka_242 : zm_oka 242 = true := by decide +kernel
theorem zm_ka_243 : zm_oka 243 = true := by decide +kernel
theorem zm_ka_244 : zm_oka 244 = true := by decide +kernel
theorem zm_ka_245 : zm_oka 245 = true := by decide +kernel
theorem zm_ka_246 : zm_oka 246 = true := by decide +kernel
theorem zm_ka_247 : zm_oka 247 = true := by decide +kernel
theorem zm_ka_248 : zm_oka 248 = true := by decide +kernel
theorem zm_ka_249 : zm_oka 249 = true := by decide +kernel
theorem zm_ka_250 : zm_oka 250 = true := by decide +kernel
theorem zm_ka_251 : zm_oka 251 = true := by decide +kernel
theorem zm_kag_0 : ∀ y ∈ [0, 1, 2, 3, 4, 5, 6, 7, 8, 9, 10, 11, 12, 13, 14, 15], zm_oka y = true := List.forall_mem_cons.mpr ⟨zm_ka_0, List.forall_mem_cons.mpr ⟨zm_ka_1, List.forall_mem_cons.mpr ⟨zm_ka_2, List.forall_mem_cons.mpr ⟨zm_ka_3, List.forall_mem_cons.mpr ⟨zm_ka_4, List.forall_mem_cons.mpr ⟨zm_ka_5, List.forall_mem_cons.mpr ⟨zm_ka_6, List.forall_mem_cons.mpr ⟨zm_ka_7, List.forall_mem_cons.mpr ⟨zm_ka_8, List.forall_mem_cons.mpr ⟨zm_ka_9, List.forall_mem_cons.mpr ⟨zm_ka_10, List.forall_mem_cons.mpr ⟨zm_ka_11, List.forall_mem_cons.mpr ⟨zm_ka_12, List.forall_mem_cons.mpr ⟨zm_ka_13, List.forall_mem_cons.mpr ⟨zm_ka_14, List.forall_mem_cons.mpr ⟨zm_ka_15, fun _ h => absurd h List.not_mem_nil⟩⟩⟩⟩⟩⟩⟩⟩⟩⟩⟩⟩⟩⟩⟩⟩
theorem zm_kag_1 : ∀ y ∈ [16, 17, 18, 19, 20, 21, 22, 23, 24, 25, 26, 27, 28, 29, 30, 31], zm_oka y = true := List.forall_mem_cons.mpr ⟨zm_ka_16, List.forall_mem_cons.mpr ⟨zm_ka_17, List.forall_mem_cons.mpr ⟨zm_ka_18, List.forall_mem_cons.mpr ⟨zm_ka_19, List.forall_mem_cons.mpr ⟨zm_ka_20, List.forall_mem_cons.mpr ⟨zm_ka_21, List.forall_mem_cons.mpr ⟨zm_ka_22, List.forall_mem_cons.mpr ⟨zm_ka_23, List.forall_mem_cons.mpr ⟨zm_ka_24, List.forall_mem_cons.mpr ⟨zm_ka_25, List.forall_mem_cons.mpr ⟨zm_ka_26, List.forall_mem_cons.mpr ⟨zm_ka_27, List.forall_mem_cons.mpr ⟨zm_ka_28, List.forall_mem_cons.mpr ⟨zm_ka_29, List.forall_mem_cons.mpr ⟨zm_ka_30, List.forall_mem_cons.mpr ⟨zm_ka_31, fun _ h => absurd h List.not_mem_nil⟩⟩⟩⟩⟩⟩⟩⟩⟩⟩⟩⟩⟩⟩⟩⟩
theorem zm_kag_2 : ∀ y ∈ [32, 33, 34, 35, 36, 37, 38, 39, 40, 41, 42, 43, 44, 45, 46, 47], zm_oka y = true := List.forall_mem_cons.mpr ⟨zm_ka_32, List.forall_mem_cons.mpr ⟨zm_ka_33, List.forall_mem_cons.mpr ⟨zm_ka_34, List.forall_mem_cons.mpr ⟨zm_ka_35, List.forall_mem_cons.mpr ⟨zm_ka_36, List.forall_mem_cons.mpr ⟨zm_ka_37, List.forall_mem_cons.mpr ⟨zm_ka_38, List.forall_mem_cons.mpr ⟨zm_ka_39, List.forall_mem_cons.mpr ⟨zm_ka_40, List.forall_mem_cons.mpr ⟨zm_ka_41, List.forall_mem_cons.mpr ⟨zm_ka_42, List.forall_mem_cons.mpr ⟨zm_ka_43, List.forall_mem_cons.mpr ⟨zm_ka_44, List.forall_mem_cons.mpr ⟨zm_ka_45, List.forall_mem_cons.mpr ⟨zm_ka_46, List.forall_mem_cons.mpr ⟨zm_ka_47, fun _ h => absurd h List.not_mem_nil⟩⟩⟩⟩⟩⟩⟩⟩⟩⟩⟩⟩⟩⟩⟩⟩
theorem zm_kag_3 : ∀ y ∈ [48, 49, 50, 51, 52, 53, 54, 55, 56, 57, 58, 59, 60, 61, 62, 63], zm_oka y = true := List.forall_mem_cons.mpr ⟨zm_ka_48, List.forall_mem_cons.mpr ⟨zm_ka_49, List.forall_mem_cons.mpr ⟨zm_ka_50, List.forall_mem_cons.mpr ⟨zm_ka_51, List.forall_mem_cons.mpr ⟨zm_ka_52, List.forall_mem_cons.mpr ⟨zm_ka_53, List.forall_mem_cons.mpr ⟨zm_ka_54, List.forall_mem_cons.mpr ⟨zm_ka_55, List.forall_mem_cons.mpr ⟨zm_ka_56, List.forall_mem_cons.mpr ⟨zm_ka_57, List.forall_mem_cons.mpr ⟨zm_ka_58, List.forall_mem_cons.mpr ⟨zm_ka_59, List.forall_mem_cons.mpr ⟨zm_ka_60, List.forall_mem_cons.mpr ⟨zm_ka_61, List.forall_mem_cons.mpr ⟨zm_ka_62, List.forall_mem_cons.mpr ⟨zm_ka_63, fun _ h => absurd h List.not_mem_nil⟩⟩⟩⟩⟩⟩⟩⟩⟩⟩⟩⟩⟩⟩⟩⟩
theorem zm_kag_4 : ∀ y ∈ [64, 65, 66, 67, 68, 69, 70, 71, 72, 73, 74, 75, 76, 77, 78, 79], zm_oka y = true := List.forall_mem_cons.mpr ⟨zm_ka_64, List.forall_mem_cons.mpr ⟨zm_ka_65, List.forall_mem_cons.mpr ⟨zm_ka_66, List.forall_mem_cons.mpr ⟨zm_ka_67, List.forall_mem_cons.mpr ⟨zm_ka_68, List.forall_mem_cons.mpr ⟨zm_ka_69, List.forall_mem_cons.mpr ⟨zm_ka_70, List.forall_mem_cons.mpr ⟨zm_ka_71, List.forall_mem_cons.mpr ⟨zm_ka_72, List.forall_mem_cons.mpr ⟨zm_ka_73, List.forall_mem_cons.mpr ⟨zm_ka_74, List.forall_mem_cons.mpr ⟨zm_ka_75, List.forall_mem_cons.mpr ⟨zm_ka_76, List.forall_mem_cons.mpr ⟨zm_ka_77, List.forall_mem_cons.mpr ⟨zm_ka_78, List.forall_mem_cons.mpr ⟨zm_ka_79, fun _ h => absurd h List.not_mem_nil⟩⟩⟩⟩⟩⟩⟩⟩⟩⟩⟩⟩⟩⟩⟩⟩
theorem zm_kag_5 : ∀ y ∈ [80, 81, 82, 83, 84, 85, 86, 87, 88, 89, 90, 91, 92, 93, 94, 95], zm_oka y = true := List.forall_mem_cons.mpr ⟨zm_ka_80, List.forall_mem_cons.mpr ⟨zm_ka_81, List.forall_mem_cons.mpr ⟨zm_ka_82, List.forall_mem_cons.mpr ⟨zm_ka_83, List.forall_mem_cons.mpr ⟨zm_ka_84, List.forall_mem_cons.mpr ⟨zm_ka_85, List.forall_mem_cons.mpr ⟨zm_ka_86, List.forall_mem_cons.mpr ⟨zm_ka_87, List.forall_mem_cons.mpr ⟨zm_ka_88, List.forall_mem_cons.mpr ⟨zm_ka_89, List.forall_mem_cons.mpr ⟨zm_ka_90, List.forall_mem_cons.mpr ⟨zm_ka_91, List.forall_mem_cons.mpr ⟨zm_ka_92, List.forall_mem_cons.mpr ⟨zm_ka_93, List.forall_mem_cons.mpr ⟨zm_ka_94, List.forall_mem_cons.mpr ⟨zm_ka_95, fun _ h => absurd h List.not_mem_nil⟩⟩⟩⟩⟩⟩⟩⟩⟩⟩⟩⟩⟩⟩⟩⟩
theorem zm_kag_6 : ∀ y ∈ [96, 97, 98, 99, 100, 101, 102, 103, 104, 105, 106, 107, 108, 109, 110, 111], zm_oka y = true := List.forall_mem_cons.mpr ⟨zm_ka_96, List.forall_mem_cons.mpr ⟨zm_ka_97, List.forall_mem_cons.mpr ⟨zm_ka_98, List.forall_mem_cons.mpr ⟨zm_ka_99, List.forall_mem_cons.mpr ⟨zm_ka_100, List.forall_mem_cons.mpr ⟨zm_ka_101, List.forall_mem_cons.mpr ⟨zm_ka_102, List.forall_mem_cons.mpr ⟨zm_ka_103, List.forall_mem_cons.mpr ⟨zm_ka_104, List.forall_mem_cons.mpr ⟨zm_ka_105, List.forall_mem_cons.mpr ⟨zm_ka_106, List.forall_mem_cons.mpr ⟨zm_ka_107, List.forall_mem_cons.mpr ⟨zm_ka_108, List.forall_mem_cons.mpr ⟨zm_ka_109, List.forall_mem_cons.mpr ⟨zm_ka_110, List.forall_mem_cons.mpr ⟨zm_ka_111, fun _ h => absurd h List.not_mem_nil⟩⟩⟩⟩⟩⟩⟩⟩⟩⟩⟩⟩⟩⟩⟩⟩
theorem zm_kag_7 : ∀ y ∈ [112, 113, 114, 115, 116, 117, 118, 119, 120, 121, 122, 123, 124, 125, 126, 127], zm_oka y = true := List.forall_mem_cons.mpr ⟨zm_ka_112, List.forall_mem_cons.mpr ⟨zm_ka_113, List.forall_mem_cons.mpr ⟨zm_ka_114, List.forall_mem_cons.mpr ⟨zm_ka_115, List.forall_mem_cons.mpr ⟨zm_ka_116, List.forall_mem_cons.mpr ⟨zm_ka_117, List.forall_mem_cons.mpr ⟨zm_ka_118, List.forall_mem_cons.mpr ⟨zm_ka_119, List.forall_mem_cons.mpr ⟨zm_ka_120, List.forall_mem_cons.mpr ⟨zm_ka_121, List.forall_mem_cons.mpr ⟨zm_ka_122, List.forall_mem_cons.mpr ⟨zm_ka_123, List.forall_mem_cons.mpr ⟨zm_ka_124, List.forall_mem_cons.mpr ⟨zm_ka_125, List.forall_mem_cons.mpr ⟨zm_ka_126, List.forall_mem_cons.mpr ⟨zm_ka_127, fun _ h => absurd h List.not_mem_nil⟩⟩⟩⟩⟩⟩⟩⟩⟩⟩⟩⟩⟩⟩⟩⟩
theorem zm_kag_8 : ∀ y ∈ [128, 129, 130, 131, 132, 133, 134, 135, 136, 137, 138, 139, 140, 141, 142, 143], zm_oka y = true := List.forall_mem_cons.mpr ⟨zm_ka_128, List.forall_mem_cons.mpr ⟨zm_ka_129, List.forall_mem_cons.mpr ⟨zm_ka_130, List.forall_mem_cons.mpr ⟨zm_ka_131, List.forall_mem_cons.mpr ⟨zm_ka_132, List.forall_mem_cons.mpr ⟨zm_ka_133, List.forall_mem_cons.mpr ⟨zm_ka_134, List.forall_mem_cons.mpr ⟨zm_ka_135, List.forall_mem_cons.mpr ⟨zm_ka_136, List.forall_mem_cons.mpr ⟨zm_ka_137, List.forall_mem_cons.mpr ⟨zm_ka_138, List.forall_mem_cons.mpr ⟨zm_ka_139, List.forall_mem_cons.mpr ⟨zm_ka_140, List.forall_mem_cons.mpr ⟨zm_ka_141, List.forall_mem_cons.mpr ⟨zm_ka_142, List.forall_mem_cons.mpr ⟨zm_ka_143, fun _ h => absurd h List.not_mem_nil⟩⟩⟩⟩⟩⟩⟩⟩⟩⟩⟩⟩⟩⟩⟩⟩
theorem zm_kag_9 : ∀ y ∈ [144, 145, 146, 147, 148, 149, 150, 151, 152, 153, 154, 155, 156, 157, 158, 159], zm_oka y = true := List.forall_mem_cons.mpr ⟨zm_ka_144, List.forall_mem_cons.mpr ⟨zm_ka_145, List.forall_mem_cons.mpr ⟨zm_ka_146, List.forall_mem_cons.mpr ⟨zm_ka_147, List.forall_mem_cons.mpr ⟨zm_ka_148, List.forall_mem_cons.mpr ⟨zm_ka_149, List.forall_mem_cons.mpr ⟨zm_ka_150, List.forall_mem_cons.mpr ⟨zm_ka_151, List.forall_mem_cons.mpr ⟨zm_ka_152, List.forall_mem_cons.mpr ⟨zm_ka_153, List.forall_mem_cons.mpr ⟨zm_ka_154, List.forall_mem_cons.mpr ⟨zm_ka_155, List.forall_mem_cons.mpr ⟨zm_ka_156, List.forall_mem_cons.mpr ⟨zm_ka_157, List.forall_mem_cons.mpr ⟨zm_ka_158, List.forall_mem_cons.mpr ⟨zm_ka_159, fun _ h => absurd h List.not_mem_nil⟩⟩⟩⟩⟩⟩⟩⟩⟩⟩⟩⟩⟩⟩⟩⟩
theorem zm_kag_10 : ∀ y ∈ [160, 161, 162, 163, 164, 165, 166, 167, 168, 169, 170, 171, 172, 173, 174, 175], zm_oka y = true := List.forall_mem_cons.mpr ⟨zm_ka_160, List.forall_mem_cons.mpr ⟨zm_ka_161, List.forall_mem_cons.mpr ⟨zm_ka_162, List.forall_mem_cons.mpr ⟨zm_ka_163, List.forall_mem_cons.mpr ⟨zm_ka_164, List.forall_mem_cons.mpr ⟨zm_ka_165, List.forall_mem_cons.mpr ⟨zm_ka_166, List.forall_mem_cons.mpr ⟨zm_ka_167, List.forall_mem_cons.mpr ⟨zm_ka_168, List.forall_mem_cons.mpr ⟨zm_ka_169, List.forall_mem_cons.mpr ⟨zm_ka_170, List.forall_mem_cons.mpr ⟨zm_ka_171, List.forall_mem_cons.mpr ⟨zm_ka_172, List.forall_mem_cons.mpr ⟨zm_ka_173, List.forall_mem_cons.mpr ⟨zm_ka_174, List.forall_mem_cons.mpr ⟨zm_ka_175, fun _ h => absurd h List.not_mem_nil⟩⟩⟩⟩⟩⟩⟩⟩⟩⟩⟩⟩⟩⟩⟩⟩
theorem zm_kag_11 : ∀ y ∈ [176, 177, 178, 179, 180, 181, 182, 183, 184, 185, 186, 187, 188, 189, 190, 191], zm_oka y = true := List.forall_mem_cons.mpr ⟨zm_ka_176, List.forall_mem_cons.mpr ⟨zm_ka_177, List.forall_mem_cons.mpr ⟨zm_ka_178, List.forall_mem_cons.mpr ⟨zm_ka_179, List.forall_mem_cons.mpr ⟨zm_ka_180, List.forall_mem_cons.mpr ⟨zm_ka_181, List.forall_mem_cons.mpr ⟨zm_ka_182, List.forall_mem_cons.mpr ⟨zm_ka_183, List.forall_mem_cons.mpr ⟨zm_ka_184, List.forall_mem_cons.mpr ⟨zm_ka_185, List.forall_mem_cons.mpr ⟨zm_ka_186, List.forall_mem_cons.mpr ⟨zm_ka_187, List.forall_mem_cons.mpr ⟨zm_ka_188, List.forall_mem_cons.mpr ⟨zm_ka_189, List.forall_mem_cons.mpr ⟨zm_ka_190, List.forall_mem_cons.mpr ⟨zm_ka_191, fun _ h => absurd h List.not_mem_nil⟩⟩⟩⟩⟩⟩⟩⟩⟩⟩⟩⟩⟩⟩⟩⟩
theorem zm_kag_12 : ∀ y ∈ [192, 193, 194, 195, 196, 197, 198, 199, 200, 201, 202, 203, 204, 205, 206, 207], zm_oka y = true := List.forall_mem_cons.mpr ⟨zm_ka_192, List.forall_mem_cons.mpr ⟨zm_ka_193, List.forall_mem_cons.mpr ⟨zm_ka_194, List.forall_mem_cons.mpr ⟨zm_ka_195, List.forall_mem_cons.mpr ⟨zm_ka_196, List.forall_mem_cons.mpr ⟨zm_ka_197, List.forall_mem_cons.mpr ⟨zm_ka_198, List.forall_mem_cons.mpr ⟨zm_ka_199, List.forall_mem_cons.mpr ⟨zm_ka_200, List.forall_mem_cons.mpr ⟨zm_ka_201, List.forall_mem_cons.mpr ⟨zm_ka_202, List.forall_mem_cons.mpr ⟨zm_ka_203, List.forall_mem_cons.mpr ⟨zm_ka_204, List.forall_mem_cons.mpr ⟨zm_ka_205, List.forall_mem_cons.mpr ⟨zm_ka_206, List.forall_mem_cons.mpr ⟨zm_ka_207, fun _ h => absurd h List.not_mem_nil⟩⟩⟩⟩⟩⟩⟩⟩⟩⟩⟩⟩⟩⟩⟩⟩
theorem zm_kag_13 : ∀ y ∈ [208, 209, 210, 211, 212, 213, 214, 215, 216, 217, 218, 219, 220, 221, 222, 223], zm_oka y = true := List.forall_mem_cons.mpr ⟨zm_ka_208, List.forall_mem_cons.mpr ⟨zm_ka_209, List.forall_mem_cons.mpr ⟨zm_ka_210, List.forall_mem_cons.mpr ⟨zm_ka_211, List.forall_mem_cons.mpr ⟨zm_ka_212, List.forall_mem_cons.mpr ⟨zm_ka_213, List.forall_mem_cons.mpr ⟨zm_ka_214, List.forall_mem_cons.mpr ⟨zm_ka_215, List.forall_mem_cons.mpr ⟨zm_ka_216, List.forall_mem_cons.mpr ⟨zm_ka_217, List.forall_mem_cons.mpr ⟨zm_ka_218, List.forall_mem_cons.mpr ⟨zm_ka_219, List.forall_mem_cons.mpr ⟨zm_ka_220, List.forall_mem_cons.mpr ⟨zm_ka_221, List.forall_mem_cons.mpr ⟨zm_ka_222, List.forall_mem_cons.mpr ⟨zm_ka_223, fun _ h => absurd h List.not_mem_nil⟩⟩⟩⟩⟩⟩⟩⟩⟩⟩⟩⟩⟩⟩⟩⟩
theorem zm_kag_14 : ∀ y ∈ [224, 225, 226, 227, 228, 229, 230, 231, 232, 233, 234, 235, 236, 237, 238, 239], zm_oka y = true := List.forall_mem_cons.mpr ⟨zm_ka_224, List.forall_mem_cons.mpr ⟨zm_ka_225, List.forall_mem_cons.mpr ⟨zm_ka_226, List.forall_mem_cons.mpr ⟨zm_ka_227, List.forall_mem_cons.mpr ⟨zm_ka_228, List.forall_mem_cons.mpr ⟨zm_ka_229, List.forall_mem_cons.mpr ⟨zm_ka_230, List.forall_mem_cons.mpr ⟨zm_ka_231, List.forall_mem_cons.mpr ⟨zm_ka_232, List.forall_mem_cons.mpr ⟨zm_ka_233, List.forall_mem_cons.mpr ⟨zm_ka_234, List.forall_mem_cons.mpr ⟨zm_ka_235, List.forall_mem_cons.mpr ⟨zm_ka_236, List.forall_mem_cons.mpr ⟨zm_ka_237, List.forall_mem_cons.mpr ⟨zm_ka_238, List.forall_mem_cons.mpr ⟨zm_ka_239, fun _ h => absurd h List.not_mem_nil⟩⟩⟩⟩⟩⟩⟩⟩⟩⟩⟩⟩⟩⟩⟩⟩
theorem zm_kag_15 : ∀ y ∈ [240, 241, 242, 243, 244, 245, 246, 247, 248, 249, 250, 251], zm_oka y = true := List.forall_mem_cons.mpr ⟨zm_ka_240, List.forall_mem_cons.mpr ⟨zm_ka_241, List.forall_mem_cons.mpr ⟨zm_ka_242, List.forall_mem_cons.mpr ⟨zm_ka_243, List.forall_mem_cons.mpr ⟨zm_ka_244, List.forall_mem_cons.mpr ⟨zm_ka_245, List.forall_mem_cons.mpr ⟨zm_ka_246, List.forall_mem_cons.mpr ⟨zm_ka_247, List.forall_mem_cons.mpr ⟨zm_ka_248, List.forall_mem_cons.mpr ⟨zm_ka_249, List.forall_mem_cons.mpr ⟨zm_ka_250, List.forall_mem_cons.mpr ⟨zm_ka_251, fun _ h => absurd h List.not_mem_nil⟩⟩⟩⟩⟩⟩⟩⟩⟩⟩⟩⟩
theorem zm_kay {y : Nat} (h : y < zm_nM) : zm_oka y = true := by
  have h1 : y ∈ List.range zm_nM := List.mem_range.mpr h
  rw [zm_okr] at h1
  exact (List.forall_mem_append.mpr ⟨zm_kag_0, List.forall_mem_append.mpr ⟨zm_kag_1, List.forall_mem_append.mpr ⟨zm_kag_2, List.forall_mem_append.mpr ⟨zm_kag_3, List.forall_mem_append.mpr ⟨zm_kag_4, List.forall_mem_append.mpr ⟨zm_kag_5, List.forall_mem_append.mpr ⟨zm_kag_6, List.forall_mem_append.mpr ⟨zm_kag_7, List.forall_mem_append.mpr ⟨zm_kag_8, List.forall_mem_append.mpr ⟨zm_kag_9, List.forall_mem_append.mpr ⟨zm_kag_10, List.forall_mem_append.mpr ⟨zm_kag_11, List.forall_mem_append.mpr ⟨zm_kag_12, List.forall_mem_append.mpr ⟨zm_kag_13, List.forall_mem_append.mpr ⟨zm_kag_14, zm_kag_15⟩⟩⟩⟩⟩⟩⟩⟩⟩⟩⟩⟩⟩⟩⟩) y h1
