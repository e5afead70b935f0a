def RX0 : String := "RefactoringReplay$Change"
def TX0 : u_T := fun k => match k with
  | 0 => ("RefactoringReplay$Change", "kind", "I", false)
  | 1 => ("RefactoringReplay$Change", "a", "I", false)
  | 2 => ("RefactoringReplay$Change", "m", "I", false)
  | 3 => ("RefactoringReplay$Change", "b", "I", false)
  | _ => ("RefactoringReplay$Change", "n", "I", false)
def tyX0 : Nat → FieldType := fun k => match k with
  | 0 => .int
  | 1 => .int
  | 2 => .int
  | 3 => .int
  | _ => .int
def RX1 : String := "RefactoringReplay$ChangeList"
def TX1 : u_T := fun k => match k with
  | 0 => ("RefactoringReplay$ChangeList", "rows", "[LRefactoringReplay$Change;", true)
  | _ => ("RefactoringReplay$ChangeList", "count", "I", false)
def tyX1 : Nat → FieldType := fun k => match k with
  | 0 => .array (.object "RefactoringReplay$Change")
  | _ => .int
def RX2 : String := "RefactoringReplay$Commuting"
def TX2 : u_T := fun k => match k with
  | 0 => ("RefactoringReplay$Commuting", "walk", "LRefactoringReplay$Program;", true)
  | 1 => ("RefactoringReplay$Commuting", "straight", "LRefactoringReplay$Program;", true)
  | 2 => ("RefactoringReplay$Commuting", "crossed", "LRefactoringReplay$Program;", true)
  | 3 => ("RefactoringReplay$Commuting", "early", "LRefactoringReplay$Change;", true)
  | 4 => ("RefactoringReplay$Commuting", "late", "LRefactoringReplay$Change;", true)
  | 5 => ("RefactoringReplay$Commuting", "settled", "LRefactoringReplay$ChangeList;", true)
  | _ => ("RefactoringReplay$Commuting", "tried", "LRefactoringReplay$ChangeList;", true)
def tyX2 : Nat → FieldType := fun k => match k with
  | 0 => .object "RefactoringReplay$Program"
  | 1 => .object "RefactoringReplay$Program"
  | 2 => .object "RefactoringReplay$Program"
  | 3 => .object "RefactoringReplay$Change"
  | 4 => .object "RefactoringReplay$Change"
  | 5 => .object "RefactoringReplay$ChangeList"
  | _ => .object "RefactoringReplay$ChangeList"
def RX3 : String := "RefactoringReplay$Matching"
def TX3 : u_T := fun k => match k with
  | 0 => ("RefactoringReplay$Matching", "classTo", "[I", true)
  | 1 => ("RefactoringReplay$Matching", "classFrom", "[I", true)
  | 2 => ("RefactoringReplay$Matching", "memberTo", "[I", true)
  | _ => ("RefactoringReplay$Matching", "memberFrom", "[I", true)
def tyX3 : Nat → FieldType := fun k => match k with
  | 0 => .array .int
  | 1 => .array .int
  | 2 => .array .int
  | _ => .array .int
def RX4 : String := "RefactoringReplay$Program"
def TX4 : u_T := fun k => match k with
  | 0 => ("RefactoringReplay$Program", "classNames", "[I", true)
  | 1 => ("RefactoringReplay$Program", "supers", "[I", true)
  | 2 => ("RefactoringReplay$Program", "above", "[I", true)
  | 3 => ("RefactoringReplay$Program", "memberNames", "[I", true)
  | 4 => ("RefactoringReplay$Program", "owners", "[I", true)
  | _ => ("RefactoringReplay$Program", "used", "[J", true)
def tyX4 : Nat → FieldType := fun k => match k with
  | 0 => .array .int
  | 1 => .array .int
  | 2 => .array .int
  | 3 => .array .int
  | 4 => .array .int
  | _ => .array .long
def RX5 : String := "RefactoringReplay$Replayer"
def TX5 : u_T := fun k => match k with
  | 0 => ("RefactoringReplay$Replayer", "shadow", "LRefactoringReplay$Program;", true)
  | 1 => ("RefactoringReplay$Replayer", "pairs", "LRefactoringReplay$Matching;", true)
  | 2 => ("RefactoringReplay$Replayer", "plan", "LRefactoringReplay$Change;", true)
  | _ => ("RefactoringReplay$Replayer", "outcomes", "[I", true)
def tyX5 : Nat → FieldType := fun k => match k with
  | 0 => .object "RefactoringReplay$Program"
  | 1 => .object "RefactoringReplay$Matching"
  | 2 => .object "RefactoringReplay$Change"
  | _ => .array .int
def RX6 : String := "RefactoringReplay"
def TX6 : u_T := fun k => match k with
  | 0 => ("RefactoringReplay", "base", "LRefactoringReplay$Program;", true)
  | 1 => ("RefactoringReplay", "zero", "LRefactoringReplay$Program;", true)
  | 2 => ("RefactoringReplay", "one", "LRefactoringReplay$Program;", true)
  | 3 => ("RefactoringReplay", "trial", "LRefactoringReplay$Program;", true)
  | 4 => ("RefactoringReplay", "changes", "LRefactoringReplay$ChangeList;", true)
  | 5 => ("RefactoringReplay", "wanted", "LRefactoringReplay$Change;", true)
  | 6 => ("RefactoringReplay", "commuting", "LRefactoringReplay$Commuting;", true)
  | 7 => ("RefactoringReplay", "matching", "LRefactoringReplay$Matching;", true)
  | 8 => ("RefactoringReplay", "replayer", "LRefactoringReplay$Replayer;", true)
  | 9 => ("RefactoringReplay", "outcomes", "[I", true)
  | _ => ("RefactoringReplay", "outcomeCount", "I", false)
def tyX6 : Nat → FieldType := fun k => match k with
  | 0 => .object "RefactoringReplay$Program"
  | 1 => .object "RefactoringReplay$Program"
  | 2 => .object "RefactoringReplay$Program"
  | 3 => .object "RefactoringReplay$Program"
  | 4 => .object "RefactoringReplay$ChangeList"
  | 5 => .object "RefactoringReplay$Change"
  | 6 => .object "RefactoringReplay$Commuting"
  | 7 => .object "RefactoringReplay$Matching"
  | 8 => .object "RefactoringReplay$Replayer"
  | 9 => .array .int
  | _ => .int
def RX7 : String := "RefactoringReplayModel"
def TX7 : u_T := fun k => match k with
  | 0 => ("RefactoringReplayModel", "first", "[I", true)
  | 1 => ("RefactoringReplayModel", "second", "[I", true)
  | 2 => ("RefactoringReplayModel", "base", "[I", true)
  | 3 => ("RefactoringReplayModel", "at", "[I", true)
  | 4 => ("RefactoringReplayModel", "here", "[I", true)
  | 5 => ("RefactoringReplayModel", "there", "[I", true)
  | 6 => ("RefactoringReplayModel", "log", "[I", true)
  | 7 => ("RefactoringReplayModel", "taken", "[I", true)
  | 8 => ("RefactoringReplayModel", "logged", "I", false)
  | 9 => ("RefactoringReplayModel", "thrown", "I", false)
  | 10 => ("RefactoringReplayModel", "added", "I", false)
  | 11 => ("RefactoringReplayModel", "back", "[I", true)
  | 12 => ("RefactoringReplayModel", "forth", "[I", true)
  | 13 => ("RefactoringReplayModel", "tried", "[I", true)
  | 14 => ("RefactoringReplayModel", "classMatch", "[I", true)
  | 15 => ("RefactoringReplayModel", "memberMatch", "[I", true)
  | 16 => ("RefactoringReplayModel", "moving", "[I", true)
  | 17 => ("RefactoringReplayModel", "target", "[I", true)
  | 18 => ("RefactoringReplayModel", "outcomes", "[I", true)
  | 19 => ("RefactoringReplayModel", "latest", "[I", true)
  | 20 => ("RefactoringReplayModel", "latestMany", "I", false)
  | 21 => ("RefactoringReplayModel", "toA", "I", false)
  | 22 => ("RefactoringReplayModel", "toM", "I", false)
  | 23 => ("RefactoringReplayModel", "toB", "I", false)
  | _ => ("RefactoringReplayModel", "toN", "I", false)
def tyX7 : Nat → FieldType := fun k => match k with
  | 0 => .array .int
  | 1 => .array .int
  | 2 => .array .int
  | 3 => .array .int
  | 4 => .array .int
  | 5 => .array .int
  | 6 => .array .int
  | 7 => .array .int
  | 8 => .int
  | 9 => .int
  | 10 => .int
  | 11 => .array .int
  | 12 => .array .int
  | 13 => .array .int
  | 14 => .array .int
  | 15 => .array .int
  | 16 => .array .int
  | 17 => .array .int
  | 18 => .array .int
  | 19 => .array .int
  | 20 => .int
  | 21 => .int
  | 22 => .int
  | 23 => .int
  | _ => .int
abbrev zm_cl : List vw_C := [(RX0, TX0, 5), (RX1, TX1, 2), (RX2, TX2, 7), (RX3, TX3, 4), (RX4, TX4, 6), (RX5, TX5, 4), (RX6, TX6, 11), (RX7, TX7, 25)]
/-- class names by their numbers -/
def zm_cn : Nat → String := fun k => match k with
  | 0 => RX0
  | 1 => RX1
  | 2 => RX2
  | 3 => RX3
  | 4 => RX4
  | 5 => RX5
  | 6 => RX6
  | 7 => RX7
  | 8 => "RefactoringReplayLaw"
  | 9 => "java/util/Arrays"
  | 10 => "java/lang/Long"
  | 11 => "java/lang/Integer"
  | _ => "java/lang/Math"
def zm_T : Nat → u_T := fun k => match k with
  | 0 => TX0
  | 1 => TX1
  | 2 => TX2
  | 3 => TX3
  | 4 => TX4
  | 5 => TX5
  | 6 => TX6
  | _ => TX7
def zm_N : Nat → Nat := fun k => match k with
  | 0 => 5
  | 1 => 2
  | 2 => 7
  | 3 => 4
  | 4 => 6
  | 5 => 4
  | 6 => 11
  | _ => 25
def zm_ty : Nat → Nat → FieldType := fun k => match k with
  | 0 => tyX0
  | 1 => tyX1
  | 2 => tyX2
  | 3 => tyX3
  | 4 => tyX4
  | 5 => tyX5
  | 6 => tyX6
  | _ => tyX7
/-- methods by their numbers -/
abbrev y_Arrays_fill : Nat := 0
abbrev y_Prog_init : Nat := 1
abbrev y_Change_init : Nat := 2
abbrev y_List_init : Nat := 3
abbrev y_Comm_init : Nat := 4
abbrev y_Match_init : Nat := 5
abbrev y_Repl_init : Nat := 6
abbrev y_RR_init : Nat := 7
abbrev y_Mod_init : Nat := 8
abbrev y_RR_programOf : Nat := 9
abbrev y_Change_set : Nat := 10
abbrev y_RR_isClassName : Nat := 11
abbrev y_RR_isMemberName : Nat := 12
abbrev y_Change_hasTwoMembers : Nat := 13
abbrev y_Change_hasLegalNames : Nat := 14
abbrev y_Prog_classAt : Nat := 15
abbrev y_Prog_freeSlot : Nat := 16
abbrev y_Prog_putClass : Nat := 17
abbrev y_Prog_namesIn : Nat := 18
abbrev y_Prog_below : Nat := 19
abbrev y_Prog_dropClass : Nat := 20
abbrev y_Prog_giveClassName : Nat := 21
abbrev y_Prog_traceAncestors : Nat := 22
abbrev y_Prog_giveSuper : Nat := 23
abbrev y_Prog_holds : Nat := 24
abbrev y_Prog_line : Nat := 25
abbrev y_Prog_putMember : Nat := 26
abbrev y_Prog_memberIn : Nat := 27
abbrev y_Prog_memberAt : Nat := 28
abbrev y_Prog_isUse : Nat := 29
abbrev y_Prog_usersOf : Nat := 30
abbrev y_Prog_dropMember : Nat := 31
abbrev y_Prog_giveMemberName : Nat := 32
abbrev y_Prog_giveOwner : Nat := 33
abbrev y_Long_bitCount : Nat := 34
abbrev y_Prog_useCount : Nat := 35
abbrev y_Prog_putUse : Nat := 36
abbrev y_Prog_dropUse : Nat := 37
abbrev y_Prog_attempt : Nat := 38
abbrev y_Change_copyFrom : Nat := 39
abbrev y_List_append : Nat := 40
abbrev y_RR_change : Nat := 41
abbrev y_RR_addClass : Nat := 42
abbrev y_Law_addClass : Nat := 43
abbrev y_Mod_in : Nat := 44
abbrev y_Mod_isClassName : Nat := 45
abbrev y_Mod_classAt : Nat := 46
abbrev y_Mod_countOf : Nat := 47
abbrev y_Mod_freeAt : Nat := 48
abbrev y_Mod_addsClass : Nat := 49
abbrev y_Mod_removesClass : Nat := 50
abbrev y_Mod_renamesClass : Nat := 51
abbrev y_Mod_isUnder : Nat := 52
abbrev y_Mod_setsSuper : Nat := 53
abbrev y_Mod_memberAt : Nat := 54
abbrev y_Mod_areKin : Nat := 55
abbrev y_Mod_isTaken : Nat := 56
abbrev y_Mod_addsMember : Nat := 57
abbrev y_Mod_removesMember : Nat := 58
abbrev y_Mod_renamesMember : Nat := 59
abbrev y_Mod_movesMember : Nat := 60
abbrev y_Mod_memberOf : Nat := 61
abbrev y_Mod_addsUse : Nat := 62
abbrev y_Mod_removesUse : Nat := 63
abbrev y_Mod_makes : Nat := 64
abbrev y_Mod_changes : Nat := 65
abbrev y_Mod_addClass : Nat := 66
abbrev y_Mod_thrown : Nat := 67
abbrev y_RR_removeClass : Nat := 68
abbrev y_Law_removeClass : Nat := 69
abbrev y_Mod_removeClass : Nat := 70
abbrev y_RR_renameClass : Nat := 71
abbrev y_Law_renameClass : Nat := 72
abbrev y_Mod_renameClass : Nat := 73
abbrev y_RR_setSuper : Nat := 74
abbrev y_Law_setSuper : Nat := 75
abbrev y_Mod_setSuper : Nat := 76
abbrev y_RR_addMember : Nat := 77
abbrev y_Law_addMember : Nat := 78
abbrev y_Mod_isMemberName : Nat := 79
abbrev y_Mod_addMember : Nat := 80
abbrev y_RR_removeMember : Nat := 81
abbrev y_Law_removeMember : Nat := 82
abbrev y_Mod_removeMember : Nat := 83
abbrev y_RR_renameMember : Nat := 84
abbrev y_Law_renameMember : Nat := 85
abbrev y_Mod_renameMember : Nat := 86
abbrev y_RR_moveMember : Nat := 87
abbrev y_Law_moveMember : Nat := 88
abbrev y_Mod_moveMember : Nat := 89
abbrev y_RR_addUse : Nat := 90
abbrev y_Law_addUse : Nat := 91
abbrev y_Mod_areFour : Nat := 92
abbrev y_Mod_addUse : Nat := 93
abbrev y_RR_removeUse : Nat := 94
abbrev y_Law_removeUse : Nat := 95
abbrev y_Mod_removeUse : Nat := 96
abbrev y_Prog_classCount : Nat := 97
abbrev y_RR_classes : Nat := 98
abbrev y_Law_classes : Nat := 99
abbrev y_Mod_lacksVersion : Nat := 100
abbrev y_Mod_copies : Nat := 101
abbrev y_Mod_looks : Nat := 102
abbrev y_Mod_classes : Nat := 103
abbrev y_Prog_nameByOrder : Nat := 104
abbrev y_RR_className : Nat := 105
abbrev y_Law_className : Nat := 106
abbrev y_Mod_ordered : Nat := 107
abbrev y_Mod_fails : Nat := 108
abbrev y_Mod_className : Nat := 109
abbrev y_RR_requireClassName : Nat := 110
abbrev y_Prog_superNameOf : Nat := 111
abbrev y_RR_superOf : Nat := 112
abbrev y_Law_superOf : Nat := 113
abbrev y_Mod_isWrong : Nat := 114
abbrev y_Mod_nameOfSuper : Nat := 115
abbrev y_Mod_superOf : Nat := 116
abbrev y_RR_members : Nat := 117
abbrev y_Law_members : Nat := 118
abbrev y_Mod_membersOf : Nat := 119
abbrev y_Mod_members : Nat := 120
abbrev y_RR_uses : Nat := 121
abbrev y_Law_uses : Nat := 122
abbrev y_Mod_uses : Nat := 123
abbrev y_RR_requireMemberName : Nat := 124
abbrev y_RR_hasUse : Nat := 125
abbrev y_Law_hasUse : Nat := 126
abbrev y_Mod_hasUse : Nat := 127
abbrev y_Prog_copyFrom : Nat := 128
abbrev y_RR_copyVersion : Nat := 129
abbrev y_Mod_copyVersion : Nat := 130
abbrev y_Prog_memberCount : Nat := 131
abbrev y_Prog_hasClassesIn : Nat := 132
abbrev y_Prog_ownerNameOf : Nat := 133
abbrev y_Prog_twinOf : Nat := 134
abbrev y_Prog_hasMembersIn : Nat := 135
abbrev y_Prog_hasUsesIn : Nat := 136
abbrev y_Prog_isSameAs : Nat := 137
abbrev y_RR_areSame : Nat := 138
abbrev y_Mod_twin : Nat := 139
abbrev y_Mod_isPart : Nat := 140
abbrev y_Mod_areOne : Nat := 141
abbrev y_Mod_areSame : Nat := 142
abbrev y_RR_log : Nat := 143
abbrev y_Mod_log : Nat := 144
abbrev y_RR_requireChange : Nat := 145
abbrev y_Math_min : Nat := 146
abbrev y_Math_max : Nat := 147
abbrev y_List_at : Nat := 148
abbrev y_RR_kindOf : Nat := 149
abbrev y_Law_kindOf : Nat := 150
abbrev y_Mod_kindOf : Nat := 151
abbrev y_RR_nameOf : Nat := 152
abbrev y_Law_nameOf : Nat := 153
abbrev y_Mod_nameOf : Nat := 154
abbrev y_RR_clearLog : Nat := 155
abbrev y_Mod_clearLog : Nat := 156
abbrev y_Prog_makeFirst : Nat := 157
abbrev y_RR_undo : Nat := 158
abbrev y_Law_undo : Nat := 159
abbrev y_Mod_makesOf : Nat := 160
abbrev y_Mod_goesTo : Nat := 161
abbrev y_Mod_undo : Nat := 162
abbrev y_RR_requireNeighbours : Nat := 163
abbrev y_Change_replaceClass : Nat := 164
abbrev y_Change_replaceMember : Nat := 165
abbrev y_Change_carryBack : Nat := 166
abbrev y_Change_carryForward : Nat := 167
abbrev y_Comm_test : Nat := 168
abbrev y_Comm_testAt : Nat := 169
abbrev y_RR_commutes : Nat := 170
abbrev y_Law_commutes : Nat := 171
abbrev y_Mod_renames : Nat := 172
abbrev y_Mod_hasMember : Nat := 173
abbrev y_Mod_renamesPair : Nat := 174
abbrev y_Mod_carries : Nat := 175
abbrev y_Mod_commute : Nat := 176
abbrev y_Mod_commutes : Nat := 177
abbrev y_Comm_storeAt : Nat := 178
abbrev y_RR_exchange : Nat := 179
abbrev y_Law_exchange : Nat := 180
abbrev y_Mod_exchanges : Nat := 181
abbrev y_Mod_exchange : Nat := 182
abbrev y_List_copyFrom : Nat := 183
abbrev y_Comm_movesBehind : Nat := 184
abbrev y_Comm_needsOf : Nat := 185
abbrev y_RR_needs : Nat := 186
abbrev y_Law_needs : Nat := 187
abbrev y_Mod_copiesLog : Nat := 188
abbrev y_Mod_needsOf : Nat := 189
abbrev y_Mod_needs : Nat := 190
abbrev y_Match_joinClasses : Nat := 191
abbrev y_Match_joinClassesByName : Nat := 192
abbrev y_Integer_bitCount : Nat := 193
abbrev y_Match_closestTo : Nat := 194
abbrev y_Match_joinClassesByMembers : Nat := 195
abbrev y_Match_joinMembers : Nat := 196
abbrev y_Match_joinMembersOfClasses : Nat := 197
abbrev y_Match_onlyFree : Nat := 198
abbrev y_Match_joinLoneMembers : Nat := 199
abbrev y_Match_find : Nat := 200
abbrev y_RR_matchOfClass : Nat := 201
abbrev y_Law_matchOfClass : Nat := 202
abbrev y_Mod_isMatched : Nat := 203
abbrev y_Mod_bits : Nat := 204
abbrev y_Mod_likest : Nat := 205
abbrev y_Mod_lonely : Nat := 206
abbrev y_Mod_matches : Nat := 207
abbrev y_Mod_matchOfClass : Nat := 208
abbrev y_RR_matchOfMember : Nat := 209
abbrev y_Law_matchOfMember : Nat := 210
abbrev y_Mod_matchOfMember : Nat := 211
abbrev y_RR_requireSelection : Nat := 212
abbrev y_Repl_classNameOf : Nat := 213
abbrev y_Repl_memberPartner : Nat := 214
abbrev y_Repl_translateUser : Nat := 215
abbrev y_Repl_translateUsed : Nat := 216
abbrev y_Repl_translate : Nat := 217
abbrev y_Repl_countsAsMade : Nat := 218
abbrev y_Repl_isTaken : Nat := 219
abbrev y_Repl_isMendable : Nat := 220
abbrev y_Change_advanceNewName : Nat := 221
abbrev y_Repl_tryOtherNames : Nat := 222
abbrev y_Repl_tryPlan : Nat := 223
abbrev y_Match_partClass : Nat := 224
abbrev y_Match_partMember : Nat := 225
abbrev y_Repl_follow : Nat := 226
abbrev y_Repl_run : Nat := 227
abbrev y_RR_replay : Nat := 228
abbrev y_Law_replay : Nat := 229
abbrev y_Mod_isSelection : Nat := 230
abbrev y_Mod_nameFor : Nat := 231
abbrev y_Mod_memberFor : Nat := 232
abbrev y_Mod_means : Nat := 233
abbrev y_Mod_counts : Nat := 234
abbrev y_Mod_nextLetter : Nat := 235
abbrev y_Mod_mends : Nat := 236
abbrev y_Mod_tries : Nat := 237
abbrev y_Mod_goesOn : Nat := 238
abbrev y_Mod_replays : Nat := 239
abbrev y_Mod_replay : Nat := 240
abbrev y_RR_forecast : Nat := 241
abbrev y_Law_forecast : Nat := 242
abbrev y_Mod_forecast : Nat := 243
abbrev y_RR_outcome : Nat := 244
abbrev y_Law_outcome : Nat := 245
abbrev y_Mod_outcome : Nat := 246
abbrev y_RR_blendMembers : Nat := 247
abbrev y_RR_blend : Nat := 248
abbrev y_RR_fingerprint : Nat := 249
abbrev y_Mod_mixes : Nat := 250
abbrev y_Mod_fingerprint : Nat := 251
abbrev y_Law_law : Nat := 252
/-- name, descriptor, class, level, kind (0 static, 1 instance, 2 constructor, 3 static with a table, 9 the law), number of parameters -/
abbrev zm_D : Type := String × String × Nat × Nat × Nat × Nat
def zm_md (y : Nat) : zm_D := cond (Nat.blt y 126) (cond (Nat.blt y 63) (cond (Nat.blt y 31) (cond (Nat.blt y 15) (cond (Nat.blt y 7) (cond (Nat.blt y 3) (cond (Nat.blt y 1) (("fill", "([II)V", 9, 1, 0, 2)) (cond (Nat.blt y 2) (("<init>", "()V", 4, 2, 2, 0)) (("<init>", "()V", 0, 1, 2, 0)))) (cond (Nat.blt y 5) (cond (Nat.blt y 4) (("<init>", "()V", 1, 2, 2, 0)) (("<init>", "()V", 2, 3, 2, 0))) (cond (Nat.blt y 6) (("<init>", "()V", 3, 1, 2, 0)) (("<init>", "()V", 5, 3, 2, 0))))) (cond (Nat.blt y 11) (cond (Nat.blt y 9) (cond (Nat.blt y 8) (("<init>", "()V", 6, 4, 2, 0)) (("<init>", "()V", 7, 1, 2, 0))) (cond (Nat.blt y 10) (("programOf", "(I)LRefactoringReplay$Program;", 6, 6, 1, 1)) (("set", "(IIIII)V", 0, 1, 1, 5)))) (cond (Nat.blt y 13) (cond (Nat.blt y 12) (("isClassName", "(I)Z", 6, 1, 0, 1)) (("isMemberName", "(I)Z", 6, 1, 0, 1))) (cond (Nat.blt y 14) (("hasTwoMembers", "()Z", 0, 1, 1, 0)) (("hasLegalNames", "()Z", 0, 2, 1, 0)))))) (cond (Nat.blt y 23) (cond (Nat.blt y 19) (cond (Nat.blt y 17) (cond (Nat.blt y 16) (("classAt", "(I)I", 4, 1, 1, 1)) (("freeSlot", "([I)I", 4, 1, 0, 1))) (cond (Nat.blt y 18) (("putClass", "(I)I", 4, 2, 1, 1)) (("namesIn", "(I)I", 4, 1, 1, 1)))) (cond (Nat.blt y 21) (cond (Nat.blt y 20) (("below", "(I)I", 4, 1, 1, 1)) (("dropClass", "(I)I", 4, 2, 1, 1))) (cond (Nat.blt y 22) (("giveClassName", "(II)I", 4, 2, 1, 2)) (("traceAncestors", "()V", 4, 1, 1, 0))))) (cond (Nat.blt y 27) (cond (Nat.blt y 25) (cond (Nat.blt y 24) (("giveSuper", "(II)I", 4, 2, 1, 2)) (("holds", "(III)Z", 4, 1, 1, 3))) (cond (Nat.blt y 26) (("line", "(I)I", 4, 2, 1, 1)) (("putMember", "(II)I", 4, 3, 1, 2)))) (cond (Nat.blt y 29) (cond (Nat.blt y 28) (("memberIn", "(II)I", 4, 1, 1, 2)) (("memberAt", "(II)I", 4, 2, 1, 2))) (cond (Nat.blt y 30) (("isUse", "(II)Z", 4, 1, 1, 2)) (("usersOf", "(I)I", 4, 1, 1, 1))))))) (cond (Nat.blt y 47) (cond (Nat.blt y 39) (cond (Nat.blt y 35) (cond (Nat.blt y 33) (cond (Nat.blt y 32) (("dropMember", "(II)I", 4, 3, 1, 2)) (("giveMemberName", "(III)I", 4, 3, 1, 3))) (cond (Nat.blt y 34) (("giveOwner", "(III)I", 4, 3, 1, 3)) (("bitCount", "(J)I", 10, 1, 0, 1)))) (cond (Nat.blt y 37) (cond (Nat.blt y 36) (("useCount", "()I", 4, 2, 1, 0)) (("putUse", "(II)I", 4, 3, 1, 2))) (cond (Nat.blt y 38) (("dropUse", "(II)I", 4, 2, 1, 2)) (("attempt", "(LRefactoringReplay$Change;)I", 4, 4, 1, 1))))) (cond (Nat.blt y 43) (cond (Nat.blt y 41) (cond (Nat.blt y 40) (("copyFrom", "(LRefactoringReplay$Change;)V", 0, 2, 1, 1)) (("append", "(LRefactoringReplay$Change;)V", 1, 3, 1, 1))) (cond (Nat.blt y 42) (("change", "(IIIIII)I", 6, 7, 1, 6)) (("addClass", "(II)I", 6, 8, 1, 2)))) (cond (Nat.blt y 45) (cond (Nat.blt y 44) (("addClass", "(LRefactoringReplay;II[J)I", 8, 9, 3, 4)) (("in", "(III)Z", 7, 1, 0, 3))) (cond (Nat.blt y 46) (("isClassName", "(I)Z", 7, 2, 0, 1)) (("classAt", "([II)I", 7, 1, 0, 2)))))) (cond (Nat.blt y 55) (cond (Nat.blt y 51) (cond (Nat.blt y 49) (cond (Nat.blt y 48) (("countOf", "([III)I", 7, 1, 0, 3)) (("freeAt", "([II)I", 7, 1, 0, 2))) (cond (Nat.blt y 50) (("addsClass", "([III)I", 7, 2, 1, 3)) (("removesClass", "([II)I", 7, 1, 1, 2)))) (cond (Nat.blt y 53) (cond (Nat.blt y 52) (("renamesClass", "([III)I", 7, 2, 1, 3)) (("isUnder", "([III)Z", 7, 1, 0, 3))) (cond (Nat.blt y 54) (("setsSuper", "([III)I", 7, 2, 1, 3)) (("memberAt", "([III)I", 7, 1, 0, 3))))) (cond (Nat.blt y 59) (cond (Nat.blt y 57) (cond (Nat.blt y 56) (("areKin", "([III)Z", 7, 2, 0, 3)) (("isTaken", "([IIII)Z", 7, 3, 0, 4))) (cond (Nat.blt y 58) (("addsMember", "([III)I", 7, 4, 1, 3)) (("removesMember", "([II)I", 7, 1, 1, 2)))) (cond (Nat.blt y 61) (cond (Nat.blt y 60) (("renamesMember", "([IIII)I", 7, 4, 1, 4)) (("movesMember", "([IIII)I", 7, 4, 1, 4))) (cond (Nat.blt y 62) (("memberOf", "([III)I", 7, 2, 0, 3)) (("addsUse", "([III)I", 7, 2, 1, 3)))))))) (cond (Nat.blt y 94) (cond (Nat.blt y 78) (cond (Nat.blt y 70) (cond (Nat.blt y 66) (cond (Nat.blt y 64) (("removesUse", "([III)I", 7, 1, 1, 3)) (cond (Nat.blt y 65) (("makes", "([IIIIII)I", 7, 5, 1, 6)) (("changes", "(IIIIIIZ)I", 7, 6, 1, 7)))) (cond (Nat.blt y 68) (cond (Nat.blt y 67) (("addClass", "(II)I", 7, 7, 1, 2)) (("thrown", "()I", 7, 1, 1, 0))) (cond (Nat.blt y 69) (("removeClass", "(II)I", 6, 8, 1, 2)) (("removeClass", "(LRefactoringReplay;II[J)I", 8, 9, 3, 4))))) (cond (Nat.blt y 74) (cond (Nat.blt y 72) (cond (Nat.blt y 71) (("removeClass", "(II)I", 7, 7, 1, 2)) (("renameClass", "(III)I", 6, 8, 1, 3))) (cond (Nat.blt y 73) (("renameClass", "(LRefactoringReplay;III[J)I", 8, 9, 3, 5)) (("renameClass", "(III)I", 7, 7, 1, 3)))) (cond (Nat.blt y 76) (cond (Nat.blt y 75) (("setSuper", "(III)I", 6, 8, 1, 3)) (("setSuper", "(LRefactoringReplay;III[J)I", 8, 9, 3, 5))) (cond (Nat.blt y 77) (("setSuper", "(III)I", 7, 7, 1, 3)) (("addMember", "(III)I", 6, 8, 1, 3)))))) (cond (Nat.blt y 86) (cond (Nat.blt y 82) (cond (Nat.blt y 80) (cond (Nat.blt y 79) (("addMember", "(LRefactoringReplay;III[J)I", 8, 9, 3, 5)) (("isMemberName", "(I)Z", 7, 2, 0, 1))) (cond (Nat.blt y 81) (("addMember", "(III)I", 7, 7, 1, 3)) (("removeMember", "(III)I", 6, 8, 1, 3)))) (cond (Nat.blt y 84) (cond (Nat.blt y 83) (("removeMember", "(LRefactoringReplay;III[J)I", 8, 9, 3, 5)) (("removeMember", "(III)I", 7, 7, 1, 3))) (cond (Nat.blt y 85) (("renameMember", "(IIII)I", 6, 8, 1, 4)) (("renameMember", "(LRefactoringReplay;IIII[J)I", 8, 9, 3, 6))))) (cond (Nat.blt y 90) (cond (Nat.blt y 88) (cond (Nat.blt y 87) (("renameMember", "(IIII)I", 7, 7, 1, 4)) (("moveMember", "(IIII)I", 6, 8, 1, 4))) (cond (Nat.blt y 89) (("moveMember", "(LRefactoringReplay;IIII[J)I", 8, 9, 3, 6)) (("moveMember", "(IIII)I", 7, 7, 1, 4)))) (cond (Nat.blt y 92) (cond (Nat.blt y 91) (("addUse", "(IIIII)I", 6, 8, 1, 5)) (("addUse", "(LRefactoringReplay;IIIII[J)I", 8, 9, 3, 7))) (cond (Nat.blt y 93) (("areFour", "(IIII)Z", 7, 3, 0, 4)) (("addUse", "(IIIII)I", 7, 7, 1, 5))))))) (cond (Nat.blt y 110) (cond (Nat.blt y 102) (cond (Nat.blt y 98) (cond (Nat.blt y 96) (cond (Nat.blt y 95) (("removeUse", "(IIIII)I", 6, 8, 1, 5)) (("removeUse", "(LRefactoringReplay;IIIII[J)I", 8, 9, 3, 7))) (cond (Nat.blt y 97) (("removeUse", "(IIIII)I", 7, 7, 1, 5)) (("classCount", "()I", 4, 1, 1, 0)))) (cond (Nat.blt y 100) (cond (Nat.blt y 99) (("classes", "(I)I", 6, 7, 1, 1)) (("classes", "(LRefactoringReplay;I[J)I", 8, 8, 3, 3))) (cond (Nat.blt y 101) (("lacksVersion", "(I)Z", 7, 2, 1, 1)) (("copies", "([I[I)V", 7, 1, 0, 2))))) (cond (Nat.blt y 106) (cond (Nat.blt y 104) (cond (Nat.blt y 103) (("looks", "(I)V", 7, 2, 1, 1)) (("classes", "(I)I", 7, 3, 1, 1))) (cond (Nat.blt y 105) (("nameByOrder", "(I)I", 4, 2, 1, 1)) (("className", "(II)I", 6, 7, 1, 2)))) (cond (Nat.blt y 108) (cond (Nat.blt y 107) (("className", "(LRefactoringReplay;II[J)I", 8, 8, 3, 4)) (("ordered", "([II)I", 7, 2, 0, 2))) (cond (Nat.blt y 109) (("fails", "(I)I", 7, 1, 1, 1)) (("className", "(II)I", 7, 3, 1, 2)))))) (cond (Nat.blt y 118) (cond (Nat.blt y 114) (cond (Nat.blt y 112) (cond (Nat.blt y 111) (("requireClassName", "(I)V", 6, 6, 0, 1)) (("superNameOf", "(I)I", 4, 1, 1, 1))) (cond (Nat.blt y 113) (("superOf", "(II)I", 6, 7, 1, 2)) (("superOf", "(LRefactoringReplay;II[J)I", 8, 8, 3, 4)))) (cond (Nat.blt y 116) (cond (Nat.blt y 115) (("isWrong", "(IZ)Z", 7, 2, 1, 2)) (("nameOfSuper", "([II)I", 7, 1, 0, 2))) (cond (Nat.blt y 117) (("superOf", "(II)I", 7, 3, 1, 2)) (("members", "(II)I", 6, 7, 1, 2))))) (cond (Nat.blt y 122) (cond (Nat.blt y 120) (cond (Nat.blt y 119) (("members", "(LRefactoringReplay;II[J)I", 8, 8, 3, 4)) (("membersOf", "([II)I", 7, 1, 0, 2))) (cond (Nat.blt y 121) (("members", "(II)I", 7, 3, 1, 2)) (("uses", "(I)I", 6, 7, 1, 1)))) (cond (Nat.blt y 124) (cond (Nat.blt y 123) (("uses", "(LRefactoringReplay;I[J)I", 8, 8, 3, 3)) (("uses", "(I)I", 7, 3, 1, 1))) (cond (Nat.blt y 125) (("requireMemberName", "(I)V", 6, 6, 0, 1)) (("hasUse", "(IIIII)Z", 6, 7, 1, 5))))))))) (cond (Nat.blt y 189) (cond (Nat.blt y 157) (cond (Nat.blt y 141) (cond (Nat.blt y 133) (cond (Nat.blt y 129) (cond (Nat.blt y 127) (("hasUse", "(LRefactoringReplay;IIIII[J)I", 8, 8, 3, 7)) (cond (Nat.blt y 128) (("hasUse", "(IIIII)Z", 7, 4, 1, 5)) (("copyFrom", "(LRefactoringReplay$Program;)V", 4, 3, 1, 1)))) (cond (Nat.blt y 131) (cond (Nat.blt y 130) (("copyVersion", "()I", 6, 4, 1, 0)) (("copyVersion", "()I", 7, 2, 1, 0))) (cond (Nat.blt y 132) (("memberCount", "()I", 4, 1, 1, 0)) (("hasClassesIn", "(LRefactoringReplay$Program;)Z", 4, 2, 1, 1))))) (cond (Nat.blt y 137) (cond (Nat.blt y 135) (cond (Nat.blt y 134) (("ownerNameOf", "(I)I", 4, 1, 1, 1)) (("twinOf", "(ILRefactoringReplay$Program;)I", 4, 2, 1, 2))) (cond (Nat.blt y 136) (("hasMembersIn", "(LRefactoringReplay$Program;)Z", 4, 3, 1, 1)) (("hasUsesIn", "(LRefactoringReplay$Program;)Z", 4, 3, 1, 1)))) (cond (Nat.blt y 139) (cond (Nat.blt y 138) (("isSameAs", "(LRefactoringReplay$Program;)Z", 4, 4, 1, 1)) (("areSame", "()Z", 6, 5, 1, 0))) (cond (Nat.blt y 140) (("twin", "([II[I)I", 7, 3, 0, 3)) (("isPart", "([I[I)Z", 7, 4, 0, 2)))))) (cond (Nat.blt y 149) (cond (Nat.blt y 145) (cond (Nat.blt y 143) (cond (Nat.blt y 142) (("areOne", "([I[I)Z", 7, 5, 0, 2)) (("areSame", "()Z", 7, 6, 1, 0))) (cond (Nat.blt y 144) (("log", "()I", 6, 1, 1, 0)) (("log", "()I", 7, 1, 1, 0)))) (cond (Nat.blt y 147) (cond (Nat.blt y 146) (("requireChange", "(I)V", 6, 6, 1, 1)) (("min", "(II)I", 12, 1, 0, 2))) (cond (Nat.blt y 148) (("max", "(II)I", 12, 1, 0, 2)) (("at", "(I)LRefactoringReplay$Change;", 1, 2, 1, 1))))) (cond (Nat.blt y 153) (cond (Nat.blt y 151) (cond (Nat.blt y 150) (("kindOf", "(I)I", 6, 7, 1, 1)) (("kindOf", "(LRefactoringReplay;I[J)I", 8, 8, 3, 3))) (cond (Nat.blt y 152) (("kindOf", "(I)I", 7, 2, 1, 1)) (("nameOf", "(II)I", 6, 7, 1, 2)))) (cond (Nat.blt y 155) (cond (Nat.blt y 154) (("nameOf", "(LRefactoringReplay;II[J)I", 8, 8, 3, 4)) (("nameOf", "(II)I", 7, 2, 1, 2))) (cond (Nat.blt y 156) (("clearLog", "()I", 6, 4, 1, 0)) (("clearLog", "()I", 7, 2, 1, 0))))))) (cond (Nat.blt y 173) (cond (Nat.blt y 165) (cond (Nat.blt y 161) (cond (Nat.blt y 159) (cond (Nat.blt y 158) (("makeFirst", "(LRefactoringReplay$ChangeList;I)V", 4, 5, 1, 2)) (("undo", "()I", 6, 6, 1, 0))) (cond (Nat.blt y 160) (("undo", "(LRefactoringReplay;[J)I", 8, 7, 3, 2)) (("makesOf", "([I[II)I", 7, 6, 1, 3)))) (cond (Nat.blt y 163) (cond (Nat.blt y 162) (("goesTo", "([I[II)V", 7, 7, 1, 3)) (("undo", "()I", 7, 8, 1, 0))) (cond (Nat.blt y 164) (("requireNeighbours", "(I)V", 6, 6, 1, 1)) (("replaceClass", "(II)V", 0, 1, 1, 2))))) (cond (Nat.blt y 169) (cond (Nat.blt y 167) (cond (Nat.blt y 166) (("replaceMember", "(IIII)V", 0, 2, 1, 4)) (("carryBack", "(LRefactoringReplay$Change;)V", 0, 3, 1, 1))) (cond (Nat.blt y 168) (("carryForward", "(LRefactoringReplay$Change;)V", 0, 3, 1, 1)) (("test", "(LRefactoringReplay$ChangeList;I)Z", 2, 5, 1, 2)))) (cond (Nat.blt y 171) (cond (Nat.blt y 170) (("testAt", "(LRefactoringReplay$Program;LRefactoringReplay$ChangeList;I)Z", 2, 6, 1, 3)) (("commutes", "(I)Z", 6, 7, 1, 1))) (cond (Nat.blt y 172) (("commutes", "(LRefactoringReplay;I[J)I", 8, 8, 3, 3)) (("renames", "([III)V", 7, 1, 0, 3)))))) (cond (Nat.blt y 181) (cond (Nat.blt y 177) (cond (Nat.blt y 175) (cond (Nat.blt y 174) (("hasMember", "(I)Z", 7, 1, 0, 1)) (("renamesPair", "([IIIII)V", 7, 2, 0, 5))) (cond (Nat.blt y 176) (("carries", "([IIIIIIZ)V", 7, 3, 0, 7)) (("commute", "([II)Z", 7, 8, 1, 2)))) (cond (Nat.blt y 179) (cond (Nat.blt y 178) (("commutes", "(I)Z", 7, 9, 1, 1)) (("storeAt", "(LRefactoringReplay$ChangeList;I)V", 2, 3, 1, 2))) (cond (Nat.blt y 180) (("exchange", "(I)Z", 6, 7, 1, 1)) (("exchange", "(LRefactoringReplay;I[J)I", 8, 8, 3, 3))))) (cond (Nat.blt y 185) (cond (Nat.blt y 183) (cond (Nat.blt y 182) (("exchanges", "([II)V", 7, 1, 1, 2)) (("exchange", "(I)Z", 7, 9, 1, 1))) (cond (Nat.blt y 184) (("copyFrom", "(LRefactoringReplay$ChangeList;)V", 1, 3, 1, 1)) (("movesBehind", "(LRefactoringReplay$Program;II)Z", 2, 6, 1, 3)))) (cond (Nat.blt y 187) (cond (Nat.blt y 186) (("needsOf", "(LRefactoringReplay$Program;LRefactoringReplay$ChangeList;I)I", 2, 7, 1, 3)) (("needs", "(I)I", 6, 8, 1, 1))) (cond (Nat.blt y 188) (("needs", "(LRefactoringReplay;I[J)I", 8, 9, 3, 3)) (("copiesLog", "([I[I)V", 7, 1, 0, 2)))))))) (cond (Nat.blt y 221) (cond (Nat.blt y 205) (cond (Nat.blt y 197) (cond (Nat.blt y 193) (cond (Nat.blt y 191) (cond (Nat.blt y 190) (("needsOf", "(I)I", 7, 9, 1, 1)) (("needs", "(I)I", 7, 10, 1, 1))) (cond (Nat.blt y 192) (("joinClasses", "(II)V", 3, 1, 1, 2)) (("joinClassesByName", "(LRefactoringReplay$Program;LRefactoringReplay$Program;)V", 3, 2, 1, 2)))) (cond (Nat.blt y 195) (cond (Nat.blt y 194) (("bitCount", "(I)I", 11, 1, 0, 1)) (("closestTo", "(ILRefactoringReplay$Program;)I", 3, 2, 1, 2))) (cond (Nat.blt y 196) (("joinClassesByMembers", "(LRefactoringReplay$Program;LRefactoringReplay$Program;)V", 3, 3, 1, 2)) (("joinMembers", "(II)V", 3, 1, 1, 2))))) (cond (Nat.blt y 201) (cond (Nat.blt y 199) (cond (Nat.blt y 198) (("joinMembersOfClasses", "(LRefactoringReplay$Program;LRefactoringReplay$Program;)V", 3, 2, 1, 2)) (("onlyFree", "(LRefactoringReplay$Program;I)I", 3, 1, 1, 2))) (cond (Nat.blt y 200) (("joinLoneMembers", "(LRefactoringReplay$Program;LRefactoringReplay$Program;)V", 3, 2, 1, 2)) (("find", "(LRefactoringReplay$Program;LRefactoringReplay$Program;)V", 3, 4, 1, 2)))) (cond (Nat.blt y 203) (cond (Nat.blt y 202) (("matchOfClass", "(I)I", 6, 7, 1, 1)) (("matchOfClass", "(LRefactoringReplay;I[J)I", 8, 8, 3, 3))) (cond (Nat.blt y 204) (("isMatched", "([III)Z", 7, 1, 1, 3)) (("bits", "(I)I", 7, 1, 0, 1)))))) (cond (Nat.blt y 213) (cond (Nat.blt y 209) (cond (Nat.blt y 207) (cond (Nat.blt y 206) (("likest", "(I[I)I", 7, 3, 1, 2)) (("lonely", "([II)I", 7, 2, 1, 2))) (cond (Nat.blt y 208) (("matches", "([I)V", 7, 4, 1, 1)) (("matchOfClass", "(I)I", 7, 5, 1, 1)))) (cond (Nat.blt y 211) (cond (Nat.blt y 210) (("matchOfMember", "(II)I", 6, 7, 1, 2)) (("matchOfMember", "(LRefactoringReplay;II[J)I", 8, 8, 3, 4))) (cond (Nat.blt y 212) (("matchOfMember", "(II)I", 7, 5, 1, 2)) (("requireSelection", "(I)V", 6, 6, 1, 1))))) (cond (Nat.blt y 217) (cond (Nat.blt y 215) (cond (Nat.blt y 214) (("classNameOf", "(ILRefactoringReplay$Program;)I", 5, 2, 1, 2)) (("memberPartner", "(II)I", 5, 3, 1, 2))) (cond (Nat.blt y 216) (("translateUser", "(LRefactoringReplay$Change;LRefactoringReplay$Program;)Z", 5, 4, 1, 2)) (("translateUsed", "(LRefactoringReplay$Change;LRefactoringReplay$Program;)Z", 5, 4, 1, 2)))) (cond (Nat.blt y 219) (cond (Nat.blt y 218) (("translate", "(LRefactoringReplay$Change;LRefactoringReplay$Program;)Z", 5, 5, 1, 2)) (("countsAsMade", "(I)Z", 5, 1, 1, 1))) (cond (Nat.blt y 220) (("isTaken", "(LRefactoringReplay$Program;)Z", 5, 3, 1, 1)) (("isMendable", "(I)Z", 5, 1, 1, 1))))))) (cond (Nat.blt y 237) (cond (Nat.blt y 229) (cond (Nat.blt y 225) (cond (Nat.blt y 223) (cond (Nat.blt y 222) (("advanceNewName", "()V", 0, 1, 1, 0)) (("tryOtherNames", "(LRefactoringReplay$Program;I)I", 5, 5, 1, 2))) (cond (Nat.blt y 224) (("tryPlan", "(LRefactoringReplay$Program;Z)I", 5, 6, 1, 2)) (("partClass", "(I)V", 3, 1, 1, 1)))) (cond (Nat.blt y 227) (cond (Nat.blt y 226) (("partMember", "(I)V", 3, 1, 1, 1)) (("follow", "(LRefactoringReplay$Change;LRefactoringReplay$Program;Z)V", 5, 5, 1, 3))) (cond (Nat.blt y 228) (("run", "(LRefactoringReplay$Program;LRefactoringReplay$Program;LRefactoringReplay$ChangeList;IZ)I", 5, 7, 1, 5)) (("replay", "(IZ)I", 6, 8, 1, 2))))) (cond (Nat.blt y 233) (cond (Nat.blt y 231) (cond (Nat.blt y 230) (("replay", "(LRefactoringReplay;IZ[J)I", 8, 9, 3, 4)) (("isSelection", "(I)Z", 7, 1, 1, 1))) (cond (Nat.blt y 232) (("nameFor", "(I)I", 7, 1, 1, 1)) (("memberFor", "(II)I", 7, 3, 1, 2)))) (cond (Nat.blt y 235) (cond (Nat.blt y 234) (("means", "(I)Z", 7, 4, 1, 1)) (("counts", "(II)Z", 7, 1, 1, 2))) (cond (Nat.blt y 236) (("nextLetter", "(I)I", 7, 1, 0, 1)) (("mends", "(II)I", 7, 6, 1, 2)))))) (cond (Nat.blt y 245) (cond (Nat.blt y 241) (cond (Nat.blt y 239) (cond (Nat.blt y 238) (("tries", "(IZ)I", 7, 7, 1, 2)) (("goesOn", "(II)V", 7, 7, 1, 2))) (cond (Nat.blt y 240) (("replays", "(IZ)I", 7, 8, 1, 2)) (("replay", "(IZ)I", 7, 9, 1, 2)))) (cond (Nat.blt y 243) (cond (Nat.blt y 242) (("forecast", "(IZ)I", 6, 8, 1, 2)) (("forecast", "(LRefactoringReplay;IZ[J)I", 8, 9, 3, 4))) (cond (Nat.blt y 244) (("forecast", "(IZ)I", 7, 9, 1, 2)) (("outcome", "(I)I", 6, 6, 1, 1))))) (cond (Nat.blt y 249) (cond (Nat.blt y 247) (cond (Nat.blt y 246) (("outcome", "(LRefactoringReplay;I[J)I", 8, 7, 3, 3)) (("outcome", "(I)I", 7, 2, 1, 1))) (cond (Nat.blt y 248) (("blendMembers", "(JLRefactoringReplay$Program;I)J", 6, 2, 0, 3)) (("blend", "(JLRefactoringReplay$Program;)J", 6, 3, 0, 2)))) (cond (Nat.blt y 251) (cond (Nat.blt y 250) (("fingerprint", "()J", 6, 4, 1, 0)) (("mixes", "(J[I)J", 7, 3, 0, 2))) (cond (Nat.blt y 252) (("fingerprint", "()J", 7, 4, 1, 0)) (("law", "([I)Z", 8, 12, 9, 1)))))))))
def zm_by (y : Nat) : ByteArray := cond (Nat.blt y 126) (cond (Nat.blt y 63) (cond (Nat.blt y 31) (cond (Nat.blt y 15) (cond (Nat.blt y 7) (cond (Nat.blt y 3) (cond (Nat.blt y 1) (prog_21_method_103_code) (cond (Nat.blt y 2) (prog_6_method_1_code) (prog_2_method_1_code))) (cond (Nat.blt y 5) (cond (Nat.blt y 4) (prog_3_method_1_code) (prog_4_method_1_code)) (cond (Nat.blt y 6) (prog_5_method_1_code) (prog_7_method_1_code)))) (cond (Nat.blt y 11) (cond (Nat.blt y 9) (cond (Nat.blt y 8) (prog_1_method_1_code) (prog_9_method_1_code)) (cond (Nat.blt y 10) (prog_1_method_35_code) (prog_2_method_2_code))) (cond (Nat.blt y 13) (cond (Nat.blt y 12) (prog_1_method_43_code) (prog_1_method_44_code)) (cond (Nat.blt y 14) (prog_2_method_4_code) (prog_2_method_5_code))))) (cond (Nat.blt y 23) (cond (Nat.blt y 19) (cond (Nat.blt y 17) (cond (Nat.blt y 16) (prog_6_method_15_code) (prog_6_method_31_code)) (cond (Nat.blt y 18) (prog_6_method_5_code) (prog_6_method_26_code))) (cond (Nat.blt y 21) (cond (Nat.blt y 20) (prog_6_method_29_code) (prog_6_method_6_code)) (cond (Nat.blt y 22) (prog_6_method_7_code) (prog_6_method_30_code)))) (cond (Nat.blt y 27) (cond (Nat.blt y 25) (cond (Nat.blt y 24) (prog_6_method_8_code) (prog_6_method_27_code)) (cond (Nat.blt y 26) (prog_6_method_28_code) (prog_6_method_9_code))) (cond (Nat.blt y 29) (cond (Nat.blt y 28) (prog_6_method_17_code) (prog_6_method_16_code)) (cond (Nat.blt y 30) (prog_6_method_18_code) (prog_6_method_19_code)))))) (cond (Nat.blt y 47) (cond (Nat.blt y 39) (cond (Nat.blt y 35) (cond (Nat.blt y 33) (cond (Nat.blt y 32) (prog_6_method_10_code) (prog_6_method_11_code)) (cond (Nat.blt y 34) (prog_6_method_12_code) (prog_15_method_50_code))) (cond (Nat.blt y 37) (cond (Nat.blt y 36) (prog_6_method_20_code) (prog_6_method_13_code)) (cond (Nat.blt y 38) (prog_6_method_14_code) (prog_6_method_3_code)))) (cond (Nat.blt y 43) (cond (Nat.blt y 41) (cond (Nat.blt y 40) (prog_2_method_3_code) (prog_3_method_3_code)) (cond (Nat.blt y 42) (prog_1_method_34_code) (prog_1_method_2_code))) (cond (Nat.blt y 45) (cond (Nat.blt y 44) (method_3_code) (prog_9_method_3_code)) (cond (Nat.blt y 46) (prog_9_method_39_code) (prog_9_method_6_code))))) (cond (Nat.blt y 55) (cond (Nat.blt y 51) (cond (Nat.blt y 49) (cond (Nat.blt y 48) (prog_9_method_9_code) (prog_9_method_13_code)) (cond (Nat.blt y 50) (prog_9_method_15_code) (prog_9_method_16_code))) (cond (Nat.blt y 53) (cond (Nat.blt y 52) (prog_9_method_17_code) (prog_9_method_10_code)) (cond (Nat.blt y 54) (prog_9_method_18_code) (prog_9_method_7_code)))) (cond (Nat.blt y 59) (cond (Nat.blt y 57) (cond (Nat.blt y 56) (prog_9_method_11_code) (prog_9_method_12_code)) (cond (Nat.blt y 58) (prog_9_method_19_code) (prog_9_method_20_code))) (cond (Nat.blt y 61) (cond (Nat.blt y 60) (prog_9_method_21_code) (prog_9_method_22_code)) (cond (Nat.blt y 62) (prog_9_method_8_code) (prog_9_method_23_code))))))) (cond (Nat.blt y 94) (cond (Nat.blt y 78) (cond (Nat.blt y 70) (cond (Nat.blt y 66) (cond (Nat.blt y 64) (prog_9_method_24_code) (cond (Nat.blt y 65) (prog_9_method_14_code) (prog_9_method_41_code))) (cond (Nat.blt y 68) (cond (Nat.blt y 67) (prog_9_method_42_code) (prog_9_method_2_code)) (cond (Nat.blt y 69) (prog_1_method_3_code) (method_4_code)))) (cond (Nat.blt y 74) (cond (Nat.blt y 72) (cond (Nat.blt y 71) (prog_9_method_43_code) (prog_1_method_4_code)) (cond (Nat.blt y 73) (method_5_code) (prog_9_method_44_code))) (cond (Nat.blt y 76) (cond (Nat.blt y 75) (prog_1_method_5_code) (method_6_code)) (cond (Nat.blt y 77) (prog_9_method_45_code) (prog_1_method_6_code))))) (cond (Nat.blt y 86) (cond (Nat.blt y 82) (cond (Nat.blt y 80) (cond (Nat.blt y 79) (method_7_code) (prog_9_method_40_code)) (cond (Nat.blt y 81) (prog_9_method_46_code) (prog_1_method_7_code))) (cond (Nat.blt y 84) (cond (Nat.blt y 83) (method_8_code) (prog_9_method_47_code)) (cond (Nat.blt y 85) (prog_1_method_8_code) (method_9_code)))) (cond (Nat.blt y 90) (cond (Nat.blt y 88) (cond (Nat.blt y 87) (prog_9_method_48_code) (prog_1_method_9_code)) (cond (Nat.blt y 89) (method_10_code) (prog_9_method_49_code))) (cond (Nat.blt y 92) (cond (Nat.blt y 91) (prog_1_method_10_code) (method_11_code)) (cond (Nat.blt y 93) (prog_9_method_50_code) (prog_9_method_51_code)))))) (cond (Nat.blt y 110) (cond (Nat.blt y 102) (cond (Nat.blt y 98) (cond (Nat.blt y 96) (cond (Nat.blt y 95) (prog_1_method_11_code) (method_12_code)) (cond (Nat.blt y 97) (prog_9_method_52_code) (prog_6_method_21_code))) (cond (Nat.blt y 100) (cond (Nat.blt y 99) (prog_1_method_12_code) (method_13_code)) (cond (Nat.blt y 101) (prog_9_method_53_code) (prog_9_method_5_code)))) (cond (Nat.blt y 106) (cond (Nat.blt y 104) (cond (Nat.blt y 103) (prog_9_method_55_code) (prog_9_method_56_code)) (cond (Nat.blt y 105) (prog_6_method_23_code) (prog_1_method_13_code))) (cond (Nat.blt y 108) (cond (Nat.blt y 107) (method_14_code) (prog_9_method_57_code)) (cond (Nat.blt y 109) (prog_9_method_4_code) (prog_9_method_58_code))))) (cond (Nat.blt y 118) (cond (Nat.blt y 114) (cond (Nat.blt y 112) (cond (Nat.blt y 111) (prog_1_method_36_code) (prog_6_method_24_code)) (cond (Nat.blt y 113) (prog_1_method_14_code) (method_15_code))) (cond (Nat.blt y 116) (cond (Nat.blt y 115) (prog_9_method_54_code) (prog_9_method_25_code)) (cond (Nat.blt y 117) (prog_9_method_59_code) (prog_1_method_15_code)))) (cond (Nat.blt y 122) (cond (Nat.blt y 120) (cond (Nat.blt y 119) (method_16_code) (prog_9_method_60_code)) (cond (Nat.blt y 121) (prog_9_method_61_code) (prog_1_method_16_code))) (cond (Nat.blt y 124) (cond (Nat.blt y 123) (method_17_code) (prog_9_method_62_code)) (cond (Nat.blt y 125) (prog_1_method_37_code) (prog_1_method_17_code)))))))) (cond (Nat.blt y 189) (cond (Nat.blt y 157) (cond (Nat.blt y 141) (cond (Nat.blt y 133) (cond (Nat.blt y 129) (cond (Nat.blt y 127) (method_18_code) (cond (Nat.blt y 128) (prog_9_method_63_code) (prog_6_method_2_code))) (cond (Nat.blt y 131) (cond (Nat.blt y 130) (prog_1_method_18_code) (prog_9_method_64_code)) (cond (Nat.blt y 132) (prog_6_method_22_code) (prog_6_method_33_code)))) (cond (Nat.blt y 137) (cond (Nat.blt y 135) (cond (Nat.blt y 134) (prog_6_method_25_code) (prog_6_method_36_code)) (cond (Nat.blt y 136) (prog_6_method_34_code) (prog_6_method_35_code))) (cond (Nat.blt y 139) (cond (Nat.blt y 138) (prog_6_method_32_code) (prog_1_method_19_code)) (cond (Nat.blt y 140) (prog_9_method_27_code) (prog_9_method_26_code))))) (cond (Nat.blt y 149) (cond (Nat.blt y 145) (cond (Nat.blt y 143) (cond (Nat.blt y 142) (prog_9_method_28_code) (prog_9_method_65_code)) (cond (Nat.blt y 144) (prog_1_method_20_code) (prog_9_method_66_code))) (cond (Nat.blt y 147) (cond (Nat.blt y 146) (prog_1_method_38_code) (prog_16_method_69_code)) (cond (Nat.blt y 148) (prog_16_method_65_code) (prog_3_method_2_code)))) (cond (Nat.blt y 153) (cond (Nat.blt y 151) (cond (Nat.blt y 150) (prog_1_method_21_code) (method_19_code)) (cond (Nat.blt y 152) (prog_9_method_67_code) (prog_1_method_22_code))) (cond (Nat.blt y 155) (cond (Nat.blt y 154) (method_20_code) (prog_9_method_68_code)) (cond (Nat.blt y 156) (prog_1_method_23_code) (prog_9_method_69_code)))))) (cond (Nat.blt y 173) (cond (Nat.blt y 165) (cond (Nat.blt y 161) (cond (Nat.blt y 159) (cond (Nat.blt y 158) (prog_6_method_4_code) (prog_1_method_24_code)) (cond (Nat.blt y 160) (method_21_code) (prog_9_method_33_code))) (cond (Nat.blt y 163) (cond (Nat.blt y 162) (prog_9_method_34_code) (prog_9_method_70_code)) (cond (Nat.blt y 164) (prog_1_method_39_code) (prog_2_method_8_code)))) (cond (Nat.blt y 169) (cond (Nat.blt y 167) (cond (Nat.blt y 166) (prog_2_method_9_code) (prog_2_method_6_code)) (cond (Nat.blt y 168) (prog_2_method_7_code) (prog_4_method_3_code))) (cond (Nat.blt y 171) (cond (Nat.blt y 170) (prog_4_method_2_code) (prog_1_method_25_code)) (cond (Nat.blt y 172) (method_22_code) (prog_9_method_30_code))))) (cond (Nat.blt y 181) (cond (Nat.blt y 177) (cond (Nat.blt y 175) (cond (Nat.blt y 174) (prog_9_method_29_code) (prog_9_method_31_code)) (cond (Nat.blt y 176) (prog_9_method_32_code) (prog_9_method_35_code))) (cond (Nat.blt y 179) (cond (Nat.blt y 178) (prog_9_method_71_code) (prog_4_method_4_code)) (cond (Nat.blt y 180) (prog_1_method_26_code) (method_23_code)))) (cond (Nat.blt y 185) (cond (Nat.blt y 183) (cond (Nat.blt y 182) (prog_9_method_36_code) (prog_9_method_72_code)) (cond (Nat.blt y 184) (prog_3_method_4_code) (prog_4_method_6_code))) (cond (Nat.blt y 187) (cond (Nat.blt y 186) (prog_4_method_5_code) (prog_1_method_27_code)) (cond (Nat.blt y 188) (method_24_code) (prog_9_method_37_code))))))) (cond (Nat.blt y 221) (cond (Nat.blt y 205) (cond (Nat.blt y 197) (cond (Nat.blt y 193) (cond (Nat.blt y 191) (cond (Nat.blt y 190) (prog_9_method_38_code) (prog_9_method_73_code)) (cond (Nat.blt y 192) (prog_5_method_9_code) (prog_5_method_3_code))) (cond (Nat.blt y 195) (cond (Nat.blt y 194) (prog_14_method_49_code) (prog_5_method_5_code)) (cond (Nat.blt y 196) (prog_5_method_4_code) (prog_5_method_10_code)))) (cond (Nat.blt y 201) (cond (Nat.blt y 199) (cond (Nat.blt y 198) (prog_5_method_6_code) (prog_5_method_8_code)) (cond (Nat.blt y 200) (prog_5_method_7_code) (prog_5_method_2_code))) (cond (Nat.blt y 203) (cond (Nat.blt y 202) (prog_1_method_28_code) (method_25_code)) (cond (Nat.blt y 204) (prog_9_method_74_code) (prog_9_method_75_code))))) (cond (Nat.blt y 213) (cond (Nat.blt y 209) (cond (Nat.blt y 207) (cond (Nat.blt y 206) (prog_9_method_76_code) (prog_9_method_78_code)) (cond (Nat.blt y 208) (prog_9_method_77_code) (prog_9_method_79_code))) (cond (Nat.blt y 211) (cond (Nat.blt y 210) (prog_1_method_29_code) (method_26_code)) (cond (Nat.blt y 212) (prog_9_method_80_code) (prog_1_method_40_code)))) (cond (Nat.blt y 217) (cond (Nat.blt y 215) (cond (Nat.blt y 214) (prog_7_method_6_code) (prog_7_method_7_code)) (cond (Nat.blt y 216) (prog_7_method_4_code) (prog_7_method_5_code))) (cond (Nat.blt y 219) (cond (Nat.blt y 218) (prog_7_method_3_code) (prog_7_method_9_code)) (cond (Nat.blt y 220) (prog_7_method_10_code) (prog_7_method_11_code)))))) (cond (Nat.blt y 237) (cond (Nat.blt y 229) (cond (Nat.blt y 225) (cond (Nat.blt y 223) (cond (Nat.blt y 222) (prog_2_method_10_code) (prog_7_method_12_code)) (cond (Nat.blt y 224) (prog_7_method_8_code) (prog_5_method_11_code))) (cond (Nat.blt y 227) (cond (Nat.blt y 226) (prog_5_method_12_code) (prog_7_method_13_code)) (cond (Nat.blt y 228) (prog_7_method_2_code) (prog_1_method_30_code)))) (cond (Nat.blt y 233) (cond (Nat.blt y 231) (cond (Nat.blt y 230) (method_27_code) (prog_9_method_90_code)) (cond (Nat.blt y 232) (prog_9_method_81_code) (prog_9_method_82_code))) (cond (Nat.blt y 235) (cond (Nat.blt y 234) (prog_9_method_83_code) (prog_9_method_84_code)) (cond (Nat.blt y 236) (prog_9_method_85_code) (prog_9_method_86_code))))) (cond (Nat.blt y 245) (cond (Nat.blt y 241) (cond (Nat.blt y 239) (cond (Nat.blt y 238) (prog_9_method_87_code) (prog_9_method_88_code)) (cond (Nat.blt y 240) (prog_9_method_89_code) (prog_9_method_91_code))) (cond (Nat.blt y 243) (cond (Nat.blt y 242) (prog_1_method_31_code) (method_28_code)) (cond (Nat.blt y 244) (prog_9_method_92_code) (prog_1_method_32_code)))) (cond (Nat.blt y 249) (cond (Nat.blt y 247) (cond (Nat.blt y 246) (method_29_code) (prog_9_method_93_code)) (cond (Nat.blt y 248) (prog_1_method_42_code) (prog_1_method_41_code))) (cond (Nat.blt y 251) (cond (Nat.blt y 250) (prog_1_method_33_code) (prog_9_method_94_code)) (cond (Nat.blt y 252) (prog_9_method_95_code) (code))))))))
def zm_mx (y : Nat) : Nat := cond (Nat.blt y 126) (cond (Nat.blt y 63) (cond (Nat.blt y 31) (cond (Nat.blt y 15) (cond (Nat.blt y 7) (cond (Nat.blt y 3) (cond (Nat.blt y 1) (4) (cond (Nat.blt y 2) (1) (1))) (cond (Nat.blt y 5) (cond (Nat.blt y 4) (2) (1)) (cond (Nat.blt y 6) (1) (1)))) (cond (Nat.blt y 11) (cond (Nat.blt y 9) (cond (Nat.blt y 8) (1) (1)) (cond (Nat.blt y 10) (2) (6))) (cond (Nat.blt y 13) (cond (Nat.blt y 12) (1) (1)) (cond (Nat.blt y 14) (1) (3))))) (cond (Nat.blt y 23) (cond (Nat.blt y 19) (cond (Nat.blt y 17) (cond (Nat.blt y 16) (3) (2)) (cond (Nat.blt y 18) (3) (4))) (cond (Nat.blt y 21) (cond (Nat.blt y 20) (4) (3)) (cond (Nat.blt y 22) (4) (5)))) (cond (Nat.blt y 27) (cond (Nat.blt y 25) (cond (Nat.blt y 24) (7) (5)) (cond (Nat.blt y 26) (2) (5))) (cond (Nat.blt y 29) (cond (Nat.blt y 28) (4) (4)) (cond (Nat.blt y 30) (3) (4)))))) (cond (Nat.blt y 47) (cond (Nat.blt y 39) (cond (Nat.blt y 35) (cond (Nat.blt y 33) (cond (Nat.blt y 32) (5) (6)) (cond (Nat.blt y 34) (6) (2))) (cond (Nat.blt y 37) (cond (Nat.blt y 36) (3) (3)) (cond (Nat.blt y 38) (3) (2)))) (cond (Nat.blt y 43) (cond (Nat.blt y 41) (cond (Nat.blt y 40) (2) (2)) (cond (Nat.blt y 42) (9) (3))) (cond (Nat.blt y 45) (cond (Nat.blt y 44) (5) (3)) (cond (Nat.blt y 46) (1) (3))))) (cond (Nat.blt y 55) (cond (Nat.blt y 51) (cond (Nat.blt y 49) (cond (Nat.blt y 48) (5) (3)) (cond (Nat.blt y 50) (4) (4))) (cond (Nat.blt y 53) (cond (Nat.blt y 52) (4) (5)) (cond (Nat.blt y 54) (7) (4)))) (cond (Nat.blt y 59) (cond (Nat.blt y 57) (cond (Nat.blt y 56) (3) (6)) (cond (Nat.blt y 58) (4) (4))) (cond (Nat.blt y 61) (cond (Nat.blt y 60) (5) (5)) (cond (Nat.blt y 62) (3) (4))))))) (cond (Nat.blt y 94) (cond (Nat.blt y 78) (cond (Nat.blt y 70) (cond (Nat.blt y 66) (cond (Nat.blt y 64) (4) (cond (Nat.blt y 65) (8) (10))) (cond (Nat.blt y 68) (cond (Nat.blt y 67) (3) (1)) (cond (Nat.blt y 69) (3) (5)))) (cond (Nat.blt y 74) (cond (Nat.blt y 72) (cond (Nat.blt y 71) (3) (4)) (cond (Nat.blt y 73) (6) (4))) (cond (Nat.blt y 76) (cond (Nat.blt y 75) (4) (6)) (cond (Nat.blt y 77) (4) (4))))) (cond (Nat.blt y 86) (cond (Nat.blt y 82) (cond (Nat.blt y 80) (cond (Nat.blt y 79) (6) (1)) (cond (Nat.blt y 81) (4) (4))) (cond (Nat.blt y 84) (cond (Nat.blt y 83) (6) (4)) (cond (Nat.blt y 85) (5) (7)))) (cond (Nat.blt y 90) (cond (Nat.blt y 88) (cond (Nat.blt y 87) (5) (5)) (cond (Nat.blt y 89) (7) (5))) (cond (Nat.blt y 92) (cond (Nat.blt y 91) (6) (8)) (cond (Nat.blt y 93) (4) (6)))))) (cond (Nat.blt y 110) (cond (Nat.blt y 102) (cond (Nat.blt y 98) (cond (Nat.blt y 96) (cond (Nat.blt y 95) (6) (8)) (cond (Nat.blt y 97) (6) (3))) (cond (Nat.blt y 100) (cond (Nat.blt y 99) (2) (4)) (cond (Nat.blt y 101) (2) (3)))) (cond (Nat.blt y 106) (cond (Nat.blt y 104) (cond (Nat.blt y 103) (2) (2)) (cond (Nat.blt y 105) (4) (4))) (cond (Nat.blt y 108) (cond (Nat.blt y 107) (5) (5)) (cond (Nat.blt y 109) (2) (4))))) (cond (Nat.blt y 118) (cond (Nat.blt y 114) (cond (Nat.blt y 112) (cond (Nat.blt y 111) (1) (3)) (cond (Nat.blt y 113) (5) (5))) (cond (Nat.blt y 116) (cond (Nat.blt y 115) (3) (2)) (cond (Nat.blt y 117) (4) (5)))) (cond (Nat.blt y 122) (cond (Nat.blt y 120) (cond (Nat.blt y 119) (5) (4)) (cond (Nat.blt y 121) (4) (2))) (cond (Nat.blt y 124) (cond (Nat.blt y 123) (4) (2)) (cond (Nat.blt y 125) (1) (7)))))))) (cond (Nat.blt y 189) (cond (Nat.blt y 157) (cond (Nat.blt y 141) (cond (Nat.blt y 133) (cond (Nat.blt y 129) (cond (Nat.blt y 127) (8) (cond (Nat.blt y 128) (8) (2))) (cond (Nat.blt y 131) (cond (Nat.blt y 130) (1) (1)) (cond (Nat.blt y 132) (3) (4)))) (cond (Nat.blt y 137) (cond (Nat.blt y 135) (cond (Nat.blt y 134) (3) (4)) (cond (Nat.blt y 136) (3) (4))) (cond (Nat.blt y 139) (cond (Nat.blt y 138) (2) (1)) (cond (Nat.blt y 140) (3) (4))))) (cond (Nat.blt y 149) (cond (Nat.blt y 145) (cond (Nat.blt y 143) (cond (Nat.blt y 142) (2) (1)) (cond (Nat.blt y 144) (1) (1))) (cond (Nat.blt y 147) (cond (Nat.blt y 146) (2) (2)) (cond (Nat.blt y 148) (2) (2)))) (cond (Nat.blt y 153) (cond (Nat.blt y 151) (cond (Nat.blt y 150) (2) (4)) (cond (Nat.blt y 152) (2) (4))) (cond (Nat.blt y 155) (cond (Nat.blt y 154) (5) (3)) (cond (Nat.blt y 156) (2) (2)))))) (cond (Nat.blt y 173) (cond (Nat.blt y 165) (cond (Nat.blt y 161) (cond (Nat.blt y 159) (cond (Nat.blt y 158) (4) (1)) (cond (Nat.blt y 160) (3) (5))) (cond (Nat.blt y 163) (cond (Nat.blt y 162) (6) (1)) (cond (Nat.blt y 164) (2) (3)))) (cond (Nat.blt y 169) (cond (Nat.blt y 167) (cond (Nat.blt y 166) (5) (2)) (cond (Nat.blt y 168) (2) (5))) (cond (Nat.blt y 171) (cond (Nat.blt y 170) (4) (2)) (cond (Nat.blt y 172) (4) (4))))) (cond (Nat.blt y 181) (cond (Nat.blt y 177) (cond (Nat.blt y 175) (cond (Nat.blt y 174) (1) (6)) (cond (Nat.blt y 176) (7) (5))) (cond (Nat.blt y 179) (cond (Nat.blt y 178) (2) (3)) (cond (Nat.blt y 180) (2) (4)))) (cond (Nat.blt y 185) (cond (Nat.blt y 183) (cond (Nat.blt y 182) (4) (3)) (cond (Nat.blt y 184) (3) (5))) (cond (Nat.blt y 187) (cond (Nat.blt y 186) (7) (2)) (cond (Nat.blt y 188) (4) (3))))))) (cond (Nat.blt y 221) (cond (Nat.blt y 205) (cond (Nat.blt y 197) (cond (Nat.blt y 193) (cond (Nat.blt y 191) (cond (Nat.blt y 190) (7) (2)) (cond (Nat.blt y 192) (3) (4))) (cond (Nat.blt y 195) (cond (Nat.blt y 194) (1) (8)) (cond (Nat.blt y 196) (5) (3)))) (cond (Nat.blt y 201) (cond (Nat.blt y 199) (cond (Nat.blt y 198) (6) (6)) (cond (Nat.blt y 200) (7) (3))) (cond (Nat.blt y 203) (cond (Nat.blt y 202) (4) (4)) (cond (Nat.blt y 204) (6) (3))))) (cond (Nat.blt y 213) (cond (Nat.blt y 209) (cond (Nat.blt y 207) (cond (Nat.blt y 206) (9) (6)) (cond (Nat.blt y 208) (5) (3))) (cond (Nat.blt y 211) (cond (Nat.blt y 210) (5) (5)) (cond (Nat.blt y 212) (5) (3)))) (cond (Nat.blt y 217) (cond (Nat.blt y 215) (cond (Nat.blt y 214) (5) (4)) (cond (Nat.blt y 216) (4) (4))) (cond (Nat.blt y 219) (cond (Nat.blt y 218) (3) (2)) (cond (Nat.blt y 220) (3) (2)))))) (cond (Nat.blt y 237) (cond (Nat.blt y 229) (cond (Nat.blt y 225) (cond (Nat.blt y 223) (cond (Nat.blt y 222) (1) (5)) (cond (Nat.blt y 224) (4) (2))) (cond (Nat.blt y 227) (cond (Nat.blt y 226) (2) (4)) (cond (Nat.blt y 228) (11) (4)))) (cond (Nat.blt y 233) (cond (Nat.blt y 231) (cond (Nat.blt y 230) (5) (2)) (cond (Nat.blt y 232) (2) (4))) (cond (Nat.blt y 235) (cond (Nat.blt y 234) (6) (3)) (cond (Nat.blt y 236) (1) (5))))) (cond (Nat.blt y 245) (cond (Nat.blt y 241) (cond (Nat.blt y 239) (cond (Nat.blt y 238) (6) (7)) (cond (Nat.blt y 240) (7) (5))) (cond (Nat.blt y 243) (cond (Nat.blt y 242) (3) (5)) (cond (Nat.blt y 244) (3) (2)))) (cond (Nat.blt y 249) (cond (Nat.blt y 247) (cond (Nat.blt y 246) (4) (2)) (cond (Nat.blt y 248) (8) (7))) (cond (Nat.blt y 251) (cond (Nat.blt y 250) (3) (12)) (cond (Nat.blt y 252) (1) (7))))))))
def zm_rt (y : Nat) : Option FieldType := cond (Nat.blt y 126) (cond (Nat.blt y 63) (cond (Nat.blt y 31) (cond (Nat.blt y 15) (cond (Nat.blt y 7) (cond (Nat.blt y 3) (cond (Nat.blt y 1) ((none : Option FieldType)) (cond (Nat.blt y 2) ((none : Option FieldType)) ((none : Option FieldType)))) (cond (Nat.blt y 5) (cond (Nat.blt y 4) ((none : Option FieldType)) ((none : Option FieldType))) (cond (Nat.blt y 6) ((none : Option FieldType)) ((none : Option FieldType))))) (cond (Nat.blt y 11) (cond (Nat.blt y 9) (cond (Nat.blt y 8) ((none : Option FieldType)) ((none : Option FieldType))) (cond (Nat.blt y 10) ((some (FieldType.object "RefactoringReplay$Program"))) ((none : Option FieldType)))) (cond (Nat.blt y 13) (cond (Nat.blt y 12) ((some FieldType.boolean)) ((some FieldType.boolean))) (cond (Nat.blt y 14) ((some FieldType.boolean)) ((some FieldType.boolean)))))) (cond (Nat.blt y 23) (cond (Nat.blt y 19) (cond (Nat.blt y 17) (cond (Nat.blt y 16) ((some FieldType.int)) ((some FieldType.int))) (cond (Nat.blt y 18) ((some FieldType.int)) ((some FieldType.int)))) (cond (Nat.blt y 21) (cond (Nat.blt y 20) ((some FieldType.int)) ((some FieldType.int))) (cond (Nat.blt y 22) ((some FieldType.int)) ((none : Option FieldType))))) (cond (Nat.blt y 27) (cond (Nat.blt y 25) (cond (Nat.blt y 24) ((some FieldType.int)) ((some FieldType.boolean))) (cond (Nat.blt y 26) ((some FieldType.int)) ((some FieldType.int)))) (cond (Nat.blt y 29) (cond (Nat.blt y 28) ((some FieldType.int)) ((some FieldType.int))) (cond (Nat.blt y 30) ((some FieldType.boolean)) ((some FieldType.int))))))) (cond (Nat.blt y 47) (cond (Nat.blt y 39) (cond (Nat.blt y 35) (cond (Nat.blt y 33) (cond (Nat.blt y 32) ((some FieldType.int)) ((some FieldType.int))) (cond (Nat.blt y 34) ((some FieldType.int)) ((some FieldType.int)))) (cond (Nat.blt y 37) (cond (Nat.blt y 36) ((some FieldType.int)) ((some FieldType.int))) (cond (Nat.blt y 38) ((some FieldType.int)) ((some FieldType.int))))) (cond (Nat.blt y 43) (cond (Nat.blt y 41) (cond (Nat.blt y 40) ((none : Option FieldType)) ((none : Option FieldType))) (cond (Nat.blt y 42) ((some FieldType.int)) ((some FieldType.int)))) (cond (Nat.blt y 45) (cond (Nat.blt y 44) ((some FieldType.int)) ((some FieldType.boolean))) (cond (Nat.blt y 46) ((some FieldType.boolean)) ((some FieldType.int)))))) (cond (Nat.blt y 55) (cond (Nat.blt y 51) (cond (Nat.blt y 49) (cond (Nat.blt y 48) ((some FieldType.int)) ((some FieldType.int))) (cond (Nat.blt y 50) ((some FieldType.int)) ((some FieldType.int)))) (cond (Nat.blt y 53) (cond (Nat.blt y 52) ((some FieldType.int)) ((some FieldType.boolean))) (cond (Nat.blt y 54) ((some FieldType.int)) ((some FieldType.int))))) (cond (Nat.blt y 59) (cond (Nat.blt y 57) (cond (Nat.blt y 56) ((some FieldType.boolean)) ((some FieldType.boolean))) (cond (Nat.blt y 58) ((some FieldType.int)) ((some FieldType.int)))) (cond (Nat.blt y 61) (cond (Nat.blt y 60) ((some FieldType.int)) ((some FieldType.int))) (cond (Nat.blt y 62) ((some FieldType.int)) ((some FieldType.int)))))))) (cond (Nat.blt y 94) (cond (Nat.blt y 78) (cond (Nat.blt y 70) (cond (Nat.blt y 66) (cond (Nat.blt y 64) ((some FieldType.int)) (cond (Nat.blt y 65) ((some FieldType.int)) ((some FieldType.int)))) (cond (Nat.blt y 68) (cond (Nat.blt y 67) ((some FieldType.int)) ((some FieldType.int))) (cond (Nat.blt y 69) ((some FieldType.int)) ((some FieldType.int))))) (cond (Nat.blt y 74) (cond (Nat.blt y 72) (cond (Nat.blt y 71) ((some FieldType.int)) ((some FieldType.int))) (cond (Nat.blt y 73) ((some FieldType.int)) ((some FieldType.int)))) (cond (Nat.blt y 76) (cond (Nat.blt y 75) ((some FieldType.int)) ((some FieldType.int))) (cond (Nat.blt y 77) ((some FieldType.int)) ((some FieldType.int)))))) (cond (Nat.blt y 86) (cond (Nat.blt y 82) (cond (Nat.blt y 80) (cond (Nat.blt y 79) ((some FieldType.int)) ((some FieldType.boolean))) (cond (Nat.blt y 81) ((some FieldType.int)) ((some FieldType.int)))) (cond (Nat.blt y 84) (cond (Nat.blt y 83) ((some FieldType.int)) ((some FieldType.int))) (cond (Nat.blt y 85) ((some FieldType.int)) ((some FieldType.int))))) (cond (Nat.blt y 90) (cond (Nat.blt y 88) (cond (Nat.blt y 87) ((some FieldType.int)) ((some FieldType.int))) (cond (Nat.blt y 89) ((some FieldType.int)) ((some FieldType.int)))) (cond (Nat.blt y 92) (cond (Nat.blt y 91) ((some FieldType.int)) ((some FieldType.int))) (cond (Nat.blt y 93) ((some FieldType.boolean)) ((some FieldType.int))))))) (cond (Nat.blt y 110) (cond (Nat.blt y 102) (cond (Nat.blt y 98) (cond (Nat.blt y 96) (cond (Nat.blt y 95) ((some FieldType.int)) ((some FieldType.int))) (cond (Nat.blt y 97) ((some FieldType.int)) ((some FieldType.int)))) (cond (Nat.blt y 100) (cond (Nat.blt y 99) ((some FieldType.int)) ((some FieldType.int))) (cond (Nat.blt y 101) ((some FieldType.boolean)) ((none : Option FieldType))))) (cond (Nat.blt y 106) (cond (Nat.blt y 104) (cond (Nat.blt y 103) ((none : Option FieldType)) ((some FieldType.int))) (cond (Nat.blt y 105) ((some FieldType.int)) ((some FieldType.int)))) (cond (Nat.blt y 108) (cond (Nat.blt y 107) ((some FieldType.int)) ((some FieldType.int))) (cond (Nat.blt y 109) ((some FieldType.int)) ((some FieldType.int)))))) (cond (Nat.blt y 118) (cond (Nat.blt y 114) (cond (Nat.blt y 112) (cond (Nat.blt y 111) ((none : Option FieldType)) ((some FieldType.int))) (cond (Nat.blt y 113) ((some FieldType.int)) ((some FieldType.int)))) (cond (Nat.blt y 116) (cond (Nat.blt y 115) ((some FieldType.boolean)) ((some FieldType.int))) (cond (Nat.blt y 117) ((some FieldType.int)) ((some FieldType.int))))) (cond (Nat.blt y 122) (cond (Nat.blt y 120) (cond (Nat.blt y 119) ((some FieldType.int)) ((some FieldType.int))) (cond (Nat.blt y 121) ((some FieldType.int)) ((some FieldType.int)))) (cond (Nat.blt y 124) (cond (Nat.blt y 123) ((some FieldType.int)) ((some FieldType.int))) (cond (Nat.blt y 125) ((none : Option FieldType)) ((some FieldType.boolean))))))))) (cond (Nat.blt y 189) (cond (Nat.blt y 157) (cond (Nat.blt y 141) (cond (Nat.blt y 133) (cond (Nat.blt y 129) (cond (Nat.blt y 127) ((some FieldType.int)) (cond (Nat.blt y 128) ((some FieldType.boolean)) ((none : Option FieldType)))) (cond (Nat.blt y 131) (cond (Nat.blt y 130) ((some FieldType.int)) ((some FieldType.int))) (cond (Nat.blt y 132) ((some FieldType.int)) ((some FieldType.boolean))))) (cond (Nat.blt y 137) (cond (Nat.blt y 135) (cond (Nat.blt y 134) ((some FieldType.int)) ((some FieldType.int))) (cond (Nat.blt y 136) ((some FieldType.boolean)) ((some FieldType.boolean)))) (cond (Nat.blt y 139) (cond (Nat.blt y 138) ((some FieldType.boolean)) ((some FieldType.boolean))) (cond (Nat.blt y 140) ((some FieldType.int)) ((some FieldType.boolean)))))) (cond (Nat.blt y 149) (cond (Nat.blt y 145) (cond (Nat.blt y 143) (cond (Nat.blt y 142) ((some FieldType.boolean)) ((some FieldType.boolean))) (cond (Nat.blt y 144) ((some FieldType.int)) ((some FieldType.int)))) (cond (Nat.blt y 147) (cond (Nat.blt y 146) ((none : Option FieldType)) ((some FieldType.int))) (cond (Nat.blt y 148) ((some FieldType.int)) ((some (FieldType.object "RefactoringReplay$Change")))))) (cond (Nat.blt y 153) (cond (Nat.blt y 151) (cond (Nat.blt y 150) ((some FieldType.int)) ((some FieldType.int))) (cond (Nat.blt y 152) ((some FieldType.int)) ((some FieldType.int)))) (cond (Nat.blt y 155) (cond (Nat.blt y 154) ((some FieldType.int)) ((some FieldType.int))) (cond (Nat.blt y 156) ((some FieldType.int)) ((some FieldType.int))))))) (cond (Nat.blt y 173) (cond (Nat.blt y 165) (cond (Nat.blt y 161) (cond (Nat.blt y 159) (cond (Nat.blt y 158) ((none : Option FieldType)) ((some FieldType.int))) (cond (Nat.blt y 160) ((some FieldType.int)) ((some FieldType.int)))) (cond (Nat.blt y 163) (cond (Nat.blt y 162) ((none : Option FieldType)) ((some FieldType.int))) (cond (Nat.blt y 164) ((none : Option FieldType)) ((none : Option FieldType))))) (cond (Nat.blt y 169) (cond (Nat.blt y 167) (cond (Nat.blt y 166) ((none : Option FieldType)) ((none : Option FieldType))) (cond (Nat.blt y 168) ((none : Option FieldType)) ((some FieldType.boolean)))) (cond (Nat.blt y 171) (cond (Nat.blt y 170) ((some FieldType.boolean)) ((some FieldType.boolean))) (cond (Nat.blt y 172) ((some FieldType.int)) ((none : Option FieldType)))))) (cond (Nat.blt y 181) (cond (Nat.blt y 177) (cond (Nat.blt y 175) (cond (Nat.blt y 174) ((some FieldType.boolean)) ((none : Option FieldType))) (cond (Nat.blt y 176) ((none : Option FieldType)) ((some FieldType.boolean)))) (cond (Nat.blt y 179) (cond (Nat.blt y 178) ((some FieldType.boolean)) ((none : Option FieldType))) (cond (Nat.blt y 180) ((some FieldType.boolean)) ((some FieldType.int))))) (cond (Nat.blt y 185) (cond (Nat.blt y 183) (cond (Nat.blt y 182) ((none : Option FieldType)) ((some FieldType.boolean))) (cond (Nat.blt y 184) ((none : Option FieldType)) ((some FieldType.boolean)))) (cond (Nat.blt y 187) (cond (Nat.blt y 186) ((some FieldType.int)) ((some FieldType.int))) (cond (Nat.blt y 188) ((some FieldType.int)) ((none : Option FieldType)))))))) (cond (Nat.blt y 221) (cond (Nat.blt y 205) (cond (Nat.blt y 197) (cond (Nat.blt y 193) (cond (Nat.blt y 191) (cond (Nat.blt y 190) ((some FieldType.int)) ((some FieldType.int))) (cond (Nat.blt y 192) ((none : Option FieldType)) ((none : Option FieldType)))) (cond (Nat.blt y 195) (cond (Nat.blt y 194) ((some FieldType.int)) ((some FieldType.int))) (cond (Nat.blt y 196) ((none : Option FieldType)) ((none : Option FieldType))))) (cond (Nat.blt y 201) (cond (Nat.blt y 199) (cond (Nat.blt y 198) ((none : Option FieldType)) ((some FieldType.int))) (cond (Nat.blt y 200) ((none : Option FieldType)) ((none : Option FieldType)))) (cond (Nat.blt y 203) (cond (Nat.blt y 202) ((some FieldType.int)) ((some FieldType.int))) (cond (Nat.blt y 204) ((some FieldType.boolean)) ((some FieldType.int)))))) (cond (Nat.blt y 213) (cond (Nat.blt y 209) (cond (Nat.blt y 207) (cond (Nat.blt y 206) ((some FieldType.int)) ((some FieldType.int))) (cond (Nat.blt y 208) ((none : Option FieldType)) ((some FieldType.int)))) (cond (Nat.blt y 211) (cond (Nat.blt y 210) ((some FieldType.int)) ((some FieldType.int))) (cond (Nat.blt y 212) ((some FieldType.int)) ((none : Option FieldType))))) (cond (Nat.blt y 217) (cond (Nat.blt y 215) (cond (Nat.blt y 214) ((some FieldType.int)) ((some FieldType.int))) (cond (Nat.blt y 216) ((some FieldType.boolean)) ((some FieldType.boolean)))) (cond (Nat.blt y 219) (cond (Nat.blt y 218) ((some FieldType.boolean)) ((some FieldType.boolean))) (cond (Nat.blt y 220) ((some FieldType.boolean)) ((some FieldType.boolean))))))) (cond (Nat.blt y 237) (cond (Nat.blt y 229) (cond (Nat.blt y 225) (cond (Nat.blt y 223) (cond (Nat.blt y 222) ((none : Option FieldType)) ((some FieldType.int))) (cond (Nat.blt y 224) ((some FieldType.int)) ((none : Option FieldType)))) (cond (Nat.blt y 227) (cond (Nat.blt y 226) ((none : Option FieldType)) ((none : Option FieldType))) (cond (Nat.blt y 228) ((some FieldType.int)) ((some FieldType.int))))) (cond (Nat.blt y 233) (cond (Nat.blt y 231) (cond (Nat.blt y 230) ((some FieldType.int)) ((some FieldType.boolean))) (cond (Nat.blt y 232) ((some FieldType.int)) ((some FieldType.int)))) (cond (Nat.blt y 235) (cond (Nat.blt y 234) ((some FieldType.boolean)) ((some FieldType.boolean))) (cond (Nat.blt y 236) ((some FieldType.int)) ((some FieldType.int)))))) (cond (Nat.blt y 245) (cond (Nat.blt y 241) (cond (Nat.blt y 239) (cond (Nat.blt y 238) ((some FieldType.int)) ((none : Option FieldType))) (cond (Nat.blt y 240) ((some FieldType.int)) ((some FieldType.int)))) (cond (Nat.blt y 243) (cond (Nat.blt y 242) ((some FieldType.int)) ((some FieldType.int))) (cond (Nat.blt y 244) ((some FieldType.int)) ((some FieldType.int))))) (cond (Nat.blt y 249) (cond (Nat.blt y 247) (cond (Nat.blt y 246) ((some FieldType.int)) ((some FieldType.int))) (cond (Nat.blt y 248) ((some FieldType.long)) ((some FieldType.long)))) (cond (Nat.blt y 251) (cond (Nat.blt y 250) ((some FieldType.long)) ((some FieldType.long))) (cond (Nat.blt y 252) ((some FieldType.long)) (ret))))))))
def zm_own (y : Nat) : Nat := (zm_md y).2.2.1
def zm_lv (y : Nat) : Nat := (zm_md y).2.2.2.1
def zm_kd (y : Nat) : Nat := (zm_md y).2.2.2.2.1
def zm_ar (y : Nat) : Nat := (zm_md y).2.2.2.2.2
def zm_nm (y : Nat) : MethodName := ⟨zm_cn (zm_own y), (zm_md y).1, (zm_md y).2.1⟩
/-- handlers: from, to, exception, answer, target, slot, short form -/
abbrev zm_Hd : Type := Nat × Nat × Nat × Nat × Nat × Nat × Bool
def zm_hd (y : Nat) : List zm_Hd := cond (Nat.blt y 126) (cond (Nat.blt y 63) (cond (Nat.blt y 31) (cond (Nat.blt y 15) (cond (Nat.blt y 7) (cond (Nat.blt y 3) (cond (Nat.blt y 1) ([]) (cond (Nat.blt y 2) ([]) ([]))) (cond (Nat.blt y 5) (cond (Nat.blt y 4) ([]) ([])) (cond (Nat.blt y 6) ([]) ([])))) (cond (Nat.blt y 11) (cond (Nat.blt y 9) (cond (Nat.blt y 8) ([]) ([])) (cond (Nat.blt y 10) ([]) ([]))) (cond (Nat.blt y 13) (cond (Nat.blt y 12) ([]) ([])) (cond (Nat.blt y 14) ([]) ([]))))) (cond (Nat.blt y 23) (cond (Nat.blt y 19) (cond (Nat.blt y 17) (cond (Nat.blt y 16) ([]) ([])) (cond (Nat.blt y 18) ([]) ([]))) (cond (Nat.blt y 21) (cond (Nat.blt y 20) ([]) ([])) (cond (Nat.blt y 22) ([]) ([])))) (cond (Nat.blt y 27) (cond (Nat.blt y 25) (cond (Nat.blt y 24) ([]) ([])) (cond (Nat.blt y 26) ([]) ([]))) (cond (Nat.blt y 29) (cond (Nat.blt y 28) ([]) ([])) (cond (Nat.blt y 30) ([]) ([])))))) (cond (Nat.blt y 47) (cond (Nat.blt y 39) (cond (Nat.blt y 35) (cond (Nat.blt y 33) (cond (Nat.blt y 32) ([]) ([])) (cond (Nat.blt y 34) ([]) ([]))) (cond (Nat.blt y 37) (cond (Nat.blt y 36) ([]) ([])) (cond (Nat.blt y 38) ([]) ([])))) (cond (Nat.blt y 43) (cond (Nat.blt y 41) (cond (Nat.blt y 40) ([]) ([])) (cond (Nat.blt y 42) ([]) ([]))) (cond (Nat.blt y 45) (cond (Nat.blt y 44) ([(0, 10, 0, 1, 13, 4, false), (0, 10, 1, 2, 17, 4, false), (0, 10, 2, 3, 21, 4, false)]) ([])) (cond (Nat.blt y 46) ([]) ([]))))) (cond (Nat.blt y 55) (cond (Nat.blt y 51) (cond (Nat.blt y 49) (cond (Nat.blt y 48) ([]) ([])) (cond (Nat.blt y 50) ([]) ([]))) (cond (Nat.blt y 53) (cond (Nat.blt y 52) ([]) ([])) (cond (Nat.blt y 54) ([]) ([])))) (cond (Nat.blt y 59) (cond (Nat.blt y 57) (cond (Nat.blt y 56) ([]) ([])) (cond (Nat.blt y 58) ([]) ([]))) (cond (Nat.blt y 61) (cond (Nat.blt y 60) ([]) ([])) (cond (Nat.blt y 62) ([]) ([]))))))) (cond (Nat.blt y 94) (cond (Nat.blt y 78) (cond (Nat.blt y 70) (cond (Nat.blt y 66) (cond (Nat.blt y 64) ([]) (cond (Nat.blt y 65) ([]) ([]))) (cond (Nat.blt y 68) (cond (Nat.blt y 67) ([]) ([])) (cond (Nat.blt y 69) ([]) ([(0, 10, 0, 1, 13, 4, false), (0, 10, 1, 2, 17, 4, false), (0, 10, 2, 3, 21, 4, false)])))) (cond (Nat.blt y 74) (cond (Nat.blt y 72) (cond (Nat.blt y 71) ([]) ([])) (cond (Nat.blt y 73) ([(0, 12, 0, 1, 15, 5, false), (0, 12, 1, 2, 19, 5, false), (0, 12, 2, 3, 23, 5, false)]) ([]))) (cond (Nat.blt y 76) (cond (Nat.blt y 75) ([]) ([(0, 12, 0, 1, 15, 5, false), (0, 12, 1, 2, 19, 5, false), (0, 12, 2, 3, 23, 5, false)])) (cond (Nat.blt y 77) ([]) ([]))))) (cond (Nat.blt y 86) (cond (Nat.blt y 82) (cond (Nat.blt y 80) (cond (Nat.blt y 79) ([(0, 12, 0, 1, 15, 5, false), (0, 12, 1, 2, 19, 5, false), (0, 12, 2, 3, 23, 5, false)]) ([])) (cond (Nat.blt y 81) ([]) ([]))) (cond (Nat.blt y 84) (cond (Nat.blt y 83) ([(0, 12, 0, 1, 15, 5, false), (0, 12, 1, 2, 19, 5, false), (0, 12, 2, 3, 23, 5, false)]) ([])) (cond (Nat.blt y 85) ([]) ([(0, 14, 0, 1, 17, 6, false), (0, 14, 1, 2, 21, 6, false), (0, 14, 2, 3, 25, 6, false)])))) (cond (Nat.blt y 90) (cond (Nat.blt y 88) (cond (Nat.blt y 87) ([]) ([])) (cond (Nat.blt y 89) ([(0, 14, 0, 1, 17, 6, false), (0, 14, 1, 2, 21, 6, false), (0, 14, 2, 3, 25, 6, false)]) ([]))) (cond (Nat.blt y 92) (cond (Nat.blt y 91) ([]) ([(0, 16, 0, 1, 19, 7, false), (0, 16, 1, 2, 23, 7, false), (0, 16, 2, 3, 27, 7, false)])) (cond (Nat.blt y 93) ([]) ([])))))) (cond (Nat.blt y 110) (cond (Nat.blt y 102) (cond (Nat.blt y 98) (cond (Nat.blt y 96) (cond (Nat.blt y 95) ([]) ([(0, 16, 0, 1, 19, 7, false), (0, 16, 1, 2, 23, 7, false), (0, 16, 2, 3, 27, 7, false)])) (cond (Nat.blt y 97) ([]) ([]))) (cond (Nat.blt y 100) (cond (Nat.blt y 99) ([]) ([(0, 9, 0, 1, 12, 3, true)])) (cond (Nat.blt y 101) ([]) ([])))) (cond (Nat.blt y 106) (cond (Nat.blt y 104) (cond (Nat.blt y 103) ([]) ([])) (cond (Nat.blt y 105) ([]) ([]))) (cond (Nat.blt y 108) (cond (Nat.blt y 107) ([(0, 10, 0, 1, 13, 4, false)]) ([])) (cond (Nat.blt y 109) ([]) ([]))))) (cond (Nat.blt y 118) (cond (Nat.blt y 114) (cond (Nat.blt y 112) (cond (Nat.blt y 111) ([]) ([])) (cond (Nat.blt y 113) ([]) ([(0, 10, 0, 1, 13, 4, false), (0, 10, 1, 2, 17, 4, false)]))) (cond (Nat.blt y 116) (cond (Nat.blt y 115) ([]) ([])) (cond (Nat.blt y 117) ([]) ([])))) (cond (Nat.blt y 122) (cond (Nat.blt y 120) (cond (Nat.blt y 119) ([(0, 10, 0, 1, 13, 4, false), (0, 10, 1, 2, 17, 4, false)]) ([])) (cond (Nat.blt y 121) ([]) ([]))) (cond (Nat.blt y 124) (cond (Nat.blt y 123) ([(0, 9, 0, 1, 12, 3, true)]) ([])) (cond (Nat.blt y 125) ([]) ([])))))))) (cond (Nat.blt y 189) (cond (Nat.blt y 157) (cond (Nat.blt y 141) (cond (Nat.blt y 133) (cond (Nat.blt y 129) (cond (Nat.blt y 127) ([(0, 23, 0, 1, 26, 7, false), (0, 23, 1, 2, 30, 7, false)]) (cond (Nat.blt y 128) ([]) ([]))) (cond (Nat.blt y 131) (cond (Nat.blt y 130) ([]) ([])) (cond (Nat.blt y 132) ([]) ([])))) (cond (Nat.blt y 137) (cond (Nat.blt y 135) (cond (Nat.blt y 134) ([]) ([])) (cond (Nat.blt y 136) ([]) ([]))) (cond (Nat.blt y 139) (cond (Nat.blt y 138) ([]) ([])) (cond (Nat.blt y 140) ([]) ([]))))) (cond (Nat.blt y 149) (cond (Nat.blt y 145) (cond (Nat.blt y 143) (cond (Nat.blt y 142) ([]) ([])) (cond (Nat.blt y 144) ([]) ([]))) (cond (Nat.blt y 147) (cond (Nat.blt y 146) ([]) ([])) (cond (Nat.blt y 148) ([]) ([])))) (cond (Nat.blt y 153) (cond (Nat.blt y 151) (cond (Nat.blt y 150) ([]) ([(0, 9, 0, 1, 12, 3, true)])) (cond (Nat.blt y 152) ([]) ([]))) (cond (Nat.blt y 155) (cond (Nat.blt y 154) ([(0, 10, 0, 1, 13, 4, false)]) ([])) (cond (Nat.blt y 156) ([]) ([])))))) (cond (Nat.blt y 173) (cond (Nat.blt y 165) (cond (Nat.blt y 161) (cond (Nat.blt y 159) (cond (Nat.blt y 158) ([]) ([])) (cond (Nat.blt y 160) ([(0, 8, 2, 1, 11, 2, true)]) ([]))) (cond (Nat.blt y 163) (cond (Nat.blt y 162) ([]) ([])) (cond (Nat.blt y 164) ([]) ([])))) (cond (Nat.blt y 169) (cond (Nat.blt y 167) (cond (Nat.blt y 166) ([]) ([])) (cond (Nat.blt y 168) ([]) ([]))) (cond (Nat.blt y 171) (cond (Nat.blt y 170) ([]) ([])) (cond (Nat.blt y 172) ([(0, 16, 0, 1, 19, 3, true)]) ([]))))) (cond (Nat.blt y 181) (cond (Nat.blt y 177) (cond (Nat.blt y 175) (cond (Nat.blt y 174) ([]) ([])) (cond (Nat.blt y 176) ([]) ([]))) (cond (Nat.blt y 179) (cond (Nat.blt y 178) ([]) ([])) (cond (Nat.blt y 180) ([]) ([(0, 16, 0, 1, 19, 3, true)])))) (cond (Nat.blt y 185) (cond (Nat.blt y 183) (cond (Nat.blt y 182) ([]) ([])) (cond (Nat.blt y 184) ([]) ([]))) (cond (Nat.blt y 187) (cond (Nat.blt y 186) ([]) ([])) (cond (Nat.blt y 188) ([(0, 9, 0, 1, 12, 3, true)]) ([]))))))) (cond (Nat.blt y 221) (cond (Nat.blt y 205) (cond (Nat.blt y 197) (cond (Nat.blt y 193) (cond (Nat.blt y 191) (cond (Nat.blt y 190) ([]) ([])) (cond (Nat.blt y 192) ([]) ([]))) (cond (Nat.blt y 195) (cond (Nat.blt y 194) ([]) ([])) (cond (Nat.blt y 196) ([]) ([])))) (cond (Nat.blt y 201) (cond (Nat.blt y 199) (cond (Nat.blt y 198) ([]) ([])) (cond (Nat.blt y 200) ([]) ([]))) (cond (Nat.blt y 203) (cond (Nat.blt y 202) ([]) ([(0, 9, 1, 1, 12, 3, true)])) (cond (Nat.blt y 204) ([]) ([]))))) (cond (Nat.blt y 213) (cond (Nat.blt y 209) (cond (Nat.blt y 207) (cond (Nat.blt y 206) ([]) ([])) (cond (Nat.blt y 208) ([]) ([]))) (cond (Nat.blt y 211) (cond (Nat.blt y 210) ([]) ([(0, 10, 1, 1, 13, 4, false)])) (cond (Nat.blt y 212) ([]) ([])))) (cond (Nat.blt y 217) (cond (Nat.blt y 215) (cond (Nat.blt y 214) ([]) ([])) (cond (Nat.blt y 216) ([]) ([]))) (cond (Nat.blt y 219) (cond (Nat.blt y 218) ([]) ([])) (cond (Nat.blt y 220) ([]) ([])))))) (cond (Nat.blt y 237) (cond (Nat.blt y 229) (cond (Nat.blt y 225) (cond (Nat.blt y 223) (cond (Nat.blt y 222) ([]) ([])) (cond (Nat.blt y 224) ([]) ([]))) (cond (Nat.blt y 227) (cond (Nat.blt y 226) ([]) ([])) (cond (Nat.blt y 228) ([]) ([])))) (cond (Nat.blt y 233) (cond (Nat.blt y 231) (cond (Nat.blt y 230) ([(0, 10, 1, 1, 13, 4, false)]) ([])) (cond (Nat.blt y 232) ([]) ([]))) (cond (Nat.blt y 235) (cond (Nat.blt y 234) ([]) ([])) (cond (Nat.blt y 236) ([]) ([]))))) (cond (Nat.blt y 245) (cond (Nat.blt y 241) (cond (Nat.blt y 239) (cond (Nat.blt y 238) ([]) ([])) (cond (Nat.blt y 240) ([]) ([]))) (cond (Nat.blt y 243) (cond (Nat.blt y 242) ([]) ([(0, 10, 1, 1, 13, 4, false)])) (cond (Nat.blt y 244) ([]) ([])))) (cond (Nat.blt y 249) (cond (Nat.blt y 247) (cond (Nat.blt y 246) ([(0, 9, 0, 1, 12, 3, true)]) ([])) (cond (Nat.blt y 248) ([]) ([]))) (cond (Nat.blt y 251) (cond (Nat.blt y 250) ([]) ([])) (cond (Nat.blt y 252) ([]) ([]))))))))
def zm_hh (y : Nat) : List (Nat × Nat × Nat × Nat) := cond (Nat.blt y 126) (cond (Nat.blt y 63) (cond (Nat.blt y 31) (cond (Nat.blt y 15) (cond (Nat.blt y 7) (cond (Nat.blt y 3) (cond (Nat.blt y 1) ([]) (cond (Nat.blt y 2) ([]) ([]))) (cond (Nat.blt y 5) (cond (Nat.blt y 4) ([]) ([])) (cond (Nat.blt y 6) ([]) ([])))) (cond (Nat.blt y 11) (cond (Nat.blt y 9) (cond (Nat.blt y 8) ([]) ([])) (cond (Nat.blt y 10) ([]) ([]))) (cond (Nat.blt y 13) (cond (Nat.blt y 12) ([]) ([])) (cond (Nat.blt y 14) ([]) ([]))))) (cond (Nat.blt y 23) (cond (Nat.blt y 19) (cond (Nat.blt y 17) (cond (Nat.blt y 16) ([]) ([])) (cond (Nat.blt y 18) ([]) ([]))) (cond (Nat.blt y 21) (cond (Nat.blt y 20) ([]) ([])) (cond (Nat.blt y 22) ([]) ([])))) (cond (Nat.blt y 27) (cond (Nat.blt y 25) (cond (Nat.blt y 24) ([]) ([])) (cond (Nat.blt y 26) ([]) ([]))) (cond (Nat.blt y 29) (cond (Nat.blt y 28) ([]) ([])) (cond (Nat.blt y 30) ([]) ([])))))) (cond (Nat.blt y 47) (cond (Nat.blt y 39) (cond (Nat.blt y 35) (cond (Nat.blt y 33) (cond (Nat.blt y 32) ([]) ([])) (cond (Nat.blt y 34) ([]) ([]))) (cond (Nat.blt y 37) (cond (Nat.blt y 36) ([]) ([])) (cond (Nat.blt y 38) ([]) ([])))) (cond (Nat.blt y 43) (cond (Nat.blt y 41) (cond (Nat.blt y 40) ([]) ([])) (cond (Nat.blt y 42) ([]) ([]))) (cond (Nat.blt y 45) (cond (Nat.blt y 44) ([(0, 10, 13, 13), (0, 10, 17, 15), (0, 10, 21, 17)]) ([])) (cond (Nat.blt y 46) ([]) ([]))))) (cond (Nat.blt y 55) (cond (Nat.blt y 51) (cond (Nat.blt y 49) (cond (Nat.blt y 48) ([]) ([])) (cond (Nat.blt y 50) ([]) ([]))) (cond (Nat.blt y 53) (cond (Nat.blt y 52) ([]) ([])) (cond (Nat.blt y 54) ([]) ([])))) (cond (Nat.blt y 59) (cond (Nat.blt y 57) (cond (Nat.blt y 56) ([]) ([])) (cond (Nat.blt y 58) ([]) ([]))) (cond (Nat.blt y 61) (cond (Nat.blt y 60) ([]) ([])) (cond (Nat.blt y 62) ([]) ([]))))))) (cond (Nat.blt y 94) (cond (Nat.blt y 78) (cond (Nat.blt y 70) (cond (Nat.blt y 66) (cond (Nat.blt y 64) ([]) (cond (Nat.blt y 65) ([]) ([]))) (cond (Nat.blt y 68) (cond (Nat.blt y 67) ([]) ([])) (cond (Nat.blt y 69) ([]) ([(0, 10, 13, 13), (0, 10, 17, 15), (0, 10, 21, 17)])))) (cond (Nat.blt y 74) (cond (Nat.blt y 72) (cond (Nat.blt y 71) ([]) ([])) (cond (Nat.blt y 73) ([(0, 12, 15, 13), (0, 12, 19, 15), (0, 12, 23, 17)]) ([]))) (cond (Nat.blt y 76) (cond (Nat.blt y 75) ([]) ([(0, 12, 15, 13), (0, 12, 19, 15), (0, 12, 23, 17)])) (cond (Nat.blt y 77) ([]) ([]))))) (cond (Nat.blt y 86) (cond (Nat.blt y 82) (cond (Nat.blt y 80) (cond (Nat.blt y 79) ([(0, 12, 15, 13), (0, 12, 19, 15), (0, 12, 23, 17)]) ([])) (cond (Nat.blt y 81) ([]) ([]))) (cond (Nat.blt y 84) (cond (Nat.blt y 83) ([(0, 12, 15, 13), (0, 12, 19, 15), (0, 12, 23, 17)]) ([])) (cond (Nat.blt y 85) ([]) ([(0, 14, 17, 13), (0, 14, 21, 15), (0, 14, 25, 17)])))) (cond (Nat.blt y 90) (cond (Nat.blt y 88) (cond (Nat.blt y 87) ([]) ([])) (cond (Nat.blt y 89) ([(0, 14, 17, 13), (0, 14, 21, 15), (0, 14, 25, 17)]) ([]))) (cond (Nat.blt y 92) (cond (Nat.blt y 91) ([]) ([(0, 16, 19, 13), (0, 16, 23, 15), (0, 16, 27, 17)])) (cond (Nat.blt y 93) ([]) ([])))))) (cond (Nat.blt y 110) (cond (Nat.blt y 102) (cond (Nat.blt y 98) (cond (Nat.blt y 96) (cond (Nat.blt y 95) ([]) ([(0, 16, 19, 13), (0, 16, 23, 15), (0, 16, 27, 17)])) (cond (Nat.blt y 97) ([]) ([]))) (cond (Nat.blt y 100) (cond (Nat.blt y 99) ([]) ([(0, 9, 12, 13)])) (cond (Nat.blt y 101) ([]) ([])))) (cond (Nat.blt y 106) (cond (Nat.blt y 104) (cond (Nat.blt y 103) ([]) ([])) (cond (Nat.blt y 105) ([]) ([]))) (cond (Nat.blt y 108) (cond (Nat.blt y 107) ([(0, 10, 13, 13)]) ([])) (cond (Nat.blt y 109) ([]) ([]))))) (cond (Nat.blt y 118) (cond (Nat.blt y 114) (cond (Nat.blt y 112) (cond (Nat.blt y 111) ([]) ([])) (cond (Nat.blt y 113) ([]) ([(0, 10, 13, 13), (0, 10, 17, 15)]))) (cond (Nat.blt y 116) (cond (Nat.blt y 115) ([]) ([])) (cond (Nat.blt y 117) ([]) ([])))) (cond (Nat.blt y 122) (cond (Nat.blt y 120) (cond (Nat.blt y 119) ([(0, 10, 13, 13), (0, 10, 17, 15)]) ([])) (cond (Nat.blt y 121) ([]) ([]))) (cond (Nat.blt y 124) (cond (Nat.blt y 123) ([(0, 9, 12, 13)]) ([])) (cond (Nat.blt y 125) ([]) ([])))))))) (cond (Nat.blt y 189) (cond (Nat.blt y 157) (cond (Nat.blt y 141) (cond (Nat.blt y 133) (cond (Nat.blt y 129) (cond (Nat.blt y 127) ([(0, 23, 26, 13), (0, 23, 30, 15)]) (cond (Nat.blt y 128) ([]) ([]))) (cond (Nat.blt y 131) (cond (Nat.blt y 130) ([]) ([])) (cond (Nat.blt y 132) ([]) ([])))) (cond (Nat.blt y 137) (cond (Nat.blt y 135) (cond (Nat.blt y 134) ([]) ([])) (cond (Nat.blt y 136) ([]) ([]))) (cond (Nat.blt y 139) (cond (Nat.blt y 138) ([]) ([])) (cond (Nat.blt y 140) ([]) ([]))))) (cond (Nat.blt y 149) (cond (Nat.blt y 145) (cond (Nat.blt y 143) (cond (Nat.blt y 142) ([]) ([])) (cond (Nat.blt y 144) ([]) ([]))) (cond (Nat.blt y 147) (cond (Nat.blt y 146) ([]) ([])) (cond (Nat.blt y 148) ([]) ([])))) (cond (Nat.blt y 153) (cond (Nat.blt y 151) (cond (Nat.blt y 150) ([]) ([(0, 9, 12, 13)])) (cond (Nat.blt y 152) ([]) ([]))) (cond (Nat.blt y 155) (cond (Nat.blt y 154) ([(0, 10, 13, 13)]) ([])) (cond (Nat.blt y 156) ([]) ([])))))) (cond (Nat.blt y 173) (cond (Nat.blt y 165) (cond (Nat.blt y 161) (cond (Nat.blt y 159) (cond (Nat.blt y 158) ([]) ([])) (cond (Nat.blt y 160) ([(0, 8, 11, 17)]) ([]))) (cond (Nat.blt y 163) (cond (Nat.blt y 162) ([]) ([])) (cond (Nat.blt y 164) ([]) ([])))) (cond (Nat.blt y 169) (cond (Nat.blt y 167) (cond (Nat.blt y 166) ([]) ([])) (cond (Nat.blt y 168) ([]) ([]))) (cond (Nat.blt y 171) (cond (Nat.blt y 170) ([]) ([])) (cond (Nat.blt y 172) ([(0, 16, 19, 13)]) ([]))))) (cond (Nat.blt y 181) (cond (Nat.blt y 177) (cond (Nat.blt y 175) (cond (Nat.blt y 174) ([]) ([])) (cond (Nat.blt y 176) ([]) ([]))) (cond (Nat.blt y 179) (cond (Nat.blt y 178) ([]) ([])) (cond (Nat.blt y 180) ([]) ([(0, 16, 19, 13)])))) (cond (Nat.blt y 185) (cond (Nat.blt y 183) (cond (Nat.blt y 182) ([]) ([])) (cond (Nat.blt y 184) ([]) ([]))) (cond (Nat.blt y 187) (cond (Nat.blt y 186) ([]) ([])) (cond (Nat.blt y 188) ([(0, 9, 12, 13)]) ([]))))))) (cond (Nat.blt y 221) (cond (Nat.blt y 205) (cond (Nat.blt y 197) (cond (Nat.blt y 193) (cond (Nat.blt y 191) (cond (Nat.blt y 190) ([]) ([])) (cond (Nat.blt y 192) ([]) ([]))) (cond (Nat.blt y 195) (cond (Nat.blt y 194) ([]) ([])) (cond (Nat.blt y 196) ([]) ([])))) (cond (Nat.blt y 201) (cond (Nat.blt y 199) (cond (Nat.blt y 198) ([]) ([])) (cond (Nat.blt y 200) ([]) ([]))) (cond (Nat.blt y 203) (cond (Nat.blt y 202) ([]) ([(0, 9, 12, 15)])) (cond (Nat.blt y 204) ([]) ([]))))) (cond (Nat.blt y 213) (cond (Nat.blt y 209) (cond (Nat.blt y 207) (cond (Nat.blt y 206) ([]) ([])) (cond (Nat.blt y 208) ([]) ([]))) (cond (Nat.blt y 211) (cond (Nat.blt y 210) ([]) ([(0, 10, 13, 15)])) (cond (Nat.blt y 212) ([]) ([])))) (cond (Nat.blt y 217) (cond (Nat.blt y 215) (cond (Nat.blt y 214) ([]) ([])) (cond (Nat.blt y 216) ([]) ([]))) (cond (Nat.blt y 219) (cond (Nat.blt y 218) ([]) ([])) (cond (Nat.blt y 220) ([]) ([])))))) (cond (Nat.blt y 237) (cond (Nat.blt y 229) (cond (Nat.blt y 225) (cond (Nat.blt y 223) (cond (Nat.blt y 222) ([]) ([])) (cond (Nat.blt y 224) ([]) ([]))) (cond (Nat.blt y 227) (cond (Nat.blt y 226) ([]) ([])) (cond (Nat.blt y 228) ([]) ([])))) (cond (Nat.blt y 233) (cond (Nat.blt y 231) (cond (Nat.blt y 230) ([(0, 10, 13, 15)]) ([])) (cond (Nat.blt y 232) ([]) ([]))) (cond (Nat.blt y 235) (cond (Nat.blt y 234) ([]) ([])) (cond (Nat.blt y 236) ([]) ([]))))) (cond (Nat.blt y 245) (cond (Nat.blt y 241) (cond (Nat.blt y 239) (cond (Nat.blt y 238) ([]) ([])) (cond (Nat.blt y 240) ([]) ([]))) (cond (Nat.blt y 243) (cond (Nat.blt y 242) ([]) ([(0, 10, 13, 15)])) (cond (Nat.blt y 244) ([]) ([])))) (cond (Nat.blt y 249) (cond (Nat.blt y 247) (cond (Nat.blt y 246) ([(0, 9, 12, 13)]) ([])) (cond (Nat.blt y 248) ([]) ([]))) (cond (Nat.blt y 251) (cond (Nat.blt y 250) ([]) ([])) (cond (Nat.blt y 252) ([]) ([]))))))))
/-- places of the words: code, initialized, static or instanceMethod, selects -/
def zm_pl (y : Nat) : Nat × Nat × Nat × Nat := cond (Nat.blt y 126) (cond (Nat.blt y 63) (cond (Nat.blt y 31) (cond (Nat.blt y 15) (cond (Nat.blt y 7) (cond (Nat.blt y 3) (cond (Nat.blt y 1) ((115, 82, 114, 0)) (cond (Nat.blt y 2) ((111, 81, 110, 0)) ((156, 84, 155, 0)))) (cond (Nat.blt y 5) (cond (Nat.blt y 4) ((149, 83, 148, 0)) ((204, 85, 203, 0))) (cond (Nat.blt y 6) ((238, 86, 237, 0)) ((263, 87, 262, 0))))) (cond (Nat.blt y 11) (cond (Nat.blt y 9) (cond (Nat.blt y 8) ((103, 80, 102, 0)) ((1043, 88, 1042, 0))) (cond (Nat.blt y 10) ((442, 80, 441, 5)) ((514, 84, 512, 513)))) (cond (Nat.blt y 13) (cond (Nat.blt y 12) ((521, 80, 520, 0)) ((524, 80, 523, 0))) (cond (Nat.blt y 14) ((528, 84, 526, 527)) ((518, 84, 516, 517)))))) (cond (Nat.blt y 23) (cond (Nat.blt y 19) (cond (Nat.blt y 17) (cond (Nat.blt y 16) ((364, 81, 362, 363)) ((571, 81, 570, 0))) (cond (Nat.blt y 18) ((568, 81, 567, 7)) ((415, 81, 413, 414)))) (cond (Nat.blt y 21) (cond (Nat.blt y 20) ((580, 81, 579, 9)) ((575, 81, 574, 8))) (cond (Nat.blt y 22) ((584, 81, 583, 10)) ((592, 81, 591, 12))))) (cond (Nat.blt y 27) (cond (Nat.blt y 25) (cond (Nat.blt y 24) ((588, 81, 587, 11)) ((600, 81, 599, 14))) (cond (Nat.blt y 26) ((604, 81, 603, 15)) ((596, 81, 595, 13)))) (cond (Nat.blt y 29) (cond (Nat.blt y 28) ((384, 81, 382, 383)) ((612, 81, 610, 611))) (cond (Nat.blt y 30) ((392, 81, 390, 391)) ((424, 81, 422, 423))))))) (cond (Nat.blt y 47) (cond (Nat.blt y 39) (cond (Nat.blt y 35) (cond (Nat.blt y 33) (cond (Nat.blt y 32) ((608, 81, 607, 16)) ((617, 81, 616, 17))) (cond (Nat.blt y 34) ((621, 81, 620, 18)) ((353, 95, 352, 0)))) (cond (Nat.blt y 37) (cond (Nat.blt y 36) ((350, 81, 348, 349)) ((625, 81, 624, 19))) (cond (Nat.blt y 38) ((629, 81, 628, 20)) ((564, 81, 562, 563))))) (cond (Nat.blt y 43) (cond (Nat.blt y 41) (cond (Nat.blt y 40) ((638, 84, 636, 637)) ((634, 83, 632, 633))) (cond (Nat.blt y 42) ((438, 80, 437, 4)) ((434, 80, 432, 433)))) (cond (Nat.blt y 45) (cond (Nat.blt y 44) ((427, 79, 426, 0)) ((1134, 88, 1133, 0))) (cond (Nat.blt y 46) ((1131, 88, 1130, 0)) ((1145, 88, 1144, 0)))))) (cond (Nat.blt y 55) (cond (Nat.blt y 51) (cond (Nat.blt y 49) (cond (Nat.blt y 48) ((1152, 88, 1151, 0)) ((1155, 88, 1154, 0))) (cond (Nat.blt y 50) ((1149, 88, 1148, 47)) ((1159, 88, 1158, 48)))) (cond (Nat.blt y 53) (cond (Nat.blt y 52) ((1163, 88, 1162, 49)) ((1170, 88, 1169, 0))) (cond (Nat.blt y 54) ((1167, 88, 1166, 50)) ((1177, 88, 1176, 0))))) (cond (Nat.blt y 59) (cond (Nat.blt y 57) (cond (Nat.blt y 56) ((1183, 88, 1182, 0)) ((1180, 88, 1179, 0))) (cond (Nat.blt y 58) ((1174, 88, 1173, 51)) ((1187, 88, 1186, 52)))) (cond (Nat.blt y 61) (cond (Nat.blt y 60) ((1191, 88, 1190, 53)) ((1195, 88, 1194, 54))) (cond (Nat.blt y 62) ((1198, 88, 1197, 0)) ((1202, 88, 1201, 55)))))))) (cond (Nat.blt y 94) (cond (Nat.blt y 78) (cond (Nat.blt y 70) (cond (Nat.blt y 66) (cond (Nat.blt y 64) ((1206, 88, 1205, 56)) (cond (Nat.blt y 65) ((1142, 88, 1141, 46)) ((1138, 88, 1137, 45)))) (cond (Nat.blt y 68) (cond (Nat.blt y 67) ((1128, 88, 1126, 1127)) ((1124, 88, 1122, 1123))) (cond (Nat.blt y 69) ((646, 80, 644, 645)) ((642, 79, 641, 0))))) (cond (Nat.blt y 74) (cond (Nat.blt y 72) (cond (Nat.blt y 71) ((1210, 88, 1208, 1209)) ((653, 80, 651, 652))) (cond (Nat.blt y 73) ((649, 79, 648, 0)) ((1214, 88, 1212, 1213)))) (cond (Nat.blt y 76) (cond (Nat.blt y 75) ((660, 80, 658, 659)) ((656, 79, 655, 0))) (cond (Nat.blt y 77) ((1218, 88, 1216, 1217)) ((667, 80, 665, 666)))))) (cond (Nat.blt y 86) (cond (Nat.blt y 82) (cond (Nat.blt y 80) (cond (Nat.blt y 79) ((663, 79, 662, 0)) ((1225, 88, 1224, 0))) (cond (Nat.blt y 81) ((1222, 88, 1220, 1221)) ((674, 80, 672, 673)))) (cond (Nat.blt y 84) (cond (Nat.blt y 83) ((670, 79, 669, 0)) ((1229, 88, 1227, 1228))) (cond (Nat.blt y 85) ((681, 80, 679, 680)) ((677, 79, 676, 0))))) (cond (Nat.blt y 90) (cond (Nat.blt y 88) (cond (Nat.blt y 87) ((1233, 88, 1231, 1232)) ((688, 80, 686, 687))) (cond (Nat.blt y 89) ((684, 79, 683, 0)) ((1237, 88, 1235, 1236)))) (cond (Nat.blt y 92) (cond (Nat.blt y 91) ((695, 80, 693, 694)) ((691, 79, 690, 0))) (cond (Nat.blt y 93) ((1244, 88, 1243, 0)) ((1241, 88, 1239, 1240))))))) (cond (Nat.blt y 110) (cond (Nat.blt y 102) (cond (Nat.blt y 98) (cond (Nat.blt y 96) (cond (Nat.blt y 95) ((702, 80, 700, 701)) ((698, 79, 697, 0))) (cond (Nat.blt y 97) ((1248, 88, 1246, 1247)) ((333, 81, 331, 332)))) (cond (Nat.blt y 100) (cond (Nat.blt y 99) ((709, 80, 707, 708)) ((705, 79, 704, 0))) (cond (Nat.blt y 101) ((1256, 88, 1255, 57)) ((1263, 88, 1262, 0))))) (cond (Nat.blt y 106) (cond (Nat.blt y 104) (cond (Nat.blt y 103) ((1260, 88, 1259, 58)) ((1252, 88, 1250, 1251))) (cond (Nat.blt y 105) ((720, 81, 718, 719)) ((716, 80, 714, 715)))) (cond (Nat.blt y 108) (cond (Nat.blt y 107) ((712, 79, 711, 0)) ((1270, 88, 1269, 0))) (cond (Nat.blt y 109) ((1274, 88, 1273, 59)) ((1267, 88, 1265, 1266)))))) (cond (Nat.blt y 118) (cond (Nat.blt y 114) (cond (Nat.blt y 112) (cond (Nat.blt y 111) ((731, 80, 730, 0)) ((368, 81, 366, 367))) (cond (Nat.blt y 113) ((728, 80, 726, 727)) ((724, 79, 723, 0)))) (cond (Nat.blt y 116) (cond (Nat.blt y 115) ((1282, 88, 1281, 60)) ((1285, 88, 1284, 0))) (cond (Nat.blt y 117) ((1278, 88, 1276, 1277)) ((740, 80, 738, 739))))) (cond (Nat.blt y 122) (cond (Nat.blt y 120) (cond (Nat.blt y 119) ((736, 79, 735, 0)) ((1292, 88, 1291, 0))) (cond (Nat.blt y 121) ((1289, 88, 1287, 1288)) ((747, 80, 745, 746)))) (cond (Nat.blt y 124) (cond (Nat.blt y 123) ((743, 79, 742, 0)) ((1296, 88, 1294, 1295))) (cond (Nat.blt y 125) ((758, 80, 757, 0)) ((755, 80, 753, 754))))))))) (cond (Nat.blt y 189) (cond (Nat.blt y 157) (cond (Nat.blt y 141) (cond (Nat.blt y 133) (cond (Nat.blt y 129) (cond (Nat.blt y 127) ((751, 79, 750, 0)) (cond (Nat.blt y 128) ((1300, 88, 1298, 1299)) ((326, 81, 324, 325)))) (cond (Nat.blt y 131) (cond (Nat.blt y 130) ((322, 80, 320, 321)) ((1304, 88, 1302, 1303))) (cond (Nat.blt y 132) ((346, 81, 344, 345)) ((360, 81, 359, 0))))) (cond (Nat.blt y 137) (cond (Nat.blt y 135) (cond (Nat.blt y 134) ((380, 81, 378, 379)) ((376, 81, 375, 2))) (cond (Nat.blt y 136) ((372, 81, 371, 1)) ((388, 81, 387, 3)))) (cond (Nat.blt y 139) (cond (Nat.blt y 138) ((341, 81, 339, 340)) ((337, 80, 335, 336))) (cond (Nat.blt y 140) ((1317, 88, 1316, 0)) ((1314, 88, 1313, 0)))))) (cond (Nat.blt y 149) (cond (Nat.blt y 145) (cond (Nat.blt y 143) (cond (Nat.blt y 142) ((1311, 88, 1310, 0)) ((1308, 88, 1306, 1307))) (cond (Nat.blt y 144) ((396, 80, 394, 395)) ((1321, 88, 1319, 1320)))) (cond (Nat.blt y 147) (cond (Nat.blt y 146) ((773, 80, 772, 21)) ((781, 97, 780, 0))) (cond (Nat.blt y 148) ((784, 97, 783, 0)) ((778, 83, 776, 777))))) (cond (Nat.blt y 153) (cond (Nat.blt y 151) (cond (Nat.blt y 150) ((769, 80, 767, 768)) ((765, 79, 764, 0))) (cond (Nat.blt y 152) ((1325, 88, 1323, 1324)) ((791, 80, 789, 790)))) (cond (Nat.blt y 155) (cond (Nat.blt y 154) ((787, 79, 786, 0)) ((1329, 88, 1327, 1328))) (cond (Nat.blt y 156) ((400, 80, 398, 399)) ((1333, 88, 1331, 1332))))))) (cond (Nat.blt y 173) (cond (Nat.blt y 165) (cond (Nat.blt y 161) (cond (Nat.blt y 159) (cond (Nat.blt y 158) ((804, 81, 802, 803)) ((799, 80, 797, 798))) (cond (Nat.blt y 160) ((795, 79, 794, 0)) ((1345, 88, 1344, 62)))) (cond (Nat.blt y 163) (cond (Nat.blt y 162) ((1341, 88, 1340, 61)) ((1337, 88, 1335, 1336))) (cond (Nat.blt y 164) ((817, 80, 816, 22)) ((838, 84, 837, 24))))) (cond (Nat.blt y 169) (cond (Nat.blt y 167) (cond (Nat.blt y 166) ((842, 84, 841, 25)) ((834, 84, 832, 833))) (cond (Nat.blt y 168) ((846, 84, 844, 845)) ((828, 85, 827, 23)))) (cond (Nat.blt y 171) (cond (Nat.blt y 170) ((822, 85, 820, 821)) ((813, 80, 811, 812))) (cond (Nat.blt y 172) ((809, 79, 808, 0)) ((1359, 88, 1358, 0)))))) (cond (Nat.blt y 181) (cond (Nat.blt y 177) (cond (Nat.blt y 175) (cond (Nat.blt y 174) ((1365, 88, 1364, 0)) ((1362, 88, 1361, 0))) (cond (Nat.blt y 176) ((1356, 88, 1355, 0)) ((1353, 88, 1352, 63)))) (cond (Nat.blt y 179) (cond (Nat.blt y 178) ((1349, 88, 1347, 1348)) ((859, 85, 857, 858))) (cond (Nat.blt y 180) ((855, 80, 853, 854)) ((851, 79, 850, 0))))) (cond (Nat.blt y 185) (cond (Nat.blt y 183) (cond (Nat.blt y 182) ((1373, 88, 1372, 64)) ((1369, 88, 1367, 1368))) (cond (Nat.blt y 184) ((874, 83, 872, 873)) ((878, 85, 877, 26)))) (cond (Nat.blt y 187) (cond (Nat.blt y 186) ((870, 85, 868, 869)) ((866, 80, 864, 865))) (cond (Nat.blt y 188) ((862, 79, 861, 0)) ((1384, 88, 1383, 0)))))))) (cond (Nat.blt y 221) (cond (Nat.blt y 205) (cond (Nat.blt y 197) (cond (Nat.blt y 193) (cond (Nat.blt y 191) (cond (Nat.blt y 190) ((1381, 88, 1380, 65)) ((1377, 88, 1375, 1376))) (cond (Nat.blt y 192) ((900, 86, 898, 899)) ((895, 86, 894, 27)))) (cond (Nat.blt y 195) (cond (Nat.blt y 194) ((912, 98, 911, 0)) ((909, 86, 908, 29))) (cond (Nat.blt y 196) ((904, 86, 903, 28)) ((924, 86, 922, 923))))) (cond (Nat.blt y 201) (cond (Nat.blt y 199) (cond (Nat.blt y 198) ((919, 86, 918, 30)) ((932, 86, 931, 32))) (cond (Nat.blt y 200) ((928, 86, 927, 31)) ((890, 86, 888, 889)))) (cond (Nat.blt y 203) (cond (Nat.blt y 202) ((886, 80, 884, 885)) ((882, 79, 881, 0))) (cond (Nat.blt y 204) ((1400, 88, 1399, 68)) ((1403, 88, 1402, 0)))))) (cond (Nat.blt y 213) (cond (Nat.blt y 209) (cond (Nat.blt y 207) (cond (Nat.blt y 206) ((1396, 88, 1395, 67)) ((1407, 88, 1406, 69))) (cond (Nat.blt y 208) ((1392, 88, 1391, 66)) ((1388, 88, 1386, 1387)))) (cond (Nat.blt y 211) (cond (Nat.blt y 210) ((939, 80, 937, 938)) ((935, 79, 934, 0))) (cond (Nat.blt y 212) ((1411, 88, 1409, 1410)) ((951, 80, 950, 33))))) (cond (Nat.blt y 217) (cond (Nat.blt y 215) (cond (Nat.blt y 214) ((968, 87, 967, 35)) ((977, 87, 976, 37))) (cond (Nat.blt y 216) ((973, 87, 972, 36)) ((983, 87, 982, 38)))) (cond (Nat.blt y 219) (cond (Nat.blt y 218) ((963, 87, 962, 34)) ((992, 87, 991, 40))) (cond (Nat.blt y 220) ((996, 87, 995, 41)) ((1000, 87, 999, 42))))))) (cond (Nat.blt y 237) (cond (Nat.blt y 229) (cond (Nat.blt y 225) (cond (Nat.blt y 223) (cond (Nat.blt y 222) ((1008, 84, 1006, 1007)) ((1004, 87, 1003, 43))) (cond (Nat.blt y 224) ((987, 87, 986, 39)) ((1016, 86, 1014, 1015)))) (cond (Nat.blt y 227) (cond (Nat.blt y 226) ((1020, 86, 1018, 1019)) ((1012, 87, 1011, 44))) (cond (Nat.blt y 228) ((956, 87, 954, 955)) ((947, 80, 945, 946))))) (cond (Nat.blt y 233) (cond (Nat.blt y 231) (cond (Nat.blt y 230) ((943, 79, 942, 0)) ((1419, 88, 1418, 70))) (cond (Nat.blt y 232) ((1435, 88, 1434, 74)) ((1439, 88, 1438, 75)))) (cond (Nat.blt y 235) (cond (Nat.blt y 234) ((1431, 88, 1430, 73)) ((1443, 88, 1442, 76))) (cond (Nat.blt y 236) ((1450, 88, 1449, 0)) ((1447, 88, 1446, 77)))))) (cond (Nat.blt y 245) (cond (Nat.blt y 241) (cond (Nat.blt y 239) (cond (Nat.blt y 238) ((1427, 88, 1426, 72)) ((1454, 88, 1453, 78))) (cond (Nat.blt y 240) ((1423, 88, 1422, 71)) ((1415, 88, 1413, 1414)))) (cond (Nat.blt y 243) (cond (Nat.blt y 242) ((1030, 80, 1028, 1029)) ((1026, 79, 1025, 0))) (cond (Nat.blt y 244) ((1458, 88, 1456, 1457)) ((1037, 80, 1035, 1036))))) (cond (Nat.blt y 249) (cond (Nat.blt y 247) (cond (Nat.blt y 246) ((1033, 79, 1032, 0)) ((1462, 88, 1460, 1461))) (cond (Nat.blt y 248) ((418, 80, 417, 0)) ((408, 80, 407, 0)))) (cond (Nat.blt y 251) (cond (Nat.blt y 250) ((404, 80, 402, 403)) ((1471, 88, 1470, 0))) (cond (Nat.blt y 252) ((1466, 88, 1464, 1465)) ((0, 0, 0, 0)))))))))
def zm_cw (y : Nat) : Cond := cond (Nat.beq (zm_kd y) 3) (.codeWith (zm_nm y) (zm_by y) (zm_mx y) (zm_rt y) (zm_hh y)) (.code (zm_nm y) (zm_by y) (zm_mx y) (zm_rt y))
def zm_kw (y : Nat) : Cond := cond (Nat.beq (zm_kd y) 0 || Nat.beq (zm_kd y) 3) (.static (zm_nm y)) (.instanceMethod (zm_nm y))
def zm_at (w : Cond) (k : Nat) : Bool := decide (lw_tbl[k]? = some w)
def zm_okm (y : Nat) : Bool := zm_at (zm_cw y) (zm_pl y).1 && zm_at (.initialized (zm_nm y).cls) (zm_pl y).2.1 && zm_at (zm_kw y) (zm_pl y).2.2.1 && (!(Nat.beq (zm_kd y) 1) || zm_at (.selects (zm_nm y).cls (zm_nm y) (zm_nm y)) (zm_pl y).2.2.2)
def zm_nM : Nat := 252
/-- field links: class, index, class of the field, its number -/
def zm_fl : List (Nat × Nat × Nat × Nat) := [(0, 9, 0, 0), (0, 15, 0, 1), (0, 18, 0, 2), (0, 21, 0, 3), (0, 24, 0, 4), (1, 11, 1, 0), (1, 18, 1, 1), (2, 12, 2, 0), (2, 18, 2, 1), (2, 21, 2, 2), (2, 27, 2, 3), (2, 31, 2, 4), (2, 37, 2, 5), (2, 41, 2, 6), (3, 9, 3, 0), (3, 15, 3, 1), (3, 18, 3, 2), (3, 21, 3, 3), (3, 43, 4, 0), (3, 68, 4, 4), (3, 71, 4, 3), (4, 9, 4, 0), (4, 15, 4, 1), (4, 18, 4, 2), (4, 21, 4, 3), (4, 24, 4, 4), (4, 27, 4, 5), (4, 43, 0, 0), (4, 49, 0, 1), (4, 59, 0, 3), (4, 69, 0, 2), (4, 78, 0, 4), (5, 12, 5, 0), (5, 21, 5, 1), (5, 28, 5, 2), (5, 32, 5, 3), (5, 44, 1, 1), (5, 69, 0, 0), (5, 72, 0, 1), (5, 79, 0, 3), (5, 88, 0, 2), (5, 99, 4, 3), (5, 102, 0, 4), (5, 108, 3, 0), (5, 111, 4, 0), (5, 117, 3, 2), (5, 139, 3, 1), (5, 142, 3, 3), (6, 10, 6, 0), (6, 16, 6, 1), (6, 19, 6, 2), (6, 22, 6, 3), (6, 28, 6, 4), (6, 35, 6, 5), (6, 42, 6, 6), (6, 49, 6, 7), (6, 56, 6, 8), (6, 60, 6, 9), (6, 64, 6, 10), (6, 126, 1, 1), (6, 136, 0, 0), (6, 139, 0, 1), (6, 142, 0, 2), (6, 145, 0, 3), (6, 148, 0, 4), (6, 180, 3, 0), (6, 183, 4, 0), (6, 186, 3, 2), (6, 192, 4, 3), (6, 202, 5, 3), (6, 268, 4, 5), (7, 7, 7, 0), (7, 13, 7, 1), (7, 16, 7, 2), (7, 19, 7, 3), (7, 22, 7, 4), (7, 25, 7, 5), (7, 28, 7, 6), (7, 31, 7, 7), (7, 34, 7, 11), (7, 37, 7, 12), (7, 40, 7, 13), (7, 43, 7, 14), (7, 46, 7, 15), (7, 49, 7, 16), (7, 52, 7, 17), (7, 55, 7, 18), (7, 58, 7, 19), (7, 61, 7, 20), (7, 65, 7, 9), (7, 83, 7, 10), (7, 191, 7, 8), (7, 249, 7, 21), (7, 252, 7, 22), (7, 255, 7, 23), (7, 258, 7, 24)]
def zm_flp : List Nat := [158, 162, 166, 170, 174, 189, 190, 212, 213, 214, 215, 216, 217, 218, 240, 243, 245, 248, 117, 127, 124, 116, 120, 121, 122, 126, 128, 159, 163, 171, 167, 175, 271, 272, 273, 274, 191, 160, 164, 172, 168, 123, 176, 241, 118, 246, 244, 249, 285, 286, 287, 288, 289, 290, 291, 292, 293, 294, 295, 192, 161, 165, 169, 173, 177, 242, 119, 247, 125, 275, 129, 1045, 1046, 1047, 1048, 1049, 1050, 1051, 1052, 1056, 1057, 1058, 1059, 1060, 1061, 1062, 1063, 1064, 1065, 1054, 1055, 1053, 1066, 1067, 1068, 1069]
def zm_flw (q : Nat × Nat × Nat × Nat) : Cond := .fieldLink (zm_cn q.1) q.2.1 (zm_T q.2.2.1 q.2.2.2).1 (zm_T q.2.2.1 q.2.2.2).2.1 (zm_T q.2.2.1 q.2.2.2).2.2.1
/-- method links: class, index, method -/
def zm_ml : List (Nat × Nat × Nat) := [(0, 27, 10), (0, 38, 13), (0, 42, 164), (0, 46, 165), (1, 22, 146), (1, 28, 147), (1, 31, 39), (2, 11, 1), (2, 36, 3), (2, 44, 128), (2, 48, 157), (2, 52, 168), (2, 56, 148), (2, 60, 39), (2, 63, 166), (2, 66, 167), (2, 69, 38), (2, 73, 137), (2, 77, 183), (2, 80, 184), (2, 84, 178), (3, 24, 0), (3, 30, 192), (3, 34, 195), (3, 37, 197), (3, 40, 199), (3, 48, 15), (3, 52, 191), (3, 56, 18), (3, 59, 194), (3, 63, 193), (3, 74, 27), (3, 78, 196), (3, 81, 198), (4, 31, 0), (4, 52, 17), (4, 56, 20), (4, 62, 21), (4, 66, 23), (4, 72, 26), (4, 75, 31), (4, 81, 32), (4, 85, 33), (4, 88, 28), (4, 91, 36), (4, 94, 37), (4, 97, 148), (4, 103, 38), (4, 107, 15), (4, 110, 16), (4, 114, 18), (4, 117, 19), (4, 120, 22), (4, 123, 24), (4, 127, 25), (4, 130, 29), (4, 134, 30), (4, 137, 35), (4, 143, 27), (4, 146, 34), (4, 152, 97), (4, 155, 131), (4, 158, 132), (4, 162, 135), (4, 165, 136), (4, 168, 111), (4, 171, 134), (4, 175, 133), (5, 11, 1), (5, 20, 5), (5, 36, 128), (5, 40, 200), (5, 50, 148), (5, 54, 217), (5, 58, 223), (5, 62, 226), (5, 66, 39), (5, 75, 213), (5, 82, 215), (5, 85, 216), (5, 91, 214), (5, 95, 133), (5, 105, 15), (5, 114, 28), (5, 120, 38), (5, 124, 218), (5, 128, 219), (5, 132, 220), (5, 135, 222), (5, 145, 221), (5, 148, 224), (5, 152, 225), (5, 155, 191), (5, 159, 196), (6, 9, 1), (6, 27, 3), (6, 41, 4), (6, 48, 5), (6, 55, 6), (6, 68, 41), (6, 72, 9), (6, 76, 97), (6, 80, 104), (6, 91, 110), (6, 95, 15), (6, 98, 111), (6, 101, 18), (6, 104, 35), (6, 107, 124), (6, 110, 28), (6, 114, 29), (6, 118, 128), (6, 122, 137), (6, 129, 145), (6, 132, 148), (6, 158, 157), (6, 162, 163), (6, 165, 169), (6, 169, 178), (6, 172, 185), (6, 176, 200), (6, 189, 133), (6, 195, 212), (6, 198, 227), (6, 213, 248), (6, 219, 10), (6, 223, 14), (6, 234, 38), (6, 238, 40), (6, 244, 11), (6, 250, 12), (6, 261, 247), (6, 265, 27), (6, 272, 34), (6, 278, 30), (7, 68, 46), (7, 72, 54), (7, 76, 52), (7, 80, 55), (7, 86, 49), (7, 89, 50), (7, 92, 51), (7, 95, 53), (7, 98, 57), (7, 101, 58), (7, 104, 59), (7, 108, 60), (7, 111, 61), (7, 114, 62), (7, 117, 63), (7, 120, 47), (7, 123, 48), (7, 126, 56), (7, 130, 115), (7, 133, 139), (7, 137, 140), (7, 141, 173), (7, 145, 172), (7, 149, 174), (7, 153, 64), (7, 157, 101), (7, 161, 160), (7, 165, 161), (7, 169, 175), (7, 173, 141), (7, 176, 188), (7, 179, 176), (7, 183, 181), (7, 187, 44), (7, 194, 45), (7, 197, 65), (7, 201, 79), (7, 204, 92), (7, 208, 100), (7, 211, 102), (7, 215, 107), (7, 218, 108), (7, 222, 114), (7, 226, 119), (7, 229, 189), (7, 232, 203), (7, 235, 204), (7, 238, 205), (7, 242, 206), (7, 245, 207), (7, 261, 231), (7, 264, 232), (7, 268, 235), (7, 271, 233), (7, 274, 234), (7, 278, 236), (7, 281, 237), (7, 285, 238), (7, 289, 230), (7, 292, 239), (7, 299, 250), (8, 7, 42), (8, 19, 68), (8, 22, 71), (8, 26, 74), (8, 29, 77), (8, 32, 81), (8, 35, 84), (8, 39, 87), (8, 42, 90), (8, 46, 94), (8, 49, 98), (8, 53, 105), (8, 56, 112), (8, 59, 117), (8, 62, 121), (8, 65, 125), (8, 69, 149), (8, 72, 152), (8, 75, 158), (8, 79, 170), (8, 83, 179), (8, 86, 186), (8, 89, 201), (8, 92, 209), (8, 95, 228), (8, 99, 241), (8, 102, 244), (8, 105, 7), (8, 108, 8), (8, 109, 43), (8, 114, 66), (8, 115, 67), (8, 118, 69), (8, 120, 70), (8, 121, 72), (8, 124, 73), (8, 125, 75), (8, 127, 76), (8, 128, 78), (8, 130, 80), (8, 131, 82), (8, 133, 83), (8, 134, 85), (8, 137, 86), (8, 138, 88), (8, 140, 89), (8, 141, 91), (8, 144, 93), (8, 145, 95), (8, 147, 96), (8, 148, 99), (8, 151, 103), (8, 152, 106), (8, 154, 109), (8, 155, 113), (8, 157, 116), (8, 158, 118), (8, 160, 120), (8, 161, 122), (8, 163, 123), (8, 164, 126), (8, 166, 127), (8, 167, 129), (8, 170, 130), (8, 171, 138), (8, 175, 142), (8, 176, 143), (8, 179, 144), (8, 180, 150), (8, 182, 151), (8, 183, 153), (8, 185, 154), (8, 186, 155), (8, 189, 156), (8, 190, 159), (8, 193, 162), (8, 194, 171), (8, 196, 177), (8, 197, 180), (8, 199, 182), (8, 200, 187), (8, 202, 190), (8, 203, 202), (8, 205, 208), (8, 206, 210), (8, 208, 211), (8, 209, 229), (8, 212, 240), (8, 213, 242), (8, 215, 243), (8, 216, 245), (8, 218, 246), (8, 219, 249), (8, 223, 251)]
def zm_mlp : List Nat := [639, 525, 835, 839, 779, 782, 635, 207, 211, 823, 824, 825, 829, 830, 831, 843, 847, 848, 871, 875, 879, 891, 892, 901, 916, 925, 896, 897, 905, 906, 910, 920, 921, 929, 113, 565, 572, 581, 585, 593, 605, 614, 618, 609, 622, 626, 805, 806, 361, 569, 576, 577, 589, 597, 601, 389, 613, 347, 381, 351, 342, 343, 357, 369, 385, 365, 373, 377, 266, 268, 957, 958, 959, 960, 984, 1009, 964, 965, 970, 980, 974, 979, 969, 978, 988, 989, 993, 997, 1001, 1005, 1013, 1017, 1021, 1022, 109, 147, 202, 236, 261, 435, 439, 330, 717, 729, 409, 411, 412, 748, 756, 761, 762, 323, 338, 770, 775, 801, 814, 819, 856, 867, 887, 940, 948, 953, 406, 511, 515, 561, 631, 732, 759, 416, 419, 420, 421, 1143, 1175, 1168, 1181, 1146, 1156, 1160, 1164, 1171, 1184, 1188, 1192, 1196, 1199, 1203, 1150, 1153, 1178, 1283, 1315, 1312, 1363, 1357, 1360, 1139, 1261, 1342, 1338, 1354, 1309, 1382, 1350, 1370, 1132, 1129, 1135, 1223, 1242, 1253, 1257, 1268, 1271, 1279, 1290, 1378, 1397, 1401, 1393, 1404, 1389, 1432, 1436, 1448, 1428, 1440, 1444, 1424, 1451, 1416, 1420, 1469, 431, 643, 650, 657, 664, 671, 678, 685, 692, 699, 706, 713, 725, 737, 744, 752, 766, 788, 796, 810, 852, 863, 883, 936, 944, 1027, 1034, 101, 1041, 425, 1125, 1121, 640, 1207, 647, 1211, 654, 1215, 661, 1219, 668, 1226, 675, 1230, 682, 1234, 689, 1238, 696, 1245, 703, 1249, 710, 1264, 722, 1275, 734, 1286, 741, 1293, 749, 1297, 319, 1301, 334, 1305, 393, 1318, 763, 1322, 785, 1326, 397, 1330, 793, 1334, 807, 1346, 849, 1366, 860, 1374, 880, 1385, 933, 1408, 941, 1412, 1024, 1455, 1031, 1459, 401, 1463]
def zm_mlw (q : Nat × Nat × Nat) : Cond := .methodLink (zm_cn q.1) q.2.1 (zm_nm q.2.2)
/-- links to nest mates -/
def zm_nl : List (Nat × Nat × Nat) := [(0, 31, 11), (0, 35, 12), (1, 17, 2), (2, 26, 2), (5, 27, 2), (6, 34, 2)]
def zm_nlp : List Nat := [519, 522, 154, 209, 270, 199]
def zm_nlw (q : Nat × Nat × Nat) : Cond := .methodLinkNest (zm_cn q.1) q.2.1 (zm_nm q.2.2) "RefactoringReplay"
/-- classes that are made: class, index, class -/
def zm_ck : List (Nat × Nat × Nat) := [(1, 9, 0), (2, 9, 4), (2, 24, 0), (2, 34, 1), (5, 9, 4), (5, 18, 3), (5, 25, 0), (6, 7, 4), (6, 25, 1), (6, 32, 0), (6, 39, 2), (6, 46, 3), (6, 53, 5), (8, 8, 6), (8, 106, 7)]
def zm_ckp : List Nat := [151, 206, 208, 210, 265, 267, 269, 107, 145, 198, 200, 234, 259, 99, 1039]
def zm_ckw (q : Nat × Nat × Nat) : Cond := .classLink (zm_cn q.1) q.2.1 (zm_cn q.2.2)
def zm_ob : List (Nat × Nat) := [(0, 3), (1, 3), (2, 3), (3, 3), (4, 3), (5, 3), (6, 1), (7, 1)]
def zm_obp : List Nat := [157, 150, 205, 239, 112, 264, 104, 1044]
def zm_obw (q : Nat × Nat) : Cond := .methodLink (zm_cn q.1) q.2 Lib.objectInit
def zm_ac : List (Nat × Nat) := [(4, 37), (6, 203)]
def zm_acp : List Nat := [327, 1023]
def zm_acw (q : Nat × Nat) : Cond := .methodLink (zm_cn q.1) q.2 arraycopyName
def zm_lc : List (Nat × Nat × Nat) := [(4, 141, 18446744073709551615), (6, 211, 43), (6, 217, 31), (7, 295, 31), (7, 297, 43), (10, 314, 6148914691236517205), (10, 316, 3689348814741910323), (10, 318, 1085102592571150095)]
def zm_lcp : List Nat := [630, 405, 410, 1467, 1468, 354, 355, 356]
def zm_lcw (q : Nat × Nat × Nat) : Cond := .constantLong (zm_cn q.1) q.2.1 (Int64.ofNat q.2.2)
def zm_ic : List (Nat × Nat × Nat) := [(11, 265, 1431655765), (11, 266, 858993459), (11, 267, 252645135)]
def zm_icp : List Nat := [913, 914, 915]
def zm_icw (q : Nat × Nat × Nat) : Cond := .constant (zm_cn q.1) q.2.1 (Int32.ofNat q.2.2)
def zm_all {α : Type} (f : α → Cond) (l : List α) (p : List Nat) : Bool := (l.zip p).all (fun q => zm_at (f q.1) q.2) && Nat.beq l.length p.length
theorem zm_all_in {α : Type} {f : α → Cond} {l : List α} {p : List Nat} (h : zm_all f l p = true) : ∀ q ∈ l, f q ∈ lw_tbl := by
  intro q hq
  simp only [zm_all, Bool.and_eq_true, List.all_eq_true] at h
  obtain ⟨h1, h2⟩ := h
  have h2 : l.length = p.length := Nat.eq_of_beq_eq_true h2
  obtain ⟨i, hi, rfl⟩ := List.getElem_of_mem hq
  have h3 := h1 (l[i], p[i]) (by rw [List.mem_iff_getElem]; exact ⟨i, by simp; omega, by simp⟩)
  simp only [zm_at, decide_eq_true_eq] at h3
  exact List.mem_of_getElem? h3
set_option maxRecDepth 100000 in
theorem zm_fl_in : ∀ q ∈ zm_fl, zm_flw q ∈ lw_tbl := zm_all_in (p := zm_flp) (by decide +kernel)
set_option maxRecDepth 100000 in
theorem zm_ml_in : ∀ q ∈ zm_ml, zm_mlw q ∈ lw_tbl := zm_all_in (p := zm_mlp) (by decide +kernel)
set_option maxRecDepth 100000 in
theorem zm_nl_in : ∀ q ∈ zm_nl, zm_nlw q ∈ lw_tbl := zm_all_in (p := zm_nlp) (by decide +kernel)
set_option maxRecDepth 100000 in
theorem zm_ck_in : ∀ q ∈ zm_ck, zm_ckw q ∈ lw_tbl := zm_all_in (p := zm_ckp) (by decide +kernel)
set_option maxRecDepth 100000 in
theorem zm_ob_in : ∀ q ∈ zm_ob, zm_obw q ∈ lw_tbl := zm_all_in (p := zm_obp) (by decide +kernel)
set_option maxRecDepth 100000 in
theorem zm_ac_in : ∀ q ∈ zm_ac, zm_acw q ∈ lw_tbl := zm_all_in (p := zm_acp) (by decide +kernel)
set_option maxRecDepth 100000 in
theorem zm_lc_in : ∀ q ∈ zm_lc, zm_lcw q ∈ lw_tbl := zm_all_in (p := zm_lcp) (by decide +kernel)
set_option maxRecDepth 100000 in
theorem zm_ic_in : ∀ q ∈ zm_ic, zm_icw q ∈ lw_tbl := zm_all_in (p := zm_icp) (by decide +kernel)
/-- each class: its fields' words, the words that it can be made and is initialized -/
theorem zm_h0 : ∀ w ∈ u_ws RX0 TX0 5, w ∈ lw_tbl := by decide +kernel
theorem zm_n0 : ∀ a, a < 5 → ∀ b, b < 5 → a ≠ b → (TX0 a).2.1 ≠ (TX0 b).2.1 := by decide +kernel
theorem zm_t0 : ∀ k, k < 5 → parseFieldDescriptor (TX0 k).2.2.1 = some (tyX0 k) := by decide +kernel
theorem zm_i0 : Cond.instantiable RX0 5 ∈ lw_tbl := List.mem_of_getElem? (i := 153) (by decide +kernel)
theorem zm_z0 : Cond.initialized RX0 ∈ lw_tbl := List.mem_of_getElem? (i := 84) (by decide +kernel)
theorem zm_h1 : ∀ w ∈ u_ws RX1 TX1 2, w ∈ lw_tbl := by decide +kernel
theorem zm_n1 : ∀ a, a < 2 → ∀ b, b < 2 → a ≠ b → (TX1 a).2.1 ≠ (TX1 b).2.1 := by decide +kernel
theorem zm_t1 : ∀ k, k < 2 → parseFieldDescriptor (TX1 k).2.2.1 = some (tyX1 k) := by decide +kernel
theorem zm_i1 : Cond.instantiable RX1 2 ∈ lw_tbl := List.mem_of_getElem? (i := 146) (by decide +kernel)
theorem zm_z1 : Cond.initialized RX1 ∈ lw_tbl := List.mem_of_getElem? (i := 83) (by decide +kernel)
theorem zm_h2 : ∀ w ∈ u_ws RX2 TX2 7, w ∈ lw_tbl := by decide +kernel
theorem zm_n2 : ∀ a, a < 7 → ∀ b, b < 7 → a ≠ b → (TX2 a).2.1 ≠ (TX2 b).2.1 := by decide +kernel
theorem zm_t2 : ∀ k, k < 7 → parseFieldDescriptor (TX2 k).2.2.1 = some (tyX2 k) := by decide +kernel
theorem zm_i2 : Cond.instantiable RX2 7 ∈ lw_tbl := List.mem_of_getElem? (i := 201) (by decide +kernel)
theorem zm_z2 : Cond.initialized RX2 ∈ lw_tbl := List.mem_of_getElem? (i := 85) (by decide +kernel)
theorem zm_h3 : ∀ w ∈ u_ws RX3 TX3 4, w ∈ lw_tbl := by decide +kernel
theorem zm_n3 : ∀ a, a < 4 → ∀ b, b < 4 → a ≠ b → (TX3 a).2.1 ≠ (TX3 b).2.1 := by decide +kernel
theorem zm_t3 : ∀ k, k < 4 → parseFieldDescriptor (TX3 k).2.2.1 = some (tyX3 k) := by decide +kernel
theorem zm_i3 : Cond.instantiable RX3 4 ∈ lw_tbl := List.mem_of_getElem? (i := 235) (by decide +kernel)
theorem zm_z3 : Cond.initialized RX3 ∈ lw_tbl := List.mem_of_getElem? (i := 86) (by decide +kernel)
theorem zm_h4 : ∀ w ∈ u_ws RX4 TX4 6, w ∈ lw_tbl := by decide +kernel
theorem zm_n4 : ∀ a, a < 6 → ∀ b, b < 6 → a ≠ b → (TX4 a).2.1 ≠ (TX4 b).2.1 := by decide +kernel
theorem zm_t4 : ∀ k, k < 6 → parseFieldDescriptor (TX4 k).2.2.1 = some (tyX4 k) := by decide +kernel
theorem zm_i4 : Cond.instantiable RX4 6 ∈ lw_tbl := List.mem_of_getElem? (i := 108) (by decide +kernel)
theorem zm_z4 : Cond.initialized RX4 ∈ lw_tbl := List.mem_of_getElem? (i := 81) (by decide +kernel)
theorem zm_h5 : ∀ w ∈ u_ws RX5 TX5 4, w ∈ lw_tbl := by decide +kernel
theorem zm_n5 : ∀ a, a < 4 → ∀ b, b < 4 → a ≠ b → (TX5 a).2.1 ≠ (TX5 b).2.1 := by decide +kernel
theorem zm_t5 : ∀ k, k < 4 → parseFieldDescriptor (TX5 k).2.2.1 = some (tyX5 k) := by decide +kernel
theorem zm_i5 : Cond.instantiable RX5 4 ∈ lw_tbl := List.mem_of_getElem? (i := 260) (by decide +kernel)
theorem zm_z5 : Cond.initialized RX5 ∈ lw_tbl := List.mem_of_getElem? (i := 87) (by decide +kernel)
theorem zm_h6 : ∀ w ∈ u_ws RX6 TX6 11, w ∈ lw_tbl := by decide +kernel
theorem zm_n6 : ∀ a, a < 11 → ∀ b, b < 11 → a ≠ b → (TX6 a).2.1 ≠ (TX6 b).2.1 := by decide +kernel
theorem zm_t6 : ∀ k, k < 11 → parseFieldDescriptor (TX6 k).2.2.1 = some (tyX6 k) := by decide +kernel
theorem zm_i6 : Cond.instantiable RX6 11 ∈ lw_tbl := List.mem_of_getElem? (i := 100) (by decide +kernel)
theorem zm_z6 : Cond.initialized RX6 ∈ lw_tbl := List.mem_of_getElem? (i := 80) (by decide +kernel)
theorem zm_h7 : ∀ w ∈ u_ws RX7 TX7 25, w ∈ lw_tbl := by decide +kernel
theorem zm_n7 : ∀ a, a < 25 → ∀ b, b < 25 → a ≠ b → (TX7 a).2.1 ≠ (TX7 b).2.1 := by decide +kernel
theorem zm_t7 : ∀ k, k < 25 → parseFieldDescriptor (TX7 k).2.2.1 = some (tyX7 k) := by decide +kernel
theorem zm_i7 : Cond.instantiable RX7 25 ∈ lw_tbl := List.mem_of_getElem? (i := 1040) (by decide +kernel)
theorem zm_z7 : Cond.initialized RX7 ∈ lw_tbl := List.mem_of_getElem? (i := 88) (by decide +kernel)
