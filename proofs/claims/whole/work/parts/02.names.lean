def RX0 : String := "RefactoringReplay$Change"
def TX0 : u_T := fun k => match k with
  | 0 => ("RefactoringReplay$Change", "kind", "I", false)
  | 1 => ("RefactoringReplay$Change", "a", "I", false)
  | 2 => ("RefactoringReplay$Change", "m", "I", false)
  | 3 => ("RefactoringReplay$Change", "b", "I", false)
  | _ => ("RefactoringReplay$Change", "n", "I", false)
def tyX0 : Nat → FieldType := fun k => match k with
  | 0 => .int
  | 1 => .int
  | 2 => .int
  | 3 => .int
  | _ => .int
def RX1 : String := "RefactoringReplay$ChangeList"
def TX1 : u_T := fun k => match k with
  | 0 => ("RefactoringReplay$ChangeList", "rows", "[LRefactoringReplay$Change;", true)
  | _ => ("RefactoringReplay$ChangeList", "count", "I", false)
def tyX1 : Nat → FieldType := fun k => match k with
  | 0 => .array (.object "RefactoringReplay$Change")
  | _ => .int
def RX2 : String := "RefactoringReplay$Commuting"
def TX2 : u_T := fun k => match k with
  | 0 => ("RefactoringReplay$Commuting", "walk", "LRefactoringReplay$Program;", true)
  | 1 => ("RefactoringReplay$Commuting", "straight", "LRefactoringReplay$Program;", true)
  | 2 => ("RefactoringReplay$Commuting", "crossed", "LRefactoringReplay$Program;", true)
  | 3 => ("RefactoringReplay$Commuting", "early", "LRefactoringReplay$Change;", true)
  | 4 => ("RefactoringReplay$Commuting", "late", "LRefactoringReplay$Change;", true)
  | 5 => ("RefactoringReplay$Commuting", "settled", "LRefactoringReplay$ChangeList;", true)
  | _ => ("RefactoringReplay$Commuting", "tried", "LRefactoringReplay$ChangeList;", true)
def tyX2 : Nat → FieldType := fun k => match k with
  | 0 => .object "RefactoringReplay$Program"
  | 1 => .object "RefactoringReplay$Program"
  | 2 => .object "RefactoringReplay$Program"
  | 3 => .object "RefactoringReplay$Change"
  | 4 => .object "RefactoringReplay$Change"
  | 5 => .object "RefactoringReplay$ChangeList"
  | _ => .object "RefactoringReplay$ChangeList"
def RX3 : String := "RefactoringReplay$Matching"
def TX3 : u_T := fun k => match k with
  | 0 => ("RefactoringReplay$Matching", "classTo", "[I", true)
  | 1 => ("RefactoringReplay$Matching", "classFrom", "[I", true)
  | 2 => ("RefactoringReplay$Matching", "memberTo", "[I", true)
  | _ => ("RefactoringReplay$Matching", "memberFrom", "[I", true)
def tyX3 : Nat → FieldType := fun k => match k with
  | 0 => .array .int
  | 1 => .array .int
  | 2 => .array .int
  | _ => .array .int
def RX4 : String := "RefactoringReplay$Program"
def TX4 : u_T := fun k => match k with
  | 0 => ("RefactoringReplay$Program", "classNames", "[I", true)
  | 1 => ("RefactoringReplay$Program", "supers", "[I", true)
  | 2 => ("RefactoringReplay$Program", "above", "[I", true)
  | 3 => ("RefactoringReplay$Program", "memberNames", "[I", true)
  | 4 => ("RefactoringReplay$Program", "owners", "[I", true)
  | _ => ("RefactoringReplay$Program", "used", "[J", true)
def tyX4 : Nat → FieldType := fun k => match k with
  | 0 => .array .int
  | 1 => .array .int
  | 2 => .array .int
  | 3 => .array .int
  | 4 => .array .int
  | _ => .array .long
def RX5 : String := "RefactoringReplay$Replayer"
def TX5 : u_T := fun k => match k with
  | 0 => ("RefactoringReplay$Replayer", "shadow", "LRefactoringReplay$Program;", true)
  | 1 => ("RefactoringReplay$Replayer", "pairs", "LRefactoringReplay$Matching;", true)
  | 2 => ("RefactoringReplay$Replayer", "plan", "LRefactoringReplay$Change;", true)
  | _ => ("RefactoringReplay$Replayer", "outcomes", "[I", true)
def tyX5 : Nat → FieldType := fun k => match k with
  | 0 => .object "RefactoringReplay$Program"
  | 1 => .object "RefactoringReplay$Matching"
  | 2 => .object "RefactoringReplay$Change"
  | _ => .array .int
def RX6 : String := "RefactoringReplay"
def TX6 : u_T := fun k => match k with
  | 0 => ("RefactoringReplay", "base", "LRefactoringReplay$Program;", true)
  | 1 => ("RefactoringReplay", "zero", "LRefactoringReplay$Program;", true)
  | 2 => ("RefactoringReplay", "one", "LRefactoringReplay$Program;", true)
  | 3 => ("RefactoringReplay", "trial", "LRefactoringReplay$Program;", true)
  | 4 => ("RefactoringReplay", "changes", "LRefactoringReplay$ChangeList;", true)
  | 5 => ("RefactoringReplay", "wanted", "LRefactoringReplay$Change;", true)
  | 6 => ("RefactoringReplay", "commuting", "LRefactoringReplay$Commuting;", true)
  | 7 => ("RefactoringReplay", "matching", "LRefactoringReplay$Matching;", true)
  | 8 => ("RefactoringReplay", "replayer", "LRefactoringReplay$Replayer;", true)
  | 9 => ("RefactoringReplay", "outcomes", "[I", true)
  | _ => ("RefactoringReplay", "outcomeCount", "I", false)
def tyX6 : Nat → FieldType := fun k => match k with
  | 0 => .object "RefactoringReplay$Program"
  | 1 => .object "RefactoringReplay$Program"
  | 2 => .object "RefactoringReplay$Program"
  | 3 => .object "RefactoringReplay$Program"
  | 4 => .object "RefactoringReplay$ChangeList"
  | 5 => .object "RefactoringReplay$Change"
  | 6 => .object "RefactoringReplay$Commuting"
  | 7 => .object "RefactoringReplay$Matching"
  | 8 => .object "RefactoringReplay$Replayer"
  | 9 => .array .int
  | _ => .int
def RX7 : String := "RefactoringReplayModel"
def TX7 : u_T := fun k => match k with
  | 0 => ("RefactoringReplayModel", "first", "[I", true)
  | 1 => ("RefactoringReplayModel", "second", "[I", true)
  | 2 => ("RefactoringReplayModel", "base", "[I", true)
  | 3 => ("RefactoringReplayModel", "at", "[I", true)
  | 4 => ("RefactoringReplayModel", "here", "[I", true)
  | 5 => ("RefactoringReplayModel", "there", "[I", true)
  | 6 => ("RefactoringReplayModel", "log", "[I", true)
  | 7 => ("RefactoringReplayModel", "taken", "[I", true)
  | 8 => ("RefactoringReplayModel", "logged", "I", false)
  | 9 => ("RefactoringReplayModel", "thrown", "I", false)
  | 10 => ("RefactoringReplayModel", "added", "I", false)
  | 11 => ("RefactoringReplayModel", "back", "[I", true)
  | 12 => ("RefactoringReplayModel", "forth", "[I", true)
  | 13 => ("RefactoringReplayModel", "tried", "[I", true)
  | 14 => ("RefactoringReplayModel", "classMatch", "[I", true)
  | 15 => ("RefactoringReplayModel", "memberMatch", "[I", true)
  | 16 => ("RefactoringReplayModel", "moving", "[I", true)
  | 17 => ("RefactoringReplayModel", "target", "[I", true)
  | 18 => ("RefactoringReplayModel", "outcomes", "[I", true)
  | 19 => ("RefactoringReplayModel", "latest", "[I", true)
  | 20 => ("RefactoringReplayModel", "latestMany", "I", false)
  | 21 => ("RefactoringReplayModel", "toA", "I", false)
  | 22 => ("RefactoringReplayModel", "toM", "I", false)
  | 23 => ("RefactoringReplayModel", "toB", "I", false)
  | _ => ("RefactoringReplayModel", "toN", "I", false)
def tyX7 : Nat → FieldType := fun k => match k with
  | 0 => .array .int
  | 1 => .array .int
  | 2 => .array .int
  | 3 => .array .int
  | 4 => .array .int
  | 5 => .array .int
  | 6 => .array .int
  | 7 => .array .int
  | 8 => .int
  | 9 => .int
  | 10 => .int
  | 11 => .array .int
  | 12 => .array .int
  | 13 => .array .int
  | 14 => .array .int
  | 15 => .array .int
  | 16 => .array .int
  | 17 => .array .int
  | 18 => .array .int
  | 19 => .array .int
  | 20 => .int
  | 21 => .int
  | 22 => .int
  | 23 => .int
  | _ => .int
abbrev zm_cl : List vw_C := [(RX0, TX0, 5), (RX1, TX1, 2), (RX2, TX2, 7), (RX3, TX3, 4), (RX4, TX4, 6), (RX5, TX5, 4), (RX6, TX6, 11), (RX7, TX7, 25)]
/-- class names by their numbers -/
def zm_cn : Nat → String := fun k => match k with
  | 0 => RX0
  | 1 => RX1
  | 2 => RX2
  | 3 => RX3
  | 4 => RX4
  | 5 => RX5
  | 6 => RX6
  | 7 => RX7
  | 8 => "RefactoringReplayLaw"
  | 9 => "java/util/Arrays"
  | 10 => "java/lang/Long"
  | 11 => "java/lang/Integer"
  | _ => "java/lang/Math"
def zm_T : Nat → u_T := fun k => match k with
  | 0 => TX0
  | 1 => TX1
  | 2 => TX2
  | 3 => TX3
  | 4 => TX4
  | 5 => TX5
  | 6 => TX6
  | _ => TX7
def zm_N : Nat → Nat := fun k => match k with
  | 0 => 5
  | 1 => 2
  | 2 => 7
  | 3 => 4
  | 4 => 6
  | 5 => 4
  | 6 => 11
  | _ => 25
def zm_ty : Nat → Nat → FieldType := fun k => match k with
  | 0 => tyX0
  | 1 => tyX1
  | 2 => tyX2
  | 3 => tyX3
  | 4 => tyX4
  | 5 => tyX5
  | 6 => tyX6
  | _ => tyX7
/-- methods by their numbers -/
abbrev y_Arrays_fill : Nat := 0
abbrev y_Prog_init : Nat := 1
abbrev y_Change_init : Nat := 2
abbrev y_List_init : Nat := 3
abbrev y_Comm_init : Nat := 4
abbrev y_Match_init : Nat := 5
abbrev y_Repl_init : Nat := 6
abbrev y_RR_init : Nat := 7
abbrev y_Mod_init : Nat := 8
abbrev y_RR_programOf : Nat := 9
abbrev y_Change_set : Nat := 10
abbrev y_RR_isClassName : Nat := 11
abbrev y_RR_isMemberName : Nat := 12
abbrev y_Change_hasTwoMembers : Nat := 13
abbrev y_Change_hasLegalNames : Nat := 14
abbrev y_Prog_classAt : Nat := 15
abbrev y_Prog_freeSlot : Nat := 16
abbrev y_Prog_putClass : Nat := 17
abbrev y_Prog_namesIn : Nat := 18
abbrev y_Prog_below : Nat := 19
abbrev y_Prog_dropClass : Nat := 20
abbrev y_Prog_giveClassName : Nat := 21
abbrev y_Prog_traceAncestors : Nat := 22
abbrev y_Prog_giveSuper : Nat := 23
abbrev y_Prog_holds : Nat := 24
abbrev y_Prog_line : Nat := 25
abbrev y_Prog_putMember : Nat := 26
abbrev y_Prog_memberIn : Nat := 27
abbrev y_Prog_memberAt : Nat := 28
abbrev y_Prog_isUse : Nat := 29
abbrev y_Prog_usersOf : Nat := 30
abbrev y_Prog_dropMember : Nat := 31
abbrev y_Prog_giveMemberName : Nat := 32
abbrev y_Prog_giveOwner : Nat := 33
abbrev y_Long_bitCount : Nat := 34
abbrev y_Prog_useCount : Nat := 35
abbrev y_Prog_putUse : Nat := 36
abbrev y_Prog_dropUse : Nat := 37
abbrev y_Prog_attempt : Nat := 38
abbrev y_Change_copyFrom : Nat := 39
abbrev y_List_append : Nat := 40
abbrev y_RR_change : Nat := 41
abbrev y_RR_addClass : Nat := 42
abbrev y_Law_addClass : Nat := 43
abbrev y_Mod_in : Nat := 44
abbrev y_Mod_isClassName : Nat := 45
abbrev y_Mod_classAt : Nat := 46
abbrev y_Mod_countOf : Nat := 47
abbrev y_Mod_freeAt : Nat := 48
abbrev y_Mod_addsClass : Nat := 49
abbrev y_Mod_removesClass : Nat := 50
abbrev y_Mod_renamesClass : Nat := 51
abbrev y_Mod_isUnder : Nat := 52
abbrev y_Mod_setsSuper : Nat := 53
abbrev y_Mod_memberAt : Nat := 54
abbrev y_Mod_areKin : Nat := 55
abbrev y_Mod_isTaken : Nat := 56
abbrev y_Mod_addsMember : Nat := 57
abbrev y_Mod_removesMember : Nat := 58
abbrev y_Mod_renamesMember : Nat := 59
abbrev y_Mod_movesMember : Nat := 60
abbrev y_Mod_memberOf : Nat := 61
abbrev y_Mod_addsUse : Nat := 62
abbrev y_Mod_removesUse : Nat := 63
abbrev y_Mod_makes : Nat := 64
abbrev y_Mod_changes : Nat := 65
abbrev y_Mod_addClass : Nat := 66
abbrev y_Mod_thrown : Nat := 67
abbrev y_RR_removeClass : Nat := 68
abbrev y_Law_removeClass : Nat := 69
abbrev y_Mod_removeClass : Nat := 70
abbrev y_RR_renameClass : Nat := 71
abbrev y_Law_renameClass : Nat := 72
abbrev y_Mod_renameClass : Nat := 73
abbrev y_RR_setSuper : Nat := 74
abbrev y_Law_setSuper : Nat := 75
abbrev y_Mod_setSuper : Nat := 76
abbrev y_RR_addMember : Nat := 77
abbrev y_Law_addMember : Nat := 78
abbrev y_Mod_isMemberName : Nat := 79
abbrev y_Mod_addMember : Nat := 80
abbrev y_RR_removeMember : Nat := 81
abbrev y_Law_removeMember : Nat := 82
abbrev y_Mod_removeMember : Nat := 83
abbrev y_RR_renameMember : Nat := 84
abbrev y_Law_renameMember : Nat := 85
abbrev y_Mod_renameMember : Nat := 86
abbrev y_RR_moveMember : Nat := 87
abbrev y_Law_moveMember : Nat := 88
abbrev y_Mod_moveMember : Nat := 89
abbrev y_RR_addUse : Nat := 90
abbrev y_Law_addUse : Nat := 91
abbrev y_Mod_areFour : Nat := 92
abbrev y_Mod_addUse : Nat := 93
abbrev y_RR_removeUse : Nat := 94
abbrev y_Law_removeUse : Nat := 95
abbrev y_Mod_removeUse : Nat := 96
abbrev y_Prog_classCount : Nat := 97
abbrev y_RR_classes : Nat := 98
abbrev y_Law_classes : Nat := 99
abbrev y_Mod_lacksVersion : Nat := 100
abbrev y_Mod_copies : Nat := 101
abbrev y_Mod_looks : Nat := 102
abbrev y_Mod_classes : Nat := 103
abbrev y_Prog_nameByOrder : Nat := 104
abbrev y_RR_className : Nat := 105
abbrev y_Law_className : Nat := 106
abbrev y_Mod_ordered : Nat := 107
abbrev y_Mod_fails : Nat := 108
abbrev y_Mod_className : Nat := 109
abbrev y_RR_requireClassName : Nat := 110
abbrev y_Prog_superNameOf : Nat := 111
abbrev y_RR_superOf : Nat := 112
abbrev y_Law_superOf : Nat := 113
abbrev y_Mod_isWrong : Nat := 114
abbrev y_Mod_nameOfSuper : Nat := 115
abbrev y_Mod_superOf : Nat := 116
abbrev y_RR_members : Nat := 117
abbrev y_Law_members : Nat := 118
abbrev y_Mod_membersOf : Nat := 119
abbrev y_Mod_members : Nat := 120
abbrev y_RR_uses : Nat := 121
abbrev y_Law_uses : Nat := 122
abbrev y_Mod_uses : Nat := 123
abbrev y_RR_requireMemberName : Nat := 124
abbrev y_RR_hasUse : Nat := 125
abbrev y_Law_hasUse : Nat := 126
abbrev y_Mod_hasUse : Nat := 127
abbrev y_Prog_copyFrom : Nat := 128
abbrev y_RR_copyVersion : Nat := 129
abbrev y_Mod_copyVersion : Nat := 130
abbrev y_Prog_memberCount : Nat := 131
abbrev y_Prog_hasClassesIn : Nat := 132
abbrev y_Prog_ownerNameOf : Nat := 133
abbrev y_Prog_twinOf : Nat := 134
abbrev y_Prog_hasMembersIn : Nat := 135
abbrev y_Prog_hasUsesIn : Nat := 136
abbrev y_Prog_isSameAs : Nat := 137
abbrev y_RR_areSame : Nat := 138
abbrev y_Mod_twin : Nat := 139
abbrev y_Mod_isPart : Nat := 140
abbrev y_Mod_areOne : Nat := 141
abbrev y_Mod_areSame : Nat := 142
abbrev y_RR_log : Nat := 143
abbrev y_Mod_log : Nat := 144
abbrev y_RR_requireChange : Nat := 145
abbrev y_List_at : Nat := 146
abbrev y_RR_kindOf : Nat := 147
abbrev y_Law_kindOf : Nat := 148
abbrev y_Mod_kindOf : Nat := 149
abbrev y_RR_nameOf : Nat := 150
abbrev y_Law_nameOf : Nat := 151
abbrev y_Mod_nameOf : Nat := 152
abbrev y_RR_clearLog : Nat := 153
abbrev y_Mod_clearLog : Nat := 154
abbrev y_Prog_makeFirst : Nat := 155
abbrev y_RR_undo : Nat := 156
abbrev y_Law_undo : Nat := 157
abbrev y_Mod_makesOf : Nat := 158
abbrev y_Mod_goesTo : Nat := 159
abbrev y_Mod_undo : Nat := 160
abbrev y_RR_requireNeighbours : Nat := 161
abbrev y_Change_replaceClass : Nat := 162
abbrev y_Change_replaceMember : Nat := 163
abbrev y_Change_carryBack : Nat := 164
abbrev y_Change_carryForward : Nat := 165
abbrev y_Comm_test : Nat := 166
abbrev y_Comm_testAt : Nat := 167
abbrev y_RR_commutes : Nat := 168
abbrev y_Law_commutes : Nat := 169
abbrev y_Mod_renames : Nat := 170
abbrev y_Mod_hasMember : Nat := 171
abbrev y_Mod_renamesPair : Nat := 172
abbrev y_Mod_carries : Nat := 173
abbrev y_Mod_commute : Nat := 174
abbrev y_Mod_commutes : Nat := 175
abbrev y_Comm_storeAt : Nat := 176
abbrev y_RR_exchange : Nat := 177
abbrev y_Law_exchange : Nat := 178
abbrev y_Mod_exchanges : Nat := 179
abbrev y_Mod_exchange : Nat := 180
abbrev y_List_copyFrom : Nat := 181
abbrev y_Comm_movesBehind : Nat := 182
abbrev y_Comm_needsOf : Nat := 183
abbrev y_RR_needs : Nat := 184
abbrev y_Law_needs : Nat := 185
abbrev y_Mod_copiesLog : Nat := 186
abbrev y_Mod_needsOf : Nat := 187
abbrev y_Mod_needs : Nat := 188
abbrev y_Match_joinClasses : Nat := 189
abbrev y_Match_joinClassesByName : Nat := 190
abbrev y_Integer_bitCount : Nat := 191
abbrev y_Match_closestTo : Nat := 192
abbrev y_Match_joinClassesByMembers : Nat := 193
abbrev y_Match_joinMembers : Nat := 194
abbrev y_Match_joinMembersOfClasses : Nat := 195
abbrev y_Match_onlyFree : Nat := 196
abbrev y_Match_joinLoneMembers : Nat := 197
abbrev y_Match_find : Nat := 198
abbrev y_RR_matchOfClass : Nat := 199
abbrev y_Law_matchOfClass : Nat := 200
abbrev y_Mod_isMatched : Nat := 201
abbrev y_Mod_bits : Nat := 202
abbrev y_Mod_likest : Nat := 203
abbrev y_Mod_lonely : Nat := 204
abbrev y_Mod_matches : Nat := 205
abbrev y_Mod_matchOfClass : Nat := 206
abbrev y_RR_matchOfMember : Nat := 207
abbrev y_Law_matchOfMember : Nat := 208
abbrev y_Mod_matchOfMember : Nat := 209
abbrev y_RR_requireSelection : Nat := 210
abbrev y_Repl_classNameOf : Nat := 211
abbrev y_Repl_memberPartner : Nat := 212
abbrev y_Repl_translateUser : Nat := 213
abbrev y_Repl_translateUsed : Nat := 214
abbrev y_Repl_translate : Nat := 215
abbrev y_Repl_countsAsMade : Nat := 216
abbrev y_Repl_isTaken : Nat := 217
abbrev y_Repl_isMendable : Nat := 218
abbrev y_Change_advanceNewName : Nat := 219
abbrev y_Repl_tryOtherNames : Nat := 220
abbrev y_Repl_tryPlan : Nat := 221
abbrev y_Match_partClass : Nat := 222
abbrev y_Match_partMember : Nat := 223
abbrev y_Repl_follow : Nat := 224
abbrev y_Repl_run : Nat := 225
abbrev y_RR_replay : Nat := 226
abbrev y_Law_replay : Nat := 227
abbrev y_Mod_isSelection : Nat := 228
abbrev y_Mod_nameFor : Nat := 229
abbrev y_Mod_memberFor : Nat := 230
abbrev y_Mod_means : Nat := 231
abbrev y_Mod_counts : Nat := 232
abbrev y_Mod_nextLetter : Nat := 233
abbrev y_Mod_mends : Nat := 234
abbrev y_Mod_tries : Nat := 235
abbrev y_Mod_goesOn : Nat := 236
abbrev y_Mod_replays : Nat := 237
abbrev y_Mod_replay : Nat := 238
abbrev y_RR_forecast : Nat := 239
abbrev y_Law_forecast : Nat := 240
abbrev y_Mod_forecast : Nat := 241
abbrev y_RR_outcome : Nat := 242
abbrev y_Law_outcome : Nat := 243
abbrev y_Mod_outcome : Nat := 244
abbrev y_RR_blendMembers : Nat := 245
abbrev y_RR_blend : Nat := 246
abbrev y_RR_fingerprint : Nat := 247
abbrev y_Mod_mixes : Nat := 248
abbrev y_Mod_fingerprint : Nat := 249
abbrev y_Law_law : Nat := 250
/-- name, descriptor, class, level, kind (0 static, 1 instance, 2 constructor, 3 static with a table, 9 the law), number of parameters -/
abbrev zm_D : Type := String × String × Nat × Nat × Nat × Nat
def zm_md (y : Nat) : zm_D := cond (Nat.blt y 125) (cond (Nat.blt y 62) (cond (Nat.blt y 31) (cond (Nat.blt y 15) (cond (Nat.blt y 7) (cond (Nat.blt y 3) (cond (Nat.blt y 1) (("fill", "([II)V", 9, 1, 0, 2)) (cond (Nat.blt y 2) (("<init>", "()V", 4, 2, 2, 0)) (("<init>", "()V", 0, 1, 2, 0)))) (cond (Nat.blt y 5) (cond (Nat.blt y 4) (("<init>", "()V", 1, 2, 2, 0)) (("<init>", "()V", 2, 3, 2, 0))) (cond (Nat.blt y 6) (("<init>", "()V", 3, 1, 2, 0)) (("<init>", "()V", 5, 3, 2, 0))))) (cond (Nat.blt y 11) (cond (Nat.blt y 9) (cond (Nat.blt y 8) (("<init>", "()V", 6, 4, 2, 0)) (("<init>", "()V", 7, 1, 2, 0))) (cond (Nat.blt y 10) (("programOf", "(I)LRefactoringReplay$Program;", 6, 6, 1, 1)) (("set", "(IIIII)V", 0, 1, 1, 5)))) (cond (Nat.blt y 13) (cond (Nat.blt y 12) (("isClassName", "(I)Z", 6, 1, 0, 1)) (("isMemberName", "(I)Z", 6, 1, 0, 1))) (cond (Nat.blt y 14) (("hasTwoMembers", "()Z", 0, 1, 1, 0)) (("hasLegalNames", "()Z", 0, 2, 1, 0)))))) (cond (Nat.blt y 23) (cond (Nat.blt y 19) (cond (Nat.blt y 17) (cond (Nat.blt y 16) (("classAt", "(I)I", 4, 1, 1, 1)) (("freeSlot", "([I)I", 4, 1, 0, 1))) (cond (Nat.blt y 18) (("putClass", "(I)I", 4, 2, 1, 1)) (("namesIn", "(I)I", 4, 1, 1, 1)))) (cond (Nat.blt y 21) (cond (Nat.blt y 20) (("below", "(I)I", 4, 1, 1, 1)) (("dropClass", "(I)I", 4, 2, 1, 1))) (cond (Nat.blt y 22) (("giveClassName", "(II)I", 4, 2, 1, 2)) (("traceAncestors", "()V", 4, 1, 1, 0))))) (cond (Nat.blt y 27) (cond (Nat.blt y 25) (cond (Nat.blt y 24) (("giveSuper", "(II)I", 4, 2, 1, 2)) (("holds", "(III)Z", 4, 1, 1, 3))) (cond (Nat.blt y 26) (("line", "(I)I", 4, 2, 1, 1)) (("putMember", "(II)I", 4, 3, 1, 2)))) (cond (Nat.blt y 29) (cond (Nat.blt y 28) (("memberIn", "(II)I", 4, 1, 1, 2)) (("memberAt", "(II)I", 4, 2, 1, 2))) (cond (Nat.blt y 30) (("isUse", "(II)Z", 4, 1, 1, 2)) (("usersOf", "(I)I", 4, 1, 1, 1))))))) (cond (Nat.blt y 46) (cond (Nat.blt y 38) (cond (Nat.blt y 34) (cond (Nat.blt y 32) (("dropMember", "(II)I", 4, 3, 1, 2)) (cond (Nat.blt y 33) (("giveMemberName", "(III)I", 4, 3, 1, 3)) (("giveOwner", "(III)I", 4, 3, 1, 3)))) (cond (Nat.blt y 36) (cond (Nat.blt y 35) (("bitCount", "(J)I", 10, 1, 0, 1)) (("useCount", "()I", 4, 2, 1, 0))) (cond (Nat.blt y 37) (("putUse", "(II)I", 4, 3, 1, 2)) (("dropUse", "(II)I", 4, 2, 1, 2))))) (cond (Nat.blt y 42) (cond (Nat.blt y 40) (cond (Nat.blt y 39) (("attempt", "(LRefactoringReplay$Change;)I", 4, 4, 1, 1)) (("copyFrom", "(LRefactoringReplay$Change;)V", 0, 2, 1, 1))) (cond (Nat.blt y 41) (("append", "(LRefactoringReplay$Change;)V", 1, 3, 1, 1)) (("change", "(IIIIII)I", 6, 7, 1, 6)))) (cond (Nat.blt y 44) (cond (Nat.blt y 43) (("addClass", "(II)I", 6, 8, 1, 2)) (("addClass", "(LRefactoringReplay;II[J)I", 8, 9, 3, 4))) (cond (Nat.blt y 45) (("in", "(III)Z", 7, 1, 0, 3)) (("isClassName", "(I)Z", 7, 2, 0, 1)))))) (cond (Nat.blt y 54) (cond (Nat.blt y 50) (cond (Nat.blt y 48) (cond (Nat.blt y 47) (("classAt", "([II)I", 7, 1, 0, 2)) (("countOf", "([III)I", 7, 1, 0, 3))) (cond (Nat.blt y 49) (("freeAt", "([II)I", 7, 1, 0, 2)) (("addsClass", "([III)I", 7, 2, 1, 3)))) (cond (Nat.blt y 52) (cond (Nat.blt y 51) (("removesClass", "([II)I", 7, 1, 1, 2)) (("renamesClass", "([III)I", 7, 2, 1, 3))) (cond (Nat.blt y 53) (("isUnder", "([III)Z", 7, 1, 0, 3)) (("setsSuper", "([III)I", 7, 2, 1, 3))))) (cond (Nat.blt y 58) (cond (Nat.blt y 56) (cond (Nat.blt y 55) (("memberAt", "([III)I", 7, 1, 0, 3)) (("areKin", "([III)Z", 7, 2, 0, 3))) (cond (Nat.blt y 57) (("isTaken", "([IIII)Z", 7, 3, 0, 4)) (("addsMember", "([III)I", 7, 4, 1, 3)))) (cond (Nat.blt y 60) (cond (Nat.blt y 59) (("removesMember", "([II)I", 7, 1, 1, 2)) (("renamesMember", "([IIII)I", 7, 4, 1, 4))) (cond (Nat.blt y 61) (("movesMember", "([IIII)I", 7, 4, 1, 4)) (("memberOf", "([III)I", 7, 2, 0, 3)))))))) (cond (Nat.blt y 93) (cond (Nat.blt y 77) (cond (Nat.blt y 69) (cond (Nat.blt y 65) (cond (Nat.blt y 63) (("addsUse", "([III)I", 7, 2, 1, 3)) (cond (Nat.blt y 64) (("removesUse", "([III)I", 7, 1, 1, 3)) (("makes", "([IIIIII)I", 7, 5, 1, 6)))) (cond (Nat.blt y 67) (cond (Nat.blt y 66) (("changes", "(IIIIIIZ)I", 7, 6, 1, 7)) (("addClass", "(II)I", 7, 7, 1, 2))) (cond (Nat.blt y 68) (("thrown", "()I", 7, 1, 1, 0)) (("removeClass", "(II)I", 6, 8, 1, 2))))) (cond (Nat.blt y 73) (cond (Nat.blt y 71) (cond (Nat.blt y 70) (("removeClass", "(LRefactoringReplay;II[J)I", 8, 9, 3, 4)) (("removeClass", "(II)I", 7, 7, 1, 2))) (cond (Nat.blt y 72) (("renameClass", "(III)I", 6, 8, 1, 3)) (("renameClass", "(LRefactoringReplay;III[J)I", 8, 9, 3, 5)))) (cond (Nat.blt y 75) (cond (Nat.blt y 74) (("renameClass", "(III)I", 7, 7, 1, 3)) (("setSuper", "(III)I", 6, 8, 1, 3))) (cond (Nat.blt y 76) (("setSuper", "(LRefactoringReplay;III[J)I", 8, 9, 3, 5)) (("setSuper", "(III)I", 7, 7, 1, 3)))))) (cond (Nat.blt y 85) (cond (Nat.blt y 81) (cond (Nat.blt y 79) (cond (Nat.blt y 78) (("addMember", "(III)I", 6, 8, 1, 3)) (("addMember", "(LRefactoringReplay;III[J)I", 8, 9, 3, 5))) (cond (Nat.blt y 80) (("isMemberName", "(I)Z", 7, 2, 0, 1)) (("addMember", "(III)I", 7, 7, 1, 3)))) (cond (Nat.blt y 83) (cond (Nat.blt y 82) (("removeMember", "(III)I", 6, 8, 1, 3)) (("removeMember", "(LRefactoringReplay;III[J)I", 8, 9, 3, 5))) (cond (Nat.blt y 84) (("removeMember", "(III)I", 7, 7, 1, 3)) (("renameMember", "(IIII)I", 6, 8, 1, 4))))) (cond (Nat.blt y 89) (cond (Nat.blt y 87) (cond (Nat.blt y 86) (("renameMember", "(LRefactoringReplay;IIII[J)I", 8, 9, 3, 6)) (("renameMember", "(IIII)I", 7, 7, 1, 4))) (cond (Nat.blt y 88) (("moveMember", "(IIII)I", 6, 8, 1, 4)) (("moveMember", "(LRefactoringReplay;IIII[J)I", 8, 9, 3, 6)))) (cond (Nat.blt y 91) (cond (Nat.blt y 90) (("moveMember", "(IIII)I", 7, 7, 1, 4)) (("addUse", "(IIIII)I", 6, 8, 1, 5))) (cond (Nat.blt y 92) (("addUse", "(LRefactoringReplay;IIIII[J)I", 8, 9, 3, 7)) (("areFour", "(IIII)Z", 7, 3, 0, 4))))))) (cond (Nat.blt y 109) (cond (Nat.blt y 101) (cond (Nat.blt y 97) (cond (Nat.blt y 95) (cond (Nat.blt y 94) (("addUse", "(IIIII)I", 7, 7, 1, 5)) (("removeUse", "(IIIII)I", 6, 8, 1, 5))) (cond (Nat.blt y 96) (("removeUse", "(LRefactoringReplay;IIIII[J)I", 8, 9, 3, 7)) (("removeUse", "(IIIII)I", 7, 7, 1, 5)))) (cond (Nat.blt y 99) (cond (Nat.blt y 98) (("classCount", "()I", 4, 1, 1, 0)) (("classes", "(I)I", 6, 7, 1, 1))) (cond (Nat.blt y 100) (("classes", "(LRefactoringReplay;I[J)I", 8, 8, 3, 3)) (("lacksVersion", "(I)Z", 7, 2, 1, 1))))) (cond (Nat.blt y 105) (cond (Nat.blt y 103) (cond (Nat.blt y 102) (("copies", "([I[I)V", 7, 1, 0, 2)) (("looks", "(I)V", 7, 2, 1, 1))) (cond (Nat.blt y 104) (("classes", "(I)I", 7, 3, 1, 1)) (("nameByOrder", "(I)I", 4, 2, 1, 1)))) (cond (Nat.blt y 107) (cond (Nat.blt y 106) (("className", "(II)I", 6, 7, 1, 2)) (("className", "(LRefactoringReplay;II[J)I", 8, 8, 3, 4))) (cond (Nat.blt y 108) (("ordered", "([II)I", 7, 2, 0, 2)) (("fails", "(I)I", 7, 1, 1, 1)))))) (cond (Nat.blt y 117) (cond (Nat.blt y 113) (cond (Nat.blt y 111) (cond (Nat.blt y 110) (("className", "(II)I", 7, 3, 1, 2)) (("requireClassName", "(I)V", 6, 6, 0, 1))) (cond (Nat.blt y 112) (("superNameOf", "(I)I", 4, 1, 1, 1)) (("superOf", "(II)I", 6, 7, 1, 2)))) (cond (Nat.blt y 115) (cond (Nat.blt y 114) (("superOf", "(LRefactoringReplay;II[J)I", 8, 8, 3, 4)) (("isWrong", "(IZ)Z", 7, 2, 1, 2))) (cond (Nat.blt y 116) (("nameOfSuper", "([II)I", 7, 1, 0, 2)) (("superOf", "(II)I", 7, 3, 1, 2))))) (cond (Nat.blt y 121) (cond (Nat.blt y 119) (cond (Nat.blt y 118) (("members", "(II)I", 6, 7, 1, 2)) (("members", "(LRefactoringReplay;II[J)I", 8, 8, 3, 4))) (cond (Nat.blt y 120) (("membersOf", "([II)I", 7, 1, 0, 2)) (("members", "(II)I", 7, 3, 1, 2)))) (cond (Nat.blt y 123) (cond (Nat.blt y 122) (("uses", "(I)I", 6, 7, 1, 1)) (("uses", "(LRefactoringReplay;I[J)I", 8, 8, 3, 3))) (cond (Nat.blt y 124) (("uses", "(I)I", 7, 3, 1, 1)) (("requireMemberName", "(I)V", 6, 6, 0, 1))))))))) (cond (Nat.blt y 188) (cond (Nat.blt y 156) (cond (Nat.blt y 140) (cond (Nat.blt y 132) (cond (Nat.blt y 128) (cond (Nat.blt y 126) (("hasUse", "(IIIII)Z", 6, 7, 1, 5)) (cond (Nat.blt y 127) (("hasUse", "(LRefactoringReplay;IIIII[J)I", 8, 8, 3, 7)) (("hasUse", "(IIIII)Z", 7, 4, 1, 5)))) (cond (Nat.blt y 130) (cond (Nat.blt y 129) (("copyFrom", "(LRefactoringReplay$Program;)V", 4, 3, 1, 1)) (("copyVersion", "()I", 6, 4, 1, 0))) (cond (Nat.blt y 131) (("copyVersion", "()I", 7, 2, 1, 0)) (("memberCount", "()I", 4, 1, 1, 0))))) (cond (Nat.blt y 136) (cond (Nat.blt y 134) (cond (Nat.blt y 133) (("hasClassesIn", "(LRefactoringReplay$Program;)Z", 4, 2, 1, 1)) (("ownerNameOf", "(I)I", 4, 1, 1, 1))) (cond (Nat.blt y 135) (("twinOf", "(ILRefactoringReplay$Program;)I", 4, 2, 1, 2)) (("hasMembersIn", "(LRefactoringReplay$Program;)Z", 4, 3, 1, 1)))) (cond (Nat.blt y 138) (cond (Nat.blt y 137) (("hasUsesIn", "(LRefactoringReplay$Program;)Z", 4, 3, 1, 1)) (("isSameAs", "(LRefactoringReplay$Program;)Z", 4, 4, 1, 1))) (cond (Nat.blt y 139) (("areSame", "()Z", 6, 5, 1, 0)) (("twin", "([II[I)I", 7, 3, 0, 3)))))) (cond (Nat.blt y 148) (cond (Nat.blt y 144) (cond (Nat.blt y 142) (cond (Nat.blt y 141) (("isPart", "([I[I)Z", 7, 4, 0, 2)) (("areOne", "([I[I)Z", 7, 5, 0, 2))) (cond (Nat.blt y 143) (("areSame", "()Z", 7, 6, 1, 0)) (("log", "()I", 6, 1, 1, 0)))) (cond (Nat.blt y 146) (cond (Nat.blt y 145) (("log", "()I", 7, 1, 1, 0)) (("requireChange", "(I)V", 6, 6, 1, 1))) (cond (Nat.blt y 147) (("at", "(I)LRefactoringReplay$Change;", 1, 3, 1, 1)) (("kindOf", "(I)I", 6, 7, 1, 1))))) (cond (Nat.blt y 152) (cond (Nat.blt y 150) (cond (Nat.blt y 149) (("kindOf", "(LRefactoringReplay;I[J)I", 8, 8, 3, 3)) (("kindOf", "(I)I", 7, 2, 1, 1))) (cond (Nat.blt y 151) (("nameOf", "(II)I", 6, 7, 1, 2)) (("nameOf", "(LRefactoringReplay;II[J)I", 8, 8, 3, 4)))) (cond (Nat.blt y 154) (cond (Nat.blt y 153) (("nameOf", "(II)I", 7, 2, 1, 2)) (("clearLog", "()I", 6, 4, 1, 0))) (cond (Nat.blt y 155) (("clearLog", "()I", 7, 2, 1, 0)) (("makeFirst", "(LRefactoringReplay$ChangeList;I)V", 4, 5, 1, 2))))))) (cond (Nat.blt y 172) (cond (Nat.blt y 164) (cond (Nat.blt y 160) (cond (Nat.blt y 158) (cond (Nat.blt y 157) (("undo", "()I", 6, 6, 1, 0)) (("undo", "(LRefactoringReplay;[J)I", 8, 7, 3, 2))) (cond (Nat.blt y 159) (("makesOf", "([I[II)I", 7, 6, 1, 3)) (("goesTo", "([I[II)V", 7, 7, 1, 3)))) (cond (Nat.blt y 162) (cond (Nat.blt y 161) (("undo", "()I", 7, 8, 1, 0)) (("requireNeighbours", "(I)V", 6, 6, 1, 1))) (cond (Nat.blt y 163) (("replaceClass", "(II)V", 0, 1, 1, 2)) (("replaceMember", "(IIII)V", 0, 2, 1, 4))))) (cond (Nat.blt y 168) (cond (Nat.blt y 166) (cond (Nat.blt y 165) (("carryBack", "(LRefactoringReplay$Change;)V", 0, 3, 1, 1)) (("carryForward", "(LRefactoringReplay$Change;)V", 0, 3, 1, 1))) (cond (Nat.blt y 167) (("test", "(LRefactoringReplay$ChangeList;I)Z", 2, 5, 1, 2)) (("testAt", "(LRefactoringReplay$Program;LRefactoringReplay$ChangeList;I)Z", 2, 6, 1, 3)))) (cond (Nat.blt y 170) (cond (Nat.blt y 169) (("commutes", "(I)Z", 6, 7, 1, 1)) (("commutes", "(LRefactoringReplay;I[J)I", 8, 8, 3, 3))) (cond (Nat.blt y 171) (("renames", "([III)V", 7, 1, 0, 3)) (("hasMember", "(I)Z", 7, 1, 0, 1)))))) (cond (Nat.blt y 180) (cond (Nat.blt y 176) (cond (Nat.blt y 174) (cond (Nat.blt y 173) (("renamesPair", "([IIIII)V", 7, 2, 0, 5)) (("carries", "([IIIIIIZ)V", 7, 3, 0, 7))) (cond (Nat.blt y 175) (("commute", "([II)Z", 7, 8, 1, 2)) (("commutes", "(I)Z", 7, 9, 1, 1)))) (cond (Nat.blt y 178) (cond (Nat.blt y 177) (("storeAt", "(LRefactoringReplay$ChangeList;I)V", 2, 4, 1, 2)) (("exchange", "(I)Z", 6, 7, 1, 1))) (cond (Nat.blt y 179) (("exchange", "(LRefactoringReplay;I[J)I", 8, 8, 3, 3)) (("exchanges", "([II)V", 7, 1, 1, 2))))) (cond (Nat.blt y 184) (cond (Nat.blt y 182) (cond (Nat.blt y 181) (("exchange", "(I)Z", 7, 9, 1, 1)) (("copyFrom", "(LRefactoringReplay$ChangeList;)V", 1, 3, 1, 1))) (cond (Nat.blt y 183) (("movesBehind", "(LRefactoringReplay$Program;II)Z", 2, 6, 1, 3)) (("needsOf", "(LRefactoringReplay$Program;LRefactoringReplay$ChangeList;I)I", 2, 7, 1, 3)))) (cond (Nat.blt y 186) (cond (Nat.blt y 185) (("needs", "(I)I", 6, 8, 1, 1)) (("needs", "(LRefactoringReplay;I[J)I", 8, 9, 3, 3))) (cond (Nat.blt y 187) (("copiesLog", "([I[I)V", 7, 1, 0, 2)) (("needsOf", "(I)I", 7, 9, 1, 1)))))))) (cond (Nat.blt y 219) (cond (Nat.blt y 203) (cond (Nat.blt y 195) (cond (Nat.blt y 191) (cond (Nat.blt y 189) (("needs", "(I)I", 7, 10, 1, 1)) (cond (Nat.blt y 190) (("joinClasses", "(II)V", 3, 1, 1, 2)) (("joinClassesByName", "(LRefactoringReplay$Program;LRefactoringReplay$Program;)V", 3, 2, 1, 2)))) (cond (Nat.blt y 193) (cond (Nat.blt y 192) (("bitCount", "(I)I", 11, 1, 0, 1)) (("closestTo", "(ILRefactoringReplay$Program;)I", 3, 2, 1, 2))) (cond (Nat.blt y 194) (("joinClassesByMembers", "(LRefactoringReplay$Program;LRefactoringReplay$Program;)V", 3, 3, 1, 2)) (("joinMembers", "(II)V", 3, 1, 1, 2))))) (cond (Nat.blt y 199) (cond (Nat.blt y 197) (cond (Nat.blt y 196) (("joinMembersOfClasses", "(LRefactoringReplay$Program;LRefactoringReplay$Program;)V", 3, 2, 1, 2)) (("onlyFree", "(LRefactoringReplay$Program;I)I", 3, 1, 1, 2))) (cond (Nat.blt y 198) (("joinLoneMembers", "(LRefactoringReplay$Program;LRefactoringReplay$Program;)V", 3, 2, 1, 2)) (("find", "(LRefactoringReplay$Program;LRefactoringReplay$Program;)V", 3, 4, 1, 2)))) (cond (Nat.blt y 201) (cond (Nat.blt y 200) (("matchOfClass", "(I)I", 6, 7, 1, 1)) (("matchOfClass", "(LRefactoringReplay;I[J)I", 8, 8, 3, 3))) (cond (Nat.blt y 202) (("isMatched", "([III)Z", 7, 1, 1, 3)) (("bits", "(I)I", 7, 1, 0, 1)))))) (cond (Nat.blt y 211) (cond (Nat.blt y 207) (cond (Nat.blt y 205) (cond (Nat.blt y 204) (("likest", "(I[I)I", 7, 3, 1, 2)) (("lonely", "([II)I", 7, 2, 1, 2))) (cond (Nat.blt y 206) (("matches", "([I)V", 7, 4, 1, 1)) (("matchOfClass", "(I)I", 7, 5, 1, 1)))) (cond (Nat.blt y 209) (cond (Nat.blt y 208) (("matchOfMember", "(II)I", 6, 7, 1, 2)) (("matchOfMember", "(LRefactoringReplay;II[J)I", 8, 8, 3, 4))) (cond (Nat.blt y 210) (("matchOfMember", "(II)I", 7, 5, 1, 2)) (("requireSelection", "(I)V", 6, 6, 1, 1))))) (cond (Nat.blt y 215) (cond (Nat.blt y 213) (cond (Nat.blt y 212) (("classNameOf", "(ILRefactoringReplay$Program;)I", 5, 2, 1, 2)) (("memberPartner", "(II)I", 5, 3, 1, 2))) (cond (Nat.blt y 214) (("translateUser", "(LRefactoringReplay$Change;LRefactoringReplay$Program;)Z", 5, 4, 1, 2)) (("translateUsed", "(LRefactoringReplay$Change;LRefactoringReplay$Program;)Z", 5, 4, 1, 2)))) (cond (Nat.blt y 217) (cond (Nat.blt y 216) (("translate", "(LRefactoringReplay$Change;LRefactoringReplay$Program;)Z", 5, 5, 1, 2)) (("countsAsMade", "(I)Z", 5, 1, 1, 1))) (cond (Nat.blt y 218) (("isTaken", "(LRefactoringReplay$Program;)Z", 5, 3, 1, 1)) (("isMendable", "(I)Z", 5, 1, 1, 1))))))) (cond (Nat.blt y 235) (cond (Nat.blt y 227) (cond (Nat.blt y 223) (cond (Nat.blt y 221) (cond (Nat.blt y 220) (("advanceNewName", "()V", 0, 1, 1, 0)) (("tryOtherNames", "(LRefactoringReplay$Program;I)I", 5, 5, 1, 2))) (cond (Nat.blt y 222) (("tryPlan", "(LRefactoringReplay$Program;Z)I", 5, 6, 1, 2)) (("partClass", "(I)V", 3, 1, 1, 1)))) (cond (Nat.blt y 225) (cond (Nat.blt y 224) (("partMember", "(I)V", 3, 1, 1, 1)) (("follow", "(LRefactoringReplay$Change;LRefactoringReplay$Program;Z)V", 5, 5, 1, 3))) (cond (Nat.blt y 226) (("run", "(LRefactoringReplay$Program;LRefactoringReplay$Program;LRefactoringReplay$ChangeList;IZ)I", 5, 7, 1, 5)) (("replay", "(IZ)I", 6, 8, 1, 2))))) (cond (Nat.blt y 231) (cond (Nat.blt y 229) (cond (Nat.blt y 228) (("replay", "(LRefactoringReplay;IZ[J)I", 8, 9, 3, 4)) (("isSelection", "(I)Z", 7, 1, 1, 1))) (cond (Nat.blt y 230) (("nameFor", "(I)I", 7, 1, 1, 1)) (("memberFor", "(II)I", 7, 3, 1, 2)))) (cond (Nat.blt y 233) (cond (Nat.blt y 232) (("means", "(I)Z", 7, 4, 1, 1)) (("counts", "(II)Z", 7, 1, 1, 2))) (cond (Nat.blt y 234) (("nextLetter", "(I)I", 7, 1, 0, 1)) (("mends", "(II)I", 7, 6, 1, 2)))))) (cond (Nat.blt y 243) (cond (Nat.blt y 239) (cond (Nat.blt y 237) (cond (Nat.blt y 236) (("tries", "(IZ)I", 7, 7, 1, 2)) (("goesOn", "(II)V", 7, 7, 1, 2))) (cond (Nat.blt y 238) (("replays", "(IZ)I", 7, 8, 1, 2)) (("replay", "(IZ)I", 7, 9, 1, 2)))) (cond (Nat.blt y 241) (cond (Nat.blt y 240) (("forecast", "(IZ)I", 6, 8, 1, 2)) (("forecast", "(LRefactoringReplay;IZ[J)I", 8, 9, 3, 4))) (cond (Nat.blt y 242) (("forecast", "(IZ)I", 7, 9, 1, 2)) (("outcome", "(I)I", 6, 6, 1, 1))))) (cond (Nat.blt y 247) (cond (Nat.blt y 245) (cond (Nat.blt y 244) (("outcome", "(LRefactoringReplay;I[J)I", 8, 7, 3, 3)) (("outcome", "(I)I", 7, 2, 1, 1))) (cond (Nat.blt y 246) (("blendMembers", "(JLRefactoringReplay$Program;I)J", 6, 2, 0, 3)) (("blend", "(JLRefactoringReplay$Program;)J", 6, 3, 0, 2)))) (cond (Nat.blt y 249) (cond (Nat.blt y 248) (("fingerprint", "()J", 6, 4, 1, 0)) (("mixes", "(J[I)J", 7, 3, 0, 2))) (cond (Nat.blt y 250) (("fingerprint", "()J", 7, 4, 1, 0)) (("law", "([I)Z", 8, 12, 9, 1)))))))))
def zm_by (y : Nat) : ByteArray := cond (Nat.blt y 125) (cond (Nat.blt y 62) (cond (Nat.blt y 31) (cond (Nat.blt y 15) (cond (Nat.blt y 7) (cond (Nat.blt y 3) (cond (Nat.blt y 1) (prog_21_method_103_code) (cond (Nat.blt y 2) (prog_6_method_1_code) (prog_2_method_1_code))) (cond (Nat.blt y 5) (cond (Nat.blt y 4) (prog_3_method_1_code) (prog_4_method_1_code)) (cond (Nat.blt y 6) (prog_5_method_1_code) (prog_7_method_1_code)))) (cond (Nat.blt y 11) (cond (Nat.blt y 9) (cond (Nat.blt y 8) (prog_1_method_1_code) (prog_9_method_1_code)) (cond (Nat.blt y 10) (prog_1_method_35_code) (prog_2_method_2_code))) (cond (Nat.blt y 13) (cond (Nat.blt y 12) (prog_1_method_43_code) (prog_1_method_44_code)) (cond (Nat.blt y 14) (prog_2_method_4_code) (prog_2_method_5_code))))) (cond (Nat.blt y 23) (cond (Nat.blt y 19) (cond (Nat.blt y 17) (cond (Nat.blt y 16) (prog_6_method_15_code) (prog_6_method_31_code)) (cond (Nat.blt y 18) (prog_6_method_5_code) (prog_6_method_26_code))) (cond (Nat.blt y 21) (cond (Nat.blt y 20) (prog_6_method_29_code) (prog_6_method_6_code)) (cond (Nat.blt y 22) (prog_6_method_7_code) (prog_6_method_30_code)))) (cond (Nat.blt y 27) (cond (Nat.blt y 25) (cond (Nat.blt y 24) (prog_6_method_8_code) (prog_6_method_27_code)) (cond (Nat.blt y 26) (prog_6_method_28_code) (prog_6_method_9_code))) (cond (Nat.blt y 29) (cond (Nat.blt y 28) (prog_6_method_17_code) (prog_6_method_16_code)) (cond (Nat.blt y 30) (prog_6_method_18_code) (prog_6_method_19_code)))))) (cond (Nat.blt y 46) (cond (Nat.blt y 38) (cond (Nat.blt y 34) (cond (Nat.blt y 32) (prog_6_method_10_code) (cond (Nat.blt y 33) (prog_6_method_11_code) (prog_6_method_12_code))) (cond (Nat.blt y 36) (cond (Nat.blt y 35) (prog_15_method_50_code) (prog_6_method_20_code)) (cond (Nat.blt y 37) (prog_6_method_13_code) (prog_6_method_14_code)))) (cond (Nat.blt y 42) (cond (Nat.blt y 40) (cond (Nat.blt y 39) (prog_6_method_3_code) (prog_2_method_3_code)) (cond (Nat.blt y 41) (prog_3_method_3_code) (prog_1_method_34_code))) (cond (Nat.blt y 44) (cond (Nat.blt y 43) (prog_1_method_2_code) (method_3_code)) (cond (Nat.blt y 45) (prog_9_method_3_code) (prog_9_method_39_code))))) (cond (Nat.blt y 54) (cond (Nat.blt y 50) (cond (Nat.blt y 48) (cond (Nat.blt y 47) (prog_9_method_6_code) (prog_9_method_9_code)) (cond (Nat.blt y 49) (prog_9_method_13_code) (prog_9_method_15_code))) (cond (Nat.blt y 52) (cond (Nat.blt y 51) (prog_9_method_16_code) (prog_9_method_17_code)) (cond (Nat.blt y 53) (prog_9_method_10_code) (prog_9_method_18_code)))) (cond (Nat.blt y 58) (cond (Nat.blt y 56) (cond (Nat.blt y 55) (prog_9_method_7_code) (prog_9_method_11_code)) (cond (Nat.blt y 57) (prog_9_method_12_code) (prog_9_method_19_code))) (cond (Nat.blt y 60) (cond (Nat.blt y 59) (prog_9_method_20_code) (prog_9_method_21_code)) (cond (Nat.blt y 61) (prog_9_method_22_code) (prog_9_method_8_code))))))) (cond (Nat.blt y 93) (cond (Nat.blt y 77) (cond (Nat.blt y 69) (cond (Nat.blt y 65) (cond (Nat.blt y 63) (prog_9_method_23_code) (cond (Nat.blt y 64) (prog_9_method_24_code) (prog_9_method_14_code))) (cond (Nat.blt y 67) (cond (Nat.blt y 66) (prog_9_method_41_code) (prog_9_method_42_code)) (cond (Nat.blt y 68) (prog_9_method_2_code) (prog_1_method_3_code)))) (cond (Nat.blt y 73) (cond (Nat.blt y 71) (cond (Nat.blt y 70) (method_4_code) (prog_9_method_43_code)) (cond (Nat.blt y 72) (prog_1_method_4_code) (method_5_code))) (cond (Nat.blt y 75) (cond (Nat.blt y 74) (prog_9_method_44_code) (prog_1_method_5_code)) (cond (Nat.blt y 76) (method_6_code) (prog_9_method_45_code))))) (cond (Nat.blt y 85) (cond (Nat.blt y 81) (cond (Nat.blt y 79) (cond (Nat.blt y 78) (prog_1_method_6_code) (method_7_code)) (cond (Nat.blt y 80) (prog_9_method_40_code) (prog_9_method_46_code))) (cond (Nat.blt y 83) (cond (Nat.blt y 82) (prog_1_method_7_code) (method_8_code)) (cond (Nat.blt y 84) (prog_9_method_47_code) (prog_1_method_8_code)))) (cond (Nat.blt y 89) (cond (Nat.blt y 87) (cond (Nat.blt y 86) (method_9_code) (prog_9_method_48_code)) (cond (Nat.blt y 88) (prog_1_method_9_code) (method_10_code))) (cond (Nat.blt y 91) (cond (Nat.blt y 90) (prog_9_method_49_code) (prog_1_method_10_code)) (cond (Nat.blt y 92) (method_11_code) (prog_9_method_50_code)))))) (cond (Nat.blt y 109) (cond (Nat.blt y 101) (cond (Nat.blt y 97) (cond (Nat.blt y 95) (cond (Nat.blt y 94) (prog_9_method_51_code) (prog_1_method_11_code)) (cond (Nat.blt y 96) (method_12_code) (prog_9_method_52_code))) (cond (Nat.blt y 99) (cond (Nat.blt y 98) (prog_6_method_21_code) (prog_1_method_12_code)) (cond (Nat.blt y 100) (method_13_code) (prog_9_method_53_code)))) (cond (Nat.blt y 105) (cond (Nat.blt y 103) (cond (Nat.blt y 102) (prog_9_method_5_code) (prog_9_method_55_code)) (cond (Nat.blt y 104) (prog_9_method_56_code) (prog_6_method_23_code))) (cond (Nat.blt y 107) (cond (Nat.blt y 106) (prog_1_method_13_code) (method_14_code)) (cond (Nat.blt y 108) (prog_9_method_57_code) (prog_9_method_4_code))))) (cond (Nat.blt y 117) (cond (Nat.blt y 113) (cond (Nat.blt y 111) (cond (Nat.blt y 110) (prog_9_method_58_code) (prog_1_method_36_code)) (cond (Nat.blt y 112) (prog_6_method_24_code) (prog_1_method_14_code))) (cond (Nat.blt y 115) (cond (Nat.blt y 114) (method_15_code) (prog_9_method_54_code)) (cond (Nat.blt y 116) (prog_9_method_25_code) (prog_9_method_59_code)))) (cond (Nat.blt y 121) (cond (Nat.blt y 119) (cond (Nat.blt y 118) (prog_1_method_15_code) (method_16_code)) (cond (Nat.blt y 120) (prog_9_method_60_code) (prog_9_method_61_code))) (cond (Nat.blt y 123) (cond (Nat.blt y 122) (prog_1_method_16_code) (method_17_code)) (cond (Nat.blt y 124) (prog_9_method_62_code) (prog_1_method_37_code)))))))) (cond (Nat.blt y 188) (cond (Nat.blt y 156) (cond (Nat.blt y 140) (cond (Nat.blt y 132) (cond (Nat.blt y 128) (cond (Nat.blt y 126) (prog_1_method_17_code) (cond (Nat.blt y 127) (method_18_code) (prog_9_method_63_code))) (cond (Nat.blt y 130) (cond (Nat.blt y 129) (prog_6_method_2_code) (prog_1_method_18_code)) (cond (Nat.blt y 131) (prog_9_method_64_code) (prog_6_method_22_code)))) (cond (Nat.blt y 136) (cond (Nat.blt y 134) (cond (Nat.blt y 133) (prog_6_method_33_code) (prog_6_method_25_code)) (cond (Nat.blt y 135) (prog_6_method_36_code) (prog_6_method_34_code))) (cond (Nat.blt y 138) (cond (Nat.blt y 137) (prog_6_method_35_code) (prog_6_method_32_code)) (cond (Nat.blt y 139) (prog_1_method_19_code) (prog_9_method_27_code))))) (cond (Nat.blt y 148) (cond (Nat.blt y 144) (cond (Nat.blt y 142) (cond (Nat.blt y 141) (prog_9_method_26_code) (prog_9_method_28_code)) (cond (Nat.blt y 143) (prog_9_method_65_code) (prog_1_method_20_code))) (cond (Nat.blt y 146) (cond (Nat.blt y 145) (prog_9_method_66_code) (prog_1_method_38_code)) (cond (Nat.blt y 147) (prog_3_method_2_code) (prog_1_method_21_code)))) (cond (Nat.blt y 152) (cond (Nat.blt y 150) (cond (Nat.blt y 149) (method_19_code) (prog_9_method_67_code)) (cond (Nat.blt y 151) (prog_1_method_22_code) (method_20_code))) (cond (Nat.blt y 154) (cond (Nat.blt y 153) (prog_9_method_68_code) (prog_1_method_23_code)) (cond (Nat.blt y 155) (prog_9_method_69_code) (prog_6_method_4_code)))))) (cond (Nat.blt y 172) (cond (Nat.blt y 164) (cond (Nat.blt y 160) (cond (Nat.blt y 158) (cond (Nat.blt y 157) (prog_1_method_24_code) (method_21_code)) (cond (Nat.blt y 159) (prog_9_method_33_code) (prog_9_method_34_code))) (cond (Nat.blt y 162) (cond (Nat.blt y 161) (prog_9_method_70_code) (prog_1_method_39_code)) (cond (Nat.blt y 163) (prog_2_method_8_code) (prog_2_method_9_code)))) (cond (Nat.blt y 168) (cond (Nat.blt y 166) (cond (Nat.blt y 165) (prog_2_method_6_code) (prog_2_method_7_code)) (cond (Nat.blt y 167) (prog_4_method_3_code) (prog_4_method_2_code))) (cond (Nat.blt y 170) (cond (Nat.blt y 169) (prog_1_method_25_code) (method_22_code)) (cond (Nat.blt y 171) (prog_9_method_30_code) (prog_9_method_29_code))))) (cond (Nat.blt y 180) (cond (Nat.blt y 176) (cond (Nat.blt y 174) (cond (Nat.blt y 173) (prog_9_method_31_code) (prog_9_method_32_code)) (cond (Nat.blt y 175) (prog_9_method_35_code) (prog_9_method_71_code))) (cond (Nat.blt y 178) (cond (Nat.blt y 177) (prog_4_method_4_code) (prog_1_method_26_code)) (cond (Nat.blt y 179) (method_23_code) (prog_9_method_36_code)))) (cond (Nat.blt y 184) (cond (Nat.blt y 182) (cond (Nat.blt y 181) (prog_9_method_72_code) (prog_3_method_4_code)) (cond (Nat.blt y 183) (prog_4_method_6_code) (prog_4_method_5_code))) (cond (Nat.blt y 186) (cond (Nat.blt y 185) (prog_1_method_27_code) (method_24_code)) (cond (Nat.blt y 187) (prog_9_method_37_code) (prog_9_method_38_code))))))) (cond (Nat.blt y 219) (cond (Nat.blt y 203) (cond (Nat.blt y 195) (cond (Nat.blt y 191) (cond (Nat.blt y 189) (prog_9_method_73_code) (cond (Nat.blt y 190) (prog_5_method_9_code) (prog_5_method_3_code))) (cond (Nat.blt y 193) (cond (Nat.blt y 192) (prog_14_method_49_code) (prog_5_method_5_code)) (cond (Nat.blt y 194) (prog_5_method_4_code) (prog_5_method_10_code)))) (cond (Nat.blt y 199) (cond (Nat.blt y 197) (cond (Nat.blt y 196) (prog_5_method_6_code) (prog_5_method_8_code)) (cond (Nat.blt y 198) (prog_5_method_7_code) (prog_5_method_2_code))) (cond (Nat.blt y 201) (cond (Nat.blt y 200) (prog_1_method_28_code) (method_25_code)) (cond (Nat.blt y 202) (prog_9_method_74_code) (prog_9_method_75_code))))) (cond (Nat.blt y 211) (cond (Nat.blt y 207) (cond (Nat.blt y 205) (cond (Nat.blt y 204) (prog_9_method_76_code) (prog_9_method_78_code)) (cond (Nat.blt y 206) (prog_9_method_77_code) (prog_9_method_79_code))) (cond (Nat.blt y 209) (cond (Nat.blt y 208) (prog_1_method_29_code) (method_26_code)) (cond (Nat.blt y 210) (prog_9_method_80_code) (prog_1_method_40_code)))) (cond (Nat.blt y 215) (cond (Nat.blt y 213) (cond (Nat.blt y 212) (prog_7_method_6_code) (prog_7_method_7_code)) (cond (Nat.blt y 214) (prog_7_method_4_code) (prog_7_method_5_code))) (cond (Nat.blt y 217) (cond (Nat.blt y 216) (prog_7_method_3_code) (prog_7_method_9_code)) (cond (Nat.blt y 218) (prog_7_method_10_code) (prog_7_method_11_code)))))) (cond (Nat.blt y 235) (cond (Nat.blt y 227) (cond (Nat.blt y 223) (cond (Nat.blt y 221) (cond (Nat.blt y 220) (prog_2_method_10_code) (prog_7_method_12_code)) (cond (Nat.blt y 222) (prog_7_method_8_code) (prog_5_method_11_code))) (cond (Nat.blt y 225) (cond (Nat.blt y 224) (prog_5_method_12_code) (prog_7_method_13_code)) (cond (Nat.blt y 226) (prog_7_method_2_code) (prog_1_method_30_code)))) (cond (Nat.blt y 231) (cond (Nat.blt y 229) (cond (Nat.blt y 228) (method_27_code) (prog_9_method_90_code)) (cond (Nat.blt y 230) (prog_9_method_81_code) (prog_9_method_82_code))) (cond (Nat.blt y 233) (cond (Nat.blt y 232) (prog_9_method_83_code) (prog_9_method_84_code)) (cond (Nat.blt y 234) (prog_9_method_85_code) (prog_9_method_86_code))))) (cond (Nat.blt y 243) (cond (Nat.blt y 239) (cond (Nat.blt y 237) (cond (Nat.blt y 236) (prog_9_method_87_code) (prog_9_method_88_code)) (cond (Nat.blt y 238) (prog_9_method_89_code) (prog_9_method_91_code))) (cond (Nat.blt y 241) (cond (Nat.blt y 240) (prog_1_method_31_code) (method_28_code)) (cond (Nat.blt y 242) (prog_9_method_92_code) (prog_1_method_32_code)))) (cond (Nat.blt y 247) (cond (Nat.blt y 245) (cond (Nat.blt y 244) (method_29_code) (prog_9_method_93_code)) (cond (Nat.blt y 246) (prog_1_method_42_code) (prog_1_method_41_code))) (cond (Nat.blt y 249) (cond (Nat.blt y 248) (prog_1_method_33_code) (prog_9_method_94_code)) (cond (Nat.blt y 250) (prog_9_method_95_code) (code))))))))
def zm_mx (y : Nat) : Nat := cond (Nat.blt y 125) (cond (Nat.blt y 62) (cond (Nat.blt y 31) (cond (Nat.blt y 15) (cond (Nat.blt y 7) (cond (Nat.blt y 3) (cond (Nat.blt y 1) (4) (cond (Nat.blt y 2) (1) (1))) (cond (Nat.blt y 5) (cond (Nat.blt y 4) (2) (1)) (cond (Nat.blt y 6) (1) (1)))) (cond (Nat.blt y 11) (cond (Nat.blt y 9) (cond (Nat.blt y 8) (1) (1)) (cond (Nat.blt y 10) (2) (6))) (cond (Nat.blt y 13) (cond (Nat.blt y 12) (1) (1)) (cond (Nat.blt y 14) (1) (3))))) (cond (Nat.blt y 23) (cond (Nat.blt y 19) (cond (Nat.blt y 17) (cond (Nat.blt y 16) (3) (2)) (cond (Nat.blt y 18) (3) (4))) (cond (Nat.blt y 21) (cond (Nat.blt y 20) (4) (3)) (cond (Nat.blt y 22) (4) (5)))) (cond (Nat.blt y 27) (cond (Nat.blt y 25) (cond (Nat.blt y 24) (7) (5)) (cond (Nat.blt y 26) (2) (5))) (cond (Nat.blt y 29) (cond (Nat.blt y 28) (4) (4)) (cond (Nat.blt y 30) (3) (4)))))) (cond (Nat.blt y 46) (cond (Nat.blt y 38) (cond (Nat.blt y 34) (cond (Nat.blt y 32) (5) (cond (Nat.blt y 33) (6) (6))) (cond (Nat.blt y 36) (cond (Nat.blt y 35) (2) (3)) (cond (Nat.blt y 37) (3) (3)))) (cond (Nat.blt y 42) (cond (Nat.blt y 40) (cond (Nat.blt y 39) (2) (2)) (cond (Nat.blt y 41) (2) (9))) (cond (Nat.blt y 44) (cond (Nat.blt y 43) (3) (5)) (cond (Nat.blt y 45) (3) (1))))) (cond (Nat.blt y 54) (cond (Nat.blt y 50) (cond (Nat.blt y 48) (cond (Nat.blt y 47) (3) (5)) (cond (Nat.blt y 49) (3) (4))) (cond (Nat.blt y 52) (cond (Nat.blt y 51) (4) (4)) (cond (Nat.blt y 53) (5) (7)))) (cond (Nat.blt y 58) (cond (Nat.blt y 56) (cond (Nat.blt y 55) (4) (3)) (cond (Nat.blt y 57) (6) (4))) (cond (Nat.blt y 60) (cond (Nat.blt y 59) (4) (5)) (cond (Nat.blt y 61) (5) (3))))))) (cond (Nat.blt y 93) (cond (Nat.blt y 77) (cond (Nat.blt y 69) (cond (Nat.blt y 65) (cond (Nat.blt y 63) (4) (cond (Nat.blt y 64) (4) (8))) (cond (Nat.blt y 67) (cond (Nat.blt y 66) (10) (3)) (cond (Nat.blt y 68) (1) (3)))) (cond (Nat.blt y 73) (cond (Nat.blt y 71) (cond (Nat.blt y 70) (5) (3)) (cond (Nat.blt y 72) (4) (6))) (cond (Nat.blt y 75) (cond (Nat.blt y 74) (4) (4)) (cond (Nat.blt y 76) (6) (4))))) (cond (Nat.blt y 85) (cond (Nat.blt y 81) (cond (Nat.blt y 79) (cond (Nat.blt y 78) (4) (6)) (cond (Nat.blt y 80) (1) (4))) (cond (Nat.blt y 83) (cond (Nat.blt y 82) (4) (6)) (cond (Nat.blt y 84) (4) (5)))) (cond (Nat.blt y 89) (cond (Nat.blt y 87) (cond (Nat.blt y 86) (7) (5)) (cond (Nat.blt y 88) (5) (7))) (cond (Nat.blt y 91) (cond (Nat.blt y 90) (5) (6)) (cond (Nat.blt y 92) (8) (4)))))) (cond (Nat.blt y 109) (cond (Nat.blt y 101) (cond (Nat.blt y 97) (cond (Nat.blt y 95) (cond (Nat.blt y 94) (6) (6)) (cond (Nat.blt y 96) (8) (6))) (cond (Nat.blt y 99) (cond (Nat.blt y 98) (3) (2)) (cond (Nat.blt y 100) (4) (2)))) (cond (Nat.blt y 105) (cond (Nat.blt y 103) (cond (Nat.blt y 102) (3) (2)) (cond (Nat.blt y 104) (2) (4))) (cond (Nat.blt y 107) (cond (Nat.blt y 106) (4) (5)) (cond (Nat.blt y 108) (5) (2))))) (cond (Nat.blt y 117) (cond (Nat.blt y 113) (cond (Nat.blt y 111) (cond (Nat.blt y 110) (4) (1)) (cond (Nat.blt y 112) (3) (5))) (cond (Nat.blt y 115) (cond (Nat.blt y 114) (5) (3)) (cond (Nat.blt y 116) (2) (4)))) (cond (Nat.blt y 121) (cond (Nat.blt y 119) (cond (Nat.blt y 118) (5) (5)) (cond (Nat.blt y 120) (4) (4))) (cond (Nat.blt y 123) (cond (Nat.blt y 122) (2) (4)) (cond (Nat.blt y 124) (2) (1)))))))) (cond (Nat.blt y 188) (cond (Nat.blt y 156) (cond (Nat.blt y 140) (cond (Nat.blt y 132) (cond (Nat.blt y 128) (cond (Nat.blt y 126) (7) (cond (Nat.blt y 127) (8) (8))) (cond (Nat.blt y 130) (cond (Nat.blt y 129) (2) (1)) (cond (Nat.blt y 131) (1) (3)))) (cond (Nat.blt y 136) (cond (Nat.blt y 134) (cond (Nat.blt y 133) (4) (3)) (cond (Nat.blt y 135) (4) (3))) (cond (Nat.blt y 138) (cond (Nat.blt y 137) (4) (2)) (cond (Nat.blt y 139) (1) (3))))) (cond (Nat.blt y 148) (cond (Nat.blt y 144) (cond (Nat.blt y 142) (cond (Nat.blt y 141) (4) (2)) (cond (Nat.blt y 143) (1) (1))) (cond (Nat.blt y 146) (cond (Nat.blt y 145) (1) (2)) (cond (Nat.blt y 147) (2) (2)))) (cond (Nat.blt y 152) (cond (Nat.blt y 150) (cond (Nat.blt y 149) (4) (2)) (cond (Nat.blt y 151) (4) (5))) (cond (Nat.blt y 154) (cond (Nat.blt y 153) (3) (2)) (cond (Nat.blt y 155) (2) (4)))))) (cond (Nat.blt y 172) (cond (Nat.blt y 164) (cond (Nat.blt y 160) (cond (Nat.blt y 158) (cond (Nat.blt y 157) (1) (3)) (cond (Nat.blt y 159) (5) (6))) (cond (Nat.blt y 162) (cond (Nat.blt y 161) (1) (2)) (cond (Nat.blt y 163) (3) (5)))) (cond (Nat.blt y 168) (cond (Nat.blt y 166) (cond (Nat.blt y 165) (2) (2)) (cond (Nat.blt y 167) (5) (4))) (cond (Nat.blt y 170) (cond (Nat.blt y 169) (2) (4)) (cond (Nat.blt y 171) (4) (1))))) (cond (Nat.blt y 180) (cond (Nat.blt y 176) (cond (Nat.blt y 174) (cond (Nat.blt y 173) (6) (7)) (cond (Nat.blt y 175) (5) (2))) (cond (Nat.blt y 178) (cond (Nat.blt y 177) (3) (2)) (cond (Nat.blt y 179) (4) (4)))) (cond (Nat.blt y 184) (cond (Nat.blt y 182) (cond (Nat.blt y 181) (3) (3)) (cond (Nat.blt y 183) (5) (7))) (cond (Nat.blt y 186) (cond (Nat.blt y 185) (2) (4)) (cond (Nat.blt y 187) (3) (7))))))) (cond (Nat.blt y 219) (cond (Nat.blt y 203) (cond (Nat.blt y 195) (cond (Nat.blt y 191) (cond (Nat.blt y 189) (2) (cond (Nat.blt y 190) (3) (4))) (cond (Nat.blt y 193) (cond (Nat.blt y 192) (1) (8)) (cond (Nat.blt y 194) (5) (3)))) (cond (Nat.blt y 199) (cond (Nat.blt y 197) (cond (Nat.blt y 196) (6) (6)) (cond (Nat.blt y 198) (7) (3))) (cond (Nat.blt y 201) (cond (Nat.blt y 200) (4) (4)) (cond (Nat.blt y 202) (6) (3))))) (cond (Nat.blt y 211) (cond (Nat.blt y 207) (cond (Nat.blt y 205) (cond (Nat.blt y 204) (9) (6)) (cond (Nat.blt y 206) (5) (3))) (cond (Nat.blt y 209) (cond (Nat.blt y 208) (5) (5)) (cond (Nat.blt y 210) (5) (3)))) (cond (Nat.blt y 215) (cond (Nat.blt y 213) (cond (Nat.blt y 212) (5) (4)) (cond (Nat.blt y 214) (4) (4))) (cond (Nat.blt y 217) (cond (Nat.blt y 216) (3) (2)) (cond (Nat.blt y 218) (3) (2)))))) (cond (Nat.blt y 235) (cond (Nat.blt y 227) (cond (Nat.blt y 223) (cond (Nat.blt y 221) (cond (Nat.blt y 220) (1) (5)) (cond (Nat.blt y 222) (4) (2))) (cond (Nat.blt y 225) (cond (Nat.blt y 224) (2) (4)) (cond (Nat.blt y 226) (11) (4)))) (cond (Nat.blt y 231) (cond (Nat.blt y 229) (cond (Nat.blt y 228) (5) (2)) (cond (Nat.blt y 230) (2) (4))) (cond (Nat.blt y 233) (cond (Nat.blt y 232) (6) (3)) (cond (Nat.blt y 234) (1) (5))))) (cond (Nat.blt y 243) (cond (Nat.blt y 239) (cond (Nat.blt y 237) (cond (Nat.blt y 236) (6) (7)) (cond (Nat.blt y 238) (7) (5))) (cond (Nat.blt y 241) (cond (Nat.blt y 240) (3) (5)) (cond (Nat.blt y 242) (3) (2)))) (cond (Nat.blt y 247) (cond (Nat.blt y 245) (cond (Nat.blt y 244) (4) (2)) (cond (Nat.blt y 246) (8) (7))) (cond (Nat.blt y 249) (cond (Nat.blt y 248) (3) (12)) (cond (Nat.blt y 250) (1) (7))))))))
def zm_rt (y : Nat) : Option FieldType := cond (Nat.blt y 125) (cond (Nat.blt y 62) (cond (Nat.blt y 31) (cond (Nat.blt y 15) (cond (Nat.blt y 7) (cond (Nat.blt y 3) (cond (Nat.blt y 1) ((none : Option FieldType)) (cond (Nat.blt y 2) ((none : Option FieldType)) ((none : Option FieldType)))) (cond (Nat.blt y 5) (cond (Nat.blt y 4) ((none : Option FieldType)) ((none : Option FieldType))) (cond (Nat.blt y 6) ((none : Option FieldType)) ((none : Option FieldType))))) (cond (Nat.blt y 11) (cond (Nat.blt y 9) (cond (Nat.blt y 8) ((none : Option FieldType)) ((none : Option FieldType))) (cond (Nat.blt y 10) ((some (FieldType.object "RefactoringReplay$Program"))) ((none : Option FieldType)))) (cond (Nat.blt y 13) (cond (Nat.blt y 12) ((some FieldType.boolean)) ((some FieldType.boolean))) (cond (Nat.blt y 14) ((some FieldType.boolean)) ((some FieldType.boolean)))))) (cond (Nat.blt y 23) (cond (Nat.blt y 19) (cond (Nat.blt y 17) (cond (Nat.blt y 16) ((some FieldType.int)) ((some FieldType.int))) (cond (Nat.blt y 18) ((some FieldType.int)) ((some FieldType.int)))) (cond (Nat.blt y 21) (cond (Nat.blt y 20) ((some FieldType.int)) ((some FieldType.int))) (cond (Nat.blt y 22) ((some FieldType.int)) ((none : Option FieldType))))) (cond (Nat.blt y 27) (cond (Nat.blt y 25) (cond (Nat.blt y 24) ((some FieldType.int)) ((some FieldType.boolean))) (cond (Nat.blt y 26) ((some FieldType.int)) ((some FieldType.int)))) (cond (Nat.blt y 29) (cond (Nat.blt y 28) ((some FieldType.int)) ((some FieldType.int))) (cond (Nat.blt y 30) ((some FieldType.boolean)) ((some FieldType.int))))))) (cond (Nat.blt y 46) (cond (Nat.blt y 38) (cond (Nat.blt y 34) (cond (Nat.blt y 32) ((some FieldType.int)) (cond (Nat.blt y 33) ((some FieldType.int)) ((some FieldType.int)))) (cond (Nat.blt y 36) (cond (Nat.blt y 35) ((some FieldType.int)) ((some FieldType.int))) (cond (Nat.blt y 37) ((some FieldType.int)) ((some FieldType.int))))) (cond (Nat.blt y 42) (cond (Nat.blt y 40) (cond (Nat.blt y 39) ((some FieldType.int)) ((none : Option FieldType))) (cond (Nat.blt y 41) ((none : Option FieldType)) ((some FieldType.int)))) (cond (Nat.blt y 44) (cond (Nat.blt y 43) ((some FieldType.int)) ((some FieldType.int))) (cond (Nat.blt y 45) ((some FieldType.boolean)) ((some FieldType.boolean)))))) (cond (Nat.blt y 54) (cond (Nat.blt y 50) (cond (Nat.blt y 48) (cond (Nat.blt y 47) ((some FieldType.int)) ((some FieldType.int))) (cond (Nat.blt y 49) ((some FieldType.int)) ((some FieldType.int)))) (cond (Nat.blt y 52) (cond (Nat.blt y 51) ((some FieldType.int)) ((some FieldType.int))) (cond (Nat.blt y 53) ((some FieldType.boolean)) ((some FieldType.int))))) (cond (Nat.blt y 58) (cond (Nat.blt y 56) (cond (Nat.blt y 55) ((some FieldType.int)) ((some FieldType.boolean))) (cond (Nat.blt y 57) ((some FieldType.boolean)) ((some FieldType.int)))) (cond (Nat.blt y 60) (cond (Nat.blt y 59) ((some FieldType.int)) ((some FieldType.int))) (cond (Nat.blt y 61) ((some FieldType.int)) ((some FieldType.int)))))))) (cond (Nat.blt y 93) (cond (Nat.blt y 77) (cond (Nat.blt y 69) (cond (Nat.blt y 65) (cond (Nat.blt y 63) ((some FieldType.int)) (cond (Nat.blt y 64) ((some FieldType.int)) ((some FieldType.int)))) (cond (Nat.blt y 67) (cond (Nat.blt y 66) ((some FieldType.int)) ((some FieldType.int))) (cond (Nat.blt y 68) ((some FieldType.int)) ((some FieldType.int))))) (cond (Nat.blt y 73) (cond (Nat.blt y 71) (cond (Nat.blt y 70) ((some FieldType.int)) ((some FieldType.int))) (cond (Nat.blt y 72) ((some FieldType.int)) ((some FieldType.int)))) (cond (Nat.blt y 75) (cond (Nat.blt y 74) ((some FieldType.int)) ((some FieldType.int))) (cond (Nat.blt y 76) ((some FieldType.int)) ((some FieldType.int)))))) (cond (Nat.blt y 85) (cond (Nat.blt y 81) (cond (Nat.blt y 79) (cond (Nat.blt y 78) ((some FieldType.int)) ((some FieldType.int))) (cond (Nat.blt y 80) ((some FieldType.boolean)) ((some FieldType.int)))) (cond (Nat.blt y 83) (cond (Nat.blt y 82) ((some FieldType.int)) ((some FieldType.int))) (cond (Nat.blt y 84) ((some FieldType.int)) ((some FieldType.int))))) (cond (Nat.blt y 89) (cond (Nat.blt y 87) (cond (Nat.blt y 86) ((some FieldType.int)) ((some FieldType.int))) (cond (Nat.blt y 88) ((some FieldType.int)) ((some FieldType.int)))) (cond (Nat.blt y 91) (cond (Nat.blt y 90) ((some FieldType.int)) ((some FieldType.int))) (cond (Nat.blt y 92) ((some FieldType.int)) ((some FieldType.boolean))))))) (cond (Nat.blt y 109) (cond (Nat.blt y 101) (cond (Nat.blt y 97) (cond (Nat.blt y 95) (cond (Nat.blt y 94) ((some FieldType.int)) ((some FieldType.int))) (cond (Nat.blt y 96) ((some FieldType.int)) ((some FieldType.int)))) (cond (Nat.blt y 99) (cond (Nat.blt y 98) ((some FieldType.int)) ((some FieldType.int))) (cond (Nat.blt y 100) ((some FieldType.int)) ((some FieldType.boolean))))) (cond (Nat.blt y 105) (cond (Nat.blt y 103) (cond (Nat.blt y 102) ((none : Option FieldType)) ((none : Option FieldType))) (cond (Nat.blt y 104) ((some FieldType.int)) ((some FieldType.int)))) (cond (Nat.blt y 107) (cond (Nat.blt y 106) ((some FieldType.int)) ((some FieldType.int))) (cond (Nat.blt y 108) ((some FieldType.int)) ((some FieldType.int)))))) (cond (Nat.blt y 117) (cond (Nat.blt y 113) (cond (Nat.blt y 111) (cond (Nat.blt y 110) ((some FieldType.int)) ((none : Option FieldType))) (cond (Nat.blt y 112) ((some FieldType.int)) ((some FieldType.int)))) (cond (Nat.blt y 115) (cond (Nat.blt y 114) ((some FieldType.int)) ((some FieldType.boolean))) (cond (Nat.blt y 116) ((some FieldType.int)) ((some FieldType.int))))) (cond (Nat.blt y 121) (cond (Nat.blt y 119) (cond (Nat.blt y 118) ((some FieldType.int)) ((some FieldType.int))) (cond (Nat.blt y 120) ((some FieldType.int)) ((some FieldType.int)))) (cond (Nat.blt y 123) (cond (Nat.blt y 122) ((some FieldType.int)) ((some FieldType.int))) (cond (Nat.blt y 124) ((some FieldType.int)) ((none : Option FieldType))))))))) (cond (Nat.blt y 188) (cond (Nat.blt y 156) (cond (Nat.blt y 140) (cond (Nat.blt y 132) (cond (Nat.blt y 128) (cond (Nat.blt y 126) ((some FieldType.boolean)) (cond (Nat.blt y 127) ((some FieldType.int)) ((some FieldType.boolean)))) (cond (Nat.blt y 130) (cond (Nat.blt y 129) ((none : Option FieldType)) ((some FieldType.int))) (cond (Nat.blt y 131) ((some FieldType.int)) ((some FieldType.int))))) (cond (Nat.blt y 136) (cond (Nat.blt y 134) (cond (Nat.blt y 133) ((some FieldType.boolean)) ((some FieldType.int))) (cond (Nat.blt y 135) ((some FieldType.int)) ((some FieldType.boolean)))) (cond (Nat.blt y 138) (cond (Nat.blt y 137) ((some FieldType.boolean)) ((some FieldType.boolean))) (cond (Nat.blt y 139) ((some FieldType.boolean)) ((some FieldType.int)))))) (cond (Nat.blt y 148) (cond (Nat.blt y 144) (cond (Nat.blt y 142) (cond (Nat.blt y 141) ((some FieldType.boolean)) ((some FieldType.boolean))) (cond (Nat.blt y 143) ((some FieldType.boolean)) ((some FieldType.int)))) (cond (Nat.blt y 146) (cond (Nat.blt y 145) ((some FieldType.int)) ((none : Option FieldType))) (cond (Nat.blt y 147) ((some (FieldType.object "RefactoringReplay$Change"))) ((some FieldType.int))))) (cond (Nat.blt y 152) (cond (Nat.blt y 150) (cond (Nat.blt y 149) ((some FieldType.int)) ((some FieldType.int))) (cond (Nat.blt y 151) ((some FieldType.int)) ((some FieldType.int)))) (cond (Nat.blt y 154) (cond (Nat.blt y 153) ((some FieldType.int)) ((some FieldType.int))) (cond (Nat.blt y 155) ((some FieldType.int)) ((none : Option FieldType))))))) (cond (Nat.blt y 172) (cond (Nat.blt y 164) (cond (Nat.blt y 160) (cond (Nat.blt y 158) (cond (Nat.blt y 157) ((some FieldType.int)) ((some FieldType.int))) (cond (Nat.blt y 159) ((some FieldType.int)) ((none : Option FieldType)))) (cond (Nat.blt y 162) (cond (Nat.blt y 161) ((some FieldType.int)) ((none : Option FieldType))) (cond (Nat.blt y 163) ((none : Option FieldType)) ((none : Option FieldType))))) (cond (Nat.blt y 168) (cond (Nat.blt y 166) (cond (Nat.blt y 165) ((none : Option FieldType)) ((none : Option FieldType))) (cond (Nat.blt y 167) ((some FieldType.boolean)) ((some FieldType.boolean)))) (cond (Nat.blt y 170) (cond (Nat.blt y 169) ((some FieldType.boolean)) ((some FieldType.int))) (cond (Nat.blt y 171) ((none : Option FieldType)) ((some FieldType.boolean)))))) (cond (Nat.blt y 180) (cond (Nat.blt y 176) (cond (Nat.blt y 174) (cond (Nat.blt y 173) ((none : Option FieldType)) ((none : Option FieldType))) (cond (Nat.blt y 175) ((some FieldType.boolean)) ((some FieldType.boolean)))) (cond (Nat.blt y 178) (cond (Nat.blt y 177) ((none : Option FieldType)) ((some FieldType.boolean))) (cond (Nat.blt y 179) ((some FieldType.int)) ((none : Option FieldType))))) (cond (Nat.blt y 184) (cond (Nat.blt y 182) (cond (Nat.blt y 181) ((some FieldType.boolean)) ((none : Option FieldType))) (cond (Nat.blt y 183) ((some FieldType.boolean)) ((some FieldType.int)))) (cond (Nat.blt y 186) (cond (Nat.blt y 185) ((some FieldType.int)) ((some FieldType.int))) (cond (Nat.blt y 187) ((none : Option FieldType)) ((some FieldType.int)))))))) (cond (Nat.blt y 219) (cond (Nat.blt y 203) (cond (Nat.blt y 195) (cond (Nat.blt y 191) (cond (Nat.blt y 189) ((some FieldType.int)) (cond (Nat.blt y 190) ((none : Option FieldType)) ((none : Option FieldType)))) (cond (Nat.blt y 193) (cond (Nat.blt y 192) ((some FieldType.int)) ((some FieldType.int))) (cond (Nat.blt y 194) ((none : Option FieldType)) ((none : Option FieldType))))) (cond (Nat.blt y 199) (cond (Nat.blt y 197) (cond (Nat.blt y 196) ((none : Option FieldType)) ((some FieldType.int))) (cond (Nat.blt y 198) ((none : Option FieldType)) ((none : Option FieldType)))) (cond (Nat.blt y 201) (cond (Nat.blt y 200) ((some FieldType.int)) ((some FieldType.int))) (cond (Nat.blt y 202) ((some FieldType.boolean)) ((some FieldType.int)))))) (cond (Nat.blt y 211) (cond (Nat.blt y 207) (cond (Nat.blt y 205) (cond (Nat.blt y 204) ((some FieldType.int)) ((some FieldType.int))) (cond (Nat.blt y 206) ((none : Option FieldType)) ((some FieldType.int)))) (cond (Nat.blt y 209) (cond (Nat.blt y 208) ((some FieldType.int)) ((some FieldType.int))) (cond (Nat.blt y 210) ((some FieldType.int)) ((none : Option FieldType))))) (cond (Nat.blt y 215) (cond (Nat.blt y 213) (cond (Nat.blt y 212) ((some FieldType.int)) ((some FieldType.int))) (cond (Nat.blt y 214) ((some FieldType.boolean)) ((some FieldType.boolean)))) (cond (Nat.blt y 217) (cond (Nat.blt y 216) ((some FieldType.boolean)) ((some FieldType.boolean))) (cond (Nat.blt y 218) ((some FieldType.boolean)) ((some FieldType.boolean))))))) (cond (Nat.blt y 235) (cond (Nat.blt y 227) (cond (Nat.blt y 223) (cond (Nat.blt y 221) (cond (Nat.blt y 220) ((none : Option FieldType)) ((some FieldType.int))) (cond (Nat.blt y 222) ((some FieldType.int)) ((none : Option FieldType)))) (cond (Nat.blt y 225) (cond (Nat.blt y 224) ((none : Option FieldType)) ((none : Option FieldType))) (cond (Nat.blt y 226) ((some FieldType.int)) ((some FieldType.int))))) (cond (Nat.blt y 231) (cond (Nat.blt y 229) (cond (Nat.blt y 228) ((some FieldType.int)) ((some FieldType.boolean))) (cond (Nat.blt y 230) ((some FieldType.int)) ((some FieldType.int)))) (cond (Nat.blt y 233) (cond (Nat.blt y 232) ((some FieldType.boolean)) ((some FieldType.boolean))) (cond (Nat.blt y 234) ((some FieldType.int)) ((some FieldType.int)))))) (cond (Nat.blt y 243) (cond (Nat.blt y 239) (cond (Nat.blt y 237) (cond (Nat.blt y 236) ((some FieldType.int)) ((none : Option FieldType))) (cond (Nat.blt y 238) ((some FieldType.int)) ((some FieldType.int)))) (cond (Nat.blt y 241) (cond (Nat.blt y 240) ((some FieldType.int)) ((some FieldType.int))) (cond (Nat.blt y 242) ((some FieldType.int)) ((some FieldType.int))))) (cond (Nat.blt y 247) (cond (Nat.blt y 245) (cond (Nat.blt y 244) ((some FieldType.int)) ((some FieldType.int))) (cond (Nat.blt y 246) ((some FieldType.long)) ((some FieldType.long)))) (cond (Nat.blt y 249) (cond (Nat.blt y 248) ((some FieldType.long)) ((some FieldType.long))) (cond (Nat.blt y 250) ((some FieldType.long)) (ret))))))))
def zm_own (y : Nat) : Nat := (zm_md y).2.2.1
def zm_lv (y : Nat) : Nat := (zm_md y).2.2.2.1
def zm_kd (y : Nat) : Nat := (zm_md y).2.2.2.2.1
def zm_ar (y : Nat) : Nat := (zm_md y).2.2.2.2.2
def zm_nm (y : Nat) : MethodName := ⟨zm_cn (zm_own y), (zm_md y).1, (zm_md y).2.1⟩
/-- handlers: from, to, exception, answer, target, slot, short form -/
abbrev zm_Hd : Type := Nat × Nat × Nat × Nat × Nat × Nat × Bool
def zm_hd (y : Nat) : List zm_Hd := cond (Nat.blt y 125) (cond (Nat.blt y 62) (cond (Nat.blt y 31) (cond (Nat.blt y 15) (cond (Nat.blt y 7) (cond (Nat.blt y 3) (cond (Nat.blt y 1) ([]) (cond (Nat.blt y 2) ([]) ([]))) (cond (Nat.blt y 5) (cond (Nat.blt y 4) ([]) ([])) (cond (Nat.blt y 6) ([]) ([])))) (cond (Nat.blt y 11) (cond (Nat.blt y 9) (cond (Nat.blt y 8) ([]) ([])) (cond (Nat.blt y 10) ([]) ([]))) (cond (Nat.blt y 13) (cond (Nat.blt y 12) ([]) ([])) (cond (Nat.blt y 14) ([]) ([]))))) (cond (Nat.blt y 23) (cond (Nat.blt y 19) (cond (Nat.blt y 17) (cond (Nat.blt y 16) ([]) ([])) (cond (Nat.blt y 18) ([]) ([]))) (cond (Nat.blt y 21) (cond (Nat.blt y 20) ([]) ([])) (cond (Nat.blt y 22) ([]) ([])))) (cond (Nat.blt y 27) (cond (Nat.blt y 25) (cond (Nat.blt y 24) ([]) ([])) (cond (Nat.blt y 26) ([]) ([]))) (cond (Nat.blt y 29) (cond (Nat.blt y 28) ([]) ([])) (cond (Nat.blt y 30) ([]) ([])))))) (cond (Nat.blt y 46) (cond (Nat.blt y 38) (cond (Nat.blt y 34) (cond (Nat.blt y 32) ([]) (cond (Nat.blt y 33) ([]) ([]))) (cond (Nat.blt y 36) (cond (Nat.blt y 35) ([]) ([])) (cond (Nat.blt y 37) ([]) ([])))) (cond (Nat.blt y 42) (cond (Nat.blt y 40) (cond (Nat.blt y 39) ([]) ([])) (cond (Nat.blt y 41) ([]) ([]))) (cond (Nat.blt y 44) (cond (Nat.blt y 43) ([]) ([(0, 10, 0, 1, 13, 4, false), (0, 10, 1, 2, 17, 4, false), (0, 10, 2, 3, 21, 4, false)])) (cond (Nat.blt y 45) ([]) ([]))))) (cond (Nat.blt y 54) (cond (Nat.blt y 50) (cond (Nat.blt y 48) (cond (Nat.blt y 47) ([]) ([])) (cond (Nat.blt y 49) ([]) ([]))) (cond (Nat.blt y 52) (cond (Nat.blt y 51) ([]) ([])) (cond (Nat.blt y 53) ([]) ([])))) (cond (Nat.blt y 58) (cond (Nat.blt y 56) (cond (Nat.blt y 55) ([]) ([])) (cond (Nat.blt y 57) ([]) ([]))) (cond (Nat.blt y 60) (cond (Nat.blt y 59) ([]) ([])) (cond (Nat.blt y 61) ([]) ([]))))))) (cond (Nat.blt y 93) (cond (Nat.blt y 77) (cond (Nat.blt y 69) (cond (Nat.blt y 65) (cond (Nat.blt y 63) ([]) (cond (Nat.blt y 64) ([]) ([]))) (cond (Nat.blt y 67) (cond (Nat.blt y 66) ([]) ([])) (cond (Nat.blt y 68) ([]) ([])))) (cond (Nat.blt y 73) (cond (Nat.blt y 71) (cond (Nat.blt y 70) ([(0, 10, 0, 1, 13, 4, false), (0, 10, 1, 2, 17, 4, false), (0, 10, 2, 3, 21, 4, false)]) ([])) (cond (Nat.blt y 72) ([]) ([(0, 12, 0, 1, 15, 5, false), (0, 12, 1, 2, 19, 5, false), (0, 12, 2, 3, 23, 5, false)]))) (cond (Nat.blt y 75) (cond (Nat.blt y 74) ([]) ([])) (cond (Nat.blt y 76) ([(0, 12, 0, 1, 15, 5, false), (0, 12, 1, 2, 19, 5, false), (0, 12, 2, 3, 23, 5, false)]) ([]))))) (cond (Nat.blt y 85) (cond (Nat.blt y 81) (cond (Nat.blt y 79) (cond (Nat.blt y 78) ([]) ([(0, 12, 0, 1, 15, 5, false), (0, 12, 1, 2, 19, 5, false), (0, 12, 2, 3, 23, 5, false)])) (cond (Nat.blt y 80) ([]) ([]))) (cond (Nat.blt y 83) (cond (Nat.blt y 82) ([]) ([(0, 12, 0, 1, 15, 5, false), (0, 12, 1, 2, 19, 5, false), (0, 12, 2, 3, 23, 5, false)])) (cond (Nat.blt y 84) ([]) ([])))) (cond (Nat.blt y 89) (cond (Nat.blt y 87) (cond (Nat.blt y 86) ([(0, 14, 0, 1, 17, 6, false), (0, 14, 1, 2, 21, 6, false), (0, 14, 2, 3, 25, 6, false)]) ([])) (cond (Nat.blt y 88) ([]) ([(0, 14, 0, 1, 17, 6, false), (0, 14, 1, 2, 21, 6, false), (0, 14, 2, 3, 25, 6, false)]))) (cond (Nat.blt y 91) (cond (Nat.blt y 90) ([]) ([])) (cond (Nat.blt y 92) ([(0, 16, 0, 1, 19, 7, false), (0, 16, 1, 2, 23, 7, false), (0, 16, 2, 3, 27, 7, false)]) ([])))))) (cond (Nat.blt y 109) (cond (Nat.blt y 101) (cond (Nat.blt y 97) (cond (Nat.blt y 95) (cond (Nat.blt y 94) ([]) ([])) (cond (Nat.blt y 96) ([(0, 16, 0, 1, 19, 7, false), (0, 16, 1, 2, 23, 7, false), (0, 16, 2, 3, 27, 7, false)]) ([]))) (cond (Nat.blt y 99) (cond (Nat.blt y 98) ([]) ([])) (cond (Nat.blt y 100) ([(0, 9, 0, 1, 12, 3, true)]) ([])))) (cond (Nat.blt y 105) (cond (Nat.blt y 103) (cond (Nat.blt y 102) ([]) ([])) (cond (Nat.blt y 104) ([]) ([]))) (cond (Nat.blt y 107) (cond (Nat.blt y 106) ([]) ([(0, 10, 0, 1, 13, 4, false)])) (cond (Nat.blt y 108) ([]) ([]))))) (cond (Nat.blt y 117) (cond (Nat.blt y 113) (cond (Nat.blt y 111) (cond (Nat.blt y 110) ([]) ([])) (cond (Nat.blt y 112) ([]) ([]))) (cond (Nat.blt y 115) (cond (Nat.blt y 114) ([(0, 10, 0, 1, 13, 4, false), (0, 10, 1, 2, 17, 4, false)]) ([])) (cond (Nat.blt y 116) ([]) ([])))) (cond (Nat.blt y 121) (cond (Nat.blt y 119) (cond (Nat.blt y 118) ([]) ([(0, 10, 0, 1, 13, 4, false), (0, 10, 1, 2, 17, 4, false)])) (cond (Nat.blt y 120) ([]) ([]))) (cond (Nat.blt y 123) (cond (Nat.blt y 122) ([]) ([(0, 9, 0, 1, 12, 3, true)])) (cond (Nat.blt y 124) ([]) ([])))))))) (cond (Nat.blt y 188) (cond (Nat.blt y 156) (cond (Nat.blt y 140) (cond (Nat.blt y 132) (cond (Nat.blt y 128) (cond (Nat.blt y 126) ([]) (cond (Nat.blt y 127) ([(0, 23, 0, 1, 26, 7, false), (0, 23, 1, 2, 30, 7, false)]) ([]))) (cond (Nat.blt y 130) (cond (Nat.blt y 129) ([]) ([])) (cond (Nat.blt y 131) ([]) ([])))) (cond (Nat.blt y 136) (cond (Nat.blt y 134) (cond (Nat.blt y 133) ([]) ([])) (cond (Nat.blt y 135) ([]) ([]))) (cond (Nat.blt y 138) (cond (Nat.blt y 137) ([]) ([])) (cond (Nat.blt y 139) ([]) ([]))))) (cond (Nat.blt y 148) (cond (Nat.blt y 144) (cond (Nat.blt y 142) (cond (Nat.blt y 141) ([]) ([])) (cond (Nat.blt y 143) ([]) ([]))) (cond (Nat.blt y 146) (cond (Nat.blt y 145) ([]) ([])) (cond (Nat.blt y 147) ([]) ([])))) (cond (Nat.blt y 152) (cond (Nat.blt y 150) (cond (Nat.blt y 149) ([(0, 9, 0, 1, 12, 3, true)]) ([])) (cond (Nat.blt y 151) ([]) ([(0, 10, 0, 1, 13, 4, false)]))) (cond (Nat.blt y 154) (cond (Nat.blt y 153) ([]) ([])) (cond (Nat.blt y 155) ([]) ([])))))) (cond (Nat.blt y 172) (cond (Nat.blt y 164) (cond (Nat.blt y 160) (cond (Nat.blt y 158) (cond (Nat.blt y 157) ([]) ([(0, 8, 2, 1, 11, 2, true)])) (cond (Nat.blt y 159) ([]) ([]))) (cond (Nat.blt y 162) (cond (Nat.blt y 161) ([]) ([])) (cond (Nat.blt y 163) ([]) ([])))) (cond (Nat.blt y 168) (cond (Nat.blt y 166) (cond (Nat.blt y 165) ([]) ([])) (cond (Nat.blt y 167) ([]) ([]))) (cond (Nat.blt y 170) (cond (Nat.blt y 169) ([]) ([(0, 16, 0, 1, 19, 3, true)])) (cond (Nat.blt y 171) ([]) ([]))))) (cond (Nat.blt y 180) (cond (Nat.blt y 176) (cond (Nat.blt y 174) (cond (Nat.blt y 173) ([]) ([])) (cond (Nat.blt y 175) ([]) ([]))) (cond (Nat.blt y 178) (cond (Nat.blt y 177) ([]) ([])) (cond (Nat.blt y 179) ([(0, 16, 0, 1, 19, 3, true)]) ([])))) (cond (Nat.blt y 184) (cond (Nat.blt y 182) (cond (Nat.blt y 181) ([]) ([])) (cond (Nat.blt y 183) ([]) ([]))) (cond (Nat.blt y 186) (cond (Nat.blt y 185) ([]) ([(0, 9, 0, 1, 12, 3, true)])) (cond (Nat.blt y 187) ([]) ([]))))))) (cond (Nat.blt y 219) (cond (Nat.blt y 203) (cond (Nat.blt y 195) (cond (Nat.blt y 191) (cond (Nat.blt y 189) ([]) (cond (Nat.blt y 190) ([]) ([]))) (cond (Nat.blt y 193) (cond (Nat.blt y 192) ([]) ([])) (cond (Nat.blt y 194) ([]) ([])))) (cond (Nat.blt y 199) (cond (Nat.blt y 197) (cond (Nat.blt y 196) ([]) ([])) (cond (Nat.blt y 198) ([]) ([]))) (cond (Nat.blt y 201) (cond (Nat.blt y 200) ([]) ([(0, 9, 1, 1, 12, 3, true)])) (cond (Nat.blt y 202) ([]) ([]))))) (cond (Nat.blt y 211) (cond (Nat.blt y 207) (cond (Nat.blt y 205) (cond (Nat.blt y 204) ([]) ([])) (cond (Nat.blt y 206) ([]) ([]))) (cond (Nat.blt y 209) (cond (Nat.blt y 208) ([]) ([(0, 10, 1, 1, 13, 4, false)])) (cond (Nat.blt y 210) ([]) ([])))) (cond (Nat.blt y 215) (cond (Nat.blt y 213) (cond (Nat.blt y 212) ([]) ([])) (cond (Nat.blt y 214) ([]) ([]))) (cond (Nat.blt y 217) (cond (Nat.blt y 216) ([]) ([])) (cond (Nat.blt y 218) ([]) ([])))))) (cond (Nat.blt y 235) (cond (Nat.blt y 227) (cond (Nat.blt y 223) (cond (Nat.blt y 221) (cond (Nat.blt y 220) ([]) ([])) (cond (Nat.blt y 222) ([]) ([]))) (cond (Nat.blt y 225) (cond (Nat.blt y 224) ([]) ([])) (cond (Nat.blt y 226) ([]) ([])))) (cond (Nat.blt y 231) (cond (Nat.blt y 229) (cond (Nat.blt y 228) ([(0, 10, 1, 1, 13, 4, false)]) ([])) (cond (Nat.blt y 230) ([]) ([]))) (cond (Nat.blt y 233) (cond (Nat.blt y 232) ([]) ([])) (cond (Nat.blt y 234) ([]) ([]))))) (cond (Nat.blt y 243) (cond (Nat.blt y 239) (cond (Nat.blt y 237) (cond (Nat.blt y 236) ([]) ([])) (cond (Nat.blt y 238) ([]) ([]))) (cond (Nat.blt y 241) (cond (Nat.blt y 240) ([]) ([(0, 10, 1, 1, 13, 4, false)])) (cond (Nat.blt y 242) ([]) ([])))) (cond (Nat.blt y 247) (cond (Nat.blt y 245) (cond (Nat.blt y 244) ([(0, 9, 0, 1, 12, 3, true)]) ([])) (cond (Nat.blt y 246) ([]) ([]))) (cond (Nat.blt y 249) (cond (Nat.blt y 248) ([]) ([])) (cond (Nat.blt y 250) ([]) ([]))))))))
def zm_hh (y : Nat) : List (Nat × Nat × Nat × Nat) := cond (Nat.blt y 125) (cond (Nat.blt y 62) (cond (Nat.blt y 31) (cond (Nat.blt y 15) (cond (Nat.blt y 7) (cond (Nat.blt y 3) (cond (Nat.blt y 1) ([]) (cond (Nat.blt y 2) ([]) ([]))) (cond (Nat.blt y 5) (cond (Nat.blt y 4) ([]) ([])) (cond (Nat.blt y 6) ([]) ([])))) (cond (Nat.blt y 11) (cond (Nat.blt y 9) (cond (Nat.blt y 8) ([]) ([])) (cond (Nat.blt y 10) ([]) ([]))) (cond (Nat.blt y 13) (cond (Nat.blt y 12) ([]) ([])) (cond (Nat.blt y 14) ([]) ([]))))) (cond (Nat.blt y 23) (cond (Nat.blt y 19) (cond (Nat.blt y 17) (cond (Nat.blt y 16) ([]) ([])) (cond (Nat.blt y 18) ([]) ([]))) (cond (Nat.blt y 21) (cond (Nat.blt y 20) ([]) ([])) (cond (Nat.blt y 22) ([]) ([])))) (cond (Nat.blt y 27) (cond (Nat.blt y 25) (cond (Nat.blt y 24) ([]) ([])) (cond (Nat.blt y 26) ([]) ([]))) (cond (Nat.blt y 29) (cond (Nat.blt y 28) ([]) ([])) (cond (Nat.blt y 30) ([]) ([])))))) (cond (Nat.blt y 46) (cond (Nat.blt y 38) (cond (Nat.blt y 34) (cond (Nat.blt y 32) ([]) (cond (Nat.blt y 33) ([]) ([]))) (cond (Nat.blt y 36) (cond (Nat.blt y 35) ([]) ([])) (cond (Nat.blt y 37) ([]) ([])))) (cond (Nat.blt y 42) (cond (Nat.blt y 40) (cond (Nat.blt y 39) ([]) ([])) (cond (Nat.blt y 41) ([]) ([]))) (cond (Nat.blt y 44) (cond (Nat.blt y 43) ([]) ([(0, 10, 13, 13), (0, 10, 17, 15), (0, 10, 21, 17)])) (cond (Nat.blt y 45) ([]) ([]))))) (cond (Nat.blt y 54) (cond (Nat.blt y 50) (cond (Nat.blt y 48) (cond (Nat.blt y 47) ([]) ([])) (cond (Nat.blt y 49) ([]) ([]))) (cond (Nat.blt y 52) (cond (Nat.blt y 51) ([]) ([])) (cond (Nat.blt y 53) ([]) ([])))) (cond (Nat.blt y 58) (cond (Nat.blt y 56) (cond (Nat.blt y 55) ([]) ([])) (cond (Nat.blt y 57) ([]) ([]))) (cond (Nat.blt y 60) (cond (Nat.blt y 59) ([]) ([])) (cond (Nat.blt y 61) ([]) ([]))))))) (cond (Nat.blt y 93) (cond (Nat.blt y 77) (cond (Nat.blt y 69) (cond (Nat.blt y 65) (cond (Nat.blt y 63) ([]) (cond (Nat.blt y 64) ([]) ([]))) (cond (Nat.blt y 67) (cond (Nat.blt y 66) ([]) ([])) (cond (Nat.blt y 68) ([]) ([])))) (cond (Nat.blt y 73) (cond (Nat.blt y 71) (cond (Nat.blt y 70) ([(0, 10, 13, 13), (0, 10, 17, 15), (0, 10, 21, 17)]) ([])) (cond (Nat.blt y 72) ([]) ([(0, 12, 15, 13), (0, 12, 19, 15), (0, 12, 23, 17)]))) (cond (Nat.blt y 75) (cond (Nat.blt y 74) ([]) ([])) (cond (Nat.blt y 76) ([(0, 12, 15, 13), (0, 12, 19, 15), (0, 12, 23, 17)]) ([]))))) (cond (Nat.blt y 85) (cond (Nat.blt y 81) (cond (Nat.blt y 79) (cond (Nat.blt y 78) ([]) ([(0, 12, 15, 13), (0, 12, 19, 15), (0, 12, 23, 17)])) (cond (Nat.blt y 80) ([]) ([]))) (cond (Nat.blt y 83) (cond (Nat.blt y 82) ([]) ([(0, 12, 15, 13), (0, 12, 19, 15), (0, 12, 23, 17)])) (cond (Nat.blt y 84) ([]) ([])))) (cond (Nat.blt y 89) (cond (Nat.blt y 87) (cond (Nat.blt y 86) ([(0, 14, 17, 13), (0, 14, 21, 15), (0, 14, 25, 17)]) ([])) (cond (Nat.blt y 88) ([]) ([(0, 14, 17, 13), (0, 14, 21, 15), (0, 14, 25, 17)]))) (cond (Nat.blt y 91) (cond (Nat.blt y 90) ([]) ([])) (cond (Nat.blt y 92) ([(0, 16, 19, 13), (0, 16, 23, 15), (0, 16, 27, 17)]) ([])))))) (cond (Nat.blt y 109) (cond (Nat.blt y 101) (cond (Nat.blt y 97) (cond (Nat.blt y 95) (cond (Nat.blt y 94) ([]) ([])) (cond (Nat.blt y 96) ([(0, 16, 19, 13), (0, 16, 23, 15), (0, 16, 27, 17)]) ([]))) (cond (Nat.blt y 99) (cond (Nat.blt y 98) ([]) ([])) (cond (Nat.blt y 100) ([(0, 9, 12, 13)]) ([])))) (cond (Nat.blt y 105) (cond (Nat.blt y 103) (cond (Nat.blt y 102) ([]) ([])) (cond (Nat.blt y 104) ([]) ([]))) (cond (Nat.blt y 107) (cond (Nat.blt y 106) ([]) ([(0, 10, 13, 13)])) (cond (Nat.blt y 108) ([]) ([]))))) (cond (Nat.blt y 117) (cond (Nat.blt y 113) (cond (Nat.blt y 111) (cond (Nat.blt y 110) ([]) ([])) (cond (Nat.blt y 112) ([]) ([]))) (cond (Nat.blt y 115) (cond (Nat.blt y 114) ([(0, 10, 13, 13), (0, 10, 17, 15)]) ([])) (cond (Nat.blt y 116) ([]) ([])))) (cond (Nat.blt y 121) (cond (Nat.blt y 119) (cond (Nat.blt y 118) ([]) ([(0, 10, 13, 13), (0, 10, 17, 15)])) (cond (Nat.blt y 120) ([]) ([]))) (cond (Nat.blt y 123) (cond (Nat.blt y 122) ([]) ([(0, 9, 12, 13)])) (cond (Nat.blt y 124) ([]) ([])))))))) (cond (Nat.blt y 188) (cond (Nat.blt y 156) (cond (Nat.blt y 140) (cond (Nat.blt y 132) (cond (Nat.blt y 128) (cond (Nat.blt y 126) ([]) (cond (Nat.blt y 127) ([(0, 23, 26, 13), (0, 23, 30, 15)]) ([]))) (cond (Nat.blt y 130) (cond (Nat.blt y 129) ([]) ([])) (cond (Nat.blt y 131) ([]) ([])))) (cond (Nat.blt y 136) (cond (Nat.blt y 134) (cond (Nat.blt y 133) ([]) ([])) (cond (Nat.blt y 135) ([]) ([]))) (cond (Nat.blt y 138) (cond (Nat.blt y 137) ([]) ([])) (cond (Nat.blt y 139) ([]) ([]))))) (cond (Nat.blt y 148) (cond (Nat.blt y 144) (cond (Nat.blt y 142) (cond (Nat.blt y 141) ([]) ([])) (cond (Nat.blt y 143) ([]) ([]))) (cond (Nat.blt y 146) (cond (Nat.blt y 145) ([]) ([])) (cond (Nat.blt y 147) ([]) ([])))) (cond (Nat.blt y 152) (cond (Nat.blt y 150) (cond (Nat.blt y 149) ([(0, 9, 12, 13)]) ([])) (cond (Nat.blt y 151) ([]) ([(0, 10, 13, 13)]))) (cond (Nat.blt y 154) (cond (Nat.blt y 153) ([]) ([])) (cond (Nat.blt y 155) ([]) ([])))))) (cond (Nat.blt y 172) (cond (Nat.blt y 164) (cond (Nat.blt y 160) (cond (Nat.blt y 158) (cond (Nat.blt y 157) ([]) ([(0, 8, 11, 17)])) (cond (Nat.blt y 159) ([]) ([]))) (cond (Nat.blt y 162) (cond (Nat.blt y 161) ([]) ([])) (cond (Nat.blt y 163) ([]) ([])))) (cond (Nat.blt y 168) (cond (Nat.blt y 166) (cond (Nat.blt y 165) ([]) ([])) (cond (Nat.blt y 167) ([]) ([]))) (cond (Nat.blt y 170) (cond (Nat.blt y 169) ([]) ([(0, 16, 19, 13)])) (cond (Nat.blt y 171) ([]) ([]))))) (cond (Nat.blt y 180) (cond (Nat.blt y 176) (cond (Nat.blt y 174) (cond (Nat.blt y 173) ([]) ([])) (cond (Nat.blt y 175) ([]) ([]))) (cond (Nat.blt y 178) (cond (Nat.blt y 177) ([]) ([])) (cond (Nat.blt y 179) ([(0, 16, 19, 13)]) ([])))) (cond (Nat.blt y 184) (cond (Nat.blt y 182) (cond (Nat.blt y 181) ([]) ([])) (cond (Nat.blt y 183) ([]) ([]))) (cond (Nat.blt y 186) (cond (Nat.blt y 185) ([]) ([(0, 9, 12, 13)])) (cond (Nat.blt y 187) ([]) ([]))))))) (cond (Nat.blt y 219) (cond (Nat.blt y 203) (cond (Nat.blt y 195) (cond (Nat.blt y 191) (cond (Nat.blt y 189) ([]) (cond (Nat.blt y 190) ([]) ([]))) (cond (Nat.blt y 193) (cond (Nat.blt y 192) ([]) ([])) (cond (Nat.blt y 194) ([]) ([])))) (cond (Nat.blt y 199) (cond (Nat.blt y 197) (cond (Nat.blt y 196) ([]) ([])) (cond (Nat.blt y 198) ([]) ([]))) (cond (Nat.blt y 201) (cond (Nat.blt y 200) ([]) ([(0, 9, 12, 15)])) (cond (Nat.blt y 202) ([]) ([]))))) (cond (Nat.blt y 211) (cond (Nat.blt y 207) (cond (Nat.blt y 205) (cond (Nat.blt y 204) ([]) ([])) (cond (Nat.blt y 206) ([]) ([]))) (cond (Nat.blt y 209) (cond (Nat.blt y 208) ([]) ([(0, 10, 13, 15)])) (cond (Nat.blt y 210) ([]) ([])))) (cond (Nat.blt y 215) (cond (Nat.blt y 213) (cond (Nat.blt y 212) ([]) ([])) (cond (Nat.blt y 214) ([]) ([]))) (cond (Nat.blt y 217) (cond (Nat.blt y 216) ([]) ([])) (cond (Nat.blt y 218) ([]) ([])))))) (cond (Nat.blt y 235) (cond (Nat.blt y 227) (cond (Nat.blt y 223) (cond (Nat.blt y 221) (cond (Nat.blt y 220) ([]) ([])) (cond (Nat.blt y 222) ([]) ([]))) (cond (Nat.blt y 225) (cond (Nat.blt y 224) ([]) ([])) (cond (Nat.blt y 226) ([]) ([])))) (cond (Nat.blt y 231) (cond (Nat.blt y 229) (cond (Nat.blt y 228) ([(0, 10, 13, 15)]) ([])) (cond (Nat.blt y 230) ([]) ([]))) (cond (Nat.blt y 233) (cond (Nat.blt y 232) ([]) ([])) (cond (Nat.blt y 234) ([]) ([]))))) (cond (Nat.blt y 243) (cond (Nat.blt y 239) (cond (Nat.blt y 237) (cond (Nat.blt y 236) ([]) ([])) (cond (Nat.blt y 238) ([]) ([]))) (cond (Nat.blt y 241) (cond (Nat.blt y 240) ([]) ([(0, 10, 13, 15)])) (cond (Nat.blt y 242) ([]) ([])))) (cond (Nat.blt y 247) (cond (Nat.blt y 245) (cond (Nat.blt y 244) ([(0, 9, 12, 13)]) ([])) (cond (Nat.blt y 246) ([]) ([]))) (cond (Nat.blt y 249) (cond (Nat.blt y 248) ([]) ([])) (cond (Nat.blt y 250) ([]) ([]))))))))
/-- places of the words: code, initialized, static or instanceMethod, selects -/
def zm_pl (y : Nat) : Nat × Nat × Nat × Nat := cond (Nat.blt y 125) (cond (Nat.blt y 62) (cond (Nat.blt y 31) (cond (Nat.blt y 15) (cond (Nat.blt y 7) (cond (Nat.blt y 3) (cond (Nat.blt y 1) ((115, 82, 114, 0)) (cond (Nat.blt y 2) ((111, 81, 110, 0)) ((156, 84, 155, 0)))) (cond (Nat.blt y 5) (cond (Nat.blt y 4) ((149, 83, 148, 0)) ((204, 85, 203, 0))) (cond (Nat.blt y 6) ((238, 86, 237, 0)) ((263, 87, 262, 0))))) (cond (Nat.blt y 11) (cond (Nat.blt y 9) (cond (Nat.blt y 8) ((103, 80, 102, 0)) ((1043, 88, 1042, 0))) (cond (Nat.blt y 10) ((442, 80, 441, 5)) ((514, 84, 512, 513)))) (cond (Nat.blt y 13) (cond (Nat.blt y 12) ((521, 80, 520, 0)) ((524, 80, 523, 0))) (cond (Nat.blt y 14) ((528, 84, 526, 527)) ((518, 84, 516, 517)))))) (cond (Nat.blt y 23) (cond (Nat.blt y 19) (cond (Nat.blt y 17) (cond (Nat.blt y 16) ((364, 81, 362, 363)) ((571, 81, 570, 0))) (cond (Nat.blt y 18) ((568, 81, 567, 7)) ((415, 81, 413, 414)))) (cond (Nat.blt y 21) (cond (Nat.blt y 20) ((580, 81, 579, 9)) ((575, 81, 574, 8))) (cond (Nat.blt y 22) ((584, 81, 583, 10)) ((592, 81, 591, 12))))) (cond (Nat.blt y 27) (cond (Nat.blt y 25) (cond (Nat.blt y 24) ((588, 81, 587, 11)) ((600, 81, 599, 14))) (cond (Nat.blt y 26) ((604, 81, 603, 15)) ((596, 81, 595, 13)))) (cond (Nat.blt y 29) (cond (Nat.blt y 28) ((384, 81, 382, 383)) ((612, 81, 610, 611))) (cond (Nat.blt y 30) ((392, 81, 390, 391)) ((424, 81, 422, 423))))))) (cond (Nat.blt y 46) (cond (Nat.blt y 38) (cond (Nat.blt y 34) (cond (Nat.blt y 32) ((608, 81, 607, 16)) (cond (Nat.blt y 33) ((617, 81, 616, 17)) ((621, 81, 620, 18)))) (cond (Nat.blt y 36) (cond (Nat.blt y 35) ((353, 95, 352, 0)) ((350, 81, 348, 349))) (cond (Nat.blt y 37) ((625, 81, 624, 19)) ((629, 81, 628, 20))))) (cond (Nat.blt y 42) (cond (Nat.blt y 40) (cond (Nat.blt y 39) ((564, 81, 562, 563)) ((638, 84, 636, 637))) (cond (Nat.blt y 41) ((634, 83, 632, 633)) ((438, 80, 437, 4)))) (cond (Nat.blt y 44) (cond (Nat.blt y 43) ((434, 80, 432, 433)) ((427, 79, 426, 0))) (cond (Nat.blt y 45) ((1134, 88, 1133, 0)) ((1131, 88, 1130, 0)))))) (cond (Nat.blt y 54) (cond (Nat.blt y 50) (cond (Nat.blt y 48) (cond (Nat.blt y 47) ((1145, 88, 1144, 0)) ((1152, 88, 1151, 0))) (cond (Nat.blt y 49) ((1155, 88, 1154, 0)) ((1149, 88, 1148, 47)))) (cond (Nat.blt y 52) (cond (Nat.blt y 51) ((1159, 88, 1158, 48)) ((1163, 88, 1162, 49))) (cond (Nat.blt y 53) ((1170, 88, 1169, 0)) ((1167, 88, 1166, 50))))) (cond (Nat.blt y 58) (cond (Nat.blt y 56) (cond (Nat.blt y 55) ((1177, 88, 1176, 0)) ((1183, 88, 1182, 0))) (cond (Nat.blt y 57) ((1180, 88, 1179, 0)) ((1174, 88, 1173, 51)))) (cond (Nat.blt y 60) (cond (Nat.blt y 59) ((1187, 88, 1186, 52)) ((1191, 88, 1190, 53))) (cond (Nat.blt y 61) ((1195, 88, 1194, 54)) ((1198, 88, 1197, 0)))))))) (cond (Nat.blt y 93) (cond (Nat.blt y 77) (cond (Nat.blt y 69) (cond (Nat.blt y 65) (cond (Nat.blt y 63) ((1202, 88, 1201, 55)) (cond (Nat.blt y 64) ((1206, 88, 1205, 56)) ((1142, 88, 1141, 46)))) (cond (Nat.blt y 67) (cond (Nat.blt y 66) ((1138, 88, 1137, 45)) ((1128, 88, 1126, 1127))) (cond (Nat.blt y 68) ((1124, 88, 1122, 1123)) ((646, 80, 644, 645))))) (cond (Nat.blt y 73) (cond (Nat.blt y 71) (cond (Nat.blt y 70) ((642, 79, 641, 0)) ((1210, 88, 1208, 1209))) (cond (Nat.blt y 72) ((653, 80, 651, 652)) ((649, 79, 648, 0)))) (cond (Nat.blt y 75) (cond (Nat.blt y 74) ((1214, 88, 1212, 1213)) ((660, 80, 658, 659))) (cond (Nat.blt y 76) ((656, 79, 655, 0)) ((1218, 88, 1216, 1217)))))) (cond (Nat.blt y 85) (cond (Nat.blt y 81) (cond (Nat.blt y 79) (cond (Nat.blt y 78) ((667, 80, 665, 666)) ((663, 79, 662, 0))) (cond (Nat.blt y 80) ((1225, 88, 1224, 0)) ((1222, 88, 1220, 1221)))) (cond (Nat.blt y 83) (cond (Nat.blt y 82) ((674, 80, 672, 673)) ((670, 79, 669, 0))) (cond (Nat.blt y 84) ((1229, 88, 1227, 1228)) ((681, 80, 679, 680))))) (cond (Nat.blt y 89) (cond (Nat.blt y 87) (cond (Nat.blt y 86) ((677, 79, 676, 0)) ((1233, 88, 1231, 1232))) (cond (Nat.blt y 88) ((688, 80, 686, 687)) ((684, 79, 683, 0)))) (cond (Nat.blt y 91) (cond (Nat.blt y 90) ((1237, 88, 1235, 1236)) ((695, 80, 693, 694))) (cond (Nat.blt y 92) ((691, 79, 690, 0)) ((1244, 88, 1243, 0))))))) (cond (Nat.blt y 109) (cond (Nat.blt y 101) (cond (Nat.blt y 97) (cond (Nat.blt y 95) (cond (Nat.blt y 94) ((1241, 88, 1239, 1240)) ((702, 80, 700, 701))) (cond (Nat.blt y 96) ((698, 79, 697, 0)) ((1248, 88, 1246, 1247)))) (cond (Nat.blt y 99) (cond (Nat.blt y 98) ((333, 81, 331, 332)) ((709, 80, 707, 708))) (cond (Nat.blt y 100) ((705, 79, 704, 0)) ((1256, 88, 1255, 57))))) (cond (Nat.blt y 105) (cond (Nat.blt y 103) (cond (Nat.blt y 102) ((1263, 88, 1262, 0)) ((1260, 88, 1259, 58))) (cond (Nat.blt y 104) ((1252, 88, 1250, 1251)) ((720, 81, 718, 719)))) (cond (Nat.blt y 107) (cond (Nat.blt y 106) ((716, 80, 714, 715)) ((712, 79, 711, 0))) (cond (Nat.blt y 108) ((1270, 88, 1269, 0)) ((1274, 88, 1273, 59)))))) (cond (Nat.blt y 117) (cond (Nat.blt y 113) (cond (Nat.blt y 111) (cond (Nat.blt y 110) ((1267, 88, 1265, 1266)) ((731, 80, 730, 0))) (cond (Nat.blt y 112) ((368, 81, 366, 367)) ((728, 80, 726, 727)))) (cond (Nat.blt y 115) (cond (Nat.blt y 114) ((724, 79, 723, 0)) ((1282, 88, 1281, 60))) (cond (Nat.blt y 116) ((1285, 88, 1284, 0)) ((1278, 88, 1276, 1277))))) (cond (Nat.blt y 121) (cond (Nat.blt y 119) (cond (Nat.blt y 118) ((740, 80, 738, 739)) ((736, 79, 735, 0))) (cond (Nat.blt y 120) ((1292, 88, 1291, 0)) ((1289, 88, 1287, 1288)))) (cond (Nat.blt y 123) (cond (Nat.blt y 122) ((747, 80, 745, 746)) ((743, 79, 742, 0))) (cond (Nat.blt y 124) ((1296, 88, 1294, 1295)) ((758, 80, 757, 0))))))))) (cond (Nat.blt y 188) (cond (Nat.blt y 156) (cond (Nat.blt y 140) (cond (Nat.blt y 132) (cond (Nat.blt y 128) (cond (Nat.blt y 126) ((755, 80, 753, 754)) (cond (Nat.blt y 127) ((751, 79, 750, 0)) ((1300, 88, 1298, 1299)))) (cond (Nat.blt y 130) (cond (Nat.blt y 129) ((326, 81, 324, 325)) ((322, 80, 320, 321))) (cond (Nat.blt y 131) ((1304, 88, 1302, 1303)) ((346, 81, 344, 345))))) (cond (Nat.blt y 136) (cond (Nat.blt y 134) (cond (Nat.blt y 133) ((360, 81, 359, 0)) ((380, 81, 378, 379))) (cond (Nat.blt y 135) ((376, 81, 375, 2)) ((372, 81, 371, 1)))) (cond (Nat.blt y 138) (cond (Nat.blt y 137) ((388, 81, 387, 3)) ((341, 81, 339, 340))) (cond (Nat.blt y 139) ((337, 80, 335, 336)) ((1317, 88, 1316, 0)))))) (cond (Nat.blt y 148) (cond (Nat.blt y 144) (cond (Nat.blt y 142) (cond (Nat.blt y 141) ((1314, 88, 1313, 0)) ((1311, 88, 1310, 0))) (cond (Nat.blt y 143) ((1308, 88, 1306, 1307)) ((396, 80, 394, 395)))) (cond (Nat.blt y 146) (cond (Nat.blt y 145) ((1321, 88, 1319, 1320)) ((773, 80, 772, 21))) (cond (Nat.blt y 147) ((778, 83, 776, 777)) ((769, 80, 767, 768))))) (cond (Nat.blt y 152) (cond (Nat.blt y 150) (cond (Nat.blt y 149) ((765, 79, 764, 0)) ((1325, 88, 1323, 1324))) (cond (Nat.blt y 151) ((791, 80, 789, 790)) ((787, 79, 786, 0)))) (cond (Nat.blt y 154) (cond (Nat.blt y 153) ((1329, 88, 1327, 1328)) ((400, 80, 398, 399))) (cond (Nat.blt y 155) ((1333, 88, 1331, 1332)) ((804, 81, 802, 803))))))) (cond (Nat.blt y 172) (cond (Nat.blt y 164) (cond (Nat.blt y 160) (cond (Nat.blt y 158) (cond (Nat.blt y 157) ((799, 80, 797, 798)) ((795, 79, 794, 0))) (cond (Nat.blt y 159) ((1345, 88, 1344, 62)) ((1341, 88, 1340, 61)))) (cond (Nat.blt y 162) (cond (Nat.blt y 161) ((1337, 88, 1335, 1336)) ((817, 80, 816, 22))) (cond (Nat.blt y 163) ((838, 84, 837, 24)) ((842, 84, 841, 25))))) (cond (Nat.blt y 168) (cond (Nat.blt y 166) (cond (Nat.blt y 165) ((834, 84, 832, 833)) ((846, 84, 844, 845))) (cond (Nat.blt y 167) ((828, 85, 827, 23)) ((822, 85, 820, 821)))) (cond (Nat.blt y 170) (cond (Nat.blt y 169) ((813, 80, 811, 812)) ((809, 79, 808, 0))) (cond (Nat.blt y 171) ((1359, 88, 1358, 0)) ((1365, 88, 1364, 0)))))) (cond (Nat.blt y 180) (cond (Nat.blt y 176) (cond (Nat.blt y 174) (cond (Nat.blt y 173) ((1362, 88, 1361, 0)) ((1356, 88, 1355, 0))) (cond (Nat.blt y 175) ((1353, 88, 1352, 63)) ((1349, 88, 1347, 1348)))) (cond (Nat.blt y 178) (cond (Nat.blt y 177) ((859, 85, 857, 858)) ((855, 80, 853, 854))) (cond (Nat.blt y 179) ((851, 79, 850, 0)) ((1373, 88, 1372, 64))))) (cond (Nat.blt y 184) (cond (Nat.blt y 182) (cond (Nat.blt y 181) ((1369, 88, 1367, 1368)) ((874, 83, 872, 873))) (cond (Nat.blt y 183) ((878, 85, 877, 26)) ((870, 85, 868, 869)))) (cond (Nat.blt y 186) (cond (Nat.blt y 185) ((866, 80, 864, 865)) ((862, 79, 861, 0))) (cond (Nat.blt y 187) ((1384, 88, 1383, 0)) ((1381, 88, 1380, 65)))))))) (cond (Nat.blt y 219) (cond (Nat.blt y 203) (cond (Nat.blt y 195) (cond (Nat.blt y 191) (cond (Nat.blt y 189) ((1377, 88, 1375, 1376)) (cond (Nat.blt y 190) ((900, 86, 898, 899)) ((895, 86, 894, 27)))) (cond (Nat.blt y 193) (cond (Nat.blt y 192) ((912, 98, 911, 0)) ((909, 86, 908, 29))) (cond (Nat.blt y 194) ((904, 86, 903, 28)) ((924, 86, 922, 923))))) (cond (Nat.blt y 199) (cond (Nat.blt y 197) (cond (Nat.blt y 196) ((919, 86, 918, 30)) ((932, 86, 931, 32))) (cond (Nat.blt y 198) ((928, 86, 927, 31)) ((890, 86, 888, 889)))) (cond (Nat.blt y 201) (cond (Nat.blt y 200) ((886, 80, 884, 885)) ((882, 79, 881, 0))) (cond (Nat.blt y 202) ((1400, 88, 1399, 68)) ((1403, 88, 1402, 0)))))) (cond (Nat.blt y 211) (cond (Nat.blt y 207) (cond (Nat.blt y 205) (cond (Nat.blt y 204) ((1396, 88, 1395, 67)) ((1407, 88, 1406, 69))) (cond (Nat.blt y 206) ((1392, 88, 1391, 66)) ((1388, 88, 1386, 1387)))) (cond (Nat.blt y 209) (cond (Nat.blt y 208) ((939, 80, 937, 938)) ((935, 79, 934, 0))) (cond (Nat.blt y 210) ((1411, 88, 1409, 1410)) ((951, 80, 950, 33))))) (cond (Nat.blt y 215) (cond (Nat.blt y 213) (cond (Nat.blt y 212) ((968, 87, 967, 35)) ((977, 87, 976, 37))) (cond (Nat.blt y 214) ((973, 87, 972, 36)) ((983, 87, 982, 38)))) (cond (Nat.blt y 217) (cond (Nat.blt y 216) ((963, 87, 962, 34)) ((992, 87, 991, 40))) (cond (Nat.blt y 218) ((996, 87, 995, 41)) ((1000, 87, 999, 42))))))) (cond (Nat.blt y 235) (cond (Nat.blt y 227) (cond (Nat.blt y 223) (cond (Nat.blt y 221) (cond (Nat.blt y 220) ((1008, 84, 1006, 1007)) ((1004, 87, 1003, 43))) (cond (Nat.blt y 222) ((987, 87, 986, 39)) ((1016, 86, 1014, 1015)))) (cond (Nat.blt y 225) (cond (Nat.blt y 224) ((1020, 86, 1018, 1019)) ((1012, 87, 1011, 44))) (cond (Nat.blt y 226) ((956, 87, 954, 955)) ((947, 80, 945, 946))))) (cond (Nat.blt y 231) (cond (Nat.blt y 229) (cond (Nat.blt y 228) ((943, 79, 942, 0)) ((1419, 88, 1418, 70))) (cond (Nat.blt y 230) ((1435, 88, 1434, 74)) ((1439, 88, 1438, 75)))) (cond (Nat.blt y 233) (cond (Nat.blt y 232) ((1431, 88, 1430, 73)) ((1443, 88, 1442, 76))) (cond (Nat.blt y 234) ((1450, 88, 1449, 0)) ((1447, 88, 1446, 77)))))) (cond (Nat.blt y 243) (cond (Nat.blt y 239) (cond (Nat.blt y 237) (cond (Nat.blt y 236) ((1427, 88, 1426, 72)) ((1454, 88, 1453, 78))) (cond (Nat.blt y 238) ((1423, 88, 1422, 71)) ((1415, 88, 1413, 1414)))) (cond (Nat.blt y 241) (cond (Nat.blt y 240) ((1030, 80, 1028, 1029)) ((1026, 79, 1025, 0))) (cond (Nat.blt y 242) ((1458, 88, 1456, 1457)) ((1037, 80, 1035, 1036))))) (cond (Nat.blt y 247) (cond (Nat.blt y 245) (cond (Nat.blt y 244) ((1033, 79, 1032, 0)) ((1462, 88, 1460, 1461))) (cond (Nat.blt y 246) ((418, 80, 417, 0)) ((408, 80, 407, 0)))) (cond (Nat.blt y 249) (cond (Nat.blt y 248) ((404, 80, 402, 403)) ((1471, 88, 1470, 0))) (cond (Nat.blt y 250) ((1466, 88, 1464, 1465)) ((0, 0, 0, 0)))))))))
def zm_cw (y : Nat) : Cond := cond (Nat.beq (zm_kd y) 3) (.codeWith (zm_nm y) (zm_by y) (zm_mx y) (zm_rt y) (zm_hh y)) (.code (zm_nm y) (zm_by y) (zm_mx y) (zm_rt y))
def zm_kw (y : Nat) : Cond := cond (Nat.beq (zm_kd y) 0 || Nat.beq (zm_kd y) 3) (.static (zm_nm y)) (.instanceMethod (zm_nm y))
def zm_at (w : Cond) (k : Nat) : Bool := decide (lw_tbl[k]? = some w)
def zm_okm (y : Nat) : Bool := zm_at (zm_cw y) (zm_pl y).1 && zm_at (.initialized (zm_nm y).cls) (zm_pl y).2.1 && zm_at (zm_kw y) (zm_pl y).2.2.1 && (!(Nat.beq (zm_kd y) 1) || zm_at (.selects (zm_nm y).cls (zm_nm y) (zm_nm y)) (zm_pl y).2.2.2)
def zm_nM : Nat := 250
/-- field links: class, index, class of the field, its number -/
def zm_fl : List (Nat × Nat × Nat × Nat) := [(0, 9, 0, 0), (0, 15, 0, 1), (0, 18, 0, 2), (0, 21, 0, 3), (0, 24, 0, 4), (1, 11, 1, 0), (1, 18, 1, 1), (2, 12, 2, 0), (2, 18, 2, 1), (2, 21, 2, 2), (2, 27, 2, 3), (2, 31, 2, 4), (2, 37, 2, 5), (2, 41, 2, 6), (3, 9, 3, 0), (3, 15, 3, 1), (3, 18, 3, 2), (3, 21, 3, 3), (3, 43, 4, 0), (3, 68, 4, 4), (3, 71, 4, 3), (4, 9, 4, 0), (4, 15, 4, 1), (4, 18, 4, 2), (4, 21, 4, 3), (4, 24, 4, 4), (4, 27, 4, 5), (4, 43, 0, 0), (4, 49, 0, 1), (4, 59, 0, 3), (4, 69, 0, 2), (4, 78, 0, 4), (5, 12, 5, 0), (5, 21, 5, 1), (5, 28, 5, 2), (5, 32, 5, 3), (5, 44, 1, 1), (5, 69, 0, 0), (5, 72, 0, 1), (5, 79, 0, 3), (5, 88, 0, 2), (5, 99, 4, 3), (5, 102, 0, 4), (5, 108, 3, 0), (5, 111, 4, 0), (5, 117, 3, 2), (5, 139, 3, 1), (5, 142, 3, 3), (6, 10, 6, 0), (6, 16, 6, 1), (6, 19, 6, 2), (6, 22, 6, 3), (6, 28, 6, 4), (6, 35, 6, 5), (6, 42, 6, 6), (6, 49, 6, 7), (6, 56, 6, 8), (6, 60, 6, 9), (6, 64, 6, 10), (6, 126, 1, 1), (6, 136, 0, 0), (6, 139, 0, 1), (6, 142, 0, 2), (6, 145, 0, 3), (6, 148, 0, 4), (6, 180, 3, 0), (6, 183, 4, 0), (6, 186, 3, 2), (6, 192, 4, 3), (6, 202, 5, 3), (6, 268, 4, 5), (7, 7, 7, 0), (7, 13, 7, 1), (7, 16, 7, 2), (7, 19, 7, 3), (7, 22, 7, 4), (7, 25, 7, 5), (7, 28, 7, 6), (7, 31, 7, 7), (7, 34, 7, 11), (7, 37, 7, 12), (7, 40, 7, 13), (7, 43, 7, 14), (7, 46, 7, 15), (7, 49, 7, 16), (7, 52, 7, 17), (7, 55, 7, 18), (7, 58, 7, 19), (7, 61, 7, 20), (7, 65, 7, 9), (7, 83, 7, 10), (7, 191, 7, 8), (7, 249, 7, 21), (7, 252, 7, 22), (7, 255, 7, 23), (7, 258, 7, 24)]
def zm_flp : List Nat := [158, 162, 166, 170, 174, 189, 190, 212, 213, 214, 215, 216, 217, 218, 240, 243, 245, 248, 117, 127, 124, 116, 120, 121, 122, 126, 128, 159, 163, 171, 167, 175, 271, 272, 273, 274, 191, 160, 164, 172, 168, 123, 176, 241, 118, 246, 244, 249, 285, 286, 287, 288, 289, 290, 291, 292, 293, 294, 295, 192, 161, 165, 169, 173, 177, 242, 119, 247, 125, 275, 129, 1045, 1046, 1047, 1048, 1049, 1050, 1051, 1052, 1056, 1057, 1058, 1059, 1060, 1061, 1062, 1063, 1064, 1065, 1054, 1055, 1053, 1066, 1067, 1068, 1069]
def zm_flw (q : Nat × Nat × Nat × Nat) : Cond := .fieldLink (zm_cn q.1) q.2.1 (zm_T q.2.2.1 q.2.2.2).1 (zm_T q.2.2.1 q.2.2.2).2.1 (zm_T q.2.2.1 q.2.2.2).2.2.1
/-- method links: class, index, method -/
def zm_ml : List (Nat × Nat × Nat) := [(0, 27, 10), (0, 38, 13), (0, 42, 162), (0, 46, 163), (1, 31, 39), (2, 11, 1), (2, 36, 3), (2, 44, 128), (2, 48, 155), (2, 52, 166), (2, 56, 146), (2, 60, 39), (2, 63, 164), (2, 66, 165), (2, 69, 38), (2, 73, 137), (2, 77, 181), (2, 80, 182), (2, 84, 176), (3, 24, 0), (3, 30, 190), (3, 34, 193), (3, 37, 195), (3, 40, 197), (3, 48, 15), (3, 52, 189), (3, 56, 18), (3, 59, 192), (3, 63, 191), (3, 74, 27), (3, 78, 194), (3, 81, 196), (4, 31, 0), (4, 52, 17), (4, 56, 20), (4, 62, 21), (4, 66, 23), (4, 72, 26), (4, 75, 31), (4, 81, 32), (4, 85, 33), (4, 88, 28), (4, 91, 36), (4, 94, 37), (4, 97, 146), (4, 103, 38), (4, 107, 15), (4, 110, 16), (4, 114, 18), (4, 117, 19), (4, 120, 22), (4, 123, 24), (4, 127, 25), (4, 130, 29), (4, 134, 30), (4, 137, 35), (4, 143, 27), (4, 146, 34), (4, 152, 97), (4, 155, 131), (4, 158, 132), (4, 162, 135), (4, 165, 136), (4, 168, 111), (4, 171, 134), (4, 175, 133), (5, 11, 1), (5, 20, 5), (5, 36, 128), (5, 40, 198), (5, 50, 146), (5, 54, 215), (5, 58, 221), (5, 62, 224), (5, 66, 39), (5, 75, 211), (5, 82, 213), (5, 85, 214), (5, 91, 212), (5, 95, 133), (5, 105, 15), (5, 114, 28), (5, 120, 38), (5, 124, 216), (5, 128, 217), (5, 132, 218), (5, 135, 220), (5, 145, 219), (5, 148, 222), (5, 152, 223), (5, 155, 189), (5, 159, 194), (6, 9, 1), (6, 27, 3), (6, 41, 4), (6, 48, 5), (6, 55, 6), (6, 68, 41), (6, 72, 9), (6, 76, 97), (6, 80, 104), (6, 91, 110), (6, 95, 15), (6, 98, 111), (6, 101, 18), (6, 104, 35), (6, 107, 124), (6, 110, 28), (6, 114, 29), (6, 118, 128), (6, 122, 137), (6, 129, 145), (6, 132, 146), (6, 158, 155), (6, 162, 161), (6, 165, 167), (6, 169, 176), (6, 172, 183), (6, 176, 198), (6, 189, 133), (6, 195, 210), (6, 198, 225), (6, 213, 246), (6, 219, 10), (6, 223, 14), (6, 234, 38), (6, 238, 40), (6, 244, 11), (6, 250, 12), (6, 261, 245), (6, 265, 27), (6, 272, 34), (6, 278, 30), (7, 68, 46), (7, 72, 54), (7, 76, 52), (7, 80, 55), (7, 86, 49), (7, 89, 50), (7, 92, 51), (7, 95, 53), (7, 98, 57), (7, 101, 58), (7, 104, 59), (7, 108, 60), (7, 111, 61), (7, 114, 62), (7, 117, 63), (7, 120, 47), (7, 123, 48), (7, 126, 56), (7, 130, 115), (7, 133, 139), (7, 137, 140), (7, 141, 171), (7, 145, 170), (7, 149, 172), (7, 153, 64), (7, 157, 101), (7, 161, 158), (7, 165, 159), (7, 169, 173), (7, 173, 141), (7, 176, 186), (7, 179, 174), (7, 183, 179), (7, 187, 44), (7, 194, 45), (7, 197, 65), (7, 201, 79), (7, 204, 92), (7, 208, 100), (7, 211, 102), (7, 215, 107), (7, 218, 108), (7, 222, 114), (7, 226, 119), (7, 229, 187), (7, 232, 201), (7, 235, 202), (7, 238, 203), (7, 242, 204), (7, 245, 205), (7, 261, 229), (7, 264, 230), (7, 268, 233), (7, 271, 231), (7, 274, 232), (7, 278, 234), (7, 281, 235), (7, 285, 236), (7, 289, 228), (7, 292, 237), (7, 299, 248), (8, 7, 42), (8, 19, 68), (8, 22, 71), (8, 26, 74), (8, 29, 77), (8, 32, 81), (8, 35, 84), (8, 39, 87), (8, 42, 90), (8, 46, 94), (8, 49, 98), (8, 53, 105), (8, 56, 112), (8, 59, 117), (8, 62, 121), (8, 65, 125), (8, 69, 147), (8, 72, 150), (8, 75, 156), (8, 79, 168), (8, 83, 177), (8, 86, 184), (8, 89, 199), (8, 92, 207), (8, 95, 226), (8, 99, 239), (8, 102, 242), (8, 105, 7), (8, 108, 8), (8, 109, 43), (8, 114, 66), (8, 115, 67), (8, 118, 69), (8, 120, 70), (8, 121, 72), (8, 124, 73), (8, 125, 75), (8, 127, 76), (8, 128, 78), (8, 130, 80), (8, 131, 82), (8, 133, 83), (8, 134, 85), (8, 137, 86), (8, 138, 88), (8, 140, 89), (8, 141, 91), (8, 144, 93), (8, 145, 95), (8, 147, 96), (8, 148, 99), (8, 151, 103), (8, 152, 106), (8, 154, 109), (8, 155, 113), (8, 157, 116), (8, 158, 118), (8, 160, 120), (8, 161, 122), (8, 163, 123), (8, 164, 126), (8, 166, 127), (8, 167, 129), (8, 170, 130), (8, 171, 138), (8, 175, 142), (8, 176, 143), (8, 179, 144), (8, 180, 148), (8, 182, 149), (8, 183, 151), (8, 185, 152), (8, 186, 153), (8, 189, 154), (8, 190, 157), (8, 193, 160), (8, 194, 169), (8, 196, 175), (8, 197, 178), (8, 199, 180), (8, 200, 185), (8, 202, 188), (8, 203, 200), (8, 205, 206), (8, 206, 208), (8, 208, 209), (8, 209, 227), (8, 212, 238), (8, 213, 240), (8, 215, 241), (8, 216, 243), (8, 218, 244), (8, 219, 247), (8, 223, 249)]
def zm_mlp : List Nat := [639, 525, 835, 839, 635, 207, 211, 823, 824, 825, 829, 830, 831, 843, 847, 848, 871, 875, 879, 891, 892, 901, 916, 925, 896, 897, 905, 906, 910, 920, 921, 929, 113, 565, 572, 581, 585, 593, 605, 614, 618, 609, 622, 626, 805, 806, 361, 569, 576, 577, 589, 597, 601, 389, 613, 347, 381, 351, 342, 343, 357, 369, 385, 365, 373, 377, 266, 268, 957, 958, 959, 960, 984, 1009, 964, 965, 970, 980, 974, 979, 969, 978, 988, 989, 993, 997, 1001, 1005, 1013, 1017, 1021, 1022, 109, 147, 202, 236, 261, 435, 439, 330, 717, 729, 409, 411, 412, 748, 756, 761, 762, 323, 338, 770, 775, 801, 814, 819, 856, 867, 887, 940, 948, 953, 406, 511, 515, 561, 631, 732, 759, 416, 419, 420, 421, 1143, 1175, 1168, 1181, 1146, 1156, 1160, 1164, 1171, 1184, 1188, 1192, 1196, 1199, 1203, 1150, 1153, 1178, 1283, 1315, 1312, 1363, 1357, 1360, 1139, 1261, 1342, 1338, 1354, 1309, 1382, 1350, 1370, 1132, 1129, 1135, 1223, 1242, 1253, 1257, 1268, 1271, 1279, 1290, 1378, 1397, 1401, 1393, 1404, 1389, 1432, 1436, 1448, 1428, 1440, 1444, 1424, 1451, 1416, 1420, 1469, 431, 643, 650, 657, 664, 671, 678, 685, 692, 699, 706, 713, 725, 737, 744, 752, 766, 788, 796, 810, 852, 863, 883, 936, 944, 1027, 1034, 101, 1041, 425, 1125, 1121, 640, 1207, 647, 1211, 654, 1215, 661, 1219, 668, 1226, 675, 1230, 682, 1234, 689, 1238, 696, 1245, 703, 1249, 710, 1264, 722, 1275, 734, 1286, 741, 1293, 749, 1297, 319, 1301, 334, 1305, 393, 1318, 763, 1322, 785, 1326, 397, 1330, 793, 1334, 807, 1346, 849, 1366, 860, 1374, 880, 1385, 933, 1408, 941, 1412, 1024, 1455, 1031, 1459, 401, 1463]
def zm_mlw (q : Nat × Nat × Nat) : Cond := .methodLink (zm_cn q.1) q.2.1 (zm_nm q.2.2)
/-- links to nest mates -/
def zm_nl : List (Nat × Nat × Nat) := [(0, 31, 11), (0, 35, 12), (1, 17, 2), (2, 26, 2), (5, 27, 2), (6, 34, 2)]
def zm_nlp : List Nat := [519, 522, 154, 209, 270, 199]
def zm_nlw (q : Nat × Nat × Nat) : Cond := .methodLinkNest (zm_cn q.1) q.2.1 (zm_nm q.2.2) "RefactoringReplay"
/-- classes that are made: class, index, class -/
def zm_ck : List (Nat × Nat × Nat) := [(1, 9, 0), (2, 9, 4), (2, 24, 0), (2, 34, 1), (5, 9, 4), (5, 18, 3), (5, 25, 0), (6, 7, 4), (6, 25, 1), (6, 32, 0), (6, 39, 2), (6, 46, 3), (6, 53, 5), (8, 8, 6), (8, 106, 7)]
def zm_ckp : List Nat := [151, 206, 208, 210, 265, 267, 269, 107, 145, 198, 200, 234, 259, 99, 1039]
def zm_ckw (q : Nat × Nat × Nat) : Cond := .classLink (zm_cn q.1) q.2.1 (zm_cn q.2.2)
def zm_ob : List (Nat × Nat) := [(0, 3), (1, 3), (2, 3), (3, 3), (4, 3), (5, 3), (6, 1), (7, 1)]
def zm_obp : List Nat := [157, 150, 205, 239, 112, 264, 104, 1044]
def zm_obw (q : Nat × Nat) : Cond := .methodLink (zm_cn q.1) q.2 Lib.objectInit
def zm_ac : List (Nat × Nat) := [(4, 37), (6, 203)]
def zm_acp : List Nat := [327, 1023]
def zm_acw (q : Nat × Nat) : Cond := .methodLink (zm_cn q.1) q.2 arraycopyName
/-- Math.max (0), Math.min (1) -/
def zm_mmn (k : Nat) : MethodName := cond (Nat.beq k 0) Lib.Math.max.name Lib.Math.min.name
theorem zm_max_c : Cond.code Lib.Math.max.name Lib.Math.max.code 2 (some .int) ∈ lw_tbl := List.mem_of_getElem? (i := 784) (by decide +kernel)
theorem zm_max_s : Cond.static Lib.Math.max.name ∈ lw_tbl := List.mem_of_getElem? (i := 783) (by decide +kernel)
theorem zm_min_c : Cond.code Lib.Math.min.name Lib.Math.min.code 2 (some .int) ∈ lw_tbl := List.mem_of_getElem? (i := 781) (by decide +kernel)
theorem zm_min_s : Cond.static Lib.Math.min.name ∈ lw_tbl := List.mem_of_getElem? (i := 780) (by decide +kernel)
theorem zm_math_i : Cond.initialized "java/lang/Math" ∈ lw_tbl := List.mem_of_getElem? (i := 97) (by decide +kernel)
theorem zm_sys_i : Cond.initialized "java/lang/System" ∈ lw_tbl := List.mem_of_getElem? (i := 96) (by decide +kernel)
theorem zm_acp_n : Cond.native arraycopyName ∈ lw_tbl := List.mem_of_getElem? (i := 329) (by decide +kernel)
theorem zm_acp_s : Cond.static arraycopyName ∈ lw_tbl := List.mem_of_getElem? (i := 328) (by decide +kernel)
theorem zm_obj_i : Cond.instanceMethod Lib.objectInit ∈ lw_tbl := List.mem_of_getElem? (i := 105) (by decide +kernel)
theorem zm_obj_c : Cond.code Lib.objectInit ⟨#[0xb1]⟩ 1 none ∈ lw_tbl := List.mem_of_getElem? (i := 106) (by decide +kernel)
theorem zm_ar_int : Cond.arrayClass .int ∈ lw_tbl := List.mem_of_getElem? (i := 143) (by decide +kernel)
theorem zm_ar_long : Cond.arrayClass .long ∈ lw_tbl := List.mem_of_getElem? (i := 144) (by decide +kernel)
theorem zm_ar_q : Cond.arrayOver (.object RX0) ∈ lw_tbl := List.mem_of_getElem? (i := 152) (by decide +kernel)
def zm_mm : List (Nat × Nat × Nat) := [(1, 22, 1), (1, 28, 0)]
def zm_mmp : List Nat := [779, 782]
def zm_mmw (q : Nat × Nat × Nat) : Cond := .methodLink (zm_cn q.1) q.2.1 (zm_mmn q.2.2)
def zm_lc : List (Nat × Nat × Nat) := [(4, 141, 18446744073709551615), (6, 211, 43), (6, 217, 31), (7, 295, 31), (7, 297, 43), (10, 314, 6148914691236517205), (10, 316, 3689348814741910323), (10, 318, 1085102592571150095)]
def zm_lcp : List Nat := [630, 405, 410, 1467, 1468, 354, 355, 356]
def zm_lcw (q : Nat × Nat × Nat) : Cond := .constantLong (zm_cn q.1) q.2.1 (Int64.ofNat q.2.2)
def zm_ic : List (Nat × Nat × Nat) := [(11, 265, 1431655765), (11, 266, 858993459), (11, 267, 252645135)]
def zm_icp : List Nat := [913, 914, 915]
def zm_icw (q : Nat × Nat × Nat) : Cond := .constant (zm_cn q.1) q.2.1 (Int32.ofNat q.2.2)
def zm_all {α : Type} (f : α → Cond) (l : List α) (p : List Nat) : Bool := (l.zip p).all (fun q => zm_at (f q.1) q.2) && Nat.beq l.length p.length
theorem zm_all_in {α : Type} {f : α → Cond} {l : List α} {p : List Nat} (h : zm_all f l p = true) : ∀ q ∈ l, f q ∈ lw_tbl := by
  intro q hq
  simp only [zm_all, Bool.and_eq_true, List.all_eq_true] at h
  obtain ⟨h1, h2⟩ := h
  have h2 : l.length = p.length := Nat.eq_of_beq_eq_true h2
  obtain ⟨i, hi, rfl⟩ := List.getElem_of_mem hq
  have h3 := h1 (l[i], p[i]) (by rw [List.mem_iff_getElem]; exact ⟨i, by simp; omega, by simp⟩)
  simp only [zm_at, decide_eq_true_eq] at h3
  exact List.mem_of_getElem? h3
set_option maxRecDepth 100000 in
theorem zm_mm_in : ∀ q ∈ zm_mm, zm_mmw q ∈ lw_tbl := zm_all_in (p := zm_mmp) (by decide +kernel)
set_option maxRecDepth 100000 in
theorem zm_fl_in : ∀ q ∈ zm_fl, zm_flw q ∈ lw_tbl := zm_all_in (p := zm_flp) (by decide +kernel)
set_option maxRecDepth 100000 in
theorem zm_ml_in : ∀ q ∈ zm_ml, zm_mlw q ∈ lw_tbl := zm_all_in (p := zm_mlp) (by decide +kernel)
set_option maxRecDepth 100000 in
theorem zm_nl_in : ∀ q ∈ zm_nl, zm_nlw q ∈ lw_tbl := zm_all_in (p := zm_nlp) (by decide +kernel)
set_option maxRecDepth 100000 in
theorem zm_ck_in : ∀ q ∈ zm_ck, zm_ckw q ∈ lw_tbl := zm_all_in (p := zm_ckp) (by decide +kernel)
set_option maxRecDepth 100000 in
theorem zm_ob_in : ∀ q ∈ zm_ob, zm_obw q ∈ lw_tbl := zm_all_in (p := zm_obp) (by decide +kernel)
set_option maxRecDepth 100000 in
theorem zm_ac_in : ∀ q ∈ zm_ac, zm_acw q ∈ lw_tbl := zm_all_in (p := zm_acp) (by decide +kernel)
set_option maxRecDepth 100000 in
theorem zm_lc_in : ∀ q ∈ zm_lc, zm_lcw q ∈ lw_tbl := zm_all_in (p := zm_lcp) (by decide +kernel)
set_option maxRecDepth 100000 in
theorem zm_ic_in : ∀ q ∈ zm_ic, zm_icw q ∈ lw_tbl := zm_all_in (p := zm_icp) (by decide +kernel)
/-- each class: its fields' words, the words that it can be made and is initialized -/
theorem zm_h0 : ∀ w ∈ u_ws RX0 TX0 5, w ∈ lw_tbl := by decide +kernel
theorem zm_n0 : ∀ a, a < 5 → ∀ b, b < 5 → a ≠ b → (TX0 a).2.1 ≠ (TX0 b).2.1 := by decide +kernel
theorem zm_t0 : ∀ k, k < 5 → parseFieldDescriptor (TX0 k).2.2.1 = some (tyX0 k) := by decide +kernel
theorem zm_i0 : Cond.instantiable RX0 5 ∈ lw_tbl := List.mem_of_getElem? (i := 153) (by decide +kernel)
theorem zm_z0 : Cond.initialized RX0 ∈ lw_tbl := List.mem_of_getElem? (i := 84) (by decide +kernel)
theorem zm_h1 : ∀ w ∈ u_ws RX1 TX1 2, w ∈ lw_tbl := by decide +kernel
theorem zm_n1 : ∀ a, a < 2 → ∀ b, b < 2 → a ≠ b → (TX1 a).2.1 ≠ (TX1 b).2.1 := by decide +kernel
theorem zm_t1 : ∀ k, k < 2 → parseFieldDescriptor (TX1 k).2.2.1 = some (tyX1 k) := by decide +kernel
theorem zm_i1 : Cond.instantiable RX1 2 ∈ lw_tbl := List.mem_of_getElem? (i := 146) (by decide +kernel)
theorem zm_z1 : Cond.initialized RX1 ∈ lw_tbl := List.mem_of_getElem? (i := 83) (by decide +kernel)
theorem zm_h2 : ∀ w ∈ u_ws RX2 TX2 7, w ∈ lw_tbl := by decide +kernel
theorem zm_n2 : ∀ a, a < 7 → ∀ b, b < 7 → a ≠ b → (TX2 a).2.1 ≠ (TX2 b).2.1 := by decide +kernel
theorem zm_t2 : ∀ k, k < 7 → parseFieldDescriptor (TX2 k).2.2.1 = some (tyX2 k) := by decide +kernel
theorem zm_i2 : Cond.instantiable RX2 7 ∈ lw_tbl := List.mem_of_getElem? (i := 201) (by decide +kernel)
theorem zm_z2 : Cond.initialized RX2 ∈ lw_tbl := List.mem_of_getElem? (i := 85) (by decide +kernel)
theorem zm_h3 : ∀ w ∈ u_ws RX3 TX3 4, w ∈ lw_tbl := by decide +kernel
theorem zm_n3 : ∀ a, a < 4 → ∀ b, b < 4 → a ≠ b → (TX3 a).2.1 ≠ (TX3 b).2.1 := by decide +kernel
theorem zm_t3 : ∀ k, k < 4 → parseFieldDescriptor (TX3 k).2.2.1 = some (tyX3 k) := by decide +kernel
theorem zm_i3 : Cond.instantiable RX3 4 ∈ lw_tbl := List.mem_of_getElem? (i := 235) (by decide +kernel)
theorem zm_z3 : Cond.initialized RX3 ∈ lw_tbl := List.mem_of_getElem? (i := 86) (by decide +kernel)
theorem zm_h4 : ∀ w ∈ u_ws RX4 TX4 6, w ∈ lw_tbl := by decide +kernel
theorem zm_n4 : ∀ a, a < 6 → ∀ b, b < 6 → a ≠ b → (TX4 a).2.1 ≠ (TX4 b).2.1 := by decide +kernel
theorem zm_t4 : ∀ k, k < 6 → parseFieldDescriptor (TX4 k).2.2.1 = some (tyX4 k) := by decide +kernel
theorem zm_i4 : Cond.instantiable RX4 6 ∈ lw_tbl := List.mem_of_getElem? (i := 108) (by decide +kernel)
theorem zm_z4 : Cond.initialized RX4 ∈ lw_tbl := List.mem_of_getElem? (i := 81) (by decide +kernel)
theorem zm_h5 : ∀ w ∈ u_ws RX5 TX5 4, w ∈ lw_tbl := by decide +kernel
theorem zm_n5 : ∀ a, a < 4 → ∀ b, b < 4 → a ≠ b → (TX5 a).2.1 ≠ (TX5 b).2.1 := by decide +kernel
theorem zm_t5 : ∀ k, k < 4 → parseFieldDescriptor (TX5 k).2.2.1 = some (tyX5 k) := by decide +kernel
theorem zm_i5 : Cond.instantiable RX5 4 ∈ lw_tbl := List.mem_of_getElem? (i := 260) (by decide +kernel)
theorem zm_z5 : Cond.initialized RX5 ∈ lw_tbl := List.mem_of_getElem? (i := 87) (by decide +kernel)
theorem zm_h6 : ∀ w ∈ u_ws RX6 TX6 11, w ∈ lw_tbl := by decide +kernel
theorem zm_n6 : ∀ a, a < 11 → ∀ b, b < 11 → a ≠ b → (TX6 a).2.1 ≠ (TX6 b).2.1 := by decide +kernel
theorem zm_t6 : ∀ k, k < 11 → parseFieldDescriptor (TX6 k).2.2.1 = some (tyX6 k) := by decide +kernel
theorem zm_i6 : Cond.instantiable RX6 11 ∈ lw_tbl := List.mem_of_getElem? (i := 100) (by decide +kernel)
theorem zm_z6 : Cond.initialized RX6 ∈ lw_tbl := List.mem_of_getElem? (i := 80) (by decide +kernel)
theorem zm_h7 : ∀ w ∈ u_ws RX7 TX7 25, w ∈ lw_tbl := by decide +kernel
theorem zm_n7 : ∀ a, a < 25 → ∀ b, b < 25 → a ≠ b → (TX7 a).2.1 ≠ (TX7 b).2.1 := by decide +kernel
theorem zm_t7 : ∀ k, k < 25 → parseFieldDescriptor (TX7 k).2.2.1 = some (tyX7 k) := by decide +kernel
theorem zm_i7 : Cond.instantiable RX7 25 ∈ lw_tbl := List.mem_of_getElem? (i := 1040) (by decide +kernel)
theorem zm_z7 : Cond.initialized RX7 ∈ lw_tbl := List.mem_of_getElem? (i := 88) (by decide +kernel)
