def RX0 : String := "RefactoringReplay$Change"
def TX0 : u_T := fun k => match k with
  | 0 => ("RefactoringReplay$Change", "kind", "I", false)
  | 1 => ("RefactoringReplay$Change", "a", "I", false)
  | 2 => ("RefactoringReplay$Change", "m", "I", false)
  | 3 => ("RefactoringReplay$Change", "b", "I", false)
  | _ => ("RefactoringReplay$Change", "n", "I", false)
def tyX0 : Nat → FieldType := fun k => match k with
  | 0 => .int
  | 1 => .int
  | 2 => .int
  | 3 => .int
  | _ => .int
def RX1 : String := "RefactoringReplay$ChangeList"
def TX1 : u_T := fun k => match k with
  | 0 => ("RefactoringReplay$ChangeList", "rows", "[LRefactoringReplay$Change;", true)
  | _ => ("RefactoringReplay$ChangeList", "count", "I", false)
def tyX1 : Nat → FieldType := fun k => match k with
  | 0 => .array (.object "RefactoringReplay$Change")
  | _ => .int
def RX2 : String := "RefactoringReplay$Commuting"
def TX2 : u_T := fun k => match k with
  | 0 => ("RefactoringReplay$Commuting", "walk", "LRefactoringReplay$Program;", true)
  | 1 => ("RefactoringReplay$Commuting", "straight", "LRefactoringReplay$Program;", true)
  | 2 => ("RefactoringReplay$Commuting", "crossed", "LRefactoringReplay$Program;", true)
  | 3 => ("RefactoringReplay$Commuting", "early", "LRefactoringReplay$Change;", true)
  | 4 => ("RefactoringReplay$Commuting", "late", "LRefactoringReplay$Change;", true)
  | 5 => ("RefactoringReplay$Commuting", "settled", "LRefactoringReplay$ChangeList;", true)
  | _ => ("RefactoringReplay$Commuting", "tried", "LRefactoringReplay$ChangeList;", true)
def tyX2 : Nat → FieldType := fun k => match k with
  | 0 => .object "RefactoringReplay$Program"
  | 1 => .object "RefactoringReplay$Program"
  | 2 => .object "RefactoringReplay$Program"
  | 3 => .object "RefactoringReplay$Change"
  | 4 => .object "RefactoringReplay$Change"
  | 5 => .object "RefactoringReplay$ChangeList"
  | _ => .object "RefactoringReplay$ChangeList"
def RX3 : String := "RefactoringReplay$Matching"
def TX3 : u_T := fun k => match k with
  | 0 => ("RefactoringReplay$Matching", "classTo", "[I", true)
  | 1 => ("RefactoringReplay$Matching", "classFrom", "[I", true)
  | 2 => ("RefactoringReplay$Matching", "memberTo", "[I", true)
  | _ => ("RefactoringReplay$Matching", "memberFrom", "[I", true)
def tyX3 : Nat → FieldType := fun k => match k with
  | 0 => .array .int
  | 1 => .array .int
  | 2 => .array .int
  | _ => .array .int
def RX4 : String := "RefactoringReplay$Program"
def TX4 : u_T := fun k => match k with
  | 0 => ("RefactoringReplay$Program", "classNames", "[I", true)
  | 1 => ("RefactoringReplay$Program", "supers", "[I", true)
  | 2 => ("RefactoringReplay$Program", "above", "[I", true)
  | 3 => ("RefactoringReplay$Program", "memberNames", "[I", true)
  | 4 => ("RefactoringReplay$Program", "owners", "[I", true)
  | _ => ("RefactoringReplay$Program", "used", "[J", true)
def tyX4 : Nat → FieldType := fun k => match k with
  | 0 => .array .int
  | 1 => .array .int
  | 2 => .array .int
  | 3 => .array .int
  | 4 => .array .int
  | _ => .array .long
def RX5 : String := "RefactoringReplay$Replayer"
def TX5 : u_T := fun k => match k with
  | 0 => ("RefactoringReplay$Replayer", "shadow", "LRefactoringReplay$Program;", true)
  | 1 => ("RefactoringReplay$Replayer", "pairs", "LRefactoringReplay$Matching;", true)
  | 2 => ("RefactoringReplay$Replayer", "plan", "LRefactoringReplay$Change;", true)
  | _ => ("RefactoringReplay$Replayer", "outcomes", "[I", true)
def tyX5 : Nat → FieldType := fun k => match k with
  | 0 => .object "RefactoringReplay$Program"
  | 1 => .object "RefactoringReplay$Matching"
  | 2 => .object "RefactoringReplay$Change"
  | _ => .array .int
def RX6 : String := "RefactoringReplay"
def TX6 : u_T := fun k => match k with
  | 0 => ("RefactoringReplay", "base", "LRefactoringReplay$Program;", true)
  | 1 => ("RefactoringReplay", "zero", "LRefactoringReplay$Program;", true)
  | 2 => ("RefactoringReplay", "one", "LRefactoringReplay$Program;", true)
  | 3 => ("RefactoringReplay", "trial", "LRefactoringReplay$Program;", true)
  | 4 => ("RefactoringReplay", "changes", "LRefactoringReplay$ChangeList;", true)
  | 5 => ("RefactoringReplay", "wanted", "LRefactoringReplay$Change;", true)
  | 6 => ("RefactoringReplay", "commuting", "LRefactoringReplay$Commuting;", true)
  | 7 => ("RefactoringReplay", "matching", "LRefactoringReplay$Matching;", true)
  | 8 => ("RefactoringReplay", "replayer", "LRefactoringReplay$Replayer;", true)
  | 9 => ("RefactoringReplay", "outcomes", "[I", true)
  | _ => ("RefactoringReplay", "outcomeCount", "I", false)
def tyX6 : Nat → FieldType := fun k => match k with
  | 0 => .object "RefactoringReplay$Program"
  | 1 => .object "RefactoringReplay$Program"
  | 2 => .object "RefactoringReplay$Program"
  | 3 => .object "RefactoringReplay$Program"
  | 4 => .object "RefactoringReplay$ChangeList"
  | 5 => .object "RefactoringReplay$Change"
  | 6 => .object "RefactoringReplay$Commuting"
  | 7 => .object "RefactoringReplay$Matching"
  | 8 => .object "RefactoringReplay$Replayer"
  | 9 => .array .int
  | _ => .int
def RX7 : String := "RefactoringReplayModel"
def TX7 : u_T := fun k => match k with
  | 0 => ("RefactoringReplayModel", "first", "[I", true)
  | 1 => ("RefactoringReplayModel", "second", "[I", true)
  | 2 => ("RefactoringReplayModel", "base", "[I", true)
  | 3 => ("RefactoringReplayModel", "at", "[I", true)
  | 4 => ("RefactoringReplayModel", "here", "[I", true)
  | 5 => ("RefactoringReplayModel", "there", "[I", true)
  | 6 => ("RefactoringReplayModel", "log", "[I", true)
  | 7 => ("RefactoringReplayModel", "taken", "[I", true)
  | 8 => ("RefactoringReplayModel", "logged", "I", false)
  | 9 => ("RefactoringReplayModel", "thrown", "I", false)
  | 10 => ("RefactoringReplayModel", "added", "I", false)
  | 11 => ("RefactoringReplayModel", "back", "[I", true)
  | 12 => ("RefactoringReplayModel", "forth", "[I", true)
  | 13 => ("RefactoringReplayModel", "tried", "[I", true)
  | 14 => ("RefactoringReplayModel", "classMatch", "[I", true)
  | 15 => ("RefactoringReplayModel", "memberMatch", "[I", true)
  | 16 => ("RefactoringReplayModel", "moving", "[I", true)
  | 17 => ("RefactoringReplayModel", "target", "[I", true)
  | 18 => ("RefactoringReplayModel", "outcomes", "[I", true)
  | 19 => ("RefactoringReplayModel", "latest", "[I", true)
  | 20 => ("RefactoringReplayModel", "latestMany", "I", false)
  | 21 => ("RefactoringReplayModel", "toA", "I", false)
  | 22 => ("RefactoringReplayModel", "toM", "I", false)
  | 23 => ("RefactoringReplayModel", "toB", "I", false)
  | _ => ("RefactoringReplayModel", "toN", "I", false)
def tyX7 : Nat → FieldType := fun k => match k with
  | 0 => .array .int
  | 1 => .array .int
  | 2 => .array .int
  | 3 => .array .int
  | 4 => .array .int
  | 5 => .array .int
  | 6 => .array .int
  | 7 => .array .int
  | 8 => .int
  | 9 => .int
  | 10 => .int
  | 11 => .array .int
  | 12 => .array .int
  | 13 => .array .int
  | 14 => .array .int
  | 15 => .array .int
  | 16 => .array .int
  | 17 => .array .int
  | 18 => .array .int
  | 19 => .array .int
  | 20 => .int
  | 21 => .int
  | 22 => .int
  | 23 => .int
  | _ => .int
abbrev zm_cl : List vw_C := [(RX0, TX0, 5), (RX1, TX1, 2), (RX2, TX2, 7), (RX3, TX3, 4), (RX4, TX4, 6), (RX5, TX5, 4), (RX6, TX6, 11), (RX7, TX7, 25)]
/-- class names by their numbers -/
def zm_cn : Nat → String := fun k => match k with
  | 0 => RX0
  | 1 => RX1
  | 2 => RX2
  | 3 => RX3
  | 4 => RX4
  | 5 => RX5
  | 6 => RX6
  | 7 => RX7
  | 8 => "RefactoringReplayLaw"
  | 9 => "java/util/Arrays"
  | 10 => "java/lang/Long"
  | 11 => "java/lang/Integer"
  | _ => "java/lang/Math"
def zm_T : Nat → u_T := fun k => match k with
  | 0 => TX0
  | 1 => TX1
  | 2 => TX2
  | 3 => TX3
  | 4 => TX4
  | 5 => TX5
  | 6 => TX6
  | _ => TX7
def zm_N : Nat → Nat := fun k => match k with
  | 0 => 5
  | 1 => 2
  | 2 => 7
  | 3 => 4
  | 4 => 6
  | 5 => 4
  | 6 => 11
  | _ => 25
def zm_ty : Nat → Nat → FieldType := fun k => match k with
  | 0 => tyX0
  | 1 => tyX1
  | 2 => tyX2
  | 3 => tyX3
  | 4 => tyX4
  | 5 => tyX5
  | 6 => tyX6
  | _ => tyX7
/-- methods by their numbers -/
abbrev y_Arrays_fill : Nat := 0
abbrev y_Prog_init : Nat := 1
abbrev y_Change_init : Nat := 2
abbrev y_List_init : Nat := 3
abbrev y_Comm_init : Nat := 4
abbrev y_Match_init : Nat := 5
abbrev y_Repl_init : Nat := 6
abbrev y_RR_init : Nat := 7
abbrev y_Mod_init : Nat := 8
abbrev y_RR_programOf : Nat := 9
abbrev y_Change_set : Nat := 10
abbrev y_RR_isClassName : Nat := 11
abbrev y_RR_isMemberName : Nat := 12
abbrev y_Change_hasTwoMembers : Nat := 13
abbrev y_Change_hasLegalNames : Nat := 14
abbrev y_Prog_classAt : Nat := 15
abbrev y_Prog_freeSlot : Nat := 16
abbrev y_Prog_putClass : Nat := 17
abbrev y_Prog_namesIn : Nat := 18
abbrev y_Prog_below : Nat := 19
abbrev y_Prog_dropClass : Nat := 20
abbrev y_Prog_giveClassName : Nat := 21
abbrev y_Prog_traceAncestors : Nat := 22
abbrev y_Prog_giveSuper : Nat := 23
abbrev y_Prog_holds : Nat := 24
abbrev y_Prog_line : Nat := 25
abbrev y_Prog_putMember : Nat := 26
abbrev y_Prog_memberIn : Nat := 27
abbrev y_Prog_memberAt : Nat := 28
abbrev y_Prog_isUse : Nat := 29
abbrev y_Prog_usersOf : Nat := 30
abbrev y_Prog_dropMember : Nat := 31
abbrev y_Prog_giveMemberName : Nat := 32
abbrev y_Prog_giveOwner : Nat := 33
abbrev y_Long_bitCount : Nat := 34
abbrev y_Prog_useCount : Nat := 35
abbrev y_Prog_putUse : Nat := 36
abbrev y_Prog_dropUse : Nat := 37
abbrev y_Prog_attempt : Nat := 38
abbrev y_Change_copyFrom : Nat := 39
abbrev y_List_append : Nat := 40
abbrev y_RR_change : Nat := 41
abbrev y_RR_addClass : Nat := 42
abbrev y_Law_addClass : Nat := 43
abbrev y_Mod_in : Nat := 44
abbrev y_Mod_isClassName : Nat := 45
abbrev y_Mod_classAt : Nat := 46
abbrev y_Mod_countOf : Nat := 47
abbrev y_Mod_freeAt : Nat := 48
abbrev y_Mod_addsClass : Nat := 49
abbrev y_Mod_removesClass : Nat := 50
abbrev y_Mod_renamesClass : Nat := 51
abbrev y_Mod_isUnder : Nat := 52
abbrev y_Mod_setsSuper : Nat := 53
abbrev y_Mod_memberAt : Nat := 54
abbrev y_Mod_areKin : Nat := 55
abbrev y_Mod_isTaken : Nat := 56
abbrev y_Mod_addsMember : Nat := 57
abbrev y_Mod_removesMember : Nat := 58
abbrev y_Mod_renamesMember : Nat := 59
abbrev y_Mod_movesMember : Nat := 60
abbrev y_Mod_memberOf : Nat := 61
abbrev y_Mod_addsUse : Nat := 62
abbrev y_Mod_removesUse : Nat := 63
abbrev y_Mod_makes : Nat := 64
abbrev y_Mod_changes : Nat := 65
abbrev y_Mod_addClass : Nat := 66
abbrev y_Mod_thrown : Nat := 67
abbrev y_RR_removeClass : Nat := 68
abbrev y_Law_removeClass : Nat := 69
abbrev y_Mod_removeClass : Nat := 70
abbrev y_RR_renameClass : Nat := 71
abbrev y_Law_renameClass : Nat := 72
abbrev y_Mod_renameClass : Nat := 73
abbrev y_RR_setSuper : Nat := 74
abbrev y_Law_setSuper : Nat := 75
abbrev y_Mod_setSuper : Nat := 76
abbrev y_RR_addMember : Nat := 77
abbrev y_Law_addMember : Nat := 78
abbrev y_Mod_isMemberName : Nat := 79
abbrev y_Mod_addMember : Nat := 80
abbrev y_RR_removeMember : Nat := 81
abbrev y_Law_removeMember : Nat := 82
abbrev y_Mod_removeMember : Nat := 83
abbrev y_RR_renameMember : Nat := 84
abbrev y_Law_renameMember : Nat := 85
abbrev y_Mod_renameMember : Nat := 86
abbrev y_RR_moveMember : Nat := 87
abbrev y_Law_moveMember : Nat := 88
abbrev y_Mod_moveMember : Nat := 89
abbrev y_RR_addUse : Nat := 90
abbrev y_Law_addUse : Nat := 91
abbrev y_Mod_areFour : Nat := 92
abbrev y_Mod_addUse : Nat := 93
abbrev y_RR_removeUse : Nat := 94
abbrev y_Law_removeUse : Nat := 95
abbrev y_Mod_removeUse : Nat := 96
abbrev y_Prog_classCount : Nat := 97
abbrev y_RR_classes : Nat := 98
abbrev y_Law_classes : Nat := 99
abbrev y_Mod_lacksVersion : Nat := 100
abbrev y_Mod_copies : Nat := 101
abbrev y_Mod_looks : Nat := 102
abbrev y_Mod_classes : Nat := 103
abbrev y_Prog_nameByOrder : Nat := 104
abbrev y_RR_className : Nat := 105
abbrev y_Law_className : Nat := 106
abbrev y_Mod_ordered : Nat := 107
abbrev y_Mod_fails : Nat := 108
abbrev y_Mod_className : Nat := 109
abbrev y_RR_requireClassName : Nat := 110
abbrev y_Prog_superNameOf : Nat := 111
abbrev y_RR_superOf : Nat := 112
abbrev y_Law_superOf : Nat := 113
abbrev y_Mod_isWrong : Nat := 114
abbrev y_Mod_nameOfSuper : Nat := 115
abbrev y_Mod_superOf : Nat := 116
abbrev y_RR_members : Nat := 117
abbrev y_Law_members : Nat := 118
abbrev y_Mod_membersOf : Nat := 119
abbrev y_Mod_members : Nat := 120
abbrev y_RR_uses : Nat := 121
abbrev y_Law_uses : Nat := 122
abbrev y_Mod_uses : Nat := 123
abbrev y_RR_requireMemberName : Nat := 124
abbrev y_RR_hasUse : Nat := 125
abbrev y_Law_hasUse : Nat := 126
abbrev y_Mod_hasUse : Nat := 127
abbrev y_Prog_copyFrom : Nat := 128
abbrev y_RR_copyVersion : Nat := 129
abbrev y_Mod_copyVersion : Nat := 130
abbrev y_Prog_memberCount : Nat := 131
abbrev y_Prog_hasClassesIn : Nat := 132
abbrev y_Prog_ownerNameOf : Nat := 133
abbrev y_Prog_twinOf : Nat := 134
abbrev y_Prog_hasMembersIn : Nat := 135
abbrev y_Prog_hasUsesIn : Nat := 136
abbrev y_Prog_isSameAs : Nat := 137
abbrev y_RR_areSame : Nat := 138
abbrev y_Mod_twin : Nat := 139
abbrev y_Mod_isPart : Nat := 140
abbrev y_Mod_areOne : Nat := 141
abbrev y_Mod_areSame : Nat := 142
abbrev y_RR_log : Nat := 143
abbrev y_Mod_log : Nat := 144
abbrev y_RR_requireChange : Nat := 145
abbrev y_List_at : Nat := 146
abbrev y_RR_kindOf : Nat := 147
abbrev y_Law_kindOf : Nat := 148
abbrev y_Mod_kindOf : Nat := 149
abbrev y_RR_nameOf : Nat := 150
abbrev y_Law_nameOf : Nat := 151
abbrev y_Mod_nameOf : Nat := 152
abbrev y_RR_clearLog : Nat := 153
abbrev y_Mod_clearLog : Nat := 154
abbrev y_Prog_makeFirst : Nat := 155
abbrev y_RR_undo : Nat := 156
abbrev y_Law_undo : Nat := 157
abbrev y_Mod_makesOf : Nat := 158
abbrev y_Mod_goesTo : Nat := 159
abbrev y_Mod_undo : Nat := 160
abbrev y_RR_requireNeighbours : Nat := 161
abbrev y_Change_replaceClass : Nat := 162
abbrev y_Change_replaceMember : Nat := 163
abbrev y_Change_carryBack : Nat := 164
abbrev y_Change_carryForward : Nat := 165
abbrev y_Comm_test : Nat := 166
abbrev y_Comm_testAt : Nat := 167
abbrev y_RR_commutes : Nat := 168
abbrev y_Law_commutes : Nat := 169
abbrev y_Mod_renames : Nat := 170
abbrev y_Mod_hasMember : Nat := 171
abbrev y_Mod_renamesPair : Nat := 172
abbrev y_Mod_carries : Nat := 173
abbrev y_Mod_commute : Nat := 174
abbrev y_Mod_commutes : Nat := 175
abbrev y_Comm_storeAt : Nat := 176
abbrev y_RR_exchange : Nat := 177
abbrev y_Law_exchange : Nat := 178
abbrev y_Mod_exchanges : Nat := 179
abbrev y_Mod_exchange : Nat := 180
abbrev y_List_copyFrom : Nat := 181
abbrev y_Comm_movesBehind : Nat := 182
abbrev y_Comm_needsOf : Nat := 183
abbrev y_RR_needs : Nat := 184
abbrev y_Law_needs : Nat := 185
abbrev y_Mod_copiesLog : Nat := 186
abbrev y_Mod_needsOf : Nat := 187
abbrev y_Mod_needs : Nat := 188
abbrev y_Match_joinClasses : Nat := 189
abbrev y_Match_joinClassesByName : Nat := 190
abbrev y_Integer_bitCount : Nat := 191
abbrev y_Match_closestTo : Nat := 192
abbrev y_Match_joinClassesByMembers : Nat := 193
abbrev y_Match_joinMembers : Nat := 194
abbrev y_Match_joinMembersOfClasses : Nat := 195
abbrev y_Match_onlyFree : Nat := 196
abbrev y_Match_joinLoneMembers : Nat := 197
abbrev y_Match_find : Nat := 198
abbrev y_Prog_classNameAt : Nat := 199
abbrev y_RR_matchOfClass : Nat := 200
abbrev y_Law_matchOfClass : Nat := 201
abbrev y_Mod_isMatched : Nat := 202
abbrev y_Mod_bits : Nat := 203
abbrev y_Mod_likest : Nat := 204
abbrev y_Mod_lonely : Nat := 205
abbrev y_Mod_matches : Nat := 206
abbrev y_Mod_matchOfClass : Nat := 207
abbrev y_Prog_memberNameAt : Nat := 208
abbrev y_RR_matchOfMember : Nat := 209
abbrev y_Law_matchOfMember : Nat := 210
abbrev y_Mod_matchOfMember : Nat := 211
abbrev y_RR_requireSelection : Nat := 212
abbrev y_Repl_classNameOf : Nat := 213
abbrev y_Repl_memberPartner : Nat := 214
abbrev y_Repl_translateUser : Nat := 215
abbrev y_Repl_translateUsed : Nat := 216
abbrev y_Repl_translate : Nat := 217
abbrev y_Repl_countsAsMade : Nat := 218
abbrev y_Repl_isTaken : Nat := 219
abbrev y_Repl_isMendable : Nat := 220
abbrev y_Change_advanceNewName : Nat := 221
abbrev y_Repl_tryOtherNames : Nat := 222
abbrev y_Repl_tryPlan : Nat := 223
abbrev y_Match_partClass : Nat := 224
abbrev y_Match_partMember : Nat := 225
abbrev y_Repl_follow : Nat := 226
abbrev y_Repl_run : Nat := 227
abbrev y_RR_replay : Nat := 228
abbrev y_Law_replay : Nat := 229
abbrev y_Mod_isSelection : Nat := 230
abbrev y_Mod_nameFor : Nat := 231
abbrev y_Mod_memberFor : Nat := 232
abbrev y_Mod_means : Nat := 233
abbrev y_Mod_counts : Nat := 234
abbrev y_Mod_nextLetter : Nat := 235
abbrev y_Mod_mends : Nat := 236
abbrev y_Mod_tries : Nat := 237
abbrev y_Mod_goesOn : Nat := 238
abbrev y_Mod_replays : Nat := 239
abbrev y_Mod_replay : Nat := 240
abbrev y_RR_forecast : Nat := 241
abbrev y_Law_forecast : Nat := 242
abbrev y_Mod_forecast : Nat := 243
abbrev y_RR_outcome : Nat := 244
abbrev y_Law_outcome : Nat := 245
abbrev y_Mod_outcome : Nat := 246
abbrev y_RR_blendMembers : Nat := 247
abbrev y_RR_blend : Nat := 248
abbrev y_RR_fingerprint : Nat := 249
abbrev y_Mod_mixes : Nat := 250
abbrev y_Mod_fingerprint : Nat := 251
abbrev y_Law_law : Nat := 252
/-- name, descriptor, class, level, kind (0 static, 1 instance, 2 constructor, 3 static with a table, 9 the law), number of parameters -/
abbrev zm_D : Type := String × String × Nat × Nat × Nat × Nat
def zm_md (y : Nat) : zm_D := cond (Nat.blt y 126) (cond (Nat.blt y 63) (cond (Nat.blt y 31) (cond (Nat.blt y 15) (cond (Nat.blt y 7) (cond (Nat.blt y 3) (cond (Nat.blt y 1) (("fill", "([II)V", 9, 1, 0, 2)) (cond (Nat.blt y 2) (("<init>", "()V", 4, 2, 2, 0)) (("<init>", "()V", 0, 1, 2, 0)))) (cond (Nat.blt y 5) (cond (Nat.blt y 4) (("<init>", "()V", 1, 2, 2, 0)) (("<init>", "()V", 2, 3, 2, 0))) (cond (Nat.blt y 6) (("<init>", "()V", 3, 1, 2, 0)) (("<init>", "()V", 5, 3, 2, 0))))) (cond (Nat.blt y 11) (cond (Nat.blt y 9) (cond (Nat.blt y 8) (("<init>", "()V", 6, 4, 2, 0)) (("<init>", "()V", 7, 1, 2, 0))) (cond (Nat.blt y 10) (("programOf", "(I)LRefactoringReplay$Program;", 6, 6, 1, 1)) (("set", "(IIIII)V", 0, 1, 1, 5)))) (cond (Nat.blt y 13) (cond (Nat.blt y 12) (("isClassName", "(I)Z", 6, 1, 0, 1)) (("isMemberName", "(I)Z", 6, 1, 0, 1))) (cond (Nat.blt y 14) (("hasTwoMembers", "()Z", 0, 1, 1, 0)) (("hasLegalNames", "()Z", 0, 2, 1, 0)))))) (cond (Nat.blt y 23) (cond (Nat.blt y 19) (cond (Nat.blt y 17) (cond (Nat.blt y 16) (("classAt", "(I)I", 4, 1, 1, 1)) (("freeSlot", "([I)I", 4, 1, 0, 1))) (cond (Nat.blt y 18) (("putClass", "(I)I", 4, 2, 1, 1)) (("namesIn", "(I)I", 4, 1, 1, 1)))) (cond (Nat.blt y 21) (cond (Nat.blt y 20) (("below", "(I)I", 4, 1, 1, 1)) (("dropClass", "(I)I", 4, 2, 1, 1))) (cond (Nat.blt y 22) (("giveClassName", "(II)I", 4, 2, 1, 2)) (("traceAncestors", "()V", 4, 1, 1, 0))))) (cond (Nat.blt y 27) (cond (Nat.blt y 25) (cond (Nat.blt y 24) (("giveSuper", "(II)I", 4, 2, 1, 2)) (("holds", "(III)Z", 4, 1, 1, 3))) (cond (Nat.blt y 26) (("line", "(I)I", 4, 2, 1, 1)) (("putMember", "(II)I", 4, 3, 1, 2)))) (cond (Nat.blt y 29) (cond (Nat.blt y 28) (("memberIn", "(II)I", 4, 1, 1, 2)) (("memberAt", "(II)I", 4, 2, 1, 2))) (cond (Nat.blt y 30) (("isUse", "(II)Z", 4, 1, 1, 2)) (("usersOf", "(I)I", 4, 1, 1, 1))))))) (cond (Nat.blt y 47) (cond (Nat.blt y 39) (cond (Nat.blt y 35) (cond (Nat.blt y 33) (cond (Nat.blt y 32) (("dropMember", "(II)I", 4, 3, 1, 2)) (("giveMemberName", "(III)I", 4, 3, 1, 3))) (cond (Nat.blt y 34) (("giveOwner", "(III)I", 4, 3, 1, 3)) (("bitCount", "(J)I", 10, 1, 0, 1)))) (cond (Nat.blt y 37) (cond (Nat.blt y 36) (("useCount", "()I", 4, 2, 1, 0)) (("putUse", "(II)I", 4, 3, 1, 2))) (cond (Nat.blt y 38) (("dropUse", "(II)I", 4, 2, 1, 2)) (("attempt", "(LRefactoringReplay$Change;)I", 4, 4, 1, 1))))) (cond (Nat.blt y 43) (cond (Nat.blt y 41) (cond (Nat.blt y 40) (("copyFrom", "(LRefactoringReplay$Change;)V", 0, 2, 1, 1)) (("append", "(LRefactoringReplay$Change;)V", 1, 3, 1, 1))) (cond (Nat.blt y 42) (("change", "(IIIIII)I", 6, 7, 1, 6)) (("addClass", "(II)I", 6, 8, 1, 2)))) (cond (Nat.blt y 45) (cond (Nat.blt y 44) (("addClass", "(LRefactoringReplay;II[J)I", 8, 9, 3, 4)) (("in", "(III)Z", 7, 1, 0, 3))) (cond (Nat.blt y 46) (("isClassName", "(I)Z", 7, 2, 0, 1)) (("classAt", "([II)I", 7, 1, 0, 2)))))) (cond (Nat.blt y 55) (cond (Nat.blt y 51) (cond (Nat.blt y 49) (cond (Nat.blt y 48) (("countOf", "([III)I", 7, 1, 0, 3)) (("freeAt", "([II)I", 7, 1, 0, 2))) (cond (Nat.blt y 50) (("addsClass", "([III)I", 7, 2, 1, 3)) (("removesClass", "([II)I", 7, 1, 1, 2)))) (cond (Nat.blt y 53) (cond (Nat.blt y 52) (("renamesClass", "([III)I", 7, 2, 1, 3)) (("isUnder", "([III)Z", 7, 1, 0, 3))) (cond (Nat.blt y 54) (("setsSuper", "([III)I", 7, 2, 1, 3)) (("memberAt", "([III)I", 7, 1, 0, 3))))) (cond (Nat.blt y 59) (cond (Nat.blt y 57) (cond (Nat.blt y 56) (("areKin", "([III)Z", 7, 2, 0, 3)) (("isTaken", "([IIII)Z", 7, 3, 0, 4))) (cond (Nat.blt y 58) (("addsMember", "([III)I", 7, 4, 1, 3)) (("removesMember", "([II)I", 7, 1, 1, 2)))) (cond (Nat.blt y 61) (cond (Nat.blt y 60) (("renamesMember", "([IIII)I", 7, 4, 1, 4)) (("movesMember", "([IIII)I", 7, 4, 1, 4))) (cond (Nat.blt y 62) (("memberOf", "([III)I", 7, 2, 0, 3)) (("addsUse", "([III)I", 7, 2, 1, 3)))))))) (cond (Nat.blt y 94) (cond (Nat.blt y 78) (cond (Nat.blt y 70) (cond (Nat.blt y 66) (cond (Nat.blt y 64) (("removesUse", "([III)I", 7, 1, 1, 3)) (cond (Nat.blt y 65) (("makes", "([IIIIII)I", 7, 5, 1, 6)) (("changes", "(IIIIIIZ)I", 7, 6, 1, 7)))) (cond (Nat.blt y 68) (cond (Nat.blt y 67) (("addClass", "(II)I", 7, 7, 1, 2)) (("thrown", "()I", 7, 1, 1, 0))) (cond (Nat.blt y 69) (("removeClass", "(II)I", 6, 8, 1, 2)) (("removeClass", "(LRefactoringReplay;II[J)I", 8, 9, 3, 4))))) (cond (Nat.blt y 74) (cond (Nat.blt y 72) (cond (Nat.blt y 71) (("removeClass", "(II)I", 7, 7, 1, 2)) (("renameClass", "(III)I", 6, 8, 1, 3))) (cond (Nat.blt y 73) (("renameClass", "(LRefactoringReplay;III[J)I", 8, 9, 3, 5)) (("renameClass", "(III)I", 7, 7, 1, 3)))) (cond (Nat.blt y 76) (cond (Nat.blt y 75) (("setSuper", "(III)I", 6, 8, 1, 3)) (("setSuper", "(LRefactoringReplay;III[J)I", 8, 9, 3, 5))) (cond (Nat.blt y 77) (("setSuper", "(III)I", 7, 7, 1, 3)) (("addMember", "(III)I", 6, 8, 1, 3)))))) (cond (Nat.blt y 86) (cond (Nat.blt y 82) (cond (Nat.blt y 80) (cond (Nat.blt y 79) (("addMember", "(LRefactoringReplay;III[J)I", 8, 9, 3, 5)) (("isMemberName", "(I)Z", 7, 2, 0, 1))) (cond (Nat.blt y 81) (("addMember", "(III)I", 7, 7, 1, 3)) (("removeMember", "(III)I", 6, 8, 1, 3)))) (cond (Nat.blt y 84) (cond (Nat.blt y 83) (("removeMember", "(LRefactoringReplay;III[J)I", 8, 9, 3, 5)) (("removeMember", "(III)I", 7, 7, 1, 3))) (cond (Nat.blt y 85) (("renameMember", "(IIII)I", 6, 8, 1, 4)) (("renameMember", "(LRefactoringReplay;IIII[J)I", 8, 9, 3, 6))))) (cond (Nat.blt y 90) (cond (Nat.blt y 88) (cond (Nat.blt y 87) (("renameMember", "(IIII)I", 7, 7, 1, 4)) (("moveMember", "(IIII)I", 6, 8, 1, 4))) (cond (Nat.blt y 89) (("moveMember", "(LRefactoringReplay;IIII[J)I", 8, 9, 3, 6)) (("moveMember", "(IIII)I", 7, 7, 1, 4)))) (cond (Nat.blt y 92) (cond (Nat.blt y 91) (("addUse", "(IIIII)I", 6, 8, 1, 5)) (("addUse", "(LRefactoringReplay;IIIII[J)I", 8, 9, 3, 7))) (cond (Nat.blt y 93) (("areFour", "(IIII)Z", 7, 3, 0, 4)) (("addUse", "(IIIII)I", 7, 7, 1, 5))))))) (cond (Nat.blt y 110) (cond (Nat.blt y 102) (cond (Nat.blt y 98) (cond (Nat.blt y 96) (cond (Nat.blt y 95) (("removeUse", "(IIIII)I", 6, 8, 1, 5)) (("removeUse", "(LRefactoringReplay;IIIII[J)I", 8, 9, 3, 7))) (cond (Nat.blt y 97) (("removeUse", "(IIIII)I", 7, 7, 1, 5)) (("classCount", "()I", 4, 1, 1, 0)))) (cond (Nat.blt y 100) (cond (Nat.blt y 99) (("classes", "(I)I", 6, 7, 1, 1)) (("classes", "(LRefactoringReplay;I[J)I", 8, 8, 3, 3))) (cond (Nat.blt y 101) (("lacksVersion", "(I)Z", 7, 2, 1, 1)) (("copies", "([I[I)V", 7, 1, 0, 2))))) (cond (Nat.blt y 106) (cond (Nat.blt y 104) (cond (Nat.blt y 103) (("looks", "(I)V", 7, 2, 1, 1)) (("classes", "(I)I", 7, 3, 1, 1))) (cond (Nat.blt y 105) (("nameByOrder", "(I)I", 4, 2, 1, 1)) (("className", "(II)I", 6, 7, 1, 2)))) (cond (Nat.blt y 108) (cond (Nat.blt y 107) (("className", "(LRefactoringReplay;II[J)I", 8, 8, 3, 4)) (("ordered", "([II)I", 7, 2, 0, 2))) (cond (Nat.blt y 109) (("fails", "(I)I", 7, 1, 1, 1)) (("className", "(II)I", 7, 3, 1, 2)))))) (cond (Nat.blt y 118) (cond (Nat.blt y 114) (cond (Nat.blt y 112) (cond (Nat.blt y 111) (("requireClassName", "(I)V", 6, 6, 0, 1)) (("superNameOf", "(I)I", 4, 1, 1, 1))) (cond (Nat.blt y 113) (("superOf", "(II)I", 6, 7, 1, 2)) (("superOf", "(LRefactoringReplay;II[J)I", 8, 8, 3, 4)))) (cond (Nat.blt y 116) (cond (Nat.blt y 115) (("isWrong", "(IZ)Z", 7, 2, 1, 2)) (("nameOfSuper", "([II)I", 7, 1, 0, 2))) (cond (Nat.blt y 117) (("superOf", "(II)I", 7, 3, 1, 2)) (("members", "(II)I", 6, 7, 1, 2))))) (cond (Nat.blt y 122) (cond (Nat.blt y 120) (cond (Nat.blt y 119) (("members", "(LRefactoringReplay;II[J)I", 8, 8, 3, 4)) (("membersOf", "([II)I", 7, 1, 0, 2))) (cond (Nat.blt y 121) (("members", "(II)I", 7, 3, 1, 2)) (("uses", "(I)I", 6, 7, 1, 1)))) (cond (Nat.blt y 124) (cond (Nat.blt y 123) (("uses", "(LRefactoringReplay;I[J)I", 8, 8, 3, 3)) (("uses", "(I)I", 7, 3, 1, 1))) (cond (Nat.blt y 125) (("requireMemberName", "(I)V", 6, 6, 0, 1)) (("hasUse", "(IIIII)Z", 6, 7, 1, 5))))))))) (cond (Nat.blt y 189) (cond (Nat.blt y 157) (cond (Nat.blt y 141) (cond (Nat.blt y 133) (cond (Nat.blt y 129) (cond (Nat.blt y 127) (("hasUse", "(LRefactoringReplay;IIIII[J)I", 8, 8, 3, 7)) (cond (Nat.blt y 128) (("hasUse", "(IIIII)Z", 7, 4, 1, 5)) (("copyFrom", "(LRefactoringReplay$Program;)V", 4, 3, 1, 1)))) (cond (Nat.blt y 131) (cond (Nat.blt y 130) (("copyVersion", "()I", 6, 4, 1, 0)) (("copyVersion", "()I", 7, 2, 1, 0))) (cond (Nat.blt y 132) (("memberCount", "()I", 4, 1, 1, 0)) (("hasClassesIn", "(LRefactoringReplay$Program;)Z", 4, 2, 1, 1))))) (cond (Nat.blt y 137) (cond (Nat.blt y 135) (cond (Nat.blt y 134) (("ownerNameOf", "(I)I", 4, 1, 1, 1)) (("twinOf", "(ILRefactoringReplay$Program;)I", 4, 2, 1, 2))) (cond (Nat.blt y 136) (("hasMembersIn", "(LRefactoringReplay$Program;)Z", 4, 3, 1, 1)) (("hasUsesIn", "(LRefactoringReplay$Program;)Z", 4, 3, 1, 1)))) (cond (Nat.blt y 139) (cond (Nat.blt y 138) (("isSameAs", "(LRefactoringReplay$Program;)Z", 4, 4, 1, 1)) (("areSame", "()Z", 6, 5, 1, 0))) (cond (Nat.blt y 140) (("twin", "([II[I)I", 7, 3, 0, 3)) (("isPart", "([I[I)Z", 7, 4, 0, 2)))))) (cond (Nat.blt y 149) (cond (Nat.blt y 145) (cond (Nat.blt y 143) (cond (Nat.blt y 142) (("areOne", "([I[I)Z", 7, 5, 0, 2)) (("areSame", "()Z", 7, 6, 1, 0))) (cond (Nat.blt y 144) (("log", "()I", 6, 1, 1, 0)) (("log", "()I", 7, 1, 1, 0)))) (cond (Nat.blt y 147) (cond (Nat.blt y 146) (("requireChange", "(I)V", 6, 6, 1, 1)) (("at", "(I)LRefactoringReplay$Change;", 1, 3, 1, 1))) (cond (Nat.blt y 148) (("kindOf", "(I)I", 6, 7, 1, 1)) (("kindOf", "(LRefactoringReplay;I[J)I", 8, 8, 3, 3))))) (cond (Nat.blt y 153) (cond (Nat.blt y 151) (cond (Nat.blt y 150) (("kindOf", "(I)I", 7, 2, 1, 1)) (("nameOf", "(II)I", 6, 7, 1, 2))) (cond (Nat.blt y 152) (("nameOf", "(LRefactoringReplay;II[J)I", 8, 8, 3, 4)) (("nameOf", "(II)I", 7, 2, 1, 2)))) (cond (Nat.blt y 155) (cond (Nat.blt y 154) (("clearLog", "()I", 6, 4, 1, 0)) (("clearLog", "()I", 7, 2, 1, 0))) (cond (Nat.blt y 156) (("makeFirst", "(LRefactoringReplay$ChangeList;I)V", 4, 5, 1, 2)) (("undo", "()I", 6, 6, 1, 0))))))) (cond (Nat.blt y 173) (cond (Nat.blt y 165) (cond (Nat.blt y 161) (cond (Nat.blt y 159) (cond (Nat.blt y 158) (("undo", "(LRefactoringReplay;[J)I", 8, 7, 3, 2)) (("makesOf", "([I[II)I", 7, 6, 1, 3))) (cond (Nat.blt y 160) (("goesTo", "([I[II)V", 7, 7, 1, 3)) (("undo", "()I", 7, 8, 1, 0)))) (cond (Nat.blt y 163) (cond (Nat.blt y 162) (("requireNeighbours", "(I)V", 6, 6, 1, 1)) (("replaceClass", "(II)V", 0, 1, 1, 2))) (cond (Nat.blt y 164) (("replaceMember", "(IIII)V", 0, 2, 1, 4)) (("carryBack", "(LRefactoringReplay$Change;)V", 0, 3, 1, 1))))) (cond (Nat.blt y 169) (cond (Nat.blt y 167) (cond (Nat.blt y 166) (("carryForward", "(LRefactoringReplay$Change;)V", 0, 3, 1, 1)) (("test", "(LRefactoringReplay$ChangeList;I)Z", 2, 5, 1, 2))) (cond (Nat.blt y 168) (("testAt", "(LRefactoringReplay$Program;LRefactoringReplay$ChangeList;I)Z", 2, 6, 1, 3)) (("commutes", "(I)Z", 6, 7, 1, 1)))) (cond (Nat.blt y 171) (cond (Nat.blt y 170) (("commutes", "(LRefactoringReplay;I[J)I", 8, 8, 3, 3)) (("renames", "([III)V", 7, 1, 0, 3))) (cond (Nat.blt y 172) (("hasMember", "(I)Z", 7, 1, 0, 1)) (("renamesPair", "([IIIII)V", 7, 2, 0, 5)))))) (cond (Nat.blt y 181) (cond (Nat.blt y 177) (cond (Nat.blt y 175) (cond (Nat.blt y 174) (("carries", "([IIIIIIZ)V", 7, 3, 0, 7)) (("commute", "([II)Z", 7, 8, 1, 2))) (cond (Nat.blt y 176) (("commutes", "(I)Z", 7, 9, 1, 1)) (("storeAt", "(LRefactoringReplay$ChangeList;I)V", 2, 4, 1, 2)))) (cond (Nat.blt y 179) (cond (Nat.blt y 178) (("exchange", "(I)Z", 6, 7, 1, 1)) (("exchange", "(LRefactoringReplay;I[J)I", 8, 8, 3, 3))) (cond (Nat.blt y 180) (("exchanges", "([II)V", 7, 1, 1, 2)) (("exchange", "(I)Z", 7, 9, 1, 1))))) (cond (Nat.blt y 185) (cond (Nat.blt y 183) (cond (Nat.blt y 182) (("copyFrom", "(LRefactoringReplay$ChangeList;)V", 1, 3, 1, 1)) (("movesBehind", "(LRefactoringReplay$Program;II)Z", 2, 6, 1, 3))) (cond (Nat.blt y 184) (("needsOf", "(LRefactoringReplay$Program;LRefactoringReplay$ChangeList;I)I", 2, 7, 1, 3)) (("needs", "(I)I", 6, 8, 1, 1)))) (cond (Nat.blt y 187) (cond (Nat.blt y 186) (("needs", "(LRefactoringReplay;I[J)I", 8, 9, 3, 3)) (("copiesLog", "([I[I)V", 7, 1, 0, 2))) (cond (Nat.blt y 188) (("needsOf", "(I)I", 7, 9, 1, 1)) (("needs", "(I)I", 7, 10, 1, 1)))))))) (cond (Nat.blt y 221) (cond (Nat.blt y 205) (cond (Nat.blt y 197) (cond (Nat.blt y 193) (cond (Nat.blt y 191) (cond (Nat.blt y 190) (("joinClasses", "(II)V", 3, 1, 1, 2)) (("joinClassesByName", "(LRefactoringReplay$Program;LRefactoringReplay$Program;)V", 3, 2, 1, 2))) (cond (Nat.blt y 192) (("bitCount", "(I)I", 11, 1, 0, 1)) (("closestTo", "(ILRefactoringReplay$Program;)I", 3, 2, 1, 2)))) (cond (Nat.blt y 195) (cond (Nat.blt y 194) (("joinClassesByMembers", "(LRefactoringReplay$Program;LRefactoringReplay$Program;)V", 3, 3, 1, 2)) (("joinMembers", "(II)V", 3, 1, 1, 2))) (cond (Nat.blt y 196) (("joinMembersOfClasses", "(LRefactoringReplay$Program;LRefactoringReplay$Program;)V", 3, 2, 1, 2)) (("onlyFree", "(LRefactoringReplay$Program;I)I", 3, 1, 1, 2))))) (cond (Nat.blt y 201) (cond (Nat.blt y 199) (cond (Nat.blt y 198) (("joinLoneMembers", "(LRefactoringReplay$Program;LRefactoringReplay$Program;)V", 3, 2, 1, 2)) (("find", "(LRefactoringReplay$Program;LRefactoringReplay$Program;)V", 3, 4, 1, 2))) (cond (Nat.blt y 200) (("classNameAt", "(I)I", 4, 1, 1, 1)) (("matchOfClass", "(I)I", 6, 7, 1, 1)))) (cond (Nat.blt y 203) (cond (Nat.blt y 202) (("matchOfClass", "(LRefactoringReplay;I[J)I", 8, 8, 3, 3)) (("isMatched", "([III)Z", 7, 1, 1, 3))) (cond (Nat.blt y 204) (("bits", "(I)I", 7, 1, 0, 1)) (("likest", "(I[I)I", 7, 3, 1, 2)))))) (cond (Nat.blt y 213) (cond (Nat.blt y 209) (cond (Nat.blt y 207) (cond (Nat.blt y 206) (("lonely", "([II)I", 7, 2, 1, 2)) (("matches", "([I)V", 7, 4, 1, 1))) (cond (Nat.blt y 208) (("matchOfClass", "(I)I", 7, 5, 1, 1)) (("memberNameAt", "(I)I", 4, 1, 1, 1)))) (cond (Nat.blt y 211) (cond (Nat.blt y 210) (("matchOfMember", "(II)I", 6, 7, 1, 2)) (("matchOfMember", "(LRefactoringReplay;II[J)I", 8, 8, 3, 4))) (cond (Nat.blt y 212) (("matchOfMember", "(II)I", 7, 5, 1, 2)) (("requireSelection", "(I)V", 6, 6, 1, 1))))) (cond (Nat.blt y 217) (cond (Nat.blt y 215) (cond (Nat.blt y 214) (("classNameOf", "(ILRefactoringReplay$Program;)I", 5, 2, 1, 2)) (("memberPartner", "(II)I", 5, 3, 1, 2))) (cond (Nat.blt y 216) (("translateUser", "(LRefactoringReplay$Change;LRefactoringReplay$Program;)Z", 5, 4, 1, 2)) (("translateUsed", "(LRefactoringReplay$Change;LRefactoringReplay$Program;)Z", 5, 4, 1, 2)))) (cond (Nat.blt y 219) (cond (Nat.blt y 218) (("translate", "(LRefactoringReplay$Change;LRefactoringReplay$Program;)Z", 5, 5, 1, 2)) (("countsAsMade", "(I)Z", 5, 1, 1, 1))) (cond (Nat.blt y 220) (("isTaken", "(LRefactoringReplay$Program;)Z", 5, 3, 1, 1)) (("isMendable", "(I)Z", 5, 1, 1, 1))))))) (cond (Nat.blt y 237) (cond (Nat.blt y 229) (cond (Nat.blt y 225) (cond (Nat.blt y 223) (cond (Nat.blt y 222) (("advanceNewName", "()V", 0, 1, 1, 0)) (("tryOtherNames", "(LRefactoringReplay$Program;I)I", 5, 5, 1, 2))) (cond (Nat.blt y 224) (("tryPlan", "(LRefactoringReplay$Program;Z)I", 5, 6, 1, 2)) (("partClass", "(I)V", 3, 1, 1, 1)))) (cond (Nat.blt y 227) (cond (Nat.blt y 226) (("partMember", "(I)V", 3, 1, 1, 1)) (("follow", "(LRefactoringReplay$Change;LRefactoringReplay$Program;Z)V", 5, 5, 1, 3))) (cond (Nat.blt y 228) (("run", "(LRefactoringReplay$Program;LRefactoringReplay$Program;LRefactoringReplay$ChangeList;IZ)I", 5, 7, 1, 5)) (("replay", "(IZ)I", 6, 8, 1, 2))))) (cond (Nat.blt y 233) (cond (Nat.blt y 231) (cond (Nat.blt y 230) (("replay", "(LRefactoringReplay;IZ[J)I", 8, 9, 3, 4)) (("isSelection", "(I)Z", 7, 1, 1, 1))) (cond (Nat.blt y 232) (("nameFor", "(I)I", 7, 1, 1, 1)) (("memberFor", "(II)I", 7, 3, 1, 2)))) (cond (Nat.blt y 235) (cond (Nat.blt y 234) (("means", "(I)Z", 7, 4, 1, 1)) (("counts", "(II)Z", 7, 1, 1, 2))) (cond (Nat.blt y 236) (("nextLetter", "(I)I", 7, 1, 0, 1)) (("mends", "(II)I", 7, 6, 1, 2)))))) (cond (Nat.blt y 245) (cond (Nat.blt y 241) (cond (Nat.blt y 239) (cond (Nat.blt y 238) (("tries", "(IZ)I", 7, 7, 1, 2)) (("goesOn", "(II)V", 7, 7, 1, 2))) (cond (Nat.blt y 240) (("replays", "(IZ)I", 7, 8, 1, 2)) (("replay", "(IZ)I", 7, 9, 1, 2)))) (cond (Nat.blt y 243) (cond (Nat.blt y 242) (("forecast", "(IZ)I", 6, 8, 1, 2)) (("forecast", "(LRefactoringReplay;IZ[J)I", 8, 9, 3, 4))) (cond (Nat.blt y 244) (("forecast", "(IZ)I", 7, 9, 1, 2)) (("outcome", "(I)I", 6, 6, 1, 1))))) (cond (Nat.blt y 249) (cond (Nat.blt y 247) (cond (Nat.blt y 246) (("outcome", "(LRefactoringReplay;I[J)I", 8, 7, 3, 3)) (("outcome", "(I)I", 7, 2, 1, 1))) (cond (Nat.blt y 248) (("blendMembers", "(JLRefactoringReplay$Program;I)J", 6, 2, 0, 3)) (("blend", "(JLRefactoringReplay$Program;)J", 6, 3, 0, 2)))) (cond (Nat.blt y 251) (cond (Nat.blt y 250) (("fingerprint", "()J", 6, 4, 1, 0)) (("mixes", "(J[I)J", 7, 3, 0, 2))) (cond (Nat.blt y 252) (("fingerprint", "()J", 7, 4, 1, 0)) (("law", "([I)Z", 8, 12, 9, 1)))))))))
def zm_by (y : Nat) : ByteArray := cond (Nat.blt y 126) (cond (Nat.blt y 63) (cond (Nat.blt y 31) (cond (Nat.blt y 15) (cond (Nat.blt y 7) (cond (Nat.blt y 3) (cond (Nat.blt y 1) (prog_21_method_103_code) (cond (Nat.blt y 2) (prog_6_method_1_code) (prog_2_method_1_code))) (cond (Nat.blt y 5) (cond (Nat.blt y 4) (prog_3_method_1_code) (prog_4_method_1_code)) (cond (Nat.blt y 6) (prog_5_method_1_code) (prog_7_method_1_code)))) (cond (Nat.blt y 11) (cond (Nat.blt y 9) (cond (Nat.blt y 8) (prog_1_method_1_code) (prog_9_method_1_code)) (cond (Nat.blt y 10) (prog_1_method_35_code) (prog_2_method_2_code))) (cond (Nat.blt y 13) (cond (Nat.blt y 12) (prog_1_method_43_code) (prog_1_method_44_code)) (cond (Nat.blt y 14) (prog_2_method_4_code) (prog_2_method_5_code))))) (cond (Nat.blt y 23) (cond (Nat.blt y 19) (cond (Nat.blt y 17) (cond (Nat.blt y 16) (prog_6_method_15_code) (prog_6_method_33_code)) (cond (Nat.blt y 18) (prog_6_method_5_code) (prog_6_method_28_code))) (cond (Nat.blt y 21) (cond (Nat.blt y 20) (prog_6_method_31_code) (prog_6_method_6_code)) (cond (Nat.blt y 22) (prog_6_method_7_code) (prog_6_method_32_code)))) (cond (Nat.blt y 27) (cond (Nat.blt y 25) (cond (Nat.blt y 24) (prog_6_method_8_code) (prog_6_method_29_code)) (cond (Nat.blt y 26) (prog_6_method_30_code) (prog_6_method_9_code))) (cond (Nat.blt y 29) (cond (Nat.blt y 28) (prog_6_method_17_code) (prog_6_method_16_code)) (cond (Nat.blt y 30) (prog_6_method_18_code) (prog_6_method_19_code)))))) (cond (Nat.blt y 47) (cond (Nat.blt y 39) (cond (Nat.blt y 35) (cond (Nat.blt y 33) (cond (Nat.blt y 32) (prog_6_method_10_code) (prog_6_method_11_code)) (cond (Nat.blt y 34) (prog_6_method_12_code) (prog_15_method_50_code))) (cond (Nat.blt y 37) (cond (Nat.blt y 36) (prog_6_method_20_code) (prog_6_method_13_code)) (cond (Nat.blt y 38) (prog_6_method_14_code) (prog_6_method_3_code)))) (cond (Nat.blt y 43) (cond (Nat.blt y 41) (cond (Nat.blt y 40) (prog_2_method_3_code) (prog_3_method_3_code)) (cond (Nat.blt y 42) (prog_1_method_34_code) (prog_1_method_2_code))) (cond (Nat.blt y 45) (cond (Nat.blt y 44) (method_3_code) (prog_9_method_3_code)) (cond (Nat.blt y 46) (prog_9_method_39_code) (prog_9_method_6_code))))) (cond (Nat.blt y 55) (cond (Nat.blt y 51) (cond (Nat.blt y 49) (cond (Nat.blt y 48) (prog_9_method_9_code) (prog_9_method_13_code)) (cond (Nat.blt y 50) (prog_9_method_15_code) (prog_9_method_16_code))) (cond (Nat.blt y 53) (cond (Nat.blt y 52) (prog_9_method_17_code) (prog_9_method_10_code)) (cond (Nat.blt y 54) (prog_9_method_18_code) (prog_9_method_7_code)))) (cond (Nat.blt y 59) (cond (Nat.blt y 57) (cond (Nat.blt y 56) (prog_9_method_11_code) (prog_9_method_12_code)) (cond (Nat.blt y 58) (prog_9_method_19_code) (prog_9_method_20_code))) (cond (Nat.blt y 61) (cond (Nat.blt y 60) (prog_9_method_21_code) (prog_9_method_22_code)) (cond (Nat.blt y 62) (prog_9_method_8_code) (prog_9_method_23_code))))))) (cond (Nat.blt y 94) (cond (Nat.blt y 78) (cond (Nat.blt y 70) (cond (Nat.blt y 66) (cond (Nat.blt y 64) (prog_9_method_24_code) (cond (Nat.blt y 65) (prog_9_method_14_code) (prog_9_method_41_code))) (cond (Nat.blt y 68) (cond (Nat.blt y 67) (prog_9_method_42_code) (prog_9_method_2_code)) (cond (Nat.blt y 69) (prog_1_method_3_code) (method_4_code)))) (cond (Nat.blt y 74) (cond (Nat.blt y 72) (cond (Nat.blt y 71) (prog_9_method_43_code) (prog_1_method_4_code)) (cond (Nat.blt y 73) (method_5_code) (prog_9_method_44_code))) (cond (Nat.blt y 76) (cond (Nat.blt y 75) (prog_1_method_5_code) (method_6_code)) (cond (Nat.blt y 77) (prog_9_method_45_code) (prog_1_method_6_code))))) (cond (Nat.blt y 86) (cond (Nat.blt y 82) (cond (Nat.blt y 80) (cond (Nat.blt y 79) (method_7_code) (prog_9_method_40_code)) (cond (Nat.blt y 81) (prog_9_method_46_code) (prog_1_method_7_code))) (cond (Nat.blt y 84) (cond (Nat.blt y 83) (method_8_code) (prog_9_method_47_code)) (cond (Nat.blt y 85) (prog_1_method_8_code) (method_9_code)))) (cond (Nat.blt y 90) (cond (Nat.blt y 88) (cond (Nat.blt y 87) (prog_9_method_48_code) (prog_1_method_9_code)) (cond (Nat.blt y 89) (method_10_code) (prog_9_method_49_code))) (cond (Nat.blt y 92) (cond (Nat.blt y 91) (prog_1_method_10_code) (method_11_code)) (cond (Nat.blt y 93) (prog_9_method_50_code) (prog_9_method_51_code)))))) (cond (Nat.blt y 110) (cond (Nat.blt y 102) (cond (Nat.blt y 98) (cond (Nat.blt y 96) (cond (Nat.blt y 95) (prog_1_method_11_code) (method_12_code)) (cond (Nat.blt y 97) (prog_9_method_52_code) (prog_6_method_21_code))) (cond (Nat.blt y 100) (cond (Nat.blt y 99) (prog_1_method_12_code) (method_13_code)) (cond (Nat.blt y 101) (prog_9_method_53_code) (prog_9_method_5_code)))) (cond (Nat.blt y 106) (cond (Nat.blt y 104) (cond (Nat.blt y 103) (prog_9_method_55_code) (prog_9_method_56_code)) (cond (Nat.blt y 105) (prog_6_method_23_code) (prog_1_method_13_code))) (cond (Nat.blt y 108) (cond (Nat.blt y 107) (method_14_code) (prog_9_method_57_code)) (cond (Nat.blt y 109) (prog_9_method_4_code) (prog_9_method_58_code))))) (cond (Nat.blt y 118) (cond (Nat.blt y 114) (cond (Nat.blt y 112) (cond (Nat.blt y 111) (prog_1_method_36_code) (prog_6_method_26_code)) (cond (Nat.blt y 113) (prog_1_method_14_code) (method_15_code))) (cond (Nat.blt y 116) (cond (Nat.blt y 115) (prog_9_method_54_code) (prog_9_method_25_code)) (cond (Nat.blt y 117) (prog_9_method_59_code) (prog_1_method_15_code)))) (cond (Nat.blt y 122) (cond (Nat.blt y 120) (cond (Nat.blt y 119) (method_16_code) (prog_9_method_60_code)) (cond (Nat.blt y 121) (prog_9_method_61_code) (prog_1_method_16_code))) (cond (Nat.blt y 124) (cond (Nat.blt y 123) (method_17_code) (prog_9_method_62_code)) (cond (Nat.blt y 125) (prog_1_method_37_code) (prog_1_method_17_code)))))))) (cond (Nat.blt y 189) (cond (Nat.blt y 157) (cond (Nat.blt y 141) (cond (Nat.blt y 133) (cond (Nat.blt y 129) (cond (Nat.blt y 127) (method_18_code) (cond (Nat.blt y 128) (prog_9_method_63_code) (prog_6_method_2_code))) (cond (Nat.blt y 131) (cond (Nat.blt y 130) (prog_1_method_18_code) (prog_9_method_64_code)) (cond (Nat.blt y 132) (prog_6_method_22_code) (prog_6_method_35_code)))) (cond (Nat.blt y 137) (cond (Nat.blt y 135) (cond (Nat.blt y 134) (prog_6_method_27_code) (prog_6_method_38_code)) (cond (Nat.blt y 136) (prog_6_method_36_code) (prog_6_method_37_code))) (cond (Nat.blt y 139) (cond (Nat.blt y 138) (prog_6_method_34_code) (prog_1_method_19_code)) (cond (Nat.blt y 140) (prog_9_method_27_code) (prog_9_method_26_code))))) (cond (Nat.blt y 149) (cond (Nat.blt y 145) (cond (Nat.blt y 143) (cond (Nat.blt y 142) (prog_9_method_28_code) (prog_9_method_65_code)) (cond (Nat.blt y 144) (prog_1_method_20_code) (prog_9_method_66_code))) (cond (Nat.blt y 147) (cond (Nat.blt y 146) (prog_1_method_38_code) (prog_3_method_2_code)) (cond (Nat.blt y 148) (prog_1_method_21_code) (method_19_code)))) (cond (Nat.blt y 153) (cond (Nat.blt y 151) (cond (Nat.blt y 150) (prog_9_method_67_code) (prog_1_method_22_code)) (cond (Nat.blt y 152) (method_20_code) (prog_9_method_68_code))) (cond (Nat.blt y 155) (cond (Nat.blt y 154) (prog_1_method_23_code) (prog_9_method_69_code)) (cond (Nat.blt y 156) (prog_6_method_4_code) (prog_1_method_24_code)))))) (cond (Nat.blt y 173) (cond (Nat.blt y 165) (cond (Nat.blt y 161) (cond (Nat.blt y 159) (cond (Nat.blt y 158) (method_21_code) (prog_9_method_33_code)) (cond (Nat.blt y 160) (prog_9_method_34_code) (prog_9_method_70_code))) (cond (Nat.blt y 163) (cond (Nat.blt y 162) (prog_1_method_39_code) (prog_2_method_8_code)) (cond (Nat.blt y 164) (prog_2_method_9_code) (prog_2_method_6_code)))) (cond (Nat.blt y 169) (cond (Nat.blt y 167) (cond (Nat.blt y 166) (prog_2_method_7_code) (prog_4_method_3_code)) (cond (Nat.blt y 168) (prog_4_method_2_code) (prog_1_method_25_code))) (cond (Nat.blt y 171) (cond (Nat.blt y 170) (method_22_code) (prog_9_method_30_code)) (cond (Nat.blt y 172) (prog_9_method_29_code) (prog_9_method_31_code))))) (cond (Nat.blt y 181) (cond (Nat.blt y 177) (cond (Nat.blt y 175) (cond (Nat.blt y 174) (prog_9_method_32_code) (prog_9_method_35_code)) (cond (Nat.blt y 176) (prog_9_method_71_code) (prog_4_method_4_code))) (cond (Nat.blt y 179) (cond (Nat.blt y 178) (prog_1_method_26_code) (method_23_code)) (cond (Nat.blt y 180) (prog_9_method_36_code) (prog_9_method_72_code)))) (cond (Nat.blt y 185) (cond (Nat.blt y 183) (cond (Nat.blt y 182) (prog_3_method_4_code) (prog_4_method_6_code)) (cond (Nat.blt y 184) (prog_4_method_5_code) (prog_1_method_27_code))) (cond (Nat.blt y 187) (cond (Nat.blt y 186) (method_24_code) (prog_9_method_37_code)) (cond (Nat.blt y 188) (prog_9_method_38_code) (prog_9_method_73_code))))))) (cond (Nat.blt y 221) (cond (Nat.blt y 205) (cond (Nat.blt y 197) (cond (Nat.blt y 193) (cond (Nat.blt y 191) (cond (Nat.blt y 190) (prog_5_method_9_code) (prog_5_method_3_code)) (cond (Nat.blt y 192) (prog_14_method_49_code) (prog_5_method_5_code))) (cond (Nat.blt y 195) (cond (Nat.blt y 194) (prog_5_method_4_code) (prog_5_method_10_code)) (cond (Nat.blt y 196) (prog_5_method_6_code) (prog_5_method_8_code)))) (cond (Nat.blt y 201) (cond (Nat.blt y 199) (cond (Nat.blt y 198) (prog_5_method_7_code) (prog_5_method_2_code)) (cond (Nat.blt y 200) (prog_6_method_24_code) (prog_1_method_28_code))) (cond (Nat.blt y 203) (cond (Nat.blt y 202) (method_25_code) (prog_9_method_74_code)) (cond (Nat.blt y 204) (prog_9_method_75_code) (prog_9_method_76_code))))) (cond (Nat.blt y 213) (cond (Nat.blt y 209) (cond (Nat.blt y 207) (cond (Nat.blt y 206) (prog_9_method_78_code) (prog_9_method_77_code)) (cond (Nat.blt y 208) (prog_9_method_79_code) (prog_6_method_25_code))) (cond (Nat.blt y 211) (cond (Nat.blt y 210) (prog_1_method_29_code) (method_26_code)) (cond (Nat.blt y 212) (prog_9_method_80_code) (prog_1_method_40_code)))) (cond (Nat.blt y 217) (cond (Nat.blt y 215) (cond (Nat.blt y 214) (prog_7_method_6_code) (prog_7_method_7_code)) (cond (Nat.blt y 216) (prog_7_method_4_code) (prog_7_method_5_code))) (cond (Nat.blt y 219) (cond (Nat.blt y 218) (prog_7_method_3_code) (prog_7_method_9_code)) (cond (Nat.blt y 220) (prog_7_method_10_code) (prog_7_method_11_code)))))) (cond (Nat.blt y 237) (cond (Nat.blt y 229) (cond (Nat.blt y 225) (cond (Nat.blt y 223) (cond (Nat.blt y 222) (prog_2_method_10_code) (prog_7_method_12_code)) (cond (Nat.blt y 224) (prog_7_method_8_code) (prog_5_method_11_code))) (cond (Nat.blt y 227) (cond (Nat.blt y 226) (prog_5_method_12_code) (prog_7_method_13_code)) (cond (Nat.blt y 228) (prog_7_method_2_code) (prog_1_method_30_code)))) (cond (Nat.blt y 233) (cond (Nat.blt y 231) (cond (Nat.blt y 230) (method_27_code) (prog_9_method_90_code)) (cond (Nat.blt y 232) (prog_9_method_81_code) (prog_9_method_82_code))) (cond (Nat.blt y 235) (cond (Nat.blt y 234) (prog_9_method_83_code) (prog_9_method_84_code)) (cond (Nat.blt y 236) (prog_9_method_85_code) (prog_9_method_86_code))))) (cond (Nat.blt y 245) (cond (Nat.blt y 241) (cond (Nat.blt y 239) (cond (Nat.blt y 238) (prog_9_method_87_code) (prog_9_method_88_code)) (cond (Nat.blt y 240) (prog_9_method_89_code) (prog_9_method_91_code))) (cond (Nat.blt y 243) (cond (Nat.blt y 242) (prog_1_method_31_code) (method_28_code)) (cond (Nat.blt y 244) (prog_9_method_92_code) (prog_1_method_32_code)))) (cond (Nat.blt y 249) (cond (Nat.blt y 247) (cond (Nat.blt y 246) (method_29_code) (prog_9_method_93_code)) (cond (Nat.blt y 248) (prog_1_method_42_code) (prog_1_method_41_code))) (cond (Nat.blt y 251) (cond (Nat.blt y 250) (prog_1_method_33_code) (prog_9_method_94_code)) (cond (Nat.blt y 252) (prog_9_method_95_code) (code))))))))
def zm_mx (y : Nat) : Nat := cond (Nat.blt y 126) (cond (Nat.blt y 63) (cond (Nat.blt y 31) (cond (Nat.blt y 15) (cond (Nat.blt y 7) (cond (Nat.blt y 3) (cond (Nat.blt y 1) (4) (cond (Nat.blt y 2) (1) (1))) (cond (Nat.blt y 5) (cond (Nat.blt y 4) (2) (1)) (cond (Nat.blt y 6) (1) (1)))) (cond (Nat.blt y 11) (cond (Nat.blt y 9) (cond (Nat.blt y 8) (1) (1)) (cond (Nat.blt y 10) (2) (6))) (cond (Nat.blt y 13) (cond (Nat.blt y 12) (1) (1)) (cond (Nat.blt y 14) (1) (3))))) (cond (Nat.blt y 23) (cond (Nat.blt y 19) (cond (Nat.blt y 17) (cond (Nat.blt y 16) (3) (2)) (cond (Nat.blt y 18) (3) (4))) (cond (Nat.blt y 21) (cond (Nat.blt y 20) (4) (3)) (cond (Nat.blt y 22) (4) (5)))) (cond (Nat.blt y 27) (cond (Nat.blt y 25) (cond (Nat.blt y 24) (7) (5)) (cond (Nat.blt y 26) (2) (5))) (cond (Nat.blt y 29) (cond (Nat.blt y 28) (4) (4)) (cond (Nat.blt y 30) (3) (4)))))) (cond (Nat.blt y 47) (cond (Nat.blt y 39) (cond (Nat.blt y 35) (cond (Nat.blt y 33) (cond (Nat.blt y 32) (5) (6)) (cond (Nat.blt y 34) (6) (2))) (cond (Nat.blt y 37) (cond (Nat.blt y 36) (3) (3)) (cond (Nat.blt y 38) (3) (2)))) (cond (Nat.blt y 43) (cond (Nat.blt y 41) (cond (Nat.blt y 40) (2) (2)) (cond (Nat.blt y 42) (9) (3))) (cond (Nat.blt y 45) (cond (Nat.blt y 44) (5) (3)) (cond (Nat.blt y 46) (1) (3))))) (cond (Nat.blt y 55) (cond (Nat.blt y 51) (cond (Nat.blt y 49) (cond (Nat.blt y 48) (5) (3)) (cond (Nat.blt y 50) (4) (4))) (cond (Nat.blt y 53) (cond (Nat.blt y 52) (4) (5)) (cond (Nat.blt y 54) (7) (4)))) (cond (Nat.blt y 59) (cond (Nat.blt y 57) (cond (Nat.blt y 56) (3) (6)) (cond (Nat.blt y 58) (4) (4))) (cond (Nat.blt y 61) (cond (Nat.blt y 60) (5) (5)) (cond (Nat.blt y 62) (3) (4))))))) (cond (Nat.blt y 94) (cond (Nat.blt y 78) (cond (Nat.blt y 70) (cond (Nat.blt y 66) (cond (Nat.blt y 64) (4) (cond (Nat.blt y 65) (8) (10))) (cond (Nat.blt y 68) (cond (Nat.blt y 67) (3) (1)) (cond (Nat.blt y 69) (3) (5)))) (cond (Nat.blt y 74) (cond (Nat.blt y 72) (cond (Nat.blt y 71) (3) (4)) (cond (Nat.blt y 73) (6) (4))) (cond (Nat.blt y 76) (cond (Nat.blt y 75) (4) (6)) (cond (Nat.blt y 77) (4) (4))))) (cond (Nat.blt y 86) (cond (Nat.blt y 82) (cond (Nat.blt y 80) (cond (Nat.blt y 79) (6) (1)) (cond (Nat.blt y 81) (4) (4))) (cond (Nat.blt y 84) (cond (Nat.blt y 83) (6) (4)) (cond (Nat.blt y 85) (5) (7)))) (cond (Nat.blt y 90) (cond (Nat.blt y 88) (cond (Nat.blt y 87) (5) (5)) (cond (Nat.blt y 89) (7) (5))) (cond (Nat.blt y 92) (cond (Nat.blt y 91) (6) (8)) (cond (Nat.blt y 93) (4) (6)))))) (cond (Nat.blt y 110) (cond (Nat.blt y 102) (cond (Nat.blt y 98) (cond (Nat.blt y 96) (cond (Nat.blt y 95) (6) (8)) (cond (Nat.blt y 97) (6) (3))) (cond (Nat.blt y 100) (cond (Nat.blt y 99) (2) (4)) (cond (Nat.blt y 101) (2) (3)))) (cond (Nat.blt y 106) (cond (Nat.blt y 104) (cond (Nat.blt y 103) (2) (2)) (cond (Nat.blt y 105) (4) (4))) (cond (Nat.blt y 108) (cond (Nat.blt y 107) (5) (5)) (cond (Nat.blt y 109) (2) (4))))) (cond (Nat.blt y 118) (cond (Nat.blt y 114) (cond (Nat.blt y 112) (cond (Nat.blt y 111) (1) (3)) (cond (Nat.blt y 113) (5) (5))) (cond (Nat.blt y 116) (cond (Nat.blt y 115) (3) (2)) (cond (Nat.blt y 117) (4) (5)))) (cond (Nat.blt y 122) (cond (Nat.blt y 120) (cond (Nat.blt y 119) (5) (4)) (cond (Nat.blt y 121) (4) (2))) (cond (Nat.blt y 124) (cond (Nat.blt y 123) (4) (2)) (cond (Nat.blt y 125) (1) (7)))))))) (cond (Nat.blt y 189) (cond (Nat.blt y 157) (cond (Nat.blt y 141) (cond (Nat.blt y 133) (cond (Nat.blt y 129) (cond (Nat.blt y 127) (8) (cond (Nat.blt y 128) (8) (2))) (cond (Nat.blt y 131) (cond (Nat.blt y 130) (1) (1)) (cond (Nat.blt y 132) (3) (4)))) (cond (Nat.blt y 137) (cond (Nat.blt y 135) (cond (Nat.blt y 134) (3) (4)) (cond (Nat.blt y 136) (3) (4))) (cond (Nat.blt y 139) (cond (Nat.blt y 138) (2) (1)) (cond (Nat.blt y 140) (3) (4))))) (cond (Nat.blt y 149) (cond (Nat.blt y 145) (cond (Nat.blt y 143) (cond (Nat.blt y 142) (2) (1)) (cond (Nat.blt y 144) (1) (1))) (cond (Nat.blt y 147) (cond (Nat.blt y 146) (2) (2)) (cond (Nat.blt y 148) (2) (4)))) (cond (Nat.blt y 153) (cond (Nat.blt y 151) (cond (Nat.blt y 150) (2) (4)) (cond (Nat.blt y 152) (5) (3))) (cond (Nat.blt y 155) (cond (Nat.blt y 154) (2) (2)) (cond (Nat.blt y 156) (4) (1)))))) (cond (Nat.blt y 173) (cond (Nat.blt y 165) (cond (Nat.blt y 161) (cond (Nat.blt y 159) (cond (Nat.blt y 158) (3) (5)) (cond (Nat.blt y 160) (6) (1))) (cond (Nat.blt y 163) (cond (Nat.blt y 162) (2) (3)) (cond (Nat.blt y 164) (5) (2)))) (cond (Nat.blt y 169) (cond (Nat.blt y 167) (cond (Nat.blt y 166) (2) (5)) (cond (Nat.blt y 168) (4) (2))) (cond (Nat.blt y 171) (cond (Nat.blt y 170) (4) (4)) (cond (Nat.blt y 172) (1) (6))))) (cond (Nat.blt y 181) (cond (Nat.blt y 177) (cond (Nat.blt y 175) (cond (Nat.blt y 174) (7) (5)) (cond (Nat.blt y 176) (2) (3))) (cond (Nat.blt y 179) (cond (Nat.blt y 178) (2) (4)) (cond (Nat.blt y 180) (4) (3)))) (cond (Nat.blt y 185) (cond (Nat.blt y 183) (cond (Nat.blt y 182) (3) (5)) (cond (Nat.blt y 184) (7) (2))) (cond (Nat.blt y 187) (cond (Nat.blt y 186) (4) (3)) (cond (Nat.blt y 188) (7) (2))))))) (cond (Nat.blt y 221) (cond (Nat.blt y 205) (cond (Nat.blt y 197) (cond (Nat.blt y 193) (cond (Nat.blt y 191) (cond (Nat.blt y 190) (3) (4)) (cond (Nat.blt y 192) (1) (8))) (cond (Nat.blt y 195) (cond (Nat.blt y 194) (5) (3)) (cond (Nat.blt y 196) (6) (6)))) (cond (Nat.blt y 201) (cond (Nat.blt y 199) (cond (Nat.blt y 198) (7) (3)) (cond (Nat.blt y 200) (2) (3))) (cond (Nat.blt y 203) (cond (Nat.blt y 202) (4) (6)) (cond (Nat.blt y 204) (3) (9))))) (cond (Nat.blt y 213) (cond (Nat.blt y 209) (cond (Nat.blt y 207) (cond (Nat.blt y 206) (6) (5)) (cond (Nat.blt y 208) (3) (2))) (cond (Nat.blt y 211) (cond (Nat.blt y 210) (5) (5)) (cond (Nat.blt y 212) (5) (3)))) (cond (Nat.blt y 217) (cond (Nat.blt y 215) (cond (Nat.blt y 214) (4) (4)) (cond (Nat.blt y 216) (4) (4))) (cond (Nat.blt y 219) (cond (Nat.blt y 218) (3) (2)) (cond (Nat.blt y 220) (3) (2)))))) (cond (Nat.blt y 237) (cond (Nat.blt y 229) (cond (Nat.blt y 225) (cond (Nat.blt y 223) (cond (Nat.blt y 222) (1) (5)) (cond (Nat.blt y 224) (4) (3))) (cond (Nat.blt y 227) (cond (Nat.blt y 226) (3) (4)) (cond (Nat.blt y 228) (11) (4)))) (cond (Nat.blt y 233) (cond (Nat.blt y 231) (cond (Nat.blt y 230) (5) (2)) (cond (Nat.blt y 232) (2) (4))) (cond (Nat.blt y 235) (cond (Nat.blt y 234) (6) (3)) (cond (Nat.blt y 236) (1) (5))))) (cond (Nat.blt y 245) (cond (Nat.blt y 241) (cond (Nat.blt y 239) (cond (Nat.blt y 238) (6) (7)) (cond (Nat.blt y 240) (7) (5))) (cond (Nat.blt y 243) (cond (Nat.blt y 242) (3) (5)) (cond (Nat.blt y 244) (3) (2)))) (cond (Nat.blt y 249) (cond (Nat.blt y 247) (cond (Nat.blt y 246) (4) (2)) (cond (Nat.blt y 248) (8) (7))) (cond (Nat.blt y 251) (cond (Nat.blt y 250) (3) (12)) (cond (Nat.blt y 252) (1) (7))))))))
def zm_rt (y : Nat) : Option FieldType := cond (Nat.blt y 126) (cond (Nat.blt y 63) (cond (Nat.blt y 31) (cond (Nat.blt y 15) (cond (Nat.blt y 7) (cond (Nat.blt y 3) (cond (Nat.blt y 1) ((none : Option FieldType)) (cond (Nat.blt y 2) ((none : Option FieldType)) ((none : Option FieldType)))) (cond (Nat.blt y 5) (cond (Nat.blt y 4) ((none : Option FieldType)) ((none : Option FieldType))) (cond (Nat.blt y 6) ((none : Option FieldType)) ((none : Option FieldType))))) (cond (Nat.blt y 11) (cond (Nat.blt y 9) (cond (Nat.blt y 8) ((none : Option FieldType)) ((none : Option FieldType))) (cond (Nat.blt y 10) ((some (FieldType.object "RefactoringReplay$Program"))) ((none : Option FieldType)))) (cond (Nat.blt y 13) (cond (Nat.blt y 12) ((some FieldType.boolean)) ((some FieldType.boolean))) (cond (Nat.blt y 14) ((some FieldType.boolean)) ((some FieldType.boolean)))))) (cond (Nat.blt y 23) (cond (Nat.blt y 19) (cond (Nat.blt y 17) (cond (Nat.blt y 16) ((some FieldType.int)) ((some FieldType.int))) (cond (Nat.blt y 18) ((some FieldType.int)) ((some FieldType.int)))) (cond (Nat.blt y 21) (cond (Nat.blt y 20) ((some FieldType.int)) ((some FieldType.int))) (cond (Nat.blt y 22) ((some FieldType.int)) ((none : Option FieldType))))) (cond (Nat.blt y 27) (cond (Nat.blt y 25) (cond (Nat.blt y 24) ((some FieldType.int)) ((some FieldType.boolean))) (cond (Nat.blt y 26) ((some FieldType.int)) ((some FieldType.int)))) (cond (Nat.blt y 29) (cond (Nat.blt y 28) ((some FieldType.int)) ((some FieldType.int))) (cond (Nat.blt y 30) ((some FieldType.boolean)) ((some FieldType.int))))))) (cond (Nat.blt y 47) (cond (Nat.blt y 39) (cond (Nat.blt y 35) (cond (Nat.blt y 33) (cond (Nat.blt y 32) ((some FieldType.int)) ((some FieldType.int))) (cond (Nat.blt y 34) ((some FieldType.int)) ((some FieldType.int)))) (cond (Nat.blt y 37) (cond (Nat.blt y 36) ((some FieldType.int)) ((some FieldType.int))) (cond (Nat.blt y 38) ((some FieldType.int)) ((some FieldType.int))))) (cond (Nat.blt y 43) (cond (Nat.blt y 41) (cond (Nat.blt y 40) ((none : Option FieldType)) ((none : Option FieldType))) (cond (Nat.blt y 42) ((some FieldType.int)) ((some FieldType.int)))) (cond (Nat.blt y 45) (cond (Nat.blt y 44) ((some FieldType.int)) ((some FieldType.boolean))) (cond (Nat.blt y 46) ((some FieldType.boolean)) ((some FieldType.int)))))) (cond (Nat.blt y 55) (cond (Nat.blt y 51) (cond (Nat.blt y 49) (cond (Nat.blt y 48) ((some FieldType.int)) ((some FieldType.int))) (cond (Nat.blt y 50) ((some FieldType.int)) ((some FieldType.int)))) (cond (Nat.blt y 53) (cond (Nat.blt y 52) ((some FieldType.int)) ((some FieldType.boolean))) (cond (Nat.blt y 54) ((some FieldType.int)) ((some FieldType.int))))) (cond (Nat.blt y 59) (cond (Nat.blt y 57) (cond (Nat.blt y 56) ((some FieldType.boolean)) ((some FieldType.boolean))) (cond (Nat.blt y 58) ((some FieldType.int)) ((some FieldType.int)))) (cond (Nat.blt y 61) (cond (Nat.blt y 60) ((some FieldType.int)) ((some FieldType.int))) (cond (Nat.blt y 62) ((some FieldType.int)) ((some FieldType.int)))))))) (cond (Nat.blt y 94) (cond (Nat.blt y 78) (cond (Nat.blt y 70) (cond (Nat.blt y 66) (cond (Nat.blt y 64) ((some FieldType.int)) (cond (Nat.blt y 65) ((some FieldType.int)) ((some FieldType.int)))) (cond (Nat.blt y 68) (cond (Nat.blt y 67) ((some FieldType.int)) ((some FieldType.int))) (cond (Nat.blt y 69) ((some FieldType.int)) ((some FieldType.int))))) (cond (Nat.blt y 74) (cond (Nat.blt y 72) (cond (Nat.blt y 71) ((some FieldType.int)) ((some FieldType.int))) (cond (Nat.blt y 73) ((some FieldType.int)) ((some FieldType.int)))) (cond (Nat.blt y 76) (cond (Nat.blt y 75) ((some FieldType.int)) ((some FieldType.int))) (cond (Nat.blt y 77) ((some FieldType.int)) ((some FieldType.int)))))) (cond (Nat.blt y 86) (cond (Nat.blt y 82) (cond (Nat.blt y 80) (cond (Nat.blt y 79) ((some FieldType.int)) ((some FieldType.boolean))) (cond (Nat.blt y 81) ((some FieldType.int)) ((some FieldType.int)))) (cond (Nat.blt y 84) (cond (Nat.blt y 83) ((some FieldType.int)) ((some FieldType.int))) (cond (Nat.blt y 85) ((some FieldType.int)) ((some FieldType.int))))) (cond (Nat.blt y 90) (cond (Nat.blt y 88) (cond (Nat.blt y 87) ((some FieldType.int)) ((some FieldType.int))) (cond (Nat.blt y 89) ((some FieldType.int)) ((some FieldType.int)))) (cond (Nat.blt y 92) (cond (Nat.blt y 91) ((some FieldType.int)) ((some FieldType.int))) (cond (Nat.blt y 93) ((some FieldType.boolean)) ((some FieldType.int))))))) (cond (Nat.blt y 110) (cond (Nat.blt y 102) (cond (Nat.blt y 98) (cond (Nat.blt y 96) (cond (Nat.blt y 95) ((some FieldType.int)) ((some FieldType.int))) (cond (Nat.blt y 97) ((some FieldType.int)) ((some FieldType.int)))) (cond (Nat.blt y 100) (cond (Nat.blt y 99) ((some FieldType.int)) ((some FieldType.int))) (cond (Nat.blt y 101) ((some FieldType.boolean)) ((none : Option FieldType))))) (cond (Nat.blt y 106) (cond (Nat.blt y 104) (cond (Nat.blt y 103) ((none : Option FieldType)) ((some FieldType.int))) (cond (Nat.blt y 105) ((some FieldType.int)) ((some FieldType.int)))) (cond (Nat.blt y 108) (cond (Nat.blt y 107) ((some FieldType.int)) ((some FieldType.int))) (cond (Nat.blt y 109) ((some FieldType.int)) ((some FieldType.int)))))) (cond (Nat.blt y 118) (cond (Nat.blt y 114) (cond (Nat.blt y 112) (cond (Nat.blt y 111) ((none : Option FieldType)) ((some FieldType.int))) (cond (Nat.blt y 113) ((some FieldType.int)) ((some FieldType.int)))) (cond (Nat.blt y 116) (cond (Nat.blt y 115) ((some FieldType.boolean)) ((some FieldType.int))) (cond (Nat.blt y 117) ((some FieldType.int)) ((some FieldType.int))))) (cond (Nat.blt y 122) (cond (Nat.blt y 120) (cond (Nat.blt y 119) ((some FieldType.int)) ((some FieldType.int))) (cond (Nat.blt y 121) ((some FieldType.int)) ((some FieldType.int)))) (cond (Nat.blt y 124) (cond (Nat.blt y 123) ((some FieldType.int)) ((some FieldType.int))) (cond (Nat.blt y 125) ((none : Option FieldType)) ((some FieldType.boolean))))))))) (cond (Nat.blt y 189) (cond (Nat.blt y 157) (cond (Nat.blt y 141) (cond (Nat.blt y 133) (cond (Nat.blt y 129) (cond (Nat.blt y 127) ((some FieldType.int)) (cond (Nat.blt y 128) ((some FieldType.boolean)) ((none : Option FieldType)))) (cond (Nat.blt y 131) (cond (Nat.blt y 130) ((some FieldType.int)) ((some FieldType.int))) (cond (Nat.blt y 132) ((some FieldType.int)) ((some FieldType.boolean))))) (cond (Nat.blt y 137) (cond (Nat.blt y 135) (cond (Nat.blt y 134) ((some FieldType.int)) ((some FieldType.int))) (cond (Nat.blt y 136) ((some FieldType.boolean)) ((some FieldType.boolean)))) (cond (Nat.blt y 139) (cond (Nat.blt y 138) ((some FieldType.boolean)) ((some FieldType.boolean))) (cond (Nat.blt y 140) ((some FieldType.int)) ((some FieldType.boolean)))))) (cond (Nat.blt y 149) (cond (Nat.blt y 145) (cond (Nat.blt y 143) (cond (Nat.blt y 142) ((some FieldType.boolean)) ((some FieldType.boolean))) (cond (Nat.blt y 144) ((some FieldType.int)) ((some FieldType.int)))) (cond (Nat.blt y 147) (cond (Nat.blt y 146) ((none : Option FieldType)) ((some (FieldType.object "RefactoringReplay$Change")))) (cond (Nat.blt y 148) ((some FieldType.int)) ((some FieldType.int))))) (cond (Nat.blt y 153) (cond (Nat.blt y 151) (cond (Nat.blt y 150) ((some FieldType.int)) ((some FieldType.int))) (cond (Nat.blt y 152) ((some FieldType.int)) ((some FieldType.int)))) (cond (Nat.blt y 155) (cond (Nat.blt y 154) ((some FieldType.int)) ((some FieldType.int))) (cond (Nat.blt y 156) ((none : Option FieldType)) ((some FieldType.int))))))) (cond (Nat.blt y 173) (cond (Nat.blt y 165) (cond (Nat.blt y 161) (cond (Nat.blt y 159) (cond (Nat.blt y 158) ((some FieldType.int)) ((some FieldType.int))) (cond (Nat.blt y 160) ((none : Option FieldType)) ((some FieldType.int)))) (cond (Nat.blt y 163) (cond (Nat.blt y 162) ((none : Option FieldType)) ((none : Option FieldType))) (cond (Nat.blt y 164) ((none : Option FieldType)) ((none : Option FieldType))))) (cond (Nat.blt y 169) (cond (Nat.blt y 167) (cond (Nat.blt y 166) ((none : Option FieldType)) ((some FieldType.boolean))) (cond (Nat.blt y 168) ((some FieldType.boolean)) ((some FieldType.boolean)))) (cond (Nat.blt y 171) (cond (Nat.blt y 170) ((some FieldType.int)) ((none : Option FieldType))) (cond (Nat.blt y 172) ((some FieldType.boolean)) ((none : Option FieldType)))))) (cond (Nat.blt y 181) (cond (Nat.blt y 177) (cond (Nat.blt y 175) (cond (Nat.blt y 174) ((none : Option FieldType)) ((some FieldType.boolean))) (cond (Nat.blt y 176) ((some FieldType.boolean)) ((none : Option FieldType)))) (cond (Nat.blt y 179) (cond (Nat.blt y 178) ((some FieldType.boolean)) ((some FieldType.int))) (cond (Nat.blt y 180) ((none : Option FieldType)) ((some FieldType.boolean))))) (cond (Nat.blt y 185) (cond (Nat.blt y 183) (cond (Nat.blt y 182) ((none : Option FieldType)) ((some FieldType.boolean))) (cond (Nat.blt y 184) ((some FieldType.int)) ((some FieldType.int)))) (cond (Nat.blt y 187) (cond (Nat.blt y 186) ((some FieldType.int)) ((none : Option FieldType))) (cond (Nat.blt y 188) ((some FieldType.int)) ((some FieldType.int)))))))) (cond (Nat.blt y 221) (cond (Nat.blt y 205) (cond (Nat.blt y 197) (cond (Nat.blt y 193) (cond (Nat.blt y 191) (cond (Nat.blt y 190) ((none : Option FieldType)) ((none : Option FieldType))) (cond (Nat.blt y 192) ((some FieldType.int)) ((some FieldType.int)))) (cond (Nat.blt y 195) (cond (Nat.blt y 194) ((none : Option FieldType)) ((none : Option FieldType))) (cond (Nat.blt y 196) ((none : Option FieldType)) ((some FieldType.int))))) (cond (Nat.blt y 201) (cond (Nat.blt y 199) (cond (Nat.blt y 198) ((none : Option FieldType)) ((none : Option FieldType))) (cond (Nat.blt y 200) ((some FieldType.int)) ((some FieldType.int)))) (cond (Nat.blt y 203) (cond (Nat.blt y 202) ((some FieldType.int)) ((some FieldType.boolean))) (cond (Nat.blt y 204) ((some FieldType.int)) ((some FieldType.int)))))) (cond (Nat.blt y 213) (cond (Nat.blt y 209) (cond (Nat.blt y 207) (cond (Nat.blt y 206) ((some FieldType.int)) ((none : Option FieldType))) (cond (Nat.blt y 208) ((some FieldType.int)) ((some FieldType.int)))) (cond (Nat.blt y 211) (cond (Nat.blt y 210) ((some FieldType.int)) ((some FieldType.int))) (cond (Nat.blt y 212) ((some FieldType.int)) ((none : Option FieldType))))) (cond (Nat.blt y 217) (cond (Nat.blt y 215) (cond (Nat.blt y 214) ((some FieldType.int)) ((some FieldType.int))) (cond (Nat.blt y 216) ((some FieldType.boolean)) ((some FieldType.boolean)))) (cond (Nat.blt y 219) (cond (Nat.blt y 218) ((some FieldType.boolean)) ((some FieldType.boolean))) (cond (Nat.blt y 220) ((some FieldType.boolean)) ((some FieldType.boolean))))))) (cond (Nat.blt y 237) (cond (Nat.blt y 229) (cond (Nat.blt y 225) (cond (Nat.blt y 223) (cond (Nat.blt y 222) ((none : Option FieldType)) ((some FieldType.int))) (cond (Nat.blt y 224) ((some FieldType.int)) ((none : Option FieldType)))) (cond (Nat.blt y 227) (cond (Nat.blt y 226) ((none : Option FieldType)) ((none : Option FieldType))) (cond (Nat.blt y 228) ((some FieldType.int)) ((some FieldType.int))))) (cond (Nat.blt y 233) (cond (Nat.blt y 231) (cond (Nat.blt y 230) ((some FieldType.int)) ((some FieldType.boolean))) (cond (Nat.blt y 232) ((some FieldType.int)) ((some FieldType.int)))) (cond (Nat.blt y 235) (cond (Nat.blt y 234) ((some FieldType.boolean)) ((some FieldType.boolean))) (cond (Nat.blt y 236) ((some FieldType.int)) ((some FieldType.int)))))) (cond (Nat.blt y 245) (cond (Nat.blt y 241) (cond (Nat.blt y 239) (cond (Nat.blt y 238) ((some FieldType.int)) ((none : Option FieldType))) (cond (Nat.blt y 240) ((some FieldType.int)) ((some FieldType.int)))) (cond (Nat.blt y 243) (cond (Nat.blt y 242) ((some FieldType.int)) ((some FieldType.int))) (cond (Nat.blt y 244) ((some FieldType.int)) ((some FieldType.int))))) (cond (Nat.blt y 249) (cond (Nat.blt y 247) (cond (Nat.blt y 246) ((some FieldType.int)) ((some FieldType.int))) (cond (Nat.blt y 248) ((some FieldType.long)) ((some FieldType.long)))) (cond (Nat.blt y 251) (cond (Nat.blt y 250) ((some FieldType.long)) ((some FieldType.long))) (cond (Nat.blt y 252) ((some FieldType.long)) (ret))))))))
def zm_own (y : Nat) : Nat := (zm_md y).2.2.1
def zm_lv (y : Nat) : Nat := (zm_md y).2.2.2.1
def zm_kd (y : Nat) : Nat := (zm_md y).2.2.2.2.1
def zm_ar (y : Nat) : Nat := (zm_md y).2.2.2.2.2
def zm_nm (y : Nat) : MethodName := ⟨zm_cn (zm_own y), (zm_md y).1, (zm_md y).2.1⟩
/-- handlers: from, to, exception, answer, target, slot, short form -/
abbrev zm_Hd : Type := Nat × Nat × Nat × Nat × Nat × Nat × Bool
def zm_hd (y : Nat) : List zm_Hd := cond (Nat.blt y 126) (cond (Nat.blt y 63) (cond (Nat.blt y 31) (cond (Nat.blt y 15) (cond (Nat.blt y 7) (cond (Nat.blt y 3) (cond (Nat.blt y 1) ([]) (cond (Nat.blt y 2) ([]) ([]))) (cond (Nat.blt y 5) (cond (Nat.blt y 4) ([]) ([])) (cond (Nat.blt y 6) ([]) ([])))) (cond (Nat.blt y 11) (cond (Nat.blt y 9) (cond (Nat.blt y 8) ([]) ([])) (cond (Nat.blt y 10) ([]) ([]))) (cond (Nat.blt y 13) (cond (Nat.blt y 12) ([]) ([])) (cond (Nat.blt y 14) ([]) ([]))))) (cond (Nat.blt y 23) (cond (Nat.blt y 19) (cond (Nat.blt y 17) (cond (Nat.blt y 16) ([]) ([])) (cond (Nat.blt y 18) ([]) ([]))) (cond (Nat.blt y 21) (cond (Nat.blt y 20) ([]) ([])) (cond (Nat.blt y 22) ([]) ([])))) (cond (Nat.blt y 27) (cond (Nat.blt y 25) (cond (Nat.blt y 24) ([]) ([])) (cond (Nat.blt y 26) ([]) ([]))) (cond (Nat.blt y 29) (cond (Nat.blt y 28) ([]) ([])) (cond (Nat.blt y 30) ([]) ([])))))) (cond (Nat.blt y 47) (cond (Nat.blt y 39) (cond (Nat.blt y 35) (cond (Nat.blt y 33) (cond (Nat.blt y 32) ([]) ([])) (cond (Nat.blt y 34) ([]) ([]))) (cond (Nat.blt y 37) (cond (Nat.blt y 36) ([]) ([])) (cond (Nat.blt y 38) ([]) ([])))) (cond (Nat.blt y 43) (cond (Nat.blt y 41) (cond (Nat.blt y 40) ([]) ([])) (cond (Nat.blt y 42) ([]) ([]))) (cond (Nat.blt y 45) (cond (Nat.blt y 44) ([(0, 10, 0, 1, 13, 4, false), (0, 10, 1, 2, 17, 4, false), (0, 10, 2, 3, 21, 4, false)]) ([])) (cond (Nat.blt y 46) ([]) ([]))))) (cond (Nat.blt y 55) (cond (Nat.blt y 51) (cond (Nat.blt y 49) (cond (Nat.blt y 48) ([]) ([])) (cond (Nat.blt y 50) ([]) ([]))) (cond (Nat.blt y 53) (cond (Nat.blt y 52) ([]) ([])) (cond (Nat.blt y 54) ([]) ([])))) (cond (Nat.blt y 59) (cond (Nat.blt y 57) (cond (Nat.blt y 56) ([]) ([])) (cond (Nat.blt y 58) ([]) ([]))) (cond (Nat.blt y 61) (cond (Nat.blt y 60) ([]) ([])) (cond (Nat.blt y 62) ([]) ([]))))))) (cond (Nat.blt y 94) (cond (Nat.blt y 78) (cond (Nat.blt y 70) (cond (Nat.blt y 66) (cond (Nat.blt y 64) ([]) (cond (Nat.blt y 65) ([]) ([]))) (cond (Nat.blt y 68) (cond (Nat.blt y 67) ([]) ([])) (cond (Nat.blt y 69) ([]) ([(0, 10, 0, 1, 13, 4, false), (0, 10, 1, 2, 17, 4, false), (0, 10, 2, 3, 21, 4, false)])))) (cond (Nat.blt y 74) (cond (Nat.blt y 72) (cond (Nat.blt y 71) ([]) ([])) (cond (Nat.blt y 73) ([(0, 12, 0, 1, 15, 5, false), (0, 12, 1, 2, 19, 5, false), (0, 12, 2, 3, 23, 5, false)]) ([]))) (cond (Nat.blt y 76) (cond (Nat.blt y 75) ([]) ([(0, 12, 0, 1, 15, 5, false), (0, 12, 1, 2, 19, 5, false), (0, 12, 2, 3, 23, 5, false)])) (cond (Nat.blt y 77) ([]) ([]))))) (cond (Nat.blt y 86) (cond (Nat.blt y 82) (cond (Nat.blt y 80) (cond (Nat.blt y 79) ([(0, 12, 0, 1, 15, 5, false), (0, 12, 1, 2, 19, 5, false), (0, 12, 2, 3, 23, 5, false)]) ([])) (cond (Nat.blt y 81) ([]) ([]))) (cond (Nat.blt y 84) (cond (Nat.blt y 83) ([(0, 12, 0, 1, 15, 5, false), (0, 12, 1, 2, 19, 5, false), (0, 12, 2, 3, 23, 5, false)]) ([])) (cond (Nat.blt y 85) ([]) ([(0, 14, 0, 1, 17, 6, false), (0, 14, 1, 2, 21, 6, false), (0, 14, 2, 3, 25, 6, false)])))) (cond (Nat.blt y 90) (cond (Nat.blt y 88) (cond (Nat.blt y 87) ([]) ([])) (cond (Nat.blt y 89) ([(0, 14, 0, 1, 17, 6, false), (0, 14, 1, 2, 21, 6, false), (0, 14, 2, 3, 25, 6, false)]) ([]))) (cond (Nat.blt y 92) (cond (Nat.blt y 91) ([]) ([(0, 16, 0, 1, 19, 7, false), (0, 16, 1, 2, 23, 7, false), (0, 16, 2, 3, 27, 7, false)])) (cond (Nat.blt y 93) ([]) ([])))))) (cond (Nat.blt y 110) (cond (Nat.blt y 102) (cond (Nat.blt y 98) (cond (Nat.blt y 96) (cond (Nat.blt y 95) ([]) ([(0, 16, 0, 1, 19, 7, false), (0, 16, 1, 2, 23, 7, false), (0, 16, 2, 3, 27, 7, false)])) (cond (Nat.blt y 97) ([]) ([]))) (cond (Nat.blt y 100) (cond (Nat.blt y 99) ([]) ([(0, 9, 0, 1, 12, 3, true)])) (cond (Nat.blt y 101) ([]) ([])))) (cond (Nat.blt y 106) (cond (Nat.blt y 104) (cond (Nat.blt y 103) ([]) ([])) (cond (Nat.blt y 105) ([]) ([]))) (cond (Nat.blt y 108) (cond (Nat.blt y 107) ([(0, 10, 0, 1, 13, 4, false)]) ([])) (cond (Nat.blt y 109) ([]) ([]))))) (cond (Nat.blt y 118) (cond (Nat.blt y 114) (cond (Nat.blt y 112) (cond (Nat.blt y 111) ([]) ([])) (cond (Nat.blt y 113) ([]) ([(0, 10, 0, 1, 13, 4, false), (0, 10, 1, 2, 17, 4, false)]))) (cond (Nat.blt y 116) (cond (Nat.blt y 115) ([]) ([])) (cond (Nat.blt y 117) ([]) ([])))) (cond (Nat.blt y 122) (cond (Nat.blt y 120) (cond (Nat.blt y 119) ([(0, 10, 0, 1, 13, 4, false), (0, 10, 1, 2, 17, 4, false)]) ([])) (cond (Nat.blt y 121) ([]) ([]))) (cond (Nat.blt y 124) (cond (Nat.blt y 123) ([(0, 9, 0, 1, 12, 3, true)]) ([])) (cond (Nat.blt y 125) ([]) ([])))))))) (cond (Nat.blt y 189) (cond (Nat.blt y 157) (cond (Nat.blt y 141) (cond (Nat.blt y 133) (cond (Nat.blt y 129) (cond (Nat.blt y 127) ([(0, 23, 0, 1, 26, 7, false), (0, 23, 1, 2, 30, 7, false)]) (cond (Nat.blt y 128) ([]) ([]))) (cond (Nat.blt y 131) (cond (Nat.blt y 130) ([]) ([])) (cond (Nat.blt y 132) ([]) ([])))) (cond (Nat.blt y 137) (cond (Nat.blt y 135) (cond (Nat.blt y 134) ([]) ([])) (cond (Nat.blt y 136) ([]) ([]))) (cond (Nat.blt y 139) (cond (Nat.blt y 138) ([]) ([])) (cond (Nat.blt y 140) ([]) ([]))))) (cond (Nat.blt y 149) (cond (Nat.blt y 145) (cond (Nat.blt y 143) (cond (Nat.blt y 142) ([]) ([])) (cond (Nat.blt y 144) ([]) ([]))) (cond (Nat.blt y 147) (cond (Nat.blt y 146) ([]) ([])) (cond (Nat.blt y 148) ([]) ([(0, 9, 0, 1, 12, 3, true)])))) (cond (Nat.blt y 153) (cond (Nat.blt y 151) (cond (Nat.blt y 150) ([]) ([])) (cond (Nat.blt y 152) ([(0, 10, 0, 1, 13, 4, false)]) ([]))) (cond (Nat.blt y 155) (cond (Nat.blt y 154) ([]) ([])) (cond (Nat.blt y 156) ([]) ([])))))) (cond (Nat.blt y 173) (cond (Nat.blt y 165) (cond (Nat.blt y 161) (cond (Nat.blt y 159) (cond (Nat.blt y 158) ([(0, 8, 2, 1, 11, 2, true)]) ([])) (cond (Nat.blt y 160) ([]) ([]))) (cond (Nat.blt y 163) (cond (Nat.blt y 162) ([]) ([])) (cond (Nat.blt y 164) ([]) ([])))) (cond (Nat.blt y 169) (cond (Nat.blt y 167) (cond (Nat.blt y 166) ([]) ([])) (cond (Nat.blt y 168) ([]) ([]))) (cond (Nat.blt y 171) (cond (Nat.blt y 170) ([(0, 16, 0, 1, 19, 3, true)]) ([])) (cond (Nat.blt y 172) ([]) ([]))))) (cond (Nat.blt y 181) (cond (Nat.blt y 177) (cond (Nat.blt y 175) (cond (Nat.blt y 174) ([]) ([])) (cond (Nat.blt y 176) ([]) ([]))) (cond (Nat.blt y 179) (cond (Nat.blt y 178) ([]) ([(0, 16, 0, 1, 19, 3, true)])) (cond (Nat.blt y 180) ([]) ([])))) (cond (Nat.blt y 185) (cond (Nat.blt y 183) (cond (Nat.blt y 182) ([]) ([])) (cond (Nat.blt y 184) ([]) ([]))) (cond (Nat.blt y 187) (cond (Nat.blt y 186) ([(0, 9, 0, 1, 12, 3, true)]) ([])) (cond (Nat.blt y 188) ([]) ([]))))))) (cond (Nat.blt y 221) (cond (Nat.blt y 205) (cond (Nat.blt y 197) (cond (Nat.blt y 193) (cond (Nat.blt y 191) (cond (Nat.blt y 190) ([]) ([])) (cond (Nat.blt y 192) ([]) ([]))) (cond (Nat.blt y 195) (cond (Nat.blt y 194) ([]) ([])) (cond (Nat.blt y 196) ([]) ([])))) (cond (Nat.blt y 201) (cond (Nat.blt y 199) (cond (Nat.blt y 198) ([]) ([])) (cond (Nat.blt y 200) ([]) ([]))) (cond (Nat.blt y 203) (cond (Nat.blt y 202) ([(0, 9, 1, 1, 12, 3, true)]) ([])) (cond (Nat.blt y 204) ([]) ([]))))) (cond (Nat.blt y 213) (cond (Nat.blt y 209) (cond (Nat.blt y 207) (cond (Nat.blt y 206) ([]) ([])) (cond (Nat.blt y 208) ([]) ([]))) (cond (Nat.blt y 211) (cond (Nat.blt y 210) ([]) ([(0, 10, 1, 1, 13, 4, false)])) (cond (Nat.blt y 212) ([]) ([])))) (cond (Nat.blt y 217) (cond (Nat.blt y 215) (cond (Nat.blt y 214) ([]) ([])) (cond (Nat.blt y 216) ([]) ([]))) (cond (Nat.blt y 219) (cond (Nat.blt y 218) ([]) ([])) (cond (Nat.blt y 220) ([]) ([])))))) (cond (Nat.blt y 237) (cond (Nat.blt y 229) (cond (Nat.blt y 225) (cond (Nat.blt y 223) (cond (Nat.blt y 222) ([]) ([])) (cond (Nat.blt y 224) ([]) ([]))) (cond (Nat.blt y 227) (cond (Nat.blt y 226) ([]) ([])) (cond (Nat.blt y 228) ([]) ([])))) (cond (Nat.blt y 233) (cond (Nat.blt y 231) (cond (Nat.blt y 230) ([(0, 10, 1, 1, 13, 4, false)]) ([])) (cond (Nat.blt y 232) ([]) ([]))) (cond (Nat.blt y 235) (cond (Nat.blt y 234) ([]) ([])) (cond (Nat.blt y 236) ([]) ([]))))) (cond (Nat.blt y 245) (cond (Nat.blt y 241) (cond (Nat.blt y 239) (cond (Nat.blt y 238) ([]) ([])) (cond (Nat.blt y 240) ([]) ([]))) (cond (Nat.blt y 243) (cond (Nat.blt y 242) ([]) ([(0, 10, 1, 1, 13, 4, false)])) (cond (Nat.blt y 244) ([]) ([])))) (cond (Nat.blt y 249) (cond (Nat.blt y 247) (cond (Nat.blt y 246) ([(0, 9, 0, 1, 12, 3, true)]) ([])) (cond (Nat.blt y 248) ([]) ([]))) (cond (Nat.blt y 251) (cond (Nat.blt y 250) ([]) ([])) (cond (Nat.blt y 252) ([]) ([]))))))))
def zm_hh (y : Nat) : List (Nat × Nat × Nat × Nat) := cond (Nat.blt y 126) (cond (Nat.blt y 63) (cond (Nat.blt y 31) (cond (Nat.blt y 15) (cond (Nat.blt y 7) (cond (Nat.blt y 3) (cond (Nat.blt y 1) ([]) (cond (Nat.blt y 2) ([]) ([]))) (cond (Nat.blt y 5) (cond (Nat.blt y 4) ([]) ([])) (cond (Nat.blt y 6) ([]) ([])))) (cond (Nat.blt y 11) (cond (Nat.blt y 9) (cond (Nat.blt y 8) ([]) ([])) (cond (Nat.blt y 10) ([]) ([]))) (cond (Nat.blt y 13) (cond (Nat.blt y 12) ([]) ([])) (cond (Nat.blt y 14) ([]) ([]))))) (cond (Nat.blt y 23) (cond (Nat.blt y 19) (cond (Nat.blt y 17) (cond (Nat.blt y 16) ([]) ([])) (cond (Nat.blt y 18) ([]) ([]))) (cond (Nat.blt y 21) (cond (Nat.blt y 20) ([]) ([])) (cond (Nat.blt y 22) ([]) ([])))) (cond (Nat.blt y 27) (cond (Nat.blt y 25) (cond (Nat.blt y 24) ([]) ([])) (cond (Nat.blt y 26) ([]) ([]))) (cond (Nat.blt y 29) (cond (Nat.blt y 28) ([]) ([])) (cond (Nat.blt y 30) ([]) ([])))))) (cond (Nat.blt y 47) (cond (Nat.blt y 39) (cond (Nat.blt y 35) (cond (Nat.blt y 33) (cond (Nat.blt y 32) ([]) ([])) (cond (Nat.blt y 34) ([]) ([]))) (cond (Nat.blt y 37) (cond (Nat.blt y 36) ([]) ([])) (cond (Nat.blt y 38) ([]) ([])))) (cond (Nat.blt y 43) (cond (Nat.blt y 41) (cond (Nat.blt y 40) ([]) ([])) (cond (Nat.blt y 42) ([]) ([]))) (cond (Nat.blt y 45) (cond (Nat.blt y 44) ([(0, 10, 13, 13), (0, 10, 17, 15), (0, 10, 21, 17)]) ([])) (cond (Nat.blt y 46) ([]) ([]))))) (cond (Nat.blt y 55) (cond (Nat.blt y 51) (cond (Nat.blt y 49) (cond (Nat.blt y 48) ([]) ([])) (cond (Nat.blt y 50) ([]) ([]))) (cond (Nat.blt y 53) (cond (Nat.blt y 52) ([]) ([])) (cond (Nat.blt y 54) ([]) ([])))) (cond (Nat.blt y 59) (cond (Nat.blt y 57) (cond (Nat.blt y 56) ([]) ([])) (cond (Nat.blt y 58) ([]) ([]))) (cond (Nat.blt y 61) (cond (Nat.blt y 60) ([]) ([])) (cond (Nat.blt y 62) ([]) ([]))))))) (cond (Nat.blt y 94) (cond (Nat.blt y 78) (cond (Nat.blt y 70) (cond (Nat.blt y 66) (cond (Nat.blt y 64) ([]) (cond (Nat.blt y 65) ([]) ([]))) (cond (Nat.blt y 68) (cond (Nat.blt y 67) ([]) ([])) (cond (Nat.blt y 69) ([]) ([(0, 10, 13, 13), (0, 10, 17, 15), (0, 10, 21, 17)])))) (cond (Nat.blt y 74) (cond (Nat.blt y 72) (cond (Nat.blt y 71) ([]) ([])) (cond (Nat.blt y 73) ([(0, 12, 15, 13), (0, 12, 19, 15), (0, 12, 23, 17)]) ([]))) (cond (Nat.blt y 76) (cond (Nat.blt y 75) ([]) ([(0, 12, 15, 13), (0, 12, 19, 15), (0, 12, 23, 17)])) (cond (Nat.blt y 77) ([]) ([]))))) (cond (Nat.blt y 86) (cond (Nat.blt y 82) (cond (Nat.blt y 80) (cond (Nat.blt y 79) ([(0, 12, 15, 13), (0, 12, 19, 15), (0, 12, 23, 17)]) ([])) (cond (Nat.blt y 81) ([]) ([]))) (cond (Nat.blt y 84) (cond (Nat.blt y 83) ([(0, 12, 15, 13), (0, 12, 19, 15), (0, 12, 23, 17)]) ([])) (cond (Nat.blt y 85) ([]) ([(0, 14, 17, 13), (0, 14, 21, 15), (0, 14, 25, 17)])))) (cond (Nat.blt y 90) (cond (Nat.blt y 88) (cond (Nat.blt y 87) ([]) ([])) (cond (Nat.blt y 89) ([(0, 14, 17, 13), (0, 14, 21, 15), (0, 14, 25, 17)]) ([]))) (cond (Nat.blt y 92) (cond (Nat.blt y 91) ([]) ([(0, 16, 19, 13), (0, 16, 23, 15), (0, 16, 27, 17)])) (cond (Nat.blt y 93) ([]) ([])))))) (cond (Nat.blt y 110) (cond (Nat.blt y 102) (cond (Nat.blt y 98) (cond (Nat.blt y 96) (cond (Nat.blt y 95) ([]) ([(0, 16, 19, 13), (0, 16, 23, 15), (0, 16, 27, 17)])) (cond (Nat.blt y 97) ([]) ([]))) (cond (Nat.blt y 100) (cond (Nat.blt y 99) ([]) ([(0, 9, 12, 13)])) (cond (Nat.blt y 101) ([]) ([])))) (cond (Nat.blt y 106) (cond (Nat.blt y 104) (cond (Nat.blt y 103) ([]) ([])) (cond (Nat.blt y 105) ([]) ([]))) (cond (Nat.blt y 108) (cond (Nat.blt y 107) ([(0, 10, 13, 13)]) ([])) (cond (Nat.blt y 109) ([]) ([]))))) (cond (Nat.blt y 118) (cond (Nat.blt y 114) (cond (Nat.blt y 112) (cond (Nat.blt y 111) ([]) ([])) (cond (Nat.blt y 113) ([]) ([(0, 10, 13, 13), (0, 10, 17, 15)]))) (cond (Nat.blt y 116) (cond (Nat.blt y 115) ([]) ([])) (cond (Nat.blt y 117) ([]) ([])))) (cond (Nat.blt y 122) (cond (Nat.blt y 120) (cond (Nat.blt y 119) ([(0, 10, 13, 13), (0, 10, 17, 15)]) ([])) (cond (Nat.blt y 121) ([]) ([]))) (cond (Nat.blt y 124) (cond (Nat.blt y 123) ([(0, 9, 12, 13)]) ([])) (cond (Nat.blt y 125) ([]) ([])))))))) (cond (Nat.blt y 189) (cond (Nat.blt y 157) (cond (Nat.blt y 141) (cond (Nat.blt y 133) (cond (Nat.blt y 129) (cond (Nat.blt y 127) ([(0, 23, 26, 13), (0, 23, 30, 15)]) (cond (Nat.blt y 128) ([]) ([]))) (cond (Nat.blt y 131) (cond (Nat.blt y 130) ([]) ([])) (cond (Nat.blt y 132) ([]) ([])))) (cond (Nat.blt y 137) (cond (Nat.blt y 135) (cond (Nat.blt y 134) ([]) ([])) (cond (Nat.blt y 136) ([]) ([]))) (cond (Nat.blt y 139) (cond (Nat.blt y 138) ([]) ([])) (cond (Nat.blt y 140) ([]) ([]))))) (cond (Nat.blt y 149) (cond (Nat.blt y 145) (cond (Nat.blt y 143) (cond (Nat.blt y 142) ([]) ([])) (cond (Nat.blt y 144) ([]) ([]))) (cond (Nat.blt y 147) (cond (Nat.blt y 146) ([]) ([])) (cond (Nat.blt y 148) ([]) ([(0, 9, 12, 13)])))) (cond (Nat.blt y 153) (cond (Nat.blt y 151) (cond (Nat.blt y 150) ([]) ([])) (cond (Nat.blt y 152) ([(0, 10, 13, 13)]) ([]))) (cond (Nat.blt y 155) (cond (Nat.blt y 154) ([]) ([])) (cond (Nat.blt y 156) ([]) ([])))))) (cond (Nat.blt y 173) (cond (Nat.blt y 165) (cond (Nat.blt y 161) (cond (Nat.blt y 159) (cond (Nat.blt y 158) ([(0, 8, 11, 17)]) ([])) (cond (Nat.blt y 160) ([]) ([]))) (cond (Nat.blt y 163) (cond (Nat.blt y 162) ([]) ([])) (cond (Nat.blt y 164) ([]) ([])))) (cond (Nat.blt y 169) (cond (Nat.blt y 167) (cond (Nat.blt y 166) ([]) ([])) (cond (Nat.blt y 168) ([]) ([]))) (cond (Nat.blt y 171) (cond (Nat.blt y 170) ([(0, 16, 19, 13)]) ([])) (cond (Nat.blt y 172) ([]) ([]))))) (cond (Nat.blt y 181) (cond (Nat.blt y 177) (cond (Nat.blt y 175) (cond (Nat.blt y 174) ([]) ([])) (cond (Nat.blt y 176) ([]) ([]))) (cond (Nat.blt y 179) (cond (Nat.blt y 178) ([]) ([(0, 16, 19, 13)])) (cond (Nat.blt y 180) ([]) ([])))) (cond (Nat.blt y 185) (cond (Nat.blt y 183) (cond (Nat.blt y 182) ([]) ([])) (cond (Nat.blt y 184) ([]) ([]))) (cond (Nat.blt y 187) (cond (Nat.blt y 186) ([(0, 9, 12, 13)]) ([])) (cond (Nat.blt y 188) ([]) ([]))))))) (cond (Nat.blt y 221) (cond (Nat.blt y 205) (cond (Nat.blt y 197) (cond (Nat.blt y 193) (cond (Nat.blt y 191) (cond (Nat.blt y 190) ([]) ([])) (cond (Nat.blt y 192) ([]) ([]))) (cond (Nat.blt y 195) (cond (Nat.blt y 194) ([]) ([])) (cond (Nat.blt y 196) ([]) ([])))) (cond (Nat.blt y 201) (cond (Nat.blt y 199) (cond (Nat.blt y 198) ([]) ([])) (cond (Nat.blt y 200) ([]) ([]))) (cond (Nat.blt y 203) (cond (Nat.blt y 202) ([(0, 9, 12, 15)]) ([])) (cond (Nat.blt y 204) ([]) ([]))))) (cond (Nat.blt y 213) (cond (Nat.blt y 209) (cond (Nat.blt y 207) (cond (Nat.blt y 206) ([]) ([])) (cond (Nat.blt y 208) ([]) ([]))) (cond (Nat.blt y 211) (cond (Nat.blt y 210) ([]) ([(0, 10, 13, 15)])) (cond (Nat.blt y 212) ([]) ([])))) (cond (Nat.blt y 217) (cond (Nat.blt y 215) (cond (Nat.blt y 214) ([]) ([])) (cond (Nat.blt y 216) ([]) ([]))) (cond (Nat.blt y 219) (cond (Nat.blt y 218) ([]) ([])) (cond (Nat.blt y 220) ([]) ([])))))) (cond (Nat.blt y 237) (cond (Nat.blt y 229) (cond (Nat.blt y 225) (cond (Nat.blt y 223) (cond (Nat.blt y 222) ([]) ([])) (cond (Nat.blt y 224) ([]) ([]))) (cond (Nat.blt y 227) (cond (Nat.blt y 226) ([]) ([])) (cond (Nat.blt y 228) ([]) ([])))) (cond (Nat.blt y 233) (cond (Nat.blt y 231) (cond (Nat.blt y 230) ([(0, 10, 13, 15)]) ([])) (cond (Nat.blt y 232) ([]) ([]))) (cond (Nat.blt y 235) (cond (Nat.blt y 234) ([]) ([])) (cond (Nat.blt y 236) ([]) ([]))))) (cond (Nat.blt y 245) (cond (Nat.blt y 241) (cond (Nat.blt y 239) (cond (Nat.blt y 238) ([]) ([])) (cond (Nat.blt y 240) ([]) ([]))) (cond (Nat.blt y 243) (cond (Nat.blt y 242) ([]) ([(0, 10, 13, 15)])) (cond (Nat.blt y 244) ([]) ([])))) (cond (Nat.blt y 249) (cond (Nat.blt y 247) (cond (Nat.blt y 246) ([(0, 9, 12, 13)]) ([])) (cond (Nat.blt y 248) ([]) ([]))) (cond (Nat.blt y 251) (cond (Nat.blt y 250) ([]) ([])) (cond (Nat.blt y 252) ([]) ([]))))))))
/-- places of the words: code, initialized, static or instanceMethod, selects -/
def zm_pl (y : Nat) : Nat × Nat × Nat × Nat := cond (Nat.blt y 126) (cond (Nat.blt y 63) (cond (Nat.blt y 31) (cond (Nat.blt y 15) (cond (Nat.blt y 7) (cond (Nat.blt y 3) (cond (Nat.blt y 1) ((115, 82, 114, 0)) (cond (Nat.blt y 2) ((111, 81, 110, 0)) ((152, 84, 151, 0)))) (cond (Nat.blt y 5) (cond (Nat.blt y 4) ((145, 83, 144, 0)) ((200, 85, 199, 0))) (cond (Nat.blt y 6) ((234, 86, 233, 0)) ((259, 87, 258, 0))))) (cond (Nat.blt y 11) (cond (Nat.blt y 9) (cond (Nat.blt y 8) ((103, 80, 102, 0)) ((1049, 88, 1048, 0))) (cond (Nat.blt y 10) ((438, 80, 437, 5)) ((510, 84, 508, 509)))) (cond (Nat.blt y 13) (cond (Nat.blt y 12) ((517, 80, 516, 0)) ((520, 80, 519, 0))) (cond (Nat.blt y 14) ((524, 84, 522, 523)) ((514, 84, 512, 513)))))) (cond (Nat.blt y 23) (cond (Nat.blt y 19) (cond (Nat.blt y 17) (cond (Nat.blt y 16) ((360, 81, 358, 359)) ((567, 81, 566, 0))) (cond (Nat.blt y 18) ((564, 81, 563, 7)) ((411, 81, 409, 410)))) (cond (Nat.blt y 21) (cond (Nat.blt y 20) ((576, 81, 575, 9)) ((571, 81, 570, 8))) (cond (Nat.blt y 22) ((580, 81, 579, 10)) ((588, 81, 587, 12))))) (cond (Nat.blt y 27) (cond (Nat.blt y 25) (cond (Nat.blt y 24) ((584, 81, 583, 11)) ((596, 81, 595, 14))) (cond (Nat.blt y 26) ((600, 81, 599, 15)) ((592, 81, 591, 13)))) (cond (Nat.blt y 29) (cond (Nat.blt y 28) ((380, 81, 378, 379)) ((608, 81, 606, 607))) (cond (Nat.blt y 30) ((388, 81, 386, 387)) ((420, 81, 418, 419))))))) (cond (Nat.blt y 47) (cond (Nat.blt y 39) (cond (Nat.blt y 35) (cond (Nat.blt y 33) (cond (Nat.blt y 32) ((604, 81, 603, 16)) ((613, 81, 612, 17))) (cond (Nat.blt y 34) ((617, 81, 616, 18)) ((349, 95, 348, 0)))) (cond (Nat.blt y 37) (cond (Nat.blt y 36) ((346, 81, 344, 345)) ((621, 81, 620, 19))) (cond (Nat.blt y 38) ((625, 81, 624, 20)) ((560, 81, 558, 559))))) (cond (Nat.blt y 43) (cond (Nat.blt y 41) (cond (Nat.blt y 40) ((634, 84, 632, 633)) ((630, 83, 628, 629))) (cond (Nat.blt y 42) ((434, 80, 433, 4)) ((430, 80, 428, 429)))) (cond (Nat.blt y 45) (cond (Nat.blt y 44) ((423, 79, 422, 0)) ((1140, 88, 1139, 0))) (cond (Nat.blt y 46) ((1137, 88, 1136, 0)) ((1151, 88, 1150, 0)))))) (cond (Nat.blt y 55) (cond (Nat.blt y 51) (cond (Nat.blt y 49) (cond (Nat.blt y 48) ((1158, 88, 1157, 0)) ((1161, 88, 1160, 0))) (cond (Nat.blt y 50) ((1155, 88, 1154, 47)) ((1165, 88, 1164, 48)))) (cond (Nat.blt y 53) (cond (Nat.blt y 52) ((1169, 88, 1168, 49)) ((1176, 88, 1175, 0))) (cond (Nat.blt y 54) ((1173, 88, 1172, 50)) ((1183, 88, 1182, 0))))) (cond (Nat.blt y 59) (cond (Nat.blt y 57) (cond (Nat.blt y 56) ((1189, 88, 1188, 0)) ((1186, 88, 1185, 0))) (cond (Nat.blt y 58) ((1180, 88, 1179, 51)) ((1193, 88, 1192, 52)))) (cond (Nat.blt y 61) (cond (Nat.blt y 60) ((1197, 88, 1196, 53)) ((1201, 88, 1200, 54))) (cond (Nat.blt y 62) ((1204, 88, 1203, 0)) ((1208, 88, 1207, 55)))))))) (cond (Nat.blt y 94) (cond (Nat.blt y 78) (cond (Nat.blt y 70) (cond (Nat.blt y 66) (cond (Nat.blt y 64) ((1212, 88, 1211, 56)) (cond (Nat.blt y 65) ((1148, 88, 1147, 46)) ((1144, 88, 1143, 45)))) (cond (Nat.blt y 68) (cond (Nat.blt y 67) ((1134, 88, 1132, 1133)) ((1130, 88, 1128, 1129))) (cond (Nat.blt y 69) ((642, 80, 640, 641)) ((638, 79, 637, 0))))) (cond (Nat.blt y 74) (cond (Nat.blt y 72) (cond (Nat.blt y 71) ((1216, 88, 1214, 1215)) ((649, 80, 647, 648))) (cond (Nat.blt y 73) ((645, 79, 644, 0)) ((1220, 88, 1218, 1219)))) (cond (Nat.blt y 76) (cond (Nat.blt y 75) ((656, 80, 654, 655)) ((652, 79, 651, 0))) (cond (Nat.blt y 77) ((1224, 88, 1222, 1223)) ((663, 80, 661, 662)))))) (cond (Nat.blt y 86) (cond (Nat.blt y 82) (cond (Nat.blt y 80) (cond (Nat.blt y 79) ((659, 79, 658, 0)) ((1231, 88, 1230, 0))) (cond (Nat.blt y 81) ((1228, 88, 1226, 1227)) ((670, 80, 668, 669)))) (cond (Nat.blt y 84) (cond (Nat.blt y 83) ((666, 79, 665, 0)) ((1235, 88, 1233, 1234))) (cond (Nat.blt y 85) ((677, 80, 675, 676)) ((673, 79, 672, 0))))) (cond (Nat.blt y 90) (cond (Nat.blt y 88) (cond (Nat.blt y 87) ((1239, 88, 1237, 1238)) ((684, 80, 682, 683))) (cond (Nat.blt y 89) ((680, 79, 679, 0)) ((1243, 88, 1241, 1242)))) (cond (Nat.blt y 92) (cond (Nat.blt y 91) ((691, 80, 689, 690)) ((687, 79, 686, 0))) (cond (Nat.blt y 93) ((1250, 88, 1249, 0)) ((1247, 88, 1245, 1246))))))) (cond (Nat.blt y 110) (cond (Nat.blt y 102) (cond (Nat.blt y 98) (cond (Nat.blt y 96) (cond (Nat.blt y 95) ((698, 80, 696, 697)) ((694, 79, 693, 0))) (cond (Nat.blt y 97) ((1254, 88, 1252, 1253)) ((329, 81, 327, 328)))) (cond (Nat.blt y 100) (cond (Nat.blt y 99) ((705, 80, 703, 704)) ((701, 79, 700, 0))) (cond (Nat.blt y 101) ((1262, 88, 1261, 57)) ((1269, 88, 1268, 0))))) (cond (Nat.blt y 106) (cond (Nat.blt y 104) (cond (Nat.blt y 103) ((1266, 88, 1265, 58)) ((1258, 88, 1256, 1257))) (cond (Nat.blt y 105) ((716, 81, 714, 715)) ((712, 80, 710, 711)))) (cond (Nat.blt y 108) (cond (Nat.blt y 107) ((708, 79, 707, 0)) ((1276, 88, 1275, 0))) (cond (Nat.blt y 109) ((1280, 88, 1279, 59)) ((1273, 88, 1271, 1272)))))) (cond (Nat.blt y 118) (cond (Nat.blt y 114) (cond (Nat.blt y 112) (cond (Nat.blt y 111) ((727, 80, 726, 0)) ((364, 81, 362, 363))) (cond (Nat.blt y 113) ((724, 80, 722, 723)) ((720, 79, 719, 0)))) (cond (Nat.blt y 116) (cond (Nat.blt y 115) ((1288, 88, 1287, 60)) ((1291, 88, 1290, 0))) (cond (Nat.blt y 117) ((1284, 88, 1282, 1283)) ((736, 80, 734, 735))))) (cond (Nat.blt y 122) (cond (Nat.blt y 120) (cond (Nat.blt y 119) ((732, 79, 731, 0)) ((1298, 88, 1297, 0))) (cond (Nat.blt y 121) ((1295, 88, 1293, 1294)) ((743, 80, 741, 742)))) (cond (Nat.blt y 124) (cond (Nat.blt y 123) ((739, 79, 738, 0)) ((1302, 88, 1300, 1301))) (cond (Nat.blt y 125) ((754, 80, 753, 0)) ((751, 80, 749, 750))))))))) (cond (Nat.blt y 189) (cond (Nat.blt y 157) (cond (Nat.blt y 141) (cond (Nat.blt y 133) (cond (Nat.blt y 129) (cond (Nat.blt y 127) ((747, 79, 746, 0)) (cond (Nat.blt y 128) ((1306, 88, 1304, 1305)) ((322, 81, 320, 321)))) (cond (Nat.blt y 131) (cond (Nat.blt y 130) ((318, 80, 316, 317)) ((1310, 88, 1308, 1309))) (cond (Nat.blt y 132) ((342, 81, 340, 341)) ((356, 81, 355, 0))))) (cond (Nat.blt y 137) (cond (Nat.blt y 135) (cond (Nat.blt y 134) ((376, 81, 374, 375)) ((372, 81, 371, 2))) (cond (Nat.blt y 136) ((368, 81, 367, 1)) ((384, 81, 383, 3)))) (cond (Nat.blt y 139) (cond (Nat.blt y 138) ((337, 81, 335, 336)) ((333, 80, 331, 332))) (cond (Nat.blt y 140) ((1323, 88, 1322, 0)) ((1320, 88, 1319, 0)))))) (cond (Nat.blt y 149) (cond (Nat.blt y 145) (cond (Nat.blt y 143) (cond (Nat.blt y 142) ((1317, 88, 1316, 0)) ((1314, 88, 1312, 1313))) (cond (Nat.blt y 144) ((392, 80, 390, 391)) ((1327, 88, 1325, 1326)))) (cond (Nat.blt y 147) (cond (Nat.blt y 146) ((769, 80, 768, 21)) ((774, 83, 772, 773))) (cond (Nat.blt y 148) ((765, 80, 763, 764)) ((761, 79, 760, 0))))) (cond (Nat.blt y 153) (cond (Nat.blt y 151) (cond (Nat.blt y 150) ((1331, 88, 1329, 1330)) ((787, 80, 785, 786))) (cond (Nat.blt y 152) ((783, 79, 782, 0)) ((1335, 88, 1333, 1334)))) (cond (Nat.blt y 155) (cond (Nat.blt y 154) ((396, 80, 394, 395)) ((1339, 88, 1337, 1338))) (cond (Nat.blt y 156) ((800, 81, 798, 799)) ((795, 80, 793, 794))))))) (cond (Nat.blt y 173) (cond (Nat.blt y 165) (cond (Nat.blt y 161) (cond (Nat.blt y 159) (cond (Nat.blt y 158) ((791, 79, 790, 0)) ((1351, 88, 1350, 62))) (cond (Nat.blt y 160) ((1347, 88, 1346, 61)) ((1343, 88, 1341, 1342)))) (cond (Nat.blt y 163) (cond (Nat.blt y 162) ((813, 80, 812, 22)) ((834, 84, 833, 24))) (cond (Nat.blt y 164) ((838, 84, 837, 25)) ((830, 84, 828, 829))))) (cond (Nat.blt y 169) (cond (Nat.blt y 167) (cond (Nat.blt y 166) ((842, 84, 840, 841)) ((824, 85, 823, 23))) (cond (Nat.blt y 168) ((818, 85, 816, 817)) ((809, 80, 807, 808)))) (cond (Nat.blt y 171) (cond (Nat.blt y 170) ((805, 79, 804, 0)) ((1365, 88, 1364, 0))) (cond (Nat.blt y 172) ((1371, 88, 1370, 0)) ((1368, 88, 1367, 0)))))) (cond (Nat.blt y 181) (cond (Nat.blt y 177) (cond (Nat.blt y 175) (cond (Nat.blt y 174) ((1362, 88, 1361, 0)) ((1359, 88, 1358, 63))) (cond (Nat.blt y 176) ((1355, 88, 1353, 1354)) ((855, 85, 853, 854)))) (cond (Nat.blt y 179) (cond (Nat.blt y 178) ((851, 80, 849, 850)) ((847, 79, 846, 0))) (cond (Nat.blt y 180) ((1379, 88, 1378, 64)) ((1375, 88, 1373, 1374))))) (cond (Nat.blt y 185) (cond (Nat.blt y 183) (cond (Nat.blt y 182) ((870, 83, 868, 869)) ((874, 85, 873, 26))) (cond (Nat.blt y 184) ((866, 85, 864, 865)) ((862, 80, 860, 861)))) (cond (Nat.blt y 187) (cond (Nat.blt y 186) ((858, 79, 857, 0)) ((1390, 88, 1389, 0))) (cond (Nat.blt y 188) ((1387, 88, 1386, 65)) ((1383, 88, 1381, 1382)))))))) (cond (Nat.blt y 221) (cond (Nat.blt y 205) (cond (Nat.blt y 197) (cond (Nat.blt y 193) (cond (Nat.blt y 191) (cond (Nat.blt y 190) ((896, 86, 894, 895)) ((891, 86, 890, 27))) (cond (Nat.blt y 192) ((908, 98, 907, 0)) ((905, 86, 904, 29)))) (cond (Nat.blt y 195) (cond (Nat.blt y 194) ((900, 86, 899, 28)) ((920, 86, 918, 919))) (cond (Nat.blt y 196) ((915, 86, 914, 30)) ((928, 86, 927, 32))))) (cond (Nat.blt y 201) (cond (Nat.blt y 199) (cond (Nat.blt y 198) ((924, 86, 923, 31)) ((886, 86, 884, 885))) (cond (Nat.blt y 200) ((932, 81, 930, 931)) ((882, 80, 880, 881)))) (cond (Nat.blt y 203) (cond (Nat.blt y 202) ((878, 79, 877, 0)) ((1406, 88, 1405, 68))) (cond (Nat.blt y 204) ((1409, 88, 1408, 0)) ((1402, 88, 1401, 67)))))) (cond (Nat.blt y 213) (cond (Nat.blt y 209) (cond (Nat.blt y 207) (cond (Nat.blt y 206) ((1413, 88, 1412, 69)) ((1398, 88, 1397, 66))) (cond (Nat.blt y 208) ((1394, 88, 1392, 1393)) ((944, 81, 942, 943)))) (cond (Nat.blt y 211) (cond (Nat.blt y 210) ((939, 80, 937, 938)) ((935, 79, 934, 0))) (cond (Nat.blt y 212) ((1417, 88, 1415, 1416)) ((955, 80, 954, 33))))) (cond (Nat.blt y 217) (cond (Nat.blt y 215) (cond (Nat.blt y 214) ((972, 87, 971, 35)) ((982, 87, 981, 37))) (cond (Nat.blt y 216) ((978, 87, 977, 36)) ((989, 87, 988, 38)))) (cond (Nat.blt y 219) (cond (Nat.blt y 218) ((967, 87, 966, 34)) ((998, 87, 997, 40))) (cond (Nat.blt y 220) ((1002, 87, 1001, 41)) ((1006, 87, 1005, 42))))))) (cond (Nat.blt y 237) (cond (Nat.blt y 229) (cond (Nat.blt y 225) (cond (Nat.blt y 223) (cond (Nat.blt y 222) ((1014, 84, 1012, 1013)) ((1010, 87, 1009, 43))) (cond (Nat.blt y 224) ((993, 87, 992, 39)) ((1022, 86, 1020, 1021)))) (cond (Nat.blt y 227) (cond (Nat.blt y 226) ((1026, 86, 1024, 1025)) ((1018, 87, 1017, 44))) (cond (Nat.blt y 228) ((960, 87, 958, 959)) ((951, 80, 949, 950))))) (cond (Nat.blt y 233) (cond (Nat.blt y 231) (cond (Nat.blt y 230) ((947, 79, 946, 0)) ((1425, 88, 1424, 70))) (cond (Nat.blt y 232) ((1441, 88, 1440, 74)) ((1445, 88, 1444, 75)))) (cond (Nat.blt y 235) (cond (Nat.blt y 234) ((1437, 88, 1436, 73)) ((1449, 88, 1448, 76))) (cond (Nat.blt y 236) ((1456, 88, 1455, 0)) ((1453, 88, 1452, 77)))))) (cond (Nat.blt y 245) (cond (Nat.blt y 241) (cond (Nat.blt y 239) (cond (Nat.blt y 238) ((1433, 88, 1432, 72)) ((1460, 88, 1459, 78))) (cond (Nat.blt y 240) ((1429, 88, 1428, 71)) ((1421, 88, 1419, 1420)))) (cond (Nat.blt y 243) (cond (Nat.blt y 242) ((1036, 80, 1034, 1035)) ((1032, 79, 1031, 0))) (cond (Nat.blt y 244) ((1464, 88, 1462, 1463)) ((1043, 80, 1041, 1042))))) (cond (Nat.blt y 249) (cond (Nat.blt y 247) (cond (Nat.blt y 246) ((1039, 79, 1038, 0)) ((1468, 88, 1466, 1467))) (cond (Nat.blt y 248) ((414, 80, 413, 0)) ((404, 80, 403, 0)))) (cond (Nat.blt y 251) (cond (Nat.blt y 250) ((400, 80, 398, 399)) ((1477, 88, 1476, 0))) (cond (Nat.blt y 252) ((1472, 88, 1470, 1471)) ((0, 0, 0, 0)))))))))
def zm_cw (y : Nat) : Cond := cond (Nat.beq (zm_kd y) 3) (.codeWith (zm_nm y) (zm_by y) (zm_mx y) (zm_rt y) (zm_hh y)) (.code (zm_nm y) (zm_by y) (zm_mx y) (zm_rt y))
def zm_kw (y : Nat) : Cond := cond (Nat.beq (zm_kd y) 0 || Nat.beq (zm_kd y) 3) (.static (zm_nm y)) (.instanceMethod (zm_nm y))
def zm_at (w : Cond) (k : Nat) : Bool := decide (lw_tbl[k]? = some w)
def zm_okm (y : Nat) : Bool := zm_at (zm_cw y) (zm_pl y).1 && zm_at (.initialized (zm_nm y).cls) (zm_pl y).2.1 && zm_at (zm_kw y) (zm_pl y).2.2.1 && (!(Nat.beq (zm_kd y) 1) || zm_at (.selects (zm_nm y).cls (zm_nm y) (zm_nm y)) (zm_pl y).2.2.2)
def zm_nM : Nat := 252
/-- field links: class, index, class of the field, its number -/
def zm_fl : List (Nat × Nat × Nat × Nat) := [(0, 9, 0, 0), (0, 15, 0, 1), (0, 18, 0, 2), (0, 21, 0, 3), (0, 24, 0, 4), (1, 11, 1, 0), (1, 18, 1, 1), (2, 12, 2, 0), (2, 18, 2, 1), (2, 21, 2, 2), (2, 27, 2, 3), (2, 31, 2, 4), (2, 37, 2, 5), (2, 41, 2, 6), (3, 9, 3, 0), (3, 15, 3, 1), (3, 18, 3, 2), (3, 21, 3, 3), (3, 43, 4, 0), (3, 68, 4, 4), (3, 71, 4, 3), (4, 9, 4, 0), (4, 15, 4, 1), (4, 18, 4, 2), (4, 21, 4, 3), (4, 24, 4, 4), (4, 27, 4, 5), (4, 43, 0, 0), (4, 49, 0, 1), (4, 59, 0, 3), (4, 69, 0, 2), (4, 78, 0, 4), (5, 12, 5, 0), (5, 21, 5, 1), (5, 28, 5, 2), (5, 32, 5, 3), (5, 44, 1, 1), (5, 69, 0, 0), (5, 72, 0, 1), (5, 79, 0, 3), (5, 88, 0, 2), (5, 102, 0, 4), (5, 108, 3, 0), (5, 117, 3, 2), (5, 139, 3, 1), (5, 142, 3, 3), (6, 10, 6, 0), (6, 16, 6, 1), (6, 19, 6, 2), (6, 22, 6, 3), (6, 28, 6, 4), (6, 35, 6, 5), (6, 42, 6, 6), (6, 49, 6, 7), (6, 56, 6, 8), (6, 60, 6, 9), (6, 64, 6, 10), (6, 126, 1, 1), (6, 136, 0, 0), (6, 139, 0, 1), (6, 142, 0, 2), (6, 145, 0, 3), (6, 148, 0, 4), (6, 180, 3, 0), (6, 186, 3, 2), (6, 202, 5, 3), (6, 268, 4, 5), (7, 7, 7, 0), (7, 13, 7, 1), (7, 16, 7, 2), (7, 19, 7, 3), (7, 22, 7, 4), (7, 25, 7, 5), (7, 28, 7, 6), (7, 31, 7, 7), (7, 34, 7, 11), (7, 37, 7, 12), (7, 40, 7, 13), (7, 43, 7, 14), (7, 46, 7, 15), (7, 49, 7, 16), (7, 52, 7, 17), (7, 55, 7, 18), (7, 58, 7, 19), (7, 61, 7, 20), (7, 65, 7, 9), (7, 83, 7, 10), (7, 191, 7, 8), (7, 249, 7, 21), (7, 252, 7, 22), (7, 255, 7, 23), (7, 258, 7, 24)]
def zm_flp : List Nat := [154, 158, 162, 166, 170, 185, 186, 208, 209, 210, 211, 212, 213, 214, 236, 239, 241, 244, 117, 123, 121, 116, 118, 119, 120, 122, 124, 155, 159, 167, 163, 171, 267, 268, 269, 270, 187, 156, 160, 168, 164, 172, 237, 242, 240, 245, 281, 282, 283, 284, 285, 286, 287, 288, 289, 290, 291, 188, 157, 161, 165, 169, 173, 238, 243, 271, 125, 1051, 1052, 1053, 1054, 1055, 1056, 1057, 1058, 1062, 1063, 1064, 1065, 1066, 1067, 1068, 1069, 1070, 1071, 1060, 1061, 1059, 1072, 1073, 1074, 1075]
def zm_flw (q : Nat × Nat × Nat × Nat) : Cond := .fieldLink (zm_cn q.1) q.2.1 (zm_T q.2.2.1 q.2.2.2).1 (zm_T q.2.2.1 q.2.2.2).2.1 (zm_T q.2.2.1 q.2.2.2).2.2.1
/-- method links: class, index, method -/
def zm_ml : List (Nat × Nat × Nat) := [(0, 27, 10), (0, 38, 13), (0, 42, 162), (0, 46, 163), (1, 31, 39), (2, 11, 1), (2, 36, 3), (2, 44, 128), (2, 48, 155), (2, 52, 166), (2, 56, 146), (2, 60, 39), (2, 63, 164), (2, 66, 165), (2, 69, 38), (2, 73, 137), (2, 77, 181), (2, 80, 182), (2, 84, 176), (3, 24, 0), (3, 30, 190), (3, 34, 193), (3, 37, 195), (3, 40, 197), (3, 48, 15), (3, 52, 189), (3, 56, 18), (3, 59, 192), (3, 63, 191), (3, 74, 27), (3, 78, 194), (3, 81, 196), (4, 31, 0), (4, 52, 17), (4, 56, 20), (4, 62, 21), (4, 66, 23), (4, 72, 26), (4, 75, 31), (4, 81, 32), (4, 85, 33), (4, 88, 28), (4, 91, 36), (4, 94, 37), (4, 97, 146), (4, 103, 38), (4, 107, 15), (4, 110, 16), (4, 114, 18), (4, 117, 19), (4, 120, 22), (4, 123, 24), (4, 127, 25), (4, 130, 29), (4, 134, 30), (4, 137, 35), (4, 143, 27), (4, 146, 34), (4, 152, 97), (4, 155, 131), (4, 158, 132), (4, 162, 135), (4, 165, 136), (4, 168, 111), (4, 171, 134), (4, 175, 133), (5, 11, 1), (5, 20, 5), (5, 36, 128), (5, 40, 198), (5, 50, 146), (5, 54, 217), (5, 58, 223), (5, 62, 226), (5, 66, 39), (5, 75, 213), (5, 82, 215), (5, 85, 216), (5, 91, 214), (5, 95, 133), (5, 99, 208), (5, 105, 15), (5, 111, 199), (5, 114, 28), (5, 120, 38), (5, 124, 218), (5, 128, 219), (5, 132, 220), (5, 135, 222), (5, 145, 221), (5, 148, 224), (5, 152, 225), (5, 155, 189), (5, 159, 194), (6, 9, 1), (6, 27, 3), (6, 41, 4), (6, 48, 5), (6, 55, 6), (6, 68, 41), (6, 72, 9), (6, 76, 97), (6, 80, 104), (6, 91, 110), (6, 95, 15), (6, 98, 111), (6, 101, 18), (6, 104, 35), (6, 107, 124), (6, 110, 28), (6, 114, 29), (6, 118, 128), (6, 122, 137), (6, 129, 145), (6, 132, 146), (6, 158, 155), (6, 162, 161), (6, 165, 167), (6, 169, 176), (6, 172, 183), (6, 176, 198), (6, 183, 199), (6, 189, 133), (6, 192, 208), (6, 195, 212), (6, 198, 227), (6, 213, 248), (6, 219, 10), (6, 223, 14), (6, 234, 38), (6, 238, 40), (6, 244, 11), (6, 250, 12), (6, 261, 247), (6, 265, 27), (6, 272, 34), (6, 278, 30), (7, 68, 46), (7, 72, 54), (7, 76, 52), (7, 80, 55), (7, 86, 49), (7, 89, 50), (7, 92, 51), (7, 95, 53), (7, 98, 57), (7, 101, 58), (7, 104, 59), (7, 108, 60), (7, 111, 61), (7, 114, 62), (7, 117, 63), (7, 120, 47), (7, 123, 48), (7, 126, 56), (7, 130, 115), (7, 133, 139), (7, 137, 140), (7, 141, 171), (7, 145, 170), (7, 149, 172), (7, 153, 64), (7, 157, 101), (7, 161, 158), (7, 165, 159), (7, 169, 173), (7, 173, 141), (7, 176, 186), (7, 179, 174), (7, 183, 179), (7, 187, 44), (7, 194, 45), (7, 197, 65), (7, 201, 79), (7, 204, 92), (7, 208, 100), (7, 211, 102), (7, 215, 107), (7, 218, 108), (7, 222, 114), (7, 226, 119), (7, 229, 187), (7, 232, 202), (7, 235, 203), (7, 238, 204), (7, 242, 205), (7, 245, 206), (7, 261, 231), (7, 264, 232), (7, 268, 235), (7, 271, 233), (7, 274, 234), (7, 278, 236), (7, 281, 237), (7, 285, 238), (7, 289, 230), (7, 292, 239), (7, 299, 250), (8, 7, 42), (8, 19, 68), (8, 22, 71), (8, 26, 74), (8, 29, 77), (8, 32, 81), (8, 35, 84), (8, 39, 87), (8, 42, 90), (8, 46, 94), (8, 49, 98), (8, 53, 105), (8, 56, 112), (8, 59, 117), (8, 62, 121), (8, 65, 125), (8, 69, 147), (8, 72, 150), (8, 75, 156), (8, 79, 168), (8, 83, 177), (8, 86, 184), (8, 89, 200), (8, 92, 209), (8, 95, 228), (8, 99, 241), (8, 102, 244), (8, 105, 7), (8, 108, 8), (8, 109, 43), (8, 114, 66), (8, 115, 67), (8, 118, 69), (8, 120, 70), (8, 121, 72), (8, 124, 73), (8, 125, 75), (8, 127, 76), (8, 128, 78), (8, 130, 80), (8, 131, 82), (8, 133, 83), (8, 134, 85), (8, 137, 86), (8, 138, 88), (8, 140, 89), (8, 141, 91), (8, 144, 93), (8, 145, 95), (8, 147, 96), (8, 148, 99), (8, 151, 103), (8, 152, 106), (8, 154, 109), (8, 155, 113), (8, 157, 116), (8, 158, 118), (8, 160, 120), (8, 161, 122), (8, 163, 123), (8, 164, 126), (8, 166, 127), (8, 167, 129), (8, 170, 130), (8, 171, 138), (8, 175, 142), (8, 176, 143), (8, 179, 144), (8, 180, 148), (8, 182, 149), (8, 183, 151), (8, 185, 152), (8, 186, 153), (8, 189, 154), (8, 190, 157), (8, 193, 160), (8, 194, 169), (8, 196, 175), (8, 197, 178), (8, 199, 180), (8, 200, 185), (8, 202, 188), (8, 203, 201), (8, 205, 207), (8, 206, 210), (8, 208, 211), (8, 209, 229), (8, 212, 240), (8, 213, 242), (8, 215, 243), (8, 216, 245), (8, 218, 246), (8, 219, 249), (8, 223, 251)]
def zm_mlp : List Nat := [635, 521, 831, 835, 631, 203, 207, 819, 820, 821, 825, 826, 827, 839, 843, 844, 867, 871, 875, 887, 888, 897, 912, 921, 892, 893, 901, 902, 906, 916, 917, 925, 113, 561, 568, 577, 581, 589, 601, 610, 614, 605, 618, 622, 801, 802, 357, 565, 572, 573, 585, 593, 597, 385, 609, 343, 377, 347, 338, 339, 353, 365, 381, 361, 369, 373, 262, 264, 961, 962, 963, 964, 990, 1015, 968, 969, 975, 986, 979, 984, 985, 973, 974, 983, 994, 995, 999, 1003, 1007, 1011, 1019, 1023, 1027, 1028, 109, 143, 198, 232, 257, 431, 435, 326, 713, 725, 405, 407, 408, 744, 752, 757, 758, 319, 334, 766, 771, 797, 810, 815, 852, 863, 883, 929, 940, 941, 952, 957, 402, 507, 511, 557, 627, 728, 755, 412, 415, 416, 417, 1149, 1181, 1174, 1187, 1152, 1162, 1166, 1170, 1177, 1190, 1194, 1198, 1202, 1205, 1209, 1156, 1159, 1184, 1289, 1321, 1318, 1369, 1363, 1366, 1145, 1267, 1348, 1344, 1360, 1315, 1388, 1356, 1376, 1138, 1135, 1141, 1229, 1248, 1259, 1263, 1274, 1277, 1285, 1296, 1384, 1403, 1407, 1399, 1410, 1395, 1438, 1442, 1454, 1434, 1446, 1450, 1430, 1457, 1422, 1426, 1475, 427, 639, 646, 653, 660, 667, 674, 681, 688, 695, 702, 709, 721, 733, 740, 748, 762, 784, 792, 806, 848, 859, 879, 936, 948, 1033, 1040, 101, 1047, 421, 1131, 1127, 636, 1213, 643, 1217, 650, 1221, 657, 1225, 664, 1232, 671, 1236, 678, 1240, 685, 1244, 692, 1251, 699, 1255, 706, 1270, 718, 1281, 730, 1292, 737, 1299, 745, 1303, 315, 1307, 330, 1311, 389, 1324, 759, 1328, 781, 1332, 393, 1336, 789, 1340, 803, 1352, 845, 1372, 856, 1380, 876, 1391, 933, 1414, 945, 1418, 1030, 1461, 1037, 1465, 397, 1469]
def zm_mlw (q : Nat × Nat × Nat) : Cond := .methodLink (zm_cn q.1) q.2.1 (zm_nm q.2.2)
/-- links to nest mates -/
def zm_nl : List (Nat × Nat × Nat) := [(0, 31, 11), (0, 35, 12), (1, 17, 2), (2, 26, 2), (5, 27, 2), (6, 34, 2)]
def zm_nlp : List Nat := [515, 518, 150, 205, 266, 195]
def zm_nlw (q : Nat × Nat × Nat) : Cond := .methodLinkNest (zm_cn q.1) q.2.1 (zm_nm q.2.2) "RefactoringReplay"
/-- classes that are made: class, index, class -/
def zm_ck : List (Nat × Nat × Nat) := [(1, 9, 0), (2, 9, 4), (2, 24, 0), (2, 34, 1), (5, 9, 4), (5, 18, 3), (5, 25, 0), (6, 7, 4), (6, 25, 1), (6, 32, 0), (6, 39, 2), (6, 46, 3), (6, 53, 5), (8, 8, 6), (8, 106, 7)]
def zm_ckp : List Nat := [147, 202, 204, 206, 261, 263, 265, 107, 141, 194, 196, 230, 255, 99, 1045]
def zm_ckw (q : Nat × Nat × Nat) : Cond := .classLink (zm_cn q.1) q.2.1 (zm_cn q.2.2)
def zm_ob : List (Nat × Nat) := [(0, 3), (1, 3), (2, 3), (3, 3), (4, 3), (5, 3), (6, 1), (7, 1)]
def zm_obp : List Nat := [153, 146, 201, 235, 112, 260, 104, 1050]
def zm_obw (q : Nat × Nat) : Cond := .methodLink (zm_cn q.1) q.2 Lib.objectInit
def zm_ac : List (Nat × Nat) := [(4, 37), (6, 203)]
def zm_acp : List Nat := [323, 1029]
def zm_acw (q : Nat × Nat) : Cond := .methodLink (zm_cn q.1) q.2 arraycopyName
/-- Math.max (0), Math.min (1) -/
def zm_mmn (k : Nat) : MethodName := cond (Nat.beq k 0) Lib.Math.max.name Lib.Math.min.name
theorem zm_max_c : Cond.code Lib.Math.max.name Lib.Math.max.code 2 (some .int) ∈ lw_tbl := List.mem_of_getElem? (i := 780) (by decide +kernel)
theorem zm_max_s : Cond.static Lib.Math.max.name ∈ lw_tbl := List.mem_of_getElem? (i := 779) (by decide +kernel)
theorem zm_min_c : Cond.code Lib.Math.min.name Lib.Math.min.code 2 (some .int) ∈ lw_tbl := List.mem_of_getElem? (i := 777) (by decide +kernel)
theorem zm_min_s : Cond.static Lib.Math.min.name ∈ lw_tbl := List.mem_of_getElem? (i := 776) (by decide +kernel)
theorem zm_math_i : Cond.initialized "java/lang/Math" ∈ lw_tbl := List.mem_of_getElem? (i := 97) (by decide +kernel)
theorem zm_sys_i : Cond.initialized "java/lang/System" ∈ lw_tbl := List.mem_of_getElem? (i := 96) (by decide +kernel)
theorem zm_acp_n : Cond.native arraycopyName ∈ lw_tbl := List.mem_of_getElem? (i := 325) (by decide +kernel)
theorem zm_acp_s : Cond.static arraycopyName ∈ lw_tbl := List.mem_of_getElem? (i := 324) (by decide +kernel)
theorem zm_obj_i : Cond.instanceMethod Lib.objectInit ∈ lw_tbl := List.mem_of_getElem? (i := 105) (by decide +kernel)
theorem zm_obj_c : Cond.code Lib.objectInit ⟨#[0xb1]⟩ 1 none ∈ lw_tbl := List.mem_of_getElem? (i := 106) (by decide +kernel)
theorem zm_ar_int : Cond.arrayClass .int ∈ lw_tbl := List.mem_of_getElem? (i := 139) (by decide +kernel)
theorem zm_ar_long : Cond.arrayClass .long ∈ lw_tbl := List.mem_of_getElem? (i := 140) (by decide +kernel)
theorem zm_ar_q : Cond.arrayOver (.object RX0) ∈ lw_tbl := List.mem_of_getElem? (i := 148) (by decide +kernel)
def zm_mm : List (Nat × Nat × Nat) := [(1, 22, 1), (1, 28, 0)]
def zm_mmp : List Nat := [775, 778]
def zm_mmw (q : Nat × Nat × Nat) : Cond := .methodLink (zm_cn q.1) q.2.1 (zm_mmn q.2.2)
def zm_lc : List (Nat × Nat × Nat) := [(4, 141, 18446744073709551615), (6, 211, 43), (6, 217, 31), (7, 295, 31), (7, 297, 43), (10, 314, 6148914691236517205), (10, 316, 3689348814741910323), (10, 318, 1085102592571150095)]
def zm_lcp : List Nat := [626, 401, 406, 1473, 1474, 350, 351, 352]
def zm_lcw (q : Nat × Nat × Nat) : Cond := .constantLong (zm_cn q.1) q.2.1 (Int64.ofNat q.2.2)
def zm_ic : List (Nat × Nat × Nat) := [(11, 265, 1431655765), (11, 266, 858993459), (11, 267, 252645135)]
def zm_icp : List Nat := [909, 910, 911]
def zm_icw (q : Nat × Nat × Nat) : Cond := .constant (zm_cn q.1) q.2.1 (Int32.ofNat q.2.2)
def zm_all {α : Type} (f : α → Cond) (l : List α) (p : List Nat) : Bool := (l.zip p).all (fun q => zm_at (f q.1) q.2) && Nat.beq l.length p.length
theorem zm_all_in {α : Type} {f : α → Cond} {l : List α} {p : List Nat} (h : zm_all f l p = true) : ∀ q ∈ l, f q ∈ lw_tbl := by
  intro q hq
  simp only [zm_all, Bool.and_eq_true, List.all_eq_true] at h
  obtain ⟨h1, h2⟩ := h
  have h2 : l.length = p.length := Nat.eq_of_beq_eq_true h2
  obtain ⟨i, hi, rfl⟩ := List.getElem_of_mem hq
  have h3 := h1 (l[i], p[i]) (by rw [List.mem_iff_getElem]; exact ⟨i, by simp; omega, by simp⟩)
  simp only [zm_at, decide_eq_true_eq] at h3
  exact List.mem_of_getElem? h3
set_option maxRecDepth 100000 in
theorem zm_mm_in : ∀ q ∈ zm_mm, zm_mmw q ∈ lw_tbl := zm_all_in (p := zm_mmp) (by decide +kernel)
set_option maxRecDepth 100000 in
theorem zm_fl_in : ∀ q ∈ zm_fl, zm_flw q ∈ lw_tbl := zm_all_in (p := zm_flp) (by decide +kernel)
set_option maxRecDepth 100000 in
theorem zm_ml_in : ∀ q ∈ zm_ml, zm_mlw q ∈ lw_tbl := zm_all_in (p := zm_mlp) (by decide +kernel)
set_option maxRecDepth 100000 in
theorem zm_nl_in : ∀ q ∈ zm_nl, zm_nlw q ∈ lw_tbl := zm_all_in (p := zm_nlp) (by decide +kernel)
set_option maxRecDepth 100000 in
theorem zm_ck_in : ∀ q ∈ zm_ck, zm_ckw q ∈ lw_tbl := zm_all_in (p := zm_ckp) (by decide +kernel)
set_option maxRecDepth 100000 in
theorem zm_ob_in : ∀ q ∈ zm_ob, zm_obw q ∈ lw_tbl := zm_all_in (p := zm_obp) (by decide +kernel)
set_option maxRecDepth 100000 in
theorem zm_ac_in : ∀ q ∈ zm_ac, zm_acw q ∈ lw_tbl := zm_all_in (p := zm_acp) (by decide +kernel)
set_option maxRecDepth 100000 in
theorem zm_lc_in : ∀ q ∈ zm_lc, zm_lcw q ∈ lw_tbl := zm_all_in (p := zm_lcp) (by decide +kernel)
set_option maxRecDepth 100000 in
theorem zm_ic_in : ∀ q ∈ zm_ic, zm_icw q ∈ lw_tbl := zm_all_in (p := zm_icp) (by decide +kernel)
/-- each class: its fields' words, the words that it can be made and is initialized -/
theorem zm_h0 : ∀ w ∈ u_ws RX0 TX0 5, w ∈ lw_tbl := by decide +kernel
theorem zm_n0 : ∀ a, a < 5 → ∀ b, b < 5 → a ≠ b → (TX0 a).2.1 ≠ (TX0 b).2.1 := by decide +kernel
theorem zm_t0 : ∀ k, k < 5 → parseFieldDescriptor (TX0 k).2.2.1 = some (tyX0 k) := by decide +kernel
theorem zm_i0 : Cond.instantiable RX0 5 ∈ lw_tbl := List.mem_of_getElem? (i := 149) (by decide +kernel)
theorem zm_z0 : Cond.initialized RX0 ∈ lw_tbl := List.mem_of_getElem? (i := 84) (by decide +kernel)
theorem zm_h1 : ∀ w ∈ u_ws RX1 TX1 2, w ∈ lw_tbl := by decide +kernel
theorem zm_n1 : ∀ a, a < 2 → ∀ b, b < 2 → a ≠ b → (TX1 a).2.1 ≠ (TX1 b).2.1 := by decide +kernel
theorem zm_t1 : ∀ k, k < 2 → parseFieldDescriptor (TX1 k).2.2.1 = some (tyX1 k) := by decide +kernel
theorem zm_i1 : Cond.instantiable RX1 2 ∈ lw_tbl := List.mem_of_getElem? (i := 142) (by decide +kernel)
theorem zm_z1 : Cond.initialized RX1 ∈ lw_tbl := List.mem_of_getElem? (i := 83) (by decide +kernel)
theorem zm_h2 : ∀ w ∈ u_ws RX2 TX2 7, w ∈ lw_tbl := by decide +kernel
theorem zm_n2 : ∀ a, a < 7 → ∀ b, b < 7 → a ≠ b → (TX2 a).2.1 ≠ (TX2 b).2.1 := by decide +kernel
theorem zm_t2 : ∀ k, k < 7 → parseFieldDescriptor (TX2 k).2.2.1 = some (tyX2 k) := by decide +kernel
theorem zm_i2 : Cond.instantiable RX2 7 ∈ lw_tbl := List.mem_of_getElem? (i := 197) (by decide +kernel)
theorem zm_z2 : Cond.initialized RX2 ∈ lw_tbl := List.mem_of_getElem? (i := 85) (by decide +kernel)
theorem zm_h3 : ∀ w ∈ u_ws RX3 TX3 4, w ∈ lw_tbl := by decide +kernel
theorem zm_n3 : ∀ a, a < 4 → ∀ b, b < 4 → a ≠ b → (TX3 a).2.1 ≠ (TX3 b).2.1 := by decide +kernel
theorem zm_t3 : ∀ k, k < 4 → parseFieldDescriptor (TX3 k).2.2.1 = some (tyX3 k) := by decide +kernel
theorem zm_i3 : Cond.instantiable RX3 4 ∈ lw_tbl := List.mem_of_getElem? (i := 231) (by decide +kernel)
theorem zm_z3 : Cond.initialized RX3 ∈ lw_tbl := List.mem_of_getElem? (i := 86) (by decide +kernel)
theorem zm_h4 : ∀ w ∈ u_ws RX4 TX4 6, w ∈ lw_tbl := by decide +kernel
theorem zm_n4 : ∀ a, a < 6 → ∀ b, b < 6 → a ≠ b → (TX4 a).2.1 ≠ (TX4 b).2.1 := by decide +kernel
theorem zm_t4 : ∀ k, k < 6 → parseFieldDescriptor (TX4 k).2.2.1 = some (tyX4 k) := by decide +kernel
theorem zm_i4 : Cond.instantiable RX4 6 ∈ lw_tbl := List.mem_of_getElem? (i := 108) (by decide +kernel)
theorem zm_z4 : Cond.initialized RX4 ∈ lw_tbl := List.mem_of_getElem? (i := 81) (by decide +kernel)
theorem zm_h5 : ∀ w ∈ u_ws RX5 TX5 4, w ∈ lw_tbl := by decide +kernel
theorem zm_n5 : ∀ a, a < 4 → ∀ b, b < 4 → a ≠ b → (TX5 a).2.1 ≠ (TX5 b).2.1 := by decide +kernel
theorem zm_t5 : ∀ k, k < 4 → parseFieldDescriptor (TX5 k).2.2.1 = some (tyX5 k) := by decide +kernel
theorem zm_i5 : Cond.instantiable RX5 4 ∈ lw_tbl := List.mem_of_getElem? (i := 256) (by decide +kernel)
theorem zm_z5 : Cond.initialized RX5 ∈ lw_tbl := List.mem_of_getElem? (i := 87) (by decide +kernel)
theorem zm_h6 : ∀ w ∈ u_ws RX6 TX6 11, w ∈ lw_tbl := by decide +kernel
theorem zm_n6 : ∀ a, a < 11 → ∀ b, b < 11 → a ≠ b → (TX6 a).2.1 ≠ (TX6 b).2.1 := by decide +kernel
theorem zm_t6 : ∀ k, k < 11 → parseFieldDescriptor (TX6 k).2.2.1 = some (tyX6 k) := by decide +kernel
theorem zm_i6 : Cond.instantiable RX6 11 ∈ lw_tbl := List.mem_of_getElem? (i := 100) (by decide +kernel)
theorem zm_z6 : Cond.initialized RX6 ∈ lw_tbl := List.mem_of_getElem? (i := 80) (by decide +kernel)
theorem zm_h7 : ∀ w ∈ u_ws RX7 TX7 25, w ∈ lw_tbl := by decide +kernel
theorem zm_n7 : ∀ a, a < 25 → ∀ b, b < 25 → a ≠ b → (TX7 a).2.1 ≠ (TX7 b).2.1 := by decide +kernel
theorem zm_t7 : ∀ k, k < 25 → parseFieldDescriptor (TX7 k).2.2.1 = some (tyX7 k) := by decide +kernel
theorem zm_i7 : Cond.instantiable RX7 25 ∈ lw_tbl := List.mem_of_getElem? (i := 1046) (by decide +kernel)
theorem zm_z7 : Cond.initialized RX7 ∈ lw_tbl := List.mem_of_getElem? (i := 88) (by decide +kernel)
