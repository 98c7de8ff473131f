/-! names and tables of the class, the reference and the few JDK methods that they reach: written by wip/gen/gen.py -/
def RX0 : String := "ChainedChest$Chest"
def TX0 : u_T := fun k => match k with
  | 0 => ("ChainedChest$Chest", "traits", "[[I", true)
  | 1 => ("ChainedChest$Chest", "rules", "[I", true)
  | 2 => ("ChainedChest$Chest", "spots", "[I", true)
  | 3 => ("ChainedChest$Chest", "locks", "I", false)
  | 4 => ("ChainedChest$Chest", "open", "I", false)
  | 5 => ("ChainedChest$Chest", "clock", "I", false)
  | 6 => ("ChainedChest$Chest", "heard", "I", false)
  | _ => ("ChainedChest$Chest", "z", "I", false)
def tyX0 : Nat → FieldType := fun k => match k with
  | 0 => .array (.array .int)
  | 1 => .array .int
  | 2 => .array .int
  | 3 => .int
  | 4 => .int
  | 5 => .int
  | 6 => .int
  | _ => .int
abbrev wsX00 : List Cond := u_ws RX0 TX0 8
theorem nmX0 : ∀ a, a < 8 → ∀ b, b < 8 → a ≠ b → (TX0 a).2.1 ≠ (TX0 b).2.1 := by decide +kernel
theorem tyX0_ok : ∀ k, k < 8 → parseFieldDescriptor (TX0 k).2.2.1 = some (tyX0 k) := by decide +kernel
def RX1 : String := "ChainedChest$Sheet"
def TX1 : u_T := fun k => match k with
  | 0 => ("ChainedChest$Sheet", "numbers", "[I", true)
  | 1 => ("ChainedChest$Sheet", "bits", "I", false)
  | _ => ("ChainedChest$Sheet", "length", "I", false)
def tyX1 : Nat → FieldType := fun k => match k with
  | 0 => .array .int
  | 1 => .int
  | _ => .int
abbrev wsX10 : List Cond := u_ws RX1 TX1 3
theorem nmX1 : ∀ a, a < 3 → ∀ b, b < 3 → a ≠ b → (TX1 a).2.1 ≠ (TX1 b).2.1 := by decide +kernel
theorem tyX1_ok : ∀ k, k < 3 → parseFieldDescriptor (TX1 k).2.2.1 = some (tyX1 k) := by decide +kernel
def RX2 : String := "ChainedChest$Smith"
def TX2 : u_T := fun k => match k with
  | 0 => ("ChainedChest$Smith", "chest", "LChainedChest$Chest;", true)
  | 1 => ("ChainedChest$Smith", "ways", "LChainedChest$Ways;", true)
  | 2 => ("ChainedChest$Smith", "linkPair", "I", false)
  | _ => ("ChainedChest$Smith", "linkTime", "I", false)
def tyX2 : Nat → FieldType := fun k => match k with
  | 0 => .object "ChainedChest$Chest"
  | 1 => .object "ChainedChest$Ways"
  | 2 => .int
  | _ => .int
abbrev wsX20 : List Cond := u_ws RX2 TX2 4
theorem nmX2 : ∀ a, a < 4 → ∀ b, b < 4 → a ≠ b → (TX2 a).2.1 ≠ (TX2 b).2.1 := by decide +kernel
theorem tyX2_ok : ∀ k, k < 4 → parseFieldDescriptor (TX2 k).2.2.1 = some (tyX2 k) := by decide +kernel
def RX3 : String := "ChainedChest$Tape"
def TX3 : u_T := fun k => match k with
  | 0 => ("ChainedChest$Tape", "bytes", "[I", true)
  | 1 => ("ChainedChest$Tape", "size", "I", false)
  | 2 => ("ChainedChest$Tape", "from", "I", false)
  | 3 => ("ChainedChest$Tape", "to", "I", false)
  | 4 => ("ChainedChest$Tape", "token", "I", false)
  | _ => ("ChainedChest$Tape", "value", "I", false)
def tyX3 : Nat → FieldType := fun k => match k with
  | 0 => .array .int
  | 1 => .int
  | 2 => .int
  | 3 => .int
  | 4 => .int
  | _ => .int
abbrev wsX30 : List Cond := u_ws RX3 TX3 6
theorem nmX3 : ∀ a, a < 6 → ∀ b, b < 6 → a ≠ b → (TX3 a).2.1 ≠ (TX3 b).2.1 := by decide +kernel
theorem tyX3_ok : ∀ k, k < 6 → parseFieldDescriptor (TX3 k).2.2.1 = some (tyX3 k) := by decide +kernel
def RX4 : String := "ChainedChest$Ways"
def TX4 : u_T := fun k => match k with
  | 0 => ("ChainedChest$Ways", "chest", "LChainedChest$Chest;", true)
  | 1 => ("ChainedChest$Ways", "mays", "[I", true)
  | 2 => ("ChainedChest$Ways", "slacks", "[I", true)
  | 3 => ("ChainedChest$Ways", "hands", "[I", true)
  | 4 => ("ChainedChest$Ways", "sums", "[I", true)
  | 5 => ("ChainedChest$Ways", "linkedSums", "[I", true)
  | 6 => ("ChainedChest$Ways", "row", "[I", true)
  | 7 => ("ChainedChest$Ways", "rowLength", "I", false)
  | 8 => ("ChainedChest$Ways", "rowTime", "I", false)
  | 9 => ("ChainedChest$Ways", "fittingRows", "I", false)
  | 10 => ("ChainedChest$Ways", "fittingAny", "I", false)
  | _ => ("ChainedChest$Ways", "fittingAll", "I", false)
def tyX4 : Nat → FieldType := fun k => match k with
  | 0 => .object "ChainedChest$Chest"
  | 1 => .array .int
  | 2 => .array .int
  | 3 => .array .int
  | 4 => .array .int
  | 5 => .array .int
  | 6 => .array .int
  | 7 => .int
  | 8 => .int
  | 9 => .int
  | 10 => .int
  | _ => .int
abbrev wsX40 : List Cond := u_ws RX4 TX4 12
theorem nmX4 : ∀ a, a < 12 → ∀ b, b < 12 → a ≠ b → (TX4 a).2.1 ≠ (TX4 b).2.1 := by decide +kernel
theorem tyX4_ok : ∀ k, k < 12 → parseFieldDescriptor (TX4 k).2.2.1 = some (tyX4 k) := by decide +kernel
def RX5 : String := "ChainedChest"
def TX5 : u_T := fun k => match k with
  | 0 => ("ChainedChest", "chest", "LChainedChest$Chest;", true)
  | 1 => ("ChainedChest", "kept", "LChainedChest$Chest;", true)
  | 2 => ("ChainedChest", "draft", "LChainedChest$Chest;", true)
  | 3 => ("ChainedChest", "ways", "LChainedChest$Ways;", true)
  | 4 => ("ChainedChest", "smith", "LChainedChest$Smith;", true)
  | 5 => ("ChainedChest", "tape", "LChainedChest$Tape;", true)
  | 6 => ("ChainedChest", "sheets", "[LChainedChest$Sheet;", true)
  | 7 => ("ChainedChest", "told", "[I", true)
  | _ => ("ChainedChest", "isKept", "Z", false)
def tyX5 : Nat → FieldType := fun k => match k with
  | 0 => .object "ChainedChest$Chest"
  | 1 => .object "ChainedChest$Chest"
  | 2 => .object "ChainedChest$Chest"
  | 3 => .object "ChainedChest$Ways"
  | 4 => .object "ChainedChest$Smith"
  | 5 => .object "ChainedChest$Tape"
  | 6 => .array (.object "ChainedChest$Sheet")
  | 7 => .array .int
  | _ => .boolean
abbrev wsX50 : List Cond := u_ws RX5 TX5 9
theorem nmX5 : ∀ a, a < 9 → ∀ b, b < 9 → a ≠ b → (TX5 a).2.1 ≠ (TX5 b).2.1 := by decide +kernel
theorem tyX5_ok : ∀ k, k < 9 → parseFieldDescriptor (TX5 k).2.2.1 = some (tyX5 k) := by decide +kernel
def RX6 : String := "ChainedChestModel"
def TX6 : u_T := fun k => match k with
  | 0 => ("ChainedChestModel", "s", "[I", true)
  | 1 => ("ChainedChestModel", "kept", "[I", true)
  | 2 => ("ChainedChestModel", "aside", "[I", true)
  | 3 => ("ChainedChestModel", "isKept", "Z", false)
  | 4 => ("ChainedChestModel", "found", "[I", true)
  | 5 => ("ChainedChestModel", "left", "[I", true)
  | 6 => ("ChainedChestModel", "row", "[I", true)
  | 7 => ("ChainedChestModel", "rowMany", "I", false)
  | 8 => ("ChainedChestModel", "ways", "[I", true)
  | 9 => ("ChainedChestModel", "linkedBy", "I", false)
  | 10 => ("ChainedChestModel", "tape", "[I", true)
  | 11 => ("ChainedChestModel", "taped", "I", false)
  | 12 => ("ChainedChestModel", "token", "I", false)
  | 13 => ("ChainedChestModel", "begun", "I", false)
  | 14 => ("ChainedChestModel", "ended", "I", false)
  | 15 => ("ChainedChestModel", "value", "J", false)
  | 16 => ("ChainedChestModel", "letters", "[C", true)
  | 17 => ("ChainedChestModel", "more", "[C", true)
  | 18 => ("ChainedChestModel", "others", "[C", true)
  | 19 => ("ChainedChestModel", "fieldOf", "[I", true)
  | 20 => ("ChainedChestModel", "widths", "[I", true)
  | 21 => ("ChainedChestModel", "sizes", "[I", true)
  | 22 => ("ChainedChestModel", "cells", "[I", true)
  | _ => ("ChainedChestModel", "carried", "[I", true)
def tyX6 : Nat → FieldType := fun k => match k with
  | 0 => .array .int
  | 1 => .array .int
  | 2 => .array .int
  | 3 => .boolean
  | 4 => .array .int
  | 5 => .array .int
  | 6 => .array .int
  | 7 => .int
  | 8 => .array .int
  | 9 => .int
  | 10 => .array .int
  | 11 => .int
  | 12 => .int
  | 13 => .int
  | 14 => .int
  | 15 => .long
  | 16 => .array .char
  | 17 => .array .char
  | 18 => .array .char
  | 19 => .array .int
  | 20 => .array .int
  | 21 => .array .int
  | 22 => .array .int
  | _ => .array .int
abbrev wsX60 : List Cond := u_ws RX6 TX6 24
theorem nmX6 : ∀ a, a < 24 → ∀ b, b < 24 → a ≠ b → (TX6 a).2.1 ≠ (TX6 b).2.1 := by decide +kernel
theorem tyX6_ok : ∀ k, k < 24 → parseFieldDescriptor (TX6 k).2.2.1 = some (tyX6 k) := by decide +kernel
abbrev cls7 : List vw_C := [(RX0, TX0, 8), (RX1, TX1, 3), (RX2, TX2, 4), (RX3, TX3, 6), (RX4, TX4, 12), (RX5, TX5, 9), (RX6, TX6, 24)]
/-- classes by number: the seven of the claim, then the JDK's -/
def ocL : List String := [RX0, RX1, RX2, RX3, RX4, RX5, RX6, "java/lang/Integer", "java/lang/Math", "java/lang/String", "java/lang/StringLatin1", "java/util/Arrays", "jdk/internal/util/Preconditions"]
def ocN (k : Nat) : String := ocL.getD k ""
/-- a method: its class's number, its name, its code, its locals, what it returns, how deep its calls go, whether it is static, its arguments (the receiver counts) -/
abbrev MI : Type := Nat × MethodName × ByteArray × Nat × Option FieldType × Nat × Bool × Nat
abbrev mC_become : Nat := 0
abbrev mC_isKind : Nat := 1
abbrev mC_isUnder : Nat := 2
abbrev mC_has : Nat := 3
abbrev mC_allLocks : Nat := 4
abbrev mC_add : Nat := 5
abbrev mC_trait : Nat := 6
abbrev mC_isTrait : Nat := 7
abbrev mC_allows : Nat := 8
abbrev mC_putTrait : Nat := 9
abbrev mC_isRule : Nat := 10
abbrev mC_allowsRule : Nat := 11
abbrev mC_putRule : Nat := 12
abbrev mC_goal : Nat := 13
abbrev mC_isOff : Nat := 14
abbrev mC_shutAll : Nat := 15
abbrev mC_slackAt : Nat := 16
abbrev mC_freeAt : Nat := 17
abbrev mC_isOutAt : Nat := 18
abbrev mC_playsAt : Nat := 19
abbrev mC_mayAt : Nat := 20
abbrev mC_mayWith : Nat := 21
abbrev mC_reasonNow : Nat := 22
abbrev mC_reason : Nat := 23
abbrev mC_takesNow : Nat := 24
abbrev mC_takes : Nat := 25
abbrev mC_sounds : Nat := 26
abbrev mC_step : Nat := 27
abbrev mC_draw : Nat := 28
abbrev mC_tryFriday : Nat := 29
abbrev mC_nth : Nat := 30
abbrev mC_isSpot : Nat := 31
abbrev mC_putSpot : Nat := 32
abbrev mC_atSpot : Nat := 33
abbrev mC_heldSpots : Nat := 34
abbrev mC_allTimes : Nat := 35
abbrev mC_loadTimes : Nat := 36
abbrev mC_firstBarred : Nat := 37
abbrev mS_isWidth : Nat := 38
abbrev mS_isMissing : Nat := 39
abbrev mS_isLike : Nat := 40
abbrev mS_begin : Nat := 41
abbrev mS_length : Nat := 42
abbrev mS_has : Nat := 43
abbrev mS_hasRun : Nat := 44
abbrev mS_number : Nat := 45
abbrev mS_put : Nat := 46
abbrev mS_copyTo : Nat := 47
abbrev mK_fewestTools : Nat := 48
abbrev mK_leastSpare : Nat := 49
abbrev mK_bestWire : Nat := 50
abbrev mK_bestKind : Nat := 51
abbrev mK_bestSpared : Nat := 52
abbrev mK_findLink : Nat := 53
abbrev mK_tryLink : Nat := 54
abbrev mK_linkPair : Nat := 55
abbrev mK_linkTime : Nat := 56
abbrev mT_size : Nat := 57
abbrev mT_put : Nat := 58
abbrev mT_clear : Nat := 59
abbrev mT_read : Nat := 60
abbrev mT_readItem : Nat := 61
abbrev mT_readLock : Nat := 62
abbrev mT_readRule : Nat := 63
abbrev mT_kindWord : Nat := 64
abbrev mT_ruleWord : Nat := 65
abbrev mT_optionWord : Nat := 66
abbrev mT_optionTrait : Nat := 67
abbrev mT_byteAt : Nat := 68
abbrev mT_isLetter : Nat := 69
abbrev mT_isDigit : Nat := 70
abbrev mT_nextToken : Nat := 71
abbrev mT_readWord : Nat := 72
abbrev mT_readNumber : Nat := 73
abbrev mT_isWord : Nat := 74
abbrev mW_explore : Nat := 75
abbrev mW_markFollowers : Nat := 76
abbrev mW_isState : Nat := 77
abbrev mW_leastFrom : Nat := 78
abbrev mW_settle : Nat := 79
abbrev mW_settleLinked : Nat := 80
abbrev mW_leastOn : Nat := 81
abbrev mW_cost : Nat := 82
abbrev mW_findRow : Nat := 83
abbrev mW_firstBest : Nat := 84
abbrev mW_rowLength : Nat := 85
abbrev mW_rowLock : Nat := 86
abbrev mW_rowEnd : Nat := 87
abbrev mW_rowHeard : Nat := 88
abbrev mW_everOff : Nat := 89
abbrev mW_reachedStates : Nat := 90
abbrev mW_hasWayOut : Nat := 91
abbrev mW_waysOut : Nat := 92
abbrev mW_exploreRows : Nat := 93
abbrev mW_handOn : Nat := 94
abbrev mW_surestTenths : Nat := 95
abbrev mW_odds : Nat := 96
abbrev mW_listen : Nat := 97
abbrev mW_soundingOf : Nat := 98
abbrev mW_fittingRows : Nat := 99
abbrev mW_fittingAny : Nat := 100
abbrev mW_fittingAll : Nat := 101
abbrev mX_lock : Nat := 102
abbrev mX_of : Nat := 103
abbrev mX_change : Nat := 104
abbrev mX_rule : Nat := 105
abbrev mX_on : Nat := 106
abbrev mX_shut : Nat := 107
abbrev mX_may : Nat := 108
abbrev mX_why : Nat := 109
abbrev mX_off : Nat := 110
abbrev mX_now : Nat := 111
abbrev mX_soonest : Nat := 112
abbrev mX_ith : Nat := 113
abbrev mX_quietest : Nat := 114
abbrev mX_fewest : Nat := 115
abbrev mX_ahead : Nat := 116
abbrev mX_ever : Nat := 117
abbrev mX_states : Nat := 118
abbrev mX_rows : Nat := 119
abbrev mX_tools : Nat := 120
abbrev mX_spare : Nat := 121
abbrev mX_wire : Nat := 122
abbrev mX_kindFor : Nat := 123
abbrev mX_link : Nat := 124
abbrev mX_linked : Nat := 125
abbrev mX_spared : Nat := 126
abbrev mX_surest : Nat := 127
abbrev mX_fits : Nat := 128
abbrev mX_maybe : Nat := 129
abbrev mX_surely : Nat := 130
abbrev mX_hear : Nat := 131
abbrev mX_friday : Nat := 132
abbrev mX_seed : Nat := 133
abbrev mX_feed : Nat := 134
abbrev mX_wipe : Nat := 135
abbrev mX_text : Nat := 136
abbrev mX_hold : Nat := 137
abbrev mX_as : Nat := 138
abbrev mX_sheet : Nat := 139
abbrev mX_write : Nat := 140
abbrev mX_copy : Nat := 141
abbrev mX_load : Nat := 142
abbrev mX_judge : Nat := 143
abbrev mX_image : Nat := 144
abbrev mX_undo : Nat := 145
abbrev mX_tear : Nat := 146
abbrev mX_count : Nat := 147
abbrev mX_status : Nat := 148
abbrev mX_tell : Nat := 149
abbrev mX_orNone : Nat := 150
abbrev mX_isSheet : Nat := 151
abbrev mX_sheetFinding : Nat := 152
abbrev mX_commonDivisor : Nat := 153
abbrev mM_no : Nat := 154
abbrev mM_in1 : Nat := 155
abbrev mM_most : Nat := 156
abbrev mM_bits : Nat := 157
abbrev mM_isIn : Nat := 158
abbrev mM_isLock : Nat := 159
abbrev mM_get : Nat := 160
abbrev mM_puts : Nat := 161
abbrev mM_allLocks : Nat := 162
abbrev mM_slackBy : Nat := 163
abbrev mM_freeBy : Nat := 164
abbrev mM_whyBy : Nat := 165
abbrev mM_takesBy : Nat := 166
abbrev mM_soundsOf : Nat := 167
abbrev mM_mayBy : Nat := 168
abbrev mM_isOut : Nat := 169
abbrev mM_lock : Nat := 170
abbrev mM_comes : Nat := 171
abbrev mM_of : Nat := 172
abbrev mM_mostOf : Nat := 173
abbrev mM_change : Nat := 174
abbrev mM_rule : Nat := 175
abbrev mM_on : Nat := 176
abbrev mM_shut : Nat := 177
abbrev mM_may : Nat := 178
abbrev mM_why : Nat := 179
abbrev mM_doesPlay : Nat := 180
abbrev mM_takesNow : Nat := 181
abbrev mM_comesOff : Nat := 182
abbrev mM_off : Nat := 183
abbrev mM_now : Nat := 184
abbrev mM_costs : Nat := 185
abbrev mM_leastFrom : Nat := 186
abbrev mM_told1 : Nat := 187
abbrev mM_soonest : Nat := 188
abbrev mM_findsRow : Nat := 189
abbrev mM_ith : Nat := 190
abbrev mM_quietest : Nat := 191
abbrev mM_fewest : Nat := 192
abbrev mM_setsAside : Nat := 193
abbrev mM_laysBack : Nat := 194
abbrev mM_ahead : Nat := 195
abbrev mM_countsWays : Nat := 196
abbrev mM_ever : Nat := 197
abbrev mM_states : Nat := 198
abbrev mM_rows : Nat := 199
abbrev mM_tools : Nat := 200
abbrev mM_spare : Nat := 201
abbrev mM_wire : Nat := 202
abbrev mM_kindFor : Nat := 203
abbrev mM_bestLink : Nat := 204
abbrev mM_link : Nat := 205
abbrev mM_linked : Nat := 206
abbrev mM_spared : Nat := 207
abbrev mM_surest : Nat := 208
abbrev mM_isSheet : Nat := 209
abbrev mM_heardLocks : Nat := 210
abbrev mM_countsHeard : Nat := 211
abbrev mM_wrongSheet : Nat := 212
abbrev mM_fits : Nat := 213
abbrev mM_heardSet : Nat := 214
abbrev mM_heardTold : Nat := 215
abbrev mM_maybe : Nat := 216
abbrev mM_surely : Nat := 217
abbrev mM_hear : Nat := 218
abbrev mM_draw : Nat := 219
abbrev mM_nthOf : Nat := 220
abbrev mM_friday : Nat := 221
abbrev mM_seed : Nat := 222
abbrev mM_feed : Nat := 223
abbrev mM_wipe : Nat := 224
abbrev mM_isLetter : Nat := 225
abbrev mM_isDigit : Nat := 226
abbrev mM_nextToken : Nat := 227
abbrev mM_wordOf : Nat := 228
abbrev mM_takesNumber : Nat := 229
abbrev mM_readsLock : Nat := 230
abbrev mM_readsItem : Nat := 231
abbrev mM_text : Nat := 232
abbrev mM_isSpot : Nat := 233
abbrev mM_hold : Nat := 234
abbrev mM_above : Nat := 235
abbrev mM_as : Nat := 236
abbrev mM_sheet : Nat := 237
abbrev mM_write : Nat := 238
abbrev mM_copy : Nat := 239
abbrev mM_load : Nat := 240
abbrev mM_judge : Nat := 241
abbrev mM_image : Nat := 242
abbrev mM_undo : Nat := 243
abbrev mM_tear : Nat := 244
abbrev mM_count : Nat := 245
abbrev mM_status : Nat := 246
abbrev mJI_bitCount : Nat := 247
abbrev mJS_charAt : Nat := 248
abbrev mJS_checkIndex : Nat := 249
abbrev mJS_coder : Nat := 250
abbrev mJS_isLatin1 : Nat := 251
abbrev mJS_length : Nat := 252
abbrev mJL_charAt : Nat := 253
abbrev mJA_fill : Nat := 254
abbrev mJP_checkIndex : Nat := 255
def mL_0 : List MI := [(0, ⟨"ChainedChest$Chest", "become", "(LChainedChest$Chest;)V"⟩, prog_2_method_2_code, 3, (Option.none : Option Jvm.ClassFile.FieldType), 1, false, 2),
  (0, ⟨"ChainedChest$Chest", "isKind", "(I)Z"⟩, prog_2_method_3_code, 1, (Option.some Jvm.ClassFile.FieldType.boolean), 0, true, 1),
  (0, ⟨"ChainedChest$Chest", "isUnder", "(II)Z"⟩, prog_2_method_4_code, 4, (Option.some Jvm.ClassFile.FieldType.boolean), 1, true, 2),
  (0, ⟨"ChainedChest$Chest", "has", "(I)Z"⟩, prog_2_method_5_code, 2, (Option.some Jvm.ClassFile.FieldType.boolean), 0, false, 2),
  (0, ⟨"ChainedChest$Chest", "allLocks", "()I"⟩, prog_2_method_6_code, 1, (Option.some Jvm.ClassFile.FieldType.int), 0, false, 1),
  (0, ⟨"ChainedChest$Chest", "add", "(I)I"⟩, prog_2_method_7_code, 4, (Option.some Jvm.ClassFile.FieldType.int), 0, false, 2),
  (0, ⟨"ChainedChest$Chest", "trait", "(II)I"⟩, prog_2_method_8_code, 3, (Option.some Jvm.ClassFile.FieldType.int), 1, false, 3),
  (0, ⟨"ChainedChest$Chest", "isTrait", "(I)Z"⟩, prog_2_method_9_code, 1, (Option.some Jvm.ClassFile.FieldType.boolean), 0, true, 1),
  (0, ⟨"ChainedChest$Chest", "allows", "(II)Z"⟩, prog_2_method_10_code, 4, (Option.some Jvm.ClassFile.FieldType.boolean), 1, false, 3),
  (0, ⟨"ChainedChest$Chest", "putTrait", "(III)I"⟩, prog_2_method_11_code, 5, (Option.some Jvm.ClassFile.FieldType.int), 1, false, 4),
  (0, ⟨"ChainedChest$Chest", "isRule", "(I)Z"⟩, prog_2_method_12_code, 1, (Option.some Jvm.ClassFile.FieldType.boolean), 0, true, 1),
  (0, ⟨"ChainedChest$Chest", "allowsRule", "(II)Z"⟩, prog_2_method_13_code, 4, (Option.some Jvm.ClassFile.FieldType.boolean), 1, false, 3),
  (0, ⟨"ChainedChest$Chest", "putRule", "(II)I"⟩, prog_2_method_14_code, 4, (Option.some Jvm.ClassFile.FieldType.int), 1, false, 3),
  (0, ⟨"ChainedChest$Chest", "goal", "()I"⟩, prog_2_method_15_code, 1, (Option.some Jvm.ClassFile.FieldType.int), 0, false, 1),
  (0, ⟨"ChainedChest$Chest", "isOff", "(I)Z"⟩, prog_2_method_16_code, 2, (Option.some Jvm.ClassFile.FieldType.boolean), 0, false, 2),
  (0, ⟨"ChainedChest$Chest", "shutAll", "()I"⟩, prog_2_method_17_code, 2, (Option.some Jvm.ClassFile.FieldType.int), 1, false, 1),
  (0, ⟨"ChainedChest$Chest", "slackAt", "(I)I"⟩, prog_2_method_18_code, 4, (Option.some Jvm.ClassFile.FieldType.int), 0, false, 2),
  (0, ⟨"ChainedChest$Chest", "freeAt", "(I)I"⟩, prog_2_method_19_code, 4, (Option.some Jvm.ClassFile.FieldType.int), 0, false, 2),
  (0, ⟨"ChainedChest$Chest", "isOutAt", "(I)Z"⟩, prog_2_method_20_code, 2, (Option.some Jvm.ClassFile.FieldType.boolean), 0, false, 2),
  (0, ⟨"ChainedChest$Chest", "playsAt", "(I)Z"⟩, prog_2_method_21_code, 3, (Option.some Jvm.ClassFile.FieldType.boolean), 0, false, 2),
  (0, ⟨"ChainedChest$Chest", "mayAt", "(I)I"⟩, prog_2_method_22_code, 2, (Option.some Jvm.ClassFile.FieldType.int), 3, false, 2),
  (0, ⟨"ChainedChest$Chest", "mayWith", "(III)I"⟩, prog_2_method_23_code, 6, (Option.some Jvm.ClassFile.FieldType.int), 2, false, 4),
  (0, ⟨"ChainedChest$Chest", "reasonNow", "(I)I"⟩, prog_2_method_24_code, 2, (Option.some Jvm.ClassFile.FieldType.int), 2, false, 2),
  (0, ⟨"ChainedChest$Chest", "reason", "(IIII)I"⟩, prog_2_method_25_code, 6, (Option.some Jvm.ClassFile.FieldType.int), 1, false, 5),
  (0, ⟨"ChainedChest$Chest", "takesNow", "(I)I"⟩, prog_2_method_26_code, 2, (Option.some Jvm.ClassFile.FieldType.int), 1, false, 2),
  (0, ⟨"ChainedChest$Chest", "takes", "(IIII)I"⟩, prog_2_method_27_code, 9, (Option.some Jvm.ClassFile.FieldType.int), 0, false, 5),
  (0, ⟨"ChainedChest$Chest", "sounds", "(I)I"⟩, prog_2_method_28_code, 3, (Option.some Jvm.ClassFile.FieldType.int), 1, false, 2),
  (0, ⟨"ChainedChest$Chest", "step", "(I)V"⟩, prog_2_method_29_code, 3, (Option.none : Option Jvm.ClassFile.FieldType), 2, false, 2),
  (0, ⟨"ChainedChest$Chest", "draw", "()I"⟩, prog_2_method_30_code, 1, (Option.some Jvm.ClassFile.FieldType.int), 0, false, 1),
  (0, ⟨"ChainedChest$Chest", "tryFriday", "(I)I"⟩, prog_2_method_31_code, 8, (Option.some Jvm.ClassFile.FieldType.int), 4, false, 2),
  (0, ⟨"ChainedChest$Chest", "nth", "(II)I"⟩, prog_2_method_32_code, 4, (Option.some Jvm.ClassFile.FieldType.int), 0, true, 2),
  (0, ⟨"ChainedChest$Chest", "isSpot", "(I)Z"⟩, prog_2_method_33_code, 1, (Option.some Jvm.ClassFile.FieldType.boolean), 0, true, 1),
  (0, ⟨"ChainedChest$Chest", "putSpot", "(II)V"⟩, prog_2_method_34_code, 3, (Option.none : Option Jvm.ClassFile.FieldType), 1, false, 3),
  (0, ⟨"ChainedChest$Chest", "atSpot", "(I)I"⟩, prog_2_method_35_code, 2, (Option.some Jvm.ClassFile.FieldType.int), 1, false, 2),
  (0, ⟨"ChainedChest$Chest", "heldSpots", "()I"⟩, prog_2_method_36_code, 3, (Option.some Jvm.ClassFile.FieldType.int), 0, false, 1),
  (0, ⟨"ChainedChest$Chest", "allTimes", "()I"⟩, prog_2_method_37_code, 3, (Option.some Jvm.ClassFile.FieldType.int), 0, false, 1),
  (0, ⟨"ChainedChest$Chest", "loadTimes", "(LChainedChest$Sheet;)I"⟩, prog_2_method_38_code, 4, (Option.some Jvm.ClassFile.FieldType.int), 2, false, 2),
  (0, ⟨"ChainedChest$Chest", "firstBarred", "(LChainedChest$Sheet;)I"⟩, prog_2_method_39_code, 5, (Option.some Jvm.ClassFile.FieldType.int), 4, false, 2),
  (1, ⟨"ChainedChest$Sheet", "isWidth", "(I)Z"⟩, prog_3_method_2_code, 1, (Option.some Jvm.ClassFile.FieldType.boolean), 0, true, 1),
  (1, ⟨"ChainedChest$Sheet", "isMissing", "()Z"⟩, prog_3_method_3_code, 1, (Option.some Jvm.ClassFile.FieldType.boolean), 0, false, 1)]
def mL_1 : List MI := [(1, ⟨"ChainedChest$Sheet", "isLike", "(LChainedChest$Sheet;)Z"⟩, prog_3_method_4_code, 2, (Option.some Jvm.ClassFile.FieldType.boolean), 0, false, 2),
  (1, ⟨"ChainedChest$Sheet", "begin", "(II)I"⟩, prog_3_method_5_code, 3, (Option.some Jvm.ClassFile.FieldType.int), 1, false, 3),
  (1, ⟨"ChainedChest$Sheet", "length", "()I"⟩, prog_3_method_6_code, 1, (Option.some Jvm.ClassFile.FieldType.int), 0, false, 1),
  (1, ⟨"ChainedChest$Sheet", "has", "(I)Z"⟩, prog_3_method_7_code, 2, (Option.some Jvm.ClassFile.FieldType.boolean), 0, false, 2),
  (1, ⟨"ChainedChest$Sheet", "hasRun", "(II)Z"⟩, prog_3_method_8_code, 3, (Option.some Jvm.ClassFile.FieldType.boolean), 0, false, 3),
  (1, ⟨"ChainedChest$Sheet", "number", "(I)I"⟩, prog_3_method_9_code, 2, (Option.some Jvm.ClassFile.FieldType.int), 1, false, 2),
  (1, ⟨"ChainedChest$Sheet", "put", "(II)V"⟩, prog_3_method_10_code, 3, (Option.none : Option Jvm.ClassFile.FieldType), 1, false, 3),
  (1, ⟨"ChainedChest$Sheet", "copyTo", "(ILChainedChest$Sheet;II)V"⟩, prog_3_method_11_code, 5, (Option.none : Option Jvm.ClassFile.FieldType), 1, false, 5),
  (2, ⟨"ChainedChest$Smith", "fewestTools", "()I"⟩, prog_4_method_2_code, 4, (Option.some Jvm.ClassFile.FieldType.int), 5, false, 1),
  (2, ⟨"ChainedChest$Smith", "leastSpare", "()I"⟩, prog_4_method_3_code, 4, (Option.some Jvm.ClassFile.FieldType.int), 5, false, 1),
  (2, ⟨"ChainedChest$Smith", "bestWire", "()I"⟩, prog_4_method_4_code, 5, (Option.some Jvm.ClassFile.FieldType.int), 6, false, 1),
  (2, ⟨"ChainedChest$Smith", "bestKind", "(I)I"⟩, prog_4_method_5_code, 7, (Option.some Jvm.ClassFile.FieldType.int), 5, false, 2),
  (2, ⟨"ChainedChest$Smith", "bestSpared", "()I"⟩, prog_4_method_6_code, 6, (Option.some Jvm.ClassFile.FieldType.int), 5, false, 1),
  (2, ⟨"ChainedChest$Smith", "findLink", "()V"⟩, prog_4_method_7_code, 3, (Option.none : Option Jvm.ClassFile.FieldType), 6, false, 1),
  (2, ⟨"ChainedChest$Smith", "tryLink", "(II)V"⟩, prog_4_method_8_code, 4, (Option.none : Option Jvm.ClassFile.FieldType), 5, false, 3),
  (2, ⟨"ChainedChest$Smith", "linkPair", "()I"⟩, prog_4_method_9_code, 1, (Option.some Jvm.ClassFile.FieldType.int), 0, false, 1),
  (2, ⟨"ChainedChest$Smith", "linkTime", "()I"⟩, prog_4_method_10_code, 1, (Option.some Jvm.ClassFile.FieldType.int), 0, false, 1),
  (3, ⟨"ChainedChest$Tape", "size", "()I"⟩, prog_5_method_2_code, 1, (Option.some Jvm.ClassFile.FieldType.int), 0, false, 1),
  (3, ⟨"ChainedChest$Tape", "put", "(II)I"⟩, prog_5_method_3_code, 4, (Option.some Jvm.ClassFile.FieldType.int), 0, false, 3),
  (3, ⟨"ChainedChest$Tape", "clear", "()I"⟩, prog_5_method_4_code, 2, (Option.some Jvm.ClassFile.FieldType.int), 0, false, 1),
  (3, ⟨"ChainedChest$Tape", "read", "(LChainedChest$Chest;)I"⟩, prog_5_method_5_code, 3, (Option.some Jvm.ClassFile.FieldType.int), 7, false, 2),
  (3, ⟨"ChainedChest$Tape", "readItem", "(LChainedChest$Chest;)Z"⟩, prog_5_method_6_code, 3, (Option.some Jvm.ClassFile.FieldType.boolean), 6, false, 2),
  (3, ⟨"ChainedChest$Tape", "readLock", "(LChainedChest$Chest;I)Z"⟩, prog_5_method_7_code, 8, (Option.some Jvm.ClassFile.FieldType.boolean), 5, false, 3),
  (3, ⟨"ChainedChest$Tape", "readRule", "(LChainedChest$Chest;I)Z"⟩, prog_5_method_8_code, 3, (Option.some Jvm.ClassFile.FieldType.boolean), 3, false, 3),
  (3, ⟨"ChainedChest$Tape", "kindWord", "(I)Ljava/lang/String;"⟩, prog_5_method_9_code, 1, (Option.some (Jvm.ClassFile.FieldType.object "java/lang/String")), 0, true, 1),
  (3, ⟨"ChainedChest$Tape", "ruleWord", "(I)Ljava/lang/String;"⟩, prog_5_method_10_code, 1, (Option.some (Jvm.ClassFile.FieldType.object "java/lang/String")), 0, true, 1),
  (3, ⟨"ChainedChest$Tape", "optionWord", "(I)Ljava/lang/String;"⟩, prog_5_method_11_code, 1, (Option.some (Jvm.ClassFile.FieldType.object "java/lang/String")), 0, true, 1),
  (3, ⟨"ChainedChest$Tape", "optionTrait", "(I)I"⟩, prog_5_method_12_code, 1, (Option.some Jvm.ClassFile.FieldType.int), 0, true, 1),
  (3, ⟨"ChainedChest$Tape", "byteAt", "(I)I"⟩, prog_5_method_13_code, 2, (Option.some Jvm.ClassFile.FieldType.int), 0, false, 2),
  (3, ⟨"ChainedChest$Tape", "isLetter", "(I)Z"⟩, prog_5_method_14_code, 1, (Option.some Jvm.ClassFile.FieldType.boolean), 0, true, 1),
  (3, ⟨"ChainedChest$Tape", "isDigit", "(I)Z"⟩, prog_5_method_15_code, 1, (Option.some Jvm.ClassFile.FieldType.boolean), 0, true, 1),
  (3, ⟨"ChainedChest$Tape", "nextToken", "()V"⟩, prog_5_method_16_code, 1, (Option.none : Option Jvm.ClassFile.FieldType), 2, false, 1),
  (3, ⟨"ChainedChest$Tape", "readWord", "()V"⟩, prog_5_method_17_code, 1, (Option.none : Option Jvm.ClassFile.FieldType), 1, false, 1),
  (3, ⟨"ChainedChest$Tape", "readNumber", "()V"⟩, prog_5_method_18_code, 1, (Option.none : Option Jvm.ClassFile.FieldType), 1, false, 1),
  (3, ⟨"ChainedChest$Tape", "isWord", "(Ljava/lang/String;)Z"⟩, prog_5_method_19_code, 3, (Option.some Jvm.ClassFile.FieldType.boolean), 4, false, 2),
  (4, ⟨"ChainedChest$Ways", "explore", "(I)V"⟩, prog_6_method_2_code, 4, (Option.none : Option Jvm.ClassFile.FieldType), 3, false, 2),
  (4, ⟨"ChainedChest$Ways", "markFollowers", "(II)V"⟩, prog_6_method_3_code, 5, (Option.none : Option Jvm.ClassFile.FieldType), 1, false, 3),
  (4, ⟨"ChainedChest$Ways", "isState", "(I)Z"⟩, prog_6_method_4_code, 1, (Option.some Jvm.ClassFile.FieldType.boolean), 0, true, 1),
  (4, ⟨"ChainedChest$Ways", "leastFrom", "(II)I"⟩, prog_6_method_5_code, 3, (Option.some Jvm.ClassFile.FieldType.int), 5, false, 3),
  (4, ⟨"ChainedChest$Ways", "settle", "(II)I"⟩, prog_6_method_6_code, 4, (Option.some Jvm.ClassFile.FieldType.int), 4, false, 3)]
def mL_2 : List MI := [(4, ⟨"ChainedChest$Ways", "settleLinked", "(III)I"⟩, prog_6_method_7_code, 7, (Option.some Jvm.ClassFile.FieldType.int), 4, false, 4),
  (4, ⟨"ChainedChest$Ways", "leastOn", "(III[I)I"⟩, prog_6_method_8_code, 10, (Option.some Jvm.ClassFile.FieldType.int), 3, false, 5),
  (4, ⟨"ChainedChest$Ways", "cost", "(IIII)I"⟩, prog_6_method_9_code, 5, (Option.some Jvm.ClassFile.FieldType.int), 2, false, 5),
  (4, ⟨"ChainedChest$Ways", "findRow", "(I)Z"⟩, prog_6_method_10_code, 5, (Option.some Jvm.ClassFile.FieldType.boolean), 6, false, 2),
  (4, ⟨"ChainedChest$Ways", "firstBest", "(I)I"⟩, prog_6_method_11_code, 6, (Option.some Jvm.ClassFile.FieldType.int), 3, false, 2),
  (4, ⟨"ChainedChest$Ways", "rowLength", "()I"⟩, prog_6_method_12_code, 1, (Option.some Jvm.ClassFile.FieldType.int), 0, false, 1),
  (4, ⟨"ChainedChest$Ways", "rowLock", "(I)I"⟩, prog_6_method_13_code, 2, (Option.some Jvm.ClassFile.FieldType.int), 0, false, 2),
  (4, ⟨"ChainedChest$Ways", "rowEnd", "()I"⟩, prog_6_method_14_code, 1, (Option.some Jvm.ClassFile.FieldType.int), 0, false, 1),
  (4, ⟨"ChainedChest$Ways", "rowHeard", "()I"⟩, prog_6_method_15_code, 5, (Option.some Jvm.ClassFile.FieldType.int), 3, false, 1),
  (4, ⟨"ChainedChest$Ways", "everOff", "()I"⟩, prog_6_method_16_code, 3, (Option.some Jvm.ClassFile.FieldType.int), 4, false, 1),
  (4, ⟨"ChainedChest$Ways", "reachedStates", "()I"⟩, prog_6_method_17_code, 3, (Option.some Jvm.ClassFile.FieldType.int), 4, false, 1),
  (4, ⟨"ChainedChest$Ways", "hasWayOut", "(I)Z"⟩, prog_6_method_18_code, 3, (Option.some Jvm.ClassFile.FieldType.boolean), 4, false, 2),
  (4, ⟨"ChainedChest$Ways", "waysOut", "()I"⟩, prog_6_method_19_code, 3, (Option.some Jvm.ClassFile.FieldType.int), 5, false, 1),
  (4, ⟨"ChainedChest$Ways", "exploreRows", "()V"⟩, prog_6_method_20_code, 1, (Option.none : Option Jvm.ClassFile.FieldType), 4, false, 1),
  (4, ⟨"ChainedChest$Ways", "handOn", "(II)V"⟩, prog_6_method_21_code, 5, (Option.none : Option Jvm.ClassFile.FieldType), 1, false, 3),
  (4, ⟨"ChainedChest$Ways", "surestTenths", "()J"⟩, prog_6_method_22_code, 4, (Option.some Jvm.ClassFile.FieldType.long), 4, false, 1),
  (4, ⟨"ChainedChest$Ways", "odds", "(I)J"⟩, prog_6_method_23_code, 5, (Option.some Jvm.ClassFile.FieldType.long), 2, false, 2),
  (4, ⟨"ChainedChest$Ways", "listen", "(LChainedChest$Sheet;)V"⟩, prog_6_method_24_code, 5, (Option.none : Option Jvm.ClassFile.FieldType), 5, false, 2),
  (4, ⟨"ChainedChest$Ways", "soundingOf", "(II)I"⟩, prog_6_method_25_code, 5, (Option.some Jvm.ClassFile.FieldType.int), 2, false, 3),
  (4, ⟨"ChainedChest$Ways", "fittingRows", "()I"⟩, prog_6_method_26_code, 1, (Option.some Jvm.ClassFile.FieldType.int), 0, false, 1),
  (4, ⟨"ChainedChest$Ways", "fittingAny", "()I"⟩, prog_6_method_27_code, 1, (Option.some Jvm.ClassFile.FieldType.int), 0, false, 1),
  (4, ⟨"ChainedChest$Ways", "fittingAll", "()I"⟩, prog_6_method_28_code, 1, (Option.some Jvm.ClassFile.FieldType.int), 0, false, 1),
  (5, ⟨"ChainedChest", "lock", "(I)I"⟩, prog_1_method_2_code, 2, (Option.some Jvm.ClassFile.FieldType.int), 1, false, 2),
  (5, ⟨"ChainedChest", "of", "(II)I"⟩, prog_1_method_3_code, 3, (Option.some Jvm.ClassFile.FieldType.int), 2, false, 3),
  (5, ⟨"ChainedChest", "change", "(III)I"⟩, prog_1_method_4_code, 4, (Option.some Jvm.ClassFile.FieldType.int), 2, false, 4),
  (5, ⟨"ChainedChest", "rule", "(II)I"⟩, prog_1_method_5_code, 3, (Option.some Jvm.ClassFile.FieldType.int), 2, false, 3),
  (5, ⟨"ChainedChest", "on", "(I)I"⟩, prog_1_method_6_code, 3, (Option.some Jvm.ClassFile.FieldType.int), 1, false, 2),
  (5, ⟨"ChainedChest", "shut", "()I"⟩, prog_1_method_7_code, 1, (Option.some Jvm.ClassFile.FieldType.int), 2, false, 1),
  (5, ⟨"ChainedChest", "may", "()I"⟩, prog_1_method_8_code, 1, (Option.some Jvm.ClassFile.FieldType.int), 4, false, 1),
  (5, ⟨"ChainedChest", "why", "(I)I"⟩, prog_1_method_9_code, 2, (Option.some Jvm.ClassFile.FieldType.int), 3, false, 2),
  (5, ⟨"ChainedChest", "off", "(I)I"⟩, prog_1_method_10_code, 3, (Option.some Jvm.ClassFile.FieldType.int), 3, false, 2),
  (5, ⟨"ChainedChest", "now", "(I)I"⟩, prog_1_method_11_code, 2, (Option.some Jvm.ClassFile.FieldType.int), 1, false, 2),
  (5, ⟨"ChainedChest", "soonest", "()I"⟩, prog_1_method_12_code, 1, (Option.some Jvm.ClassFile.FieldType.int), 6, false, 1),
  (5, ⟨"ChainedChest", "ith", "(I)I"⟩, prog_1_method_13_code, 2, (Option.some Jvm.ClassFile.FieldType.int), 7, false, 2),
  (5, ⟨"ChainedChest", "quietest", "()I"⟩, prog_1_method_14_code, 1, (Option.some Jvm.ClassFile.FieldType.int), 6, false, 1),
  (5, ⟨"ChainedChest", "fewest", "()I"⟩, prog_1_method_15_code, 1, (Option.some Jvm.ClassFile.FieldType.int), 6, false, 1),
  (5, ⟨"ChainedChest", "ahead", "(I)I"⟩, prog_1_method_16_code, 3, (Option.some Jvm.ClassFile.FieldType.int), 7, false, 2),
  (5, ⟨"ChainedChest", "ever", "()I"⟩, prog_1_method_17_code, 1, (Option.some Jvm.ClassFile.FieldType.int), 5, false, 1),
  (5, ⟨"ChainedChest", "states", "()I"⟩, prog_1_method_18_code, 1, (Option.some Jvm.ClassFile.FieldType.int), 5, false, 1),
  (5, ⟨"ChainedChest", "rows", "()I"⟩, prog_1_method_19_code, 1, (Option.some Jvm.ClassFile.FieldType.int), 6, false, 1)]
def mL_3 : List MI := [(5, ⟨"ChainedChest", "tools", "()I"⟩, prog_1_method_20_code, 1, (Option.some Jvm.ClassFile.FieldType.int), 6, false, 1),
  (5, ⟨"ChainedChest", "spare", "()I"⟩, prog_1_method_21_code, 1, (Option.some Jvm.ClassFile.FieldType.int), 6, false, 1),
  (5, ⟨"ChainedChest", "wire", "()I"⟩, prog_1_method_22_code, 1, (Option.some Jvm.ClassFile.FieldType.int), 7, false, 1),
  (5, ⟨"ChainedChest", "kindFor", "(I)I"⟩, prog_1_method_23_code, 2, (Option.some Jvm.ClassFile.FieldType.int), 6, false, 2),
  (5, ⟨"ChainedChest", "link", "()I"⟩, prog_1_method_24_code, 1, (Option.some Jvm.ClassFile.FieldType.int), 7, false, 1),
  (5, ⟨"ChainedChest", "linked", "()I"⟩, prog_1_method_25_code, 1, (Option.some Jvm.ClassFile.FieldType.int), 7, false, 1),
  (5, ⟨"ChainedChest", "spared", "()I"⟩, prog_1_method_26_code, 1, (Option.some Jvm.ClassFile.FieldType.int), 6, false, 1),
  (5, ⟨"ChainedChest", "surest", "(I)J"⟩, prog_1_method_27_code, 6, (Option.some Jvm.ClassFile.FieldType.long), 5, false, 2),
  (5, ⟨"ChainedChest", "fits", "(I)I"⟩, prog_1_method_28_code, 3, (Option.some Jvm.ClassFile.FieldType.int), 6, false, 2),
  (5, ⟨"ChainedChest", "maybe", "(I)I"⟩, prog_1_method_29_code, 3, (Option.some Jvm.ClassFile.FieldType.int), 6, false, 2),
  (5, ⟨"ChainedChest", "surely", "(I)I"⟩, prog_1_method_30_code, 3, (Option.some Jvm.ClassFile.FieldType.int), 6, false, 2),
  (5, ⟨"ChainedChest", "hear", "(I)I"⟩, prog_1_method_31_code, 4, (Option.some Jvm.ClassFile.FieldType.int), 4, false, 2),
  (5, ⟨"ChainedChest", "friday", "(I)I"⟩, prog_1_method_32_code, 2, (Option.some Jvm.ClassFile.FieldType.int), 5, false, 2),
  (5, ⟨"ChainedChest", "seed", "(I)I"⟩, prog_1_method_33_code, 3, (Option.some Jvm.ClassFile.FieldType.int), 0, false, 2),
  (5, ⟨"ChainedChest", "feed", "(II)I"⟩, prog_1_method_34_code, 3, (Option.some Jvm.ClassFile.FieldType.int), 1, false, 3),
  (5, ⟨"ChainedChest", "wipe", "()I"⟩, prog_1_method_35_code, 1, (Option.some Jvm.ClassFile.FieldType.int), 1, false, 1),
  (5, ⟨"ChainedChest", "text", "()I"⟩, prog_1_method_36_code, 2, (Option.some Jvm.ClassFile.FieldType.int), 8, false, 1),
  (5, ⟨"ChainedChest", "hold", "(II)I"⟩, prog_1_method_37_code, 3, (Option.some Jvm.ClassFile.FieldType.int), 2, false, 3),
  (5, ⟨"ChainedChest", "as", "(II)I"⟩, prog_1_method_38_code, 4, (Option.some Jvm.ClassFile.FieldType.int), 2, false, 3),
  (5, ⟨"ChainedChest", "sheet", "(III)I"⟩, prog_1_method_39_code, 4, (Option.some Jvm.ClassFile.FieldType.int), 2, false, 4),
  (5, ⟨"ChainedChest", "write", "(III)I"⟩, prog_1_method_40_code, 5, (Option.some Jvm.ClassFile.FieldType.int), 2, false, 4),
  (5, ⟨"ChainedChest", "copy", "(IIIII)I"⟩, prog_1_method_41_code, 6, (Option.some Jvm.ClassFile.FieldType.int), 2, false, 6),
  (5, ⟨"ChainedChest", "load", "(I)I"⟩, prog_1_method_42_code, 3, (Option.some Jvm.ClassFile.FieldType.int), 3, false, 2),
  (5, ⟨"ChainedChest", "judge", "(I)I"⟩, prog_1_method_43_code, 3, (Option.some Jvm.ClassFile.FieldType.int), 5, false, 2),
  (5, ⟨"ChainedChest", "image", "()I"⟩, prog_1_method_44_code, 1, (Option.some Jvm.ClassFile.FieldType.int), 2, false, 1),
  (5, ⟨"ChainedChest", "undo", "()I"⟩, prog_1_method_45_code, 1, (Option.some Jvm.ClassFile.FieldType.int), 2, false, 1),
  (5, ⟨"ChainedChest", "tear", "()I"⟩, prog_1_method_46_code, 2, (Option.some Jvm.ClassFile.FieldType.int), 0, false, 1),
  (5, ⟨"ChainedChest", "count", "(I)I"⟩, prog_1_method_47_code, 2, (Option.some Jvm.ClassFile.FieldType.int), 1, false, 2),
  (5, ⟨"ChainedChest", "status", "(I)I"⟩, prog_1_method_48_code, 4, (Option.some Jvm.ClassFile.FieldType.int), 1, false, 2),
  (5, ⟨"ChainedChest", "tell", "(I)I"⟩, prog_1_method_49_code, 3, (Option.some Jvm.ClassFile.FieldType.int), 0, false, 2),
  (5, ⟨"ChainedChest", "orNone", "(I)I"⟩, prog_1_method_50_code, 2, (Option.some Jvm.ClassFile.FieldType.int), 1, false, 2),
  (5, ⟨"ChainedChest", "isSheet", "(I)Z"⟩, prog_1_method_51_code, 2, (Option.some Jvm.ClassFile.FieldType.boolean), 0, false, 2),
  (5, ⟨"ChainedChest", "sheetFinding", "(I)I"⟩, prog_1_method_52_code, 2, (Option.some Jvm.ClassFile.FieldType.int), 1, false, 2),
  (5, ⟨"ChainedChest", "commonDivisor", "(JJ)J"⟩, prog_1_method_53_code, 11, (Option.some Jvm.ClassFile.FieldType.long), 0, true, 2),
  (6, ⟨"ChainedChestModel", "no", "(I)I"⟩, prog_8_method_2_code, 2, (Option.some Jvm.ClassFile.FieldType.int), 0, false, 2),
  (6, ⟨"ChainedChestModel", "in1", "(III)Z"⟩, prog_8_method_3_code, 3, (Option.some Jvm.ClassFile.FieldType.boolean), 0, true, 3),
  (6, ⟨"ChainedChestModel", "most", "(II)I"⟩, prog_8_method_4_code, 2, (Option.some Jvm.ClassFile.FieldType.int), 0, true, 2),
  (6, ⟨"ChainedChestModel", "bits", "(I)I"⟩, prog_8_method_5_code, 3, (Option.some Jvm.ClassFile.FieldType.int), 0, true, 1),
  (6, ⟨"ChainedChestModel", "isIn", "(II)Z"⟩, prog_8_method_6_code, 2, (Option.some Jvm.ClassFile.FieldType.boolean), 0, true, 2),
  (6, ⟨"ChainedChestModel", "isLock", "(I)Z"⟩, prog_8_method_7_code, 2, (Option.some Jvm.ClassFile.FieldType.boolean), 1, false, 2)]
def mL_4 : List MI := [(6, ⟨"ChainedChestModel", "get", "(II)I"⟩, prog_8_method_8_code, 3, (Option.some Jvm.ClassFile.FieldType.int), 0, false, 3),
  (6, ⟨"ChainedChestModel", "puts", "(III)V"⟩, prog_8_method_9_code, 4, (Option.none : Option Jvm.ClassFile.FieldType), 0, false, 4),
  (6, ⟨"ChainedChestModel", "allLocks", "()I"⟩, prog_8_method_10_code, 1, (Option.some Jvm.ClassFile.FieldType.int), 0, false, 1),
  (6, ⟨"ChainedChestModel", "slackBy", "(I)I"⟩, prog_8_method_11_code, 4, (Option.some Jvm.ClassFile.FieldType.int), 1, false, 2),
  (6, ⟨"ChainedChestModel", "freeBy", "(I)I"⟩, prog_8_method_12_code, 4, (Option.some Jvm.ClassFile.FieldType.int), 1, false, 2),
  (6, ⟨"ChainedChestModel", "whyBy", "(IIII)I"⟩, prog_8_method_13_code, 5, (Option.some Jvm.ClassFile.FieldType.int), 1, false, 5),
  (6, ⟨"ChainedChestModel", "takesBy", "(IIII)I"⟩, prog_8_method_14_code, 9, (Option.some Jvm.ClassFile.FieldType.int), 1, false, 5),
  (6, ⟨"ChainedChestModel", "soundsOf", "(I)I"⟩, prog_8_method_15_code, 3, (Option.some Jvm.ClassFile.FieldType.int), 1, false, 2),
  (6, ⟨"ChainedChestModel", "mayBy", "(I)I"⟩, prog_8_method_16_code, 6, (Option.some Jvm.ClassFile.FieldType.int), 2, false, 2),
  (6, ⟨"ChainedChestModel", "isOut", "(I)Z"⟩, prog_8_method_17_code, 2, (Option.some Jvm.ClassFile.FieldType.boolean), 0, false, 2),
  (6, ⟨"ChainedChestModel", "lock", "(I)I"⟩, prog_8_method_18_code, 2, (Option.some Jvm.ClassFile.FieldType.int), 2, false, 2),
  (6, ⟨"ChainedChestModel", "comes", "(I)V"⟩, prog_8_method_19_code, 4, (Option.none : Option Jvm.ClassFile.FieldType), 1, false, 2),
  (6, ⟨"ChainedChestModel", "of", "(II)I"⟩, prog_8_method_20_code, 4, (Option.some Jvm.ClassFile.FieldType.int), 2, false, 3),
  (6, ⟨"ChainedChestModel", "mostOf", "(I)I"⟩, prog_8_method_21_code, 2, (Option.some Jvm.ClassFile.FieldType.int), 1, false, 2),
  (6, ⟨"ChainedChestModel", "change", "(III)I"⟩, prog_8_method_22_code, 5, (Option.some Jvm.ClassFile.FieldType.int), 2, false, 4),
  (6, ⟨"ChainedChestModel", "rule", "(II)I"⟩, prog_8_method_23_code, 4, (Option.some Jvm.ClassFile.FieldType.int), 1, false, 3),
  (6, ⟨"ChainedChestModel", "on", "(I)I"⟩, prog_8_method_24_code, 3, (Option.some Jvm.ClassFile.FieldType.int), 2, false, 2),
  (6, ⟨"ChainedChestModel", "shut", "()I"⟩, prog_8_method_25_code, 2, (Option.some Jvm.ClassFile.FieldType.int), 1, false, 1),
  (6, ⟨"ChainedChestModel", "may", "()I"⟩, prog_8_method_26_code, 1, (Option.some Jvm.ClassFile.FieldType.int), 3, false, 1),
  (6, ⟨"ChainedChestModel", "why", "(I)I"⟩, prog_8_method_27_code, 2, (Option.some Jvm.ClassFile.FieldType.int), 2, false, 2),
  (6, ⟨"ChainedChestModel", "doesPlay", "(I)Z"⟩, prog_8_method_28_code, 3, (Option.some Jvm.ClassFile.FieldType.boolean), 0, false, 2),
  (6, ⟨"ChainedChestModel", "takesNow", "(I)I"⟩, prog_8_method_29_code, 2, (Option.some Jvm.ClassFile.FieldType.int), 2, false, 2),
  (6, ⟨"ChainedChestModel", "comesOff", "(I)V"⟩, prog_8_method_30_code, 3, (Option.none : Option Jvm.ClassFile.FieldType), 3, false, 2),
  (6, ⟨"ChainedChestModel", "off", "(I)I"⟩, prog_8_method_31_code, 3, (Option.some Jvm.ClassFile.FieldType.int), 4, false, 2),
  (6, ⟨"ChainedChestModel", "now", "(I)I"⟩, prog_8_method_32_code, 2, (Option.some Jvm.ClassFile.FieldType.int), 2, false, 2),
  (6, ⟨"ChainedChestModel", "costs", "(IIIII)I"⟩, prog_8_method_33_code, 6, (Option.some Jvm.ClassFile.FieldType.int), 2, false, 6),
  (6, ⟨"ChainedChestModel", "leastFrom", "(II)I"⟩, prog_8_method_34_code, 8, (Option.some Jvm.ClassFile.FieldType.int), 3, false, 3),
  (6, ⟨"ChainedChestModel", "told1", "(I)I"⟩, prog_8_method_35_code, 2, (Option.some Jvm.ClassFile.FieldType.int), 1, false, 2),
  (6, ⟨"ChainedChestModel", "soonest", "()I"⟩, prog_8_method_36_code, 1, (Option.some Jvm.ClassFile.FieldType.int), 4, false, 1),
  (6, ⟨"ChainedChestModel", "findsRow", "()Z"⟩, prog_8_method_37_code, 7, (Option.some Jvm.ClassFile.FieldType.boolean), 4, false, 1),
  (6, ⟨"ChainedChestModel", "ith", "(I)I"⟩, prog_8_method_38_code, 3, (Option.some Jvm.ClassFile.FieldType.int), 5, false, 2),
  (6, ⟨"ChainedChestModel", "quietest", "()I"⟩, prog_8_method_39_code, 1, (Option.some Jvm.ClassFile.FieldType.int), 4, false, 1),
  (6, ⟨"ChainedChestModel", "fewest", "()I"⟩, prog_8_method_40_code, 1, (Option.some Jvm.ClassFile.FieldType.int), 4, false, 1),
  (6, ⟨"ChainedChestModel", "setsAside", "()V"⟩, prog_8_method_41_code, 2, (Option.none : Option Jvm.ClassFile.FieldType), 0, false, 1),
  (6, ⟨"ChainedChestModel", "laysBack", "()V"⟩, prog_8_method_42_code, 2, (Option.none : Option Jvm.ClassFile.FieldType), 0, false, 1),
  (6, ⟨"ChainedChestModel", "ahead", "(I)I"⟩, prog_8_method_43_code, 4, (Option.some Jvm.ClassFile.FieldType.int), 5, false, 2),
  (6, ⟨"ChainedChestModel", "countsWays", "(Z)V"⟩, prog_8_method_44_code, 6, (Option.none : Option Jvm.ClassFile.FieldType), 3, false, 2),
  (6, ⟨"ChainedChestModel", "ever", "()I"⟩, prog_8_method_45_code, 3, (Option.some Jvm.ClassFile.FieldType.int), 4, false, 1),
  (6, ⟨"ChainedChestModel", "states", "()I"⟩, prog_8_method_46_code, 3, (Option.some Jvm.ClassFile.FieldType.int), 4, false, 1),
  (6, ⟨"ChainedChestModel", "rows", "()I"⟩, prog_8_method_47_code, 3, (Option.some Jvm.ClassFile.FieldType.int), 4, false, 1)]
def mL_5 : List MI := [(6, ⟨"ChainedChestModel", "tools", "()I"⟩, prog_8_method_48_code, 4, (Option.some Jvm.ClassFile.FieldType.int), 4, false, 1),
  (6, ⟨"ChainedChestModel", "spare", "()I"⟩, prog_8_method_49_code, 4, (Option.some Jvm.ClassFile.FieldType.int), 4, false, 1),
  (6, ⟨"ChainedChestModel", "wire", "()I"⟩, prog_8_method_50_code, 5, (Option.some Jvm.ClassFile.FieldType.int), 4, false, 1),
  (6, ⟨"ChainedChestModel", "kindFor", "(I)I"⟩, prog_8_method_51_code, 7, (Option.some Jvm.ClassFile.FieldType.int), 4, false, 2),
  (6, ⟨"ChainedChestModel", "bestLink", "()I"⟩, prog_8_method_52_code, 8, (Option.some Jvm.ClassFile.FieldType.int), 4, false, 1),
  (6, ⟨"ChainedChestModel", "link", "()I"⟩, prog_8_method_53_code, 2, (Option.some Jvm.ClassFile.FieldType.int), 5, false, 1),
  (6, ⟨"ChainedChestModel", "linked", "()I"⟩, prog_8_method_54_code, 2, (Option.some Jvm.ClassFile.FieldType.int), 5, false, 1),
  (6, ⟨"ChainedChestModel", "spared", "()I"⟩, prog_8_method_55_code, 6, (Option.some Jvm.ClassFile.FieldType.int), 4, false, 1),
  (6, ⟨"ChainedChestModel", "surest", "(I)J"⟩, prog_8_method_56_code, 12, (Option.some Jvm.ClassFile.FieldType.long), 4, false, 2),
  (6, ⟨"ChainedChestModel", "isSheet", "(I)Z"⟩, prog_8_method_57_code, 1, (Option.some Jvm.ClassFile.FieldType.boolean), 1, true, 1),
  (6, ⟨"ChainedChestModel", "heardLocks", "(II)I"⟩, prog_8_method_58_code, 6, (Option.some Jvm.ClassFile.FieldType.int), 3, false, 3),
  (6, ⟨"ChainedChestModel", "countsHeard", "(I)V"⟩, prog_8_method_59_code, 8, (Option.none : Option Jvm.ClassFile.FieldType), 4, false, 2),
  (6, ⟨"ChainedChestModel", "wrongSheet", "(I)I"⟩, prog_8_method_60_code, 2, (Option.some Jvm.ClassFile.FieldType.int), 2, false, 2),
  (6, ⟨"ChainedChestModel", "fits", "(I)I"⟩, prog_8_method_61_code, 5, (Option.some Jvm.ClassFile.FieldType.int), 5, false, 2),
  (6, ⟨"ChainedChestModel", "heardSet", "(IZ)I"⟩, prog_8_method_62_code, 7, (Option.some Jvm.ClassFile.FieldType.int), 5, false, 3),
  (6, ⟨"ChainedChestModel", "heardTold", "(IZ)I"⟩, prog_8_method_63_code, 5, (Option.some Jvm.ClassFile.FieldType.int), 6, false, 3),
  (6, ⟨"ChainedChestModel", "maybe", "(I)I"⟩, prog_8_method_64_code, 2, (Option.some Jvm.ClassFile.FieldType.int), 7, false, 2),
  (6, ⟨"ChainedChestModel", "surely", "(I)I"⟩, prog_8_method_65_code, 2, (Option.some Jvm.ClassFile.FieldType.int), 7, false, 2),
  (6, ⟨"ChainedChestModel", "hear", "(I)I"⟩, prog_8_method_66_code, 2, (Option.some Jvm.ClassFile.FieldType.int), 4, false, 2),
  (6, ⟨"ChainedChestModel", "draw", "()I"⟩, prog_8_method_67_code, 1, (Option.some Jvm.ClassFile.FieldType.int), 0, false, 1),
  (6, ⟨"ChainedChestModel", "nthOf", "(II)I"⟩, prog_8_method_68_code, 5, (Option.some Jvm.ClassFile.FieldType.int), 1, false, 3),
  (6, ⟨"ChainedChestModel", "friday", "(I)I"⟩, prog_8_method_69_code, 8, (Option.some Jvm.ClassFile.FieldType.int), 4, false, 2),
  (6, ⟨"ChainedChestModel", "seed", "(I)I"⟩, prog_8_method_70_code, 3, (Option.some Jvm.ClassFile.FieldType.int), 0, false, 2),
  (6, ⟨"ChainedChestModel", "feed", "(II)I"⟩, prog_8_method_71_code, 4, (Option.some Jvm.ClassFile.FieldType.int), 1, false, 3),
  (6, ⟨"ChainedChestModel", "wipe", "()I"⟩, prog_8_method_72_code, 2, (Option.some Jvm.ClassFile.FieldType.int), 0, false, 1),
  (6, ⟨"ChainedChestModel", "isLetter", "(I)Z"⟩, prog_8_method_73_code, 1, (Option.some Jvm.ClassFile.FieldType.boolean), 1, true, 1),
  (6, ⟨"ChainedChestModel", "isDigit", "(I)Z"⟩, prog_8_method_74_code, 1, (Option.some Jvm.ClassFile.FieldType.boolean), 1, true, 1),
  (6, ⟨"ChainedChestModel", "nextToken", "()V"⟩, prog_8_method_75_code, 1, (Option.none : Option Jvm.ClassFile.FieldType), 2, false, 1),
  (6, ⟨"ChainedChestModel", "wordOf", "([C)I"⟩, prog_8_method_76_code, 7, (Option.some Jvm.ClassFile.FieldType.int), 0, false, 2),
  (6, ⟨"ChainedChestModel", "takesNumber", "(II)I"⟩, prog_8_method_77_code, 4, (Option.some Jvm.ClassFile.FieldType.int), 3, false, 3),
  (6, ⟨"ChainedChestModel", "readsLock", "(I)Z"⟩, prog_8_method_78_code, 7, (Option.some Jvm.ClassFile.FieldType.boolean), 4, false, 2),
  (6, ⟨"ChainedChestModel", "readsItem", "()Z"⟩, prog_8_method_79_code, 4, (Option.some Jvm.ClassFile.FieldType.boolean), 5, false, 1),
  (6, ⟨"ChainedChestModel", "text", "()I"⟩, prog_8_method_80_code, 3, (Option.some Jvm.ClassFile.FieldType.int), 6, false, 1),
  (6, ⟨"ChainedChestModel", "isSpot", "(I)Z"⟩, prog_8_method_81_code, 1, (Option.some Jvm.ClassFile.FieldType.boolean), 1, true, 1),
  (6, ⟨"ChainedChestModel", "hold", "(II)I"⟩, prog_8_method_82_code, 3, (Option.some Jvm.ClassFile.FieldType.int), 2, false, 3),
  (6, ⟨"ChainedChestModel", "above", "(I)I"⟩, prog_8_method_83_code, 1, (Option.some Jvm.ClassFile.FieldType.int), 0, true, 1),
  (6, ⟨"ChainedChestModel", "as", "(II)I"⟩, prog_8_method_84_code, 5, (Option.some Jvm.ClassFile.FieldType.int), 2, false, 3),
  (6, ⟨"ChainedChestModel", "sheet", "(III)I"⟩, prog_8_method_85_code, 5, (Option.some Jvm.ClassFile.FieldType.int), 2, false, 4),
  (6, ⟨"ChainedChestModel", "write", "(III)I"⟩, prog_8_method_86_code, 5, (Option.some Jvm.ClassFile.FieldType.int), 3, false, 4),
  (6, ⟨"ChainedChestModel", "copy", "(IIIII)I"⟩, prog_8_method_87_code, 7, (Option.some Jvm.ClassFile.FieldType.int), 2, false, 6)]
def mL_6 : List MI := [(6, ⟨"ChainedChestModel", "load", "(I)I"⟩, prog_8_method_88_code, 4, (Option.some Jvm.ClassFile.FieldType.int), 3, false, 2),
  (6, ⟨"ChainedChestModel", "judge", "(I)I"⟩, prog_8_method_89_code, 5, (Option.some Jvm.ClassFile.FieldType.int), 3, false, 2),
  (6, ⟨"ChainedChestModel", "image", "()I"⟩, prog_8_method_90_code, 2, (Option.some Jvm.ClassFile.FieldType.int), 0, false, 1),
  (6, ⟨"ChainedChestModel", "undo", "()I"⟩, prog_8_method_91_code, 2, (Option.some Jvm.ClassFile.FieldType.int), 1, false, 1),
  (6, ⟨"ChainedChestModel", "tear", "()I"⟩, prog_8_method_92_code, 2, (Option.some Jvm.ClassFile.FieldType.int), 0, false, 1),
  (6, ⟨"ChainedChestModel", "count", "(I)I"⟩, prog_8_method_93_code, 4, (Option.some Jvm.ClassFile.FieldType.int), 1, false, 2),
  (6, ⟨"ChainedChestModel", "status", "(I)I"⟩, prog_8_method_94_code, 4, (Option.some Jvm.ClassFile.FieldType.int), 1, false, 2),
  (7, ⟨"java/lang/Integer", "bitCount", "(I)I"⟩, prog_9_method_49_code, 1, (Option.some Jvm.ClassFile.FieldType.int), 0, true, 1),
  (9, ⟨"java/lang/String", "charAt", "(I)C"⟩, prog_11_method_56_code, 2, (Option.some Jvm.ClassFile.FieldType.char), 3, false, 2),
  (9, ⟨"java/lang/String", "checkIndex", "(II)V"⟩, prog_11_method_155_code, 2, (Option.none : Option Jvm.ClassFile.FieldType), 1, true, 2),
  (9, ⟨"java/lang/String", "coder", "()B"⟩, prog_11_method_152_code, 1, (Option.some Jvm.ClassFile.FieldType.byte), 0, false, 1),
  (9, ⟨"java/lang/String", "isLatin1", "()Z"⟩, prog_11_method_154_code, 1, (Option.some Jvm.ClassFile.FieldType.boolean), 0, false, 1),
  (9, ⟨"java/lang/String", "length", "()I"⟩, prog_11_method_54_code, 1, (Option.some Jvm.ClassFile.FieldType.int), 1, false, 1),
  (10, ⟨"java/lang/StringLatin1", "charAt", "([BI)C"⟩, prog_12_method_2_code, 2, (Option.some Jvm.ClassFile.FieldType.char), 2, true, 2),
  (11, ⟨"java/util/Arrays", "fill", "([II)V"⟩, prog_15_method_103_code, 4, (Option.none : Option Jvm.ClassFile.FieldType), 0, true, 2),
  (12, ⟨"jdk/internal/util/Preconditions", "checkIndex", "(IILjava/util/function/BiFunction;)I"⟩, prog_16_method_11_code, 3, (Option.some Jvm.ClassFile.FieldType.int), 0, true, 3)]
def mLst : List MI := mL_0 ++ mL_1 ++ mL_2 ++ mL_3 ++ mL_4 ++ mL_5 ++ mL_6
def mD0 : MI := (0, ⟨"", "", ""⟩, ⟨#[]⟩, 0, none, 0, true, 0)
def mI (μ : Nat) : MI := mLst.getD μ mD0
def ftab : List (Nat × Nat × Nat × Nat × Nat) := [(0, 11, 0, 0, 100), (0, 14, 0, 1, 101), (0, 18, 0, 2, 102), (0, 21, 0, 3, 103), (0, 25, 0, 4, 107), (0, 28, 0, 5, 111), (0, 31, 0, 6, 114), (0, 34, 0, 7, 116), (1, 13, 1, 1, 232), (1, 17, 1, 2, 233), (1, 9, 1, 0, 231), (2, 19, 2, 0, 186), (2, 23, 2, 1, 187), (2, 39, 0, 4, 108), (2, 46, 0, 3, 105), (2, 10, 2, 2, 188), (2, 16, 2, 3, 189), (3, 13, 3, 1, 206), (3, 9, 3, 0, 205), (3, 20, 3, 3, 208), (3, 17, 3, 2, 207), (3, 23, 3, 4, 209), (3, 56, 0, 3, 106), (3, 26, 3, 5, 210), (4, 46, 4, 0, 142), (4, 11, 4, 1, 143), (4, 15, 4, 2, 144), (4, 18, 4, 3, 145), (4, 21, 4, 4, 146), (4, 24, 4, 5, 147), (4, 30, 4, 7, 149), (4, 34, 4, 8, 150), (4, 27, 4, 6, 148), (4, 116, 0, 5, 113), (4, 119, 0, 4, 110), (4, 37, 4, 9, 151), (4, 40, 4, 10, 152), (4, 43, 4, 11, 153), (5, 12, 5, 0, 241), (5, 71, 0, 3, 104), (5, 109, 0, 4, 109), (5, 122, 0, 5, 112), (5, 131, 0, 6, 115), (5, 27, 5, 3, 244), (5, 36, 5, 4, 245), (5, 49, 5, 6, 247), (5, 230, 0, 7, 117), (5, 43, 5, 5, 246), (5, 19, 5, 2, 243), (5, 16, 5, 1, 242), (5, 57, 5, 8, 249), (5, 53, 5, 7, 248), (6, 19, 6, 4, 1034), (6, 9, 6, 0, 1030), (6, 22, 6, 5, 1035), (6, 144, 6, 7, 1037), (6, 25, 6, 6, 1036), (6, 16, 6, 2, 1032), (6, 28, 6, 8, 1038), (6, 162, 6, 9, 1039), (6, 50, 6, 21, 1051), (6, 53, 6, 22, 1052), (6, 47, 6, 20, 1050), (6, 199, 6, 11, 1041), (6, 31, 6, 10, 1040), (6, 202, 6, 14, 1044), (6, 205, 6, 13, 1043), (6, 208, 6, 15, 1045), (6, 212, 6, 12, 1042), (6, 38, 6, 17, 1047), (6, 44, 6, 19, 1049), (6, 34, 6, 16, 1046), (6, 41, 6, 18, 1048), (6, 56, 6, 23, 1053), (6, 13, 6, 1, 1031), (6, 253, 6, 3, 1033)]
def ctab : List (Nat × Nat × Int32 × Nat) := [(0, 116, 1103515245, 740), (2, 9, 2147483647, 185), (4, 92, 2147483647, 463), (5, 66, (-1000001), 276), (5, 75, (-1000002), 281), (5, 125, 99999, 411), (5, 126, (-1000005), 412), (5, 158, (-1000004), 480), (5, 259, (-1000006), 677), (5, 263, (-1000003), 930), (5, 270, (-1000007), 938), (5, 310, 2147483647, 479), (6, 59, (-1000001), 1115), (6, 126, 99999, 1209), (6, 133, 99999999, 1234), (6, 189, 1103515245, 1372), (7, 265, 1431655765, 315), (7, 266, 858993459, 316), (7, 267, 252645135, 317)]
def lctab : List (Nat × Nat × Nat × Nat) := [(4, 141, 10000000000, 651), (4, 143, 10, 652), (5, 205, 10000000000, 657), (6, 168, 10, 1323), (6, 218, 99999999999, 1400), (6, 220, 27, 1401), (6, 222, 96, 1402), (6, 227, 1023, 1406), (6, 229, 48, 1407)]
def ktab : List (Nat × Nat × Nat × Nat) := [(0, 52, 1, 927), (0, 62, 7, 331), (0, 65, 3, 326), (0, 68, 4, 342), (0, 78, 10, 362), (0, 84, 247, 312), (0, 90, 16, 304), (0, 93, 17, 308), (0, 96, 21, 391), (0, 100, 23, 395), (0, 104, 25, 318), (0, 107, 24, 417), (0, 110, 19, 418), (0, 113, 26, 422), (0, 117, 15, 733), (0, 120, 18, 734), (0, 123, 20, 735), (0, 126, 28, 736), (0, 129, 30, 741), (0, 133, 6, 744), (0, 136, 27, 745), (0, 140, 31, 915), (0, 143, 43, 983), (0, 146, 45, 984), (0, 149, 8, 985), (0, 153, 42, 994), (1, 29, 254, 947), (1, 35, 43, 693), (1, 39, 44, 973), (2, 29, 12, 563), (2, 33, 247, 564), (2, 42, 91, 565), (2, 49, 14, 585), (2, 52, 78, 586), (2, 55, 6, 595), (2, 58, 75, 596), (2, 62, 9, 597), (2, 66, 79, 598), (2, 69, 13, 635), (2, 73, 54, 607), (2, 77, 80, 611), (3, 29, 71, 782), (3, 32, 61, 805), (3, 38, 64, 809), (3, 42, 74, 819), (3, 46, 62, 871), (3, 50, 65, 891), (3, 53, 63, 897), (3, 59, 4, 875), (3, 63, 5, 876), (3, 67, 66, 877), (3, 70, 67, 886), (3, 73, 8, 889), (3, 77, 9, 890), (3, 81, 11, 901), (3, 84, 12, 902), (3, 120, 68, 786), (3, 123, 69, 790), (3, 127, 72, 793), (3, 130, 70, 797), (3, 133, 73, 800), (3, 141, 252, 823), (3, 146, 248, 833), (4, 50, 4, 446), (4, 54, 254, 447), (4, 60, 77, 448), (4, 64, 16, 451), (4, 68, 17, 452), (4, 71, 247, 453), (4, 76, 21, 454), (4, 80, 76, 455), (4, 84, 75, 442), (4, 88, 79, 459), (4, 93, 18, 464), (4, 96, 81, 465), (4, 100, 82, 469), (4, 104, 25, 473), (4, 107, 26, 474), (4, 110, 78, 489), (4, 113, 84, 490), (4, 122, 19, 522), (4, 125, 93, 547), (4, 128, 94, 551), (4, 131, 96, 647), (4, 145, 6, 653), (4, 148, 42, 682), (4, 156, 45, 689), (4, 159, 98, 697), (5, 62, 1, 273), (5, 67, 149, 277), (5, 76, 5, 282), (5, 79, 3, 292), (5, 82, 14, 296), (5, 85, 24, 300), (5, 88, 26, 322), (5, 91, 6, 327), (5, 95, 8, 338), (5, 99, 9, 350), (5, 103, 11, 358), (5, 106, 12, 367), (5, 112, 15, 379), (5, 116, 20, 387), (5, 119, 22, 403), (5, 127, 27, 413), (5, 134, 16, 427), (5, 137, 17, 428), (5, 140, 18, 429), (5, 143, 19, 433), (5, 146, 78, 438), (5, 149, 150, 475), (5, 152, 83, 485), (5, 155, 85, 494), (5, 159, 86, 498), (5, 162, 87, 514), (5, 165, 88, 518), (5, 168, 89, 527), (5, 171, 90, 535), (5, 174, 92, 543), (5, 177, 48, 559), (5, 180, 49, 573), (5, 183, 50, 581), (5, 186, 51, 591), (5, 189, 53, 603), (5, 192, 55, 615), (5, 195, 56, 623), (5, 198, 52, 631), (5, 201, 95, 643), (5, 207, 153, 658), (5, 211, 152, 665), (5, 214, 97, 678), (5, 218, 99, 701), (5, 221, 100, 709), (5, 224, 101, 717), (5, 227, 29, 729), (5, 233, 57, 754), (5, 236, 58, 758), (5, 239, 59, 766), (5, 242, 0, 774), (5, 245, 60, 778), (5, 249, 31, 908), (5, 252, 32, 911), (5, 256, 33, 920), (5, 260, 2, 924), (5, 264, 151, 669), (5, 267, 38, 935), (5, 271, 41, 939), (5, 274, 43, 952), (5, 275, 46, 953), (5, 277, 39, 673), (5, 281, 40, 961), (5, 285, 44, 965), (5, 288, 47, 969), (5, 292, 36, 979), (5, 296, 37, 990), (5, 299, 247, 1011), (5, 304, 35, 1012), (5, 307, 34, 1016), (6, 60, 155, 1108), (6, 64, 158, 1136), (6, 68, 160, 1132), (6, 72, 157, 1154), (6, 76, 156, 1151), (6, 79, 163, 1139), (6, 82, 164, 1143), (6, 85, 165, 1193), (6, 89, 154, 1111), (6, 92, 171, 1116), (6, 96, 161, 1120), (6, 100, 159, 1128), (6, 104, 166, 1147), (6, 107, 167, 1157), (6, 110, 162, 1169), (6, 114, 173, 1165), (6, 117, 168, 1189), (6, 120, 181, 1205), (6, 123, 180, 1214), (6, 127, 182, 1210), (6, 130, 169, 1222), (6, 134, 185, 1235), (6, 138, 186, 1230), (6, 141, 187, 1239), (6, 148, 189, 1247), (6, 152, 193, 1263), (6, 155, 194, 1267), (6, 158, 196, 1275), (6, 165, 204, 1307), (6, 170, 210, 1339), (6, 173, 209, 1332), (6, 176, 212, 1328), (6, 179, 211, 1335), (6, 182, 214, 1351), (6, 186, 215, 1347), (6, 190, 177, 1367), (6, 193, 219, 1368), (6, 196, 220, 1373), (6, 215, 225, 1397), (6, 224, 226, 1403), (6, 231, 227, 1393), (6, 234, 228, 1412), (6, 238, 229, 1420), (6, 241, 230, 1416), (6, 244, 231, 1408), (6, 247, 233, 1428), (6, 250, 235, 1435), (9, 492, 251, 837), (9, 495, 253, 841), (9, 1059, 255, 849), (9, 335, 250, 827), (10, 9, 249, 844)]
def satab : List (Nat × Nat × Nat × Nat) := [(0, 56, 205, 928), (0, 59, 202, 286), (0, 72, 201, 346), (0, 75, 200, 348), (0, 81, 203, 365)]
def sttab : List (Nat × Nat × Nat × Nat) := [(9, 9, 0, 1478), (9, 1053, 3, 847), (9, 38, 2, 831), (9, 15, 1, 1479)]
def ntab : List (Nat × Nat × Nat × Nat) := [(0, 40, 3, 94), (1, 20, 0, 943), (1, 26, 1, 944), (1, 43, 3, 974), (3, 136, 0, 804), (4, 135, 2, 654), (4, 153, 0, 686)]
def mwtab : List (Nat × Nat × Nat × Nat) := [(777, 775, 776, 62), (275, 274, 0, 62), (926, 925, 0, 62), (295, 293, 294, 62), (345, 343, 344, 62), (285, 283, 284, 62), (330, 328, 329, 62), (333, 332, 0, 62), (341, 339, 340, 62), (353, 351, 352, 62), (364, 363, 0, 62), (361, 359, 360, 62), (370, 368, 369, 62), (638, 636, 637, 62), (299, 297, 298, 62), (382, 380, 381, 62), (307, 305, 306, 62), (311, 309, 310, 62), (432, 430, 431, 62), (421, 419, 420, 62), (390, 388, 389, 62), (394, 392, 393, 62), (406, 404, 405, 62), (398, 397, 1, 62), (303, 301, 302, 62), (321, 319, 320, 62), (325, 323, 324, 62), (416, 414, 415, 62), (739, 738, 14, 62), (732, 730, 731, 62), (743, 742, 0, 62), (910, 909, 0, 62), (914, 912, 913, 62), (923, 921, 922, 62), (1019, 1017, 1018, 62), (1015, 1013, 1014, 62), (982, 980, 981, 62), (993, 991, 992, 62), (937, 936, 0, 68), (676, 674, 675, 68), (964, 962, 963, 68), (942, 940, 941, 68), (685, 683, 684, 68), (696, 694, 695, 68), (968, 966, 967, 68), (692, 690, 691, 68), (956, 954, 955, 68), (972, 970, 971, 68), (562, 560, 561, 66), (576, 574, 575, 66), (584, 582, 583, 66), (594, 592, 593, 66), (634, 632, 633, 66), (606, 604, 605, 66), (610, 609, 9, 66), (618, 616, 617, 66), (626, 624, 625, 66), (757, 755, 756, 67), (761, 759, 760, 67), (769, 767, 768, 67), (781, 779, 780, 67), (808, 807, 19, 67), (874, 873, 21, 67), (900, 899, 22, 67), (811, 810, 0, 67), (893, 892, 0, 67), (879, 878, 0, 67), (888, 887, 0, 67), (789, 788, 16, 67), (792, 791, 0, 67), (799, 798, 0, 67), (785, 784, 15, 67), (796, 795, 17, 67), (803, 802, 18, 67), (822, 821, 20, 67), (445, 443, 444, 65), (458, 457, 2, 65), (450, 449, 0, 65), (441, 439, 440, 65), (462, 460, 461, 65), (614, 612, 613, 65), (468, 467, 3, 65), (472, 471, 4, 65), (488, 486, 487, 65), (493, 492, 6, 65), (497, 495, 496, 65), (501, 499, 500, 65), (517, 515, 516, 65), (521, 519, 520, 65), (530, 528, 529, 65), (538, 536, 537, 65), (568, 566, 567, 65), (546, 544, 545, 65), (550, 549, 7, 65), (554, 553, 8, 65), (646, 644, 645, 65), (650, 649, 10, 65), (681, 679, 680, 65), (700, 699, 13, 65), (704, 702, 703, 65), (712, 710, 711, 65), (720, 718, 719, 65), (272, 270, 271, 61), (291, 289, 290, 61), (337, 335, 336, 61), (357, 355, 356, 61), (374, 372, 373, 61), (378, 376, 377, 61), (386, 384, 385, 61), (402, 400, 401, 61), (410, 408, 409, 61), (426, 424, 425, 61), (437, 435, 436, 61), (484, 482, 483, 61), (505, 503, 504, 61), (509, 507, 508, 61), (513, 511, 512, 61), (526, 524, 525, 61), (534, 532, 533, 61), (542, 540, 541, 61), (558, 556, 557, 61), (572, 570, 571, 61), (580, 578, 579, 61), (590, 588, 589, 61), (602, 600, 601, 61), (622, 620, 621, 61), (630, 628, 629, 61), (642, 640, 641, 61), (664, 662, 663, 61), (708, 706, 707, 61), (716, 714, 715, 61), (724, 722, 723, 61), (728, 726, 727, 61), (749, 747, 748, 61), (753, 751, 752, 61), (765, 763, 764, 61), (773, 771, 772, 61), (907, 905, 906, 61), (919, 917, 918, 61), (934, 932, 933, 61), (951, 949, 950, 61), (960, 958, 959, 61), (978, 976, 977, 61), (989, 987, 988, 61), (998, 996, 997, 61), (1002, 1000, 1001, 61), (1006, 1004, 1005, 61), (1010, 1008, 1009, 61), (1023, 1021, 1022, 61), (280, 279, 0, 61), (478, 477, 5, 61), (672, 671, 12, 61), (668, 667, 11, 61), (660, 659, 0, 61), (1114, 1113, 23, 69), (1110, 1109, 0, 69), (1153, 1152, 0, 69), (1156, 1155, 0, 69), (1138, 1137, 0, 69), (1131, 1130, 26, 69), (1135, 1134, 27, 69), (1123, 1122, 25, 69), (1172, 1171, 33, 69), (1142, 1141, 28, 69), (1146, 1145, 29, 69), (1196, 1195, 35, 69), (1150, 1149, 30, 69), (1160, 1159, 31, 69), (1192, 1191, 34, 69), (1225, 1224, 39, 69), (1107, 1105, 1106, 69), (1119, 1118, 24, 69), (1127, 1125, 1126, 69), (1168, 1167, 32, 69), (1164, 1162, 1163, 69), (1176, 1174, 1175, 69), (1180, 1178, 1179, 69), (1184, 1182, 1183, 69), (1188, 1186, 1187, 69), (1200, 1198, 1199, 69), (1217, 1216, 38, 69), (1208, 1207, 36, 69), (1213, 1212, 37, 69), (1204, 1202, 1203, 69), (1221, 1219, 1220, 69), (1238, 1237, 41, 69), (1233, 1232, 40, 69), (1242, 1241, 42, 69), (1229, 1227, 1228, 69), (1250, 1249, 43, 69), (1246, 1244, 1245, 69), (1254, 1252, 1253, 69), (1258, 1256, 1257, 69), (1266, 1265, 44, 69), (1270, 1269, 45, 69), (1262, 1260, 1261, 69), (1278, 1277, 46, 69), (1274, 1272, 1273, 69), (1282, 1280, 1281, 69), (1286, 1284, 1285, 69), (1290, 1288, 1289, 69), (1294, 1292, 1293, 69), (1298, 1296, 1297, 69), (1302, 1300, 1301, 69), (1310, 1309, 47, 69), (1306, 1304, 1305, 69), (1314, 1312, 1313, 69), (1318, 1316, 1317, 69), (1322, 1320, 1321, 69), (1334, 1333, 0, 69), (1342, 1341, 50, 69), (1338, 1337, 49, 69), (1331, 1330, 48, 69), (1327, 1325, 1326, 69), (1354, 1353, 52, 69), (1350, 1349, 51, 69), (1346, 1344, 1345, 69), (1358, 1356, 1357, 69), (1362, 1360, 1361, 69), (1371, 1370, 53, 69), (1376, 1375, 54, 69), (1366, 1364, 1365, 69), (1380, 1378, 1379, 69), (1384, 1382, 1383, 69), (1388, 1386, 1387, 69), (1399, 1398, 0, 69), (1405, 1404, 0, 69), (1396, 1395, 55, 69), (1415, 1414, 57, 69), (1423, 1422, 59, 69), (1419, 1418, 58, 69), (1411, 1410, 56, 69), (1392, 1390, 1391, 69), (1430, 1429, 0, 69), (1427, 1425, 1426, 69), (1437, 1436, 0, 69), (1434, 1432, 1433, 69), (1441, 1439, 1440, 69), (1445, 1443, 1444, 69), (1449, 1447, 1448, 69), (1453, 1451, 1452, 69), (1457, 1455, 1456, 69), (1461, 1459, 1460, 69), (1465, 1463, 1464, 69), (1469, 1467, 1468, 69), (1473, 1471, 1472, 69), (1477, 1475, 1476, 69), (314, 313, 0, 70), (836, 834, 835, 72), (846, 845, 0, 72), (830, 828, 829, 72), (840, 838, 839, 72), (826, 824, 825, 72), (843, 842, 0, 73), (99, 98, 0, 64), (851, 850, 0, 74)]
/-- String constants: their places in Tape's pool, their texts -/
def strL : List (Nat × String) := [(88, "rope"), (90, "chain"), (92, "old"), (94, "rusted"), (96, "nail"), (98, "bolt"), (100, "lock"), (102, "tools"), (104, "spare"), (106, "goal"), (108, "time"), (110, "gives"), (112, "wants"), (114, "binds"), (116, "hands"), (118, "after")]
