/-! names and tables of the class, the reference and the few JDK methods that they reach: written by wip/gen/gen.py -/
def RX0 : String := "ChainedChest$Chest"
def TX0 : u_T := fun k => match k with
  | 0 => ("ChainedChest$Chest", "traits", "[[I", true)
  | 1 => ("ChainedChest$Chest", "rules", "[I", true)
  | 2 => ("ChainedChest$Chest", "spots", "[I", true)
  | 3 => ("ChainedChest$Chest", "locks", "I", false)
  | 4 => ("ChainedChest$Chest", "open", "I", false)
  | 5 => ("ChainedChest$Chest", "clock", "I", false)
  | 6 => ("ChainedChest$Chest", "heard", "I", false)
  | _ => ("ChainedChest$Chest", "z", "I", false)
def tyX0 : Nat → FieldType := fun k => match k with
  | 0 => .array (.array .int)
  | 1 => .array .int
  | 2 => .array .int
  | 3 => .int
  | 4 => .int
  | 5 => .int
  | 6 => .int
  | _ => .int
abbrev wsX00 : List Cond := u_ws RX0 TX0 8
theorem nmX0 : ∀ a, a < 8 → ∀ b, b < 8 → a ≠ b → (TX0 a).2.1 ≠ (TX0 b).2.1 := by decide +kernel
theorem tyX0_ok : ∀ k, k < 8 → parseFieldDescriptor (TX0 k).2.2.1 = some (tyX0 k) := by decide +kernel
def RX1 : String := "ChainedChest$Sheet"
def TX1 : u_T := fun k => match k with
  | 0 => ("ChainedChest$Sheet", "numbers", "[I", true)
  | 1 => ("ChainedChest$Sheet", "bits", "I", false)
  | _ => ("ChainedChest$Sheet", "length", "I", false)
def tyX1 : Nat → FieldType := fun k => match k with
  | 0 => .array .int
  | 1 => .int
  | _ => .int
abbrev wsX10 : List Cond := u_ws RX1 TX1 3
theorem nmX1 : ∀ a, a < 3 → ∀ b, b < 3 → a ≠ b → (TX1 a).2.1 ≠ (TX1 b).2.1 := by decide +kernel
theorem tyX1_ok : ∀ k, k < 3 → parseFieldDescriptor (TX1 k).2.2.1 = some (tyX1 k) := by decide +kernel
def RX2 : String := "ChainedChest$Smith"
def TX2 : u_T := fun k => match k with
  | 0 => ("ChainedChest$Smith", "chest", "LChainedChest$Chest;", true)
  | 1 => ("ChainedChest$Smith", "ways", "LChainedChest$Ways;", true)
  | 2 => ("ChainedChest$Smith", "linkPair", "I", false)
  | _ => ("ChainedChest$Smith", "linkTime", "I", false)
def tyX2 : Nat → FieldType := fun k => match k with
  | 0 => .object "ChainedChest$Chest"
  | 1 => .object "ChainedChest$Ways"
  | 2 => .int
  | _ => .int
abbrev wsX20 : List Cond := u_ws RX2 TX2 4
theorem nmX2 : ∀ a, a < 4 → ∀ b, b < 4 → a ≠ b → (TX2 a).2.1 ≠ (TX2 b).2.1 := by decide +kernel
theorem tyX2_ok : ∀ k, k < 4 → parseFieldDescriptor (TX2 k).2.2.1 = some (tyX2 k) := by decide +kernel
def RX3 : String := "ChainedChest$Tape"
def TX3 : u_T := fun k => match k with
  | 0 => ("ChainedChest$Tape", "bytes", "[I", true)
  | 1 => ("ChainedChest$Tape", "size", "I", false)
  | 2 => ("ChainedChest$Tape", "from", "I", false)
  | 3 => ("ChainedChest$Tape", "to", "I", false)
  | 4 => ("ChainedChest$Tape", "token", "I", false)
  | _ => ("ChainedChest$Tape", "value", "I", false)
def tyX3 : Nat → FieldType := fun k => match k with
  | 0 => .array .int
  | 1 => .int
  | 2 => .int
  | 3 => .int
  | 4 => .int
  | _ => .int
abbrev wsX30 : List Cond := u_ws RX3 TX3 6
theorem nmX3 : ∀ a, a < 6 → ∀ b, b < 6 → a ≠ b → (TX3 a).2.1 ≠ (TX3 b).2.1 := by decide +kernel
theorem tyX3_ok : ∀ k, k < 6 → parseFieldDescriptor (TX3 k).2.2.1 = some (tyX3 k) := by decide +kernel
def RX4 : String := "ChainedChest$Ways"
def TX4 : u_T := fun k => match k with
  | 0 => ("ChainedChest$Ways", "chest", "LChainedChest$Chest;", true)
  | 1 => ("ChainedChest$Ways", "mays", "[I", true)
  | 2 => ("ChainedChest$Ways", "slacks", "[I", true)
  | 3 => ("ChainedChest$Ways", "hands", "[I", true)
  | 4 => ("ChainedChest$Ways", "sums", "[I", true)
  | 5 => ("ChainedChest$Ways", "linkedSums", "[I", true)
  | 6 => ("ChainedChest$Ways", "row", "[I", true)
  | 7 => ("ChainedChest$Ways", "rowLength", "I", false)
  | 8 => ("ChainedChest$Ways", "fittingRows", "I", false)
  | 9 => ("ChainedChest$Ways", "fittingAny", "I", false)
  | _ => ("ChainedChest$Ways", "fittingAll", "I", false)
def tyX4 : Nat → FieldType := fun k => match k with
  | 0 => .object "ChainedChest$Chest"
  | 1 => .array .int
  | 2 => .array .int
  | 3 => .array .int
  | 4 => .array .int
  | 5 => .array .int
  | 6 => .array .int
  | 7 => .int
  | 8 => .int
  | 9 => .int
  | _ => .int
abbrev wsX40 : List Cond := u_ws RX4 TX4 11
theorem nmX4 : ∀ a, a < 11 → ∀ b, b < 11 → a ≠ b → (TX4 a).2.1 ≠ (TX4 b).2.1 := by decide +kernel
theorem tyX4_ok : ∀ k, k < 11 → parseFieldDescriptor (TX4 k).2.2.1 = some (tyX4 k) := by decide +kernel
def RX5 : String := "ChainedChest"
def TX5 : u_T := fun k => match k with
  | 0 => ("ChainedChest", "chest", "LChainedChest$Chest;", true)
  | 1 => ("ChainedChest", "kept", "LChainedChest$Chest;", true)
  | 2 => ("ChainedChest", "draft", "LChainedChest$Chest;", true)
  | 3 => ("ChainedChest", "ways", "LChainedChest$Ways;", true)
  | 4 => ("ChainedChest", "smith", "LChainedChest$Smith;", true)
  | 5 => ("ChainedChest", "tape", "LChainedChest$Tape;", true)
  | 6 => ("ChainedChest", "sheets", "[LChainedChest$Sheet;", true)
  | 7 => ("ChainedChest", "told", "[I", true)
  | _ => ("ChainedChest", "isKept", "Z", false)
def tyX5 : Nat → FieldType := fun k => match k with
  | 0 => .object "ChainedChest$Chest"
  | 1 => .object "ChainedChest$Chest"
  | 2 => .object "ChainedChest$Chest"
  | 3 => .object "ChainedChest$Ways"
  | 4 => .object "ChainedChest$Smith"
  | 5 => .object "ChainedChest$Tape"
  | 6 => .array (.object "ChainedChest$Sheet")
  | 7 => .array .int
  | _ => .boolean
abbrev wsX50 : List Cond := u_ws RX5 TX5 9
theorem nmX5 : ∀ a, a < 9 → ∀ b, b < 9 → a ≠ b → (TX5 a).2.1 ≠ (TX5 b).2.1 := by decide +kernel
theorem tyX5_ok : ∀ k, k < 9 → parseFieldDescriptor (TX5 k).2.2.1 = some (tyX5 k) := by decide +kernel
def RX6 : String := "ChainedChestModel"
def TX6 : u_T := fun k => match k with
  | 0 => ("ChainedChestModel", "s", "[I", true)
  | 1 => ("ChainedChestModel", "kept", "[I", true)
  | 2 => ("ChainedChestModel", "aside", "[I", true)
  | 3 => ("ChainedChestModel", "isKept", "Z", false)
  | 4 => ("ChainedChestModel", "found", "[I", true)
  | 5 => ("ChainedChestModel", "left", "[I", true)
  | 6 => ("ChainedChestModel", "row", "[I", true)
  | 7 => ("ChainedChestModel", "rowMany", "I", false)
  | 8 => ("ChainedChestModel", "ways", "[I", true)
  | 9 => ("ChainedChestModel", "linkedBy", "I", false)
  | 10 => ("ChainedChestModel", "tape", "[I", true)
  | 11 => ("ChainedChestModel", "taped", "I", false)
  | 12 => ("ChainedChestModel", "token", "I", false)
  | 13 => ("ChainedChestModel", "begun", "I", false)
  | 14 => ("ChainedChestModel", "ended", "I", false)
  | 15 => ("ChainedChestModel", "value", "J", false)
  | 16 => ("ChainedChestModel", "letters", "[C", true)
  | 17 => ("ChainedChestModel", "more", "[C", true)
  | 18 => ("ChainedChestModel", "others", "[C", true)
  | 19 => ("ChainedChestModel", "fieldOf", "[I", true)
  | 20 => ("ChainedChestModel", "widths", "[I", true)
  | 21 => ("ChainedChestModel", "sizes", "[I", true)
  | 22 => ("ChainedChestModel", "cells", "[I", true)
  | _ => ("ChainedChestModel", "carried", "[I", true)
def tyX6 : Nat → FieldType := fun k => match k with
  | 0 => .array .int
  | 1 => .array .int
  | 2 => .array .int
  | 3 => .boolean
  | 4 => .array .int
  | 5 => .array .int
  | 6 => .array .int
  | 7 => .int
  | 8 => .array .int
  | 9 => .int
  | 10 => .array .int
  | 11 => .int
  | 12 => .int
  | 13 => .int
  | 14 => .int
  | 15 => .long
  | 16 => .array .char
  | 17 => .array .char
  | 18 => .array .char
  | 19 => .array .int
  | 20 => .array .int
  | 21 => .array .int
  | 22 => .array .int
  | _ => .array .int
abbrev wsX60 : List Cond := u_ws RX6 TX6 24
theorem nmX6 : ∀ a, a < 24 → ∀ b, b < 24 → a ≠ b → (TX6 a).2.1 ≠ (TX6 b).2.1 := by decide +kernel
theorem tyX6_ok : ∀ k, k < 24 → parseFieldDescriptor (TX6 k).2.2.1 = some (tyX6 k) := by decide +kernel
abbrev cls7 : List vw_C := [(RX0, TX0, 8), (RX1, TX1, 3), (RX2, TX2, 4), (RX3, TX3, 6), (RX4, TX4, 11), (RX5, TX5, 9), (RX6, TX6, 24)]
/-- classes by number: the seven of the claim, then the JDK's -/
def ocL : List String := [RX0, RX1, RX2, RX3, RX4, RX5, RX6, "java/lang/Integer", "java/lang/Math", "java/lang/String", "java/lang/StringLatin1", "java/util/Arrays", "jdk/internal/util/Preconditions"]
def ocN (k : Nat) : String := ocL.getD k ""
/-- a method: its class's number, its name, its code, its locals, what it returns, how deep its calls go, whether it is static, its arguments (the receiver counts) -/
abbrev MI : Type := Nat × MethodName × ByteArray × Nat × Option FieldType × Nat × Bool × Nat
abbrev mC_become : Nat := 0
abbrev mC_isKind : Nat := 1
abbrev mC_isUnder : Nat := 2
abbrev mC_has : Nat := 3
abbrev mC_allLocks : Nat := 4
abbrev mC_add : Nat := 5
abbrev mC_trait : Nat := 6
abbrev mC_isTrait : Nat := 7
abbrev mC_allows : Nat := 8
abbrev mC_putTrait : Nat := 9
abbrev mC_isRule : Nat := 10
abbrev mC_allowsRule : Nat := 11
abbrev mC_putRule : Nat := 12
abbrev mC_goal : Nat := 13
abbrev mC_isOff : Nat := 14
abbrev mC_shutAll : Nat := 15
abbrev mC_slackAt : Nat := 16
abbrev mC_freeAt : Nat := 17
abbrev mC_isOutAt : Nat := 18
abbrev mC_playsAt : Nat := 19
abbrev mC_mayAt : Nat := 20
abbrev mC_mayWith : Nat := 21
abbrev mC_reasonNow : Nat := 22
abbrev mC_reason : Nat := 23
abbrev mC_takesNow : Nat := 24
abbrev mC_takes : Nat := 25
abbrev mC_sounds : Nat := 26
abbrev mC_step : Nat := 27
abbrev mC_draw : Nat := 28
abbrev mC_tryFriday : Nat := 29
abbrev mC_nth : Nat := 30
abbrev mC_isSpot : Nat := 31
abbrev mC_putSpot : Nat := 32
abbrev mC_atSpot : Nat := 33
abbrev mC_heldSpots : Nat := 34
abbrev mC_allTimes : Nat := 35
abbrev mC_loadTimes : Nat := 36
abbrev mC_firstBarred : Nat := 37
abbrev mS_isWidth : Nat := 38
abbrev mS_isMissing : Nat := 39
abbrev mS_isLike : Nat := 40
abbrev mS_begin : Nat := 41
abbrev mS_length : Nat := 42
abbrev mS_has : Nat := 43
abbrev mS_hasRun : Nat := 44
abbrev mS_number : Nat := 45
abbrev mS_put : Nat := 46
abbrev mS_copyTo : Nat := 47
abbrev mK_fewestTools : Nat := 48
abbrev mK_leastSpare : Nat := 49
abbrev mK_bestWire : Nat := 50
abbrev mK_bestKind : Nat := 51
abbrev mK_bestSpared : Nat := 52
abbrev mK_findLink : Nat := 53
abbrev mK_tryLink : Nat := 54
abbrev mK_linkPair : Nat := 55
abbrev mK_linkTime : Nat := 56
abbrev mT_size : Nat := 57
abbrev mT_put : Nat := 58
abbrev mT_clear : Nat := 59
abbrev mT_read : Nat := 60
abbrev mT_readItem : Nat := 61
abbrev mT_readLock : Nat := 62
abbrev mT_readRule : Nat := 63
abbrev mT_kindWord : Nat := 64
abbrev mT_ruleWord : Nat := 65
abbrev mT_optionWord : Nat := 66
abbrev mT_optionTrait : Nat := 67
abbrev mT_byteAt : Nat := 68
abbrev mT_isLetter : Nat := 69
abbrev mT_isDigit : Nat := 70
abbrev mT_nextToken : Nat := 71
abbrev mT_readWord : Nat := 72
abbrev mT_readNumber : Nat := 73
abbrev mT_isWord : Nat := 74
abbrev mW_explore : Nat := 75
abbrev mW_markFollowers : Nat := 76
abbrev mW_leastFrom : Nat := 77
abbrev mW_settle : Nat := 78
abbrev mW_settleLinked : Nat := 79
abbrev mW_leastOn : Nat := 80
abbrev mW_cost : Nat := 81
abbrev mW_findRow : Nat := 82
abbrev mW_firstBest : Nat := 83
abbrev mW_rowLength : Nat := 84
abbrev mW_rowLock : Nat := 85
abbrev mW_rowEnd : Nat := 86
abbrev mW_rowHeard : Nat := 87
abbrev mW_everOff : Nat := 88
abbrev mW_reachedStates : Nat := 89
abbrev mW_hasWayOut : Nat := 90
abbrev mW_waysOut : Nat := 91
abbrev mW_handOn : Nat := 92
abbrev mW_surestTenths : Nat := 93
abbrev mW_odds : Nat := 94
abbrev mW_listen : Nat := 95
abbrev mW_soundingOf : Nat := 96
abbrev mW_fittingRows : Nat := 97
abbrev mW_fittingAny : Nat := 98
abbrev mW_fittingAll : Nat := 99
abbrev mX_lock : Nat := 100
abbrev mX_of : Nat := 101
abbrev mX_change : Nat := 102
abbrev mX_rule : Nat := 103
abbrev mX_on : Nat := 104
abbrev mX_shut : Nat := 105
abbrev mX_may : Nat := 106
abbrev mX_why : Nat := 107
abbrev mX_off : Nat := 108
abbrev mX_now : Nat := 109
abbrev mX_soonest : Nat := 110
abbrev mX_ith : Nat := 111
abbrev mX_quietest : Nat := 112
abbrev mX_fewest : Nat := 113
abbrev mX_ahead : Nat := 114
abbrev mX_ever : Nat := 115
abbrev mX_states : Nat := 116
abbrev mX_rows : Nat := 117
abbrev mX_tools : Nat := 118
abbrev mX_spare : Nat := 119
abbrev mX_wire : Nat := 120
abbrev mX_kindFor : Nat := 121
abbrev mX_link : Nat := 122
abbrev mX_linked : Nat := 123
abbrev mX_spared : Nat := 124
abbrev mX_surest : Nat := 125
abbrev mX_fits : Nat := 126
abbrev mX_maybe : Nat := 127
abbrev mX_surely : Nat := 128
abbrev mX_hear : Nat := 129
abbrev mX_friday : Nat := 130
abbrev mX_seed : Nat := 131
abbrev mX_feed : Nat := 132
abbrev mX_wipe : Nat := 133
abbrev mX_text : Nat := 134
abbrev mX_hold : Nat := 135
abbrev mX_as : Nat := 136
abbrev mX_sheet : Nat := 137
abbrev mX_write : Nat := 138
abbrev mX_copy : Nat := 139
abbrev mX_load : Nat := 140
abbrev mX_judge : Nat := 141
abbrev mX_image : Nat := 142
abbrev mX_undo : Nat := 143
abbrev mX_tear : Nat := 144
abbrev mX_count : Nat := 145
abbrev mX_status : Nat := 146
abbrev mX_tell : Nat := 147
abbrev mX_orNone : Nat := 148
abbrev mX_isSheet : Nat := 149
abbrev mX_sheetFinding : Nat := 150
abbrev mX_commonDivisor : Nat := 151
abbrev mM_no : Nat := 152
abbrev mM_in1 : Nat := 153
abbrev mM_most : Nat := 154
abbrev mM_bits : Nat := 155
abbrev mM_isIn : Nat := 156
abbrev mM_isLock : Nat := 157
abbrev mM_get : Nat := 158
abbrev mM_puts : Nat := 159
abbrev mM_allLocks : Nat := 160
abbrev mM_slackBy : Nat := 161
abbrev mM_freeBy : Nat := 162
abbrev mM_whyBy : Nat := 163
abbrev mM_takesBy : Nat := 164
abbrev mM_soundsOf : Nat := 165
abbrev mM_mayBy : Nat := 166
abbrev mM_isOut : Nat := 167
abbrev mM_lock : Nat := 168
abbrev mM_comes : Nat := 169
abbrev mM_of : Nat := 170
abbrev mM_mostOf : Nat := 171
abbrev mM_change : Nat := 172
abbrev mM_rule : Nat := 173
abbrev mM_on : Nat := 174
abbrev mM_shut : Nat := 175
abbrev mM_may : Nat := 176
abbrev mM_why : Nat := 177
abbrev mM_doesPlay : Nat := 178
abbrev mM_takesNow : Nat := 179
abbrev mM_comesOff : Nat := 180
abbrev mM_off : Nat := 181
abbrev mM_now : Nat := 182
abbrev mM_costs : Nat := 183
abbrev mM_leastFrom : Nat := 184
abbrev mM_told1 : Nat := 185
abbrev mM_soonest : Nat := 186
abbrev mM_findsRow : Nat := 187
abbrev mM_ith : Nat := 188
abbrev mM_quietest : Nat := 189
abbrev mM_fewest : Nat := 190
abbrev mM_setsAside : Nat := 191
abbrev mM_laysBack : Nat := 192
abbrev mM_ahead : Nat := 193
abbrev mM_countsWays : Nat := 194
abbrev mM_ever : Nat := 195
abbrev mM_states : Nat := 196
abbrev mM_rows : Nat := 197
abbrev mM_tools : Nat := 198
abbrev mM_spare : Nat := 199
abbrev mM_wire : Nat := 200
abbrev mM_kindFor : Nat := 201
abbrev mM_bestLink : Nat := 202
abbrev mM_link : Nat := 203
abbrev mM_linked : Nat := 204
abbrev mM_spared : Nat := 205
abbrev mM_surest : Nat := 206
abbrev mM_isSheet : Nat := 207
abbrev mM_heardLocks : Nat := 208
abbrev mM_countsHeard : Nat := 209
abbrev mM_wrongSheet : Nat := 210
abbrev mM_fits : Nat := 211
abbrev mM_heardSet : Nat := 212
abbrev mM_heardTold : Nat := 213
abbrev mM_maybe : Nat := 214
abbrev mM_surely : Nat := 215
abbrev mM_hear : Nat := 216
abbrev mM_draw : Nat := 217
abbrev mM_nthOf : Nat := 218
abbrev mM_friday : Nat := 219
abbrev mM_seed : Nat := 220
abbrev mM_feed : Nat := 221
abbrev mM_wipe : Nat := 222
abbrev mM_isLetter : Nat := 223
abbrev mM_isDigit : Nat := 224
abbrev mM_nextToken : Nat := 225
abbrev mM_wordOf : Nat := 226
abbrev mM_takesNumber : Nat := 227
abbrev mM_readsLock : Nat := 228
abbrev mM_readsItem : Nat := 229
abbrev mM_text : Nat := 230
abbrev mM_isSpot : Nat := 231
abbrev mM_hold : Nat := 232
abbrev mM_above : Nat := 233
abbrev mM_as : Nat := 234
abbrev mM_sheet : Nat := 235
abbrev mM_write : Nat := 236
abbrev mM_copy : Nat := 237
abbrev mM_load : Nat := 238
abbrev mM_judge : Nat := 239
abbrev mM_image : Nat := 240
abbrev mM_undo : Nat := 241
abbrev mM_tear : Nat := 242
abbrev mM_count : Nat := 243
abbrev mM_status : Nat := 244
abbrev mJI_bitCount : Nat := 245
abbrev mJS_charAt : Nat := 246
abbrev mJS_checkIndex : Nat := 247
abbrev mJS_coder : Nat := 248
abbrev mJS_isLatin1 : Nat := 249
abbrev mJS_length : Nat := 250
abbrev mJL_charAt : Nat := 251
abbrev mJA_fill : Nat := 252
abbrev mJP_checkIndex : Nat := 253
def mL_0 : List MI := [(0, ⟨"ChainedChest$Chest", "become", "(LChainedChest$Chest;)V"⟩, prog_2_method_2_code, 3, (Option.none : Option Jvm.ClassFile.FieldType), 1, false, 2),
  (0, ⟨"ChainedChest$Chest", "isKind", "(I)Z"⟩, prog_2_method_3_code, 1, (Option.some Jvm.ClassFile.FieldType.boolean), 0, true, 1),
  (0, ⟨"ChainedChest$Chest", "isUnder", "(II)Z"⟩, prog_2_method_4_code, 4, (Option.some Jvm.ClassFile.FieldType.boolean), 1, true, 2),
  (0, ⟨"ChainedChest$Chest", "has", "(I)Z"⟩, prog_2_method_5_code, 2, (Option.some Jvm.ClassFile.FieldType.boolean), 0, false, 2),
  (0, ⟨"ChainedChest$Chest", "allLocks", "()I"⟩, prog_2_method_6_code, 1, (Option.some Jvm.ClassFile.FieldType.int), 0, false, 1),
  (0, ⟨"ChainedChest$Chest", "add", "(I)I"⟩, prog_2_method_7_code, 4, (Option.some Jvm.ClassFile.FieldType.int), 0, false, 2),
  (0, ⟨"ChainedChest$Chest", "trait", "(II)I"⟩, prog_2_method_8_code, 3, (Option.some Jvm.ClassFile.FieldType.int), 1, false, 3),
  (0, ⟨"ChainedChest$Chest", "isTrait", "(I)Z"⟩, prog_2_method_9_code, 1, (Option.some Jvm.ClassFile.FieldType.boolean), 0, true, 1),
  (0, ⟨"ChainedChest$Chest", "allows", "(II)Z"⟩, prog_2_method_10_code, 4, (Option.some Jvm.ClassFile.FieldType.boolean), 1, false, 3),
  (0, ⟨"ChainedChest$Chest", "putTrait", "(III)I"⟩, prog_2_method_11_code, 5, (Option.some Jvm.ClassFile.FieldType.int), 1, false, 4),
  (0, ⟨"ChainedChest$Chest", "isRule", "(I)Z"⟩, prog_2_method_12_code, 1, (Option.some Jvm.ClassFile.FieldType.boolean), 0, true, 1),
  (0, ⟨"ChainedChest$Chest", "allowsRule", "(II)Z"⟩, prog_2_method_13_code, 4, (Option.some Jvm.ClassFile.FieldType.boolean), 1, false, 3),
  (0, ⟨"ChainedChest$Chest", "putRule", "(II)I"⟩, prog_2_method_14_code, 4, (Option.some Jvm.ClassFile.FieldType.int), 1, false, 3),
  (0, ⟨"ChainedChest$Chest", "goal", "()I"⟩, prog_2_method_15_code, 1, (Option.some Jvm.ClassFile.FieldType.int), 0, false, 1),
  (0, ⟨"ChainedChest$Chest", "isOff", "(I)Z"⟩, prog_2_method_16_code, 2, (Option.some Jvm.ClassFile.FieldType.boolean), 0, false, 2),
  (0, ⟨"ChainedChest$Chest", "shutAll", "()I"⟩, prog_2_method_17_code, 2, (Option.some Jvm.ClassFile.FieldType.int), 1, false, 1),
  (0, ⟨"ChainedChest$Chest", "slackAt", "(I)I"⟩, prog_2_method_18_code, 4, (Option.some Jvm.ClassFile.FieldType.int), 0, false, 2),
  (0, ⟨"ChainedChest$Chest", "freeAt", "(I)I"⟩, prog_2_method_19_code, 4, (Option.some Jvm.ClassFile.FieldType.int), 0, false, 2),
  (0, ⟨"ChainedChest$Chest", "isOutAt", "(I)Z"⟩, prog_2_method_20_code, 2, (Option.some Jvm.ClassFile.FieldType.boolean), 0, false, 2),
  (0, ⟨"ChainedChest$Chest", "playsAt", "(I)Z"⟩, prog_2_method_21_code, 3, (Option.some Jvm.ClassFile.FieldType.boolean), 0, false, 2),
  (0, ⟨"ChainedChest$Chest", "mayAt", "(I)I"⟩, prog_2_method_22_code, 2, (Option.some Jvm.ClassFile.FieldType.int), 3, false, 2),
  (0, ⟨"ChainedChest$Chest", "mayWith", "(III)I"⟩, prog_2_method_23_code, 6, (Option.some Jvm.ClassFile.FieldType.int), 2, false, 4),
  (0, ⟨"ChainedChest$Chest", "reasonNow", "(I)I"⟩, prog_2_method_24_code, 2, (Option.some Jvm.ClassFile.FieldType.int), 2, false, 2),
  (0, ⟨"ChainedChest$Chest", "reason", "(IIII)I"⟩, prog_2_method_25_code, 6, (Option.some Jvm.ClassFile.FieldType.int), 1, false, 5),
  (0, ⟨"ChainedChest$Chest", "takesNow", "(I)I"⟩, prog_2_method_26_code, 2, (Option.some Jvm.ClassFile.FieldType.int), 1, false, 2),
  (0, ⟨"ChainedChest$Chest", "takes", "(IIII)I"⟩, prog_2_method_27_code, 9, (Option.some Jvm.ClassFile.FieldType.int), 0, false, 5),
  (0, ⟨"ChainedChest$Chest", "sounds", "(I)I"⟩, prog_2_method_28_code, 3, (Option.some Jvm.ClassFile.FieldType.int), 1, false, 2),
  (0, ⟨"ChainedChest$Chest", "step", "(I)V"⟩, prog_2_method_29_code, 3, (Option.none : Option Jvm.ClassFile.FieldType), 2, false, 2),
  (0, ⟨"ChainedChest$Chest", "draw", "()I"⟩, prog_2_method_30_code, 1, (Option.some Jvm.ClassFile.FieldType.int), 0, false, 1),
  (0, ⟨"ChainedChest$Chest", "tryFriday", "(I)I"⟩, prog_2_method_31_code, 8, (Option.some Jvm.ClassFile.FieldType.int), 4, false, 2),
  (0, ⟨"ChainedChest$Chest", "nth", "(II)I"⟩, prog_2_method_32_code, 4, (Option.some Jvm.ClassFile.FieldType.int), 0, true, 2),
  (0, ⟨"ChainedChest$Chest", "isSpot", "(I)Z"⟩, prog_2_method_33_code, 1, (Option.some Jvm.ClassFile.FieldType.boolean), 0, true, 1),
  (0, ⟨"ChainedChest$Chest", "putSpot", "(II)V"⟩, prog_2_method_34_code, 3, (Option.none : Option Jvm.ClassFile.FieldType), 1, false, 3),
  (0, ⟨"ChainedChest$Chest", "atSpot", "(I)I"⟩, prog_2_method_35_code, 2, (Option.some Jvm.ClassFile.FieldType.int), 1, false, 2),
  (0, ⟨"ChainedChest$Chest", "heldSpots", "()I"⟩, prog_2_method_36_code, 3, (Option.some Jvm.ClassFile.FieldType.int), 0, false, 1),
  (0, ⟨"ChainedChest$Chest", "allTimes", "()I"⟩, prog_2_method_37_code, 3, (Option.some Jvm.ClassFile.FieldType.int), 0, false, 1),
  (0, ⟨"ChainedChest$Chest", "loadTimes", "(LChainedChest$Sheet;)I"⟩, prog_2_method_38_code, 4, (Option.some Jvm.ClassFile.FieldType.int), 2, false, 2),
  (0, ⟨"ChainedChest$Chest", "firstBarred", "(LChainedChest$Sheet;)I"⟩, prog_2_method_39_code, 5, (Option.some Jvm.ClassFile.FieldType.int), 4, false, 2),
  (1, ⟨"ChainedChest$Sheet", "isWidth", "(I)Z"⟩, prog_3_method_2_code, 1, (Option.some Jvm.ClassFile.FieldType.boolean), 0, true, 1),
  (1, ⟨"ChainedChest$Sheet", "isMissing", "()Z"⟩, prog_3_method_3_code, 1, (Option.some Jvm.ClassFile.FieldType.boolean), 0, false, 1)]
def mL_1 : List MI := [(1, ⟨"ChainedChest$Sheet", "isLike", "(LChainedChest$Sheet;)Z"⟩, prog_3_method_4_code, 2, (Option.some Jvm.ClassFile.FieldType.boolean), 0, false, 2),
  (1, ⟨"ChainedChest$Sheet", "begin", "(II)I"⟩, prog_3_method_5_code, 3, (Option.some Jvm.ClassFile.FieldType.int), 1, false, 3),
  (1, ⟨"ChainedChest$Sheet", "length", "()I"⟩, prog_3_method_6_code, 1, (Option.some Jvm.ClassFile.FieldType.int), 0, false, 1),
  (1, ⟨"ChainedChest$Sheet", "has", "(I)Z"⟩, prog_3_method_7_code, 2, (Option.some Jvm.ClassFile.FieldType.boolean), 0, false, 2),
  (1, ⟨"ChainedChest$Sheet", "hasRun", "(II)Z"⟩, prog_3_method_8_code, 3, (Option.some Jvm.ClassFile.FieldType.boolean), 0, false, 3),
  (1, ⟨"ChainedChest$Sheet", "number", "(I)I"⟩, prog_3_method_9_code, 2, (Option.some Jvm.ClassFile.FieldType.int), 1, false, 2),
  (1, ⟨"ChainedChest$Sheet", "put", "(II)V"⟩, prog_3_method_10_code, 3, (Option.none : Option Jvm.ClassFile.FieldType), 1, false, 3),
  (1, ⟨"ChainedChest$Sheet", "copyTo", "(ILChainedChest$Sheet;II)V"⟩, prog_3_method_11_code, 5, (Option.none : Option Jvm.ClassFile.FieldType), 1, false, 5),
  (2, ⟨"ChainedChest$Smith", "fewestTools", "()I"⟩, prog_4_method_2_code, 4, (Option.some Jvm.ClassFile.FieldType.int), 5, false, 1),
  (2, ⟨"ChainedChest$Smith", "leastSpare", "()I"⟩, prog_4_method_3_code, 4, (Option.some Jvm.ClassFile.FieldType.int), 5, false, 1),
  (2, ⟨"ChainedChest$Smith", "bestWire", "()I"⟩, prog_4_method_4_code, 5, (Option.some Jvm.ClassFile.FieldType.int), 6, false, 1),
  (2, ⟨"ChainedChest$Smith", "bestKind", "(I)I"⟩, prog_4_method_5_code, 7, (Option.some Jvm.ClassFile.FieldType.int), 5, false, 2),
  (2, ⟨"ChainedChest$Smith", "bestSpared", "()I"⟩, prog_4_method_6_code, 6, (Option.some Jvm.ClassFile.FieldType.int), 5, false, 1),
  (2, ⟨"ChainedChest$Smith", "findLink", "()V"⟩, prog_4_method_7_code, 3, (Option.none : Option Jvm.ClassFile.FieldType), 6, false, 1),
  (2, ⟨"ChainedChest$Smith", "tryLink", "(II)V"⟩, prog_4_method_8_code, 4, (Option.none : Option Jvm.ClassFile.FieldType), 5, false, 3),
  (2, ⟨"ChainedChest$Smith", "linkPair", "()I"⟩, prog_4_method_9_code, 1, (Option.some Jvm.ClassFile.FieldType.int), 0, false, 1),
  (2, ⟨"ChainedChest$Smith", "linkTime", "()I"⟩, prog_4_method_10_code, 1, (Option.some Jvm.ClassFile.FieldType.int), 0, false, 1),
  (3, ⟨"ChainedChest$Tape", "size", "()I"⟩, prog_5_method_2_code, 1, (Option.some Jvm.ClassFile.FieldType.int), 0, false, 1),
  (3, ⟨"ChainedChest$Tape", "put", "(II)I"⟩, prog_5_method_3_code, 4, (Option.some Jvm.ClassFile.FieldType.int), 0, false, 3),
  (3, ⟨"ChainedChest$Tape", "clear", "()I"⟩, prog_5_method_4_code, 2, (Option.some Jvm.ClassFile.FieldType.int), 0, false, 1),
  (3, ⟨"ChainedChest$Tape", "read", "(LChainedChest$Chest;)I"⟩, prog_5_method_5_code, 3, (Option.some Jvm.ClassFile.FieldType.int), 7, false, 2),
  (3, ⟨"ChainedChest$Tape", "readItem", "(LChainedChest$Chest;)Z"⟩, prog_5_method_6_code, 3, (Option.some Jvm.ClassFile.FieldType.boolean), 6, false, 2),
  (3, ⟨"ChainedChest$Tape", "readLock", "(LChainedChest$Chest;I)Z"⟩, prog_5_method_7_code, 8, (Option.some Jvm.ClassFile.FieldType.boolean), 5, false, 3),
  (3, ⟨"ChainedChest$Tape", "readRule", "(LChainedChest$Chest;I)Z"⟩, prog_5_method_8_code, 3, (Option.some Jvm.ClassFile.FieldType.boolean), 3, false, 3),
  (3, ⟨"ChainedChest$Tape", "kindWord", "(I)Ljava/lang/String;"⟩, prog_5_method_9_code, 1, (Option.some (Jvm.ClassFile.FieldType.object "java/lang/String")), 0, true, 1),
  (3, ⟨"ChainedChest$Tape", "ruleWord", "(I)Ljava/lang/String;"⟩, prog_5_method_10_code, 1, (Option.some (Jvm.ClassFile.FieldType.object "java/lang/String")), 0, true, 1),
  (3, ⟨"ChainedChest$Tape", "optionWord", "(I)Ljava/lang/String;"⟩, prog_5_method_11_code, 1, (Option.some (Jvm.ClassFile.FieldType.object "java/lang/String")), 0, true, 1),
  (3, ⟨"ChainedChest$Tape", "optionTrait", "(I)I"⟩, prog_5_method_12_code, 1, (Option.some Jvm.ClassFile.FieldType.int), 0, true, 1),
  (3, ⟨"ChainedChest$Tape", "byteAt", "(I)I"⟩, prog_5_method_13_code, 2, (Option.some Jvm.ClassFile.FieldType.int), 0, false, 2),
  (3, ⟨"ChainedChest$Tape", "isLetter", "(I)Z"⟩, prog_5_method_14_code, 1, (Option.some Jvm.ClassFile.FieldType.boolean), 0, true, 1),
  (3, ⟨"ChainedChest$Tape", "isDigit", "(I)Z"⟩, prog_5_method_15_code, 1, (Option.some Jvm.ClassFile.FieldType.boolean), 0, true, 1),
  (3, ⟨"ChainedChest$Tape", "nextToken", "()V"⟩, prog_5_method_16_code, 1, (Option.none : Option Jvm.ClassFile.FieldType), 2, false, 1),
  (3, ⟨"ChainedChest$Tape", "readWord", "()V"⟩, prog_5_method_17_code, 1, (Option.none : Option Jvm.ClassFile.FieldType), 1, false, 1),
  (3, ⟨"ChainedChest$Tape", "readNumber", "()V"⟩, prog_5_method_18_code, 1, (Option.none : Option Jvm.ClassFile.FieldType), 1, false, 1),
  (3, ⟨"ChainedChest$Tape", "isWord", "(Ljava/lang/String;)Z"⟩, prog_5_method_19_code, 3, (Option.some Jvm.ClassFile.FieldType.boolean), 4, false, 2),
  (4, ⟨"ChainedChest$Ways", "explore", "(I)V"⟩, prog_6_method_2_code, 4, (Option.none : Option Jvm.ClassFile.FieldType), 3, false, 2),
  (4, ⟨"ChainedChest$Ways", "markFollowers", "(II)V"⟩, prog_6_method_3_code, 4, (Option.none : Option Jvm.ClassFile.FieldType), 0, false, 3),
  (4, ⟨"ChainedChest$Ways", "leastFrom", "(II)I"⟩, prog_6_method_4_code, 3, (Option.some Jvm.ClassFile.FieldType.int), 5, false, 3),
  (4, ⟨"ChainedChest$Ways", "settle", "(II)I"⟩, prog_6_method_5_code, 4, (Option.some Jvm.ClassFile.FieldType.int), 4, false, 3),
  (4, ⟨"ChainedChest$Ways", "settleLinked", "(III)I"⟩, prog_6_method_6_code, 7, (Option.some Jvm.ClassFile.FieldType.int), 4, false, 4)]
def mL_2 : List MI := [(4, ⟨"ChainedChest$Ways", "leastOn", "(III[I)I"⟩, prog_6_method_7_code, 10, (Option.some Jvm.ClassFile.FieldType.int), 3, false, 5),
  (4, ⟨"ChainedChest$Ways", "cost", "(IIII)I"⟩, prog_6_method_8_code, 5, (Option.some Jvm.ClassFile.FieldType.int), 2, false, 5),
  (4, ⟨"ChainedChest$Ways", "findRow", "(I)Z"⟩, prog_6_method_9_code, 5, (Option.some Jvm.ClassFile.FieldType.boolean), 6, false, 2),
  (4, ⟨"ChainedChest$Ways", "firstBest", "(I)I"⟩, prog_6_method_10_code, 5, (Option.some Jvm.ClassFile.FieldType.int), 3, false, 2),
  (4, ⟨"ChainedChest$Ways", "rowLength", "()I"⟩, prog_6_method_11_code, 1, (Option.some Jvm.ClassFile.FieldType.int), 0, false, 1),
  (4, ⟨"ChainedChest$Ways", "rowLock", "(I)I"⟩, prog_6_method_12_code, 2, (Option.some Jvm.ClassFile.FieldType.int), 0, false, 2),
  (4, ⟨"ChainedChest$Ways", "rowEnd", "()I"⟩, prog_6_method_13_code, 1, (Option.some Jvm.ClassFile.FieldType.int), 0, false, 1),
  (4, ⟨"ChainedChest$Ways", "rowHeard", "()I"⟩, prog_6_method_14_code, 5, (Option.some Jvm.ClassFile.FieldType.int), 3, false, 1),
  (4, ⟨"ChainedChest$Ways", "everOff", "()I"⟩, prog_6_method_15_code, 3, (Option.some Jvm.ClassFile.FieldType.int), 4, false, 1),
  (4, ⟨"ChainedChest$Ways", "reachedStates", "()I"⟩, prog_6_method_16_code, 3, (Option.some Jvm.ClassFile.FieldType.int), 4, false, 1),
  (4, ⟨"ChainedChest$Ways", "hasWayOut", "(I)Z"⟩, prog_6_method_17_code, 3, (Option.some Jvm.ClassFile.FieldType.boolean), 4, false, 2),
  (4, ⟨"ChainedChest$Ways", "waysOut", "()I"⟩, prog_6_method_18_code, 3, (Option.some Jvm.ClassFile.FieldType.int), 4, false, 1),
  (4, ⟨"ChainedChest$Ways", "handOn", "(II)V"⟩, prog_6_method_19_code, 4, (Option.none : Option Jvm.ClassFile.FieldType), 0, false, 3),
  (4, ⟨"ChainedChest$Ways", "surestTenths", "()J"⟩, prog_6_method_20_code, 4, (Option.some Jvm.ClassFile.FieldType.long), 4, false, 1),
  (4, ⟨"ChainedChest$Ways", "odds", "(I)J"⟩, prog_6_method_21_code, 5, (Option.some Jvm.ClassFile.FieldType.long), 2, false, 2),
  (4, ⟨"ChainedChest$Ways", "listen", "(LChainedChest$Sheet;)V"⟩, prog_6_method_22_code, 5, (Option.none : Option Jvm.ClassFile.FieldType), 4, false, 2),
  (4, ⟨"ChainedChest$Ways", "soundingOf", "(II)I"⟩, prog_6_method_23_code, 5, (Option.some Jvm.ClassFile.FieldType.int), 2, false, 3),
  (4, ⟨"ChainedChest$Ways", "fittingRows", "()I"⟩, prog_6_method_24_code, 1, (Option.some Jvm.ClassFile.FieldType.int), 0, false, 1),
  (4, ⟨"ChainedChest$Ways", "fittingAny", "()I"⟩, prog_6_method_25_code, 1, (Option.some Jvm.ClassFile.FieldType.int), 0, false, 1),
  (4, ⟨"ChainedChest$Ways", "fittingAll", "()I"⟩, prog_6_method_26_code, 1, (Option.some Jvm.ClassFile.FieldType.int), 0, false, 1),
  (5, ⟨"ChainedChest", "lock", "(I)I"⟩, prog_1_method_2_code, 2, (Option.some Jvm.ClassFile.FieldType.int), 1, false, 2),
  (5, ⟨"ChainedChest", "of", "(II)I"⟩, prog_1_method_3_code, 3, (Option.some Jvm.ClassFile.FieldType.int), 2, false, 3),
  (5, ⟨"ChainedChest", "change", "(III)I"⟩, prog_1_method_4_code, 4, (Option.some Jvm.ClassFile.FieldType.int), 2, false, 4),
  (5, ⟨"ChainedChest", "rule", "(II)I"⟩, prog_1_method_5_code, 3, (Option.some Jvm.ClassFile.FieldType.int), 2, false, 3),
  (5, ⟨"ChainedChest", "on", "(I)I"⟩, prog_1_method_6_code, 3, (Option.some Jvm.ClassFile.FieldType.int), 1, false, 2),
  (5, ⟨"ChainedChest", "shut", "()I"⟩, prog_1_method_7_code, 1, (Option.some Jvm.ClassFile.FieldType.int), 2, false, 1),
  (5, ⟨"ChainedChest", "may", "()I"⟩, prog_1_method_8_code, 1, (Option.some Jvm.ClassFile.FieldType.int), 4, false, 1),
  (5, ⟨"ChainedChest", "why", "(I)I"⟩, prog_1_method_9_code, 2, (Option.some Jvm.ClassFile.FieldType.int), 3, false, 2),
  (5, ⟨"ChainedChest", "off", "(I)I"⟩, prog_1_method_10_code, 3, (Option.some Jvm.ClassFile.FieldType.int), 3, false, 2),
  (5, ⟨"ChainedChest", "now", "(I)I"⟩, prog_1_method_11_code, 2, (Option.some Jvm.ClassFile.FieldType.int), 1, false, 2),
  (5, ⟨"ChainedChest", "soonest", "()I"⟩, prog_1_method_12_code, 1, (Option.some Jvm.ClassFile.FieldType.int), 6, false, 1),
  (5, ⟨"ChainedChest", "ith", "(I)I"⟩, prog_1_method_13_code, 2, (Option.some Jvm.ClassFile.FieldType.int), 7, false, 2),
  (5, ⟨"ChainedChest", "quietest", "()I"⟩, prog_1_method_14_code, 1, (Option.some Jvm.ClassFile.FieldType.int), 6, false, 1),
  (5, ⟨"ChainedChest", "fewest", "()I"⟩, prog_1_method_15_code, 1, (Option.some Jvm.ClassFile.FieldType.int), 6, false, 1),
  (5, ⟨"ChainedChest", "ahead", "(I)I"⟩, prog_1_method_16_code, 3, (Option.some Jvm.ClassFile.FieldType.int), 7, false, 2),
  (5, ⟨"ChainedChest", "ever", "()I"⟩, prog_1_method_17_code, 1, (Option.some Jvm.ClassFile.FieldType.int), 5, false, 1),
  (5, ⟨"ChainedChest", "states", "()I"⟩, prog_1_method_18_code, 1, (Option.some Jvm.ClassFile.FieldType.int), 5, false, 1),
  (5, ⟨"ChainedChest", "rows", "()I"⟩, prog_1_method_19_code, 1, (Option.some Jvm.ClassFile.FieldType.int), 5, false, 1),
  (5, ⟨"ChainedChest", "tools", "()I"⟩, prog_1_method_20_code, 1, (Option.some Jvm.ClassFile.FieldType.int), 6, false, 1),
  (5, ⟨"ChainedChest", "spare", "()I"⟩, prog_1_method_21_code, 1, (Option.some Jvm.ClassFile.FieldType.int), 6, false, 1)]
def mL_3 : List MI := [(5, ⟨"ChainedChest", "wire", "()I"⟩, prog_1_method_22_code, 1, (Option.some Jvm.ClassFile.FieldType.int), 7, false, 1),
  (5, ⟨"ChainedChest", "kindFor", "(I)I"⟩, prog_1_method_23_code, 2, (Option.some Jvm.ClassFile.FieldType.int), 6, false, 2),
  (5, ⟨"ChainedChest", "link", "()I"⟩, prog_1_method_24_code, 1, (Option.some Jvm.ClassFile.FieldType.int), 7, false, 1),
  (5, ⟨"ChainedChest", "linked", "()I"⟩, prog_1_method_25_code, 1, (Option.some Jvm.ClassFile.FieldType.int), 7, false, 1),
  (5, ⟨"ChainedChest", "spared", "()I"⟩, prog_1_method_26_code, 1, (Option.some Jvm.ClassFile.FieldType.int), 6, false, 1),
  (5, ⟨"ChainedChest", "surest", "(I)J"⟩, prog_1_method_27_code, 6, (Option.some Jvm.ClassFile.FieldType.long), 5, false, 2),
  (5, ⟨"ChainedChest", "fits", "(I)I"⟩, prog_1_method_28_code, 3, (Option.some Jvm.ClassFile.FieldType.int), 5, false, 2),
  (5, ⟨"ChainedChest", "maybe", "(I)I"⟩, prog_1_method_29_code, 3, (Option.some Jvm.ClassFile.FieldType.int), 5, false, 2),
  (5, ⟨"ChainedChest", "surely", "(I)I"⟩, prog_1_method_30_code, 3, (Option.some Jvm.ClassFile.FieldType.int), 5, false, 2),
  (5, ⟨"ChainedChest", "hear", "(I)I"⟩, prog_1_method_31_code, 4, (Option.some Jvm.ClassFile.FieldType.int), 4, false, 2),
  (5, ⟨"ChainedChest", "friday", "(I)I"⟩, prog_1_method_32_code, 2, (Option.some Jvm.ClassFile.FieldType.int), 5, false, 2),
  (5, ⟨"ChainedChest", "seed", "(I)I"⟩, prog_1_method_33_code, 3, (Option.some Jvm.ClassFile.FieldType.int), 0, false, 2),
  (5, ⟨"ChainedChest", "feed", "(II)I"⟩, prog_1_method_34_code, 3, (Option.some Jvm.ClassFile.FieldType.int), 1, false, 3),
  (5, ⟨"ChainedChest", "wipe", "()I"⟩, prog_1_method_35_code, 1, (Option.some Jvm.ClassFile.FieldType.int), 1, false, 1),
  (5, ⟨"ChainedChest", "text", "()I"⟩, prog_1_method_36_code, 2, (Option.some Jvm.ClassFile.FieldType.int), 8, false, 1),
  (5, ⟨"ChainedChest", "hold", "(II)I"⟩, prog_1_method_37_code, 3, (Option.some Jvm.ClassFile.FieldType.int), 2, false, 3),
  (5, ⟨"ChainedChest", "as", "(II)I"⟩, prog_1_method_38_code, 4, (Option.some Jvm.ClassFile.FieldType.int), 2, false, 3),
  (5, ⟨"ChainedChest", "sheet", "(III)I"⟩, prog_1_method_39_code, 4, (Option.some Jvm.ClassFile.FieldType.int), 2, false, 4),
  (5, ⟨"ChainedChest", "write", "(III)I"⟩, prog_1_method_40_code, 5, (Option.some Jvm.ClassFile.FieldType.int), 2, false, 4),
  (5, ⟨"ChainedChest", "copy", "(IIIII)I"⟩, prog_1_method_41_code, 6, (Option.some Jvm.ClassFile.FieldType.int), 2, false, 6),
  (5, ⟨"ChainedChest", "load", "(I)I"⟩, prog_1_method_42_code, 3, (Option.some Jvm.ClassFile.FieldType.int), 3, false, 2),
  (5, ⟨"ChainedChest", "judge", "(I)I"⟩, prog_1_method_43_code, 3, (Option.some Jvm.ClassFile.FieldType.int), 5, false, 2),
  (5, ⟨"ChainedChest", "image", "()I"⟩, prog_1_method_44_code, 1, (Option.some Jvm.ClassFile.FieldType.int), 2, false, 1),
  (5, ⟨"ChainedChest", "undo", "()I"⟩, prog_1_method_45_code, 1, (Option.some Jvm.ClassFile.FieldType.int), 2, false, 1),
  (5, ⟨"ChainedChest", "tear", "()I"⟩, prog_1_method_46_code, 2, (Option.some Jvm.ClassFile.FieldType.int), 0, false, 1),
  (5, ⟨"ChainedChest", "count", "(I)I"⟩, prog_1_method_47_code, 2, (Option.some Jvm.ClassFile.FieldType.int), 1, false, 2),
  (5, ⟨"ChainedChest", "status", "(I)I"⟩, prog_1_method_48_code, 4, (Option.some Jvm.ClassFile.FieldType.int), 1, false, 2),
  (5, ⟨"ChainedChest", "tell", "(I)I"⟩, prog_1_method_49_code, 3, (Option.some Jvm.ClassFile.FieldType.int), 0, false, 2),
  (5, ⟨"ChainedChest", "orNone", "(I)I"⟩, prog_1_method_50_code, 2, (Option.some Jvm.ClassFile.FieldType.int), 1, false, 2),
  (5, ⟨"ChainedChest", "isSheet", "(I)Z"⟩, prog_1_method_51_code, 2, (Option.some Jvm.ClassFile.FieldType.boolean), 0, false, 2),
  (5, ⟨"ChainedChest", "sheetFinding", "(I)I"⟩, prog_1_method_52_code, 2, (Option.some Jvm.ClassFile.FieldType.int), 1, false, 2),
  (5, ⟨"ChainedChest", "commonDivisor", "(JJ)J"⟩, prog_1_method_53_code, 11, (Option.some Jvm.ClassFile.FieldType.long), 0, true, 2),
  (6, ⟨"ChainedChestModel", "no", "(I)I"⟩, prog_8_method_2_code, 2, (Option.some Jvm.ClassFile.FieldType.int), 0, false, 2),
  (6, ⟨"ChainedChestModel", "in1", "(III)Z"⟩, prog_8_method_3_code, 3, (Option.some Jvm.ClassFile.FieldType.boolean), 0, true, 3),
  (6, ⟨"ChainedChestModel", "most", "(II)I"⟩, prog_8_method_4_code, 2, (Option.some Jvm.ClassFile.FieldType.int), 0, true, 2),
  (6, ⟨"ChainedChestModel", "bits", "(I)I"⟩, prog_8_method_5_code, 3, (Option.some Jvm.ClassFile.FieldType.int), 0, true, 1),
  (6, ⟨"ChainedChestModel", "isIn", "(II)Z"⟩, prog_8_method_6_code, 2, (Option.some Jvm.ClassFile.FieldType.boolean), 0, true, 2),
  (6, ⟨"ChainedChestModel", "isLock", "(I)Z"⟩, prog_8_method_7_code, 2, (Option.some Jvm.ClassFile.FieldType.boolean), 1, false, 2),
  (6, ⟨"ChainedChestModel", "get", "(II)I"⟩, prog_8_method_8_code, 3, (Option.some Jvm.ClassFile.FieldType.int), 0, false, 3),
  (6, ⟨"ChainedChestModel", "puts", "(III)V"⟩, prog_8_method_9_code, 4, (Option.none : Option Jvm.ClassFile.FieldType), 0, false, 4)]
def mL_4 : List MI := [(6, ⟨"ChainedChestModel", "allLocks", "()I"⟩, prog_8_method_10_code, 1, (Option.some Jvm.ClassFile.FieldType.int), 0, false, 1),
  (6, ⟨"ChainedChestModel", "slackBy", "(I)I"⟩, prog_8_method_11_code, 4, (Option.some Jvm.ClassFile.FieldType.int), 1, false, 2),
  (6, ⟨"ChainedChestModel", "freeBy", "(I)I"⟩, prog_8_method_12_code, 4, (Option.some Jvm.ClassFile.FieldType.int), 1, false, 2),
  (6, ⟨"ChainedChestModel", "whyBy", "(IIII)I"⟩, prog_8_method_13_code, 5, (Option.some Jvm.ClassFile.FieldType.int), 1, false, 5),
  (6, ⟨"ChainedChestModel", "takesBy", "(IIII)I"⟩, prog_8_method_14_code, 9, (Option.some Jvm.ClassFile.FieldType.int), 1, false, 5),
  (6, ⟨"ChainedChestModel", "soundsOf", "(I)I"⟩, prog_8_method_15_code, 3, (Option.some Jvm.ClassFile.FieldType.int), 1, false, 2),
  (6, ⟨"ChainedChestModel", "mayBy", "(I)I"⟩, prog_8_method_16_code, 6, (Option.some Jvm.ClassFile.FieldType.int), 2, false, 2),
  (6, ⟨"ChainedChestModel", "isOut", "(I)Z"⟩, prog_8_method_17_code, 2, (Option.some Jvm.ClassFile.FieldType.boolean), 0, false, 2),
  (6, ⟨"ChainedChestModel", "lock", "(I)I"⟩, prog_8_method_18_code, 2, (Option.some Jvm.ClassFile.FieldType.int), 2, false, 2),
  (6, ⟨"ChainedChestModel", "comes", "(I)V"⟩, prog_8_method_19_code, 4, (Option.none : Option Jvm.ClassFile.FieldType), 1, false, 2),
  (6, ⟨"ChainedChestModel", "of", "(II)I"⟩, prog_8_method_20_code, 4, (Option.some Jvm.ClassFile.FieldType.int), 2, false, 3),
  (6, ⟨"ChainedChestModel", "mostOf", "(I)I"⟩, prog_8_method_21_code, 2, (Option.some Jvm.ClassFile.FieldType.int), 1, false, 2),
  (6, ⟨"ChainedChestModel", "change", "(III)I"⟩, prog_8_method_22_code, 5, (Option.some Jvm.ClassFile.FieldType.int), 2, false, 4),
  (6, ⟨"ChainedChestModel", "rule", "(II)I"⟩, prog_8_method_23_code, 4, (Option.some Jvm.ClassFile.FieldType.int), 1, false, 3),
  (6, ⟨"ChainedChestModel", "on", "(I)I"⟩, prog_8_method_24_code, 3, (Option.some Jvm.ClassFile.FieldType.int), 2, false, 2),
  (6, ⟨"ChainedChestModel", "shut", "()I"⟩, prog_8_method_25_code, 2, (Option.some Jvm.ClassFile.FieldType.int), 1, false, 1),
  (6, ⟨"ChainedChestModel", "may", "()I"⟩, prog_8_method_26_code, 1, (Option.some Jvm.ClassFile.FieldType.int), 3, false, 1),
  (6, ⟨"ChainedChestModel", "why", "(I)I"⟩, prog_8_method_27_code, 2, (Option.some Jvm.ClassFile.FieldType.int), 2, false, 2),
  (6, ⟨"ChainedChestModel", "doesPlay", "(I)Z"⟩, prog_8_method_28_code, 3, (Option.some Jvm.ClassFile.FieldType.boolean), 0, false, 2),
  (6, ⟨"ChainedChestModel", "takesNow", "(I)I"⟩, prog_8_method_29_code, 2, (Option.some Jvm.ClassFile.FieldType.int), 2, false, 2),
  (6, ⟨"ChainedChestModel", "comesOff", "(I)V"⟩, prog_8_method_30_code, 3, (Option.none : Option Jvm.ClassFile.FieldType), 3, false, 2),
  (6, ⟨"ChainedChestModel", "off", "(I)I"⟩, prog_8_method_31_code, 3, (Option.some Jvm.ClassFile.FieldType.int), 4, false, 2),
  (6, ⟨"ChainedChestModel", "now", "(I)I"⟩, prog_8_method_32_code, 2, (Option.some Jvm.ClassFile.FieldType.int), 2, false, 2),
  (6, ⟨"ChainedChestModel", "costs", "(IIIII)I"⟩, prog_8_method_33_code, 6, (Option.some Jvm.ClassFile.FieldType.int), 2, false, 6),
  (6, ⟨"ChainedChestModel", "leastFrom", "(II)I"⟩, prog_8_method_34_code, 8, (Option.some Jvm.ClassFile.FieldType.int), 3, false, 3),
  (6, ⟨"ChainedChestModel", "told1", "(I)I"⟩, prog_8_method_35_code, 2, (Option.some Jvm.ClassFile.FieldType.int), 1, false, 2),
  (6, ⟨"ChainedChestModel", "soonest", "()I"⟩, prog_8_method_36_code, 1, (Option.some Jvm.ClassFile.FieldType.int), 4, false, 1),
  (6, ⟨"ChainedChestModel", "findsRow", "()Z"⟩, prog_8_method_37_code, 7, (Option.some Jvm.ClassFile.FieldType.boolean), 4, false, 1),
  (6, ⟨"ChainedChestModel", "ith", "(I)I"⟩, prog_8_method_38_code, 3, (Option.some Jvm.ClassFile.FieldType.int), 5, false, 2),
  (6, ⟨"ChainedChestModel", "quietest", "()I"⟩, prog_8_method_39_code, 1, (Option.some Jvm.ClassFile.FieldType.int), 4, false, 1),
  (6, ⟨"ChainedChestModel", "fewest", "()I"⟩, prog_8_method_40_code, 1, (Option.some Jvm.ClassFile.FieldType.int), 4, false, 1),
  (6, ⟨"ChainedChestModel", "setsAside", "()V"⟩, prog_8_method_41_code, 2, (Option.none : Option Jvm.ClassFile.FieldType), 0, false, 1),
  (6, ⟨"ChainedChestModel", "laysBack", "()V"⟩, prog_8_method_42_code, 2, (Option.none : Option Jvm.ClassFile.FieldType), 0, false, 1),
  (6, ⟨"ChainedChestModel", "ahead", "(I)I"⟩, prog_8_method_43_code, 4, (Option.some Jvm.ClassFile.FieldType.int), 5, false, 2),
  (6, ⟨"ChainedChestModel", "countsWays", "(Z)V"⟩, prog_8_method_44_code, 6, (Option.none : Option Jvm.ClassFile.FieldType), 3, false, 2),
  (6, ⟨"ChainedChestModel", "ever", "()I"⟩, prog_8_method_45_code, 3, (Option.some Jvm.ClassFile.FieldType.int), 4, false, 1),
  (6, ⟨"ChainedChestModel", "states", "()I"⟩, prog_8_method_46_code, 3, (Option.some Jvm.ClassFile.FieldType.int), 4, false, 1),
  (6, ⟨"ChainedChestModel", "rows", "()I"⟩, prog_8_method_47_code, 3, (Option.some Jvm.ClassFile.FieldType.int), 4, false, 1),
  (6, ⟨"ChainedChestModel", "tools", "()I"⟩, prog_8_method_48_code, 4, (Option.some Jvm.ClassFile.FieldType.int), 4, false, 1),
  (6, ⟨"ChainedChestModel", "spare", "()I"⟩, prog_8_method_49_code, 4, (Option.some Jvm.ClassFile.FieldType.int), 4, false, 1)]
def mL_5 : List MI := [(6, ⟨"ChainedChestModel", "wire", "()I"⟩, prog_8_method_50_code, 5, (Option.some Jvm.ClassFile.FieldType.int), 4, false, 1),
  (6, ⟨"ChainedChestModel", "kindFor", "(I)I"⟩, prog_8_method_51_code, 7, (Option.some Jvm.ClassFile.FieldType.int), 4, false, 2),
  (6, ⟨"ChainedChestModel", "bestLink", "()I"⟩, prog_8_method_52_code, 8, (Option.some Jvm.ClassFile.FieldType.int), 4, false, 1),
  (6, ⟨"ChainedChestModel", "link", "()I"⟩, prog_8_method_53_code, 2, (Option.some Jvm.ClassFile.FieldType.int), 5, false, 1),
  (6, ⟨"ChainedChestModel", "linked", "()I"⟩, prog_8_method_54_code, 2, (Option.some Jvm.ClassFile.FieldType.int), 5, false, 1),
  (6, ⟨"ChainedChestModel", "spared", "()I"⟩, prog_8_method_55_code, 6, (Option.some Jvm.ClassFile.FieldType.int), 4, false, 1),
  (6, ⟨"ChainedChestModel", "surest", "(I)J"⟩, prog_8_method_56_code, 12, (Option.some Jvm.ClassFile.FieldType.long), 4, false, 2),
  (6, ⟨"ChainedChestModel", "isSheet", "(I)Z"⟩, prog_8_method_57_code, 1, (Option.some Jvm.ClassFile.FieldType.boolean), 1, true, 1),
  (6, ⟨"ChainedChestModel", "heardLocks", "(II)I"⟩, prog_8_method_58_code, 6, (Option.some Jvm.ClassFile.FieldType.int), 3, false, 3),
  (6, ⟨"ChainedChestModel", "countsHeard", "(I)V"⟩, prog_8_method_59_code, 8, (Option.none : Option Jvm.ClassFile.FieldType), 4, false, 2),
  (6, ⟨"ChainedChestModel", "wrongSheet", "(I)I"⟩, prog_8_method_60_code, 2, (Option.some Jvm.ClassFile.FieldType.int), 2, false, 2),
  (6, ⟨"ChainedChestModel", "fits", "(I)I"⟩, prog_8_method_61_code, 5, (Option.some Jvm.ClassFile.FieldType.int), 5, false, 2),
  (6, ⟨"ChainedChestModel", "heardSet", "(IZ)I"⟩, prog_8_method_62_code, 7, (Option.some Jvm.ClassFile.FieldType.int), 5, false, 3),
  (6, ⟨"ChainedChestModel", "heardTold", "(IZ)I"⟩, prog_8_method_63_code, 5, (Option.some Jvm.ClassFile.FieldType.int), 6, false, 3),
  (6, ⟨"ChainedChestModel", "maybe", "(I)I"⟩, prog_8_method_64_code, 2, (Option.some Jvm.ClassFile.FieldType.int), 7, false, 2),
  (6, ⟨"ChainedChestModel", "surely", "(I)I"⟩, prog_8_method_65_code, 2, (Option.some Jvm.ClassFile.FieldType.int), 7, false, 2),
  (6, ⟨"ChainedChestModel", "hear", "(I)I"⟩, prog_8_method_66_code, 2, (Option.some Jvm.ClassFile.FieldType.int), 4, false, 2),
  (6, ⟨"ChainedChestModel", "draw", "()I"⟩, prog_8_method_67_code, 1, (Option.some Jvm.ClassFile.FieldType.int), 0, false, 1),
  (6, ⟨"ChainedChestModel", "nthOf", "(II)I"⟩, prog_8_method_68_code, 5, (Option.some Jvm.ClassFile.FieldType.int), 1, false, 3),
  (6, ⟨"ChainedChestModel", "friday", "(I)I"⟩, prog_8_method_69_code, 8, (Option.some Jvm.ClassFile.FieldType.int), 4, false, 2),
  (6, ⟨"ChainedChestModel", "seed", "(I)I"⟩, prog_8_method_70_code, 3, (Option.some Jvm.ClassFile.FieldType.int), 0, false, 2),
  (6, ⟨"ChainedChestModel", "feed", "(II)I"⟩, prog_8_method_71_code, 4, (Option.some Jvm.ClassFile.FieldType.int), 1, false, 3),
  (6, ⟨"ChainedChestModel", "wipe", "()I"⟩, prog_8_method_72_code, 2, (Option.some Jvm.ClassFile.FieldType.int), 0, false, 1),
  (6, ⟨"ChainedChestModel", "isLetter", "(I)Z"⟩, prog_8_method_73_code, 1, (Option.some Jvm.ClassFile.FieldType.boolean), 1, true, 1),
  (6, ⟨"ChainedChestModel", "isDigit", "(I)Z"⟩, prog_8_method_74_code, 1, (Option.some Jvm.ClassFile.FieldType.boolean), 1, true, 1),
  (6, ⟨"ChainedChestModel", "nextToken", "()V"⟩, prog_8_method_75_code, 1, (Option.none : Option Jvm.ClassFile.FieldType), 2, false, 1),
  (6, ⟨"ChainedChestModel", "wordOf", "([C)I"⟩, prog_8_method_76_code, 7, (Option.some Jvm.ClassFile.FieldType.int), 0, false, 2),
  (6, ⟨"ChainedChestModel", "takesNumber", "(II)I"⟩, prog_8_method_77_code, 4, (Option.some Jvm.ClassFile.FieldType.int), 3, false, 3),
  (6, ⟨"ChainedChestModel", "readsLock", "(I)Z"⟩, prog_8_method_78_code, 7, (Option.some Jvm.ClassFile.FieldType.boolean), 4, false, 2),
  (6, ⟨"ChainedChestModel", "readsItem", "()Z"⟩, prog_8_method_79_code, 4, (Option.some Jvm.ClassFile.FieldType.boolean), 5, false, 1),
  (6, ⟨"ChainedChestModel", "text", "()I"⟩, prog_8_method_80_code, 3, (Option.some Jvm.ClassFile.FieldType.int), 6, false, 1),
  (6, ⟨"ChainedChestModel", "isSpot", "(I)Z"⟩, prog_8_method_81_code, 1, (Option.some Jvm.ClassFile.FieldType.boolean), 1, true, 1),
  (6, ⟨"ChainedChestModel", "hold", "(II)I"⟩, prog_8_method_82_code, 3, (Option.some Jvm.ClassFile.FieldType.int), 2, false, 3),
  (6, ⟨"ChainedChestModel", "above", "(I)I"⟩, prog_8_method_83_code, 1, (Option.some Jvm.ClassFile.FieldType.int), 0, true, 1),
  (6, ⟨"ChainedChestModel", "as", "(II)I"⟩, prog_8_method_84_code, 5, (Option.some Jvm.ClassFile.FieldType.int), 2, false, 3),
  (6, ⟨"ChainedChestModel", "sheet", "(III)I"⟩, prog_8_method_85_code, 5, (Option.some Jvm.ClassFile.FieldType.int), 2, false, 4),
  (6, ⟨"ChainedChestModel", "write", "(III)I"⟩, prog_8_method_86_code, 5, (Option.some Jvm.ClassFile.FieldType.int), 3, false, 4),
  (6, ⟨"ChainedChestModel", "copy", "(IIIII)I"⟩, prog_8_method_87_code, 7, (Option.some Jvm.ClassFile.FieldType.int), 2, false, 6),
  (6, ⟨"ChainedChestModel", "load", "(I)I"⟩, prog_8_method_88_code, 4, (Option.some Jvm.ClassFile.FieldType.int), 3, false, 2),
  (6, ⟨"ChainedChestModel", "judge", "(I)I"⟩, prog_8_method_89_code, 5, (Option.some Jvm.ClassFile.FieldType.int), 3, false, 2)]
def mL_6 : List MI := [(6, ⟨"ChainedChestModel", "image", "()I"⟩, prog_8_method_90_code, 2, (Option.some Jvm.ClassFile.FieldType.int), 0, false, 1),
  (6, ⟨"ChainedChestModel", "undo", "()I"⟩, prog_8_method_91_code, 2, (Option.some Jvm.ClassFile.FieldType.int), 1, false, 1),
  (6, ⟨"ChainedChestModel", "tear", "()I"⟩, prog_8_method_92_code, 2, (Option.some Jvm.ClassFile.FieldType.int), 0, false, 1),
  (6, ⟨"ChainedChestModel", "count", "(I)I"⟩, prog_8_method_93_code, 4, (Option.some Jvm.ClassFile.FieldType.int), 1, false, 2),
  (6, ⟨"ChainedChestModel", "status", "(I)I"⟩, prog_8_method_94_code, 4, (Option.some Jvm.ClassFile.FieldType.int), 1, false, 2),
  (7, ⟨"java/lang/Integer", "bitCount", "(I)I"⟩, prog_9_method_49_code, 1, (Option.some Jvm.ClassFile.FieldType.int), 0, true, 1),
  (9, ⟨"java/lang/String", "charAt", "(I)C"⟩, prog_11_method_56_code, 2, (Option.some Jvm.ClassFile.FieldType.char), 3, false, 2),
  (9, ⟨"java/lang/String", "checkIndex", "(II)V"⟩, prog_11_method_155_code, 2, (Option.none : Option Jvm.ClassFile.FieldType), 1, true, 2),
  (9, ⟨"java/lang/String", "coder", "()B"⟩, prog_11_method_152_code, 1, (Option.some Jvm.ClassFile.FieldType.byte), 0, false, 1),
  (9, ⟨"java/lang/String", "isLatin1", "()Z"⟩, prog_11_method_154_code, 1, (Option.some Jvm.ClassFile.FieldType.boolean), 0, false, 1),
  (9, ⟨"java/lang/String", "length", "()I"⟩, prog_11_method_54_code, 1, (Option.some Jvm.ClassFile.FieldType.int), 1, false, 1),
  (10, ⟨"java/lang/StringLatin1", "charAt", "([BI)C"⟩, prog_12_method_2_code, 2, (Option.some Jvm.ClassFile.FieldType.char), 2, true, 2),
  (11, ⟨"java/util/Arrays", "fill", "([II)V"⟩, prog_15_method_103_code, 4, (Option.none : Option Jvm.ClassFile.FieldType), 0, true, 2),
  (12, ⟨"jdk/internal/util/Preconditions", "checkIndex", "(IILjava/util/function/BiFunction;)I"⟩, prog_16_method_11_code, 3, (Option.some Jvm.ClassFile.FieldType.int), 0, true, 3)]
def mLst : List MI := mL_0 ++ mL_1 ++ mL_2 ++ mL_3 ++ mL_4 ++ mL_5 ++ mL_6
def mD0 : MI := (0, ⟨"", "", ""⟩, ⟨#[]⟩, 0, none, 0, true, 0)
def mI (μ : Nat) : MI := mLst.getD μ mD0
def ftab : List (Nat × Nat × Nat × Nat × Nat) := [(0, 11, 0, 0, 99), (0, 14, 0, 1, 100), (0, 18, 0, 2, 101), (0, 21, 0, 3, 102), (0, 25, 0, 4, 106), (0, 28, 0, 5, 110), (0, 31, 0, 6, 113), (0, 34, 0, 7, 115), (1, 13, 1, 1, 228), (1, 17, 1, 2, 229), (1, 9, 1, 0, 227), (2, 19, 2, 0, 182), (2, 23, 2, 1, 183), (2, 39, 0, 4, 107), (2, 46, 0, 3, 104), (2, 10, 2, 2, 184), (2, 16, 2, 3, 185), (3, 13, 3, 1, 202), (3, 9, 3, 0, 201), (3, 20, 3, 3, 204), (3, 17, 3, 2, 203), (3, 23, 3, 4, 205), (3, 56, 0, 3, 105), (3, 26, 3, 5, 206), (4, 45, 4, 0, 141), (4, 13, 4, 1, 142), (4, 17, 4, 2, 143), (4, 20, 4, 3, 144), (4, 23, 4, 4, 145), (4, 26, 4, 5, 146), (4, 32, 4, 7, 148), (4, 29, 4, 6, 147), (4, 110, 0, 5, 112), (4, 113, 0, 4, 109), (4, 36, 4, 8, 149), (4, 39, 4, 9, 150), (4, 42, 4, 10, 151), (5, 12, 5, 0, 237), (5, 71, 0, 3, 103), (5, 109, 0, 4, 108), (5, 122, 0, 5, 111), (5, 131, 0, 6, 114), (5, 27, 5, 3, 240), (5, 36, 5, 4, 241), (5, 49, 5, 6, 243), (5, 230, 0, 7, 116), (5, 43, 5, 5, 242), (5, 19, 5, 2, 239), (5, 16, 5, 1, 238), (5, 57, 5, 8, 245), (5, 53, 5, 7, 244), (6, 19, 6, 4, 1023), (6, 9, 6, 0, 1019), (6, 22, 6, 5, 1024), (6, 144, 6, 7, 1026), (6, 25, 6, 6, 1025), (6, 16, 6, 2, 1021), (6, 28, 6, 8, 1027), (6, 162, 6, 9, 1028), (6, 50, 6, 21, 1040), (6, 53, 6, 22, 1041), (6, 47, 6, 20, 1039), (6, 199, 6, 11, 1030), (6, 31, 6, 10, 1029), (6, 202, 6, 14, 1033), (6, 205, 6, 13, 1032), (6, 208, 6, 15, 1034), (6, 212, 6, 12, 1031), (6, 38, 6, 17, 1036), (6, 44, 6, 19, 1038), (6, 34, 6, 16, 1035), (6, 41, 6, 18, 1037), (6, 56, 6, 23, 1042), (6, 13, 6, 1, 1020), (6, 253, 6, 3, 1022)]
def ctab : List (Nat × Nat × Int32 × Nat) := [(0, 116, 1103515245, 729), (2, 9, 2147483647, 181), (4, 85, 2147483647, 456), (5, 66, (-1000001), 272), (5, 75, (-1000002), 277), (5, 125, 99999, 407), (5, 126, (-1000005), 408), (5, 158, (-1000004), 473), (5, 259, (-1000006), 666), (5, 263, (-1000003), 919), (5, 270, (-1000007), 927), (5, 310, 2147483647, 472), (6, 59, (-1000001), 1104), (6, 126, 99999, 1198), (6, 133, 99999999, 1223), (6, 189, 1103515245, 1361), (7, 265, 1431655765, 311), (7, 266, 858993459, 312), (7, 267, 252645135, 313)]
def lctab : List (Nat × Nat × Nat × Nat) := [(4, 132, 10000000000, 640), (4, 134, 10, 641), (5, 205, 10000000000, 646), (6, 168, 10, 1312), (6, 218, 99999999999, 1389), (6, 220, 27, 1390), (6, 222, 96, 1391), (6, 227, 1023, 1395), (6, 229, 48, 1396)]
def ktab : List (Nat × Nat × Nat × Nat) := [(0, 52, 1, 916), (0, 62, 7, 327), (0, 65, 3, 322), (0, 68, 4, 338), (0, 78, 10, 358), (0, 84, 245, 308), (0, 90, 16, 300), (0, 93, 17, 304), (0, 96, 21, 387), (0, 100, 23, 391), (0, 104, 25, 314), (0, 107, 24, 413), (0, 110, 19, 414), (0, 113, 26, 418), (0, 117, 15, 722), (0, 120, 18, 723), (0, 123, 20, 724), (0, 126, 28, 725), (0, 129, 30, 730), (0, 133, 6, 733), (0, 136, 27, 734), (0, 140, 31, 904), (0, 143, 43, 972), (0, 146, 45, 973), (0, 149, 8, 974), (0, 153, 42, 983), (1, 29, 252, 936), (1, 35, 43, 682), (1, 39, 44, 962), (2, 29, 12, 552), (2, 33, 245, 553), (2, 42, 90, 554), (2, 49, 14, 574), (2, 52, 77, 575), (2, 55, 6, 584), (2, 58, 75, 585), (2, 62, 9, 586), (2, 66, 78, 587), (2, 69, 13, 624), (2, 73, 54, 596), (2, 77, 79, 600), (3, 29, 71, 771), (3, 32, 61, 794), (3, 38, 64, 798), (3, 42, 74, 808), (3, 46, 62, 860), (3, 50, 65, 880), (3, 53, 63, 886), (3, 59, 4, 864), (3, 63, 5, 865), (3, 67, 66, 866), (3, 70, 67, 875), (3, 73, 8, 878), (3, 77, 9, 879), (3, 81, 11, 890), (3, 84, 12, 891), (3, 120, 68, 775), (3, 123, 69, 779), (3, 127, 72, 782), (3, 130, 70, 786), (3, 133, 73, 789), (3, 141, 250, 812), (3, 146, 246, 822), (4, 49, 4, 442), (4, 53, 252, 443), (4, 59, 16, 444), (4, 63, 17, 445), (4, 66, 245, 446), (4, 69, 21, 447), (4, 73, 76, 448), (4, 77, 75, 438), (4, 81, 78, 452), (4, 86, 18, 457), (4, 90, 80, 458), (4, 94, 81, 462), (4, 98, 25, 466), (4, 101, 26, 467), (4, 104, 77, 482), (4, 107, 83, 483), (4, 116, 19, 515), (4, 119, 92, 540), (4, 122, 94, 636), (4, 136, 6, 642), (4, 139, 42, 671), (4, 147, 45, 678), (4, 150, 96, 686), (5, 62, 1, 269), (5, 67, 147, 273), (5, 76, 5, 278), (5, 79, 3, 288), (5, 82, 14, 292), (5, 85, 24, 296), (5, 88, 26, 318), (5, 91, 6, 323), (5, 95, 8, 334), (5, 99, 9, 346), (5, 103, 11, 354), (5, 106, 12, 363), (5, 112, 15, 375), (5, 116, 20, 383), (5, 119, 22, 399), (5, 127, 27, 409), (5, 134, 16, 423), (5, 137, 17, 424), (5, 140, 18, 425), (5, 143, 19, 429), (5, 146, 77, 434), (5, 149, 148, 468), (5, 152, 82, 478), (5, 155, 84, 487), (5, 159, 85, 491), (5, 162, 86, 507), (5, 165, 87, 511), (5, 168, 88, 520), (5, 171, 89, 528), (5, 174, 91, 536), (5, 177, 48, 548), (5, 180, 49, 562), (5, 183, 50, 570), (5, 186, 51, 580), (5, 189, 53, 592), (5, 192, 55, 604), (5, 195, 56, 612), (5, 198, 52, 620), (5, 201, 93, 632), (5, 207, 151, 647), (5, 211, 150, 654), (5, 214, 95, 667), (5, 218, 97, 690), (5, 221, 98, 698), (5, 224, 99, 706), (5, 227, 29, 718), (5, 233, 57, 743), (5, 236, 58, 747), (5, 239, 59, 755), (5, 242, 0, 763), (5, 245, 60, 767), (5, 249, 31, 897), (5, 252, 32, 900), (5, 256, 33, 909), (5, 260, 2, 913), (5, 264, 149, 658), (5, 267, 38, 924), (5, 271, 41, 928), (5, 274, 43, 941), (5, 275, 46, 942), (5, 277, 39, 662), (5, 281, 40, 950), (5, 285, 44, 954), (5, 288, 47, 958), (5, 292, 36, 968), (5, 296, 37, 979), (5, 299, 245, 1000), (5, 304, 35, 1001), (5, 307, 34, 1005), (6, 60, 153, 1097), (6, 64, 156, 1125), (6, 68, 158, 1121), (6, 72, 155, 1143), (6, 76, 154, 1140), (6, 79, 161, 1128), (6, 82, 162, 1132), (6, 85, 163, 1182), (6, 89, 152, 1100), (6, 92, 169, 1105), (6, 96, 159, 1109), (6, 100, 157, 1117), (6, 104, 164, 1136), (6, 107, 165, 1146), (6, 110, 160, 1158), (6, 114, 171, 1154), (6, 117, 166, 1178), (6, 120, 179, 1194), (6, 123, 178, 1203), (6, 127, 180, 1199), (6, 130, 167, 1211), (6, 134, 183, 1224), (6, 138, 184, 1219), (6, 141, 185, 1228), (6, 148, 187, 1236), (6, 152, 191, 1252), (6, 155, 192, 1256), (6, 158, 194, 1264), (6, 165, 202, 1296), (6, 170, 208, 1328), (6, 173, 207, 1321), (6, 176, 210, 1317), (6, 179, 209, 1324), (6, 182, 212, 1340), (6, 186, 213, 1336), (6, 190, 175, 1356), (6, 193, 217, 1357), (6, 196, 218, 1362), (6, 215, 223, 1386), (6, 224, 224, 1392), (6, 231, 225, 1382), (6, 234, 226, 1401), (6, 238, 227, 1409), (6, 241, 228, 1405), (6, 244, 229, 1397), (6, 247, 231, 1417), (6, 250, 233, 1424), (9, 492, 249, 826), (9, 495, 251, 830), (9, 1059, 253, 838), (9, 335, 248, 816), (10, 9, 247, 833)]
def satab : List (Nat × Nat × Nat × Nat) := [(0, 56, 205, 917), (0, 59, 202, 282), (0, 72, 201, 342), (0, 75, 200, 344), (0, 81, 203, 361)]
def sttab : List (Nat × Nat × Nat × Nat) := [(9, 9, 0, 1467), (9, 1053, 3, 836), (9, 38, 2, 820), (9, 15, 1, 1468)]
def ntab : List (Nat × Nat × Nat × Nat) := [(0, 40, 3, 93), (1, 20, 0, 932), (1, 26, 1, 933), (1, 43, 3, 963), (3, 136, 0, 793), (4, 126, 2, 643), (4, 144, 0, 675)]
def mwtab : List (Nat × Nat × Nat × Nat) := [(766, 764, 765, 61), (271, 270, 0, 61), (915, 914, 0, 61), (291, 289, 290, 61), (341, 339, 340, 61), (281, 279, 280, 61), (326, 324, 325, 61), (329, 328, 0, 61), (337, 335, 336, 61), (349, 347, 348, 61), (360, 359, 0, 61), (357, 355, 356, 61), (366, 364, 365, 61), (627, 625, 626, 61), (295, 293, 294, 61), (378, 376, 377, 61), (303, 301, 302, 61), (307, 305, 306, 61), (428, 426, 427, 61), (417, 415, 416, 61), (386, 384, 385, 61), (390, 388, 389, 61), (402, 400, 401, 61), (394, 393, 1, 61), (299, 297, 298, 61), (317, 315, 316, 61), (321, 319, 320, 61), (412, 410, 411, 61), (728, 727, 13, 61), (721, 719, 720, 61), (732, 731, 0, 61), (899, 898, 0, 61), (903, 901, 902, 61), (912, 910, 911, 61), (1008, 1006, 1007, 61), (1004, 1002, 1003, 61), (971, 969, 970, 61), (982, 980, 981, 61), (926, 925, 0, 67), (665, 663, 664, 67), (953, 951, 952, 67), (931, 929, 930, 67), (674, 672, 673, 67), (685, 683, 684, 67), (957, 955, 956, 67), (681, 679, 680, 67), (945, 943, 944, 67), (961, 959, 960, 67), (551, 549, 550, 65), (565, 563, 564, 65), (573, 571, 572, 65), (583, 581, 582, 65), (623, 621, 622, 65), (595, 593, 594, 65), (599, 598, 8, 65), (607, 605, 606, 65), (615, 613, 614, 65), (746, 744, 745, 66), (750, 748, 749, 66), (758, 756, 757, 66), (770, 768, 769, 66), (797, 796, 18, 66), (863, 862, 20, 66), (889, 888, 21, 66), (800, 799, 0, 66), (882, 881, 0, 66), (868, 867, 0, 66), (877, 876, 0, 66), (778, 777, 15, 66), (781, 780, 0, 66), (788, 787, 0, 66), (774, 773, 14, 66), (785, 784, 16, 66), (792, 791, 17, 66), (811, 810, 19, 66), (441, 439, 440, 64), (451, 450, 2, 64), (437, 435, 436, 64), (455, 453, 454, 64), (603, 601, 602, 64), (461, 460, 3, 64), (465, 464, 4, 64), (481, 479, 480, 64), (486, 485, 6, 64), (490, 488, 489, 64), (494, 492, 493, 64), (510, 508, 509, 64), (514, 512, 513, 64), (523, 521, 522, 64), (531, 529, 530, 64), (557, 555, 556, 64), (539, 537, 538, 64), (543, 542, 7, 64), (635, 633, 634, 64), (639, 638, 9, 64), (670, 668, 669, 64), (689, 688, 12, 64), (693, 691, 692, 64), (701, 699, 700, 64), (709, 707, 708, 64), (268, 266, 267, 60), (287, 285, 286, 60), (333, 331, 332, 60), (353, 351, 352, 60), (370, 368, 369, 60), (374, 372, 373, 60), (382, 380, 381, 60), (398, 396, 397, 60), (406, 404, 405, 60), (422, 420, 421, 60), (433, 431, 432, 60), (477, 475, 476, 60), (498, 496, 497, 60), (502, 500, 501, 60), (506, 504, 505, 60), (519, 517, 518, 60), (527, 525, 526, 60), (535, 533, 534, 60), (547, 545, 546, 60), (561, 559, 560, 60), (569, 567, 568, 60), (579, 577, 578, 60), (591, 589, 590, 60), (611, 609, 610, 60), (619, 617, 618, 60), (631, 629, 630, 60), (653, 651, 652, 60), (697, 695, 696, 60), (705, 703, 704, 60), (713, 711, 712, 60), (717, 715, 716, 60), (738, 736, 737, 60), (742, 740, 741, 60), (754, 752, 753, 60), (762, 760, 761, 60), (896, 894, 895, 60), (908, 906, 907, 60), (923, 921, 922, 60), (940, 938, 939, 60), (949, 947, 948, 60), (967, 965, 966, 60), (978, 976, 977, 60), (987, 985, 986, 60), (991, 989, 990, 60), (995, 993, 994, 60), (999, 997, 998, 60), (1012, 1010, 1011, 60), (276, 275, 0, 60), (471, 470, 5, 60), (661, 660, 11, 60), (657, 656, 10, 60), (649, 648, 0, 60), (1103, 1102, 22, 68), (1099, 1098, 0, 68), (1142, 1141, 0, 68), (1145, 1144, 0, 68), (1127, 1126, 0, 68), (1120, 1119, 25, 68), (1124, 1123, 26, 68), (1112, 1111, 24, 68), (1161, 1160, 32, 68), (1131, 1130, 27, 68), (1135, 1134, 28, 68), (1185, 1184, 34, 68), (1139, 1138, 29, 68), (1149, 1148, 30, 68), (1181, 1180, 33, 68), (1214, 1213, 38, 68), (1096, 1094, 1095, 68), (1108, 1107, 23, 68), (1116, 1114, 1115, 68), (1157, 1156, 31, 68), (1153, 1151, 1152, 68), (1165, 1163, 1164, 68), (1169, 1167, 1168, 68), (1173, 1171, 1172, 68), (1177, 1175, 1176, 68), (1189, 1187, 1188, 68), (1206, 1205, 37, 68), (1197, 1196, 35, 68), (1202, 1201, 36, 68), (1193, 1191, 1192, 68), (1210, 1208, 1209, 68), (1227, 1226, 40, 68), (1222, 1221, 39, 68), (1231, 1230, 41, 68), (1218, 1216, 1217, 68), (1239, 1238, 42, 68), (1235, 1233, 1234, 68), (1243, 1241, 1242, 68), (1247, 1245, 1246, 68), (1255, 1254, 43, 68), (1259, 1258, 44, 68), (1251, 1249, 1250, 68), (1267, 1266, 45, 68), (1263, 1261, 1262, 68), (1271, 1269, 1270, 68), (1275, 1273, 1274, 68), (1279, 1277, 1278, 68), (1283, 1281, 1282, 68), (1287, 1285, 1286, 68), (1291, 1289, 1290, 68), (1299, 1298, 46, 68), (1295, 1293, 1294, 68), (1303, 1301, 1302, 68), (1307, 1305, 1306, 68), (1311, 1309, 1310, 68), (1323, 1322, 0, 68), (1331, 1330, 49, 68), (1327, 1326, 48, 68), (1320, 1319, 47, 68), (1316, 1314, 1315, 68), (1343, 1342, 51, 68), (1339, 1338, 50, 68), (1335, 1333, 1334, 68), (1347, 1345, 1346, 68), (1351, 1349, 1350, 68), (1360, 1359, 52, 68), (1365, 1364, 53, 68), (1355, 1353, 1354, 68), (1369, 1367, 1368, 68), (1373, 1371, 1372, 68), (1377, 1375, 1376, 68), (1388, 1387, 0, 68), (1394, 1393, 0, 68), (1385, 1384, 54, 68), (1404, 1403, 56, 68), (1412, 1411, 58, 68), (1408, 1407, 57, 68), (1400, 1399, 55, 68), (1381, 1379, 1380, 68), (1419, 1418, 0, 68), (1416, 1414, 1415, 68), (1426, 1425, 0, 68), (1423, 1421, 1422, 68), (1430, 1428, 1429, 68), (1434, 1432, 1433, 68), (1438, 1436, 1437, 68), (1442, 1440, 1441, 68), (1446, 1444, 1445, 68), (1450, 1448, 1449, 68), (1454, 1452, 1453, 68), (1458, 1456, 1457, 68), (1462, 1460, 1461, 68), (1466, 1464, 1465, 68), (310, 309, 0, 69), (825, 823, 824, 71), (835, 834, 0, 71), (819, 817, 818, 71), (829, 827, 828, 71), (815, 813, 814, 71), (832, 831, 0, 72), (98, 97, 0, 63), (840, 839, 0, 73)]
/-- String constants: their places in Tape's pool, their texts -/
def strL : List (Nat × String) := [(88, "rope"), (90, "chain"), (92, "old"), (94, "rusted"), (96, "nail"), (98, "bolt"), (100, "lock"), (102, "tools"), (104, "spare"), (106, "goal"), (108, "time"), (110, "gives"), (112, "wants"), (114, "binds"), (116, "hands"), (118, "after")]
