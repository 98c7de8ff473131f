def cfC_become : List BK := [(0, [Cst 0 0, Ist 2], Tfall 2, []),
  (2, [Ild 2, Cst 1 10], Tif 81 33 8, []),
  (8, [Ald 1, GfR 11 0 0, Ild 2, Aald, Cst 0 0, Ald 0, GfR 11 0 0, Ild 2, Aald, Cst 0 0, Cst 1 10, Acopy 40, Inc 2 1], Tgoto 2, []),
  (33, [Ald 1, GfR 14 0 1, Cst 0 0, Ald 0, GfR 14 0 1, Cst 0 0, Cst 0 5, Acopy 40, Ald 1, GfR 18 0 2, Cst 0 0, Ald 0, GfR 18 0 2, Cst 0 0, Cst 1 10, Acopy 40, Ald 0, Ald 1, GfI 21 0 3, PfI 21 0 3, Ald 0, Ald 1, GfI 25 0 4, PfI 25 0 4, Ald 0, Ald 1, GfI 28 0 5, PfI 28 0 5, Ald 0, Ald 1, GfI 31 0 6, PfI 31 0 6, Ald 0, Ald 1, GfI 34 0 7, PfI 34 0 7], Tret 87, [])]
theorem okC_become : chkM mC_become cfC_become = true := by decide +kernel
def cfC_isKind : List BK := [(0, [Ild 0], Tif 74 14 4, []),
  (4, [Ild 0, Cst 1 7], Tif 81 14 10, []),
  (10, [Cst 0 1], Tgoto 15, []),
  (14, [Cst 0 0], Tfall 15, []),
  (15, [], Tret 85, [])]
theorem okC_isKind : chkM mC_isKind cfC_isKind = true := by decide +kernel
def cfC_isUnder : List BK := [(0, [Ild 0, Ist 2, Cst 0 0, Ist 3], Tfall 4, []),
  (4, [Ild 3, Cst 1 7], Tif 81 36 10, []),
  (10, [Ild 2, CallS 52 1 mC_isKind], Tif 72 36 17, []),
  (17, [Ild 2, Ild 1], Tif 79 24 22, []),
  (22, [Cst 0 1], Tret 85, []),
  (24, [GsA 56 205, Ild 2, IaldS, Ist 2, Inc 3 1], Tgoto 4, []),
  (36, [Cst 0 0], Tret 85, [])]
theorem okC_isUnder : chkM mC_isUnder cfC_isUnder = true := by decide +kernel
def cfC_has : List BK := [(0, [Ild 1], Tif 74 22 4, []),
  (4, [Ild 1, Ald 0, GfI 21 0 3], Tif 81 22 12, []),
  (12, [Ild 1, Cst 1 10], Tif 81 22 18, []),
  (18, [Cst 0 1], Tgoto 23, []),
  (22, [Cst 0 0], Tfall 23, []),
  (23, [], Tret 85, [])]
theorem okC_has : chkM mC_has cfC_has = true := by decide +kernel
def cfC_allLocks : List BK := [(0, [Cst 0 1, Ald 0, GfI 21 0 3, Ishl, Cst 0 1, Isub], Tret 84, [])]
theorem okC_allLocks : chkM mC_allLocks cfC_allLocks = true := by decide +kernel
def cfC_add : List BK := [(0, [Ald 0, GfI 21 0 3, Ist 2, Ild 2], Tif 74 15 9, []),
  (9, [Ild 2, Cst 1 10], Tif 80 17 15, []),
  (15, [Cst 0 (-1)], Tret 84, []),
  (17, [Cst 0 0, Ist 3], Tfall 19, []),
  (19, [Ild 3, Cst 1 10], Tif 81 44 25, []),
  (25, [Ald 0, GfR 11 0 0, Ild 3, Aald, Ild 2, GsA 59 202, Ild 3, IaldS, Iast, Inc 3 1], Tgoto 19, []),
  (44, [Ald 0, GfR 11 0 0, Cst 0 0, Aald, Ild 2, Ild 1, Iast, Ald 0, Dup, GfI 21 0 3, Cst 0 1, Iadd, PfI 21 0 3, Ild 2], Tret 84, [])]
theorem okC_add : chkM mC_add cfC_add = true := by decide +kernel
def cfC_trait : List BK := [(0, [Ild 1, CallS 62 1 mC_isTrait], Tif 72 26 7, []),
  (7, [Ald 0, Ild 2, CallV 65 2 mC_has], Tif 72 26 15, []),
  (15, [Ald 0, GfR 11 0 0, Ild 1, Aald, Ild 2, Iald], Tgoto 27, []),
  (26, [Cst 0 0], Tfall 27, []),
  (27, [], Tret 84, [])]
theorem okC_trait : chkM mC_trait cfC_trait = true := by decide +kernel
def cfC_isTrait : List BK := [(0, [Ild 0], Tif 74 14 4, []),
  (4, [Ild 0, Cst 1 10], Tif 81 14 10, []),
  (10, [Cst 0 1], Tgoto 15, []),
  (14, [Cst 0 0], Tfall 15, []),
  (15, [], Tret 85, [])]
theorem okC_isTrait : chkM mC_isTrait cfC_isTrait = true := by decide +kernel
def cfC_allows : List BK := [(0, [Ild 1, CallS 62 1 mC_isTrait], Tif 73 9 7, []),
  (7, [Cst 0 0], Tret 85, []),
  (9, [Ild 1, Cst 1 8], Tif 78 21 15, []),
  (15, [Ild 1, Cst 1 9], Tif 79 28 21, []),
  (21, [Ald 0, CallV 68 1 mC_allLocks], Tgoto 33, []),
  (28, [GsA 72 201, Ild 1, IaldS], Tfall 33, []),
  (33, [Ist 3, Ild 2, GsA 75 200, Ild 1, IaldS], Tif 80 52 43, []),
  (43, [Ild 2, Ild 3], Tif 82 52 48, []),
  (48, [Cst 0 1], Tgoto 53, []),
  (52, [Cst 0 0], Tfall 53, []),
  (53, [], Tret 85, [])]
theorem okC_allows : chkM mC_allows cfC_allows = true := by decide +kernel
def cfC_putTrait : List BK := [(0, [Ild 1, CallS 62 1 mC_isTrait], Tif 72 15 7, []),
  (7, [Ald 0, Ild 2, CallV 65 2 mC_has], Tif 73 17 15, []),
  (15, [Cst 0 0], Tret 84, []),
  (17, [Ald 0, GfR 11 0 0, Ild 1, Aald, Ild 2, Iald, Ist 4, Ald 0, GfR 11 0 0, Ild 1, Aald, Ild 2, Ild 3, Iast, Ild 4], Tret 84, [])]
theorem okC_putTrait : chkM mC_putTrait cfC_putTrait = true := by decide +kernel
def cfC_isRule : List BK := [(0, [Ild 0], Tif 74 13 4, []),
  (4, [Ild 0, Cst 0 5], Tif 81 13 9, []),
  (9, [Cst 0 1], Tgoto 14, []),
  (13, [Cst 0 0], Tfall 14, []),
  (14, [], Tret 85, [])]
theorem okC_isRule : chkM mC_isRule cfC_isRule = true := by decide +kernel
def cfC_allowsRule : List BK := [(0, [Ild 1, CallS 78 1 mC_isRule], Tif 73 9 7, []),
  (7, [Cst 0 0], Tret 85, []),
  (9, [Ild 1, Cst 0 2], Tif 79 21 14, []),
  (14, [Ald 0, CallV 68 1 mC_allLocks], Tgoto 26, []),
  (21, [GsA 81 203, Ild 1, IaldS], Tfall 26, []),
  (26, [Ist 3, Ild 2], Tif 74 40 31, []),
  (31, [Ild 2, Ild 3], Tif 82 40 36, []),
  (36, [Cst 0 1], Tgoto 41, []),
  (40, [Cst 0 0], Tfall 41, []),
  (41, [], Tret 85, [])]
theorem okC_allowsRule : chkM mC_allowsRule cfC_allowsRule = true := by decide +kernel
def cfC_putRule : List BK := [(0, [Ild 1, CallS 78 1 mC_isRule], Tif 73 9 7, []),
  (7, [Cst 0 0], Tret 84, []),
  (9, [Ald 0, GfR 14 0 1, Ild 1, Iald, Ist 3, Ald 0, GfR 14 0 1, Ild 1, Ild 2, Iast, Ild 3], Tret 84, [])]
theorem okC_putRule : chkM mC_putRule cfC_putRule = true := by decide +kernel
def cfC_goal : List BK := [(0, [Ald 0, GfR 14 0 1, Cst 0 2, Iald], Tret 84, [])]
theorem okC_goal : chkM mC_goal cfC_goal = true := by decide +kernel
def cfC_isOff : List BK := [(0, [Ald 0, GfI 25 0 4, Ild 1, Ishr, Cst 0 1, Iand], Tif 72 15 11, []),
  (11, [Cst 0 1], Tgoto 16, []),
  (15, [Cst 0 0], Tfall 16, []),
  (16, [], Tret 85, [])]
theorem okC_isOff : chkM mC_isOff cfC_isOff = true := by decide +kernel
def cfC_shutAll : List BK := [(0, [Ald 0, GfI 25 0 4, CallS 84 1 mJI_bitCount, Ist 1, Ald 0, Cst 0 0, PfI 25 0 4, Ald 0, Cst 0 0, PfI 28 0 5, Ald 0, Cst 0 0, PfI 31 0 6, Ild 1], Tret 84, [])]
theorem okC_shutAll : chkM mC_shutAll cfC_shutAll = true := by decide +kernel
def cfC_slackAt : List BK := [(0, [Ald 0, GfR 14 0 1, Cst 0 1, Iald, Ist 2, Cst 0 0, Ist 3], Tfall 9, []),
  (9, [Ild 3, Ald 0, GfI 21 0 3], Tif 81 48 17, []),
  (17, [Ild 3, Cst 1 10], Tif 81 48 23, []),
  (23, [Ild 1, Ild 3, Ishr, Cst 0 1, Iand], Tif 72 42 31, []),
  (31, [Ild 2, Ald 0, GfR 11 0 0, Cst 0 2, Aald, Ild 3, Iald, Iadd, Ist 2], Tfall 42, []),
  (42, [Inc 3 1], Tgoto 9, []),
  (48, [Ild 2], Tret 84, [])]
theorem okC_slackAt : chkM mC_slackAt cfC_slackAt = true := by decide +kernel
def cfC_freeAt : List BK := [(0, [Cst 0 0, Ist 2, Cst 0 0, Ist 3], Tfall 4, []),
  (4, [Ild 3, Ald 0, GfI 21 0 3], Tif 81 43 12, []),
  (12, [Ild 3, Cst 1 10], Tif 81 43 18, []),
  (18, [Ild 1, Ild 3, Ishr, Cst 0 1, Iand], Tif 73 37 26, []),
  (26, [Ild 2, Ald 0, GfR 11 0 0, Cst 0 4, Aald, Ild 3, Iald, Ior, Ist 2], Tfall 37, []),
  (37, [Inc 3 1], Tgoto 4, []),
  (43, [Cst 0 3, Ild 2, Cst 0 (-1), Ixor, Iand], Tret 84, [])]
theorem okC_freeAt : chkM mC_freeAt cfC_freeAt = true := by decide +kernel
def cfC_isOutAt : List BK := [(0, [Ald 0, GfR 14 0 1, Cst 0 2, Iald, Ild 1, Cst 0 (-1), Ixor, Iand], Tif 73 17 13, []),
  (13, [Cst 0 1], Tgoto 18, []),
  (17, [Cst 0 0], Tfall 18, []),
  (18, [], Tret 85, [])]
theorem okC_isOutAt : chkM mC_isOutAt cfC_isOutAt = true := by decide +kernel
def cfC_playsAt : List BK := [(0, [Ald 0, GfR 14 0 1, Cst 0 3, Iald, Ald 0, GfR 14 0 1, Cst 0 4, Iald, Iadd, Ist 2, Ild 2], Tif 77 34 18, []),
  (18, [Ild 1, Ild 2, Irem, Ald 0, GfR 14 0 1, Cst 0 3, Iald], Tif 81 34 30, []),
  (30, [Cst 0 1], Tgoto 35, []),
  (34, [Cst 0 0], Tfall 35, []),
  (35, [], Tret 85, [])]
theorem okC_playsAt : chkM mC_playsAt cfC_playsAt = true := by decide +kernel
def cfC_mayAt : List BK := [(0, [Ald 0, Ild 1, Ald 0, Ild 1, CallV 90 2 mC_slackAt, Ald 0, Ild 1, CallV 93 2 mC_freeAt, CallS 84 1 mJI_bitCount, CallV 96 4 mC_mayWith], Tret 84, [])]
theorem okC_mayAt : chkM mC_mayAt cfC_mayAt = true := by decide +kernel
def cfC_mayWith : List BK := [(0, [Cst 0 0, Ist 4, Cst 0 0, Ist 5], Tfall 6, []),
  (6, [Ild 5, Ald 0, GfI 21 0 3], Tif 81 49 15, []),
  (15, [Ild 5, Cst 1 10], Tif 81 49 22, []),
  (22, [Ald 0, Ild 5, Ild 1, Ild 2, Ild 3, CallV 100 5 mC_reason], Tif 73 43 34, []),
  (34, [Ild 4, Cst 0 1, Ild 5, Ishl, Ior, Ist 4], Tfall 43, []),
  (43, [Inc 5 1], Tgoto 6, []),
  (49, [Ild 4], Tret 84, [])]
theorem okC_mayWith : chkM mC_mayWith cfC_mayWith = true := by decide +kernel
def cfC_reasonNow : List BK := [(0, [Ald 0, Ild 1, Ald 0, GfI 25 0 4, Ald 0, Ald 0, GfI 25 0 4, CallV 90 2 mC_slackAt, Ald 0, Ald 0, GfI 25 0 4, CallV 93 2 mC_freeAt, CallS 84 1 mJI_bitCount, CallV 100 5 mC_reason], Tret 84, [])]
theorem okC_reasonNow : chkM mC_reasonNow cfC_reasonNow = true := by decide +kernel
def cfC_reason : List BK := [(0, [Ald 0, Ild 1, CallV 65 2 mC_has], Tif 72 16 8, []),
  (8, [Ild 2, Ild 1, Ishr, Cst 0 1, Iand], Tif 72 18 16, []),
  (16, [Cst 0 1], Tret 84, []),
  (18, [Ild 3, Ald 0, GfR 11 0 0, Cst 0 3, Aald, Ild 1, Iald], Tif 81 32 30, []),
  (30, [Cst 0 2], Tret 84, []),
  (32, [Ild 4, Ald 0, GfR 11 0 0, Cst 0 5, Aald, Ild 1, Iald], Tif 81 47 45, []),
  (45, [Cst 0 3], Tret 84, []),
  (47, [Ald 0, GfR 11 0 0, Cst 1 6, Aald, Ild 1, Iald, Ist 5, Ild 5], Tif 77 81 63, []),
  (63, [Ald 0, GfR 14 0 1, Cst 0 0, Iald, Ild 5, Cst 0 1, Isub, Ishr, Cst 0 1, Iand], Tif 73 81 79, []),
  (79, [Cst 0 4], Tret 84, []),
  (81, [Ald 0, GfR 11 0 0, Cst 1 8, Aald, Ild 1, Iald, Ild 2, Cst 0 (-1), Ixor, Iand], Tif 72 99 97, []),
  (97, [Cst 0 5], Tret 84, []),
  (99, [Ald 0, GfR 11 0 0, Cst 1 9, Aald, Ild 1, Iald, Cst 0 1, Ild 1, Ishl, Cst 0 (-1), Ixor, Iand, Ild 2, Iand], Tif 72 124 119, []),
  (119, [Cst 1 6], Tgoto 125, []),
  (124, [Cst 0 0], Tfall 125, []),
  (125, [], Tret 84, [])]
theorem okC_reason : chkM mC_reason cfC_reason = true := by decide +kernel
def cfC_takesNow : List BK := [(0, [Ald 0, Ild 1, Ald 0, Ald 0, GfI 25 0 4, CallV 90 2 mC_slackAt, Ald 0, Ald 0, GfI 25 0 4, CallV 93 2 mC_freeAt, CallS 84 1 mJI_bitCount, Ald 0, GfI 25 0 4, CallS 84 1 mJI_bitCount, CallV 104 5 mC_takes], Tret 84, [])]
theorem okC_takesNow : chkM mC_takesNow cfC_takesNow = true := by decide +kernel
def cfC_takes : List BK := [(0, [Ild 1], Tif 74 10 4, []),
  (4, [Ild 1, Cst 1 10], Tif 80 12 10, []),
  (10, [Cst 0 0], Tret 84, []),
  (12, [Ald 0, GfR 11 0 0, Cst 0 1, Aald, Ild 1, Iald, Ist 5, Ild 5, Ild 2], Tif 83 35 28, []),
  (28, [Ild 5, Ild 2, Isub], Tgoto 36, []),
  (35, [Cst 0 1], Tfall 36, []),
  (36, [Ist 6, Ild 5, Cst 0 3, Ild 4, Imul, Iadd, Ist 7, Ild 7, Cst 0 1], Tif 83 60 53, []),
  (53, [Ild 7, Cst 0 2, Idiv], Tgoto 61, []),
  (60, [Cst 0 1], Tfall 61, []),
  (61, [Ist 8, Ald 0, GfR 11 0 0, Cst 0 0, Aald, Ild 1, Iald], Tsw 90 142 108, [(1, 108), (2, 116), (3, 119), (4, 122), (5, 111), (6, 127)]),
  (108, [Ild 6], Tret 84, []),
  (111, [Ild 6, Cst 0 2, Iadd], Tret 84, []),
  (116, [Ild 7], Tret 84, []),
  (119, [Ild 8], Tret 84, []),
  (122, [Ild 8, Cst 0 4, Iadd], Tret 84, []),
  (127, [Ild 3, Cst 0 2], Tif 81 139 132, []),
  (132, [Cst 0 2, Ild 5, Imul], Tgoto 141, []),
  (139, [Ild 5], Tfall 141, []),
  (141, [], Tret 84, []),
  (142, [Ild 5], Tret 84, [])]
theorem okC_takes : chkM mC_takes cfC_takes = true := by decide +kernel
def cfC_sounds : List BK := [(0, [Ald 0, Ild 1, CallV 65 2 mC_has], Tif 73 10 8, []),
  (8, [Cst 0 0], Tret 84, []),
  (10, [Ald 0, GfR 11 0 0, Cst 0 1, Aald, Ild 1, Iald, Cst 0 2, Idiv, Ist 2, Ald 0, GfR 11 0 0, Cst 0 0, Aald, Ild 1, Iald], Tsw 90 80 64, [(1, 64), (2, 68), (3, 70), (4, 74), (5, 66)]),
  (64, [Cst 0 0], Tret 84, []),
  (66, [Cst 0 4], Tret 84, []),
  (68, [Ild 2], Tret 84, []),
  (70, [Ild 2, Cst 0 1, Iadd], Tret 84, []),
  (74, [Cst 0 2, Ild 2, Cst 0 1, Iadd, Imul], Tret 84, []),
  (80, [Cst 0 2], Tret 84, [])]
theorem okC_sounds : chkM mC_sounds cfC_sounds = true := by decide +kernel
def cfC_step : List BK := [(0, [Ald 0, Ild 1, CallV 107 2 mC_takesNow, Ist 2, Ald 0, Ald 0, GfI 28 0 5, CallV 110 2 mC_playsAt], Tif 73 31 17, []),
  (17, [Ald 0, Dup, GfI 31 0 6, Ald 0, Ild 1, CallV 113 2 mC_sounds, Iadd, PfI 31 0 6], Tfall 31, []),
  (31, [Ald 0, Dup, GfI 28 0 5, Ild 2, Iadd, PfI 28 0 5, Ald 0, Dup, GfI 25 0 4, Cst 0 1, Ild 1, Ishl, Ior, PfI 25 0 4], Tret 87, [])]
theorem okC_step : chkM mC_step cfC_step = true := by decide +kernel
def cfC_draw : List BK := [(0, [Ald 0, Ald 0, GfI 34 0 7, Cst 235 1103515245, Imul, Cst 2 12345, Iadd, PfI 34 0 7, Ald 0, GfI 34 0 7, Cst 1 8, Iushr], Tret 84, [])]
theorem okC_draw : chkM mC_draw cfC_draw = true := by decide +kernel
def cfC_tryFriday : List BK := [(0, [Ald 0, CallV 117 1 mC_shutAll, Pop, Cst 0 0, Ist 2, Cst 0 0, Ist 3], Tfall 9, []),
  (9, [Ild 3, Ild 1], Tif 81 108 14, []),
  (14, [Ald 0, Ald 0, GfI 25 0 4, CallV 120 2 mC_isOutAt], Tif 73 108 25, []),
  (25, [Ald 0, Ald 0, GfI 25 0 4, CallV 123 2 mC_mayAt, Ist 4, Ild 4, CallS 84 1 mJI_bitCount, Ist 5, Ild 5], Tif 73 49 47, []),
  (47, [Ild 2], Tret 84, []),
  (49, [Ild 4, Ald 0, CallV 126 1 mC_draw, Ild 5, Irem, CallS 129 2 mC_nth, Ist 6, Ald 0, CallV 126 1 mC_draw, Cst 1 10, Irem, Ald 0, Cst 1 7, Ild 6, CallV 133 3 mC_trait], Tif 81 85 81, []),
  (81, [Cst 0 1], Tgoto 86, []),
  (85, [Cst 0 0], Tfall 86, []),
  (86, [Ist 7, Ild 7], Tif 73 102 93, []),
  (93, [Ald 0, Ild 6, CallV 136 2 mC_step, Inc 2 1], Tfall 102, []),
  (102, [Inc 3 1], Tgoto 9, []),
  (108, [Ild 2], Tret 84, [])]
theorem okC_tryFriday : chkM mC_tryFriday cfC_tryFriday = true := by decide +kernel
def cfC_nth : List BK := [(0, [Ild 1, Ist 2, Cst 0 0, Ist 3], Tfall 4, []),
  (4, [Ild 3, Cst 1 10], Tif 81 33 10, []),
  (10, [Ild 0, Ild 3, Ishr, Cst 0 1, Iand], Tif 72 27 18, []),
  (18, [Ild 2], Tif 73 24 22, []),
  (22, [Ild 3], Tret 84, []),
  (24, [Inc 2 (-1)], Tfall 27, []),
  (27, [Inc 3 1], Tgoto 4, []),
  (33, [Cst 0 0], Tret 84, [])]
theorem okC_nth : chkM mC_nth cfC_nth = true := by decide +kernel
def cfC_isSpot : List BK := [(0, [Ild 0], Tif 74 14 4, []),
  (4, [Ild 0, Cst 1 10], Tif 81 14 10, []),
  (10, [Cst 0 1], Tgoto 15, []),
  (14, [Cst 0 0], Tfall 15, []),
  (15, [], Tret 85, [])]
theorem okC_isSpot : chkM mC_isSpot cfC_isSpot = true := by decide +kernel
def cfC_putSpot : List BK := [(0, [Ild 1, CallS 140 1 mC_isSpot], Tif 72 14 7, []),
  (7, [Ald 0, GfR 18 0 2, Ild 1, Ild 2, Iast], Tfall 14, []),
  (14, [], Tret 87, [])]
theorem okC_putSpot : chkM mC_putSpot cfC_putSpot = true := by decide +kernel
def cfC_atSpot : List BK := [(0, [Ild 1, CallS 140 1 mC_isSpot], Tif 72 16 7, []),
  (7, [Ald 0, GfR 18 0 2, Ild 1, Iald], Tgoto 17, []),
  (16, [Cst 0 (-1)], Tfall 17, []),
  (17, [], Tret 84, [])]
theorem okC_atSpot : chkM mC_atSpot cfC_atSpot = true := by decide +kernel
def cfC_heldSpots : List BK := [(0, [Cst 0 0, Ist 1, Cst 0 0, Ist 2], Tfall 4, []),
  (4, [Ild 2, Cst 1 10], Tif 81 29 10, []),
  (10, [Ald 0, GfR 18 0 2, Ild 2, Iald, Cst 0 (-1)], Tif 78 23 20, []),
  (20, [Inc 1 1], Tfall 23, []),
  (23, [Inc 2 1], Tgoto 4, []),
  (29, [Ild 1], Tret 84, [])]
theorem okC_heldSpots : chkM mC_heldSpots cfC_heldSpots = true := by decide +kernel
def cfC_allTimes : List BK := [(0, [Cst 0 0, Ist 1, Cst 0 0, Ist 2], Tfall 4, []),
  (4, [Ild 2, Ald 0, GfI 21 0 3], Tif 81 35 12, []),
  (12, [Ild 2, Cst 1 10], Tif 81 35 18, []),
  (18, [Ild 1, Ald 0, GfR 11 0 0, Cst 0 1, Aald, Ild 2, Iald, Iadd, Ist 1, Inc 2 1], Tgoto 4, []),
  (35, [Ild 1], Tret 84, [])]
theorem okC_allTimes : chkM mC_allTimes cfC_allTimes = true := by decide +kernel
def cfC_loadTimes : List BK := [(0, [Cst 0 0, Ist 2, Cst 0 0, Ist 3], Tfall 4, []),
  (4, [Ild 3, Ald 0, GfI 21 0 3], Tif 81 63 12, []),
  (12, [Ild 3, Cst 1 10], Tif 81 63 18, []),
  (18, [Ald 1, Ild 3, CallV 143 2 mS_has], Tif 72 39 26, []),
  (26, [Ald 0, Cst 0 1, Ald 1, Ild 3, CallV 146 2 mS_number, CallV 149 3 mC_allows], Tif 73 41 39, []),
  (39, [Ild 2], Tret 84, []),
  (41, [Ald 0, GfR 11 0 0, Cst 0 1, Aald, Ild 3, Ald 1, Ild 3, CallV 146 2 mS_number, Iast, Inc 2 1, Inc 3 1], Tgoto 4, []),
  (63, [Ild 2], Tret 84, [])]
theorem okC_loadTimes : chkM mC_loadTimes cfC_loadTimes = true := by decide +kernel
def cfC_firstBarred : List BK := [(0, [Ald 0, GfI 25 0 4, Ist 2, Cst 0 0, Ist 3], Tfall 7, []),
  (7, [Ild 3, Ald 1, CallV 153 1 mS_length], Tif 81 61 15, []),
  (15, [Ald 1, Ild 3, CallV 146 2 mS_number, Ist 4, Ald 0, Ild 4, CallV 65 2 mC_has], Tif 72 44 31, []),
  (31, [Ald 0, Ild 2, CallV 123 2 mC_mayAt, Ild 4, Ishr, Cst 0 1, Iand], Tif 73 48 44, []),
  (44, [Cst 0 1, Ild 3, Iadd], Tret 84, []),
  (48, [Ild 2, Cst 0 1, Ild 4, Ishl, Ior, Ist 2, Inc 3 1], Tgoto 7, []),
  (61, [Cst 0 0], Tret 84, [])]
theorem okC_firstBarred : chkM mC_firstBarred cfC_firstBarred = true := by decide +kernel
def cfS_isWidth : List BK := [(0, [Ild 0], Tif 72 22 4, []),
  (4, [Ild 0, Cst 1 8], Tif 78 22 10, []),
  (10, [Ild 0, Cst 1 16], Tif 78 22 16, []),
  (16, [Ild 0, Cst 1 32], Tif 79 26 22, []),
  (22, [Cst 0 1], Tgoto 27, []),
  (26, [Cst 0 0], Tfall 27, []),
  (27, [], Tret 85, [])]
theorem okS_isWidth : chkM mS_isWidth cfS_isWidth = true := by decide +kernel
def cfS_isMissing : List BK := [(0, [Ald 0, GfI 13 1 1], Tif 73 11 7, []),
  (7, [Cst 0 1], Tgoto 12, []),
  (11, [Cst 0 0], Tfall 12, []),
  (12, [], Tret 85, [])]
theorem okS_isMissing : chkM mS_isMissing cfS_isMissing = true := by decide +kernel
def cfS_isLike : List BK := [(0, [Ald 0, GfI 13 1 1, Ald 1, GfI 13 1 1], Tif 79 15 11, []),
  (11, [Cst 0 1], Tgoto 16, []),
  (15, [Cst 0 0], Tfall 16, []),
  (16, [], Tret 85, [])]
theorem okS_isLike : chkM mS_isLike cfS_isLike = true := by decide +kernel
def cfS_begin : List BK := [(0, [Ald 0, Ild 1, PfI 13 1 1, Ald 0, Ild 1], Tif 73 14 10, []),
  (10, [Cst 0 0], Tgoto 24, []),
  (14, [Cst 0 0, Ild 2, Cst 1 40, Mmin 20, Mmax 26], Tfall 24, []),
  (24, [PfI 17 1 2, Ald 0, GfR 9 1 0, Cst 0 0, CallS 29 2 mJA_fill, Ald 0, GfI 17 1 2], Tret 84, [])]
theorem okS_begin : chkM mS_begin cfS_begin = true := by decide +kernel
def cfS_length : List BK := [(0, [Ald 0, GfI 17 1 2], Tret 84, [])]
theorem okS_length : chkM mS_length cfS_length = true := by decide +kernel
def cfS_has : List BK := [(0, [Ild 1], Tif 74 22 4, []),
  (4, [Ild 1, Ald 0, GfI 17 1 2], Tif 81 22 12, []),
  (12, [Ild 1, Cst 1 40], Tif 81 22 18, []),
  (18, [Cst 0 1], Tgoto 23, []),
  (22, [Cst 0 0], Tfall 23, []),
  (23, [], Tret 85, [])]
theorem okS_has : chkM mS_has cfS_has = true := by decide +kernel
def cfS_hasRun : List BK := [(0, [Ild 1], Tif 74 30 4, []),
  (4, [Ild 2], Tif 74 30 8, []),
  (8, [Ild 1, Ald 0, GfI 17 1 2], Tif 82 30 16, []),
  (16, [Ild 2, Ald 0, GfI 17 1 2, Ild 1, Isub], Tif 82 30 26, []),
  (26, [Cst 0 1], Tgoto 31, []),
  (30, [Cst 0 0], Tfall 31, []),
  (31, [], Tret 85, [])]
theorem okS_hasRun : chkM mS_hasRun cfS_hasRun = true := by decide +kernel
def cfS_number : List BK := [(0, [Ald 0, Ild 1, CallV 35 2 mS_has], Tif 72 17 8, []),
  (8, [Ald 0, GfR 9 1 0, Ild 1, Iald], Tgoto 18, []),
  (17, [Cst 0 0], Tfall 18, []),
  (18, [], Tret 84, [])]
theorem okS_number : chkM mS_number cfS_number = true := by decide +kernel
def cfS_put : List BK := [(0, [Ald 0, Ild 1, CallV 35 2 mS_has], Tif 72 43 8, []),
  (8, [Ald 0, GfR 9 1 0, Ild 1, Ald 0, GfI 13 1 1, Cst 1 8], Tif 79 27 22, []),
  (22, [Ild 2, I2b], Tgoto 42, []),
  (27, [Ald 0, GfI 13 1 1, Cst 1 16], Tif 79 41 36, []),
  (36, [Ild 2, I2s], Tgoto 42, []),
  (41, [Ild 2], Tfall 42, []),
  (42, [Iast], Tfall 43, []),
  (43, [], Tret 87, [])]
theorem okS_put : chkM mS_put cfS_put = true := by decide +kernel
def cfS_copyTo : List BK := [(0, [Ald 0, Ild 1, Ild 4, CallV 39 3 mS_hasRun], Tif 72 35 10, []),
  (10, [Ald 2, Ild 3, Ild 4, CallV 39 3 mS_hasRun], Tif 72 35 20, []),
  (20, [Ald 0, GfR 9 1 0, Ild 1, Ald 2, GfR 9 1 0, Ild 3, Ild 4, Acopy 43], Tfall 35, []),
  (35, [], Tret 87, [])]
theorem okS_copyTo : chkM mS_copyTo cfS_copyTo = true := by decide +kernel
def cfK_fewestTools : List BK := [(0, [Ald 0, GfR 19 2 0, Cst 0 0, Cst 0 0, CallV 29 3 mC_putRule, Ist 1, Cst 21 2147483647, Ist 2, Cst 0 0, Ist 3], Tfall 15, []),
  (15, [Ild 3, Cst 1 16], Tif 81 73 21, []),
  (21, [Ild 2, Cst 21 2147483647], Tif 78 38 27, []),
  (27, [Ild 3, CallS 33 1 mJI_bitCount, Ild 2, CallS 33 1 mJI_bitCount], Tif 81 67 38, []),
  (38, [Ald 0, GfR 19 2 0, Cst 0 0, Ild 3, CallV 29 3 mC_putRule, Pop, Ald 0, GfR 23 2 1, Ald 0, GfR 19 2 0, GfI 39 0 4, CallV 42 2 mW_hasWayOut], Tif 72 67 65, []),
  (65, [Ild 3, Ist 2], Tfall 67, []),
  (67, [Inc 3 1], Tgoto 15, []),
  (73, [Ald 0, GfR 19 2 0, Cst 0 0, Ild 1, CallV 29 3 mC_putRule, Pop, Ild 2], Tret 84, [])]
theorem okK_fewestTools : chkM mK_fewestTools cfK_fewestTools = true := by decide +kernel
def cfK_leastSpare : List BK := [(0, [Ald 0, GfR 19 2 0, Cst 0 1, Cst 0 0, CallV 29 3 mC_putRule, Ist 1, Cst 21 2147483647, Ist 2, Cst 0 0, Ist 3], Tfall 15, []),
  (15, [Ild 3, Cst 1 40], Tif 82 62 21, []),
  (21, [Ild 2, Cst 21 2147483647], Tif 79 62 27, []),
  (27, [Ald 0, GfR 19 2 0, Cst 0 1, Ild 3, CallV 29 3 mC_putRule, Pop, Ald 0, GfR 23 2 1, Ald 0, GfR 19 2 0, GfI 39 0 4, CallV 42 2 mW_hasWayOut], Tif 72 56 54, []),
  (54, [Ild 3, Ist 2], Tfall 56, []),
  (56, [Inc 3 1], Tgoto 15, []),
  (62, [Ald 0, GfR 19 2 0, Cst 0 1, Ild 1, CallV 29 3 mC_putRule, Pop, Ild 2], Tret 84, [])]
theorem okK_leastSpare : chkM mK_leastSpare cfK_leastSpare = true := by decide +kernel
def cfK_bestWire : List BK := [(0, [Cst 21 2147483647, Ist 1, Cst 21 2147483647, Ist 2, Cst 0 0, Ist 3], Tfall 8, []),
  (8, [Ild 3, Ald 0, GfR 19 2 0, GfI 46 0 3], Tif 81 68 19, []),
  (19, [Ald 0, GfR 19 2 0, Ild 3, CallV 49 2 mC_isOff], Tif 73 62 30, []),
  (30, [Ald 0, GfR 23 2 1, Ald 0, GfR 19 2 0, GfI 39 0 4, Cst 0 1, Ild 3, Ishl, Ior, Cst 0 0, CallV 52 3 mW_leastFrom, Ist 4, Ild 4, Ild 2], Tif 81 62 57, []),
  (57, [Ild 4, Ist 2, Ild 3, Ist 1], Tfall 62, []),
  (62, [Inc 3 1], Tgoto 8, []),
  (68, [Ild 1], Tret 84, [])]
theorem okK_bestWire : chkM mK_bestWire cfK_bestWire = true := by decide +kernel
def cfK_bestKind : List BK := [(0, [Ald 0, GfR 19 2 0, Cst 0 0, Ild 1, CallV 55 3 mC_trait, Ist 2, Cst 21 2147483647, Ist 3, Cst 21 2147483647, Ist 4, Ald 0, GfR 23 2 1, Ald 0, GfR 19 2 0, GfI 39 0 4, CallV 58 2 mW_explore, Cst 0 0, Ist 5], Tfall 34, []),
  (34, [Ild 5, Cst 1 7], Tif 81 90 41, []),
  (41, [Ald 0, GfR 19 2 0, Cst 0 0, Ild 1, Ild 5, CallV 62 4 mC_putTrait, Pop, Ald 0, GfR 23 2 1, Ald 0, GfR 19 2 0, GfI 39 0 4, Cst 0 0, CallV 66 3 mW_settle, Ist 6, Ild 6, Ild 4], Tif 81 84 77, []),
  (77, [Ild 6, Ist 4, Ild 5, Ist 3], Tfall 84, []),
  (84, [Inc 5 1], Tgoto 34, []),
  (90, [Ald 0, GfR 19 2 0, Cst 0 0, Ild 1, Ild 2, CallV 62 4 mC_putTrait, Pop, Ild 3], Tret 84, [])]
theorem okK_bestKind : chkM mK_bestKind cfK_bestKind = true := by decide +kernel
def cfK_bestSpared : List BK := [(0, [Ald 0, GfR 19 2 0, CallV 69 1 mC_goal, Ist 1, Cst 21 2147483647, Ist 2, Cst 21 2147483647, Ist 3, Ald 0, GfR 23 2 1, Ald 0, GfR 19 2 0, GfI 39 0 4, CallV 58 2 mW_explore, Cst 0 0, Ist 4], Tfall 31, []),
  (31, [Ild 4, Ald 0, GfR 19 2 0, GfI 46 0 3], Tif 81 104 43, []),
  (43, [Ild 1, Ild 4, Ishr, Cst 0 1, Iand], Tif 72 98 52, []),
  (52, [Ald 0, GfR 19 2 0, Cst 0 2, Ild 1, Cst 0 1, Ild 4, Ishl, Cst 0 (-1), Ixor, Iand, CallV 29 3 mC_putRule, Pop, Ald 0, GfR 23 2 1, Ald 0, GfR 19 2 0, GfI 39 0 4, Cst 0 0, CallV 66 3 mW_settle, Ist 5, Ild 5, Ild 3], Tif 81 98 92, []),
  (92, [Ild 5, Ist 3, Ild 4, Ist 2], Tfall 98, []),
  (98, [Inc 4 1], Tgoto 31, []),
  (104, [Ald 0, GfR 19 2 0, Cst 0 2, Ild 1, CallV 29 3 mC_putRule, Pop, Ild 2], Tret 84, [])]
theorem okK_bestSpared : chkM mK_bestSpared cfK_bestSpared = true := by decide +kernel
def cfK_findLink : List BK := [(0, [Ald 0, Cst 21 2147483647, PfI 10 2 2, Ald 0, Cst 21 2147483647, PfI 16 2 3, Ald 0, GfR 23 2 1, Ald 0, GfR 19 2 0, GfI 39 0 4, Cst 0 0, CallV 52 3 mW_leastFrom, Pop, Cst 0 0, Ist 1], Tfall 30, []),
  (30, [Ild 1, Ald 0, GfR 19 2 0, GfI 46 0 3], Tif 81 94 41, []),
  (41, [Cst 0 0, Ist 2], Tfall 43, []),
  (43, [Ild 2, Ald 0, GfR 19 2 0, GfI 46 0 3], Tif 81 88 54, []),
  (54, [Ild 1, Ild 2], Tif 78 82 59, []),
  (59, [Ald 0, GfR 19 2 0, Cst 1 8, Ild 1, CallV 55 3 mC_trait, Ild 2, Ishr, Cst 0 1, Iand], Tif 73 82 76, []),
  (76, [Ald 0, Ild 1, Ild 2, CallV 73 3 mK_tryLink], Tfall 82, []),
  (82, [Inc 2 1], Tgoto 43, []),
  (88, [Inc 1 1], Tgoto 30, []),
  (94, [], Tret 87, [])]
theorem okK_findLink : chkM mK_findLink cfK_findLink = true := by decide +kernel
def cfK_tryLink : List BK := [(0, [Ald 0, GfR 23 2 1, Ald 0, GfR 19 2 0, GfI 39 0 4, Ild 1, Ild 2, CallV 77 4 mW_settleLinked, Ist 3, Ild 3, Cst 21 2147483647], Tif 78 55 23, []),
  (23, [Ald 0, GfI 16 2 3, Cst 21 2147483647], Tif 78 40 32, []),
  (32, [Ild 3, Ald 0, GfI 16 2 3], Tif 83 55 40, []),
  (40, [Ald 0, Ild 3, PfI 16 2 3, Ald 0, Cst 1 10, Ild 1, Imul, Ild 2, Iadd, PfI 10 2 2], Tfall 55, []),
  (55, [], Tret 87, [])]
theorem okK_tryLink : chkM mK_tryLink cfK_tryLink = true := by decide +kernel
def cfK_linkPair : List BK := [(0, [Ald 0, GfI 10 2 2], Tret 84, [])]
theorem okK_linkPair : chkM mK_linkPair cfK_linkPair = true := by decide +kernel
def cfK_linkTime : List BK := [(0, [Ald 0, GfI 16 2 3], Tret 84, [])]
theorem okK_linkTime : chkM mK_linkTime cfK_linkTime = true := by decide +kernel
def cfT_size : List BK := [(0, [Ald 0, GfI 13 3 1], Tret 84, [])]
theorem okT_size : chkM mT_size cfT_size = true := by decide +kernel
def cfT_put : List BK := [(0, [Ild 2, Cst 0 1, Isub, Ist 3], Tfall 4, []),
  (4, [Ild 3], Tif 74 52 8, []),
  (8, [Ald 0, GfI 13 3 1, Cst 1 120], Tif 81 52 17, []),
  (17, [Ald 0, GfR 9 3 0, Ald 0, GfI 13 3 1, Ild 1, Cst 1 8, Ild 3, Imul, Ishr, Cst 2 255, Iand, Iast, Ald 0, Dup, GfI 13 3 1, Cst 0 1, Iadd, PfI 13 3 1, Inc 3 (-1)], Tgoto 4, []),
  (52, [Ald 0, GfI 13 3 1], Tret 84, [])]
theorem okT_put : chkM mT_put cfT_put = true := by decide +kernel
def cfT_clear : List BK := [(0, [Ald 0, GfI 13 3 1, Ist 1, Ald 0, Cst 0 0, PfI 13 3 1, Ild 1], Tret 84, [])]
theorem okT_clear : chkM mT_clear cfT_clear = true := by decide +kernel
def cfT_read : List BK := [(0, [Ald 0, Cst 0 0, PfI 20 3 3, Ald 0, CallV 29 1 mT_nextToken, Cst 0 1, Ist 2], Tfall 11, []),
  (11, [Ild 2, Cst 1 120], Tif 82 66 17, []),
  (17, [Ald 0, Ald 1, CallV 32 2 mT_readItem], Tif 73 32 25, []),
  (25, [Cst 0 (-1), Ald 0, GfI 17 3 2, Isub], Tret 84, []),
  (32, [Ald 0, GfI 23 3 4], Tif 73 41 39, []),
  (39, [Ild 2], Tret 84, []),
  (41, [Ald 0, GfI 23 3 4, Cst 0 3], Tif 78 56 49, []),
  (49, [Cst 0 (-1), Ald 0, GfI 17 3 2, Isub], Tret 84, []),
  (56, [Ald 0, CallV 29 1 mT_nextToken, Inc 2 1], Tgoto 11, []),
  (66, [Cst 0 (-1), Ald 0, GfI 17 3 2, Isub], Tret 84, [])]
theorem okT_read : chkM mT_read cfT_read = true := by decide +kernel
def cfT_readItem : List BK := [(0, [Cst 0 0, Ist 2], Tfall 2, []),
  (2, [Ild 2, Cst 1 7], Tif 81 32 8, []),
  (8, [Ald 0, Ild 2, CallS 38 1 mT_kindWord, CallV 42 2 mT_isWord], Tif 72 26 19, []),
  (19, [Ald 0, Ald 1, Ild 2, CallV 46 3 mT_readLock], Tret 85, []),
  (26, [Inc 2 1], Tgoto 2, []),
  (32, [Cst 0 0, Ist 2], Tfall 34, []),
  (34, [Ild 2, Cst 0 2], Tif 82 63 39, []),
  (39, [Ald 0, Ild 2, CallS 50 1 mT_ruleWord, CallV 42 2 mT_isWord], Tif 72 57 50, []),
  (50, [Ald 0, Ald 1, Ild 2, CallV 53 3 mT_readRule], Tret 85, []),
  (57, [Inc 2 1], Tgoto 34, []),
  (63, [Cst 0 0], Tret 85, [])]
theorem okT_readItem : chkM mT_readItem cfT_readItem = true := by decide +kernel
def cfT_readLock : List BK := [(0, [Ald 1, GfI 56 0 3, Cst 1 10], Tif 80 11 9, []),
  (9, [Cst 0 0], Tret 85, []),
  (11, [Ald 1, CallV 59 1 mC_allLocks, Ist 3, Ald 1, Ild 2, CallV 63 2 mC_add, Ist 4, Ald 0, CallV 29 1 mT_nextToken, Cst 0 0, Ist 5], Tfall 30, []),
  (30, [Ild 5, Cst 1 6], Tif 81 133 37, []),
  (37, [Ald 0, Ild 5, CallS 67 1 mT_optionWord, CallV 42 2 mT_isWord], Tif 72 127 49, []),
  (49, [Ild 5, CallS 70 1 mT_optionTrait, Ist 6, Ald 0, CallV 29 1 mT_nextToken, Ild 6, Cst 1 8], Tif 79 83 67, []),
  (67, [Ald 0, GfI 26 3 5, Ild 3], Tif 82 79 75, []),
  (75, [Cst 0 1], Tgoto 93, []),
  (79, [Cst 0 0], Tgoto 93, []),
  (83, [Ald 1, Ild 6, Ald 0, GfI 26 3 5, CallV 73 3 mC_allows], Tfall 93, []),
  (93, [Ist 7, Ald 0, GfI 23 3 4, Cst 0 2], Tif 79 108 103, []),
  (103, [Ild 7], Tif 73 110 108, []),
  (108, [Cst 0 0], Tret 85, []),
  (110, [Ald 1, Ild 6, Ild 4, Ald 0, GfI 26 3 5, CallV 77 4 mC_putTrait, Pop, Ald 0, CallV 29 1 mT_nextToken], Tfall 127, []),
  (127, [Inc 5 1], Tgoto 30, []),
  (133, [Cst 0 1], Tret 85, [])]
theorem okT_readLock : chkM mT_readLock cfT_readLock = true := by decide +kernel
def cfT_readRule : List BK := [(0, [Ald 0, CallV 29 1 mT_nextToken, Ald 0, GfI 23 3 4, Cst 0 2], Tif 79 24 12, []),
  (12, [Ald 1, Ild 2, Ald 0, GfI 26 3 5, CallV 81 3 mC_allowsRule], Tif 73 26 24, []),
  (24, [Cst 0 0], Tret 85, []),
  (26, [Ald 1, Ild 2, Ald 0, GfI 26 3 5, CallV 84 3 mC_putRule, Pop, Ald 0, CallV 29 1 mT_nextToken, Cst 0 1], Tret 85, [])]
theorem okT_readRule : chkM mT_readRule cfT_readRule = true := by decide +kernel
def cfT_kindWord : List BK := [(0, [Ild 0], Tsw 90 58 40, [(1, 40), (2, 43), (3, 46), (4, 49), (5, 52), (6, 55)]),
  (40, [LdS 88 300], Tret 88, []),
  (43, [LdS 90 301], Tret 88, []),
  (46, [LdS 92 302], Tret 88, []),
  (49, [LdS 94 303], Tret 88, []),
  (52, [LdS 96 304], Tret 88, []),
  (55, [LdS 98 305], Tret 88, []),
  (58, [LdS 100 306], Tret 88, [])]
theorem okT_kindWord : chkM mT_kindWord cfT_kindWord = true := by decide +kernel
def cfT_ruleWord : List BK := [(0, [Ild 0], Tsw 91 34 28, [(0, 28), (1, 31)]),
  (28, [LdS 102 307], Tret 88, []),
  (31, [LdS 104 308], Tret 88, []),
  (34, [LdS 106 309], Tret 88, [])]
theorem okT_ruleWord : chkM mT_ruleWord cfT_ruleWord = true := by decide +kernel
def cfT_optionWord : List BK := [(0, [Ild 0], Tsw 90 51 36, [(0, 36), (1, 39), (2, 42), (3, 45), (4, 48)]),
  (36, [LdS 108 310], Tret 88, []),
  (39, [LdS 110 311], Tret 88, []),
  (42, [LdS 112 312], Tret 88, []),
  (45, [LdS 114 313], Tret 88, []),
  (48, [LdS 116 314], Tret 88, []),
  (51, [LdS 118 315], Tret 88, [])]
theorem okT_optionWord : chkM mT_optionWord cfT_optionWord = true := by decide +kernel
def cfT_optionTrait : List BK := [(0, [Ild 0], Tsw 90 46 36, [(0, 36), (1, 38), (2, 40), (3, 42), (4, 44)]),
  (36, [Cst 0 1], Tret 84, []),
  (38, [Cst 0 2], Tret 84, []),
  (40, [Cst 0 3], Tret 84, []),
  (42, [Cst 0 4], Tret 84, []),
  (44, [Cst 0 5], Tret 84, []),
  (46, [Cst 1 8], Tret 84, [])]
theorem okT_optionTrait : chkM mT_optionTrait cfT_optionTrait = true := by decide +kernel
def cfT_byteAt : List BK := [(0, [Ild 1], Tif 74 27 4, []),
  (4, [Ild 1, Ald 0, GfI 13 3 1], Tif 81 27 12, []),
  (12, [Ild 1, Cst 1 120], Tif 81 27 18, []),
  (18, [Ald 0, GfR 9 3 0, Ild 1, Iald], Tgoto 28, []),
  (27, [Cst 0 (-1)], Tfall 28, []),
  (28, [], Tret 84, [])]
theorem okT_byteAt : chkM mT_byteAt cfT_byteAt = true := by decide +kernel
def cfT_isLetter : List BK := [(0, [Ild 0, Cst 1 97], Tif 80 16 6, []),
  (6, [Ild 0, Cst 1 122], Tif 82 16 12, []),
  (12, [Cst 0 1], Tgoto 17, []),
  (16, [Cst 0 0], Tfall 17, []),
  (17, [], Tret 85, [])]
theorem okT_isLetter : chkM mT_isLetter cfT_isLetter = true := by decide +kernel
def cfT_isDigit : List BK := [(0, [Ild 0, Cst 1 48], Tif 80 16 6, []),
  (6, [Ild 0, Cst 1 57], Tif 82 16 12, []),
  (12, [Cst 0 1], Tgoto 17, []),
  (16, [Cst 0 0], Tfall 17, []),
  (17, [], Tret 85, [])]
theorem okT_isDigit : chkM mT_isDigit cfT_isDigit = true := by decide +kernel
def cfT_nextToken : List BK := [(0, [Ald 0, Ald 0, GfI 20 3 3, PfI 17 3 2], Tfall 8, []),
  (8, [Ald 0, GfI 17 3 2, Ald 0, GfI 13 3 1], Tif 81 45 19, []),
  (19, [Ald 0, Ald 0, GfI 17 3 2, CallV 120 2 mT_byteAt, Cst 1 32], Tif 79 45 32, []),
  (32, [Ald 0, Dup, GfI 17 3 2, Cst 0 1, Iadd, PfI 17 3 2], Tgoto 8, []),
  (45, [Ald 0, Ald 0, GfI 17 3 2, PfI 20 3 3, Ald 0, GfI 17 3 2, Ald 0, GfI 13 3 1], Tif 80 72 64, []),
  (64, [Ald 0, Cst 0 0, PfI 23 3 4], Tgoto 146, []),
  (72, [Ald 0, Ald 0, GfI 17 3 2, CallV 120 2 mT_byteAt, CallS 123 1 mT_isLetter], Tif 72 93 86, []),
  (86, [Ald 0, CallV 127 1 mT_readWord], Tgoto 146, []),
  (93, [Ald 0, Ald 0, GfI 17 3 2, CallV 120 2 mT_byteAt, CallS 130 1 mT_isDigit], Tif 72 114 107, []),
  (107, [Ald 0, CallV 133 1 mT_readNumber], Tgoto 146, []),
  (114, [Ald 0, Ald 0, Ald 0, GfI 17 3 2, CallV 120 2 mT_byteAt, Cst 1 59], Tif 79 132 128, []),
  (128, [Cst 0 3], Tgoto 133, []),
  (132, [Cst 0 4], Tfall 133, []),
  (133, [PfI 23 3 4, Ald 0, Ald 0, GfI 17 3 2, Cst 0 1, Iadd, PfI 20 3 3], Tfall 146, []),
  (146, [], Tret 87, [])]
theorem okT_nextToken : chkM mT_nextToken cfT_nextToken = true := by decide +kernel
def cfT_readWord : List BK := [(0, [Ald 0, Cst 0 1, PfI 23 3 4], Tfall 5, []),
  (5, [Ald 0, GfI 20 3 3, Ald 0, GfI 13 3 1], Tif 81 43 16, []),
  (16, [Ald 0, Ald 0, GfI 20 3 3, CallV 120 2 mT_byteAt, CallS 123 1 mT_isLetter], Tif 72 43 30, []),
  (30, [Ald 0, Dup, GfI 20 3 3, Cst 0 1, Iadd, PfI 20 3 3], Tgoto 5, []),
  (43, [], Tret 87, [])]
theorem okT_readWord : chkM mT_readWord cfT_readWord = true := by decide +kernel
def cfT_readNumber : List BK := [(0, [Ald 0, Cst 0 2, PfI 23 3 4, Ald 0, Cst 0 0, PfI 26 3 5], Tfall 10, []),
  (10, [Ald 0, GfI 20 3 3, Ald 0, GfI 13 3 1], Tif 81 77 21, []),
  (21, [Ald 0, Ald 0, GfI 20 3 3, CallV 120 2 mT_byteAt, CallS 130 1 mT_isDigit], Tif 72 77 35, []),
  (35, [Ald 0, Cst 1 10, Ald 0, GfI 26 3 5, Imul, Ald 0, Ald 0, GfI 20 3 3, CallV 120 2 mT_byteAt, Iadd, Cst 1 48, Isub, Cst 2 1024, Mmin 136, PfI 26 3 5, Ald 0, Dup, GfI 20 3 3, Cst 0 1, Iadd, PfI 20 3 3], Tgoto 10, []),
  (77, [], Tret 87, [])]
theorem okT_readNumber : chkM mT_readNumber cfT_readNumber = true := by decide +kernel
def cfT_isWord : List BK := [(0, [Ald 0, GfI 23 3 4, Cst 0 1], Tif 79 24 8, []),
  (8, [Ald 0, GfI 20 3 3, Ald 0, GfI 17 3 2, Isub, Ald 1, CallV 141 1 mJS_length], Tif 78 26 24, []),
  (24, [Cst 0 0], Tret 85, []),
  (26, [Cst 0 0, Ist 2], Tfall 28, []),
  (28, [Ild 2, Ald 1, CallV 141 1 mJS_length], Tif 81 62 36, []),
  (36, [Ald 0, Ald 0, GfI 17 3 2, Ild 2, Iadd, CallV 120 2 mT_byteAt, Ald 1, Ild 2, CallV 146 2 mJS_charAt], Tif 78 56 54, []),
  (54, [Cst 0 0], Tret 85, []),
  (56, [Inc 2 1], Tgoto 28, []),
  (62, [Cst 0 1], Tret 85, [])]
theorem okT_isWord : chkM mT_isWord cfT_isWord = true := by decide +kernel
def cfW_explore : List BK := [(0, [Ald 0, GfR 46 4 0, CallV 50 1 mC_allLocks, Ist 2, Ald 0, GfR 11 4 1, Cst 0 (-1), CallS 54 2 mJA_fill, Ild 1, CallS 60 1 mW_isState], Tif 73 24 23, []),
  (23, [], Tret 87, []),
  (24, [Ald 0, GfR 11 4 1, Ild 1, Cst 0 0, Iast, Ild 1, Ist 3], Tfall 33, []),
  (33, [Ild 3, Ild 2], Tif 82 129 38, []),
  (38, [Ild 3, Cst 2 1024], Tif 81 129 45, []),
  (45, [Ald 0, GfR 11 4 1, Ild 3, Iald, Cst 0 (-1)], Tif 78 123 55, []),
  (55, [Ald 0, GfR 15 4 2, Ild 3, Ald 0, GfR 46 4 0, Ild 3, CallV 64 2 mC_slackAt, Iast, Ald 0, GfR 18 4 3, Ild 3, Ald 0, GfR 46 4 0, Ild 3, CallV 68 2 mC_freeAt, CallS 71 1 mJI_bitCount, Iast, Ald 0, GfR 11 4 1, Ild 3, Ald 0, GfR 46 4 0, Ild 3, Ald 0, GfR 15 4 2, Ild 3, Iald, Ald 0, GfR 18 4 3, Ild 3, Iald, CallV 76 4 mC_mayWith, Iast, Ald 0, Ild 3, Ald 0, GfR 11 4 1, Ild 3, Iald, CallV 80 3 mW_markFollowers], Tfall 123, []),
  (123, [Inc 3 1], Tgoto 33, []),
  (129, [], Tret 87, [])]
theorem okW_explore : chkM mW_explore cfW_explore = true := by decide +kernel
def cfW_markFollowers : List BK := [(0, [Cst 0 0, Ist 3], Tfall 2, []),
  (2, [Ild 3, Cst 1 10], Tif 81 45 8, []),
  (8, [Ild 1, Cst 0 1, Ild 3, Ishl, Ior, Ist 4, Ild 2, Ild 3, Ishr, Cst 0 1, Iand], Tif 72 39 23, []),
  (23, [Ild 4, CallS 60 1 mW_isState], Tif 72 39 31, []),
  (31, [Ald 0, GfR 11 4 1, Ild 4, Cst 0 0, Iast], Tfall 39, []),
  (39, [Inc 3 1], Tgoto 2, []),
  (45, [], Tret 87, [])]
theorem okW_markFollowers : chkM mW_markFollowers cfW_markFollowers = true := by decide +kernel
def cfW_isState : List BK := [(0, [Ild 0], Tif 74 15 4, []),
  (4, [Ild 0, Cst 2 1024], Tif 81 15 11, []),
  (11, [Cst 0 1], Tgoto 16, []),
  (15, [Cst 0 0], Tfall 16, []),
  (16, [], Tret 85, [])]
theorem okW_isState : chkM mW_isState cfW_isState = true := by decide +kernel
def cfW_leastFrom : List BK := [(0, [Ald 0, Ild 1, CallV 84 2 mW_explore, Ald 0, Ild 1, Ild 2, CallV 88 3 mW_settle], Tret 84, [])]
theorem okW_leastFrom : chkM mW_leastFrom cfW_leastFrom = true := by decide +kernel
def cfW_settle : List BK := [(0, [Ild 1, CallS 60 1 mW_isState], Tif 73 10 7, []),
  (7, [Cst 187 2147483647], Tret 84, []),
  (10, [Cst 2 1023, Ist 3], Tfall 14, []),
  (14, [Ild 3, Ild 1], Tif 80 72 19, []),
  (19, [Ald 0, GfR 11 4 1, Ild 3, Iald, Cst 0 (-1)], Tif 78 66 29, []),
  (29, [Ald 0, GfR 21 4 4, Ild 3, Ald 0, GfR 46 4 0, Ild 3, CallV 93 2 mC_isOutAt], Tif 72 49 45, []),
  (45, [Cst 0 0], Tgoto 65, []),
  (49, [Ald 0, Ild 3, Ald 0, GfR 11 4 1, Ild 3, Iald, Ild 2, Ald 0, GfR 21 4 4, CallV 96 5 mW_leastOn], Tfall 65, []),
  (65, [Iast], Tfall 66, []),
  (66, [Inc 3 (-1)], Tgoto 14, []),
  (72, [Ald 0, GfR 21 4 4, Ild 1, Iald], Tret 84, [])]
theorem okW_settle : chkM mW_settle cfW_settle = true := by decide +kernel
def cfW_settleLinked : List BK := [(0, [Ild 1, CallS 60 1 mW_isState], Tif 73 10 7, []),
  (7, [Cst 187 2147483647], Tret 84, []),
  (10, [Cst 0 1, Ild 2, Ishl, Cst 0 1, Ild 3, Ishl, Ior, Ist 4, Cst 2 1023, Ist 5], Tfall 24, []),
  (24, [Ild 5, Ild 1], Tif 80 120 30, []),
  (30, [Ald 0, GfR 11 4 1, Ild 5, Iald, Cst 0 (-1)], Tif 78 114 41, []),
  (41, [Ild 5, Ild 4, Iand], Tif 73 65 49, []),
  (49, [Ald 0, GfR 46 4 0, Ild 5, CallV 93 2 mC_isOutAt], Tif 73 65 61, []),
  (61, [Cst 0 1], Tgoto 66, []),
  (65, [Cst 0 0], Tfall 66, []),
  (66, [Ist 6, Ald 0, GfR 24 4 5, Ild 5, Ild 6], Tif 72 106 79, []),
  (79, [Ald 0, Ild 5, Ald 0, GfR 11 4 1, Ild 5, Iald, Cst 0 1, Ild 2, Ishl, Cst 0 (-1), Ixor, Iand, Cst 0 0, Ald 0, GfR 24 4 5, CallV 96 5 mW_leastOn], Tgoto 113, []),
  (106, [Ald 0, GfR 21 4 4, Ild 5, Iald], Tfall 113, []),
  (113, [Iast], Tfall 114, []),
  (114, [Inc 5 (-1)], Tgoto 24, []),
  (120, [Ald 0, GfR 24 4 5, Ild 1, Iald], Tret 84, [])]
theorem okW_settleLinked : chkM mW_settleLinked cfW_settleLinked = true := by decide +kernel
def cfW_leastOn : List BK := [(0, [Cst 187 2147483647, Ist 5, Ild 1, CallS 71 1 mJI_bitCount, Ist 6, Cst 0 0, Ist 7], Tfall 13, []),
  (13, [Ild 7, Cst 1 10], Tif 81 100 20, []),
  (20, [Ild 1, Cst 0 1, Ild 7, Ishl, Ior, Ist 8, Ild 2, Ild 7, Ishr, Cst 0 1, Iand], Tif 72 94 37, []),
  (37, [Ild 8], Tif 74 94 42, []),
  (42, [Ild 8, Ald 4, Alen], Tif 81 94 50, []),
  (50, [Ald 4, Ild 8, Iald, Cst 187 2147483647], Tif 78 94 60, []),
  (60, [Ald 4, Ild 8, Iald, Ald 0, Ild 7, Ild 1, Ild 6, Ild 3, CallV 100 5 mW_cost, Iadd, Ist 9, Ild 9, Ild 5], Tif 81 90 85, []),
  (85, [Ild 9], Tgoto 92, []),
  (90, [Ild 5], Tfall 92, []),
  (92, [Ist 5], Tfall 94, []),
  (94, [Inc 7 1], Tgoto 13, []),
  (100, [Ild 5], Tret 84, [])]
theorem okW_leastOn : chkM mW_leastOn cfW_leastOn = true := by decide +kernel
def cfW_cost : List BK := [(0, [Ild 2, CallS 60 1 mW_isState], Tif 73 9 7, []),
  (7, [Cst 0 0], Tret 84, []),
  (9, [Ild 4], Tsw 91 67 36, [(0, 36), (1, 58)]),
  (36, [Ald 0, GfR 46 4 0, Ild 1, Ald 0, GfR 15 4 2, Ild 2, Iald, Ald 0, GfR 18 4 3, Ild 2, Iald, Ild 3, CallV 104 5 mC_takes], Tret 84, []),
  (58, [Ald 0, GfR 46 4 0, Ild 1, CallV 107 2 mC_sounds], Tret 84, []),
  (67, [Cst 0 1], Tret 84, [])]
theorem okW_cost : chkM mW_cost cfW_cost = true := by decide +kernel
def cfW_findRow : List BK := [(0, [Ald 0, Cst 0 0, PfI 30 4 7, Ald 0, Ald 0, Ild 1, Cst 0 0, CallV 110 3 mW_leastFrom, PfI 34 4 8, Ald 0, GfI 34 4 8, Cst 187 2147483647], Tif 79 26 24, []),
  (24, [Cst 0 0], Tret 85, []),
  (26, [Ild 1, Ist 2, Cst 0 0, Ist 3], Tfall 30, []),
  (30, [Ild 3, Cst 1 10], Tif 81 89 36, []),
  (36, [Ald 0, GfR 46 4 0, Ild 2, CallV 93 2 mC_isOutAt], Tif 73 89 47, []),
  (47, [Ald 0, Ild 2, CallV 113 2 mW_firstBest, Ist 4, Ild 4], Tif 75 61 59, []),
  (59, [Cst 0 0], Tret 85, []),
  (61, [Ald 0, GfR 27 4 6, Ild 3, Ild 4, Iast, Ald 0, Ild 3, Cst 0 1, Iadd, PfI 30 4 7, Ild 2, Cst 0 1, Ild 4, Ishl, Ior, Ist 2, Inc 3 1], Tgoto 30, []),
  (89, [Cst 0 1], Tret 85, [])]
theorem okW_findRow : chkM mW_findRow cfW_findRow = true := by decide +kernel
def cfW_firstBest : List BK := [(0, [Ild 1, CallS 71 1 mJI_bitCount, Ist 2, Cst 0 0, Ist 3], Tfall 7, []),
  (7, [Ild 3, Cst 1 10], Tif 81 105 13, []),
  (13, [Ild 1, CallS 60 1 mW_isState], Tif 72 105 20, []),
  (20, [Ild 1, Cst 0 1, Ild 3, Ishl, Ior, Ist 4, Ald 0, GfR 11 4 1, Ild 1, Iald, Ild 3, Ishr, Cst 0 1, Iand], Tif 72 64 40, []),
  (40, [Ild 4, CallS 60 1 mW_isState], Tif 72 64 48, []),
  (48, [Ald 0, GfR 21 4 4, Ild 4, Iald, Cst 187 2147483647], Tif 78 64 60, []),
  (60, [Cst 0 1], Tgoto 65, []),
  (64, [Cst 0 0], Tfall 65, []),
  (65, [Ist 5, Ild 5], Tif 72 99 72, []),
  (72, [Ald 0, GfR 21 4 4, Ild 4, Iald, Ald 0, Ild 3, Ild 1, Ild 2, Cst 0 0, CallV 100 5 mW_cost, Iadd, Ald 0, GfR 21 4 4, Ild 1, Iald], Tif 79 99 97, []),
  (97, [Ild 3], Tret 84, []),
  (99, [Inc 3 1], Tgoto 7, []),
  (105, [Cst 0 (-1)], Tret 84, [])]
theorem okW_firstBest : chkM mW_firstBest cfW_firstBest = true := by decide +kernel
def cfW_rowLength : List BK := [(0, [Ald 0, GfI 30 4 7], Tret 84, [])]
theorem okW_rowLength : chkM mW_rowLength cfW_rowLength = true := by decide +kernel
def cfW_rowLock : List BK := [(0, [Ild 1], Tif 74 27 4, []),
  (4, [Ild 1, Ald 0, GfI 30 4 7], Tif 81 27 12, []),
  (12, [Ild 1, Cst 1 10], Tif 81 27 18, []),
  (18, [Ald 0, GfR 27 4 6, Ild 1, Iald], Tgoto 28, []),
  (27, [Cst 0 0], Tfall 28, []),
  (28, [], Tret 84, [])]
theorem okW_rowLock : chkM mW_rowLock cfW_rowLock = true := by decide +kernel
def cfW_rowEnd : List BK := [(0, [Ald 0, GfR 46 4 0, GfI 116 0 5, Ald 0, GfI 34 4 8, Iadd], Tret 84, [])]
theorem okW_rowEnd : chkM mW_rowEnd cfW_rowEnd = true := by decide +kernel
def cfW_rowHeard : List BK := [(0, [Ald 0, GfR 46 4 0, GfI 119 0 4, Ist 1, Ald 0, GfR 46 4 0, GfI 116 0 5, Ist 2, Cst 0 0, Ist 3, Cst 0 0, Ist 4], Tfall 21, []),
  (21, [Ild 4, Ald 0, GfI 30 4 7], Tif 81 103 30, []),
  (30, [Ild 4, Cst 1 10], Tif 81 103 37, []),
  (37, [Ald 0, GfR 46 4 0, Ild 2, CallV 122 2 mC_playsAt], Tif 73 65 48, []),
  (48, [Ild 3, Ald 0, GfR 46 4 0, Ald 0, GfR 27 4 6, Ild 4, Iald, CallV 107 2 mC_sounds, Iadd, Ist 3], Tfall 65, []),
  (65, [Ild 2, Ald 0, Ald 0, GfR 27 4 6, Ild 4, Iald, Ild 1, Ild 1, CallS 71 1 mJI_bitCount, Cst 0 0, CallV 100 5 mW_cost, Iadd, Ist 2, Ild 1, Cst 0 1, Ald 0, GfR 27 4 6, Ild 4, Iald, Ishl, Ior, Ist 1, Inc 4 1], Tgoto 21, []),
  (103, [Ild 3], Tret 84, [])]
theorem okW_rowHeard : chkM mW_rowHeard cfW_rowHeard = true := by decide +kernel
def cfW_everOff : List BK := [(0, [Ald 0, Ald 0, GfR 46 4 0, GfI 119 0 4, CallV 84 2 mW_explore, Cst 0 0, Ist 1, Cst 0 0, Ist 2], Tfall 15, []),
  (15, [Ild 2, Cst 2 1024], Tif 81 47 22, []),
  (22, [Ald 0, GfR 11 4 1, Ild 2, Iald, Cst 0 (-1)], Tif 78 41 32, []),
  (32, [Ild 1, Ald 0, GfR 11 4 1, Ild 2, Iald, Ior, Ist 1], Tfall 41, []),
  (41, [Inc 2 1], Tgoto 15, []),
  (47, [Ild 1], Tret 84, [])]
theorem okW_everOff : chkM mW_everOff cfW_everOff = true := by decide +kernel
def cfW_reachedStates : List BK := [(0, [Ald 0, Ald 0, GfR 46 4 0, GfI 119 0 4, CallV 84 2 mW_explore, Cst 0 0, Ist 1, Cst 0 0, Ist 2], Tfall 15, []),
  (15, [Ild 2, Cst 2 1024], Tif 81 41 22, []),
  (22, [Ald 0, GfR 11 4 1, Ild 2, Iald, Cst 0 (-1)], Tif 78 35 32, []),
  (32, [Inc 1 1], Tfall 35, []),
  (35, [Inc 2 1], Tgoto 15, []),
  (41, [Ild 1], Tret 84, [])]
theorem okW_reachedStates : chkM mW_reachedStates cfW_reachedStates = true := by decide +kernel
def cfW_hasWayOut : List BK := [(0, [Ald 0, Ild 1, CallV 84 2 mW_explore, Cst 0 0, Ist 2], Tfall 7, []),
  (7, [Ild 2, Cst 2 1024], Tif 81 43 14, []),
  (14, [Ald 0, GfR 11 4 1, Ild 2, Iald, Cst 0 (-1)], Tif 78 37 24, []),
  (24, [Ald 0, GfR 46 4 0, Ild 2, CallV 93 2 mC_isOutAt], Tif 72 37 35, []),
  (35, [Cst 0 1], Tret 85, []),
  (37, [Inc 2 1], Tgoto 7, []),
  (43, [Cst 0 0], Tret 85, [])]
theorem okW_hasWayOut : chkM mW_hasWayOut cfW_hasWayOut = true := by decide +kernel
def cfW_waysOut : List BK := [(0, [Ald 0, CallV 125 1 mW_exploreRows, Cst 0 0, Ist 1, Cst 0 0, Ist 2], Tfall 8, []),
  (8, [Ild 2, Cst 2 1024], Tif 81 73 15, []),
  (15, [Ald 0, GfR 21 4 4, Ild 2, Iald], Tif 72 47 24, []),
  (24, [Ald 0, GfR 46 4 0, Ild 2, CallV 93 2 mC_isOutAt], Tif 72 47 35, []),
  (35, [Ild 1, Ald 0, GfR 21 4 4, Ild 2, Iald, Iadd, Ist 1], Tgoto 67, []),
  (47, [Ald 0, GfR 21 4 4, Ild 2, Iald], Tif 72 67 56, []),
  (56, [Ald 0, Ild 2, Ald 0, GfR 11 4 1, Ild 2, Iald, CallV 128 3 mW_handOn], Tfall 67, []),
  (67, [Inc 2 1], Tgoto 8, []),
  (73, [Ild 1], Tret 84, [])]
theorem okW_waysOut : chkM mW_waysOut cfW_waysOut = true := by decide +kernel
def cfW_exploreRows : List BK := [(0, [Ald 0, Ald 0, GfR 46 4 0, GfI 119 0 4, CallV 84 2 mW_explore, Ald 0, GfR 21 4 4, Cst 0 0, CallS 54 2 mJA_fill, Ald 0, GfR 46 4 0, GfI 119 0 4, CallS 60 1 mW_isState], Tif 72 45 32, []),
  (32, [Ald 0, GfR 21 4 4, Ald 0, GfR 46 4 0, GfI 119 0 4, Cst 0 1, Iast], Tfall 45, []),
  (45, [], Tret 87, [])]
theorem okW_exploreRows : chkM mW_exploreRows cfW_exploreRows = true := by decide +kernel
def cfW_handOn : List BK := [(0, [Cst 0 0, Ist 3], Tfall 2, []),
  (2, [Ild 3, Cst 1 10], Tif 81 60 8, []),
  (8, [Ild 1, CallS 60 1 mW_isState], Tif 72 60 15, []),
  (15, [Ild 1, Cst 0 1, Ild 3, Ishl, Ior, Ist 4, Ild 2, Ild 3, Ishr, Cst 0 1, Iand], Tif 72 54 30, []),
  (30, [Ild 4, CallS 60 1 mW_isState], Tif 72 54 38, []),
  (38, [Ald 0, GfR 21 4 4, Ild 4, Dup2, Iald, Ald 0, GfR 21 4 4, Ild 1, Iald, Iadd, Iast], Tfall 54, []),
  (54, [Inc 3 1], Tgoto 2, []),
  (60, [], Tret 87, [])]
theorem okW_handOn : chkM mW_handOn cfW_handOn = true := by decide +kernel
def cfW_surestTenths : List BK := [(0, [Ald 0, Ald 0, GfR 46 4 0, GfI 119 0 4, CallV 84 2 mW_explore, LC 0 0, Lst 1, Cst 0 0, Ist 3], Tfall 15, []),
  (15, [Ild 3, Cst 2 1024], Tif 81 69 22, []),
  (22, [Ald 0, GfR 11 4 1, Ild 3, Iald, Cst 0 (-1)], Tif 78 63 32, []),
  (32, [Ald 0, GfR 46 4 0, Ild 3, CallV 93 2 mC_isOutAt], Tif 72 63 43, []),
  (43, [Lld 1, Ald 0, Ild 3, Ald 0, GfR 46 4 0, GfI 119 0 4, Cst 0 (-1), Ixor, Iand, CallV 131 2 mW_odds, MmaxL 135, Lst 1], Tfall 63, []),
  (63, [Inc 3 1], Tgoto 15, []),
  (69, [Lld 1], Tret 86, [])]
theorem okW_surestTenths : chkM mW_surestTenths cfW_surestTenths = true := by decide +kernel
def cfW_odds : List BK := [(0, [LC 141 10000000000, Lst 2, Cst 0 0, Ist 4], Tfall 7, []),
  (7, [Ild 4, Cst 1 10], Tif 81 51 14, []),
  (14, [Ild 1, Ild 4, Ishr, Cst 0 1, Iand], Tif 72 45 23, []),
  (23, [Lld 2, LC 143 10, Ldiv, Cst 1 10, Ald 0, GfR 46 4 0, Cst 1 7, Ild 4, CallV 145 3 mC_trait, Isub, I2l, Lmul, Lst 2], Tfall 45, []),
  (45, [Inc 4 1], Tgoto 7, []),
  (51, [Lld 2], Tret 86, [])]
theorem okW_odds : chkM mW_odds cfW_odds = true := by decide +kernel
def cfW_listen : List BK := [(0, [Ald 0, CallV 125 1 mW_exploreRows, Ald 0, Cst 0 0, PfI 37 4 9, Ald 0, Cst 0 0, PfI 40 4 10, Ald 0, Ald 0, GfR 46 4 0, CallV 50 1 mC_allLocks, PfI 43 4 11, Ald 1, CallV 148 1 mS_length, Cst 1 8, Mmin 153, Ist 2, Cst 0 0, Ist 3], Tfall 37, []),
  (37, [Ild 3, Cst 2 1024], Tif 81 150 44, []),
  (44, [Ild 3, CallS 71 1 mJI_bitCount, Ald 0, GfR 46 4 0, GfI 119 0 4, CallS 71 1 mJI_bitCount, Isub, Ist 4, Ald 0, GfR 21 4 4, Ild 3, Iald], Tif 72 114 70, []),
  (70, [Ild 4, Ild 2], Tif 79 114 76, []),
  (76, [Ald 0, Dup, GfI 37 4 9, Ald 0, GfR 21 4 4, Ild 3, Iald, Iadd, PfI 37 4 9, Ald 0, Dup, GfI 40 4 10, Ild 3, Ior, PfI 40 4 10, Ald 0, Dup, GfI 43 4 11, Ild 3, Iand, PfI 43 4 11], Tgoto 144, []),
  (114, [Ald 0, GfR 21 4 4, Ild 3, Iald], Tif 72 144 123, []),
  (123, [Ald 0, Ild 3, Ald 0, Ald 0, GfR 11 4 1, Ild 3, Iald, Ald 1, Ild 4, CallV 156 2 mS_number, CallV 159 3 mW_soundingOf, CallV 128 3 mW_handOn], Tfall 144, []),
  (144, [Inc 3 1], Tgoto 37, []),
  (150, [], Tret 87, [])]
theorem okW_listen : chkM mW_listen cfW_listen = true := by decide +kernel
def cfW_soundingOf : List BK := [(0, [Cst 0 0, Ist 3, Cst 0 0, Ist 4], Tfall 5, []),
  (5, [Ild 4, Cst 1 10], Tif 81 47 12, []),
  (12, [Ild 1, Ild 4, Ishr, Cst 0 1, Iand], Tif 72 41 21, []),
  (21, [Ald 0, GfR 46 4 0, Ild 4, CallV 107 2 mC_sounds, Ild 2], Tif 79 41 34, []),
  (34, [Ild 3, Cst 0 1, Ild 4, Ishl, Ior, Ist 3], Tfall 41, []),
  (41, [Inc 4 1], Tgoto 5, []),
  (47, [Ild 3], Tret 84, [])]
theorem okW_soundingOf : chkM mW_soundingOf cfW_soundingOf = true := by decide +kernel
def cfW_fittingRows : List BK := [(0, [Ald 0, GfI 37 4 9], Tret 84, [])]
theorem okW_fittingRows : chkM mW_fittingRows cfW_fittingRows = true := by decide +kernel
def cfW_fittingAny : List BK := [(0, [Ald 0, GfI 40 4 10], Tret 84, [])]
theorem okW_fittingAny : chkM mW_fittingAny cfW_fittingAny = true := by decide +kernel
def cfW_fittingAll : List BK := [(0, [Ald 0, GfI 43 4 11], Tret 84, [])]
theorem okW_fittingAll : chkM mW_fittingAll cfW_fittingAll = true := by decide +kernel
def cfX_lock : List BK := [(0, [Ild 1, CallS 62 1 mC_isKind], Tif 73 14 7, []),
  (7, [Ald 0, Cst 135 (-1000001), CallV 67 2 mX_tell], Tret 84, []),
  (14, [Ald 0, GfR 12 5 0, GfI 71 0 3, Cst 1 10], Tif 80 33 26, []),
  (26, [Ald 0, Cst 153 (-1000002), CallV 67 2 mX_tell], Tret 84, []),
  (33, [Ald 0, GfR 12 5 0, Ild 1, CallV 76 2 mC_add], Tret 84, [])]
theorem okX_lock : chkM mX_lock cfX_lock = true := by decide +kernel
def cfX_of : List BK := [(0, [Ald 0, GfR 12 5 0, Ild 1, CallV 79 2 mC_has], Tif 72 21 11, []),
  (11, [Ild 2], Tif 74 21 15, []),
  (15, [Ild 2, Cst 1 12], Tif 83 28 21, []),
  (21, [Ald 0, Cst 135 (-1000001), CallV 67 2 mX_tell], Tret 84, []),
  (28, [Ild 2, Cst 1 10], Tif 79 51 34, []),
  (34, [Ald 0, GfR 12 5 0, Ild 1, CallV 82 2 mC_isOff], Tif 72 49 45, []),
  (45, [Cst 0 0], Tgoto 50, []),
  (49, [Cst 0 1], Tfall 50, []),
  (50, [], Tret 84, []),
  (51, [Ild 2, Cst 1 11], Tif 79 66 57, []),
  (57, [Ald 0, GfR 12 5 0, Ild 1, CallV 85 2 mC_takesNow], Tret 84, []),
  (66, [Ild 2, Cst 1 12], Tif 79 83 72, []),
  (72, [Ald 0, GfR 12 5 0, Ild 1, CallV 88 2 mC_sounds], Tgoto 92, []),
  (83, [Ald 0, GfR 12 5 0, Ild 2, Ild 1, CallV 91 3 mC_trait], Tfall 92, []),
  (92, [], Tret 84, [])]
theorem okX_of : chkM mX_of cfX_of = true := by decide +kernel
def cfX_change : List BK := [(0, [Ald 0, GfR 12 5 0, Ild 1, CallV 79 2 mC_has], Tif 72 23 11, []),
  (11, [Ald 0, GfR 12 5 0, Ild 2, Ild 3, CallV 95 3 mC_allows], Tif 73 30 23, []),
  (23, [Ald 0, Cst 135 (-1000001), CallV 67 2 mX_tell], Tret 84, []),
  (30, [Ald 0, GfR 12 5 0, Ild 2, Ild 1, Ild 3, CallV 99 4 mC_putTrait], Tret 84, [])]
theorem okX_change : chkM mX_change cfX_change = true := by decide +kernel
def cfX_rule : List BK := [(0, [Ald 0, GfR 12 5 0, Ild 1, Ild 2, CallV 103 3 mC_allowsRule], Tif 73 19 12, []),
  (12, [Ald 0, Cst 135 (-1000001), CallV 67 2 mX_tell], Tret 84, []),
  (19, [Ald 0, GfR 12 5 0, Ild 1, Ild 2, CallV 106 3 mC_putRule], Tret 84, [])]
theorem okX_rule : chkM mX_rule cfX_rule = true := by decide +kernel
def cfX_on : List BK := [(0, [Ald 0, GfR 12 5 0, Ild 1, CallV 79 2 mC_has], Tif 73 18 11, []),
  (11, [Ald 0, Cst 135 (-1000001), CallV 67 2 mX_tell], Tret 84, []),
  (18, [Ald 0, GfR 12 5 0, Ild 1, CallV 82 2 mC_isOff], Tif 72 33 29, []),
  (29, [Cst 0 1], Tgoto 34, []),
  (33, [Cst 0 0], Tfall 34, []),
  (34, [Ist 2, Ald 0, GfR 12 5 0, Dup, GfI 109 0 4, Cst 0 1, Ild 1, Ishl, Cst 0 (-1), Ixor, Iand, PfI 109 0 4, Ild 2], Tret 84, [])]
theorem okX_on : chkM mX_on cfX_on = true := by decide +kernel
def cfX_shut : List BK := [(0, [Ald 0, GfR 12 5 0, CallV 112 1 mC_shutAll], Tret 84, [])]
theorem okX_shut : chkM mX_shut cfX_shut = true := by decide +kernel
def cfX_may : List BK := [(0, [Ald 0, GfR 12 5 0, Ald 0, GfR 12 5 0, GfI 109 0 4, CallV 116 2 mC_mayAt], Tret 84, [])]
theorem okX_may : chkM mX_may cfX_may = true := by decide +kernel
def cfX_why : List BK := [(0, [Ald 0, GfR 12 5 0, Ild 1, CallV 79 2 mC_has], Tif 73 18 11, []),
  (11, [Ald 0, Cst 135 (-1000001), CallV 67 2 mX_tell], Tret 84, []),
  (18, [Ald 0, GfR 12 5 0, Ild 1, CallV 119 2 mC_reasonNow], Tret 84, [])]
theorem okX_why : chkM mX_why cfX_why = true := by decide +kernel
def cfX_off : List BK := [(0, [Ald 0, GfR 12 5 0, Ild 1, CallV 79 2 mC_has], Tif 73 18 11, []),
  (11, [Ald 0, Cst 135 (-1000001), CallV 67 2 mX_tell], Tret 84, []),
  (18, [Ald 0, GfR 12 5 0, Ild 1, CallV 85 2 mC_takesNow, Ist 2, Ald 0, GfR 12 5 0, Ild 1, CallV 119 2 mC_reasonNow], Tif 73 52 38, []),
  (38, [Ald 0, GfR 12 5 0, GfI 122 0 5, Cst 253 99999, Ild 2, Isub], Tif 83 59 52, []),
  (52, [Ald 0, Cst 255 (-1000005), CallV 67 2 mX_tell], Tret 84, []),
  (59, [Ald 0, GfR 12 5 0, Ild 1, CallV 127 2 mC_step, Ild 2], Tret 84, [])]
theorem okX_off : chkM mX_off cfX_off = true := by decide +kernel
def cfX_now : List BK := [(0, [Ild 1], Tsw 90 144 44, [(0, 44), (1, 52), (2, 60), (3, 68), (4, 83), (5, 98), (6, 121)]),
  (44, [Ald 0, GfR 12 5 0, GfI 122 0 5], Tret 84, []),
  (52, [Ald 0, GfR 12 5 0, GfI 131 0 6], Tret 84, []),
  (60, [Ald 0, GfR 12 5 0, GfI 109 0 4], Tret 84, []),
  (68, [Ald 0, GfR 12 5 0, Ald 0, GfR 12 5 0, GfI 109 0 4, CallV 134 2 mC_slackAt], Tret 84, []),
  (83, [Ald 0, GfR 12 5 0, Ald 0, GfR 12 5 0, GfI 109 0 4, CallV 137 2 mC_freeAt], Tret 84, []),
  (98, [Ald 0, GfR 12 5 0, Ald 0, GfR 12 5 0, GfI 109 0 4, CallV 140 2 mC_isOutAt], Tif 72 119 115, []),
  (115, [Cst 0 1], Tgoto 120, []),
  (119, [Cst 0 0], Tfall 120, []),
  (120, [], Tret 84, []),
  (121, [Ald 0, GfR 12 5 0, Ald 0, GfR 12 5 0, GfI 122 0 5, CallV 143 2 mC_playsAt], Tif 72 142 138, []),
  (138, [Cst 0 1], Tgoto 143, []),
  (142, [Cst 0 0], Tfall 143, []),
  (143, [], Tret 84, []),
  (144, [Ald 0, Cst 135 (-1000001), CallV 67 2 mX_tell], Tret 84, [])]
theorem okX_now : chkM mX_now cfX_now = true := by decide +kernel
def cfX_soonest : List BK := [(0, [Ald 0, Ald 0, GfR 27 5 3, Ald 0, GfR 12 5 0, GfI 109 0 4, Cst 0 0, CallV 146 3 mW_leastFrom, CallV 149 2 mX_orNone], Tret 84, [])]
theorem okX_soonest : chkM mX_soonest cfX_soonest = true := by decide +kernel
def cfX_ith : List BK := [(0, [Ild 1], Tif 74 10 4, []),
  (4, [Ild 1, Cst 1 10], Tif 80 17 10, []),
  (10, [Ald 0, Cst 135 (-1000001), CallV 67 2 mX_tell], Tret 84, []),
  (17, [Ald 0, GfR 27 5 3, Ald 0, GfR 12 5 0, GfI 109 0 4, CallV 152 2 mW_findRow], Tif 72 45 34, []),
  (34, [Ild 1, Ald 0, GfR 27 5 3, CallV 155 1 mW_rowLength], Tif 80 52 45, []),
  (45, [Ald 0, Cst 319 (-1000004), CallV 67 2 mX_tell], Tret 84, []),
  (52, [Ald 0, GfR 27 5 3, Ild 1, CallV 159 2 mW_rowLock], Tret 84, [])]
theorem okX_ith : chkM mX_ith cfX_ith = true := by decide +kernel
def cfX_quietest : List BK := [(0, [Ald 0, Ald 0, GfR 27 5 3, Ald 0, GfR 12 5 0, GfI 109 0 4, Cst 0 1, CallV 146 3 mW_leastFrom, CallV 149 2 mX_orNone], Tret 84, [])]
theorem okX_quietest : chkM mX_quietest cfX_quietest = true := by decide +kernel
def cfX_fewest : List BK := [(0, [Ald 0, Ald 0, GfR 27 5 3, Ald 0, GfR 12 5 0, GfI 109 0 4, Cst 0 2, CallV 146 3 mW_leastFrom, CallV 149 2 mX_orNone], Tret 84, [])]
theorem okX_fewest : chkM mX_fewest cfX_fewest = true := by decide +kernel
def cfX_ahead : List BK := [(0, [Ild 1], Tif 74 9 4, []),
  (4, [Ild 1, Cst 0 1], Tif 83 16 9, []),
  (9, [Ald 0, Cst 135 (-1000001), CallV 67 2 mX_tell], Tret 84, []),
  (16, [Ald 0, GfR 27 5 3, Ald 0, GfR 12 5 0, GfI 109 0 4, CallV 152 2 mW_findRow], Tif 73 40 33, []),
  (33, [Ald 0, Cst 319 (-1000004), CallV 67 2 mX_tell], Tret 84, []),
  (40, [Ald 0, GfR 27 5 3, CallV 162 1 mW_rowEnd, Ist 2, Ild 2, Cst 253 99999], Tif 83 61 54, []),
  (54, [Ald 0, Cst 255 (-1000005), CallV 67 2 mX_tell], Tret 84, []),
  (61, [Ild 1], Tif 73 69 65, []),
  (65, [Ild 2], Tgoto 76, []),
  (69, [Ald 0, GfR 27 5 3, CallV 165 1 mW_rowHeard], Tfall 76, []),
  (76, [], Tret 84, [])]
theorem okX_ahead : chkM mX_ahead cfX_ahead = true := by decide +kernel
def cfX_ever : List BK := [(0, [Ald 0, GfR 27 5 3, CallV 168 1 mW_everOff], Tret 84, [])]
theorem okX_ever : chkM mX_ever cfX_ever = true := by decide +kernel
def cfX_states : List BK := [(0, [Ald 0, GfR 27 5 3, CallV 171 1 mW_reachedStates], Tret 84, [])]
theorem okX_states : chkM mX_states cfX_states = true := by decide +kernel
def cfX_rows : List BK := [(0, [Ald 0, GfR 27 5 3, CallV 174 1 mW_waysOut], Tret 84, [])]
theorem okX_rows : chkM mX_rows cfX_rows = true := by decide +kernel
def cfX_tools : List BK := [(0, [Ald 0, Ald 0, GfR 36 5 4, CallV 177 1 mK_fewestTools, CallV 149 2 mX_orNone], Tret 84, [])]
theorem okX_tools : chkM mX_tools cfX_tools = true := by decide +kernel
def cfX_spare : List BK := [(0, [Ald 0, Ald 0, GfR 36 5 4, CallV 180 1 mK_leastSpare, CallV 149 2 mX_orNone], Tret 84, [])]
theorem okX_spare : chkM mX_spare cfX_spare = true := by decide +kernel
def cfX_wire : List BK := [(0, [Ald 0, Ald 0, GfR 36 5 4, CallV 183 1 mK_bestWire, CallV 149 2 mX_orNone], Tret 84, [])]
theorem okX_wire : chkM mX_wire cfX_wire = true := by decide +kernel
def cfX_kindFor : List BK := [(0, [Ald 0, GfR 12 5 0, Ild 1, CallV 79 2 mC_has], Tif 73 18 11, []),
  (11, [Ald 0, Cst 135 (-1000001), CallV 67 2 mX_tell], Tret 84, []),
  (18, [Ald 0, Ald 0, GfR 36 5 4, Ild 1, CallV 186 2 mK_bestKind, CallV 149 2 mX_orNone], Tret 84, [])]
theorem okX_kindFor : chkM mX_kindFor cfX_kindFor = true := by decide +kernel
def cfX_link : List BK := [(0, [Ald 0, GfR 36 5 4, CallV 189 1 mK_findLink, Ald 0, Ald 0, GfR 36 5 4, CallV 192 1 mK_linkPair, CallV 149 2 mX_orNone], Tret 84, [])]
theorem okX_link : chkM mX_link cfX_link = true := by decide +kernel
def cfX_linked : List BK := [(0, [Ald 0, GfR 36 5 4, CallV 189 1 mK_findLink, Ald 0, Ald 0, GfR 36 5 4, CallV 195 1 mK_linkTime, CallV 149 2 mX_orNone], Tret 84, [])]
theorem okX_linked : chkM mX_linked cfX_linked = true := by decide +kernel
def cfX_spared : List BK := [(0, [Ald 0, Ald 0, GfR 36 5 4, CallV 198 1 mK_bestSpared, CallV 149 2 mX_orNone], Tret 84, [])]
theorem okX_spared : chkM mX_spared cfX_spared = true := by decide +kernel
def cfX_surest : List BK := [(0, [Ild 1], Tif 74 9 4, []),
  (4, [Ild 1, Cst 0 1], Tif 83 17 9, []),
  (9, [Ald 0, Cst 135 (-1000001), CallV 67 2 mX_tell, I2l], Tret 86, []),
  (17, [Ald 0, GfR 27 5 3, CallV 201 1 mW_surestTenths, Lst 2, Lld 2, LC 0 0, Lcmp], Tif 73 39 31, []),
  (31, [Ald 0, Cst 319 (-1000004), CallV 67 2 mX_tell, I2l], Tret 86, []),
  (39, [Lld 2, LC 205 10000000000, CallS 207 2 mX_commonDivisor, Lst 4, Lld 4, LC 0 0, Lcmp], Tif 73 63 55, []),
  (55, [Ald 0, Cst 319 (-1000004), CallV 67 2 mX_tell, I2l], Tret 86, []),
  (63, [Ild 1], Tif 73 74 67, []),
  (67, [Lld 2, Lld 4, Ldiv], Tgoto 80, []),
  (74, [LC 205 10000000000, Lld 4, Ldiv], Tfall 80, []),
  (80, [], Tret 86, [])]
theorem okX_surest : chkM mX_surest cfX_surest = true := by decide +kernel
def cfX_fits : List BK := [(0, [Ald 0, Ild 1, CallV 211 2 mX_sheetFinding, Ist 2, Ild 2], Tif 72 16 10, []),
  (10, [Ald 0, Ild 2, CallV 67 2 mX_tell], Tret 84, []),
  (16, [Ald 0, GfR 27 5 3, Ald 0, GfR 49 5 6, Ild 1, Aald, CallV 214 2 mW_listen, Ald 0, GfR 27 5 3, CallV 218 1 mW_fittingRows], Tret 84, [])]
theorem okX_fits : chkM mX_fits cfX_fits = true := by decide +kernel
def cfX_maybe : List BK := [(0, [Ald 0, Ild 1, CallV 211 2 mX_sheetFinding, Ist 2, Ild 2], Tif 72 16 10, []),
  (10, [Ald 0, Ild 2, CallV 67 2 mX_tell], Tret 84, []),
  (16, [Ald 0, GfR 27 5 3, Ald 0, GfR 49 5 6, Ild 1, Aald, CallV 214 2 mW_listen, Ald 0, GfR 27 5 3, CallV 218 1 mW_fittingRows], Tif 73 48 39, []),
  (39, [Ald 0, Cst 319 (-1000004), CallV 67 2 mX_tell], Tgoto 55, []),
  (48, [Ald 0, GfR 27 5 3, CallV 221 1 mW_fittingAny], Tfall 55, []),
  (55, [], Tret 84, [])]
theorem okX_maybe : chkM mX_maybe cfX_maybe = true := by decide +kernel
def cfX_surely : List BK := [(0, [Ald 0, Ild 1, CallV 211 2 mX_sheetFinding, Ist 2, Ild 2], Tif 72 16 10, []),
  (10, [Ald 0, Ild 2, CallV 67 2 mX_tell], Tret 84, []),
  (16, [Ald 0, GfR 27 5 3, Ald 0, GfR 49 5 6, Ild 1, Aald, CallV 214 2 mW_listen, Ald 0, GfR 27 5 3, CallV 218 1 mW_fittingRows], Tif 73 48 39, []),
  (39, [Ald 0, Cst 319 (-1000004), CallV 67 2 mX_tell], Tgoto 55, []),
  (48, [Ald 0, GfR 27 5 3, CallV 224 1 mW_fittingAll], Tfall 55, []),
  (55, [], Tret 84, [])]
theorem okX_surely : chkM mX_surely cfX_surely = true := by decide +kernel
def cfX_hear : List BK := [(0, [Ild 1], Tif 74 10 4, []),
  (4, [Ild 1, Cst 1 99], Tif 83 17 10, []),
  (10, [Ald 0, Cst 135 (-1000001), CallV 67 2 mX_tell], Tret 84, []),
  (17, [Ald 0, GfR 12 5 0, Ald 0, GfR 12 5 0, GfI 109 0 4, CallV 116 2 mC_mayAt, Ist 2, Cst 0 0, Ist 3], Tfall 34, []),
  (34, [Ild 3, Ald 0, GfR 12 5 0, GfI 71 0 3], Tif 81 71 45, []),
  (45, [Ald 0, GfR 12 5 0, Ild 3, CallV 88 2 mC_sounds, Ild 1], Tif 78 65 57, []),
  (57, [Ild 2, Cst 0 1, Ild 3, Ishl, Cst 0 (-1), Ixor, Iand, Ist 2], Tfall 65, []),
  (65, [Inc 3 1], Tgoto 34, []),
  (71, [Ild 2], Tret 84, [])]
theorem okX_hear : chkM mX_hear cfX_hear = true := by decide +kernel
def cfX_friday : List BK := [(0, [Ild 1, Cst 0 1], Tif 80 11 5, []),
  (5, [Ild 1, Cst 1 20], Tif 83 18 11, []),
  (11, [Ald 0, Cst 135 (-1000001), CallV 67 2 mX_tell], Tret 84, []),
  (18, [Ald 0, GfR 12 5 0, GfI 71 0 3], Tif 73 35 28, []),
  (28, [Ald 0, Cst 255 (-1000005), CallV 67 2 mX_tell], Tret 84, []),
  (35, [Ald 0, GfR 12 5 0, Ild 1, CallV 227 2 mC_tryFriday], Tret 84, [])]
theorem okX_friday : chkM mX_friday cfX_friday = true := by decide +kernel
def cfX_seed : List BK := [(0, [Ald 0, GfR 12 5 0, GfI 230 0 7, Ist 2, Ald 0, GfR 12 5 0, Ild 1, PfI 230 0 7, Ild 2], Tret 84, [])]
theorem okX_seed : chkM mX_seed cfX_seed = true := by decide +kernel
def cfX_feed : List BK := [(0, [Ild 2, Cst 0 1], Tif 80 10 5, []),
  (5, [Ild 2, Cst 0 4], Tif 83 17 10, []),
  (10, [Ald 0, Cst 135 (-1000001), CallV 67 2 mX_tell], Tret 84, []),
  (17, [Ild 2, Cst 1 120, Ald 0, GfR 43 5 5, CallV 233 1 mT_size, Isub], Tif 83 38 31, []),
  (31, [Ald 0, Cst 153 (-1000002), CallV 67 2 mX_tell], Tret 84, []),
  (38, [Ald 0, GfR 43 5 5, Ild 1, Ild 2, CallV 236 3 mT_put], Tret 84, [])]
theorem okX_feed : chkM mX_feed cfX_feed = true := by decide +kernel
def cfX_wipe : List BK := [(0, [Ald 0, GfR 43 5 5, CallV 239 1 mT_clear], Tret 84, [])]
theorem okX_wipe : chkM mX_wipe cfX_wipe = true := by decide +kernel
def cfX_text : List BK := [(0, [Ald 0, GfR 19 5 2, Ald 0, GfR 12 5 0, CallV 242 2 mC_become, Ald 0, GfR 43 5 5, Ald 0, GfR 19 5 2, CallV 245 2 mT_read, Ist 1, Ild 1], Tif 74 38 27, []),
  (27, [Ald 0, GfR 12 5 0, Ald 0, GfR 19 5 2, CallV 242 2 mC_become], Tfall 38, []),
  (38, [Ald 0, GfR 43 5 5, CallV 239 1 mT_clear, Pop, Ild 1], Tret 84, [])]
theorem okX_text : chkM mX_text cfX_text = true := by decide +kernel
def cfX_hold : List BK := [(0, [Ild 1, CallS 249 1 mC_isSpot], Tif 72 23 7, []),
  (7, [Ild 2, Cst 0 (-1)], Tif 78 30 12, []),
  (12, [Ald 0, GfR 12 5 0, Ild 2, CallV 79 2 mC_has], Tif 73 30 23, []),
  (23, [Ald 0, Cst 135 (-1000001), CallV 67 2 mX_tell], Tret 84, []),
  (30, [Ald 0, GfR 12 5 0, Ild 1, Ild 2, CallV 252 3 mC_putSpot, Cst 0 1], Tret 84, [])]
theorem okX_hold : chkM mX_hold cfX_hold = true := by decide +kernel
def cfX_as : List BK := [(0, [Ild 1, CallS 249 1 mC_isSpot], Tif 72 14 7, []),
  (7, [Ild 2, CallS 62 1 mC_isKind], Tif 73 21 14, []),
  (14, [Ald 0, Cst 135 (-1000001), CallV 67 2 mX_tell], Tret 84, []),
  (21, [Ald 0, GfR 12 5 0, Ild 1, CallV 256 2 mC_atSpot, Ist 3, Ild 3, Cst 0 (-1)], Tif 79 43 35, []),
  (35, [Ald 0, Cst 522 (-1000006), CallV 67 2 mX_tell], Tret 84, []),
  (43, [Ald 0, GfR 12 5 0, Cst 0 0, Ild 3, CallV 91 3 mC_trait, Ild 2, CallS 260 2 mC_isUnder], Tif 72 63 59, []),
  (59, [Ild 3], Tgoto 70, []),
  (63, [Ald 0, Cst 530 (-1000003), CallV 67 2 mX_tell], Tfall 70, []),
  (70, [], Tret 84, [])]
theorem okX_as : chkM mX_as cfX_as = true := by decide +kernel
def cfX_sheet : List BK := [(0, [Ald 0, Ild 1, CallV 264 2 mX_isSheet], Tif 72 15 8, []),
  (8, [Ild 2, CallS 267 1 mS_isWidth], Tif 73 22 15, []),
  (15, [Ald 0, Cst 135 (-1000001), CallV 67 2 mX_tell], Tret 84, []),
  (22, [Ild 3], Tif 75 34 26, []),
  (26, [Ald 0, Cst 544 (-1000007), CallV 67 2 mX_tell], Tret 84, []),
  (34, [Ild 3, Cst 1 40], Tif 83 47 40, []),
  (40, [Ald 0, Cst 135 (-1000001), CallV 67 2 mX_tell], Tret 84, []),
  (47, [Ald 0, GfR 49 5 6, Ild 1, Aald, Ild 2, Ild 3, CallV 271 3 mS_begin], Tret 84, [])]
theorem okX_sheet : chkM mX_sheet cfX_sheet = true := by decide +kernel
def cfX_write : List BK := [(0, [Ald 0, Ild 1, CallV 211 2 mX_sheetFinding, Ist 4, Ild 4], Tif 72 19 12, []),
  (12, [Ald 0, Ild 4, CallV 67 2 mX_tell], Tret 84, []),
  (19, [Ald 0, GfR 49 5 6, Ild 1, Aald, Ild 2, CallV 274 2 mS_has], Tif 73 39 32, []),
  (32, [Ald 0, Cst 135 (-1000001), CallV 67 2 mX_tell], Tret 84, []),
  (39, [Ald 0, GfR 49 5 6, Ild 1, Aald, Ild 2, Ild 3, CallV 275 3 mS_put, Cst 0 1], Tret 84, [])]
theorem okX_write : chkM mX_write cfX_write = true := by decide +kernel
def cfX_copy : List BK := [(0, [Ald 0, Ild 1, CallV 264 2 mX_isSheet], Tif 72 16 8, []),
  (8, [Ald 0, Ild 3, CallV 264 2 mX_isSheet], Tif 73 23 16, []),
  (16, [Ald 0, Cst 135 (-1000001), CallV 67 2 mX_tell], Tret 84, []),
  (23, [Ald 0, GfR 49 5 6, Ild 1, Aald, CallV 277 1 mS_isMissing], Tif 73 47 35, []),
  (35, [Ald 0, GfR 49 5 6, Ild 3, Aald, CallV 277 1 mS_isMissing], Tif 72 55 47, []),
  (47, [Ald 0, Cst 522 (-1000006), CallV 67 2 mX_tell], Tret 84, []),
  (55, [Ald 0, GfR 49 5 6, Ild 1, Aald, Ald 0, GfR 49 5 6, Ild 3, Aald, CallV 281 2 mS_isLike], Tif 73 81 73, []),
  (73, [Ald 0, Cst 530 (-1000003), CallV 67 2 mX_tell], Tret 84, []),
  (81, [Ald 0, GfR 49 5 6, Ild 1, Aald, Ild 2, Ild 5, CallV 285 3 mS_hasRun], Tif 72 112 96, []),
  (96, [Ald 0, GfR 49 5 6, Ild 3, Aald, Ild 4, Ild 5, CallV 285 3 mS_hasRun], Tif 73 119 112, []),
  (112, [Ald 0, Cst 135 (-1000001), CallV 67 2 mX_tell], Tret 84, []),
  (119, [Ald 0, GfR 49 5 6, Ild 1, Aald, Ild 2, Ald 0, GfR 49 5 6, Ild 3, Aald, Ild 4, Ild 5, CallV 288 5 mS_copyTo, Ild 5], Tret 84, [])]
theorem okX_copy : chkM mX_copy cfX_copy = true := by decide +kernel
def cfX_load : List BK := [(0, [Ald 0, Ild 1, CallV 211 2 mX_sheetFinding, Ist 2, Ild 2], Tif 72 16 10, []),
  (10, [Ald 0, Ild 2, CallV 67 2 mX_tell], Tret 84, []),
  (16, [Ald 0, GfR 12 5 0, Ald 0, GfR 49 5 6, Ild 1, Aald, CallV 292 2 mC_loadTimes], Tret 84, [])]
theorem okX_load : chkM mX_load cfX_load = true := by decide +kernel
def cfX_judge : List BK := [(0, [Ald 0, Ild 1, CallV 211 2 mX_sheetFinding, Ist 2, Ild 2], Tif 72 16 10, []),
  (10, [Ald 0, Ild 2, CallV 67 2 mX_tell], Tret 84, []),
  (16, [Ald 0, GfR 12 5 0, Ald 0, GfR 49 5 6, Ild 1, Aald, CallV 296 2 mC_firstBarred], Tret 84, [])]
theorem okX_judge : chkM mX_judge cfX_judge = true := by decide +kernel
def cfX_image : List BK := [(0, [Ald 0, GfR 16 5 1, Ald 0, GfR 12 5 0, CallV 242 2 mC_become, Ald 0, Cst 0 1, PfZ 57 5 8, Cst 0 1], Tret 84, [])]
theorem okX_image : chkM mX_image cfX_image = true := by decide +kernel
def cfX_undo : List BK := [(0, [Ald 0, GfI 57 5 8], Tif 73 14 7, []),
  (7, [Ald 0, Cst 319 (-1000004), CallV 67 2 mX_tell], Tret 84, []),
  (14, [Ald 0, GfR 12 5 0, Ald 0, GfR 16 5 1, CallV 242 2 mC_become, Ald 0, GfR 12 5 0, GfI 122 0 5], Tret 84, [])]
theorem okX_undo : chkM mX_undo cfX_undo = true := by decide +kernel
def cfX_tear : List BK := [(0, [Ald 0, GfI 57 5 8], Tif 72 11 7, []),
  (7, [Cst 0 1], Tgoto 12, []),
  (11, [Cst 0 0], Tfall 12, []),
  (12, [Ist 1, Ald 0, Cst 0 0, PfZ 57 5 8, Ild 1], Tret 84, [])]
theorem okX_tear : chkM mX_tear cfX_tear = true := by decide +kernel
def cfX_count : List BK := [(0, [Ild 1], Tsw 90 115 48, [(0, 48), (1, 56), (2, 64), (3, 75), (4, 83), (5, 91), (6, 99), (7, 107)]),
  (48, [Ald 0, GfR 12 5 0, GfI 122 0 5], Tret 84, []),
  (56, [Ald 0, GfR 12 5 0, GfI 71 0 3], Tret 84, []),
  (64, [Ald 0, GfR 12 5 0, GfI 109 0 4, CallS 299 1 mJI_bitCount], Tret 84, []),
  (75, [Ald 0, GfR 12 5 0, GfI 131 0 6], Tret 84, []),
  (83, [Ald 0, GfR 12 5 0, CallV 304 1 mC_allTimes], Tret 84, []),
  (91, [Ald 0, GfR 43 5 5, CallV 233 1 mT_size], Tret 84, []),
  (99, [Ald 0, GfR 12 5 0, GfI 230 0 7], Tret 84, []),
  (107, [Ald 0, GfR 12 5 0, CallV 307 1 mC_heldSpots], Tret 84, []),
  (115, [Ald 0, Cst 135 (-1000001), CallV 67 2 mX_tell], Tret 84, [])]
theorem okX_count : chkM mX_count cfX_count = true := by decide +kernel
def cfX_status : List BK := [(0, [Ild 1, Cst 0 (-1)], Tif 80 11 5, []),
  (5, [Ild 1, Cst 1 7], Tif 80 18 11, []),
  (11, [Ald 0, Cst 135 (-1000001), CallV 67 2 mX_tell], Tret 84, []),
  (18, [Ild 1], Tif 74 29 22, []),
  (22, [Ald 0, GfR 53 5 7, Ild 1, Iald], Tret 84, []),
  (29, [Cst 0 0, Ist 2, Cst 0 0, Ist 3], Tfall 33, []),
  (33, [Ild 3, Cst 1 7], Tif 81 54 39, []),
  (39, [Ild 2, Ald 0, GfR 53 5 7, Ild 3, Iald, Iadd, Ist 2, Inc 3 1], Tgoto 33, []),
  (54, [Ild 2], Tret 84, [])]
theorem okX_status : chkM mX_status cfX_status = true := by decide +kernel
def cfX_tell : List BK := [(0, [Cst 135 (-1000001), Ild 1, Isub, Ist 2, Ild 2], Tif 74 25 9, []),
  (9, [Ild 2, Cst 1 7], Tif 81 25 15, []),
  (15, [Ald 0, GfR 53 5 7, Ild 2, Dup2, Iald, Cst 0 1, Iadd, Iast], Tfall 25, []),
  (25, [Ild 1], Tret 84, [])]
theorem okX_tell : chkM mX_tell cfX_tell = true := by decide +kernel
def cfX_orNone : List BK := [(0, [Ild 1, Cst 624 2147483647], Tif 79 16 7, []),
  (7, [Ald 0, Cst 319 (-1000004), CallV 67 2 mX_tell], Tgoto 17, []),
  (16, [Ild 1], Tfall 17, []),
  (17, [], Tret 84, [])]
theorem okX_orNone : chkM mX_orNone cfX_orNone = true := by decide +kernel
def cfX_isSheet : List BK := [(0, [Ild 1], Tif 74 13 4, []),
  (4, [Ild 1, Cst 0 4], Tif 81 13 9, []),
  (9, [Cst 0 1], Tgoto 14, []),
  (13, [Cst 0 0], Tfall 14, []),
  (14, [], Tret 85, [])]
theorem okX_isSheet : chkM mX_isSheet cfX_isSheet = true := by decide +kernel
def cfX_sheetFinding : List BK := [(0, [Ald 0, Ild 1, CallV 264 2 mX_isSheet], Tif 73 11 8, []),
  (8, [Cst 135 (-1000001)], Tret 84, []),
  (11, [Ald 0, GfR 49 5 6, Ild 1, Aald, CallV 277 1 mS_isMissing], Tif 72 29 23, []),
  (23, [Cst 522 (-1000006)], Tgoto 30, []),
  (29, [Cst 0 0], Tfall 30, []),
  (30, [], Tret 84, [])]
theorem okX_sheetFinding : chkM mX_sheetFinding cfX_sheetFinding = true := by decide +kernel
def cfX_commonDivisor : List BK := [(0, [Lld 0, Lst 4, Lld 2, Lst 6, Cst 0 0, Ist 8], Tfall 9, []),
  (9, [Ild 8, Cst 2 200], Tif 81 45 17, []),
  (17, [Lld 6, LC 0 0, Lcmp], Tif 72 45 24, []),
  (24, [Lld 4, Lld 6, Lrem, Lst 9, Lld 6, Lst 4, Lld 9, Lst 6, Inc 8 1], Tgoto 9, []),
  (45, [Lld 4], Tret 86, [])]
theorem okX_commonDivisor : chkM mX_commonDivisor cfX_commonDivisor = true := by decide +kernel
def cfM_no : List BK := [(0, [Ald 0, GfR 19 6 4, Ild 1, Dup2, Iald, Cst 0 1, Iadd, Iast, Cst 121 (-1000001), Ild 1, Isub], Tret 84, [])]
theorem okM_no : chkM mM_no cfM_no = true := by decide +kernel
def cfM_in1 : List BK := [(0, [Ild 0, Ild 1], Tif 80 14 5, []),
  (5, [Ild 0, Ild 2], Tif 82 14 10, []),
  (10, [Cst 0 1], Tgoto 15, []),
  (14, [Cst 0 0], Tfall 15, []),
  (15, [], Tret 85, [])]
theorem okM_in1 : chkM mM_in1 cfM_in1 = true := by decide +kernel
def cfM_most : List BK := [(0, [Ild 0, Ild 1], Tif 83 9 5, []),
  (5, [Ild 0], Tgoto 10, []),
  (9, [Ild 1], Tfall 10, []),
  (10, [], Tret 84, [])]
theorem okM_most : chkM mM_most cfM_most = true := by decide +kernel
def cfM_bits : List BK := [(0, [Cst 0 0, Ist 1, Ild 0, Ist 2], Tfall 4, []),
  (4, [Ild 2], Tif 72 20 8, []),
  (8, [Inc 1 1, Ild 2, Ild 2, Cst 0 1, Isub, Iand, Ist 2], Tgoto 4, []),
  (20, [Ild 1], Tret 84, [])]
theorem okM_bits : chkM mM_bits cfM_bits = true := by decide +kernel
def cfM_isIn : List BK := [(0, [Ild 0, Ild 1, Ishr, Cst 0 1, Iand, Cst 0 1], Tif 79 13 9, []),
  (9, [Cst 0 1], Tgoto 14, []),
  (13, [Cst 0 0], Tfall 14, []),
  (14, [], Tret 85, [])]
theorem okM_isIn : chkM mM_isIn cfM_isIn = true := by decide +kernel
def cfM_isLock : List BK := [(0, [Ild 1, Cst 0 0, Ald 0, GfR 9 6 0, Cst 0 3, Iald, Cst 0 1, Isub, CallS 60 3 mM_in1], Tret 85, [])]
theorem okM_isLock : chkM mM_isLock cfM_isLock = true := by decide +kernel
def cfM_get : List BK := [(0, [Ald 0, GfR 9 6 0, Cst 1 10, Cst 1 10, Ild 1, Imul, Iadd, Ild 2, Iadd, Iald], Tret 84, [])]
theorem okM_get : chkM mM_get cfM_get = true := by decide +kernel
def cfM_puts : List BK := [(0, [Ald 0, GfR 9 6 0, Cst 1 10, Cst 1 10, Ild 1, Imul, Iadd, Ild 2, Iadd, Ild 3, Iast], Tret 87, [])]
theorem okM_puts : chkM mM_puts cfM_puts = true := by decide +kernel
def cfM_allLocks : List BK := [(0, [Cst 0 1, Ald 0, GfR 9 6 0, Cst 0 3, Iald, Ishl, Cst 0 1, Isub], Tret 84, [])]
theorem okM_allLocks : chkM mM_allLocks cfM_allLocks = true := by decide +kernel
def cfM_slackBy : List BK := [(0, [Ald 0, GfR 9 6 0, Cst 0 5, Iald, Ist 2, Cst 0 0, Ist 3], Tfall 9, []),
  (9, [Ild 3, Ald 0, GfR 9 6 0, Cst 0 3, Iald], Tif 81 46 19, []),
  (19, [Ild 2, Ild 1, Ild 3, CallS 64 2 mM_isIn], Tif 72 37 28, []),
  (28, [Ald 0, Ild 3, Cst 0 2, CallV 68 3 mM_get], Tgoto 38, []),
  (37, [Cst 0 0], Tfall 38, []),
  (38, [Iadd, Ist 2, Inc 3 1], Tgoto 9, []),
  (46, [Ild 2], Tret 84, [])]
theorem okM_slackBy : chkM mM_slackBy cfM_slackBy = true := by decide +kernel
def cfM_freeBy : List BK := [(0, [Cst 0 0, Ist 2, Cst 0 0, Ist 3], Tfall 4, []),
  (4, [Ild 3, Ald 0, GfR 9 6 0, Cst 0 3, Iald], Tif 81 41 14, []),
  (14, [Ild 2, Ild 1, Ild 3, CallS 64 2 mM_isIn], Tif 72 27 23, []),
  (23, [Cst 0 0], Tgoto 33, []),
  (27, [Ald 0, Ild 3, Cst 0 4, CallV 68 3 mM_get], Tfall 33, []),
  (33, [Ior, Ist 2, Inc 3 1], Tgoto 4, []),
  (41, [Cst 0 3, Ild 2, Cst 0 (-1), Ixor, Iand], Tret 84, [])]
theorem okM_freeBy : chkM mM_freeBy cfM_freeBy = true := by decide +kernel
def cfM_whyBy : List BK := [(0, [Ild 2, Ild 1, CallS 64 2 mM_isIn], Tif 72 10 8, []),
  (8, [Cst 0 1], Tret 84, []),
  (10, [Ild 3, Ald 0, Ild 1, Cst 0 3, CallV 68 3 mM_get], Tif 81 22 20, []),
  (20, [Cst 0 2], Tret 84, []),
  (22, [Ild 4, CallS 72 1 mM_bits, Ald 0, Ild 1, Cst 0 5, CallV 68 3 mM_get], Tif 81 38 36, []),
  (36, [Cst 0 3], Tret 84, []),
  (38, [Ald 0, Ild 1, Cst 1 6, CallV 68 3 mM_get], Tif 77 71 48, []),
  (48, [Ald 0, GfR 9 6 0, Cst 0 4, Iald, Ald 0, Ild 1, Cst 1 6, CallV 68 3 mM_get, Cst 0 1, Isub, CallS 64 2 mM_isIn], Tif 73 71 69, []),
  (69, [Cst 0 4], Tret 84, []),
  (71, [Ald 0, Ild 1, Cst 1 8, CallV 68 3 mM_get, Ild 2, Cst 0 (-1), Ixor, Iand], Tif 72 87 85, []),
  (85, [Cst 0 5], Tret 84, []),
  (87, [Ald 0, Ild 1, Cst 1 9, CallV 68 3 mM_get, Cst 0 1, Ild 1, Ishl, Cst 0 (-1), Ixor, Iand, Ild 2, Iand], Tif 72 110 105, []),
  (105, [Cst 1 6], Tgoto 111, []),
  (110, [Cst 0 0], Tfall 111, []),
  (111, [], Tret 84, [])]
theorem okM_whyBy : chkM mM_whyBy cfM_whyBy = true := by decide +kernel
def cfM_takesBy : List BK := [(0, [Ald 0, Ild 1, Cst 0 1, CallV 68 3 mM_get, Ist 5, Cst 0 1, Ild 5, Ild 3, Isub, CallS 76 2 mM_most, Ist 6, Ild 5, Cst 0 3, Ild 2, CallS 72 1 mM_bits, Imul, Iadd, Ist 7, Cst 0 1, Ild 7, Cst 0 2, Idiv, CallS 76 2 mM_most, Ist 8, Ald 0, Ild 1, Cst 0 0, CallV 68 3 mM_get], Tsw 90 122 84, [(1, 84), (2, 87), (3, 90), (4, 93), (5, 98), (6, 103)]),
  (84, [Ild 6], Tret 84, []),
  (87, [Ild 7], Tret 84, []),
  (90, [Ild 8], Tret 84, []),
  (93, [Ild 8, Cst 0 4, Iadd], Tret 84, []),
  (98, [Ild 6, Cst 0 2, Iadd], Tret 84, []),
  (103, [Ild 4, CallS 72 1 mM_bits, Cst 0 2], Tif 81 119 112, []),
  (112, [Cst 0 2, Ild 5, Imul], Tgoto 121, []),
  (119, [Ild 5], Tfall 121, []),
  (121, [], Tret 84, []),
  (122, [Ild 5], Tret 84, [])]
theorem okM_takesBy : chkM mM_takesBy cfM_takesBy = true := by decide +kernel
def cfM_soundsOf : List BK := [(0, [Ald 0, Ild 1, Cst 0 1, CallV 68 3 mM_get, Cst 0 2, Idiv, Ist 2, Ald 0, Ild 1, Cst 0 0, CallV 68 3 mM_get], Tsw 90 64 48, [(1, 48), (2, 50), (3, 52), (4, 56), (5, 62)]),
  (48, [Cst 0 0], Tret 84, []),
  (50, [Ild 2], Tret 84, []),
  (52, [Ild 2, Cst 0 1, Iadd], Tret 84, []),
  (56, [Cst 0 2, Ild 2, Cst 0 1, Iadd, Imul], Tret 84, []),
  (62, [Cst 0 4], Tret 84, []),
  (64, [Cst 0 2], Tret 84, [])]
theorem okM_soundsOf : chkM mM_soundsOf cfM_soundsOf = true := by decide +kernel
def cfM_mayBy : List BK := [(0, [Ald 0, Ild 1, CallV 79 2 mM_slackBy, Ist 2, Ald 0, Ild 1, CallV 82 2 mM_freeBy, Ist 3, Cst 0 0, Ist 4, Cst 0 0, Ist 5], Tfall 18, []),
  (18, [Ild 5, Ald 0, GfR 9 6 0, Cst 0 3, Iald], Tif 81 60 29, []),
  (29, [Ild 4, Ald 0, Ild 5, Ild 1, Ild 2, Ild 3, CallV 85 5 mM_whyBy], Tif 73 50 43, []),
  (43, [Cst 0 1, Ild 5, Ishl], Tgoto 51, []),
  (50, [Cst 0 0], Tfall 51, []),
  (51, [Ior, Ist 4, Inc 5 1], Tgoto 18, []),
  (60, [Ild 4], Tret 84, [])]
theorem okM_mayBy : chkM mM_mayBy cfM_mayBy = true := by decide +kernel
def cfM_isOut : List BK := [(0, [Ald 0, GfR 9 6 0, Cst 1 6, Iald, Ild 1, Cst 0 (-1), Ixor, Iand], Tif 73 18 14, []),
  (14, [Cst 0 1], Tgoto 19, []),
  (18, [Cst 0 0], Tfall 19, []),
  (19, [], Tret 85, [])]
theorem okM_isOut : chkM mM_isOut cfM_isOut = true := by decide +kernel
def cfM_lock : List BK := [(0, [Ild 1, Cst 0 0, Cst 1 6, CallS 60 3 mM_in1], Tif 73 16 10, []),
  (10, [Ald 0, Cst 0 0, CallV 89 2 mM_no], Tret 84, []),
  (16, [Ald 0, GfR 9 6 0, Cst 0 3, Iald, Cst 1 10], Tif 79 33 27, []),
  (27, [Ald 0, Cst 0 1, CallV 89 2 mM_no], Tret 84, []),
  (33, [Ald 0, Ild 1, CallV 92 2 mM_comes, Ald 0, GfR 9 6 0, Cst 0 3, Iald, Cst 0 1, Isub], Tret 84, [])]
theorem okM_lock : chkM mM_lock cfM_lock = true := by decide +kernel
def cfM_comes : List BK := [(0, [Ald 0, GfR 9 6 0, Cst 0 3, Iald, Ist 2, Cst 0 0, Ist 3], Tfall 9, []),
  (9, [Ild 3, Cst 1 10], Tif 81 28 15, []),
  (15, [Ald 0, Ild 2, Ild 3, Cst 0 0, CallV 96 4 mM_puts, Inc 3 1], Tgoto 9, []),
  (28, [Ald 0, Ild 2, Cst 0 0, Ild 1, CallV 96 4 mM_puts, Ald 0, Ild 2, Cst 0 1, Cst 1 10, CallV 96 4 mM_puts, Ald 0, Ild 2, Cst 0 5, Cst 0 1, CallV 96 4 mM_puts, Ald 0, GfR 9 6 0, Cst 0 2, Dup2, Iald, Cst 0 1, Ild 2, Ishl, Cst 0 (-1), Ixor, Iand, Iast, Ald 0, GfR 9 6 0, Cst 0 3, Dup2, Iald, Cst 0 1, Iadd, Iast], Tret 87, [])]
theorem okM_comes : chkM mM_comes cfM_comes = true := by decide +kernel
def cfM_of : List BK := [(0, [Ald 0, Ild 1, CallV 100 2 mM_isLock], Tif 72 18 8, []),
  (8, [Ild 2, Cst 0 0, Cst 1 12, CallS 60 3 mM_in1], Tif 73 24 18, []),
  (18, [Ald 0, Cst 0 0, CallV 89 2 mM_no], Tret 84, []),
  (24, [Ald 0, GfR 9 6 0, Cst 0 2, Iald, Ist 3, Ild 2, Cst 1 10], Tif 81 46 37, []),
  (37, [Ald 0, Ild 1, Ild 2, CallV 68 3 mM_get], Tgoto 98, []),
  (46, [Ild 2, Cst 1 10], Tif 79 68 52, []),
  (52, [Ild 3, Ild 1, CallS 64 2 mM_isIn], Tif 72 64 60, []),
  (60, [Cst 0 0], Tgoto 98, []),
  (64, [Cst 0 1], Tgoto 98, []),
  (68, [Ild 2, Cst 1 11], Tif 79 93 74, []),
  (74, [Ald 0, Ild 1, Ild 3, Ald 0, Ild 3, CallV 79 2 mM_slackBy, Ald 0, Ild 3, CallV 82 2 mM_freeBy, CallV 104 5 mM_takesBy], Tgoto 98, []),
  (93, [Ald 0, Ild 1, CallV 107 2 mM_soundsOf], Tfall 98, []),
  (98, [], Tret 84, [])]
theorem okM_of : chkM mM_of cfM_of = true := by decide +kernel
def cfM_mostOf : List BK := [(0, [Ild 1], Tsw 90 76 56, [(0, 56), (1, 59), (2, 76), (3, 62), (4, 65), (5, 67), (6, 69), (7, 76), (8, 71), (9, 71)]),
  (56, [Cst 1 6], Tret 84, []),
  (59, [Cst 1 60], Tret 84, []),
  (62, [Cst 1 40], Tret 84, []),
  (65, [Cst 0 3], Tret 84, []),
  (67, [Cst 0 2], Tret 84, []),
  (69, [Cst 0 4], Tret 84, []),
  (71, [Ald 0, CallV 110 1 mM_allLocks], Tret 84, []),
  (76, [Cst 1 9], Tret 84, [])]
theorem okM_mostOf : chkM mM_mostOf cfM_mostOf = true := by decide +kernel
def cfM_change : List BK := [(0, [Ald 0, Ild 1, CallV 100 2 mM_isLock], Tif 72 40 8, []),
  (8, [Ild 2, Cst 0 0, Cst 1 9, CallS 60 3 mM_in1], Tif 72 40 18, []),
  (18, [Ild 3, Ild 2, Cst 0 1], Tif 79 28 24, []),
  (24, [Cst 0 1], Tgoto 29, []),
  (28, [Cst 0 0], Tfall 29, []),
  (29, [Ald 0, Ild 2, CallV 114 2 mM_mostOf, CallS 60 3 mM_in1], Tif 73 46 40, []),
  (40, [Ald 0, Cst 0 0, CallV 89 2 mM_no], Tret 84, []),
  (46, [Ald 0, Ild 1, Ild 2, CallV 68 3 mM_get, Ist 4, Ald 0, Ild 1, Ild 2, Ild 3, CallV 96 4 mM_puts, Ild 4], Tret 84, [])]
theorem okM_change : chkM mM_change cfM_change = true := by decide +kernel
def cfM_rule : List BK := [(0, [Ild 1, Cst 0 0, Cst 0 4, CallS 60 3 mM_in1], Tif 73 15 9, []),
  (9, [Ald 0, Cst 0 0, CallV 89 2 mM_no], Tret 84, []),
  (15, [Ild 2, Cst 0 0, Ild 1], Tif 73 26 21, []),
  (21, [Cst 1 15], Tgoto 50, []),
  (26, [Ild 1, Cst 0 1], Tif 79 36 31, []),
  (31, [Cst 1 40], Tgoto 50, []),
  (36, [Ild 1, Cst 0 2], Tif 79 48 41, []),
  (41, [Ald 0, CallV 110 1 mM_allLocks], Tgoto 50, []),
  (48, [Cst 1 60], Tfall 50, []),
  (50, [CallS 60 3 mM_in1], Tif 73 62 56, []),
  (56, [Ald 0, Cst 0 0, CallV 89 2 mM_no], Tret 84, []),
  (62, [Ald 0, GfR 9 6 0, Cst 0 4, Ild 1, Iadd, Iald, Ist 3, Ald 0, GfR 9 6 0, Cst 0 4, Ild 1, Iadd, Ild 2, Iast, Ild 3], Tret 84, [])]
theorem okM_rule : chkM mM_rule cfM_rule = true := by decide +kernel
def cfM_on : List BK := [(0, [Ald 0, Ild 1, CallV 100 2 mM_isLock], Tif 73 14 8, []),
  (8, [Ald 0, Cst 0 0, CallV 89 2 mM_no], Tret 84, []),
  (14, [Ald 0, GfR 9 6 0, Cst 0 2, Iald, Ist 2, Ald 0, GfR 9 6 0, Cst 0 2, Dup2, Iald, Cst 0 1, Ild 1, Ishl, Cst 0 (-1), Ixor, Iand, Iast, Ild 2, Ald 0, GfR 9 6 0, Cst 0 2, Iald], Tif 79 49 45, []),
  (45, [Cst 0 0], Tgoto 50, []),
  (49, [Cst 0 1], Tfall 50, []),
  (50, [], Tret 84, [])]
theorem okM_on : chkM mM_on cfM_on = true := by decide +kernel
def cfM_shut : List BK := [(0, [Ald 0, GfR 9 6 0, Cst 0 2, Iald, CallS 72 1 mM_bits, Ist 1, Ald 0, GfR 9 6 0, Cst 0 2, Cst 0 0, Iast, Ald 0, GfR 9 6 0, Cst 0 0, Cst 0 0, Iast, Ald 0, GfR 9 6 0, Cst 0 1, Cst 0 0, Iast, Ild 1], Tret 84, [])]
theorem okM_shut : chkM mM_shut cfM_shut = true := by decide +kernel
def cfM_may : List BK := [(0, [Ald 0, Ald 0, GfR 9 6 0, Cst 0 2, Iald, CallV 117 2 mM_mayBy], Tret 84, [])]
theorem okM_may : chkM mM_may cfM_may = true := by decide +kernel
def cfM_why : List BK := [(0, [Ald 0, Ild 1, CallV 100 2 mM_isLock], Tif 72 42 8, []),
  (8, [Ald 0, Ild 1, Ald 0, GfR 9 6 0, Cst 0 2, Iald, Ald 0, Ald 0, GfR 9 6 0, Cst 0 2, Iald, CallV 79 2 mM_slackBy, Ald 0, Ald 0, GfR 9 6 0, Cst 0 2, Iald, CallV 82 2 mM_freeBy, CallV 85 5 mM_whyBy], Tgoto 47, []),
  (42, [Ald 0, Cst 0 0, CallV 89 2 mM_no], Tfall 47, []),
  (47, [], Tret 84, [])]
theorem okM_why : chkM mM_why cfM_why = true := by decide +kernel
def cfM_doesPlay : List BK := [(0, [Ald 0, GfR 9 6 0, Cst 1 7, Iald, Ald 0, GfR 9 6 0, Cst 1 8, Iald, Iadd, Ist 2, Ild 2], Tif 77 37 20, []),
  (20, [Ild 1, Ild 2, Irem, Ald 0, GfR 9 6 0, Cst 1 7, Iald], Tif 81 37 33, []),
  (33, [Cst 0 1], Tgoto 38, []),
  (37, [Cst 0 0], Tfall 38, []),
  (38, [], Tret 85, [])]
theorem okM_doesPlay : chkM mM_doesPlay cfM_doesPlay = true := by decide +kernel
def cfM_takesNow : List BK := [(0, [Ald 0, Ild 1, Ald 0, GfR 9 6 0, Cst 0 2, Iald, Ald 0, Ald 0, GfR 9 6 0, Cst 0 2, Iald, CallV 79 2 mM_slackBy, Ald 0, Ald 0, GfR 9 6 0, Cst 0 2, Iald, CallV 82 2 mM_freeBy, CallV 104 5 mM_takesBy], Tret 84, [])]
theorem okM_takesNow : chkM mM_takesNow cfM_takesNow = true := by decide +kernel
def cfM_comesOff : List BK := [(0, [Ald 0, Ild 1, CallV 120 2 mM_takesNow, Ist 2, Ald 0, GfR 9 6 0, Cst 0 1, Dup2, Iald, Ald 0, Ald 0, GfR 9 6 0, Cst 0 0, Iald, CallV 123 2 mM_doesPlay], Tif 72 30 26, []),
  (26, [Cst 0 0], Tgoto 35, []),
  (30, [Ald 0, Ild 1, CallV 107 2 mM_soundsOf], Tfall 35, []),
  (35, [Iadd, Iast, Ald 0, GfR 9 6 0, Cst 0 0, Dup2, Iald, Ild 2, Iadd, Iast, Ald 0, GfR 9 6 0, Cst 0 2, Dup2, Iald, Cst 0 1, Ild 1, Ishl, Ior, Iast], Tret 87, [])]
theorem okM_comesOff : chkM mM_comesOff cfM_comesOff = true := by decide +kernel
def cfM_off : List BK := [(0, [Ald 0, Ild 1, CallV 100 2 mM_isLock], Tif 73 14 8, []),
  (8, [Ald 0, Cst 0 0, CallV 89 2 mM_no], Tret 84, []),
  (14, [Ald 0, Ild 1, CallV 120 2 mM_takesNow, Ist 2, Ald 0, Ald 0, GfR 9 6 0, Cst 0 2, Iald, CallV 117 2 mM_mayBy, Ild 1, CallS 64 2 mM_isIn], Tif 72 50 37, []),
  (37, [Ald 0, GfR 9 6 0, Cst 0 0, Iald, Ild 2, Iadd, Cst 255 99999], Tif 83 56 50, []),
  (50, [Ald 0, Cst 0 4, CallV 89 2 mM_no], Tret 84, []),
  (56, [Ald 0, Ild 1, CallV 127 2 mM_comesOff, Ild 2], Tret 84, [])]
theorem okM_off : chkM mM_off cfM_off = true := by decide +kernel
def cfM_now : List BK := [(0, [Ild 1], Tsw 90 125 44, [(0, 44), (1, 51), (2, 58), (3, 65), (4, 76), (5, 87), (6, 106)]),
  (44, [Ald 0, GfR 9 6 0, Cst 0 0, Iald], Tret 84, []),
  (51, [Ald 0, GfR 9 6 0, Cst 0 1, Iald], Tret 84, []),
  (58, [Ald 0, GfR 9 6 0, Cst 0 2, Iald], Tret 84, []),
  (65, [Ald 0, Ald 0, GfR 9 6 0, Cst 0 2, Iald, CallV 79 2 mM_slackBy], Tret 84, []),
  (76, [Ald 0, Ald 0, GfR 9 6 0, Cst 0 2, Iald, CallV 82 2 mM_freeBy], Tret 84, []),
  (87, [Ald 0, Ald 0, GfR 9 6 0, Cst 0 2, Iald, CallV 130 2 mM_isOut], Tif 72 104 100, []),
  (100, [Cst 0 1], Tgoto 105, []),
  (104, [Cst 0 0], Tfall 105, []),
  (105, [], Tret 84, []),
  (106, [Ald 0, Ald 0, GfR 9 6 0, Cst 0 0, Iald, CallV 123 2 mM_doesPlay], Tif 72 123 119, []),
  (119, [Cst 0 1], Tgoto 124, []),
  (123, [Cst 0 0], Tfall 124, []),
  (124, [], Tret 84, []),
  (125, [Ald 0, Cst 0 0, CallV 89 2 mM_no], Tret 84, [])]
theorem okM_now : chkM mM_now cfM_now = true := by decide +kernel
def cfM_costs : List BK := [(0, [Ild 1], Tif 73 17 4, []),
  (4, [Ald 0, Ild 2, Ild 3, Ild 4, Ild 5, CallV 104 5 mM_takesBy], Tgoto 31, []),
  (17, [Ild 1, Cst 0 1], Tif 79 30 22, []),
  (22, [Ald 0, Ild 2, CallV 107 2 mM_soundsOf], Tgoto 31, []),
  (30, [Cst 0 1], Tfall 31, []),
  (31, [], Tret 84, [])]
theorem okM_costs : chkM mM_costs cfM_costs = true := by decide +kernel
def cfM_leastFrom : List BK := [(0, [Ald 0, CallV 110 1 mM_allLocks, Ist 3], Tfall 5, []),
  (5, [Ild 3, Ild 1], Tif 80 176 10, []),
  (10, [Ald 0, GfR 22 6 5, Ild 3, Cst 269 99999999, Iast, Ild 1, Ild 3, Cst 0 (-1), Ixor, Iand], Tif 73 44 26, []),
  (26, [Ald 0, Ild 3, CallV 130 2 mM_isOut], Tif 72 44 34, []),
  (34, [Ald 0, GfR 22 6 5, Ild 3, Cst 0 0, Iast], Tgoto 170, []),
  (44, [Ild 1, Ild 3, Cst 0 (-1), Ixor, Iand], Tif 73 170 52, []),
  (52, [Ald 0, Ild 3, CallV 79 2 mM_slackBy, Ist 4, Ald 0, Ild 3, CallV 82 2 mM_freeBy, Ist 5, Cst 0 0, Ist 6], Tfall 69, []),
  (69, [Ild 6, Ald 0, GfR 9 6 0, Cst 0 3, Iald], Tif 81 170 80, []),
  (80, [Ald 0, Ild 6, Ild 3, Ild 4, Ild 5, CallV 85 5 mM_whyBy], Tif 73 164 94, []),
  (94, [Ald 0, GfR 22 6 5, Ild 3, Cst 0 1, Ild 6, Ishl, Ior, Iald, Cst 269 99999999], Tif 81 164 110, []),
  (110, [Ald 0, Ild 2, Ild 6, Ild 3, Ild 4, Ild 5, CallV 134 6 mM_costs, Ald 0, GfR 22 6 5, Ild 3, Cst 0 1, Ild 6, Ishl, Ior, Iald, Iadd, Ist 7, Ald 0, GfR 22 6 5, Ild 3, Ild 7, Ald 0, GfR 22 6 5, Ild 3, Iald], Tif 81 157 152, []),
  (152, [Ild 7], Tgoto 163, []),
  (157, [Ald 0, GfR 22 6 5, Ild 3, Iald], Tfall 163, []),
  (163, [Iast], Tfall 164, []),
  (164, [Inc 6 1], Tgoto 69, []),
  (170, [Inc 3 (-1)], Tgoto 5, []),
  (176, [Ald 0, GfR 22 6 5, Ild 1, Iald], Tret 84, [])]
theorem okM_leastFrom : chkM mM_leastFrom cfM_leastFrom = true := by decide +kernel
def cfM_told1 : List BK := [(0, [Ild 1, Cst 269 99999999], Tif 81 10 6, []),
  (6, [Ild 1], Tgoto 15, []),
  (10, [Ald 0, Cst 0 3, CallV 89 2 mM_no], Tfall 15, []),
  (15, [], Tret 84, [])]
theorem okM_told1 : chkM mM_told1 cfM_told1 = true := by decide +kernel
def cfM_soonest : List BK := [(0, [Ald 0, Ald 0, Ald 0, GfR 9 6 0, Cst 0 2, Iald, Cst 0 0, CallV 138 3 mM_leastFrom, CallV 141 2 mM_told1], Tret 84, [])]
theorem okM_soonest : chkM mM_soonest cfM_soonest = true := by decide +kernel
def cfM_findsRow : List BK := [(0, [Ald 0, Cst 0 0, PfI 144 6 7, Ald 0, GfR 9 6 0, Cst 0 2, Iald, Ist 1, Ald 0, Ild 1, Cst 0 0, CallV 138 3 mM_leastFrom, Cst 269 99999999], Tif 79 25 23, []),
  (23, [Cst 0 0], Tret 85, []),
  (25, [Ald 0, GfR 22 6 5, Ild 1, Iald], Tif 77 180 34, []),
  (34, [Ald 0, Ild 1, CallV 79 2 mM_slackBy, Ist 2, Ald 0, Ild 1, CallV 82 2 mM_freeBy, Ist 3, Cst 0 (-1), Ist 4, Ald 0, GfR 9 6 0, Cst 0 3, Iald, Cst 0 1, Isub, Ist 5], Tfall 59, []),
  (59, [Ild 5], Tif 74 149 64, []),
  (64, [Ald 0, Ild 5, Ild 1, Ild 2, Ild 3, CallV 85 5 mM_whyBy], Tif 73 96 76, []),
  (76, [Ald 0, GfR 22 6 5, Ild 1, Cst 0 1, Ild 5, Ishl, Ior, Iald, Cst 269 99999999], Tif 81 96 92, []),
  (92, [Cst 0 1], Tgoto 97, []),
  (96, [Cst 0 0], Tfall 97, []),
  (97, [Ist 6, Ild 6], Tif 72 139 104, []),
  (104, [Ald 0, Ild 5, Ild 1, Ild 2, Ild 3, CallV 104 5 mM_takesBy, Ald 0, GfR 22 6 5, Ild 1, Cst 0 1, Ild 5, Ishl, Ior, Iald, Iadd, Ald 0, GfR 22 6 5, Ild 1, Iald], Tif 79 139 134, []),
  (134, [Ild 5], Tgoto 141, []),
  (139, [Ild 4], Tfall 141, []),
  (141, [Ist 4, Inc 5 (-1)], Tgoto 59, []),
  (149, [Ald 0, GfR 25 6 6, Ald 0, GfI 144 6 7, Ild 4, Iast, Ald 0, Dup, GfI 144 6 7, Cst 0 1, Iadd, PfI 144 6 7, Ild 1, Cst 0 1, Ild 4, Ishl, Ior, Ist 1], Tgoto 25, []),
  (180, [Cst 0 1], Tret 85, [])]
theorem okM_findsRow : chkM mM_findsRow cfM_findsRow = true := by decide +kernel
def cfM_ith : List BK := [(0, [Ild 1, Cst 0 0, Cst 1 9, CallS 60 3 mM_in1], Tif 73 16 10, []),
  (10, [Ald 0, Cst 0 0, CallV 89 2 mM_no], Tret 84, []),
  (16, [Ald 0, CallV 148 1 mM_findsRow, Ist 2, Ild 2], Tif 72 42 25, []),
  (25, [Ild 1, Ald 0, GfI 144 6 7], Tif 81 42 33, []),
  (33, [Ald 0, GfR 25 6 6, Ild 1, Iald], Tgoto 47, []),
  (42, [Ald 0, Cst 0 3, CallV 89 2 mM_no], Tfall 47, []),
  (47, [], Tret 84, [])]
theorem okM_ith : chkM mM_ith cfM_ith = true := by decide +kernel
def cfM_quietest : List BK := [(0, [Ald 0, Ald 0, Ald 0, GfR 9 6 0, Cst 0 2, Iald, Cst 0 1, CallV 138 3 mM_leastFrom, CallV 141 2 mM_told1], Tret 84, [])]
theorem okM_quietest : chkM mM_quietest cfM_quietest = true := by decide +kernel
def cfM_fewest : List BK := [(0, [Ald 0, Ald 0, Ald 0, GfR 9 6 0, Cst 0 2, Iald, Cst 0 2, CallV 138 3 mM_leastFrom, CallV 141 2 mM_told1], Tret 84, [])]
theorem okM_fewest : chkM mM_fewest cfM_fewest = true := by decide +kernel
def cfM_setsAside : List BK := [(0, [Cst 0 0, Ist 1], Tfall 2, []),
  (2, [Ild 1, Cst 1 120], Tif 81 26 8, []),
  (8, [Ald 0, GfR 16 6 2, Ild 1, Ald 0, GfR 9 6 0, Ild 1, Iald, Iast, Inc 1 1], Tgoto 2, []),
  (26, [], Tret 87, [])]
theorem okM_setsAside : chkM mM_setsAside cfM_setsAside = true := by decide +kernel
def cfM_laysBack : List BK := [(0, [Cst 0 0, Ist 1], Tfall 2, []),
  (2, [Ild 1, Cst 1 120], Tif 81 26 8, []),
  (8, [Ald 0, GfR 9 6 0, Ild 1, Ald 0, GfR 16 6 2, Ild 1, Iald, Iast, Inc 1 1], Tgoto 2, []),
  (26, [], Tret 87, [])]
theorem okM_laysBack : chkM mM_laysBack cfM_laysBack = true := by decide +kernel
def cfM_ahead : List BK := [(0, [Ild 1, Cst 0 0, Cst 0 1, CallS 60 3 mM_in1], Tif 73 15 9, []),
  (9, [Ald 0, Cst 0 0, CallV 89 2 mM_no], Tret 84, []),
  (15, [Ald 0, CallV 148 1 mM_findsRow], Tif 73 28 22, []),
  (22, [Ald 0, Cst 0 3, CallV 89 2 mM_no], Tret 84, []),
  (28, [Ald 0, CallV 152 1 mM_setsAside, Cst 0 0, Ist 2], Tfall 34, []),
  (34, [Ild 2, Ald 0, GfI 144 6 7], Tif 81 58 42, []),
  (42, [Ald 0, Ald 0, GfR 25 6 6, Ild 2, Iald, CallV 127 2 mM_comesOff, Inc 2 1], Tgoto 34, []),
  (58, [Ald 0, GfR 9 6 0, Cst 0 0, Iald, Ist 2, Ald 0, GfR 9 6 0, Cst 0 1, Iald, Ist 3, Ald 0, CallV 155 1 mM_laysBack, Ild 2, Cst 255 99999], Tif 83 88 82, []),
  (82, [Ald 0, Cst 0 4, CallV 89 2 mM_no], Tret 84, []),
  (88, [Ild 1], Tif 73 96 92, []),
  (92, [Ild 2], Tgoto 104, []),
  (96, [Ild 3, Ald 0, GfR 9 6 0, Cst 0 1, Iald, Isub], Tfall 104, []),
  (104, [], Tret 84, [])]
theorem okM_ahead : chkM mM_ahead cfM_ahead = true := by decide +kernel
def cfM_countsWays : List BK := [(0, [Ald 0, GfR 9 6 0, Cst 0 2, Iald, Ist 2, Cst 0 0, Ist 3], Tfall 9, []),
  (9, [Ild 3, Cst 2 1024], Tif 81 38 16, []),
  (16, [Ald 0, GfR 28 6 8, Ild 3, Ild 3, Ild 2], Tif 79 30 26, []),
  (26, [Cst 0 1], Tgoto 31, []),
  (30, [Cst 0 0], Tfall 31, []),
  (31, [Iast, Inc 3 1], Tgoto 9, []),
  (38, [Ild 2, Ist 3], Tfall 40, []),
  (40, [Ild 3, Ald 0, CallV 110 1 mM_allLocks], Tif 82 140 48, []),
  (48, [Ald 0, GfR 28 6 8, Ild 3, Iald], Tif 72 69 57, []),
  (57, [Ild 1], Tif 72 73 61, []),
  (61, [Ald 0, Ild 3, CallV 130 2 mM_isOut], Tif 72 73 69, []),
  (69, [Cst 0 0], Tgoto 78, []),
  (73, [Ald 0, Ild 3, CallV 117 2 mM_mayBy], Tfall 78, []),
  (78, [Ist 4, Cst 0 0, Ist 5], Tfall 83, []),
  (83, [Ild 5, Ald 0, GfR 9 6 0, Cst 0 3, Iald], Tif 81 134 94, []),
  (94, [Ald 0, GfR 28 6 8, Ild 3, Cst 0 1, Ild 5, Ishl, Ior, Dup2, Iald, Ild 4, Ild 5, CallS 64 2 mM_isIn], Tif 72 125 116, []),
  (116, [Ald 0, GfR 28 6 8, Ild 3, Iald], Tgoto 126, []),
  (125, [Cst 0 0], Tfall 126, []),
  (126, [Iadd, Iast, Inc 5 1], Tgoto 83, []),
  (134, [Inc 3 1], Tgoto 40, []),
  (140, [], Tret 87, [])]
theorem okM_countsWays : chkM mM_countsWays cfM_countsWays = true := by decide +kernel
def cfM_ever : List BK := [(0, [Ald 0, Cst 0 0, CallV 158 2 mM_countsWays, Cst 0 0, Ist 1, Cst 0 0, Ist 2], Tfall 9, []),
  (9, [Ild 2, Cst 2 1024], Tif 81 39 16, []),
  (16, [Ild 1, Ald 0, GfR 28 6 8, Ild 2, Iald], Tif 77 30 26, []),
  (26, [Ild 2], Tgoto 31, []),
  (30, [Cst 0 0], Tfall 31, []),
  (31, [Ior, Ist 1, Inc 2 1], Tgoto 9, []),
  (39, [Ild 1, Ald 0, GfR 9 6 0, Cst 0 2, Iald, Cst 0 (-1), Ixor, Iand], Tret 84, [])]
theorem okM_ever : chkM mM_ever cfM_ever = true := by decide +kernel
def cfM_states : List BK := [(0, [Ald 0, Cst 0 0, CallV 158 2 mM_countsWays, Cst 0 0, Ist 1, Cst 0 0, Ist 2], Tfall 9, []),
  (9, [Ild 2, Cst 2 1024], Tif 81 39 16, []),
  (16, [Ild 1, Ald 0, GfR 28 6 8, Ild 2, Iald], Tif 77 30 26, []),
  (26, [Cst 0 1], Tgoto 31, []),
  (30, [Cst 0 0], Tfall 31, []),
  (31, [Iadd, Ist 1, Inc 2 1], Tgoto 9, []),
  (39, [Ild 1], Tret 84, [])]
theorem okM_states : chkM mM_states cfM_states = true := by decide +kernel
def cfM_rows : List BK := [(0, [Ald 0, Cst 0 1, CallV 158 2 mM_countsWays, Cst 0 0, Ist 1, Cst 0 0, Ist 2], Tfall 9, []),
  (9, [Ild 2, Cst 2 1024], Tif 81 43 16, []),
  (16, [Ild 1, Ald 0, Ild 2, CallV 130 2 mM_isOut], Tif 72 34 25, []),
  (25, [Ald 0, GfR 28 6 8, Ild 2, Iald], Tgoto 35, []),
  (34, [Cst 0 0], Tfall 35, []),
  (35, [Iadd, Ist 1, Inc 2 1], Tgoto 9, []),
  (43, [Ild 1], Tret 84, [])]
theorem okM_rows : chkM mM_rows cfM_rows = true := by decide +kernel
def cfM_tools : List BK := [(0, [Ald 0, GfR 9 6 0, Cst 0 4, Iald, Ist 1, Cst 0 (-1), Ist 2, Cst 0 0, Ist 3], Tfall 11, []),
  (11, [Ild 3, Cst 1 16], Tif 81 67 17, []),
  (17, [Ild 2], Tif 74 32 21, []),
  (21, [Ild 3, CallS 72 1 mM_bits, Ild 2, CallS 72 1 mM_bits], Tif 81 61 32, []),
  (32, [Ald 0, GfR 9 6 0, Cst 0 4, Ild 3, Iast, Ald 0, Ald 0, GfR 9 6 0, Cst 0 2, Iald, Cst 0 2, CallV 138 3 mM_leastFrom, Cst 269 99999999], Tif 81 59 55, []),
  (55, [Ild 3], Tgoto 60, []),
  (59, [Ild 2], Tfall 60, []),
  (60, [Ist 2], Tfall 61, []),
  (61, [Inc 3 1], Tgoto 11, []),
  (67, [Ald 0, GfR 9 6 0, Cst 0 4, Ild 1, Iast, Ild 2], Tif 75 86 78, []),
  (78, [Ald 0, Cst 0 3, CallV 89 2 mM_no], Tgoto 87, []),
  (86, [Ild 2], Tfall 87, []),
  (87, [], Tret 84, [])]
theorem okM_tools : chkM mM_tools cfM_tools = true := by decide +kernel
def cfM_spare : List BK := [(0, [Ald 0, GfR 9 6 0, Cst 0 5, Iald, Ist 1, Cst 0 0, Ist 2, Cst 0 0, Ist 3], Tfall 11, []),
  (11, [Ild 2, Cst 1 40], Tif 82 65 17, []),
  (17, [Ild 3], Tif 73 65 21, []),
  (21, [Ald 0, GfR 9 6 0, Cst 0 5, Ild 2, Iast, Ald 0, Ald 0, GfR 9 6 0, Cst 0 2, Iald, Cst 0 2, CallV 138 3 mM_leastFrom, Cst 269 99999999], Tif 81 48 44, []),
  (44, [Cst 0 1], Tgoto 49, []),
  (48, [Cst 0 0], Tfall 49, []),
  (49, [Ist 3, Ild 2, Ild 3], Tif 72 59 55, []),
  (55, [Cst 0 0], Tgoto 60, []),
  (59, [Cst 0 1], Tfall 60, []),
  (60, [Iadd, Ist 2], Tgoto 11, []),
  (65, [Ald 0, GfR 9 6 0, Cst 0 5, Ild 1, Iast, Ild 3], Tif 72 80 76, []),
  (76, [Ild 2], Tgoto 85, []),
  (80, [Ald 0, Cst 0 3, CallV 89 2 mM_no], Tfall 85, []),
  (85, [], Tret 84, [])]
theorem okM_spare : chkM mM_spare cfM_spare = true := by decide +kernel
def cfM_wire : List BK := [(0, [Cst 0 (-1), Ist 1, Cst 269 99999999, Ist 2, Cst 0 0, Ist 3], Tfall 7, []),
  (7, [Ild 3, Ald 0, GfR 9 6 0, Cst 0 3, Iald], Tif 81 83 17, []),
  (17, [Ald 0, GfR 9 6 0, Cst 0 2, Iald, Ild 3, CallS 64 2 mM_isIn], Tif 72 35 30, []),
  (30, [Cst 269 99999999], Tgoto 50, []),
  (35, [Ald 0, Ald 0, GfR 9 6 0, Cst 0 2, Iald, Cst 0 1, Ild 3, Ishl, Ior, Cst 0 0, CallV 138 3 mM_leastFrom], Tfall 50, []),
  (50, [Ist 4, Ild 4, Ild 2], Tif 81 62 58, []),
  (58, [Ild 3], Tgoto 63, []),
  (62, [Ild 1], Tfall 63, []),
  (63, [Ist 1, Ild 4, Ild 2], Tif 81 75 70, []),
  (70, [Ild 4], Tgoto 76, []),
  (75, [Ild 2], Tfall 76, []),
  (76, [Ist 2, Inc 3 1], Tgoto 7, []),
  (83, [Ild 1], Tif 75 95 87, []),
  (87, [Ald 0, Cst 0 3, CallV 89 2 mM_no], Tgoto 96, []),
  (95, [Ild 1], Tfall 96, []),
  (96, [], Tret 84, [])]
theorem okM_wire : chkM mM_wire cfM_wire = true := by decide +kernel
def cfM_kindFor : List BK := [(0, [Ald 0, Ild 1, CallV 100 2 mM_isLock], Tif 73 14 8, []),
  (8, [Ald 0, Cst 0 0, CallV 89 2 mM_no], Tret 84, []),
  (14, [Ald 0, Ild 1, Cst 0 0, CallV 68 3 mM_get, Ist 2, Cst 0 (-1), Ist 3, Cst 269 99999999, Ist 4, Cst 0 0, Ist 5], Tfall 30, []),
  (30, [Ild 5, Cst 1 6], Tif 82 94 37, []),
  (37, [Ald 0, Ild 1, Cst 0 0, Ild 5, CallV 96 4 mM_puts, Ald 0, Ald 0, GfR 9 6 0, Cst 0 2, Iald, Cst 0 0, CallV 138 3 mM_leastFrom, Ist 6, Ild 6, Ild 4], Tif 81 70 65, []),
  (65, [Ild 5], Tgoto 71, []),
  (70, [Ild 3], Tfall 71, []),
  (71, [Ist 3, Ild 6, Ild 4], Tif 81 84 79, []),
  (79, [Ild 6], Tgoto 86, []),
  (84, [Ild 4], Tfall 86, []),
  (86, [Ist 4, Inc 5 1], Tgoto 30, []),
  (94, [Ald 0, Ild 1, Cst 0 0, Ild 2, CallV 96 4 mM_puts, Ild 3], Tif 75 113 105, []),
  (105, [Ald 0, Cst 0 3, CallV 89 2 mM_no], Tgoto 114, []),
  (113, [Ild 3], Tfall 114, []),
  (114, [], Tret 84, [])]
theorem okM_kindFor : chkM mM_kindFor cfM_kindFor = true := by decide +kernel
def cfM_bestLink : List BK := [(0, [Cst 0 (-1), Ist 1, Ald 0, Cst 0 (-1), PfI 162 6 9, Cst 0 0, Ist 2], Tfall 9, []),
  (9, [Ild 2, Cst 1 10, Ald 0, GfR 9 6 0, Cst 0 3, Iald, Imul], Tif 81 163 22, []),
  (22, [Ild 2, Cst 1 10, Idiv, Ist 3, Ild 2, Cst 1 10, Irem, Ist 4, Ald 0, Ild 3, Cst 1 8, CallV 68 3 mM_get, Ist 5, Ild 3, Ild 4], Tif 78 157 48, []),
  (48, [Ild 4, Ald 0, GfR 9 6 0, Cst 0 3, Iald], Tif 81 157 59, []),
  (59, [Ild 5, Ild 4, CallS 64 2 mM_isIn], Tif 73 157 69, []),
  (69, [Ald 0, Ild 3, Cst 1 8, Ild 5, Cst 0 1, Ild 4, Ishl, Ior, CallV 96 4 mM_puts, Ald 0, Ald 0, GfR 9 6 0, Cst 0 2, Iald, Cst 0 0, CallV 138 3 mM_leastFrom, Ist 6, Ald 0, Ild 3, Cst 1 8, Ild 5, CallV 96 4 mM_puts, Ild 6, Cst 269 99999999], Tif 81 125 112, []),
  (112, [Ild 6, Ald 0, GfI 162 6 9], Tif 83 125 121, []),
  (121, [Cst 0 1], Tgoto 126, []),
  (125, [Cst 0 0], Tfall 126, []),
  (126, [Ist 7, Ild 7], Tif 72 137 133, []),
  (133, [Ild 2], Tgoto 138, []),
  (137, [Ild 1], Tfall 138, []),
  (138, [Ist 1, Ald 0, Ild 7], Tif 72 150 145, []),
  (145, [Ild 6], Tgoto 154, []),
  (150, [Ald 0, GfI 162 6 9], Tfall 154, []),
  (154, [PfI 162 6 9], Tfall 157, []),
  (157, [Inc 2 1], Tgoto 9, []),
  (163, [Ild 1], Tret 84, [])]
theorem okM_bestLink : chkM mM_bestLink cfM_bestLink = true := by decide +kernel
def cfM_link : List BK := [(0, [Ald 0, CallV 165 1 mM_bestLink, Ist 1, Ild 1], Tif 75 17 9, []),
  (9, [Ald 0, Cst 0 3, CallV 89 2 mM_no], Tgoto 18, []),
  (17, [Ild 1], Tfall 18, []),
  (18, [], Tret 84, [])]
theorem okM_link : chkM mM_link cfM_link = true := by decide +kernel
def cfM_linked : List BK := [(0, [Ald 0, CallV 165 1 mM_bestLink, Ist 1, Ild 1], Tif 75 17 9, []),
  (9, [Ald 0, Cst 0 3, CallV 89 2 mM_no], Tgoto 21, []),
  (17, [Ald 0, GfI 162 6 9], Tfall 21, []),
  (21, [], Tret 84, [])]
theorem okM_linked : chkM mM_linked cfM_linked = true := by decide +kernel
def cfM_spared : List BK := [(0, [Ald 0, GfR 9 6 0, Cst 1 6, Iald, Ist 1, Cst 0 (-1), Ist 2, Cst 269 99999999, Ist 3, Cst 0 0, Ist 4], Tfall 16, []),
  (16, [Ild 4, Ald 0, GfR 9 6 0, Cst 0 3, Iald], Tif 81 96 27, []),
  (27, [Ild 1, Ild 4, CallS 64 2 mM_isIn], Tif 72 90 36, []),
  (36, [Ald 0, GfR 9 6 0, Cst 1 6, Ild 1, Cst 0 1, Ild 4, Ishl, Cst 0 (-1), Ixor, Iand, Iast, Ald 0, Ald 0, GfR 9 6 0, Cst 0 2, Iald, Cst 0 0, CallV 138 3 mM_leastFrom, Ist 5, Ild 5, Ild 3], Tif 81 75 70, []),
  (70, [Ild 4], Tgoto 76, []),
  (75, [Ild 2], Tfall 76, []),
  (76, [Ist 2, Ild 5, Ild 3], Tif 81 88 83, []),
  (83, [Ild 5], Tgoto 89, []),
  (88, [Ild 3], Tfall 89, []),
  (89, [Ist 3], Tfall 90, []),
  (90, [Inc 4 1], Tgoto 16, []),
  (96, [Ald 0, GfR 9 6 0, Cst 1 6, Ild 1, Iast, Ild 2], Tif 75 116 108, []),
  (108, [Ald 0, Cst 0 3, CallV 89 2 mM_no], Tgoto 117, []),
  (116, [Ild 2], Tfall 117, []),
  (117, [], Tret 84, [])]
theorem okM_spared : chkM mM_spared cfM_spared = true := by decide +kernel
def cfM_surest : List BK := [(0, [Ild 1, Cst 0 0, Cst 0 1, CallS 60 3 mM_in1], Tif 73 16 9, []),
  (9, [Ald 0, Cst 0 0, CallV 89 2 mM_no, I2l], Tret 86, []),
  (16, [Ald 0, Cst 0 0, CallV 158 2 mM_countsWays, LC 0 1, Lst 2, Cst 0 0, Ist 4], Tfall 26, []),
  (26, [Ild 4, Cst 1 10], Tif 81 45 33, []),
  (33, [Lld 2, LC 168 10, Lmul, Lst 2, Inc 4 1], Tgoto 26, []),
  (45, [LC 0 0, Lst 4, Cst 0 0, Ist 6], Tfall 51, []),
  (51, [Ild 6, Cst 2 1024], Tif 81 169 59, []),
  (59, [Lld 2, Lst 7, Cst 0 0, Ist 9], Tfall 65, []),
  (65, [Ild 9, Ald 0, GfR 9 6 0, Cst 0 3, Iald], Tif 81 127 76, []),
  (76, [Ild 6, Ald 0, GfR 9 6 0, Cst 0 2, Iald, Cst 0 (-1), Ixor, Iand, Ild 9, CallS 64 2 mM_isIn], Tif 72 117 95, []),
  (95, [Lld 7, LC 168 10, Ldiv, Cst 1 10, Ald 0, Ild 9, Cst 1 7, CallV 68 3 mM_get, Isub, I2l, Lmul], Tgoto 119, []),
  (117, [Lld 7], Tfall 119, []),
  (119, [Lst 7, Inc 9 1], Tgoto 65, []),
  (127, [Ald 0, GfR 28 6 8, Ild 6, Iald], Tif 77 159 137, []),
  (137, [Ald 0, Ild 6, CallV 130 2 mM_isOut], Tif 72 159 146, []),
  (146, [Lld 7, Lld 4, Lcmp], Tif 77 159 154, []),
  (154, [Lld 7], Tgoto 161, []),
  (159, [Lld 4], Tfall 161, []),
  (161, [Lst 4, Inc 6 1], Tgoto 51, []),
  (169, [Lld 4, LC 0 0, Lcmp], Tif 73 183 176, []),
  (176, [Ald 0, Cst 0 3, CallV 89 2 mM_no, I2l], Tret 86, []),
  (183, [Lld 4, Lst 6, Lld 2, Lst 8], Tfall 190, []),
  (190, [Lld 8, LC 0 0, Lcmp], Tif 72 215 197, []),
  (197, [Lld 6, Lld 8, Lrem, Lst 10, Lld 8, Lst 6, Lld 10, Lst 8], Tgoto 190, []),
  (215, [Ild 1], Tif 73 227 219, []),
  (219, [Lld 4, Lld 6, Ldiv], Tgoto 231, []),
  (227, [Lld 2, Lld 6, Ldiv], Tfall 231, []),
  (231, [], Tret 86, [])]
theorem okM_surest : chkM mM_surest cfM_surest = true := by decide +kernel
def cfM_isSheet : List BK := [(0, [Ild 0, Cst 0 0, Cst 0 3, CallS 60 3 mM_in1], Tret 85, [])]
theorem okM_isSheet : chkM mM_isSheet cfM_isSheet = true := by decide +kernel
def cfM_heardLocks : List BK := [(0, [Ald 0, Ild 2, CallV 117 2 mM_mayBy, Ist 3, Cst 0 0, Ist 4, Cst 0 0, Ist 5], Tfall 12, []),
  (12, [Ild 5, Ald 0, GfR 9 6 0, Cst 0 3, Iald], Tif 81 61 23, []),
  (23, [Ild 4, Ild 3, Ild 5, CallS 64 2 mM_isIn], Tif 72 51 34, []),
  (34, [Ald 0, Ild 5, CallV 107 2 mM_soundsOf, Ild 1], Tif 79 51 44, []),
  (44, [Cst 0 1, Ild 5, Ishl], Tgoto 52, []),
  (51, [Cst 0 0], Tfall 52, []),
  (52, [Ior, Ist 4, Inc 5 1], Tgoto 12, []),
  (61, [Ild 4], Tret 84, [])]
theorem okM_heardLocks : chkM mM_heardLocks cfM_heardLocks = true := by decide +kernel
def cfM_countsHeard : List BK := [(0, [Ald 0, GfR 50 6 21, Ild 1, Iald, Cst 1 8], Tif 81 20 11, []),
  (11, [Ald 0, GfR 50 6 21, Ild 1, Iald], Tgoto 22, []),
  (20, [Cst 1 8], Tfall 22, []),
  (22, [Ist 2, Cst 0 0, Ist 3], Tfall 25, []),
  (25, [Ild 3, Cst 2 1024], Tif 81 59 32, []),
  (32, [Ald 0, GfR 28 6 8, Ild 3, Ild 3, Ald 0, GfR 9 6 0, Cst 0 2, Iald], Tif 79 51 47, []),
  (47, [Cst 0 1], Tgoto 52, []),
  (51, [Cst 0 0], Tfall 52, []),
  (52, [Iast, Inc 3 1], Tgoto 25, []),
  (59, [Ald 0, GfR 9 6 0, Cst 0 2, Iald, CallS 72 1 mM_bits, Ist 3, Cst 0 0, Ist 4], Tfall 72, []),
  (72, [Ild 4, Ild 2], Tif 81 250 78, []),
  (78, [Ald 0, CallV 110 1 mM_allLocks, Ist 5], Tfall 84, []),
  (84, [Ild 5], Tif 74 197 89, []),
  (89, [Ald 0, GfR 28 6 8, Ild 5, Iald], Tif 72 111 99, []),
  (99, [Ild 5, CallS 72 1 mM_bits, Ild 3, Ild 4, Iadd], Tif 78 115 111, []),
  (111, [Cst 0 0], Tgoto 133, []),
  (115, [Ald 0, Ald 0, GfR 53 6 22, Cst 1 40, Ild 1, Imul, Ild 4, Iadd, Iald, Ild 5, CallV 170 3 mM_heardLocks], Tfall 133, []),
  (133, [Ist 6, Cst 0 0, Ist 7], Tfall 138, []),
  (138, [Ild 7, Ald 0, GfR 9 6 0, Cst 0 3, Iald], Tif 81 191 149, []),
  (149, [Ald 0, GfR 28 6 8, Ild 5, Cst 0 1, Ild 7, Ishl, Ior, Dup2, Iald, Ild 6, Ild 7, CallS 64 2 mM_isIn], Tif 72 182 172, []),
  (172, [Ald 0, GfR 28 6 8, Ild 5, Iald], Tgoto 183, []),
  (182, [Cst 0 0], Tfall 183, []),
  (183, [Iadd, Iast, Inc 7 1], Tgoto 138, []),
  (191, [Inc 5 (-1)], Tgoto 84, []),
  (197, [Cst 0 0, Ist 5], Tfall 200, []),
  (200, [Ild 5, Cst 2 1024], Tif 81 244 208, []),
  (208, [Ald 0, GfR 28 6 8, Ild 5, Ild 5, CallS 72 1 mM_bits, Ild 3, Ild 4, Iadd], Tif 79 230 226, []),
  (226, [Cst 0 0], Tgoto 237, []),
  (230, [Ald 0, GfR 28 6 8, Ild 5, Iald], Tfall 237, []),
  (237, [Iast, Inc 5 1], Tgoto 200, []),
  (244, [Inc 4 1], Tgoto 72, []),
  (250, [], Tret 87, [])]
theorem okM_countsHeard : chkM mM_countsHeard cfM_countsHeard = true := by decide +kernel
def cfM_wrongSheet : List BK := [(0, [Ild 1, CallS 173 1 mM_isSheet], Tif 73 11 7, []),
  (7, [Cst 0 0], Tgoto 25, []),
  (11, [Ald 0, GfR 47 6 20, Ild 1, Iald], Tif 73 24 20, []),
  (20, [Cst 0 5], Tgoto 25, []),
  (24, [Cst 0 (-1)], Tfall 25, []),
  (25, [], Tret 84, [])]
theorem okM_wrongSheet : chkM mM_wrongSheet cfM_wrongSheet = true := by decide +kernel
def cfM_fits : List BK := [(0, [Ald 0, Ild 1, CallV 176 2 mM_wrongSheet, Ist 2, Ild 2], Tif 74 16 10, []),
  (10, [Ald 0, Ild 2, CallV 89 2 mM_no], Tret 84, []),
  (16, [Ald 0, Ild 1, CallV 179 2 mM_countsHeard, Cst 0 0, Ist 3, Cst 0 0, Ist 4], Tfall 26, []),
  (26, [Ild 4, Cst 2 1024], Tif 81 50 34, []),
  (34, [Ild 3, Ald 0, GfR 28 6 8, Ild 4, Iald, Iadd, Ist 3, Inc 4 1], Tgoto 26, []),
  (50, [Ild 3], Tret 84, [])]
theorem okM_fits : chkM mM_fits cfM_fits = true := by decide +kernel
def cfM_heardSet : List BK := [(0, [Ald 0, Ild 1, CallV 179 2 mM_countsHeard, Cst 0 0, Ist 3, Cst 2 1023, Ist 4, Cst 0 0, Ist 5, Cst 0 0, Ist 6], Tfall 18, []),
  (18, [Ild 6, Cst 2 1024], Tif 81 95 26, []),
  (26, [Ild 3, Ald 0, GfR 28 6 8, Ild 6, Iald], Tif 77 42 37, []),
  (37, [Ild 6], Tgoto 43, []),
  (42, [Cst 0 0], Tfall 43, []),
  (43, [Ior, Ist 3, Ild 4, Ald 0, GfR 28 6 8, Ild 6, Iald], Tif 77 62 57, []),
  (57, [Ild 6], Tgoto 64, []),
  (62, [Ild 4], Tfall 64, []),
  (64, [Iand, Ist 4, Ild 5], Tif 73 82 72, []),
  (72, [Ald 0, GfR 28 6 8, Ild 6, Iald], Tif 77 86 82, []),
  (82, [Cst 0 1], Tgoto 87, []),
  (86, [Cst 0 0], Tfall 87, []),
  (87, [Ist 5, Inc 6 1], Tgoto 18, []),
  (95, [Ild 5], Tif 73 104 100, []),
  (100, [Cst 0 (-1)], Tgoto 114, []),
  (104, [Ild 2], Tif 72 113 108, []),
  (108, [Ild 4], Tgoto 114, []),
  (113, [Ild 3], Tfall 114, []),
  (114, [], Tret 84, [])]
theorem okM_heardSet : chkM mM_heardSet cfM_heardSet = true := by decide +kernel
def cfM_heardTold : List BK := [(0, [Ald 0, Ild 1, CallV 176 2 mM_wrongSheet, Ist 3, Ild 3], Tif 74 14 10, []),
  (10, [Cst 0 (-1)], Tgoto 20, []),
  (14, [Ald 0, Ild 1, Ild 2, CallV 182 3 mM_heardSet], Tfall 20, []),
  (20, [Ist 4, Ild 3], Tif 74 34 26, []),
  (26, [Ald 0, Ild 3, CallV 89 2 mM_no], Tgoto 49, []),
  (34, [Ild 4], Tif 75 47 39, []),
  (39, [Ald 0, Cst 0 3, CallV 89 2 mM_no], Tgoto 49, []),
  (47, [Ild 4], Tfall 49, []),
  (49, [], Tret 84, [])]
theorem okM_heardTold : chkM mM_heardTold cfM_heardTold = true := by decide +kernel
def cfM_maybe : List BK := [(0, [Ald 0, Ild 1, Cst 0 0, CallV 186 3 mM_heardTold], Tret 84, [])]
theorem okM_maybe : chkM mM_maybe cfM_maybe = true := by decide +kernel
def cfM_surely : List BK := [(0, [Ald 0, Ild 1, Cst 0 1, CallV 186 3 mM_heardTold], Tret 84, [])]
theorem okM_surely : chkM mM_surely cfM_surely = true := by decide +kernel
def cfM_hear : List BK := [(0, [Ild 1, Cst 0 0, Cst 1 99, CallS 60 3 mM_in1], Tif 72 24 10, []),
  (10, [Ald 0, Ild 1, Ald 0, GfR 9 6 0, Cst 0 2, Iald, CallV 170 3 mM_heardLocks], Tgoto 29, []),
  (24, [Ald 0, Cst 0 0, CallV 89 2 mM_no], Tfall 29, []),
  (29, [], Tret 84, [])]
theorem okM_hear : chkM mM_hear cfM_hear = true := by decide +kernel
def cfM_draw : List BK := [(0, [Ald 0, GfR 9 6 0, Cst 1 9, Ald 0, GfR 9 6 0, Cst 1 9, Iald, Cst 381 1103515245, Imul, Cst 2 12345, Iadd, Iast, Ald 0, GfR 9 6 0, Cst 1 9, Iald, Cst 1 8, Iushr], Tret 84, [])]
theorem okM_draw : chkM mM_draw cfM_draw = true := by decide +kernel
def cfM_nthOf : List BK := [(0, [Ild 1, Ist 3, Cst 0 0, Ist 4], Tfall 5, []),
  (5, [Ild 4, Ild 2], Tif 81 23 11, []),
  (11, [Ild 3, Ild 3, Cst 0 1, Isub, Iand, Ist 3, Inc 4 1], Tgoto 5, []),
  (23, [Cst 0 0, Ist 4], Tfall 26, []),
  (26, [Ild 3, Ild 4, CallS 64 2 mM_isIn], Tif 73 41 35, []),
  (35, [Inc 4 1], Tgoto 26, []),
  (41, [Ild 4], Tret 84, [])]
theorem okM_nthOf : chkM mM_nthOf cfM_nthOf = true := by decide +kernel
def cfM_friday : List BK := [(0, [Ild 1, Cst 0 1, Cst 1 20, CallS 60 3 mM_in1], Tif 73 16 10, []),
  (10, [Ald 0, Cst 0 0, CallV 89 2 mM_no], Tret 84, []),
  (16, [Ald 0, GfR 9 6 0, Cst 0 3, Iald], Tif 73 31 25, []),
  (25, [Ald 0, Cst 0 4, CallV 89 2 mM_no], Tret 84, []),
  (31, [Ald 0, CallV 190 1 mM_shut, Ist 2, Ild 2], Tif 75 44 40, []),
  (40, [Ild 2], Tgoto 45, []),
  (44, [Cst 0 0], Tfall 45, []),
  (45, [Ist 3, Ald 0, Cst 0 0, CallV 117 2 mM_mayBy, Ist 4, Cst 0 0, Ist 5], Tfall 56, []),
  (56, [Ild 5, Ild 1], Tif 81 155 62, []),
  (62, [Ild 4], Tif 72 155 67, []),
  (67, [Ald 0, Ald 0, GfR 9 6 0, Cst 0 2, Iald, CallV 130 2 mM_isOut], Tif 73 155 80, []),
  (80, [Ald 0, Ild 4, Ald 0, CallV 193 1 mM_draw, Ild 4, CallS 72 1 mM_bits, Irem, CallV 196 3 mM_nthOf, Ist 6, Ald 0, CallV 193 1 mM_draw, Cst 1 10, Irem, Ald 0, Ild 6, Cst 1 7, CallV 68 3 mM_get], Tif 81 120 116, []),
  (116, [Cst 0 1], Tgoto 121, []),
  (120, [Cst 0 0], Tfall 121, []),
  (121, [Ist 7, Ild 7], Tif 73 137 128, []),
  (128, [Ald 0, Ild 6, CallV 127 2 mM_comesOff, Inc 3 1], Tfall 137, []),
  (137, [Ald 0, Ald 0, GfR 9 6 0, Cst 0 2, Iald, CallV 117 2 mM_mayBy, Ist 4, Inc 5 1], Tgoto 56, []),
  (155, [Ild 3], Tret 84, [])]
theorem okM_friday : chkM mM_friday cfM_friday = true := by decide +kernel
def cfM_seed : List BK := [(0, [Ald 0, GfR 9 6 0, Cst 1 9, Iald, Ist 2, Ald 0, GfR 9 6 0, Cst 1 9, Ild 1, Iast, Ild 2], Tret 84, [])]
theorem okM_seed : chkM mM_seed cfM_seed = true := by decide +kernel
def cfM_feed : List BK := [(0, [Ild 2, Cst 0 1, Cst 0 4, CallS 60 3 mM_in1], Tif 73 15 9, []),
  (9, [Ald 0, Cst 0 0, CallV 89 2 mM_no], Tret 84, []),
  (15, [Ald 0, GfI 199 6 11, Ild 2, Iadd, Cst 1 120], Tif 83 32 26, []),
  (26, [Ald 0, Cst 0 1, CallV 89 2 mM_no], Tret 84, []),
  (32, [Ild 2, Cst 0 1, Isub, Ist 3], Tfall 36, []),
  (36, [Ild 3], Tif 74 75 40, []),
  (40, [Ald 0, GfR 31 6 10, Ald 0, GfI 199 6 11, Ild 1, Cst 1 8, Ild 3, Imul, Ishr, Cst 2 255, Iand, Iast, Ald 0, Dup, GfI 199 6 11, Cst 0 1, Iadd, PfI 199 6 11, Inc 3 (-1)], Tgoto 36, []),
  (75, [Ald 0, GfI 199 6 11], Tret 84, [])]
theorem okM_feed : chkM mM_feed cfM_feed = true := by decide +kernel
def cfM_wipe : List BK := [(0, [Ald 0, GfI 199 6 11, Ist 1, Ald 0, Cst 0 0, PfI 199 6 11, Ild 1], Tret 84, [])]
theorem okM_wipe : chkM mM_wipe cfM_wipe = true := by decide +kernel
def cfM_isLetter : List BK := [(0, [Ild 0, Cst 1 97, Cst 1 122, CallS 60 3 mM_in1], Tret 85, [])]
theorem okM_isLetter : chkM mM_isLetter cfM_isLetter = true := by decide +kernel
def cfM_isDigit : List BK := [(0, [Ild 0, Cst 1 48, Cst 1 57, CallS 60 3 mM_in1], Tret 85, [])]
theorem okM_isDigit : chkM mM_isDigit cfM_isDigit = true := by decide +kernel
def cfM_nextToken : List BK := [(0, [Ald 0, Ald 0, GfI 202 6 14, PfI 205 6 13], Tfall 8, []),
  (8, [Ald 0, GfI 205 6 13, Ald 0, GfI 199 6 11], Tif 81 46 19, []),
  (19, [Ald 0, GfR 31 6 10, Ald 0, GfI 205 6 13, Iald, Cst 1 32], Tif 79 46 33, []),
  (33, [Ald 0, Dup, GfI 205 6 13, Cst 0 1, Iadd, PfI 205 6 13], Tgoto 8, []),
  (46, [Ald 0, Ald 0, GfI 205 6 13, PfI 202 6 14, Ald 0, LC 0 0, PfL 208 6 15, Ald 0, GfI 205 6 13, Ald 0, GfI 199 6 11], Tif 79 78 70, []),
  (70, [Ald 0, Cst 0 0, PfI 212 6 12], Tgoto 337, []),
  (78, [Ald 0, GfR 31 6 10, Ald 0, GfI 205 6 13, Iald, CallS 215 1 mM_isLetter], Tif 72 182 93, []),
  (93, [Ald 0, Cst 0 1, PfI 212 6 12], Tfall 98, []),
  (98, [Ald 0, GfI 202 6 14, Ald 0, GfI 199 6 11], Tif 81 337 109, []),
  (109, [Ald 0, GfR 31 6 10, Ald 0, GfI 202 6 14, Iald, CallS 215 1 mM_isLetter], Tif 72 337 124, []),
  (124, [Ald 0, Ald 0, GfL 208 6 15, LC 218 99999999999, Lcmp], Tif 77 143 136, []),
  (136, [Ald 0, GfL 208 6 15], Tgoto 166, []),
  (143, [Ald 0, GfL 208 6 15, LC 220 27, Lmul, Ald 0, GfR 31 6 10, Ald 0, GfI 202 6 14, Iald, I2l, Ladd, LC 222 96, Lsub], Tfall 166, []),
  (166, [PfL 208 6 15, Ald 0, Dup, GfI 202 6 14, Cst 0 1, Iadd, PfI 202 6 14], Tgoto 98, []),
  (182, [Ald 0, GfR 31 6 10, Ald 0, GfI 205 6 13, Iald, CallS 224 1 mM_isDigit], Tif 72 304 197, []),
  (197, [Ald 0, GfI 202 6 14, Ald 0, GfI 199 6 11], Tif 81 281 208, []),
  (208, [Ald 0, GfR 31 6 10, Ald 0, GfI 202 6 14, Iald, CallS 224 1 mM_isDigit], Tif 72 281 223, []),
  (223, [Ald 0, Ald 0, GfL 208 6 15, LC 227 1023, Lcmp], Tif 77 242 235, []),
  (235, [Ald 0, GfL 208 6 15], Tgoto 265, []),
  (242, [Ald 0, GfL 208 6 15, LC 168 10, Lmul, Ald 0, GfR 31 6 10, Ald 0, GfI 202 6 14, Iald, I2l, Ladd, LC 229 48, Lsub], Tfall 265, []),
  (265, [PfL 208 6 15, Ald 0, Dup, GfI 202 6 14, Cst 0 1, Iadd, PfI 202 6 14], Tgoto 197, []),
  (281, [Ald 0, Ald 0, GfL 208 6 15, LC 227 1023, Lcmp], Tif 77 297 293, []),
  (293, [Cst 0 4], Tgoto 298, []),
  (297, [Cst 0 2], Tfall 298, []),
  (298, [PfI 212 6 12], Tgoto 337, []),
  (304, [Ald 0, Ald 0, GfR 31 6 10, Ald 0, GfI 205 6 13, Iald, Cst 1 59], Tif 79 323 319, []),
  (319, [Cst 0 3], Tgoto 324, []),
  (323, [Cst 0 4], Tfall 324, []),
  (324, [PfI 212 6 12, Ald 0, Dup, GfI 202 6 14, Cst 0 1, Iadd, PfI 202 6 14], Tfall 337, []),
  (337, [], Tret 87, [])]
theorem okM_nextToken : chkM mM_nextToken cfM_nextToken = true := by decide +kernel
def cfM_wordOf : List BK := [(0, [Cst 0 (-1), Ist 2, Cst 0 0, Ist 3], Tfall 4, []),
  (4, [Ild 3, Ald 1, Alen, Cst 1 6, Idiv], Tif 81 104 13, []),
  (13, [Ald 0, GfI 212 6 12, Cst 0 1], Tif 79 104 21, []),
  (21, [LC 0 0, Lst 4, Cst 0 0, Ist 6], Tfall 27, []),
  (27, [Ild 6, Cst 1 6], Tif 81 82 34, []),
  (34, [Ald 1, Cst 1 6, Ild 3, Imul, Ild 6, Iadd, Cald, Cst 1 32], Tif 79 53 48, []),
  (48, [Lld 4], Tgoto 74, []),
  (53, [Lld 4, LC 220 27, Lmul, Ald 1, Cst 1 6, Ild 3, Imul, Ild 6, Iadd, Cald, I2l, Ladd, LC 222 96, Lsub], Tfall 74, []),
  (74, [Lst 4, Inc 6 1], Tgoto 27, []),
  (82, [Lld 4, Ald 0, GfL 208 6 15, Lcmp], Tif 73 96 92, []),
  (92, [Ild 3], Tgoto 97, []),
  (96, [Ild 2], Tfall 97, []),
  (97, [Ist 2, Inc 3 1], Tgoto 4, []),
  (104, [Ild 2], Tret 84, [])]
theorem okM_wordOf : chkM mM_wordOf cfM_wordOf = true := by decide +kernel
def cfM_takesNumber : List BK := [(0, [Ald 0, GfI 212 6 12, Cst 0 2], Tif 79 29 8, []),
  (8, [Ald 0, GfL 208 6 15, L2i, Ild 1, Ild 2, CallS 60 3 mM_in1], Tif 72 29 21, []),
  (21, [Ald 0, GfL 208 6 15, L2i], Tgoto 30, []),
  (29, [Cst 0 (-1)], Tfall 30, []),
  (30, [Ist 3, Ild 3], Tif 74 39 35, []),
  (35, [Ald 0, CallV 231 1 mM_nextToken], Tfall 39, []),
  (39, [Ild 3], Tret 84, [])]
theorem okM_takesNumber : chkM mM_takesNumber cfM_takesNumber = true := by decide +kernel
def cfM_readsLock : List BK := [(0, [Ald 0, GfR 9 6 0, Cst 0 3, Iald, Cst 1 10], Tif 79 13 11, []),
  (11, [Cst 0 0], Tret 85, []),
  (13, [Ald 0, CallV 110 1 mM_allLocks, Ist 2, Ald 0, GfR 9 6 0, Cst 0 3, Iald, Ist 3, Ald 0, Ild 1, CallV 92 2 mM_comes, Ald 0, CallV 231 1 mM_nextToken, Cst 0 0, Ist 4], Tfall 37, []),
  (37, [Ild 4, Cst 1 6], Tif 81 126 44, []),
  (44, [Ald 0, Ald 0, GfR 38 6 17, CallV 234 2 mM_wordOf, Ild 4], Tif 79 120 57, []),
  (57, [Ald 0, CallV 231 1 mM_nextToken, Ald 0, GfR 44 6 19, Ild 4, Iald, Ist 5, Ald 0, Ild 5, Cst 0 1], Tif 79 81 77, []),
  (77, [Cst 0 1], Tgoto 82, []),
  (81, [Cst 0 0], Tfall 82, []),
  (82, [Ild 5, Cst 1 8], Tif 79 93 89, []),
  (89, [Ild 2], Tgoto 99, []),
  (93, [Ald 0, Ild 5, CallV 114 2 mM_mostOf], Tfall 99, []),
  (99, [CallV 238 3 mM_takesNumber, Ist 6, Ild 6], Tif 75 111 109, []),
  (109, [Cst 0 0], Tret 85, []),
  (111, [Ald 0, Ild 3, Ild 5, Ild 6, CallV 96 4 mM_puts], Tfall 120, []),
  (120, [Inc 4 1], Tgoto 37, []),
  (126, [Cst 0 1], Tret 85, [])]
theorem okM_readsLock : chkM mM_readsLock cfM_readsLock = true := by decide +kernel
def cfM_readsItem : List BK := [(0, [Ald 0, Ald 0, GfR 34 6 16, CallV 234 2 mM_wordOf, Ist 1, Ild 1], Tif 74 19 13, []),
  (13, [Ald 0, Ild 1, CallV 241 2 mM_readsLock], Tret 85, []),
  (19, [Ald 0, Ald 0, GfR 41 6 18, CallV 234 2 mM_wordOf, Ist 2, Ild 2], Tif 75 34 32, []),
  (32, [Cst 0 0], Tret 85, []),
  (34, [Ald 0, CallV 231 1 mM_nextToken, Ald 0, Cst 0 0, Ild 2], Tif 73 49 44, []),
  (44, [Cst 1 15], Tgoto 63, []),
  (49, [Ild 2, Cst 0 1], Tif 79 59 54, []),
  (54, [Cst 1 40], Tgoto 63, []),
  (59, [Ald 0, CallV 110 1 mM_allLocks], Tfall 63, []),
  (63, [CallV 238 3 mM_takesNumber, Ist 3, Ald 0, GfR 9 6 0, Cst 0 4, Ild 2, Iadd, Ild 3], Tif 75 89 78, []),
  (78, [Ald 0, GfR 9 6 0, Cst 0 4, Ild 2, Iadd, Iald], Tgoto 90, []),
  (89, [Ild 3], Tfall 90, []),
  (90, [Iast, Ild 3], Tif 74 99 95, []),
  (95, [Cst 0 1], Tgoto 100, []),
  (99, [Cst 0 0], Tfall 100, []),
  (100, [], Tret 85, [])]
theorem okM_readsItem : chkM mM_readsItem cfM_readsItem = true := by decide +kernel
def cfM_text : List BK := [(0, [Ald 0, CallV 152 1 mM_setsAside, Ald 0, Cst 0 0, PfI 202 6 14, Ald 0, CallV 231 1 mM_nextToken, Cst 0 1, Ist 1, Ald 0, CallV 244 1 mM_readsItem, Ist 2], Tfall 20, []),
  (20, [Ild 2], Tif 72 47 24, []),
  (24, [Ald 0, GfI 212 6 12, Cst 0 3], Tif 79 47 32, []),
  (32, [Ald 0, CallV 231 1 mM_nextToken, Ald 0, CallV 244 1 mM_readsItem, Ist 2, Inc 1 1], Tgoto 20, []),
  (47, [Ild 2], Tif 72 62 51, []),
  (51, [Ald 0, GfI 212 6 12], Tif 73 62 58, []),
  (58, [Cst 0 1], Tgoto 63, []),
  (62, [Cst 0 0], Tfall 63, []),
  (63, [Ist 2, Ald 0, Cst 0 0, PfI 199 6 11, Ild 2], Tif 73 84 73, []),
  (73, [Ald 0, CallV 155 1 mM_laysBack, Cst 0 (-1), Ald 0, GfI 205 6 13, Isub], Tret 84, []),
  (84, [Ild 1], Tret 84, [])]
theorem okM_text : chkM mM_text cfM_text = true := by decide +kernel
def cfM_isSpot : List BK := [(0, [Ild 0, Cst 0 0, Cst 1 9, CallS 60 3 mM_in1], Tret 85, [])]
theorem okM_isSpot : chkM mM_isSpot cfM_isSpot = true := by decide +kernel
def cfM_hold : List BK := [(0, [Ild 1, CallS 247 1 mM_isSpot], Tif 72 20 7, []),
  (7, [Ild 2, Cst 0 (-1)], Tif 78 26 12, []),
  (12, [Ald 0, Ild 2, CallV 100 2 mM_isLock], Tif 73 26 20, []),
  (20, [Ald 0, Cst 0 0, CallV 89 2 mM_no], Tret 84, []),
  (26, [Ald 0, GfR 9 6 0, Cst 1 110, Ild 1, Iadd, Ild 2, Iast, Cst 0 1], Tret 84, [])]
theorem okM_hold : chkM mM_hold cfM_hold = true := by decide +kernel
def cfM_above : List BK := [(0, [Ild 0, Cst 0 5], Tif 79 9 5, []),
  (5, [Cst 0 1], Tgoto 28, []),
  (9, [Ild 0, Cst 0 4], Tif 79 18 14, []),
  (14, [Cst 0 3], Tgoto 28, []),
  (18, [Ild 0, Cst 0 3], Tif 79 27 23, []),
  (23, [Cst 0 2], Tgoto 28, []),
  (27, [Cst 0 0], Tfall 28, []),
  (28, [], Tret 84, [])]
theorem okM_above : chkM mM_above cfM_above = true := by decide +kernel
def cfM_as : List BK := [(0, [Ild 1, CallS 247 1 mM_isSpot], Tif 72 17 7, []),
  (7, [Ild 2, Cst 0 0, Cst 1 6, CallS 60 3 mM_in1], Tif 73 23 17, []),
  (17, [Ald 0, Cst 0 0, CallV 89 2 mM_no], Tret 84, []),
  (23, [Ald 0, GfR 9 6 0, Cst 1 110, Ild 1, Iadd, Iald, Ist 3, Ild 3], Tif 75 43 37, []),
  (37, [Ald 0, Cst 0 5, CallV 89 2 mM_no], Tret 84, []),
  (43, [Ald 0, Ild 3, Cst 0 0, CallV 68 3 mM_get, Ist 4], Tfall 51, []),
  (51, [Ild 4, Ild 2], Tif 78 72 57, []),
  (57, [Ild 4], Tif 72 72 62, []),
  (62, [Ild 4, CallS 250 1 mM_above, Ist 4], Tgoto 51, []),
  (72, [Ild 4, Ild 2], Tif 79 82 78, []),
  (78, [Ild 3], Tgoto 87, []),
  (82, [Ald 0, Cst 0 2, CallV 89 2 mM_no], Tfall 87, []),
  (87, [], Tret 84, [])]
theorem okM_as : chkM mM_as cfM_as = true := by decide +kernel
def cfM_sheet : List BK := [(0, [Ild 1, CallS 173 1 mM_isSheet], Tif 72 29 7, []),
  (7, [Ild 2], Tif 72 35 11, []),
  (11, [Ild 2, Cst 1 8], Tif 78 35 17, []),
  (17, [Ild 2, Cst 1 16], Tif 78 35 23, []),
  (23, [Ild 2, Cst 1 32], Tif 78 35 29, []),
  (29, [Ald 0, Cst 0 0, CallV 89 2 mM_no], Tret 84, []),
  (35, [Ild 3], Tif 75 46 39, []),
  (39, [Ald 0, Cst 1 6, CallV 89 2 mM_no], Tret 84, []),
  (46, [Ild 3, Cst 1 40], Tif 83 58 52, []),
  (52, [Ald 0, Cst 0 0, CallV 89 2 mM_no], Tret 84, []),
  (58, [Ald 0, GfR 47 6 20, Ild 1, Ild 2, Iast, Ald 0, GfR 50 6 21, Ild 1, Ild 2], Tif 73 78 74, []),
  (74, [Cst 0 0], Tgoto 79, []),
  (78, [Ild 3], Tfall 79, []),
  (79, [Iast, Cst 0 0, Ist 4], Tfall 83, []),
  (83, [Ild 4, Cst 1 40], Tif 81 109 90, []),
  (90, [Ald 0, GfR 53 6 22, Cst 1 40, Ild 1, Imul, Ild 4, Iadd, Cst 0 0, Iast, Inc 4 1], Tgoto 83, []),
  (109, [Ald 0, GfR 50 6 21, Ild 1, Iald], Tret 84, [])]
theorem okM_sheet : chkM mM_sheet cfM_sheet = true := by decide +kernel
def cfM_write : List BK := [(0, [Ald 0, Ild 1, CallV 176 2 mM_wrongSheet, Ist 4, Ild 4], Tif 75 31 12, []),
  (12, [Ild 2, Cst 0 0, Ald 0, GfR 50 6 21, Ild 1, Iald, Cst 0 1, Isub, CallS 60 3 mM_in1], Tif 73 31 28, []),
  (28, [Cst 0 0, Ist 4], Tfall 31, []),
  (31, [Ild 4], Tif 74 43 36, []),
  (36, [Ald 0, Ild 4, CallV 89 2 mM_no], Tret 84, []),
  (43, [Ald 0, GfR 53 6 22, Cst 1 40, Ild 1, Imul, Ild 2, Iadd, Ald 0, GfR 47 6 20, Ild 1, Iald, Cst 1 8], Tif 79 69 64, []),
  (64, [Ild 3, I2b], Tgoto 86, []),
  (69, [Ald 0, GfR 47 6 20, Ild 1, Iald, Cst 1 16], Tif 79 85 80, []),
  (80, [Ild 3, I2s], Tgoto 86, []),
  (85, [Ild 3], Tfall 86, []),
  (86, [Iast, Cst 0 1], Tret 84, [])]
theorem okM_write : chkM mM_write cfM_write = true := by decide +kernel
def cfM_copy : List BK := [(0, [Ild 1, CallS 173 1 mM_isSheet], Tif 72 14 7, []),
  (7, [Ild 3, CallS 173 1 mM_isSheet], Tif 73 20 14, []),
  (14, [Ald 0, Cst 0 0, CallV 89 2 mM_no], Tret 84, []),
  (20, [Ald 0, GfR 47 6 20, Ild 1, Iald], Tif 72 38 29, []),
  (29, [Ald 0, GfR 47 6 20, Ild 3, Iald], Tif 73 44 38, []),
  (38, [Ald 0, Cst 0 5, CallV 89 2 mM_no], Tret 84, []),
  (44, [Ald 0, GfR 47 6 20, Ild 1, Iald, Ald 0, GfR 47 6 20, Ild 3, Iald], Tif 78 65 59, []),
  (59, [Ald 0, Cst 0 2, CallV 89 2 mM_no], Tret 84, []),
  (65, [Ild 5], Tif 74 106 70, []),
  (70, [Ild 2], Tif 74 106 74, []),
  (74, [Ild 4], Tif 74 106 79, []),
  (79, [Ild 2, Ald 0, GfR 50 6 21, Ild 1, Iald, Ild 5, Isub], Tif 82 106 92, []),
  (92, [Ild 4, Ald 0, GfR 50 6 21, Ild 3, Iald, Ild 5, Isub], Tif 83 112 106, []),
  (106, [Ald 0, Cst 0 0, CallV 89 2 mM_no], Tret 84, []),
  (112, [Cst 0 0, Ist 6], Tfall 115, []),
  (115, [Ild 6, Ild 5], Tif 81 149 122, []),
  (122, [Ald 0, GfR 56 6 23, Ild 6, Ald 0, GfR 53 6 22, Cst 1 40, Ild 1, Imul, Ild 2, Iadd, Ild 6, Iadd, Iald, Iast, Inc 6 1], Tgoto 115, []),
  (149, [Cst 0 0, Ist 6], Tfall 152, []),
  (152, [Ild 6, Ild 5], Tif 81 187 159, []),
  (159, [Ald 0, GfR 53 6 22, Cst 1 40, Ild 3, Imul, Ild 4, Iadd, Ild 6, Iadd, Ald 0, GfR 56 6 23, Ild 6, Iald, Iast, Inc 6 1], Tgoto 152, []),
  (187, [Ild 5], Tret 84, [])]
theorem okM_copy : chkM mM_copy cfM_copy = true := by decide +kernel
def cfM_load : List BK := [(0, [Ald 0, Ild 1, CallV 176 2 mM_wrongSheet, Ist 2, Ild 2], Tif 74 16 10, []),
  (10, [Ald 0, Ild 2, CallV 89 2 mM_no], Tret 84, []),
  (16, [Cst 0 0, Ist 3], Tfall 18, []),
  (18, [Ild 3, Ald 0, GfR 50 6 21, Ild 1, Iald], Tif 81 79 28, []),
  (28, [Ald 0, Ild 3, CallV 100 2 mM_isLock], Tif 72 79 36, []),
  (36, [Ald 0, GfR 53 6 22, Cst 1 40, Ild 1, Imul, Ild 3, Iadd, Iald, Cst 0 1, Cst 1 60, CallS 60 3 mM_in1], Tif 72 79 56, []),
  (56, [Ald 0, Ild 3, Cst 0 1, Ald 0, GfR 53 6 22, Cst 1 40, Ild 1, Imul, Ild 3, Iadd, Iald, CallV 96 4 mM_puts, Inc 3 1], Tgoto 18, []),
  (79, [Ild 3], Tret 84, [])]
theorem okM_load : chkM mM_load cfM_load = true := by decide +kernel
def cfM_judge : List BK := [(0, [Ald 0, Ild 1, CallV 176 2 mM_wrongSheet, Ist 2, Ild 2], Tif 74 16 10, []),
  (10, [Ald 0, Ild 2, CallV 89 2 mM_no], Tret 84, []),
  (16, [Ald 0, GfR 9 6 0, Cst 0 2, Iald, Ist 3, Cst 0 0, Ist 4], Tfall 26, []),
  (26, [Ild 4, Ald 0, GfR 50 6 21, Ild 1, Iald], Tif 81 102 37, []),
  (37, [Ald 0, Ald 0, GfR 53 6 22, Cst 1 40, Ild 1, Imul, Ild 4, Iadd, Iald, CallV 100 2 mM_isLock], Tif 72 102 56, []),
  (56, [Ald 0, Ild 3, CallV 117 2 mM_mayBy, Ald 0, GfR 53 6 22, Cst 1 40, Ild 1, Imul, Ild 4, Iadd, Iald, CallS 64 2 mM_isIn], Tif 72 102 79, []),
  (79, [Ild 3, Cst 0 1, Ald 0, GfR 53 6 22, Cst 1 40, Ild 1, Imul, Ild 4, Iadd, Iald, Ishl, Ior, Ist 3, Inc 4 1], Tgoto 26, []),
  (102, [Ild 4, Ald 0, GfR 50 6 21, Ild 1, Iald], Tif 79 117 113, []),
  (113, [Cst 0 0], Tgoto 121, []),
  (117, [Cst 0 1, Ild 4, Iadd], Tfall 121, []),
  (121, [], Tret 84, [])]
theorem okM_judge : chkM mM_judge cfM_judge = true := by decide +kernel
def cfM_image : List BK := [(0, [Cst 0 0, Ist 1], Tfall 2, []),
  (2, [Ild 1, Cst 1 120], Tif 81 26 8, []),
  (8, [Ald 0, GfR 13 6 1, Ild 1, Ald 0, GfR 9 6 0, Ild 1, Iald, Iast, Inc 1 1], Tgoto 2, []),
  (26, [Ald 0, Cst 0 1, PfZ 253 6 3, Cst 0 1], Tret 84, [])]
theorem okM_image : chkM mM_image cfM_image = true := by decide +kernel
def cfM_undo : List BK := [(0, [Ald 0, GfI 253 6 3], Tif 73 13 7, []),
  (7, [Ald 0, Cst 0 3, CallV 89 2 mM_no], Tret 84, []),
  (13, [Cst 0 0, Ist 1], Tfall 15, []),
  (15, [Ild 1, Cst 1 120], Tif 81 39 21, []),
  (21, [Ald 0, GfR 9 6 0, Ild 1, Ald 0, GfR 13 6 1, Ild 1, Iald, Iast, Inc 1 1], Tgoto 15, []),
  (39, [Ald 0, GfR 9 6 0, Cst 0 0, Iald], Tret 84, [])]
theorem okM_undo : chkM mM_undo cfM_undo = true := by decide +kernel
def cfM_tear : List BK := [(0, [Ald 0, GfI 253 6 3], Tif 72 11 7, []),
  (7, [Cst 0 1], Tgoto 12, []),
  (11, [Cst 0 0], Tfall 12, []),
  (12, [Ist 1, Ald 0, Cst 0 0, PfZ 253 6 3, Ild 1], Tret 84, [])]
theorem okM_tear : chkM mM_tear cfM_tear = true := by decide +kernel
def cfM_count : List BK := [(0, [Cst 0 0, Ist 2, Ild 1], Tsw 90 157 48, [(0, 48), (1, 55), (2, 62), (3, 72), (4, 79), (5, 108), (6, 113), (7, 121)]),
  (48, [Ald 0, GfR 9 6 0, Cst 0 0, Iald], Tret 84, []),
  (55, [Ald 0, GfR 9 6 0, Cst 0 3, Iald], Tret 84, []),
  (62, [Ald 0, GfR 9 6 0, Cst 0 2, Iald, CallS 72 1 mM_bits], Tret 84, []),
  (72, [Ald 0, GfR 9 6 0, Cst 0 1, Iald], Tret 84, []),
  (79, [Cst 0 0, Ist 3], Tfall 81, []),
  (81, [Ild 3, Ald 0, GfR 9 6 0, Cst 0 3, Iald], Tif 81 106 91, []),
  (91, [Ild 2, Ald 0, Ild 3, Cst 0 1, CallV 68 3 mM_get, Iadd, Ist 2, Inc 3 1], Tgoto 81, []),
  (106, [Ild 2], Tret 84, []),
  (108, [Ald 0, GfI 199 6 11], Tret 84, []),
  (113, [Ald 0, GfR 9 6 0, Cst 1 9, Iald], Tret 84, []),
  (121, [Cst 0 0, Ist 3], Tfall 123, []),
  (123, [Ild 3, Cst 1 10], Tif 81 155 129, []),
  (129, [Ild 2, Ald 0, GfR 9 6 0, Cst 1 110, Ild 3, Iadd, Iald], Tif 74 146 142, []),
  (142, [Cst 0 1], Tgoto 147, []),
  (146, [Cst 0 0], Tfall 147, []),
  (147, [Iadd, Ist 2, Inc 3 1], Tgoto 123, []),
  (155, [Ild 2], Tret 84, []),
  (157, [Ald 0, Cst 0 0, CallV 89 2 mM_no], Tret 84, [])]
theorem okM_count : chkM mM_count cfM_count = true := by decide +kernel
def cfM_status : List BK := [(0, [Ild 1, Cst 0 (-1), Cst 1 6, CallS 60 3 mM_in1], Tif 73 16 10, []),
  (10, [Ald 0, Cst 0 0, CallV 89 2 mM_no], Tret 84, []),
  (16, [Cst 0 0, Ist 2, Cst 0 0, Ist 3], Tfall 20, []),
  (20, [Ild 3, Cst 1 7], Tif 81 55 26, []),
  (26, [Ild 2, Ild 1, Cst 0 (-1)], Tif 78 37 32, []),
  (32, [Ild 1, Ild 3], Tif 79 46 37, []),
  (37, [Ald 0, GfR 19 6 4, Ild 3, Iald], Tgoto 47, []),
  (46, [Cst 0 0], Tfall 47, []),
  (47, [Iadd, Ist 2, Inc 3 1], Tgoto 20, []),
  (55, [Ild 2], Tret 84, [])]
theorem okM_status : chkM mM_status cfM_status = true := by decide +kernel
def cfJI_bitCount : List BK := [(0, [Ild 0, Ild 0, Cst 0 1, Iushr, Cst 534 1431655765, Iand, Isub, Ist 0, Ild 0, Cst 536 858993459, Iand, Ild 0, Cst 0 2, Iushr, Cst 536 858993459, Iand, Iadd, Ist 0, Ild 0, Ild 0, Cst 0 4, Iushr, Iadd, Cst 538 252645135, Iand, Ist 0, Ild 0, Ild 0, Cst 1 8, Iushr, Iadd, Ist 0, Ild 0, Ild 0, Cst 1 16, Iushr, Iadd, Ist 0, Ild 0, Cst 1 63, Iand], Tret 84, [])]
theorem okJI_bitCount : chkM mJI_bitCount cfJI_bitCount = true := by decide +kernel
def cfJS_charAt : List BK := [(0, [Ald 0, CallV 492 1 mJS_isLatin1], Tif 72 16 7, []),
  (7, [Ald 0, GfS 9, Ild 1, CallS 495 2 mJL_charAt], Tret 89, [])]
theorem okJS_charAt : chkM mJS_charAt cfJS_charAt = true := by decide +kernel
def cfJS_checkIndex : List BK := [(0, [Ild 0, Ild 1, GsQ 1053, CallS 1059 3 mJP_checkIndex, Pop], Tret 87, [])]
theorem okJS_checkIndex : chkM mJS_checkIndex cfJS_checkIndex = true := by decide +kernel
def cfJS_coder : List BK := [(0, [GsI 38], Tif 72 13 6, []),
  (6, [Ald 0, GfC 15], Tgoto 14, []),
  (13, [Cst 0 1], Tfall 14, []),
  (14, [], Tret 92, [])]
theorem okJS_coder : chkM mJS_coder cfJS_coder = true := by decide +kernel
def cfJS_isLatin1 : List BK := [(0, [GsI 38], Tif 72 17 6, []),
  (6, [Ald 0, GfC 15], Tif 73 17 13, []),
  (13, [Cst 0 1], Tgoto 18, []),
  (17, [Cst 0 0], Tfall 18, []),
  (18, [], Tret 85, [])]
theorem okJS_isLatin1 : chkM mJS_isLatin1 cfJS_isLatin1 = true := by decide +kernel
def cfJS_length : List BK := [(0, [Ald 0, GfS 9, AlenS, Ald 0, CallV 335 1 mJS_coder, Ishr], Tret 84, [])]
theorem okJS_length : chkM mJS_length cfJS_length = true := by decide +kernel
def cfJL_charAt : List BK := [(0, [Ild 1, Ald 0, AlenS, CallS 9 2 mJS_checkIndex, Ald 0, Ild 1, BaldS, Cst 2 255, Iand, I2c], Tret 89, [])]
theorem okJL_charAt : chkM mJL_charAt cfJL_charAt = true := by decide +kernel
def cfJA_fill : List BK := [(0, [Cst 0 0, Ist 2, Ald 0, Alen, Ist 3], Tfall 5, []),
  (5, [Ild 2, Ild 3], Tif 81 20 10, []),
  (10, [Ald 0, Ild 2, Ild 1, Iast, Inc 2 1], Tgoto 5, []),
  (20, [], Tret 87, [])]
theorem okJA_fill : chkM mJA_fill cfJA_fill = true := by decide +kernel
def cfJP_checkIndex : List BK := [(0, [Ild 0], Tif 74 9 4, []),
  (4, [Ild 0, Ild 1], Tif 80 16 9, []),
  (16, [Ild 0], Tret 84, [])]
theorem okJP_checkIndex : chkM mJP_checkIndex cfJP_checkIndex = true := by decide +kernel
