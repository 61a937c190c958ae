def ownS (cn : Nat) : String := match cn with
  | 0 => RX0
  | 1 => RX1
  | 2 => RX2
  | 3 => RX3
  | 4 => RX4
  | 5 => RX5
  | 6 => RX6
  | 7 => RL
  | 8 => RJ6
  | 9 => RJ9
  | _ => ""
def finT : List (List Bool) := [[true, true, true, false], [true], [true, true, false], [true, true, false], [true, false], [true, true, true, true, true, true, true, true], [true, false, true, true, false, true, true, true, true, true, true, true, false, true, true, true, true, true, true, false, false, false, false, false, true, true, true, true]]
def yML : List MethodName := [yX0_init, yX0_plan, yX0_planPart, yX0_addStrip, yX0_planTip, yX0_bitOf, yX0_whole, yX0_allWays, yX0_leastLong, yX0_stripOfFirst, yX1_init, yX1_isFound, yX1_arrange, yX1_isMapped, yX1_isRowMapped, yX2_init, yX2_has, yX2_cornerAt, yX2_copyFrom, yX2_insert, yX2_remove, yX2_mirrorLeftToRight, yX2_turnQuarterLeft, yX2_staysOnDots, yX2_shiftBy, yX2_next, yX2_previous, yX2_sideOf, yX2_spreadAt, yX2_isBetween, yX2_isCrossing, yX2_isSound, yX2_isFoldedAt, yX2_isTouching, yX2_signedArea, yX2_signedAreaOf, yX2_unlikenessOfSides, yX2_fenceDots, yX2_innerDots, yX2_bendAt, yX2_cornersThat, yX2_widthBy, yX2_placeOf, yX2_isInOneLine, yX2_hullInto, yX2_rightmostFrom, yX2_isSeen, yX2_isStrip, yX2_nearestToward, yX2_isCrossed, yX2_placeOfMiddle, yX2_longBy, yX3_init, yX3_lookAt, yX3_hasStrip, yX3_stripNumber, yX3_withSeen, yX3_fewestThatSeeAll, yX3_stepsBetween, yX4_init, yX4_append, yX4_firstFault, yX4_isFaulty, yX4_isToldBefore, yX4_valueOf, yX4_tellInto, yX5_init, yX5_write, yX5_wipe, yX5_fault, yX5_field, yX5_corner, yX5_move, yX5_put, yX5_take, yX5_turn, yX5_shift, yX5_sound, yX5_about, yX5_where, yX5_how, yX5_wide, yX5_narrow, yX5_grown, yX5_hull, yX5_sees, yX5_strip, yX5_least, yX5_fair, yX5_sides, yX5_guards, yX5_hops, yX5_alike, yX5_mirrored, yX5_common, yX5_keep, yX5_again, yX5_count, yX5_isField, yX5_isDot, yX5_isSlant, yX5_isCorner, yX5_isPair, yX5_refusalOfTwo, yX5_aboutShape, yX5_aboutCuts, yX5_narrowest, yX5_fairest, yX5_allCorners, yX5_soundFields, yX5_commonDivisor, yX6_init, yX6_in, yX6_write, yX6_wipe, yX6_valueOf, yX6_isTold, yX6_readText, yX6_fault, yX6_isField, yX6_isCorner, yX6_isDot, yX6_field, yX6_corner, yX6_cornerAt, yX6_move, yX6_put, yX6_take, yX6_turn, yX6_shift, yX6_place, yX6_side, yX6_isBetween, yX6_meet, yX6_sign, yX6_isSound, yX6_sound, yX6_areaOf, yX6_area, yX6_without, yX6_divisor, yX6_fenceDots, yX6_howOf, yX6_whereOf, yX6_where, yX6_how, yX6_widthOf, yX6_wide, yX6_narrow, yX6_grown, yX6_hull, yX6_nextHull, yX6_long2, yX6_addMeet, yX6_layMeet, yX6_partOf, yX6_isSight, yX6_isStrip, yX6_isAlong, yX6_areTwo, yX6_sees, yX6_strip, yX6_layStrips, yX6_layCuts, yX6_about, yX6_layLeast, yX6_cross, yX6_least, yX6_sidesOf, yX6_fair, yX6_sides, yX6_laySeen, yX6_ones, yX6_guards, yX6_hops, yX6_isMap, yX6_isLike, yX6_alike, yX6_mirrored, yX6_common, yX6_corners, yX6_keep, yX6_again, yX6_count, yL_law, yJ6_bitCount_0f7a4, yJ9_abs_0f7a4, yJ9_max_7cf53, yJ9_min_7cf53]
def yM (k : Nat) : MethodName := yML.getD k yX0_init
def cML : List ByteArray := [cX0_init, cX0_plan, cX0_planPart, cX0_addStrip, cX0_planTip, cX0_bitOf, cX0_whole, cX0_allWays, cX0_leastLong, cX0_stripOfFirst, cX1_init, cX1_isFound, cX1_arrange, cX1_isMapped, cX1_isRowMapped, cX2_init, cX2_has, cX2_cornerAt, cX2_copyFrom, cX2_insert, cX2_remove, cX2_mirrorLeftToRight, cX2_turnQuarterLeft, cX2_staysOnDots, cX2_shiftBy, cX2_next, cX2_previous, cX2_sideOf, cX2_spreadAt, cX2_isBetween, cX2_isCrossing, cX2_isSound, cX2_isFoldedAt, cX2_isTouching, cX2_signedArea, cX2_signedAreaOf, cX2_unlikenessOfSides, cX2_fenceDots, cX2_innerDots, cX2_bendAt, cX2_cornersThat, cX2_widthBy, cX2_placeOf, cX2_isInOneLine, cX2_hullInto, cX2_rightmostFrom, cX2_isSeen, cX2_isStrip, cX2_nearestToward, cX2_isCrossed, cX2_placeOfMiddle, cX2_longBy, cX3_init, cX3_lookAt, cX3_hasStrip, cX3_stripNumber, cX3_withSeen, cX3_fewestThatSeeAll, cX3_stepsBetween, cX4_init, cX4_append, cX4_firstFault, cX4_isFaulty, cX4_isToldBefore, cX4_valueOf, cX4_tellInto, cX5_init, cX5_write, cX5_wipe, cX5_fault, cX5_field, cX5_corner, cX5_move, cX5_put, cX5_take, cX5_turn, cX5_shift, cX5_sound, cX5_about, cX5_where, cX5_how, cX5_wide, cX5_narrow, cX5_grown, cX5_hull, cX5_sees, cX5_strip, cX5_least, cX5_fair, cX5_sides, cX5_guards, cX5_hops, cX5_alike, cX5_mirrored, cX5_common, cX5_keep, cX5_again, cX5_count, cX5_isField, cX5_isDot, cX5_isSlant, cX5_isCorner, cX5_isPair, cX5_refusalOfTwo, cX5_aboutShape, cX5_aboutCuts, cX5_narrowest, cX5_fairest, cX5_allCorners, cX5_soundFields, cX5_commonDivisor, cX6_init, cX6_in, cX6_write, cX6_wipe, cX6_valueOf, cX6_isTold, cX6_readText, cX6_fault, cX6_isField, cX6_isCorner, cX6_isDot, cX6_field, cX6_corner, cX6_cornerAt, cX6_move, cX6_put, cX6_take, cX6_turn, cX6_shift, cX6_place, cX6_side, cX6_isBetween, cX6_meet, cX6_sign, cX6_isSound, cX6_sound, cX6_areaOf, cX6_area, cX6_without, cX6_divisor, cX6_fenceDots, cX6_howOf, cX6_whereOf, cX6_where, cX6_how, cX6_widthOf, cX6_wide, cX6_narrow, cX6_grown, cX6_hull, cX6_nextHull, cX6_long2, cX6_addMeet, cX6_layMeet, cX6_partOf, cX6_isSight, cX6_isStrip, cX6_isAlong, cX6_areTwo, cX6_sees, cX6_strip, cX6_layStrips, cX6_layCuts, cX6_about, cX6_layLeast, cX6_cross, cX6_least, cX6_sidesOf, cX6_fair, cX6_sides, cX6_laySeen, cX6_ones, cX6_guards, cX6_hops, cX6_isMap, cX6_isLike, cX6_alike, cX6_mirrored, cX6_common, cX6_corners, cX6_keep, cX6_again, cX6_count, cL_law, cJ6_bitCount_0f7a4, cJ9_abs_0f7a4, cJ9_max_7cf53, cJ9_min_7cf53]
def cM (k : Nat) : ByteArray := cML.getD k cX0_init
def rtF (k : Nat) : Option FieldType := match rtT.getD k 0 with
  | 0 => none
  | 1 => some .int
  | 2 => some .boolean
  | _ => some .long
def pcsT : List (List Nat) := [[0], [0, 10, 21, 85, 91, 97], [0, 50, 66, 71, 103], [0], [0, 21, 71, 75, 76, 106, 122], [0], [0], [0], [0], [0, 4, 17, 60, 63, 69, 75], [0], [0, 13, 16, 44, 63, 69], [0, 14, 59, 65, 73], [0, 2, 26, 36, 60, 94, 95], [0, 135, 137, 140, 208, 214], [0], [0, 16, 17], [0, 2, 32, 38], [0, 10, 48], [0, 6, 50], [0, 2, 46], [0, 2, 31], [0, 2, 45], [0, 2, 34, 40], [0, 2, 36], [0, 16, 17], [0, 10, 16], [0], [0], [0, 24, 25], [0, 43, 44], [0, 10, 12, 30, 34, 62, 68, 74], [0, 36, 37], [0, 74, 78, 79, 80, 112, 113], [0], [0, 5, 24, 25, 67], [0], [0, 4, 62], [0], [0, 22, 30, 31, 42, 43, 50, 51], [0, 4, 24, 30], [0, 24, 76], [0, 5, 108, 117, 118, 127, 128, 140, 141, 152, 153, 164, 165, 166, 172, 180, 181], [0, 2, 22, 28], [0, 4, 57, 59, 65, 75, 116, 122], [0, 8, 55, 57, 63], [0, 5, 48, 50, 59], [0, 23, 25, 58, 59], [0, 5, 28, 34], [0, 2, 27, 33], [0], [0], [0], [0, 10, 38, 40, 52, 85, 99, 123, 129, 135], [0, 18, 19], [0, 4, 30], [0, 4, 30, 36], [0, 13, 40, 46], [0, 7, 36], [0], [0, 5, 47], [0, 2, 20, 26, 48, 49, 59, 63], [0, 20, 22, 41, 42], [0, 2, 43, 49], [0, 17, 39, 41], [0, 12, 62], [0, 25, 49, 60, 85], [0, 11, 14, 31], [0], [0], [0, 9, 24], [0, 11, 23, 41, 52], [0, 11, 23, 45, 55], [0, 24, 26, 38, 58, 75], [0, 11, 27], [0, 9, 19, 22, 36, 38, 60], [0, 9, 33, 36, 53], [0, 9, 25, 26], [0, 9, 19, 22, 37, 56, 67], [0, 9, 20, 35], [0, 11, 26], [0, 9, 20, 35], [0, 9, 18, 21, 36], [0, 11, 22, 26, 42], [0, 14, 16, 31], [0, 15, 17, 32, 50, 51], [0, 15, 17, 32, 50, 51], [0, 9, 24], [0, 9, 24], [0, 12, 38, 41], [0, 9, 24], [0, 12, 27], [0, 13, 59, 63, 64, 75, 76], [0, 13, 40, 41], [0, 13, 19, 29, 81, 87, 93], [0, 9, 11, 13, 43], [0, 9, 11, 23, 25, 55], [0, 28, 36, 41, 46], [0, 13, 14], [0, 24, 25], [0, 32, 36, 37], [0, 24, 25], [0, 22, 23], [0, 14, 16, 44, 46], [0, 36, 44, 55, 56, 57, 62, 67, 73], [0, 22, 50, 57], [0, 15, 26, 75, 81, 87, 93, 102, 107], [0, 8, 23, 68, 80, 86, 92], [0, 4, 27], [0, 4, 24, 30], [0, 3, 22, 28], [0], [0, 17, 18], [0, 15, 29, 34, 76], [0], [0, 21, 42, 43], [0, 5, 40, 44, 45, 52], [0, 7, 64, 66, 113, 119, 137, 144, 146], [0], [0], [0, 29, 30], [0, 28, 29], [0, 9, 21, 33, 81], [0, 11, 29, 48, 50], [0, 3, 49, 55], [0, 11, 23, 49, 84, 85], [0, 23, 25, 37, 53, 67, 75, 139], [0, 11, 24, 36, 100], [0, 9, 24, 29, 66, 72, 76, 121, 127], [0, 9, 37, 40, 46, 89, 95, 101, 145], [0], [0], [0, 64, 65], [0, 66, 82, 98, 114, 118, 119, 142, 146, 147], [0, 8, 16, 17], [0, 16, 17, 21, 145, 146, 157, 158, 165, 213, 217, 218, 225, 231], [0, 9, 21, 22], [0, 8, 51], [0], [0, 9, 10], [0, 10, 27], [0, 4, 74], [0, 40, 41, 50, 58, 59], [0, 6, 152, 164, 165, 177, 178, 185, 186, 211, 218, 227, 231, 233, 241, 250, 251], [0, 9, 20, 41, 43], [0, 11, 28, 30], [0, 9, 63, 68, 70, 84, 89, 91, 99], [0, 9, 45, 48, 62, 69], [0, 9, 24, 36, 48, 59, 108, 114, 120, 128, 138, 143], [0, 11, 27, 71, 74], [0, 14, 16, 30, 94, 99, 100, 135, 139, 140, 148, 156, 165, 220, 221, 226, 237, 288], [0, 17, 21, 28, 54, 62, 89, 90, 102, 107, 108, 115], [0], [0, 9, 10, 15, 76], [0, 67, 68, 115, 117, 132, 137, 140], [0], [0, 36, 77, 83, 248, 249, 257], [0, 33, 35, 57, 117, 121, 122, 148, 152, 171, 172, 180, 233, 234], [0, 11, 15, 16, 28, 29, 42, 43, 128, 129], [0, 22, 23], [0, 15, 17, 30, 44, 45], [0, 15, 17, 30, 44, 45], [0, 4, 61, 62, 89, 90, 98], [0, 9, 17, 43, 47, 48, 59, 77, 88, 89, 100, 102, 110, 193, 195, 203, 224, 228, 229, 253, 254, 282, 284, 291, 297], [0, 9, 24, 35, 40, 68, 69, 76, 77, 85, 148, 157, 169, 170, 171, 177, 196, 199, 213, 227], [0, 33, 61, 112, 113, 120, 152, 155, 189, 190, 197, 203], [0, 40, 58, 62, 63], [0, 9, 20, 48, 50], [0, 15, 22], [0, 9, 20, 35, 70, 72, 85, 86, 98, 99, 106], [0, 12, 40, 42], [0, 2, 23, 61, 62, 70, 76], [0, 4, 24], [0, 9, 20, 41, 52, 86, 87, 96, 119, 120, 127], [0, 12, 23, 36, 52, 86, 87, 96, 106], [0, 3, 35, 427, 428, 483, 484, 489, 652, 653, 661], [0, 6, 63, 67, 68, 76], [0, 14, 16, 32, 35, 55, 59, 60], [0, 14, 16, 32, 35, 49, 50], [0, 14, 16, 32, 35, 40, 97, 98, 106], [0], [0, 12, 21, 67, 69, 96], [0, 12, 24, 26, 72, 74, 101], [0, 4, 22, 23, 31, 42, 54, 63, 65], [0, 18, 172, 235, 248, 261, 284, 327, 380, 433, 466, 499, 542, 565, 598, 641, 674, 717, 750, 784, 817, 860, 903, 936, 959, 1002, 1025, 1068, 1101, 1134, 1167, 1190, 1213, 1236, 1242], [0], [0, 9, 10], [0, 9, 10], [0, 9, 10]]
def fldL : List (Nat × Nat × Nat) := [(0, 9, 0), (0, 15, 1), (0, 18, 2), (0, 22, 66), (0, 28, 3), (1, 10, 32), (1, 16, 66), (1, 28, 64), (1, 32, 65), (2, 9, 64), (2, 15, 65), (2, 18, 66), (3, 9, 96), (3, 15, 97), (3, 18, 66), (3, 24, 98), (4, 9, 128), (4, 15, 129), (4, 30, 66), (4, 35, 64), (4, 38, 65), (5, 10, 160), (5, 18, 161), (5, 23, 162), (5, 26, 163), (5, 30, 164), (5, 37, 165), (5, 44, 166), (5, 51, 167), (5, 55, 129), (5, 75, 66), (5, 82, 64), (5, 86, 65), (6, 7, 192), (6, 13, 194), (6, 16, 195), (6, 19, 197), (6, 22, 198), (6, 25, 199), (6, 28, 200), (6, 31, 201), (6, 34, 202), (6, 37, 203), (6, 40, 205), (6, 44, 206), (6, 47, 207), (6, 50, 208), (6, 53, 209), (6, 56, 210), (6, 59, 216), (6, 62, 217), (6, 65, 218), (6, 68, 219), (6, 71, 193), (6, 91, 196), (6, 195, 204), (6, 243, 215), (6, 246, 211), (6, 249, 212), (6, 252, 213), (6, 255, 214)]
def ldcL : List (Nat × Nat × Int) := [(6, 177, 1000000), (8, 265, 1431655765), (8, 266, 858993459), (8, 267, 252645135)]
def ldc2L : List (Nat × Nat × Int) := [(5, 144, (-1)), (5, 146, (-2)), (5, 148, (-3)), (5, 161, 2), (6, 75, 8), (6, 81, 255), (6, 83, 48), (6, 85, 57), (6, 87, 97), (6, 89, 102), (6, 106, 3), (6, 112, 15), (6, 124, 7), (6, 126, (-15)), (6, 168, (-9)), (6, 170, 9), (6, 175, 2), (6, 178, (-1)), (6, 180, 99), (6, 182, (-2)), (6, 187, (-3)), (7, 13, 4294967295)]
def newL : List (Nat × Nat × Nat) := [(1, 7, 2), (5, 7, 4), (5, 16, 2), (5, 34, 3), (5, 41, 0), (5, 48, 1), (7, 7, 5), (7, 10, 6)]
/-- class, pool number, callee, arguments, kind: 0 static, 1 virtual, 2 constructor, 3 and 4 the same of a nest mate, 5 Object() -/
def mtL : List (Nat × Nat × Nat × Nat × Nat) := [(0, 3, 0, 0, 5), (0, 29, 54, 3, 1), (0, 35, 2, 4, 1), (0, 39, 51, 3, 1), (0, 43, 3, 4, 1), (0, 47, 4, 4, 1), (0, 50, 5, 2, 0), (0, 54, 6, 1, 1), (1, 1, 0, 0, 5), (1, 9, 15, 1, 4), (1, 20, 12, 4, 1), (1, 24, 13, 3, 1), (1, 35, 19, 4, 1), (1, 39, 26, 2, 1), (1, 43, 25, 2, 1), (1, 46, 27, 4, 1), (1, 50, 14, 3, 0), (2, 3, 0, 0, 5), (2, 22, 99, 2, 3), (2, 26, 27, 4, 1), (2, 30, 28, 4, 1), (2, 33, 32, 2, 1), (2, 37, 25, 2, 1), (2, 41, 33, 3, 1), (2, 44, 26, 2, 1), (2, 47, 29, 4, 1), (2, 51, 35, 3, 1), (2, 55, 0, 0, 8), (2, 60, 0, 0, 7), (2, 63, 34, 1, 1), (2, 67, 0, 0, 6), (2, 70, 110, 2, 3), (2, 73, 37, 1, 1), (2, 76, 39, 2, 1), (2, 79, 19, 4, 1), (2, 83, 45, 2, 1), (2, 86, 48, 3, 1), (2, 89, 49, 3, 1), (2, 92, 50, 3, 1), (2, 95, 30, 5, 1), (2, 99, 42, 3, 1), (3, 3, 0, 0, 5), (3, 25, 47, 3, 1), (3, 29, 46, 3, 1), (3, 32, 185, 1, 0), (3, 38, 56, 2, 1), (4, 3, 0, 0, 5), (4, 19, 62, 2, 1), (4, 23, 64, 1, 0), (4, 27, 63, 2, 1), (5, 1, 0, 0, 5), (5, 9, 59, 1, 4), (5, 22, 15, 1, 4), (5, 36, 52, 1, 4), (5, 43, 0, 1, 4), (5, 50, 10, 1, 4), (5, 59, 60, 3, 1), (5, 63, 61, 1, 1), (5, 67, 98, 1, 0), (5, 71, 65, 2, 1), (5, 78, 101, 3, 1), (5, 89, 99, 2, 0), (5, 92, 17, 3, 1), (5, 96, 19, 4, 1), (5, 100, 20, 2, 1), (5, 104, 21, 1, 1), (5, 107, 22, 1, 1), (5, 110, 23, 3, 1), (5, 113, 24, 3, 1), (5, 117, 31, 1, 1), (5, 121, 104, 2, 0), (5, 125, 105, 3, 1), (5, 128, 42, 3, 1), (5, 131, 39, 2, 1), (5, 135, 100, 2, 0), (5, 138, 41, 3, 1), (5, 141, 106, 2, 0), (5, 150, 34, 1, 1), (5, 153, 0, 0, 6), (5, 158, 37, 1, 1), (5, 163, 43, 1, 1), (5, 166, 44, 2, 1), (5, 169, 18, 2, 1), (5, 172, 102, 4, 1), (5, 176, 46, 3, 1), (5, 179, 47, 3, 1), (5, 182, 53, 2, 1), (5, 185, 1, 3, 1), (5, 189, 9, 2, 1), (5, 192, 107, 2, 1), (5, 196, 36, 3, 1), (5, 199, 57, 1, 1), (5, 202, 58, 3, 1), (5, 205, 103, 3, 1), (5, 208, 11, 4, 1), (5, 212, 108, 1, 1), (5, 215, 109, 1, 1), (5, 218, 16, 2, 1), (5, 221, 38, 1, 1), (5, 224, 40, 2, 1), (5, 227, 55, 1, 1), (5, 230, 7, 1, 1), (5, 233, 8, 1, 1), (5, 236, 110, 2, 0), (5, 239, 54, 3, 1), (6, 1, 0, 0, 5), (6, 77, 112, 3, 0), (6, 94, 115, 1, 0), (6, 98, 116, 3, 1), (6, 102, 117, 1, 1), (6, 108, 119, 1, 0), (6, 114, 120, 3, 1), (6, 117, 121, 2, 0), (6, 120, 124, 4, 1), (6, 128, 131, 4, 1), (6, 131, 134, 1, 0), (6, 134, 132, 4, 1), (6, 138, 130, 3, 1), (6, 142, 133, 5, 1), (6, 146, 135, 2, 1), (6, 149, 137, 4, 1), (6, 152, 139, 1, 0), (6, 155, 140, 2, 0), (6, 158, 138, 2, 1), (6, 161, 143, 5, 1), (6, 165, 142, 3, 1), (6, 172, 146, 4, 1), (6, 184, 141, 2, 1), (6, 189, 151, 3, 1), (6, 192, 152, 3, 1), (6, 198, 155, 4, 1), (6, 201, 153, 3, 1), (6, 205, 154, 5, 1), (6, 209, 158, 5, 1), (6, 212, 159, 4, 1), (6, 215, 156, 4, 1), (6, 218, 157, 4, 1), (6, 221, 162, 2, 1), (6, 224, 163, 2, 1), (6, 228, 166, 2, 0), (6, 231, 165, 2, 1), (6, 234, 168, 4, 1), (6, 237, 171, 2, 1), (6, 240, 172, 1, 0), (6, 258, 175, 6, 1), (6, 262, 176, 4, 1), (6, 265, 180, 1, 1), (7, 9, 66, 1, 2), (7, 12, 111, 1, 2), (7, 15, 67, 3, 1), (7, 19, 113, 3, 1), (7, 20, 68, 1, 1), (7, 24, 114, 1, 1), (7, 25, 69, 1, 1), (7, 28, 118, 1, 1), (7, 29, 70, 2, 1), (7, 33, 122, 2, 1), (7, 34, 71, 4, 1), (7, 38, 123, 4, 1), (7, 39, 72, 5, 1), (7, 43, 125, 5, 1), (7, 44, 73, 5, 1), (7, 47, 126, 5, 1), (7, 48, 74, 3, 1), (7, 52, 127, 3, 1), (7, 53, 75, 3, 1), (7, 56, 128, 3, 1), (7, 57, 76, 4, 1), (7, 60, 129, 4, 1), (7, 61, 77, 2, 1), (7, 64, 136, 2, 1), (7, 65, 78, 3, 1), (7, 68, 164, 3, 1), (7, 69, 79, 4, 1), (7, 72, 144, 4, 1), (7, 73, 80, 3, 1), (7, 76, 145, 3, 1), (7, 77, 81, 4, 1), (7, 80, 147, 4, 1), (7, 81, 82, 3, 1), (7, 84, 148, 3, 1), (7, 85, 83, 3, 1), (7, 89, 149, 3, 1), (7, 90, 84, 3, 1), (7, 93, 150, 3, 1), (7, 94, 85, 4, 1), (7, 97, 160, 4, 1), (7, 98, 86, 4, 1), (7, 101, 161, 4, 1), (7, 102, 87, 3, 1), (7, 105, 167, 3, 1), (7, 106, 88, 2, 1), (7, 109, 169, 2, 1), (7, 110, 89, 4, 1), (7, 113, 170, 4, 1), (7, 114, 90, 2, 1), (7, 117, 173, 2, 1), (7, 118, 91, 4, 1), (7, 121, 174, 4, 1), (7, 122, 92, 3, 1), (7, 125, 177, 3, 1), (7, 126, 93, 3, 1), (7, 129, 178, 3, 1), (7, 130, 94, 3, 1), (7, 133, 179, 3, 1), (7, 134, 95, 2, 1), (7, 137, 181, 2, 1), (7, 138, 96, 2, 1), (7, 141, 182, 2, 1), (7, 142, 97, 2, 1), (7, 145, 183, 2, 1)]
def lk {β : Type} (L : List (Nat × Nat × β)) (cn x : Nat) : Option β := (L.find? (fun q => q.1 == cn && q.2.1 == x)).map (fun q => q.2.2)
theorem lk_mem {β : Type} {L : List (Nat × Nat × β)} {cn x : Nat} {v : β} (h : lk L cn x = some v) : (cn, x, v) ∈ L := by
  unfold lk at h
  cases hf : L.find? (fun q => q.1 == cn && q.2.1 == x) with
  | none => rw [hf] at h; cases h
  | some q =>
    rw [hf] at h
    have h1 := List.find?_some hf
    have h2 := List.mem_of_find?_eq_some hf
    simp only [Bool.and_eq_true, beq_iff_eq] at h1
    obtain ⟨a, b, c⟩ := q
    obtain ⟨rfl, rfl⟩ := h1
    cases h
    exact h2
def jmp (pc : Nat) (o : Int) : Option Int := if 0 ≤ (pc : Int) + o then some ((pc : Int) + o) else none
/-- a real instruction as one of the small machine's -/
def tr (cn : Nat) (z : Bool) (pc : Nat) (r : Instr) : Option Instr := match r with
  | .iconst i => some (.iconst i)
  | .bipush i => if (Int8.ofInt i).toInt32 = Int32.ofInt i then some (.iconst i) else none
  | .sipush i => if (Int16.ofInt i).toInt32 = Int32.ofInt i then some (.iconst i) else none
  | .ldc x => (lk ldcL cn x).map (fun v => .iconst v)
  | .ldc_w x => (lk ldcL cn x).map (fun v => .iconst v)
  | .lconst k => some (.goto_w ((k : Nat) : Int))
  | .ldc2_w x => (lk ldc2L cn x).map (fun v => .goto_w v)
  | .iload i => some (.iload i)
  | .iload_n k => some (.iload k)
  | .lload i => some (.lload i)
  | .lload_n k => some (.lload k)
  | .aload i => some (.aload i)
  | .aload_n k => some (.aload k)
  | .istore i => some (.istore i)
  | .istore_n k => some (.istore k)
  | .lstore i => some (.lstore i)
  | .lstore_n k => some (.lstore k)
  | .astore i => some (.astore i)
  | .astore_n k => some (.astore k)
  | .iinc i c => some (.iinc i c)
  | .goto o => (jmp pc o).map (fun t => .goto t)
  | .if_icmp c o => (jmp pc o).map (fun t => .if_icmp c t)
  | .ifCond c o => (jmp pc o).map (fun t => .ifCond c t)
  | .tableswitch d lo hi offs => if 0 ≤ (pc : Int) + d ∧ (offs.toList.all (fun o => decide (0 ≤ (pc : Int) + o))) = true ∧ (hi - lo + 1).toNat ≤ offs.size then some (.tableswitch ((pc : Int) + d) lo hi (offs.map (fun o => (pc : Int) + o))) else none
  | .getfield x => (lk fldL cn x).map (fun n => .getfield n)
  | .putfield x => (lk fldL cn x).map (fun n => .putfield n)
  | .invokestatic x => (lk mtL cn x).bind (fun q => if q.2.2 = 0 ∨ q.2.2 = 3 then some (.invokeinterface q.1 q.2.1) else if q.2.2 = 6 then some .fneg else if q.2.2 = 7 then some .fadd else if q.2.2 = 8 then some .fsub else none)
  | .invokevirtual x => (lk mtL cn x).bind (fun q => if q.2.2 = 1 then some (.invokeinterface q.1 q.2.1) else none)
  | .invokespecial x => (lk mtL cn x).bind (fun q => if q.2.2 = 2 ∨ q.2.2 = 4 then some (.invokeinterface q.1 q.2.1) else if q.2.2 = 5 then some .monitorenter else none)
  | .new x => (lk newL cn x).map (fun n => .new n)
  | .anewarray x => (lk newL cn x).bind (fun n => if n = 2 then some (.anewarray 2) else none)
  | .newarray t => some (.newarray t)
  | .ireturn => some (if z = true then .freturn else .ireturn)
  | .lreturn => some .lreturn
  | .return_ => some .return_
  | .iadd => some .iadd
  | .isub => some .isub
  | .imul => some .imul
  | .idiv => some .idiv
  | .irem => some .irem
  | .ineg => some .ineg
  | .iand => some .iand
  | .ior => some .ior
  | .ishl => some .ishl
  | .ishr => some .ishr
  | .iushr => some .iushr
  | .ladd => some .ladd
  | .lsub => some .lsub
  | .lmul => some .lmul
  | .ldiv => some .ldiv
  | .land => some .land
  | .lor => some .lor
  | .lshl => some .lshl
  | .lshr => some .lshr
  | .lcmp => some .lcmp
  | .i2l => some .i2l
  | .l2i => some .l2i
  | .dup => some .dup
  | .pop => some .pop
  | .dup2 => some .dup2
  | .iaload => some .iaload
  | .iastore => some .iastore
  | .baload => some .baload
  | .bastore => some .bastore
  | .laload => some .laload
  | .lastore => some .lastore
  | .aaload => some .aaload
  | .aastore => some .aastore
  | .arraylength => some .arraylength
  | _ => none
def ilen (r : Instr) : Nat := match r with
  | .bipush _ | .ldc _ | .iload _ | .lload _ | .aload _ | .istore _ | .lstore _ | .astore _ | .newarray _ => 2
  | .sipush _ | .ldc_w _ | .ldc2_w _ | .iinc _ _ | .goto _ | .if_icmp _ _ | .ifCond _ _ | .getfield _ | .putfield _ | .invokestatic _ | .invokevirtual _ | .invokespecial _ | .new _ | .anewarray _ => 3
  | _ => 1
def isSw (r : Instr) : Bool := match r with
  | .tableswitch _ _ _ _ => true
  | _ => false
/-- nothing goes on behind it -/
def isTm (i : Instr) : Bool := match i with
  | .goto _ | .tableswitch _ _ _ _ | .ireturn | .freturn | .lreturn | .return_ => true
  | _ => false
/-- its targets begin blocks -/
def tgs (pcs : List Nat) (i : Instr) : Bool := match i with
  | .goto t | .if_icmp _ t | .ifCond _ t => pcs.contains t.toNat
  | .tableswitch d _ _ offs => pcs.contains d.toNat && offs.toList.all (fun t => pcs.contains t.toNat)
  | _ => true
def isJ (i : Instr) : Option Int := match i with
  | .jsr t => some t
  | _ => none
/-- how a call fits the room -/
def cRm (mid : Nat) (i : Instr) : Bool := match i with
  | .invokeinterface k _ => decide (k < 186) && decide (k ≠ 184) && decide (rkT.getD k 99 + 1 ≤ rkT.getD mid 0) && decide (19 + mlT.getD k 99 + lrT.getD k 999 ≤ lrT.getD mid 0)
  | .monitorenter => decide (1 ≤ rkT.getD mid 0) && decide (20 ≤ lrT.getD mid 0)
  | .fneg | .fadd | .fsub => decide (1 ≤ rkT.getD mid 0) && decide (20 ≤ lrT.getD mid 0)
  | .putfield n => !(finT.getD (n / 32) []).getD (n % 32) true || (kdT.getD mid 0 == 2 && clT.getD mid 99 == n / 32)
  | .ireturn => rtT.getD mid 9 == 1
  | .freturn => rtT.getD mid 9 == 2
  | .lreturn => rtT.getD mid 9 == 3
  | .return_ => rtT.getD mid 9 == 0
  | _ => true
def chkI (mid pc : Nat) (i : Instr) : Option Nat := match decode (cM mid) pc with
  | .ok (r, len) => if tr (clT.getD mid 99) (rtT.getD mid 0 == 2) pc r = some i ∧ (isSw r = true ∨ len = ilen r) ∧ tgs (pcsT.getD mid []) i = true ∧ cRm mid i = true then some len else none
  | _ => none
def chkB (mid : Nat) : Nat → List Instr → Bool
  | _, [] => false
  | pc, i :: is => match isJ i with
    | some t => decide (t = (pc : Int)) && (pcsT.getD mid []).contains pc
    | none => match chkI mid pc i with
      | some len => isTm i || chkB mid (pc + len) is
      | none => false
def chkM (mid : Nat) : Bool := (pcsT.getD mid []).all (fun pc => chkB mid pc (blk mid pc))
