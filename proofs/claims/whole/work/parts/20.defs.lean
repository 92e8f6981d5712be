/-! The program: its methods as blocks (printed by wip/whole/gen.py). -/
def nfX0 : Vs := [.int 0, .int 0, .null, .null, .null, .null, .null, .null, .null, .null]
def nfX1 : Vs := [.int 0, .int 0, .int 0, .null, .null, .null, .null, .null, .null, .null, .null, .null, .null]
def nfX2 : Vs := [.null]
def nfX3 : Vs := [.null]
def nfX4 : Vs := [.null, .int 0, .int 0, .int 0, .int 0, .int 0, .int 0, .int 0, .int 0]
def nfX5 : Vs := [.null, .null, .null, .null, .null, .null, .null, .int 0, .null, .int 0, .int 0, .null]
def nfX6 : Vs := [.null, .null, .null, .null, .null, .null, .int 0, .int 0, .null, .int 0, .int 0, .int 0, .int 0, .int 0, .int 0, .int 0, .int 0, .null, .null, .null, .null, .null, .null, .null, .null, .null, .null, .int 0, .null, .int 0]
/-- HandFingers$Piece.<init>()V -/
def i_0 : MI := (RX0, cX0_init, 1, yX0_init, none, (3, 68), [])
def P_0 : List Nat := [0, 14, 27, 40, 53, 66, 79, 92, 105, 112]
noncomputable def B_0 : List Bk := [([xLdA 0, xObj, xLdA 0, xNew 2 nfX2, xDup, xC (.int 40)], tCi 61 2 1 1),
  ([xPut 0 2 (.object "HandFingers$Row"), xLdA 0, xNew 2 nfX2, xDup, xC (.int 40)], tCi 61 2 1 2),
  ([xPut 0 3 (.object "HandFingers$Row"), xLdA 0, xNew 2 nfX2, xDup, xC (.int 120)], tCi 61 2 1 3),
  ([xPut 0 4 (.object "HandFingers$Row"), xLdA 0, xNew 2 nfX2, xDup, xC (.int 120)], tCi 61 2 1 4),
  ([xPut 0 5 (.object "HandFingers$Row"), xLdA 0, xNew 2 nfX2, xDup, xC (.int 10)], tCi 61 2 1 5),
  ([xPut 0 6 (.object "HandFingers$Row"), xLdA 0, xNew 2 nfX2, xDup, xC (.int 25)], tCi 61 2 1 6),
  ([xPut 0 7 (.object "HandFingers$Row"), xLdA 0, xNew 2 nfX2, xDup, xC (.int 25)], tCi 61 2 1 7),
  ([xPut 0 8 (.object "HandFingers$Row"), xLdA 0, xNew 2 nfX2, xDup, xC (.int 25)], tCi 61 2 1 8),
  ([xPut 0 9 (.object "HandFingers$Row"), xLdA 0], tCv 1 2 0 0 9 (some [])),
  ([], tRetV)]
/-- HandFingers$Piece.begin()V -/
def i_1 : MI := (RX0, cX0_begin, 2, yX0_begin, none, (2, 47), [])
def P_1 : List Nat := [0, 12, 20, 33, 39, 41, 51, 88, 94]
noncomputable def B_1 : List Bk := [([xLdA 0, xC (.int 1), xPut 0 0 (.boolean), xLdA 0, xC (.int 0), xPut 0 1 (.int), xC (.int 0), xSt 1], tGo 1),
  ([xLd 1, xC (.ref 0), xLen], tGe 4 2),
  ([xLdA 0, xGet 0 6, xLd 1, xC (.ref 0), xLd 1, xAld], tCv 63 3 2 2 3 (some [])),
  ([xInc 1 1], tGo 1),
  ([xC (.int 0), xSt 1], tGo 5),
  ([xLd 1, xC (.int 5), xAdd, xC (.ref 1), xLen], tGt 8 6),
  ([xLdA 0, xC (.ref 1), xLd 1, xAld, xC (.ref 1), xLd 1, xC (.int 1), xAdd, xAld, xC (.ref 1), xLd 1, xC (.int 2), xAdd, xAld, xC (.ref 1), xLd 1, xC (.int 3), xAdd, xAld, xC (.ref 1), xLd 1, xC (.int 4), xAdd, xAld], tCv 3 6 0 5 7 (some [])),
  ([xInc 1 5], tGo 5),
  ([], tRetV)]
/-- HandFingers$Piece.copyFrom(LHandFingers$Piece;)V -/
def i_2 : MI := (RX0, cX0_copyFrom, 2, yX0_copyFrom, none, (2, 47), [])
def P_2 : List Nat := [0, 27, 38, 49, 60, 71, 82, 93, 104]
noncomputable def B_2 : List Bk := [([xLdA 0, xLdA 1, xGet 0 0, xPut 0 0 (.boolean), xLdA 0, xLdA 1, xGet 0 1, xPut 0 1 (.int), xLdA 0, xGet 0 2, xLdA 1, xGet 0 2], tCv 64 2 2 1 1 (some [])),
  ([xLdA 0, xGet 0 3, xLdA 1, xGet 0 3], tCv 64 2 2 1 2 (some [])),
  ([xLdA 0, xGet 0 4, xLdA 1, xGet 0 4], tCv 64 2 2 1 3 (some [])),
  ([xLdA 0, xGet 0 5, xLdA 1, xGet 0 5], tCv 64 2 2 1 4 (some [])),
  ([xLdA 0, xGet 0 6, xLdA 1, xGet 0 6], tCv 64 2 2 1 5 (some [])),
  ([xLdA 0, xGet 0 7, xLdA 1, xGet 0 7], tCv 64 2 2 1 6 (some [])),
  ([xLdA 0, xGet 0 8, xLdA 1, xGet 0 8], tCv 64 2 2 1 7 (some [])),
  ([xLdA 0, xGet 0 9, xLdA 1, xGet 0 9], tCv 64 2 2 1 8 (some [])),
  ([], tRetV)]
/-- HandFingers$Piece.putSpan(IIIII)V -/
def i_3 : MI := (RX0, cX0_putSpan, 6, yX0_putSpan, none, (1, 22), [])
def P_3 : List Nat := [0, 9, 13, 22, 26, 35, 40, 49, 54, 63, 68, 77, 82]
noncomputable def B_3 : List Bk := [([xLdA 0, xGet 0 7, xLd 1, xLd 2], tCs 147 2 2 1),
  ([xLd 3], tCv 63 3 2 2 2 (some [])),
  ([xLdA 0, xGet 0 7, xLd 2, xLd 1], tCs 147 2 2 3),
  ([xLd 3], tCv 63 3 2 2 4 (some [])),
  ([xLdA 0, xGet 0 8, xLd 1, xLd 2], tCs 147 2 2 5),
  ([xLd 4], tCv 63 3 2 2 6 (some [])),
  ([xLdA 0, xGet 0 8, xLd 2, xLd 1], tCs 147 2 2 7),
  ([xLd 4], tCv 63 3 2 2 8 (some [])),
  ([xLdA 0, xGet 0 9, xLd 1, xLd 2], tCs 147 2 2 9),
  ([xLd 5], tCv 63 3 2 2 10 (some [])),
  ([xLdA 0, xGet 0 9, xLd 2, xLd 1], tCs 147 2 2 11),
  ([xLd 5], tCv 63 3 2 2 12 (some [])),
  ([], tRetV)]
/-- HandFingers$Piece.openPlace(I)V -/
def i_4 : MI := (RX0, cX0_openPlace, 3, yX0_openPlace, none, (2, 45), [])
def P_4 : List Nat := [0, 5, 10, 18, 24, 33, 42]
noncomputable def B_4 : List Bk := [([xLdA 0, xGet 0 1, xSt 2], tGo 1),
  ([xLd 2, xLd 1], tLe 4 2),
  ([xLdA 0, xLd 2, xC (.int 1), xSub, xLd 2], tCv 6 4 0 2 3 (some [])),
  ([xInc 2 (-1)], tGo 1),
  ([xLdA 0, xGet 0 2, xLd 1, xC (.int 0)], tCv 63 3 2 2 5 (some [])),
  ([xLdA 0, xGet 0 3, xLd 1, xC (.int 0)], tCv 63 3 2 2 6 (some [])),
  ([xLdA 0, xDup, xGet 0 1, xC (.int 1), xAdd, xPut 0 1 (.int)], tRetV)]
/-- HandFingers$Piece.closePlace(I)V -/
def i_5 : MI := (RX0, cX0_closePlace, 3, yX0_closePlace, none, (2, 45), [])
def P_5 : List Nat := [0, 12, 20, 28, 34]
noncomputable def B_5 : List Bk := [([xLdA 0, xDup, xGet 0 1, xC (.int 1), xSub, xPut 0 1 (.int), xLd 1, xSt 2], tGo 1),
  ([xLd 2, xLdA 0, xGet 0 1], tGe 4 2),
  ([xLdA 0, xLd 2, xC (.int 1), xAdd, xLd 2], tCv 6 4 0 2 3 (some [])),
  ([xInc 2 1], tGo 1),
  ([], tRetV)]
/-- HandFingers$Piece.moveEvent(II)V -/
def i_6 : MI := (RX0, cX0_moveEvent, 4, yX0_moveEvent, none, (1, 22), [])
def P_6 : List Nat := [0, 13, 16, 29, 32, 34, 39, 48, 57, 60, 63, 72, 81, 84, 87, 93]
noncomputable def B_6 : List Bk := [([xLdA 0, xGet 0 2, xLd 2, xLdA 0, xGet 0 2, xLd 1], tCv 62 2 2 1 1 (some [])),
  ([], tCv 63 3 2 2 2 (some [])),
  ([xLdA 0, xGet 0 3, xLd 2, xLdA 0, xGet 0 3, xLd 1], tCv 62 2 2 1 3 (some [])),
  ([], tCv 63 3 2 2 4 (some [])),
  ([xC (.int 0), xSt 3], tGo 5),
  ([xLd 3, xC (.int 3)], tGe 15 6),
  ([xLdA 0, xGet 0 4, xLd 2, xLd 3], tCs 146 2 2 7),
  ([xLdA 0, xGet 0 4, xLd 1, xLd 3], tCs 146 2 2 8),
  ([], tCv 62 2 2 1 9 (some [])),
  ([], tCv 63 3 2 2 10 (some [])),
  ([xLdA 0, xGet 0 5, xLd 2, xLd 3], tCs 146 2 2 11),
  ([xLdA 0, xGet 0 5, xLd 1, xLd 3], tCs 146 2 2 12),
  ([], tCv 62 2 2 1 13 (some [])),
  ([], tCv 63 3 2 2 14 (some [])),
  ([xInc 3 1], tGo 5),
  ([], tRetV)]
/-- HandFingers$Piece.putNote(III)V -/
def i_7 : MI := (RX0, cX0_putNote, 4, yX0_putNote, none, (1, 22), [])
def P_7 : List Nat := [0, 9, 13, 22, 27, 38]
noncomputable def B_7 : List Bk := [([xLdA 0, xGet 0 4, xLd 1, xLd 2], tCs 146 2 2 1),
  ([xLd 3], tCv 63 3 2 2 2 (some [])),
  ([xLdA 0, xGet 0 5, xLd 1, xLd 2], tCs 146 2 2 3),
  ([xC (.int 31)], tCv 63 3 2 2 4 (some [])),
  ([xLdA 0, xGet 0 2, xLd 1, xLd 2, xC (.int 1), xAdd], tCv 63 3 2 2 5 (some [])),
  ([], tRetV)]
/-- HandFingers$Piece.canShift(I)Z -/
def i_8 : MI := (RX0, cX0_canShift, 2, yX0_canShift, (some .boolean), (3, 65), [])
def P_8 : List Nat := [0, 7, 11, 18, 22, 29, 33, 34]
noncomputable def B_8 : List Bk := [([xLdA 0, xGet 0 1], tEq0 5 1),
  ([xLdA 0], tCv 12 3 0 0 2 (some [])),
  ([xLd 1, xAdd, xC (.int 21)], tLt 6 3),
  ([xLdA 0], tCv 13 3 0 0 4 (some [])),
  ([xLd 1, xAdd, xC (.int 108)], tGt 6 5),
  ([xC (.int 1)], tGo 7),
  ([xC (.int 0)], tGo 7),
  ([], tRetZ)]
/-- HandFingers$Piece.shift(I)V -/
def i_9 : MI := (RX0, cX0_shift, 4, yX0_shift, none, (2, 43), [])
def P_9 : List Nat := [0, 2, 10, 12, 21, 24, 33, 39, 44, 50, 56]
noncomputable def B_9 : List Bk := [([xC (.int 0), xSt 2], tGo 1),
  ([xLd 2, xLdA 0, xGet 0 1], tGe 10 2),
  ([xC (.int 0), xSt 3], tGo 3),
  ([xLd 3, xLdA 0, xGet 0 2, xLd 2], tCv 62 2 2 1 4 (some [])),
  ([], tGe 9 5),
  ([xLdA 0, xGet 0 4, xLd 2, xLd 3], tCs 146 2 2 6),
  ([xLdA 0, xLd 2, xLd 3], tCv 10 3 0 2 7 (some [])),
  ([xLd 1, xAdd], tCv 63 3 2 2 8 (some [])),
  ([xInc 3 1], tGo 3),
  ([xInc 2 1], tGo 1),
  ([], tRetV)]
/-- HandFingers$Piece.keyOf(II)I -/
def i_10 : MI := (RX0, cX0_keyOf, 3, yX0_keyOf, (some .int), (1, 21), [])
def P_10 : List Nat := [0, 9, 12]
noncomputable def B_10 : List Bk := [([xLdA 0, xGet 0 4, xLd 1, xLd 2], tCs 146 2 2 1),
  ([], tCv 62 2 2 1 2 (some [])),
  ([], tRet)]
/-- HandFingers$Piece.allNotes()I -/
def i_11 : MI := (RX0, cX0_allNotes, 3, yX0_allNotes, (some .int), (1, 21), [])
def P_11 : List Nat := [0, 4, 12, 21, 29]
noncomputable def B_11 : List Bk := [([xC (.int 0), xSt 1, xC (.int 0), xSt 2], tGo 1),
  ([xLd 2, xLdA 0, xGet 0 1], tGe 4 2),
  ([xLd 1, xLdA 0, xGet 0 2, xLd 2], tCv 62 2 2 1 3 (some [])),
  ([xAdd, xSt 1, xInc 2 1], tGo 1),
  ([xLd 1], tRet)]
/-- HandFingers$Piece.leastKey()I -/
def i_12 : MI := (RX0, cX0_leastKey, 3, yX0_leastKey, (some .int), (2, 43), [])
def P_12 : List Nat := [0, 4, 12, 19, 22, 29]
noncomputable def B_12 : List Bk := [([xC (.int (-1)), xSt 1, xC (.int 0), xSt 2], tGo 1),
  ([xLd 2, xLdA 0, xGet 0 1], tGe 5 2),
  ([xLd 1, xLdA 0, xLd 2, xC (.int 0)], tCv 10 3 0 2 3 (some [])),
  ([], tCs 149 2 2 4),
  ([xSt 1, xInc 2 1], tGo 1),
  ([xLd 1], tRet)]
/-- HandFingers$Piece.greatestKey()I -/
def i_13 : MI := (RX0, cX0_greatestKey, 3, yX0_greatestKey, (some .int), (2, 43), [])
def P_13 : List Nat := [0, 4, 12, 23, 28, 38]
noncomputable def B_13 : List Bk := [([xC (.int (-1)), xSt 1, xC (.int 0), xSt 2], tGo 1),
  ([xLd 2, xLdA 0, xGet 0 1], tGe 5 2),
  ([xLd 1, xLdA 0, xLd 2, xLdA 0, xGet 0 2, xLd 2], tCv 62 2 2 1 3 (some [])),
  ([xC (.int 1), xSub], tCv 10 3 0 2 4 (some [])),
  ([xMax, xSt 1, xInc 2 1], tGo 1),
  ([xLd 1], tRet)]
/-- HandFingers$Piece.blackNotes()I -/
def i_14 : MI := (RX0, cX0_blackNotes, 4, yX0_blackNotes, (some .int), (2, 43), [])
def P_14 : List Nat := [0, 4, 12, 14, 23, 26, 33, 36, 39, 43, 44, 52, 58]
noncomputable def B_14 : List Bk := [([xC (.int 0), xSt 1, xC (.int 0), xSt 2], tGo 1),
  ([xLd 2, xLdA 0, xGet 0 1], tGe 12 2),
  ([xC (.int 0), xSt 3], tGo 3),
  ([xLd 3, xLdA 0, xGet 0 2, xLd 2], tCv 62 2 2 1 4 (some [])),
  ([], tGe 11 5),
  ([xLd 1, xLdA 0, xLd 2, xLd 3], tCv 10 3 0 2 6 (some [])),
  ([], tCs 144 2 1 7),
  ([], tEq0 9 8),
  ([xC (.int 1)], tGo 10),
  ([xC (.int 0)], tGo 10),
  ([xAdd, xSt 1, xInc 3 1], tGo 3),
  ([xInc 2 1], tGo 1),
  ([xLd 1], tRet)]
/-- HandFingers$Piece.freePassages()I -/
def i_15 : MI := (RX0, cX0_freePassages, 3, yX0_freePassages, (some .int), (2, 42), [])
def P_15 : List Nat := [0, 4, 14, 24, 27, 30, 34, 35, 43]
noncomputable def B_15 : List Bk := [([xC (.int 0), xSt 1, xC (.int 0), xSt 2], tGo 1),
  ([xLd 2, xLdA 0, xGet 0 1, xC (.int 1), xSub], tGe 8 2),
  ([xLd 1, xLdA 0, xLdA 0, xGet 0 3, xLd 2], tCv 62 2 2 1 3 (some [])),
  ([], tCv 16 2 0 1 4 (some [])),
  ([], tEq0 6 5),
  ([xC (.int 1)], tGo 7),
  ([xC (.int 0)], tGo 7),
  ([xAdd, xSt 1, xInc 2 1], tGo 1),
  ([xLd 1], tRet)]
/-- HandFingers$Piece.isFree(I)Z -/
def i_16 : MI := (RX0, cX0_isFree, 2, yX0_isFree, (some .boolean), (1, 21), [])
def P_16 : List Nat := [0, 10, 13, 17, 18]
noncomputable def B_16 : List Bk := [([xLd 1, xLdA 0, xGet 0 6, xC (.int 8)], tCv 62 2 2 1 1 (some [])),
  ([], tLt 3 2),
  ([xC (.int 1)], tGo 4),
  ([xC (.int 0)], tGo 4),
  ([], tRetZ)]
/-- HandFingers$Piece.mayPlay(III)Z -/
def i_17 : MI := (RX0, cX0_mayPlay, 4, yX0_mayPlay, (some .boolean), (1, 21), [])
def P_17 : List Nat := [0, 9, 12, 16, 20, 24, 25]
noncomputable def B_17 : List Bk := [([xLdA 0, xGet 0 5, xLd 1, xLd 2], tCs 146 2 2 1),
  ([], tCv 62 2 2 1 2 (some [])),
  ([xLd 3], tCs 145 1 1 3),
  ([xAnd], tEq0 5 4),
  ([xC (.int 1)], tGo 6),
  ([xC (.int 0)], tGo 6),
  ([], tRetZ)]
/-- HandFingers$Piece.inOrder(II)Z -/
def i_18 : MI := (RX0, cX0_inOrder, 3, yX0_inOrder, (some .boolean), (0, 0), [])
def P_18 : List Nat := [0, 7, 12, 16, 20, 25, 29, 30]
noncomputable def B_18 : List Bk := [([xLdA 0, xGet 0 0], tEq0 4 1),
  ([xLd 1, xLd 2], tGe 3 2),
  ([xC (.int 1)], tGo 7),
  ([xC (.int 0)], tGo 7),
  ([xLd 1, xLd 2], tLe 6 5),
  ([xC (.int 1)], tGo 7),
  ([xC (.int 0)], tGo 7),
  ([], tRetZ)]
/-- HandFingers$Piece.costOfEvent(ILHandFingers$Row;II)I -/
def i_19 : MI := (RX0, cX0_costOfEvent, 10, yX0_costOfEvent, (some .int), (2, 47), [])
def P_19 : List Nat := [0, 6, 16, 19, 27, 38, 41, 43, 53, 61, 69, 72, 82, 92, 101, 109, 119, 122, 128, 130, 137, 143]
noncomputable def B_19 : List Bk := [([xC (.int 0), xSt 5, xC (.int 0), xSt 6], tGo 1),
  ([xLd 6, xLdA 0, xGet 0 2, xLd 1], tCv 62 2 2 1 2 (some [])),
  ([], tGe 21 3),
  ([xLdA 2, xLd 3, xLd 6, xAdd], tCv 62 2 2 1 4 (some [])),
  ([xSt 7, xLdA 0, xLd 1, xLd 6, xLd 7], tCv 17 4 0 3 5 (some [])),
  ([], tNe0 7 6),
  ([xC (.int (-1))], tRet),
  ([xLd 5, xLdA 0, xLdA 0, xLd 1, xLd 6], tCv 10 3 0 2 8 (some [])),
  ([xLd 4, xAdd, xLd 7], tCv 20 4 0 2 9 (some [])),
  ([xAdd, xSt 5, xLd 6], tNe0 11 10),
  ([], tGo 20),
  ([xLdA 2, xLd 3, xLd 6, xAdd, xC (.int 1), xSub], tCv 62 2 2 1 12 (some [])),
  ([xSt 8, xLdA 0, xLdA 0, xLd 1, xLd 6], tCv 10 3 0 2 13 (some [])),
  ([xLdA 0, xLd 1, xLd 6, xC (.int 1), xSub], tCv 10 3 0 2 14 (some [])),
  ([xSub, xLd 8, xLd 7], tCv 21 7 0 3 15 (some [])),
  ([xSt 9, xLdA 0, xLd 8, xLd 7], tCv 18 3 0 2 16 (some [])),
  ([], tEq0 18 17),
  ([xLd 9, xC (.int (-1))], tNe 19 18),
  ([xC (.int (-1))], tRet),
  ([xLd 5, xLd 9, xAdd, xSt 5], tGo 20),
  ([xInc 6 1], tGo 1),
  ([xLd 5], tRet)]
/-- HandFingers$Piece.costOfNote(II)I -/
def i_20 : MI := (RX0, cX0_costOfNote, 4, yX0_costOfNote, (some .int), (1, 21), [])
def P_20 : List Nat := [0, 5, 14, 17, 18, 24, 29, 33, 36, 45, 47]
noncomputable def B_20 : List Bk := [([xLd 2, xC (.int 4)], tNe 3 1),
  ([xLdA 0, xGet 0 6, xC (.int 6)], tCv 62 2 2 1 2 (some [])),
  ([], tGo 4),
  ([xC (.int 0)], tGo 4),
  ([xSt 3, xLd 2, xC (.int 1)], tEq 6 5),
  ([xLd 2, xC (.int 5)], tNe 10 6),
  ([xLd 1], tCs 144 2 1 7),
  ([], tEq0 10 8),
  ([xLd 3, xLdA 0, xGet 0 6, xC (.int 5)], tCv 62 2 2 1 9 (some [])),
  ([xAdd, xSt 3], tGo 10),
  ([xLd 3], tRet)]
/-- HandFingers$Piece.costOfStretch(III)I -/
def i_21 : MI := (RX0, cX0_costOfStretch, 7, yX0_costOfStretch, (some .int), (1, 21), [])
def P_21 : List Nat := [0, 5, 17, 20, 22, 31, 45, 56]
noncomputable def B_21 : List Bk := [([xLd 2, xLd 3], tCs 147 2 2 1),
  ([xSt 4, xLd 1, xLdA 0, xGet 0 9, xLd 4], tCv 62 2 2 1 2 (some [])),
  ([], tLe 4 3),
  ([xC (.int (-1))], tRet),
  ([xLdA 0, xGet 0 7, xLd 4], tCv 62 2 2 1 5 (some [])),
  ([xLd 1, xSub, xSt 5, xLd 1, xLdA 0, xGet 0 8, xLd 4], tCv 62 2 2 1 6 (some [])),
  ([xSub, xSt 6, xLdA 0, xGet 0 6, xC (.int 0)], tCv 62 2 2 1 7 (some [])),
  ([xC (.int 0), xLd 5, xLd 6, xMax, xMax, xMul], tRet)]
/-- HandFingers$Piece.costOfPassage(IILHandFingers$Row;II)I -/
def i_22 : MI := (RX0, cX0_costOfPassage, 11, yX0_costOfPassage, (some .int), (3, 72), [])
def P_22 : List Nat := [0, 5, 8, 10, 16, 23, 26, 33, 44, 56, 63, 72, 81, 84, 92, 94, 107, 119]
noncomputable def B_22 : List Bk := [([xLdA 0, xLd 2], tCv 16 2 0 1 1 (some [])),
  ([], tEq0 3 2),
  ([xC (.int 0)], tRet),
  ([xC (.int 0), xSt 6, xC (.int 0), xSt 7], tGo 4),
  ([xLd 7, xLdA 0, xLd 1], tCv 24 2 0 1 5 (some [])),
  ([], tGe 16 6),
  ([xLdA 0, xLd 1, xLd 7], tCv 25 3 0 2 7 (some [])),
  ([xSt 8, xLdA 0, xLd 1, xC (.int 1), xAdd, xLd 7], tCv 25 3 0 2 8 (some [])),
  ([xSt 9, xLdA 0, xLdA 3, xLd 4, xLd 8, xAdd], tCv 62 2 2 1 9 (some [])),
  ([xLdA 0, xLd 1, xLd 8], tCv 10 3 0 2 10 (some [])),
  ([xLdA 3, xLd 5, xLd 9, xAdd], tCv 62 2 2 1 11 (some [])),
  ([xLdA 0, xLd 1, xC (.int 1), xAdd, xLd 9], tCv 10 3 0 2 12 (some [])),
  ([], tCv 26 6 0 4 13 (some [])),
  ([xSt 10, xLd 10, xC (.int (-1))], tNe 15 14),
  ([xC (.int (-1))], tRet),
  ([xLd 6, xLd 10, xAdd, xSt 6, xInc 7 1], tGo 4),
  ([xC (.int 0), xLd 6, xLdA 0, xGet 0 6, xC (.int 7)], tCv 62 2 2 1 17 (some [])),
  ([xLd 2, xMul, xSub, xMax], tRet)]
/-- HandFingers$Piece.crossings(ILHandFingers$Row;II)I -/
def i_23 : MI := (RX0, cX0_crossings, 10, yX0_crossings, (some .int), (2, 47), [])
def P_23 : List Nat := [0, 9, 12, 15, 17, 23, 30, 33, 40, 51, 62, 69, 78, 87, 90, 100, 104, 105, 114]
noncomputable def B_23 : List Bk := [([xLdA 0, xLdA 0, xGet 0 3, xLd 1], tCv 62 2 2 1 1 (some [])),
  ([], tCv 16 2 0 1 2 (some [])),
  ([], tEq0 4 3),
  ([xC (.int 0)], tRet),
  ([xC (.int 0), xSt 5, xC (.int 0), xSt 6], tGo 5),
  ([xLd 6, xLdA 0, xLd 1], tCv 24 2 0 1 6 (some [])),
  ([], tGe 18 7),
  ([xLdA 0, xLd 1, xLd 6], tCv 25 3 0 2 8 (some [])),
  ([xSt 7, xLdA 0, xLd 1, xC (.int 1), xAdd, xLd 6], tCv 25 3 0 2 9 (some [])),
  ([xSt 8, xLdA 0, xLdA 2, xLd 3, xLd 7, xAdd], tCv 62 2 2 1 10 (some [])),
  ([xLdA 0, xLd 1, xLd 7], tCv 10 3 0 2 11 (some [])),
  ([xLdA 2, xLd 4, xLd 8, xAdd], tCv 62 2 2 1 12 (some [])),
  ([xLdA 0, xLd 1, xC (.int 1), xAdd, xLd 8], tCv 10 3 0 2 13 (some [])),
  ([], tCv 27 7 0 4 14 (some [])),
  ([xSt 9, xLd 5, xLd 9, xC (.int 3)], tNe 16 15),
  ([xC (.int 1)], tGo 17),
  ([xC (.int 0)], tGo 17),
  ([xAdd, xSt 5, xInc 6 1], tGo 5),
  ([xLd 5], tRet)]
/-- HandFingers$Piece.endsOf(I)I -/
def i_24 : MI := (RX0, cX0_endsOf, 2, yX0_endsOf, (some .int), (1, 21), [])
def P_24 : List Nat := [0, 8, 12, 22, 26, 30, 31]
noncomputable def B_24 : List Bk := [([xLdA 0, xGet 0 2, xLd 1], tCv 62 2 2 1 1 (some [])),
  ([xC (.int 1)], tGt 4 2),
  ([xLdA 0, xGet 0 2, xLd 1, xC (.int 1), xAdd], tCv 62 2 2 1 3 (some [])),
  ([xC (.int 1)], tLe 5 4),
  ([xC (.int 2)], tGo 6),
  ([xC (.int 1)], tGo 6),
  ([], tRet)]
/-- HandFingers$Piece.noteAtEnd(II)I -/
def i_25 : MI := (RX0, cX0_noteAtEnd, 3, yX0_noteAtEnd, (some .int), (1, 21), [])
def P_25 : List Nat := [0, 4, 8, 9, 16, 20, 28, 30]
noncomputable def B_25 : List Bk := [([xLd 2], tNe0 2 1),
  ([xC (.int 1)], tGo 3),
  ([xC (.int 0)], tGo 3),
  ([xLdA 0, xGet 0 0], tNe 5 4),
  ([xC (.int 0)], tGo 7),
  ([xLdA 0, xGet 0 2, xLd 1], tCv 62 2 2 1 6 (some [])),
  ([xC (.int 1), xSub], tGo 7),
  ([], tRet)]
/-- HandFingers$Piece.costOfLink(IIII)I -/
def i_26 : MI := (RX0, cX0_costOfLink, 6, yX0_costOfLink, (some .int), (2, 47), [])
def P_26 : List Nat := [0, 18, 48, 57, 61, 62, 65, 66, 74, 78, 86, 87, 95, 96]
noncomputable def B_26 : List Bk := [([xLd 4, xLd 2, xSub, xAbs, xSt 5, xLdA 0, xLd 1, xLd 2, xLd 3, xLd 4], tCv 27 7 0 4 1 (some [])),
  ([], tSw 13 [(0, 2), (1, 7), (2, 9), (3, 11)]),
  ([xLdA 0, xGet 0 6, xLd 1, xLd 3], tNe 4 3),
  ([xC (.int 2)], tGo 5),
  ([xC (.int 3)], tGo 5),
  ([], tCv 62 2 2 1 6 (some [])),
  ([], tRet),
  ([xLdA 0, xGet 0 6, xC (.int 4)], tCv 62 2 2 1 8 (some [])),
  ([xLd 5, xMul], tRet),
  ([xLdA 0, xLd 5, xLd 1, xLd 3], tCv 21 7 0 3 10 (some [])),
  ([], tRet),
  ([xLdA 0, xGet 0 6, xC (.int 1)], tCv 62 2 2 1 12 (some [])),
  ([], tRet),
  ([xC (.int (-1))], tRet)]
/-- HandFingers$Piece.kindOfLink(IIII)I -/
def i_27 : MI := (RX0, cX0_kindOfLink, 7, yX0_kindOfLink, (some .int), (1, 21), [])
def P_27 : List Nat := [0, 6, 8, 13, 15, 22, 29, 33, 40, 44, 45, 50, 54, 55, 58, 60, 69, 78, 82, 83, 90, 104, 107, 111, 112]
noncomputable def B_27 : List Bk := [([xLd 2, xLd 4], tNe 2 1),
  ([xC (.int 0)], tRet),
  ([xLd 1, xLd 3], tNe 4 3),
  ([xC (.int 1)], tRet),
  ([xLdA 0, xGet 0 0], tEq0 6 5),
  ([xLd 4, xLd 2, xSub], tGo 7),
  ([xLd 2, xLd 4, xSub], tGo 7),
  ([xSt 5, xLd 5], tLe0 9 8),
  ([xC (.int 1)], tGo 10),
  ([xC (.int 0)], tGo 10),
  ([xLd 3, xLd 1], tLe 12 11),
  ([xC (.int 1)], tGo 13),
  ([xC (.int 0)], tGo 13),
  ([], tNe 15 14),
  ([xC (.int 2)], tRet),
  ([xLd 1, xLd 3, xMin, xC (.int 1)], tNe 18 16),
  ([xLd 1, xLd 3, xMax, xC (.int 5)], tGe 18 17),
  ([xC (.int 1)], tGo 19),
  ([xC (.int 0)], tGo 19),
  ([xSt 6, xLd 6], tEq0 23 20),
  ([xLd 5, xAbs, xLdA 0, xGet 0 6, xC (.int 9)], tCv 62 2 2 1 21 (some [])),
  ([], tGt 23 22),
  ([xC (.int 3)], tGo 24),
  ([xC (.int 4)], tGo 24),
  ([], tRet)]
/-- HandFingers$Plan.<init>()V -/
def i_28 : MI := (RX1, cX1_init, 1, yX1_init, none, (2, 42), [])
def P_28 : List Nat := [0, 29, 43, 57, 71, 85, 99, 112, 126, 139]
noncomputable def B_28 : List Bk := [([xLdA 0, xObj, xLdA 0, xC (.int 0), xPut 1 0 (.boolean), xLdA 0, xC (.int 0), xPut 1 1 (.int), xLdA 0, xC (.int 0), xPut 1 2 (.int), xLdA 0, xNew 2 nfX2, xDup, xC (.int 40)], tCi 61 2 1 1),
  ([xPut 1 3 (.object "HandFingers$Row"), xLdA 0, xNew 2 nfX2, xDup, xC (.int 1200)], tCi 61 2 1 2),
  ([xPut 1 4 (.object "HandFingers$Row"), xLdA 0, xNew 2 nfX2, xDup, xC (.int 400)], tCi 61 2 1 3),
  ([xPut 1 5 (.object "HandFingers$Row"), xLdA 0, xNew 2 nfX2, xDup, xC (.int 4000)], tCi 61 2 1 4),
  ([xPut 1 6 (.object "HandFingers$Row"), xLdA 0, xNew 2 nfX2, xDup, xC (.int 400)], tCi 61 2 1 5),
  ([xPut 1 7 (.object "HandFingers$Row"), xLdA 0, xNew 2 nfX2, xDup, xC (.int 400)], tCi 61 2 1 6),
  ([xPut 1 8 (.object "HandFingers$Row"), xLdA 0, xNew 2 nfX2, xDup, xC (.int 40)], tCi 61 2 1 7),
  ([xPut 1 9 (.object "HandFingers$Row"), xLdA 0, xNew 2 nfX2, xDup, xC (.int 400)], tCi 61 2 1 8),
  ([xPut 1 10 (.object "HandFingers$Row"), xLdA 0, xNew 2 nfX2, xDup, xC (.int 12)], tCi 61 2 1 9),
  ([xPut 1 11 (.object "HandFingers$Row"), xLdA 0, xC (.int 400), xNewA 1, xPut 1 12 (.array .long)], tRetV)]
/-- HandFingers$Plan.forget()V -/
def i_29 : MI := (RX1, cX1_forget, 1, yX1_forget, none, (0, 0), [])
def P_29 : List Nat := [0]
noncomputable def B_29 : List Bk := [([xLdA 0, xC (.int 0), xPut 1 0 (.boolean)], tRetV)]
/-- HandFingers$Plan.solve(LHandFingers$Piece;)V -/
def i_30 : MI := (RX1, cX1_solve, 3, yX1_solve, none, (5, 130), [])
def P_30 : List Nat := [0, 7, 8, 23, 31, 37, 43, 45, 55, 61, 67, 77, 81, 90, 97, 99, 105, 114, 120, 132]
noncomputable def B_30 : List Bk := [([xLdA 0, xGet 1 0], tEq0 2 1),
  ([], tRetV),
  ([xLdA 0, xC (.int 1), xPut 1 0 (.boolean), xLdA 0, xLdA 1, xGet 0 1, xPut 1 1 (.int), xC (.int 0), xSt 2], tGo 3),
  ([xLd 2, xLdA 0, xGet 1 1], tGe 6 4),
  ([xLdA 0, xLdA 1, xLd 2], tCv 34 7 1 2 5 (some [])),
  ([xInc 2 1], tGo 3),
  ([xC (.int 0), xSt 2], tGo 7),
  ([xLd 2, xLdA 0, xGet 1 1, xC (.int 1), xSub], tGe 10 8),
  ([xLdA 0, xLdA 1, xLd 2], tCv 36 6 1 2 9 (some [])),
  ([xInc 2 1], tGo 7),
  ([xLdA 0, xLdA 1, xC (.int 0), xLdA 0, xGet 1 7], tCv 37 8 1 3 11 (some [])),
  ([xLdA 0], tCv 39 4 1 0 12 (some [])),
  ([xLdA 0, xLdA 0, xLdA 0, xGet 1 7], tCv 44 4 1 1 13 (some [])),
  ([xPut 1 2 (.int), xLdA 0], tCv 45 4 1 0 14 (some [])),
  ([xC (.int 1), xSt 2], tGo 15),
  ([xLd 2, xC (.int 12)], tGe 18 16),
  ([xLdA 0, xGet 1 11, xLd 2, xC (.int (-1))], tCv 63 3 2 2 17 (some [])),
  ([xInc 2 1], tGo 15),
  ([xLdA 0, xGet 1 11, xC (.int 0), xLdA 0, xGet 1 2], tCv 63 3 2 2 19 (some [])),
  ([], tRetV)]
/-- HandFingers$Plan.placeOfChoice(II)I -/
def i_31 : MI := (RX1, cX1_placeOfChoice, 2, yX1_placeOfChoice, (some .int), (0, 0), [])
def P_31 : List Nat := [0]
noncomputable def B_31 : List Bk := [([xLd 0, xC (.int 10), xMul, xLd 1, xAdd], tRet)]
/-- HandFingers$Plan.baseOf(II)I -/
def i_32 : MI := (RX1, cX1_baseOf, 2, yX1_baseOf, (some .int), (1, 21), [])
def P_32 : List Nat := [0, 5]
noncomputable def B_32 : List Bk := [([xLd 0, xLd 1], tCs 31 2 2 1),
  ([xC (.int 3), xMul], tRet)]
/-- HandFingers$Plan.placeOfStep(III)I -/
def i_33 : MI := (RX1, cX1_placeOfStep, 3, yX1_placeOfStep, (some .int), (1, 21), [])
def P_33 : List Nat := [0, 5]
noncomputable def B_33 : List Bk := [([xLd 0, xLd 1], tCs 31 2 2 1),
  ([xC (.int 10), xMul, xLd 2, xAdd], tRet)]
/-- HandFingers$Plan.listChoices(LHandFingers$Piece;I)V -/
def i_34 : MI := (RX1, cX1_listChoices, 7, yX1_listChoices, none, (4, 104), [])
def P_34 : List Nat := [0, 9, 17, 21, 27, 32, 42, 45, 50, 56, 64, 67, 70, 75, 86, 89, 94, 100, 108, 111, 123, 129, 135, 141]
noncomputable def B_34 : List Bk := [([xLdA 0, xGet 1 3, xLd 2, xC (.int 0)], tCv 63 3 2 2 1 (some [])),
  ([xLdA 1, xGet 0 2, xLd 2], tCv 62 2 2 1 2 (some [])),
  ([xSt 3, xC (.int 1), xSt 4], tGo 3),
  ([xLd 4, xC (.int 5)], tGt 23 4),
  ([xLd 3, xC (.int 1)], tNe 6 5),
  ([xLdA 0, xLdA 1, xLd 2, xLd 4, xC (.int 0), xC (.int 0)], tCv 35 9 1 5 6 (some [])),
  ([xC (.int 1), xSt 5], tGo 7),
  ([xLd 3, xC (.int 1)], tLe 22 8),
  ([xLd 5, xC (.int 5)], tGt 22 9),
  ([xLdA 1, xLd 4, xLd 5], tCv 18 3 0 2 10 (some [])),
  ([], tNe0 12 11),
  ([], tGo 21),
  ([xLd 3, xC (.int 2)], tNe 14 13),
  ([xLdA 0, xLdA 1, xLd 2, xLd 4, xLd 5, xC (.int 0)], tCv 35 9 1 5 14 (some [])),
  ([xC (.int 1), xSt 6], tGo 15),
  ([xLd 3, xC (.int 2)], tLe 21 16),
  ([xLd 6, xC (.int 5)], tGt 21 17),
  ([xLdA 1, xLd 5, xLd 6], tCv 18 3 0 2 18 (some [])),
  ([], tEq0 20 19),
  ([xLdA 0, xLdA 1, xLd 2, xLd 4, xLd 5, xLd 6], tCv 35 9 1 5 20 (some [])),
  ([xInc 6 1], tGo 15),
  ([xInc 5 1], tGo 7),
  ([xInc 4 1], tGo 3),
  ([], tRetV)]
/-- HandFingers$Plan.tryChoice(LHandFingers$Piece;IIII)V -/
def i_35 : MI := (RX1, cX1_tryChoice, 9, yX1_tryChoice, none, (3, 76), [])
def P_35 : List Nat := [0, 8, 17, 18, 24, 36, 49, 62, 74, 82, 92, 97, 109]
noncomputable def B_35 : List Bk := [([xLdA 0, xGet 1 3, xLd 2], tCv 62 2 2 1 1 (some [])),
  ([xSt 6, xLd 6, xC (.int 10)], tLt 3 2),
  ([], tRetV),
  ([xLd 2, xLd 6], tCs 32 2 2 4),
  ([xSt 7, xLdA 0, xGet 1 4, xLd 7, xLd 3], tCv 63 3 2 2 5 (some [])),
  ([xLdA 0, xGet 1 4, xLd 7, xC (.int 1), xAdd, xLd 4], tCv 63 3 2 2 6 (some [])),
  ([xLdA 0, xGet 1 4, xLd 7, xC (.int 2), xAdd, xLd 5], tCv 63 3 2 2 7 (some [])),
  ([xLdA 1, xLd 2, xLdA 0, xGet 1 4, xLd 7, xC (.int 0)], tCv 19 10 0 4 8 (some [])),
  ([xSt 8, xLd 8, xC (.int (-1))], tEq 12 9),
  ([xLdA 0, xGet 1 5, xLd 2, xLd 6], tCs 31 2 2 10),
  ([xLd 8], tCv 63 3 2 2 11 (some [])),
  ([xLdA 0, xGet 1 3, xLd 2, xLd 6, xC (.int 1), xAdd], tCv 63 3 2 2 12 (some [])),
  ([], tRetV)]
/-- HandFingers$Plan.fillSteps(LHandFingers$Piece;I)V -/
def i_36 : MI := (RX1, cX1_fillSteps, 6, yX1_fillSteps, none, (4, 102), [])
def P_36 : List Nat := [0, 8, 12, 22, 25, 28, 40, 43, 55, 68, 76, 79, 82, 88, 94]
noncomputable def B_36 : List Bk := [([xLdA 1, xGet 0 3, xLd 2], tCv 62 2 2 1 1 (some [])),
  ([xSt 3, xC (.int 0), xSt 4], tGo 2),
  ([xLd 4, xLdA 0, xGet 1 3, xLd 2], tCv 62 2 2 1 3 (some [])),
  ([], tGe 14 4),
  ([xC (.int 0), xSt 5], tGo 5),
  ([xLd 5, xLdA 0, xGet 1 3, xLd 2, xC (.int 1), xAdd], tCv 62 2 2 1 6 (some [])),
  ([], tGe 13 7),
  ([xLdA 0, xGet 1 6, xLd 2, xLd 4, xLd 5], tCs 33 3 3 8),
  ([xLdA 1, xLd 2, xLd 3, xLdA 0, xGet 1 4, xLd 2, xLd 4], tCs 32 2 2 9),
  ([xLd 2, xC (.int 1), xAdd, xLd 5], tCs 32 2 2 10),
  ([], tCv 22 11 0 5 11 (some [])),
  ([], tCv 63 3 2 2 12 (some [])),
  ([xInc 5 1], tGo 5),
  ([xInc 4 1], tGo 2),
  ([], tRetV)]
/-- HandFingers$Plan.fillAhead(LHandFingers$Piece;ILHandFingers$Row;)V -/
def i_37 : MI := (RX1, cX1_fillAhead, 8, yX1_fillAhead, none, (3, 76), [])
def P_37 : List Nat := [0, 3, 12, 15, 26, 29, 43, 47, 54, 58, 67, 77, 84, 87, 93, 99]
noncomputable def B_37 : List Bk := [([xC (.int 0), xSt 4], tGo 1),
  ([xLd 4, xLdA 0, xGet 1 1], tGe 15 2),
  ([xC (.int 0), xSt 5], tGo 3),
  ([xLd 5, xLdA 0, xGet 1 3, xLd 4], tCv 62 2 2 1 4 (some [])),
  ([], tGe 14 5),
  ([xLdA 1, xLd 4, xLdA 0, xGet 1 4, xLd 4, xLd 5], tCs 32 2 2 6),
  ([xLd 2], tCv 19 10 0 4 7 (some [])),
  ([xSt 6, xLd 4], tNe0 9 8),
  ([xC (.int 0)], tGo 10),
  ([xLdA 0, xLd 4, xLd 5, xLdA 3], tCv 38 7 1 3 10 (some [])),
  ([xSt 7, xLdA 3, xLd 4, xLd 5], tCs 31 2 2 11),
  ([xLd 7, xLd 6], tCs 148 2 2 12),
  ([], tCv 63 3 2 2 13 (some [])),
  ([xInc 5 1], tGo 3),
  ([xInc 4 1], tGo 1),
  ([], tRetV)]
/-- HandFingers$Plan.leastInto(IILHandFingers$Row;)I -/
def i_38 : MI := (RX1, cX1_leastInto, 7, yX1_leastInto, (some .int), (2, 43), [])
def P_38 : List Nat := [0, 6, 18, 21, 34, 37, 50, 53, 58, 61, 69]
noncomputable def B_38 : List Bk := [([xC (.int (-1)), xSt 4, xC (.int 0), xSt 5], tGo 1),
  ([xLd 5, xLdA 0, xGet 1 3, xLd 1, xC (.int 1), xSub], tCv 62 2 2 1 2 (some [])),
  ([], tGe 10 3),
  ([xLdA 0, xGet 1 6, xLd 1, xC (.int 1), xSub, xLd 5, xLd 2], tCs 33 3 3 4),
  ([], tCv 62 2 2 1 5 (some [])),
  ([xSt 6, xLd 4, xLdA 3, xLd 1, xC (.int 1), xSub, xLd 5], tCs 31 2 2 6),
  ([], tCv 62 2 2 1 7 (some [])),
  ([xLd 6], tCs 148 2 2 8),
  ([], tCs 149 2 2 9),
  ([xSt 4, xInc 5 1], tGo 1),
  ([xLd 4], tRet)]
/-- HandFingers$Plan.fillBehind()V -/
def i_39 : MI := (RX1, cX1_fillBehind, 4, yX1_fillBehind, none, (4, 91), [])
def P_39 : List Nat := [0, 7, 11, 13, 22, 25, 35, 39, 45, 55, 59, 65, 71]
noncomputable def B_39 : List Bk := [([xLdA 0, xGet 1 1, xC (.int 1), xSub, xSt 1], tGo 1),
  ([xLd 1], tLt0 12 2),
  ([xC (.int 0), xSt 2], tGo 3),
  ([xLd 2, xLdA 0, xGet 1 3, xLd 1], tCv 62 2 2 1 4 (some [])),
  ([], tGe 11 5),
  ([xLd 1, xLdA 0, xGet 1 1, xC (.int 1), xSub], tNe 7 6),
  ([xC (.int 0)], tGo 8),
  ([xLdA 0, xLd 1, xLd 2], tCv 40 5 1 2 8 (some [])),
  ([xSt 3, xLdA 0, xGet 1 8, xLd 1, xLd 2], tCs 31 2 2 9),
  ([xLd 3], tCv 63 3 2 2 10 (some [])),
  ([xInc 2 1], tGo 3),
  ([xInc 1 (-1)], tGo 1),
  ([], tRetV)]
/-- HandFingers$Plan.leastOutOf(II)I -/
def i_40 : MI := (RX1, cX1_leastOutOf, 5, yX1_leastOutOf, (some .int), (3, 67), [])
def P_40 : List Nat := [0, 5, 17, 20, 29, 32, 39]
noncomputable def B_40 : List Bk := [([xC (.int (-1)), xSt 3, xC (.int 0), xSt 4], tGo 1),
  ([xLd 4, xLdA 0, xGet 1 3, xLd 1, xC (.int 1), xAdd], tCv 62 2 2 1 2 (some [])),
  ([], tGe 6 3),
  ([xLd 3, xLdA 0, xLd 1, xLd 2, xLd 4], tCv 41 4 1 3 4 (some [])),
  ([], tCs 149 2 2 5),
  ([xSt 3, xInc 4 1], tGo 1),
  ([xLd 3], tRet)]
/-- HandFingers$Plan.costOnward(III)I -/
def i_41 : MI := (RX1, cX1_costOnward, 4, yX1_costOnward, (some .int), (2, 44), [])
def P_41 : List Nat := [0, 10, 13, 21, 24]
noncomputable def B_41 : List Bk := [([xLdA 0, xGet 1 6, xLd 1, xLd 2, xLd 3], tCs 33 3 3 1),
  ([], tCv 62 2 2 1 2 (some [])),
  ([xLdA 0, xLd 1, xC (.int 1), xAdd, xLd 3], tCv 42 4 1 2 3 (some [])),
  ([], tCs 148 2 2 4),
  ([], tRet)]
/-- HandFingers$Plan.costFrom(II)I -/
def i_42 : MI := (RX1, cX1_costFrom, 4, yX1_costFrom, (some .int), (1, 21), [])
def P_42 : List Nat := [0, 5, 14, 22, 25]
noncomputable def B_42 : List Bk := [([xLd 1, xLd 2], tCs 31 2 2 1),
  ([xSt 3, xLdA 0, xGet 1 5, xLd 3], tCv 62 2 2 1 2 (some [])),
  ([xLdA 0, xGet 1 8, xLd 3], tCv 62 2 2 1 3 (some [])),
  ([], tCs 148 2 2 4),
  ([], tRet)]
/-- HandFingers$Plan.costThrough(II)I -/
def i_43 : MI := (RX1, cX1_costThrough, 4, yX1_costThrough, (some .int), (1, 21), [])
def P_43 : List Nat := [0, 5, 14, 22, 25]
noncomputable def B_43 : List Bk := [([xLd 1, xLd 2], tCs 31 2 2 1),
  ([xSt 3, xLdA 0, xGet 1 7, xLd 3], tCv 62 2 2 1 2 (some [])),
  ([xLdA 0, xGet 1 8, xLd 3], tCv 62 2 2 1 3 (some [])),
  ([], tCs 148 2 2 4),
  ([], tRet)]
/-- HandFingers$Plan.leastAtEnd(LHandFingers$Row;)I -/
def i_44 : MI := (RX1, cX1_leastAtEnd, 4, yX1_leastAtEnd, (some .int), (2, 42), [])
def P_44 : List Nat := [0, 7, 11, 12, 15, 29, 32, 44, 47, 50, 57]
noncomputable def B_44 : List Bk := [([xLdA 0, xGet 1 1], tNe0 2 1),
  ([xC (.int 0)], tGo 3),
  ([xC (.int (-1))], tGo 3),
  ([xSt 2, xC (.int 0), xSt 3], tGo 4),
  ([xLd 3, xLdA 0, xGet 1 3, xLdA 0, xGet 1 1, xC (.int 1), xSub], tCv 62 2 2 1 5 (some [])),
  ([], tGe 10 6),
  ([xLd 2, xLdA 1, xLdA 0, xGet 1 1, xC (.int 1), xSub, xLd 3], tCs 31 2 2 7),
  ([], tCv 62 2 2 1 8 (some [])),
  ([], tCs 149 2 2 9),
  ([xSt 2, xInc 3 1], tGo 4),
  ([xLd 2], tRet)]
/-- HandFingers$Plan.findFirst()V -/
def i_45 : MI := (RX1, cX1_findFirst, 4, yX1_findFirst, none, (4, 91), [])
def P_45 : List Nat := [0, 8, 9, 16, 24, 30, 40, 49, 52, 59]
noncomputable def B_45 : List Bk := [([xLdA 0, xGet 1 2, xC (.int (-1))], tNe 2 1),
  ([], tRetV),
  ([xLdA 0, xGet 1 2, xSt 1, xC (.int 0), xSt 2], tGo 3),
  ([xLd 2, xLdA 0, xGet 1 1], tGe 9 4),
  ([xLdA 0, xLd 2, xLd 1], tCv 46 5 1 2 5 (some [])),
  ([xSt 3, xLdA 0, xGet 1 9, xLd 2, xLd 3], tCv 63 3 2 2 6 (some [])),
  ([xLdA 0, xGet 1 8, xLd 2, xLd 3], tCs 31 2 2 7),
  ([], tCv 62 2 2 1 8 (some [])),
  ([xSt 1, xInc 2 1], tGo 3),
  ([], tRetV)]
/-- HandFingers$Plan.firstChoice(II)I -/
def i_46 : MI := (RX1, cX1_firstChoice, 5, yX1_firstChoice, (some .int), (3, 67), [])
def P_46 : List Nat := [0, 2, 11, 14, 18, 24, 27, 41, 45, 53, 55, 61]
noncomputable def B_46 : List Bk := [([xC (.int 0), xSt 3], tGo 1),
  ([xLd 3, xLdA 0, xGet 1 3, xLd 1], tCv 62 2 2 1 2 (some [])),
  ([], tGe 11 3),
  ([xLd 1], tNe0 6 4),
  ([xLdA 0, xLd 1, xLd 3], tCv 42 4 1 2 5 (some [])),
  ([], tGo 8),
  ([xLdA 0, xLd 1, xC (.int 1), xSub, xLdA 0, xGet 1 9, xLd 1, xC (.int 1), xSub], tCv 62 2 2 1 7 (some [])),
  ([xLd 3], tCv 41 4 1 3 8 (some [])),
  ([xSt 4, xLd 4, xLd 2], tNe 10 9),
  ([xLd 3], tRet),
  ([xInc 3 1], tGo 1),
  ([xC (.int 0)], tRet)]
/-- HandFingers$Plan.firstFinger(II)I -/
def i_47 : MI := (RX1, cX1_firstFinger, 3, yX1_firstFinger, (some .int), (2, 42), [])
def P_47 : List Nat := [0, 13, 16, 21]
noncomputable def B_47 : List Bk := [([xLdA 0, xGet 1 4, xLd 1, xLdA 0, xGet 1 9, xLd 1], tCv 62 2 2 1 1 (some [])),
  ([], tCs 32 2 2 2),
  ([xLd 2, xAdd], tCv 62 2 2 1 3 (some [])),
  ([], tRet)]
/-- HandFingers$Plan.firstEventCost(I)I -/
def i_48 : MI := (RX1, cX1_firstEventCost, 2, yX1_firstEventCost, (some .int), (1, 21), [])
def P_48 : List Nat := [0, 13, 16, 19]
noncomputable def B_48 : List Bk := [([xLdA 0, xGet 1 5, xLd 1, xLdA 0, xGet 1 9, xLd 1], tCv 62 2 2 1 1 (some [])),
  ([], tCs 31 2 2 2),
  ([], tCv 62 2 2 1 3 (some [])),
  ([], tRet)]
/-- HandFingers$Plan.firstPassageCost(I)I -/
def i_49 : MI := (RX1, cX1_firstPassageCost, 2, yX1_firstPassageCost, (some .int), (2, 43), [])
def P_49 : List Nat := [0, 13, 23, 26, 29]
noncomputable def B_49 : List Bk := [([xLdA 0, xGet 1 6, xLd 1, xLdA 0, xGet 1 9, xLd 1], tCv 62 2 2 1 1 (some [])),
  ([xLdA 0, xGet 1 9, xLd 1, xC (.int 1), xAdd], tCv 62 2 2 1 2 (some [])),
  ([], tCs 33 3 3 3),
  ([], tCv 62 2 2 1 4 (some [])),
  ([], tRet)]
/-- HandFingers$Plan.firstCrossings(LHandFingers$Piece;I)I -/
def i_50 : MI := (RX1, cX1_firstCrossings, 3, yX1_firstCrossings, (some .int), (3, 76), [])
def P_50 : List Nat := [0, 15, 18, 31, 34, 37]
noncomputable def B_50 : List Bk := [([xLdA 1, xLd 2, xLdA 0, xGet 1 4, xLd 2, xLdA 0, xGet 1 9, xLd 2], tCv 62 2 2 1 1 (some [])),
  ([], tCs 32 2 2 2),
  ([xLd 2, xC (.int 1), xAdd, xLdA 0, xGet 1 9, xLd 2, xC (.int 1), xAdd], tCv 62 2 2 1 3 (some [])),
  ([], tCs 32 2 2 4),
  ([], tCv 23 10 0 4 5 (some [])),
  ([], tRet)]
/-- HandFingers$Plan.countWays(Z)J -/
def i_51 : MI := (RX1, cX1_countWays, 6, yX1_countWays, (some .long), (3, 73), [])
def P_51 : List Nat := [0, 7, 9, 11, 19, 21, 30, 33, 39, 43, 47, 54, 57, 63, 69, 74, 89, 92, 103, 109, 118, 125, 132, 134, 140]
noncomputable def B_51 : List Bk := [([xLdA 0, xGet 1 1], tNe0 2 1),
  ([xC (.long 1)], tRetL),
  ([xC (.int 0), xSt 2], tGo 3),
  ([xLd 2, xLdA 0, xGet 1 1], tGe 14 4),
  ([xC (.int 0), xSt 3], tGo 5),
  ([xLd 3, xLdA 0, xGet 1 3, xLd 2], tCv 62 2 2 1 6 (some [])),
  ([], tGe 13 7),
  ([xLdA 0, xLd 2, xLd 3], tCs 31 2 2 8),
  ([xLd 2], tNe0 10 9),
  ([xC (.long 1)], tGo 11),
  ([xLdA 0, xLd 2, xLd 3, xLd 1], tCv 52 11 1 3 11 (some [])),
  ([], tCv 54 4 1 2 12 (some [])),
  ([xInc 3 1], tGo 5),
  ([xInc 2 1], tGo 3),
  ([xC (.long 0), xStL 2, xC (.int 0), xSt 4], tGo 15),
  ([xLd 4, xLdA 0, xGet 1 3, xLdA 0, xGet 1 1, xC (.int 1), xSub], tCv 62 2 2 1 16 (some [])),
  ([], tGe 24 17),
  ([xLdA 0, xGet 1 1, xC (.int 1), xSub, xLd 4], tCs 31 2 2 18),
  ([xSt 5, xLd 1], tEq0 21 19),
  ([xLdA 0, xGet 1 7, xLd 5], tCv 62 2 2 1 20 (some [])),
  ([xLdA 0, xGet 1 2], tNe 23 21),
  ([xLdL 2, xLdA 0, xLd 5], tCv 53 2 1 1 22 (some [])),
  ([xLadd, xStL 2], tGo 23),
  ([xInc 4 1], tGo 15),
  ([xLdL 2, xC (.long 1000000000000000), xLmin], tRetL)]
/-- HandFingers$Plan.waysInto(IIZ)J -/
def i_52 : MI := (RX1, cX1_waysInto, 11, yX1_waysInto, (some .long), (2, 43), [])
def P_52 : List Nat := [0, 5, 13, 25, 28, 36, 51, 54, 65, 70, 79, 82, 90, 94, 105, 108, 116, 119, 125]
noncomputable def B_52 : List Bk := [([xLd 1, xLd 2], tCs 31 2 2 1),
  ([xSt 4, xC (.long 0), xStL 5, xC (.int 0), xSt 7], tGo 2),
  ([xLd 7, xLdA 0, xGet 1 3, xLd 1, xC (.int 1), xSub], tCv 62 2 2 1 3 (some [])),
  ([], tGe 18 4),
  ([xLd 1, xC (.int 1), xSub, xLd 7], tCs 31 2 2 5),
  ([xSt 8, xLdA 0, xGet 1 6, xLd 1, xC (.int 1), xSub, xLd 7, xLd 2], tCs 33 3 3 6),
  ([], tCv 62 2 2 1 7 (some [])),
  ([xSt 9, xLdA 0, xGet 1 7, xLd 8], tCv 62 2 2 1 8 (some [])),
  ([xLd 9], tCs 148 2 2 9),
  ([xLdA 0, xGet 1 5, xLd 4], tCv 62 2 2 1 10 (some [])),
  ([], tCs 148 2 2 11),
  ([xSt 10, xLd 10, xC (.int (-1))], tEq 17 12),
  ([xLd 3], tEq0 15 13),
  ([xLd 10, xLdA 0, xGet 1 7, xLd 4], tCv 62 2 2 1 14 (some [])),
  ([], tNe 17 15),
  ([xLdL 5, xLdA 0, xLd 8], tCv 53 2 1 1 16 (some [])),
  ([xLadd, xStL 5], tGo 17),
  ([xInc 7 1], tGo 2),
  ([xLdL 5, xC (.long 1000000000000000), xLmin], tRetL)]
/-- HandFingers$Plan.waysAt(I)J -/
def i_53 : MI := (RX1, cX1_waysAt, 2, yX1_waysAt, (some .long), (0, 0), [])
def P_53 : List Nat := [0, 4, 13, 22, 23]
noncomputable def B_53 : List Bk := [([xLd 1], tLt0 3 1),
  ([xLd 1, xLdA 0, xGet 1 12, xLen], tGe 3 2),
  ([xLdA 0, xGet 1 12, xLd 1, xLld], tGo 4),
  ([xC (.long 0)], tGo 4),
  ([], tRetL)]
/-- HandFingers$Plan.putWays(IJ)V -/
def i_54 : MI := (RX1, cX1_putWays, 4, yX1_putWays, none, (0, 0), [])
def P_54 : List Nat := [0, 4, 13, 20]
noncomputable def B_54 : List Bk := [([xLd 1], tLt0 3 1),
  ([xLd 1, xLdA 0, xGet 1 12, xLen], tGe 3 2),
  ([xLdA 0, xGet 1 12, xLd 1, xLdL 2, xLst], tGo 3),
  ([], tRetV)]
/-- HandFingers$Plan.leastWith(III)I -/
def i_55 : MI := (RX1, cX1_leastWith, 6, yX1_leastWith, (some .int), (2, 44), [])
def P_55 : List Nat := [0, 6, 16, 19, 29, 34, 38, 47, 50, 52, 58]
noncomputable def B_55 : List Bk := [([xC (.int (-1)), xSt 4, xC (.int 0), xSt 5], tGo 1),
  ([xLd 5, xLdA 0, xGet 1 3, xLd 1], tCv 62 2 2 1 2 (some [])),
  ([], tGe 10 3),
  ([xLdA 0, xGet 1 4, xLd 1, xLd 5], tCs 32 2 2 4),
  ([xLd 2, xAdd], tCv 62 2 2 1 5 (some [])),
  ([xLd 3], tNe 9 6),
  ([xLd 4, xLdA 0, xLd 1, xLd 5], tCv 43 4 1 2 7 (some [])),
  ([], tCs 149 2 2 8),
  ([xSt 4], tGo 9),
  ([xInc 5 1], tGo 1),
  ([xLd 4], tRet)]
/-- HandFingers$Plan.eventsReached()I -/
def i_56 : MI := (RX1, cX1_eventsReached, 2, yX1_eventsReached, (some .int), (2, 43), [])
def P_56 : List Nat := [0, 2, 10, 15, 18, 20, 26]
noncomputable def B_56 : List Bk := [([xC (.int 0), xSt 1], tGo 1),
  ([xLd 1, xLdA 0, xGet 1 1], tGe 6 2),
  ([xLdA 0, xLd 1], tCv 57 3 1 1 3 (some [])),
  ([], tNe0 5 4),
  ([xLd 1], tRet),
  ([xInc 1 1], tGo 1),
  ([xLdA 0, xGet 1 1], tRet)]
/-- HandFingers$Plan.isReached(I)Z -/
def i_57 : MI := (RX1, cX1_isReached, 3, yX1_isReached, (some .boolean), (1, 21), [])
def P_57 : List Nat := [0, 2, 11, 14, 23, 26, 30, 32, 38]
noncomputable def B_57 : List Bk := [([xC (.int 0), xSt 2], tGo 1),
  ([xLd 2, xLdA 0, xGet 1 3, xLd 1], tCv 62 2 2 1 2 (some [])),
  ([], tGe 8 3),
  ([xLdA 0, xGet 1 7, xLd 1, xLd 2], tCs 31 2 2 4),
  ([], tCv 62 2 2 1 5 (some [])),
  ([xC (.int (-1))], tEq 7 6),
  ([xC (.int 1)], tRetZ),
  ([xInc 2 1], tGo 1),
  ([xC (.int 0)], tRetZ)]
/-- HandFingers$Plan.cheapestFingers(II)I -/
def i_58 : MI := (RX1, cX1_cheapestFingers, 5, yX1_cheapestFingers, (some .int), (2, 44), [])
def P_58 : List Nat := [0, 5, 15, 18, 25, 32, 43, 48, 51, 53, 59]
noncomputable def B_58 : List Bk := [([xC (.int 0), xSt 3, xC (.int 0), xSt 4], tGo 1),
  ([xLd 4, xLdA 0, xGet 1 3, xLd 1], tCv 62 2 2 1 2 (some [])),
  ([], tGe 10 3),
  ([xLdA 0, xLd 1, xLd 4], tCv 43 4 1 2 4 (some [])),
  ([xLdA 0, xGet 1 2], tNe 9 5),
  ([xLd 3, xLdA 0, xGet 1 4, xLd 1, xLd 4], tCs 32 2 2 6),
  ([xLd 2, xAdd], tCv 62 2 2 1 7 (some [])),
  ([], tCs 145 1 1 8),
  ([xOr, xSt 3], tGo 9),
  ([xInc 4 1], tGo 1),
  ([xLd 3], tRet)]
/-- HandFingers$Plan.leastShifted(LHandFingers$Piece;I)I -/
def i_59 : MI := (RX1, cX1_leastShifted, 4, yX1_leastShifted, (some .int), (4, 103), [])
def P_59 : List Nat := [0, 6, 15, 23, 27, 37, 50, 53, 61]
noncomputable def B_59 : List Bk := [([xLd 2, xC (.int 12)], tCs 292 3 2 1),
  ([xSt 3, xLdA 0, xGet 1 2, xC (.int (-1))], tEq 7 2),
  ([xLdA 0, xGet 1 11, xLd 3], tCv 62 2 2 1 3 (some [])),
  ([xC (.int (-1))], tNe 7 4),
  ([xLdA 0, xLdA 1, xLd 3, xLdA 0, xGet 1 10], tCv 37 8 1 3 5 (some [])),
  ([xLdA 0, xGet 1 11, xLd 3, xLdA 0, xLdA 0, xGet 1 10], tCv 44 4 1 1 6 (some [])),
  ([], tCv 63 3 2 2 7 (some [])),
  ([xLdA 0, xGet 1 11, xLd 3], tCv 62 2 2 1 8 (some [])),
  ([], tRet)]
/-- HandFingers$Plan.leastWithRest(LHandFingers$Piece;I)I -/
def i_60 : MI := (RX1, cX1_leastWithRest, 8, yX1_leastWithRest, (some .int), (4, 102), [])
def P_60 : List Nat := [0, 5, 15, 18, 28, 31, 36, 42, 54, 57, 71, 79, 82, 98, 101, 104, 107, 114, 120]
noncomputable def B_60 : List Bk := [([xC (.int (-1)), xSt 3, xC (.int 0), xSt 4], tGo 1),
  ([xLd 4, xLdA 0, xGet 1 3, xLd 2], tCv 62 2 2 1 2 (some [])),
  ([], tGe 18 3),
  ([xLdA 0, xGet 1 7, xLd 2, xLd 4], tCs 31 2 2 4),
  ([], tCv 62 2 2 1 5 (some [])),
  ([xSt 5, xC (.int 0), xSt 6], tGo 6),
  ([xLd 5, xC (.int (-1))], tEq 17 7),
  ([xLd 6, xLdA 0, xGet 1 3, xLd 2, xC (.int 1), xAdd], tCv 62 2 2 1 8 (some [])),
  ([], tGe 17 9),
  ([xLdA 1, xLd 2, xC (.int 9), xLdA 0, xGet 1 4, xLd 2, xLd 4], tCs 32 2 2 10),
  ([xLd 2, xC (.int 1), xAdd, xLd 6], tCs 32 2 2 11),
  ([], tCv 22 11 0 5 12 (some [])),
  ([xSt 7, xLd 3, xLd 5, xLd 7, xLdA 0, xLd 2, xC (.int 1), xAdd, xLd 6], tCv 42 4 1 2 13 (some [])),
  ([], tCs 148 2 2 14),
  ([], tCs 148 2 2 15),
  ([], tCs 149 2 2 16),
  ([xSt 3, xInc 6 1], tGo 6),
  ([xInc 4 1], tGo 1),
  ([xLd 3], tRet)]
/-- HandFingers$Row.<init>(I)V -/
def i_61 : MI := (RX2, cX2_init, 2, yX2_init, none, (1, 21), [])
def P_61 : List Nat := [0]
noncomputable def B_61 : List Bk := [([xLdA 0, xObj, xLdA 0, xC (.int 0), xLd 1, xMax, xNewA 0, xPut 2 0 (.array .int)], tRetV)]
/-- HandFingers$Row.get(I)I -/
def i_62 : MI := (RX2, cX2_get, 2, yX2_get, (some .int), (0, 0), [])
def P_62 : List Nat := [0, 4, 13, 22, 23]
noncomputable def B_62 : List Bk := [([xLd 1], tLt0 3 1),
  ([xLd 1, xLdA 0, xGet 2 0, xLen], tGe 3 2),
  ([xLdA 0, xGet 2 0, xLd 1, xAld], tGo 4),
  ([xC (.int 0)], tGo 4),
  ([], tRet)]
/-- HandFingers$Row.put(II)V -/
def i_63 : MI := (RX2, cX2_put, 3, yX2_put, none, (0, 0), [])
def P_63 : List Nat := [0, 4, 13, 20]
noncomputable def B_63 : List Bk := [([xLd 1], tLt0 3 1),
  ([xLd 1, xLdA 0, xGet 2 0, xLen], tGe 3 2),
  ([xLdA 0, xGet 2 0, xLd 1, xLd 2, xAst], tGo 3),
  ([], tRetV)]
/-- HandFingers$Row.copyFrom(LHandFingers$Row;)V -/
def i_64 : MI := (RX2, cX2_copyFrom, 2, yX2_copyFrom, none, (1, 26), [])
def P_64 : List Nat := [0]
noncomputable def B_64 : List Bk := [([xLdA 1, xGet 2 0, xC (.int 0), xLdA 0, xGet 2 0, xC (.int 0), xLdA 0, xGet 2 0, xLen, xLdA 1, xGet 2 0, xLen, xMin, xCpy], tRetV)]
/-- HandFingers$Shelf.<init>(I)V -/
def i_65 : MI := (RX3, cX3_init, 2, yX3_init, none, (1, 21), [])
def P_65 : List Nat := [0]
noncomputable def B_65 : List Bk := [([xLdA 0, xObj, xLdA 0, xC (.int 0), xLd 1, xMax, xNewA 4, xPut 3 0 (.array (.object "HandFingers$Piece"))], tRetV)]
/-- HandFingers$Shelf.holds(I)Z -/
def i_66 : MI := (RX3, cX3_holds, 2, yX3_holds, (some .boolean), (0, 0), [])
def P_66 : List Nat := [0, 4, 13, 22, 26, 27]
noncomputable def B_66 : List Bk := [([xLd 1], tLt0 4 1),
  ([xLd 1, xLdA 0, xGet 3 0, xLen], tGe 4 2),
  ([xLdA 0, xGet 3 0, xLd 1, xQld], tNul 4 3),
  ([xC (.int 1)], tGo 5),
  ([xC (.int 0)], tGo 5),
  ([], tRetZ)]
/-- HandFingers$Shelf.putIn(ILHandFingers$Piece;)V -/
def i_67 : MI := (RX3, cX3_putIn, 4, yX3_putIn, none, (4, 88), [])
def P_67 : List Nat := [0, 4, 13, 14, 25, 32, 40, 45]
noncomputable def B_67 : List Bk := [([xLd 1], tLt0 2 1),
  ([xLd 1, xLdA 0, xGet 3 0, xLen], tLt 3 2),
  ([], tRetV),
  ([xLdA 0, xGet 3 0, xLd 1, xQld, xStA 3, xLdA 3], tNul 4 6),
  ([xNew 0 nfX0, xDup], tCi 0 1 0 5),
  ([xStA 3, xLdA 0, xGet 3 0, xLd 1, xLdA 3, xQst], tGo 6),
  ([xLdA 3, xLdA 2], tCv 2 2 0 1 7 (some [])),
  ([], tRetV)]
/-- HandFingers$Shelf.takeOut(ILHandFingers$Piece;)V -/
def i_68 : MI := (RX3, cX3_takeOut, 4, yX3_takeOut, none, (3, 68), [])
def P_68 : List Nat := [0, 4, 13, 22, 23, 28, 33]
noncomputable def B_68 : List Bk := [([xLd 1], tLt0 3 1),
  ([xLd 1, xLdA 0, xGet 3 0, xLen], tGe 3 2),
  ([xLdA 0, xGet 3 0, xLd 1, xQld], tGo 4),
  ([xC .null], tGo 4),
  ([xStA 3, xLdA 3], tNul 6 5),
  ([xLdA 2, xLdA 3], tCv 2 2 0 1 6 (some [])),
  ([], tRetV)]
/-- HandFingers$Text.<init>()V -/
def i_69 : MI := (RX4, cX4_init, 1, yX4_init, none, (2, 42), [])
def P_69 : List Nat := [0, 15]
noncomputable def B_69 : List Bk := [([xLdA 0, xObj, xLdA 0, xNew 2 nfX2, xDup, xC (.int 600)], tCi 61 2 1 1),
  ([xPut 4 0 (.object "HandFingers$Row"), xLdA 0, xC (.int 0), xPut 4 1 (.int), xLdA 0, xC (.int 0), xPut 4 2 (.int), xLdA 0, xC (.int (-1)), xPut 4 3 (.int), xLdA 0, xC (.int 0), xPut 4 4 (.int), xLdA 0, xC (.int 0), xPut 4 5 (.int), xLdA 0, xC (.int 0), xPut 4 6 (.int), xLdA 0, xC (.int 0), xPut 4 7 (.int), xLdA 0, xC (.int 0), xPut 4 8 (.int)], tRetV)]
/-- HandFingers$Text.addBytes(I)V -/
def i_70 : MI := (RX4, cX4_addBytes, 4, yX4_addBytes, none, (1, 22), [])
def P_70 : List Nat := [0, 3, 7, 19, 31, 41, 47]
noncomputable def B_70 : List Bk := [([xC (.int 24), xSt 2], tGo 1),
  ([xLd 2], tLt0 6 2),
  ([xLd 1, xLd 2, xUshr, xC (.int 255), xAnd, xSt 3, xLd 3], tEq0 5 3),
  ([xLdA 0, xGet 4 0, xLdA 0, xGet 4 1, xLd 3], tCv 63 3 2 2 4 (some [])),
  ([xLdA 0, xDup, xGet 4 1, xC (.int 1), xAdd, xPut 4 1 (.int)], tGo 5),
  ([xInc 2 (-8)], tGo 1),
  ([], tRetV)]
/-- HandFingers$Text.readPiece(LHandFingers$Piece;)Z -/
def i_71 : MI := (RX4, cX4_readPiece, 2, yX4_readPiece, (some .boolean), (7, 153), [])
def P_71 : List Nat := [0, 4, 8, 13, 16, 21, 24, 29, 32, 37, 40, 44, 47, 51, 52]
noncomputable def B_71 : List Bk := [([xLdA 0], tCv 82 1 4 0 1 (some [])),
  ([xLdA 1], tCv 1 2 0 0 2 (some [])),
  ([xLdA 0, xLdA 1], tCv 73 2 4 1 3 (some [])),
  ([], tEq0 13 4),
  ([xLdA 0, xLdA 1], tCv 74 4 4 1 5 (some [])),
  ([], tEq0 13 6),
  ([xLdA 0, xLdA 1], tCv 76 3 4 1 7 (some [])),
  ([], tEq0 13 8),
  ([xLdA 0, xLdA 1], tCv 78 4 4 1 9 (some [])),
  ([], tEq0 13 10),
  ([xLdA 0], tCv 86 1 4 0 11 (some [])),
  ([], tEq0 13 12),
  ([xC (.int 1)], tGo 14),
  ([xC (.int 0)], tGo 14),
  ([], tRetZ)]
/-- HandFingers$Text.readFingering(LHandFingers$Piece;LHandFingers$Row;)Z -/
def i_72 : MI := (RX4, cX4_readFingering, 5, yX4_readFingering, (some .boolean), (4, 86), [])
def P_72 : List Nat := [0, 4, 6, 14, 17, 27, 30, 37, 43, 44, 51, 54, 56, 63, 70, 76, 82, 90, 96, 99, 103]
noncomputable def B_72 : List Bk := [([xLdA 0], tCv 82 1 4 0 1 (some [])),
  ([xC (.int 0), xSt 3], tGo 2),
  ([xLd 3, xLdA 1, xGet 0 1], tGe 16 3),
  ([xC (.int 0), xSt 4], tGo 4),
  ([xLd 4, xLdA 1, xGet 0 2, xLd 3], tCv 62 2 2 1 5 (some [])),
  ([], tGe 15 6),
  ([xLdA 0, xGet 4 4], tNe0 9 7),
  ([xLdA 0, xC (.int (-4))], tCv 83 2 4 1 8 (some [])),
  ([], tRetZ),
  ([xLdA 0, xC (.int 1), xC (.int 5), xC (.int 1)], tCv 87 4 4 3 10 (some [])),
  ([], tNe0 12 11),
  ([xC (.int 0)], tRetZ),
  ([xLdA 2, xLd 3, xLd 4], tCs 146 2 2 13),
  ([xLdA 0, xGet 4 8], tCv 63 3 2 2 14 (some [])),
  ([xInc 4 1], tGo 4),
  ([xInc 3 1], tGo 2),
  ([xLdA 0, xGet 4 4, xC (.int 2)], tNe 19 17),
  ([xLdA 0, xC (.int (-5))], tCv 83 2 4 1 18 (some [])),
  ([], tGo 20),
  ([xLdA 0], tCv 86 1 4 0 20 (some [])),
  ([], tRetZ)]
/-- HandFingers$Text.readHand(LHandFingers$Piece;)Z -/
def i_73 : MI := (RX4, cX4_readHand, 2, yX4_readHand, (some .boolean), (6, 128), [])
def P_73 : List Nat := [0, 6, 9, 11, 18, 29, 34, 36, 39, 42, 46, 49, 53, 54]
noncomputable def B_73 : List Bk := [([xLdA 0, xC (.ref 3)], tCv 84 2 4 1 1 (some [])),
  ([], tNe0 3 2),
  ([xC (.int 0)], tRetZ),
  ([xLdA 1, xLdA 0, xC (.ref 4)], tCv 88 3 4 1 4 (some [])),
  ([xPut 0 0 (.boolean), xLdA 0, xLdA 1, xGet 0 0], tEq0 6 5),
  ([xC (.ref 4)], tGo 7),
  ([xC (.ref 5)], tGo 7),
  ([], tCv 84 2 4 1 8 (some [])),
  ([], tEq0 12 9),
  ([xLdA 0], tCv 85 1 4 0 10 (some [])),
  ([], tEq0 12 11),
  ([xC (.int 1)], tGo 13),
  ([xC (.int 0)], tGo 13),
  ([], tRetZ)]
/-- HandFingers$Text.readWeights(LHandFingers$Piece;)Z -/
def i_74 : MI := (RX4, cX4_readWeights, 4, yX4_readWeights, (some .boolean), (6, 127), [])
def P_74 : List Nat := [0, 2, 9, 15, 18, 22, 26, 32, 38, 39, 43, 51, 54, 56, 68, 72, 75, 77, 83]
noncomputable def B_74 : List Bk := [([xC (.int 0), xSt 2], tGo 1),
  ([xLd 2, xC (.int 600)], tGe 18 2),
  ([xLdA 0, xC (.ref 6)], tCv 88 3 4 1 3 (some [])),
  ([], tEq0 18 4),
  ([xLdA 0], tCv 89 1 4 0 5 (some [])),
  ([xLdA 0], tCv 75 1 4 0 6 (some [])),
  ([xSt 3, xLd 3, xC (.int (-1))], tNe 9 7),
  ([xLdA 0, xC (.int (-2))], tCv 83 2 4 1 8 (some [])),
  ([], tRetZ),
  ([xLdA 0], tCv 89 1 4 0 10 (some [])),
  ([xLdA 0, xC (.int 0), xC (.int 99), xC (.int 0)], tCv 87 4 4 3 11 (some [])),
  ([], tNe0 13 12),
  ([xC (.int 0)], tRetZ),
  ([xLdA 1, xGet 0 6, xLd 3, xLdA 0, xGet 4 8], tCv 63 3 2 2 14 (some [])),
  ([xLdA 0], tCv 85 1 4 0 15 (some [])),
  ([], tNe0 17 16),
  ([xC (.int 0)], tRetZ),
  ([xInc 2 1], tGo 1),
  ([xC (.int 1)], tRetZ)]
/-- HandFingers$Text.weightNamed()I -/
def i_75 : MI := (RX4, cX4_weightNamed, 1, yX4_weightNamed, (some .int), (5, 107), [])
def P_75 : List Nat := [0, 6, 9, 11, 17, 20, 22, 28, 31, 33, 39, 42, 44, 50, 53, 55, 61, 64, 66, 72, 75, 78, 84, 87, 90, 96, 99, 102, 108, 111, 116, 117]
noncomputable def B_75 : List Bk := [([xLdA 0, xC (.ref 11)], tCv 88 3 4 1 1 (some [])),
  ([], tEq0 3 2),
  ([xC (.int 0)], tRet),
  ([xLdA 0, xC (.ref 12)], tCv 88 3 4 1 4 (some [])),
  ([], tEq0 6 5),
  ([xC (.int 1)], tRet),
  ([xLdA 0, xC (.ref 13)], tCv 88 3 4 1 7 (some [])),
  ([], tEq0 9 8),
  ([xC (.int 2)], tRet),
  ([xLdA 0, xC (.ref 14)], tCv 88 3 4 1 10 (some [])),
  ([], tEq0 12 11),
  ([xC (.int 3)], tRet),
  ([xLdA 0, xC (.ref 15)], tCv 88 3 4 1 13 (some [])),
  ([], tEq0 15 14),
  ([xC (.int 4)], tRet),
  ([xLdA 0, xC (.ref 16)], tCv 88 3 4 1 16 (some [])),
  ([], tEq0 18 17),
  ([xC (.int 5)], tRet),
  ([xLdA 0, xC (.ref 17)], tCv 88 3 4 1 19 (some [])),
  ([], tEq0 21 20),
  ([xC (.int 6)], tRet),
  ([xLdA 0, xC (.ref 18)], tCv 88 3 4 1 22 (some [])),
  ([], tEq0 24 23),
  ([xC (.int 7)], tRet),
  ([xLdA 0, xC (.ref 19)], tCv 88 3 4 1 25 (some [])),
  ([], tEq0 27 26),
  ([xC (.int 8)], tRet),
  ([xLdA 0, xC (.ref 20)], tCv 88 3 4 1 28 (some [])),
  ([], tEq0 30 29),
  ([xC (.int 9)], tGo 31),
  ([xC (.int (-1))], tGo 31),
  ([], tRet)]
/-- HandFingers$Text.readSpans(LHandFingers$Piece;)Z -/
def i_76 : MI := (RX4, cX4_readSpans, 3, yX4_readSpans, (some .boolean), (5, 111), [])
def P_76 : List Nat := [0, 2, 9, 15, 18, 22, 27, 30, 34, 37, 39, 45]
noncomputable def B_76 : List Bk := [([xC (.int 0), xSt 2], tGo 1),
  ([xLd 2, xC (.int 600)], tGe 11 2),
  ([xLdA 0, xC (.ref 7)], tCv 88 3 4 1 3 (some [])),
  ([], tEq0 11 4),
  ([xLdA 0], tCv 89 1 4 0 5 (some [])),
  ([xLdA 0, xLdA 1], tCv 77 6 4 1 6 (some [])),
  ([], tEq0 9 7),
  ([xLdA 0], tCv 85 1 4 0 8 (some [])),
  ([], tNe0 10 9),
  ([xC (.int 0)], tRetZ),
  ([xInc 2 1], tGo 1),
  ([xC (.int 1)], tRetZ)]
/-- HandFingers$Text.readSpan(LHandFingers$Piece;)Z -/
def i_77 : MI := (RX4, cX4_readSpan, 6, yX4_readSpan, (some .boolean), (4, 86), [])
def P_77 : List Nat := [0, 7, 10, 12, 26, 29, 31, 44, 47, 49, 64, 67, 69, 84, 87, 89, 103]
noncomputable def B_77 : List Bk := [([xLdA 0, xC (.int 1), xC (.int 5), xC (.int 1)], tCv 87 4 4 3 1 (some [])),
  ([], tNe0 3 2),
  ([xC (.int 0)], tRetZ),
  ([xLdA 0, xGet 4 8, xSt 2, xLdA 0, xC (.int 1), xC (.int 5), xLd 2, xC (.int 1), xAdd], tCv 87 4 4 3 4 (some [])),
  ([], tNe0 6 5),
  ([xC (.int 0)], tRetZ),
  ([xLdA 0, xGet 4 8, xSt 3, xLdA 0, xC (.int 1), xC (.int 24), xC (.int 1)], tCv 87 4 4 3 7 (some [])),
  ([], tNe0 9 8),
  ([xC (.int 0)], tRetZ),
  ([xLdA 0, xGet 4 8, xSt 4, xLdA 0, xC (.int 1), xC (.int 24), xLd 4], tCv 87 4 4 3 10 (some [])),
  ([], tNe0 12 11),
  ([xC (.int 0)], tRetZ),
  ([xLdA 0, xGet 4 8, xSt 5, xLdA 0, xC (.int 1), xC (.int 24), xLd 5], tCv 87 4 4 3 13 (some [])),
  ([], tNe0 15 14),
  ([xC (.int 0)], tRetZ),
  ([xLdA 1, xLd 2, xLd 3, xLd 4, xLd 5, xLdA 0, xGet 4 8], tCv 3 6 0 5 16 (some [])),
  ([xC (.int 1)], tRetZ)]
/-- HandFingers$Text.readEvents(LHandFingers$Piece;)Z -/
def i_78 : MI := (RX4, cX4_readEvents, 4, yX4_readEvents, (some .boolean), (6, 130), [])
def P_78 : List Nat := [0, 2, 8, 14, 17, 26, 32, 33, 37, 45, 58, 61, 67, 70, 76, 79, 83, 86, 88, 94]
noncomputable def B_78 : List Bk := [([xC (.int 0), xSt 2], tGo 1),
  ([xLd 2, xC (.int 40)], tGt 19 2),
  ([xLdA 0, xC (.ref 8)], tCv 88 3 4 1 3 (some [])),
  ([], tEq0 19 4),
  ([xLdA 1, xGet 0 1, xC (.int 40)], tLt 7 5),
  ([xLdA 0, xC (.int (-5))], tCv 83 2 4 1 6 (some [])),
  ([], tRetZ),
  ([xLdA 0], tCv 89 1 4 0 8 (some [])),
  ([xLdA 1, xLdA 1, xGet 0 1], tCv 4 3 0 1 9 (some [])),
  ([xLdA 1, xGet 0 1, xC (.int 1), xSub, xSt 3, xLdA 0, xLdA 1, xLd 3], tCv 79 5 4 2 10 (some [])),
  ([], tEq0 17 11),
  ([xLdA 0, xLdA 1, xLd 3], tCv 80 3 4 2 12 (some [])),
  ([], tEq0 17 13),
  ([xLdA 0, xLdA 1, xLd 3], tCv 81 4 4 2 14 (some [])),
  ([], tEq0 17 15),
  ([xLdA 0], tCv 85 1 4 0 16 (some [])),
  ([], tNe0 18 17),
  ([xC (.int 0)], tRetZ),
  ([xInc 2 1], tGo 1),
  ([xC (.int 1)], tRetZ)]
/-- HandFingers$Text.readKeys(LHandFingers$Piece;I)Z -/
def i_79 : MI := (RX4, cX4_readKeys, 5, yX4_readKeys, (some .boolean), (4, 86), [])
def P_79 : List Nat := [0, 6, 11, 19, 25, 31, 32, 43, 46, 48, 59, 70]
noncomputable def B_79 : List Bk := [([xC (.int 20), xSt 3, xC (.int 0), xSt 4], tGo 1),
  ([xLd 4], tEq0 3 2),
  ([xLdA 0, xGet 4 4, xC (.int 2)], tNe 11 3),
  ([xLd 4, xC (.int 3)], tLt 6 4),
  ([xLdA 0, xC (.int (-5))], tCv 83 2 4 1 5 (some [])),
  ([], tRetZ),
  ([xLdA 0, xC (.int 21), xC (.int 108), xLd 3, xC (.int 1), xAdd], tCv 87 4 4 3 7 (some [])),
  ([], tNe0 9 8),
  ([xC (.int 0)], tRetZ),
  ([xLdA 1, xLd 2, xLd 4, xLdA 0, xGet 4 8], tCv 7 4 0 3 10 (some [])),
  ([xLdA 0, xGet 4 8, xSt 3, xInc 4 1], tGo 1),
  ([xC (.int 1)], tRetZ)]
/-- HandFingers$Text.readRest(LHandFingers$Piece;I)Z -/
def i_80 : MI := (RX4, cX4_readRest, 3, yX4_readRest, (some .boolean), (5, 107), [])
def P_80 : List Nat := [0, 6, 9, 11, 15, 23, 26, 28, 40]
noncomputable def B_80 : List Bk := [([xLdA 0, xC (.ref 9)], tCv 88 3 4 1 1 (some [])),
  ([], tNe0 3 2),
  ([xC (.int 1)], tRetZ),
  ([xLdA 0], tCv 89 1 4 0 4 (some [])),
  ([xLdA 0, xC (.int 0), xC (.int 9), xC (.int 0)], tCv 87 4 4 3 5 (some [])),
  ([], tNe0 7 6),
  ([xC (.int 0)], tRetZ),
  ([xLdA 1, xGet 0 3, xLd 2, xLdA 0, xGet 4 8], tCv 63 3 2 2 8 (some [])),
  ([xC (.int 1)], tRetZ)]
/-- HandFingers$Text.readFingers(LHandFingers$Piece;I)Z -/
def i_81 : MI := (RX4, cX4_readFingers, 4, yX4_readFingers, (some .boolean), (5, 107), [])
def P_81 : List Nat := [0, 6, 9, 11, 15, 17, 26, 29, 36, 39, 41, 50, 57, 62, 69, 72, 78, 86, 92, 95, 99, 100]
noncomputable def B_81 : List Bk := [([xLdA 0, xC (.ref 10)], tCv 88 3 4 1 1 (some [])),
  ([], tNe0 3 2),
  ([xC (.int 1)], tRetZ),
  ([xLdA 0], tCv 89 1 4 0 4 (some [])),
  ([xC (.int 0), xSt 3], tGo 5),
  ([xLd 3, xLdA 1, xGet 0 2, xLd 2], tCv 62 2 2 1 6 (some [])),
  ([], tGe 16 7),
  ([xLdA 0, xC (.int 0), xC (.int 5), xC (.int 0)], tCv 87 4 4 3 8 (some [])),
  ([], tNe0 10 9),
  ([xC (.int 0)], tRetZ),
  ([xLdA 1, xGet 0 5, xLd 2, xLd 3], tCs 146 2 2 11),
  ([xLdA 0, xGet 4 8], tNe0 13 12),
  ([xC (.int 31)], tGo 14),
  ([xLdA 0, xGet 4 8], tCs 145 1 1 14),
  ([], tCv 63 3 2 2 15 (some [])),
  ([xInc 3 1], tGo 5),
  ([xLdA 0, xGet 4 4, xC (.int 2)], tNe 19 17),
  ([xLdA 0, xC (.int (-5))], tCv 83 2 4 1 18 (some [])),
  ([], tEq0 20 19),
  ([xC (.int 1)], tGo 21),
  ([xC (.int 0)], tGo 21),
  ([], tRetZ)]
/-- HandFingers$Text.beginReading()V -/
def i_82 : MI := (RX4, cX4_beginReading, 1, yX4_beginReading, none, (3, 63), [])
def P_82 : List Nat := [0, 14]
noncomputable def B_82 : List Bk := [([xLdA 0, xC (.int (-1)), xPut 4 3 (.int), xLdA 0, xC (.int 0), xPut 4 6 (.int), xLdA 0], tCv 89 1 4 0 1 (some [])),
  ([], tRetV)]
/-- HandFingers$Text.fail(I)Z -/
def i_83 : MI := (RX4, cX4_fail, 2, yX4_fail, (some .boolean), (0, 0), [])
def P_83 : List Nat := [0]
noncomputable def B_83 : List Bk := [([xLdA 0, xLd 1, xPut 4 2 (.int), xLdA 0, xLdA 0, xGet 4 5, xPut 4 3 (.int), xC (.int 0)], tRetZ)]
/-- HandFingers$Text.takeWord(Ljava/lang/String;)Z -/
def i_84 : MI := (RX4, cX4_takeWord, 2, yX4_takeWord, (some .boolean), (5, 107), [])
def P_84 : List Nat := [0, 5, 8, 14, 15, 19]
noncomputable def B_84 : List Bk := [([xLdA 0, xLdA 1], tCv 88 3 4 1 1 (some [])),
  ([], tNe0 4 2),
  ([xLdA 0, xC (.int (-2))], tCv 83 2 4 1 3 (some [])),
  ([], tRetZ),
  ([xLdA 0], tCv 89 1 4 0 5 (some [])),
  ([xC (.int 1)], tRetZ)]
/-- HandFingers$Text.takeSemicolon()Z -/
def i_85 : MI := (RX4, cX4_takeSemicolon, 1, yX4_takeSemicolon, (some .boolean), (3, 63), [])
def P_85 : List Nat := [0, 8, 14, 15, 19]
noncomputable def B_85 : List Bk := [([xLdA 0, xGet 4 4, xC (.int 3)], tEq 3 1),
  ([xLdA 0, xC (.int (-2))], tCv 83 2 4 1 2 (some [])),
  ([], tRetZ),
  ([xLdA 0], tCv 89 1 4 0 4 (some [])),
  ([xC (.int 1)], tRetZ)]
/-- HandFingers$Text.takeEnd()Z -/
def i_86 : MI := (RX4, cX4_takeEnd, 1, yX4_takeEnd, (some .boolean), (1, 21), [])
def P_86 : List Nat := [0, 7, 13, 16, 20, 21]
noncomputable def B_86 : List Bk := [([xLdA 0, xGet 4 4], tEq0 3 1),
  ([xLdA 0, xC (.int (-2))], tCv 83 2 4 1 2 (some [])),
  ([], tEq0 4 3),
  ([xC (.int 1)], tGo 5),
  ([xC (.int 0)], tGo 5),
  ([], tRetZ)]
/-- HandFingers$Text.takeNumber(III)Z -/
def i_87 : MI := (RX4, cX4_takeNumber, 4, yX4_takeNumber, (some .boolean), (3, 63), [])
def P_87 : List Nat := [0, 8, 14, 15, 24, 27, 33, 34, 42, 48, 49, 61]
noncomputable def B_87 : List Bk := [([xLdA 0, xGet 4 4, xC (.int 2)], tEq 3 1),
  ([xLdA 0, xC (.int (-2))], tCv 83 2 4 1 2 (some [])),
  ([], tRetZ),
  ([xLdA 0, xGet 4 7, xLd 1, xLd 2], tCs 142 3 3 4),
  ([], tNe0 7 5),
  ([xLdA 0, xC (.int (-3))], tCv 83 2 4 1 6 (some [])),
  ([], tRetZ),
  ([xLdA 0, xGet 4 7, xLd 3], tGe 10 8),
  ([xLdA 0, xC (.int (-4))], tCv 83 2 4 1 9 (some [])),
  ([], tRetZ),
  ([xLdA 0, xLdA 0, xGet 4 7, xPut 4 8 (.int), xLdA 0], tCv 89 1 4 0 11 (some [])),
  ([xC (.int 1)], tRetZ)]
/-- HandFingers$Text.isWord(Ljava/lang/String;)Z -/
def i_88 : MI := (RX4, cX4_isWord, 3, yX4_isWord, (some .boolean), (4, 85), [])
def P_88 : List Nat := [0, 8, 21, 24, 26, 28, 33, 36, 49, 54, 57, 59, 65]
noncomputable def B_88 : List Bk := [([xLdA 0, xGet 4 4, xC (.int 1)], tNe 3 1),
  ([xLdA 0, xGet 4 6, xLdA 0, xGet 4 5, xSub, xLdA 1], tCx 294 1 0 2),
  ([], tEq 4 3),
  ([xC (.int 0)], tRetZ),
  ([xC (.int 0), xSt 2], tGo 5),
  ([xLd 2, xLdA 1], tCx 294 1 0 6),
  ([], tGe 12 7),
  ([xLdA 0, xGet 4 0, xLdA 0, xGet 4 5, xLd 2, xAdd], tCv 62 2 2 1 8 (some [])),
  ([xLdA 1, xLd 2], tCx 295 2 1 9),
  ([], tEq 11 10),
  ([xC (.int 0)], tRetZ),
  ([xInc 2 1], tGo 5),
  ([xC (.int 1)], tRetZ)]
/-- HandFingers$Text.scan()V -/
def i_89 : MI := (RX4, cX4_scan, 1, yX4_scan, none, (2, 43), [])
def P_89 : List Nat := [0, 8, 19, 30, 35, 48, 67, 75, 83, 86, 91, 102, 110, 113, 126, 134, 137, 147, 158, 166, 169, 190, 213, 225, 230, 234, 235, 248]
noncomputable def B_89 : List Bk := [([xLdA 0, xLdA 0, xGet 4 6, xPut 4 5 (.int)], tGo 1),
  ([xLdA 0, xGet 4 5, xLdA 0, xGet 4 1], tGe 5 2),
  ([xLdA 0, xGet 4 0, xLdA 0, xGet 4 5], tCv 62 2 2 1 3 (some [])),
  ([xC (.int 32)], tNe 5 4),
  ([xLdA 0, xDup, xGet 4 5, xC (.int 1), xAdd, xPut 4 5 (.int)], tGo 1),
  ([xLdA 0, xLdA 0, xGet 4 5, xPut 4 6 (.int), xLdA 0, xGet 4 5, xLdA 0, xGet 4 1], tLt 7 6),
  ([xLdA 0, xC (.int 0), xPut 4 4 (.int)], tGo 27),
  ([xLdA 0, xLdA 0, xGet 4 5], tCv 90 2 4 1 8 (some [])),
  ([], tEq0 14 9),
  ([xLdA 0, xC (.int 1), xPut 4 4 (.int)], tGo 10),
  ([xLdA 0, xGet 4 6, xLdA 0, xGet 4 1], tGe 27 11),
  ([xLdA 0, xLdA 0, xGet 4 6], tCv 90 2 4 1 12 (some [])),
  ([], tEq0 27 13),
  ([xLdA 0, xDup, xGet 4 6, xC (.int 1), xAdd, xPut 4 6 (.int)], tGo 10),
  ([xLdA 0, xLdA 0, xGet 4 5], tCv 91 2 4 1 15 (some [])),
  ([], tEq0 22 16),
  ([xLdA 0, xC (.int 2), xPut 4 4 (.int), xLdA 0, xC (.int 0), xPut 4 7 (.int)], tGo 17),
  ([xLdA 0, xGet 4 6, xLdA 0, xGet 4 1], tGe 27 18),
  ([xLdA 0, xLdA 0, xGet 4 6], tCv 91 2 4 1 19 (some [])),
  ([], tEq0 27 20),
  ([xLdA 0, xC (.int 1000000), xLdA 0, xGet 4 7, xC (.int 10), xMul, xLdA 0, xGet 4 0, xLdA 0, xGet 4 6], tCv 62 2 2 1 21 (some [])),
  ([xAdd, xC (.int 48), xSub, xMin, xPut 4 7 (.int), xLdA 0, xDup, xGet 4 6, xC (.int 1), xAdd, xPut 4 6 (.int)], tGo 17),
  ([xLdA 0, xLdA 0, xGet 4 0, xLdA 0, xGet 4 5], tCv 62 2 2 1 23 (some [])),
  ([xC (.int 59)], tNe 25 24),
  ([xC (.int 3)], tGo 26),
  ([xC (.int 4)], tGo 26),
  ([xPut 4 4 (.int), xLdA 0, xLdA 0, xGet 4 5, xC (.int 1), xAdd, xPut 4 6 (.int)], tGo 27),
  ([], tRetV)]
/-- HandFingers$Text.isLetter(I)Z -/
def i_90 : MI := (RX4, cX4_isLetter, 2, yX4_isLetter, (some .boolean), (1, 22), [])
def P_90 : List Nat := [0, 8, 15]
noncomputable def B_90 : List Bk := [([xLdA 0, xGet 4 0, xLd 1], tCv 62 2 2 1 1 (some [])),
  ([xC (.int 97), xC (.int 122)], tCs 142 3 3 2),
  ([], tRetZ)]
/-- HandFingers$Text.isDigit(I)Z -/
def i_91 : MI := (RX4, cX4_isDigit, 2, yX4_isDigit, (some .boolean), (1, 22), [])
def P_91 : List Nat := [0, 8, 15]
noncomputable def B_91 : List Bk := [([xLdA 0, xGet 4 0, xLd 1], tCv 62 2 2 1 1 (some [])),
  ([xC (.int 48), xC (.int 57)], tCs 142 3 3 2),
  ([], tRetZ)]
/-- HandFingers.<init>()V -/
def i_92 : MI := (RX5, cX5_init, 1, yX5_init, none, (4, 88), [])
def P_92 : List Nat := [0, 12, 23, 34, 45, 56, 69, 83, 101, 123]
noncomputable def B_92 : List Bk := [([xLdA 0, xObj, xLdA 0, xNew 0 nfX0, xDup], tCi 0 1 0 1),
  ([xPut 5 0 (.object "HandFingers$Piece"), xLdA 0, xNew 0 nfX0, xDup], tCi 0 1 0 2),
  ([xPut 5 1 (.object "HandFingers$Piece"), xLdA 0, xNew 1 nfX1, xDup], tCi 28 1 0 3),
  ([xPut 5 2 (.object "HandFingers$Plan"), xLdA 0, xNew 1 nfX1, xDup], tCi 28 1 0 4),
  ([xPut 5 3 (.object "HandFingers$Plan"), xLdA 0, xNew 4 nfX4, xDup], tCi 69 1 0 5),
  ([xPut 5 4 (.object "HandFingers$Text"), xLdA 0, xNew 2 nfX2, xDup, xC (.int 120)], tCi 61 2 1 6),
  ([xPut 5 5 (.object "HandFingers$Row"), xLdA 0, xNew 2 nfX2, xDup, xC (.int 200)], tCi 61 2 1 7),
  ([xPut 5 6 (.object "HandFingers$Row"), xLdA 0, xC (.int 0), xPut 5 7 (.int), xLdA 0, xNew 3 nfX3, xDup, xC (.int 8)], tCi 65 2 1 8),
  ([xPut 5 8 (.object "HandFingers$Shelf"), xLdA 0, xC (.int 0), xPut 5 9 (.int), xLdA 0, xC (.int 0), xPut 5 10 (.int), xLdA 0, xNew 3 nfX3, xDup, xC (.int 2)], tCi 65 2 1 9),
  ([xPut 5 11 (.object "HandFingers$Shelf")], tRetV)]
/-- HandFingers.append(IIIII)I -/
def i_93 : MI := (RX5, cX5_append, 7, yX5_append, (some .int), (6, 81), [])
def P_93 : List Nat := [0, 4, 8, 13, 19, 25, 44, 52, 60, 68, 76, 85, 94]
noncomputable def B_93 : List Bk := [([xLd 1], tCs 150 3 1 1),
  ([xLd 2], tCs 150 3 1 2),
  ([xAdd, xLd 3], tCs 150 3 1 3),
  ([xAdd, xLd 4], tCs 150 3 1 4),
  ([xAdd, xLd 5], tCs 150 3 1 5),
  ([xAdd, xSt 6, xLdA 0, xGet 5 4, xGet 4 1, xLd 6, xAdd, xC (.int 600)], tLe 7 6),
  ([], tThr "java/lang/IllegalStateException"),
  ([xLdA 0, xGet 5 4, xLd 1], tCv 70 4 4 1 8 (some [])),
  ([xLdA 0, xGet 5 4, xLd 2], tCv 70 4 4 1 9 (some [])),
  ([xLdA 0, xGet 5 4, xLd 3], tCv 70 4 4 1 10 (some [])),
  ([xLdA 0, xGet 5 4, xLd 4], tCv 70 4 4 1 11 (some [])),
  ([xLdA 0, xGet 5 4, xLd 5], tCv 70 4 4 1 12 (some [])),
  ([xLdA 0, xGet 5 4, xGet 4 1], tRet)]
/-- HandFingers.load()I -/
def i_94 : MI := (RX5, cX5_load, 2, yX5_load, (some .int), (8, 174), [])
def P_94 : List Nat := [0, 11, 24, 32, 36, 47]
noncomputable def B_94 : List Bk := [([xLdA 0, xGet 5 4, xLdA 0, xGet 5 1], tCv 71 2 4 1 1 (some [])),
  ([xSt 1, xLdA 0, xGet 5 4, xC (.int 0), xPut 4 1 (.int), xLd 1], tNe0 3 2),
  ([xLdA 0, xGet 5 4, xGet 4 2], tRet),
  ([xLdA 0], tCv 138 1 5 0 4 (some [])),
  ([xLdA 0, xGet 5 0, xLdA 0, xGet 5 1], tCv 2 2 0 1 5 (some [])),
  ([xLdA 0, xGet 5 0, xGet 0 1], tRet)]
/-- HandFingers.errorPosition()I -/
def i_95 : MI := (RX5, cX5_errorPosition, 1, yX5_errorPosition, (some .int), (0, 0), [])
def P_95 : List Nat := [0]
noncomputable def B_95 : List Bk := [([xLdA 0, xGet 5 4, xGet 4 3], tRet)]
/-- HandFingers.count(I)I -/
def i_96 : MI := (RX5, cX5_count, 2, yX5_count, (some .int), (6, 81), [])
def P_96 : List Nat := [0, 44, 52, 59, 60, 70, 74, 75, 76, 83, 84, 91, 92, 99, 100, 107, 108]
noncomputable def B_96 : List Bk := [([xLd 1], tSw 16 [(0, 1), (1, 2), (2, 4), (3, 8), (4, 10), (5, 12), (6, 14)]),
  ([xLdA 0, xGet 5 0, xGet 0 1], tRet),
  ([xLdA 0, xGet 5 0], tCv 11 3 0 0 3 (some [])),
  ([], tRet),
  ([xLdA 0, xGet 5 0, xGet 0 0], tEq0 6 5),
  ([xC (.int 1)], tGo 7),
  ([xC (.int 0)], tGo 7),
  ([], tRet),
  ([xLdA 0, xGet 5 0], tCv 12 3 0 0 9 (some [])),
  ([], tRet),
  ([xLdA 0, xGet 5 0], tCv 13 3 0 0 11 (some [])),
  ([], tRet),
  ([xLdA 0, xGet 5 0], tCv 14 4 0 0 13 (some [])),
  ([], tRet),
  ([xLdA 0, xGet 5 0], tCv 15 3 0 0 15 (some [])),
  ([], tRet),
  ([], tThr "java/lang/IllegalArgumentException")]
/-- HandFingers.event(II)I -/
def i_97 : MI := (RX5, cX5_event, 3, yX5_event, (some .int), (7, 152), [])
def P_97 : List Nat := [0, 5, 32, 43, 44, 55, 56, 67, 78, 79]
noncomputable def B_97 : List Bk := [([xLdA 0, xLd 1], tCv 131 2 5 1 1 (some [])),
  ([xLd 2], tSw 9 [(0, 2), (1, 4), (2, 6)]),
  ([xLdA 0, xGet 5 0, xGet 0 2, xLd 1], tCv 62 2 2 1 3 (some [])),
  ([], tRet),
  ([xLdA 0, xGet 5 0, xGet 0 3, xLd 1], tCv 62 2 2 1 5 (some [])),
  ([], tRet),
  ([xLdA 0, xGet 5 2, xLdA 0, xGet 5 0], tCv 30 3 1 1 7 (some [])),
  ([xLdA 0, xGet 5 2, xGet 1 3, xLd 1], tCv 62 2 2 1 8 (some [])),
  ([], tRet),
  ([], tThr "java/lang/IllegalArgumentException")]
/-- HandFingers.note(III)I -/
def i_98 : MI := (RX5, cX5_note, 4, yX5_note, (some .int), (8, 124), [])
def P_98 : List Nat := [0, 6, 32, 41, 42, 54, 57, 58]
noncomputable def B_98 : List Bk := [([xLdA 0, xLd 1, xLd 2], tCv 132 3 5 2 1 (some [])),
  ([xLd 3], tSw 7 [(0, 2), (1, 4)]),
  ([xLdA 0, xGet 5 0, xLd 1, xLd 2], tCv 10 3 0 2 3 (some [])),
  ([], tRet),
  ([xLdA 0, xGet 5 0, xGet 0 5, xLd 1, xLd 2], tCs 146 2 2 5),
  ([], tCv 62 2 2 1 6 (some [])),
  ([], tRet),
  ([], tThr "java/lang/IllegalArgumentException")]
/-- HandFingers.weight(I)I -/
def i_99 : MI := (RX5, cX5_weight, 2, yX5_weight, (some .int), (7, 102), [])
def P_99 : List Nat := [0, 5, 16]
noncomputable def B_99 : List Bk := [([xLdA 0, xLd 1], tCv 134 2 5 1 1 (some [])),
  ([xLdA 0, xGet 5 0, xGet 0 6, xLd 1], tCv 62 2 2 1 2 (some [])),
  ([], tRet)]
/-- HandFingers.span(III)I -/
def i_100 : MI := (RX5, cX5_span, 4, yX5_span, (some .int), (7, 102), [])
def P_100 : List Nat := [0, 5, 10, 15, 23, 52, 64, 67, 68, 80, 83, 84, 96, 99, 100]
noncomputable def B_100 : List Bk := [([xLdA 0, xLd 1], tCv 133 2 5 1 1 (some [])),
  ([xLdA 0, xLd 2], tCv 133 2 5 1 2 (some [])),
  ([xLd 1, xLd 2], tNe 4 3),
  ([], tThr "java/lang/IllegalArgumentException"),
  ([xLd 3], tSw 14 [(0, 5), (1, 8), (2, 11)]),
  ([xLdA 0, xGet 5 0, xGet 0 7, xLd 1, xLd 2], tCs 147 2 2 6),
  ([], tCv 62 2 2 1 7 (some [])),
  ([], tRet),
  ([xLdA 0, xGet 5 0, xGet 0 8, xLd 1, xLd 2], tCs 147 2 2 9),
  ([], tCv 62 2 2 1 10 (some [])),
  ([], tRet),
  ([xLdA 0, xGet 5 0, xGet 0 9, xLd 1, xLd 2], tCs 147 2 2 12),
  ([], tCv 62 2 2 1 13 (some [])),
  ([], tRet),
  ([], tThr "java/lang/IllegalArgumentException")]
/-- HandFingers.link(IIII)I -/
def i_101 : MI := (RX5, cX5_link, 5, yX5_link, (some .int), (7, 102), [])
def P_101 : List Nat := [0, 5, 10, 18, 21, 30, 33, 41, 53]
noncomputable def B_101 : List Bk := [([xLdA 0, xLd 1], tCv 133 2 5 1 1 (some [])),
  ([xLdA 0, xLd 3], tCv 133 2 5 1 2 (some [])),
  ([xLd 2, xC (.int 21), xC (.int 108)], tCs 142 3 3 3),
  ([], tEq0 6 4),
  ([xLd 4, xC (.int 21), xC (.int 108)], tCs 142 3 3 5),
  ([], tNe0 7 6),
  ([], tThr "java/lang/IllegalArgumentException"),
  ([xLdA 0, xGet 5 0, xLd 1, xLd 2, xLd 3, xLd 4], tCv 26 6 0 4 8 (some [])),
  ([], tRet)]
/-- HandFingers.best()I -/
def i_102 : MI := (RX5, cX5_best, 1, yX5_best, (some .int), (6, 152), [])
def P_102 : List Nat := [0, 11]
noncomputable def B_102 : List Bk := [([xLdA 0, xGet 5 2, xLdA 0, xGet 5 0], tCv 30 3 1 1 1 (some [])),
  ([xLdA 0, xGet 5 2, xGet 1 2], tRet)]
/-- HandFingers.finger(II)I -/
def i_103 : MI := (RX5, cX5_finger, 3, yX5_finger, (some .int), (8, 172), [])
def P_103 : List Nat := [0, 6, 10, 19]
noncomputable def B_103 : List Bk := [([xLdA 0, xLd 1, xLd 2], tCv 132 3 5 2 1 (some [])),
  ([xLdA 0], tCv 137 1 5 0 2 (some [])),
  ([xLdA 0, xGet 5 2, xLd 1, xLd 2], tCv 47 3 1 2 3 (some [])),
  ([], tRet)]
/-- HandFingers.part(II)I -/
def i_104 : MI := (RX5, cX5_part, 3, yX5_part, (some .int), (7, 172), [])
def P_104 : List Nat := [0, 5, 11, 14, 22, 26, 30, 38, 39, 43, 45, 50, 60, 63, 77]
noncomputable def B_104 : List Bk := [([xLdA 0, xLd 1], tCv 131 2 5 1 1 (some [])),
  ([xLd 2, xC (.int 0), xC (.int 2)], tCs 142 3 3 2),
  ([], tNe0 4 3),
  ([], tThr "java/lang/IllegalArgumentException"),
  ([xLdA 0], tCv 137 1 5 0 5 (some [])),
  ([xLd 2], tNe0 8 6),
  ([xLdA 0, xGet 5 2, xLd 1], tCv 48 2 1 1 7 (some [])),
  ([], tRet),
  ([xLd 1], tNe0 10 9),
  ([xC (.int 0)], tRet),
  ([xLd 2, xC (.int 1)], tNe 13 11),
  ([xLdA 0, xGet 5 2, xLd 1, xC (.int 1), xSub], tCv 49 2 1 1 12 (some [])),
  ([], tGo 14),
  ([xLdA 0, xGet 5 2, xLdA 0, xGet 5 0, xLd 1, xC (.int 1), xSub], tCv 50 3 1 2 14 (some [])),
  ([], tRet)]
/-- HandFingers.many(Z)J -/
def i_105 : MI := (RX5, cX5_many, 2, yX5_many, (some .long), (6, 152), [])
def P_105 : List Nat := [0, 11, 19]
noncomputable def B_105 : List Bk := [([xLdA 0, xGet 5 2, xLdA 0, xGet 5 0], tCv 30 3 1 1 1 (some [])),
  ([xLdA 0, xGet 5 2, xLd 1], tCv 51 6 1 1 2 (some [])),
  ([], tRetL)]
/-- HandFingers.costWith(III)I -/
def i_106 : MI := (RX5, cX5_costWith, 4, yX5_costWith, (some .int), (8, 152), [])
def P_106 : List Nat := [0, 6, 11, 22, 32]
noncomputable def B_106 : List Bk := [([xLdA 0, xLd 1, xLd 2], tCv 132 3 5 2 1 (some [])),
  ([xLdA 0, xLd 3], tCv 133 2 5 1 2 (some [])),
  ([xLdA 0, xGet 5 2, xLdA 0, xGet 5 0], tCv 30 3 1 1 3 (some [])),
  ([xLdA 0, xGet 5 2, xLd 1, xLd 2, xLd 3], tCv 55 6 1 3 4 (some [])),
  ([], tRet)]
/-- HandFingers.reaches()I -/
def i_107 : MI := (RX5, cX5_reaches, 1, yX5_reaches, (some .int), (6, 152), [])
def P_107 : List Nat := [0, 11, 18]
noncomputable def B_107 : List Bk := [([xLdA 0, xGet 5 2, xLdA 0, xGet 5 0], tCv 30 3 1 1 1 (some [])),
  ([xLdA 0, xGet 5 2], tCv 56 2 1 0 2 (some [])),
  ([], tRet)]
/-- HandFingers.uses(I)I -/
def i_108 : MI := (RX5, cX5_uses, 5, yX5_uses, (some .int), (7, 172), [])
def P_108 : List Nat := [0, 5, 9, 13, 24, 27, 40, 43, 54, 58, 62, 63, 71, 77]
noncomputable def B_108 : List Bk := [([xLdA 0, xLd 1], tCv 133 2 5 1 1 (some [])),
  ([xLdA 0], tCv 137 1 5 0 2 (some [])),
  ([xC (.int 0), xSt 2, xC (.int 0), xSt 3], tGo 3),
  ([xLd 3, xLdA 0, xGet 5 0, xGet 0 1], tGe 13 4),
  ([xC (.int 0), xSt 4], tGo 5),
  ([xLd 4, xLdA 0, xGet 5 0, xGet 0 2, xLd 3], tCv 62 2 2 1 6 (some [])),
  ([], tGe 12 7),
  ([xLd 2, xLdA 0, xGet 5 2, xLd 3, xLd 4], tCv 47 3 1 2 8 (some [])),
  ([xLd 1], tNe 10 9),
  ([xC (.int 1)], tGo 11),
  ([xC (.int 0)], tGo 11),
  ([xAdd, xSt 2, xInc 4 1], tGo 5),
  ([xInc 3 1], tGo 3),
  ([xLd 2], tRet)]
/-- HandFingers.sure()I -/
def i_109 : MI := (RX5, cX5_sure, 4, yX5_sure, (some .int), (7, 172), [])
def P_109 : List Nat := [0, 4, 8, 19, 21, 33, 36, 46, 49, 53, 57, 58, 66, 72]
noncomputable def B_109 : List Bk := [([xLdA 0], tCv 137 1 5 0 1 (some [])),
  ([xC (.int 0), xSt 1, xC (.int 0), xSt 2], tGo 2),
  ([xLd 2, xLdA 0, xGet 5 0, xGet 0 1], tGe 13 3),
  ([xC (.int 0), xSt 3], tGo 4),
  ([xLd 3, xLdA 0, xGet 5 0, xGet 0 2, xLd 2], tCv 62 2 2 1 5 (some [])),
  ([], tGe 12 6),
  ([xLd 1, xLdA 0, xGet 5 2, xLd 2, xLd 3], tCv 58 5 1 2 7 (some [])),
  ([], tCs 293 1 1 8),
  ([xC (.int 1)], tNe 10 9),
  ([xC (.int 1)], tGo 11),
  ([xC (.int 0)], tGo 11),
  ([xAdd, xSt 1, xInc 3 1], tGo 4),
  ([xInc 2 1], tGo 2),
  ([xLd 1], tRet)]
/-- HandFingers.mean()D -/
def i_110 : MI := (RX5, cX5_mean, 2, yX5_mean, (some .double), (7, 172), [])
def P_110 : List Nat := [0, 4, 11, 16, 20, 31]
noncomputable def B_110 : List Bk := [([xLdA 0], tCv 137 1 5 0 1 (some [])),
  ([xLdA 0, xGet 5 0], tCv 11 3 0 0 2 (some [])),
  ([xSt 1, xLd 1], tNe0 4 3),
  ([xC (.double FP.dconst0)], tGo 5),
  ([xLdA 0, xGet 5 2, xGet 1 2, xI2D, xLd 1, xI2D, xDdiv], tGo 5),
  ([], tRetD)]
/-- HandFingers.costOfTold()I -/
def i_111 : MI := (RX5, cX5_costOfTold, 5, yX5_costOfTold, (some .int), (5, 124), [])
def P_111 : List Nat := [0, 15, 28, 36, 40, 51, 56, 61, 64, 72, 75, 86]
noncomputable def B_111 : List Bk := [([xLdA 0, xGet 5 4, xLdA 0, xGet 5 0, xLdA 0, xGet 5 5], tCv 72 5 4 2 1 (some [])),
  ([xSt 1, xLdA 0, xGet 5 4, xC (.int 0), xPut 4 1 (.int), xLd 1], tNe0 3 2),
  ([xLdA 0, xGet 5 4, xGet 4 2], tRet),
  ([xC (.int 0), xSt 2, xC (.int 0), xSt 3], tGo 4),
  ([xLd 3, xLdA 0, xGet 5 0, xGet 0 1], tGe 11 5),
  ([xLdA 0, xLd 3], tCv 139 2 5 1 6 (some [])),
  ([xLdA 0, xLd 3], tCv 140 3 5 1 7 (some [])),
  ([], tCs 148 2 2 8),
  ([xSt 4, xLd 4, xC (.int (-1))], tNe 10 9),
  ([xC (.int (-10))], tRet),
  ([xLd 2, xLd 4, xAdd, xSt 2, xInc 3 1], tGo 4),
  ([xLd 2], tRet)]
/-- HandFingers.faultOfTold()I -/
def i_112 : MI := (RX5, cX5_faultOfTold, 3, yX5_faultOfTold, (some .int), (5, 124), [])
def P_112 : List Nat := [0, 15, 28, 36, 38, 49, 54, 58, 65, 70, 74, 81, 87]
noncomputable def B_112 : List Bk := [([xLdA 0, xGet 5 4, xLdA 0, xGet 5 0, xLdA 0, xGet 5 5], tCv 72 5 4 2 1 (some [])),
  ([xSt 1, xLdA 0, xGet 5 4, xC (.int 0), xPut 4 1 (.int), xLd 1], tNe0 3 2),
  ([xLdA 0, xGet 5 4, xGet 4 2], tRet),
  ([xC (.int 0), xSt 2], tGo 4),
  ([xLd 2, xLdA 0, xGet 5 0, xGet 0 1], tGe 12 5),
  ([xLdA 0, xLd 2], tCv 139 2 5 1 6 (some [])),
  ([xC (.int (-1))], tNe 8 7),
  ([xC (.int 10), xLd 2, xMul, xC (.int 1), xAdd], tRet),
  ([xLdA 0, xLd 2], tCv 140 3 5 1 9 (some [])),
  ([xC (.int (-1))], tNe 11 10),
  ([xC (.int 10), xLd 2, xMul, xC (.int 2), xAdd], tRet),
  ([xInc 2 1], tGo 4),
  ([xC (.int (-10))], tRet)]
/-- HandFingers.otherHand()I -/
def i_113 : MI := (RX5, cX5_otherHand, 1, yX5_otherHand, (some .int), (6, 152), [])
def P_113 : List Nat := [0, 11, 25, 29, 30, 40, 51]
noncomputable def B_113 : List Bk := [([xLdA 0, xGet 5 1, xLdA 0, xGet 5 0], tCv 2 2 0 1 1 (some [])),
  ([xLdA 0, xGet 5 1, xLdA 0, xGet 5 0, xGet 0 0], tNe0 3 2),
  ([xC (.int 1)], tGo 4),
  ([xC (.int 0)], tGo 4),
  ([xPut 0 0 (.boolean), xLdA 0, xGet 5 3], tCv 29 1 1 0 5 (some [])),
  ([xLdA 0, xGet 5 3, xLdA 0, xGet 5 1], tCv 30 3 1 1 6 (some [])),
  ([xLdA 0, xGet 5 3, xGet 1 2], tRet)]
/-- HandFingers.transposed(I)I -/
def i_114 : MI := (RX5, cX5_transposed, 2, yX5_transposed, (some .int), (7, 152), [])
def P_114 : List Nat := [0, 5, 16, 28]
noncomputable def B_114 : List Bk := [([xLdA 0, xLd 1], tCv 136 2 5 1 1 (some [])),
  ([xLdA 0, xGet 5 2, xLdA 0, xGet 5 0], tCv 30 3 1 1 2 (some [])),
  ([xLdA 0, xGet 5 2, xLdA 0, xGet 5 0, xLd 1], tCv 59 4 1 2 3 (some [])),
  ([], tRet)]
/-- HandFingers.easiest(I)I -/
def i_115 : MI := (RX5, cX5_easiest, 6, yX5_easiest, (some .int), (7, 172), [])
def P_115 : List Nat := [0, 7, 10, 18, 22, 35, 41, 46, 53, 62, 65, 78, 82, 98, 99, 111, 117]
noncomputable def B_115 : List Bk := [([xLd 1, xC (.int 0), xC (.int 24)], tCs 142 3 3 1),
  ([], tNe0 3 2),
  ([], tThr "java/lang/IllegalArgumentException"),
  ([xLdA 0], tCv 137 1 5 0 4 (some [])),
  ([xC (.int 0), xSt 2, xLdA 0, xGet 5 2, xGet 1 2, xSt 3, xC (.int 1), xSt 4], tGo 5),
  ([xLd 4, xLd 1], tGt 16 6),
  ([xLd 4, xNeg, xSt 5], tGo 7),
  ([xLd 5, xLd 4], tGt 15 8),
  ([xLdA 0, xGet 5 0, xLd 5], tCv 8 2 0 1 9 (some [])),
  ([], tEq0 14 10),
  ([xLdA 0, xGet 5 2, xLdA 0, xGet 5 0, xLd 5], tCv 59 4 1 2 11 (some [])),
  ([xLd 3], tGe 14 12),
  ([xLd 5, xSt 2, xLdA 0, xGet 5 2, xLdA 0, xGet 5 0, xLd 5], tCv 59 4 1 2 13 (some [])),
  ([xSt 3], tGo 14),
  ([xLd 5, xC (.int 2), xLd 4, xMul, xAdd, xSt 5], tGo 7),
  ([xInc 4 1], tGo 5),
  ([xLd 2], tRet)]
/-- HandFingers.restBehind()I -/
def i_116 : MI := (RX5, cX5_restBehind, 5, yX5_restBehind, (some .int), (6, 152), [])
def P_116 : List Nat := [0, 11, 23, 36, 48, 56, 61, 67, 72, 78]
noncomputable def B_116 : List Bk := [([xLdA 0, xGet 5 2, xLdA 0, xGet 5 0], tCv 30 3 1 1 1 (some [])),
  ([xC (.int (-1)), xSt 1, xLdA 0, xGet 5 2, xGet 1 2, xSt 2, xC (.int 0), xSt 3], tGo 2),
  ([xLd 3, xLdA 0, xGet 5 0, xGet 0 1, xC (.int 1), xSub], tGe 9 3),
  ([xLdA 0, xGet 5 2, xLdA 0, xGet 5 0, xLd 3], tCv 60 8 1 2 4 (some [])),
  ([xSt 4, xLd 4, xC (.int (-1))], tEq 8 5),
  ([xLd 2, xC (.int (-1))], tEq 7 6),
  ([xLd 4, xLd 2], tGe 8 7),
  ([xLd 3, xSt 1, xLd 4, xSt 2], tGo 8),
  ([xInc 3 1], tGo 2),
  ([xLd 1], tRet)]
/-- HandFingers.play(IIIII)I -/
def i_117 : MI := (RX5, cX5_play, 6, yX5_play, (some .int), (6, 131), [])
def P_117 : List Nat := [0, 12, 15, 23, 30, 33, 41, 44, 52, 64, 67, 71, 79, 89, 93, 103, 108, 119, 132]
noncomputable def B_117 : List Bk := [([xLd 1, xC (.int 0), xLdA 0, xGet 5 0, xGet 0 1], tCs 142 3 3 1),
  ([], tNe0 3 2),
  ([], tThr "java/lang/IndexOutOfBoundsException"),
  ([xLd 2, xLd 3, xLd 4], tCs 143 3 3 4),
  ([], tEq0 7 5),
  ([xLd 5, xC (.int 0), xC (.int 9)], tCs 142 3 3 6),
  ([], tNe0 8 7),
  ([], tThr "java/lang/IllegalArgumentException"),
  ([xLdA 0, xGet 5 0, xGet 0 1, xC (.int 40)], tLt 10 9),
  ([xC (.int (-10))], tRet),
  ([xLdA 0], tCv 138 1 5 0 11 (some [])),
  ([xLdA 0, xGet 5 0, xLd 1], tCv 4 3 0 1 12 (some [])),
  ([xLdA 0, xGet 5 0, xLd 1, xC (.int 0), xLd 2], tCv 7 4 0 3 13 (some [])),
  ([xLd 3], tEq0 15 14),
  ([xLdA 0, xGet 5 0, xLd 1, xC (.int 1), xLd 3], tCv 7 4 0 3 15 (some [])),
  ([xLd 4], tEq0 17 16),
  ([xLdA 0, xGet 5 0, xLd 1, xC (.int 2), xLd 4], tCv 7 4 0 3 17 (some [])),
  ([xLdA 0, xGet 5 0, xGet 0 3, xLd 1, xLd 5], tCv 63 3 2 2 18 (some [])),
  ([xLdA 0, xGet 5 0, xGet 0 1], tRet)]
/-- HandFingers.drop(I)I -/
def i_118 : MI := (RX5, cX5_drop, 2, yX5_drop, (some .int), (7, 131), [])
def P_118 : List Nat := [0, 5, 9, 17]
noncomputable def B_118 : List Bk := [([xLdA 0, xLd 1], tCv 131 2 5 1 1 (some [])),
  ([xLdA 0], tCv 138 1 5 0 2 (some [])),
  ([xLdA 0, xGet 5 0, xLd 1], tCv 5 3 0 1 3 (some [])),
  ([xLdA 0, xGet 5 0, xGet 0 1], tRet)]
/-- HandFingers.setRest(II)I -/
def i_119 : MI := (RX5, cX5_setRest, 4, yX5_setRest, (some .int), (7, 131), [])
def P_119 : List Nat := [0, 5, 12, 15, 23, 27, 38, 51]
noncomputable def B_119 : List Bk := [([xLdA 0, xLd 1], tCv 131 2 5 1 1 (some [])),
  ([xLd 2, xC (.int 0), xC (.int 9)], tCs 142 3 3 2),
  ([], tNe0 4 3),
  ([], tThr "java/lang/IllegalArgumentException"),
  ([xLdA 0], tCv 138 1 5 0 5 (some [])),
  ([xLdA 0, xGet 5 0, xGet 0 3, xLd 1], tCv 62 2 2 1 6 (some [])),
  ([xSt 3, xLdA 0, xGet 5 0, xGet 0 3, xLd 1, xLd 2], tCv 63 3 2 2 7 (some [])),
  ([xLd 3], tRet)]
/-- HandFingers.let(IIIZ)I -/
def i_120 : MI := (RX5, cX5_let, 7, yX5_let, (some .int), (8, 131), [])
def P_120 : List Nat := [0, 6, 11, 15, 20, 34, 50, 56, 60, 66, 69, 72, 84]
noncomputable def B_120 : List Bk := [([xLdA 0, xLd 1, xLd 2], tCv 132 3 5 2 1 (some [])),
  ([xLdA 0, xLd 3], tCv 133 2 5 1 2 (some [])),
  ([xLdA 0], tCv 138 1 5 0 3 (some [])),
  ([xLd 1, xLd 2], tCs 146 2 2 4),
  ([xSt 5, xLdA 0, xGet 5 0, xGet 0 5, xLd 5], tCv 62 2 2 1 5 (some [])),
  ([xSt 6, xLdA 0, xGet 5 0, xGet 0 5, xLd 5, xLd 4], tEq0 8 6),
  ([xLd 6, xLd 3], tCs 145 1 1 7),
  ([xOr], tGo 10),
  ([xLd 6, xLd 3], tCs 145 1 1 9),
  ([xC (.int (-1)), xXor, xAnd], tGo 10),
  ([], tCv 63 3 2 2 11 (some [])),
  ([xLdA 0, xGet 5 0, xGet 0 5, xLd 5], tCv 62 2 2 1 12 (some [])),
  ([], tRet)]
/-- HandFingers.setWeight(II)I -/
def i_121 : MI := (RX5, cX5_setWeight, 4, yX5_setWeight, (some .int), (7, 131), [])
def P_121 : List Nat := [0, 5, 12, 15, 23, 27, 38, 51]
noncomputable def B_121 : List Bk := [([xLdA 0, xLd 1], tCv 134 2 5 1 1 (some [])),
  ([xLd 2, xC (.int 0), xC (.int 99)], tCs 142 3 3 2),
  ([], tNe0 4 3),
  ([], tThr "java/lang/IllegalArgumentException"),
  ([xLdA 0], tCv 138 1 5 0 5 (some [])),
  ([xLdA 0, xGet 5 0, xGet 0 6, xLd 1], tCv 62 2 2 1 6 (some [])),
  ([xSt 3, xLdA 0, xGet 5 0, xGet 0 6, xLd 1, xLd 2], tCv 63 3 2 2 7 (some [])),
  ([xLd 3], tRet)]
/-- HandFingers.setSpan(IIIII)I -/
def i_122 : MI := (RX5, cX5_setSpan, 7, yX5_setSpan, (some .int), (7, 131), [])
def P_122 : List Nat := [0, 5, 10, 15, 22, 25, 33, 36, 45, 48, 56, 60, 72, 75, 91]
noncomputable def B_122 : List Bk := [([xLdA 0, xLd 1], tCv 133 2 5 1 1 (some [])),
  ([xLdA 0, xLd 2], tCv 133 2 5 1 2 (some [])),
  ([xLd 1, xLd 2], tEq 9 3),
  ([xLd 3, xC (.int 1), xC (.int 24)], tCs 142 3 3 4),
  ([], tEq0 9 5),
  ([xLd 4, xLd 3, xC (.int 24)], tCs 142 3 3 6),
  ([], tEq0 9 7),
  ([xLd 5, xLd 4, xC (.int 24)], tCs 142 3 3 8),
  ([], tNe0 10 9),
  ([], tThr "java/lang/IllegalArgumentException"),
  ([xLdA 0], tCv 138 1 5 0 11 (some [])),
  ([xLdA 0, xGet 5 0, xGet 0 9, xLd 1, xLd 2], tCs 147 2 2 12),
  ([], tCv 62 2 2 1 13 (some [])),
  ([xSt 6, xLdA 0, xGet 5 0, xLd 1, xLd 2, xLd 3, xLd 4, xLd 5], tCv 3 6 0 5 14 (some [])),
  ([xLd 6], tRet)]
/-- HandFingers.setHand(Z)I -/
def i_123 : MI := (RX5, cX5_setHand, 2, yX5_setHand, (some .int), (6, 152), [])
def P_123 : List Nat := [0, 4, 23]
noncomputable def B_123 : List Bk := [([xLdA 0], tCv 138 1 5 0 1 (some [])),
  ([xLdA 0, xGet 5 0, xLd 1, xPut 0 0 (.boolean), xLdA 0, xGet 5 2, xLdA 0, xGet 5 0], tCv 30 3 1 1 2 (some [])),
  ([xLdA 0, xGet 5 2, xGet 1 2], tRet)]
/-- HandFingers.transpose(I)I -/
def i_124 : MI := (RX5, cX5_transpose, 2, yX5_transpose, (some .int), (7, 152), [])
def P_124 : List Nat := [0, 5, 9, 17, 28]
noncomputable def B_124 : List Bk := [([xLdA 0, xLd 1], tCv 136 2 5 1 1 (some [])),
  ([xLdA 0], tCv 138 1 5 0 2 (some [])),
  ([xLdA 0, xGet 5 0, xLd 1], tCv 9 4 0 1 3 (some [])),
  ([xLdA 0, xGet 5 2, xLdA 0, xGet 5 0], tCv 30 3 1 1 4 (some [])),
  ([xLdA 0, xGet 5 2, xGet 1 2], tRet)]
/-- HandFingers.fix()I -/
def i_125 : MI := (RX5, cX5_fix, 5, yX5_fix, (some .int), (7, 172), [])
def P_125 : List Nat := [0, 4, 8, 12, 23, 25, 37, 40, 45, 60, 63, 67, 71, 72, 92, 95, 98, 104, 110]
noncomputable def B_125 : List Bk := [([xLdA 0], tCv 137 1 5 0 1 (some [])),
  ([xLdA 0], tCv 138 1 5 0 2 (some [])),
  ([xC (.int 0), xSt 1, xC (.int 0), xSt 2], tGo 3),
  ([xLd 2, xLdA 0, xGet 5 0, xGet 0 1], tGe 18 4),
  ([xC (.int 0), xSt 3], tGo 5),
  ([xLd 3, xLdA 0, xGet 5 0, xGet 0 2, xLd 2], tCv 62 2 2 1 6 (some [])),
  ([], tGe 17 7),
  ([xLd 2, xLd 3], tCs 146 2 2 8),
  ([xSt 4, xLd 1, xLdA 0, xGet 5 0, xGet 0 5, xLd 4], tCv 62 2 2 1 9 (some [])),
  ([], tCs 293 1 1 10),
  ([xC (.int 1)], tLe 12 11),
  ([xC (.int 1)], tGo 13),
  ([xC (.int 0)], tGo 13),
  ([xAdd, xSt 1, xLdA 0, xGet 5 0, xGet 0 5, xLd 4, xLdA 0, xGet 5 2, xLd 2, xLd 3], tCv 47 3 1 2 14 (some [])),
  ([], tCs 145 1 1 15),
  ([], tCv 63 3 2 2 16 (some [])),
  ([xInc 3 1], tGo 5),
  ([xInc 2 1], tGo 3),
  ([xLd 1], tRet)]
/-- HandFingers.undo()I -/
def i_126 : MI := (RX5, cX5_undo, 1, yX5_undo, (some .int), (6, 91), [])
def P_126 : List Nat := [0, 7, 15, 48, 55]
noncomputable def B_126 : List Bk := [([xLdA 0, xGet 5 10], tNe0 2 1),
  ([], tThr "java/lang/IllegalStateException"),
  ([xLdA 0, xDup, xGet 5 10, xC (.int 1), xSub, xPut 5 10 (.int), xLdA 0, xGet 5 8, xLdA 0, xGet 5 9, xLdA 0, xGet 5 10, xAdd, xC (.int 8), xRem, xLdA 0, xGet 5 0], tCv 68 4 3 2 3 (some [])),
  ([xLdA 0, xGet 5 2], tCv 29 1 1 0 4 (some [])),
  ([xLdA 0, xGet 5 10], tRet)]
/-- HandFingers.save(I)V -/
def i_127 : MI := (RX5, cX5_save, 2, yX5_save, none, (7, 111), [])
def P_127 : List Nat := [0, 5, 17]
noncomputable def B_127 : List Bk := [([xLdA 0, xLd 1], tCv 135 2 5 1 1 (some [])),
  ([xLdA 0, xGet 5 11, xLd 1, xLdA 0, xGet 5 0], tCv 67 4 3 2 2 (some [])),
  ([], tRetV)]
/-- HandFingers.restore(I)I -/
def i_128 : MI := (RX5, cX5_restore, 2, yX5_restore, (some .int), (7, 131), [])
def P_128 : List Nat := [0, 5, 13, 16, 24, 28, 40]
noncomputable def B_128 : List Bk := [([xLdA 0, xLd 1], tCv 135 2 5 1 1 (some [])),
  ([xLdA 0, xGet 5 11, xLd 1], tCv 66 2 3 1 2 (some [])),
  ([], tNe0 4 3),
  ([], tThr "java/lang/IllegalStateException"),
  ([xLdA 0], tCv 138 1 5 0 5 (some [])),
  ([xLdA 0, xGet 5 11, xLd 1, xLdA 0, xGet 5 0], tCv 68 4 3 2 6 (some [])),
  ([xLdA 0, xGet 5 0, xGet 0 1], tRet)]
/-- HandFingers.writeFingers()I -/
def i_129 : MI := (RX5, cX5_writeFingers, 3, yX5_writeFingers, (some .int), (7, 172), [])
def P_129 : List Nat := [0, 4, 11, 22, 26, 32, 34, 46, 49, 61, 65, 71, 84, 99, 102, 105, 111, 117]
noncomputable def B_129 : List Bk := [([xLdA 0], tCv 137 1 5 0 1 (some [])),
  ([xLdA 0, xC (.int 0), xPut 5 7 (.int), xC (.int 0), xSt 1], tGo 2),
  ([xLd 1, xLdA 0, xGet 5 0, xGet 0 1], tGe 17 3),
  ([xLd 1], tLe0 5 4),
  ([xLdA 0, xC (.int 32)], tCv 141 2 5 1 5 (some [])),
  ([xC (.int 0), xSt 2], tGo 6),
  ([xLd 2, xLdA 0, xGet 5 0, xGet 0 2, xLd 1], tCv 62 2 2 1 7 (some [])),
  ([], tGe 11 8),
  ([xLdA 0, xC (.int 48), xLdA 0, xGet 5 2, xLd 1, xLd 2], tCv 47 3 1 2 9 (some [])),
  ([xAdd], tCv 141 2 5 1 10 (some [])),
  ([xInc 2 1], tGo 6),
  ([xLd 1, xLdA 0, xGet 5 0, xGet 0 1, xC (.int 1), xSub], tGe 16 12),
  ([xLdA 0, xGet 5 0, xLdA 0, xGet 5 0, xGet 0 3, xLd 1], tCv 62 2 2 1 13 (some [])),
  ([], tCv 16 2 0 1 14 (some [])),
  ([], tEq0 16 15),
  ([xLdA 0, xC (.int 39)], tCv 141 2 5 1 16 (some [])),
  ([xInc 1 1], tGo 2),
  ([xLdA 0, xGet 5 7], tRet)]
/-- HandFingers.writtenByte(I)I -/
def i_130 : MI := (RX5, cX5_writtenByte, 2, yX5_writtenByte, (some .int), (6, 81), [])
def P_130 : List Nat := [0, 11, 14, 22, 30]
noncomputable def B_130 : List Bk := [([xLd 1, xC (.int 0), xLdA 0, xGet 5 7, xC (.int 1), xSub], tCs 142 3 3 1),
  ([], tNe0 3 2),
  ([], tThr "java/lang/IndexOutOfBoundsException"),
  ([xLdA 0, xGet 5 6, xLd 1], tCv 62 2 2 1 4 (some [])),
  ([], tRet)]
/-- HandFingers.needEvent(I)V -/
def i_131 : MI := (RX5, cX5_needEvent, 2, yX5_needEvent, none, (6, 81), [])
def P_131 : List Nat := [0, 14, 17, 25]
noncomputable def B_131 : List Bk := [([xLd 1, xC (.int 0), xLdA 0, xGet 5 0, xGet 0 1, xC (.int 1), xSub], tCs 142 3 3 1),
  ([], tNe0 3 2),
  ([], tThr "java/lang/IndexOutOfBoundsException"),
  ([], tRetV)]
/-- HandFingers.needNote(II)V -/
def i_132 : MI := (RX5, cX5_needNote, 3, yX5_needNote, none, (7, 102), [])
def P_132 : List Nat := [0, 5, 18, 23, 26, 34]
noncomputable def B_132 : List Bk := [([xLdA 0, xLd 1], tCv 131 2 5 1 1 (some [])),
  ([xLd 2, xC (.int 0), xLdA 0, xGet 5 0, xGet 0 2, xLd 1], tCv 62 2 2 1 2 (some [])),
  ([xC (.int 1), xSub], tCs 142 3 3 3),
  ([], tNe0 5 4),
  ([], tThr "java/lang/IndexOutOfBoundsException"),
  ([], tRetV)]
/-- HandFingers.needFinger(I)V -/
def i_133 : MI := (RX5, cX5_needFinger, 2, yX5_needFinger, none, (6, 81), [])
def P_133 : List Nat := [0, 6, 9, 17]
noncomputable def B_133 : List Bk := [([xLd 1, xC (.int 1), xC (.int 5)], tCs 142 3 3 1),
  ([], tNe0 3 2),
  ([], tThr "java/lang/IndexOutOfBoundsException"),
  ([], tRetV)]
/-- HandFingers.needWeight(I)V -/
def i_134 : MI := (RX5, cX5_needWeight, 2, yX5_needWeight, none, (6, 81), [])
def P_134 : List Nat := [0, 7, 10, 18]
noncomputable def B_134 : List Bk := [([xLd 1, xC (.int 0), xC (.int 9)], tCs 142 3 3 1),
  ([], tNe0 3 2),
  ([], tThr "java/lang/IndexOutOfBoundsException"),
  ([], tRetV)]
/-- HandFingers.needSlot(I)V -/
def i_135 : MI := (RX5, cX5_needSlot, 2, yX5_needSlot, none, (6, 81), [])
def P_135 : List Nat := [0, 6, 9, 17]
noncomputable def B_135 : List Bk := [([xLd 1, xC (.int 0), xC (.int 1)], tCs 142 3 3 1),
  ([], tNe0 3 2),
  ([], tThr "java/lang/IndexOutOfBoundsException"),
  ([], tRetV)]
/-- HandFingers.needTransposable(I)V -/
def i_136 : MI := (RX5, cX5_needTransposable, 2, yX5_needTransposable, none, (6, 86), [])
def P_136 : List Nat := [0, 8, 11, 19, 22, 30]
noncomputable def B_136 : List Bk := [([xLd 1, xC (.int (-87)), xC (.int 87)], tCs 142 3 3 1),
  ([], tEq0 4 2),
  ([xLdA 0, xGet 5 0, xLd 1], tCv 8 2 0 1 3 (some [])),
  ([], tNe0 5 4),
  ([], tThr "java/lang/IllegalArgumentException"),
  ([], tRetV)]
/-- HandFingers.needFingering()V -/
def i_137 : MI := (RX5, cX5_needFingering, 1, yX5_needFingering, none, (6, 152), [])
def P_137 : List Nat := [0, 11, 22, 30]
noncomputable def B_137 : List Bk := [([xLdA 0, xGet 5 2, xLdA 0, xGet 5 0], tCv 30 3 1 1 1 (some [])),
  ([xLdA 0, xGet 5 2, xGet 1 2, xC (.int (-1))], tNe 3 2),
  ([], tThr "java/util/NoSuchElementException"),
  ([], tRetV)]
/-- HandFingers.remember()V -/
def i_138 : MI := (RX5, cX5_remember, 1, yX5_remember, none, (5, 111), [])
def P_138 : List Nat := [0, 9, 32, 55, 72]
noncomputable def B_138 : List Bk := [([xLdA 0, xGet 5 10, xC (.int 8)], tNe 2 1),
  ([xLdA 0, xLdA 0, xGet 5 9, xC (.int 1), xAdd, xC (.int 8), xRem, xPut 5 9 (.int), xLdA 0, xDup, xGet 5 10, xC (.int 1), xSub, xPut 5 10 (.int)], tGo 2),
  ([xLdA 0, xGet 5 8, xLdA 0, xGet 5 9, xLdA 0, xGet 5 10, xAdd, xC (.int 8), xRem, xLdA 0, xGet 5 0], tCv 67 4 3 2 3 (some [])),
  ([xLdA 0, xDup, xGet 5 10, xC (.int 1), xAdd, xPut 5 10 (.int), xLdA 0, xGet 5 2], tCv 29 1 1 0 4 (some [])),
  ([], tRetV)]
/-- HandFingers.toldEventCost(I)I -/
def i_139 : MI := (RX5, cX5_toldEventCost, 2, yX5_toldEventCost, (some .int), (3, 76), [])
def P_139 : List Nat := [0, 14, 18]
noncomputable def B_139 : List Bk := [([xLdA 0, xGet 5 0, xLd 1, xLdA 0, xGet 5 5, xLd 1, xC (.int 0)], tCs 146 2 2 1),
  ([xC (.int 0)], tCv 19 10 0 4 2 (some [])),
  ([], tRet)]
/-- HandFingers.toldPassageCost(I)I -/
def i_140 : MI := (RX5, cX5_toldPassageCost, 3, yX5_toldPassageCost, (some .int), (4, 102), [])
def P_140 : List Nat := [0, 4, 6, 19, 39, 44, 47]
noncomputable def B_140 : List Bk := [([xLd 1], tNe0 2 1),
  ([xC (.int 0)], tRet),
  ([xLdA 0, xGet 5 0, xGet 0 3, xLd 1, xC (.int 1), xSub], tCv 62 2 2 1 3 (some [])),
  ([xSt 2, xLdA 0, xGet 5 0, xLd 1, xC (.int 1), xSub, xLd 2, xLdA 0, xGet 5 5, xLd 1, xC (.int 1), xSub, xC (.int 0)], tCs 146 2 2 4),
  ([xLd 1, xC (.int 0)], tCs 146 2 2 5),
  ([], tCv 22 11 0 5 6 (some [])),
  ([], tRet)]
/-- HandFingers.write(I)V -/
def i_141 : MI := (RX5, cX5_write, 2, yX5_write, none, (1, 22), [])
def P_141 : List Nat := [0, 12]
noncomputable def B_141 : List Bk := [([xLdA 0, xGet 5 6, xLdA 0, xGet 5 7, xLd 1], tCv 63 3 2 2 1 (some [])),
  ([xLdA 0, xDup, xGet 5 7, xC (.int 1), xAdd, xPut 5 7 (.int)], tRetV)]
/-- HandFingers.isWithin(III)Z -/
def i_142 : MI := (RX5, cX5_isWithin, 3, yX5_isWithin, (some .boolean), (0, 0), [])
def P_142 : List Nat := [0, 5, 10, 14, 15]
noncomputable def B_142 : List Bk := [([xLd 0, xLd 1], tLt 3 1),
  ([xLd 0, xLd 2], tGt 3 2),
  ([xC (.int 1)], tGo 4),
  ([xC (.int 0)], tGo 4),
  ([], tRetZ)]
/-- HandFingers.areKeys(III)Z -/
def i_143 : MI := (RX5, cX5_areKeys, 3, yX5_areKeys, (some .boolean), (1, 22), [])
def P_143 : List Nat := [0, 8, 11, 13, 17, 21, 25, 26, 27, 36, 39, 43, 52, 55, 59, 60]
noncomputable def B_143 : List Bk := [([xLd 0, xC (.int 21), xC (.int 108)], tCs 142 3 3 1),
  ([], tNe0 3 2),
  ([xC (.int 0)], tRetZ),
  ([xLd 1], tNe0 8 4),
  ([xLd 2], tNe0 6 5),
  ([xC (.int 1)], tGo 7),
  ([xC (.int 0)], tGo 7),
  ([], tRetZ),
  ([xLd 1, xLd 0, xC (.int 1), xAdd, xC (.int 108)], tCs 142 3 3 9),
  ([], tEq0 14 10),
  ([xLd 2], tEq0 13 11),
  ([xLd 2, xLd 1, xC (.int 1), xAdd, xC (.int 108)], tCs 142 3 3 12),
  ([], tEq0 14 13),
  ([xC (.int 1)], tGo 15),
  ([xC (.int 0)], tGo 15),
  ([], tRetZ)]
/-- HandFingers.isBlack(I)Z -/
def i_144 : MI := (RX5, cX5_isBlack, 2, yX5_isBlack, (some .boolean), (0, 0), [])
def P_144 : List Nat := [0, 10, 15, 21, 27, 33, 37, 38]
noncomputable def B_144 : List Bk := [([xLd 0, xC (.int 12), xRem, xSt 1, xLd 1, xC (.int 1)], tEq 5 1),
  ([xLd 1, xC (.int 3)], tEq 5 2),
  ([xLd 1, xC (.int 6)], tEq 5 3),
  ([xLd 1, xC (.int 8)], tEq 5 4),
  ([xLd 1, xC (.int 10)], tNe 6 5),
  ([xC (.int 1)], tGo 7),
  ([xC (.int 0)], tGo 7),
  ([], tRetZ)]
/-- HandFingers.bitOf(I)I -/
def i_145 : MI := (RX5, cX5_bitOf, 1, yX5_bitOf, (some .int), (0, 0), [])
def P_145 : List Nat := [0, 5, 10, 18, 19]
noncomputable def B_145 : List Bk := [([xLd 0, xC (.int 1)], tLt 3 1),
  ([xLd 0, xC (.int 5)], tGt 3 2),
  ([xC (.int 1), xLd 0, xC (.int 1), xSub, xShl], tGo 4),
  ([xC (.int 0)], tGo 4),
  ([], tRet)]
/-- HandFingers.placeOf(II)I -/
def i_146 : MI := (RX5, cX5_placeOf, 2, yX5_placeOf, (some .int), (0, 0), [])
def P_146 : List Nat := [0]
noncomputable def B_146 : List Bk := [([xLd 0, xC (.int 3), xMul, xLd 1, xAdd], tRet)]
/-- HandFingers.pairOf(II)I -/
def i_147 : MI := (RX5, cX5_pairOf, 2, yX5_pairOf, (some .int), (0, 0), [])
def P_147 : List Nat := [0]
noncomputable def B_147 : List Bk := [([xLd 0, xC (.int 1), xSub, xC (.int 5), xMul, xLd 1, xAdd, xC (.int 1), xSub], tRet)]
/-- HandFingers.sumOf(II)I -/
def i_148 : MI := (RX5, cX5_sumOf, 2, yX5_sumOf, (some .int), (0, 0), [])
def P_148 : List Nat := [0, 5, 10, 14, 17]
noncomputable def B_148 : List Bk := [([xLd 0, xC (.int (-1))], tEq 2 1),
  ([xLd 1, xC (.int (-1))], tNe 3 2),
  ([xC (.int (-1))], tGo 4),
  ([xLd 0, xLd 1, xAdd], tGo 4),
  ([], tRet)]
/-- HandFingers.lesserOf(II)I -/
def i_149 : MI := (RX5, cX5_lesserOf, 2, yX5_lesserOf, (some .int), (1, 21), [])
def P_149 : List Nat := [0, 5, 10, 15, 19, 20, 21]
noncomputable def B_149 : List Bk := [([xLd 0, xC (.int (-1))], tEq 2 1),
  ([xLd 1, xC (.int (-1))], tNe 6 2),
  ([xLd 0, xC (.int (-1))], tNe 4 3),
  ([xLd 1], tGo 5),
  ([xLd 0], tGo 5),
  ([], tRet),
  ([xLd 0, xLd 1, xMin], tRet)]
/-- HandFingers.bytesIn(I)I -/
def i_150 : MI := (RX5, cX5_bytesIn, 3, yX5_bytesIn, (some .int), (0, 0), [])
def P_150 : List Nat := [0, 5, 9, 20, 24, 25, 33]
noncomputable def B_150 : List Bk := [([xC (.int 0), xSt 1, xC (.int 24), xSt 2], tGo 1),
  ([xLd 2], tLt0 6 2),
  ([xLd 1, xLd 0, xLd 2, xUshr, xC (.int 255), xAnd], tEq0 4 3),
  ([xC (.int 1)], tGo 5),
  ([xC (.int 0)], tGo 5),
  ([xAdd, xSt 1, xInc 2 (-8)], tGo 1),
  ([xLd 1], tRet)]
/-- HandFingersModel.<init>()V -/
def i_151 : MI := (RX6, cX6_init, 1, yX6_init, none, (4, 92), [])
def P_151 : List Nat := [0, 168]
noncomputable def B_151 : List Bk := [([xLdA 0, xObj, xLdA 0, xC (.int 362), xNewA 0, xPut 6 0 (.array .int), xLdA 0, xC (.int 362), xNewA 0, xPut 6 1 (.array .int), xLdA 0, xC (.int 362), xNewA 0, xPut 6 2 (.array .int), xLdA 0, xC (.int 2896), xNewA 0, xPut 6 3 (.array .int), xLdA 0, xC (.int 724), xNewA 0, xPut 6 4 (.array .int), xLdA 0, xC (.int 2), xNewA 3, xPut 6 5 (.array .boolean), xLdA 0, xC (.int 600), xNewA 0, xPut 6 8 (.array .int), xLdA 0, xC (.int (-1)), xPut 6 16 (.int), xLdA 0, xC (.int 3), xNewA 0, xPut 6 17 (.array .int), xLdA 0, xC (.int 400), xNewA 0, xPut 6 18 (.array .int), xLdA 0, xC (.int 400), xNewA 0, xPut 6 19 (.array .int), xLdA 0, xC (.int 40), xNewA 0, xPut 6 20 (.array .int), xLdA 0, xC (.int 40), xNewA 0, xPut 6 21 (.array .int), xLdA 0, xC (.int 400), xNewA 0, xPut 6 22 (.array .int), xLdA 0, xC (.int 400), xNewA 0, xPut 6 23 (.array .int), xLdA 0, xC (.int 400), xNewA 1, xPut 6 24 (.array .long), xLdA 0, xC (.int 400), xNewA 1, xPut 6 25 (.array .long), xLdA 0, xC (.int 40), xNewA 0, xPut 6 26 (.array .int), xLdA 0, xC (.int 250), xNewA 0, xPut 6 28 (.array .int), xLdA 0], tCv 154 2 6 0 1 (some [])),
  ([], tRetV)]
/-- HandFingersModel.putsWeights(IIIII)V -/
def i_152 : MI := (RX6, cX6_putsWeights, 6, yX6_putsWeights, none, (0, 0), [])
def P_152 : List Nat := [0]
noncomputable def B_152 : List Bk := [([xLdA 0, xGet 6 0, xC (.int 2), xLdA 0, xGet 6 10, xAdd, xLd 1, xAst, xLdA 0, xGet 6 0, xC (.int 2), xLdA 0, xGet 6 10, xAdd, xC (.int 1), xAdd, xLd 2, xAst, xLdA 0, xGet 6 0, xC (.int 2), xLdA 0, xGet 6 10, xAdd, xC (.int 2), xAdd, xLd 3, xAst, xLdA 0, xGet 6 0, xC (.int 2), xLdA 0, xGet 6 10, xAdd, xC (.int 3), xAdd, xLd 4, xAst, xLdA 0, xGet 6 0, xC (.int 2), xLdA 0, xGet 6 10, xAdd, xC (.int 4), xAdd, xLd 5, xAst], tRetV)]
/-- HandFingersModel.putsSpan(IIIII)V -/
def i_153 : MI := (RX6, cX6_putsSpan, 7, yX6_putsSpan, none, (2, 45), [])
def P_153 : List Nat := [0, 5]
noncomputable def B_153 : List Bk := [([xLd 1, xLd 2], tCs 155 5 2 1),
  ([xSt 6, xLdA 0, xGet 6 0, xLd 6, xLd 3, xAst, xLdA 0, xGet 6 0, xLd 6, xC (.int 1), xAdd, xLd 4, xAst, xLdA 0, xGet 6 0, xLd 6, xC (.int 2), xAdd, xLd 5, xAst], tRetV)]
/-- HandFingersModel.begins()V -/
def i_154 : MI := (RX6, cX6_begins, 2, yX6_begins, none, (3, 71), [])
def P_154 : List Nat := [0, 2, 9, 22, 43, 57, 67, 78, 89, 101, 110, 120, 131, 140, 150, 159]
noncomputable def B_154 : List Bk := [([xC (.int 0), xSt 1], tGo 1),
  ([xLd 1, xC (.int 362)], tGe 3 2),
  ([xLdA 0, xGet 6 0, xLd 1, xC (.int 0), xAst, xInc 1 1], tGo 1),
  ([xLdA 0, xGet 6 0, xC (.int 1), xC (.int 1), xAst, xLdA 0, xC (.int 0), xPut 6 10 (.int), xLdA 0, xC (.int 2), xC (.int 5), xC (.int 3), xC (.int 1), xC (.int 2)], tCv 152 6 6 5 4 (some [])),
  ([xLdA 0, xC (.int 5), xPut 6 10 (.int), xLdA 0, xC (.int 4), xC (.int 1), xC (.int 2), xC (.int 4), xC (.int 5)], tCv 152 6 6 5 5 (some [])),
  ([xLdA 0, xC (.int 1), xC (.int 2), xC (.int 1), xC (.int 5), xC (.int 8)], tCv 153 7 6 5 6 (some [])),
  ([xLdA 0, xC (.int 1), xC (.int 3), xC (.int 3), xC (.int 7), xC (.int 10)], tCv 153 7 6 5 7 (some [])),
  ([xLdA 0, xC (.int 1), xC (.int 4), xC (.int 5), xC (.int 9), xC (.int 12)], tCv 153 7 6 5 8 (some [])),
  ([xLdA 0, xC (.int 1), xC (.int 5), xC (.int 7), xC (.int 11), xC (.int 14)], tCv 153 7 6 5 9 (some [])),
  ([xLdA 0, xC (.int 2), xC (.int 3), xC (.int 1), xC (.int 2), xC (.int 5)], tCv 153 7 6 5 10 (some [])),
  ([xLdA 0, xC (.int 2), xC (.int 4), xC (.int 3), xC (.int 4), xC (.int 7)], tCv 153 7 6 5 11 (some [])),
  ([xLdA 0, xC (.int 2), xC (.int 5), xC (.int 5), xC (.int 7), xC (.int 10)], tCv 153 7 6 5 12 (some [])),
  ([xLdA 0, xC (.int 3), xC (.int 4), xC (.int 1), xC (.int 2), xC (.int 4)], tCv 153 7 6 5 13 (some [])),
  ([xLdA 0, xC (.int 3), xC (.int 5), xC (.int 3), xC (.int 4), xC (.int 7)], tCv 153 7 6 5 14 (some [])),
  ([xLdA 0, xC (.int 4), xC (.int 5), xC (.int 1), xC (.int 2), xC (.int 5)], tCv 153 7 6 5 15 (some [])),
  ([], tRetV)]
/-- HandFingersModel.pairOf(II)I -/
def i_155 : MI := (RX6, cX6_pairOf, 5, yX6_pairOf, (some .int), (1, 21), [])
def P_155 : List Nat := [0, 17, 21, 26, 30, 35, 40, 42]
noncomputable def B_155 : List Bk := [([xLd 0, xLd 1, xMin, xSt 2, xLd 0, xLd 1, xMax, xSt 3, xLd 2, xC (.int 1)], tNe 2 1),
  ([xC (.int 0)], tGo 7),
  ([xLd 2, xC (.int 2)], tNe 4 3),
  ([xC (.int 4)], tGo 7),
  ([xLd 2, xC (.int 3)], tNe 6 5),
  ([xC (.int 7)], tGo 7),
  ([xC (.int 9)], tGo 7),
  ([xSt 4, xC (.int 12), xC (.int 3), xLd 4, xLd 3, xAdd, xLd 2, xSub, xC (.int 1), xSub, xMul, xAdd], tRet)]
/-- HandFingersModel.thrown()I -/
def i_156 : MI := (RX6, cX6_thrown, 1, yX6_thrown, (some .int), (0, 0), [])
def P_156 : List Nat := [0]
noncomputable def B_156 : List Bk := [([xLdA 0, xGet 6 7], tRet)]
/-- HandFingersModel.isIn(III)Z -/
def i_157 : MI := (RX6, cX6_isIn, 3, yX6_isIn, (some .boolean), (0, 0), [])
def P_157 : List Nat := [0, 5, 10, 14, 15]
noncomputable def B_157 : List Bk := [([xLd 0, xLd 1], tLt 3 1),
  ([xLd 0, xLd 2], tGt 3 2),
  ([xC (.int 1)], tGo 4),
  ([xC (.int 0)], tGo 4),
  ([], tRetZ)]
/-- HandFingersModel.copies([II[II)V -/
def i_158 : MI := (RX6, cX6_copies, 5, yX6_copies, none, (0, 0), [])
def P_158 : List Nat := [0, 3, 11, 29]
noncomputable def B_158 : List Bk := [([xC (.int 0), xSt 4], tGo 1),
  ([xLd 4, xC (.int 362)], tGe 3 2),
  ([xLdA 0, xLd 1, xLd 4, xAdd, xLdA 2, xLd 3, xLd 4, xAdd, xAld, xAst, xInc 4 1], tGo 1),
  ([], tRetV)]
/-- HandFingersModel.keeps([I)V -/
def i_159 : MI := (RX6, cX6_keeps, 3, yX6_keeps, none, (1, 24), [])
def P_159 : List Nat := [0, 9, 11, 18, 40, 50, 67]
noncomputable def B_159 : List Bk := [([xLdA 0, xGet 6 6, xC (.int 8)], tNe 5 1),
  ([xC (.int 0), xSt 2], tGo 2),
  ([xLd 2, xC (.int 2534)], tGe 4 3),
  ([xLdA 0, xGet 6 3, xLd 2, xLdA 0, xGet 6 3, xLd 2, xC (.int 362), xAdd, xAld, xAst, xInc 2 1], tGo 2),
  ([xLdA 0, xDup, xGet 6 6, xC (.int 1), xSub, xPut 6 6 (.int)], tGo 5),
  ([xLdA 0, xGet 6 3, xC (.int 362), xLdA 0, xGet 6 6, xMul, xLdA 1, xC (.int 0)], tCs 158 5 4 6),
  ([xLdA 0, xDup, xGet 6 6, xC (.int 1), xAdd, xPut 6 6 (.int)], tRetV)]
/-- HandFingersModel.undo()I -/
def i_160 : MI := (RX6, cX6_undo, 1, yX6_undo, (some .int), (1, 24), [])
def P_160 : List Nat := [0, 8, 12, 13, 23, 25, 55]
noncomputable def B_160 : List Bk := [([xLdA 0, xLdA 0, xGet 6 6], tNe0 2 1),
  ([xC (.int 1)], tGo 3),
  ([xC (.int 0)], tGo 3),
  ([xPut 6 7 (.int), xLdA 0, xGet 6 7], tLe0 5 4),
  ([xC (.int 0)], tRet),
  ([xLdA 0, xDup, xGet 6 6, xC (.int 1), xSub, xPut 6 6 (.int), xLdA 0, xGet 6 0, xC (.int 0), xLdA 0, xGet 6 3, xC (.int 362), xLdA 0, xGet 6 6, xMul], tCs 158 5 4 6),
  ([xLdA 0, xGet 6 6], tRet)]
/-- HandFingersModel.save(I)V -/
def i_161 : MI := (RX6, cX6_save, 2, yX6_save, none, (1, 24), [])
def P_161 : List Nat := [0, 7, 10, 14, 15, 25, 26, 43]
noncomputable def B_161 : List Bk := [([xLdA 0, xLd 1, xC (.int 0), xC (.int 1)], tCs 157 3 3 1),
  ([], tEq0 3 2),
  ([xC (.int 0)], tGo 4),
  ([xC (.int 1)], tGo 4),
  ([xPut 6 7 (.int), xLdA 0, xGet 6 7], tLe0 6 5),
  ([], tRetV),
  ([xLdA 0, xGet 6 4, xC (.int 362), xLd 1, xMul, xLdA 0, xGet 6 0, xC (.int 0)], tCs 158 5 4 7),
  ([xLdA 0, xGet 6 5, xLd 1, xC (.int 1), xZst], tRetV)]
/-- HandFingersModel.restore(I)I -/
def i_162 : MI := (RX6, cX6_restore, 2, yX6_restore, (some .int), (2, 46), [])
def P_162 : List Nat := [0, 7, 10, 14, 23, 27, 28, 38, 40, 48, 65, 69]
noncomputable def B_162 : List Bk := [([xLdA 0, xLd 1, xC (.int 0), xC (.int 1)], tCs 157 3 3 1),
  ([], tNe0 3 2),
  ([xC (.int 1)], tGo 6),
  ([xLdA 0, xGet 6 5, xLd 1, xZld], tEq0 5 4),
  ([xC (.int 0)], tGo 6),
  ([xC (.int 2)], tGo 6),
  ([xPut 6 7 (.int), xLdA 0, xGet 6 7], tLe0 8 7),
  ([xC (.int 0)], tRet),
  ([xLdA 0, xLdA 0, xGet 6 0], tCv 159 3 6 1 9 (some [])),
  ([xLdA 0, xGet 6 0, xC (.int 0), xLdA 0, xGet 6 4, xC (.int 362), xLd 1, xMul], tCs 158 5 4 10),
  ([xLdA 0], tCv 182 1 6 0 11 (some [])),
  ([], tRet)]
/-- HandFingersModel.byteOf(IIIIII)I -/
def i_163 : MI := (RX6, cX6_byteOf, 7, yX6_byteOf, (some .int), (0, 0), [])
def P_163 : List Nat := [0, 5, 9, 15, 19, 25, 29, 35, 40, 42]
noncomputable def B_163 : List Bk := [([xLd 0, xC (.int 4)], tGe 2 1),
  ([xLd 1], tGo 9),
  ([xLd 0, xC (.int 8)], tGe 4 3),
  ([xLd 2], tGo 9),
  ([xLd 0, xC (.int 12)], tGe 6 5),
  ([xLd 3], tGo 9),
  ([xLd 0, xC (.int 16)], tGe 8 7),
  ([xLd 4], tGo 9),
  ([xLd 5], tGo 9),
  ([xSt 6, xLd 6, xC (.int 24), xC (.int 8), xLd 0, xC (.int 4), xRem, xMul, xSub, xShr, xC (.int 255), xAnd], tRet)]
/-- HandFingersModel.append(IIIII)I -/
def i_164 : MI := (RX6, cX6_append, 9, yX6_append, (some .int), (1, 26), [])
def P_164 : List Nat := [0, 6, 13, 27, 30, 34, 35, 44, 58, 62, 63, 73, 75, 78, 85, 97, 104, 107, 128, 134]
noncomputable def B_164 : List Bk := [([xC (.int 0), xSt 6, xC (.int 0), xSt 7], tGo 1),
  ([xLd 7, xC (.int 20)], tGe 7 2),
  ([xLd 6, xLd 7, xLd 1, xLd 2, xLd 3, xLd 4, xLd 5], tCs 163 7 6 3),
  ([], tNe0 5 4),
  ([xC (.int 0)], tGo 6),
  ([xC (.int 1)], tGo 6),
  ([xAdd, xSt 6, xInc 7 1], tGo 1),
  ([xLdA 0, xLdA 0, xGet 6 9, xLd 6, xAdd, xC (.int 600)], tLe 9 8),
  ([xC (.int 1)], tGo 10),
  ([xC (.int 0)], tGo 10),
  ([xPut 6 7 (.int), xLdA 0, xGet 6 7], tLe0 12 11),
  ([xC (.int 0)], tRet),
  ([xC (.int 0), xSt 7], tGo 13),
  ([xLd 7, xC (.int 20)], tGe 19 14),
  ([xLd 7, xLd 1, xLd 2, xLd 3, xLd 4, xLd 5], tCs 163 7 6 15),
  ([xSt 8, xLd 8], tNe0 17 16),
  ([], tGo 18),
  ([xLdA 0, xGet 6 8, xLdA 0, xGet 6 9, xLd 8, xAst, xLdA 0, xDup, xGet 6 9, xC (.int 1), xAdd, xPut 6 9 (.int)], tGo 18),
  ([xInc 7 1], tGo 13),
  ([xLdA 0, xGet 6 9], tRet)]
/-- HandFingersModel.see(I)I -/
def i_165 : MI := (RX6, cX6_see, 2, yX6_see, (some .int), (0, 0), [])
def P_165 : List Nat := [0, 8, 17, 18]
noncomputable def B_165 : List Bk := [([xLd 1, xLdA 0, xGet 6 9], tGe 2 1),
  ([xLdA 0, xGet 6 8, xLd 1, xAld], tGo 3),
  ([xC (.int (-1))], tGo 3),
  ([], tRet)]
/-- HandFingersModel.isLetter(I)Z -/
def i_166 : MI := (RX6, cX6_isLetter, 2, yX6_isLetter, (some .boolean), (1, 22), [])
def P_166 : List Nat := [0, 5, 12]
noncomputable def B_166 : List Bk := [([xLdA 0, xLd 1], tCv 165 2 6 1 1 (some [])),
  ([xC (.int 97), xC (.int 122)], tCs 157 3 3 2),
  ([], tRetZ)]
/-- HandFingersModel.isDigit(I)Z -/
def i_167 : MI := (RX6, cX6_isDigit, 2, yX6_isDigit, (some .boolean), (1, 22), [])
def P_167 : List Nat := [0, 5, 12]
noncomputable def B_167 : List Bk := [([xLdA 0, xLd 1], tCv 165 2 6 1 1 (some [])),
  ([xC (.int 48), xC (.int 57)], tCs 157 3 3 2),
  ([], tRetZ)]
/-- HandFingersModel.next()V -/
def i_168 : MI := (RX6, cX6_next, 1, yX6_next, none, (2, 43), [])
def P_168 : List Nat := [0, 8, 16, 21, 34, 58, 66, 74, 77, 85, 88, 101, 109, 117, 120, 128, 131, 150, 173, 181, 196]
noncomputable def B_168 : List Bk := [([xLdA 0, xLdA 0, xGet 6 11, xPut 6 10 (.int)], tGo 1),
  ([xLdA 0, xLdA 0, xGet 6 10], tCv 165 2 6 1 2 (some [])),
  ([xC (.int 32)], tNe 4 3),
  ([xLdA 0, xDup, xGet 6 10, xC (.int 1), xAdd, xPut 6 10 (.int)], tGo 1),
  ([xLdA 0, xLdA 0, xGet 6 10, xPut 6 11 (.int), xLdA 0, xC (.int 0), xPut 6 13 (.int), xLdA 0, xGet 6 10, xLdA 0, xGet 6 9], tLt 6 5),
  ([xLdA 0, xC (.int 3), xPut 6 12 (.int)], tGo 20),
  ([xLdA 0, xLdA 0, xGet 6 10], tCv 166 2 6 1 7 (some [])),
  ([], tEq0 12 8),
  ([xLdA 0, xLdA 0, xGet 6 11], tCv 166 2 6 1 9 (some [])),
  ([], tEq0 11 10),
  ([xLdA 0, xDup, xGet 6 11, xC (.int 1), xAdd, xPut 6 11 (.int)], tGo 8),
  ([xLdA 0, xC (.int 0), xPut 6 12 (.int)], tGo 20),
  ([xLdA 0, xLdA 0, xGet 6 10], tCv 167 2 6 1 13 (some [])),
  ([], tEq0 19 14),
  ([xLdA 0, xLdA 0, xGet 6 11], tCv 167 2 6 1 15 (some [])),
  ([], tEq0 18 16),
  ([xLdA 0, xC (.int 1000), xC (.int 10), xLdA 0, xGet 6 13, xMul, xLdA 0, xLdA 0, xGet 6 11], tCv 165 2 6 1 17 (some [])),
  ([xAdd, xC (.int 48), xSub, xMin, xPut 6 13 (.int), xLdA 0, xDup, xGet 6 11, xC (.int 1), xAdd, xPut 6 11 (.int)], tGo 14),
  ([xLdA 0, xC (.int 1), xPut 6 12 (.int)], tGo 20),
  ([xLdA 0, xDup, xGet 6 11, xC (.int 1), xAdd, xPut 6 11 (.int), xLdA 0, xC (.int 2), xPut 6 12 (.int)], tGo 20),
  ([], tRetV)]
/-- HandFingersModel.starts()V -/
def i_169 : MI := (RX6, cX6_starts, 1, yX6_starts, none, (3, 63), [])
def P_169 : List Nat := [0, 19]
noncomputable def B_169 : List Bk := [([xLdA 0, xC (.int 0), xPut 6 7 (.int), xLdA 0, xC (.int 0), xPut 6 11 (.int), xLdA 0, xC (.int 0), xPut 6 14 (.int), xLdA 0], tCv 168 1 6 0 1 (some [])),
  ([], tRetV)]
/-- HandFingersModel.ends()V -/
def i_170 : MI := (RX6, cX6_ends, 1, yX6_ends, none, (0, 0), [])
def P_170 : List Nat := [0, 8, 12, 16]
noncomputable def B_170 : List Bk := [([xLdA 0, xLdA 0, xGet 6 14], tNe0 2 1),
  ([xC (.int (-1))], tGo 3),
  ([xLdA 0, xGet 6 15], tGo 3),
  ([xPut 6 16 (.int), xLdA 0, xC (.int 0), xPut 6 9 (.int)], tRetV)]
/-- HandFingersModel.isWord(Ljava/lang/String;)Z -/
def i_171 : MI := (RX6, cX6_isWord, 3, yX6_isWord, (some .boolean), (4, 85), [])
def P_171 : List Nat := [0, 7, 14, 27, 30, 32, 34, 39, 42, 58, 61, 63, 69]
noncomputable def B_171 : List Bk := [([xLdA 0, xGet 6 14], tNe0 4 1),
  ([xLdA 0, xGet 6 12], tNe0 4 2),
  ([xLdA 0, xGet 6 11, xLdA 0, xGet 6 10, xSub, xLdA 1], tCx 294 1 0 3),
  ([], tEq 5 4),
  ([xC (.int 0)], tRetZ),
  ([xC (.int 0), xSt 2], tGo 6),
  ([xLd 2, xLdA 1], tCx 294 1 0 7),
  ([], tGe 12 8),
  ([xLdA 0, xGet 6 8, xLdA 0, xGet 6 10, xLd 2, xAdd, xAld, xLdA 1, xLd 2], tCx 295 2 1 9),
  ([], tEq 11 10),
  ([xC (.int 0)], tRetZ),
  ([xInc 2 1], tGo 6),
  ([xC (.int 1)], tRetZ)]
/-- HandFingersModel.fails(I)V -/
def i_172 : MI := (RX6, cX6_fails, 2, yX6_fails, none, (0, 0), [])
def P_172 : List Nat := [0, 7, 8]
noncomputable def B_172 : List Bk := [([xLdA 0, xGet 6 14], tEq0 2 1),
  ([], tRetV),
  ([xLdA 0, xLd 1, xPut 6 14 (.int), xLdA 0, xLdA 0, xGet 6 10, xPut 6 15 (.int)], tRetV)]
/-- HandFingersModel.must(Z)V -/
def i_173 : MI := (RX6, cX6_must, 2, yX6_must, none, (3, 63), [])
def P_173 : List Nat := [0, 4, 10, 17, 21]
noncomputable def B_173 : List Bk := [([xLd 1], tNe0 2 1),
  ([xLdA 0, xC (.int (-2))], tCv 172 2 6 1 2 (some [])),
  ([xLdA 0, xGet 6 14], tNe0 4 3),
  ([xLdA 0], tCv 168 1 6 0 4 (some [])),
  ([], tRetV)]
/-- HandFingersModel.mustEnd()V -/
def i_174 : MI := (RX6, cX6_mustEnd, 1, yX6_mustEnd, none, (4, 84), [])
def P_174 : List Nat := [0, 9, 17, 22, 26, 27, 30]
noncomputable def B_174 : List Bk := [([xLdA 0, xLdA 0, xGet 6 12, xC (.int 2)], tNe 4 1),
  ([xLdA 0, xLdA 0, xGet 6 10], tCv 165 2 6 1 2 (some [])),
  ([xC (.int 59)], tNe 4 3),
  ([xC (.int 1)], tGo 5),
  ([xC (.int 0)], tGo 5),
  ([], tCv 173 2 6 1 6 (some [])),
  ([], tRetV)]
/-- HandFingersModel.takes(III)I -/
def i_175 : MI := (RX6, cX6_takes, 5, yX6_takes, (some .int), (3, 63), [])
def P_175 : List Nat := [0, 7, 15, 21, 28, 37, 40, 46, 53, 61, 67, 74, 81, 82, 91, 95]
noncomputable def B_175 : List Bk := [([xLdA 0, xGet 6 14], tNe0 3 1),
  ([xLdA 0, xGet 6 12, xC (.int 1)], tEq 3 2),
  ([xLdA 0, xC (.int (-2))], tCv 172 2 6 1 3 (some [])),
  ([xLdA 0, xGet 6 14], tNe0 7 4),
  ([xLdA 0, xGet 6 13, xLd 1, xLd 2], tCs 157 3 3 5),
  ([], tNe0 7 6),
  ([xLdA 0, xC (.int (-3))], tCv 172 2 6 1 7 (some [])),
  ([xLdA 0, xGet 6 14], tNe0 10 8),
  ([xLdA 0, xGet 6 13, xLd 3], tGe 10 9),
  ([xLdA 0, xC (.int (-4))], tCv 172 2 6 1 10 (some [])),
  ([xLdA 0, xGet 6 14], tNe0 12 11),
  ([xLdA 0, xGet 6 13], tGo 13),
  ([xC (.int 0)], tGo 13),
  ([xSt 4, xLdA 0, xGet 6 14], tNe0 15 14),
  ([xLdA 0], tCv 168 1 6 0 15 (some [])),
  ([xLd 4], tRet)]
/-- HandFingersModel.nameOf(I)Ljava/lang/String; -/
def i_176 : MI := (RX6, cX6_nameOf, 1, yX6_nameOf, (some (.object "java/lang/String")), (0, 0), [])
def P_176 : List Nat := [0, 52, 55, 58, 61, 64, 67, 70, 73, 76, 79]
noncomputable def B_176 : List Bk := [([xLd 0], tSw 10 [(0, 1), (1, 2), (2, 3), (3, 4), (4, 5), (5, 6), (6, 7), (7, 8), (8, 9)]),
  ([xC (.ref 11)], tRetA),
  ([xC (.ref 12)], tRetA),
  ([xC (.ref 13)], tRetA),
  ([xC (.ref 14)], tRetA),
  ([xC (.ref 15)], tRetA),
  ([xC (.ref 16)], tRetA),
  ([xC (.ref 17)], tRetA),
  ([xC (.ref 18)], tRetA),
  ([xC (.ref 19)], tRetA),
  ([xC (.ref 20)], tRetA)]
/-- HandFingersModel.readsWeight()V -/
def i_177 : MI := (RX6, cX6_readsWeight, 3, yX6_readsWeight, none, (5, 107), [])
def P_177 : List Nat := [0, 5, 7, 13, 18, 21, 24, 30, 37, 41, 42, 45, 53, 58, 65, 74]
noncomputable def B_177 : List Bk := [([xLdA 0, xC (.int 1)], tCv 173 2 6 1 1 (some [])),
  ([xC (.int 0), xSt 1], tGo 2),
  ([xLd 1, xC (.int 10)], tGe 7 3),
  ([xLdA 0, xLd 1], tCs 176 1 1 4),
  ([], tCv 171 3 6 1 5 (some [])),
  ([], tNe0 7 6),
  ([xInc 1 1], tGo 2),
  ([xLdA 0, xLd 1, xC (.int 10)], tGe 9 8),
  ([xC (.int 1)], tGo 10),
  ([xC (.int 0)], tGo 10),
  ([], tCv 173 2 6 1 11 (some [])),
  ([xLdA 0, xC (.int 0), xC (.int 99), xC (.int 0)], tCv 175 5 6 3 12 (some [])),
  ([xSt 2, xLdA 0], tCv 174 1 6 0 13 (some [])),
  ([xLdA 0, xGet 6 14], tNe0 15 14),
  ([xLdA 0, xGet 6 0, xC (.int 2), xLd 1, xAdd, xLd 2, xAst], tGo 15),
  ([], tRetV)]
/-- HandFingersModel.readsSpan()V -/
def i_178 : MI := (RX6, cX6_readsSpan, 6, yX6_readsSpan, none, (5, 104), [])
def P_178 : List Nat := [0, 5, 12, 22, 31, 40, 51, 57, 64, 75]
noncomputable def B_178 : List Bk := [([xLdA 0, xC (.int 1)], tCv 173 2 6 1 1 (some [])),
  ([xLdA 0, xC (.int 1), xC (.int 5), xC (.int 1)], tCv 175 5 6 3 2 (some [])),
  ([xSt 1, xLdA 0, xC (.int 1), xC (.int 5), xLd 1, xC (.int 1), xAdd], tCv 175 5 6 3 3 (some [])),
  ([xSt 2, xLdA 0, xC (.int 1), xC (.int 24), xC (.int 1)], tCv 175 5 6 3 4 (some [])),
  ([xSt 3, xLdA 0, xC (.int 1), xC (.int 24), xLd 3], tCv 175 5 6 3 5 (some [])),
  ([xSt 4, xLdA 0, xC (.int 1), xC (.int 24), xLd 4], tCv 175 5 6 3 6 (some [])),
  ([xSt 5, xLdA 0], tCv 174 1 6 0 7 (some [])),
  ([xLdA 0, xGet 6 14], tNe0 9 8),
  ([xLdA 0, xLd 1, xLd 2, xLd 3, xLd 4, xLd 5], tCv 153 7 6 5 9 (some [])),
  ([], tRetV)]
/-- HandFingersModel.readsEvent()V -/
def i_179 : MI := (RX6, cX6_readsEvent, 5, yX6_readsEvent, none, (5, 107), [])
def P_179 : List Nat := [0, 4, 9, 15, 22, 23, 28, 36, 50, 55, 61, 70, 75, 87, 90, 98, 99, 133, 146, 149, 153, 168, 169, 175, 178, 182, 184, 189, 196, 212, 217, 223, 230, 237, 245, 251, 255]
noncomputable def B_179 : List Bk := [([xLdA 0], tCv 182 1 6 0 1 (some [])),
  ([xC (.int 40)], tNe 3 2),
  ([xLdA 0, xC (.int (-5))], tCv 172 2 6 1 3 (some [])),
  ([xLdA 0, xGet 6 14], tEq0 5 4),
  ([], tRetV),
  ([xLdA 0, xC (.int 1)], tCv 173 2 6 1 6 (some [])),
  ([xC (.int 42), xC (.int 8), xLdA 0], tCv 182 1 6 0 7 (some [])),
  ([xMul, xAdd, xSt 1, xC (.int 0), xSt 2, xLdA 0, xGet 6 0, xLd 1, xC (.int 1), xAdd, xC (.int 0), xAst], tGo 8),
  ([xLd 2, xC (.int 3)], tNe 10 9),
  ([xLdA 0, xC (.int (-5))], tCv 172 2 6 1 10 (some [])),
  ([xLdA 0, xC (.int 21), xC (.int 108), xLd 2], tNe0 12 11),
  ([xC (.int 21)], tGo 13),
  ([xLdA 0, xGet 6 0, xLd 1, xC (.int 1), xAdd, xLd 2, xAdd, xAld, xC (.int 1), xAdd], tGo 13),
  ([], tCv 175 5 6 3 14 (some [])),
  ([xSt 3, xLdA 0, xGet 6 14], tEq0 16 15),
  ([], tRetV),
  ([xLdA 0, xGet 6 0, xLd 1, xC (.int 2), xAdd, xLd 2, xAdd, xLd 3, xAst, xLdA 0, xGet 6 0, xLd 1, xC (.int 5), xAdd, xLd 2, xAdd, xC (.int 31), xAst, xInc 2 1, xLdA 0, xGet 6 12, xC (.int 1)], tEq 8 17),
  ([xLdA 0, xGet 6 0, xLd 1, xLd 2, xAst, xLdA 0, xC (.ref 9)], tCv 171 3 6 1 18 (some [])),
  ([], tEq0 22 19),
  ([xLdA 0], tCv 168 1 6 0 20 (some [])),
  ([xLdA 0, xGet 6 0, xLd 1, xC (.int 1), xAdd, xLdA 0, xC (.int 0), xC (.int 9), xC (.int 0)], tCv 175 5 6 3 21 (some [])),
  ([xAst], tGo 22),
  ([xLdA 0, xC (.ref 10)], tCv 171 3 6 1 23 (some [])),
  ([], tEq0 35 24),
  ([xLdA 0], tCv 168 1 6 0 25 (some [])),
  ([xC (.int 0), xSt 3], tGo 26),
  ([xLd 3, xLd 2], tGe 32 27),
  ([xLdA 0, xC (.int 0), xC (.int 5), xC (.int 0)], tCv 175 5 6 3 28 (some [])),
  ([xSt 4, xLdA 0, xGet 6 0, xLd 1, xC (.int 5), xAdd, xLd 3, xAdd, xLd 4], tNe0 30 29),
  ([xC (.int 31)], tGo 31),
  ([xC (.int 1), xLd 4, xC (.int 1), xSub, xShl], tGo 31),
  ([xAst, xInc 3 1], tGo 26),
  ([xLdA 0, xGet 6 14], tNe0 35 33),
  ([xLdA 0, xGet 6 12, xC (.int 1)], tNe 35 34),
  ([xLdA 0, xC (.int (-5))], tCv 172 2 6 1 35 (some [])),
  ([xLdA 0], tCv 174 1 6 0 36 (some [])),
  ([xLdA 0, xGet 6 0, xC (.int 0), xDup2, xAld, xC (.int 1), xAdd, xAst], tRetV)]
/-- HandFingersModel.load()I -/
def i_180 : MI := (RX6, cX6_load, 1, yX6_load, (some .int), (6, 131), [])
def P_180 : List Nat := [0, 13, 17, 21, 28, 31, 42, 45, 49, 50, 58, 61, 67, 70, 74, 75, 78, 82, 88, 91, 95, 98, 104, 107, 111, 114, 120, 123, 127, 130, 137, 145, 151, 155, 162, 175, 182, 187, 195, 199]
noncomputable def B_180 : List Bk := [([xLdA 0, xGet 6 1, xC (.int 0), xLdA 0, xGet 6 0, xC (.int 0)], tCs 158 5 4 1),
  ([xLdA 0], tCv 154 2 6 0 2 (some [])),
  ([xLdA 0], tCv 169 1 6 0 3 (some [])),
  ([xLdA 0, xLdA 0, xC (.ref 3)], tCv 171 3 6 1 4 (some [])),
  ([], tCv 173 2 6 1 5 (some [])),
  ([xLdA 0, xGet 6 0, xC (.int 1), xLdA 0, xC (.ref 4)], tCv 171 3 6 1 6 (some [])),
  ([], tEq0 8 7),
  ([xC (.int 1)], tGo 9),
  ([xC (.int 0)], tGo 9),
  ([xAst, xLdA 0, xLdA 0, xC (.ref 4)], tCv 171 3 6 1 10 (some [])),
  ([], tNe0 13 11),
  ([xLdA 0, xC (.ref 5)], tCv 171 3 6 1 12 (some [])),
  ([], tEq0 14 13),
  ([xC (.int 1)], tGo 15),
  ([xC (.int 0)], tGo 15),
  ([], tCv 173 2 6 1 16 (some [])),
  ([xLdA 0], tCv 174 1 6 0 17 (some [])),
  ([xLdA 0, xC (.ref 6)], tCv 171 3 6 1 18 (some [])),
  ([], tEq0 21 19),
  ([xLdA 0], tCv 177 3 6 0 20 (some [])),
  ([], tGo 17),
  ([xLdA 0, xC (.ref 7)], tCv 171 3 6 1 22 (some [])),
  ([], tEq0 25 23),
  ([xLdA 0], tCv 178 6 6 0 24 (some [])),
  ([], tGo 21),
  ([xLdA 0, xC (.ref 8)], tCv 171 3 6 1 26 (some [])),
  ([], tEq0 29 27),
  ([xLdA 0], tCv 179 5 6 0 28 (some [])),
  ([], tGo 25),
  ([xLdA 0, xGet 6 14], tNe0 32 30),
  ([xLdA 0, xGet 6 12, xC (.int 3)], tEq 32 31),
  ([xLdA 0, xC (.int (-2))], tCv 172 2 6 1 32 (some [])),
  ([xLdA 0], tCv 170 1 6 0 33 (some [])),
  ([xLdA 0, xGet 6 14], tEq0 35 34),
  ([xLdA 0, xGet 6 0, xC (.int 0), xLdA 0, xGet 6 1, xC (.int 0)], tCs 158 5 4 35),
  ([xLdA 0, xGet 6 14], tEq0 37 36),
  ([xLdA 0, xGet 6 14], tRet),
  ([xLdA 0, xLdA 0, xGet 6 1], tCv 159 3 6 1 38 (some [])),
  ([xLdA 0], tCv 182 1 6 0 39 (some [])),
  ([], tRet)]
/-- HandFingersModel.errorPosition()I -/
def i_181 : MI := (RX6, cX6_errorPosition, 1, yX6_errorPosition, (some .int), (0, 0), [])
def P_181 : List Nat := [0]
noncomputable def B_181 : List Bk := [([xLdA 0, xC (.int 0), xPut 6 7 (.int), xLdA 0, xGet 6 16], tRet)]
/-- HandFingersModel.events()I -/
def i_182 : MI := (RX6, cX6_events, 1, yX6_events, (some .int), (0, 0), [])
def P_182 : List Nat := [0]
noncomputable def B_182 : List Bk := [([xLdA 0, xGet 6 0, xC (.int 0), xAld], tRet)]
/-- HandFingersModel.notesOf(I)I -/
def i_183 : MI := (RX6, cX6_notesOf, 2, yX6_notesOf, (some .int), (0, 0), [])
def P_183 : List Nat := [0]
noncomputable def B_183 : List Bk := [([xLdA 0, xGet 6 0, xC (.int 42), xC (.int 8), xLd 1, xMul, xAdd, xAld], tRet)]
/-- HandFingersModel.restOf(I)I -/
def i_184 : MI := (RX6, cX6_restOf, 2, yX6_restOf, (some .int), (0, 0), [])
def P_184 : List Nat := [0]
noncomputable def B_184 : List Bk := [([xLdA 0, xGet 6 0, xC (.int 42), xC (.int 8), xLd 1, xMul, xAdd, xC (.int 1), xAdd, xAld], tRet)]
/-- HandFingersModel.keyOf(II)I -/
def i_185 : MI := (RX6, cX6_keyOf, 3, yX6_keyOf, (some .int), (0, 0), [])
def P_185 : List Nat := [0]
noncomputable def B_185 : List Bk := [([xLdA 0, xGet 6 0, xC (.int 42), xC (.int 8), xLd 1, xMul, xAdd, xC (.int 2), xAdd, xLd 2, xAdd, xAld], tRet)]
/-- HandFingersModel.setOf(II)I -/
def i_186 : MI := (RX6, cX6_setOf, 3, yX6_setOf, (some .int), (0, 0), [])
def P_186 : List Nat := [0]
noncomputable def B_186 : List Bk := [([xLdA 0, xGet 6 0, xC (.int 42), xC (.int 8), xLd 1, xMul, xAdd, xC (.int 5), xAdd, xLd 2, xAdd, xAld], tRet)]
/-- HandFingersModel.weightOf(I)I -/
def i_187 : MI := (RX6, cX6_weightOf, 2, yX6_weightOf, (some .int), (0, 0), [])
def P_187 : List Nat := [0]
noncomputable def B_187 : List Bk := [([xLdA 0, xGet 6 0, xC (.int 2), xLd 1, xAdd, xAld], tRet)]
/-- HandFingersModel.isEvent(I)Z -/
def i_188 : MI := (RX6, cX6_isEvent, 2, yX6_isEvent, (some .boolean), (1, 22), [])
def P_188 : List Nat := [0, 6, 11]
noncomputable def B_188 : List Bk := [([xLd 1, xC (.int 0), xLdA 0], tCv 182 1 6 0 1 (some [])),
  ([xC (.int 1), xSub], tCs 157 3 3 2),
  ([], tRetZ)]
/-- HandFingersModel.isNote(II)Z -/
def i_189 : MI := (RX6, cX6_isNote, 3, yX6_isNote, (some .boolean), (2, 43), [])
def P_189 : List Nat := [0, 5, 8, 15, 20, 23, 27, 28]
noncomputable def B_189 : List Bk := [([xLdA 0, xLd 1], tCv 188 2 6 1 1 (some [])),
  ([], tEq0 6 2),
  ([xLd 2, xC (.int 0), xLdA 0, xLd 1], tCv 183 2 6 1 3 (some [])),
  ([xC (.int 1), xSub], tCs 157 3 3 4),
  ([], tEq0 6 5),
  ([xC (.int 1)], tGo 7),
  ([xC (.int 0)], tGo 7),
  ([], tRetZ)]
/-- HandFingersModel.isFinger(I)Z -/
def i_190 : MI := (RX6, cX6_isFinger, 1, yX6_isFinger, (some .boolean), (1, 22), [])
def P_190 : List Nat := [0, 6]
noncomputable def B_190 : List Bk := [([xLd 0, xC (.int 1), xC (.int 5)], tCs 157 3 3 1),
  ([], tRetZ)]
/-- HandFingersModel.isBlack(I)Z -/
def i_191 : MI := (RX6, cX6_isBlack, 2, yX6_isBlack, (some .boolean), (0, 0), [])
def P_191 : List Nat := [0, 10, 15, 21, 27, 33, 37, 38]
noncomputable def B_191 : List Bk := [([xLd 0, xC (.int 12), xRem, xSt 1, xLd 1, xC (.int 1)], tEq 5 1),
  ([xLd 1, xC (.int 3)], tEq 5 2),
  ([xLd 1, xC (.int 6)], tEq 5 3),
  ([xLd 1, xC (.int 8)], tEq 5 4),
  ([xLd 1, xC (.int 10)], tNe 6 5),
  ([xC (.int 1)], tGo 7),
  ([xC (.int 0)], tGo 7),
  ([], tRetZ)]
/-- HandFingersModel.allNotes()I -/
def i_192 : MI := (RX6, cX6_allNotes, 3, yX6_allNotes, (some .int), (1, 21), [])
def P_192 : List Nat := [0, 4, 9, 12, 18, 26]
noncomputable def B_192 : List Bk := [([xC (.int 0), xSt 1, xC (.int 0), xSt 2], tGo 1),
  ([xLd 2, xLdA 0], tCv 182 1 6 0 2 (some [])),
  ([], tGe 5 3),
  ([xLd 1, xLdA 0, xLd 2], tCv 183 2 6 1 4 (some [])),
  ([xAdd, xSt 1, xInc 2 1], tGo 1),
  ([xLd 1], tRet)]
/-- HandFingersModel.isFree(I)Z -/
def i_193 : MI := (RX6, cX6_isFree, 2, yX6_isFree, (some .boolean), (1, 21), [])
def P_193 : List Nat := [0, 5, 11, 14, 18, 19]
noncomputable def B_193 : List Bk := [([xLdA 0, xLd 1], tCv 184 2 6 1 1 (some [])),
  ([xLdA 0, xC (.int 8)], tCv 187 2 6 1 2 (some [])),
  ([], tLt 4 3),
  ([xC (.int 1)], tGo 5),
  ([xC (.int 0)], tGo 5),
  ([], tRetZ)]
/-- HandFingersModel.offBy(III)I -/
def i_194 : MI := (RX6, cX6_offBy, 5, yX6_offBy, (some .int), (2, 45), [])
def P_194 : List Nat := [0, 5, 20, 22, 33, 45, 58, 72, 73]
noncomputable def B_194 : List Bk := [([xLd 1, xLd 2], tCs 155 5 2 1),
  ([xSt 4, xLd 3, xLdA 0, xGet 6 0, xLd 4, xC (.int 2), xAdd, xAld], tLe 3 2),
  ([xC (.int (-1))], tRet),
  ([xLd 3, xLdA 0, xGet 6 0, xLd 4, xAld], tGe 5 4),
  ([xLdA 0, xGet 6 0, xLd 4, xAld, xLd 3, xSub], tGo 8),
  ([xLd 3, xLdA 0, xGet 6 0, xLd 4, xC (.int 1), xAdd, xAld], tLe 7 6),
  ([xLd 3, xLdA 0, xGet 6 0, xLd 4, xC (.int 1), xAdd, xAld, xSub], tGo 8),
  ([xC (.int 0)], tGo 8),
  ([], tRet)]
/-- HandFingersModel.linkOf(IIII)I -/
def i_195 : MI := (RX6, cX6_linkOf, 8, yX6_linkOf, (some .int), (3, 69), [])
def P_195 : List Nat := [0, 10, 17, 21, 28, 34, 36, 43, 49, 53, 54, 57, 58, 63, 68, 72, 77, 81, 82, 87, 91, 92, 95, 103, 111, 115, 120, 123, 124, 133, 142, 150, 153, 157, 158, 165, 170, 173, 174]
noncomputable def B_195 : List Bk := [([xLdA 0, xGet 6 0, xC (.int 1), xAld, xC (.int 1)], tNe 2 1),
  ([xLd 4, xLd 2, xSub], tGo 3),
  ([xLd 2, xLd 4, xSub], tGo 3),
  ([xSt 5, xLd 5], tGe0 5 4),
  ([xLd 5, xNeg], tGo 6),
  ([xLd 5], tGo 6),
  ([xSt 6, xLd 5], tNe0 12 7),
  ([xLdA 0, xLd 1, xLd 3], tNe 9 8),
  ([xC (.int 2)], tGo 10),
  ([xC (.int 3)], tGo 10),
  ([], tCv 187 2 6 1 11 (some [])),
  ([], tRet),
  ([xLd 1, xLd 3], tNe 15 13),
  ([xLdA 0, xC (.int 4)], tCv 187 2 6 1 14 (some [])),
  ([xLd 6, xMul], tRet),
  ([xLd 5], tLe0 17 16),
  ([xC (.int 1)], tGo 18),
  ([xC (.int 0)], tGo 18),
  ([xLd 3, xLd 1], tLe 20 19),
  ([xC (.int 1)], tGo 21),
  ([xC (.int 0)], tGo 21),
  ([], tNe 28 22),
  ([xLdA 0, xLd 1, xLd 3, xLd 6], tCv 194 5 6 3 23 (some [])),
  ([xSt 7, xLd 7, xC (.int (-1))], tNe 25 24),
  ([xC (.int (-1))], tGo 27),
  ([xLdA 0, xC (.int 0)], tCv 187 2 6 1 26 (some [])),
  ([xLd 7, xMul], tGo 27),
  ([], tRet),
  ([xLd 1, xLd 3, xMin, xC (.int 1)], tNe 33 29),
  ([xLd 1, xLd 3, xMax, xC (.int 5)], tGe 33 30),
  ([xLd 6, xLdA 0, xC (.int 9)], tCv 187 2 6 1 31 (some [])),
  ([], tGt 33 32),
  ([xC (.int 1)], tGo 34),
  ([xC (.int 0)], tGo 34),
  ([xSt 7, xLd 7], tEq0 37 35),
  ([xLdA 0, xC (.int 1)], tCv 187 2 6 1 36 (some [])),
  ([], tGo 38),
  ([xC (.int (-1))], tGo 38),
  ([], tRet)]
/-- HandFingersModel.isInOrder(I)Z -/
def i_196 : MI := (RX6, cX6_isInOrder, 3, yX6_isInOrder, (some .boolean), (0, 0), [])
def P_196 : List Nat := [0, 2, 7, 17, 34, 37, 54, 56, 62]
noncomputable def B_196 : List Bk := [([xC (.int 1), xSt 2], tGo 1),
  ([xLd 2, xLd 1], tGe 8 2),
  ([xLdA 0, xGet 6 0, xC (.int 1), xAld, xC (.int 1)], tNe 5 3),
  ([xLdA 0, xGet 6 17, xLd 2, xAld, xLdA 0, xGet 6 17, xLd 2, xC (.int 1), xSub, xAld], tGt 7 4),
  ([], tGo 6),
  ([xLdA 0, xGet 6 17, xLd 2, xAld, xLdA 0, xGet 6 17, xLd 2, xC (.int 1), xSub, xAld], tLt 7 6),
  ([xC (.int 0)], tRetZ),
  ([xInc 2 1], tGo 1),
  ([xC (.int 1)], tRetZ)]
/-- HandFingersModel.mayPlay(I)Z -/
def i_197 : MI := (RX6, cX6_mayPlay, 3, yX6_mayPlay, (some .boolean), (1, 22), [])
def P_197 : List Nat := [0, 2, 8, 11, 17, 31, 33, 39]
noncomputable def B_197 : List Bk := [([xC (.int 0), xSt 2], tGo 1),
  ([xLd 2, xLdA 0, xLd 1], tCv 183 2 6 1 2 (some [])),
  ([], tGe 7 3),
  ([xLdA 0, xLd 1, xLd 2], tCv 186 3 6 2 4 (some [])),
  ([xLdA 0, xGet 6 17, xLd 2, xAld, xC (.int 1), xSub, xShr, xC (.int 1), xAnd], tNe0 6 5),
  ([xC (.int 0)], tRetZ),
  ([xInc 2 1], tGo 1),
  ([xC (.int 1)], tRetZ)]
/-- HandFingersModel.costHere(I)I -/
def i_198 : MI := (RX6, cX6_costHere, 6, yX6_costHere, (some .int), (3, 69), [])
def P_198 : List Nat := [0, 5, 11, 14, 19, 22, 24, 29, 35, 47, 58, 65, 68, 71, 76, 79, 80, 94, 100, 103, 104, 111, 114, 138, 147, 151, 159, 161, 167, 172, 178]
noncomputable def B_198 : List Bk := [([xLdA 0, xLd 1], tCv 183 2 6 1 1 (some [])),
  ([xSt 2, xLdA 0, xLd 2], tCv 196 3 6 1 2 (some [])),
  ([], tEq0 5 3),
  ([xLdA 0, xLd 1], tCv 197 3 6 1 4 (some [])),
  ([], tNe0 6 5),
  ([xC (.int (-1))], tRet),
  ([xC (.int 0), xSt 3, xC (.int 0), xSt 4], tGo 7),
  ([xLd 4, xLd 2], tGe 30 8),
  ([xLd 3, xLdA 0, xGet 6 17, xLd 4, xAld, xC (.int 1)], tEq 10 9),
  ([xLdA 0, xGet 6 17, xLd 4, xAld, xC (.int 5)], tNe 15 10),
  ([xLdA 0, xLd 1, xLd 4], tCv 185 3 6 2 11 (some [])),
  ([], tCs 191 2 1 12),
  ([], tEq0 15 13),
  ([xLdA 0, xC (.int 5)], tCv 187 2 6 1 14 (some [])),
  ([], tGo 16),
  ([xC (.int 0)], tGo 16),
  ([xAdd, xSt 3, xLd 3, xLdA 0, xGet 6 17, xLd 4, xAld, xC (.int 4)], tNe 19 17),
  ([xLdA 0, xC (.int 6)], tCv 187 2 6 1 18 (some [])),
  ([], tGo 20),
  ([xC (.int 0)], tGo 20),
  ([xAdd, xSt 3, xLd 4], tNe0 22 21),
  ([], tGo 29),
  ([xLdA 0, xLdA 0, xGet 6 17, xLd 4, xC (.int 1), xSub, xAld, xLdA 0, xGet 6 17, xLd 4, xAld, xLdA 0, xLd 1, xLd 4], tCv 185 3 6 2 23 (some [])),
  ([xLdA 0, xLd 1, xLd 4, xC (.int 1), xSub], tCv 185 3 6 2 24 (some [])),
  ([xSub], tCv 194 5 6 3 25 (some [])),
  ([xSt 5, xLd 5, xC (.int (-1))], tNe 27 26),
  ([xC (.int (-1))], tRet),
  ([xLd 3, xLdA 0, xC (.int 0)], tCv 187 2 6 1 28 (some [])),
  ([xLd 5, xMul, xAdd, xSt 3], tGo 29),
  ([xInc 4 1], tGo 7),
  ([xLd 3], tRet)]
/-- HandFingersModel.fingerIn(II)I -/
def i_199 : MI := (RX6, cX6_fingerIn, 2, yX6_fingerIn, (some .int), (0, 0), [])
def P_199 : List Nat := [0, 4, 13, 18, 28, 33]
noncomputable def B_199 : List Bk := [([xLd 1], tNe0 2 1),
  ([xLd 0, xC (.int 25), xDiv, xC (.int 1), xAdd], tGo 5),
  ([xLd 1, xC (.int 1)], tNe 4 3),
  ([xLd 0, xC (.int 5), xDiv, xC (.int 5), xRem, xC (.int 1), xAdd], tGo 5),
  ([xLd 0, xC (.int 5), xRem, xC (.int 1), xAdd], tGo 5),
  ([], tRet)]
/-- HandFingersModel.looksAt(II)V -/
def i_200 : MI := (RX6, cX6_looksAt, 4, yX6_looksAt, none, (1, 21), [])
def P_200 : List Nat := [0, 2, 7, 17, 24]
noncomputable def B_200 : List Bk := [([xC (.int 0), xSt 3], tGo 1),
  ([xLd 3, xLd 2], tGe 4 2),
  ([xLdA 0, xGet 6 17, xLd 3, xLd 1, xLd 3], tCs 199 2 2 3),
  ([xAst, xInc 3 1], tGo 1),
  ([], tRetV)]
/-- HandFingersModel.laysShapes()V -/
def i_201 : MI := (RX6, cX6_laysShapes, 5, yX6_laysShapes, none, (4, 94), [])
def P_201 : List Nat := [0, 2, 7, 10, 22, 26, 31, 36, 40, 44, 45, 48, 54, 61, 64, 69, 77, 80, 125, 132, 138]
noncomputable def B_201 : List Bk := [([xC (.int 0), xSt 1], tGo 1),
  ([xLd 1, xLdA 0], tCv 182 1 6 0 2 (some [])),
  ([], tGe 20 3),
  ([xLdA 0, xGet 6 20, xLd 1, xC (.int 0), xAst, xLdA 0, xLd 1], tCv 183 2 6 1 4 (some [])),
  ([xC (.int 1)], tNe 6 5),
  ([xC (.int 25)], tGo 10),
  ([xLdA 0, xLd 1], tCv 183 2 6 1 7 (some [])),
  ([xC (.int 2)], tNe 9 8),
  ([xC (.int 5)], tGo 10),
  ([xC (.int 1)], tGo 10),
  ([xSt 2, xC (.int 0), xSt 3], tGo 11),
  ([xLd 3, xC (.int 125)], tGe 19 12),
  ([xLdA 0, xLd 3, xLdA 0, xLd 1], tCv 183 2 6 1 13 (some [])),
  ([], tCv 200 4 6 2 14 (some [])),
  ([xLdA 0, xLd 1], tCv 198 6 6 1 15 (some [])),
  ([xSt 4, xLd 4, xC (.int (-1))], tNe 17 16),
  ([], tGo 18),
  ([xLdA 0, xGet 6 18, xC (.int 10), xLd 1, xMul, xLdA 0, xGet 6 20, xLd 1, xAld, xAdd, xLd 3, xAst, xLdA 0, xGet 6 19, xC (.int 10), xLd 1, xMul, xLdA 0, xGet 6 20, xLd 1, xAld, xAdd, xLd 4, xAst, xLdA 0, xGet 6 20, xLd 1, xDup2, xAld, xC (.int 1), xAdd, xAst], tGo 18),
  ([xLd 3, xLd 2, xAdd, xSt 3], tGo 11),
  ([xInc 1 1], tGo 1),
  ([], tRetV)]
/-- HandFingersModel.firstNote(I)I -/
def i_202 : MI := (RX6, cX6_firstNote, 2, yX6_firstNote, (some .int), (1, 21), [])
def P_202 : List Nat := [0, 10, 14, 19, 21]
noncomputable def B_202 : List Bk := [([xLdA 0, xGet 6 0, xC (.int 1), xAld, xC (.int 1)], tNe 2 1),
  ([xC (.int 0)], tGo 4),
  ([xLdA 0, xLd 1], tCv 183 2 6 1 3 (some [])),
  ([xC (.int 1), xSub], tGo 4),
  ([], tRet)]
/-- HandFingersModel.lastNote(I)I -/
def i_203 : MI := (RX6, cX6_lastNote, 2, yX6_lastNote, (some .int), (1, 21), [])
def P_203 : List Nat := [0, 10, 15, 20, 21]
noncomputable def B_203 : List Bk := [([xLdA 0, xGet 6 0, xC (.int 1), xAld, xC (.int 1)], tNe 3 1),
  ([xLdA 0, xLd 1], tCv 183 2 6 1 2 (some [])),
  ([xC (.int 1), xSub], tGo 4),
  ([xC (.int 0)], tGo 4),
  ([], tRet)]
/-- HandFingersModel.linkBy(IIIII)I -/
def i_204 : MI := (RX6, cX6_linkBy, 6, yX6_linkBy, (some .int), (4, 96), [])
def P_204 : List Nat := [0, 6, 12, 19, 28, 31]
noncomputable def B_204 : List Bk := [([xLdA 0, xLd 2, xLd 3], tCs 199 2 2 1),
  ([xLdA 0, xLd 1, xLd 3], tCv 185 3 6 2 2 (some [])),
  ([xLd 4, xLd 5], tCs 199 2 2 3),
  ([xLdA 0, xLd 1, xC (.int 1), xAdd, xLd 5], tCv 185 3 6 2 4 (some [])),
  ([], tCv 195 8 6 4 5 (some [])),
  ([], tRet)]
/-- HandFingersModel.passage(III)I -/
def i_205 : MI := (RX6, cX6_passage, 6, yX6_passage, (some .int), (5, 121), [])
def P_205 : List Nat := [0, 5, 8, 10, 18, 26, 29, 36, 43, 48, 52, 60, 68, 71, 79, 85, 87, 99, 104]
noncomputable def B_205 : List Bk := [([xLdA 0, xLd 1], tCv 193 2 6 1 1 (some [])),
  ([], tEq0 3 2),
  ([xC (.int 0)], tRet),
  ([xLdA 0, xLd 1, xLd 2, xLdA 0, xLd 1], tCv 202 2 6 1 4 (some [])),
  ([xLd 3, xLdA 0, xLd 1, xC (.int 1), xAdd], tCv 202 2 6 1 5 (some [])),
  ([], tCv 204 6 6 5 6 (some [])),
  ([xSt 4, xLdA 0, xLd 1], tCv 183 2 6 1 7 (some [])),
  ([xLdA 0, xLd 1, xC (.int 1), xAdd], tCv 183 2 6 1 8 (some [])),
  ([xAdd, xC (.int 2)], tNe 10 9),
  ([xC (.int 0)], tGo 13),
  ([xLdA 0, xLd 1, xLd 2, xLdA 0, xLd 1], tCv 203 2 6 1 11 (some [])),
  ([xLd 3, xLdA 0, xLd 1, xC (.int 1), xAdd], tCv 203 2 6 1 12 (some [])),
  ([], tCv 204 6 6 5 13 (some [])),
  ([xSt 5, xLd 4, xC (.int (-1))], tEq 15 14),
  ([xLd 5, xC (.int (-1))], tNe 16 15),
  ([xC (.int (-1))], tRet),
  ([xC (.int 0), xLd 4, xLd 5, xAdd, xLdA 0, xC (.int 7)], tCv 187 2 6 1 17 (some [])),
  ([xLdA 0, xLd 1], tCv 184 2 6 1 18 (some [])),
  ([xMul, xSub, xMax], tRet)]
/-- HandFingersModel.isCrossing(IIIII)Z -/
def i_206 : MI := (RX6, cX6_isCrossing, 9, yX6_isCrossing, (some .boolean), (1, 22), [])
def P_206 : List Nat := [0, 5, 14, 26, 35, 41, 45, 51, 60, 61, 68, 75, 80, 84, 85, 92, 96, 97, 100, 104, 105]
noncomputable def B_206 : List Bk := [([xLd 2, xLd 3], tCs 199 2 2 1),
  ([xSt 6, xLd 4, xLd 5], tCs 199 2 2 2),
  ([xSt 7, xLdA 0, xGet 6 0, xC (.int 1), xAld, xC (.int 1)], tNe 6 3),
  ([xLdA 0, xLd 1, xC (.int 1), xAdd, xLd 5], tCv 185 3 6 2 4 (some [])),
  ([xLdA 0, xLd 1, xLd 3], tCv 185 3 6 2 5 (some [])),
  ([xSub], tGo 9),
  ([xLdA 0, xLd 1, xLd 3], tCv 185 3 6 2 7 (some [])),
  ([xLdA 0, xLd 1, xC (.int 1), xAdd, xLd 5], tCv 185 3 6 2 8 (some [])),
  ([xSub], tGo 9),
  ([xSt 8, xLd 8], tEq0 19 10),
  ([xLd 6, xLd 7], tEq 19 11),
  ([xLd 8], tLe0 13 12),
  ([xC (.int 1)], tGo 14),
  ([xC (.int 0)], tGo 14),
  ([xLd 7, xLd 6], tLe 16 15),
  ([xC (.int 1)], tGo 17),
  ([xC (.int 0)], tGo 17),
  ([], tEq 19 18),
  ([xC (.int 1)], tGo 20),
  ([xC (.int 0)], tGo 20),
  ([], tRetZ)]
/-- HandFingersModel.crossings(III)I -/
def i_207 : MI := (RX6, cX6_crossings, 6, yX6_crossings, (some .int), (2, 50), [])
def P_207 : List Nat := [0, 5, 8, 10, 18, 26, 29, 32, 36, 37, 44, 51, 56, 60, 61, 70, 78, 86, 89, 92, 96, 97]
noncomputable def B_207 : List Bk := [([xLdA 0, xLd 1], tCv 193 2 6 1 1 (some [])),
  ([], tEq0 3 2),
  ([xC (.int 0)], tRet),
  ([xLdA 0, xLd 1, xLd 2, xLdA 0, xLd 1], tCv 202 2 6 1 4 (some [])),
  ([xLd 3, xLdA 0, xLd 1, xC (.int 1), xAdd], tCv 202 2 6 1 5 (some [])),
  ([], tCv 206 9 6 5 6 (some [])),
  ([], tEq0 8 7),
  ([xC (.int 1)], tGo 9),
  ([xC (.int 0)], tGo 9),
  ([xSt 4, xLdA 0, xLd 1], tCv 183 2 6 1 10 (some [])),
  ([xLdA 0, xLd 1, xC (.int 1), xAdd], tCv 183 2 6 1 11 (some [])),
  ([xAdd, xC (.int 2)], tLe 13 12),
  ([xC (.int 1)], tGo 14),
  ([xC (.int 0)], tGo 14),
  ([xSt 5, xLd 4, xLd 5], tEq0 20 15),
  ([xLdA 0, xLd 1, xLd 2, xLdA 0, xLd 1], tCv 203 2 6 1 16 (some [])),
  ([xLd 3, xLdA 0, xLd 1, xC (.int 1), xAdd], tCv 203 2 6 1 17 (some [])),
  ([], tCv 206 9 6 5 18 (some [])),
  ([], tEq0 20 19),
  ([xC (.int 1)], tGo 21),
  ([xC (.int 0)], tGo 21),
  ([xAdd], tRet)]
/-- HandFingersModel.laysLeast()V -/
def i_208 : MI := (RX6, cX6_laysLeast, 3, yX6_laysLeast, none, (7, 172), [])
def P_208 : List Nat := [0, 4, 8, 11, 15, 20, 35, 41, 47, 53]
noncomputable def B_208 : List Bk := [([xLdA 0], tCv 201 5 6 0 1 (some [])),
  ([xLdA 0], tCv 182 1 6 0 2 (some [])),
  ([xC (.int 1), xSub, xSt 1], tGo 3),
  ([xLd 1], tLt0 9 4),
  ([xC (.int 10), xLd 1, xMul, xSt 2], tGo 5),
  ([xLd 2, xC (.int 10), xLd 1, xMul, xLdA 0, xGet 6 20, xLd 1, xAld, xAdd], tGe 8 6),
  ([xLdA 0, xLd 1, xLd 2], tCv 209 7 6 2 7 (some [])),
  ([xInc 2 1], tGo 5),
  ([xInc 1 (-1)], tGo 3),
  ([], tRetV)]
/-- HandFingersModel.laysFrom(II)V -/
def i_209 : MI := (RX6, cX6_laysFrom, 7, yX6_laysFrom, none, (6, 146), [])
def P_209 : List Nat := [0, 5, 10, 14, 15, 20, 24, 27, 38, 42, 43, 53, 57, 58, 67, 71, 91, 109, 117, 130, 133, 174, 197, 201, 207, 219, 236, 242, 255, 261, 270]
noncomputable def B_209 : List Bk := [([xLd 1, xLdA 0], tCv 182 1 6 0 1 (some [])),
  ([xC (.int 1), xSub], tNe 3 2),
  ([xC (.int 1)], tGo 4),
  ([xC (.int 0)], tGo 4),
  ([xSt 3, xLd 3], tEq0 6 5),
  ([xC (.int 0)], tGo 7),
  ([xC (.int 1000000000)], tGo 7),
  ([xSt 4, xLdA 0, xGet 6 24, xLd 2, xLd 3], tEq0 9 8),
  ([xC (.long 1)], tGo 10),
  ([xC (.long 0)], tGo 10),
  ([xLst, xLdA 0, xGet 6 25, xLd 2, xLd 3], tEq0 12 11),
  ([xC (.long 1)], tGo 13),
  ([xC (.long 0)], tGo 13),
  ([xLst, xC (.int 10), xLd 1, xC (.int 1), xAdd, xMul, xSt 5], tGo 14),
  ([xLd 3], tNe0 27 15),
  ([xLd 5, xC (.int 10), xLd 1, xC (.int 1), xAdd, xMul, xLdA 0, xGet 6 20, xLd 1, xC (.int 1), xAdd, xAld, xAdd], tGe 27 16),
  ([xLdA 0, xLd 1, xLdA 0, xGet 6 18, xLd 2, xAld, xLdA 0, xGet 6 18, xLd 5, xAld], tCv 205 6 6 3 17 (some [])),
  ([xSt 6, xLd 6, xC (.int (-1))], tEq 26 18),
  ([xLdA 0, xGet 6 22, xLd 5, xAld, xC (.int 1000000000)], tLt 20 19),
  ([], tGo 26),
  ([xLdA 0, xGet 6 24, xLd 2, xC (.long 1000000000000000), xLdA 0, xGet 6 24, xLd 2, xLld, xLdA 0, xGet 6 24, xLd 5, xLld, xLadd, xLmin, xLst, xLd 6, xLdA 0, xGet 6 22, xLd 5, xAld, xAdd, xLd 4], tGt 25 21),
  ([xLdA 0, xGet 6 25, xLd 2, xC (.long 1000000000000000), xLd 6, xLdA 0, xGet 6 22, xLd 5, xAld, xAdd, xLd 4], tGe 23 22),
  ([xC (.long 0)], tGo 24),
  ([xLdA 0, xGet 6 25, xLd 2, xLld], tGo 24),
  ([xLdA 0, xGet 6 25, xLd 5, xLld, xLadd, xLmin, xLst], tGo 25),
  ([xLd 4, xLd 6, xLdA 0, xGet 6 22, xLd 5, xAld, xAdd, xMin, xSt 4], tGo 26),
  ([xInc 5 1], tGo 14),
  ([xLdA 0, xGet 6 22, xLd 2, xLd 4, xC (.int 1000000000)], tNe 29 28),
  ([xC (.int 1000000000)], tGo 30),
  ([xLd 4, xLdA 0, xGet 6 19, xLd 2, xAld, xAdd], tGo 30),
  ([xAst], tRetV)]
/-- HandFingersModel.laysUpTo()V -/
def i_210 : MI := (RX6, cX6_laysUpTo, 6, yX6_laysUpTo, none, (6, 146), [])
def P_210 : List Nat := [0, 2, 7, 10, 15, 30, 34, 38, 41, 50, 54, 74, 94, 102, 115, 130, 136, 148, 154, 162, 169, 175]
noncomputable def B_210 : List Bk := [([xC (.int 0), xSt 1], tGo 1),
  ([xLd 1, xLdA 0], tCv 182 1 6 0 2 (some [])),
  ([], tGe 21 3),
  ([xC (.int 10), xLd 1, xMul, xSt 2], tGo 4),
  ([xLd 2, xC (.int 10), xLd 1, xMul, xLdA 0, xGet 6 20, xLd 1, xAld, xAdd], tGe 20 5),
  ([xLd 1], tNe0 7 6),
  ([xC (.int 0)], tGo 8),
  ([xC (.int 1000000000)], tGo 8),
  ([xSt 3, xC (.int 10), xLd 1, xC (.int 1), xSub, xMul, xSt 4], tGo 9),
  ([xLd 1], tLe0 16 10),
  ([xLd 4, xC (.int 10), xLd 1, xC (.int 1), xSub, xMul, xLdA 0, xGet 6 20, xLd 1, xC (.int 1), xSub, xAld, xAdd], tGe 16 11),
  ([xLdA 0, xLd 1, xC (.int 1), xSub, xLdA 0, xGet 6 18, xLd 4, xAld, xLdA 0, xGet 6 18, xLd 2, xAld], tCv 205 6 6 3 12 (some [])),
  ([xSt 5, xLd 5, xC (.int (-1))], tEq 15 13),
  ([xLdA 0, xGet 6 23, xLd 4, xAld, xC (.int 1000000000)], tGe 15 14),
  ([xLd 3, xLdA 0, xGet 6 23, xLd 4, xAld, xLd 5, xAdd, xMin, xSt 3], tGo 15),
  ([xInc 4 1], tGo 9),
  ([xLdA 0, xGet 6 23, xLd 2, xLd 3, xC (.int 1000000000)], tNe 18 17),
  ([xC (.int 1000000000)], tGo 19),
  ([xLd 3, xLdA 0, xGet 6 19, xLd 2, xAld, xAdd], tGo 19),
  ([xAst, xInc 2 1], tGo 4),
  ([xInc 1 1], tGo 1),
  ([], tRetV)]
/-- HandFingersModel.bestLaid()I -/
def i_211 : MI := (RX6, cX6_bestLaid, 3, yX6_bestLaid, (some .int), (1, 21), [])
def P_211 : List Nat := [0, 4, 7, 9, 15, 25, 42]
noncomputable def B_211 : List Bk := [([xLdA 0], tCv 182 1 6 0 1 (some [])),
  ([], tNe0 3 2),
  ([xC (.int 0)], tRet),
  ([xC (.int 1000000000), xSt 1, xC (.int 0), xSt 2], tGo 4),
  ([xLd 2, xLdA 0, xGet 6 20, xC (.int 0), xAld], tGe 6 5),
  ([xLd 1, xLdA 0, xGet 6 22, xLd 2, xAld, xMin, xSt 1, xInc 2 1], tGo 4),
  ([xLd 1], tRet)]
/-- HandFingersModel.bestNow()I -/
def i_212 : MI := (RX6, cX6_bestNow, 1, yX6_bestNow, (some .int), (8, 194), [])
def P_212 : List Nat := [0, 4, 8]
noncomputable def B_212 : List Bk := [([xLdA 0], tCv 208 3 6 0 1 (some [])),
  ([xLdA 0], tCv 211 3 6 0 2 (some [])),
  ([], tRet)]
/-- HandFingersModel.orNone(I)I -/
def i_213 : MI := (RX6, cX6_orNone, 1, yX6_orNone, (some .int), (0, 0), [])
def P_213 : List Nat := [0, 7, 11, 12]
noncomputable def B_213 : List Bk := [([xLd 0, xC (.int 1000000000)], tLt 2 1),
  ([xC (.int (-1))], tGo 3),
  ([xLd 0], tGo 3),
  ([], tRet)]
/-- HandFingersModel.chooses()Z -/
def i_214 : MI := (RX6, cX6_chooses, 4, yX6_chooses, (some .boolean), (9, 214), [])
def P_214 : List Nat := [0, 4, 7, 12, 15, 22, 27, 39, 44, 50, 77, 84, 88, 89]
noncomputable def B_214 : List Bk := [([xLdA 0], tCv 212 1 6 0 1 (some [])),
  ([xSt 1, xC (.int 0), xSt 2], tGo 2),
  ([xLd 2, xLdA 0], tCv 182 1 6 0 3 (some [])),
  ([], tGe 10 4),
  ([xLd 1, xC (.int 1000000000)], tGe 10 5),
  ([xC (.int 10), xLd 2, xMul, xSt 3], tGo 6),
  ([xLdA 0, xGet 6 22, xLd 3, xAld, xLdA 0, xLd 2, xLd 3], tCv 215 4 6 2 7 (some [])),
  ([xAdd, xLd 1], tEq 9 8),
  ([xInc 3 1], tGo 6),
  ([xLdA 0, xGet 6 22, xLd 3, xAld, xLdA 0, xGet 6 19, xLd 3, xAld, xSub, xSt 1, xLdA 0, xGet 6 21, xLd 2, xLd 3, xAst, xInc 2 1], tGo 2),
  ([xLd 1, xC (.int 1000000000)], tGe 12 11),
  ([xC (.int 1)], tGo 13),
  ([xC (.int 0)], tGo 13),
  ([], tRetZ)]
/-- HandFingersModel.wayInto(II)I -/
def i_215 : MI := (RX6, cX6_wayInto, 4, yX6_wayInto, (some .int), (6, 146), [])
def P_215 : List Nat := [0, 4, 6, 32, 38, 44, 45]
noncomputable def B_215 : List Bk := [([xLd 1], tNe0 2 1),
  ([xC (.int 0)], tRet),
  ([xLdA 0, xLd 1, xC (.int 1), xSub, xLdA 0, xGet 6 18, xLdA 0, xGet 6 21, xLd 1, xC (.int 1), xSub, xAld, xAld, xLdA 0, xGet 6 18, xLd 2, xAld], tCv 205 6 6 3 3 (some [])),
  ([xSt 3, xLd 3, xC (.int (-1))], tNe 5 4),
  ([xC (.int 1000000000)], tGo 6),
  ([xLd 3], tGo 6),
  ([], tRet)]
/-- HandFingersModel.keysAt(Z)I -/
def i_216 : MI := (RX6, cX6_keysAt, 5, yX6_keysAt, (some .int), (1, 22), [])
def P_216 : List Nat := [0, 4, 9, 12, 15, 22, 25, 30, 37, 38, 42, 50, 56, 64, 67, 74, 80]
noncomputable def B_216 : List Bk := [([xC (.int (-1)), xSt 2, xC (.int 0), xSt 3], tGo 1),
  ([xLd 3, xLdA 0], tCv 182 1 6 0 2 (some [])),
  ([], tGe 16 3),
  ([xC (.int 0), xSt 4], tGo 4),
  ([xLd 4, xLdA 0, xLd 3], tCv 183 2 6 1 5 (some [])),
  ([], tGe 15 6),
  ([xLd 2, xC (.int (-1))], tNe 9 7),
  ([xLdA 0, xLd 3, xLd 4], tCv 185 3 6 2 8 (some [])),
  ([xSt 2], tGo 9),
  ([xLd 1], tEq0 12 10),
  ([xLd 2, xLdA 0, xLd 3, xLd 4], tCv 185 3 6 2 11 (some [])),
  ([xMax], tGo 14),
  ([xLd 2, xLdA 0, xLd 3, xLd 4], tCv 185 3 6 2 13 (some [])),
  ([xMin], tGo 14),
  ([xSt 2, xInc 4 1], tGo 4),
  ([xInc 3 1], tGo 1),
  ([xLd 2], tRet)]
/-- HandFingersModel.blacks()I -/
def i_217 : MI := (RX6, cX6_blacks, 4, yX6_blacks, (some .int), (1, 22), [])
def P_217 : List Nat := [0, 4, 9, 12, 14, 20, 23, 30, 33, 36, 40, 41, 49, 55]
noncomputable def B_217 : List Bk := [([xC (.int 0), xSt 1, xC (.int 0), xSt 2], tGo 1),
  ([xLd 2, xLdA 0], tCv 182 1 6 0 2 (some [])),
  ([], tGe 13 3),
  ([xC (.int 0), xSt 3], tGo 4),
  ([xLd 3, xLdA 0, xLd 2], tCv 183 2 6 1 5 (some [])),
  ([], tGe 12 6),
  ([xLd 1, xLdA 0, xLd 2, xLd 3], tCv 185 3 6 2 7 (some [])),
  ([], tCs 191 2 1 8),
  ([], tEq0 10 9),
  ([xC (.int 1)], tGo 11),
  ([xC (.int 0)], tGo 11),
  ([xAdd, xSt 1, xInc 3 1], tGo 4),
  ([xInc 2 1], tGo 1),
  ([xLd 1], tRet)]
/-- HandFingersModel.freePassages()I -/
def i_218 : MI := (RX6, cX6_freePassages, 3, yX6_freePassages, (some .int), (2, 42), [])
def P_218 : List Nat := [0, 4, 11, 14, 20, 23, 27, 28, 36]
noncomputable def B_218 : List Bk := [([xC (.int 0), xSt 1, xC (.int 0), xSt 2], tGo 1),
  ([xLd 2, xC (.int 1), xAdd, xLdA 0], tCv 182 1 6 0 2 (some [])),
  ([], tGe 8 3),
  ([xLd 1, xLdA 0, xLd 2], tCv 193 2 6 1 4 (some [])),
  ([], tEq0 6 5),
  ([xC (.int 1)], tGo 7),
  ([xC (.int 0)], tGo 7),
  ([xAdd, xSt 1, xInc 2 1], tGo 1),
  ([xLd 1], tRet)]
/-- HandFingersModel.count(I)I -/
def i_219 : MI := (RX6, cX6_count, 2, yX6_count, (some .int), (3, 64), [])
def P_219 : List Nat := [0, 8, 11, 15, 16, 26, 28, 68, 72, 73, 77, 78, 85, 90, 91, 96, 97, 101, 102, 106]
noncomputable def B_219 : List Bk := [([xLdA 0, xLd 1, xC (.int 0), xC (.int 6)], tCs 157 3 3 1),
  ([], tEq0 3 2),
  ([xC (.int 0)], tGo 4),
  ([xC (.int 1)], tGo 4),
  ([xPut 6 7 (.int), xLdA 0, xGet 6 7], tLe0 6 5),
  ([xC (.int 0)], tRet),
  ([xLd 1], tSw 18 [(0, 7), (1, 9), (2, 11), (3, 12), (4, 14), (5, 16)]),
  ([xLdA 0], tCv 182 1 6 0 8 (some [])),
  ([], tRet),
  ([xLdA 0], tCv 192 3 6 0 10 (some [])),
  ([], tRet),
  ([xLdA 0, xGet 6 0, xC (.int 1), xAld], tRet),
  ([xLdA 0, xC (.int 0)], tCv 216 5 6 1 13 (some [])),
  ([], tRet),
  ([xLdA 0, xC (.int 1)], tCv 216 5 6 1 15 (some [])),
  ([], tRet),
  ([xLdA 0], tCv 217 4 6 0 17 (some [])),
  ([], tRet),
  ([xLdA 0], tCv 218 3 6 0 19 (some [])),
  ([], tRet)]
/-- HandFingersModel.event(II)I -/
def i_220 : MI := (RX6, cX6_event, 3, yX6_event, (some .int), (5, 118), [])
def P_220 : List Nat := [0, 6, 9, 13, 19, 22, 26, 27, 37, 39, 43, 47, 52, 55, 60, 65, 68, 74]
noncomputable def B_220 : List Bk := [([xLdA 0, xLdA 0, xLd 1], tCv 188 2 6 1 1 (some [])),
  ([], tNe0 3 2),
  ([xC (.int 1)], tGo 7),
  ([xLd 2, xC (.int 0), xC (.int 2)], tCs 157 3 3 4),
  ([], tEq0 6 5),
  ([xC (.int 0)], tGo 7),
  ([xC (.int 2)], tGo 7),
  ([xPut 6 7 (.int), xLdA 0, xGet 6 7], tLe0 9 8),
  ([xC (.int 0)], tRet),
  ([xLdA 0], tCv 201 5 6 0 10 (some [])),
  ([xLd 2], tNe0 13 11),
  ([xLdA 0, xLd 1], tCv 183 2 6 1 12 (some [])),
  ([], tGo 17),
  ([xLd 2, xC (.int 1)], tNe 16 14),
  ([xLdA 0, xLd 1], tCv 184 2 6 1 15 (some [])),
  ([], tGo 17),
  ([xLdA 0, xGet 6 20, xLd 1, xAld], tGo 17),
  ([], tRet)]
/-- HandFingersModel.note(III)I -/
def i_221 : MI := (RX6, cX6_note, 4, yX6_note, (some .int), (3, 65), [])
def P_221 : List Nat := [0, 7, 10, 14, 20, 23, 27, 28, 38, 40, 44, 50, 53, 59]
noncomputable def B_221 : List Bk := [([xLdA 0, xLdA 0, xLd 1, xLd 2], tCv 189 3 6 2 1 (some [])),
  ([], tNe0 3 2),
  ([xC (.int 1)], tGo 7),
  ([xLd 3, xC (.int 0), xC (.int 1)], tCs 157 3 3 4),
  ([], tEq0 6 5),
  ([xC (.int 0)], tGo 7),
  ([xC (.int 2)], tGo 7),
  ([xPut 6 7 (.int), xLdA 0, xGet 6 7], tLe0 9 8),
  ([xC (.int 0)], tRet),
  ([xLd 3], tNe0 12 10),
  ([xLdA 0, xLd 1, xLd 2], tCv 185 3 6 2 11 (some [])),
  ([], tGo 13),
  ([xLdA 0, xLd 1, xLd 2], tCv 186 3 6 2 13 (some [])),
  ([], tRet)]
/-- HandFingersModel.weight(I)I -/
def i_222 : MI := (RX6, cX6_weight, 2, yX6_weight, (some .int), (1, 22), [])
def P_222 : List Nat := [0, 8, 11, 15, 16, 26, 30, 35]
noncomputable def B_222 : List Bk := [([xLdA 0, xLd 1, xC (.int 0), xC (.int 9)], tCs 157 3 3 1),
  ([], tEq0 3 2),
  ([xC (.int 0)], tGo 4),
  ([xC (.int 1)], tGo 4),
  ([xPut 6 7 (.int), xLdA 0, xGet 6 7], tLe0 6 5),
  ([xC (.int 0)], tGo 7),
  ([xLdA 0, xLd 1], tCv 187 2 6 1 7 (some [])),
  ([], tRet)]
/-- HandFingersModel.span(III)I -/
def i_223 : MI := (RX6, cX6_span, 4, yX6_span, (some .int), (2, 45), [])
def P_223 : List Nat := [0, 5, 8, 12, 15, 19, 24, 30, 33, 37, 38, 48, 52, 61, 64]
noncomputable def B_223 : List Bk := [([xLdA 0, xLd 1], tCs 190 1 1 1),
  ([], tEq0 4 2),
  ([xLd 2], tCs 190 1 1 3),
  ([], tNe0 5 4),
  ([xC (.int 1)], tGo 10),
  ([xLd 1, xLd 2], tEq 9 6),
  ([xLd 3, xC (.int 0), xC (.int 2)], tCs 157 3 3 7),
  ([], tEq0 9 8),
  ([xC (.int 0)], tGo 10),
  ([xC (.int 2)], tGo 10),
  ([xPut 6 7 (.int), xLdA 0, xGet 6 7], tLe0 12 11),
  ([xC (.int 0)], tGo 14),
  ([xLdA 0, xGet 6 0, xLd 1, xLd 2], tCs 155 5 2 13),
  ([xLd 3, xAdd, xAld], tGo 14),
  ([], tRet)]
/-- HandFingersModel.isOnBoard(I)Z -/
def i_224 : MI := (RX6, cX6_isOnBoard, 1, yX6_isOnBoard, (some .boolean), (1, 22), [])
def P_224 : List Nat := [0, 8]
noncomputable def B_224 : List Bk := [([xLd 0, xC (.int 21), xC (.int 108)], tCs 157 3 3 1),
  ([], tRetZ)]
/-- HandFingersModel.link(IIII)I -/
def i_225 : MI := (RX6, cX6_link, 5, yX6_link, (some .int), (4, 96), [])
def P_225 : List Nat := [0, 5, 8, 12, 15, 19, 23, 26, 31, 34, 38, 39, 49, 53, 62]
noncomputable def B_225 : List Bk := [([xLdA 0, xLd 1], tCs 190 1 1 1),
  ([], tEq0 4 2),
  ([xLd 3], tCs 190 1 1 3),
  ([], tNe0 5 4),
  ([xC (.int 1)], tGo 11),
  ([xLd 2], tCs 224 1 1 6),
  ([], tEq0 10 7),
  ([xLd 4], tCs 224 1 1 8),
  ([], tEq0 10 9),
  ([xC (.int 0)], tGo 11),
  ([xC (.int 2)], tGo 11),
  ([xPut 6 7 (.int), xLdA 0, xGet 6 7], tLe0 13 12),
  ([xC (.int 0)], tGo 14),
  ([xLdA 0, xLd 1, xLd 2, xLd 3, xLd 4], tCv 195 8 6 4 14 (some [])),
  ([], tRet)]
/-- HandFingersModel.best()I -/
def i_226 : MI := (RX6, cX6_best, 1, yX6_best, (some .int), (9, 214), [])
def P_226 : List Nat := [0, 9, 12]
noncomputable def B_226 : List Bk := [([xLdA 0, xC (.int 0), xPut 6 7 (.int), xLdA 0], tCv 212 1 6 0 1 (some [])),
  ([], tCs 213 1 1 2),
  ([], tRet)]
/-- HandFingersModel.finger(II)I -/
def i_227 : MI := (RX6, cX6_finger, 3, yX6_finger, (some .int), (10, 237), [])
def P_227 : List Nat := [0, 7, 10, 14, 18, 21, 25, 26, 36, 40, 55]
noncomputable def B_227 : List Bk := [([xLdA 0, xLdA 0, xLd 1, xLd 2], tCv 189 3 6 2 1 (some [])),
  ([], tNe0 3 2),
  ([xC (.int 1)], tGo 7),
  ([xLdA 0], tCv 214 4 6 0 4 (some [])),
  ([], tEq0 6 5),
  ([xC (.int 0)], tGo 7),
  ([xC (.int 2)], tGo 7),
  ([xPut 6 7 (.int), xLdA 0, xGet 6 7], tLe0 9 8),
  ([xC (.int 0)], tGo 10),
  ([xLdA 0, xGet 6 18, xLdA 0, xGet 6 21, xLd 1, xAld, xAld, xLd 2], tCs 199 2 2 10),
  ([], tRet)]
/-- HandFingersModel.part(II)I -/
def i_228 : MI := (RX6, cX6_part, 5, yX6_part, (some .int), (10, 237), [])
def P_228 : List Nat := [0, 6, 9, 13, 19, 22, 26, 30, 33, 37, 38, 48, 50, 54, 66, 70, 72, 104, 114, 117, 127]
noncomputable def B_228 : List Bk := [([xLdA 0, xLdA 0, xLd 1], tCv 188 2 6 1 1 (some [])),
  ([], tNe0 3 2),
  ([xC (.int 1)], tGo 10),
  ([xLd 2, xC (.int 0), xC (.int 2)], tCs 157 3 3 4),
  ([], tNe0 6 5),
  ([xC (.int 2)], tGo 10),
  ([xLdA 0], tCv 214 4 6 0 7 (some [])),
  ([], tEq0 9 8),
  ([xC (.int 0)], tGo 10),
  ([xC (.int 3)], tGo 10),
  ([xPut 6 7 (.int), xLdA 0, xGet 6 7], tLe0 12 11),
  ([xC (.int 0)], tRet),
  ([xLd 2], tNe0 14 13),
  ([xLdA 0, xGet 6 19, xLdA 0, xGet 6 21, xLd 1, xAld, xAld], tRet),
  ([xLd 1], tNe0 16 15),
  ([xC (.int 0)], tRet),
  ([xLdA 0, xGet 6 18, xLdA 0, xGet 6 21, xLd 1, xC (.int 1), xSub, xAld, xAld, xSt 3, xLdA 0, xGet 6 18, xLdA 0, xGet 6 21, xLd 1, xAld, xAld, xSt 4, xLd 2, xC (.int 1)], tNe 19 17),
  ([xLdA 0, xLd 1, xC (.int 1), xSub, xLd 3, xLd 4], tCv 205 6 6 3 18 (some [])),
  ([], tGo 20),
  ([xLdA 0, xLd 1, xC (.int 1), xSub, xLd 3, xLd 4], tCv 207 6 6 3 20 (some [])),
  ([], tRet)]
/-- HandFingersModel.many(Z)J -/
def i_229 : MI := (RX6, cX6_many, 6, yX6_many, (some .long), (9, 214), [])
def P_229 : List Nat := [0, 9, 14, 17, 19, 24, 35, 43, 53, 64, 71, 81, 82, 93]
noncomputable def B_229 : List Bk := [([xLdA 0, xC (.int 0), xPut 6 7 (.int), xLdA 0], tCv 212 1 6 0 1 (some [])),
  ([xSt 2, xLdA 0], tCv 182 1 6 0 2 (some [])),
  ([], tNe0 4 3),
  ([xC (.long 1)], tRetL),
  ([xC (.long 0), xStL 3, xC (.int 0), xSt 5], tGo 5),
  ([xLd 5, xLdA 0, xGet 6 20, xC (.int 0), xAld], tGe 13 6),
  ([xC (.long 1000000000000000), xLdL 3, xLd 1], tNe0 8 7),
  ([xLdA 0, xGet 6 24, xLd 5, xLld], tGo 12),
  ([xLdA 0, xGet 6 22, xLd 5, xAld, xLd 2], tNe 11 9),
  ([xLd 2, xC (.int 1000000000)], tGe 11 10),
  ([xLdA 0, xGet 6 25, xLd 5, xLld], tGo 12),
  ([xC (.long 0)], tGo 12),
  ([xLadd, xLmin, xStL 3, xInc 5 1], tGo 5),
  ([xLdL 3], tRetL)]
/-- HandFingersModel.costWith(III)I -/
def i_230 : MI := (RX6, cX6_costWith, 6, yX6_costWith, (some .int), (8, 194), [])
def P_230 : List Nat := [0, 7, 10, 14, 17, 21, 22, 32, 34, 38, 42, 53, 69, 80, 84, 97, 110, 118, 123, 129, 134]
noncomputable def B_230 : List Bk := [([xLdA 0, xLdA 0, xLd 1, xLd 2], tCv 189 3 6 2 1 (some [])),
  ([], tEq0 5 2),
  ([xLd 3], tCs 190 1 1 3),
  ([], tEq0 5 4),
  ([xC (.int 0)], tGo 6),
  ([xC (.int 1)], tGo 6),
  ([xPut 6 7 (.int), xLdA 0, xGet 6 7], tLe0 8 7),
  ([xC (.int 0)], tRet),
  ([xLdA 0], tCv 208 3 6 0 9 (some [])),
  ([xLdA 0], tCv 210 6 6 0 10 (some [])),
  ([xC (.int 1000000000), xSt 4, xC (.int 10), xLd 1, xMul, xSt 5], tGo 11),
  ([xLd 5, xC (.int 10), xLd 1, xMul, xLdA 0, xGet 6 20, xLd 1, xAld, xAdd], tGe 19 12),
  ([xLdA 0, xGet 6 18, xLd 5, xAld, xLd 2], tCs 199 2 2 13),
  ([xLd 3], tNe 18 14),
  ([xLdA 0, xGet 6 22, xLd 5, xAld, xC (.int 1000000000)], tGe 18 15),
  ([xLdA 0, xGet 6 23, xLd 5, xAld, xC (.int 1000000000)], tGe 18 16),
  ([xLd 4, xLdA 0, xLd 5], tCv 231 2 6 1 17 (some [])),
  ([xMin, xSt 4], tGo 18),
  ([xInc 5 1], tGo 11),
  ([xLd 4], tCs 213 1 1 20),
  ([], tRet)]
/-- HandFingersModel.through(I)I -/
def i_231 : MI := (RX6, cX6_through, 2, yX6_through, (some .int), (0, 0), [])
def P_231 : List Nat := [0, 12, 24, 30, 50]
noncomputable def B_231 : List Bk := [([xLdA 0, xGet 6 22, xLd 1, xAld, xC (.int 1000000000)], tGe 2 1),
  ([xLdA 0, xGet 6 23, xLd 1, xAld, xC (.int 1000000000)], tLt 3 2),
  ([xC (.int 1000000000)], tGo 4),
  ([xLdA 0, xGet 6 22, xLd 1, xAld, xLdA 0, xGet 6 23, xLd 1, xAld, xAdd, xLdA 0, xGet 6 19, xLd 1, xAld, xSub], tGo 4),
  ([], tRet)]
/-- HandFingersModel.reaches()I -/
def i_232 : MI := (RX6, cX6_reaches, 4, yX6_reaches, (some .int), (7, 171), [])
def P_232 : List Nat := [0, 9, 13, 17, 22, 25, 30, 45, 57, 63, 64, 71, 77]
noncomputable def B_232 : List Bk := [([xLdA 0, xC (.int 0), xPut 6 7 (.int), xLdA 0], tCv 201 5 6 0 1 (some [])),
  ([xLdA 0], tCv 210 6 6 0 2 (some [])),
  ([xC (.int 0), xSt 1, xC (.int 0), xSt 2], tGo 3),
  ([xLd 2, xLdA 0], tCv 182 1 6 0 4 (some [])),
  ([], tGe 12 5),
  ([xC (.int 10), xLd 2, xMul, xSt 3], tGo 6),
  ([xLd 3, xC (.int 10), xLd 2, xMul, xLdA 0, xGet 6 20, xLd 2, xAld, xAdd], tGe 11 7),
  ([xLdA 0, xGet 6 23, xLd 3, xAld, xC (.int 1000000000)], tGe 9 8),
  ([xLd 2, xC (.int 1), xAdd], tGo 10),
  ([xLd 1], tGo 10),
  ([xSt 1, xInc 3 1], tGo 6),
  ([xInc 2 1], tGo 3),
  ([xLd 1], tRet)]
/-- HandFingersModel.uses(I)I -/
def i_233 : MI := (RX6, cX6_uses, 5, yX6_uses, (some .int), (10, 237), [])
def P_233 : List Nat := [0, 5, 8, 12, 16, 19, 23, 24, 34, 36, 40, 45, 48, 51, 58, 61, 78, 82, 86, 87, 95, 101]
noncomputable def B_233 : List Bk := [([xLdA 0, xLd 1], tCs 190 1 1 1),
  ([], tNe0 3 2),
  ([xC (.int 1)], tGo 7),
  ([xLdA 0], tCv 214 4 6 0 4 (some [])),
  ([], tEq0 6 5),
  ([xC (.int 0)], tGo 7),
  ([xC (.int 2)], tGo 7),
  ([xPut 6 7 (.int), xLdA 0, xGet 6 7], tLe0 9 8),
  ([xC (.int 0)], tRet),
  ([xC (.int 0), xSt 2, xC (.int 0), xSt 3], tGo 10),
  ([xLd 3, xLdA 0], tCv 182 1 6 0 11 (some [])),
  ([], tGe 21 12),
  ([xC (.int 0), xSt 4], tGo 13),
  ([xLd 4, xLdA 0, xLd 3], tCv 183 2 6 1 14 (some [])),
  ([], tGe 20 15),
  ([xLd 2, xLdA 0, xGet 6 18, xLdA 0, xGet 6 21, xLd 3, xAld, xAld, xLd 4], tCs 199 2 2 16),
  ([xLd 1], tNe 18 17),
  ([xC (.int 1)], tGo 19),
  ([xC (.int 0)], tGo 19),
  ([xAdd, xSt 2, xInc 4 1], tGo 13),
  ([xInc 3 1], tGo 10),
  ([xLd 2], tRet)]
/-- HandFingersModel.isSure(III)Z -/
def i_234 : MI := (RX6, cX6_isSure, 6, yX6_isSure, (some .boolean), (1, 21), [])
def P_234 : List Nat := [0, 9, 25, 33, 37, 49, 53, 54, 63, 73, 77, 78]
noncomputable def B_234 : List Bk := [([xC (.int 0), xSt 4, xC (.int 10), xLd 1, xMul, xSt 5], tGo 1),
  ([xLd 5, xC (.int 10), xLd 1, xMul, xLdA 0, xGet 6 20, xLd 1, xAld, xAdd], tGe 8 2),
  ([xLd 4, xLdA 0, xLd 5], tCv 231 2 6 1 3 (some [])),
  ([xLd 3], tNe 6 4),
  ([xC (.int 1), xLdA 0, xGet 6 18, xLd 5, xAld, xLd 2], tCs 199 2 2 5),
  ([xShl], tGo 7),
  ([xC (.int 0)], tGo 7),
  ([xOr, xSt 4, xInc 5 1], tGo 1),
  ([xLd 4, xLd 4, xC (.int 1), xSub, xAnd], tNe0 10 9),
  ([xC (.int 1)], tGo 11),
  ([xC (.int 0)], tGo 11),
  ([], tRetZ)]
/-- HandFingersModel.sure()I -/
def i_235 : MI := (RX6, cX6_sure, 5, yX6_sure, (some .int), (9, 214), [])
def P_235 : List Nat := [0, 4, 13, 17, 18, 28, 30, 34, 38, 43, 46, 49, 56, 59, 68, 71, 75, 76, 84, 90]
noncomputable def B_235 : List Bk := [([xLdA 0], tCv 212 1 6 0 1 (some [])),
  ([xSt 1, xLdA 0, xLd 1, xC (.int 1000000000)], tGe 3 2),
  ([xC (.int 0)], tGo 4),
  ([xC (.int 1)], tGo 4),
  ([xPut 6 7 (.int), xLdA 0, xGet 6 7], tLe0 6 5),
  ([xC (.int 0)], tRet),
  ([xLdA 0], tCv 210 6 6 0 7 (some [])),
  ([xC (.int 0), xSt 2, xC (.int 0), xSt 3], tGo 8),
  ([xLd 3, xLdA 0], tCv 182 1 6 0 9 (some [])),
  ([], tGe 19 10),
  ([xC (.int 0), xSt 4], tGo 11),
  ([xLd 4, xLdA 0, xLd 3], tCv 183 2 6 1 12 (some [])),
  ([], tGe 18 13),
  ([xLd 2, xLdA 0, xLd 3, xLd 4, xLd 1], tCv 234 6 6 3 14 (some [])),
  ([], tEq0 16 15),
  ([xC (.int 1)], tGo 17),
  ([xC (.int 0)], tGo 17),
  ([xAdd, xSt 2, xInc 4 1], tGo 11),
  ([xInc 3 1], tGo 8),
  ([xLd 2], tRet)]
/-- HandFingersModel.mean()D -/
def i_236 : MI := (RX6, cX6_mean, 2, yX6_mean, (some .double), (9, 214), [])
def P_236 : List Nat := [0, 4, 13, 17, 18, 28, 32, 35, 39, 45, 47]
noncomputable def B_236 : List Bk := [([xLdA 0], tCv 212 1 6 0 1 (some [])),
  ([xSt 1, xLdA 0, xLd 1, xC (.int 1000000000)], tGe 3 2),
  ([xC (.int 0)], tGo 4),
  ([xC (.int 1)], tGo 4),
  ([xPut 6 7 (.int), xLdA 0, xGet 6 7], tGt0 7 5),
  ([xLdA 0], tCv 182 1 6 0 6 (some [])),
  ([], tNe0 8 7),
  ([xC (.double FP.dconst0)], tGo 10),
  ([xLd 1, xI2D, xLdA 0], tCv 192 3 6 0 9 (some [])),
  ([xI2D, xDdiv], tGo 10),
  ([], tRetD)]
/-- HandFingersModel.readsFingers()V -/
def i_237 : MI := (RX6, cX6_readsFingers, 4, yX6_readsFingers, none, (4, 87), [])
def P_237 : List Nat := [0, 4, 6, 11, 14, 26, 32, 35, 42, 50, 56, 71, 86, 92, 99, 107, 116, 121, 123, 126, 130]
noncomputable def B_237 : List Bk := [([xLdA 0], tCv 169 1 6 0 1 (some [])),
  ([xC (.int 0), xSt 1], tGo 2),
  ([xLd 1, xLdA 0], tCv 182 1 6 0 3 (some [])),
  ([], tGe 13 4),
  ([xLdA 0, xGet 6 26, xLd 1, xC (.int 0), xAst, xC (.int 25), xSt 2, xC (.int 0), xSt 3], tGo 5),
  ([xLd 3, xLdA 0, xLd 1], tCv 183 2 6 1 6 (some [])),
  ([], tGe 12 7),
  ([xLdA 0, xGet 6 14], tNe0 12 8),
  ([xLdA 0, xGet 6 12, xC (.int 3)], tNe 10 9),
  ([xLdA 0, xC (.int (-4))], tCv 172 2 6 1 10 (some [])),
  ([xLdA 0, xGet 6 26, xLd 1, xDup2, xAld, xLd 2, xLdA 0, xC (.int 1), xC (.int 5), xC (.int 1)], tCv 175 5 6 3 11 (some [])),
  ([xC (.int 1), xSub, xMul, xAdd, xAst, xLd 2, xC (.int 5), xDiv, xSt 2, xInc 3 1], tGo 5),
  ([xInc 1 1], tGo 2),
  ([xLdA 0, xGet 6 14], tNe0 19 14),
  ([xLdA 0, xGet 6 12, xC (.int 3)], tEq 19 15),
  ([xLdA 0, xLdA 0, xGet 6 12, xC (.int 1)], tNe 17 16),
  ([xC (.int (-5))], tGo 18),
  ([xC (.int (-2))], tGo 18),
  ([], tCv 172 2 6 1 19 (some [])),
  ([xLdA 0], tCv 170 1 6 0 20 (some [])),
  ([], tRetV)]
/-- HandFingersModel.costOfEvent(I)I -/
def i_238 : MI := (RX6, cX6_costOfEvent, 2, yX6_costOfEvent, (some .int), (4, 94), [])
def P_238 : List Nat := [0, 12, 15, 20]
noncomputable def B_238 : List Bk := [([xLdA 0, xLdA 0, xGet 6 26, xLd 1, xAld, xLdA 0, xLd 1], tCv 183 2 6 1 1 (some [])),
  ([], tCv 200 4 6 2 2 (some [])),
  ([xLdA 0, xLd 1], tCv 198 6 6 1 3 (some [])),
  ([], tRet)]
/-- HandFingersModel.faultNow()I -/
def i_239 : MI := (RX6, cX6_faultNow, 2, yX6_faultNow, (some .int), (6, 146), [])
def P_239 : List Nat := [0, 2, 7, 10, 15, 19, 26, 30, 51, 55, 62, 68]
noncomputable def B_239 : List Bk := [([xC (.int 0), xSt 1], tGo 1),
  ([xLd 1, xLdA 0], tCv 182 1 6 0 2 (some [])),
  ([], tGe 11 3),
  ([xLdA 0, xLd 1], tCv 238 2 6 1 4 (some [])),
  ([xC (.int (-1))], tNe 6 5),
  ([xC (.int 10), xLd 1, xMul, xC (.int 1), xAdd], tRet),
  ([xLd 1], tLe0 10 7),
  ([xLdA 0, xLd 1, xC (.int 1), xSub, xLdA 0, xGet 6 26, xLd 1, xC (.int 1), xSub, xAld, xLdA 0, xGet 6 26, xLd 1, xAld], tCv 205 6 6 3 8 (some [])),
  ([xC (.int (-1))], tNe 10 9),
  ([xC (.int 10), xLd 1, xMul, xC (.int 2), xAdd], tRet),
  ([xInc 1 1], tGo 1),
  ([xC (.int (-1))], tRet)]
/-- HandFingersModel.costOfTold()I -/
def i_240 : MI := (RX6, cX6_costOfTold, 3, yX6_costOfTold, (some .int), (7, 167), [])
def P_240 : List Nat := [0, 4, 11, 16, 20, 24, 27, 31, 36, 39, 45, 49, 70, 73, 74, 83]
noncomputable def B_240 : List Bk := [([xLdA 0], tCv 237 4 6 0 1 (some [])),
  ([xLdA 0, xGet 6 14], tEq0 3 2),
  ([xLdA 0, xGet 6 14], tRet),
  ([xLdA 0], tCv 239 2 6 0 4 (some [])),
  ([xC (.int (-1))], tEq 6 5),
  ([xC (.int (-10))], tRet),
  ([xC (.int 0), xSt 1, xC (.int 0), xSt 2], tGo 7),
  ([xLd 2, xLdA 0], tCv 182 1 6 0 8 (some [])),
  ([], tGe 15 9),
  ([xLd 1, xLdA 0, xLd 2], tCv 238 2 6 1 10 (some [])),
  ([xLd 2], tLe0 13 11),
  ([xLdA 0, xLd 2, xC (.int 1), xSub, xLdA 0, xGet 6 26, xLd 2, xC (.int 1), xSub, xAld, xLdA 0, xGet 6 26, xLd 2, xAld], tCv 205 6 6 3 12 (some [])),
  ([], tGo 14),
  ([xC (.int 0)], tGo 14),
  ([xAdd, xAdd, xSt 1, xInc 2 1], tGo 7),
  ([xLd 1], tRet)]
/-- HandFingersModel.faultOfTold()I -/
def i_241 : MI := (RX6, cX6_faultOfTold, 2, yX6_faultOfTold, (some .int), (7, 167), [])
def P_241 : List Nat := [0, 4, 11, 16, 20, 26, 31, 32]
noncomputable def B_241 : List Bk := [([xLdA 0], tCv 237 4 6 0 1 (some [])),
  ([xLdA 0, xGet 6 14], tEq0 3 2),
  ([xLdA 0, xGet 6 14], tRet),
  ([xLdA 0], tCv 239 2 6 0 4 (some [])),
  ([xSt 1, xLd 1, xC (.int (-1))], tNe 6 5),
  ([xC (.int (-10))], tGo 7),
  ([xLd 1], tGo 7),
  ([], tRet)]
/-- HandFingersModel.otherHand()I -/
def i_242 : MI := (RX6, cX6_otherHand, 2, yX6_otherHand, (some .int), (9, 214), [])
def P_242 : List Nat := [0, 23, 42]
noncomputable def B_242 : List Bk := [([xLdA 0, xC (.int 0), xPut 6 7 (.int), xLdA 0, xGet 6 0, xC (.int 1), xC (.int 1), xLdA 0, xGet 6 0, xC (.int 1), xAld, xSub, xAst, xLdA 0], tCv 212 1 6 0 1 (some [])),
  ([xSt 1, xLdA 0, xGet 6 0, xC (.int 1), xC (.int 1), xLdA 0, xGet 6 0, xC (.int 1), xAld, xSub, xAst, xLd 1], tCs 213 1 1 2),
  ([], tRet)]
/-- HandFingersModel.canMove(I)Z -/
def i_243 : MI := (RX6, cX6_canMove, 2, yX6_canMove, (some .boolean), (2, 46), [])
def P_243 : List Nat := [0, 8, 11, 15, 18, 23, 28, 31, 36, 41, 44, 48, 49]
noncomputable def B_243 : List Bk := [([xLd 1, xC (.int (-87)), xC (.int 87)], tCs 157 3 3 1),
  ([], tEq0 11 2),
  ([xLdA 0], tCv 182 1 6 0 3 (some [])),
  ([], tEq0 10 4),
  ([xLdA 0, xC (.int 0)], tCv 216 5 6 1 5 (some [])),
  ([xLd 1, xAdd], tCs 224 1 1 6),
  ([], tEq0 11 7),
  ([xLdA 0, xC (.int 1)], tCv 216 5 6 1 8 (some [])),
  ([xLd 1, xAdd], tCs 224 1 1 9),
  ([], tEq0 11 10),
  ([xC (.int 1)], tGo 12),
  ([xC (.int 0)], tGo 12),
  ([], tRetZ)]
/-- HandFingersModel.moves(I)V -/
def i_244 : MI := (RX6, cX6_moves, 4, yX6_moves, none, (1, 21), [])
def P_244 : List Nat := [0, 2, 7, 10, 12, 18, 21, 47, 53]
noncomputable def B_244 : List Bk := [([xC (.int 0), xSt 2], tGo 1),
  ([xLd 2, xLdA 0], tCv 182 1 6 0 2 (some [])),
  ([], tGe 8 3),
  ([xC (.int 0), xSt 3], tGo 4),
  ([xLd 3, xLdA 0, xLd 2], tCv 183 2 6 1 5 (some [])),
  ([], tGe 7 6),
  ([xLdA 0, xGet 6 0, xC (.int 42), xC (.int 8), xLd 2, xMul, xAdd, xC (.int 2), xAdd, xLd 3, xAdd, xDup2, xAld, xLd 1, xAdd, xAst, xInc 3 1], tGo 4),
  ([xInc 2 1], tGo 1),
  ([], tRetV)]
/-- HandFingersModel.bestMoved(I)I -/
def i_245 : MI := (RX6, cX6_bestMoved, 3, yX6_bestMoved, (some .int), (9, 214), [])
def P_245 : List Nat := [0, 5, 9, 16]
noncomputable def B_245 : List Bk := [([xLdA 0, xLd 1], tCv 244 4 6 1 1 (some [])),
  ([xLdA 0], tCv 212 1 6 0 2 (some [])),
  ([xSt 2, xLdA 0, xLd 1, xNeg], tCv 244 4 6 1 3 (some [])),
  ([xLd 2], tRet)]
/-- HandFingersModel.transposed(I)I -/
def i_246 : MI := (RX6, cX6_transposed, 2, yX6_transposed, (some .int), (10, 236), [])
def P_246 : List Nat := [0, 6, 9, 13, 14, 24, 28, 33, 36]
noncomputable def B_246 : List Bk := [([xLdA 0, xLdA 0, xLd 1], tCv 243 2 6 1 1 (some [])),
  ([], tEq0 3 2),
  ([xC (.int 0)], tGo 4),
  ([xC (.int 1)], tGo 4),
  ([xPut 6 7 (.int), xLdA 0, xGet 6 7], tLe0 6 5),
  ([xC (.int 0)], tGo 8),
  ([xLdA 0, xLd 1], tCv 245 3 6 1 7 (some [])),
  ([], tCs 213 1 1 8),
  ([], tRet)]
/-- HandFingersModel.easiest(I)I -/
def i_247 : MI := (RX6, cX6_easiest, 7, yX6_easiest, (some .int), (10, 236), [])
def P_247 : List Nat := [0, 8, 11, 15, 16, 26, 28, 37, 45, 53, 63, 67, 75, 78, 84, 87, 90, 98, 101, 107, 113, 121, 125, 126, 136, 140, 141]
noncomputable def B_247 : List Bk := [([xLdA 0, xLd 1, xC (.int 0), xC (.int 24)], tCs 157 3 3 1),
  ([], tEq0 3 2),
  ([xC (.int 0)], tGo 4),
  ([xC (.int 1)], tGo 4),
  ([xPut 6 7 (.int), xLdA 0, xGet 6 7], tLe0 6 5),
  ([xC (.int 0)], tRet),
  ([xC (.int 0), xSt 2, xC (.int 1000000000), xSt 3, xC (.int 0), xSt 4], tGo 7),
  ([xLd 4, xC (.int 2), xLd 1, xMul], tGt 20 8),
  ([xLd 4, xC (.int 2), xRem, xC (.int 1)], tNe 10 9),
  ([xLd 4, xC (.int 1), xAdd, xNeg, xC (.int 2), xDiv], tGo 11),
  ([xLd 4, xC (.int 2), xDiv], tGo 11),
  ([xSt 5, xLdA 0, xLd 5], tCv 243 2 6 1 12 (some [])),
  ([], tEq0 15 13),
  ([xLdA 0, xLd 5], tCv 245 3 6 1 14 (some [])),
  ([], tGo 16),
  ([xC (.int 1000000000)], tGo 16),
  ([xSt 6, xLd 6, xLd 3], tLt 18 17),
  ([], tGo 19),
  ([xLd 6, xSt 3, xLd 5, xSt 2], tGo 19),
  ([xInc 4 1], tGo 7),
  ([xLdA 0, xLd 3, xC (.int 1000000000)], tGe 22 21),
  ([xC (.int 0)], tGo 23),
  ([xC (.int 2)], tGo 23),
  ([xPut 6 7 (.int), xLdA 0, xGet 6 7], tLe0 25 24),
  ([xC (.int 0)], tGo 26),
  ([xLd 2], tGo 26),
  ([], tRet)]
/-- HandFingersModel.restBehind()I -/
def i_248 : MI := (RX6, cX6_restBehind, 6, yX6_restBehind, (some .int), (9, 214), [])
def P_248 : List Nat := [0, 9, 14, 21, 24, 29, 51, 75, 78, 83, 89]
noncomputable def B_248 : List Bk := [([xLdA 0, xC (.int 0), xPut 6 7 (.int), xLdA 0], tCv 212 1 6 0 1 (some [])),
  ([xSt 1, xC (.int (-1)), xSt 2, xC (.int 0), xSt 3], tGo 2),
  ([xLd 3, xC (.int 1), xAdd, xLdA 0], tCv 182 1 6 0 3 (some [])),
  ([], tGe 10 4),
  ([xLdA 0, xLd 3], tCv 184 2 6 1 5 (some [])),
  ([xSt 4, xLdA 0, xGet 6 0, xC (.int 42), xC (.int 8), xLd 3, xMul, xAdd, xC (.int 1), xAdd, xC (.int 9), xAst, xLdA 0], tCv 212 1 6 0 6 (some [])),
  ([xSt 5, xLdA 0, xGet 6 0, xC (.int 42), xC (.int 8), xLd 3, xMul, xAdd, xC (.int 1), xAdd, xLd 4, xAst, xLd 5, xLd 1], tLt 8 7),
  ([], tGo 9),
  ([xLd 5, xSt 1, xLd 3, xSt 2], tGo 9),
  ([xInc 3 1], tGo 2),
  ([xLd 2], tRet)]
/-- HandFingersModel.areKeys(III)Z -/
def i_249 : MI := (RX6, cX6_areKeys, 3, yX6_areKeys, (some .boolean), (2, 42), [])
def P_249 : List Nat := [0, 4, 7, 9, 13, 17, 21, 22, 23, 28, 32, 35, 39, 44, 48, 51, 55, 56]
noncomputable def B_249 : List Bk := [([xLd 0], tCs 224 1 1 1),
  ([], tNe0 3 2),
  ([xC (.int 0)], tRetZ),
  ([xLd 1], tNe0 8 4),
  ([xLd 2], tNe0 6 5),
  ([xC (.int 1)], tGo 7),
  ([xC (.int 0)], tGo 7),
  ([], tRetZ),
  ([xLd 1, xLd 0], tLe 16 9),
  ([xLd 1], tCs 224 1 1 10),
  ([], tEq0 16 11),
  ([xLd 2], tEq0 15 12),
  ([xLd 2, xLd 1], tLe 16 13),
  ([xLd 2], tCs 224 1 1 14),
  ([], tEq0 16 15),
  ([xC (.int 1)], tGo 17),
  ([xC (.int 0)], tGo 17),
  ([], tRetZ)]
/-- HandFingersModel.play(IIIII)I -/
def i_250 : MI := (RX6, cX6_play, 8, yX6_play, (some .int), (3, 64), [])
def P_250 : List Nat := [0, 7, 10, 13, 17, 24, 27, 35, 38, 42, 43, 53, 55, 59, 64, 67, 75, 89, 99, 122, 132, 136, 141, 145, 146, 192, 198, 218, 232]
noncomputable def B_250 : List Bk := [([xLdA 0, xLd 1, xC (.int 0), xLdA 0], tCv 182 1 6 0 1 (some [])),
  ([], tCs 157 3 3 2),
  ([], tNe0 4 3),
  ([xC (.int 1)], tGo 10),
  ([xLd 2, xLd 3, xLd 4], tCs 249 3 3 5),
  ([], tEq0 9 6),
  ([xLd 5, xC (.int 0), xC (.int 9)], tCs 157 3 3 7),
  ([], tEq0 9 8),
  ([xC (.int 0)], tGo 10),
  ([xC (.int 2)], tGo 10),
  ([xPut 6 7 (.int), xLdA 0, xGet 6 7], tLe0 12 11),
  ([xC (.int 0)], tRet),
  ([xLdA 0], tCv 182 1 6 0 13 (some [])),
  ([xC (.int 40)], tNe 15 14),
  ([xC (.int (-10))], tRet),
  ([xLdA 0, xLdA 0, xGet 6 0], tCv 159 3 6 1 16 (some [])),
  ([xC (.int 42), xC (.int 8), xLd 1, xMul, xAdd, xSt 6, xC (.int 361), xSt 7], tGo 17),
  ([xLd 7, xLd 6, xC (.int 8), xAdd], tLt 19 18),
  ([xLdA 0, xGet 6 0, xLd 7, xLdA 0, xGet 6 0, xLd 7, xC (.int 8), xSub, xAld, xAst, xInc 7 (-1)], tGo 17),
  ([xLdA 0, xGet 6 0, xLd 6, xLd 3], tNe0 21 20),
  ([xC (.int 1)], tGo 24),
  ([xLd 4], tNe0 23 22),
  ([xC (.int 2)], tGo 24),
  ([xC (.int 3)], tGo 24),
  ([xAst, xLdA 0, xGet 6 0, xLd 6, xC (.int 1), xAdd, xLd 5, xAst, xLdA 0, xGet 6 0, xLd 6, xC (.int 2), xAdd, xLd 2, xAst, xLdA 0, xGet 6 0, xLd 6, xC (.int 3), xAdd, xLd 3, xAst, xLdA 0, xGet 6 0, xLd 6, xC (.int 4), xAdd, xLd 4, xAst, xC (.int 0), xSt 7], tGo 25),
  ([xLd 7, xC (.int 3)], tGe 27 26),
  ([xLdA 0, xGet 6 0, xLd 6, xC (.int 5), xAdd, xLd 7, xAdd, xC (.int 31), xAst, xInc 7 1], tGo 25),
  ([xLdA 0, xGet 6 0, xC (.int 0), xDup2, xAld, xC (.int 1), xAdd, xAst, xLdA 0], tCv 182 1 6 0 28 (some [])),
  ([], tRet)]
/-- HandFingersModel.drop(I)I -/
def i_251 : MI := (RX6, cX6_drop, 3, yX6_drop, (some .int), (2, 46), [])
def P_251 : List Nat := [0, 6, 9, 13, 14, 24, 26, 34, 42, 49, 70, 84]
noncomputable def B_251 : List Bk := [([xLdA 0, xLdA 0, xLd 1], tCv 188 2 6 1 1 (some [])),
  ([], tEq0 3 2),
  ([xC (.int 0)], tGo 4),
  ([xC (.int 1)], tGo 4),
  ([xPut 6 7 (.int), xLdA 0, xGet 6 7], tLe0 6 5),
  ([xC (.int 0)], tRet),
  ([xLdA 0, xLdA 0, xGet 6 0], tCv 159 3 6 1 7 (some [])),
  ([xC (.int 42), xC (.int 8), xLd 1, xMul, xAdd, xSt 2], tGo 8),
  ([xLd 2, xC (.int 354)], tGe 10 9),
  ([xLdA 0, xGet 6 0, xLd 2, xLdA 0, xGet 6 0, xLd 2, xC (.int 8), xAdd, xAld, xAst, xInc 2 1], tGo 8),
  ([xLdA 0, xGet 6 0, xC (.int 0), xDup2, xAld, xC (.int 1), xSub, xAst, xLdA 0], tCv 182 1 6 0 11 (some [])),
  ([], tRet)]
/-- HandFingersModel.sets(II)I -/
def i_252 : MI := (RX6, cX6_sets, 4, yX6_sets, (some .int), (2, 46), [])
def P_252 : List Nat := [0, 8]
noncomputable def B_252 : List Bk := [([xLdA 0, xLdA 0, xGet 6 0], tCv 159 3 6 1 1 (some [])),
  ([xLdA 0, xGet 6 0, xLd 1, xAld, xSt 3, xLdA 0, xGet 6 0, xLd 1, xLd 2, xAst, xLd 3], tRet)]
/-- HandFingersModel.setRest(II)I -/
def i_253 : MI := (RX6, cX6_setRest, 3, yX6_setRest, (some .int), (3, 69), [])
def P_253 : List Nat := [0, 6, 9, 13, 20, 23, 27, 28, 38, 42, 56]
noncomputable def B_253 : List Bk := [([xLdA 0, xLdA 0, xLd 1], tCv 188 2 6 1 1 (some [])),
  ([], tNe0 3 2),
  ([xC (.int 1)], tGo 7),
  ([xLd 2, xC (.int 0), xC (.int 9)], tCs 157 3 3 4),
  ([], tEq0 6 5),
  ([xC (.int 0)], tGo 7),
  ([xC (.int 2)], tGo 7),
  ([xPut 6 7 (.int), xLdA 0, xGet 6 7], tLe0 9 8),
  ([xC (.int 0)], tGo 10),
  ([xLdA 0, xC (.int 42), xC (.int 8), xLd 1, xMul, xAdd, xC (.int 1), xAdd, xLd 2], tCv 252 4 6 2 10 (some [])),
  ([], tRet)]
/-- HandFingersModel.let(IIIZ)I -/
def i_254 : MI := (RX6, cX6_let, 7, yX6_let, (some .int), (3, 69), [])
def P_254 : List Nat := [0, 7, 10, 14, 17, 21, 22, 32, 34, 63, 76, 88, 91]
noncomputable def B_254 : List Bk := [([xLdA 0, xLdA 0, xLd 1, xLd 2], tCv 189 3 6 2 1 (some [])),
  ([], tEq0 5 2),
  ([xLd 3], tCs 190 1 1 3),
  ([], tEq0 5 4),
  ([xC (.int 0)], tGo 6),
  ([xC (.int 1)], tGo 6),
  ([xPut 6 7 (.int), xLdA 0, xGet 6 7], tLe0 8 7),
  ([xC (.int 0)], tRet),
  ([xC (.int 1), xLd 3, xC (.int 1), xSub, xShl, xSt 5, xC (.int 42), xC (.int 8), xLd 1, xMul, xAdd, xC (.int 5), xAdd, xLd 2, xAdd, xSt 6, xLdA 0, xLdA 0, xLd 6, xLd 4], tEq0 10 9),
  ([xLdA 0, xGet 6 0, xLd 6, xAld, xLd 5, xOr], tGo 11),
  ([xLdA 0, xGet 6 0, xLd 6, xAld, xLd 5, xC (.int (-1)), xXor, xAnd], tGo 11),
  ([], tCv 252 4 6 2 12 (some [])),
  ([xPut 6 27 (.int), xLdA 0, xGet 6 0, xLd 6, xAld], tRet)]
/-- HandFingersModel.setWeight(II)I -/
def i_255 : MI := (RX6, cX6_setWeight, 3, yX6_setWeight, (some .int), (3, 69), [])
def P_255 : List Nat := [0, 8, 11, 15, 22, 25, 29, 30, 40, 44, 52]
noncomputable def B_255 : List Bk := [([xLdA 0, xLd 1, xC (.int 0), xC (.int 9)], tCs 157 3 3 1),
  ([], tNe0 3 2),
  ([xC (.int 1)], tGo 7),
  ([xLd 2, xC (.int 0), xC (.int 99)], tCs 157 3 3 4),
  ([], tEq0 6 5),
  ([xC (.int 0)], tGo 7),
  ([xC (.int 2)], tGo 7),
  ([xPut 6 7 (.int), xLdA 0, xGet 6 7], tLe0 9 8),
  ([xC (.int 0)], tGo 10),
  ([xLdA 0, xC (.int 2), xLd 1, xAdd, xLd 2], tCv 252 4 6 2 10 (some [])),
  ([], tRet)]
/-- HandFingersModel.setSpan(IIIII)I -/
def i_256 : MI := (RX6, cX6_setSpan, 8, yX6_setSpan, (some .int), (3, 71), [])
def P_256 : List Nat := [0, 5, 12, 15, 23, 26, 35, 38, 42, 43, 50, 53, 57, 60, 64, 69, 73, 74, 84, 86, 94, 103, 119]
noncomputable def B_256 : List Bk := [([xLd 1, xLd 2], tEq 8 1),
  ([xLd 3, xC (.int 1), xC (.int 24)], tCs 157 3 3 2),
  ([], tEq0 8 3),
  ([xLd 4, xLd 3, xC (.int 24)], tCs 157 3 3 4),
  ([], tEq0 8 5),
  ([xLd 5, xLd 4, xC (.int 24)], tCs 157 3 3 6),
  ([], tEq0 8 7),
  ([xC (.int 1)], tGo 9),
  ([xC (.int 0)], tGo 9),
  ([xSt 6, xLdA 0, xLd 1], tCs 190 1 1 10),
  ([], tEq0 13 11),
  ([xLd 2], tCs 190 1 1 12),
  ([], tNe0 14 13),
  ([xC (.int 1)], tGo 17),
  ([xLd 6], tEq0 16 15),
  ([xC (.int 0)], tGo 17),
  ([xC (.int 2)], tGo 17),
  ([xPut 6 7 (.int), xLdA 0, xGet 6 7], tLe0 19 18),
  ([xC (.int 0)], tRet),
  ([xLdA 0, xLdA 0, xGet 6 0], tCv 159 3 6 1 20 (some [])),
  ([xLdA 0, xGet 6 0, xLd 1, xLd 2], tCs 155 5 2 21),
  ([xC (.int 2), xAdd, xAld, xSt 7, xLdA 0, xLd 1, xLd 2, xLd 3, xLd 4, xLd 5], tCv 153 7 6 5 22 (some [])),
  ([xLd 7], tRet)]
/-- HandFingersModel.setHand(Z)I -/
def i_257 : MI := (RX6, cX6_setHand, 2, yX6_setHand, (some .int), (9, 214), [])
def P_257 : List Nat := [0, 12, 16, 17, 20, 27, 30]
noncomputable def B_257 : List Bk := [([xLdA 0, xC (.int 0), xPut 6 7 (.int), xLdA 0, xLdA 0, xC (.int 1), xLd 1], tEq0 2 1),
  ([xC (.int 1)], tGo 3),
  ([xC (.int 0)], tGo 3),
  ([], tCv 252 4 6 2 4 (some [])),
  ([xPut 6 27 (.int), xLdA 0], tCv 212 1 6 0 5 (some [])),
  ([], tCs 213 1 1 6),
  ([], tRet)]
/-- HandFingersModel.transpose(I)I -/
def i_258 : MI := (RX6, cX6_transpose, 2, yX6_transpose, (some .int), (9, 214), [])
def P_258 : List Nat := [0, 6, 9, 13, 14, 24, 26, 34, 39, 43, 46]
noncomputable def B_258 : List Bk := [([xLdA 0, xLdA 0, xLd 1], tCv 243 2 6 1 1 (some [])),
  ([], tEq0 3 2),
  ([xC (.int 0)], tGo 4),
  ([xC (.int 1)], tGo 4),
  ([xPut 6 7 (.int), xLdA 0, xGet 6 7], tLe0 6 5),
  ([xC (.int 0)], tRet),
  ([xLdA 0, xLdA 0, xGet 6 0], tCv 159 3 6 1 7 (some [])),
  ([xLdA 0, xLd 1], tCv 244 4 6 1 8 (some [])),
  ([xLdA 0], tCv 212 1 6 0 9 (some [])),
  ([], tCs 213 1 1 10),
  ([], tRet)]
/-- HandFingersModel.fix()I -/
def i_259 : MI := (RX6, cX6_fix, 5, yX6_fix, (some .int), (10, 237), [])
def P_259 : List Nat := [0, 5, 8, 12, 13, 23, 25, 33, 37, 42, 45, 47, 53, 56, 62, 75, 79, 80, 113, 123, 129]
noncomputable def B_259 : List Bk := [([xLdA 0, xLdA 0], tCv 214 4 6 0 1 (some [])),
  ([], tEq0 3 2),
  ([xC (.int 0)], tGo 4),
  ([xC (.int 1)], tGo 4),
  ([xPut 6 7 (.int), xLdA 0, xGet 6 7], tLe0 6 5),
  ([xC (.int 0)], tRet),
  ([xLdA 0, xLdA 0, xGet 6 0], tCv 159 3 6 1 7 (some [])),
  ([xC (.int 0), xSt 1, xC (.int 0), xSt 2], tGo 8),
  ([xLd 2, xLdA 0], tCv 182 1 6 0 9 (some [])),
  ([], tGe 20 10),
  ([xC (.int 0), xSt 3], tGo 11),
  ([xLd 3, xLdA 0, xLd 2], tCv 183 2 6 1 12 (some [])),
  ([], tGe 19 13),
  ([xLdA 0, xLd 2, xLd 3], tCv 186 3 6 2 14 (some [])),
  ([xSt 4, xLd 1, xLd 4, xLd 4, xC (.int 1), xSub, xAnd], tNe0 16 15),
  ([xC (.int 0)], tGo 17),
  ([xC (.int 1)], tGo 17),
  ([xAdd, xSt 1, xLdA 0, xGet 6 0, xC (.int 42), xC (.int 8), xLd 2, xMul, xAdd, xC (.int 5), xAdd, xLd 3, xAdd, xC (.int 1), xLdA 0, xGet 6 18, xLdA 0, xGet 6 21, xLd 2, xAld, xAld, xLd 3], tCs 199 2 2 18),
  ([xC (.int 1), xSub, xShl, xAst, xInc 3 1], tGo 11),
  ([xInc 2 1], tGo 8),
  ([xLd 1], tRet)]
/-- HandFingersModel.says(I)V -/
def i_260 : MI := (RX6, cX6_says, 2, yX6_says, none, (0, 0), [])
def P_260 : List Nat := [0]
noncomputable def B_260 : List Bk := [([xLdA 0, xGet 6 28, xLdA 0, xGet 6 29, xLd 1, xAst, xLdA 0, xDup, xGet 6 29, xC (.int 1), xAdd, xPut 6 29 (.int)], tRetV)]
/-- HandFingersModel.writeFingers()I -/
def i_261 : MI := (RX6, cX6_writeFingers, 3, yX6_writeFingers, (some .int), (10, 237), [])
def P_261 : List Nat := [0, 5, 8, 12, 13, 23, 25, 32, 37, 40, 44, 50, 52, 58, 61, 79, 83, 89, 96, 99, 104, 107, 113, 119]
noncomputable def B_261 : List Bk := [([xLdA 0, xLdA 0], tCv 214 4 6 0 1 (some [])),
  ([], tEq0 3 2),
  ([xC (.int 0)], tGo 4),
  ([xC (.int 1)], tGo 4),
  ([xPut 6 7 (.int), xLdA 0, xGet 6 7], tLe0 6 5),
  ([xC (.int 0)], tRet),
  ([xLdA 0, xC (.int 0), xPut 6 29 (.int), xC (.int 0), xSt 1], tGo 7),
  ([xLd 1, xLdA 0], tCv 182 1 6 0 8 (some [])),
  ([], tGe 23 9),
  ([xLd 1], tLe0 11 10),
  ([xLdA 0, xC (.int 32)], tCv 260 2 6 1 11 (some [])),
  ([xC (.int 0), xSt 2], tGo 12),
  ([xLd 2, xLdA 0, xLd 1], tCv 183 2 6 1 13 (some [])),
  ([], tGe 17 14),
  ([xLdA 0, xC (.int 48), xLdA 0, xGet 6 18, xLdA 0, xGet 6 21, xLd 1, xAld, xAld, xLd 2], tCs 199 2 2 15),
  ([xAdd], tCv 260 2 6 1 16 (some [])),
  ([xInc 2 1], tGo 12),
  ([xLd 1, xC (.int 1), xAdd, xLdA 0], tCv 182 1 6 0 18 (some [])),
  ([], tGe 22 19),
  ([xLdA 0, xLd 1], tCv 193 2 6 1 20 (some [])),
  ([], tEq0 22 21),
  ([xLdA 0, xC (.int 39)], tCv 260 2 6 1 22 (some [])),
  ([xInc 1 1], tGo 7),
  ([xLdA 0, xGet 6 29], tRet)]
/-- HandFingersModel.writtenByte(I)I -/
def i_262 : MI := (RX6, cX6_writtenByte, 2, yX6_writtenByte, (some .int), (1, 22), [])
def P_262 : List Nat := [0, 12, 15, 19, 20, 30, 34, 40]
noncomputable def B_262 : List Bk := [([xLdA 0, xLd 1, xC (.int 0), xLdA 0, xGet 6 29, xC (.int 1), xSub], tCs 157 3 3 1),
  ([], tEq0 3 2),
  ([xC (.int 0)], tGo 4),
  ([xC (.int 1)], tGo 4),
  ([xPut 6 7 (.int), xLdA 0, xGet 6 7], tLe0 6 5),
  ([xC (.int 0)], tGo 7),
  ([xLdA 0, xGet 6 28, xLd 1, xAld], tGo 7),
  ([], tRet)]
/-- HandFingersLaw.append(LHandFingers;IIIII[J)I -/
def i_263 : MI := (RL, cL_append, 8, yL_append, (some .int), (7, 107), [(0, 16, 19, 13)])
def P_263 : List Nat := [0, 14, 21, 23]
noncomputable def B_263 : List Bk := [([xLdA 6, xC (.int 0), xLdA 0, xLd 1, xLd 2, xLd 3, xLd 4, xLd 5], tCv 93 7 5 5 1 (some [("java/lang/IllegalStateException", 7, 2)])),
  ([xI2L, xLst], tGo 3),
  ([xC (.int 1)], tRet),
  ([xC (.int 0)], tRet)]
/-- HandFingersLaw.count(LHandFingers;I[J)I -/
def i_264 : MI := (RL, cL_count, 4, yL_count, (some .int), (7, 102), [(0, 9, 12, 19)])
def P_264 : List Nat := [0, 7, 13, 15]
noncomputable def B_264 : List Bk := [([xLdA 2, xC (.int 0), xLdA 0, xLd 1], tCv 96 2 5 1 1 (some [("java/lang/IllegalArgumentException", 3, 2)])),
  ([xI2L, xLst], tGo 3),
  ([xC (.int 1)], tRet),
  ([xC (.int 0)], tRet)]
/-- HandFingersLaw.event(LHandFingers;II[J)I -/
def i_265 : MI := (RL, cL_event, 5, yL_event, (some .int), (8, 174), [(0, 10, 13, 25), (0, 10, 17, 19)])
def P_265 : List Nat := [0, 8, 15, 19, 21]
noncomputable def B_265 : List Bk := [([xLdA 3, xC (.int 0), xLdA 0, xLd 1, xLd 2], tCv 97 3 5 2 1 (some [("java/lang/IndexOutOfBoundsException", 4, 2), ("java/lang/IllegalArgumentException", 4, 3)])),
  ([xI2L, xLst], tGo 4),
  ([xC (.int 1)], tRet),
  ([xC (.int 2)], tRet),
  ([xC (.int 0)], tRet)]
/-- HandFingersLaw.note(LHandFingers;III[J)I -/
def i_266 : MI := (RL, cL_note, 6, yL_note, (some .int), (9, 147), [(0, 12, 15, 25), (0, 12, 19, 19)])
def P_266 : List Nat := [0, 10, 17, 21, 23]
noncomputable def B_266 : List Bk := [([xLdA 4, xC (.int 0), xLdA 0, xLd 1, xLd 2, xLd 3], tCv 98 4 5 3 1 (some [("java/lang/IndexOutOfBoundsException", 5, 2), ("java/lang/IllegalArgumentException", 5, 3)])),
  ([xI2L, xLst], tGo 4),
  ([xC (.int 1)], tRet),
  ([xC (.int 2)], tRet),
  ([xC (.int 0)], tRet)]
/-- HandFingersLaw.weight(LHandFingers;I[J)I -/
def i_267 : MI := (RL, cL_weight, 4, yL_weight, (some .int), (8, 123), [(0, 9, 12, 25)])
def P_267 : List Nat := [0, 7, 13, 15]
noncomputable def B_267 : List Bk := [([xLdA 2, xC (.int 0), xLdA 0, xLd 1], tCv 99 2 5 1 1 (some [("java/lang/IndexOutOfBoundsException", 3, 2)])),
  ([xI2L, xLst], tGo 3),
  ([xC (.int 1)], tRet),
  ([xC (.int 0)], tRet)]
/-- HandFingersLaw.span(LHandFingers;III[J)I -/
def i_268 : MI := (RL, cL_span, 6, yL_span, (some .int), (8, 125), [(0, 12, 15, 25), (0, 12, 19, 19)])
def P_268 : List Nat := [0, 10, 17, 21, 23]
noncomputable def B_268 : List Bk := [([xLdA 4, xC (.int 0), xLdA 0, xLd 1, xLd 2, xLd 3], tCv 100 4 5 3 1 (some [("java/lang/IndexOutOfBoundsException", 5, 2), ("java/lang/IllegalArgumentException", 5, 3)])),
  ([xI2L, xLst], tGo 4),
  ([xC (.int 1)], tRet),
  ([xC (.int 2)], tRet),
  ([xC (.int 0)], tRet)]
/-- HandFingersLaw.link(LHandFingers;IIII[J)I -/
def i_269 : MI := (RL, cL_link, 7, yL_link, (some .int), (8, 126), [(0, 14, 17, 25), (0, 14, 21, 19)])
def P_269 : List Nat := [0, 12, 19, 23, 25]
noncomputable def B_269 : List Bk := [([xLdA 5, xC (.int 0), xLdA 0, xLd 1, xLd 2, xLd 3, xLd 4], tCv 101 5 5 4 1 (some [("java/lang/IndexOutOfBoundsException", 6, 2), ("java/lang/IllegalArgumentException", 6, 3)])),
  ([xI2L, xLst], tGo 4),
  ([xC (.int 1)], tRet),
  ([xC (.int 2)], tRet),
  ([xC (.int 0)], tRet)]
/-- HandFingersLaw.finger(LHandFingers;II[J)I -/
def i_270 : MI := (RL, cL_finger, 5, yL_finger, (some .int), (9, 194), [(0, 10, 13, 25), (0, 10, 17, 44)])
def P_270 : List Nat := [0, 8, 15, 19, 21]
noncomputable def B_270 : List Bk := [([xLdA 3, xC (.int 0), xLdA 0, xLd 1, xLd 2], tCv 103 3 5 2 1 (some [("java/lang/IndexOutOfBoundsException", 4, 2), ("java/util/NoSuchElementException", 4, 3)])),
  ([xI2L, xLst], tGo 4),
  ([xC (.int 1)], tRet),
  ([xC (.int 2)], tRet),
  ([xC (.int 0)], tRet)]
/-- HandFingersLaw.part(LHandFingers;II[J)I -/
def i_271 : MI := (RL, cL_part, 5, yL_part, (some .int), (8, 194), [(0, 10, 13, 25), (0, 10, 17, 19), (0, 10, 21, 44)])
def P_271 : List Nat := [0, 8, 15, 19, 23, 25]
noncomputable def B_271 : List Bk := [([xLdA 3, xC (.int 0), xLdA 0, xLd 1, xLd 2], tCv 104 3 5 2 1 (some [("java/lang/IndexOutOfBoundsException", 4, 2), ("java/lang/IllegalArgumentException", 4, 3), ("java/util/NoSuchElementException", 4, 4)])),
  ([xI2L, xLst], tGo 5),
  ([xC (.int 1)], tRet),
  ([xC (.int 2)], tRet),
  ([xC (.int 3)], tRet),
  ([xC (.int 0)], tRet)]
/-- HandFingersLaw.costWith(LHandFingers;III[J)I -/
def i_272 : MI := (RL, cL_costWith, 6, yL_costWith, (some .int), (9, 175), [(0, 12, 15, 25)])
def P_272 : List Nat := [0, 10, 17, 19]
noncomputable def B_272 : List Bk := [([xLdA 4, xC (.int 0), xLdA 0, xLd 1, xLd 2, xLd 3], tCv 106 4 5 3 1 (some [("java/lang/IndexOutOfBoundsException", 5, 2)])),
  ([xI2L, xLst], tGo 3),
  ([xC (.int 1)], tRet),
  ([xC (.int 0)], tRet)]
/-- HandFingersLaw.uses(LHandFingers;I[J)I -/
def i_273 : MI := (RL, cL_uses, 4, yL_uses, (some .int), (8, 196), [(0, 9, 12, 25), (0, 9, 15, 44)])
def P_273 : List Nat := [0, 7, 13, 16, 18]
noncomputable def B_273 : List Bk := [([xLdA 2, xC (.int 0), xLdA 0, xLd 1], tCv 108 5 5 1 1 (some [("java/lang/IndexOutOfBoundsException", 3, 2), ("java/util/NoSuchElementException", 3, 3)])),
  ([xI2L, xLst], tGo 4),
  ([xC (.int 1)], tRet),
  ([xC (.int 2)], tRet),
  ([xC (.int 0)], tRet)]
/-- HandFingersLaw.sure(LHandFingers;[J)I -/
def i_274 : MI := (RL, cL_sure, 3, yL_sure, (some .int), (8, 195), [(0, 8, 11, 44)])
def P_274 : List Nat := [0, 6, 12, 14]
noncomputable def B_274 : List Bk := [([xLdA 1, xC (.int 0), xLdA 0], tCv 109 4 5 0 1 (some [("java/util/NoSuchElementException", 2, 2)])),
  ([xI2L, xLst], tGo 3),
  ([xC (.int 1)], tRet),
  ([xC (.int 0)], tRet)]
/-- HandFingersLaw.mean(LHandFingers;[D)I -/
def i_275 : MI := (RL, cL_mean, 3, yL_mean, (some .int), (8, 193), [(0, 7, 10, 44)])
def P_275 : List Nat := [0, 6, 11, 13]
noncomputable def B_275 : List Bk := [([xLdA 1, xC (.int 0), xLdA 0], tCv 110 2 5 0 1 (some [("java/util/NoSuchElementException", 2, 2)])),
  ([xDst], tGo 3),
  ([xC (.int 1)], tRet),
  ([xC (.int 0)], tRet)]
/-- HandFingersLaw.transposed(LHandFingers;I[J)I -/
def i_276 : MI := (RL, cL_transposed, 4, yL_transposed, (some .int), (8, 173), [(0, 9, 12, 19)])
def P_276 : List Nat := [0, 7, 13, 15]
noncomputable def B_276 : List Bk := [([xLdA 2, xC (.int 0), xLdA 0, xLd 1], tCv 114 2 5 1 1 (some [("java/lang/IllegalArgumentException", 3, 2)])),
  ([xI2L, xLst], tGo 3),
  ([xC (.int 1)], tRet),
  ([xC (.int 0)], tRet)]
/-- HandFingersLaw.easiest(LHandFingers;I[J)I -/
def i_277 : MI := (RL, cL_easiest, 4, yL_easiest, (some .int), (8, 197), [(0, 9, 12, 19), (0, 9, 15, 44)])
def P_277 : List Nat := [0, 7, 13, 16, 18]
noncomputable def B_277 : List Bk := [([xLdA 2, xC (.int 0), xLdA 0, xLd 1], tCv 115 6 5 1 1 (some [("java/lang/IllegalArgumentException", 3, 2), ("java/util/NoSuchElementException", 3, 3)])),
  ([xI2L, xLst], tGo 4),
  ([xC (.int 1)], tRet),
  ([xC (.int 2)], tRet),
  ([xC (.int 0)], tRet)]
/-- HandFingersLaw.play(LHandFingers;IIIII[J)I -/
def i_278 : MI := (RL, cL_play, 8, yL_play, (some .int), (7, 156), [(0, 16, 19, 25), (0, 16, 23, 19)])
def P_278 : List Nat := [0, 14, 21, 25, 27]
noncomputable def B_278 : List Bk := [([xLdA 6, xC (.int 0), xLdA 0, xLd 1, xLd 2, xLd 3, xLd 4, xLd 5], tCv 117 6 5 5 1 (some [("java/lang/IndexOutOfBoundsException", 7, 2), ("java/lang/IllegalArgumentException", 7, 3)])),
  ([xI2L, xLst], tGo 4),
  ([xC (.int 1)], tRet),
  ([xC (.int 2)], tRet),
  ([xC (.int 0)], tRet)]
/-- HandFingersLaw.drop(LHandFingers;I[J)I -/
def i_279 : MI := (RL, cL_drop, 4, yL_drop, (some .int), (8, 152), [(0, 9, 12, 25)])
def P_279 : List Nat := [0, 7, 13, 15]
noncomputable def B_279 : List Bk := [([xLdA 2, xC (.int 0), xLdA 0, xLd 1], tCv 118 2 5 1 1 (some [("java/lang/IndexOutOfBoundsException", 3, 2)])),
  ([xI2L, xLst], tGo 3),
  ([xC (.int 1)], tRet),
  ([xC (.int 0)], tRet)]
/-- HandFingersLaw.setRest(LHandFingers;II[J)I -/
def i_280 : MI := (RL, cL_setRest, 5, yL_setRest, (some .int), (8, 154), [(0, 10, 13, 25), (0, 10, 17, 19)])
def P_280 : List Nat := [0, 8, 15, 19, 21]
noncomputable def B_280 : List Bk := [([xLdA 3, xC (.int 0), xLdA 0, xLd 1, xLd 2], tCv 119 4 5 2 1 (some [("java/lang/IndexOutOfBoundsException", 4, 2), ("java/lang/IllegalArgumentException", 4, 3)])),
  ([xI2L, xLst], tGo 4),
  ([xC (.int 1)], tRet),
  ([xC (.int 2)], tRet),
  ([xC (.int 0)], tRet)]
/-- HandFingersLaw.let(LHandFingers;IIIZ[J)I -/
def i_281 : MI := (RL, cL_let, 7, yL_let, (some .int), (9, 157), [(0, 14, 17, 25)])
def P_281 : List Nat := [0, 12, 19, 21]
noncomputable def B_281 : List Bk := [([xLdA 5, xC (.int 0), xLdA 0, xLd 1, xLd 2, xLd 3, xLd 4], tCv 120 7 5 4 1 (some [("java/lang/IndexOutOfBoundsException", 6, 2)])),
  ([xI2L, xLst], tGo 3),
  ([xC (.int 1)], tRet),
  ([xC (.int 0)], tRet)]
/-- HandFingersLaw.setWeight(LHandFingers;II[J)I -/
def i_282 : MI := (RL, cL_setWeight, 5, yL_setWeight, (some .int), (8, 154), [(0, 10, 13, 25), (0, 10, 17, 19)])
def P_282 : List Nat := [0, 8, 15, 19, 21]
noncomputable def B_282 : List Bk := [([xLdA 3, xC (.int 0), xLdA 0, xLd 1, xLd 2], tCv 121 4 5 2 1 (some [("java/lang/IndexOutOfBoundsException", 4, 2), ("java/lang/IllegalArgumentException", 4, 3)])),
  ([xI2L, xLst], tGo 4),
  ([xC (.int 1)], tRet),
  ([xC (.int 2)], tRet),
  ([xC (.int 0)], tRet)]
/-- HandFingersLaw.setSpan(LHandFingers;IIIII[J)I -/
def i_283 : MI := (RL, cL_setSpan, 8, yL_setSpan, (some .int), (8, 157), [(0, 16, 19, 25), (0, 16, 23, 19)])
def P_283 : List Nat := [0, 14, 21, 25, 27]
noncomputable def B_283 : List Bk := [([xLdA 6, xC (.int 0), xLdA 0, xLd 1, xLd 2, xLd 3, xLd 4, xLd 5], tCv 122 7 5 5 1 (some [("java/lang/IndexOutOfBoundsException", 7, 2), ("java/lang/IllegalArgumentException", 7, 3)])),
  ([xI2L, xLst], tGo 4),
  ([xC (.int 1)], tRet),
  ([xC (.int 2)], tRet),
  ([xC (.int 0)], tRet)]
/-- HandFingersLaw.transpose(LHandFingers;I[J)I -/
def i_284 : MI := (RL, cL_transpose, 4, yL_transpose, (some .int), (8, 173), [(0, 9, 12, 19)])
def P_284 : List Nat := [0, 7, 13, 15]
noncomputable def B_284 : List Bk := [([xLdA 2, xC (.int 0), xLdA 0, xLd 1], tCv 124 2 5 1 1 (some [("java/lang/IllegalArgumentException", 3, 2)])),
  ([xI2L, xLst], tGo 3),
  ([xC (.int 1)], tRet),
  ([xC (.int 0)], tRet)]
/-- HandFingersLaw.fix(LHandFingers;[J)I -/
def i_285 : MI := (RL, cL_fix, 3, yL_fix, (some .int), (8, 196), [(0, 8, 11, 44)])
def P_285 : List Nat := [0, 6, 12, 14]
noncomputable def B_285 : List Bk := [([xLdA 1, xC (.int 0), xLdA 0], tCv 125 5 5 0 1 (some [("java/util/NoSuchElementException", 2, 2)])),
  ([xI2L, xLst], tGo 3),
  ([xC (.int 1)], tRet),
  ([xC (.int 0)], tRet)]
/-- HandFingersLaw.undo(LHandFingers;[J)I -/
def i_286 : MI := (RL, cL_undo, 3, yL_undo, (some .int), (7, 111), [(0, 8, 11, 13)])
def P_286 : List Nat := [0, 6, 12, 14]
noncomputable def B_286 : List Bk := [([xLdA 1, xC (.int 0), xLdA 0], tCv 126 1 5 0 1 (some [("java/lang/IllegalStateException", 2, 2)])),
  ([xI2L, xLst], tGo 3),
  ([xC (.int 1)], tRet),
  ([xC (.int 0)], tRet)]
/-- HandFingersLaw.save(LHandFingers;I)I -/
def i_287 : MI := (RL, cL_save, 3, yL_save, (some .int), (8, 132), [(0, 5, 8, 25)])
def P_287 : List Nat := [0, 5, 9, 11]
noncomputable def B_287 : List Bk := [([xLdA 0, xLd 1], tCv 127 2 5 1 1 (some [("java/lang/IndexOutOfBoundsException", 2, 2)])),
  ([], tGo 3),
  ([xC (.int 1)], tRet),
  ([xC (.int 0)], tRet)]
/-- HandFingersLaw.restore(LHandFingers;I[J)I -/
def i_288 : MI := (RL, cL_restore, 4, yL_restore, (some .int), (8, 152), [(0, 9, 12, 25), (0, 9, 15, 13)])
def P_288 : List Nat := [0, 7, 13, 16, 18]
noncomputable def B_288 : List Bk := [([xLdA 2, xC (.int 0), xLdA 0, xLd 1], tCv 128 2 5 1 1 (some [("java/lang/IndexOutOfBoundsException", 3, 2), ("java/lang/IllegalStateException", 3, 3)])),
  ([xI2L, xLst], tGo 4),
  ([xC (.int 1)], tRet),
  ([xC (.int 2)], tRet),
  ([xC (.int 0)], tRet)]
/-- HandFingersLaw.writeFingers(LHandFingers;[J)I -/
def i_289 : MI := (RL, cL_writeFingers, 3, yL_writeFingers, (some .int), (8, 194), [(0, 8, 11, 44)])
def P_289 : List Nat := [0, 6, 12, 14]
noncomputable def B_289 : List Bk := [([xLdA 1, xC (.int 0), xLdA 0], tCv 129 3 5 0 1 (some [("java/util/NoSuchElementException", 2, 2)])),
  ([xI2L, xLst], tGo 3),
  ([xC (.int 1)], tRet),
  ([xC (.int 0)], tRet)]
/-- HandFingersLaw.writtenByte(LHandFingers;I[J)I -/
def i_290 : MI := (RL, cL_writtenByte, 4, yL_writtenByte, (some .int), (7, 102), [(0, 9, 12, 25)])
def P_290 : List Nat := [0, 7, 13, 15]
noncomputable def B_290 : List Bk := [([xLdA 2, xC (.int 0), xLdA 0, xLd 1], tCv 130 2 5 1 1 (some [("java/lang/IndexOutOfBoundsException", 3, 2)])),
  ([xI2L, xLst], tGo 3),
  ([xC (.int 1)], tRet),
  ([xC (.int 0)], tRet)]
/-- HandFingersLaw.law([I)Z -/
def i_291 : MI := (RL, cL_law, 9, yL_law, (some .boolean), (11, 262), [])
def P_291 : List Nat := [0, 7, 15, 28, 38, 212, 247, 283, 289, 294, 296, 301, 311, 313, 316, 320, 324, 327, 329, 333, 337, 340, 342, 353, 365, 371, 376, 378, 383, 393, 395, 398, 415, 433, 439, 444, 446, 451, 461, 463, 466, 489, 513, 519, 524, 526, 531, 541, 543, 546, 557, 569, 575, 580, 582, 587, 597, 599, 602, 625, 649, 655, 660, 662, 667, 677, 679, 682, 711, 741, 747, 752, 754, 759, 769, 771, 774, 778, 782, 785, 787, 804, 822, 828, 833, 835, 840, 850, 852, 855, 872, 890, 896, 901, 903, 908, 918, 920, 923, 933, 937, 938, 941, 951, 955, 956, 959, 963, 965, 988, 1012, 1018, 1023, 1025, 1030, 1040, 1042, 1045, 1049, 1053, 1056, 1058, 1069, 1081, 1087, 1092, 1094, 1099, 1109, 1111, 1114, 1119, 1125, 1131, 1136, 1138, 1143, 1153, 1155, 1158, 1164, 1170, 1176, 1181, 1183, 1188, 1198, 1210, 1218, 1220, 1223, 1227, 1231, 1234, 1236, 1240, 1244, 1247, 1249, 1253, 1257, 1260, 1262, 1273, 1285, 1291, 1296, 1298, 1303, 1313, 1315, 1318, 1329, 1341, 1347, 1352, 1354, 1359, 1369, 1371, 1374, 1378, 1382, 1385, 1387, 1422, 1458, 1464, 1469, 1471, 1476, 1486, 1488, 1491, 1502, 1514, 1520, 1525, 1527, 1532, 1542, 1544, 1547, 1564, 1582, 1588, 1593, 1595, 1600, 1610, 1612, 1615, 1643, 1647, 1648, 1652, 1682, 1686, 1687, 1690, 1696, 1701, 1703, 1708, 1718, 1720, 1723, 1740, 1758, 1764, 1769, 1771, 1776, 1786, 1788, 1791, 1826, 1862, 1868, 1873, 1875, 1880, 1890, 1892, 1895, 1905, 1909, 1910, 1913, 1923, 1927, 1928, 1931, 1934, 1936, 1947, 1959, 1965, 1970, 1972, 1977, 1987, 1989, 1992, 1997, 2003, 2009, 2014, 2016, 2021, 2031, 2033, 2036, 2041, 2047, 2053, 2058, 2060, 2065, 2075, 2077, 2080, 2090, 2102, 2106, 2111, 2113, 2116, 2127, 2139, 2145, 2150, 2152, 2157, 2167, 2169, 2172, 2177, 2183, 2189, 2194, 2196, 2201, 2211, 2213, 2216, 2227, 2239, 2245, 2250, 2252, 2257, 2267, 2269, 2272, 2278]
noncomputable def B_291 : List Bk := [([xNew 5 nfX5, xDup], tCi 92 1 0 1),
  ([xStA 1, xNew 6 nfX6, xDup], tCi 151 1 0 2),
  ([xStA 2, xC (.int 1), xNewA 1, xStA 3, xC (.int 1), xNewA 2, xStA 4, xC (.int 0), xSt 5], tGo 3),
  ([xLd 5, xLdA 0, xLen, xC (.int 6), xSub], tGt 315 4),
  ([xLdA 0, xLd 5, xAld, xC (.int 63), xAnd], tSw 314 [(0, 5), (1, 14), (2, 18), (3, 22), (4, 31), (5, 40), (6, 49), (7, 58), (8, 67), (9, 76), (10, 80), (11, 89), (12, 98), (13, 108), (14, 117), (15, 121), (16, 130), (17, 139), (18, 150), (19, 154), (20, 158), (21, 162), (22, 171), (23, 180), (24, 184), (25, 193), (26, 202), (27, 211), (28, 226), (29, 235), (30, 244), (31, 254), (32, 263), (33, 272), (34, 281), (35, 287), (36, 296), (37, 305)]),
  ([xLdA 1, xLdA 0, xLd 5, xC (.int 1), xAdd, xAld, xLdA 0, xLd 5, xC (.int 2), xAdd, xAld, xLdA 0, xLd 5, xC (.int 3), xAdd, xAld, xLdA 0, xLd 5, xC (.int 4), xAdd, xAld, xLdA 0, xLd 5, xC (.int 5), xAdd, xAld, xLdA 3], tCs 263 8 7 6),
  ([xSt 6, xLdA 2, xLdA 0, xLd 5, xC (.int 1), xAdd, xAld, xLdA 0, xLd 5, xC (.int 2), xAdd, xAld, xLdA 0, xLd 5, xC (.int 3), xAdd, xAld, xLdA 0, xLd 5, xC (.int 4), xAdd, xAld, xLdA 0, xLd 5, xC (.int 5), xAdd, xAld], tCv 164 9 6 5 7 (some [])),
  ([xSt 7, xLdA 2], tCv 156 1 6 0 8 (some [])),
  ([xLd 6], tEq 10 9),
  ([xC (.int 0)], tRetZ),
  ([xLd 6], tNe0 13 11),
  ([xLdA 3, xC (.int 0), xLld, xLd 7, xI2L, xLcmp], tEq0 13 12),
  ([xC (.int 0)], tRetZ),
  ([], tGo 314),
  ([xLdA 1], tCv 94 2 5 0 15 (some [])),
  ([xLdA 2], tCv 180 1 6 0 16 (some [])),
  ([], tEq 314 17),
  ([xC (.int 0)], tRetZ),
  ([xLdA 1], tCv 95 1 5 0 19 (some [])),
  ([xLdA 2], tCv 181 1 6 0 20 (some [])),
  ([], tEq 314 21),
  ([xC (.int 0)], tRetZ),
  ([xLdA 1, xLdA 0, xLd 5, xC (.int 1), xAdd, xAld, xLdA 3], tCs 264 4 3 23),
  ([xSt 6, xLdA 2, xLdA 0, xLd 5, xC (.int 1), xAdd, xAld], tCv 219 2 6 1 24 (some [])),
  ([xSt 7, xLdA 2], tCv 156 1 6 0 25 (some [])),
  ([xLd 6], tEq 27 26),
  ([xC (.int 0)], tRetZ),
  ([xLd 6], tNe0 30 28),
  ([xLdA 3, xC (.int 0), xLld, xLd 7, xI2L, xLcmp], tEq0 30 29),
  ([xC (.int 0)], tRetZ),
  ([], tGo 314),
  ([xLdA 1, xLdA 0, xLd 5, xC (.int 1), xAdd, xAld, xLdA 0, xLd 5, xC (.int 2), xAdd, xAld, xLdA 3], tCs 265 5 4 32),
  ([xSt 6, xLdA 2, xLdA 0, xLd 5, xC (.int 1), xAdd, xAld, xLdA 0, xLd 5, xC (.int 2), xAdd, xAld], tCv 220 3 6 2 33 (some [])),
  ([xSt 7, xLdA 2], tCv 156 1 6 0 34 (some [])),
  ([xLd 6], tEq 36 35),
  ([xC (.int 0)], tRetZ),
  ([xLd 6], tNe0 39 37),
  ([xLdA 3, xC (.int 0), xLld, xLd 7, xI2L, xLcmp], tEq0 39 38),
  ([xC (.int 0)], tRetZ),
  ([], tGo 314),
  ([xLdA 1, xLdA 0, xLd 5, xC (.int 1), xAdd, xAld, xLdA 0, xLd 5, xC (.int 2), xAdd, xAld, xLdA 0, xLd 5, xC (.int 3), xAdd, xAld, xLdA 3], tCs 266 6 5 41),
  ([xSt 6, xLdA 2, xLdA 0, xLd 5, xC (.int 1), xAdd, xAld, xLdA 0, xLd 5, xC (.int 2), xAdd, xAld, xLdA 0, xLd 5, xC (.int 3), xAdd, xAld], tCv 221 4 6 3 42 (some [])),
  ([xSt 7, xLdA 2], tCv 156 1 6 0 43 (some [])),
  ([xLd 6], tEq 45 44),
  ([xC (.int 0)], tRetZ),
  ([xLd 6], tNe0 48 46),
  ([xLdA 3, xC (.int 0), xLld, xLd 7, xI2L, xLcmp], tEq0 48 47),
  ([xC (.int 0)], tRetZ),
  ([], tGo 314),
  ([xLdA 1, xLdA 0, xLd 5, xC (.int 1), xAdd, xAld, xLdA 3], tCs 267 4 3 50),
  ([xSt 6, xLdA 2, xLdA 0, xLd 5, xC (.int 1), xAdd, xAld], tCv 222 2 6 1 51 (some [])),
  ([xSt 7, xLdA 2], tCv 156 1 6 0 52 (some [])),
  ([xLd 6], tEq 54 53),
  ([xC (.int 0)], tRetZ),
  ([xLd 6], tNe0 57 55),
  ([xLdA 3, xC (.int 0), xLld, xLd 7, xI2L, xLcmp], tEq0 57 56),
  ([xC (.int 0)], tRetZ),
  ([], tGo 314),
  ([xLdA 1, xLdA 0, xLd 5, xC (.int 1), xAdd, xAld, xLdA 0, xLd 5, xC (.int 2), xAdd, xAld, xLdA 0, xLd 5, xC (.int 3), xAdd, xAld, xLdA 3], tCs 268 6 5 59),
  ([xSt 6, xLdA 2, xLdA 0, xLd 5, xC (.int 1), xAdd, xAld, xLdA 0, xLd 5, xC (.int 2), xAdd, xAld, xLdA 0, xLd 5, xC (.int 3), xAdd, xAld], tCv 223 4 6 3 60 (some [])),
  ([xSt 7, xLdA 2], tCv 156 1 6 0 61 (some [])),
  ([xLd 6], tEq 63 62),
  ([xC (.int 0)], tRetZ),
  ([xLd 6], tNe0 66 64),
  ([xLdA 3, xC (.int 0), xLld, xLd 7, xI2L, xLcmp], tEq0 66 65),
  ([xC (.int 0)], tRetZ),
  ([], tGo 314),
  ([xLdA 1, xLdA 0, xLd 5, xC (.int 1), xAdd, xAld, xLdA 0, xLd 5, xC (.int 2), xAdd, xAld, xLdA 0, xLd 5, xC (.int 3), xAdd, xAld, xLdA 0, xLd 5, xC (.int 4), xAdd, xAld, xLdA 3], tCs 269 7 6 68),
  ([xSt 6, xLdA 2, xLdA 0, xLd 5, xC (.int 1), xAdd, xAld, xLdA 0, xLd 5, xC (.int 2), xAdd, xAld, xLdA 0, xLd 5, xC (.int 3), xAdd, xAld, xLdA 0, xLd 5, xC (.int 4), xAdd, xAld], tCv 225 5 6 4 69 (some [])),
  ([xSt 7, xLdA 2], tCv 156 1 6 0 70 (some [])),
  ([xLd 6], tEq 72 71),
  ([xC (.int 0)], tRetZ),
  ([xLd 6], tNe0 75 73),
  ([xLdA 3, xC (.int 0), xLld, xLd 7, xI2L, xLcmp], tEq0 75 74),
  ([xC (.int 0)], tRetZ),
  ([], tGo 314),
  ([xLdA 1], tCv 102 1 5 0 77 (some [])),
  ([xLdA 2], tCv 226 1 6 0 78 (some [])),
  ([], tEq 314 79),
  ([xC (.int 0)], tRetZ),
  ([xLdA 1, xLdA 0, xLd 5, xC (.int 1), xAdd, xAld, xLdA 0, xLd 5, xC (.int 2), xAdd, xAld, xLdA 3], tCs 270 5 4 81),
  ([xSt 6, xLdA 2, xLdA 0, xLd 5, xC (.int 1), xAdd, xAld, xLdA 0, xLd 5, xC (.int 2), xAdd, xAld], tCv 227 3 6 2 82 (some [])),
  ([xSt 7, xLdA 2], tCv 156 1 6 0 83 (some [])),
  ([xLd 6], tEq 85 84),
  ([xC (.int 0)], tRetZ),
  ([xLd 6], tNe0 88 86),
  ([xLdA 3, xC (.int 0), xLld, xLd 7, xI2L, xLcmp], tEq0 88 87),
  ([xC (.int 0)], tRetZ),
  ([], tGo 314),
  ([xLdA 1, xLdA 0, xLd 5, xC (.int 1), xAdd, xAld, xLdA 0, xLd 5, xC (.int 2), xAdd, xAld, xLdA 3], tCs 271 5 4 90),
  ([xSt 6, xLdA 2, xLdA 0, xLd 5, xC (.int 1), xAdd, xAld, xLdA 0, xLd 5, xC (.int 2), xAdd, xAld], tCv 228 5 6 2 91 (some [])),
  ([xSt 7, xLdA 2], tCv 156 1 6 0 92 (some [])),
  ([xLd 6], tEq 94 93),
  ([xC (.int 0)], tRetZ),
  ([xLd 6], tNe0 97 95),
  ([xLdA 3, xC (.int 0), xLld, xLd 7, xI2L, xLcmp], tEq0 97 96),
  ([xC (.int 0)], tRetZ),
  ([], tGo 314),
  ([xLdA 1, xLdA 0, xLd 5, xC (.int 1), xAdd, xAld], tEq0 100 99),
  ([xC (.int 1)], tGo 101),
  ([xC (.int 0)], tGo 101),
  ([], tCv 105 2 5 1 102 (some [])),
  ([xLdA 2, xLdA 0, xLd 5, xC (.int 1), xAdd, xAld], tEq0 104 103),
  ([xC (.int 1)], tGo 105),
  ([xC (.int 0)], tGo 105),
  ([], tCv 229 6 6 1 106 (some [])),
  ([xLcmp], tEq0 314 107),
  ([xC (.int 0)], tRetZ),
  ([xLdA 1, xLdA 0, xLd 5, xC (.int 1), xAdd, xAld, xLdA 0, xLd 5, xC (.int 2), xAdd, xAld, xLdA 0, xLd 5, xC (.int 3), xAdd, xAld, xLdA 3], tCs 272 6 5 109),
  ([xSt 6, xLdA 2, xLdA 0, xLd 5, xC (.int 1), xAdd, xAld, xLdA 0, xLd 5, xC (.int 2), xAdd, xAld, xLdA 0, xLd 5, xC (.int 3), xAdd, xAld], tCv 230 6 6 3 110 (some [])),
  ([xSt 7, xLdA 2], tCv 156 1 6 0 111 (some [])),
  ([xLd 6], tEq 113 112),
  ([xC (.int 0)], tRetZ),
  ([xLd 6], tNe0 116 114),
  ([xLdA 3, xC (.int 0), xLld, xLd 7, xI2L, xLcmp], tEq0 116 115),
  ([xC (.int 0)], tRetZ),
  ([], tGo 314),
  ([xLdA 1], tCv 107 1 5 0 118 (some [])),
  ([xLdA 2], tCv 232 4 6 0 119 (some [])),
  ([], tEq 314 120),
  ([xC (.int 0)], tRetZ),
  ([xLdA 1, xLdA 0, xLd 5, xC (.int 1), xAdd, xAld, xLdA 3], tCs 273 4 3 122),
  ([xSt 6, xLdA 2, xLdA 0, xLd 5, xC (.int 1), xAdd, xAld], tCv 233 5 6 1 123 (some [])),
  ([xSt 7, xLdA 2], tCv 156 1 6 0 124 (some [])),
  ([xLd 6], tEq 126 125),
  ([xC (.int 0)], tRetZ),
  ([xLd 6], tNe0 129 127),
  ([xLdA 3, xC (.int 0), xLld, xLd 7, xI2L, xLcmp], tEq0 129 128),
  ([xC (.int 0)], tRetZ),
  ([], tGo 314),
  ([xLdA 1, xLdA 3], tCs 274 3 2 131),
  ([xSt 6, xLdA 2], tCv 235 5 6 0 132 (some [])),
  ([xSt 7, xLdA 2], tCv 156 1 6 0 133 (some [])),
  ([xLd 6], tEq 135 134),
  ([xC (.int 0)], tRetZ),
  ([xLd 6], tNe0 138 136),
  ([xLdA 3, xC (.int 0), xLld, xLd 7, xI2L, xLcmp], tEq0 138 137),
  ([xC (.int 0)], tRetZ),
  ([], tGo 314),
  ([xLdA 1, xLdA 4], tCs 275 3 2 140),
  ([xSt 6, xLdA 2], tCv 236 2 6 0 141 (some [])),
  ([xStD 7, xLdA 2], tCv 156 1 6 0 142 (some [])),
  ([xLd 6], tEq 144 143),
  ([xC (.int 0)], tRetZ),
  ([xLd 6], tNe0 149 145),
  ([xLdA 4, xC (.int 0), xDld, xLdD 7, (xDcmp .l)], tEq0 149 146),
  ([xLdA 4, xC (.int 0), xDld, xLdA 4, xC (.int 0), xDld, (xDcmp .l)], tEq0 148 147),
  ([xLdD 7, xLdD 7, (xDcmp .l)], tNe0 149 148),
  ([xC (.int 0)], tRetZ),
  ([], tGo 314),
  ([xLdA 1], tCv 111 5 5 0 151 (some [])),
  ([xLdA 2], tCv 240 3 6 0 152 (some [])),
  ([], tEq 314 153),
  ([xC (.int 0)], tRetZ),
  ([xLdA 1], tCv 112 3 5 0 155 (some [])),
  ([xLdA 2], tCv 241 2 6 0 156 (some [])),
  ([], tEq 314 157),
  ([xC (.int 0)], tRetZ),
  ([xLdA 1], tCv 113 1 5 0 159 (some [])),
  ([xLdA 2], tCv 242 2 6 0 160 (some [])),
  ([], tEq 314 161),
  ([xC (.int 0)], tRetZ),
  ([xLdA 1, xLdA 0, xLd 5, xC (.int 1), xAdd, xAld, xLdA 3], tCs 276 4 3 163),
  ([xSt 6, xLdA 2, xLdA 0, xLd 5, xC (.int 1), xAdd, xAld], tCv 246 2 6 1 164 (some [])),
  ([xSt 7, xLdA 2], tCv 156 1 6 0 165 (some [])),
  ([xLd 6], tEq 167 166),
  ([xC (.int 0)], tRetZ),
  ([xLd 6], tNe0 170 168),
  ([xLdA 3, xC (.int 0), xLld, xLd 7, xI2L, xLcmp], tEq0 170 169),
  ([xC (.int 0)], tRetZ),
  ([], tGo 314),
  ([xLdA 1, xLdA 0, xLd 5, xC (.int 1), xAdd, xAld, xLdA 3], tCs 277 4 3 172),
  ([xSt 6, xLdA 2, xLdA 0, xLd 5, xC (.int 1), xAdd, xAld], tCv 247 7 6 1 173 (some [])),
  ([xSt 7, xLdA 2], tCv 156 1 6 0 174 (some [])),
  ([xLd 6], tEq 176 175),
  ([xC (.int 0)], tRetZ),
  ([xLd 6], tNe0 179 177),
  ([xLdA 3, xC (.int 0), xLld, xLd 7, xI2L, xLcmp], tEq0 179 178),
  ([xC (.int 0)], tRetZ),
  ([], tGo 314),
  ([xLdA 1], tCv 116 5 5 0 181 (some [])),
  ([xLdA 2], tCv 248 6 6 0 182 (some [])),
  ([], tEq 314 183),
  ([xC (.int 0)], tRetZ),
  ([xLdA 1, xLdA 0, xLd 5, xC (.int 1), xAdd, xAld, xLdA 0, xLd 5, xC (.int 2), xAdd, xAld, xLdA 0, xLd 5, xC (.int 3), xAdd, xAld, xLdA 0, xLd 5, xC (.int 4), xAdd, xAld, xLdA 0, xLd 5, xC (.int 5), xAdd, xAld, xLdA 3], tCs 278 8 7 185),
  ([xSt 6, xLdA 2, xLdA 0, xLd 5, xC (.int 1), xAdd, xAld, xLdA 0, xLd 5, xC (.int 2), xAdd, xAld, xLdA 0, xLd 5, xC (.int 3), xAdd, xAld, xLdA 0, xLd 5, xC (.int 4), xAdd, xAld, xLdA 0, xLd 5, xC (.int 5), xAdd, xAld], tCv 250 8 6 5 186 (some [])),
  ([xSt 7, xLdA 2], tCv 156 1 6 0 187 (some [])),
  ([xLd 6], tEq 189 188),
  ([xC (.int 0)], tRetZ),
  ([xLd 6], tNe0 192 190),
  ([xLdA 3, xC (.int 0), xLld, xLd 7, xI2L, xLcmp], tEq0 192 191),
  ([xC (.int 0)], tRetZ),
  ([], tGo 314),
  ([xLdA 1, xLdA 0, xLd 5, xC (.int 1), xAdd, xAld, xLdA 3], tCs 279 4 3 194),
  ([xSt 6, xLdA 2, xLdA 0, xLd 5, xC (.int 1), xAdd, xAld], tCv 251 3 6 1 195 (some [])),
  ([xSt 7, xLdA 2], tCv 156 1 6 0 196 (some [])),
  ([xLd 6], tEq 198 197),
  ([xC (.int 0)], tRetZ),
  ([xLd 6], tNe0 201 199),
  ([xLdA 3, xC (.int 0), xLld, xLd 7, xI2L, xLcmp], tEq0 201 200),
  ([xC (.int 0)], tRetZ),
  ([], tGo 314),
  ([xLdA 1, xLdA 0, xLd 5, xC (.int 1), xAdd, xAld, xLdA 0, xLd 5, xC (.int 2), xAdd, xAld, xLdA 3], tCs 280 5 4 203),
  ([xSt 6, xLdA 2, xLdA 0, xLd 5, xC (.int 1), xAdd, xAld, xLdA 0, xLd 5, xC (.int 2), xAdd, xAld], tCv 253 3 6 2 204 (some [])),
  ([xSt 7, xLdA 2], tCv 156 1 6 0 205 (some [])),
  ([xLd 6], tEq 207 206),
  ([xC (.int 0)], tRetZ),
  ([xLd 6], tNe0 210 208),
  ([xLdA 3, xC (.int 0), xLld, xLd 7, xI2L, xLcmp], tEq0 210 209),
  ([xC (.int 0)], tRetZ),
  ([], tGo 314),
  ([xLdA 1, xLdA 0, xLd 5, xC (.int 1), xAdd, xAld, xLdA 0, xLd 5, xC (.int 2), xAdd, xAld, xLdA 0, xLd 5, xC (.int 3), xAdd, xAld, xLdA 0, xLd 5, xC (.int 4), xAdd, xAld], tEq0 213 212),
  ([xC (.int 1)], tGo 214),
  ([xC (.int 0)], tGo 214),
  ([xLdA 3], tCs 281 7 6 215),
  ([xSt 6, xLdA 2, xLdA 0, xLd 5, xC (.int 1), xAdd, xAld, xLdA 0, xLd 5, xC (.int 2), xAdd, xAld, xLdA 0, xLd 5, xC (.int 3), xAdd, xAld, xLdA 0, xLd 5, xC (.int 4), xAdd, xAld], tEq0 217 216),
  ([xC (.int 1)], tGo 218),
  ([xC (.int 0)], tGo 218),
  ([], tCv 254 7 6 4 219 (some [])),
  ([xSt 7, xLdA 2], tCv 156 1 6 0 220 (some [])),
  ([xLd 6], tEq 222 221),
  ([xC (.int 0)], tRetZ),
  ([xLd 6], tNe0 225 223),
  ([xLdA 3, xC (.int 0), xLld, xLd 7, xI2L, xLcmp], tEq0 225 224),
  ([xC (.int 0)], tRetZ),
  ([], tGo 314),
  ([xLdA 1, xLdA 0, xLd 5, xC (.int 1), xAdd, xAld, xLdA 0, xLd 5, xC (.int 2), xAdd, xAld, xLdA 3], tCs 282 5 4 227),
  ([xSt 6, xLdA 2, xLdA 0, xLd 5, xC (.int 1), xAdd, xAld, xLdA 0, xLd 5, xC (.int 2), xAdd, xAld], tCv 255 3 6 2 228 (some [])),
  ([xSt 7, xLdA 2], tCv 156 1 6 0 229 (some [])),
  ([xLd 6], tEq 231 230),
  ([xC (.int 0)], tRetZ),
  ([xLd 6], tNe0 234 232),
  ([xLdA 3, xC (.int 0), xLld, xLd 7, xI2L, xLcmp], tEq0 234 233),
  ([xC (.int 0)], tRetZ),
  ([], tGo 314),
  ([xLdA 1, xLdA 0, xLd 5, xC (.int 1), xAdd, xAld, xLdA 0, xLd 5, xC (.int 2), xAdd, xAld, xLdA 0, xLd 5, xC (.int 3), xAdd, xAld, xLdA 0, xLd 5, xC (.int 4), xAdd, xAld, xLdA 0, xLd 5, xC (.int 5), xAdd, xAld, xLdA 3], tCs 283 8 7 236),
  ([xSt 6, xLdA 2, xLdA 0, xLd 5, xC (.int 1), xAdd, xAld, xLdA 0, xLd 5, xC (.int 2), xAdd, xAld, xLdA 0, xLd 5, xC (.int 3), xAdd, xAld, xLdA 0, xLd 5, xC (.int 4), xAdd, xAld, xLdA 0, xLd 5, xC (.int 5), xAdd, xAld], tCv 256 8 6 5 237 (some [])),
  ([xSt 7, xLdA 2], tCv 156 1 6 0 238 (some [])),
  ([xLd 6], tEq 240 239),
  ([xC (.int 0)], tRetZ),
  ([xLd 6], tNe0 243 241),
  ([xLdA 3, xC (.int 0), xLld, xLd 7, xI2L, xLcmp], tEq0 243 242),
  ([xC (.int 0)], tRetZ),
  ([], tGo 314),
  ([xLdA 1, xLdA 0, xLd 5, xC (.int 1), xAdd, xAld], tEq0 246 245),
  ([xC (.int 1)], tGo 247),
  ([xC (.int 0)], tGo 247),
  ([], tCv 123 2 5 1 248 (some [])),
  ([xLdA 2, xLdA 0, xLd 5, xC (.int 1), xAdd, xAld], tEq0 250 249),
  ([xC (.int 1)], tGo 251),
  ([xC (.int 0)], tGo 251),
  ([], tCv 257 2 6 1 252 (some [])),
  ([], tEq 314 253),
  ([xC (.int 0)], tRetZ),
  ([xLdA 1, xLdA 0, xLd 5, xC (.int 1), xAdd, xAld, xLdA 3], tCs 284 4 3 255),
  ([xSt 6, xLdA 2, xLdA 0, xLd 5, xC (.int 1), xAdd, xAld], tCv 258 2 6 1 256 (some [])),
  ([xSt 7, xLdA 2], tCv 156 1 6 0 257 (some [])),
  ([xLd 6], tEq 259 258),
  ([xC (.int 0)], tRetZ),
  ([xLd 6], tNe0 262 260),
  ([xLdA 3, xC (.int 0), xLld, xLd 7, xI2L, xLcmp], tEq0 262 261),
  ([xC (.int 0)], tRetZ),
  ([], tGo 314),
  ([xLdA 1, xLdA 3], tCs 285 3 2 264),
  ([xSt 6, xLdA 2], tCv 259 5 6 0 265 (some [])),
  ([xSt 7, xLdA 2], tCv 156 1 6 0 266 (some [])),
  ([xLd 6], tEq 268 267),
  ([xC (.int 0)], tRetZ),
  ([xLd 6], tNe0 271 269),
  ([xLdA 3, xC (.int 0), xLld, xLd 7, xI2L, xLcmp], tEq0 271 270),
  ([xC (.int 0)], tRetZ),
  ([], tGo 314),
  ([xLdA 1, xLdA 3], tCs 286 3 2 273),
  ([xSt 6, xLdA 2], tCv 160 1 6 0 274 (some [])),
  ([xSt 7, xLdA 2], tCv 156 1 6 0 275 (some [])),
  ([xLd 6], tEq 277 276),
  ([xC (.int 0)], tRetZ),
  ([xLd 6], tNe0 280 278),
  ([xLdA 3, xC (.int 0), xLld, xLd 7, xI2L, xLcmp], tEq0 280 279),
  ([xC (.int 0)], tRetZ),
  ([], tGo 314),
  ([xLdA 1, xLdA 0, xLd 5, xC (.int 1), xAdd, xAld], tCs 287 3 2 282),
  ([xSt 6, xLdA 2, xLdA 0, xLd 5, xC (.int 1), xAdd, xAld], tCv 161 2 6 1 283 (some [])),
  ([xLdA 2], tCv 156 1 6 0 284 (some [])),
  ([xLd 6], tEq 286 285),
  ([xC (.int 0)], tRetZ),
  ([], tGo 314),
  ([xLdA 1, xLdA 0, xLd 5, xC (.int 1), xAdd, xAld, xLdA 3], tCs 288 4 3 288),
  ([xSt 6, xLdA 2, xLdA 0, xLd 5, xC (.int 1), xAdd, xAld], tCv 162 2 6 1 289 (some [])),
  ([xSt 7, xLdA 2], tCv 156 1 6 0 290 (some [])),
  ([xLd 6], tEq 292 291),
  ([xC (.int 0)], tRetZ),
  ([xLd 6], tNe0 295 293),
  ([xLdA 3, xC (.int 0), xLld, xLd 7, xI2L, xLcmp], tEq0 295 294),
  ([xC (.int 0)], tRetZ),
  ([], tGo 314),
  ([xLdA 1, xLdA 3], tCs 289 3 2 297),
  ([xSt 6, xLdA 2], tCv 261 3 6 0 298 (some [])),
  ([xSt 7, xLdA 2], tCv 156 1 6 0 299 (some [])),
  ([xLd 6], tEq 301 300),
  ([xC (.int 0)], tRetZ),
  ([xLd 6], tNe0 304 302),
  ([xLdA 3, xC (.int 0), xLld, xLd 7, xI2L, xLcmp], tEq0 304 303),
  ([xC (.int 0)], tRetZ),
  ([], tGo 314),
  ([xLdA 1, xLdA 0, xLd 5, xC (.int 1), xAdd, xAld, xLdA 3], tCs 290 4 3 306),
  ([xSt 6, xLdA 2, xLdA 0, xLd 5, xC (.int 1), xAdd, xAld], tCv 262 2 6 1 307 (some [])),
  ([xSt 7, xLdA 2], tCv 156 1 6 0 308 (some [])),
  ([xLd 6], tEq 310 309),
  ([xC (.int 0)], tRetZ),
  ([xLd 6], tNe0 313 311),
  ([xLdA 3, xC (.int 0), xLld, xLd 7, xI2L, xLcmp], tEq0 313 312),
  ([xC (.int 0)], tRetZ),
  ([], tGo 314),
  ([xInc 5 6], tGo 3),
  ([xC (.int 1)], tRetZ)]
/-- java/lang/Math.floorMod(II)I -/
def i_292 : MI := (RJ9, cJ9_floorMod_7cf53, 3, yJ9_floorMod_7cf53, (some .int), (0, 0), [])
def P_292 : List Nat := [0, 10, 14, 18]
noncomputable def B_292 : List Bk := [([xLd 0, xLd 1, xRem, xSt 2, xLd 0, xLd 1, xXor], tGe0 3 1),
  ([xLd 2], tEq0 3 2),
  ([xLd 2, xLd 1, xAdd], tRet),
  ([xLd 2], tRet)]
/-- java/lang/Integer.bitCount(I)I -/
def i_293 : MI := (RJ6, cJ6_bitCount_0f7a4, 1, yJ6_bitCount_0f7a4, (some .int), (0, 0), [])
def P_293 : List Nat := [0]
noncomputable def B_293 : List Bk := [([xLd 0, xLd 0, xC (.int 1), xUshr, xC (.int 1431655765), xAnd, xSub, xSt 0, xLd 0, xC (.int 858993459), xAnd, xLd 0, xC (.int 2), xUshr, xC (.int 858993459), xAnd, xAdd, xSt 0, xLd 0, xLd 0, xC (.int 4), xUshr, xAdd, xC (.int 252645135), xAnd, xSt 0, xLd 0, xLd 0, xC (.int 8), xUshr, xAdd, xSt 0, xLd 0, xLd 0, xC (.int 16), xUshr, xAdd, xSt 0, xLd 0, xC (.int 63), xAnd], tRet)]
/-- java/lang/String.length()I -/
def i_294 : MI := (RJ0, cJ0_length_8abf5, 1, yJ0_length_8abf5, (some .int), (1, 20), [])
def P_294 : List Nat := [0, 9]
noncomputable def B_294 : List Bk := [([xLdA 0, xSval, xBlen, xLdA 0], tCx 296 1 0 1),
  ([xShr], tRet)]
/-- java/lang/String.charAt(I)C -/
def i_295 : MI := (RJ0, cJ0_charAt_5068e, 2, yJ0_charAt_5068e, (some .char), (3, 64), [])
def P_295 : List Nat := [0, 4, 7, 15, 16]
noncomputable def B_295 : List Bk := [([xLdA 0], tCx 297 1 0 1),
  ([], tEq0 4 2),
  ([xLdA 0, xSval, xLd 1], tCs 298 2 2 3),
  ([], tRetC),
  ([xLdA 0, xSval, xLd 1], tBad)]
/-- java/lang/String.coder()B -/
def i_296 : MI := (RJ0, cJ0_coder_7d493, 1, yJ0_coder_7d493, (some .byte), (0, 0), [])
def P_296 : List Nat := [0, 6, 13, 14]
noncomputable def B_296 : List Bk := [([xC (.int 1)], tEq0 2 1),
  ([xLdA 0, xScod], tGo 3),
  ([xC (.int 1)], tGo 3),
  ([], tRetY)]
/-- java/lang/String.isLatin1()Z -/
def i_297 : MI := (RJ0, cJ0_isLatin1_aae02, 1, yJ0_isLatin1_aae02, (some .boolean), (0, 0), [])
def P_297 : List Nat := [0, 6, 13, 17, 18]
noncomputable def B_297 : List Bk := [([xC (.int 1)], tEq0 3 1),
  ([xLdA 0, xScod], tNe0 3 2),
  ([xC (.int 1)], tGo 4),
  ([xC (.int 0)], tGo 4),
  ([], tRetZ)]
/-- java/lang/StringLatin1.charAt([BI)C -/
def i_298 : MI := (RJ1, cJ1_charAt_3b067, 2, yJ1_charAt_3b067, (some .char), (2, 43), [])
def P_298 : List Nat := [0]
noncomputable def B_298 : List Bk := [([xLd 1, xLdA 0, xBlen, xChk, xLdA 0, xLd 1, xBld, xC (.int 255), xAnd, xI2c], tRetC)]
noncomputable def progL : List (MI × List Nat × List Bk) := [(i_0, P_0, B_0), (i_1, P_1, B_1), (i_2, P_2, B_2), (i_3, P_3, B_3), (i_4, P_4, B_4), (i_5, P_5, B_5), (i_6, P_6, B_6), (i_7, P_7, B_7), (i_8, P_8, B_8), (i_9, P_9, B_9), (i_10, P_10, B_10), (i_11, P_11, B_11), (i_12, P_12, B_12), (i_13, P_13, B_13), (i_14, P_14, B_14), (i_15, P_15, B_15), (i_16, P_16, B_16), (i_17, P_17, B_17), (i_18, P_18, B_18), (i_19, P_19, B_19), (i_20, P_20, B_20), (i_21, P_21, B_21), (i_22, P_22, B_22), (i_23, P_23, B_23), (i_24, P_24, B_24), (i_25, P_25, B_25), (i_26, P_26, B_26), (i_27, P_27, B_27), (i_28, P_28, B_28), (i_29, P_29, B_29), (i_30, P_30, B_30), (i_31, P_31, B_31), (i_32, P_32, B_32), (i_33, P_33, B_33), (i_34, P_34, B_34), (i_35, P_35, B_35), (i_36, P_36, B_36), (i_37, P_37, B_37), (i_38, P_38, B_38), (i_39, P_39, B_39), (i_40, P_40, B_40), (i_41, P_41, B_41), (i_42, P_42, B_42), (i_43, P_43, B_43), (i_44, P_44, B_44), (i_45, P_45, B_45), (i_46, P_46, B_46), (i_47, P_47, B_47), (i_48, P_48, B_48), (i_49, P_49, B_49), (i_50, P_50, B_50), (i_51, P_51, B_51), (i_52, P_52, B_52), (i_53, P_53, B_53), (i_54, P_54, B_54), (i_55, P_55, B_55), (i_56, P_56, B_56), (i_57, P_57, B_57), (i_58, P_58, B_58), (i_59, P_59, B_59), (i_60, P_60, B_60), (i_61, P_61, B_61), (i_62, P_62, B_62), (i_63, P_63, B_63), (i_64, P_64, B_64), (i_65, P_65, B_65), (i_66, P_66, B_66), (i_67, P_67, B_67), (i_68, P_68, B_68), (i_69, P_69, B_69), (i_70, P_70, B_70), (i_71, P_71, B_71), (i_72, P_72, B_72), (i_73, P_73, B_73), (i_74, P_74, B_74), (i_75, P_75, B_75), (i_76, P_76, B_76), (i_77, P_77, B_77), (i_78, P_78, B_78), (i_79, P_79, B_79), (i_80, P_80, B_80), (i_81, P_81, B_81), (i_82, P_82, B_82), (i_83, P_83, B_83), (i_84, P_84, B_84), (i_85, P_85, B_85), (i_86, P_86, B_86), (i_87, P_87, B_87), (i_88, P_88, B_88), (i_89, P_89, B_89), (i_90, P_90, B_90), (i_91, P_91, B_91), (i_92, P_92, B_92), (i_93, P_93, B_93), (i_94, P_94, B_94), (i_95, P_95, B_95), (i_96, P_96, B_96), (i_97, P_97, B_97), (i_98, P_98, B_98), (i_99, P_99, B_99), (i_100, P_100, B_100), (i_101, P_101, B_101), (i_102, P_102, B_102), (i_103, P_103, B_103), (i_104, P_104, B_104), (i_105, P_105, B_105), (i_106, P_106, B_106), (i_107, P_107, B_107), (i_108, P_108, B_108), (i_109, P_109, B_109), (i_110, P_110, B_110), (i_111, P_111, B_111), (i_112, P_112, B_112), (i_113, P_113, B_113), (i_114, P_114, B_114), (i_115, P_115, B_115), (i_116, P_116, B_116), (i_117, P_117, B_117), (i_118, P_118, B_118), (i_119, P_119, B_119), (i_120, P_120, B_120), (i_121, P_121, B_121), (i_122, P_122, B_122), (i_123, P_123, B_123), (i_124, P_124, B_124), (i_125, P_125, B_125), (i_126, P_126, B_126), (i_127, P_127, B_127), (i_128, P_128, B_128), (i_129, P_129, B_129), (i_130, P_130, B_130), (i_131, P_131, B_131), (i_132, P_132, B_132), (i_133, P_133, B_133), (i_134, P_134, B_134), (i_135, P_135, B_135), (i_136, P_136, B_136), (i_137, P_137, B_137), (i_138, P_138, B_138), (i_139, P_139, B_139), (i_140, P_140, B_140), (i_141, P_141, B_141), (i_142, P_142, B_142), (i_143, P_143, B_143), (i_144, P_144, B_144), (i_145, P_145, B_145), (i_146, P_146, B_146), (i_147, P_147, B_147), (i_148, P_148, B_148), (i_149, P_149, B_149), (i_150, P_150, B_150), (i_151, P_151, B_151), (i_152, P_152, B_152), (i_153, P_153, B_153), (i_154, P_154, B_154), (i_155, P_155, B_155), (i_156, P_156, B_156), (i_157, P_157, B_157), (i_158, P_158, B_158), (i_159, P_159, B_159), (i_160, P_160, B_160), (i_161, P_161, B_161), (i_162, P_162, B_162), (i_163, P_163, B_163), (i_164, P_164, B_164), (i_165, P_165, B_165), (i_166, P_166, B_166), (i_167, P_167, B_167), (i_168, P_168, B_168), (i_169, P_169, B_169), (i_170, P_170, B_170), (i_171, P_171, B_171), (i_172, P_172, B_172), (i_173, P_173, B_173), (i_174, P_174, B_174), (i_175, P_175, B_175), (i_176, P_176, B_176), (i_177, P_177, B_177), (i_178, P_178, B_178), (i_179, P_179, B_179), (i_180, P_180, B_180), (i_181, P_181, B_181), (i_182, P_182, B_182), (i_183, P_183, B_183), (i_184, P_184, B_184), (i_185, P_185, B_185), (i_186, P_186, B_186), (i_187, P_187, B_187), (i_188, P_188, B_188), (i_189, P_189, B_189), (i_190, P_190, B_190), (i_191, P_191, B_191), (i_192, P_192, B_192), (i_193, P_193, B_193), (i_194, P_194, B_194), (i_195, P_195, B_195), (i_196, P_196, B_196), (i_197, P_197, B_197), (i_198, P_198, B_198), (i_199, P_199, B_199), (i_200, P_200, B_200), (i_201, P_201, B_201), (i_202, P_202, B_202), (i_203, P_203, B_203), (i_204, P_204, B_204), (i_205, P_205, B_205), (i_206, P_206, B_206), (i_207, P_207, B_207), (i_208, P_208, B_208), (i_209, P_209, B_209), (i_210, P_210, B_210), (i_211, P_211, B_211), (i_212, P_212, B_212), (i_213, P_213, B_213), (i_214, P_214, B_214), (i_215, P_215, B_215), (i_216, P_216, B_216), (i_217, P_217, B_217), (i_218, P_218, B_218), (i_219, P_219, B_219), (i_220, P_220, B_220), (i_221, P_221, B_221), (i_222, P_222, B_222), (i_223, P_223, B_223), (i_224, P_224, B_224), (i_225, P_225, B_225), (i_226, P_226, B_226), (i_227, P_227, B_227), (i_228, P_228, B_228), (i_229, P_229, B_229), (i_230, P_230, B_230), (i_231, P_231, B_231), (i_232, P_232, B_232), (i_233, P_233, B_233), (i_234, P_234, B_234), (i_235, P_235, B_235), (i_236, P_236, B_236), (i_237, P_237, B_237), (i_238, P_238, B_238), (i_239, P_239, B_239), (i_240, P_240, B_240), (i_241, P_241, B_241), (i_242, P_242, B_242), (i_243, P_243, B_243), (i_244, P_244, B_244), (i_245, P_245, B_245), (i_246, P_246, B_246), (i_247, P_247, B_247), (i_248, P_248, B_248), (i_249, P_249, B_249), (i_250, P_250, B_250), (i_251, P_251, B_251), (i_252, P_252, B_252), (i_253, P_253, B_253), (i_254, P_254, B_254), (i_255, P_255, B_255), (i_256, P_256, B_256), (i_257, P_257, B_257), (i_258, P_258, B_258), (i_259, P_259, B_259), (i_260, P_260, B_260), (i_261, P_261, B_261), (i_262, P_262, B_262), (i_263, P_263, B_263), (i_264, P_264, B_264), (i_265, P_265, B_265), (i_266, P_266, B_266), (i_267, P_267, B_267), (i_268, P_268, B_268), (i_269, P_269, B_269), (i_270, P_270, B_270), (i_271, P_271, B_271), (i_272, P_272, B_272), (i_273, P_273, B_273), (i_274, P_274, B_274), (i_275, P_275, B_275), (i_276, P_276, B_276), (i_277, P_277, B_277), (i_278, P_278, B_278), (i_279, P_279, B_279), (i_280, P_280, B_280), (i_281, P_281, B_281), (i_282, P_282, B_282), (i_283, P_283, B_283), (i_284, P_284, B_284), (i_285, P_285, B_285), (i_286, P_286, B_286), (i_287, P_287, B_287), (i_288, P_288, B_288), (i_289, P_289, B_289), (i_290, P_290, B_290), (i_291, P_291, B_291), (i_292, P_292, B_292), (i_293, P_293, B_293), (i_294, P_294, B_294), (i_295, P_295, B_295), (i_296, P_296, B_296), (i_297, P_297, B_297), (i_298, P_298, B_298)]
def bpf (P : List Nat) (b : Nat) : Nat := P.getD b 0
noncomputable def mi (k : Nat) : MI := (progL.getD k (i_0, P_0, B_0)).1
noncomputable def bpc (k : Nat) : Nat → Nat := bpf (progL.getD k (i_0, P_0, B_0)).2.1
noncomputable def blk (k b : Nat) : Bk := (progL.getD k (i_0, P_0, B_0)).2.2.getD b bk0
theorem mi_0 : mi 0 = i_0 := rfl
theorem mi_1 : mi 1 = i_1 := rfl
theorem mi_2 : mi 2 = i_2 := rfl
theorem mi_3 : mi 3 = i_3 := rfl
theorem mi_4 : mi 4 = i_4 := rfl
theorem mi_5 : mi 5 = i_5 := rfl
theorem mi_6 : mi 6 = i_6 := rfl
theorem mi_7 : mi 7 = i_7 := rfl
theorem mi_8 : mi 8 = i_8 := rfl
theorem mi_9 : mi 9 = i_9 := rfl
theorem mi_10 : mi 10 = i_10 := rfl
theorem mi_11 : mi 11 = i_11 := rfl
theorem mi_12 : mi 12 = i_12 := rfl
theorem mi_13 : mi 13 = i_13 := rfl
theorem mi_14 : mi 14 = i_14 := rfl
theorem mi_15 : mi 15 = i_15 := rfl
theorem mi_16 : mi 16 = i_16 := rfl
theorem mi_17 : mi 17 = i_17 := rfl
theorem mi_18 : mi 18 = i_18 := rfl
theorem mi_19 : mi 19 = i_19 := rfl
theorem mi_20 : mi 20 = i_20 := rfl
theorem mi_21 : mi 21 = i_21 := rfl
theorem mi_22 : mi 22 = i_22 := rfl
theorem mi_23 : mi 23 = i_23 := rfl
theorem mi_24 : mi 24 = i_24 := rfl
theorem mi_25 : mi 25 = i_25 := rfl
theorem mi_26 : mi 26 = i_26 := rfl
theorem mi_27 : mi 27 = i_27 := rfl
theorem mi_28 : mi 28 = i_28 := rfl
theorem mi_29 : mi 29 = i_29 := rfl
theorem mi_30 : mi 30 = i_30 := rfl
theorem mi_31 : mi 31 = i_31 := rfl
theorem mi_32 : mi 32 = i_32 := rfl
theorem mi_33 : mi 33 = i_33 := rfl
theorem mi_34 : mi 34 = i_34 := rfl
theorem mi_35 : mi 35 = i_35 := rfl
theorem mi_36 : mi 36 = i_36 := rfl
theorem mi_37 : mi 37 = i_37 := rfl
theorem mi_38 : mi 38 = i_38 := rfl
theorem mi_39 : mi 39 = i_39 := rfl
theorem mi_40 : mi 40 = i_40 := rfl
theorem mi_41 : mi 41 = i_41 := rfl
theorem mi_42 : mi 42 = i_42 := rfl
theorem mi_43 : mi 43 = i_43 := rfl
theorem mi_44 : mi 44 = i_44 := rfl
theorem mi_45 : mi 45 = i_45 := rfl
theorem mi_46 : mi 46 = i_46 := rfl
theorem mi_47 : mi 47 = i_47 := rfl
theorem mi_48 : mi 48 = i_48 := rfl
theorem mi_49 : mi 49 = i_49 := rfl
theorem mi_50 : mi 50 = i_50 := rfl
theorem mi_51 : mi 51 = i_51 := rfl
theorem mi_52 : mi 52 = i_52 := rfl
theorem mi_53 : mi 53 = i_53 := rfl
theorem mi_54 : mi 54 = i_54 := rfl
theorem mi_55 : mi 55 = i_55 := rfl
theorem mi_56 : mi 56 = i_56 := rfl
theorem mi_57 : mi 57 = i_57 := rfl
theorem mi_58 : mi 58 = i_58 := rfl
theorem mi_59 : mi 59 = i_59 := rfl
theorem mi_60 : mi 60 = i_60 := rfl
theorem mi_61 : mi 61 = i_61 := rfl
theorem mi_62 : mi 62 = i_62 := rfl
theorem mi_63 : mi 63 = i_63 := rfl
theorem mi_64 : mi 64 = i_64 := rfl
theorem mi_65 : mi 65 = i_65 := rfl
theorem mi_66 : mi 66 = i_66 := rfl
theorem mi_67 : mi 67 = i_67 := rfl
theorem mi_68 : mi 68 = i_68 := rfl
theorem mi_69 : mi 69 = i_69 := rfl
theorem mi_70 : mi 70 = i_70 := rfl
theorem mi_71 : mi 71 = i_71 := rfl
theorem mi_72 : mi 72 = i_72 := rfl
theorem mi_73 : mi 73 = i_73 := rfl
theorem mi_74 : mi 74 = i_74 := rfl
theorem mi_75 : mi 75 = i_75 := rfl
theorem mi_76 : mi 76 = i_76 := rfl
theorem mi_77 : mi 77 = i_77 := rfl
theorem mi_78 : mi 78 = i_78 := rfl
theorem mi_79 : mi 79 = i_79 := rfl
theorem mi_80 : mi 80 = i_80 := rfl
theorem mi_81 : mi 81 = i_81 := rfl
theorem mi_82 : mi 82 = i_82 := rfl
theorem mi_83 : mi 83 = i_83 := rfl
theorem mi_84 : mi 84 = i_84 := rfl
theorem mi_85 : mi 85 = i_85 := rfl
theorem mi_86 : mi 86 = i_86 := rfl
theorem mi_87 : mi 87 = i_87 := rfl
theorem mi_88 : mi 88 = i_88 := rfl
theorem mi_89 : mi 89 = i_89 := rfl
theorem mi_90 : mi 90 = i_90 := rfl
theorem mi_91 : mi 91 = i_91 := rfl
theorem mi_92 : mi 92 = i_92 := rfl
theorem mi_93 : mi 93 = i_93 := rfl
theorem mi_94 : mi 94 = i_94 := rfl
theorem mi_95 : mi 95 = i_95 := rfl
theorem mi_96 : mi 96 = i_96 := rfl
theorem mi_97 : mi 97 = i_97 := rfl
theorem mi_98 : mi 98 = i_98 := rfl
theorem mi_99 : mi 99 = i_99 := rfl
theorem mi_100 : mi 100 = i_100 := rfl
theorem mi_101 : mi 101 = i_101 := rfl
theorem mi_102 : mi 102 = i_102 := rfl
theorem mi_103 : mi 103 = i_103 := rfl
theorem mi_104 : mi 104 = i_104 := rfl
theorem mi_105 : mi 105 = i_105 := rfl
theorem mi_106 : mi 106 = i_106 := rfl
theorem mi_107 : mi 107 = i_107 := rfl
theorem mi_108 : mi 108 = i_108 := rfl
theorem mi_109 : mi 109 = i_109 := rfl
theorem mi_110 : mi 110 = i_110 := rfl
theorem mi_111 : mi 111 = i_111 := rfl
theorem mi_112 : mi 112 = i_112 := rfl
theorem mi_113 : mi 113 = i_113 := rfl
theorem mi_114 : mi 114 = i_114 := rfl
theorem mi_115 : mi 115 = i_115 := rfl
theorem mi_116 : mi 116 = i_116 := rfl
theorem mi_117 : mi 117 = i_117 := rfl
theorem mi_118 : mi 118 = i_118 := rfl
theorem mi_119 : mi 119 = i_119 := rfl
theorem mi_120 : mi 120 = i_120 := rfl
theorem mi_121 : mi 121 = i_121 := rfl
theorem mi_122 : mi 122 = i_122 := rfl
theorem mi_123 : mi 123 = i_123 := rfl
theorem mi_124 : mi 124 = i_124 := rfl
theorem mi_125 : mi 125 = i_125 := rfl
theorem mi_126 : mi 126 = i_126 := rfl
theorem mi_127 : mi 127 = i_127 := rfl
theorem mi_128 : mi 128 = i_128 := rfl
theorem mi_129 : mi 129 = i_129 := rfl
theorem mi_130 : mi 130 = i_130 := rfl
theorem mi_131 : mi 131 = i_131 := rfl
theorem mi_132 : mi 132 = i_132 := rfl
theorem mi_133 : mi 133 = i_133 := rfl
theorem mi_134 : mi 134 = i_134 := rfl
theorem mi_135 : mi 135 = i_135 := rfl
theorem mi_136 : mi 136 = i_136 := rfl
theorem mi_137 : mi 137 = i_137 := rfl
theorem mi_138 : mi 138 = i_138 := rfl
theorem mi_139 : mi 139 = i_139 := rfl
theorem mi_140 : mi 140 = i_140 := rfl
theorem mi_141 : mi 141 = i_141 := rfl
theorem mi_142 : mi 142 = i_142 := rfl
theorem mi_143 : mi 143 = i_143 := rfl
theorem mi_144 : mi 144 = i_144 := rfl
theorem mi_145 : mi 145 = i_145 := rfl
theorem mi_146 : mi 146 = i_146 := rfl
theorem mi_147 : mi 147 = i_147 := rfl
theorem mi_148 : mi 148 = i_148 := rfl
theorem mi_149 : mi 149 = i_149 := rfl
theorem mi_150 : mi 150 = i_150 := rfl
theorem mi_151 : mi 151 = i_151 := rfl
theorem mi_152 : mi 152 = i_152 := rfl
theorem mi_153 : mi 153 = i_153 := rfl
theorem mi_154 : mi 154 = i_154 := rfl
theorem mi_155 : mi 155 = i_155 := rfl
theorem mi_156 : mi 156 = i_156 := rfl
theorem mi_157 : mi 157 = i_157 := rfl
theorem mi_158 : mi 158 = i_158 := rfl
theorem mi_159 : mi 159 = i_159 := rfl
theorem mi_160 : mi 160 = i_160 := rfl
theorem mi_161 : mi 161 = i_161 := rfl
theorem mi_162 : mi 162 = i_162 := rfl
theorem mi_163 : mi 163 = i_163 := rfl
theorem mi_164 : mi 164 = i_164 := rfl
theorem mi_165 : mi 165 = i_165 := rfl
theorem mi_166 : mi 166 = i_166 := rfl
theorem mi_167 : mi 167 = i_167 := rfl
theorem mi_168 : mi 168 = i_168 := rfl
theorem mi_169 : mi 169 = i_169 := rfl
theorem mi_170 : mi 170 = i_170 := rfl
theorem mi_171 : mi 171 = i_171 := rfl
theorem mi_172 : mi 172 = i_172 := rfl
theorem mi_173 : mi 173 = i_173 := rfl
theorem mi_174 : mi 174 = i_174 := rfl
theorem mi_175 : mi 175 = i_175 := rfl
theorem mi_176 : mi 176 = i_176 := rfl
theorem mi_177 : mi 177 = i_177 := rfl
theorem mi_178 : mi 178 = i_178 := rfl
theorem mi_179 : mi 179 = i_179 := rfl
theorem mi_180 : mi 180 = i_180 := rfl
theorem mi_181 : mi 181 = i_181 := rfl
theorem mi_182 : mi 182 = i_182 := rfl
theorem mi_183 : mi 183 = i_183 := rfl
theorem mi_184 : mi 184 = i_184 := rfl
theorem mi_185 : mi 185 = i_185 := rfl
theorem mi_186 : mi 186 = i_186 := rfl
theorem mi_187 : mi 187 = i_187 := rfl
theorem mi_188 : mi 188 = i_188 := rfl
theorem mi_189 : mi 189 = i_189 := rfl
theorem mi_190 : mi 190 = i_190 := rfl
theorem mi_191 : mi 191 = i_191 := rfl
theorem mi_192 : mi 192 = i_192 := rfl
theorem mi_193 : mi 193 = i_193 := rfl
theorem mi_194 : mi 194 = i_194 := rfl
theorem mi_195 : mi 195 = i_195 := rfl
theorem mi_196 : mi 196 = i_196 := rfl
theorem mi_197 : mi 197 = i_197 := rfl
theorem mi_198 : mi 198 = i_198 := rfl
theorem mi_199 : mi 199 = i_199 := rfl
theorem mi_200 : mi 200 = i_200 := rfl
theorem mi_201 : mi 201 = i_201 := rfl
theorem mi_202 : mi 202 = i_202 := rfl
theorem mi_203 : mi 203 = i_203 := rfl
theorem mi_204 : mi 204 = i_204 := rfl
theorem mi_205 : mi 205 = i_205 := rfl
theorem mi_206 : mi 206 = i_206 := rfl
theorem mi_207 : mi 207 = i_207 := rfl
theorem mi_208 : mi 208 = i_208 := rfl
theorem mi_209 : mi 209 = i_209 := rfl
theorem mi_210 : mi 210 = i_210 := rfl
theorem mi_211 : mi 211 = i_211 := rfl
theorem mi_212 : mi 212 = i_212 := rfl
theorem mi_213 : mi 213 = i_213 := rfl
theorem mi_214 : mi 214 = i_214 := rfl
theorem mi_215 : mi 215 = i_215 := rfl
theorem mi_216 : mi 216 = i_216 := rfl
theorem mi_217 : mi 217 = i_217 := rfl
theorem mi_218 : mi 218 = i_218 := rfl
theorem mi_219 : mi 219 = i_219 := rfl
theorem mi_220 : mi 220 = i_220 := rfl
theorem mi_221 : mi 221 = i_221 := rfl
theorem mi_222 : mi 222 = i_222 := rfl
theorem mi_223 : mi 223 = i_223 := rfl
theorem mi_224 : mi 224 = i_224 := rfl
theorem mi_225 : mi 225 = i_225 := rfl
theorem mi_226 : mi 226 = i_226 := rfl
theorem mi_227 : mi 227 = i_227 := rfl
theorem mi_228 : mi 228 = i_228 := rfl
theorem mi_229 : mi 229 = i_229 := rfl
theorem mi_230 : mi 230 = i_230 := rfl
theorem mi_231 : mi 231 = i_231 := rfl
theorem mi_232 : mi 232 = i_232 := rfl
theorem mi_233 : mi 233 = i_233 := rfl
theorem mi_234 : mi 234 = i_234 := rfl
theorem mi_235 : mi 235 = i_235 := rfl
theorem mi_236 : mi 236 = i_236 := rfl
theorem mi_237 : mi 237 = i_237 := rfl
theorem mi_238 : mi 238 = i_238 := rfl
theorem mi_239 : mi 239 = i_239 := rfl
theorem mi_240 : mi 240 = i_240 := rfl
theorem mi_241 : mi 241 = i_241 := rfl
theorem mi_242 : mi 242 = i_242 := rfl
theorem mi_243 : mi 243 = i_243 := rfl
theorem mi_244 : mi 244 = i_244 := rfl
theorem mi_245 : mi 245 = i_245 := rfl
theorem mi_246 : mi 246 = i_246 := rfl
theorem mi_247 : mi 247 = i_247 := rfl
theorem mi_248 : mi 248 = i_248 := rfl
theorem mi_249 : mi 249 = i_249 := rfl
theorem mi_250 : mi 250 = i_250 := rfl
theorem mi_251 : mi 251 = i_251 := rfl
theorem mi_252 : mi 252 = i_252 := rfl
theorem mi_253 : mi 253 = i_253 := rfl
theorem mi_254 : mi 254 = i_254 := rfl
theorem mi_255 : mi 255 = i_255 := rfl
theorem mi_256 : mi 256 = i_256 := rfl
theorem mi_257 : mi 257 = i_257 := rfl
theorem mi_258 : mi 258 = i_258 := rfl
theorem mi_259 : mi 259 = i_259 := rfl
theorem mi_260 : mi 260 = i_260 := rfl
theorem mi_261 : mi 261 = i_261 := rfl
theorem mi_262 : mi 262 = i_262 := rfl
theorem mi_263 : mi 263 = i_263 := rfl
theorem mi_264 : mi 264 = i_264 := rfl
theorem mi_265 : mi 265 = i_265 := rfl
theorem mi_266 : mi 266 = i_266 := rfl
theorem mi_267 : mi 267 = i_267 := rfl
theorem mi_268 : mi 268 = i_268 := rfl
theorem mi_269 : mi 269 = i_269 := rfl
theorem mi_270 : mi 270 = i_270 := rfl
theorem mi_271 : mi 271 = i_271 := rfl
theorem mi_272 : mi 272 = i_272 := rfl
theorem mi_273 : mi 273 = i_273 := rfl
theorem mi_274 : mi 274 = i_274 := rfl
theorem mi_275 : mi 275 = i_275 := rfl
theorem mi_276 : mi 276 = i_276 := rfl
theorem mi_277 : mi 277 = i_277 := rfl
theorem mi_278 : mi 278 = i_278 := rfl
theorem mi_279 : mi 279 = i_279 := rfl
theorem mi_280 : mi 280 = i_280 := rfl
theorem mi_281 : mi 281 = i_281 := rfl
theorem mi_282 : mi 282 = i_282 := rfl
theorem mi_283 : mi 283 = i_283 := rfl
theorem mi_284 : mi 284 = i_284 := rfl
theorem mi_285 : mi 285 = i_285 := rfl
theorem mi_286 : mi 286 = i_286 := rfl
theorem mi_287 : mi 287 = i_287 := rfl
theorem mi_288 : mi 288 = i_288 := rfl
theorem mi_289 : mi 289 = i_289 := rfl
theorem mi_290 : mi 290 = i_290 := rfl
theorem mi_291 : mi 291 = i_291 := rfl
theorem mi_292 : mi 292 = i_292 := rfl
theorem mi_293 : mi 293 = i_293 := rfl
theorem mi_294 : mi 294 = i_294 := rfl
theorem mi_295 : mi 295 = i_295 := rfl
theorem mi_296 : mi 296 = i_296 := rfl
theorem mi_297 : mi 297 = i_297 := rfl
theorem mi_298 : mi 298 = i_298 := rfl
