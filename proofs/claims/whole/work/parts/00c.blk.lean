/-! The program as blocks (printed by wip/whole/gen2.py). -/
def nfX0 : Vs := [.int 0, .int 0, .null, .null, .null, .null, .null, .null, .null, .null]
def nfX1 : Vs := [.int 0, .int 0, .int 0, .null, .null, .null, .null, .null, .null, .null, .null, .null, .null]
def nfX2 : Vs := [.null]
def nfX3 : Vs := [.null]
def nfX4 : Vs := [.null, .int 0, .int 0, .int 0, .int 0, .int 0, .int 0, .int 0, .int 0]
def nfX5 : Vs := [.null, .null, .null, .null, .null, .null, .null, .int 0, .null, .int 0, .int 0, .null]
def nfX6 : Vs := [.null, .null, .null, .null, .null, .null, .int 0, .int 0, .null, .int 0, .int 0, .int 0, .int 0, .int 0, .int 0, .int 0, .int 0, .null, .null, .null, .null, .null, .null, .null, .null, .null, .null, .int 0, .null, .int 0]
/-- HandFingers$Piece.<init>()V -/
noncomputable def B_0 : List Bk := [([xLdA 0, xObj, xLdA 0, xNew 2 nfX2, xDup, xC (.int 40)], tCi 61 2 1 1),
  ([xPut 0 2 (.object "HandFingers$Row"), xLdA 0, xNew 2 nfX2, xDup, xC (.int 40)], tCi 61 2 1 2),
  ([xPut 0 3 (.object "HandFingers$Row"), xLdA 0, xNew 2 nfX2, xDup, xC (.int 120)], tCi 61 2 1 3),
  ([xPut 0 4 (.object "HandFingers$Row"), xLdA 0, xNew 2 nfX2, xDup, xC (.int 120)], tCi 61 2 1 4),
  ([xPut 0 5 (.object "HandFingers$Row"), xLdA 0, xNew 2 nfX2, xDup, xC (.int 10)], tCi 61 2 1 5),
  ([xPut 0 6 (.object "HandFingers$Row"), xLdA 0, xNew 2 nfX2, xDup, xC (.int 25)], tCi 61 2 1 6),
  ([xPut 0 7 (.object "HandFingers$Row"), xLdA 0, xNew 2 nfX2, xDup, xC (.int 25)], tCi 61 2 1 7),
  ([xPut 0 8 (.object "HandFingers$Row"), xLdA 0, xNew 2 nfX2, xDup, xC (.int 25)], tCi 61 2 1 8),
  ([xPut 0 9 (.object "HandFingers$Row"), xLdA 0], tCv 1 2 0 0 9 (some [])),
  ([], tRetV)]
/-- HandFingers$Piece.begin()V -/
noncomputable def B_1 : List Bk := [([xLdA 0, xC (.int 1), xPut 0 0 (.boolean), xLdA 0, xC (.int 0), xPut 0 1 (.int), xC (.int 0), xSt 1], tGo 1),
  ([xLd 1, xC (.ref 0), xLen], tGe 4 2),
  ([xLdA 0, xGet 0 6, xLd 1, xC (.ref 0), xLd 1, xAld], tCv 63 3 2 2 3 (some [])),
  ([xInc 1 1], tGo 1),
  ([xC (.int 0), xSt 1], tGo 5),
  ([xLd 1, xC (.int 5), xAdd, xC (.ref 1), xLen], tGt 8 6),
  ([xLdA 0, xC (.ref 1), xLd 1, xAld, xC (.ref 1), xLd 1, xC (.int 1), xAdd, xAld, xC (.ref 1), xLd 1, xC (.int 2), xAdd, xAld, xC (.ref 1), xLd 1, xC (.int 3), xAdd, xAld, xC (.ref 1), xLd 1, xC (.int 4), xAdd, xAld], tCv 3 6 0 5 7 (some [])),
  ([xInc 1 5], tGo 5),
  ([], tRetV)]
/-- HandFingers$Piece.copyFrom(LHandFingers$Piece;)V -/
noncomputable def B_2 : List Bk := [([xLdA 0, xLdA 1, xGet 0 0, xPut 0 0 (.boolean), xLdA 0, xLdA 1, xGet 0 1, xPut 0 1 (.int), xLdA 0, xGet 0 2, xLdA 1, xGet 0 2], tCv 64 2 2 1 1 (some [])),
  ([xLdA 0, xGet 0 3, xLdA 1, xGet 0 3], tCv 64 2 2 1 2 (some [])),
  ([xLdA 0, xGet 0 4, xLdA 1, xGet 0 4], tCv 64 2 2 1 3 (some [])),
  ([xLdA 0, xGet 0 5, xLdA 1, xGet 0 5], tCv 64 2 2 1 4 (some [])),
  ([xLdA 0, xGet 0 6, xLdA 1, xGet 0 6], tCv 64 2 2 1 5 (some [])),
  ([xLdA 0, xGet 0 7, xLdA 1, xGet 0 7], tCv 64 2 2 1 6 (some [])),
  ([xLdA 0, xGet 0 8, xLdA 1, xGet 0 8], tCv 64 2 2 1 7 (some [])),
  ([xLdA 0, xGet 0 9, xLdA 1, xGet 0 9], tCv 64 2 2 1 8 (some [])),
  ([], tRetV)]
/-- HandFingers$Piece.putSpan(IIIII)V -/
noncomputable def B_3 : List Bk := [([xLdA 0, xGet 0 7, xLd 1, xLd 2], tCs 147 2 2 1),
  ([xLd 3], tCv 63 3 2 2 2 (some [])),
  ([xLdA 0, xGet 0 7, xLd 2, xLd 1], tCs 147 2 2 3),
  ([xLd 3], tCv 63 3 2 2 4 (some [])),
  ([xLdA 0, xGet 0 8, xLd 1, xLd 2], tCs 147 2 2 5),
  ([xLd 4], tCv 63 3 2 2 6 (some [])),
  ([xLdA 0, xGet 0 8, xLd 2, xLd 1], tCs 147 2 2 7),
  ([xLd 4], tCv 63 3 2 2 8 (some [])),
  ([xLdA 0, xGet 0 9, xLd 1, xLd 2], tCs 147 2 2 9),
  ([xLd 5], tCv 63 3 2 2 10 (some [])),
  ([xLdA 0, xGet 0 9, xLd 2, xLd 1], tCs 147 2 2 11),
  ([xLd 5], tCv 63 3 2 2 12 (some [])),
  ([], tRetV)]
/-- HandFingers$Piece.openPlace(I)V -/
noncomputable def B_4 : List Bk := [([xLdA 0, xGet 0 1, xSt 2], tGo 1),
  ([xLd 2, xLd 1], tLe 4 2),
  ([xLdA 0, xLd 2, xC (.int 1), xSub, xLd 2], tCv 6 4 0 2 3 (some [])),
  ([xInc 2 (-1)], tGo 1),
  ([xLdA 0, xGet 0 2, xLd 1, xC (.int 0)], tCv 63 3 2 2 5 (some [])),
  ([xLdA 0, xGet 0 3, xLd 1, xC (.int 0)], tCv 63 3 2 2 6 (some [])),
  ([xLdA 0, xDup, xGet 0 1, xC (.int 1), xAdd, xPut 0 1 (.int)], tRetV)]
/-- HandFingers$Piece.closePlace(I)V -/
noncomputable def B_5 : List Bk := [([xLdA 0, xDup, xGet 0 1, xC (.int 1), xSub, xPut 0 1 (.int), xLd 1, xSt 2], tGo 1),
  ([xLd 2, xLdA 0, xGet 0 1], tGe 4 2),
  ([xLdA 0, xLd 2, xC (.int 1), xAdd, xLd 2], tCv 6 4 0 2 3 (some [])),
  ([xInc 2 1], tGo 1),
  ([], tRetV)]
/-- HandFingers$Piece.moveEvent(II)V -/
noncomputable def B_6 : List Bk := [([xLdA 0, xGet 0 2, xLd 2, xLdA 0, xGet 0 2, xLd 1], tCv 62 2 2 1 1 (some [])),
  ([], tCv 63 3 2 2 2 (some [])),
  ([xLdA 0, xGet 0 3, xLd 2, xLdA 0, xGet 0 3, xLd 1], tCv 62 2 2 1 3 (some [])),
  ([], tCv 63 3 2 2 4 (some [])),
  ([xC (.int 0), xSt 3], tGo 5),
  ([xLd 3, xC (.int 3)], tGe 15 6),
  ([xLdA 0, xGet 0 4, xLd 2, xLd 3], tCs 146 2 2 7),
  ([xLdA 0, xGet 0 4, xLd 1, xLd 3], tCs 146 2 2 8),
  ([], tCv 62 2 2 1 9 (some [])),
  ([], tCv 63 3 2 2 10 (some [])),
  ([xLdA 0, xGet 0 5, xLd 2, xLd 3], tCs 146 2 2 11),
  ([xLdA 0, xGet 0 5, xLd 1, xLd 3], tCs 146 2 2 12),
  ([], tCv 62 2 2 1 13 (some [])),
  ([], tCv 63 3 2 2 14 (some [])),
  ([xInc 3 1], tGo 5),
  ([], tRetV)]
/-- HandFingers$Piece.putNote(III)V -/
noncomputable def B_7 : List Bk := [([xLdA 0, xGet 0 4, xLd 1, xLd 2], tCs 146 2 2 1),
  ([xLd 3], tCv 63 3 2 2 2 (some [])),
  ([xLdA 0, xGet 0 5, xLd 1, xLd 2], tCs 146 2 2 3),
  ([xC (.int 31)], tCv 63 3 2 2 4 (some [])),
  ([xLdA 0, xGet 0 2, xLd 1, xLd 2, xC (.int 1), xAdd], tCv 63 3 2 2 5 (some [])),
  ([], tRetV)]
/-- HandFingers$Piece.canShift(I)Z -/
noncomputable def B_8 : List Bk := [([xLdA 0, xGet 0 1], tEq0 5 1),
  ([xLdA 0], tCv 12 3 0 0 2 (some [])),
  ([xLd 1, xAdd, xC (.int 21)], tLt 6 3),
  ([xLdA 0], tCv 13 3 0 0 4 (some [])),
  ([xLd 1, xAdd, xC (.int 108)], tGt 6 5),
  ([xC (.int 1)], tGo 7),
  ([xC (.int 0)], tGo 7),
  ([], tRetZ)]
/-- HandFingers$Piece.shift(I)V -/
noncomputable def B_9 : List Bk := [([xC (.int 0), xSt 2], tGo 1),
  ([xLd 2, xLdA 0, xGet 0 1], tGe 10 2),
  ([xC (.int 0), xSt 3], tGo 3),
  ([xLd 3, xLdA 0, xGet 0 2, xLd 2], tCv 62 2 2 1 4 (some [])),
  ([], tGe 9 5),
  ([xLdA 0, xGet 0 4, xLd 2, xLd 3], tCs 146 2 2 6),
  ([xLdA 0, xLd 2, xLd 3], tCv 10 3 0 2 7 (some [])),
  ([xLd 1, xAdd], tCv 63 3 2 2 8 (some [])),
  ([xInc 3 1], tGo 3),
  ([xInc 2 1], tGo 1),
  ([], tRetV)]
/-- HandFingers$Piece.keyOf(II)I -/
noncomputable def B_10 : List Bk := [([xLdA 0, xGet 0 4, xLd 1, xLd 2], tCs 146 2 2 1),
  ([], tCv 62 2 2 1 2 (some [])),
  ([], tRet)]
/-- HandFingers$Piece.allNotes()I -/
noncomputable def B_11 : List Bk := [([xC (.int 0), xSt 1, xC (.int 0), xSt 2], tGo 1),
  ([xLd 2, xLdA 0, xGet 0 1], tGe 4 2),
  ([xLd 1, xLdA 0, xGet 0 2, xLd 2], tCv 62 2 2 1 3 (some [])),
  ([xAdd, xSt 1, xInc 2 1], tGo 1),
  ([xLd 1], tRet)]
/-- HandFingers$Piece.leastKey()I -/
noncomputable def B_12 : List Bk := [([xC (.int (-1)), xSt 1, xC (.int 0), xSt 2], tGo 1),
  ([xLd 2, xLdA 0, xGet 0 1], tGe 5 2),
  ([xLd 1, xLdA 0, xLd 2, xC (.int 0)], tCv 10 3 0 2 3 (some [])),
  ([], tCs 149 2 2 4),
  ([xSt 1, xInc 2 1], tGo 1),
  ([xLd 1], tRet)]
/-- HandFingers$Piece.greatestKey()I -/
noncomputable def B_13 : List Bk := [([xC (.int (-1)), xSt 1, xC (.int 0), xSt 2], tGo 1),
  ([xLd 2, xLdA 0, xGet 0 1], tGe 5 2),
  ([xLd 1, xLdA 0, xLd 2, xLdA 0, xGet 0 2, xLd 2], tCv 62 2 2 1 3 (some [])),
  ([xC (.int 1), xSub], tCv 10 3 0 2 4 (some [])),
  ([xMax, xSt 1, xInc 2 1], tGo 1),
  ([xLd 1], tRet)]
/-- HandFingers$Piece.blackNotes()I -/
noncomputable def B_14 : List Bk := [([xC (.int 0), xSt 1, xC (.int 0), xSt 2], tGo 1),
  ([xLd 2, xLdA 0, xGet 0 1], tGe 12 2),
  ([xC (.int 0), xSt 3], tGo 3),
  ([xLd 3, xLdA 0, xGet 0 2, xLd 2], tCv 62 2 2 1 4 (some [])),
  ([], tGe 11 5),
  ([xLd 1, xLdA 0, xLd 2, xLd 3], tCv 10 3 0 2 6 (some [])),
  ([], tCs 144 2 1 7),
  ([], tEq0 9 8),
  ([xC (.int 1)], tGo 10),
  ([xC (.int 0)], tGo 10),
  ([xAdd, xSt 1, xInc 3 1], tGo 3),
  ([xInc 2 1], tGo 1),
  ([xLd 1], tRet)]
/-- HandFingers$Piece.freePassages()I -/
noncomputable def B_15 : List Bk := [([xC (.int 0), xSt 1, xC (.int 0), xSt 2], tGo 1),
  ([xLd 2, xLdA 0, xGet 0 1, xC (.int 1), xSub], tGe 8 2),
  ([xLd 1, xLdA 0, xLdA 0, xGet 0 3, xLd 2], tCv 62 2 2 1 3 (some [])),
  ([], tCv 16 2 0 1 4 (some [])),
  ([], tEq0 6 5),
  ([xC (.int 1)], tGo 7),
  ([xC (.int 0)], tGo 7),
  ([xAdd, xSt 1, xInc 2 1], tGo 1),
  ([xLd 1], tRet)]
/-- HandFingers$Piece.isFree(I)Z -/
noncomputable def B_16 : List Bk := [([xLd 1, xLdA 0, xGet 0 6, xC (.int 8)], tCv 62 2 2 1 1 (some [])),
  ([], tLt 3 2),
  ([xC (.int 1)], tGo 4),
  ([xC (.int 0)], tGo 4),
  ([], tRetZ)]
/-- HandFingers$Piece.mayPlay(III)Z -/
noncomputable def B_17 : List Bk := [([xLdA 0, xGet 0 5, xLd 1, xLd 2], tCs 146 2 2 1),
  ([], tCv 62 2 2 1 2 (some [])),
  ([xLd 3], tCs 145 1 1 3),
  ([xAnd], tEq0 5 4),
  ([xC (.int 1)], tGo 6),
  ([xC (.int 0)], tGo 6),
  ([], tRetZ)]
/-- HandFingers$Piece.inOrder(II)Z -/
noncomputable def B_18 : List Bk := [([xLdA 0, xGet 0 0], tEq0 4 1),
  ([xLd 1, xLd 2], tGe 3 2),
  ([xC (.int 1)], tGo 7),
  ([xC (.int 0)], tGo 7),
  ([xLd 1, xLd 2], tLe 6 5),
  ([xC (.int 1)], tGo 7),
  ([xC (.int 0)], tGo 7),
  ([], tRetZ)]
/-- HandFingers$Piece.costOfEvent(ILHandFingers$Row;II)I -/
noncomputable def B_19 : List Bk := [([xC (.int 0), xSt 5, xC (.int 0), xSt 6], tGo 1),
  ([xLd 6, xLdA 0, xGet 0 2, xLd 1], tCv 62 2 2 1 2 (some [])),
  ([], tGe 21 3),
  ([xLdA 2, xLd 3, xLd 6, xAdd], tCv 62 2 2 1 4 (some [])),
  ([xSt 7, xLdA 0, xLd 1, xLd 6, xLd 7], tCv 17 4 0 3 5 (some [])),
  ([], tNe0 7 6),
  ([xC (.int (-1))], tRet),
  ([xLd 5, xLdA 0, xLdA 0, xLd 1, xLd 6], tCv 10 3 0 2 8 (some [])),
  ([xLd 4, xAdd, xLd 7], tCv 20 4 0 2 9 (some [])),
  ([xAdd, xSt 5, xLd 6], tNe0 11 10),
  ([], tGo 20),
  ([xLdA 2, xLd 3, xLd 6, xAdd, xC (.int 1), xSub], tCv 62 2 2 1 12 (some [])),
  ([xSt 8, xLdA 0, xLdA 0, xLd 1, xLd 6], tCv 10 3 0 2 13 (some [])),
  ([xLdA 0, xLd 1, xLd 6, xC (.int 1), xSub], tCv 10 3 0 2 14 (some [])),
  ([xSub, xLd 8, xLd 7], tCv 21 7 0 3 15 (some [])),
  ([xSt 9, xLdA 0, xLd 8, xLd 7], tCv 18 3 0 2 16 (some [])),
  ([], tEq0 18 17),
  ([xLd 9, xC (.int (-1))], tNe 19 18),
  ([xC (.int (-1))], tRet),
  ([xLd 5, xLd 9, xAdd, xSt 5], tGo 20),
  ([xInc 6 1], tGo 1),
  ([xLd 5], tRet)]
/-- HandFingers$Piece.costOfNote(II)I -/
noncomputable def B_20 : List Bk := [([xLd 2, xC (.int 4)], tNe 3 1),
  ([xLdA 0, xGet 0 6, xC (.int 6)], tCv 62 2 2 1 2 (some [])),
  ([], tGo 4),
  ([xC (.int 0)], tGo 4),
  ([xSt 3, xLd 2, xC (.int 1)], tEq 6 5),
  ([xLd 2, xC (.int 5)], tNe 10 6),
  ([xLd 1], tCs 144 2 1 7),
  ([], tEq0 10 8),
  ([xLd 3, xLdA 0, xGet 0 6, xC (.int 5)], tCv 62 2 2 1 9 (some [])),
  ([xAdd, xSt 3], tGo 10),
  ([xLd 3], tRet)]
/-- HandFingers$Piece.costOfStretch(III)I -/
noncomputable def B_21 : List Bk := [([xLd 2, xLd 3], tCs 147 2 2 1),
  ([xSt 4, xLd 1, xLdA 0, xGet 0 9, xLd 4], tCv 62 2 2 1 2 (some [])),
  ([], tLe 4 3),
  ([xC (.int (-1))], tRet),
  ([xLdA 0, xGet 0 7, xLd 4], tCv 62 2 2 1 5 (some [])),
  ([xLd 1, xSub, xSt 5, xLd 1, xLdA 0, xGet 0 8, xLd 4], tCv 62 2 2 1 6 (some [])),
  ([xSub, xSt 6, xLdA 0, xGet 0 6, xC (.int 0)], tCv 62 2 2 1 7 (some [])),
  ([xC (.int 0), xLd 5, xLd 6, xMax, xMax, xMul], tRet)]
/-- HandFingers$Piece.costOfPassage(IILHandFingers$Row;II)I -/
noncomputable def B_22 : List Bk := [([xLdA 0, xLd 2], tCv 16 2 0 1 1 (some [])),
  ([], tEq0 3 2),
  ([xC (.int 0)], tRet),
  ([xC (.int 0), xSt 6, xC (.int 0), xSt 7], tGo 4),
  ([xLd 7, xLdA 0, xLd 1], tCv 24 2 0 1 5 (some [])),
  ([], tGe 16 6),
  ([xLdA 0, xLd 1, xLd 7], tCv 25 3 0 2 7 (some [])),
  ([xSt 8, xLdA 0, xLd 1, xC (.int 1), xAdd, xLd 7], tCv 25 3 0 2 8 (some [])),
  ([xSt 9, xLdA 0, xLdA 3, xLd 4, xLd 8, xAdd], tCv 62 2 2 1 9 (some [])),
  ([xLdA 0, xLd 1, xLd 8], tCv 10 3 0 2 10 (some [])),
  ([xLdA 3, xLd 5, xLd 9, xAdd], tCv 62 2 2 1 11 (some [])),
  ([xLdA 0, xLd 1, xC (.int 1), xAdd, xLd 9], tCv 10 3 0 2 12 (some [])),
  ([], tCv 26 6 0 4 13 (some [])),
  ([xSt 10, xLd 10, xC (.int (-1))], tNe 15 14),
  ([xC (.int (-1))], tRet),
  ([xLd 6, xLd 10, xAdd, xSt 6, xInc 7 1], tGo 4),
  ([xC (.int 0), xLd 6, xLdA 0, xGet 0 6, xC (.int 7)], tCv 62 2 2 1 17 (some [])),
  ([xLd 2, xMul, xSub, xMax], tRet)]
/-- HandFingers$Piece.crossings(ILHandFingers$Row;II)I -/
noncomputable def B_23 : List Bk := [([xLdA 0, xLdA 0, xGet 0 3, xLd 1], tCv 62 2 2 1 1 (some [])),
  ([], tCv 16 2 0 1 2 (some [])),
  ([], tEq0 4 3),
  ([xC (.int 0)], tRet),
  ([xC (.int 0), xSt 5, xC (.int 0), xSt 6], tGo 5),
  ([xLd 6, xLdA 0, xLd 1], tCv 24 2 0 1 6 (some [])),
  ([], tGe 18 7),
  ([xLdA 0, xLd 1, xLd 6], tCv 25 3 0 2 8 (some [])),
  ([xSt 7, xLdA 0, xLd 1, xC (.int 1), xAdd, xLd 6], tCv 25 3 0 2 9 (some [])),
  ([xSt 8, xLdA 0, xLdA 2, xLd 3, xLd 7, xAdd], tCv 62 2 2 1 10 (some [])),
  ([xLdA 0, xLd 1, xLd 7], tCv 10 3 0 2 11 (some [])),
  ([xLdA 2, xLd 4, xLd 8, xAdd], tCv 62 2 2 1 12 (some [])),
  ([xLdA 0, xLd 1, xC (.int 1), xAdd, xLd 8], tCv 10 3 0 2 13 (some [])),
  ([], tCv 27 7 0 4 14 (some [])),
  ([xSt 9, xLd 5, xLd 9, xC (.int 3)], tNe 16 15),
  ([xC (.int 1)], tGo 17),
  ([xC (.int 0)], tGo 17),
  ([xAdd, xSt 5, xInc 6 1], tGo 5),
  ([xLd 5], tRet)]
/-- HandFingers$Piece.endsOf(I)I -/
noncomputable def B_24 : List Bk := [([xLdA 0, xGet 0 2, xLd 1], tCv 62 2 2 1 1 (some [])),
  ([xC (.int 1)], tGt 4 2),
  ([xLdA 0, xGet 0 2, xLd 1, xC (.int 1), xAdd], tCv 62 2 2 1 3 (some [])),
  ([xC (.int 1)], tLe 5 4),
  ([xC (.int 2)], tGo 6),
  ([xC (.int 1)], tGo 6),
  ([], tRet)]
/-- HandFingers$Piece.noteAtEnd(II)I -/
noncomputable def B_25 : List Bk := [([xLd 2], tNe0 2 1),
  ([xC (.int 1)], tGo 3),
  ([xC (.int 0)], tGo 3),
  ([xLdA 0, xGet 0 0], tNe 5 4),
  ([xC (.int 0)], tGo 7),
  ([xLdA 0, xGet 0 2, xLd 1], tCv 62 2 2 1 6 (some [])),
  ([xC (.int 1), xSub], tGo 7),
  ([], tRet)]
/-- HandFingers$Piece.costOfLink(IIII)I -/
noncomputable def B_26 : List Bk := [([xLd 4, xLd 2, xSub, xAbs, xSt 5, xLdA 0, xLd 1, xLd 2, xLd 3, xLd 4], tCv 27 7 0 4 1 (some [])),
  ([], tSw 13 [(0, 2), (1, 7), (2, 9), (3, 11)]),
  ([xLdA 0, xGet 0 6, xLd 1, xLd 3], tNe 4 3),
  ([xC (.int 2)], tGo 5),
  ([xC (.int 3)], tGo 5),
  ([], tCv 62 2 2 1 6 (some [])),
  ([], tRet),
  ([xLdA 0, xGet 0 6, xC (.int 4)], tCv 62 2 2 1 8 (some [])),
  ([xLd 5, xMul], tRet),
  ([xLdA 0, xLd 5, xLd 1, xLd 3], tCv 21 7 0 3 10 (some [])),
  ([], tRet),
  ([xLdA 0, xGet 0 6, xC (.int 1)], tCv 62 2 2 1 12 (some [])),
  ([], tRet),
  ([xC (.int (-1))], tRet)]
/-- HandFingers$Piece.kindOfLink(IIII)I -/
noncomputable def B_27 : List Bk := [([xLd 2, xLd 4], tNe 2 1),
  ([xC (.int 0)], tRet),
  ([xLd 1, xLd 3], tNe 4 3),
  ([xC (.int 1)], tRet),
  ([xLdA 0, xGet 0 0], tEq0 6 5),
  ([xLd 4, xLd 2, xSub], tGo 7),
  ([xLd 2, xLd 4, xSub], tGo 7),
  ([xSt 5, xLd 5], tLe0 9 8),
  ([xC (.int 1)], tGo 10),
  ([xC (.int 0)], tGo 10),
  ([xLd 3, xLd 1], tLe 12 11),
  ([xC (.int 1)], tGo 13),
  ([xC (.int 0)], tGo 13),
  ([], tNe 15 14),
  ([xC (.int 2)], tRet),
  ([xLd 1, xLd 3, xMin, xC (.int 1)], tNe 18 16),
  ([xLd 1, xLd 3, xMax, xC (.int 5)], tGe 18 17),
  ([xC (.int 1)], tGo 19),
  ([xC (.int 0)], tGo 19),
  ([xSt 6, xLd 6], tEq0 23 20),
  ([xLd 5, xAbs, xLdA 0, xGet 0 6, xC (.int 9)], tCv 62 2 2 1 21 (some [])),
  ([], tGt 23 22),
  ([xC (.int 3)], tGo 24),
  ([xC (.int 4)], tGo 24),
  ([], tRet)]
/-- HandFingers$Plan.<init>()V -/
noncomputable def B_28 : List Bk := [([xLdA 0, xObj, xLdA 0, xC (.int 0), xPut 1 0 (.boolean), xLdA 0, xC (.int 0), xPut 1 1 (.int), xLdA 0, xC (.int 0), xPut 1 2 (.int), xLdA 0, xNew 2 nfX2, xDup, xC (.int 40)], tCi 61 2 1 1),
  ([xPut 1 3 (.object "HandFingers$Row"), xLdA 0, xNew 2 nfX2, xDup, xC (.int 1200)], tCi 61 2 1 2),
  ([xPut 1 4 (.object "HandFingers$Row"), xLdA 0, xNew 2 nfX2, xDup, xC (.int 400)], tCi 61 2 1 3),
  ([xPut 1 5 (.object "HandFingers$Row"), xLdA 0, xNew 2 nfX2, xDup, xC (.int 4000)], tCi 61 2 1 4),
  ([xPut 1 6 (.object "HandFingers$Row"), xLdA 0, xNew 2 nfX2, xDup, xC (.int 400)], tCi 61 2 1 5),
  ([xPut 1 7 (.object "HandFingers$Row"), xLdA 0, xNew 2 nfX2, xDup, xC (.int 400)], tCi 61 2 1 6),
  ([xPut 1 8 (.object "HandFingers$Row"), xLdA 0, xNew 2 nfX2, xDup, xC (.int 40)], tCi 61 2 1 7),
  ([xPut 1 9 (.object "HandFingers$Row"), xLdA 0, xNew 2 nfX2, xDup, xC (.int 400)], tCi 61 2 1 8),
  ([xPut 1 10 (.object "HandFingers$Row"), xLdA 0, xNew 2 nfX2, xDup, xC (.int 12)], tCi 61 2 1 9),
  ([xPut 1 11 (.object "HandFingers$Row"), xLdA 0, xC (.int 400), xNewA 1, xPut 1 12 (.array .long)], tRetV)]
/-- HandFingers$Plan.forget()V -/
noncomputable def B_29 : List Bk := [([xLdA 0, xC (.int 0), xPut 1 0 (.boolean)], tRetV)]
/-- HandFingers$Plan.solve(LHandFingers$Piece;)V -/
noncomputable def B_30 : List Bk := [([xLdA 0, xGet 1 0], tEq0 2 1),
  ([], tRetV),
  ([xLdA 0, xC (.int 1), xPut 1 0 (.boolean), xLdA 0, xLdA 1, xGet 0 1, xPut 1 1 (.int), xC (.int 0), xSt 2], tGo 3),
  ([xLd 2, xLdA 0, xGet 1 1], tGe 6 4),
  ([xLdA 0, xLdA 1, xLd 2], tCv 34 7 1 2 5 (some [])),
  ([xInc 2 1], tGo 3),
  ([xC (.int 0), xSt 2], tGo 7),
  ([xLd 2, xLdA 0, xGet 1 1, xC (.int 1), xSub], tGe 10 8),
  ([xLdA 0, xLdA 1, xLd 2], tCv 36 6 1 2 9 (some [])),
  ([xInc 2 1], tGo 7),
  ([xLdA 0, xLdA 1, xC (.int 0), xLdA 0, xGet 1 7], tCv 37 8 1 3 11 (some [])),
  ([xLdA 0], tCv 39 4 1 0 12 (some [])),
  ([xLdA 0, xLdA 0, xLdA 0, xGet 1 7], tCv 44 4 1 1 13 (some [])),
  ([xPut 1 2 (.int), xLdA 0], tCv 45 4 1 0 14 (some [])),
  ([xC (.int 1), xSt 2], tGo 15),
  ([xLd 2, xC (.int 12)], tGe 18 16),
  ([xLdA 0, xGet 1 11, xLd 2, xC (.int (-1))], tCv 63 3 2 2 17 (some [])),
  ([xInc 2 1], tGo 15),
  ([xLdA 0, xGet 1 11, xC (.int 0), xLdA 0, xGet 1 2], tCv 63 3 2 2 19 (some [])),
  ([], tRetV)]
/-- HandFingers$Plan.placeOfChoice(II)I -/
noncomputable def B_31 : List Bk := [([xLd 0, xC (.int 10), xMul, xLd 1, xAdd], tRet)]
/-- HandFingers$Plan.baseOf(II)I -/
noncomputable def B_32 : List Bk := [([xLd 0, xLd 1], tCs 31 2 2 1),
  ([xC (.int 3), xMul], tRet)]
/-- HandFingers$Plan.placeOfStep(III)I -/
noncomputable def B_33 : List Bk := [([xLd 0, xLd 1], tCs 31 2 2 1),
  ([xC (.int 10), xMul, xLd 2, xAdd], tRet)]
/-- HandFingers$Plan.listChoices(LHandFingers$Piece;I)V -/
noncomputable def B_34 : List Bk := [([xLdA 0, xGet 1 3, xLd 2, xC (.int 0)], tCv 63 3 2 2 1 (some [])),
  ([xLdA 1, xGet 0 2, xLd 2], tCv 62 2 2 1 2 (some [])),
  ([xSt 3, xC (.int 1), xSt 4], tGo 3),
  ([xLd 4, xC (.int 5)], tGt 23 4),
  ([xLd 3, xC (.int 1)], tNe 6 5),
  ([xLdA 0, xLdA 1, xLd 2, xLd 4, xC (.int 0), xC (.int 0)], tCv 35 9 1 5 6 (some [])),
  ([xC (.int 1), xSt 5], tGo 7),
  ([xLd 3, xC (.int 1)], tLe 22 8),
  ([xLd 5, xC (.int 5)], tGt 22 9),
  ([xLdA 1, xLd 4, xLd 5], tCv 18 3 0 2 10 (some [])),
  ([], tNe0 12 11),
  ([], tGo 21),
  ([xLd 3, xC (.int 2)], tNe 14 13),
  ([xLdA 0, xLdA 1, xLd 2, xLd 4, xLd 5, xC (.int 0)], tCv 35 9 1 5 14 (some [])),
  ([xC (.int 1), xSt 6], tGo 15),
  ([xLd 3, xC (.int 2)], tLe 21 16),
  ([xLd 6, xC (.int 5)], tGt 21 17),
  ([xLdA 1, xLd 5, xLd 6], tCv 18 3 0 2 18 (some [])),
  ([], tEq0 20 19),
  ([xLdA 0, xLdA 1, xLd 2, xLd 4, xLd 5, xLd 6], tCv 35 9 1 5 20 (some [])),
  ([xInc 6 1], tGo 15),
  ([xInc 5 1], tGo 7),
  ([xInc 4 1], tGo 3),
  ([], tRetV)]
/-- HandFingers$Plan.tryChoice(LHandFingers$Piece;IIII)V -/
noncomputable def B_35 : List Bk := [([xLdA 0, xGet 1 3, xLd 2], tCv 62 2 2 1 1 (some [])),
  ([xSt 6, xLd 6, xC (.int 10)], tLt 3 2),
  ([], tRetV),
  ([xLd 2, xLd 6], tCs 32 2 2 4),
  ([xSt 7, xLdA 0, xGet 1 4, xLd 7, xLd 3], tCv 63 3 2 2 5 (some [])),
  ([xLdA 0, xGet 1 4, xLd 7, xC (.int 1), xAdd, xLd 4], tCv 63 3 2 2 6 (some [])),
  ([xLdA 0, xGet 1 4, xLd 7, xC (.int 2), xAdd, xLd 5], tCv 63 3 2 2 7 (some [])),
  ([xLdA 1, xLd 2, xLdA 0, xGet 1 4, xLd 7, xC (.int 0)], tCv 19 10 0 4 8 (some [])),
  ([xSt 8, xLd 8, xC (.int (-1))], tEq 12 9),
  ([xLdA 0, xGet 1 5, xLd 2, xLd 6], tCs 31 2 2 10),
  ([xLd 8], tCv 63 3 2 2 11 (some [])),
  ([xLdA 0, xGet 1 3, xLd 2, xLd 6, xC (.int 1), xAdd], tCv 63 3 2 2 12 (some [])),
  ([], tRetV)]
/-- HandFingers$Plan.fillSteps(LHandFingers$Piece;I)V -/
noncomputable def B_36 : List Bk := [([xLdA 1, xGet 0 3, xLd 2], tCv 62 2 2 1 1 (some [])),
  ([xSt 3, xC (.int 0), xSt 4], tGo 2),
  ([xLd 4, xLdA 0, xGet 1 3, xLd 2], tCv 62 2 2 1 3 (some [])),
  ([], tGe 14 4),
  ([xC (.int 0), xSt 5], tGo 5),
  ([xLd 5, xLdA 0, xGet 1 3, xLd 2, xC (.int 1), xAdd], tCv 62 2 2 1 6 (some [])),
  ([], tGe 13 7),
  ([xLdA 0, xGet 1 6, xLd 2, xLd 4, xLd 5], tCs 33 3 3 8),
  ([xLdA 1, xLd 2, xLd 3, xLdA 0, xGet 1 4, xLd 2, xLd 4], tCs 32 2 2 9),
  ([xLd 2, xC (.int 1), xAdd, xLd 5], tCs 32 2 2 10),
  ([], tCv 22 11 0 5 11 (some [])),
  ([], tCv 63 3 2 2 12 (some [])),
  ([xInc 5 1], tGo 5),
  ([xInc 4 1], tGo 2),
  ([], tRetV)]
/-- HandFingers$Plan.fillAhead(LHandFingers$Piece;ILHandFingers$Row;)V -/
noncomputable def B_37 : List Bk := [([xC (.int 0), xSt 4], tGo 1),
  ([xLd 4, xLdA 0, xGet 1 1], tGe 15 2),
  ([xC (.int 0), xSt 5], tGo 3),
  ([xLd 5, xLdA 0, xGet 1 3, xLd 4], tCv 62 2 2 1 4 (some [])),
  ([], tGe 14 5),
  ([xLdA 1, xLd 4, xLdA 0, xGet 1 4, xLd 4, xLd 5], tCs 32 2 2 6),
  ([xLd 2], tCv 19 10 0 4 7 (some [])),
  ([xSt 6, xLd 4], tNe0 9 8),
  ([xC (.int 0)], tGo 10),
  ([xLdA 0, xLd 4, xLd 5, xLdA 3], tCv 38 7 1 3 10 (some [])),
  ([xSt 7, xLdA 3, xLd 4, xLd 5], tCs 31 2 2 11),
  ([xLd 7, xLd 6], tCs 148 2 2 12),
  ([], tCv 63 3 2 2 13 (some [])),
  ([xInc 5 1], tGo 3),
  ([xInc 4 1], tGo 1),
  ([], tRetV)]
/-- HandFingers$Plan.leastInto(IILHandFingers$Row;)I -/
noncomputable def B_38 : List Bk := [([xC (.int (-1)), xSt 4, xC (.int 0), xSt 5], tGo 1),
  ([xLd 5, xLdA 0, xGet 1 3, xLd 1, xC (.int 1), xSub], tCv 62 2 2 1 2 (some [])),
  ([], tGe 10 3),
  ([xLdA 0, xGet 1 6, xLd 1, xC (.int 1), xSub, xLd 5, xLd 2], tCs 33 3 3 4),
  ([], tCv 62 2 2 1 5 (some [])),
  ([xSt 6, xLd 4, xLdA 3, xLd 1, xC (.int 1), xSub, xLd 5], tCs 31 2 2 6),
  ([], tCv 62 2 2 1 7 (some [])),
  ([xLd 6], tCs 148 2 2 8),
  ([], tCs 149 2 2 9),
  ([xSt 4, xInc 5 1], tGo 1),
  ([xLd 4], tRet)]
/-- HandFingers$Plan.fillBehind()V -/
noncomputable def B_39 : List Bk := [([xLdA 0, xGet 1 1, xC (.int 1), xSub, xSt 1], tGo 1),
  ([xLd 1], tLt0 12 2),
  ([xC (.int 0), xSt 2], tGo 3),
  ([xLd 2, xLdA 0, xGet 1 3, xLd 1], tCv 62 2 2 1 4 (some [])),
  ([], tGe 11 5),
  ([xLd 1, xLdA 0, xGet 1 1, xC (.int 1), xSub], tNe 7 6),
  ([xC (.int 0)], tGo 8),
  ([xLdA 0, xLd 1, xLd 2], tCv 40 5 1 2 8 (some [])),
  ([xSt 3, xLdA 0, xGet 1 8, xLd 1, xLd 2], tCs 31 2 2 9),
  ([xLd 3], tCv 63 3 2 2 10 (some [])),
  ([xInc 2 1], tGo 3),
  ([xInc 1 (-1)], tGo 1),
  ([], tRetV)]
/-- HandFingers$Plan.leastOutOf(II)I -/
noncomputable def B_40 : List Bk := [([xC (.int (-1)), xSt 3, xC (.int 0), xSt 4], tGo 1),
  ([xLd 4, xLdA 0, xGet 1 3, xLd 1, xC (.int 1), xAdd], tCv 62 2 2 1 2 (some [])),
  ([], tGe 6 3),
  ([xLd 3, xLdA 0, xLd 1, xLd 2, xLd 4], tCv 41 4 1 3 4 (some [])),
  ([], tCs 149 2 2 5),
  ([xSt 3, xInc 4 1], tGo 1),
  ([xLd 3], tRet)]
/-- HandFingers$Plan.costOnward(III)I -/
noncomputable def B_41 : List Bk := [([xLdA 0, xGet 1 6, xLd 1, xLd 2, xLd 3], tCs 33 3 3 1),
  ([], tCv 62 2 2 1 2 (some [])),
  ([xLdA 0, xLd 1, xC (.int 1), xAdd, xLd 3], tCv 42 4 1 2 3 (some [])),
  ([], tCs 148 2 2 4),
  ([], tRet)]
/-- HandFingers$Plan.costFrom(II)I -/
noncomputable def B_42 : List Bk := [([xLd 1, xLd 2], tCs 31 2 2 1),
  ([xSt 3, xLdA 0, xGet 1 5, xLd 3], tCv 62 2 2 1 2 (some [])),
  ([xLdA 0, xGet 1 8, xLd 3], tCv 62 2 2 1 3 (some [])),
  ([], tCs 148 2 2 4),
  ([], tRet)]
/-- HandFingers$Plan.costThrough(II)I -/
noncomputable def B_43 : List Bk := [([xLd 1, xLd 2], tCs 31 2 2 1),
  ([xSt 3, xLdA 0, xGet 1 7, xLd 3], tCv 62 2 2 1 2 (some [])),
  ([xLdA 0, xGet 1 8, xLd 3], tCv 62 2 2 1 3 (some [])),
  ([], tCs 148 2 2 4),
  ([], tRet)]
/-- HandFingers$Plan.leastAtEnd(LHandFingers$Row;)I -/
noncomputable def B_44 : List Bk := [([xLdA 0, xGet 1 1], tNe0 2 1),
  ([xC (.int 0)], tGo 3),
  ([xC (.int (-1))], tGo 3),
  ([xSt 2, xC (.int 0), xSt 3], tGo 4),
  ([xLd 3, xLdA 0, xGet 1 3, xLdA 0, xGet 1 1, xC (.int 1), xSub], tCv 62 2 2 1 5 (some [])),
  ([], tGe 10 6),
  ([xLd 2, xLdA 1, xLdA 0, xGet 1 1, xC (.int 1), xSub, xLd 3], tCs 31 2 2 7),
  ([], tCv 62 2 2 1 8 (some [])),
  ([], tCs 149 2 2 9),
  ([xSt 2, xInc 3 1], tGo 4),
  ([xLd 2], tRet)]
/-- HandFingers$Plan.findFirst()V -/
noncomputable def B_45 : List Bk := [([xLdA 0, xGet 1 2, xC (.int (-1))], tNe 2 1),
  ([], tRetV),
  ([xLdA 0, xGet 1 2, xSt 1, xC (.int 0), xSt 2], tGo 3),
  ([xLd 2, xLdA 0, xGet 1 1], tGe 9 4),
  ([xLdA 0, xLd 2, xLd 1], tCv 46 5 1 2 5 (some [])),
  ([xSt 3, xLdA 0, xGet 1 9, xLd 2, xLd 3], tCv 63 3 2 2 6 (some [])),
  ([xLdA 0, xGet 1 8, xLd 2, xLd 3], tCs 31 2 2 7),
  ([], tCv 62 2 2 1 8 (some [])),
  ([xSt 1, xInc 2 1], tGo 3),
  ([], tRetV)]
/-- HandFingers$Plan.firstChoice(II)I -/
noncomputable def B_46 : List Bk := [([xC (.int 0), xSt 3], tGo 1),
  ([xLd 3, xLdA 0, xGet 1 3, xLd 1], tCv 62 2 2 1 2 (some [])),
  ([], tGe 11 3),
  ([xLd 1], tNe0 6 4),
  ([xLdA 0, xLd 1, xLd 3], tCv 42 4 1 2 5 (some [])),
  ([], tGo 8),
  ([xLdA 0, xLd 1, xC (.int 1), xSub, xLdA 0, xGet 1 9, xLd 1, xC (.int 1), xSub], tCv 62 2 2 1 7 (some [])),
  ([xLd 3], tCv 41 4 1 3 8 (some [])),
  ([xSt 4, xLd 4, xLd 2], tNe 10 9),
  ([xLd 3], tRet),
  ([xInc 3 1], tGo 1),
  ([xC (.int 0)], tRet)]
/-- HandFingers$Plan.firstFinger(II)I -/
noncomputable def B_47 : List Bk := [([xLdA 0, xGet 1 4, xLd 1, xLdA 0, xGet 1 9, xLd 1], tCv 62 2 2 1 1 (some [])),
  ([], tCs 32 2 2 2),
  ([xLd 2, xAdd], tCv 62 2 2 1 3 (some [])),
  ([], tRet)]
/-- HandFingers$Plan.firstEventCost(I)I -/
noncomputable def B_48 : List Bk := [([xLdA 0, xGet 1 5, xLd 1, xLdA 0, xGet 1 9, xLd 1], tCv 62 2 2 1 1 (some [])),
  ([], tCs 31 2 2 2),
  ([], tCv 62 2 2 1 3 (some [])),
  ([], tRet)]
/-- HandFingers$Plan.firstPassageCost(I)I -/
noncomputable def B_49 : List Bk := [([xLdA 0, xGet 1 6, xLd 1, xLdA 0, xGet 1 9, xLd 1], tCv 62 2 2 1 1 (some [])),
  ([xLdA 0, xGet 1 9, xLd 1, xC (.int 1), xAdd], tCv 62 2 2 1 2 (some [])),
  ([], tCs 33 3 3 3),
  ([], tCv 62 2 2 1 4 (some [])),
  ([], tRet)]
/-- HandFingers$Plan.firstCrossings(LHandFingers$Piece;I)I -/
noncomputable def B_50 : List Bk := [([xLdA 1, xLd 2, xLdA 0, xGet 1 4, xLd 2, xLdA 0, xGet 1 9, xLd 2], tCv 62 2 2 1 1 (some [])),
  ([], tCs 32 2 2 2),
  ([xLd 2, xC (.int 1), xAdd, xLdA 0, xGet 1 9, xLd 2, xC (.int 1), xAdd], tCv 62 2 2 1 3 (some [])),
  ([], tCs 32 2 2 4),
  ([], tCv 23 10 0 4 5 (some [])),
  ([], tRet)]
/-- HandFingers$Plan.countWays(Z)J -/
noncomputable def B_51 : List Bk := [([xLdA 0, xGet 1 1], tNe0 2 1),
  ([xC (.long 1)], tRetL),
  ([xC (.int 0), xSt 2], tGo 3),
  ([xLd 2, xLdA 0, xGet 1 1], tGe 14 4),
  ([xC (.int 0), xSt 3], tGo 5),
  ([xLd 3, xLdA 0, xGet 1 3, xLd 2], tCv 62 2 2 1 6 (some [])),
  ([], tGe 13 7),
  ([xLdA 0, xLd 2, xLd 3], tCs 31 2 2 8),
  ([xLd 2], tNe0 10 9),
  ([xC (.long 1)], tGo 11),
  ([xLdA 0, xLd 2, xLd 3, xLd 1], tCv 52 11 1 3 11 (some [])),
  ([], tCv 54 4 1 2 12 (some [])),
  ([xInc 3 1], tGo 5),
  ([xInc 2 1], tGo 3),
  ([xC (.long 0), xStL 2, xC (.int 0), xSt 4], tGo 15),
  ([xLd 4, xLdA 0, xGet 1 3, xLdA 0, xGet 1 1, xC (.int 1), xSub], tCv 62 2 2 1 16 (some [])),
  ([], tGe 24 17),
  ([xLdA 0, xGet 1 1, xC (.int 1), xSub, xLd 4], tCs 31 2 2 18),
  ([xSt 5, xLd 1], tEq0 21 19),
  ([xLdA 0, xGet 1 7, xLd 5], tCv 62 2 2 1 20 (some [])),
  ([xLdA 0, xGet 1 2], tNe 23 21),
  ([xLdL 2, xLdA 0, xLd 5], tCv 53 2 1 1 22 (some [])),
  ([xLadd, xStL 2], tGo 23),
  ([xInc 4 1], tGo 15),
  ([xLdL 2, xC (.long 1000000000000000), xLmin], tRetL)]
/-- HandFingers$Plan.waysInto(IIZ)J -/
noncomputable def B_52 : List Bk := [([xLd 1, xLd 2], tCs 31 2 2 1),
  ([xSt 4, xC (.long 0), xStL 5, xC (.int 0), xSt 7], tGo 2),
  ([xLd 7, xLdA 0, xGet 1 3, xLd 1, xC (.int 1), xSub], tCv 62 2 2 1 3 (some [])),
  ([], tGe 18 4),
  ([xLd 1, xC (.int 1), xSub, xLd 7], tCs 31 2 2 5),
  ([xSt 8, xLdA 0, xGet 1 6, xLd 1, xC (.int 1), xSub, xLd 7, xLd 2], tCs 33 3 3 6),
  ([], tCv 62 2 2 1 7 (some [])),
  ([xSt 9, xLdA 0, xGet 1 7, xLd 8], tCv 62 2 2 1 8 (some [])),
  ([xLd 9], tCs 148 2 2 9),
  ([xLdA 0, xGet 1 5, xLd 4], tCv 62 2 2 1 10 (some [])),
  ([], tCs 148 2 2 11),
  ([xSt 10, xLd 10, xC (.int (-1))], tEq 17 12),
  ([xLd 3], tEq0 15 13),
  ([xLd 10, xLdA 0, xGet 1 7, xLd 4], tCv 62 2 2 1 14 (some [])),
  ([], tNe 17 15),
  ([xLdL 5, xLdA 0, xLd 8], tCv 53 2 1 1 16 (some [])),
  ([xLadd, xStL 5], tGo 17),
  ([xInc 7 1], tGo 2),
  ([xLdL 5, xC (.long 1000000000000000), xLmin], tRetL)]
/-- HandFingers$Plan.waysAt(I)J -/
noncomputable def B_53 : List Bk := [([xLd 1], tLt0 3 1),
  ([xLd 1, xLdA 0, xGet 1 12, xLen], tGe 3 2),
  ([xLdA 0, xGet 1 12, xLd 1, xLld], tGo 4),
  ([xC (.long 0)], tGo 4),
  ([], tRetL)]
/-- HandFingers$Plan.putWays(IJ)V -/
noncomputable def B_54 : List Bk := [([xLd 1], tLt0 3 1),
  ([xLd 1, xLdA 0, xGet 1 12, xLen], tGe 3 2),
  ([xLdA 0, xGet 1 12, xLd 1, xLdL 2, xLst], tGo 3),
  ([], tRetV)]
/-- HandFingers$Plan.leastWith(III)I -/
noncomputable def B_55 : List Bk := [([xC (.int (-1)), xSt 4, xC (.int 0), xSt 5], tGo 1),
  ([xLd 5, xLdA 0, xGet 1 3, xLd 1], tCv 62 2 2 1 2 (some [])),
  ([], tGe 10 3),
  ([xLdA 0, xGet 1 4, xLd 1, xLd 5], tCs 32 2 2 4),
  ([xLd 2, xAdd], tCv 62 2 2 1 5 (some [])),
  ([xLd 3], tNe 9 6),
  ([xLd 4, xLdA 0, xLd 1, xLd 5], tCv 43 4 1 2 7 (some [])),
  ([], tCs 149 2 2 8),
  ([xSt 4], tGo 9),
  ([xInc 5 1], tGo 1),
  ([xLd 4], tRet)]
/-- HandFingers$Plan.eventsReached()I -/
noncomputable def B_56 : List Bk := [([xC (.int 0), xSt 1], tGo 1),
  ([xLd 1, xLdA 0, xGet 1 1], tGe 6 2),
  ([xLdA 0, xLd 1], tCv 57 3 1 1 3 (some [])),
  ([], tNe0 5 4),
  ([xLd 1], tRet),
  ([xInc 1 1], tGo 1),
  ([xLdA 0, xGet 1 1], tRet)]
/-- HandFingers$Plan.isReached(I)Z -/
noncomputable def B_57 : List Bk := [([xC (.int 0), xSt 2], tGo 1),
  ([xLd 2, xLdA 0, xGet 1 3, xLd 1], tCv 62 2 2 1 2 (some [])),
  ([], tGe 8 3),
  ([xLdA 0, xGet 1 7, xLd 1, xLd 2], tCs 31 2 2 4),
  ([], tCv 62 2 2 1 5 (some [])),
  ([xC (.int (-1))], tEq 7 6),
  ([xC (.int 1)], tRetZ),
  ([xInc 2 1], tGo 1),
  ([xC (.int 0)], tRetZ)]
/-- HandFingers$Plan.cheapestFingers(II)I -/
noncomputable def B_58 : List Bk := [([xC (.int 0), xSt 3, xC (.int 0), xSt 4], tGo 1),
  ([xLd 4, xLdA 0, xGet 1 3, xLd 1], tCv 62 2 2 1 2 (some [])),
  ([], tGe 10 3),
  ([xLdA 0, xLd 1, xLd 4], tCv 43 4 1 2 4 (some [])),
  ([xLdA 0, xGet 1 2], tNe 9 5),
  ([xLd 3, xLdA 0, xGet 1 4, xLd 1, xLd 4], tCs 32 2 2 6),
  ([xLd 2, xAdd], tCv 62 2 2 1 7 (some [])),
  ([], tCs 145 1 1 8),
  ([xOr, xSt 3], tGo 9),
  ([xInc 4 1], tGo 1),
  ([xLd 3], tRet)]
/-- HandFingers$Plan.leastShifted(LHandFingers$Piece;I)I -/
noncomputable def B_59 : List Bk := [([xLd 2, xC (.int 12)], tCs 292 3 2 1),
  ([xSt 3, xLdA 0, xGet 1 2, xC (.int (-1))], tEq 7 2),
  ([xLdA 0, xGet 1 11, xLd 3], tCv 62 2 2 1 3 (some [])),
  ([xC (.int (-1))], tNe 7 4),
  ([xLdA 0, xLdA 1, xLd 3, xLdA 0, xGet 1 10], tCv 37 8 1 3 5 (some [])),
  ([xLdA 0, xGet 1 11, xLd 3, xLdA 0, xLdA 0, xGet 1 10], tCv 44 4 1 1 6 (some [])),
  ([], tCv 63 3 2 2 7 (some [])),
  ([xLdA 0, xGet 1 11, xLd 3], tCv 62 2 2 1 8 (some [])),
  ([], tRet)]
/-- HandFingers$Plan.leastWithRest(LHandFingers$Piece;I)I -/
noncomputable def B_60 : List Bk := [([xC (.int (-1)), xSt 3, xC (.int 0), xSt 4], tGo 1),
  ([xLd 4, xLdA 0, xGet 1 3, xLd 2], tCv 62 2 2 1 2 (some [])),
  ([], tGe 18 3),
  ([xLdA 0, xGet 1 7, xLd 2, xLd 4], tCs 31 2 2 4),
  ([], tCv 62 2 2 1 5 (some [])),
  ([xSt 5, xC (.int 0), xSt 6], tGo 6),
  ([xLd 5, xC (.int (-1))], tEq 17 7),
  ([xLd 6, xLdA 0, xGet 1 3, xLd 2, xC (.int 1), xAdd], tCv 62 2 2 1 8 (some [])),
  ([], tGe 17 9),
  ([xLdA 1, xLd 2, xC (.int 9), xLdA 0, xGet 1 4, xLd 2, xLd 4], tCs 32 2 2 10),
  ([xLd 2, xC (.int 1), xAdd, xLd 6], tCs 32 2 2 11),
  ([], tCv 22 11 0 5 12 (some [])),
  ([xSt 7, xLd 3, xLd 5, xLd 7, xLdA 0, xLd 2, xC (.int 1), xAdd, xLd 6], tCv 42 4 1 2 13 (some [])),
  ([], tCs 148 2 2 14),
  ([], tCs 148 2 2 15),
  ([], tCs 149 2 2 16),
  ([xSt 3, xInc 6 1], tGo 6),
  ([xInc 4 1], tGo 1),
  ([xLd 3], tRet)]
/-- HandFingers$Row.<init>(I)V -/
noncomputable def B_61 : List Bk := [([xLdA 0, xObj, xLdA 0, xC (.int 0), xLd 1, xMax, xNewA 0, xPut 2 0 (.array .int)], tRetV)]
/-- HandFingers$Row.get(I)I -/
noncomputable def B_62 : List Bk := [([xLd 1], tLt0 3 1),
  ([xLd 1, xLdA 0, xGet 2 0, xLen], tGe 3 2),
  ([xLdA 0, xGet 2 0, xLd 1, xAld], tGo 4),
  ([xC (.int 0)], tGo 4),
  ([], tRet)]
/-- HandFingers$Row.put(II)V -/
noncomputable def B_63 : List Bk := [([xLd 1], tLt0 3 1),
  ([xLd 1, xLdA 0, xGet 2 0, xLen], tGe 3 2),
  ([xLdA 0, xGet 2 0, xLd 1, xLd 2, xAst], tGo 3),
  ([], tRetV)]
/-- HandFingers$Row.copyFrom(LHandFingers$Row;)V -/
noncomputable def B_64 : List Bk := [([xLdA 1, xGet 2 0, xC (.int 0), xLdA 0, xGet 2 0, xC (.int 0), xLdA 0, xGet 2 0, xLen, xLdA 1, xGet 2 0, xLen, xMin, xCpy], tRetV)]
/-- HandFingers$Shelf.<init>(I)V -/
noncomputable def B_65 : List Bk := [([xLdA 0, xObj, xLdA 0, xC (.int 0), xLd 1, xMax, xNewA 4, xPut 3 0 (.array (.object "HandFingers$Piece"))], tRetV)]
/-- HandFingers$Shelf.holds(I)Z -/
noncomputable def B_66 : List Bk := [([xLd 1], tLt0 4 1),
  ([xLd 1, xLdA 0, xGet 3 0, xLen], tGe 4 2),
  ([xLdA 0, xGet 3 0, xLd 1, xQld], tNul 4 3),
  ([xC (.int 1)], tGo 5),
  ([xC (.int 0)], tGo 5),
  ([], tRetZ)]
/-- HandFingers$Shelf.putIn(ILHandFingers$Piece;)V -/
noncomputable def B_67 : List Bk := [([xLd 1], tLt0 2 1),
  ([xLd 1, xLdA 0, xGet 3 0, xLen], tLt 3 2),
  ([], tRetV),
  ([xLdA 0, xGet 3 0, xLd 1, xQld, xStA 3, xLdA 3], tNul 4 6),
  ([xNew 0 nfX0, xDup], tCi 0 1 0 5),
  ([xStA 3, xLdA 0, xGet 3 0, xLd 1, xLdA 3, xQst], tGo 6),
  ([xLdA 3, xLdA 2], tCv 2 2 0 1 7 (some [])),
  ([], tRetV)]
/-- HandFingers$Shelf.takeOut(ILHandFingers$Piece;)V -/
noncomputable def B_68 : List Bk := [([xLd 1], tLt0 3 1),
  ([xLd 1, xLdA 0, xGet 3 0, xLen], tGe 3 2),
  ([xLdA 0, xGet 3 0, xLd 1, xQld], tGo 4),
  ([xC .null], tGo 4),
  ([xStA 3, xLdA 3], tNul 6 5),
  ([xLdA 2, xLdA 3], tCv 2 2 0 1 6 (some [])),
  ([], tRetV)]
/-- HandFingers$Text.<init>()V -/
noncomputable def B_69 : List Bk := [([xLdA 0, xObj, xLdA 0, xNew 2 nfX2, xDup, xC (.int 600)], tCi 61 2 1 1),
  ([xPut 4 0 (.object "HandFingers$Row"), xLdA 0, xC (.int 0), xPut 4 1 (.int), xLdA 0, xC (.int 0), xPut 4 2 (.int), xLdA 0, xC (.int (-1)), xPut 4 3 (.int), xLdA 0, xC (.int 0), xPut 4 4 (.int), xLdA 0, xC (.int 0), xPut 4 5 (.int), xLdA 0, xC (.int 0), xPut 4 6 (.int), xLdA 0, xC (.int 0), xPut 4 7 (.int), xLdA 0, xC (.int 0), xPut 4 8 (.int)], tRetV)]
/-- HandFingers$Text.addBytes(I)V -/
noncomputable def B_70 : List Bk := [([xC (.int 24), xSt 2], tGo 1),
  ([xLd 2], tLt0 6 2),
  ([xLd 1, xLd 2, xUshr, xC (.int 255), xAnd, xSt 3, xLd 3], tEq0 5 3),
  ([xLdA 0, xGet 4 0, xLdA 0, xGet 4 1, xLd 3], tCv 63 3 2 2 4 (some [])),
  ([xLdA 0, xDup, xGet 4 1, xC (.int 1), xAdd, xPut 4 1 (.int)], tGo 5),
  ([xInc 2 (-8)], tGo 1),
  ([], tRetV)]
/-- HandFingers$Text.readPiece(LHandFingers$Piece;)Z -/
noncomputable def B_71 : List Bk := [([xLdA 0], tCv 82 1 4 0 1 (some [])),
  ([xLdA 1], tCv 1 2 0 0 2 (some [])),
  ([xLdA 0, xLdA 1], tCv 73 2 4 1 3 (some [])),
  ([], tEq0 13 4),
  ([xLdA 0, xLdA 1], tCv 74 4 4 1 5 (some [])),
  ([], tEq0 13 6),
  ([xLdA 0, xLdA 1], tCv 76 3 4 1 7 (some [])),
  ([], tEq0 13 8),
  ([xLdA 0, xLdA 1], tCv 78 4 4 1 9 (some [])),
  ([], tEq0 13 10),
  ([xLdA 0], tCv 86 1 4 0 11 (some [])),
  ([], tEq0 13 12),
  ([xC (.int 1)], tGo 14),
  ([xC (.int 0)], tGo 14),
  ([], tRetZ)]
/-- HandFingers$Text.readFingering(LHandFingers$Piece;LHandFingers$Row;)Z -/
noncomputable def B_72 : List Bk := [([xLdA 0], tCv 82 1 4 0 1 (some [])),
  ([xC (.int 0), xSt 3], tGo 2),
  ([xLd 3, xLdA 1, xGet 0 1], tGe 16 3),
  ([xC (.int 0), xSt 4], tGo 4),
  ([xLd 4, xLdA 1, xGet 0 2, xLd 3], tCv 62 2 2 1 5 (some [])),
  ([], tGe 15 6),
  ([xLdA 0, xGet 4 4], tNe0 9 7),
  ([xLdA 0, xC (.int (-4))], tCv 83 2 4 1 8 (some [])),
  ([], tRetZ),
  ([xLdA 0, xC (.int 1), xC (.int 5), xC (.int 1)], tCv 87 4 4 3 10 (some [])),
  ([], tNe0 12 11),
  ([xC (.int 0)], tRetZ),
  ([xLdA 2, xLd 3, xLd 4], tCs 146 2 2 13),
  ([xLdA 0, xGet 4 8], tCv 63 3 2 2 14 (some [])),
  ([xInc 4 1], tGo 4),
  ([xInc 3 1], tGo 2),
  ([xLdA 0, xGet 4 4, xC (.int 2)], tNe 19 17),
  ([xLdA 0, xC (.int (-5))], tCv 83 2 4 1 18 (some [])),
  ([], tGo 20),
  ([xLdA 0], tCv 86 1 4 0 20 (some [])),
  ([], tRetZ)]
/-- HandFingers$Text.readHand(LHandFingers$Piece;)Z -/
noncomputable def B_73 : List Bk := [([xLdA 0, xC (.ref 3)], tCv 84 2 4 1 1 (some [])),
  ([], tNe0 3 2),
  ([xC (.int 0)], tRetZ),
  ([xLdA 1, xLdA 0, xC (.ref 4)], tCv 88 3 4 1 4 (some [])),
  ([xPut 0 0 (.boolean), xLdA 0, xLdA 1, xGet 0 0], tEq0 6 5),
  ([xC (.ref 4)], tGo 7),
  ([xC (.ref 5)], tGo 7),
  ([], tCv 84 2 4 1 8 (some [])),
  ([], tEq0 12 9),
  ([xLdA 0], tCv 85 1 4 0 10 (some [])),
  ([], tEq0 12 11),
  ([xC (.int 1)], tGo 13),
  ([xC (.int 0)], tGo 13),
  ([], tRetZ)]
/-- HandFingers$Text.readWeights(LHandFingers$Piece;)Z -/
noncomputable def B_74 : List Bk := [([xC (.int 0), xSt 2], tGo 1),
  ([xLd 2, xC (.int 600)], tGe 18 2),
  ([xLdA 0, xC (.ref 6)], tCv 88 3 4 1 3 (some [])),
  ([], tEq0 18 4),
  ([xLdA 0], tCv 89 1 4 0 5 (some [])),
  ([xLdA 0], tCv 75 1 4 0 6 (some [])),
  ([xSt 3, xLd 3, xC (.int (-1))], tNe 9 7),
  ([xLdA 0, xC (.int (-2))], tCv 83 2 4 1 8 (some [])),
  ([], tRetZ),
  ([xLdA 0], tCv 89 1 4 0 10 (some [])),
  ([xLdA 0, xC (.int 0), xC (.int 99), xC (.int 0)], tCv 87 4 4 3 11 (some [])),
  ([], tNe0 13 12),
  ([xC (.int 0)], tRetZ),
  ([xLdA 1, xGet 0 6, xLd 3, xLdA 0, xGet 4 8], tCv 63 3 2 2 14 (some [])),
  ([xLdA 0], tCv 85 1 4 0 15 (some [])),
  ([], tNe0 17 16),
  ([xC (.int 0)], tRetZ),
  ([xInc 2 1], tGo 1),
  ([xC (.int 1)], tRetZ)]
/-- HandFingers$Text.weightNamed()I -/
noncomputable def B_75 : List Bk := [([xLdA 0, xC (.ref 11)], tCv 88 3 4 1 1 (some [])),
  ([], tEq0 3 2),
  ([xC (.int 0)], tRet),
  ([xLdA 0, xC (.ref 12)], tCv 88 3 4 1 4 (some [])),
  ([], tEq0 6 5),
  ([xC (.int 1)], tRet),
  ([xLdA 0, xC (.ref 13)], tCv 88 3 4 1 7 (some [])),
  ([], tEq0 9 8),
  ([xC (.int 2)], tRet),
  ([xLdA 0, xC (.ref 14)], tCv 88 3 4 1 10 (some [])),
  ([], tEq0 12 11),
  ([xC (.int 3)], tRet),
  ([xLdA 0, xC (.ref 15)], tCv 88 3 4 1 13 (some [])),
  ([], tEq0 15 14),
  ([xC (.int 4)], tRet),
  ([xLdA 0, xC (.ref 16)], tCv 88 3 4 1 16 (some [])),
  ([], tEq0 18 17),
  ([xC (.int 5)], tRet),
  ([xLdA 0, xC (.ref 17)], tCv 88 3 4 1 19 (some [])),
  ([], tEq0 21 20),
  ([xC (.int 6)], tRet),
  ([xLdA 0, xC (.ref 18)], tCv 88 3 4 1 22 (some [])),
  ([], tEq0 24 23),
  ([xC (.int 7)], tRet),
  ([xLdA 0, xC (.ref 19)], tCv 88 3 4 1 25 (some [])),
  ([], tEq0 27 26),
  ([xC (.int 8)], tRet),
  ([xLdA 0, xC (.ref 20)], tCv 88 3 4 1 28 (some [])),
  ([], tEq0 30 29),
  ([xC (.int 9)], tGo 31),
  ([xC (.int (-1))], tGo 31),
  ([], tRet)]
/-- HandFingers$Text.readSpans(LHandFingers$Piece;)Z -/
noncomputable def B_76 : List Bk := [([xC (.int 0), xSt 2], tGo 1),
  ([xLd 2, xC (.int 600)], tGe 11 2),
  ([xLdA 0, xC (.ref 7)], tCv 88 3 4 1 3 (some [])),
  ([], tEq0 11 4),
  ([xLdA 0], tCv 89 1 4 0 5 (some [])),
  ([xLdA 0, xLdA 1], tCv 77 6 4 1 6 (some [])),
  ([], tEq0 9 7),
  ([xLdA 0], tCv 85 1 4 0 8 (some [])),
  ([], tNe0 10 9),
  ([xC (.int 0)], tRetZ),
  ([xInc 2 1], tGo 1),
  ([xC (.int 1)], tRetZ)]
/-- HandFingers$Text.readSpan(LHandFingers$Piece;)Z -/
noncomputable def B_77 : List Bk := [([xLdA 0, xC (.int 1), xC (.int 5), xC (.int 1)], tCv 87 4 4 3 1 (some [])),
  ([], tNe0 3 2),
  ([xC (.int 0)], tRetZ),
  ([xLdA 0, xGet 4 8, xSt 2, xLdA 0, xC (.int 1), xC (.int 5), xLd 2, xC (.int 1), xAdd], tCv 87 4 4 3 4 (some [])),
  ([], tNe0 6 5),
  ([xC (.int 0)], tRetZ),
  ([xLdA 0, xGet 4 8, xSt 3, xLdA 0, xC (.int 1), xC (.int 24), xC (.int 1)], tCv 87 4 4 3 7 (some [])),
  ([], tNe0 9 8),
  ([xC (.int 0)], tRetZ),
  ([xLdA 0, xGet 4 8, xSt 4, xLdA 0, xC (.int 1), xC (.int 24), xLd 4], tCv 87 4 4 3 10 (some [])),
  ([], tNe0 12 11),
  ([xC (.int 0)], tRetZ),
  ([xLdA 0, xGet 4 8, xSt 5, xLdA 0, xC (.int 1), xC (.int 24), xLd 5], tCv 87 4 4 3 13 (some [])),
  ([], tNe0 15 14),
  ([xC (.int 0)], tRetZ),
  ([xLdA 1, xLd 2, xLd 3, xLd 4, xLd 5, xLdA 0, xGet 4 8], tCv 3 6 0 5 16 (some [])),
  ([xC (.int 1)], tRetZ)]
/-- HandFingers$Text.readEvents(LHandFingers$Piece;)Z -/
noncomputable def B_78 : List Bk := [([xC (.int 0), xSt 2], tGo 1),
  ([xLd 2, xC (.int 40)], tGt 19 2),
  ([xLdA 0, xC (.ref 8)], tCv 88 3 4 1 3 (some [])),
  ([], tEq0 19 4),
  ([xLdA 1, xGet 0 1, xC (.int 40)], tLt 7 5),
  ([xLdA 0, xC (.int (-5))], tCv 83 2 4 1 6 (some [])),
  ([], tRetZ),
  ([xLdA 0], tCv 89 1 4 0 8 (some [])),
  ([xLdA 1, xLdA 1, xGet 0 1], tCv 4 3 0 1 9 (some [])),
  ([xLdA 1, xGet 0 1, xC (.int 1), xSub, xSt 3, xLdA 0, xLdA 1, xLd 3], tCv 79 5 4 2 10 (some [])),
  ([], tEq0 17 11),
  ([xLdA 0, xLdA 1, xLd 3], tCv 80 3 4 2 12 (some [])),
  ([], tEq0 17 13),
  ([xLdA 0, xLdA 1, xLd 3], tCv 81 4 4 2 14 (some [])),
  ([], tEq0 17 15),
  ([xLdA 0], tCv 85 1 4 0 16 (some [])),
  ([], tNe0 18 17),
  ([xC (.int 0)], tRetZ),
  ([xInc 2 1], tGo 1),
  ([xC (.int 1)], tRetZ)]
/-- HandFingers$Text.readKeys(LHandFingers$Piece;I)Z -/
noncomputable def B_79 : List Bk := [([xC (.int 20), xSt 3, xC (.int 0), xSt 4], tGo 1),
  ([xLd 4], tEq0 3 2),
  ([xLdA 0, xGet 4 4, xC (.int 2)], tNe 11 3),
  ([xLd 4, xC (.int 3)], tLt 6 4),
  ([xLdA 0, xC (.int (-5))], tCv 83 2 4 1 5 (some [])),
  ([], tRetZ),
  ([xLdA 0, xC (.int 21), xC (.int 108), xLd 3, xC (.int 1), xAdd], tCv 87 4 4 3 7 (some [])),
  ([], tNe0 9 8),
  ([xC (.int 0)], tRetZ),
  ([xLdA 1, xLd 2, xLd 4, xLdA 0, xGet 4 8], tCv 7 4 0 3 10 (some [])),
  ([xLdA 0, xGet 4 8, xSt 3, xInc 4 1], tGo 1),
  ([xC (.int 1)], tRetZ)]
/-- HandFingers$Text.readRest(LHandFingers$Piece;I)Z -/
noncomputable def B_80 : List Bk := [([xLdA 0, xC (.ref 9)], tCv 88 3 4 1 1 (some [])),
  ([], tNe0 3 2),
  ([xC (.int 1)], tRetZ),
  ([xLdA 0], tCv 89 1 4 0 4 (some [])),
  ([xLdA 0, xC (.int 0), xC (.int 9), xC (.int 0)], tCv 87 4 4 3 5 (some [])),
  ([], tNe0 7 6),
  ([xC (.int 0)], tRetZ),
  ([xLdA 1, xGet 0 3, xLd 2, xLdA 0, xGet 4 8], tCv 63 3 2 2 8 (some [])),
  ([xC (.int 1)], tRetZ)]
/-- HandFingers$Text.readFingers(LHandFingers$Piece;I)Z -/
noncomputable def B_81 : List Bk := [([xLdA 0, xC (.ref 10)], tCv 88 3 4 1 1 (some [])),
  ([], tNe0 3 2),
  ([xC (.int 1)], tRetZ),
  ([xLdA 0], tCv 89 1 4 0 4 (some [])),
  ([xC (.int 0), xSt 3], tGo 5),
  ([xLd 3, xLdA 1, xGet 0 2, xLd 2], tCv 62 2 2 1 6 (some [])),
  ([], tGe 16 7),
  ([xLdA 0, xC (.int 0), xC (.int 5), xC (.int 0)], tCv 87 4 4 3 8 (some [])),
  ([], tNe0 10 9),
  ([xC (.int 0)], tRetZ),
  ([xLdA 1, xGet 0 5, xLd 2, xLd 3], tCs 146 2 2 11),
  ([xLdA 0, xGet 4 8], tNe0 13 12),
  ([xC (.int 31)], tGo 14),
  ([xLdA 0, xGet 4 8], tCs 145 1 1 14),
  ([], tCv 63 3 2 2 15 (some [])),
  ([xInc 3 1], tGo 5),
  ([xLdA 0, xGet 4 4, xC (.int 2)], tNe 19 17),
  ([xLdA 0, xC (.int (-5))], tCv 83 2 4 1 18 (some [])),
  ([], tEq0 20 19),
  ([xC (.int 1)], tGo 21),
  ([xC (.int 0)], tGo 21),
  ([], tRetZ)]
/-- HandFingers$Text.beginReading()V -/
noncomputable def B_82 : List Bk := [([xLdA 0, xC (.int (-1)), xPut 4 3 (.int), xLdA 0, xC (.int 0), xPut 4 6 (.int), xLdA 0], tCv 89 1 4 0 1 (some [])),
  ([], tRetV)]
/-- HandFingers$Text.fail(I)Z -/
noncomputable def B_83 : List Bk := [([xLdA 0, xLd 1, xPut 4 2 (.int), xLdA 0, xLdA 0, xGet 4 5, xPut 4 3 (.int), xC (.int 0)], tRetZ)]
/-- HandFingers$Text.takeWord(Ljava/lang/String;)Z -/
noncomputable def B_84 : List Bk := [([xLdA 0, xLdA 1], tCv 88 3 4 1 1 (some [])),
  ([], tNe0 4 2),
  ([xLdA 0, xC (.int (-2))], tCv 83 2 4 1 3 (some [])),
  ([], tRetZ),
  ([xLdA 0], tCv 89 1 4 0 5 (some [])),
  ([xC (.int 1)], tRetZ)]
/-- HandFingers$Text.takeSemicolon()Z -/
noncomputable def B_85 : List Bk := [([xLdA 0, xGet 4 4, xC (.int 3)], tEq 3 1),
  ([xLdA 0, xC (.int (-2))], tCv 83 2 4 1 2 (some [])),
  ([], tRetZ),
  ([xLdA 0], tCv 89 1 4 0 4 (some [])),
  ([xC (.int 1)], tRetZ)]
/-- HandFingers$Text.takeEnd()Z -/
noncomputable def B_86 : List Bk := [([xLdA 0, xGet 4 4], tEq0 3 1),
  ([xLdA 0, xC (.int (-2))], tCv 83 2 4 1 2 (some [])),
  ([], tEq0 4 3),
  ([xC (.int 1)], tGo 5),
  ([xC (.int 0)], tGo 5),
  ([], tRetZ)]
/-- HandFingers$Text.takeNumber(III)Z -/
noncomputable def B_87 : List Bk := [([xLdA 0, xGet 4 4, xC (.int 2)], tEq 3 1),
  ([xLdA 0, xC (.int (-2))], tCv 83 2 4 1 2 (some [])),
  ([], tRetZ),
  ([xLdA 0, xGet 4 7, xLd 1, xLd 2], tCs 142 3 3 4),
  ([], tNe0 7 5),
  ([xLdA 0, xC (.int (-3))], tCv 83 2 4 1 6 (some [])),
  ([], tRetZ),
  ([xLdA 0, xGet 4 7, xLd 3], tGe 10 8),
  ([xLdA 0, xC (.int (-4))], tCv 83 2 4 1 9 (some [])),
  ([], tRetZ),
  ([xLdA 0, xLdA 0, xGet 4 7, xPut 4 8 (.int), xLdA 0], tCv 89 1 4 0 11 (some [])),
  ([xC (.int 1)], tRetZ)]
/-- HandFingers$Text.isWord(Ljava/lang/String;)Z -/
noncomputable def B_88 : List Bk := [([xLdA 0, xGet 4 4, xC (.int 1)], tNe 3 1),
  ([xLdA 0, xGet 4 6, xLdA 0, xGet 4 5, xSub, xLdA 1], tCx 294 1 0 2),
  ([], tEq 4 3),
  ([xC (.int 0)], tRetZ),
  ([xC (.int 0), xSt 2], tGo 5),
  ([xLd 2, xLdA 1], tCx 294 1 0 6),
  ([], tGe 12 7),
  ([xLdA 0, xGet 4 0, xLdA 0, xGet 4 5, xLd 2, xAdd], tCv 62 2 2 1 8 (some [])),
  ([xLdA 1, xLd 2], tCx 295 2 1 9),
  ([], tEq 11 10),
  ([xC (.int 0)], tRetZ),
  ([xInc 2 1], tGo 5),
  ([xC (.int 1)], tRetZ)]
/-- HandFingers$Text.scan()V -/
noncomputable def B_89 : List Bk := [([xLdA 0, xLdA 0, xGet 4 6, xPut 4 5 (.int)], tGo 1),
  ([xLdA 0, xGet 4 5, xLdA 0, xGet 4 1], tGe 5 2),
  ([xLdA 0, xGet 4 0, xLdA 0, xGet 4 5], tCv 62 2 2 1 3 (some [])),
  ([xC (.int 32)], tNe 5 4),
  ([xLdA 0, xDup, xGet 4 5, xC (.int 1), xAdd, xPut 4 5 (.int)], tGo 1),
  ([xLdA 0, xLdA 0, xGet 4 5, xPut 4 6 (.int), xLdA 0, xGet 4 5, xLdA 0, xGet 4 1], tLt 7 6),
  ([xLdA 0, xC (.int 0), xPut 4 4 (.int)], tGo 27),
  ([xLdA 0, xLdA 0, xGet 4 5], tCv 90 2 4 1 8 (some [])),
  ([], tEq0 14 9),
  ([xLdA 0, xC (.int 1), xPut 4 4 (.int)], tGo 10),
  ([xLdA 0, xGet 4 6, xLdA 0, xGet 4 1], tGe 27 11),
  ([xLdA 0, xLdA 0, xGet 4 6], tCv 90 2 4 1 12 (some [])),
  ([], tEq0 27 13),
  ([xLdA 0, xDup, xGet 4 6, xC (.int 1), xAdd, xPut 4 6 (.int)], tGo 10),
  ([xLdA 0, xLdA 0, xGet 4 5], tCv 91 2 4 1 15 (some [])),
  ([], tEq0 22 16),
  ([xLdA 0, xC (.int 2), xPut 4 4 (.int), xLdA 0, xC (.int 0), xPut 4 7 (.int)], tGo 17),
  ([xLdA 0, xGet 4 6, xLdA 0, xGet 4 1], tGe 27 18),
  ([xLdA 0, xLdA 0, xGet 4 6], tCv 91 2 4 1 19 (some [])),
  ([], tEq0 27 20),
  ([xLdA 0, xC (.int 1000000), xLdA 0, xGet 4 7, xC (.int 10), xMul, xLdA 0, xGet 4 0, xLdA 0, xGet 4 6], tCv 62 2 2 1 21 (some [])),
  ([xAdd, xC (.int 48), xSub, xMin, xPut 4 7 (.int), xLdA 0, xDup, xGet 4 6, xC (.int 1), xAdd, xPut 4 6 (.int)], tGo 17),
  ([xLdA 0, xLdA 0, xGet 4 0, xLdA 0, xGet 4 5], tCv 62 2 2 1 23 (some [])),
  ([xC (.int 59)], tNe 25 24),
  ([xC (.int 3)], tGo 26),
  ([xC (.int 4)], tGo 26),
  ([xPut 4 4 (.int), xLdA 0, xLdA 0, xGet 4 5, xC (.int 1), xAdd, xPut 4 6 (.int)], tGo 27),
  ([], tRetV)]
/-- HandFingers$Text.isLetter(I)Z -/
noncomputable def B_90 : List Bk := [([xLdA 0, xGet 4 0, xLd 1], tCv 62 2 2 1 1 (some [])),
  ([xC (.int 97), xC (.int 122)], tCs 142 3 3 2),
  ([], tRetZ)]
/-- HandFingers$Text.isDigit(I)Z -/
noncomputable def B_91 : List Bk := [([xLdA 0, xGet 4 0, xLd 1], tCv 62 2 2 1 1 (some [])),
  ([xC (.int 48), xC (.int 57)], tCs 142 3 3 2),
  ([], tRetZ)]
/-- HandFingers.<init>()V -/
noncomputable def B_92 : List Bk := [([xLdA 0, xObj, xLdA 0, xNew 0 nfX0, xDup], tCi 0 1 0 1),
  ([xPut 5 0 (.object "HandFingers$Piece"), xLdA 0, xNew 0 nfX0, xDup], tCi 0 1 0 2),
  ([xPut 5 1 (.object "HandFingers$Piece"), xLdA 0, xNew 1 nfX1, xDup], tCi 28 1 0 3),
  ([xPut 5 2 (.object "HandFingers$Plan"), xLdA 0, xNew 1 nfX1, xDup], tCi 28 1 0 4),
  ([xPut 5 3 (.object "HandFingers$Plan"), xLdA 0, xNew 4 nfX4, xDup], tCi 69 1 0 5),
  ([xPut 5 4 (.object "HandFingers$Text"), xLdA 0, xNew 2 nfX2, xDup, xC (.int 120)], tCi 61 2 1 6),
  ([xPut 5 5 (.object "HandFingers$Row"), xLdA 0, xNew 2 nfX2, xDup, xC (.int 200)], tCi 61 2 1 7),
  ([xPut 5 6 (.object "HandFingers$Row"), xLdA 0, xC (.int 0), xPut 5 7 (.int), xLdA 0, xNew 3 nfX3, xDup, xC (.int 8)], tCi 65 2 1 8),
  ([xPut 5 8 (.object "HandFingers$Shelf"), xLdA 0, xC (.int 0), xPut 5 9 (.int), xLdA 0, xC (.int 0), xPut 5 10 (.int), xLdA 0, xNew 3 nfX3, xDup, xC (.int 2)], tCi 65 2 1 9),
  ([xPut 5 11 (.object "HandFingers$Shelf")], tRetV)]
/-- HandFingers.append(IIIII)I -/
noncomputable def B_93 : List Bk := [([xLd 1], tCs 150 3 1 1),
  ([xLd 2], tCs 150 3 1 2),
  ([xAdd, xLd 3], tCs 150 3 1 3),
  ([xAdd, xLd 4], tCs 150 3 1 4),
  ([xAdd, xLd 5], tCs 150 3 1 5),
  ([xAdd, xSt 6, xLdA 0, xGet 5 4, xGet 4 1, xLd 6, xAdd, xC (.int 600)], tLe 7 6),
  ([], tThr "java/lang/IllegalStateException"),
  ([xLdA 0, xGet 5 4, xLd 1], tCv 70 4 4 1 8 (some [])),
  ([xLdA 0, xGet 5 4, xLd 2], tCv 70 4 4 1 9 (some [])),
  ([xLdA 0, xGet 5 4, xLd 3], tCv 70 4 4 1 10 (some [])),
  ([xLdA 0, xGet 5 4, xLd 4], tCv 70 4 4 1 11 (some [])),
  ([xLdA 0, xGet 5 4, xLd 5], tCv 70 4 4 1 12 (some [])),
  ([xLdA 0, xGet 5 4, xGet 4 1], tRet)]
/-- HandFingers.load()I -/
noncomputable def B_94 : List Bk := [([xLdA 0, xGet 5 4, xLdA 0, xGet 5 1], tCv 71 2 4 1 1 (some [])),
  ([xSt 1, xLdA 0, xGet 5 4, xC (.int 0), xPut 4 1 (.int), xLd 1], tNe0 3 2),
  ([xLdA 0, xGet 5 4, xGet 4 2], tRet),
  ([xLdA 0], tCv 138 1 5 0 4 (some [])),
  ([xLdA 0, xGet 5 0, xLdA 0, xGet 5 1], tCv 2 2 0 1 5 (some [])),
  ([xLdA 0, xGet 5 0, xGet 0 1], tRet)]
/-- HandFingers.errorPosition()I -/
noncomputable def B_95 : List Bk := [([xLdA 0, xGet 5 4, xGet 4 3], tRet)]
/-- HandFingers.count(I)I -/
noncomputable def B_96 : List Bk := [([xLd 1], tSw 16 [(0, 1), (1, 2), (2, 4), (3, 8), (4, 10), (5, 12), (6, 14)]),
  ([xLdA 0, xGet 5 0, xGet 0 1], tRet),
  ([xLdA 0, xGet 5 0], tCv 11 3 0 0 3 (some [])),
  ([], tRet),
  ([xLdA 0, xGet 5 0, xGet 0 0], tEq0 6 5),
  ([xC (.int 1)], tGo 7),
  ([xC (.int 0)], tGo 7),
  ([], tRet),
  ([xLdA 0, xGet 5 0], tCv 12 3 0 0 9 (some [])),
  ([], tRet),
  ([xLdA 0, xGet 5 0], tCv 13 3 0 0 11 (some [])),
  ([], tRet),
  ([xLdA 0, xGet 5 0], tCv 14 4 0 0 13 (some [])),
  ([], tRet),
  ([xLdA 0, xGet 5 0], tCv 15 3 0 0 15 (some [])),
  ([], tRet),
  ([], tThr "java/lang/IllegalArgumentException")]
/-- HandFingers.event(II)I -/
noncomputable def B_97 : List Bk := [([xLdA 0, xLd 1], tCv 131 2 5 1 1 (some [])),
  ([xLd 2], tSw 9 [(0, 2), (1, 4), (2, 6)]),
  ([xLdA 0, xGet 5 0, xGet 0 2, xLd 1], tCv 62 2 2 1 3 (some [])),
  ([], tRet),
  ([xLdA 0, xGet 5 0, xGet 0 3, xLd 1], tCv 62 2 2 1 5 (some [])),
  ([], tRet),
  ([xLdA 0, xGet 5 2, xLdA 0, xGet 5 0], tCv 30 3 1 1 7 (some [])),
  ([xLdA 0, xGet 5 2, xGet 1 3, xLd 1], tCv 62 2 2 1 8 (some [])),
  ([], tRet),
  ([], tThr "java/lang/IllegalArgumentException")]
/-- HandFingers.note(III)I -/
noncomputable def B_98 : List Bk := [([xLdA 0, xLd 1, xLd 2], tCv 132 3 5 2 1 (some [])),
  ([xLd 3], tSw 7 [(0, 2), (1, 4)]),
  ([xLdA 0, xGet 5 0, xLd 1, xLd 2], tCv 10 3 0 2 3 (some [])),
  ([], tRet),
  ([xLdA 0, xGet 5 0, xGet 0 5, xLd 1, xLd 2], tCs 146 2 2 5),
  ([], tCv 62 2 2 1 6 (some [])),
  ([], tRet),
  ([], tThr "java/lang/IllegalArgumentException")]
/-- HandFingers.weight(I)I -/
noncomputable def B_99 : List Bk := [([xLdA 0, xLd 1], tCv 134 2 5 1 1 (some [])),
  ([xLdA 0, xGet 5 0, xGet 0 6, xLd 1], tCv 62 2 2 1 2 (some [])),
  ([], tRet)]
/-- HandFingers.span(III)I -/
noncomputable def B_100 : List Bk := [([xLdA 0, xLd 1], tCv 133 2 5 1 1 (some [])),
  ([xLdA 0, xLd 2], tCv 133 2 5 1 2 (some [])),
  ([xLd 1, xLd 2], tNe 4 3),
  ([], tThr "java/lang/IllegalArgumentException"),
  ([xLd 3], tSw 14 [(0, 5), (1, 8), (2, 11)]),
  ([xLdA 0, xGet 5 0, xGet 0 7, xLd 1, xLd 2], tCs 147 2 2 6),
  ([], tCv 62 2 2 1 7 (some [])),
  ([], tRet),
  ([xLdA 0, xGet 5 0, xGet 0 8, xLd 1, xLd 2], tCs 147 2 2 9),
  ([], tCv 62 2 2 1 10 (some [])),
  ([], tRet),
  ([xLdA 0, xGet 5 0, xGet 0 9, xLd 1, xLd 2], tCs 147 2 2 12),
  ([], tCv 62 2 2 1 13 (some [])),
  ([], tRet),
  ([], tThr "java/lang/IllegalArgumentException")]
/-- HandFingers.link(IIII)I -/
noncomputable def B_101 : List Bk := [([xLdA 0, xLd 1], tCv 133 2 5 1 1 (some [])),
  ([xLdA 0, xLd 3], tCv 133 2 5 1 2 (some [])),
  ([xLd 2, xC (.int 21), xC (.int 108)], tCs 142 3 3 3),
  ([], tEq0 6 4),
  ([xLd 4, xC (.int 21), xC (.int 108)], tCs 142 3 3 5),
  ([], tNe0 7 6),
  ([], tThr "java/lang/IllegalArgumentException"),
  ([xLdA 0, xGet 5 0, xLd 1, xLd 2, xLd 3, xLd 4], tCv 26 6 0 4 8 (some [])),
  ([], tRet)]
/-- HandFingers.best()I -/
noncomputable def B_102 : List Bk := [([xLdA 0, xGet 5 2, xLdA 0, xGet 5 0], tCv 30 3 1 1 1 (some [])),
  ([xLdA 0, xGet 5 2, xGet 1 2], tRet)]
/-- HandFingers.finger(II)I -/
noncomputable def B_103 : List Bk := [([xLdA 0, xLd 1, xLd 2], tCv 132 3 5 2 1 (some [])),
  ([xLdA 0], tCv 137 1 5 0 2 (some [])),
  ([xLdA 0, xGet 5 2, xLd 1, xLd 2], tCv 47 3 1 2 3 (some [])),
  ([], tRet)]
/-- HandFingers.part(II)I -/
noncomputable def B_104 : List Bk := [([xLdA 0, xLd 1], tCv 131 2 5 1 1 (some [])),
  ([xLd 2, xC (.int 0), xC (.int 2)], tCs 142 3 3 2),
  ([], tNe0 4 3),
  ([], tThr "java/lang/IllegalArgumentException"),
  ([xLdA 0], tCv 137 1 5 0 5 (some [])),
  ([xLd 2], tNe0 8 6),
  ([xLdA 0, xGet 5 2, xLd 1], tCv 48 2 1 1 7 (some [])),
  ([], tRet),
  ([xLd 1], tNe0 10 9),
  ([xC (.int 0)], tRet),
  ([xLd 2, xC (.int 1)], tNe 13 11),
  ([xLdA 0, xGet 5 2, xLd 1, xC (.int 1), xSub], tCv 49 2 1 1 12 (some [])),
  ([], tGo 14),
  ([xLdA 0, xGet 5 2, xLdA 0, xGet 5 0, xLd 1, xC (.int 1), xSub], tCv 50 3 1 2 14 (some [])),
  ([], tRet)]
/-- HandFingers.many(Z)J -/
noncomputable def B_105 : List Bk := [([xLdA 0, xGet 5 2, xLdA 0, xGet 5 0], tCv 30 3 1 1 1 (some [])),
  ([xLdA 0, xGet 5 2, xLd 1], tCv 51 6 1 1 2 (some [])),
  ([], tRetL)]
/-- HandFingers.costWith(III)I -/
noncomputable def B_106 : List Bk := [([xLdA 0, xLd 1, xLd 2], tCv 132 3 5 2 1 (some [])),
  ([xLdA 0, xLd 3], tCv 133 2 5 1 2 (some [])),
  ([xLdA 0, xGet 5 2, xLdA 0, xGet 5 0], tCv 30 3 1 1 3 (some [])),
  ([xLdA 0, xGet 5 2, xLd 1, xLd 2, xLd 3], tCv 55 6 1 3 4 (some [])),
  ([], tRet)]
/-- HandFingers.reaches()I -/
noncomputable def B_107 : List Bk := [([xLdA 0, xGet 5 2, xLdA 0, xGet 5 0], tCv 30 3 1 1 1 (some [])),
  ([xLdA 0, xGet 5 2], tCv 56 2 1 0 2 (some [])),
  ([], tRet)]
/-- HandFingers.uses(I)I -/
noncomputable def B_108 : List Bk := [([xLdA 0, xLd 1], tCv 133 2 5 1 1 (some [])),
  ([xLdA 0], tCv 137 1 5 0 2 (some [])),
  ([xC (.int 0), xSt 2, xC (.int 0), xSt 3], tGo 3),
  ([xLd 3, xLdA 0, xGet 5 0, xGet 0 1], tGe 13 4),
  ([xC (.int 0), xSt 4], tGo 5),
  ([xLd 4, xLdA 0, xGet 5 0, xGet 0 2, xLd 3], tCv 62 2 2 1 6 (some [])),
  ([], tGe 12 7),
  ([xLd 2, xLdA 0, xGet 5 2, xLd 3, xLd 4], tCv 47 3 1 2 8 (some [])),
  ([xLd 1], tNe 10 9),
  ([xC (.int 1)], tGo 11),
  ([xC (.int 0)], tGo 11),
  ([xAdd, xSt 2, xInc 4 1], tGo 5),
  ([xInc 3 1], tGo 3),
  ([xLd 2], tRet)]
/-- HandFingers.sure()I -/
noncomputable def B_109 : List Bk := [([xLdA 0], tCv 137 1 5 0 1 (some [])),
  ([xC (.int 0), xSt 1, xC (.int 0), xSt 2], tGo 2),
  ([xLd 2, xLdA 0, xGet 5 0, xGet 0 1], tGe 13 3),
  ([xC (.int 0), xSt 3], tGo 4),
  ([xLd 3, xLdA 0, xGet 5 0, xGet 0 2, xLd 2], tCv 62 2 2 1 5 (some [])),
  ([], tGe 12 6),
  ([xLd 1, xLdA 0, xGet 5 2, xLd 2, xLd 3], tCv 58 5 1 2 7 (some [])),
  ([], tCs 293 1 1 8),
  ([xC (.int 1)], tNe 10 9),
  ([xC (.int 1)], tGo 11),
  ([xC (.int 0)], tGo 11),
  ([xAdd, xSt 1, xInc 3 1], tGo 4),
  ([xInc 2 1], tGo 2),
  ([xLd 1], tRet)]
/-- HandFingers.mean()D -/
noncomputable def B_110 : List Bk := [([xLdA 0], tCv 137 1 5 0 1 (some [])),
  ([xLdA 0, xGet 5 0], tCv 11 3 0 0 2 (some [])),
  ([xSt 1, xLd 1], tNe0 4 3),
  ([xC (.double FP.dconst0)], tGo 5),
  ([xLdA 0, xGet 5 2, xGet 1 2, xI2D, xLd 1, xI2D, xDdiv], tGo 5),
  ([], tRetD)]
/-- HandFingers.costOfTold()I -/
noncomputable def B_111 : List Bk := [([xLdA 0, xGet 5 4, xLdA 0, xGet 5 0, xLdA 0, xGet 5 5], tCv 72 5 4 2 1 (some [])),
  ([xSt 1, xLdA 0, xGet 5 4, xC (.int 0), xPut 4 1 (.int), xLd 1], tNe0 3 2),
  ([xLdA 0, xGet 5 4, xGet 4 2], tRet),
  ([xC (.int 0), xSt 2, xC (.int 0), xSt 3], tGo 4),
  ([xLd 3, xLdA 0, xGet 5 0, xGet 0 1], tGe 11 5),
  ([xLdA 0, xLd 3], tCv 139 2 5 1 6 (some [])),
  ([xLdA 0, xLd 3], tCv 140 3 5 1 7 (some [])),
  ([], tCs 148 2 2 8),
  ([xSt 4, xLd 4, xC (.int (-1))], tNe 10 9),
  ([xC (.int (-10))], tRet),
  ([xLd 2, xLd 4, xAdd, xSt 2, xInc 3 1], tGo 4),
  ([xLd 2], tRet)]
/-- HandFingers.faultOfTold()I -/
noncomputable def B_112 : List Bk := [([xLdA 0, xGet 5 4, xLdA 0, xGet 5 0, xLdA 0, xGet 5 5], tCv 72 5 4 2 1 (some [])),
  ([xSt 1, xLdA 0, xGet 5 4, xC (.int 0), xPut 4 1 (.int), xLd 1], tNe0 3 2),
  ([xLdA 0, xGet 5 4, xGet 4 2], tRet),
  ([xC (.int 0), xSt 2], tGo 4),
  ([xLd 2, xLdA 0, xGet 5 0, xGet 0 1], tGe 12 5),
  ([xLdA 0, xLd 2], tCv 139 2 5 1 6 (some [])),
  ([xC (.int (-1))], tNe 8 7),
  ([xC (.int 10), xLd 2, xMul, xC (.int 1), xAdd], tRet),
  ([xLdA 0, xLd 2], tCv 140 3 5 1 9 (some [])),
  ([xC (.int (-1))], tNe 11 10),
  ([xC (.int 10), xLd 2, xMul, xC (.int 2), xAdd], tRet),
  ([xInc 2 1], tGo 4),
  ([xC (.int (-10))], tRet)]
/-- HandFingers.otherHand()I -/
noncomputable def B_113 : List Bk := [([xLdA 0, xGet 5 1, xLdA 0, xGet 5 0], tCv 2 2 0 1 1 (some [])),
  ([xLdA 0, xGet 5 1, xLdA 0, xGet 5 0, xGet 0 0], tNe0 3 2),
  ([xC (.int 1)], tGo 4),
  ([xC (.int 0)], tGo 4),
  ([xPut 0 0 (.boolean), xLdA 0, xGet 5 3], tCv 29 1 1 0 5 (some [])),
  ([xLdA 0, xGet 5 3, xLdA 0, xGet 5 1], tCv 30 3 1 1 6 (some [])),
  ([xLdA 0, xGet 5 3, xGet 1 2], tRet)]
/-- HandFingers.transposed(I)I -/
noncomputable def B_114 : List Bk := [([xLdA 0, xLd 1], tCv 136 2 5 1 1 (some [])),
  ([xLdA 0, xGet 5 2, xLdA 0, xGet 5 0], tCv 30 3 1 1 2 (some [])),
  ([xLdA 0, xGet 5 2, xLdA 0, xGet 5 0, xLd 1], tCv 59 4 1 2 3 (some [])),
  ([], tRet)]
/-- HandFingers.easiest(I)I -/
noncomputable def B_115 : List Bk := [([xLd 1, xC (.int 0), xC (.int 24)], tCs 142 3 3 1),
  ([], tNe0 3 2),
  ([], tThr "java/lang/IllegalArgumentException"),
  ([xLdA 0], tCv 137 1 5 0 4 (some [])),
  ([xC (.int 0), xSt 2, xLdA 0, xGet 5 2, xGet 1 2, xSt 3, xC (.int 1), xSt 4], tGo 5),
  ([xLd 4, xLd 1], tGt 16 6),
  ([xLd 4, xNeg, xSt 5], tGo 7),
  ([xLd 5, xLd 4], tGt 15 8),
  ([xLdA 0, xGet 5 0, xLd 5], tCv 8 2 0 1 9 (some [])),
  ([], tEq0 14 10),
  ([xLdA 0, xGet 5 2, xLdA 0, xGet 5 0, xLd 5], tCv 59 4 1 2 11 (some [])),
  ([xLd 3], tGe 14 12),
  ([xLd 5, xSt 2, xLdA 0, xGet 5 2, xLdA 0, xGet 5 0, xLd 5], tCv 59 4 1 2 13 (some [])),
  ([xSt 3], tGo 14),
  ([xLd 5, xC (.int 2), xLd 4, xMul, xAdd, xSt 5], tGo 7),
  ([xInc 4 1], tGo 5),
  ([xLd 2], tRet)]
/-- HandFingers.restBehind()I -/
noncomputable def B_116 : List Bk := [([xLdA 0, xGet 5 2, xLdA 0, xGet 5 0], tCv 30 3 1 1 1 (some [])),
  ([xC (.int (-1)), xSt 1, xLdA 0, xGet 5 2, xGet 1 2, xSt 2, xC (.int 0), xSt 3], tGo 2),
  ([xLd 3, xLdA 0, xGet 5 0, xGet 0 1, xC (.int 1), xSub], tGe 9 3),
  ([xLdA 0, xGet 5 2, xLdA 0, xGet 5 0, xLd 3], tCv 60 8 1 2 4 (some [])),
  ([xSt 4, xLd 4, xC (.int (-1))], tEq 8 5),
  ([xLd 2, xC (.int (-1))], tEq 7 6),
  ([xLd 4, xLd 2], tGe 8 7),
  ([xLd 3, xSt 1, xLd 4, xSt 2], tGo 8),
  ([xInc 3 1], tGo 2),
  ([xLd 1], tRet)]
/-- HandFingers.play(IIIII)I -/
noncomputable def B_117 : List Bk := [([xLd 1, xC (.int 0), xLdA 0, xGet 5 0, xGet 0 1], tCs 142 3 3 1),
  ([], tNe0 3 2),
  ([], tThr "java/lang/IndexOutOfBoundsException"),
  ([xLd 2, xLd 3, xLd 4], tCs 143 3 3 4),
  ([], tEq0 7 5),
  ([xLd 5, xC (.int 0), xC (.int 9)], tCs 142 3 3 6),
  ([], tNe0 8 7),
  ([], tThr "java/lang/IllegalArgumentException"),
  ([xLdA 0, xGet 5 0, xGet 0 1, xC (.int 40)], tLt 10 9),
  ([xC (.int (-10))], tRet),
  ([xLdA 0], tCv 138 1 5 0 11 (some [])),
  ([xLdA 0, xGet 5 0, xLd 1], tCv 4 3 0 1 12 (some [])),
  ([xLdA 0, xGet 5 0, xLd 1, xC (.int 0), xLd 2], tCv 7 4 0 3 13 (some [])),
  ([xLd 3], tEq0 15 14),
  ([xLdA 0, xGet 5 0, xLd 1, xC (.int 1), xLd 3], tCv 7 4 0 3 15 (some [])),
  ([xLd 4], tEq0 17 16),
  ([xLdA 0, xGet 5 0, xLd 1, xC (.int 2), xLd 4], tCv 7 4 0 3 17 (some [])),
  ([xLdA 0, xGet 5 0, xGet 0 3, xLd 1, xLd 5], tCv 63 3 2 2 18 (some [])),
  ([xLdA 0, xGet 5 0, xGet 0 1], tRet)]
/-- HandFingers.drop(I)I -/
noncomputable def B_118 : List Bk := [([xLdA 0, xLd 1], tCv 131 2 5 1 1 (some [])),
  ([xLdA 0], tCv 138 1 5 0 2 (some [])),
  ([xLdA 0, xGet 5 0, xLd 1], tCv 5 3 0 1 3 (some [])),
  ([xLdA 0, xGet 5 0, xGet 0 1], tRet)]
/-- HandFingers.setRest(II)I -/
noncomputable def B_119 : List Bk := [([xLdA 0, xLd 1], tCv 131 2 5 1 1 (some [])),
  ([xLd 2, xC (.int 0), xC (.int 9)], tCs 142 3 3 2),
  ([], tNe0 4 3),
  ([], tThr "java/lang/IllegalArgumentException"),
  ([xLdA 0], tCv 138 1 5 0 5 (some [])),
  ([xLdA 0, xGet 5 0, xGet 0 3, xLd 1], tCv 62 2 2 1 6 (some [])),
  ([xSt 3, xLdA 0, xGet 5 0, xGet 0 3, xLd 1, xLd 2], tCv 63 3 2 2 7 (some [])),
  ([xLd 3], tRet)]
/-- HandFingers.let(IIIZ)I -/
noncomputable def B_120 : List Bk := [([xLdA 0, xLd 1, xLd 2], tCv 132 3 5 2 1 (some [])),
  ([xLdA 0, xLd 3], tCv 133 2 5 1 2 (some [])),
  ([xLdA 0], tCv 138 1 5 0 3 (some [])),
  ([xLd 1, xLd 2], tCs 146 2 2 4),
  ([xSt 5, xLdA 0, xGet 5 0, xGet 0 5, xLd 5], tCv 62 2 2 1 5 (some [])),
  ([xSt 6, xLdA 0, xGet 5 0, xGet 0 5, xLd 5, xLd 4], tEq0 8 6),
  ([xLd 6, xLd 3], tCs 145 1 1 7),
  ([xOr], tGo 10),
  ([xLd 6, xLd 3], tCs 145 1 1 9),
  ([xC (.int (-1)), xXor, xAnd], tGo 10),
  ([], tCv 63 3 2 2 11 (some [])),
  ([xLdA 0, xGet 5 0, xGet 0 5, xLd 5], tCv 62 2 2 1 12 (some [])),
  ([], tRet)]
/-- HandFingers.setWeight(II)I -/
noncomputable def B_121 : List Bk := [([xLdA 0, xLd 1], tCv 134 2 5 1 1 (some [])),
  ([xLd 2, xC (.int 0), xC (.int 99)], tCs 142 3 3 2),
  ([], tNe0 4 3),
  ([], tThr "java/lang/IllegalArgumentException"),
  ([xLdA 0], tCv 138 1 5 0 5 (some [])),
  ([xLdA 0, xGet 5 0, xGet 0 6, xLd 1], tCv 62 2 2 1 6 (some [])),
  ([xSt 3, xLdA 0, xGet 5 0, xGet 0 6, xLd 1, xLd 2], tCv 63 3 2 2 7 (some [])),
  ([xLd 3], tRet)]
/-- HandFingers.setSpan(IIIII)I -/
noncomputable def B_122 : List Bk := [([xLdA 0, xLd 1], tCv 133 2 5 1 1 (some [])),
  ([xLdA 0, xLd 2], tCv 133 2 5 1 2 (some [])),
  ([xLd 1, xLd 2], tEq 9 3),
  ([xLd 3, xC (.int 1), xC (.int 24)], tCs 142 3 3 4),
  ([], tEq0 9 5),
  ([xLd 4, xLd 3, xC (.int 24)], tCs 142 3 3 6),
  ([], tEq0 9 7),
  ([xLd 5, xLd 4, xC (.int 24)], tCs 142 3 3 8),
  ([], tNe0 10 9),
  ([], tThr "java/lang/IllegalArgumentException"),
  ([xLdA 0], tCv 138 1 5 0 11 (some [])),
  ([xLdA 0, xGet 5 0, xGet 0 9, xLd 1, xLd 2], tCs 147 2 2 12),
  ([], tCv 62 2 2 1 13 (some [])),
  ([xSt 6, xLdA 0, xGet 5 0, xLd 1, xLd 2, xLd 3, xLd 4, xLd 5], tCv 3 6 0 5 14 (some [])),
  ([xLd 6], tRet)]
/-- HandFingers.setHand(Z)I -/
noncomputable def B_123 : List Bk := [([xLdA 0], tCv 138 1 5 0 1 (some [])),
  ([xLdA 0, xGet 5 0, xLd 1, xPut 0 0 (.boolean), xLdA 0, xGet 5 2, xLdA 0, xGet 5 0], tCv 30 3 1 1 2 (some [])),
  ([xLdA 0, xGet 5 2, xGet 1 2], tRet)]
/-- HandFingers.transpose(I)I -/
noncomputable def B_124 : List Bk := [([xLdA 0, xLd 1], tCv 136 2 5 1 1 (some [])),
  ([xLdA 0], tCv 138 1 5 0 2 (some [])),
  ([xLdA 0, xGet 5 0, xLd 1], tCv 9 4 0 1 3 (some [])),
  ([xLdA 0, xGet 5 2, xLdA 0, xGet 5 0], tCv 30 3 1 1 4 (some [])),
  ([xLdA 0, xGet 5 2, xGet 1 2], tRet)]
/-- HandFingers.fix()I -/
noncomputable def B_125 : List Bk := [([xLdA 0], tCv 137 1 5 0 1 (some [])),
  ([xLdA 0], tCv 138 1 5 0 2 (some [])),
  ([xC (.int 0), xSt 1, xC (.int 0), xSt 2], tGo 3),
  ([xLd 2, xLdA 0, xGet 5 0, xGet 0 1], tGe 18 4),
  ([xC (.int 0), xSt 3], tGo 5),
  ([xLd 3, xLdA 0, xGet 5 0, xGet 0 2, xLd 2], tCv 62 2 2 1 6 (some [])),
  ([], tGe 17 7),
  ([xLd 2, xLd 3], tCs 146 2 2 8),
  ([xSt 4, xLd 1, xLdA 0, xGet 5 0, xGet 0 5, xLd 4], tCv 62 2 2 1 9 (some [])),
  ([], tCs 293 1 1 10),
  ([xC (.int 1)], tLe 12 11),
  ([xC (.int 1)], tGo 13),
  ([xC (.int 0)], tGo 13),
  ([xAdd, xSt 1, xLdA 0, xGet 5 0, xGet 0 5, xLd 4, xLdA 0, xGet 5 2, xLd 2, xLd 3], tCv 47 3 1 2 14 (some [])),
  ([], tCs 145 1 1 15),
  ([], tCv 63 3 2 2 16 (some [])),
  ([xInc 3 1], tGo 5),
  ([xInc 2 1], tGo 3),
  ([xLd 1], tRet)]
/-- HandFingers.undo()I -/
noncomputable def B_126 : List Bk := [([xLdA 0, xGet 5 10], tNe0 2 1),
  ([], tThr "java/lang/IllegalStateException"),
  ([xLdA 0, xDup, xGet 5 10, xC (.int 1), xSub, xPut 5 10 (.int), xLdA 0, xGet 5 8, xLdA 0, xGet 5 9, xLdA 0, xGet 5 10, xAdd, xC (.int 8), xRem, xLdA 0, xGet 5 0], tCv 68 4 3 2 3 (some [])),
  ([xLdA 0, xGet 5 2], tCv 29 1 1 0 4 (some [])),
  ([xLdA 0, xGet 5 10], tRet)]
/-- HandFingers.save(I)V -/
noncomputable def B_127 : List Bk := [([xLdA 0, xLd 1], tCv 135 2 5 1 1 (some [])),
  ([xLdA 0, xGet 5 11, xLd 1, xLdA 0, xGet 5 0], tCv 67 4 3 2 2 (some [])),
  ([], tRetV)]
/-- HandFingers.restore(I)I -/
noncomputable def B_128 : List Bk := [([xLdA 0, xLd 1], tCv 135 2 5 1 1 (some [])),
  ([xLdA 0, xGet 5 11, xLd 1], tCv 66 2 3 1 2 (some [])),
  ([], tNe0 4 3),
  ([], tThr "java/lang/IllegalStateException"),
  ([xLdA 0], tCv 138 1 5 0 5 (some [])),
  ([xLdA 0, xGet 5 11, xLd 1, xLdA 0, xGet 5 0], tCv 68 4 3 2 6 (some [])),
  ([xLdA 0, xGet 5 0, xGet 0 1], tRet)]
/-- HandFingers.writeFingers()I -/
noncomputable def B_129 : List Bk := [([xLdA 0], tCv 137 1 5 0 1 (some [])),
  ([xLdA 0, xC (.int 0), xPut 5 7 (.int), xC (.int 0), xSt 1], tGo 2),
  ([xLd 1, xLdA 0, xGet 5 0, xGet 0 1], tGe 17 3),
  ([xLd 1], tLe0 5 4),
  ([xLdA 0, xC (.int 32)], tCv 141 2 5 1 5 (some [])),
  ([xC (.int 0), xSt 2], tGo 6),
  ([xLd 2, xLdA 0, xGet 5 0, xGet 0 2, xLd 1], tCv 62 2 2 1 7 (some [])),
  ([], tGe 11 8),
  ([xLdA 0, xC (.int 48), xLdA 0, xGet 5 2, xLd 1, xLd 2], tCv 47 3 1 2 9 (some [])),
  ([xAdd], tCv 141 2 5 1 10 (some [])),
  ([xInc 2 1], tGo 6),
  ([xLd 1, xLdA 0, xGet 5 0, xGet 0 1, xC (.int 1), xSub], tGe 16 12),
  ([xLdA 0, xGet 5 0, xLdA 0, xGet 5 0, xGet 0 3, xLd 1], tCv 62 2 2 1 13 (some [])),
  ([], tCv 16 2 0 1 14 (some [])),
  ([], tEq0 16 15),
  ([xLdA 0, xC (.int 39)], tCv 141 2 5 1 16 (some [])),
  ([xInc 1 1], tGo 2),
  ([xLdA 0, xGet 5 7], tRet)]
/-- HandFingers.writtenByte(I)I -/
noncomputable def B_130 : List Bk := [([xLd 1, xC (.int 0), xLdA 0, xGet 5 7, xC (.int 1), xSub], tCs 142 3 3 1),
  ([], tNe0 3 2),
  ([], tThr "java/lang/IndexOutOfBoundsException"),
  ([xLdA 0, xGet 5 6, xLd 1], tCv 62 2 2 1 4 (some [])),
  ([], tRet)]
/-- HandFingers.needEvent(I)V -/
noncomputable def B_131 : List Bk := [([xLd 1, xC (.int 0), xLdA 0, xGet 5 0, xGet 0 1, xC (.int 1), xSub], tCs 142 3 3 1),
  ([], tNe0 3 2),
  ([], tThr "java/lang/IndexOutOfBoundsException"),
  ([], tRetV)]
/-- HandFingers.needNote(II)V -/
noncomputable def B_132 : List Bk := [([xLdA 0, xLd 1], tCv 131 2 5 1 1 (some [])),
  ([xLd 2, xC (.int 0), xLdA 0, xGet 5 0, xGet 0 2, xLd 1], tCv 62 2 2 1 2 (some [])),
  ([xC (.int 1), xSub], tCs 142 3 3 3),
  ([], tNe0 5 4),
  ([], tThr "java/lang/IndexOutOfBoundsException"),
  ([], tRetV)]
/-- HandFingers.needFinger(I)V -/
noncomputable def B_133 : List Bk := [([xLd 1, xC (.int 1), xC (.int 5)], tCs 142 3 3 1),
  ([], tNe0 3 2),
  ([], tThr "java/lang/IndexOutOfBoundsException"),
  ([], tRetV)]
/-- HandFingers.needWeight(I)V -/
noncomputable def B_134 : List Bk := [([xLd 1, xC (.int 0), xC (.int 9)], tCs 142 3 3 1),
  ([], tNe0 3 2),
  ([], tThr "java/lang/IndexOutOfBoundsException"),
  ([], tRetV)]
/-- HandFingers.needSlot(I)V -/
noncomputable def B_135 : List Bk := [([xLd 1, xC (.int 0), xC (.int 1)], tCs 142 3 3 1),
  ([], tNe0 3 2),
  ([], tThr "java/lang/IndexOutOfBoundsException"),
  ([], tRetV)]
/-- HandFingers.needTransposable(I)V -/
noncomputable def B_136 : List Bk := [([xLd 1, xC (.int (-87)), xC (.int 87)], tCs 142 3 3 1),
  ([], tEq0 4 2),
  ([xLdA 0, xGet 5 0, xLd 1], tCv 8 2 0 1 3 (some [])),
  ([], tNe0 5 4),
  ([], tThr "java/lang/IllegalArgumentException"),
  ([], tRetV)]
/-- HandFingers.needFingering()V -/
noncomputable def B_137 : List Bk := [([xLdA 0, xGet 5 2, xLdA 0, xGet 5 0], tCv 30 3 1 1 1 (some [])),
  ([xLdA 0, xGet 5 2, xGet 1 2, xC (.int (-1))], tNe 3 2),
  ([], tThr "java/util/NoSuchElementException"),
  ([], tRetV)]
/-- HandFingers.remember()V -/
noncomputable def B_138 : List Bk := [([xLdA 0, xGet 5 10, xC (.int 8)], tNe 2 1),
  ([xLdA 0, xLdA 0, xGet 5 9, xC (.int 1), xAdd, xC (.int 8), xRem, xPut 5 9 (.int), xLdA 0, xDup, xGet 5 10, xC (.int 1), xSub, xPut 5 10 (.int)], tGo 2),
  ([xLdA 0, xGet 5 8, xLdA 0, xGet 5 9, xLdA 0, xGet 5 10, xAdd, xC (.int 8), xRem, xLdA 0, xGet 5 0], tCv 67 4 3 2 3 (some [])),
  ([xLdA 0, xDup, xGet 5 10, xC (.int 1), xAdd, xPut 5 10 (.int), xLdA 0, xGet 5 2], tCv 29 1 1 0 4 (some [])),
  ([], tRetV)]
/-- HandFingers.toldEventCost(I)I -/
noncomputable def B_139 : List Bk := [([xLdA 0, xGet 5 0, xLd 1, xLdA 0, xGet 5 5, xLd 1, xC (.int 0)], tCs 146 2 2 1),
  ([xC (.int 0)], tCv 19 10 0 4 2 (some [])),
  ([], tRet)]
/-- HandFingers.toldPassageCost(I)I -/
noncomputable def B_140 : List Bk := [([xLd 1], tNe0 2 1),
  ([xC (.int 0)], tRet),
  ([xLdA 0, xGet 5 0, xGet 0 3, xLd 1, xC (.int 1), xSub], tCv 62 2 2 1 3 (some [])),
  ([xSt 2, xLdA 0, xGet 5 0, xLd 1, xC (.int 1), xSub, xLd 2, xLdA 0, xGet 5 5, xLd 1, xC (.int 1), xSub, xC (.int 0)], tCs 146 2 2 4),
  ([xLd 1, xC (.int 0)], tCs 146 2 2 5),
  ([], tCv 22 11 0 5 6 (some [])),
  ([], tRet)]
/-- HandFingers.write(I)V -/
noncomputable def B_141 : List Bk := [([xLdA 0, xGet 5 6, xLdA 0, xGet 5 7, xLd 1], tCv 63 3 2 2 1 (some [])),
  ([xLdA 0, xDup, xGet 5 7, xC (.int 1), xAdd, xPut 5 7 (.int)], tRetV)]
/-- HandFingers.isWithin(III)Z -/
noncomputable def B_142 : List Bk := [([xLd 0, xLd 1], tLt 3 1),
  ([xLd 0, xLd 2], tGt 3 2),
  ([xC (.int 1)], tGo 4),
  ([xC (.int 0)], tGo 4),
  ([], tRetZ)]
/-- HandFingers.areKeys(III)Z -/
noncomputable def B_143 : List Bk := [([xLd 0, xC (.int 21), xC (.int 108)], tCs 142 3 3 1),
  ([], tNe0 3 2),
  ([xC (.int 0)], tRetZ),
  ([xLd 1], tNe0 8 4),
  ([xLd 2], tNe0 6 5),
  ([xC (.int 1)], tGo 7),
  ([xC (.int 0)], tGo 7),
  ([], tRetZ),
  ([xLd 1, xLd 0, xC (.int 1), xAdd, xC (.int 108)], tCs 142 3 3 9),
  ([], tEq0 14 10),
  ([xLd 2], tEq0 13 11),
  ([xLd 2, xLd 1, xC (.int 1), xAdd, xC (.int 108)], tCs 142 3 3 12),
  ([], tEq0 14 13),
  ([xC (.int 1)], tGo 15),
  ([xC (.int 0)], tGo 15),
  ([], tRetZ)]
/-- HandFingers.isBlack(I)Z -/
noncomputable def B_144 : List Bk := [([xLd 0, xC (.int 12), xRem, xSt 1, xLd 1, xC (.int 1)], tEq 5 1),
  ([xLd 1, xC (.int 3)], tEq 5 2),
  ([xLd 1, xC (.int 6)], tEq 5 3),
  ([xLd 1, xC (.int 8)], tEq 5 4),
  ([xLd 1, xC (.int 10)], tNe 6 5),
  ([xC (.int 1)], tGo 7),
  ([xC (.int 0)], tGo 7),
  ([], tRetZ)]
/-- HandFingers.bitOf(I)I -/
noncomputable def B_145 : List Bk := [([xLd 0, xC (.int 1)], tLt 3 1),
  ([xLd 0, xC (.int 5)], tGt 3 2),
  ([xC (.int 1), xLd 0, xC (.int 1), xSub, xShl], tGo 4),
  ([xC (.int 0)], tGo 4),
  ([], tRet)]
/-- HandFingers.placeOf(II)I -/
noncomputable def B_146 : List Bk := [([xLd 0, xC (.int 3), xMul, xLd 1, xAdd], tRet)]
/-- HandFingers.pairOf(II)I -/
noncomputable def B_147 : List Bk := [([xLd 0, xC (.int 1), xSub, xC (.int 5), xMul, xLd 1, xAdd, xC (.int 1), xSub], tRet)]
/-- HandFingers.sumOf(II)I -/
noncomputable def B_148 : List Bk := [([xLd 0, xC (.int (-1))], tEq 2 1),
  ([xLd 1, xC (.int (-1))], tNe 3 2),
  ([xC (.int (-1))], tGo 4),
  ([xLd 0, xLd 1, xAdd], tGo 4),
  ([], tRet)]
/-- HandFingers.lesserOf(II)I -/
noncomputable def B_149 : List Bk := [([xLd 0, xC (.int (-1))], tEq 2 1),
  ([xLd 1, xC (.int (-1))], tNe 6 2),
  ([xLd 0, xC (.int (-1))], tNe 4 3),
  ([xLd 1], tGo 5),
  ([xLd 0], tGo 5),
  ([], tRet),
  ([xLd 0, xLd 1, xMin], tRet)]
/-- HandFingers.bytesIn(I)I -/
noncomputable def B_150 : List Bk := [([xC (.int 0), xSt 1, xC (.int 24), xSt 2], tGo 1),
  ([xLd 2], tLt0 6 2),
  ([xLd 1, xLd 0, xLd 2, xUshr, xC (.int 255), xAnd], tEq0 4 3),
  ([xC (.int 1)], tGo 5),
  ([xC (.int 0)], tGo 5),
  ([xAdd, xSt 1, xInc 2 (-8)], tGo 1),
  ([xLd 1], tRet)]
/-- HandFingersModel.<init>()V -/
noncomputable def B_151 : List Bk := [([xLdA 0, xObj, xLdA 0, xC (.int 362), xNewA 0, xPut 6 0 (.array .int), xLdA 0, xC (.int 362), xNewA 0, xPut 6 1 (.array .int), xLdA 0, xC (.int 362), xNewA 0, xPut 6 2 (.array .int), xLdA 0, xC (.int 2896), xNewA 0, xPut 6 3 (.array .int), xLdA 0, xC (.int 724), xNewA 0, xPut 6 4 (.array .int), xLdA 0, xC (.int 2), xNewA 3, xPut 6 5 (.array .boolean), xLdA 0, xC (.int 600), xNewA 0, xPut 6 8 (.array .int), xLdA 0, xC (.int (-1)), xPut 6 16 (.int), xLdA 0, xC (.int 3), xNewA 0, xPut 6 17 (.array .int), xLdA 0, xC (.int 400), xNewA 0, xPut 6 18 (.array .int), xLdA 0, xC (.int 400), xNewA 0, xPut 6 19 (.array .int), xLdA 0, xC (.int 40), xNewA 0, xPut 6 20 (.array .int), xLdA 0, xC (.int 40), xNewA 0, xPut 6 21 (.array .int), xLdA 0, xC (.int 400), xNewA 0, xPut 6 22 (.array .int), xLdA 0, xC (.int 400), xNewA 0, xPut 6 23 (.array .int), xLdA 0, xC (.int 400), xNewA 1, xPut 6 24 (.array .long), xLdA 0, xC (.int 400), xNewA 1, xPut 6 25 (.array .long), xLdA 0, xC (.int 40), xNewA 0, xPut 6 26 (.array .int), xLdA 0, xC (.int 250), xNewA 0, xPut 6 28 (.array .int), xLdA 0], tCv 154 2 6 0 1 (some [])),
  ([], tRetV)]
/-- HandFingersModel.putsWeights(IIIII)V -/
noncomputable def B_152 : List Bk := [([xLdA 0, xGet 6 0, xC (.int 2), xLdA 0, xGet 6 10, xAdd, xLd 1, xAst, xLdA 0, xGet 6 0, xC (.int 2), xLdA 0, xGet 6 10, xAdd, xC (.int 1), xAdd, xLd 2, xAst, xLdA 0, xGet 6 0, xC (.int 2), xLdA 0, xGet 6 10, xAdd, xC (.int 2), xAdd, xLd 3, xAst, xLdA 0, xGet 6 0, xC (.int 2), xLdA 0, xGet 6 10, xAdd, xC (.int 3), xAdd, xLd 4, xAst, xLdA 0, xGet 6 0, xC (.int 2), xLdA 0, xGet 6 10, xAdd, xC (.int 4), xAdd, xLd 5, xAst], tRetV)]
/-- HandFingersModel.putsSpan(IIIII)V -/
noncomputable def B_153 : List Bk := [([xLd 1, xLd 2], tCs 155 5 2 1),
  ([xSt 6, xLdA 0, xGet 6 0, xLd 6, xLd 3, xAst, xLdA 0, xGet 6 0, xLd 6, xC (.int 1), xAdd, xLd 4, xAst, xLdA 0, xGet 6 0, xLd 6, xC (.int 2), xAdd, xLd 5, xAst], tRetV)]
/-- HandFingersModel.begins()V -/
noncomputable def B_154 : List Bk := [([xC (.int 0), xSt 1], tGo 1),
  ([xLd 1, xC (.int 362)], tGe 3 2),
  ([xLdA 0, xGet 6 0, xLd 1, xC (.int 0), xAst, xInc 1 1], tGo 1),
  ([xLdA 0, xGet 6 0, xC (.int 1), xC (.int 1), xAst, xLdA 0, xC (.int 0), xPut 6 10 (.int), xLdA 0, xC (.int 2), xC (.int 5), xC (.int 3), xC (.int 1), xC (.int 2)], tCv 152 6 6 5 4 (some [])),
  ([xLdA 0, xC (.int 5), xPut 6 10 (.int), xLdA 0, xC (.int 4), xC (.int 1), xC (.int 2), xC (.int 4), xC (.int 5)], tCv 152 6 6 5 5 (some [])),
  ([xLdA 0, xC (.int 1), xC (.int 2), xC (.int 1), xC (.int 5), xC (.int 8)], tCv 153 7 6 5 6 (some [])),
  ([xLdA 0, xC (.int 1), xC (.int 3), xC (.int 3), xC (.int 7), xC (.int 10)], tCv 153 7 6 5 7 (some [])),
  ([xLdA 0, xC (.int 1), xC (.int 4), xC (.int 5), xC (.int 9), xC (.int 12)], tCv 153 7 6 5 8 (some [])),
  ([xLdA 0, xC (.int 1), xC (.int 5), xC (.int 7), xC (.int 11), xC (.int 14)], tCv 153 7 6 5 9 (some [])),
  ([xLdA 0, xC (.int 2), xC (.int 3), xC (.int 1), xC (.int 2), xC (.int 5)], tCv 153 7 6 5 10 (some [])),
  ([xLdA 0, xC (.int 2), xC (.int 4), xC (.int 3), xC (.int 4), xC (.int 7)], tCv 153 7 6 5 11 (some [])),
  ([xLdA 0, xC (.int 2), xC (.int 5), xC (.int 5), xC (.int 7), xC (.int 10)], tCv 153 7 6 5 12 (some [])),
  ([xLdA 0, xC (.int 3), xC (.int 4), xC (.int 1), xC (.int 2), xC (.int 4)], tCv 153 7 6 5 13 (some [])),
  ([xLdA 0, xC (.int 3), xC (.int 5), xC (.int 3), xC (.int 4), xC (.int 7)], tCv 153 7 6 5 14 (some [])),
  ([xLdA 0, xC (.int 4), xC (.int 5), xC (.int 1), xC (.int 2), xC (.int 5)], tCv 153 7 6 5 15 (some [])),
  ([], tRetV)]
/-- HandFingersModel.pairOf(II)I -/
noncomputable def B_155 : List Bk := [([xLd 0, xLd 1, xMin, xSt 2, xLd 0, xLd 1, xMax, xSt 3, xLd 2, xC (.int 1)], tNe 2 1),
  ([xC (.int 0)], tGo 7),
  ([xLd 2, xC (.int 2)], tNe 4 3),
  ([xC (.int 4)], tGo 7),
  ([xLd 2, xC (.int 3)], tNe 6 5),
  ([xC (.int 7)], tGo 7),
  ([xC (.int 9)], tGo 7),
  ([xSt 4, xC (.int 12), xC (.int 3), xLd 4, xLd 3, xAdd, xLd 2, xSub, xC (.int 1), xSub, xMul, xAdd], tRet)]
/-- HandFingersModel.thrown()I -/
noncomputable def B_156 : List Bk := [([xLdA 0, xGet 6 7], tRet)]
/-- HandFingersModel.isIn(III)Z -/
noncomputable def B_157 : List Bk := [([xLd 0, xLd 1], tLt 3 1),
  ([xLd 0, xLd 2], tGt 3 2),
  ([xC (.int 1)], tGo 4),
  ([xC (.int 0)], tGo 4),
  ([], tRetZ)]
/-- HandFingersModel.copies([II[II)V -/
noncomputable def B_158 : List Bk := [([xC (.int 0), xSt 4], tGo 1),
  ([xLd 4, xC (.int 362)], tGe 3 2),
  ([xLdA 0, xLd 1, xLd 4, xAdd, xLdA 2, xLd 3, xLd 4, xAdd, xAld, xAst, xInc 4 1], tGo 1),
  ([], tRetV)]
/-- HandFingersModel.keeps([I)V -/
noncomputable def B_159 : List Bk := [([xLdA 0, xGet 6 6, xC (.int 8)], tNe 5 1),
  ([xC (.int 0), xSt 2], tGo 2),
  ([xLd 2, xC (.int 2534)], tGe 4 3),
  ([xLdA 0, xGet 6 3, xLd 2, xLdA 0, xGet 6 3, xLd 2, xC (.int 362), xAdd, xAld, xAst, xInc 2 1], tGo 2),
  ([xLdA 0, xDup, xGet 6 6, xC (.int 1), xSub, xPut 6 6 (.int)], tGo 5),
  ([xLdA 0, xGet 6 3, xC (.int 362), xLdA 0, xGet 6 6, xMul, xLdA 1, xC (.int 0)], tCs 158 5 4 6),
  ([xLdA 0, xDup, xGet 6 6, xC (.int 1), xAdd, xPut 6 6 (.int)], tRetV)]
/-- HandFingersModel.undo()I -/
noncomputable def B_160 : List Bk := [([xLdA 0, xLdA 0, xGet 6 6], tNe0 2 1),
  ([xC (.int 1)], tGo 3),
  ([xC (.int 0)], tGo 3),
  ([xPut 6 7 (.int), xLdA 0, xGet 6 7], tLe0 5 4),
  ([xC (.int 0)], tRet),
  ([xLdA 0, xDup, xGet 6 6, xC (.int 1), xSub, xPut 6 6 (.int), xLdA 0, xGet 6 0, xC (.int 0), xLdA 0, xGet 6 3, xC (.int 362), xLdA 0, xGet 6 6, xMul], tCs 158 5 4 6),
  ([xLdA 0, xGet 6 6], tRet)]
/-- HandFingersModel.save(I)V -/
noncomputable def B_161 : List Bk := [([xLdA 0, xLd 1, xC (.int 0), xC (.int 1)], tCs 157 3 3 1),
  ([], tEq0 3 2),
  ([xC (.int 0)], tGo 4),
  ([xC (.int 1)], tGo 4),
  ([xPut 6 7 (.int), xLdA 0, xGet 6 7], tLe0 6 5),
  ([], tRetV),
  ([xLdA 0, xGet 6 4, xC (.int 362), xLd 1, xMul, xLdA 0, xGet 6 0, xC (.int 0)], tCs 158 5 4 7),
  ([xLdA 0, xGet 6 5, xLd 1, xC (.int 1), xZst], tRetV)]
/-- HandFingersModel.restore(I)I -/
noncomputable def B_162 : List Bk := [([xLdA 0, xLd 1, xC (.int 0), xC (.int 1)], tCs 157 3 3 1),
  ([], tNe0 3 2),
  ([xC (.int 1)], tGo 6),
  ([xLdA 0, xGet 6 5, xLd 1, xZld], tEq0 5 4),
  ([xC (.int 0)], tGo 6),
  ([xC (.int 2)], tGo 6),
  ([xPut 6 7 (.int), xLdA 0, xGet 6 7], tLe0 8 7),
  ([xC (.int 0)], tRet),
  ([xLdA 0, xLdA 0, xGet 6 0], tCv 159 3 6 1 9 (some [])),
  ([xLdA 0, xGet 6 0, xC (.int 0), xLdA 0, xGet 6 4, xC (.int 362), xLd 1, xMul], tCs 158 5 4 10),
  ([xLdA 0], tCv 182 1 6 0 11 (some [])),
  ([], tRet)]
/-- HandFingersModel.byteOf(IIIIII)I -/
noncomputable def B_163 : List Bk := [([xLd 0, xC (.int 4)], tGe 2 1),
  ([xLd 1], tGo 9),
  ([xLd 0, xC (.int 8)], tGe 4 3),
  ([xLd 2], tGo 9),
  ([xLd 0, xC (.int 12)], tGe 6 5),
  ([xLd 3], tGo 9),
  ([xLd 0, xC (.int 16)], tGe 8 7),
  ([xLd 4], tGo 9),
  ([xLd 5], tGo 9),
  ([xSt 6, xLd 6, xC (.int 24), xC (.int 8), xLd 0, xC (.int 4), xRem, xMul, xSub, xShr, xC (.int 255), xAnd], tRet)]
/-- HandFingersModel.append(IIIII)I -/
noncomputable def B_164 : List Bk := [([xC (.int 0), xSt 6, xC (.int 0), xSt 7], tGo 1),
  ([xLd 7, xC (.int 20)], tGe 7 2),
  ([xLd 6, xLd 7, xLd 1, xLd 2, xLd 3, xLd 4, xLd 5], tCs 163 7 6 3),
  ([], tNe0 5 4),
  ([xC (.int 0)], tGo 6),
  ([xC (.int 1)], tGo 6),
  ([xAdd, xSt 6, xInc 7 1], tGo 1),
  ([xLdA 0, xLdA 0, xGet 6 9, xLd 6, xAdd, xC (.int 600)], tLe 9 8),
  ([xC (.int 1)], tGo 10),
  ([xC (.int 0)], tGo 10),
  ([xPut 6 7 (.int), xLdA 0, xGet 6 7], tLe0 12 11),
  ([xC (.int 0)], tRet),
  ([xC (.int 0), xSt 7], tGo 13),
  ([xLd 7, xC (.int 20)], tGe 19 14),
  ([xLd 7, xLd 1, xLd 2, xLd 3, xLd 4, xLd 5], tCs 163 7 6 15),
  ([xSt 8, xLd 8], tNe0 17 16),
  ([], tGo 18),
  ([xLdA 0, xGet 6 8, xLdA 0, xGet 6 9, xLd 8, xAst, xLdA 0, xDup, xGet 6 9, xC (.int 1), xAdd, xPut 6 9 (.int)], tGo 18),
  ([xInc 7 1], tGo 13),
  ([xLdA 0, xGet 6 9], tRet)]
/-- HandFingersModel.see(I)I -/
noncomputable def B_165 : List Bk := [([xLd 1, xLdA 0, xGet 6 9], tGe 2 1),
  ([xLdA 0, xGet 6 8, xLd 1, xAld], tGo 3),
  ([xC (.int (-1))], tGo 3),
  ([], tRet)]
/-- HandFingersModel.isLetter(I)Z -/
noncomputable def B_166 : List Bk := [([xLdA 0, xLd 1], tCv 165 2 6 1 1 (some [])),
  ([xC (.int 97), xC (.int 122)], tCs 157 3 3 2),
  ([], tRetZ)]
/-- HandFingersModel.isDigit(I)Z -/
noncomputable def B_167 : List Bk := [([xLdA 0, xLd 1], tCv 165 2 6 1 1 (some [])),
  ([xC (.int 48), xC (.int 57)], tCs 157 3 3 2),
  ([], tRetZ)]
/-- HandFingersModel.next()V -/
noncomputable def B_168 : List Bk := [([xLdA 0, xLdA 0, xGet 6 11, xPut 6 10 (.int)], tGo 1),
  ([xLdA 0, xLdA 0, xGet 6 10], tCv 165 2 6 1 2 (some [])),
  ([xC (.int 32)], tNe 4 3),
  ([xLdA 0, xDup, xGet 6 10, xC (.int 1), xAdd, xPut 6 10 (.int)], tGo 1),
  ([xLdA 0, xLdA 0, xGet 6 10, xPut 6 11 (.int), xLdA 0, xC (.int 0), xPut 6 13 (.int), xLdA 0, xGet 6 10, xLdA 0, xGet 6 9], tLt 6 5),
  ([xLdA 0, xC (.int 3), xPut 6 12 (.int)], tGo 20),
  ([xLdA 0, xLdA 0, xGet 6 10], tCv 166 2 6 1 7 (some [])),
  ([], tEq0 12 8),
  ([xLdA 0, xLdA 0, xGet 6 11], tCv 166 2 6 1 9 (some [])),
  ([], tEq0 11 10),
  ([xLdA 0, xDup, xGet 6 11, xC (.int 1), xAdd, xPut 6 11 (.int)], tGo 8),
  ([xLdA 0, xC (.int 0), xPut 6 12 (.int)], tGo 20),
  ([xLdA 0, xLdA 0, xGet 6 10], tCv 167 2 6 1 13 (some [])),
  ([], tEq0 19 14),
  ([xLdA 0, xLdA 0, xGet 6 11], tCv 167 2 6 1 15 (some [])),
  ([], tEq0 18 16),
  ([xLdA 0, xC (.int 1000), xC (.int 10), xLdA 0, xGet 6 13, xMul, xLdA 0, xLdA 0, xGet 6 11], tCv 165 2 6 1 17 (some [])),
  ([xAdd, xC (.int 48), xSub, xMin, xPut 6 13 (.int), xLdA 0, xDup, xGet 6 11, xC (.int 1), xAdd, xPut 6 11 (.int)], tGo 14),
  ([xLdA 0, xC (.int 1), xPut 6 12 (.int)], tGo 20),
  ([xLdA 0, xDup, xGet 6 11, xC (.int 1), xAdd, xPut 6 11 (.int), xLdA 0, xC (.int 2), xPut 6 12 (.int)], tGo 20),
  ([], tRetV)]
/-- HandFingersModel.starts()V -/
noncomputable def B_169 : List Bk := [([xLdA 0, xC (.int 0), xPut 6 7 (.int), xLdA 0, xC (.int 0), xPut 6 11 (.int), xLdA 0, xC (.int 0), xPut 6 14 (.int), xLdA 0], tCv 168 1 6 0 1 (some [])),
  ([], tRetV)]
/-- HandFingersModel.ends()V -/
noncomputable def B_170 : List Bk := [([xLdA 0, xLdA 0, xGet 6 14], tNe0 2 1),
  ([xC (.int (-1))], tGo 3),
  ([xLdA 0, xGet 6 15], tGo 3),
  ([xPut 6 16 (.int), xLdA 0, xC (.int 0), xPut 6 9 (.int)], tRetV)]
/-- HandFingersModel.isWord(Ljava/lang/String;)Z -/
noncomputable def B_171 : List Bk := [([xLdA 0, xGet 6 14], tNe0 4 1),
  ([xLdA 0, xGet 6 12], tNe0 4 2),
  ([xLdA 0, xGet 6 11, xLdA 0, xGet 6 10, xSub, xLdA 1], tCx 294 1 0 3),
  ([], tEq 5 4),
  ([xC (.int 0)], tRetZ),
  ([xC (.int 0), xSt 2], tGo 6),
  ([xLd 2, xLdA 1], tCx 294 1 0 7),
  ([], tGe 12 8),
  ([xLdA 0, xGet 6 8, xLdA 0, xGet 6 10, xLd 2, xAdd, xAld, xLdA 1, xLd 2], tCx 295 2 1 9),
  ([], tEq 11 10),
  ([xC (.int 0)], tRetZ),
  ([xInc 2 1], tGo 6),
  ([xC (.int 1)], tRetZ)]
/-- HandFingersModel.fails(I)V -/
noncomputable def B_172 : List Bk := [([xLdA 0, xGet 6 14], tEq0 2 1),
  ([], tRetV),
  ([xLdA 0, xLd 1, xPut 6 14 (.int), xLdA 0, xLdA 0, xGet 6 10, xPut 6 15 (.int)], tRetV)]
/-- HandFingersModel.must(Z)V -/
noncomputable def B_173 : List Bk := [([xLd 1], tNe0 2 1),
  ([xLdA 0, xC (.int (-2))], tCv 172 2 6 1 2 (some [])),
  ([xLdA 0, xGet 6 14], tNe0 4 3),
  ([xLdA 0], tCv 168 1 6 0 4 (some [])),
  ([], tRetV)]
/-- HandFingersModel.mustEnd()V -/
noncomputable def B_174 : List Bk := [([xLdA 0, xLdA 0, xGet 6 12, xC (.int 2)], tNe 4 1),
  ([xLdA 0, xLdA 0, xGet 6 10], tCv 165 2 6 1 2 (some [])),
  ([xC (.int 59)], tNe 4 3),
  ([xC (.int 1)], tGo 5),
  ([xC (.int 0)], tGo 5),
  ([], tCv 173 2 6 1 6 (some [])),
  ([], tRetV)]
/-- HandFingersModel.takes(III)I -/
noncomputable def B_175 : List Bk := [([xLdA 0, xGet 6 14], tNe0 3 1),
  ([xLdA 0, xGet 6 12, xC (.int 1)], tEq 3 2),
  ([xLdA 0, xC (.int (-2))], tCv 172 2 6 1 3 (some [])),
  ([xLdA 0, xGet 6 14], tNe0 7 4),
  ([xLdA 0, xGet 6 13, xLd 1, xLd 2], tCs 157 3 3 5),
  ([], tNe0 7 6),
  ([xLdA 0, xC (.int (-3))], tCv 172 2 6 1 7 (some [])),
  ([xLdA 0, xGet 6 14], tNe0 10 8),
  ([xLdA 0, xGet 6 13, xLd 3], tGe 10 9),
  ([xLdA 0, xC (.int (-4))], tCv 172 2 6 1 10 (some [])),
  ([xLdA 0, xGet 6 14], tNe0 12 11),
  ([xLdA 0, xGet 6 13], tGo 13),
  ([xC (.int 0)], tGo 13),
  ([xSt 4, xLdA 0, xGet 6 14], tNe0 15 14),
  ([xLdA 0], tCv 168 1 6 0 15 (some [])),
  ([xLd 4], tRet)]
/-- HandFingersModel.nameOf(I)Ljava/lang/String; -/
noncomputable def B_176 : List Bk := [([xLd 0], tSw 10 [(0, 1), (1, 2), (2, 3), (3, 4), (4, 5), (5, 6), (6, 7), (7, 8), (8, 9)]),
  ([xC (.ref 11)], tRetA),
  ([xC (.ref 12)], tRetA),
  ([xC (.ref 13)], tRetA),
  ([xC (.ref 14)], tRetA),
  ([xC (.ref 15)], tRetA),
  ([xC (.ref 16)], tRetA),
  ([xC (.ref 17)], tRetA),
  ([xC (.ref 18)], tRetA),
  ([xC (.ref 19)], tRetA),
  ([xC (.ref 20)], tRetA)]
/-- HandFingersModel.readsWeight()V -/
noncomputable def B_177 : List Bk := [([xLdA 0, xC (.int 1)], tCv 173 2 6 1 1 (some [])),
  ([xC (.int 0), xSt 1], tGo 2),
  ([xLd 1, xC (.int 10)], tGe 7 3),
  ([xLdA 0, xLd 1], tCs 176 1 1 4),
  ([], tCv 171 3 6 1 5 (some [])),
  ([], tNe0 7 6),
  ([xInc 1 1], tGo 2),
  ([xLdA 0, xLd 1, xC (.int 10)], tGe 9 8),
  ([xC (.int 1)], tGo 10),
  ([xC (.int 0)], tGo 10),
  ([], tCv 173 2 6 1 11 (some [])),
  ([xLdA 0, xC (.int 0), xC (.int 99), xC (.int 0)], tCv 175 5 6 3 12 (some [])),
  ([xSt 2, xLdA 0], tCv 174 1 6 0 13 (some [])),
  ([xLdA 0, xGet 6 14], tNe0 15 14),
  ([xLdA 0, xGet 6 0, xC (.int 2), xLd 1, xAdd, xLd 2, xAst], tGo 15),
  ([], tRetV)]
/-- HandFingersModel.readsSpan()V -/
noncomputable def B_178 : List Bk := [([xLdA 0, xC (.int 1)], tCv 173 2 6 1 1 (some [])),
  ([xLdA 0, xC (.int 1), xC (.int 5), xC (.int 1)], tCv 175 5 6 3 2 (some [])),
  ([xSt 1, xLdA 0, xC (.int 1), xC (.int 5), xLd 1, xC (.int 1), xAdd], tCv 175 5 6 3 3 (some [])),
  ([xSt 2, xLdA 0, xC (.int 1), xC (.int 24), xC (.int 1)], tCv 175 5 6 3 4 (some [])),
  ([xSt 3, xLdA 0, xC (.int 1), xC (.int 24), xLd 3], tCv 175 5 6 3 5 (some [])),
  ([xSt 4, xLdA 0, xC (.int 1), xC (.int 24), xLd 4], tCv 175 5 6 3 6 (some [])),
  ([xSt 5, xLdA 0], tCv 174 1 6 0 7 (some [])),
  ([xLdA 0, xGet 6 14], tNe0 9 8),
  ([xLdA 0, xLd 1, xLd 2, xLd 3, xLd 4, xLd 5], tCv 153 7 6 5 9 (some [])),
  ([], tRetV)]
/-- HandFingersModel.readsEvent()V -/
noncomputable def B_179 : List Bk := [([xLdA 0], tCv 182 1 6 0 1 (some [])),
  ([xC (.int 40)], tNe 3 2),
  ([xLdA 0, xC (.int (-5))], tCv 172 2 6 1 3 (some [])),
  ([xLdA 0, xGet 6 14], tEq0 5 4),
  ([], tRetV),
  ([xLdA 0, xC (.int 1)], tCv 173 2 6 1 6 (some [])),
  ([xC (.int 42), xC (.int 8), xLdA 0], tCv 182 1 6 0 7 (some [])),
  ([xMul, xAdd, xSt 1, xC (.int 0), xSt 2, xLdA 0, xGet 6 0, xLd 1, xC (.int 1), xAdd, xC (.int 0), xAst], tGo 8),
  ([xLd 2, xC (.int 3)], tNe 10 9),
  ([xLdA 0, xC (.int (-5))], tCv 172 2 6 1 10 (some [])),
  ([xLdA 0, xC (.int 21), xC (.int 108), xLd 2], tNe0 12 11),
  ([xC (.int 21)], tGo 13),
  ([xLdA 0, xGet 6 0, xLd 1, xC (.int 1), xAdd, xLd 2, xAdd, xAld, xC (.int 1), xAdd], tGo 13),
  ([], tCv 175 5 6 3 14 (some [])),
  ([xSt 3, xLdA 0, xGet 6 14], tEq0 16 15),
  ([], tRetV),
  ([xLdA 0, xGet 6 0, xLd 1, xC (.int 2), xAdd, xLd 2, xAdd, xLd 3, xAst, xLdA 0, xGet 6 0, xLd 1, xC (.int 5), xAdd, xLd 2, xAdd, xC (.int 31), xAst, xInc 2 1, xLdA 0, xGet 6 12, xC (.int 1)], tEq 8 17),
  ([xLdA 0, xGet 6 0, xLd 1, xLd 2, xAst, xLdA 0, xC (.ref 9)], tCv 171 3 6 1 18 (some [])),
  ([], tEq0 22 19),
  ([xLdA 0], tCv 168 1 6 0 20 (some [])),
  ([xLdA 0, xGet 6 0, xLd 1, xC (.int 1), xAdd, xLdA 0, xC (.int 0), xC (.int 9), xC (.int 0)], tCv 175 5 6 3 21 (some [])),
  ([xAst], tGo 22),
  ([xLdA 0, xC (.ref 10)], tCv 171 3 6 1 23 (some [])),
  ([], tEq0 35 24),
  ([xLdA 0], tCv 168 1 6 0 25 (some [])),
  ([xC (.int 0), xSt 3], tGo 26),
  ([xLd 3, xLd 2], tGe 32 27),
  ([xLdA 0, xC (.int 0), xC (.int 5), xC (.int 0)], tCv 175 5 6 3 28 (some [])),
  ([xSt 4, xLdA 0, xGet 6 0, xLd 1, xC (.int 5), xAdd, xLd 3, xAdd, xLd 4], tNe0 30 29),
  ([xC (.int 31)], tGo 31),
  ([xC (.int 1), xLd 4, xC (.int 1), xSub, xShl], tGo 31),
  ([xAst, xInc 3 1], tGo 26),
  ([xLdA 0, xGet 6 14], tNe0 35 33),
  ([xLdA 0, xGet 6 12, xC (.int 1)], tNe 35 34),
  ([xLdA 0, xC (.int (-5))], tCv 172 2 6 1 35 (some [])),
  ([xLdA 0], tCv 174 1 6 0 36 (some [])),
  ([xLdA 0, xGet 6 0, xC (.int 0), xDup2, xAld, xC (.int 1), xAdd, xAst], tRetV)]
/-- HandFingersModel.load()I -/
noncomputable def B_180 : List Bk := [([xLdA 0, xGet 6 1, xC (.int 0), xLdA 0, xGet 6 0, xC (.int 0)], tCs 158 5 4 1),
  ([xLdA 0], tCv 154 2 6 0 2 (some [])),
  ([xLdA 0], tCv 169 1 6 0 3 (some [])),
  ([xLdA 0, xLdA 0, xC (.ref 3)], tCv 171 3 6 1 4 (some [])),
  ([], tCv 173 2 6 1 5 (some [])),
  ([xLdA 0, xGet 6 0, xC (.int 1), xLdA 0, xC (.ref 4)], tCv 171 3 6 1 6 (some [])),
  ([], tEq0 8 7),
  ([xC (.int 1)], tGo 9),
  ([xC (.int 0)], tGo 9),
  ([xAst, xLdA 0, xLdA 0, xC (.ref 4)], tCv 171 3 6 1 10 (some [])),
  ([], tNe0 13 11),
  ([xLdA 0, xC (.ref 5)], tCv 171 3 6 1 12 (some [])),
  ([], tEq0 14 13),
  ([xC (.int 1)], tGo 15),
  ([xC (.int 0)], tGo 15),
  ([], tCv 173 2 6 1 16 (some [])),
  ([xLdA 0], tCv 174 1 6 0 17 (some [])),
  ([xLdA 0, xC (.ref 6)], tCv 171 3 6 1 18 (some [])),
  ([], tEq0 21 19),
  ([xLdA 0], tCv 177 3 6 0 20 (some [])),
  ([], tGo 17),
  ([xLdA 0, xC (.ref 7)], tCv 171 3 6 1 22 (some [])),
  ([], tEq0 25 23),
  ([xLdA 0], tCv 178 6 6 0 24 (some [])),
  ([], tGo 21),
  ([xLdA 0, xC (.ref 8)], tCv 171 3 6 1 26 (some [])),
  ([], tEq0 29 27),
  ([xLdA 0], tCv 179 5 6 0 28 (some [])),
  ([], tGo 25),
  ([xLdA 0, xGet 6 14], tNe0 32 30),
  ([xLdA 0, xGet 6 12, xC (.int 3)], tEq 32 31),
  ([xLdA 0, xC (.int (-2))], tCv 172 2 6 1 32 (some [])),
  ([xLdA 0], tCv 170 1 6 0 33 (some [])),
  ([xLdA 0, xGet 6 14], tEq0 35 34),
  ([xLdA 0, xGet 6 0, xC (.int 0), xLdA 0, xGet 6 1, xC (.int 0)], tCs 158 5 4 35),
  ([xLdA 0, xGet 6 14], tEq0 37 36),
  ([xLdA 0, xGet 6 14], tRet),
  ([xLdA 0, xLdA 0, xGet 6 1], tCv 159 3 6 1 38 (some [])),
  ([xLdA 0], tCv 182 1 6 0 39 (some [])),
  ([], tRet)]
/-- HandFingersModel.errorPosition()I -/
noncomputable def B_181 : List Bk := [([xLdA 0, xC (.int 0), xPut 6 7 (.int), xLdA 0, xGet 6 16], tRet)]
/-- HandFingersModel.events()I -/
noncomputable def B_182 : List Bk := [([xLdA 0, xGet 6 0, xC (.int 0), xAld], tRet)]
/-- HandFingersModel.notesOf(I)I -/
noncomputable def B_183 : List Bk := [([xLdA 0, xGet 6 0, xC (.int 42), xC (.int 8), xLd 1, xMul, xAdd, xAld], tRet)]
/-- HandFingersModel.restOf(I)I -/
noncomputable def B_184 : List Bk := [([xLdA 0, xGet 6 0, xC (.int 42), xC (.int 8), xLd 1, xMul, xAdd, xC (.int 1), xAdd, xAld], tRet)]
/-- HandFingersModel.keyOf(II)I -/
noncomputable def B_185 : List Bk := [([xLdA 0, xGet 6 0, xC (.int 42), xC (.int 8), xLd 1, xMul, xAdd, xC (.int 2), xAdd, xLd 2, xAdd, xAld], tRet)]
/-- HandFingersModel.setOf(II)I -/
noncomputable def B_186 : List Bk := [([xLdA 0, xGet 6 0, xC (.int 42), xC (.int 8), xLd 1, xMul, xAdd, xC (.int 5), xAdd, xLd 2, xAdd, xAld], tRet)]
/-- HandFingersModel.weightOf(I)I -/
noncomputable def B_187 : List Bk := [([xLdA 0, xGet 6 0, xC (.int 2), xLd 1, xAdd, xAld], tRet)]
/-- HandFingersModel.isEvent(I)Z -/
noncomputable def B_188 : List Bk := [([xLd 1, xC (.int 0), xLdA 0], tCv 182 1 6 0 1 (some [])),
  ([xC (.int 1), xSub], tCs 157 3 3 2),
  ([], tRetZ)]
/-- HandFingersModel.isNote(II)Z -/
noncomputable def B_189 : List Bk := [([xLdA 0, xLd 1], tCv 188 2 6 1 1 (some [])),
  ([], tEq0 6 2),
  ([xLd 2, xC (.int 0), xLdA 0, xLd 1], tCv 183 2 6 1 3 (some [])),
  ([xC (.int 1), xSub], tCs 157 3 3 4),
  ([], tEq0 6 5),
  ([xC (.int 1)], tGo 7),
  ([xC (.int 0)], tGo 7),
  ([], tRetZ)]
/-- HandFingersModel.isFinger(I)Z -/
noncomputable def B_190 : List Bk := [([xLd 0, xC (.int 1), xC (.int 5)], tCs 157 3 3 1),
  ([], tRetZ)]
/-- HandFingersModel.isBlack(I)Z -/
noncomputable def B_191 : List Bk := [([xLd 0, xC (.int 12), xRem, xSt 1, xLd 1, xC (.int 1)], tEq 5 1),
  ([xLd 1, xC (.int 3)], tEq 5 2),
  ([xLd 1, xC (.int 6)], tEq 5 3),
  ([xLd 1, xC (.int 8)], tEq 5 4),
  ([xLd 1, xC (.int 10)], tNe 6 5),
  ([xC (.int 1)], tGo 7),
  ([xC (.int 0)], tGo 7),
  ([], tRetZ)]
/-- HandFingersModel.allNotes()I -/
noncomputable def B_192 : List Bk := [([xC (.int 0), xSt 1, xC (.int 0), xSt 2], tGo 1),
  ([xLd 2, xLdA 0], tCv 182 1 6 0 2 (some [])),
  ([], tGe 5 3),
  ([xLd 1, xLdA 0, xLd 2], tCv 183 2 6 1 4 (some [])),
  ([xAdd, xSt 1, xInc 2 1], tGo 1),
  ([xLd 1], tRet)]
/-- HandFingersModel.isFree(I)Z -/
noncomputable def B_193 : List Bk := [([xLdA 0, xLd 1], tCv 184 2 6 1 1 (some [])),
  ([xLdA 0, xC (.int 8)], tCv 187 2 6 1 2 (some [])),
  ([], tLt 4 3),
  ([xC (.int 1)], tGo 5),
  ([xC (.int 0)], tGo 5),
  ([], tRetZ)]
/-- HandFingersModel.offBy(III)I -/
noncomputable def B_194 : List Bk := [([xLd 1, xLd 2], tCs 155 5 2 1),
  ([xSt 4, xLd 3, xLdA 0, xGet 6 0, xLd 4, xC (.int 2), xAdd, xAld], tLe 3 2),
  ([xC (.int (-1))], tRet),
  ([xLd 3, xLdA 0, xGet 6 0, xLd 4, xAld], tGe 5 4),
  ([xLdA 0, xGet 6 0, xLd 4, xAld, xLd 3, xSub], tGo 8),
  ([xLd 3, xLdA 0, xGet 6 0, xLd 4, xC (.int 1), xAdd, xAld], tLe 7 6),
  ([xLd 3, xLdA 0, xGet 6 0, xLd 4, xC (.int 1), xAdd, xAld, xSub], tGo 8),
  ([xC (.int 0)], tGo 8),
  ([], tRet)]
/-- HandFingersModel.linkOf(IIII)I -/
noncomputable def B_195 : List Bk := [([xLdA 0, xGet 6 0, xC (.int 1), xAld, xC (.int 1)], tNe 2 1),
  ([xLd 4, xLd 2, xSub], tGo 3),
  ([xLd 2, xLd 4, xSub], tGo 3),
  ([xSt 5, xLd 5], tGe0 5 4),
  ([xLd 5, xNeg], tGo 6),
  ([xLd 5], tGo 6),
  ([xSt 6, xLd 5], tNe0 12 7),
  ([xLdA 0, xLd 1, xLd 3], tNe 9 8),
  ([xC (.int 2)], tGo 10),
  ([xC (.int 3)], tGo 10),
  ([], tCv 187 2 6 1 11 (some [])),
  ([], tRet),
  ([xLd 1, xLd 3], tNe 15 13),
  ([xLdA 0, xC (.int 4)], tCv 187 2 6 1 14 (some [])),
  ([xLd 6, xMul], tRet),
  ([xLd 5], tLe0 17 16),
  ([xC (.int 1)], tGo 18),
  ([xC (.int 0)], tGo 18),
  ([xLd 3, xLd 1], tLe 20 19),
  ([xC (.int 1)], tGo 21),
  ([xC (.int 0)], tGo 21),
  ([], tNe 28 22),
  ([xLdA 0, xLd 1, xLd 3, xLd 6], tCv 194 5 6 3 23 (some [])),
  ([xSt 7, xLd 7, xC (.int (-1))], tNe 25 24),
  ([xC (.int (-1))], tGo 27),
  ([xLdA 0, xC (.int 0)], tCv 187 2 6 1 26 (some [])),
  ([xLd 7, xMul], tGo 27),
  ([], tRet),
  ([xLd 1, xLd 3, xMin, xC (.int 1)], tNe 33 29),
  ([xLd 1, xLd 3, xMax, xC (.int 5)], tGe 33 30),
  ([xLd 6, xLdA 0, xC (.int 9)], tCv 187 2 6 1 31 (some [])),
  ([], tGt 33 32),
  ([xC (.int 1)], tGo 34),
  ([xC (.int 0)], tGo 34),
  ([xSt 7, xLd 7], tEq0 37 35),
  ([xLdA 0, xC (.int 1)], tCv 187 2 6 1 36 (some [])),
  ([], tGo 38),
  ([xC (.int (-1))], tGo 38),
  ([], tRet)]
/-- HandFingersModel.isInOrder(I)Z -/
noncomputable def B_196 : List Bk := [([xC (.int 1), xSt 2], tGo 1),
  ([xLd 2, xLd 1], tGe 8 2),
  ([xLdA 0, xGet 6 0, xC (.int 1), xAld, xC (.int 1)], tNe 5 3),
  ([xLdA 0, xGet 6 17, xLd 2, xAld, xLdA 0, xGet 6 17, xLd 2, xC (.int 1), xSub, xAld], tGt 7 4),
  ([], tGo 6),
  ([xLdA 0, xGet 6 17, xLd 2, xAld, xLdA 0, xGet 6 17, xLd 2, xC (.int 1), xSub, xAld], tLt 7 6),
  ([xC (.int 0)], tRetZ),
  ([xInc 2 1], tGo 1),
  ([xC (.int 1)], tRetZ)]
/-- HandFingersModel.mayPlay(I)Z -/
noncomputable def B_197 : List Bk := [([xC (.int 0), xSt 2], tGo 1),
  ([xLd 2, xLdA 0, xLd 1], tCv 183 2 6 1 2 (some [])),
  ([], tGe 7 3),
  ([xLdA 0, xLd 1, xLd 2], tCv 186 3 6 2 4 (some [])),
  ([xLdA 0, xGet 6 17, xLd 2, xAld, xC (.int 1), xSub, xShr, xC (.int 1), xAnd], tNe0 6 5),
  ([xC (.int 0)], tRetZ),
  ([xInc 2 1], tGo 1),
  ([xC (.int 1)], tRetZ)]
/-- HandFingersModel.costHere(I)I -/
noncomputable def B_198 : List Bk := [([xLdA 0, xLd 1], tCv 183 2 6 1 1 (some [])),
  ([xSt 2, xLdA 0, xLd 2], tCv 196 3 6 1 2 (some [])),
  ([], tEq0 5 3),
  ([xLdA 0, xLd 1], tCv 197 3 6 1 4 (some [])),
  ([], tNe0 6 5),
  ([xC (.int (-1))], tRet),
  ([xC (.int 0), xSt 3, xC (.int 0), xSt 4], tGo 7),
  ([xLd 4, xLd 2], tGe 30 8),
  ([xLd 3, xLdA 0, xGet 6 17, xLd 4, xAld, xC (.int 1)], tEq 10 9),
  ([xLdA 0, xGet 6 17, xLd 4, xAld, xC (.int 5)], tNe 15 10),
  ([xLdA 0, xLd 1, xLd 4], tCv 185 3 6 2 11 (some [])),
  ([], tCs 191 2 1 12),
  ([], tEq0 15 13),
  ([xLdA 0, xC (.int 5)], tCv 187 2 6 1 14 (some [])),
  ([], tGo 16),
  ([xC (.int 0)], tGo 16),
  ([xAdd, xSt 3, xLd 3, xLdA 0, xGet 6 17, xLd 4, xAld, xC (.int 4)], tNe 19 17),
  ([xLdA 0, xC (.int 6)], tCv 187 2 6 1 18 (some [])),
  ([], tGo 20),
  ([xC (.int 0)], tGo 20),
  ([xAdd, xSt 3, xLd 4], tNe0 22 21),
  ([], tGo 29),
  ([xLdA 0, xLdA 0, xGet 6 17, xLd 4, xC (.int 1), xSub, xAld, xLdA 0, xGet 6 17, xLd 4, xAld, xLdA 0, xLd 1, xLd 4], tCv 185 3 6 2 23 (some [])),
  ([xLdA 0, xLd 1, xLd 4, xC (.int 1), xSub], tCv 185 3 6 2 24 (some [])),
  ([xSub], tCv 194 5 6 3 25 (some [])),
  ([xSt 5, xLd 5, xC (.int (-1))], tNe 27 26),
  ([xC (.int (-1))], tRet),
  ([xLd 3, xLdA 0, xC (.int 0)], tCv 187 2 6 1 28 (some [])),
  ([xLd 5, xMul, xAdd, xSt 3], tGo 29),
  ([xInc 4 1], tGo 7),
  ([xLd 3], tRet)]
/-- HandFingersModel.fingerIn(II)I -/
noncomputable def B_199 : List Bk := [([xLd 1], tNe0 2 1),
  ([xLd 0, xC (.int 25), xDiv, xC (.int 1), xAdd], tGo 5),
  ([xLd 1, xC (.int 1)], tNe 4 3),
  ([xLd 0, xC (.int 5), xDiv, xC (.int 5), xRem, xC (.int 1), xAdd], tGo 5),
  ([xLd 0, xC (.int 5), xRem, xC (.int 1), xAdd], tGo 5),
  ([], tRet)]
/-- HandFingersModel.looksAt(II)V -/
noncomputable def B_200 : List Bk := [([xC (.int 0), xSt 3], tGo 1),
  ([xLd 3, xLd 2], tGe 4 2),
  ([xLdA 0, xGet 6 17, xLd 3, xLd 1, xLd 3], tCs 199 2 2 3),
  ([xAst, xInc 3 1], tGo 1),
  ([], tRetV)]
/-- HandFingersModel.laysShapes()V -/
noncomputable def B_201 : List Bk := [([xC (.int 0), xSt 1], tGo 1),
  ([xLd 1, xLdA 0], tCv 182 1 6 0 2 (some [])),
  ([], tGe 20 3),
  ([xLdA 0, xGet 6 20, xLd 1, xC (.int 0), xAst, xLdA 0, xLd 1], tCv 183 2 6 1 4 (some [])),
  ([xC (.int 1)], tNe 6 5),
  ([xC (.int 25)], tGo 10),
  ([xLdA 0, xLd 1], tCv 183 2 6 1 7 (some [])),
  ([xC (.int 2)], tNe 9 8),
  ([xC (.int 5)], tGo 10),
  ([xC (.int 1)], tGo 10),
  ([xSt 2, xC (.int 0), xSt 3], tGo 11),
  ([xLd 3, xC (.int 125)], tGe 19 12),
  ([xLdA 0, xLd 3, xLdA 0, xLd 1], tCv 183 2 6 1 13 (some [])),
  ([], tCv 200 4 6 2 14 (some [])),
  ([xLdA 0, xLd 1], tCv 198 6 6 1 15 (some [])),
  ([xSt 4, xLd 4, xC (.int (-1))], tNe 17 16),
  ([], tGo 18),
  ([xLdA 0, xGet 6 18, xC (.int 10), xLd 1, xMul, xLdA 0, xGet 6 20, xLd 1, xAld, xAdd, xLd 3, xAst, xLdA 0, xGet 6 19, xC (.int 10), xLd 1, xMul, xLdA 0, xGet 6 20, xLd 1, xAld, xAdd, xLd 4, xAst, xLdA 0, xGet 6 20, xLd 1, xDup2, xAld, xC (.int 1), xAdd, xAst], tGo 18),
  ([xLd 3, xLd 2, xAdd, xSt 3], tGo 11),
  ([xInc 1 1], tGo 1),
  ([], tRetV)]
/-- HandFingersModel.firstNote(I)I -/
noncomputable def B_202 : List Bk := [([xLdA 0, xGet 6 0, xC (.int 1), xAld, xC (.int 1)], tNe 2 1),
  ([xC (.int 0)], tGo 4),
  ([xLdA 0, xLd 1], tCv 183 2 6 1 3 (some [])),
  ([xC (.int 1), xSub], tGo 4),
  ([], tRet)]
/-- HandFingersModel.lastNote(I)I -/
noncomputable def B_203 : List Bk := [([xLdA 0, xGet 6 0, xC (.int 1), xAld, xC (.int 1)], tNe 3 1),
  ([xLdA 0, xLd 1], tCv 183 2 6 1 2 (some [])),
  ([xC (.int 1), xSub], tGo 4),
  ([xC (.int 0)], tGo 4),
  ([], tRet)]
/-- HandFingersModel.linkBy(IIIII)I -/
noncomputable def B_204 : List Bk := [([xLdA 0, xLd 2, xLd 3], tCs 199 2 2 1),
  ([xLdA 0, xLd 1, xLd 3], tCv 185 3 6 2 2 (some [])),
  ([xLd 4, xLd 5], tCs 199 2 2 3),
  ([xLdA 0, xLd 1, xC (.int 1), xAdd, xLd 5], tCv 185 3 6 2 4 (some [])),
  ([], tCv 195 8 6 4 5 (some [])),
  ([], tRet)]
/-- HandFingersModel.passage(III)I -/
noncomputable def B_205 : List Bk := [([xLdA 0, xLd 1], tCv 193 2 6 1 1 (some [])),
  ([], tEq0 3 2),
  ([xC (.int 0)], tRet),
  ([xLdA 0, xLd 1, xLd 2, xLdA 0, xLd 1], tCv 202 2 6 1 4 (some [])),
  ([xLd 3, xLdA 0, xLd 1, xC (.int 1), xAdd], tCv 202 2 6 1 5 (some [])),
  ([], tCv 204 6 6 5 6 (some [])),
  ([xSt 4, xLdA 0, xLd 1], tCv 183 2 6 1 7 (some [])),
  ([xLdA 0, xLd 1, xC (.int 1), xAdd], tCv 183 2 6 1 8 (some [])),
  ([xAdd, xC (.int 2)], tNe 10 9),
  ([xC (.int 0)], tGo 13),
  ([xLdA 0, xLd 1, xLd 2, xLdA 0, xLd 1], tCv 203 2 6 1 11 (some [])),
  ([xLd 3, xLdA 0, xLd 1, xC (.int 1), xAdd], tCv 203 2 6 1 12 (some [])),
  ([], tCv 204 6 6 5 13 (some [])),
  ([xSt 5, xLd 4, xC (.int (-1))], tEq 15 14),
  ([xLd 5, xC (.int (-1))], tNe 16 15),
  ([xC (.int (-1))], tRet),
  ([xC (.int 0), xLd 4, xLd 5, xAdd, xLdA 0, xC (.int 7)], tCv 187 2 6 1 17 (some [])),
  ([xLdA 0, xLd 1], tCv 184 2 6 1 18 (some [])),
  ([xMul, xSub, xMax], tRet)]
/-- HandFingersModel.isCrossing(IIIII)Z -/
noncomputable def B_206 : List Bk := [([xLd 2, xLd 3], tCs 199 2 2 1),
  ([xSt 6, xLd 4, xLd 5], tCs 199 2 2 2),
  ([xSt 7, xLdA 0, xGet 6 0, xC (.int 1), xAld, xC (.int 1)], tNe 6 3),
  ([xLdA 0, xLd 1, xC (.int 1), xAdd, xLd 5], tCv 185 3 6 2 4 (some [])),
  ([xLdA 0, xLd 1, xLd 3], tCv 185 3 6 2 5 (some [])),
  ([xSub], tGo 9),
  ([xLdA 0, xLd 1, xLd 3], tCv 185 3 6 2 7 (some [])),
  ([xLdA 0, xLd 1, xC (.int 1), xAdd, xLd 5], tCv 185 3 6 2 8 (some [])),
  ([xSub], tGo 9),
  ([xSt 8, xLd 8], tEq0 19 10),
  ([xLd 6, xLd 7], tEq 19 11),
  ([xLd 8], tLe0 13 12),
  ([xC (.int 1)], tGo 14),
  ([xC (.int 0)], tGo 14),
  ([xLd 7, xLd 6], tLe 16 15),
  ([xC (.int 1)], tGo 17),
  ([xC (.int 0)], tGo 17),
  ([], tEq 19 18),
  ([xC (.int 1)], tGo 20),
  ([xC (.int 0)], tGo 20),
  ([], tRetZ)]
/-- HandFingersModel.crossings(III)I -/
noncomputable def B_207 : List Bk := [([xLdA 0, xLd 1], tCv 193 2 6 1 1 (some [])),
  ([], tEq0 3 2),
  ([xC (.int 0)], tRet),
  ([xLdA 0, xLd 1, xLd 2, xLdA 0, xLd 1], tCv 202 2 6 1 4 (some [])),
  ([xLd 3, xLdA 0, xLd 1, xC (.int 1), xAdd], tCv 202 2 6 1 5 (some [])),
  ([], tCv 206 9 6 5 6 (some [])),
  ([], tEq0 8 7),
  ([xC (.int 1)], tGo 9),
  ([xC (.int 0)], tGo 9),
  ([xSt 4, xLdA 0, xLd 1], tCv 183 2 6 1 10 (some [])),
  ([xLdA 0, xLd 1, xC (.int 1), xAdd], tCv 183 2 6 1 11 (some [])),
  ([xAdd, xC (.int 2)], tLe 13 12),
  ([xC (.int 1)], tGo 14),
  ([xC (.int 0)], tGo 14),
  ([xSt 5, xLd 4, xLd 5], tEq0 20 15),
  ([xLdA 0, xLd 1, xLd 2, xLdA 0, xLd 1], tCv 203 2 6 1 16 (some [])),
  ([xLd 3, xLdA 0, xLd 1, xC (.int 1), xAdd], tCv 203 2 6 1 17 (some [])),
  ([], tCv 206 9 6 5 18 (some [])),
  ([], tEq0 20 19),
  ([xC (.int 1)], tGo 21),
  ([xC (.int 0)], tGo 21),
  ([xAdd], tRet)]
/-- HandFingersModel.laysLeast()V -/
noncomputable def B_208 : List Bk := [([xLdA 0], tCv 201 5 6 0 1 (some [])),
  ([xLdA 0], tCv 182 1 6 0 2 (some [])),
  ([xC (.int 1), xSub, xSt 1], tGo 3),
  ([xLd 1], tLt0 9 4),
  ([xC (.int 10), xLd 1, xMul, xSt 2], tGo 5),
  ([xLd 2, xC (.int 10), xLd 1, xMul, xLdA 0, xGet 6 20, xLd 1, xAld, xAdd], tGe 8 6),
  ([xLdA 0, xLd 1, xLd 2], tCv 209 7 6 2 7 (some [])),
  ([xInc 2 1], tGo 5),
  ([xInc 1 (-1)], tGo 3),
  ([], tRetV)]
/-- HandFingersModel.laysFrom(II)V -/
noncomputable def B_209 : List Bk := [([xLd 1, xLdA 0], tCv 182 1 6 0 1 (some [])),
  ([xC (.int 1), xSub], tNe 3 2),
  ([xC (.int 1)], tGo 4),
  ([xC (.int 0)], tGo 4),
  ([xSt 3, xLd 3], tEq0 6 5),
  ([xC (.int 0)], tGo 7),
  ([xC (.int 1000000000)], tGo 7),
  ([xSt 4, xLdA 0, xGet 6 24, xLd 2, xLd 3], tEq0 9 8),
  ([xC (.long 1)], tGo 10),
  ([xC (.long 0)], tGo 10),
  ([xLst, xLdA 0, xGet 6 25, xLd 2, xLd 3], tEq0 12 11),
  ([xC (.long 1)], tGo 13),
  ([xC (.long 0)], tGo 13),
  ([xLst, xC (.int 10), xLd 1, xC (.int 1), xAdd, xMul, xSt 5], tGo 14),
  ([xLd 3], tNe0 27 15),
  ([xLd 5, xC (.int 10), xLd 1, xC (.int 1), xAdd, xMul, xLdA 0, xGet 6 20, xLd 1, xC (.int 1), xAdd, xAld, xAdd], tGe 27 16),
  ([xLdA 0, xLd 1, xLdA 0, xGet 6 18, xLd 2, xAld, xLdA 0, xGet 6 18, xLd 5, xAld], tCv 205 6 6 3 17 (some [])),
  ([xSt 6, xLd 6, xC (.int (-1))], tEq 26 18),
  ([xLdA 0, xGet 6 22, xLd 5, xAld, xC (.int 1000000000)], tLt 20 19),
  ([], tGo 26),
  ([xLdA 0, xGet 6 24, xLd 2, xC (.long 1000000000000000), xLdA 0, xGet 6 24, xLd 2, xLld, xLdA 0, xGet 6 24, xLd 5, xLld, xLadd, xLmin, xLst, xLd 6, xLdA 0, xGet 6 22, xLd 5, xAld, xAdd, xLd 4], tGt 25 21),
  ([xLdA 0, xGet 6 25, xLd 2, xC (.long 1000000000000000), xLd 6, xLdA 0, xGet 6 22, xLd 5, xAld, xAdd, xLd 4], tGe 23 22),
  ([xC (.long 0)], tGo 24),
  ([xLdA 0, xGet 6 25, xLd 2, xLld], tGo 24),
  ([xLdA 0, xGet 6 25, xLd 5, xLld, xLadd, xLmin, xLst], tGo 25),
  ([xLd 4, xLd 6, xLdA 0, xGet 6 22, xLd 5, xAld, xAdd, xMin, xSt 4], tGo 26),
  ([xInc 5 1], tGo 14),
  ([xLdA 0, xGet 6 22, xLd 2, xLd 4, xC (.int 1000000000)], tNe 29 28),
  ([xC (.int 1000000000)], tGo 30),
  ([xLd 4, xLdA 0, xGet 6 19, xLd 2, xAld, xAdd], tGo 30),
  ([xAst], tRetV)]
/-- HandFingersModel.laysUpTo()V -/
noncomputable def B_210 : List Bk := [([xC (.int 0), xSt 1], tGo 1),
  ([xLd 1, xLdA 0], tCv 182 1 6 0 2 (some [])),
  ([], tGe 21 3),
  ([xC (.int 10), xLd 1, xMul, xSt 2], tGo 4),
  ([xLd 2, xC (.int 10), xLd 1, xMul, xLdA 0, xGet 6 20, xLd 1, xAld, xAdd], tGe 20 5),
  ([xLd 1], tNe0 7 6),
  ([xC (.int 0)], tGo 8),
  ([xC (.int 1000000000)], tGo 8),
  ([xSt 3, xC (.int 10), xLd 1, xC (.int 1), xSub, xMul, xSt 4], tGo 9),
  ([xLd 1], tLe0 16 10),
  ([xLd 4, xC (.int 10), xLd 1, xC (.int 1), xSub, xMul, xLdA 0, xGet 6 20, xLd 1, xC (.int 1), xSub, xAld, xAdd], tGe 16 11),
  ([xLdA 0, xLd 1, xC (.int 1), xSub, xLdA 0, xGet 6 18, xLd 4, xAld, xLdA 0, xGet 6 18, xLd 2, xAld], tCv 205 6 6 3 12 (some [])),
  ([xSt 5, xLd 5, xC (.int (-1))], tEq 15 13),
  ([xLdA 0, xGet 6 23, xLd 4, xAld, xC (.int 1000000000)], tGe 15 14),
  ([xLd 3, xLdA 0, xGet 6 23, xLd 4, xAld, xLd 5, xAdd, xMin, xSt 3], tGo 15),
  ([xInc 4 1], tGo 9),
  ([xLdA 0, xGet 6 23, xLd 2, xLd 3, xC (.int 1000000000)], tNe 18 17),
  ([xC (.int 1000000000)], tGo 19),
  ([xLd 3, xLdA 0, xGet 6 19, xLd 2, xAld, xAdd], tGo 19),
  ([xAst, xInc 2 1], tGo 4),
  ([xInc 1 1], tGo 1),
  ([], tRetV)]
/-- HandFingersModel.bestLaid()I -/
noncomputable def B_211 : List Bk := [([xLdA 0], tCv 182 1 6 0 1 (some [])),
  ([], tNe0 3 2),
  ([xC (.int 0)], tRet),
  ([xC (.int 1000000000), xSt 1, xC (.int 0), xSt 2], tGo 4),
  ([xLd 2, xLdA 0, xGet 6 20, xC (.int 0), xAld], tGe 6 5),
  ([xLd 1, xLdA 0, xGet 6 22, xLd 2, xAld, xMin, xSt 1, xInc 2 1], tGo 4),
  ([xLd 1], tRet)]
/-- HandFingersModel.bestNow()I -/
noncomputable def B_212 : List Bk := [([xLdA 0], tCv 208 3 6 0 1 (some [])),
  ([xLdA 0], tCv 211 3 6 0 2 (some [])),
  ([], tRet)]
/-- HandFingersModel.orNone(I)I -/
noncomputable def B_213 : List Bk := [([xLd 0, xC (.int 1000000000)], tLt 2 1),
  ([xC (.int (-1))], tGo 3),
  ([xLd 0], tGo 3),
  ([], tRet)]
/-- HandFingersModel.chooses()Z -/
noncomputable def B_214 : List Bk := [([xLdA 0], tCv 212 1 6 0 1 (some [])),
  ([xSt 1, xC (.int 0), xSt 2], tGo 2),
  ([xLd 2, xLdA 0], tCv 182 1 6 0 3 (some [])),
  ([], tGe 10 4),
  ([xLd 1, xC (.int 1000000000)], tGe 10 5),
  ([xC (.int 10), xLd 2, xMul, xSt 3], tGo 6),
  ([xLdA 0, xGet 6 22, xLd 3, xAld, xLdA 0, xLd 2, xLd 3], tCv 215 4 6 2 7 (some [])),
  ([xAdd, xLd 1], tEq 9 8),
  ([xInc 3 1], tGo 6),
  ([xLdA 0, xGet 6 22, xLd 3, xAld, xLdA 0, xGet 6 19, xLd 3, xAld, xSub, xSt 1, xLdA 0, xGet 6 21, xLd 2, xLd 3, xAst, xInc 2 1], tGo 2),
  ([xLd 1, xC (.int 1000000000)], tGe 12 11),
  ([xC (.int 1)], tGo 13),
  ([xC (.int 0)], tGo 13),
  ([], tRetZ)]
/-- HandFingersModel.wayInto(II)I -/
noncomputable def B_215 : List Bk := [([xLd 1], tNe0 2 1),
  ([xC (.int 0)], tRet),
  ([xLdA 0, xLd 1, xC (.int 1), xSub, xLdA 0, xGet 6 18, xLdA 0, xGet 6 21, xLd 1, xC (.int 1), xSub, xAld, xAld, xLdA 0, xGet 6 18, xLd 2, xAld], tCv 205 6 6 3 3 (some [])),
  ([xSt 3, xLd 3, xC (.int (-1))], tNe 5 4),
  ([xC (.int 1000000000)], tGo 6),
  ([xLd 3], tGo 6),
  ([], tRet)]
/-- HandFingersModel.keysAt(Z)I -/
noncomputable def B_216 : List Bk := [([xC (.int (-1)), xSt 2, xC (.int 0), xSt 3], tGo 1),
  ([xLd 3, xLdA 0], tCv 182 1 6 0 2 (some [])),
  ([], tGe 16 3),
  ([xC (.int 0), xSt 4], tGo 4),
  ([xLd 4, xLdA 0, xLd 3], tCv 183 2 6 1 5 (some [])),
  ([], tGe 15 6),
  ([xLd 2, xC (.int (-1))], tNe 9 7),
  ([xLdA 0, xLd 3, xLd 4], tCv 185 3 6 2 8 (some [])),
  ([xSt 2], tGo 9),
  ([xLd 1], tEq0 12 10),
  ([xLd 2, xLdA 0, xLd 3, xLd 4], tCv 185 3 6 2 11 (some [])),
  ([xMax], tGo 14),
  ([xLd 2, xLdA 0, xLd 3, xLd 4], tCv 185 3 6 2 13 (some [])),
  ([xMin], tGo 14),
  ([xSt 2, xInc 4 1], tGo 4),
  ([xInc 3 1], tGo 1),
  ([xLd 2], tRet)]
/-- HandFingersModel.blacks()I -/
noncomputable def B_217 : List Bk := [([xC (.int 0), xSt 1, xC (.int 0), xSt 2], tGo 1),
  ([xLd 2, xLdA 0], tCv 182 1 6 0 2 (some [])),
  ([], tGe 13 3),
  ([xC (.int 0), xSt 3], tGo 4),
  ([xLd 3, xLdA 0, xLd 2], tCv 183 2 6 1 5 (some [])),
  ([], tGe 12 6),
  ([xLd 1, xLdA 0, xLd 2, xLd 3], tCv 185 3 6 2 7 (some [])),
  ([], tCs 191 2 1 8),
  ([], tEq0 10 9),
  ([xC (.int 1)], tGo 11),
  ([xC (.int 0)], tGo 11),
  ([xAdd, xSt 1, xInc 3 1], tGo 4),
  ([xInc 2 1], tGo 1),
  ([xLd 1], tRet)]
/-- HandFingersModel.freePassages()I -/
noncomputable def B_218 : List Bk := [([xC (.int 0), xSt 1, xC (.int 0), xSt 2], tGo 1),
  ([xLd 2, xC (.int 1), xAdd, xLdA 0], tCv 182 1 6 0 2 (some [])),
  ([], tGe 8 3),
  ([xLd 1, xLdA 0, xLd 2], tCv 193 2 6 1 4 (some [])),
  ([], tEq0 6 5),
  ([xC (.int 1)], tGo 7),
  ([xC (.int 0)], tGo 7),
  ([xAdd, xSt 1, xInc 2 1], tGo 1),
  ([xLd 1], tRet)]
/-- HandFingersModel.count(I)I -/
noncomputable def B_219 : List Bk := [([xLdA 0, xLd 1, xC (.int 0), xC (.int 6)], tCs 157 3 3 1),
  ([], tEq0 3 2),
  ([xC (.int 0)], tGo 4),
  ([xC (.int 1)], tGo 4),
  ([xPut 6 7 (.int), xLdA 0, xGet 6 7], tLe0 6 5),
  ([xC (.int 0)], tRet),
  ([xLd 1], tSw 18 [(0, 7), (1, 9), (2, 11), (3, 12), (4, 14), (5, 16)]),
  ([xLdA 0], tCv 182 1 6 0 8 (some [])),
  ([], tRet),
  ([xLdA 0], tCv 192 3 6 0 10 (some [])),
  ([], tRet),
  ([xLdA 0, xGet 6 0, xC (.int 1), xAld], tRet),
  ([xLdA 0, xC (.int 0)], tCv 216 5 6 1 13 (some [])),
  ([], tRet),
  ([xLdA 0, xC (.int 1)], tCv 216 5 6 1 15 (some [])),
  ([], tRet),
  ([xLdA 0], tCv 217 4 6 0 17 (some [])),
  ([], tRet),
  ([xLdA 0], tCv 218 3 6 0 19 (some [])),
  ([], tRet)]
/-- HandFingersModel.event(II)I -/
noncomputable def B_220 : List Bk := [([xLdA 0, xLdA 0, xLd 1], tCv 188 2 6 1 1 (some [])),
  ([], tNe0 3 2),
  ([xC (.int 1)], tGo 7),
  ([xLd 2, xC (.int 0), xC (.int 2)], tCs 157 3 3 4),
  ([], tEq0 6 5),
  ([xC (.int 0)], tGo 7),
  ([xC (.int 2)], tGo 7),
  ([xPut 6 7 (.int), xLdA 0, xGet 6 7], tLe0 9 8),
  ([xC (.int 0)], tRet),
  ([xLdA 0], tCv 201 5 6 0 10 (some [])),
  ([xLd 2], tNe0 13 11),
  ([xLdA 0, xLd 1], tCv 183 2 6 1 12 (some [])),
  ([], tGo 17),
  ([xLd 2, xC (.int 1)], tNe 16 14),
  ([xLdA 0, xLd 1], tCv 184 2 6 1 15 (some [])),
  ([], tGo 17),
  ([xLdA 0, xGet 6 20, xLd 1, xAld], tGo 17),
  ([], tRet)]
/-- HandFingersModel.note(III)I -/
noncomputable def B_221 : List Bk := [([xLdA 0, xLdA 0, xLd 1, xLd 2], tCv 189 3 6 2 1 (some [])),
  ([], tNe0 3 2),
  ([xC (.int 1)], tGo 7),
  ([xLd 3, xC (.int 0), xC (.int 1)], tCs 157 3 3 4),
  ([], tEq0 6 5),
  ([xC (.int 0)], tGo 7),
  ([xC (.int 2)], tGo 7),
  ([xPut 6 7 (.int), xLdA 0, xGet 6 7], tLe0 9 8),
  ([xC (.int 0)], tRet),
  ([xLd 3], tNe0 12 10),
  ([xLdA 0, xLd 1, xLd 2], tCv 185 3 6 2 11 (some [])),
  ([], tGo 13),
  ([xLdA 0, xLd 1, xLd 2], tCv 186 3 6 2 13 (some [])),
  ([], tRet)]
/-- HandFingersModel.weight(I)I -/
noncomputable def B_222 : List Bk := [([xLdA 0, xLd 1, xC (.int 0), xC (.int 9)], tCs 157 3 3 1),
  ([], tEq0 3 2),
  ([xC (.int 0)], tGo 4),
  ([xC (.int 1)], tGo 4),
  ([xPut 6 7 (.int), xLdA 0, xGet 6 7], tLe0 6 5),
  ([xC (.int 0)], tGo 7),
  ([xLdA 0, xLd 1], tCv 187 2 6 1 7 (some [])),
  ([], tRet)]
/-- HandFingersModel.span(III)I -/
noncomputable def B_223 : List Bk := [([xLdA 0, xLd 1], tCs 190 1 1 1),
  ([], tEq0 4 2),
  ([xLd 2], tCs 190 1 1 3),
  ([], tNe0 5 4),
  ([xC (.int 1)], tGo 10),
  ([xLd 1, xLd 2], tEq 9 6),
  ([xLd 3, xC (.int 0), xC (.int 2)], tCs 157 3 3 7),
  ([], tEq0 9 8),
  ([xC (.int 0)], tGo 10),
  ([xC (.int 2)], tGo 10),
  ([xPut 6 7 (.int), xLdA 0, xGet 6 7], tLe0 12 11),
  ([xC (.int 0)], tGo 14),
  ([xLdA 0, xGet 6 0, xLd 1, xLd 2], tCs 155 5 2 13),
  ([xLd 3, xAdd, xAld], tGo 14),
  ([], tRet)]
/-- HandFingersModel.isOnBoard(I)Z -/
noncomputable def B_224 : List Bk := [([xLd 0, xC (.int 21), xC (.int 108)], tCs 157 3 3 1),
  ([], tRetZ)]
/-- HandFingersModel.link(IIII)I -/
noncomputable def B_225 : List Bk := [([xLdA 0, xLd 1], tCs 190 1 1 1),
  ([], tEq0 4 2),
  ([xLd 3], tCs 190 1 1 3),
  ([], tNe0 5 4),
  ([xC (.int 1)], tGo 11),
  ([xLd 2], tCs 224 1 1 6),
  ([], tEq0 10 7),
  ([xLd 4], tCs 224 1 1 8),
  ([], tEq0 10 9),
  ([xC (.int 0)], tGo 11),
  ([xC (.int 2)], tGo 11),
  ([xPut 6 7 (.int), xLdA 0, xGet 6 7], tLe0 13 12),
  ([xC (.int 0)], tGo 14),
  ([xLdA 0, xLd 1, xLd 2, xLd 3, xLd 4], tCv 195 8 6 4 14 (some [])),
  ([], tRet)]
/-- HandFingersModel.best()I -/
noncomputable def B_226 : List Bk := [([xLdA 0, xC (.int 0), xPut 6 7 (.int), xLdA 0], tCv 212 1 6 0 1 (some [])),
  ([], tCs 213 1 1 2),
  ([], tRet)]
/-- HandFingersModel.finger(II)I -/
noncomputable def B_227 : List Bk := [([xLdA 0, xLdA 0, xLd 1, xLd 2], tCv 189 3 6 2 1 (some [])),
  ([], tNe0 3 2),
  ([xC (.int 1)], tGo 7),
  ([xLdA 0], tCv 214 4 6 0 4 (some [])),
  ([], tEq0 6 5),
  ([xC (.int 0)], tGo 7),
  ([xC (.int 2)], tGo 7),
  ([xPut 6 7 (.int), xLdA 0, xGet 6 7], tLe0 9 8),
  ([xC (.int 0)], tGo 10),
  ([xLdA 0, xGet 6 18, xLdA 0, xGet 6 21, xLd 1, xAld, xAld, xLd 2], tCs 199 2 2 10),
  ([], tRet)]
/-- HandFingersModel.part(II)I -/
noncomputable def B_228 : List Bk := [([xLdA 0, xLdA 0, xLd 1], tCv 188 2 6 1 1 (some [])),
  ([], tNe0 3 2),
  ([xC (.int 1)], tGo 10),
  ([xLd 2, xC (.int 0), xC (.int 2)], tCs 157 3 3 4),
  ([], tNe0 6 5),
  ([xC (.int 2)], tGo 10),
  ([xLdA 0], tCv 214 4 6 0 7 (some [])),
  ([], tEq0 9 8),
  ([xC (.int 0)], tGo 10),
  ([xC (.int 3)], tGo 10),
  ([xPut 6 7 (.int), xLdA 0, xGet 6 7], tLe0 12 11),
  ([xC (.int 0)], tRet),
  ([xLd 2], tNe0 14 13),
  ([xLdA 0, xGet 6 19, xLdA 0, xGet 6 21, xLd 1, xAld, xAld], tRet),
  ([xLd 1], tNe0 16 15),
  ([xC (.int 0)], tRet),
  ([xLdA 0, xGet 6 18, xLdA 0, xGet 6 21, xLd 1, xC (.int 1), xSub, xAld, xAld, xSt 3, xLdA 0, xGet 6 18, xLdA 0, xGet 6 21, xLd 1, xAld, xAld, xSt 4, xLd 2, xC (.int 1)], tNe 19 17),
  ([xLdA 0, xLd 1, xC (.int 1), xSub, xLd 3, xLd 4], tCv 205 6 6 3 18 (some [])),
  ([], tGo 20),
  ([xLdA 0, xLd 1, xC (.int 1), xSub, xLd 3, xLd 4], tCv 207 6 6 3 20 (some [])),
  ([], tRet)]
/-- HandFingersModel.many(Z)J -/
noncomputable def B_229 : List Bk := [([xLdA 0, xC (.int 0), xPut 6 7 (.int), xLdA 0], tCv 212 1 6 0 1 (some [])),
  ([xSt 2, xLdA 0], tCv 182 1 6 0 2 (some [])),
  ([], tNe0 4 3),
  ([xC (.long 1)], tRetL),
  ([xC (.long 0), xStL 3, xC (.int 0), xSt 5], tGo 5),
  ([xLd 5, xLdA 0, xGet 6 20, xC (.int 0), xAld], tGe 13 6),
  ([xC (.long 1000000000000000), xLdL 3, xLd 1], tNe0 8 7),
  ([xLdA 0, xGet 6 24, xLd 5, xLld], tGo 12),
  ([xLdA 0, xGet 6 22, xLd 5, xAld, xLd 2], tNe 11 9),
  ([xLd 2, xC (.int 1000000000)], tGe 11 10),
  ([xLdA 0, xGet 6 25, xLd 5, xLld], tGo 12),
  ([xC (.long 0)], tGo 12),
  ([xLadd, xLmin, xStL 3, xInc 5 1], tGo 5),
  ([xLdL 3], tRetL)]
/-- HandFingersModel.costWith(III)I -/
noncomputable def B_230 : List Bk := [([xLdA 0, xLdA 0, xLd 1, xLd 2], tCv 189 3 6 2 1 (some [])),
  ([], tEq0 5 2),
  ([xLd 3], tCs 190 1 1 3),
  ([], tEq0 5 4),
  ([xC (.int 0)], tGo 6),
  ([xC (.int 1)], tGo 6),
  ([xPut 6 7 (.int), xLdA 0, xGet 6 7], tLe0 8 7),
  ([xC (.int 0)], tRet),
  ([xLdA 0], tCv 208 3 6 0 9 (some [])),
  ([xLdA 0], tCv 210 6 6 0 10 (some [])),
  ([xC (.int 1000000000), xSt 4, xC (.int 10), xLd 1, xMul, xSt 5], tGo 11),
  ([xLd 5, xC (.int 10), xLd 1, xMul, xLdA 0, xGet 6 20, xLd 1, xAld, xAdd], tGe 19 12),
  ([xLdA 0, xGet 6 18, xLd 5, xAld, xLd 2], tCs 199 2 2 13),
  ([xLd 3], tNe 18 14),
  ([xLdA 0, xGet 6 22, xLd 5, xAld, xC (.int 1000000000)], tGe 18 15),
  ([xLdA 0, xGet 6 23, xLd 5, xAld, xC (.int 1000000000)], tGe 18 16),
  ([xLd 4, xLdA 0, xLd 5], tCv 231 2 6 1 17 (some [])),
  ([xMin, xSt 4], tGo 18),
  ([xInc 5 1], tGo 11),
  ([xLd 4], tCs 213 1 1 20),
  ([], tRet)]
/-- HandFingersModel.through(I)I -/
noncomputable def B_231 : List Bk := [([xLdA 0, xGet 6 22, xLd 1, xAld, xC (.int 1000000000)], tGe 2 1),
  ([xLdA 0, xGet 6 23, xLd 1, xAld, xC (.int 1000000000)], tLt 3 2),
  ([xC (.int 1000000000)], tGo 4),
  ([xLdA 0, xGet 6 22, xLd 1, xAld, xLdA 0, xGet 6 23, xLd 1, xAld, xAdd, xLdA 0, xGet 6 19, xLd 1, xAld, xSub], tGo 4),
  ([], tRet)]
/-- HandFingersModel.reaches()I -/
noncomputable def B_232 : List Bk := [([xLdA 0, xC (.int 0), xPut 6 7 (.int), xLdA 0], tCv 201 5 6 0 1 (some [])),
  ([xLdA 0], tCv 210 6 6 0 2 (some [])),
  ([xC (.int 0), xSt 1, xC (.int 0), xSt 2], tGo 3),
  ([xLd 2, xLdA 0], tCv 182 1 6 0 4 (some [])),
  ([], tGe 12 5),
  ([xC (.int 10), xLd 2, xMul, xSt 3], tGo 6),
  ([xLd 3, xC (.int 10), xLd 2, xMul, xLdA 0, xGet 6 20, xLd 2, xAld, xAdd], tGe 11 7),
  ([xLdA 0, xGet 6 23, xLd 3, xAld, xC (.int 1000000000)], tGe 9 8),
  ([xLd 2, xC (.int 1), xAdd], tGo 10),
  ([xLd 1], tGo 10),
  ([xSt 1, xInc 3 1], tGo 6),
  ([xInc 2 1], tGo 3),
  ([xLd 1], tRet)]
/-- HandFingersModel.uses(I)I -/
noncomputable def B_233 : List Bk := [([xLdA 0, xLd 1], tCs 190 1 1 1),
  ([], tNe0 3 2),
  ([xC (.int 1)], tGo 7),
  ([xLdA 0], tCv 214 4 6 0 4 (some [])),
  ([], tEq0 6 5),
  ([xC (.int 0)], tGo 7),
  ([xC (.int 2)], tGo 7),
  ([xPut 6 7 (.int), xLdA 0, xGet 6 7], tLe0 9 8),
  ([xC (.int 0)], tRet),
  ([xC (.int 0), xSt 2, xC (.int 0), xSt 3], tGo 10),
  ([xLd 3, xLdA 0], tCv 182 1 6 0 11 (some [])),
  ([], tGe 21 12),
  ([xC (.int 0), xSt 4], tGo 13),
  ([xLd 4, xLdA 0, xLd 3], tCv 183 2 6 1 14 (some [])),
  ([], tGe 20 15),
  ([xLd 2, xLdA 0, xGet 6 18, xLdA 0, xGet 6 21, xLd 3, xAld, xAld, xLd 4], tCs 199 2 2 16),
  ([xLd 1], tNe 18 17),
  ([xC (.int 1)], tGo 19),
  ([xC (.int 0)], tGo 19),
  ([xAdd, xSt 2, xInc 4 1], tGo 13),
  ([xInc 3 1], tGo 10),
  ([xLd 2], tRet)]
/-- HandFingersModel.isSure(III)Z -/
noncomputable def B_234 : List Bk := [([xC (.int 0), xSt 4, xC (.int 10), xLd 1, xMul, xSt 5], tGo 1),
  ([xLd 5, xC (.int 10), xLd 1, xMul, xLdA 0, xGet 6 20, xLd 1, xAld, xAdd], tGe 8 2),
  ([xLd 4, xLdA 0, xLd 5], tCv 231 2 6 1 3 (some [])),
  ([xLd 3], tNe 6 4),
  ([xC (.int 1), xLdA 0, xGet 6 18, xLd 5, xAld, xLd 2], tCs 199 2 2 5),
  ([xShl], tGo 7),
  ([xC (.int 0)], tGo 7),
  ([xOr, xSt 4, xInc 5 1], tGo 1),
  ([xLd 4, xLd 4, xC (.int 1), xSub, xAnd], tNe0 10 9),
  ([xC (.int 1)], tGo 11),
  ([xC (.int 0)], tGo 11),
  ([], tRetZ)]
/-- HandFingersModel.sure()I -/
noncomputable def B_235 : List Bk := [([xLdA 0], tCv 212 1 6 0 1 (some [])),
  ([xSt 1, xLdA 0, xLd 1, xC (.int 1000000000)], tGe 3 2),
  ([xC (.int 0)], tGo 4),
  ([xC (.int 1)], tGo 4),
  ([xPut 6 7 (.int), xLdA 0, xGet 6 7], tLe0 6 5),
  ([xC (.int 0)], tRet),
  ([xLdA 0], tCv 210 6 6 0 7 (some [])),
  ([xC (.int 0), xSt 2, xC (.int 0), xSt 3], tGo 8),
  ([xLd 3, xLdA 0], tCv 182 1 6 0 9 (some [])),
  ([], tGe 19 10),
  ([xC (.int 0), xSt 4], tGo 11),
  ([xLd 4, xLdA 0, xLd 3], tCv 183 2 6 1 12 (some [])),
  ([], tGe 18 13),
  ([xLd 2, xLdA 0, xLd 3, xLd 4, xLd 1], tCv 234 6 6 3 14 (some [])),
  ([], tEq0 16 15),
  ([xC (.int 1)], tGo 17),
  ([xC (.int 0)], tGo 17),
  ([xAdd, xSt 2, xInc 4 1], tGo 11),
  ([xInc 3 1], tGo 8),
  ([xLd 2], tRet)]
/-- HandFingersModel.mean()D -/
noncomputable def B_236 : List Bk := [([xLdA 0], tCv 212 1 6 0 1 (some [])),
  ([xSt 1, xLdA 0, xLd 1, xC (.int 1000000000)], tGe 3 2),
  ([xC (.int 0)], tGo 4),
  ([xC (.int 1)], tGo 4),
  ([xPut 6 7 (.int), xLdA 0, xGet 6 7], tGt0 7 5),
  ([xLdA 0], tCv 182 1 6 0 6 (some [])),
  ([], tNe0 8 7),
  ([xC (.double FP.dconst0)], tGo 10),
  ([xLd 1, xI2D, xLdA 0], tCv 192 3 6 0 9 (some [])),
  ([xI2D, xDdiv], tGo 10),
  ([], tRetD)]
/-- HandFingersModel.readsFingers()V -/
noncomputable def B_237 : List Bk := [([xLdA 0], tCv 169 1 6 0 1 (some [])),
  ([xC (.int 0), xSt 1], tGo 2),
  ([xLd 1, xLdA 0], tCv 182 1 6 0 3 (some [])),
  ([], tGe 13 4),
  ([xLdA 0, xGet 6 26, xLd 1, xC (.int 0), xAst, xC (.int 25), xSt 2, xC (.int 0), xSt 3], tGo 5),
  ([xLd 3, xLdA 0, xLd 1], tCv 183 2 6 1 6 (some [])),
  ([], tGe 12 7),
  ([xLdA 0, xGet 6 14], tNe0 12 8),
  ([xLdA 0, xGet 6 12, xC (.int 3)], tNe 10 9),
  ([xLdA 0, xC (.int (-4))], tCv 172 2 6 1 10 (some [])),
  ([xLdA 0, xGet 6 26, xLd 1, xDup2, xAld, xLd 2, xLdA 0, xC (.int 1), xC (.int 5), xC (.int 1)], tCv 175 5 6 3 11 (some [])),
  ([xC (.int 1), xSub, xMul, xAdd, xAst, xLd 2, xC (.int 5), xDiv, xSt 2, xInc 3 1], tGo 5),
  ([xInc 1 1], tGo 2),
  ([xLdA 0, xGet 6 14], tNe0 19 14),
  ([xLdA 0, xGet 6 12, xC (.int 3)], tEq 19 15),
  ([xLdA 0, xLdA 0, xGet 6 12, xC (.int 1)], tNe 17 16),
  ([xC (.int (-5))], tGo 18),
  ([xC (.int (-2))], tGo 18),
  ([], tCv 172 2 6 1 19 (some [])),
  ([xLdA 0], tCv 170 1 6 0 20 (some [])),
  ([], tRetV)]
/-- HandFingersModel.costOfEvent(I)I -/
noncomputable def B_238 : List Bk := [([xLdA 0, xLdA 0, xGet 6 26, xLd 1, xAld, xLdA 0, xLd 1], tCv 183 2 6 1 1 (some [])),
  ([], tCv 200 4 6 2 2 (some [])),
  ([xLdA 0, xLd 1], tCv 198 6 6 1 3 (some [])),
  ([], tRet)]
/-- HandFingersModel.faultNow()I -/
noncomputable def B_239 : List Bk := [([xC (.int 0), xSt 1], tGo 1),
  ([xLd 1, xLdA 0], tCv 182 1 6 0 2 (some [])),
  ([], tGe 11 3),
  ([xLdA 0, xLd 1], tCv 238 2 6 1 4 (some [])),
  ([xC (.int (-1))], tNe 6 5),
  ([xC (.int 10), xLd 1, xMul, xC (.int 1), xAdd], tRet),
  ([xLd 1], tLe0 10 7),
  ([xLdA 0, xLd 1, xC (.int 1), xSub, xLdA 0, xGet 6 26, xLd 1, xC (.int 1), xSub, xAld, xLdA 0, xGet 6 26, xLd 1, xAld], tCv 205 6 6 3 8 (some [])),
  ([xC (.int (-1))], tNe 10 9),
  ([xC (.int 10), xLd 1, xMul, xC (.int 2), xAdd], tRet),
  ([xInc 1 1], tGo 1),
  ([xC (.int (-1))], tRet)]
/-- HandFingersModel.costOfTold()I -/
noncomputable def B_240 : List Bk := [([xLdA 0], tCv 237 4 6 0 1 (some [])),
  ([xLdA 0, xGet 6 14], tEq0 3 2),
  ([xLdA 0, xGet 6 14], tRet),
  ([xLdA 0], tCv 239 2 6 0 4 (some [])),
  ([xC (.int (-1))], tEq 6 5),
  ([xC (.int (-10))], tRet),
  ([xC (.int 0), xSt 1, xC (.int 0), xSt 2], tGo 7),
  ([xLd 2, xLdA 0], tCv 182 1 6 0 8 (some [])),
  ([], tGe 15 9),
  ([xLd 1, xLdA 0, xLd 2], tCv 238 2 6 1 10 (some [])),
  ([xLd 2], tLe0 13 11),
  ([xLdA 0, xLd 2, xC (.int 1), xSub, xLdA 0, xGet 6 26, xLd 2, xC (.int 1), xSub, xAld, xLdA 0, xGet 6 26, xLd 2, xAld], tCv 205 6 6 3 12 (some [])),
  ([], tGo 14),
  ([xC (.int 0)], tGo 14),
  ([xAdd, xAdd, xSt 1, xInc 2 1], tGo 7),
  ([xLd 1], tRet)]
/-- HandFingersModel.faultOfTold()I -/
noncomputable def B_241 : List Bk := [([xLdA 0], tCv 237 4 6 0 1 (some [])),
  ([xLdA 0, xGet 6 14], tEq0 3 2),
  ([xLdA 0, xGet 6 14], tRet),
  ([xLdA 0], tCv 239 2 6 0 4 (some [])),
  ([xSt 1, xLd 1, xC (.int (-1))], tNe 6 5),
  ([xC (.int (-10))], tGo 7),
  ([xLd 1], tGo 7),
  ([], tRet)]
/-- HandFingersModel.otherHand()I -/
noncomputable def B_242 : List Bk := [([xLdA 0, xC (.int 0), xPut 6 7 (.int), xLdA 0, xGet 6 0, xC (.int 1), xC (.int 1), xLdA 0, xGet 6 0, xC (.int 1), xAld, xSub, xAst, xLdA 0], tCv 212 1 6 0 1 (some [])),
  ([xSt 1, xLdA 0, xGet 6 0, xC (.int 1), xC (.int 1), xLdA 0, xGet 6 0, xC (.int 1), xAld, xSub, xAst, xLd 1], tCs 213 1 1 2),
  ([], tRet)]
/-- HandFingersModel.canMove(I)Z -/
noncomputable def B_243 : List Bk := [([xLd 1, xC (.int (-87)), xC (.int 87)], tCs 157 3 3 1),
  ([], tEq0 11 2),
  ([xLdA 0], tCv 182 1 6 0 3 (some [])),
  ([], tEq0 10 4),
  ([xLdA 0, xC (.int 0)], tCv 216 5 6 1 5 (some [])),
  ([xLd 1, xAdd], tCs 224 1 1 6),
  ([], tEq0 11 7),
  ([xLdA 0, xC (.int 1)], tCv 216 5 6 1 8 (some [])),
  ([xLd 1, xAdd], tCs 224 1 1 9),
  ([], tEq0 11 10),
  ([xC (.int 1)], tGo 12),
  ([xC (.int 0)], tGo 12),
  ([], tRetZ)]
/-- HandFingersModel.moves(I)V -/
noncomputable def B_244 : List Bk := [([xC (.int 0), xSt 2], tGo 1),
  ([xLd 2, xLdA 0], tCv 182 1 6 0 2 (some [])),
  ([], tGe 8 3),
  ([xC (.int 0), xSt 3], tGo 4),
  ([xLd 3, xLdA 0, xLd 2], tCv 183 2 6 1 5 (some [])),
  ([], tGe 7 6),
  ([xLdA 0, xGet 6 0, xC (.int 42), xC (.int 8), xLd 2, xMul, xAdd, xC (.int 2), xAdd, xLd 3, xAdd, xDup2, xAld, xLd 1, xAdd, xAst, xInc 3 1], tGo 4),
  ([xInc 2 1], tGo 1),
  ([], tRetV)]
/-- HandFingersModel.bestMoved(I)I -/
noncomputable def B_245 : List Bk := [([xLdA 0, xLd 1], tCv 244 4 6 1 1 (some [])),
  ([xLdA 0], tCv 212 1 6 0 2 (some [])),
  ([xSt 2, xLdA 0, xLd 1, xNeg], tCv 244 4 6 1 3 (some [])),
  ([xLd 2], tRet)]
/-- HandFingersModel.transposed(I)I -/
noncomputable def B_246 : List Bk := [([xLdA 0, xLdA 0, xLd 1], tCv 243 2 6 1 1 (some [])),
  ([], tEq0 3 2),
  ([xC (.int 0)], tGo 4),
  ([xC (.int 1)], tGo 4),
  ([xPut 6 7 (.int), xLdA 0, xGet 6 7], tLe0 6 5),
  ([xC (.int 0)], tGo 8),
  ([xLdA 0, xLd 1], tCv 245 3 6 1 7 (some [])),
  ([], tCs 213 1 1 8),
  ([], tRet)]
/-- HandFingersModel.easiest(I)I -/
noncomputable def B_247 : List Bk := [([xLdA 0, xLd 1, xC (.int 0), xC (.int 24)], tCs 157 3 3 1),
  ([], tEq0 3 2),
  ([xC (.int 0)], tGo 4),
  ([xC (.int 1)], tGo 4),
  ([xPut 6 7 (.int), xLdA 0, xGet 6 7], tLe0 6 5),
  ([xC (.int 0)], tRet),
  ([xC (.int 0), xSt 2, xC (.int 1000000000), xSt 3, xC (.int 0), xSt 4], tGo 7),
  ([xLd 4, xC (.int 2), xLd 1, xMul], tGt 20 8),
  ([xLd 4, xC (.int 2), xRem, xC (.int 1)], tNe 10 9),
  ([xLd 4, xC (.int 1), xAdd, xNeg, xC (.int 2), xDiv], tGo 11),
  ([xLd 4, xC (.int 2), xDiv], tGo 11),
  ([xSt 5, xLdA 0, xLd 5], tCv 243 2 6 1 12 (some [])),
  ([], tEq0 15 13),
  ([xLdA 0, xLd 5], tCv 245 3 6 1 14 (some [])),
  ([], tGo 16),
  ([xC (.int 1000000000)], tGo 16),
  ([xSt 6, xLd 6, xLd 3], tLt 18 17),
  ([], tGo 19),
  ([xLd 6, xSt 3, xLd 5, xSt 2], tGo 19),
  ([xInc 4 1], tGo 7),
  ([xLdA 0, xLd 3, xC (.int 1000000000)], tGe 22 21),
  ([xC (.int 0)], tGo 23),
  ([xC (.int 2)], tGo 23),
  ([xPut 6 7 (.int), xLdA 0, xGet 6 7], tLe0 25 24),
  ([xC (.int 0)], tGo 26),
  ([xLd 2], tGo 26),
  ([], tRet)]
/-- HandFingersModel.restBehind()I -/
noncomputable def B_248 : List Bk := [([xLdA 0, xC (.int 0), xPut 6 7 (.int), xLdA 0], tCv 212 1 6 0 1 (some [])),
  ([xSt 1, xC (.int (-1)), xSt 2, xC (.int 0), xSt 3], tGo 2),
  ([xLd 3, xC (.int 1), xAdd, xLdA 0], tCv 182 1 6 0 3 (some [])),
  ([], tGe 10 4),
  ([xLdA 0, xLd 3], tCv 184 2 6 1 5 (some [])),
  ([xSt 4, xLdA 0, xGet 6 0, xC (.int 42), xC (.int 8), xLd 3, xMul, xAdd, xC (.int 1), xAdd, xC (.int 9), xAst, xLdA 0], tCv 212 1 6 0 6 (some [])),
  ([xSt 5, xLdA 0, xGet 6 0, xC (.int 42), xC (.int 8), xLd 3, xMul, xAdd, xC (.int 1), xAdd, xLd 4, xAst, xLd 5, xLd 1], tLt 8 7),
  ([], tGo 9),
  ([xLd 5, xSt 1, xLd 3, xSt 2], tGo 9),
  ([xInc 3 1], tGo 2),
  ([xLd 2], tRet)]
/-- HandFingersModel.areKeys(III)Z -/
noncomputable def B_249 : List Bk := [([xLd 0], tCs 224 1 1 1),
  ([], tNe0 3 2),
  ([xC (.int 0)], tRetZ),
  ([xLd 1], tNe0 8 4),
  ([xLd 2], tNe0 6 5),
  ([xC (.int 1)], tGo 7),
  ([xC (.int 0)], tGo 7),
  ([], tRetZ),
  ([xLd 1, xLd 0], tLe 16 9),
  ([xLd 1], tCs 224 1 1 10),
  ([], tEq0 16 11),
  ([xLd 2], tEq0 15 12),
  ([xLd 2, xLd 1], tLe 16 13),
  ([xLd 2], tCs 224 1 1 14),
  ([], tEq0 16 15),
  ([xC (.int 1)], tGo 17),
  ([xC (.int 0)], tGo 17),
  ([], tRetZ)]
/-- HandFingersModel.play(IIIII)I -/
noncomputable def B_250 : List Bk := [([xLdA 0, xLd 1, xC (.int 0), xLdA 0], tCv 182 1 6 0 1 (some [])),
  ([], tCs 157 3 3 2),
  ([], tNe0 4 3),
  ([xC (.int 1)], tGo 10),
  ([xLd 2, xLd 3, xLd 4], tCs 249 3 3 5),
  ([], tEq0 9 6),
  ([xLd 5, xC (.int 0), xC (.int 9)], tCs 157 3 3 7),
  ([], tEq0 9 8),
  ([xC (.int 0)], tGo 10),
  ([xC (.int 2)], tGo 10),
  ([xPut 6 7 (.int), xLdA 0, xGet 6 7], tLe0 12 11),
  ([xC (.int 0)], tRet),
  ([xLdA 0], tCv 182 1 6 0 13 (some [])),
  ([xC (.int 40)], tNe 15 14),
  ([xC (.int (-10))], tRet),
  ([xLdA 0, xLdA 0, xGet 6 0], tCv 159 3 6 1 16 (some [])),
  ([xC (.int 42), xC (.int 8), xLd 1, xMul, xAdd, xSt 6, xC (.int 361), xSt 7], tGo 17),
  ([xLd 7, xLd 6, xC (.int 8), xAdd], tLt 19 18),
  ([xLdA 0, xGet 6 0, xLd 7, xLdA 0, xGet 6 0, xLd 7, xC (.int 8), xSub, xAld, xAst, xInc 7 (-1)], tGo 17),
  ([xLdA 0, xGet 6 0, xLd 6, xLd 3], tNe0 21 20),
  ([xC (.int 1)], tGo 24),
  ([xLd 4], tNe0 23 22),
  ([xC (.int 2)], tGo 24),
  ([xC (.int 3)], tGo 24),
  ([xAst, xLdA 0, xGet 6 0, xLd 6, xC (.int 1), xAdd, xLd 5, xAst, xLdA 0, xGet 6 0, xLd 6, xC (.int 2), xAdd, xLd 2, xAst, xLdA 0, xGet 6 0, xLd 6, xC (.int 3), xAdd, xLd 3, xAst, xLdA 0, xGet 6 0, xLd 6, xC (.int 4), xAdd, xLd 4, xAst, xC (.int 0), xSt 7], tGo 25),
  ([xLd 7, xC (.int 3)], tGe 27 26),
  ([xLdA 0, xGet 6 0, xLd 6, xC (.int 5), xAdd, xLd 7, xAdd, xC (.int 31), xAst, xInc 7 1], tGo 25),
  ([xLdA 0, xGet 6 0, xC (.int 0), xDup2, xAld, xC (.int 1), xAdd, xAst, xLdA 0], tCv 182 1 6 0 28 (some [])),
  ([], tRet)]
/-- HandFingersModel.drop(I)I -/
noncomputable def B_251 : List Bk := [([xLdA 0, xLdA 0, xLd 1], tCv 188 2 6 1 1 (some [])),
  ([], tEq0 3 2),
  ([xC (.int 0)], tGo 4),
  ([xC (.int 1)], tGo 4),
  ([xPut 6 7 (.int), xLdA 0, xGet 6 7], tLe0 6 5),
  ([xC (.int 0)], tRet),
  ([xLdA 0, xLdA 0, xGet 6 0], tCv 159 3 6 1 7 (some [])),
  ([xC (.int 42), xC (.int 8), xLd 1, xMul, xAdd, xSt 2], tGo 8),
  ([xLd 2, xC (.int 354)], tGe 10 9),
  ([xLdA 0, xGet 6 0, xLd 2, xLdA 0, xGet 6 0, xLd 2, xC (.int 8), xAdd, xAld, xAst, xInc 2 1], tGo 8),
  ([xLdA 0, xGet 6 0, xC (.int 0), xDup2, xAld, xC (.int 1), xSub, xAst, xLdA 0], tCv 182 1 6 0 11 (some [])),
  ([], tRet)]
/-- HandFingersModel.sets(II)I -/
noncomputable def B_252 : List Bk := [([xLdA 0, xLdA 0, xGet 6 0], tCv 159 3 6 1 1 (some [])),
  ([xLdA 0, xGet 6 0, xLd 1, xAld, xSt 3, xLdA 0, xGet 6 0, xLd 1, xLd 2, xAst, xLd 3], tRet)]
/-- HandFingersModel.setRest(II)I -/
noncomputable def B_253 : List Bk := [([xLdA 0, xLdA 0, xLd 1], tCv 188 2 6 1 1 (some [])),
  ([], tNe0 3 2),
  ([xC (.int 1)], tGo 7),
  ([xLd 2, xC (.int 0), xC (.int 9)], tCs 157 3 3 4),
  ([], tEq0 6 5),
  ([xC (.int 0)], tGo 7),
  ([xC (.int 2)], tGo 7),
  ([xPut 6 7 (.int), xLdA 0, xGet 6 7], tLe0 9 8),
  ([xC (.int 0)], tGo 10),
  ([xLdA 0, xC (.int 42), xC (.int 8), xLd 1, xMul, xAdd, xC (.int 1), xAdd, xLd 2], tCv 252 4 6 2 10 (some [])),
  ([], tRet)]
/-- HandFingersModel.let(IIIZ)I -/
noncomputable def B_254 : List Bk := [([xLdA 0, xLdA 0, xLd 1, xLd 2], tCv 189 3 6 2 1 (some [])),
  ([], tEq0 5 2),
  ([xLd 3], tCs 190 1 1 3),
  ([], tEq0 5 4),
  ([xC (.int 0)], tGo 6),
  ([xC (.int 1)], tGo 6),
  ([xPut 6 7 (.int), xLdA 0, xGet 6 7], tLe0 8 7),
  ([xC (.int 0)], tRet),
  ([xC (.int 1), xLd 3, xC (.int 1), xSub, xShl, xSt 5, xC (.int 42), xC (.int 8), xLd 1, xMul, xAdd, xC (.int 5), xAdd, xLd 2, xAdd, xSt 6, xLdA 0, xLdA 0, xLd 6, xLd 4], tEq0 10 9),
  ([xLdA 0, xGet 6 0, xLd 6, xAld, xLd 5, xOr], tGo 11),
  ([xLdA 0, xGet 6 0, xLd 6, xAld, xLd 5, xC (.int (-1)), xXor, xAnd], tGo 11),
  ([], tCv 252 4 6 2 12 (some [])),
  ([xPut 6 27 (.int), xLdA 0, xGet 6 0, xLd 6, xAld], tRet)]
/-- HandFingersModel.setWeight(II)I -/
noncomputable def B_255 : List Bk := [([xLdA 0, xLd 1, xC (.int 0), xC (.int 9)], tCs 157 3 3 1),
  ([], tNe0 3 2),
  ([xC (.int 1)], tGo 7),
  ([xLd 2, xC (.int 0), xC (.int 99)], tCs 157 3 3 4),
  ([], tEq0 6 5),
  ([xC (.int 0)], tGo 7),
  ([xC (.int 2)], tGo 7),
  ([xPut 6 7 (.int), xLdA 0, xGet 6 7], tLe0 9 8),
  ([xC (.int 0)], tGo 10),
  ([xLdA 0, xC (.int 2), xLd 1, xAdd, xLd 2], tCv 252 4 6 2 10 (some [])),
  ([], tRet)]
/-- HandFingersModel.setSpan(IIIII)I -/
noncomputable def B_256 : List Bk := [([xLd 1, xLd 2], tEq 8 1),
  ([xLd 3, xC (.int 1), xC (.int 24)], tCs 157 3 3 2),
  ([], tEq0 8 3),
  ([xLd 4, xLd 3, xC (.int 24)], tCs 157 3 3 4),
  ([], tEq0 8 5),
  ([xLd 5, xLd 4, xC (.int 24)], tCs 157 3 3 6),
  ([], tEq0 8 7),
  ([xC (.int 1)], tGo 9),
  ([xC (.int 0)], tGo 9),
  ([xSt 6, xLdA 0, xLd 1], tCs 190 1 1 10),
  ([], tEq0 13 11),
  ([xLd 2], tCs 190 1 1 12),
  ([], tNe0 14 13),
  ([xC (.int 1)], tGo 17),
  ([xLd 6], tEq0 16 15),
  ([xC (.int 0)], tGo 17),
  ([xC (.int 2)], tGo 17),
  ([xPut 6 7 (.int), xLdA 0, xGet 6 7], tLe0 19 18),
  ([xC (.int 0)], tRet),
  ([xLdA 0, xLdA 0, xGet 6 0], tCv 159 3 6 1 20 (some [])),
  ([xLdA 0, xGet 6 0, xLd 1, xLd 2], tCs 155 5 2 21),
  ([xC (.int 2), xAdd, xAld, xSt 7, xLdA 0, xLd 1, xLd 2, xLd 3, xLd 4, xLd 5], tCv 153 7 6 5 22 (some [])),
  ([xLd 7], tRet)]
/-- HandFingersModel.setHand(Z)I -/
noncomputable def B_257 : List Bk := [([xLdA 0, xC (.int 0), xPut 6 7 (.int), xLdA 0, xLdA 0, xC (.int 1), xLd 1], tEq0 2 1),
  ([xC (.int 1)], tGo 3),
  ([xC (.int 0)], tGo 3),
  ([], tCv 252 4 6 2 4 (some [])),
  ([xPut 6 27 (.int), xLdA 0], tCv 212 1 6 0 5 (some [])),
  ([], tCs 213 1 1 6),
  ([], tRet)]
/-- HandFingersModel.transpose(I)I -/
noncomputable def B_258 : List Bk := [([xLdA 0, xLdA 0, xLd 1], tCv 243 2 6 1 1 (some [])),
  ([], tEq0 3 2),
  ([xC (.int 0)], tGo 4),
  ([xC (.int 1)], tGo 4),
  ([xPut 6 7 (.int), xLdA 0, xGet 6 7], tLe0 6 5),
  ([xC (.int 0)], tRet),
  ([xLdA 0, xLdA 0, xGet 6 0], tCv 159 3 6 1 7 (some [])),
  ([xLdA 0, xLd 1], tCv 244 4 6 1 8 (some [])),
  ([xLdA 0], tCv 212 1 6 0 9 (some [])),
  ([], tCs 213 1 1 10),
  ([], tRet)]
/-- HandFingersModel.fix()I -/
noncomputable def B_259 : List Bk := [([xLdA 0, xLdA 0], tCv 214 4 6 0 1 (some [])),
  ([], tEq0 3 2),
  ([xC (.int 0)], tGo 4),
  ([xC (.int 1)], tGo 4),
  ([xPut 6 7 (.int), xLdA 0, xGet 6 7], tLe0 6 5),
  ([xC (.int 0)], tRet),
  ([xLdA 0, xLdA 0, xGet 6 0], tCv 159 3 6 1 7 (some [])),
  ([xC (.int 0), xSt 1, xC (.int 0), xSt 2], tGo 8),
  ([xLd 2, xLdA 0], tCv 182 1 6 0 9 (some [])),
  ([], tGe 20 10),
  ([xC (.int 0), xSt 3], tGo 11),
  ([xLd 3, xLdA 0, xLd 2], tCv 183 2 6 1 12 (some [])),
  ([], tGe 19 13),
  ([xLdA 0, xLd 2, xLd 3], tCv 186 3 6 2 14 (some [])),
  ([xSt 4, xLd 1, xLd 4, xLd 4, xC (.int 1), xSub, xAnd], tNe0 16 15),
  ([xC (.int 0)], tGo 17),
  ([xC (.int 1)], tGo 17),
  ([xAdd, xSt 1, xLdA 0, xGet 6 0, xC (.int 42), xC (.int 8), xLd 2, xMul, xAdd, xC (.int 5), xAdd, xLd 3, xAdd, xC (.int 1), xLdA 0, xGet 6 18, xLdA 0, xGet 6 21, xLd 2, xAld, xAld, xLd 3], tCs 199 2 2 18),
  ([xC (.int 1), xSub, xShl, xAst, xInc 3 1], tGo 11),
  ([xInc 2 1], tGo 8),
  ([xLd 1], tRet)]
/-- HandFingersModel.says(I)V -/
noncomputable def B_260 : List Bk := [([xLdA 0, xGet 6 28, xLdA 0, xGet 6 29, xLd 1, xAst, xLdA 0, xDup, xGet 6 29, xC (.int 1), xAdd, xPut 6 29 (.int)], tRetV)]
/-- HandFingersModel.writeFingers()I -/
noncomputable def B_261 : List Bk := [([xLdA 0, xLdA 0], tCv 214 4 6 0 1 (some [])),
  ([], tEq0 3 2),
  ([xC (.int 0)], tGo 4),
  ([xC (.int 1)], tGo 4),
  ([xPut 6 7 (.int), xLdA 0, xGet 6 7], tLe0 6 5),
  ([xC (.int 0)], tRet),
  ([xLdA 0, xC (.int 0), xPut 6 29 (.int), xC (.int 0), xSt 1], tGo 7),
  ([xLd 1, xLdA 0], tCv 182 1 6 0 8 (some [])),
  ([], tGe 23 9),
  ([xLd 1], tLe0 11 10),
  ([xLdA 0, xC (.int 32)], tCv 260 2 6 1 11 (some [])),
  ([xC (.int 0), xSt 2], tGo 12),
  ([xLd 2, xLdA 0, xLd 1], tCv 183 2 6 1 13 (some [])),
  ([], tGe 17 14),
  ([xLdA 0, xC (.int 48), xLdA 0, xGet 6 18, xLdA 0, xGet 6 21, xLd 1, xAld, xAld, xLd 2], tCs 199 2 2 15),
  ([xAdd], tCv 260 2 6 1 16 (some [])),
  ([xInc 2 1], tGo 12),
  ([xLd 1, xC (.int 1), xAdd, xLdA 0], tCv 182 1 6 0 18 (some [])),
  ([], tGe 22 19),
  ([xLdA 0, xLd 1], tCv 193 2 6 1 20 (some [])),
  ([], tEq0 22 21),
  ([xLdA 0, xC (.int 39)], tCv 260 2 6 1 22 (some [])),
  ([xInc 1 1], tGo 7),
  ([xLdA 0, xGet 6 29], tRet)]
/-- HandFingersModel.writtenByte(I)I -/
noncomputable def B_262 : List Bk := [([xLdA 0, xLd 1, xC (.int 0), xLdA 0, xGet 6 29, xC (.int 1), xSub], tCs 157 3 3 1),
  ([], tEq0 3 2),
  ([xC (.int 0)], tGo 4),
  ([xC (.int 1)], tGo 4),
  ([xPut 6 7 (.int), xLdA 0, xGet 6 7], tLe0 6 5),
  ([xC (.int 0)], tGo 7),
  ([xLdA 0, xGet 6 28, xLd 1, xAld], tGo 7),
  ([], tRet)]
/-- HandFingersLaw.append(LHandFingers;IIIII[J)I -/
noncomputable def B_263 : List Bk := [([xLdA 6, xC (.int 0), xLdA 0, xLd 1, xLd 2, xLd 3, xLd 4, xLd 5], tCv 93 7 5 5 1 (some [("java/lang/IllegalStateException", 7, 2)])),
  ([xI2L, xLst], tGo 3),
  ([xC (.int 1)], tRet),
  ([xC (.int 0)], tRet)]
/-- HandFingersLaw.count(LHandFingers;I[J)I -/
noncomputable def B_264 : List Bk := [([xLdA 2, xC (.int 0), xLdA 0, xLd 1], tCv 96 2 5 1 1 (some [("java/lang/IllegalArgumentException", 3, 2)])),
  ([xI2L, xLst], tGo 3),
  ([xC (.int 1)], tRet),
  ([xC (.int 0)], tRet)]
/-- HandFingersLaw.event(LHandFingers;II[J)I -/
noncomputable def B_265 : List Bk := [([xLdA 3, xC (.int 0), xLdA 0, xLd 1, xLd 2], tCv 97 3 5 2 1 (some [("java/lang/IndexOutOfBoundsException", 4, 2), ("java/lang/IllegalArgumentException", 4, 3)])),
  ([xI2L, xLst], tGo 4),
  ([xC (.int 1)], tRet),
  ([xC (.int 2)], tRet),
  ([xC (.int 0)], tRet)]
/-- HandFingersLaw.note(LHandFingers;III[J)I -/
noncomputable def B_266 : List Bk := [([xLdA 4, xC (.int 0), xLdA 0, xLd 1, xLd 2, xLd 3], tCv 98 4 5 3 1 (some [("java/lang/IndexOutOfBoundsException", 5, 2), ("java/lang/IllegalArgumentException", 5, 3)])),
  ([xI2L, xLst], tGo 4),
  ([xC (.int 1)], tRet),
  ([xC (.int 2)], tRet),
  ([xC (.int 0)], tRet)]
/-- HandFingersLaw.weight(LHandFingers;I[J)I -/
noncomputable def B_267 : List Bk := [([xLdA 2, xC (.int 0), xLdA 0, xLd 1], tCv 99 2 5 1 1 (some [("java/lang/IndexOutOfBoundsException", 3, 2)])),
  ([xI2L, xLst], tGo 3),
  ([xC (.int 1)], tRet),
  ([xC (.int 0)], tRet)]
/-- HandFingersLaw.span(LHandFingers;III[J)I -/
noncomputable def B_268 : List Bk := [([xLdA 4, xC (.int 0), xLdA 0, xLd 1, xLd 2, xLd 3], tCv 100 4 5 3 1 (some [("java/lang/IndexOutOfBoundsException", 5, 2), ("java/lang/IllegalArgumentException", 5, 3)])),
  ([xI2L, xLst], tGo 4),
  ([xC (.int 1)], tRet),
  ([xC (.int 2)], tRet),
  ([xC (.int 0)], tRet)]
/-- HandFingersLaw.link(LHandFingers;IIII[J)I -/
noncomputable def B_269 : List Bk := [([xLdA 5, xC (.int 0), xLdA 0, xLd 1, xLd 2, xLd 3, xLd 4], tCv 101 5 5 4 1 (some [("java/lang/IndexOutOfBoundsException", 6, 2), ("java/lang/IllegalArgumentException", 6, 3)])),
  ([xI2L, xLst], tGo 4),
  ([xC (.int 1)], tRet),
  ([xC (.int 2)], tRet),
  ([xC (.int 0)], tRet)]
/-- HandFingersLaw.finger(LHandFingers;II[J)I -/
noncomputable def B_270 : List Bk := [([xLdA 3, xC (.int 0), xLdA 0, xLd 1, xLd 2], tCv 103 3 5 2 1 (some [("java/lang/IndexOutOfBoundsException", 4, 2), ("java/util/NoSuchElementException", 4, 3)])),
  ([xI2L, xLst], tGo 4),
  ([xC (.int 1)], tRet),
  ([xC (.int 2)], tRet),
  ([xC (.int 0)], tRet)]
/-- HandFingersLaw.part(LHandFingers;II[J)I -/
noncomputable def B_271 : List Bk := [([xLdA 3, xC (.int 0), xLdA 0, xLd 1, xLd 2], tCv 104 3 5 2 1 (some [("java/lang/IndexOutOfBoundsException", 4, 2), ("java/lang/IllegalArgumentException", 4, 3), ("java/util/NoSuchElementException", 4, 4)])),
  ([xI2L, xLst], tGo 5),
  ([xC (.int 1)], tRet),
  ([xC (.int 2)], tRet),
  ([xC (.int 3)], tRet),
  ([xC (.int 0)], tRet)]
/-- HandFingersLaw.costWith(LHandFingers;III[J)I -/
noncomputable def B_272 : List Bk := [([xLdA 4, xC (.int 0), xLdA 0, xLd 1, xLd 2, xLd 3], tCv 106 4 5 3 1 (some [("java/lang/IndexOutOfBoundsException", 5, 2)])),
  ([xI2L, xLst], tGo 3),
  ([xC (.int 1)], tRet),
  ([xC (.int 0)], tRet)]
/-- HandFingersLaw.uses(LHandFingers;I[J)I -/
noncomputable def B_273 : List Bk := [([xLdA 2, xC (.int 0), xLdA 0, xLd 1], tCv 108 5 5 1 1 (some [("java/lang/IndexOutOfBoundsException", 3, 2), ("java/util/NoSuchElementException", 3, 3)])),
  ([xI2L, xLst], tGo 4),
  ([xC (.int 1)], tRet),
  ([xC (.int 2)], tRet),
  ([xC (.int 0)], tRet)]
/-- HandFingersLaw.sure(LHandFingers;[J)I -/
noncomputable def B_274 : List Bk := [([xLdA 1, xC (.int 0), xLdA 0], tCv 109 4 5 0 1 (some [("java/util/NoSuchElementException", 2, 2)])),
  ([xI2L, xLst], tGo 3),
  ([xC (.int 1)], tRet),
  ([xC (.int 0)], tRet)]
/-- HandFingersLaw.mean(LHandFingers;[D)I -/
noncomputable def B_275 : List Bk := [([xLdA 1, xC (.int 0), xLdA 0], tCv 110 2 5 0 1 (some [("java/util/NoSuchElementException", 2, 2)])),
  ([xDst], tGo 3),
  ([xC (.int 1)], tRet),
  ([xC (.int 0)], tRet)]
/-- HandFingersLaw.transposed(LHandFingers;I[J)I -/
noncomputable def B_276 : List Bk := [([xLdA 2, xC (.int 0), xLdA 0, xLd 1], tCv 114 2 5 1 1 (some [("java/lang/IllegalArgumentException", 3, 2)])),
  ([xI2L, xLst], tGo 3),
  ([xC (.int 1)], tRet),
  ([xC (.int 0)], tRet)]
/-- HandFingersLaw.easiest(LHandFingers;I[J)I -/
noncomputable def B_277 : List Bk := [([xLdA 2, xC (.int 0), xLdA 0, xLd 1], tCv 115 6 5 1 1 (some [("java/lang/IllegalArgumentException", 3, 2), ("java/util/NoSuchElementException", 3, 3)])),
  ([xI2L, xLst], tGo 4),
  ([xC (.int 1)], tRet),
  ([xC (.int 2)], tRet),
  ([xC (.int 0)], tRet)]
/-- HandFingersLaw.play(LHandFingers;IIIII[J)I -/
noncomputable def B_278 : List Bk := [([xLdA 6, xC (.int 0), xLdA 0, xLd 1, xLd 2, xLd 3, xLd 4, xLd 5], tCv 117 6 5 5 1 (some [("java/lang/IndexOutOfBoundsException", 7, 2), ("java/lang/IllegalArgumentException", 7, 3)])),
  ([xI2L, xLst], tGo 4),
  ([xC (.int 1)], tRet),
  ([xC (.int 2)], tRet),
  ([xC (.int 0)], tRet)]
/-- HandFingersLaw.drop(LHandFingers;I[J)I -/
noncomputable def B_279 : List Bk := [([xLdA 2, xC (.int 0), xLdA 0, xLd 1], tCv 118 2 5 1 1 (some [("java/lang/IndexOutOfBoundsException", 3, 2)])),
  ([xI2L, xLst], tGo 3),
  ([xC (.int 1)], tRet),
  ([xC (.int 0)], tRet)]
/-- HandFingersLaw.setRest(LHandFingers;II[J)I -/
noncomputable def B_280 : List Bk := [([xLdA 3, xC (.int 0), xLdA 0, xLd 1, xLd 2], tCv 119 4 5 2 1 (some [("java/lang/IndexOutOfBoundsException", 4, 2), ("java/lang/IllegalArgumentException", 4, 3)])),
  ([xI2L, xLst], tGo 4),
  ([xC (.int 1)], tRet),
  ([xC (.int 2)], tRet),
  ([xC (.int 0)], tRet)]
/-- HandFingersLaw.let(LHandFingers;IIIZ[J)I -/
noncomputable def B_281 : List Bk := [([xLdA 5, xC (.int 0), xLdA 0, xLd 1, xLd 2, xLd 3, xLd 4], tCv 120 7 5 4 1 (some [("java/lang/IndexOutOfBoundsException", 6, 2)])),
  ([xI2L, xLst], tGo 3),
  ([xC (.int 1)], tRet),
  ([xC (.int 0)], tRet)]
/-- HandFingersLaw.setWeight(LHandFingers;II[J)I -/
noncomputable def B_282 : List Bk := [([xLdA 3, xC (.int 0), xLdA 0, xLd 1, xLd 2], tCv 121 4 5 2 1 (some [("java/lang/IndexOutOfBoundsException", 4, 2), ("java/lang/IllegalArgumentException", 4, 3)])),
  ([xI2L, xLst], tGo 4),
  ([xC (.int 1)], tRet),
  ([xC (.int 2)], tRet),
  ([xC (.int 0)], tRet)]
/-- HandFingersLaw.setSpan(LHandFingers;IIIII[J)I -/
noncomputable def B_283 : List Bk := [([xLdA 6, xC (.int 0), xLdA 0, xLd 1, xLd 2, xLd 3, xLd 4, xLd 5], tCv 122 7 5 5 1 (some [("java/lang/IndexOutOfBoundsException", 7, 2), ("java/lang/IllegalArgumentException", 7, 3)])),
  ([xI2L, xLst], tGo 4),
  ([xC (.int 1)], tRet),
  ([xC (.int 2)], tRet),
  ([xC (.int 0)], tRet)]
/-- HandFingersLaw.transpose(LHandFingers;I[J)I -/
noncomputable def B_284 : List Bk := [([xLdA 2, xC (.int 0), xLdA 0, xLd 1], tCv 124 2 5 1 1 (some [("java/lang/IllegalArgumentException", 3, 2)])),
  ([xI2L, xLst], tGo 3),
  ([xC (.int 1)], tRet),
  ([xC (.int 0)], tRet)]
/-- HandFingersLaw.fix(LHandFingers;[J)I -/
noncomputable def B_285 : List Bk := [([xLdA 1, xC (.int 0), xLdA 0], tCv 125 5 5 0 1 (some [("java/util/NoSuchElementException", 2, 2)])),
  ([xI2L, xLst], tGo 3),
  ([xC (.int 1)], tRet),
  ([xC (.int 0)], tRet)]
/-- HandFingersLaw.undo(LHandFingers;[J)I -/
noncomputable def B_286 : List Bk := [([xLdA 1, xC (.int 0), xLdA 0], tCv 126 1 5 0 1 (some [("java/lang/IllegalStateException", 2, 2)])),
  ([xI2L, xLst], tGo 3),
  ([xC (.int 1)], tRet),
  ([xC (.int 0)], tRet)]
/-- HandFingersLaw.save(LHandFingers;I)I -/
noncomputable def B_287 : List Bk := [([xLdA 0, xLd 1], tCv 127 2 5 1 1 (some [("java/lang/IndexOutOfBoundsException", 2, 2)])),
  ([], tGo 3),
  ([xC (.int 1)], tRet),
  ([xC (.int 0)], tRet)]
/-- HandFingersLaw.restore(LHandFingers;I[J)I -/
noncomputable def B_288 : List Bk := [([xLdA 2, xC (.int 0), xLdA 0, xLd 1], tCv 128 2 5 1 1 (some [("java/lang/IndexOutOfBoundsException", 3, 2), ("java/lang/IllegalStateException", 3, 3)])),
  ([xI2L, xLst], tGo 4),
  ([xC (.int 1)], tRet),
  ([xC (.int 2)], tRet),
  ([xC (.int 0)], tRet)]
/-- HandFingersLaw.writeFingers(LHandFingers;[J)I -/
noncomputable def B_289 : List Bk := [([xLdA 1, xC (.int 0), xLdA 0], tCv 129 3 5 0 1 (some [("java/util/NoSuchElementException", 2, 2)])),
  ([xI2L, xLst], tGo 3),
  ([xC (.int 1)], tRet),
  ([xC (.int 0)], tRet)]
/-- HandFingersLaw.writtenByte(LHandFingers;I[J)I -/
noncomputable def B_290 : List Bk := [([xLdA 2, xC (.int 0), xLdA 0, xLd 1], tCv 130 2 5 1 1 (some [("java/lang/IndexOutOfBoundsException", 3, 2)])),
  ([xI2L, xLst], tGo 3),
  ([xC (.int 1)], tRet),
  ([xC (.int 0)], tRet)]
/-- HandFingersLaw.law([I)Z -/
noncomputable def B_291 : List Bk := [([xNew 5 nfX5, xDup], tCi 92 1 0 1),
  ([xStA 1, xNew 6 nfX6, xDup], tCi 151 1 0 2),
  ([xStA 2, xC (.int 1), xNewA 1, xStA 3, xC (.int 1), xNewA 2, xStA 4, xC (.int 0), xSt 5], tGo 3),
  ([xLd 5, xLdA 0, xLen, xC (.int 6), xSub], tGt 315 4),
  ([xLdA 0, xLd 5, xAld, xC (.int 63), xAnd], tSw 314 [(0, 5), (1, 14), (2, 18), (3, 22), (4, 31), (5, 40), (6, 49), (7, 58), (8, 67), (9, 76), (10, 80), (11, 89), (12, 98), (13, 108), (14, 117), (15, 121), (16, 130), (17, 139), (18, 150), (19, 154), (20, 158), (21, 162), (22, 171), (23, 180), (24, 184), (25, 193), (26, 202), (27, 211), (28, 226), (29, 235), (30, 244), (31, 254), (32, 263), (33, 272), (34, 281), (35, 287), (36, 296), (37, 305)]),
  ([xLdA 1, xLdA 0, xLd 5, xC (.int 1), xAdd, xAld, xLdA 0, xLd 5, xC (.int 2), xAdd, xAld, xLdA 0, xLd 5, xC (.int 3), xAdd, xAld, xLdA 0, xLd 5, xC (.int 4), xAdd, xAld, xLdA 0, xLd 5, xC (.int 5), xAdd, xAld, xLdA 3], tCs 263 8 7 6),
  ([xSt 6, xLdA 2, xLdA 0, xLd 5, xC (.int 1), xAdd, xAld, xLdA 0, xLd 5, xC (.int 2), xAdd, xAld, xLdA 0, xLd 5, xC (.int 3), xAdd, xAld, xLdA 0, xLd 5, xC (.int 4), xAdd, xAld, xLdA 0, xLd 5, xC (.int 5), xAdd, xAld], tCv 164 9 6 5 7 (some [])),
  ([xSt 7, xLdA 2], tCv 156 1 6 0 8 (some [])),
  ([xLd 6], tEq 10 9),
  ([xC (.int 0)], tRetZ),
  ([xLd 6], tNe0 13 11),
  ([xLdA 3, xC (.int 0), xLld, xLd 7, xI2L, xLcmp], tEq0 13 12),
  ([xC (.int 0)], tRetZ),
  ([], tGo 314),
  ([xLdA 1], tCv 94 2 5 0 15 (some [])),
  ([xLdA 2], tCv 180 1 6 0 16 (some [])),
  ([], tEq 314 17),
  ([xC (.int 0)], tRetZ),
  ([xLdA 1], tCv 95 1 5 0 19 (some [])),
  ([xLdA 2], tCv 181 1 6 0 20 (some [])),
  ([], tEq 314 21),
  ([xC (.int 0)], tRetZ),
  ([xLdA 1, xLdA 0, xLd 5, xC (.int 1), xAdd, xAld, xLdA 3], tCs 264 4 3 23),
  ([xSt 6, xLdA 2, xLdA 0, xLd 5, xC (.int 1), xAdd, xAld], tCv 219 2 6 1 24 (some [])),
  ([xSt 7, xLdA 2], tCv 156 1 6 0 25 (some [])),
  ([xLd 6], tEq 27 26),
  ([xC (.int 0)], tRetZ),
  ([xLd 6], tNe0 30 28),
  ([xLdA 3, xC (.int 0), xLld, xLd 7, xI2L, xLcmp], tEq0 30 29),
  ([xC (.int 0)], tRetZ),
  ([], tGo 314),
  ([xLdA 1, xLdA 0, xLd 5, xC (.int 1), xAdd, xAld, xLdA 0, xLd 5, xC (.int 2), xAdd, xAld, xLdA 3], tCs 265 5 4 32),
  ([xSt 6, xLdA 2, xLdA 0, xLd 5, xC (.int 1), xAdd, xAld, xLdA 0, xLd 5, xC (.int 2), xAdd, xAld], tCv 220 3 6 2 33 (some [])),
  ([xSt 7, xLdA 2], tCv 156 1 6 0 34 (some [])),
  ([xLd 6], tEq 36 35),
  ([xC (.int 0)], tRetZ),
  ([xLd 6], tNe0 39 37),
  ([xLdA 3, xC (.int 0), xLld, xLd 7, xI2L, xLcmp], tEq0 39 38),
  ([xC (.int 0)], tRetZ),
  ([], tGo 314),
  ([xLdA 1, xLdA 0, xLd 5, xC (.int 1), xAdd, xAld, xLdA 0, xLd 5, xC (.int 2), xAdd, xAld, xLdA 0, xLd 5, xC (.int 3), xAdd, xAld, xLdA 3], tCs 266 6 5 41),
  ([xSt 6, xLdA 2, xLdA 0, xLd 5, xC (.int 1), xAdd, xAld, xLdA 0, xLd 5, xC (.int 2), xAdd, xAld, xLdA 0, xLd 5, xC (.int 3), xAdd, xAld], tCv 221 4 6 3 42 (some [])),
  ([xSt 7, xLdA 2], tCv 156 1 6 0 43 (some [])),
  ([xLd 6], tEq 45 44),
  ([xC (.int 0)], tRetZ),
  ([xLd 6], tNe0 48 46),
  ([xLdA 3, xC (.int 0), xLld, xLd 7, xI2L, xLcmp], tEq0 48 47),
  ([xC (.int 0)], tRetZ),
  ([], tGo 314),
  ([xLdA 1, xLdA 0, xLd 5, xC (.int 1), xAdd, xAld, xLdA 3], tCs 267 4 3 50),
  ([xSt 6, xLdA 2, xLdA 0, xLd 5, xC (.int 1), xAdd, xAld], tCv 222 2 6 1 51 (some [])),
  ([xSt 7, xLdA 2], tCv 156 1 6 0 52 (some [])),
  ([xLd 6], tEq 54 53),
  ([xC (.int 0)], tRetZ),
  ([xLd 6], tNe0 57 55),
  ([xLdA 3, xC (.int 0), xLld, xLd 7, xI2L, xLcmp], tEq0 57 56),
  ([xC (.int 0)], tRetZ),
  ([], tGo 314),
  ([xLdA 1, xLdA 0, xLd 5, xC (.int 1), xAdd, xAld, xLdA 0, xLd 5, xC (.int 2), xAdd, xAld, xLdA 0, xLd 5, xC (.int 3), xAdd, xAld, xLdA 3], tCs 268 6 5 59),
  ([xSt 6, xLdA 2, xLdA 0, xLd 5, xC (.int 1), xAdd, xAld, xLdA 0, xLd 5, xC (.int 2), xAdd, xAld, xLdA 0, xLd 5, xC (.int 3), xAdd, xAld], tCv 223 4 6 3 60 (some [])),
  ([xSt 7, xLdA 2], tCv 156 1 6 0 61 (some [])),
  ([xLd 6], tEq 63 62),
  ([xC (.int 0)], tRetZ),
  ([xLd 6], tNe0 66 64),
  ([xLdA 3, xC (.int 0), xLld, xLd 7, xI2L, xLcmp], tEq0 66 65),
  ([xC (.int 0)], tRetZ),
  ([], tGo 314),
  ([xLdA 1, xLdA 0, xLd 5, xC (.int 1), xAdd, xAld, xLdA 0, xLd 5, xC (.int 2), xAdd, xAld, xLdA 0, xLd 5, xC (.int 3), xAdd, xAld, xLdA 0, xLd 5, xC (.int 4), xAdd, xAld, xLdA 3], tCs 269 7 6 68),
  ([xSt 6, xLdA 2, xLdA 0, xLd 5, xC (.int 1), xAdd, xAld, xLdA 0, xLd 5, xC (.int 2), xAdd, xAld, xLdA 0, xLd 5, xC (.int 3), xAdd, xAld, xLdA 0, xLd 5, xC (.int 4), xAdd, xAld], tCv 225 5 6 4 69 (some [])),
  ([xSt 7, xLdA 2], tCv 156 1 6 0 70 (some [])),
  ([xLd 6], tEq 72 71),
  ([xC (.int 0)], tRetZ),
  ([xLd 6], tNe0 75 73),
  ([xLdA 3, xC (.int 0), xLld, xLd 7, xI2L, xLcmp], tEq0 75 74),
  ([xC (.int 0)], tRetZ),
  ([], tGo 314),
  ([xLdA 1], tCv 102 1 5 0 77 (some [])),
  ([xLdA 2], tCv 226 1 6 0 78 (some [])),
  ([], tEq 314 79),
  ([xC (.int 0)], tRetZ),
  ([xLdA 1, xLdA 0, xLd 5, xC (.int 1), xAdd, xAld, xLdA 0, xLd 5, xC (.int 2), xAdd, xAld, xLdA 3], tCs 270 5 4 81),
  ([xSt 6, xLdA 2, xLdA 0, xLd 5, xC (.int 1), xAdd, xAld, xLdA 0, xLd 5, xC (.int 2), xAdd, xAld], tCv 227 3 6 2 82 (some [])),
  ([xSt 7, xLdA 2], tCv 156 1 6 0 83 (some [])),
  ([xLd 6], tEq 85 84),
  ([xC (.int 0)], tRetZ),
  ([xLd 6], tNe0 88 86),
  ([xLdA 3, xC (.int 0), xLld, xLd 7, xI2L, xLcmp], tEq0 88 87),
  ([xC (.int 0)], tRetZ),
  ([], tGo 314),
  ([xLdA 1, xLdA 0, xLd 5, xC (.int 1), xAdd, xAld, xLdA 0, xLd 5, xC (.int 2), xAdd, xAld, xLdA 3], tCs 271 5 4 90),
  ([xSt 6, xLdA 2, xLdA 0, xLd 5, xC (.int 1), xAdd, xAld, xLdA 0, xLd 5, xC (.int 2), xAdd, xAld], tCv 228 5 6 2 91 (some [])),
  ([xSt 7, xLdA 2], tCv 156 1 6 0 92 (some [])),
  ([xLd 6], tEq 94 93),
  ([xC (.int 0)], tRetZ),
  ([xLd 6], tNe0 97 95),
  ([xLdA 3, xC (.int 0), xLld, xLd 7, xI2L, xLcmp], tEq0 97 96),
  ([xC (.int 0)], tRetZ),
  ([], tGo 314),
  ([xLdA 1, xLdA 0, xLd 5, xC (.int 1), xAdd, xAld], tEq0 100 99),
  ([xC (.int 1)], tGo 101),
  ([xC (.int 0)], tGo 101),
  ([], tCv 105 2 5 1 102 (some [])),
  ([xLdA 2, xLdA 0, xLd 5, xC (.int 1), xAdd, xAld], tEq0 104 103),
  ([xC (.int 1)], tGo 105),
  ([xC (.int 0)], tGo 105),
  ([], tCv 229 6 6 1 106 (some [])),
  ([xLcmp], tEq0 314 107),
  ([xC (.int 0)], tRetZ),
  ([xLdA 1, xLdA 0, xLd 5, xC (.int 1), xAdd, xAld, xLdA 0, xLd 5, xC (.int 2), xAdd, xAld, xLdA 0, xLd 5, xC (.int 3), xAdd, xAld, xLdA 3], tCs 272 6 5 109),
  ([xSt 6, xLdA 2, xLdA 0, xLd 5, xC (.int 1), xAdd, xAld, xLdA 0, xLd 5, xC (.int 2), xAdd, xAld, xLdA 0, xLd 5, xC (.int 3), xAdd, xAld], tCv 230 6 6 3 110 (some [])),
  ([xSt 7, xLdA 2], tCv 156 1 6 0 111 (some [])),
  ([xLd 6], tEq 113 112),
  ([xC (.int 0)], tRetZ),
  ([xLd 6], tNe0 116 114),
  ([xLdA 3, xC (.int 0), xLld, xLd 7, xI2L, xLcmp], tEq0 116 115),
  ([xC (.int 0)], tRetZ),
  ([], tGo 314),
  ([xLdA 1], tCv 107 1 5 0 118 (some [])),
  ([xLdA 2], tCv 232 4 6 0 119 (some [])),
  ([], tEq 314 120),
  ([xC (.int 0)], tRetZ),
  ([xLdA 1, xLdA 0, xLd 5, xC (.int 1), xAdd, xAld, xLdA 3], tCs 273 4 3 122),
  ([xSt 6, xLdA 2, xLdA 0, xLd 5, xC (.int 1), xAdd, xAld], tCv 233 5 6 1 123 (some [])),
  ([xSt 7, xLdA 2], tCv 156 1 6 0 124 (some [])),
  ([xLd 6], tEq 126 125),
  ([xC (.int 0)], tRetZ),
  ([xLd 6], tNe0 129 127),
  ([xLdA 3, xC (.int 0), xLld, xLd 7, xI2L, xLcmp], tEq0 129 128),
  ([xC (.int 0)], tRetZ),
  ([], tGo 314),
  ([xLdA 1, xLdA 3], tCs 274 3 2 131),
  ([xSt 6, xLdA 2], tCv 235 5 6 0 132 (some [])),
  ([xSt 7, xLdA 2], tCv 156 1 6 0 133 (some [])),
  ([xLd 6], tEq 135 134),
  ([xC (.int 0)], tRetZ),
  ([xLd 6], tNe0 138 136),
  ([xLdA 3, xC (.int 0), xLld, xLd 7, xI2L, xLcmp], tEq0 138 137),
  ([xC (.int 0)], tRetZ),
  ([], tGo 314),
  ([xLdA 1, xLdA 4], tCs 275 3 2 140),
  ([xSt 6, xLdA 2], tCv 236 2 6 0 141 (some [])),
  ([xStD 7, xLdA 2], tCv 156 1 6 0 142 (some [])),
  ([xLd 6], tEq 144 143),
  ([xC (.int 0)], tRetZ),
  ([xLd 6], tNe0 149 145),
  ([xLdA 4, xC (.int 0), xDld, xLdD 7, (xDcmp .l)], tEq0 149 146),
  ([xLdA 4, xC (.int 0), xDld, xLdA 4, xC (.int 0), xDld, (xDcmp .l)], tEq0 148 147),
  ([xLdD 7, xLdD 7, (xDcmp .l)], tNe0 149 148),
  ([xC (.int 0)], tRetZ),
  ([], tGo 314),
  ([xLdA 1], tCv 111 5 5 0 151 (some [])),
  ([xLdA 2], tCv 240 3 6 0 152 (some [])),
  ([], tEq 314 153),
  ([xC (.int 0)], tRetZ),
  ([xLdA 1], tCv 112 3 5 0 155 (some [])),
  ([xLdA 2], tCv 241 2 6 0 156 (some [])),
  ([], tEq 314 157),
  ([xC (.int 0)], tRetZ),
  ([xLdA 1], tCv 113 1 5 0 159 (some [])),
  ([xLdA 2], tCv 242 2 6 0 160 (some [])),
  ([], tEq 314 161),
  ([xC (.int 0)], tRetZ),
  ([xLdA 1, xLdA 0, xLd 5, xC (.int 1), xAdd, xAld, xLdA 3], tCs 276 4 3 163),
  ([xSt 6, xLdA 2, xLdA 0, xLd 5, xC (.int 1), xAdd, xAld], tCv 246 2 6 1 164 (some [])),
  ([xSt 7, xLdA 2], tCv 156 1 6 0 165 (some [])),
  ([xLd 6], tEq 167 166),
  ([xC (.int 0)], tRetZ),
  ([xLd 6], tNe0 170 168),
  ([xLdA 3, xC (.int 0), xLld, xLd 7, xI2L, xLcmp], tEq0 170 169),
  ([xC (.int 0)], tRetZ),
  ([], tGo 314),
  ([xLdA 1, xLdA 0, xLd 5, xC (.int 1), xAdd, xAld, xLdA 3], tCs 277 4 3 172),
  ([xSt 6, xLdA 2, xLdA 0, xLd 5, xC (.int 1), xAdd, xAld], tCv 247 7 6 1 173 (some [])),
  ([xSt 7, xLdA 2], tCv 156 1 6 0 174 (some [])),
  ([xLd 6], tEq 176 175),
  ([xC (.int 0)], tRetZ),
  ([xLd 6], tNe0 179 177),
  ([xLdA 3, xC (.int 0), xLld, xLd 7, xI2L, xLcmp], tEq0 179 178),
  ([xC (.int 0)], tRetZ),
  ([], tGo 314),
  ([xLdA 1], tCv 116 5 5 0 181 (some [])),
  ([xLdA 2], tCv 248 6 6 0 182 (some [])),
  ([], tEq 314 183),
  ([xC (.int 0)], tRetZ),
  ([xLdA 1, xLdA 0, xLd 5, xC (.int 1), xAdd, xAld, xLdA 0, xLd 5, xC (.int 2), xAdd, xAld, xLdA 0, xLd 5, xC (.int 3), xAdd, xAld, xLdA 0, xLd 5, xC (.int 4), xAdd, xAld, xLdA 0, xLd 5, xC (.int 5), xAdd, xAld, xLdA 3], tCs 278 8 7 185),
  ([xSt 6, xLdA 2, xLdA 0, xLd 5, xC (.int 1), xAdd, xAld, xLdA 0, xLd 5, xC (.int 2), xAdd, xAld, xLdA 0, xLd 5, xC (.int 3), xAdd, xAld, xLdA 0, xLd 5, xC (.int 4), xAdd, xAld, xLdA 0, xLd 5, xC (.int 5), xAdd, xAld], tCv 250 8 6 5 186 (some [])),
  ([xSt 7, xLdA 2], tCv 156 1 6 0 187 (some [])),
  ([xLd 6], tEq 189 188),
  ([xC (.int 0)], tRetZ),
  ([xLd 6], tNe0 192 190),
  ([xLdA 3, xC (.int 0), xLld, xLd 7, xI2L, xLcmp], tEq0 192 191),
  ([xC (.int 0)], tRetZ),
  ([], tGo 314),
  ([xLdA 1, xLdA 0, xLd 5, xC (.int 1), xAdd, xAld, xLdA 3], tCs 279 4 3 194),
  ([xSt 6, xLdA 2, xLdA 0, xLd 5, xC (.int 1), xAdd, xAld], tCv 251 3 6 1 195 (some [])),
  ([xSt 7, xLdA 2], tCv 156 1 6 0 196 (some [])),
  ([xLd 6], tEq 198 197),
  ([xC (.int 0)], tRetZ),
  ([xLd 6], tNe0 201 199),
  ([xLdA 3, xC (.int 0), xLld, xLd 7, xI2L, xLcmp], tEq0 201 200),
  ([xC (.int 0)], tRetZ),
  ([], tGo 314),
  ([xLdA 1, xLdA 0, xLd 5, xC (.int 1), xAdd, xAld, xLdA 0, xLd 5, xC (.int 2), xAdd, xAld, xLdA 3], tCs 280 5 4 203),
  ([xSt 6, xLdA 2, xLdA 0, xLd 5, xC (.int 1), xAdd, xAld, xLdA 0, xLd 5, xC (.int 2), xAdd, xAld], tCv 253 3 6 2 204 (some [])),
  ([xSt 7, xLdA 2], tCv 156 1 6 0 205 (some [])),
  ([xLd 6], tEq 207 206),
  ([xC (.int 0)], tRetZ),
  ([xLd 6], tNe0 210 208),
  ([xLdA 3, xC (.int 0), xLld, xLd 7, xI2L, xLcmp], tEq0 210 209),
  ([xC (.int 0)], tRetZ),
  ([], tGo 314),
  ([xLdA 1, xLdA 0, xLd 5, xC (.int 1), xAdd, xAld, xLdA 0, xLd 5, xC (.int 2), xAdd, xAld, xLdA 0, xLd 5, xC (.int 3), xAdd, xAld, xLdA 0, xLd 5, xC (.int 4), xAdd, xAld], tEq0 213 212),
  ([xC (.int 1)], tGo 214),
  ([xC (.int 0)], tGo 214),
  ([xLdA 3], tCs 281 7 6 215),
  ([xSt 6, xLdA 2, xLdA 0, xLd 5, xC (.int 1), xAdd, xAld, xLdA 0, xLd 5, xC (.int 2), xAdd, xAld, xLdA 0, xLd 5, xC (.int 3), xAdd, xAld, xLdA 0, xLd 5, xC (.int 4), xAdd, xAld], tEq0 217 216),
  ([xC (.int 1)], tGo 218),
  ([xC (.int 0)], tGo 218),
  ([], tCv 254 7 6 4 219 (some [])),
  ([xSt 7, xLdA 2], tCv 156 1 6 0 220 (some [])),
  ([xLd 6], tEq 222 221),
  ([xC (.int 0)], tRetZ),
  ([xLd 6], tNe0 225 223),
  ([xLdA 3, xC (.int 0), xLld, xLd 7, xI2L, xLcmp], tEq0 225 224),
  ([xC (.int 0)], tRetZ),
  ([], tGo 314),
  ([xLdA 1, xLdA 0, xLd 5, xC (.int 1), xAdd, xAld, xLdA 0, xLd 5, xC (.int 2), xAdd, xAld, xLdA 3], tCs 282 5 4 227),
  ([xSt 6, xLdA 2, xLdA 0, xLd 5, xC (.int 1), xAdd, xAld, xLdA 0, xLd 5, xC (.int 2), xAdd, xAld], tCv 255 3 6 2 228 (some [])),
  ([xSt 7, xLdA 2], tCv 156 1 6 0 229 (some [])),
  ([xLd 6], tEq 231 230),
  ([xC (.int 0)], tRetZ),
  ([xLd 6], tNe0 234 232),
  ([xLdA 3, xC (.int 0), xLld, xLd 7, xI2L, xLcmp], tEq0 234 233),
  ([xC (.int 0)], tRetZ),
  ([], tGo 314),
  ([xLdA 1, xLdA 0, xLd 5, xC (.int 1), xAdd, xAld, xLdA 0, xLd 5, xC (.int 2), xAdd, xAld, xLdA 0, xLd 5, xC (.int 3), xAdd, xAld, xLdA 0, xLd 5, xC (.int 4), xAdd, xAld, xLdA 0, xLd 5, xC (.int 5), xAdd, xAld, xLdA 3], tCs 283 8 7 236),
  ([xSt 6, xLdA 2, xLdA 0, xLd 5, xC (.int 1), xAdd, xAld, xLdA 0, xLd 5, xC (.int 2), xAdd, xAld, xLdA 0, xLd 5, xC (.int 3), xAdd, xAld, xLdA 0, xLd 5, xC (.int 4), xAdd, xAld, xLdA 0, xLd 5, xC (.int 5), xAdd, xAld], tCv 256 8 6 5 237 (some [])),
  ([xSt 7, xLdA 2], tCv 156 1 6 0 238 (some [])),
  ([xLd 6], tEq 240 239),
  ([xC (.int 0)], tRetZ),
  ([xLd 6], tNe0 243 241),
  ([xLdA 3, xC (.int 0), xLld, xLd 7, xI2L, xLcmp], tEq0 243 242),
  ([xC (.int 0)], tRetZ),
  ([], tGo 314),
  ([xLdA 1, xLdA 0, xLd 5, xC (.int 1), xAdd, xAld], tEq0 246 245),
  ([xC (.int 1)], tGo 247),
  ([xC (.int 0)], tGo 247),
  ([], tCv 123 2 5 1 248 (some [])),
  ([xLdA 2, xLdA 0, xLd 5, xC (.int 1), xAdd, xAld], tEq0 250 249),
  ([xC (.int 1)], tGo 251),
  ([xC (.int 0)], tGo 251),
  ([], tCv 257 2 6 1 252 (some [])),
  ([], tEq 314 253),
  ([xC (.int 0)], tRetZ),
  ([xLdA 1, xLdA 0, xLd 5, xC (.int 1), xAdd, xAld, xLdA 3], tCs 284 4 3 255),
  ([xSt 6, xLdA 2, xLdA 0, xLd 5, xC (.int 1), xAdd, xAld], tCv 258 2 6 1 256 (some [])),
  ([xSt 7, xLdA 2], tCv 156 1 6 0 257 (some [])),
  ([xLd 6], tEq 259 258),
  ([xC (.int 0)], tRetZ),
  ([xLd 6], tNe0 262 260),
  ([xLdA 3, xC (.int 0), xLld, xLd 7, xI2L, xLcmp], tEq0 262 261),
  ([xC (.int 0)], tRetZ),
  ([], tGo 314),
  ([xLdA 1, xLdA 3], tCs 285 3 2 264),
  ([xSt 6, xLdA 2], tCv 259 5 6 0 265 (some [])),
  ([xSt 7, xLdA 2], tCv 156 1 6 0 266 (some [])),
  ([xLd 6], tEq 268 267),
  ([xC (.int 0)], tRetZ),
  ([xLd 6], tNe0 271 269),
  ([xLdA 3, xC (.int 0), xLld, xLd 7, xI2L, xLcmp], tEq0 271 270),
  ([xC (.int 0)], tRetZ),
  ([], tGo 314),
  ([xLdA 1, xLdA 3], tCs 286 3 2 273),
  ([xSt 6, xLdA 2], tCv 160 1 6 0 274 (some [])),
  ([xSt 7, xLdA 2], tCv 156 1 6 0 275 (some [])),
  ([xLd 6], tEq 277 276),
  ([xC (.int 0)], tRetZ),
  ([xLd 6], tNe0 280 278),
  ([xLdA 3, xC (.int 0), xLld, xLd 7, xI2L, xLcmp], tEq0 280 279),
  ([xC (.int 0)], tRetZ),
  ([], tGo 314),
  ([xLdA 1, xLdA 0, xLd 5, xC (.int 1), xAdd, xAld], tCs 287 3 2 282),
  ([xSt 6, xLdA 2, xLdA 0, xLd 5, xC (.int 1), xAdd, xAld], tCv 161 2 6 1 283 (some [])),
  ([xLdA 2], tCv 156 1 6 0 284 (some [])),
  ([xLd 6], tEq 286 285),
  ([xC (.int 0)], tRetZ),
  ([], tGo 314),
  ([xLdA 1, xLdA 0, xLd 5, xC (.int 1), xAdd, xAld, xLdA 3], tCs 288 4 3 288),
  ([xSt 6, xLdA 2, xLdA 0, xLd 5, xC (.int 1), xAdd, xAld], tCv 162 2 6 1 289 (some [])),
  ([xSt 7, xLdA 2], tCv 156 1 6 0 290 (some [])),
  ([xLd 6], tEq 292 291),
  ([xC (.int 0)], tRetZ),
  ([xLd 6], tNe0 295 293),
  ([xLdA 3, xC (.int 0), xLld, xLd 7, xI2L, xLcmp], tEq0 295 294),
  ([xC (.int 0)], tRetZ),
  ([], tGo 314),
  ([xLdA 1, xLdA 3], tCs 289 3 2 297),
  ([xSt 6, xLdA 2], tCv 261 3 6 0 298 (some [])),
  ([xSt 7, xLdA 2], tCv 156 1 6 0 299 (some [])),
  ([xLd 6], tEq 301 300),
  ([xC (.int 0)], tRetZ),
  ([xLd 6], tNe0 304 302),
  ([xLdA 3, xC (.int 0), xLld, xLd 7, xI2L, xLcmp], tEq0 304 303),
  ([xC (.int 0)], tRetZ),
  ([], tGo 314),
  ([xLdA 1, xLdA 0, xLd 5, xC (.int 1), xAdd, xAld, xLdA 3], tCs 290 4 3 306),
  ([xSt 6, xLdA 2, xLdA 0, xLd 5, xC (.int 1), xAdd, xAld], tCv 262 2 6 1 307 (some [])),
  ([xSt 7, xLdA 2], tCv 156 1 6 0 308 (some [])),
  ([xLd 6], tEq 310 309),
  ([xC (.int 0)], tRetZ),
  ([xLd 6], tNe0 313 311),
  ([xLdA 3, xC (.int 0), xLld, xLd 7, xI2L, xLcmp], tEq0 313 312),
  ([xC (.int 0)], tRetZ),
  ([], tGo 314),
  ([xInc 5 6], tGo 3),
  ([xC (.int 1)], tRetZ)]
/-- java/lang/Math.floorMod(II)I -/
noncomputable def B_292 : List Bk := [([xLd 0, xLd 1, xRem, xSt 2, xLd 0, xLd 1, xXor], tGe0 3 1),
  ([xLd 2], tEq0 3 2),
  ([xLd 2, xLd 1, xAdd], tRet),
  ([xLd 2], tRet)]
/-- java/lang/Integer.bitCount(I)I -/
noncomputable def B_293 : List Bk := [([xLd 0, xLd 0, xC (.int 1), xUshr, xC (.int 1431655765), xAnd, xSub, xSt 0, xLd 0, xC (.int 858993459), xAnd, xLd 0, xC (.int 2), xUshr, xC (.int 858993459), xAnd, xAdd, xSt 0, xLd 0, xLd 0, xC (.int 4), xUshr, xAdd, xC (.int 252645135), xAnd, xSt 0, xLd 0, xLd 0, xC (.int 8), xUshr, xAdd, xSt 0, xLd 0, xLd 0, xC (.int 16), xUshr, xAdd, xSt 0, xLd 0, xC (.int 63), xAnd], tRet)]
/-- java/lang/String.length()I -/
noncomputable def B_294 : List Bk := [([xLdA 0, xSval, xBlen, xLdA 0], tCx 296 1 0 1),
  ([xShr], tRet)]
/-- java/lang/String.charAt(I)C -/
noncomputable def B_295 : List Bk := [([xLdA 0], tCx 297 1 0 1),
  ([], tEq0 4 2),
  ([xLdA 0, xSval, xLd 1], tCs 298 2 2 3),
  ([], tRetC),
  ([xLdA 0, xSval, xLd 1], tBad)]
/-- java/lang/String.coder()B -/
noncomputable def B_296 : List Bk := [([xC (.int 1)], tEq0 2 1),
  ([xLdA 0, xScod], tGo 3),
  ([xC (.int 1)], tGo 3),
  ([], tRetY)]
/-- java/lang/String.isLatin1()Z -/
noncomputable def B_297 : List Bk := [([xC (.int 1)], tEq0 3 1),
  ([xLdA 0, xScod], tNe0 3 2),
  ([xC (.int 1)], tGo 4),
  ([xC (.int 0)], tGo 4),
  ([], tRetZ)]
/-- java/lang/StringLatin1.charAt([BI)C -/
noncomputable def B_298 : List Bk := [([xLd 1, xLdA 0, xBlen, xChk, xLdA 0, xLd 1, xBld, xC (.int 255), xAnd, xI2c], tRetC)]
noncomputable def progB : List (List Bk) := [B_0, B_1, B_2, B_3, B_4, B_5, B_6, B_7, B_8, B_9, B_10, B_11, B_12, B_13, B_14, B_15, B_16, B_17, B_18, B_19, B_20, B_21, B_22, B_23, B_24, B_25, B_26, B_27, B_28, B_29, B_30, B_31, B_32, B_33, B_34, B_35, B_36, B_37, B_38, B_39, B_40, B_41, B_42, B_43, B_44, B_45, B_46, B_47, B_48, B_49, B_50, B_51, B_52, B_53, B_54, B_55, B_56, B_57, B_58, B_59, B_60, B_61, B_62, B_63, B_64, B_65, B_66, B_67, B_68, B_69, B_70, B_71, B_72, B_73, B_74, B_75, B_76, B_77, B_78, B_79, B_80, B_81, B_82, B_83, B_84, B_85, B_86, B_87, B_88, B_89, B_90, B_91, B_92, B_93, B_94, B_95, B_96, B_97, B_98, B_99, B_100, B_101, B_102, B_103, B_104, B_105, B_106, B_107, B_108, B_109, B_110, B_111, B_112, B_113, B_114, B_115, B_116, B_117, B_118, B_119, B_120, B_121, B_122, B_123, B_124, B_125, B_126, B_127, B_128, B_129, B_130, B_131, B_132, B_133, B_134, B_135, B_136, B_137, B_138, B_139, B_140, B_141, B_142, B_143, B_144, B_145, B_146, B_147, B_148, B_149, B_150, B_151, B_152, B_153, B_154, B_155, B_156, B_157, B_158, B_159, B_160, B_161, B_162, B_163, B_164, B_165, B_166, B_167, B_168, B_169, B_170, B_171, B_172, B_173, B_174, B_175, B_176, B_177, B_178, B_179, B_180, B_181, B_182, B_183, B_184, B_185, B_186, B_187, B_188, B_189, B_190, B_191, B_192, B_193, B_194, B_195, B_196, B_197, B_198, B_199, B_200, B_201, B_202, B_203, B_204, B_205, B_206, B_207, B_208, B_209, B_210, B_211, B_212, B_213, B_214, B_215, B_216, B_217, B_218, B_219, B_220, B_221, B_222, B_223, B_224, B_225, B_226, B_227, B_228, B_229, B_230, B_231, B_232, B_233, B_234, B_235, B_236, B_237, B_238, B_239, B_240, B_241, B_242, B_243, B_244, B_245, B_246, B_247, B_248, B_249, B_250, B_251, B_252, B_253, B_254, B_255, B_256, B_257, B_258, B_259, B_260, B_261, B_262, B_263, B_264, B_265, B_266, B_267, B_268, B_269, B_270, B_271, B_272, B_273, B_274, B_275, B_276, B_277, B_278, B_279, B_280, B_281, B_282, B_283, B_284, B_285, B_286, B_287, B_288, B_289, B_290, B_291, B_292, B_293, B_294, B_295, B_296, B_297, B_298]
def progN : List Nat := [1, 2, 2, 6, 3, 3, 4, 4, 2, 4, 3, 3, 3, 3, 4, 3, 2, 4, 3, 10, 4, 7, 11, 10, 2, 3, 6, 7, 1, 1, 3, 2, 2, 3, 7, 9, 6, 8, 7, 4, 5, 4, 4, 4, 4, 4, 5, 3, 2, 2, 3, 6, 11, 2, 4, 6, 2, 3, 5, 4, 8, 2, 2, 3, 2, 2, 2, 4, 4, 1, 4, 2, 5, 2, 4, 1, 3, 6, 4, 5, 3, 4, 1, 2, 2, 1, 1, 4, 3, 1, 2, 2, 1, 7, 2, 1, 2, 3, 4, 2, 4, 5, 1, 3, 3, 2, 4, 1, 5, 4, 2, 5, 3, 1, 2, 6, 5, 6, 2, 4, 7, 4, 7, 2, 2, 5, 1, 2, 2, 3, 2, 2, 3, 2, 2, 2, 2, 1, 1, 2, 3, 2, 3, 3, 2, 1, 2, 2, 2, 2, 3, 1, 6, 7, 2, 5, 1, 3, 5, 3, 1, 2, 2, 7, 9, 2, 2, 2, 1, 1, 1, 3, 2, 2, 1, 5, 1, 3, 6, 5, 1, 1, 1, 2, 2, 3, 3, 2, 2, 3, 1, 2, 3, 2, 5, 8, 3, 3, 6, 2, 4, 5, 2, 2, 6, 6, 9, 6, 3, 7, 6, 3, 1, 1, 4, 4, 5, 4, 3, 2, 3, 4, 2, 4, 1, 5, 1, 3, 5, 6, 6, 2, 4, 5, 6, 5, 2, 4, 2, 2, 3, 2, 2, 2, 4, 3, 2, 7, 6, 3, 8, 3, 4, 3, 7, 3, 8, 2, 2, 5, 2, 3, 2, 8, 4, 5, 6, 4, 6, 7, 5, 5, 6, 4, 3, 3, 4, 4, 8, 4, 5, 7, 5, 8, 4, 3, 3, 3, 4, 3, 4, 9, 3, 1, 1, 2, 1, 1, 2]
noncomputable def blk (k b : Nat) : Bk := (progB.getD k []).getD b bk0
def mxl (k : Nat) : Nat := progN.getD k 0
theorem bk_0 (b : Nat) : blk 0 b = B_0.getD b bk0 := rfl
theorem bk_1 (b : Nat) : blk 1 b = B_1.getD b bk0 := rfl
theorem bk_2 (b : Nat) : blk 2 b = B_2.getD b bk0 := rfl
theorem bk_3 (b : Nat) : blk 3 b = B_3.getD b bk0 := rfl
theorem bk_4 (b : Nat) : blk 4 b = B_4.getD b bk0 := rfl
theorem bk_5 (b : Nat) : blk 5 b = B_5.getD b bk0 := rfl
theorem bk_6 (b : Nat) : blk 6 b = B_6.getD b bk0 := rfl
theorem bk_7 (b : Nat) : blk 7 b = B_7.getD b bk0 := rfl
theorem bk_8 (b : Nat) : blk 8 b = B_8.getD b bk0 := rfl
theorem bk_9 (b : Nat) : blk 9 b = B_9.getD b bk0 := rfl
theorem bk_10 (b : Nat) : blk 10 b = B_10.getD b bk0 := rfl
theorem bk_11 (b : Nat) : blk 11 b = B_11.getD b bk0 := rfl
theorem bk_12 (b : Nat) : blk 12 b = B_12.getD b bk0 := rfl
theorem bk_13 (b : Nat) : blk 13 b = B_13.getD b bk0 := rfl
theorem bk_14 (b : Nat) : blk 14 b = B_14.getD b bk0 := rfl
theorem bk_15 (b : Nat) : blk 15 b = B_15.getD b bk0 := rfl
theorem bk_16 (b : Nat) : blk 16 b = B_16.getD b bk0 := rfl
theorem bk_17 (b : Nat) : blk 17 b = B_17.getD b bk0 := rfl
theorem bk_18 (b : Nat) : blk 18 b = B_18.getD b bk0 := rfl
theorem bk_19 (b : Nat) : blk 19 b = B_19.getD b bk0 := rfl
theorem bk_20 (b : Nat) : blk 20 b = B_20.getD b bk0 := rfl
theorem bk_21 (b : Nat) : blk 21 b = B_21.getD b bk0 := rfl
theorem bk_22 (b : Nat) : blk 22 b = B_22.getD b bk0 := rfl
theorem bk_23 (b : Nat) : blk 23 b = B_23.getD b bk0 := rfl
theorem bk_24 (b : Nat) : blk 24 b = B_24.getD b bk0 := rfl
theorem bk_25 (b : Nat) : blk 25 b = B_25.getD b bk0 := rfl
theorem bk_26 (b : Nat) : blk 26 b = B_26.getD b bk0 := rfl
theorem bk_27 (b : Nat) : blk 27 b = B_27.getD b bk0 := rfl
theorem bk_28 (b : Nat) : blk 28 b = B_28.getD b bk0 := rfl
theorem bk_29 (b : Nat) : blk 29 b = B_29.getD b bk0 := rfl
theorem bk_30 (b : Nat) : blk 30 b = B_30.getD b bk0 := rfl
theorem bk_31 (b : Nat) : blk 31 b = B_31.getD b bk0 := rfl
theorem bk_32 (b : Nat) : blk 32 b = B_32.getD b bk0 := rfl
theorem bk_33 (b : Nat) : blk 33 b = B_33.getD b bk0 := rfl
theorem bk_34 (b : Nat) : blk 34 b = B_34.getD b bk0 := rfl
theorem bk_35 (b : Nat) : blk 35 b = B_35.getD b bk0 := rfl
theorem bk_36 (b : Nat) : blk 36 b = B_36.getD b bk0 := rfl
theorem bk_37 (b : Nat) : blk 37 b = B_37.getD b bk0 := rfl
theorem bk_38 (b : Nat) : blk 38 b = B_38.getD b bk0 := rfl
theorem bk_39 (b : Nat) : blk 39 b = B_39.getD b bk0 := rfl
theorem bk_40 (b : Nat) : blk 40 b = B_40.getD b bk0 := rfl
theorem bk_41 (b : Nat) : blk 41 b = B_41.getD b bk0 := rfl
theorem bk_42 (b : Nat) : blk 42 b = B_42.getD b bk0 := rfl
theorem bk_43 (b : Nat) : blk 43 b = B_43.getD b bk0 := rfl
theorem bk_44 (b : Nat) : blk 44 b = B_44.getD b bk0 := rfl
theorem bk_45 (b : Nat) : blk 45 b = B_45.getD b bk0 := rfl
theorem bk_46 (b : Nat) : blk 46 b = B_46.getD b bk0 := rfl
theorem bk_47 (b : Nat) : blk 47 b = B_47.getD b bk0 := rfl
theorem bk_48 (b : Nat) : blk 48 b = B_48.getD b bk0 := rfl
theorem bk_49 (b : Nat) : blk 49 b = B_49.getD b bk0 := rfl
theorem bk_50 (b : Nat) : blk 50 b = B_50.getD b bk0 := rfl
theorem bk_51 (b : Nat) : blk 51 b = B_51.getD b bk0 := rfl
theorem bk_52 (b : Nat) : blk 52 b = B_52.getD b bk0 := rfl
theorem bk_53 (b : Nat) : blk 53 b = B_53.getD b bk0 := rfl
theorem bk_54 (b : Nat) : blk 54 b = B_54.getD b bk0 := rfl
theorem bk_55 (b : Nat) : blk 55 b = B_55.getD b bk0 := rfl
theorem bk_56 (b : Nat) : blk 56 b = B_56.getD b bk0 := rfl
theorem bk_57 (b : Nat) : blk 57 b = B_57.getD b bk0 := rfl
theorem bk_58 (b : Nat) : blk 58 b = B_58.getD b bk0 := rfl
theorem bk_59 (b : Nat) : blk 59 b = B_59.getD b bk0 := rfl
theorem bk_60 (b : Nat) : blk 60 b = B_60.getD b bk0 := rfl
theorem bk_61 (b : Nat) : blk 61 b = B_61.getD b bk0 := rfl
theorem bk_62 (b : Nat) : blk 62 b = B_62.getD b bk0 := rfl
theorem bk_63 (b : Nat) : blk 63 b = B_63.getD b bk0 := rfl
theorem bk_64 (b : Nat) : blk 64 b = B_64.getD b bk0 := rfl
theorem bk_65 (b : Nat) : blk 65 b = B_65.getD b bk0 := rfl
theorem bk_66 (b : Nat) : blk 66 b = B_66.getD b bk0 := rfl
theorem bk_67 (b : Nat) : blk 67 b = B_67.getD b bk0 := rfl
theorem bk_68 (b : Nat) : blk 68 b = B_68.getD b bk0 := rfl
theorem bk_69 (b : Nat) : blk 69 b = B_69.getD b bk0 := rfl
theorem bk_70 (b : Nat) : blk 70 b = B_70.getD b bk0 := rfl
theorem bk_71 (b : Nat) : blk 71 b = B_71.getD b bk0 := rfl
theorem bk_72 (b : Nat) : blk 72 b = B_72.getD b bk0 := rfl
theorem bk_73 (b : Nat) : blk 73 b = B_73.getD b bk0 := rfl
theorem bk_74 (b : Nat) : blk 74 b = B_74.getD b bk0 := rfl
theorem bk_75 (b : Nat) : blk 75 b = B_75.getD b bk0 := rfl
theorem bk_76 (b : Nat) : blk 76 b = B_76.getD b bk0 := rfl
theorem bk_77 (b : Nat) : blk 77 b = B_77.getD b bk0 := rfl
theorem bk_78 (b : Nat) : blk 78 b = B_78.getD b bk0 := rfl
theorem bk_79 (b : Nat) : blk 79 b = B_79.getD b bk0 := rfl
theorem bk_80 (b : Nat) : blk 80 b = B_80.getD b bk0 := rfl
theorem bk_81 (b : Nat) : blk 81 b = B_81.getD b bk0 := rfl
theorem bk_82 (b : Nat) : blk 82 b = B_82.getD b bk0 := rfl
theorem bk_83 (b : Nat) : blk 83 b = B_83.getD b bk0 := rfl
theorem bk_84 (b : Nat) : blk 84 b = B_84.getD b bk0 := rfl
theorem bk_85 (b : Nat) : blk 85 b = B_85.getD b bk0 := rfl
theorem bk_86 (b : Nat) : blk 86 b = B_86.getD b bk0 := rfl
theorem bk_87 (b : Nat) : blk 87 b = B_87.getD b bk0 := rfl
theorem bk_88 (b : Nat) : blk 88 b = B_88.getD b bk0 := rfl
theorem bk_89 (b : Nat) : blk 89 b = B_89.getD b bk0 := rfl
theorem bk_90 (b : Nat) : blk 90 b = B_90.getD b bk0 := rfl
theorem bk_91 (b : Nat) : blk 91 b = B_91.getD b bk0 := rfl
theorem bk_92 (b : Nat) : blk 92 b = B_92.getD b bk0 := rfl
theorem bk_93 (b : Nat) : blk 93 b = B_93.getD b bk0 := rfl
theorem bk_94 (b : Nat) : blk 94 b = B_94.getD b bk0 := rfl
theorem bk_95 (b : Nat) : blk 95 b = B_95.getD b bk0 := rfl
theorem bk_96 (b : Nat) : blk 96 b = B_96.getD b bk0 := rfl
theorem bk_97 (b : Nat) : blk 97 b = B_97.getD b bk0 := rfl
theorem bk_98 (b : Nat) : blk 98 b = B_98.getD b bk0 := rfl
theorem bk_99 (b : Nat) : blk 99 b = B_99.getD b bk0 := rfl
theorem bk_100 (b : Nat) : blk 100 b = B_100.getD b bk0 := rfl
theorem bk_101 (b : Nat) : blk 101 b = B_101.getD b bk0 := rfl
theorem bk_102 (b : Nat) : blk 102 b = B_102.getD b bk0 := rfl
theorem bk_103 (b : Nat) : blk 103 b = B_103.getD b bk0 := rfl
theorem bk_104 (b : Nat) : blk 104 b = B_104.getD b bk0 := rfl
theorem bk_105 (b : Nat) : blk 105 b = B_105.getD b bk0 := rfl
theorem bk_106 (b : Nat) : blk 106 b = B_106.getD b bk0 := rfl
theorem bk_107 (b : Nat) : blk 107 b = B_107.getD b bk0 := rfl
theorem bk_108 (b : Nat) : blk 108 b = B_108.getD b bk0 := rfl
theorem bk_109 (b : Nat) : blk 109 b = B_109.getD b bk0 := rfl
theorem bk_110 (b : Nat) : blk 110 b = B_110.getD b bk0 := rfl
theorem bk_111 (b : Nat) : blk 111 b = B_111.getD b bk0 := rfl
theorem bk_112 (b : Nat) : blk 112 b = B_112.getD b bk0 := rfl
theorem bk_113 (b : Nat) : blk 113 b = B_113.getD b bk0 := rfl
theorem bk_114 (b : Nat) : blk 114 b = B_114.getD b bk0 := rfl
theorem bk_115 (b : Nat) : blk 115 b = B_115.getD b bk0 := rfl
theorem bk_116 (b : Nat) : blk 116 b = B_116.getD b bk0 := rfl
theorem bk_117 (b : Nat) : blk 117 b = B_117.getD b bk0 := rfl
theorem bk_118 (b : Nat) : blk 118 b = B_118.getD b bk0 := rfl
theorem bk_119 (b : Nat) : blk 119 b = B_119.getD b bk0 := rfl
theorem bk_120 (b : Nat) : blk 120 b = B_120.getD b bk0 := rfl
theorem bk_121 (b : Nat) : blk 121 b = B_121.getD b bk0 := rfl
theorem bk_122 (b : Nat) : blk 122 b = B_122.getD b bk0 := rfl
theorem bk_123 (b : Nat) : blk 123 b = B_123.getD b bk0 := rfl
theorem bk_124 (b : Nat) : blk 124 b = B_124.getD b bk0 := rfl
theorem bk_125 (b : Nat) : blk 125 b = B_125.getD b bk0 := rfl
theorem bk_126 (b : Nat) : blk 126 b = B_126.getD b bk0 := rfl
theorem bk_127 (b : Nat) : blk 127 b = B_127.getD b bk0 := rfl
theorem bk_128 (b : Nat) : blk 128 b = B_128.getD b bk0 := rfl
theorem bk_129 (b : Nat) : blk 129 b = B_129.getD b bk0 := rfl
theorem bk_130 (b : Nat) : blk 130 b = B_130.getD b bk0 := rfl
theorem bk_131 (b : Nat) : blk 131 b = B_131.getD b bk0 := rfl
theorem bk_132 (b : Nat) : blk 132 b = B_132.getD b bk0 := rfl
theorem bk_133 (b : Nat) : blk 133 b = B_133.getD b bk0 := rfl
theorem bk_134 (b : Nat) : blk 134 b = B_134.getD b bk0 := rfl
theorem bk_135 (b : Nat) : blk 135 b = B_135.getD b bk0 := rfl
theorem bk_136 (b : Nat) : blk 136 b = B_136.getD b bk0 := rfl
theorem bk_137 (b : Nat) : blk 137 b = B_137.getD b bk0 := rfl
theorem bk_138 (b : Nat) : blk 138 b = B_138.getD b bk0 := rfl
theorem bk_139 (b : Nat) : blk 139 b = B_139.getD b bk0 := rfl
theorem bk_140 (b : Nat) : blk 140 b = B_140.getD b bk0 := rfl
theorem bk_141 (b : Nat) : blk 141 b = B_141.getD b bk0 := rfl
theorem bk_142 (b : Nat) : blk 142 b = B_142.getD b bk0 := rfl
theorem bk_143 (b : Nat) : blk 143 b = B_143.getD b bk0 := rfl
theorem bk_144 (b : Nat) : blk 144 b = B_144.getD b bk0 := rfl
theorem bk_145 (b : Nat) : blk 145 b = B_145.getD b bk0 := rfl
theorem bk_146 (b : Nat) : blk 146 b = B_146.getD b bk0 := rfl
theorem bk_147 (b : Nat) : blk 147 b = B_147.getD b bk0 := rfl
theorem bk_148 (b : Nat) : blk 148 b = B_148.getD b bk0 := rfl
theorem bk_149 (b : Nat) : blk 149 b = B_149.getD b bk0 := rfl
theorem bk_150 (b : Nat) : blk 150 b = B_150.getD b bk0 := rfl
theorem bk_151 (b : Nat) : blk 151 b = B_151.getD b bk0 := rfl
theorem bk_152 (b : Nat) : blk 152 b = B_152.getD b bk0 := rfl
theorem bk_153 (b : Nat) : blk 153 b = B_153.getD b bk0 := rfl
theorem bk_154 (b : Nat) : blk 154 b = B_154.getD b bk0 := rfl
theorem bk_155 (b : Nat) : blk 155 b = B_155.getD b bk0 := rfl
theorem bk_156 (b : Nat) : blk 156 b = B_156.getD b bk0 := rfl
theorem bk_157 (b : Nat) : blk 157 b = B_157.getD b bk0 := rfl
theorem bk_158 (b : Nat) : blk 158 b = B_158.getD b bk0 := rfl
theorem bk_159 (b : Nat) : blk 159 b = B_159.getD b bk0 := rfl
theorem bk_160 (b : Nat) : blk 160 b = B_160.getD b bk0 := rfl
theorem bk_161 (b : Nat) : blk 161 b = B_161.getD b bk0 := rfl
theorem bk_162 (b : Nat) : blk 162 b = B_162.getD b bk0 := rfl
theorem bk_163 (b : Nat) : blk 163 b = B_163.getD b bk0 := rfl
theorem bk_164 (b : Nat) : blk 164 b = B_164.getD b bk0 := rfl
theorem bk_165 (b : Nat) : blk 165 b = B_165.getD b bk0 := rfl
theorem bk_166 (b : Nat) : blk 166 b = B_166.getD b bk0 := rfl
theorem bk_167 (b : Nat) : blk 167 b = B_167.getD b bk0 := rfl
theorem bk_168 (b : Nat) : blk 168 b = B_168.getD b bk0 := rfl
theorem bk_169 (b : Nat) : blk 169 b = B_169.getD b bk0 := rfl
theorem bk_170 (b : Nat) : blk 170 b = B_170.getD b bk0 := rfl
theorem bk_171 (b : Nat) : blk 171 b = B_171.getD b bk0 := rfl
theorem bk_172 (b : Nat) : blk 172 b = B_172.getD b bk0 := rfl
theorem bk_173 (b : Nat) : blk 173 b = B_173.getD b bk0 := rfl
theorem bk_174 (b : Nat) : blk 174 b = B_174.getD b bk0 := rfl
theorem bk_175 (b : Nat) : blk 175 b = B_175.getD b bk0 := rfl
theorem bk_176 (b : Nat) : blk 176 b = B_176.getD b bk0 := rfl
theorem bk_177 (b : Nat) : blk 177 b = B_177.getD b bk0 := rfl
theorem bk_178 (b : Nat) : blk 178 b = B_178.getD b bk0 := rfl
theorem bk_179 (b : Nat) : blk 179 b = B_179.getD b bk0 := rfl
theorem bk_180 (b : Nat) : blk 180 b = B_180.getD b bk0 := rfl
theorem bk_181 (b : Nat) : blk 181 b = B_181.getD b bk0 := rfl
theorem bk_182 (b : Nat) : blk 182 b = B_182.getD b bk0 := rfl
theorem bk_183 (b : Nat) : blk 183 b = B_183.getD b bk0 := rfl
theorem bk_184 (b : Nat) : blk 184 b = B_184.getD b bk0 := rfl
theorem bk_185 (b : Nat) : blk 185 b = B_185.getD b bk0 := rfl
theorem bk_186 (b : Nat) : blk 186 b = B_186.getD b bk0 := rfl
theorem bk_187 (b : Nat) : blk 187 b = B_187.getD b bk0 := rfl
theorem bk_188 (b : Nat) : blk 188 b = B_188.getD b bk0 := rfl
theorem bk_189 (b : Nat) : blk 189 b = B_189.getD b bk0 := rfl
theorem bk_190 (b : Nat) : blk 190 b = B_190.getD b bk0 := rfl
theorem bk_191 (b : Nat) : blk 191 b = B_191.getD b bk0 := rfl
theorem bk_192 (b : Nat) : blk 192 b = B_192.getD b bk0 := rfl
theorem bk_193 (b : Nat) : blk 193 b = B_193.getD b bk0 := rfl
theorem bk_194 (b : Nat) : blk 194 b = B_194.getD b bk0 := rfl
theorem bk_195 (b : Nat) : blk 195 b = B_195.getD b bk0 := rfl
theorem bk_196 (b : Nat) : blk 196 b = B_196.getD b bk0 := rfl
theorem bk_197 (b : Nat) : blk 197 b = B_197.getD b bk0 := rfl
theorem bk_198 (b : Nat) : blk 198 b = B_198.getD b bk0 := rfl
theorem bk_199 (b : Nat) : blk 199 b = B_199.getD b bk0 := rfl
theorem bk_200 (b : Nat) : blk 200 b = B_200.getD b bk0 := rfl
theorem bk_201 (b : Nat) : blk 201 b = B_201.getD b bk0 := rfl
theorem bk_202 (b : Nat) : blk 202 b = B_202.getD b bk0 := rfl
theorem bk_203 (b : Nat) : blk 203 b = B_203.getD b bk0 := rfl
theorem bk_204 (b : Nat) : blk 204 b = B_204.getD b bk0 := rfl
theorem bk_205 (b : Nat) : blk 205 b = B_205.getD b bk0 := rfl
theorem bk_206 (b : Nat) : blk 206 b = B_206.getD b bk0 := rfl
theorem bk_207 (b : Nat) : blk 207 b = B_207.getD b bk0 := rfl
theorem bk_208 (b : Nat) : blk 208 b = B_208.getD b bk0 := rfl
theorem bk_209 (b : Nat) : blk 209 b = B_209.getD b bk0 := rfl
theorem bk_210 (b : Nat) : blk 210 b = B_210.getD b bk0 := rfl
theorem bk_211 (b : Nat) : blk 211 b = B_211.getD b bk0 := rfl
theorem bk_212 (b : Nat) : blk 212 b = B_212.getD b bk0 := rfl
theorem bk_213 (b : Nat) : blk 213 b = B_213.getD b bk0 := rfl
theorem bk_214 (b : Nat) : blk 214 b = B_214.getD b bk0 := rfl
theorem bk_215 (b : Nat) : blk 215 b = B_215.getD b bk0 := rfl
theorem bk_216 (b : Nat) : blk 216 b = B_216.getD b bk0 := rfl
theorem bk_217 (b : Nat) : blk 217 b = B_217.getD b bk0 := rfl
theorem bk_218 (b : Nat) : blk 218 b = B_218.getD b bk0 := rfl
theorem bk_219 (b : Nat) : blk 219 b = B_219.getD b bk0 := rfl
theorem bk_220 (b : Nat) : blk 220 b = B_220.getD b bk0 := rfl
theorem bk_221 (b : Nat) : blk 221 b = B_221.getD b bk0 := rfl
theorem bk_222 (b : Nat) : blk 222 b = B_222.getD b bk0 := rfl
theorem bk_223 (b : Nat) : blk 223 b = B_223.getD b bk0 := rfl
theorem bk_224 (b : Nat) : blk 224 b = B_224.getD b bk0 := rfl
theorem bk_225 (b : Nat) : blk 225 b = B_225.getD b bk0 := rfl
theorem bk_226 (b : Nat) : blk 226 b = B_226.getD b bk0 := rfl
theorem bk_227 (b : Nat) : blk 227 b = B_227.getD b bk0 := rfl
theorem bk_228 (b : Nat) : blk 228 b = B_228.getD b bk0 := rfl
theorem bk_229 (b : Nat) : blk 229 b = B_229.getD b bk0 := rfl
theorem bk_230 (b : Nat) : blk 230 b = B_230.getD b bk0 := rfl
theorem bk_231 (b : Nat) : blk 231 b = B_231.getD b bk0 := rfl
theorem bk_232 (b : Nat) : blk 232 b = B_232.getD b bk0 := rfl
theorem bk_233 (b : Nat) : blk 233 b = B_233.getD b bk0 := rfl
theorem bk_234 (b : Nat) : blk 234 b = B_234.getD b bk0 := rfl
theorem bk_235 (b : Nat) : blk 235 b = B_235.getD b bk0 := rfl
theorem bk_236 (b : Nat) : blk 236 b = B_236.getD b bk0 := rfl
theorem bk_237 (b : Nat) : blk 237 b = B_237.getD b bk0 := rfl
theorem bk_238 (b : Nat) : blk 238 b = B_238.getD b bk0 := rfl
theorem bk_239 (b : Nat) : blk 239 b = B_239.getD b bk0 := rfl
theorem bk_240 (b : Nat) : blk 240 b = B_240.getD b bk0 := rfl
theorem bk_241 (b : Nat) : blk 241 b = B_241.getD b bk0 := rfl
theorem bk_242 (b : Nat) : blk 242 b = B_242.getD b bk0 := rfl
theorem bk_243 (b : Nat) : blk 243 b = B_243.getD b bk0 := rfl
theorem bk_244 (b : Nat) : blk 244 b = B_244.getD b bk0 := rfl
theorem bk_245 (b : Nat) : blk 245 b = B_245.getD b bk0 := rfl
theorem bk_246 (b : Nat) : blk 246 b = B_246.getD b bk0 := rfl
theorem bk_247 (b : Nat) : blk 247 b = B_247.getD b bk0 := rfl
theorem bk_248 (b : Nat) : blk 248 b = B_248.getD b bk0 := rfl
theorem bk_249 (b : Nat) : blk 249 b = B_249.getD b bk0 := rfl
theorem bk_250 (b : Nat) : blk 250 b = B_250.getD b bk0 := rfl
theorem bk_251 (b : Nat) : blk 251 b = B_251.getD b bk0 := rfl
theorem bk_252 (b : Nat) : blk 252 b = B_252.getD b bk0 := rfl
theorem bk_253 (b : Nat) : blk 253 b = B_253.getD b bk0 := rfl
theorem bk_254 (b : Nat) : blk 254 b = B_254.getD b bk0 := rfl
theorem bk_255 (b : Nat) : blk 255 b = B_255.getD b bk0 := rfl
theorem bk_256 (b : Nat) : blk 256 b = B_256.getD b bk0 := rfl
theorem bk_257 (b : Nat) : blk 257 b = B_257.getD b bk0 := rfl
theorem bk_258 (b : Nat) : blk 258 b = B_258.getD b bk0 := rfl
theorem bk_259 (b : Nat) : blk 259 b = B_259.getD b bk0 := rfl
theorem bk_260 (b : Nat) : blk 260 b = B_260.getD b bk0 := rfl
theorem bk_261 (b : Nat) : blk 261 b = B_261.getD b bk0 := rfl
theorem bk_262 (b : Nat) : blk 262 b = B_262.getD b bk0 := rfl
theorem bk_263 (b : Nat) : blk 263 b = B_263.getD b bk0 := rfl
theorem bk_264 (b : Nat) : blk 264 b = B_264.getD b bk0 := rfl
theorem bk_265 (b : Nat) : blk 265 b = B_265.getD b bk0 := rfl
theorem bk_266 (b : Nat) : blk 266 b = B_266.getD b bk0 := rfl
theorem bk_267 (b : Nat) : blk 267 b = B_267.getD b bk0 := rfl
theorem bk_268 (b : Nat) : blk 268 b = B_268.getD b bk0 := rfl
theorem bk_269 (b : Nat) : blk 269 b = B_269.getD b bk0 := rfl
theorem bk_270 (b : Nat) : blk 270 b = B_270.getD b bk0 := rfl
theorem bk_271 (b : Nat) : blk 271 b = B_271.getD b bk0 := rfl
theorem bk_272 (b : Nat) : blk 272 b = B_272.getD b bk0 := rfl
theorem bk_273 (b : Nat) : blk 273 b = B_273.getD b bk0 := rfl
theorem bk_274 (b : Nat) : blk 274 b = B_274.getD b bk0 := rfl
theorem bk_275 (b : Nat) : blk 275 b = B_275.getD b bk0 := rfl
theorem bk_276 (b : Nat) : blk 276 b = B_276.getD b bk0 := rfl
theorem bk_277 (b : Nat) : blk 277 b = B_277.getD b bk0 := rfl
theorem bk_278 (b : Nat) : blk 278 b = B_278.getD b bk0 := rfl
theorem bk_279 (b : Nat) : blk 279 b = B_279.getD b bk0 := rfl
theorem bk_280 (b : Nat) : blk 280 b = B_280.getD b bk0 := rfl
theorem bk_281 (b : Nat) : blk 281 b = B_281.getD b bk0 := rfl
theorem bk_282 (b : Nat) : blk 282 b = B_282.getD b bk0 := rfl
theorem bk_283 (b : Nat) : blk 283 b = B_283.getD b bk0 := rfl
theorem bk_284 (b : Nat) : blk 284 b = B_284.getD b bk0 := rfl
theorem bk_285 (b : Nat) : blk 285 b = B_285.getD b bk0 := rfl
theorem bk_286 (b : Nat) : blk 286 b = B_286.getD b bk0 := rfl
theorem bk_287 (b : Nat) : blk 287 b = B_287.getD b bk0 := rfl
theorem bk_288 (b : Nat) : blk 288 b = B_288.getD b bk0 := rfl
theorem bk_289 (b : Nat) : blk 289 b = B_289.getD b bk0 := rfl
theorem bk_290 (b : Nat) : blk 290 b = B_290.getD b bk0 := rfl
theorem bk_291 (b : Nat) : blk 291 b = B_291.getD b bk0 := rfl
theorem bk_292 (b : Nat) : blk 292 b = B_292.getD b bk0 := rfl
theorem bk_293 (b : Nat) : blk 293 b = B_293.getD b bk0 := rfl
theorem bk_294 (b : Nat) : blk 294 b = B_294.getD b bk0 := rfl
theorem bk_295 (b : Nat) : blk 295 b = B_295.getD b bk0 := rfl
theorem bk_296 (b : Nat) : blk 296 b = B_296.getD b bk0 := rfl
theorem bk_297 (b : Nat) : blk 297 b = B_297.getD b bk0 := rfl
theorem bk_298 (b : Nat) : blk 298 b = B_298.getD b bk0 := rfl
