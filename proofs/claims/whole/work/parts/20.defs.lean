/-! The program: methods, places of blocks (from wip/whole/gen.py). -/
/-- HandFingers$Piece.<init>()V -/
def i_0 : MI := (RX0, cX0_init, 1, yX0_init, none, (3, 68), [])
def P_0 : List Nat := [0, 14, 27, 40, 53, 66, 79, 92, 105, 112]
/-- HandFingers$Piece.begin()V -/
def i_1 : MI := (RX0, cX0_begin, 2, yX0_begin, none, (2, 47), [])
def P_1 : List Nat := [0, 12, 20, 33, 39, 41, 51, 88, 94]
/-- HandFingers$Piece.copyFrom(LHandFingers$Piece;)V -/
def i_2 : MI := (RX0, cX0_copyFrom, 2, yX0_copyFrom, none, (2, 47), [])
def P_2 : List Nat := [0, 27, 38, 49, 60, 71, 82, 93, 104]
/-- HandFingers$Piece.putSpan(IIIII)V -/
def i_3 : MI := (RX0, cX0_putSpan, 6, yX0_putSpan, none, (1, 22), [])
def P_3 : List Nat := [0, 9, 13, 22, 26, 35, 40, 49, 54, 63, 68, 77, 82]
/-- HandFingers$Piece.openPlace(I)V -/
def i_4 : MI := (RX0, cX0_openPlace, 3, yX0_openPlace, none, (2, 45), [])
def P_4 : List Nat := [0, 5, 10, 18, 24, 33, 42]
/-- HandFingers$Piece.closePlace(I)V -/
def i_5 : MI := (RX0, cX0_closePlace, 3, yX0_closePlace, none, (2, 45), [])
def P_5 : List Nat := [0, 12, 20, 28, 34]
/-- HandFingers$Piece.moveEvent(II)V -/
def i_6 : MI := (RX0, cX0_moveEvent, 4, yX0_moveEvent, none, (1, 22), [])
def P_6 : List Nat := [0, 13, 16, 29, 32, 34, 39, 48, 57, 60, 63, 72, 81, 84, 87, 93]
/-- HandFingers$Piece.putNote(III)V -/
def i_7 : MI := (RX0, cX0_putNote, 4, yX0_putNote, none, (1, 22), [])
def P_7 : List Nat := [0, 9, 13, 22, 27, 38]
/-- HandFingers$Piece.canShift(I)Z -/
def i_8 : MI := (RX0, cX0_canShift, 2, yX0_canShift, (some .boolean), (3, 65), [])
def P_8 : List Nat := [0, 7, 11, 18, 22, 29, 33, 34]
/-- HandFingers$Piece.shift(I)V -/
def i_9 : MI := (RX0, cX0_shift, 4, yX0_shift, none, (2, 43), [])
def P_9 : List Nat := [0, 2, 10, 12, 21, 24, 33, 39, 44, 50, 56]
/-- HandFingers$Piece.keyOf(II)I -/
def i_10 : MI := (RX0, cX0_keyOf, 3, yX0_keyOf, (some .int), (1, 21), [])
def P_10 : List Nat := [0, 9, 12]
/-- HandFingers$Piece.allNotes()I -/
def i_11 : MI := (RX0, cX0_allNotes, 3, yX0_allNotes, (some .int), (1, 21), [])
def P_11 : List Nat := [0, 4, 12, 21, 29]
/-- HandFingers$Piece.leastKey()I -/
def i_12 : MI := (RX0, cX0_leastKey, 3, yX0_leastKey, (some .int), (2, 43), [])
def P_12 : List Nat := [0, 4, 12, 19, 22, 29]
/-- HandFingers$Piece.greatestKey()I -/
def i_13 : MI := (RX0, cX0_greatestKey, 3, yX0_greatestKey, (some .int), (2, 43), [])
def P_13 : List Nat := [0, 4, 12, 23, 28, 38]
/-- HandFingers$Piece.blackNotes()I -/
def i_14 : MI := (RX0, cX0_blackNotes, 4, yX0_blackNotes, (some .int), (2, 43), [])
def P_14 : List Nat := [0, 4, 12, 14, 23, 26, 33, 36, 39, 43, 44, 52, 58]
/-- HandFingers$Piece.freePassages()I -/
def i_15 : MI := (RX0, cX0_freePassages, 3, yX0_freePassages, (some .int), (2, 42), [])
def P_15 : List Nat := [0, 4, 14, 24, 27, 30, 34, 35, 43]
/-- HandFingers$Piece.isFree(I)Z -/
def i_16 : MI := (RX0, cX0_isFree, 2, yX0_isFree, (some .boolean), (1, 21), [])
def P_16 : List Nat := [0, 10, 13, 17, 18]
/-- HandFingers$Piece.mayPlay(III)Z -/
def i_17 : MI := (RX0, cX0_mayPlay, 4, yX0_mayPlay, (some .boolean), (1, 21), [])
def P_17 : List Nat := [0, 9, 12, 16, 20, 24, 25]
/-- HandFingers$Piece.inOrder(II)Z -/
def i_18 : MI := (RX0, cX0_inOrder, 3, yX0_inOrder, (some .boolean), (0, 0), [])
def P_18 : List Nat := [0, 7, 12, 16, 20, 25, 29, 30]
/-- HandFingers$Piece.costOfEvent(ILHandFingers$Row;II)I -/
def i_19 : MI := (RX0, cX0_costOfEvent, 10, yX0_costOfEvent, (some .int), (2, 47), [])
def P_19 : List Nat := [0, 6, 16, 19, 27, 38, 41, 43, 53, 61, 69, 72, 82, 92, 101, 109, 119, 122, 128, 130, 137, 143]
/-- HandFingers$Piece.costOfNote(II)I -/
def i_20 : MI := (RX0, cX0_costOfNote, 4, yX0_costOfNote, (some .int), (1, 21), [])
def P_20 : List Nat := [0, 5, 14, 17, 18, 24, 29, 33, 36, 45, 47]
/-- HandFingers$Piece.costOfStretch(III)I -/
def i_21 : MI := (RX0, cX0_costOfStretch, 7, yX0_costOfStretch, (some .int), (1, 21), [])
def P_21 : List Nat := [0, 5, 17, 20, 22, 31, 45, 56]
/-- HandFingers$Piece.costOfPassage(IILHandFingers$Row;II)I -/
def i_22 : MI := (RX0, cX0_costOfPassage, 11, yX0_costOfPassage, (some .int), (3, 72), [])
def P_22 : List Nat := [0, 5, 8, 10, 16, 23, 26, 33, 44, 56, 63, 72, 81, 84, 92, 94, 107, 119]
/-- HandFingers$Piece.crossings(ILHandFingers$Row;II)I -/
def i_23 : MI := (RX0, cX0_crossings, 10, yX0_crossings, (some .int), (2, 47), [])
def P_23 : List Nat := [0, 9, 12, 15, 17, 23, 30, 33, 40, 51, 62, 69, 78, 87, 90, 100, 104, 105, 114]
/-- HandFingers$Piece.endsOf(I)I -/
def i_24 : MI := (RX0, cX0_endsOf, 2, yX0_endsOf, (some .int), (1, 21), [])
def P_24 : List Nat := [0, 8, 12, 22, 26, 30, 31]
/-- HandFingers$Piece.noteAtEnd(II)I -/
def i_25 : MI := (RX0, cX0_noteAtEnd, 3, yX0_noteAtEnd, (some .int), (1, 21), [])
def P_25 : List Nat := [0, 4, 8, 9, 16, 20, 28, 30]
/-- HandFingers$Piece.costOfLink(IIII)I -/
def i_26 : MI := (RX0, cX0_costOfLink, 6, yX0_costOfLink, (some .int), (2, 47), [])
def P_26 : List Nat := [0, 18, 48, 57, 61, 62, 65, 66, 74, 78, 86, 87, 95, 96]
/-- HandFingers$Piece.kindOfLink(IIII)I -/
def i_27 : MI := (RX0, cX0_kindOfLink, 7, yX0_kindOfLink, (some .int), (1, 21), [])
def P_27 : List Nat := [0, 6, 8, 13, 15, 22, 29, 33, 40, 44, 45, 50, 54, 55, 58, 60, 69, 78, 82, 83, 90, 104, 107, 111, 112]
/-- HandFingers$Plan.<init>()V -/
def i_28 : MI := (RX1, cX1_init, 1, yX1_init, none, (2, 42), [])
def P_28 : List Nat := [0, 29, 43, 57, 71, 85, 99, 112, 126, 139]
/-- HandFingers$Plan.forget()V -/
def i_29 : MI := (RX1, cX1_forget, 1, yX1_forget, none, (0, 0), [])
def P_29 : List Nat := [0]
/-- HandFingers$Plan.solve(LHandFingers$Piece;)V -/
def i_30 : MI := (RX1, cX1_solve, 3, yX1_solve, none, (5, 130), [])
def P_30 : List Nat := [0, 7, 8, 23, 31, 37, 43, 45, 55, 61, 67, 77, 81, 90, 97, 99, 105, 114, 120, 132]
/-- HandFingers$Plan.placeOfChoice(II)I -/
def i_31 : MI := (RX1, cX1_placeOfChoice, 2, yX1_placeOfChoice, (some .int), (0, 0), [])
def P_31 : List Nat := [0]
/-- HandFingers$Plan.baseOf(II)I -/
def i_32 : MI := (RX1, cX1_baseOf, 2, yX1_baseOf, (some .int), (1, 21), [])
def P_32 : List Nat := [0, 5]
/-- HandFingers$Plan.placeOfStep(III)I -/
def i_33 : MI := (RX1, cX1_placeOfStep, 3, yX1_placeOfStep, (some .int), (1, 21), [])
def P_33 : List Nat := [0, 5]
/-- HandFingers$Plan.listChoices(LHandFingers$Piece;I)V -/
def i_34 : MI := (RX1, cX1_listChoices, 7, yX1_listChoices, none, (4, 104), [])
def P_34 : List Nat := [0, 9, 17, 21, 27, 32, 42, 45, 50, 56, 64, 67, 70, 75, 86, 89, 94, 100, 108, 111, 123, 129, 135, 141]
/-- HandFingers$Plan.tryChoice(LHandFingers$Piece;IIII)V -/
def i_35 : MI := (RX1, cX1_tryChoice, 9, yX1_tryChoice, none, (3, 76), [])
def P_35 : List Nat := [0, 8, 17, 18, 24, 36, 49, 62, 74, 82, 92, 97, 109]
/-- HandFingers$Plan.fillSteps(LHandFingers$Piece;I)V -/
def i_36 : MI := (RX1, cX1_fillSteps, 6, yX1_fillSteps, none, (4, 102), [])
def P_36 : List Nat := [0, 8, 12, 22, 25, 28, 40, 43, 55, 68, 76, 79, 82, 88, 94]
/-- HandFingers$Plan.fillAhead(LHandFingers$Piece;ILHandFingers$Row;)V -/
def i_37 : MI := (RX1, cX1_fillAhead, 8, yX1_fillAhead, none, (3, 76), [])
def P_37 : List Nat := [0, 3, 12, 15, 26, 29, 43, 47, 54, 58, 67, 77, 84, 87, 93, 99]
/-- HandFingers$Plan.leastInto(IILHandFingers$Row;)I -/
def i_38 : MI := (RX1, cX1_leastInto, 7, yX1_leastInto, (some .int), (2, 43), [])
def P_38 : List Nat := [0, 6, 18, 21, 34, 37, 50, 53, 58, 61, 69]
/-- HandFingers$Plan.fillBehind()V -/
def i_39 : MI := (RX1, cX1_fillBehind, 4, yX1_fillBehind, none, (4, 91), [])
def P_39 : List Nat := [0, 7, 11, 13, 22, 25, 35, 39, 45, 55, 59, 65, 71]
/-- HandFingers$Plan.leastOutOf(II)I -/
def i_40 : MI := (RX1, cX1_leastOutOf, 5, yX1_leastOutOf, (some .int), (3, 67), [])
def P_40 : List Nat := [0, 5, 17, 20, 29, 32, 39]
/-- HandFingers$Plan.costOnward(III)I -/
def i_41 : MI := (RX1, cX1_costOnward, 4, yX1_costOnward, (some .int), (2, 44), [])
def P_41 : List Nat := [0, 10, 13, 21, 24]
/-- HandFingers$Plan.costFrom(II)I -/
def i_42 : MI := (RX1, cX1_costFrom, 4, yX1_costFrom, (some .int), (1, 21), [])
def P_42 : List Nat := [0, 5, 14, 22, 25]
/-- HandFingers$Plan.costThrough(II)I -/
def i_43 : MI := (RX1, cX1_costThrough, 4, yX1_costThrough, (some .int), (1, 21), [])
def P_43 : List Nat := [0, 5, 14, 22, 25]
/-- HandFingers$Plan.leastAtEnd(LHandFingers$Row;)I -/
def i_44 : MI := (RX1, cX1_leastAtEnd, 4, yX1_leastAtEnd, (some .int), (2, 42), [])
def P_44 : List Nat := [0, 7, 11, 12, 15, 29, 32, 44, 47, 50, 57]
/-- HandFingers$Plan.findFirst()V -/
def i_45 : MI := (RX1, cX1_findFirst, 4, yX1_findFirst, none, (4, 91), [])
def P_45 : List Nat := [0, 8, 9, 16, 24, 30, 40, 49, 52, 59]
/-- HandFingers$Plan.firstChoice(II)I -/
def i_46 : MI := (RX1, cX1_firstChoice, 5, yX1_firstChoice, (some .int), (3, 67), [])
def P_46 : List Nat := [0, 2, 11, 14, 18, 24, 27, 41, 45, 53, 55, 61]
/-- HandFingers$Plan.firstFinger(II)I -/
def i_47 : MI := (RX1, cX1_firstFinger, 3, yX1_firstFinger, (some .int), (2, 42), [])
def P_47 : List Nat := [0, 13, 16, 21]
/-- HandFingers$Plan.firstEventCost(I)I -/
def i_48 : MI := (RX1, cX1_firstEventCost, 2, yX1_firstEventCost, (some .int), (1, 21), [])
def P_48 : List Nat := [0, 13, 16, 19]
/-- HandFingers$Plan.firstPassageCost(I)I -/
def i_49 : MI := (RX1, cX1_firstPassageCost, 2, yX1_firstPassageCost, (some .int), (2, 43), [])
def P_49 : List Nat := [0, 13, 23, 26, 29]
/-- HandFingers$Plan.firstCrossings(LHandFingers$Piece;I)I -/
def i_50 : MI := (RX1, cX1_firstCrossings, 3, yX1_firstCrossings, (some .int), (3, 76), [])
def P_50 : List Nat := [0, 15, 18, 31, 34, 37]
/-- HandFingers$Plan.countWays(Z)J -/
def i_51 : MI := (RX1, cX1_countWays, 6, yX1_countWays, (some .long), (3, 73), [])
def P_51 : List Nat := [0, 7, 9, 11, 19, 21, 30, 33, 39, 43, 47, 54, 57, 63, 69, 74, 89, 92, 103, 109, 118, 125, 132, 134, 140]
/-- HandFingers$Plan.waysInto(IIZ)J -/
def i_52 : MI := (RX1, cX1_waysInto, 11, yX1_waysInto, (some .long), (2, 43), [])
def P_52 : List Nat := [0, 5, 13, 25, 28, 36, 51, 54, 65, 70, 79, 82, 90, 94, 105, 108, 116, 119, 125]
/-- HandFingers$Plan.waysAt(I)J -/
def i_53 : MI := (RX1, cX1_waysAt, 2, yX1_waysAt, (some .long), (0, 0), [])
def P_53 : List Nat := [0, 4, 13, 22, 23]
/-- HandFingers$Plan.putWays(IJ)V -/
def i_54 : MI := (RX1, cX1_putWays, 4, yX1_putWays, none, (0, 0), [])
def P_54 : List Nat := [0, 4, 13, 20]
/-- HandFingers$Plan.leastWith(III)I -/
def i_55 : MI := (RX1, cX1_leastWith, 6, yX1_leastWith, (some .int), (2, 44), [])
def P_55 : List Nat := [0, 6, 16, 19, 29, 34, 38, 47, 50, 52, 58]
/-- HandFingers$Plan.eventsReached()I -/
def i_56 : MI := (RX1, cX1_eventsReached, 2, yX1_eventsReached, (some .int), (2, 43), [])
def P_56 : List Nat := [0, 2, 10, 15, 18, 20, 26]
/-- HandFingers$Plan.isReached(I)Z -/
def i_57 : MI := (RX1, cX1_isReached, 3, yX1_isReached, (some .boolean), (1, 21), [])
def P_57 : List Nat := [0, 2, 11, 14, 23, 26, 30, 32, 38]
/-- HandFingers$Plan.cheapestFingers(II)I -/
def i_58 : MI := (RX1, cX1_cheapestFingers, 5, yX1_cheapestFingers, (some .int), (2, 44), [])
def P_58 : List Nat := [0, 5, 15, 18, 25, 32, 43, 48, 51, 53, 59]
/-- HandFingers$Plan.leastShifted(LHandFingers$Piece;I)I -/
def i_59 : MI := (RX1, cX1_leastShifted, 4, yX1_leastShifted, (some .int), (4, 103), [])
def P_59 : List Nat := [0, 6, 15, 23, 27, 37, 50, 53, 61]
/-- HandFingers$Plan.leastWithRest(LHandFingers$Piece;I)I -/
def i_60 : MI := (RX1, cX1_leastWithRest, 8, yX1_leastWithRest, (some .int), (4, 102), [])
def P_60 : List Nat := [0, 5, 15, 18, 28, 31, 36, 42, 54, 57, 71, 79, 82, 98, 101, 104, 107, 114, 120]
/-- HandFingers$Row.<init>(I)V -/
def i_61 : MI := (RX2, cX2_init, 2, yX2_init, none, (1, 21), [])
def P_61 : List Nat := [0]
/-- HandFingers$Row.get(I)I -/
def i_62 : MI := (RX2, cX2_get, 2, yX2_get, (some .int), (0, 0), [])
def P_62 : List Nat := [0, 4, 13, 22, 23]
/-- HandFingers$Row.put(II)V -/
def i_63 : MI := (RX2, cX2_put, 3, yX2_put, none, (0, 0), [])
def P_63 : List Nat := [0, 4, 13, 20]
/-- HandFingers$Row.copyFrom(LHandFingers$Row;)V -/
def i_64 : MI := (RX2, cX2_copyFrom, 2, yX2_copyFrom, none, (1, 26), [])
def P_64 : List Nat := [0]
/-- HandFingers$Shelf.<init>(I)V -/
def i_65 : MI := (RX3, cX3_init, 2, yX3_init, none, (1, 21), [])
def P_65 : List Nat := [0]
/-- HandFingers$Shelf.holds(I)Z -/
def i_66 : MI := (RX3, cX3_holds, 2, yX3_holds, (some .boolean), (0, 0), [])
def P_66 : List Nat := [0, 4, 13, 22, 26, 27]
/-- HandFingers$Shelf.putIn(ILHandFingers$Piece;)V -/
def i_67 : MI := (RX3, cX3_putIn, 4, yX3_putIn, none, (4, 88), [])
def P_67 : List Nat := [0, 4, 13, 14, 25, 32, 40, 45]
/-- HandFingers$Shelf.takeOut(ILHandFingers$Piece;)V -/
def i_68 : MI := (RX3, cX3_takeOut, 4, yX3_takeOut, none, (3, 68), [])
def P_68 : List Nat := [0, 4, 13, 22, 23, 28, 33]
/-- HandFingers$Text.<init>()V -/
def i_69 : MI := (RX4, cX4_init, 1, yX4_init, none, (2, 42), [])
def P_69 : List Nat := [0, 15]
/-- HandFingers$Text.addBytes(I)V -/
def i_70 : MI := (RX4, cX4_addBytes, 4, yX4_addBytes, none, (1, 22), [])
def P_70 : List Nat := [0, 3, 7, 19, 31, 41, 47]
/-- HandFingers$Text.readPiece(LHandFingers$Piece;)Z -/
def i_71 : MI := (RX4, cX4_readPiece, 2, yX4_readPiece, (some .boolean), (7, 153), [])
def P_71 : List Nat := [0, 4, 8, 13, 16, 21, 24, 29, 32, 37, 40, 44, 47, 51, 52]
/-- HandFingers$Text.readFingering(LHandFingers$Piece;LHandFingers$Row;)Z -/
def i_72 : MI := (RX4, cX4_readFingering, 5, yX4_readFingering, (some .boolean), (4, 86), [])
def P_72 : List Nat := [0, 4, 6, 14, 17, 27, 30, 37, 43, 44, 51, 54, 56, 63, 70, 76, 82, 90, 96, 99, 103]
/-- HandFingers$Text.readHand(LHandFingers$Piece;)Z -/
def i_73 : MI := (RX4, cX4_readHand, 2, yX4_readHand, (some .boolean), (6, 128), [])
def P_73 : List Nat := [0, 6, 9, 11, 18, 29, 34, 36, 39, 42, 46, 49, 53, 54]
/-- HandFingers$Text.readWeights(LHandFingers$Piece;)Z -/
def i_74 : MI := (RX4, cX4_readWeights, 4, yX4_readWeights, (some .boolean), (6, 127), [])
def P_74 : List Nat := [0, 2, 9, 15, 18, 22, 26, 32, 38, 39, 43, 51, 54, 56, 68, 72, 75, 77, 83]
/-- HandFingers$Text.weightNamed()I -/
def i_75 : MI := (RX4, cX4_weightNamed, 1, yX4_weightNamed, (some .int), (5, 107), [])
def P_75 : List Nat := [0, 6, 9, 11, 17, 20, 22, 28, 31, 33, 39, 42, 44, 50, 53, 55, 61, 64, 66, 72, 75, 78, 84, 87, 90, 96, 99, 102, 108, 111, 116, 117]
/-- HandFingers$Text.readSpans(LHandFingers$Piece;)Z -/
def i_76 : MI := (RX4, cX4_readSpans, 3, yX4_readSpans, (some .boolean), (5, 111), [])
def P_76 : List Nat := [0, 2, 9, 15, 18, 22, 27, 30, 34, 37, 39, 45]
/-- HandFingers$Text.readSpan(LHandFingers$Piece;)Z -/
def i_77 : MI := (RX4, cX4_readSpan, 6, yX4_readSpan, (some .boolean), (4, 86), [])
def P_77 : List Nat := [0, 7, 10, 12, 26, 29, 31, 44, 47, 49, 64, 67, 69, 84, 87, 89, 103]
/-- HandFingers$Text.readEvents(LHandFingers$Piece;)Z -/
def i_78 : MI := (RX4, cX4_readEvents, 4, yX4_readEvents, (some .boolean), (6, 130), [])
def P_78 : List Nat := [0, 2, 8, 14, 17, 26, 32, 33, 37, 45, 58, 61, 67, 70, 76, 79, 83, 86, 88, 94]
/-- HandFingers$Text.readKeys(LHandFingers$Piece;I)Z -/
def i_79 : MI := (RX4, cX4_readKeys, 5, yX4_readKeys, (some .boolean), (4, 86), [])
def P_79 : List Nat := [0, 6, 11, 19, 25, 31, 32, 43, 46, 48, 59, 70]
/-- HandFingers$Text.readRest(LHandFingers$Piece;I)Z -/
def i_80 : MI := (RX4, cX4_readRest, 3, yX4_readRest, (some .boolean), (5, 107), [])
def P_80 : List Nat := [0, 6, 9, 11, 15, 23, 26, 28, 40]
/-- HandFingers$Text.readFingers(LHandFingers$Piece;I)Z -/
def i_81 : MI := (RX4, cX4_readFingers, 4, yX4_readFingers, (some .boolean), (5, 107), [])
def P_81 : List Nat := [0, 6, 9, 11, 15, 17, 26, 29, 36, 39, 41, 50, 57, 62, 69, 72, 78, 86, 92, 95, 99, 100]
/-- HandFingers$Text.beginReading()V -/
def i_82 : MI := (RX4, cX4_beginReading, 1, yX4_beginReading, none, (3, 63), [])
def P_82 : List Nat := [0, 14]
/-- HandFingers$Text.fail(I)Z -/
def i_83 : MI := (RX4, cX4_fail, 2, yX4_fail, (some .boolean), (0, 0), [])
def P_83 : List Nat := [0]
/-- HandFingers$Text.takeWord(Ljava/lang/String;)Z -/
def i_84 : MI := (RX4, cX4_takeWord, 2, yX4_takeWord, (some .boolean), (5, 107), [])
def P_84 : List Nat := [0, 5, 8, 14, 15, 19]
/-- HandFingers$Text.takeSemicolon()Z -/
def i_85 : MI := (RX4, cX4_takeSemicolon, 1, yX4_takeSemicolon, (some .boolean), (3, 63), [])
def P_85 : List Nat := [0, 8, 14, 15, 19]
/-- HandFingers$Text.takeEnd()Z -/
def i_86 : MI := (RX4, cX4_takeEnd, 1, yX4_takeEnd, (some .boolean), (1, 21), [])
def P_86 : List Nat := [0, 7, 13, 16, 20, 21]
/-- HandFingers$Text.takeNumber(III)Z -/
def i_87 : MI := (RX4, cX4_takeNumber, 4, yX4_takeNumber, (some .boolean), (3, 63), [])
def P_87 : List Nat := [0, 8, 14, 15, 24, 27, 33, 34, 42, 48, 49, 61]
/-- HandFingers$Text.isWord(Ljava/lang/String;)Z -/
def i_88 : MI := (RX4, cX4_isWord, 3, yX4_isWord, (some .boolean), (4, 85), [])
def P_88 : List Nat := [0, 8, 21, 24, 26, 28, 33, 36, 49, 54, 57, 59, 65]
/-- HandFingers$Text.scan()V -/
def i_89 : MI := (RX4, cX4_scan, 1, yX4_scan, none, (2, 43), [])
def P_89 : List Nat := [0, 8, 19, 30, 35, 48, 67, 75, 83, 86, 91, 102, 110, 113, 126, 134, 137, 147, 158, 166, 169, 190, 213, 225, 230, 234, 235, 248]
/-- HandFingers$Text.isLetter(I)Z -/
def i_90 : MI := (RX4, cX4_isLetter, 2, yX4_isLetter, (some .boolean), (1, 22), [])
def P_90 : List Nat := [0, 8, 15]
/-- HandFingers$Text.isDigit(I)Z -/
def i_91 : MI := (RX4, cX4_isDigit, 2, yX4_isDigit, (some .boolean), (1, 22), [])
def P_91 : List Nat := [0, 8, 15]
/-- HandFingers.<init>()V -/
def i_92 : MI := (RX5, cX5_init, 1, yX5_init, none, (4, 88), [])
def P_92 : List Nat := [0, 12, 23, 34, 45, 56, 69, 83, 101, 123]
/-- HandFingers.append(IIIII)I -/
def i_93 : MI := (RX5, cX5_append, 7, yX5_append, (some .int), (6, 81), [])
def P_93 : List Nat := [0, 4, 8, 13, 19, 25, 44, 52, 60, 68, 76, 85, 94]
/-- HandFingers.load()I -/
def i_94 : MI := (RX5, cX5_load, 2, yX5_load, (some .int), (8, 174), [])
def P_94 : List Nat := [0, 11, 24, 32, 36, 47]
/-- HandFingers.errorPosition()I -/
def i_95 : MI := (RX5, cX5_errorPosition, 1, yX5_errorPosition, (some .int), (0, 0), [])
def P_95 : List Nat := [0]
/-- HandFingers.count(I)I -/
def i_96 : MI := (RX5, cX5_count, 2, yX5_count, (some .int), (6, 81), [])
def P_96 : List Nat := [0, 44, 52, 59, 60, 70, 74, 75, 76, 83, 84, 91, 92, 99, 100, 107, 108]
/-- HandFingers.event(II)I -/
def i_97 : MI := (RX5, cX5_event, 3, yX5_event, (some .int), (7, 152), [])
def P_97 : List Nat := [0, 5, 32, 43, 44, 55, 56, 67, 78, 79]
/-- HandFingers.note(III)I -/
def i_98 : MI := (RX5, cX5_note, 4, yX5_note, (some .int), (8, 124), [])
def P_98 : List Nat := [0, 6, 32, 41, 42, 54, 57, 58]
/-- HandFingers.weight(I)I -/
def i_99 : MI := (RX5, cX5_weight, 2, yX5_weight, (some .int), (7, 102), [])
def P_99 : List Nat := [0, 5, 16]
/-- HandFingers.span(III)I -/
def i_100 : MI := (RX5, cX5_span, 4, yX5_span, (some .int), (7, 102), [])
def P_100 : List Nat := [0, 5, 10, 15, 23, 52, 64, 67, 68, 80, 83, 84, 96, 99, 100]
/-- HandFingers.link(IIII)I -/
def i_101 : MI := (RX5, cX5_link, 5, yX5_link, (some .int), (7, 102), [])
def P_101 : List Nat := [0, 5, 10, 18, 21, 30, 33, 41, 53]
/-- HandFingers.best()I -/
def i_102 : MI := (RX5, cX5_best, 1, yX5_best, (some .int), (6, 152), [])
def P_102 : List Nat := [0, 11]
/-- HandFingers.finger(II)I -/
def i_103 : MI := (RX5, cX5_finger, 3, yX5_finger, (some .int), (8, 172), [])
def P_103 : List Nat := [0, 6, 10, 19]
/-- HandFingers.part(II)I -/
def i_104 : MI := (RX5, cX5_part, 3, yX5_part, (some .int), (7, 172), [])
def P_104 : List Nat := [0, 5, 11, 14, 22, 26, 30, 38, 39, 43, 45, 50, 60, 63, 77]
/-- HandFingers.many(Z)J -/
def i_105 : MI := (RX5, cX5_many, 2, yX5_many, (some .long), (6, 152), [])
def P_105 : List Nat := [0, 11, 19]
/-- HandFingers.costWith(III)I -/
def i_106 : MI := (RX5, cX5_costWith, 4, yX5_costWith, (some .int), (8, 152), [])
def P_106 : List Nat := [0, 6, 11, 22, 32]
/-- HandFingers.reaches()I -/
def i_107 : MI := (RX5, cX5_reaches, 1, yX5_reaches, (some .int), (6, 152), [])
def P_107 : List Nat := [0, 11, 18]
/-- HandFingers.uses(I)I -/
def i_108 : MI := (RX5, cX5_uses, 5, yX5_uses, (some .int), (7, 172), [])
def P_108 : List Nat := [0, 5, 9, 13, 24, 27, 40, 43, 54, 58, 62, 63, 71, 77]
/-- HandFingers.sure()I -/
def i_109 : MI := (RX5, cX5_sure, 4, yX5_sure, (some .int), (7, 172), [])
def P_109 : List Nat := [0, 4, 8, 19, 21, 33, 36, 46, 49, 53, 57, 58, 66, 72]
/-- HandFingers.mean()D -/
def i_110 : MI := (RX5, cX5_mean, 2, yX5_mean, (some .double), (7, 172), [])
def P_110 : List Nat := [0, 4, 11, 16, 20, 31]
/-- HandFingers.costOfTold()I -/
def i_111 : MI := (RX5, cX5_costOfTold, 5, yX5_costOfTold, (some .int), (5, 124), [])
def P_111 : List Nat := [0, 15, 28, 36, 40, 51, 56, 61, 64, 72, 75, 86]
/-- HandFingers.faultOfTold()I -/
def i_112 : MI := (RX5, cX5_faultOfTold, 3, yX5_faultOfTold, (some .int), (5, 124), [])
def P_112 : List Nat := [0, 15, 28, 36, 38, 49, 54, 58, 65, 70, 74, 81, 87]
/-- HandFingers.otherHand()I -/
def i_113 : MI := (RX5, cX5_otherHand, 1, yX5_otherHand, (some .int), (6, 152), [])
def P_113 : List Nat := [0, 11, 25, 29, 30, 40, 51]
/-- HandFingers.transposed(I)I -/
def i_114 : MI := (RX5, cX5_transposed, 2, yX5_transposed, (some .int), (7, 152), [])
def P_114 : List Nat := [0, 5, 16, 28]
/-- HandFingers.easiest(I)I -/
def i_115 : MI := (RX5, cX5_easiest, 6, yX5_easiest, (some .int), (7, 172), [])
def P_115 : List Nat := [0, 7, 10, 18, 22, 35, 41, 46, 53, 62, 65, 78, 82, 98, 99, 111, 117]
/-- HandFingers.restBehind()I -/
def i_116 : MI := (RX5, cX5_restBehind, 5, yX5_restBehind, (some .int), (6, 152), [])
def P_116 : List Nat := [0, 11, 23, 36, 48, 56, 61, 67, 72, 78]
/-- HandFingers.play(IIIII)I -/
def i_117 : MI := (RX5, cX5_play, 6, yX5_play, (some .int), (6, 131), [])
def P_117 : List Nat := [0, 12, 15, 23, 30, 33, 41, 44, 52, 64, 67, 71, 79, 89, 93, 103, 108, 119, 132]
/-- HandFingers.drop(I)I -/
def i_118 : MI := (RX5, cX5_drop, 2, yX5_drop, (some .int), (7, 131), [])
def P_118 : List Nat := [0, 5, 9, 17]
/-- HandFingers.setRest(II)I -/
def i_119 : MI := (RX5, cX5_setRest, 4, yX5_setRest, (some .int), (7, 131), [])
def P_119 : List Nat := [0, 5, 12, 15, 23, 27, 38, 51]
/-- HandFingers.let(IIIZ)I -/
def i_120 : MI := (RX5, cX5_let, 7, yX5_let, (some .int), (8, 131), [])
def P_120 : List Nat := [0, 6, 11, 15, 20, 34, 50, 56, 60, 66, 69, 72, 84]
/-- HandFingers.setWeight(II)I -/
def i_121 : MI := (RX5, cX5_setWeight, 4, yX5_setWeight, (some .int), (7, 131), [])
def P_121 : List Nat := [0, 5, 12, 15, 23, 27, 38, 51]
/-- HandFingers.setSpan(IIIII)I -/
def i_122 : MI := (RX5, cX5_setSpan, 7, yX5_setSpan, (some .int), (7, 131), [])
def P_122 : List Nat := [0, 5, 10, 15, 22, 25, 33, 36, 45, 48, 56, 60, 72, 75, 91]
/-- HandFingers.setHand(Z)I -/
def i_123 : MI := (RX5, cX5_setHand, 2, yX5_setHand, (some .int), (6, 152), [])
def P_123 : List Nat := [0, 4, 23]
/-- HandFingers.transpose(I)I -/
def i_124 : MI := (RX5, cX5_transpose, 2, yX5_transpose, (some .int), (7, 152), [])
def P_124 : List Nat := [0, 5, 9, 17, 28]
/-- HandFingers.fix()I -/
def i_125 : MI := (RX5, cX5_fix, 5, yX5_fix, (some .int), (7, 172), [])
def P_125 : List Nat := [0, 4, 8, 12, 23, 25, 37, 40, 45, 60, 63, 67, 71, 72, 92, 95, 98, 104, 110]
/-- HandFingers.undo()I -/
def i_126 : MI := (RX5, cX5_undo, 1, yX5_undo, (some .int), (6, 91), [])
def P_126 : List Nat := [0, 7, 15, 48, 55]
/-- HandFingers.save(I)V -/
def i_127 : MI := (RX5, cX5_save, 2, yX5_save, none, (7, 111), [])
def P_127 : List Nat := [0, 5, 17]
/-- HandFingers.restore(I)I -/
def i_128 : MI := (RX5, cX5_restore, 2, yX5_restore, (some .int), (7, 131), [])
def P_128 : List Nat := [0, 5, 13, 16, 24, 28, 40]
/-- HandFingers.writeFingers()I -/
def i_129 : MI := (RX5, cX5_writeFingers, 3, yX5_writeFingers, (some .int), (7, 172), [])
def P_129 : List Nat := [0, 4, 11, 22, 26, 32, 34, 46, 49, 61, 65, 71, 84, 99, 102, 105, 111, 117]
/-- HandFingers.writtenByte(I)I -/
def i_130 : MI := (RX5, cX5_writtenByte, 2, yX5_writtenByte, (some .int), (6, 81), [])
def P_130 : List Nat := [0, 11, 14, 22, 30]
/-- HandFingers.needEvent(I)V -/
def i_131 : MI := (RX5, cX5_needEvent, 2, yX5_needEvent, none, (6, 81), [])
def P_131 : List Nat := [0, 14, 17, 25]
/-- HandFingers.needNote(II)V -/
def i_132 : MI := (RX5, cX5_needNote, 3, yX5_needNote, none, (7, 102), [])
def P_132 : List Nat := [0, 5, 18, 23, 26, 34]
/-- HandFingers.needFinger(I)V -/
def i_133 : MI := (RX5, cX5_needFinger, 2, yX5_needFinger, none, (6, 81), [])
def P_133 : List Nat := [0, 6, 9, 17]
/-- HandFingers.needWeight(I)V -/
def i_134 : MI := (RX5, cX5_needWeight, 2, yX5_needWeight, none, (6, 81), [])
def P_134 : List Nat := [0, 7, 10, 18]
/-- HandFingers.needSlot(I)V -/
def i_135 : MI := (RX5, cX5_needSlot, 2, yX5_needSlot, none, (6, 81), [])
def P_135 : List Nat := [0, 6, 9, 17]
/-- HandFingers.needTransposable(I)V -/
def i_136 : MI := (RX5, cX5_needTransposable, 2, yX5_needTransposable, none, (6, 86), [])
def P_136 : List Nat := [0, 8, 11, 19, 22, 30]
/-- HandFingers.needFingering()V -/
def i_137 : MI := (RX5, cX5_needFingering, 1, yX5_needFingering, none, (6, 152), [])
def P_137 : List Nat := [0, 11, 22, 30]
/-- HandFingers.remember()V -/
def i_138 : MI := (RX5, cX5_remember, 1, yX5_remember, none, (5, 111), [])
def P_138 : List Nat := [0, 9, 32, 55, 72]
/-- HandFingers.toldEventCost(I)I -/
def i_139 : MI := (RX5, cX5_toldEventCost, 2, yX5_toldEventCost, (some .int), (3, 76), [])
def P_139 : List Nat := [0, 14, 18]
/-- HandFingers.toldPassageCost(I)I -/
def i_140 : MI := (RX5, cX5_toldPassageCost, 3, yX5_toldPassageCost, (some .int), (4, 102), [])
def P_140 : List Nat := [0, 4, 6, 19, 39, 44, 47]
/-- HandFingers.write(I)V -/
def i_141 : MI := (RX5, cX5_write, 2, yX5_write, none, (1, 22), [])
def P_141 : List Nat := [0, 12]
/-- HandFingers.isWithin(III)Z -/
def i_142 : MI := (RX5, cX5_isWithin, 3, yX5_isWithin, (some .boolean), (0, 0), [])
def P_142 : List Nat := [0, 5, 10, 14, 15]
/-- HandFingers.areKeys(III)Z -/
def i_143 : MI := (RX5, cX5_areKeys, 3, yX5_areKeys, (some .boolean), (1, 22), [])
def P_143 : List Nat := [0, 8, 11, 13, 17, 21, 25, 26, 27, 36, 39, 43, 52, 55, 59, 60]
/-- HandFingers.isBlack(I)Z -/
def i_144 : MI := (RX5, cX5_isBlack, 2, yX5_isBlack, (some .boolean), (0, 0), [])
def P_144 : List Nat := [0, 10, 15, 21, 27, 33, 37, 38]
/-- HandFingers.bitOf(I)I -/
def i_145 : MI := (RX5, cX5_bitOf, 1, yX5_bitOf, (some .int), (0, 0), [])
def P_145 : List Nat := [0, 5, 10, 18, 19]
/-- HandFingers.placeOf(II)I -/
def i_146 : MI := (RX5, cX5_placeOf, 2, yX5_placeOf, (some .int), (0, 0), [])
def P_146 : List Nat := [0]
/-- HandFingers.pairOf(II)I -/
def i_147 : MI := (RX5, cX5_pairOf, 2, yX5_pairOf, (some .int), (0, 0), [])
def P_147 : List Nat := [0]
/-- HandFingers.sumOf(II)I -/
def i_148 : MI := (RX5, cX5_sumOf, 2, yX5_sumOf, (some .int), (0, 0), [])
def P_148 : List Nat := [0, 5, 10, 14, 17]
/-- HandFingers.lesserOf(II)I -/
def i_149 : MI := (RX5, cX5_lesserOf, 2, yX5_lesserOf, (some .int), (1, 21), [])
def P_149 : List Nat := [0, 5, 10, 15, 19, 20, 21]
/-- HandFingers.bytesIn(I)I -/
def i_150 : MI := (RX5, cX5_bytesIn, 3, yX5_bytesIn, (some .int), (0, 0), [])
def P_150 : List Nat := [0, 5, 9, 20, 24, 25, 33]
/-- HandFingersModel.<init>()V -/
def i_151 : MI := (RX6, cX6_init, 1, yX6_init, none, (4, 92), [])
def P_151 : List Nat := [0, 168]
/-- HandFingersModel.putsWeights(IIIII)V -/
def i_152 : MI := (RX6, cX6_putsWeights, 6, yX6_putsWeights, none, (0, 0), [])
def P_152 : List Nat := [0]
/-- HandFingersModel.putsSpan(IIIII)V -/
def i_153 : MI := (RX6, cX6_putsSpan, 7, yX6_putsSpan, none, (2, 45), [])
def P_153 : List Nat := [0, 5]
/-- HandFingersModel.begins()V -/
def i_154 : MI := (RX6, cX6_begins, 2, yX6_begins, none, (3, 71), [])
def P_154 : List Nat := [0, 2, 9, 22, 43, 57, 67, 78, 89, 101, 110, 120, 131, 140, 150, 159]
/-- HandFingersModel.pairOf(II)I -/
def i_155 : MI := (RX6, cX6_pairOf, 5, yX6_pairOf, (some .int), (1, 21), [])
def P_155 : List Nat := [0, 17, 21, 26, 30, 35, 40, 42]
/-- HandFingersModel.thrown()I -/
def i_156 : MI := (RX6, cX6_thrown, 1, yX6_thrown, (some .int), (0, 0), [])
def P_156 : List Nat := [0]
/-- HandFingersModel.isIn(III)Z -/
def i_157 : MI := (RX6, cX6_isIn, 3, yX6_isIn, (some .boolean), (0, 0), [])
def P_157 : List Nat := [0, 5, 10, 14, 15]
/-- HandFingersModel.copies([II[II)V -/
def i_158 : MI := (RX6, cX6_copies, 5, yX6_copies, none, (0, 0), [])
def P_158 : List Nat := [0, 3, 11, 29]
/-- HandFingersModel.keeps([I)V -/
def i_159 : MI := (RX6, cX6_keeps, 3, yX6_keeps, none, (1, 24), [])
def P_159 : List Nat := [0, 9, 11, 18, 40, 50, 67]
/-- HandFingersModel.undo()I -/
def i_160 : MI := (RX6, cX6_undo, 1, yX6_undo, (some .int), (1, 24), [])
def P_160 : List Nat := [0, 8, 12, 13, 23, 25, 55]
/-- HandFingersModel.save(I)V -/
def i_161 : MI := (RX6, cX6_save, 2, yX6_save, none, (1, 24), [])
def P_161 : List Nat := [0, 7, 10, 14, 15, 25, 26, 43]
/-- HandFingersModel.restore(I)I -/
def i_162 : MI := (RX6, cX6_restore, 2, yX6_restore, (some .int), (2, 46), [])
def P_162 : List Nat := [0, 7, 10, 14, 23, 27, 28, 38, 40, 48, 65, 69]
/-- HandFingersModel.byteOf(IIIIII)I -/
def i_163 : MI := (RX6, cX6_byteOf, 7, yX6_byteOf, (some .int), (0, 0), [])
def P_163 : List Nat := [0, 5, 9, 15, 19, 25, 29, 35, 40, 42]
/-- HandFingersModel.append(IIIII)I -/
def i_164 : MI := (RX6, cX6_append, 9, yX6_append, (some .int), (1, 26), [])
def P_164 : List Nat := [0, 6, 13, 27, 30, 34, 35, 44, 58, 62, 63, 73, 75, 78, 85, 97, 104, 107, 128, 134]
/-- HandFingersModel.see(I)I -/
def i_165 : MI := (RX6, cX6_see, 2, yX6_see, (some .int), (0, 0), [])
def P_165 : List Nat := [0, 8, 17, 18]
/-- HandFingersModel.isLetter(I)Z -/
def i_166 : MI := (RX6, cX6_isLetter, 2, yX6_isLetter, (some .boolean), (1, 22), [])
def P_166 : List Nat := [0, 5, 12]
/-- HandFingersModel.isDigit(I)Z -/
def i_167 : MI := (RX6, cX6_isDigit, 2, yX6_isDigit, (some .boolean), (1, 22), [])
def P_167 : List Nat := [0, 5, 12]
/-- HandFingersModel.next()V -/
def i_168 : MI := (RX6, cX6_next, 1, yX6_next, none, (2, 43), [])
def P_168 : List Nat := [0, 8, 16, 21, 34, 58, 66, 74, 77, 85, 88, 101, 109, 117, 120, 128, 131, 150, 173, 181, 196]
/-- HandFingersModel.starts()V -/
def i_169 : MI := (RX6, cX6_starts, 1, yX6_starts, none, (3, 63), [])
def P_169 : List Nat := [0, 19]
/-- HandFingersModel.ends()V -/
def i_170 : MI := (RX6, cX6_ends, 1, yX6_ends, none, (0, 0), [])
def P_170 : List Nat := [0, 8, 12, 16]
/-- HandFingersModel.isWord(Ljava/lang/String;)Z -/
def i_171 : MI := (RX6, cX6_isWord, 3, yX6_isWord, (some .boolean), (4, 85), [])
def P_171 : List Nat := [0, 7, 14, 27, 30, 32, 34, 39, 42, 58, 61, 63, 69]
/-- HandFingersModel.fails(I)V -/
def i_172 : MI := (RX6, cX6_fails, 2, yX6_fails, none, (0, 0), [])
def P_172 : List Nat := [0, 7, 8]
/-- HandFingersModel.must(Z)V -/
def i_173 : MI := (RX6, cX6_must, 2, yX6_must, none, (3, 63), [])
def P_173 : List Nat := [0, 4, 10, 17, 21]
/-- HandFingersModel.mustEnd()V -/
def i_174 : MI := (RX6, cX6_mustEnd, 1, yX6_mustEnd, none, (4, 84), [])
def P_174 : List Nat := [0, 9, 17, 22, 26, 27, 30]
/-- HandFingersModel.takes(III)I -/
def i_175 : MI := (RX6, cX6_takes, 5, yX6_takes, (some .int), (3, 63), [])
def P_175 : List Nat := [0, 7, 15, 21, 28, 37, 40, 46, 53, 61, 67, 74, 81, 82, 91, 95]
/-- HandFingersModel.nameOf(I)Ljava/lang/String; -/
def i_176 : MI := (RX6, cX6_nameOf, 1, yX6_nameOf, (some (.object "java/lang/String")), (0, 0), [])
def P_176 : List Nat := [0, 52, 55, 58, 61, 64, 67, 70, 73, 76, 79]
/-- HandFingersModel.readsWeight()V -/
def i_177 : MI := (RX6, cX6_readsWeight, 3, yX6_readsWeight, none, (5, 107), [])
def P_177 : List Nat := [0, 5, 7, 13, 18, 21, 24, 30, 37, 41, 42, 45, 53, 58, 65, 74]
/-- HandFingersModel.readsSpan()V -/
def i_178 : MI := (RX6, cX6_readsSpan, 6, yX6_readsSpan, none, (5, 104), [])
def P_178 : List Nat := [0, 5, 12, 22, 31, 40, 51, 57, 64, 75]
/-- HandFingersModel.readsEvent()V -/
def i_179 : MI := (RX6, cX6_readsEvent, 5, yX6_readsEvent, none, (5, 107), [])
def P_179 : List Nat := [0, 4, 9, 15, 22, 23, 28, 36, 50, 55, 61, 70, 75, 87, 90, 98, 99, 133, 146, 149, 153, 168, 169, 175, 178, 182, 184, 189, 196, 212, 217, 223, 230, 237, 245, 251, 255]
/-- HandFingersModel.load()I -/
def i_180 : MI := (RX6, cX6_load, 1, yX6_load, (some .int), (6, 131), [])
def P_180 : List Nat := [0, 13, 17, 21, 28, 31, 42, 45, 49, 50, 58, 61, 67, 70, 74, 75, 78, 82, 88, 91, 95, 98, 104, 107, 111, 114, 120, 123, 127, 130, 137, 145, 151, 155, 162, 175, 182, 187, 195, 199]
/-- HandFingersModel.errorPosition()I -/
def i_181 : MI := (RX6, cX6_errorPosition, 1, yX6_errorPosition, (some .int), (0, 0), [])
def P_181 : List Nat := [0]
/-- HandFingersModel.events()I -/
def i_182 : MI := (RX6, cX6_events, 1, yX6_events, (some .int), (0, 0), [])
def P_182 : List Nat := [0]
/-- HandFingersModel.notesOf(I)I -/
def i_183 : MI := (RX6, cX6_notesOf, 2, yX6_notesOf, (some .int), (0, 0), [])
def P_183 : List Nat := [0]
/-- HandFingersModel.restOf(I)I -/
def i_184 : MI := (RX6, cX6_restOf, 2, yX6_restOf, (some .int), (0, 0), [])
def P_184 : List Nat := [0]
/-- HandFingersModel.keyOf(II)I -/
def i_185 : MI := (RX6, cX6_keyOf, 3, yX6_keyOf, (some .int), (0, 0), [])
def P_185 : List Nat := [0]
/-- HandFingersModel.setOf(II)I -/
def i_186 : MI := (RX6, cX6_setOf, 3, yX6_setOf, (some .int), (0, 0), [])
def P_186 : List Nat := [0]
/-- HandFingersModel.weightOf(I)I -/
def i_187 : MI := (RX6, cX6_weightOf, 2, yX6_weightOf, (some .int), (0, 0), [])
def P_187 : List Nat := [0]
/-- HandFingersModel.isEvent(I)Z -/
def i_188 : MI := (RX6, cX6_isEvent, 2, yX6_isEvent, (some .boolean), (1, 22), [])
def P_188 : List Nat := [0, 6, 11]
/-- HandFingersModel.isNote(II)Z -/
def i_189 : MI := (RX6, cX6_isNote, 3, yX6_isNote, (some .boolean), (2, 43), [])
def P_189 : List Nat := [0, 5, 8, 15, 20, 23, 27, 28]
/-- HandFingersModel.isFinger(I)Z -/
def i_190 : MI := (RX6, cX6_isFinger, 1, yX6_isFinger, (some .boolean), (1, 22), [])
def P_190 : List Nat := [0, 6]
/-- HandFingersModel.isBlack(I)Z -/
def i_191 : MI := (RX6, cX6_isBlack, 2, yX6_isBlack, (some .boolean), (0, 0), [])
def P_191 : List Nat := [0, 10, 15, 21, 27, 33, 37, 38]
/-- HandFingersModel.allNotes()I -/
def i_192 : MI := (RX6, cX6_allNotes, 3, yX6_allNotes, (some .int), (1, 21), [])
def P_192 : List Nat := [0, 4, 9, 12, 18, 26]
/-- HandFingersModel.isFree(I)Z -/
def i_193 : MI := (RX6, cX6_isFree, 2, yX6_isFree, (some .boolean), (1, 21), [])
def P_193 : List Nat := [0, 5, 11, 14, 18, 19]
/-- HandFingersModel.offBy(III)I -/
def i_194 : MI := (RX6, cX6_offBy, 5, yX6_offBy, (some .int), (2, 45), [])
def P_194 : List Nat := [0, 5, 20, 22, 33, 45, 58, 72, 73]
/-- HandFingersModel.linkOf(IIII)I -/
def i_195 : MI := (RX6, cX6_linkOf, 8, yX6_linkOf, (some .int), (3, 69), [])
def P_195 : List Nat := [0, 10, 17, 21, 28, 34, 36, 43, 49, 53, 54, 57, 58, 63, 68, 72, 77, 81, 82, 87, 91, 92, 95, 103, 111, 115, 120, 123, 124, 133, 142, 150, 153, 157, 158, 165, 170, 173, 174]
/-- HandFingersModel.isInOrder(I)Z -/
def i_196 : MI := (RX6, cX6_isInOrder, 3, yX6_isInOrder, (some .boolean), (0, 0), [])
def P_196 : List Nat := [0, 2, 7, 17, 34, 37, 54, 56, 62]
/-- HandFingersModel.mayPlay(I)Z -/
def i_197 : MI := (RX6, cX6_mayPlay, 3, yX6_mayPlay, (some .boolean), (1, 22), [])
def P_197 : List Nat := [0, 2, 8, 11, 17, 31, 33, 39]
/-- HandFingersModel.costHere(I)I -/
def i_198 : MI := (RX6, cX6_costHere, 6, yX6_costHere, (some .int), (3, 69), [])
def P_198 : List Nat := [0, 5, 11, 14, 19, 22, 24, 29, 35, 47, 58, 65, 68, 71, 76, 79, 80, 94, 100, 103, 104, 111, 114, 138, 147, 151, 159, 161, 167, 172, 178]
/-- HandFingersModel.fingerIn(II)I -/
def i_199 : MI := (RX6, cX6_fingerIn, 2, yX6_fingerIn, (some .int), (0, 0), [])
def P_199 : List Nat := [0, 4, 13, 18, 28, 33]
/-- HandFingersModel.looksAt(II)V -/
def i_200 : MI := (RX6, cX6_looksAt, 4, yX6_looksAt, none, (1, 21), [])
def P_200 : List Nat := [0, 2, 7, 17, 24]
/-- HandFingersModel.laysShapes()V -/
def i_201 : MI := (RX6, cX6_laysShapes, 5, yX6_laysShapes, none, (4, 94), [])
def P_201 : List Nat := [0, 2, 7, 10, 22, 26, 31, 36, 40, 44, 45, 48, 54, 61, 64, 69, 77, 80, 125, 132, 138]
/-- HandFingersModel.firstNote(I)I -/
def i_202 : MI := (RX6, cX6_firstNote, 2, yX6_firstNote, (some .int), (1, 21), [])
def P_202 : List Nat := [0, 10, 14, 19, 21]
/-- HandFingersModel.lastNote(I)I -/
def i_203 : MI := (RX6, cX6_lastNote, 2, yX6_lastNote, (some .int), (1, 21), [])
def P_203 : List Nat := [0, 10, 15, 20, 21]
/-- HandFingersModel.linkBy(IIIII)I -/
def i_204 : MI := (RX6, cX6_linkBy, 6, yX6_linkBy, (some .int), (4, 96), [])
def P_204 : List Nat := [0, 6, 12, 19, 28, 31]
/-- HandFingersModel.passage(III)I -/
def i_205 : MI := (RX6, cX6_passage, 6, yX6_passage, (some .int), (5, 121), [])
def P_205 : List Nat := [0, 5, 8, 10, 18, 26, 29, 36, 43, 48, 52, 60, 68, 71, 79, 85, 87, 99, 104]
/-- HandFingersModel.isCrossing(IIIII)Z -/
def i_206 : MI := (RX6, cX6_isCrossing, 9, yX6_isCrossing, (some .boolean), (1, 22), [])
def P_206 : List Nat := [0, 5, 14, 26, 35, 41, 45, 51, 60, 61, 68, 75, 80, 84, 85, 92, 96, 97, 100, 104, 105]
/-- HandFingersModel.crossings(III)I -/
def i_207 : MI := (RX6, cX6_crossings, 6, yX6_crossings, (some .int), (2, 50), [])
def P_207 : List Nat := [0, 5, 8, 10, 18, 26, 29, 32, 36, 37, 44, 51, 56, 60, 61, 70, 78, 86, 89, 92, 96, 97]
/-- HandFingersModel.laysLeast()V -/
def i_208 : MI := (RX6, cX6_laysLeast, 3, yX6_laysLeast, none, (7, 172), [])
def P_208 : List Nat := [0, 4, 8, 11, 15, 20, 35, 41, 47, 53]
/-- HandFingersModel.laysFrom(II)V -/
def i_209 : MI := (RX6, cX6_laysFrom, 7, yX6_laysFrom, none, (6, 146), [])
def P_209 : List Nat := [0, 5, 10, 14, 15, 20, 24, 27, 38, 42, 43, 53, 57, 58, 67, 71, 91, 109, 117, 130, 133, 174, 197, 201, 207, 219, 236, 242, 255, 261, 270]
/-- HandFingersModel.laysUpTo()V -/
def i_210 : MI := (RX6, cX6_laysUpTo, 6, yX6_laysUpTo, none, (6, 146), [])
def P_210 : List Nat := [0, 2, 7, 10, 15, 30, 34, 38, 41, 50, 54, 74, 94, 102, 115, 130, 136, 148, 154, 162, 169, 175]
/-- HandFingersModel.bestLaid()I -/
def i_211 : MI := (RX6, cX6_bestLaid, 3, yX6_bestLaid, (some .int), (1, 21), [])
def P_211 : List Nat := [0, 4, 7, 9, 15, 25, 42]
/-- HandFingersModel.bestNow()I -/
def i_212 : MI := (RX6, cX6_bestNow, 1, yX6_bestNow, (some .int), (8, 194), [])
def P_212 : List Nat := [0, 4, 8]
/-- HandFingersModel.orNone(I)I -/
def i_213 : MI := (RX6, cX6_orNone, 1, yX6_orNone, (some .int), (0, 0), [])
def P_213 : List Nat := [0, 7, 11, 12]
/-- HandFingersModel.chooses()Z -/
def i_214 : MI := (RX6, cX6_chooses, 4, yX6_chooses, (some .boolean), (9, 214), [])
def P_214 : List Nat := [0, 4, 7, 12, 15, 22, 27, 39, 44, 50, 77, 84, 88, 89]
/-- HandFingersModel.wayInto(II)I -/
def i_215 : MI := (RX6, cX6_wayInto, 4, yX6_wayInto, (some .int), (6, 146), [])
def P_215 : List Nat := [0, 4, 6, 32, 38, 44, 45]
/-- HandFingersModel.keysAt(Z)I -/
def i_216 : MI := (RX6, cX6_keysAt, 5, yX6_keysAt, (some .int), (1, 22), [])
def P_216 : List Nat := [0, 4, 9, 12, 15, 22, 25, 30, 37, 38, 42, 50, 56, 64, 67, 74, 80]
/-- HandFingersModel.blacks()I -/
def i_217 : MI := (RX6, cX6_blacks, 4, yX6_blacks, (some .int), (1, 22), [])
def P_217 : List Nat := [0, 4, 9, 12, 14, 20, 23, 30, 33, 36, 40, 41, 49, 55]
/-- HandFingersModel.freePassages()I -/
def i_218 : MI := (RX6, cX6_freePassages, 3, yX6_freePassages, (some .int), (2, 42), [])
def P_218 : List Nat := [0, 4, 11, 14, 20, 23, 27, 28, 36]
/-- HandFingersModel.count(I)I -/
def i_219 : MI := (RX6, cX6_count, 2, yX6_count, (some .int), (3, 64), [])
def P_219 : List Nat := [0, 8, 11, 15, 16, 26, 28, 68, 72, 73, 77, 78, 85, 90, 91, 96, 97, 101, 102, 106]
/-- HandFingersModel.event(II)I -/
def i_220 : MI := (RX6, cX6_event, 3, yX6_event, (some .int), (5, 118), [])
def P_220 : List Nat := [0, 6, 9, 13, 19, 22, 26, 27, 37, 39, 43, 47, 52, 55, 60, 65, 68, 74]
/-- HandFingersModel.note(III)I -/
def i_221 : MI := (RX6, cX6_note, 4, yX6_note, (some .int), (3, 65), [])
def P_221 : List Nat := [0, 7, 10, 14, 20, 23, 27, 28, 38, 40, 44, 50, 53, 59]
/-- HandFingersModel.weight(I)I -/
def i_222 : MI := (RX6, cX6_weight, 2, yX6_weight, (some .int), (1, 22), [])
def P_222 : List Nat := [0, 8, 11, 15, 16, 26, 30, 35]
/-- HandFingersModel.span(III)I -/
def i_223 : MI := (RX6, cX6_span, 4, yX6_span, (some .int), (2, 45), [])
def P_223 : List Nat := [0, 5, 8, 12, 15, 19, 24, 30, 33, 37, 38, 48, 52, 61, 64]
/-- HandFingersModel.isOnBoard(I)Z -/
def i_224 : MI := (RX6, cX6_isOnBoard, 1, yX6_isOnBoard, (some .boolean), (1, 22), [])
def P_224 : List Nat := [0, 8]
/-- HandFingersModel.link(IIII)I -/
def i_225 : MI := (RX6, cX6_link, 5, yX6_link, (some .int), (4, 96), [])
def P_225 : List Nat := [0, 5, 8, 12, 15, 19, 23, 26, 31, 34, 38, 39, 49, 53, 62]
/-- HandFingersModel.best()I -/
def i_226 : MI := (RX6, cX6_best, 1, yX6_best, (some .int), (9, 214), [])
def P_226 : List Nat := [0, 9, 12]
/-- HandFingersModel.finger(II)I -/
def i_227 : MI := (RX6, cX6_finger, 3, yX6_finger, (some .int), (10, 237), [])
def P_227 : List Nat := [0, 7, 10, 14, 18, 21, 25, 26, 36, 40, 55]
/-- HandFingersModel.part(II)I -/
def i_228 : MI := (RX6, cX6_part, 5, yX6_part, (some .int), (10, 237), [])
def P_228 : List Nat := [0, 6, 9, 13, 19, 22, 26, 30, 33, 37, 38, 48, 50, 54, 66, 70, 72, 104, 114, 117, 127]
/-- HandFingersModel.many(Z)J -/
def i_229 : MI := (RX6, cX6_many, 6, yX6_many, (some .long), (9, 214), [])
def P_229 : List Nat := [0, 9, 14, 17, 19, 24, 35, 43, 53, 64, 71, 81, 82, 93]
/-- HandFingersModel.costWith(III)I -/
def i_230 : MI := (RX6, cX6_costWith, 6, yX6_costWith, (some .int), (8, 194), [])
def P_230 : List Nat := [0, 7, 10, 14, 17, 21, 22, 32, 34, 38, 42, 53, 69, 80, 84, 97, 110, 118, 123, 129, 134]
/-- HandFingersModel.through(I)I -/
def i_231 : MI := (RX6, cX6_through, 2, yX6_through, (some .int), (0, 0), [])
def P_231 : List Nat := [0, 12, 24, 30, 50]
/-- HandFingersModel.reaches()I -/
def i_232 : MI := (RX6, cX6_reaches, 4, yX6_reaches, (some .int), (7, 171), [])
def P_232 : List Nat := [0, 9, 13, 17, 22, 25, 30, 45, 57, 63, 64, 71, 77]
/-- HandFingersModel.uses(I)I -/
def i_233 : MI := (RX6, cX6_uses, 5, yX6_uses, (some .int), (10, 237), [])
def P_233 : List Nat := [0, 5, 8, 12, 16, 19, 23, 24, 34, 36, 40, 45, 48, 51, 58, 61, 78, 82, 86, 87, 95, 101]
/-- HandFingersModel.isSure(III)Z -/
def i_234 : MI := (RX6, cX6_isSure, 6, yX6_isSure, (some .boolean), (1, 21), [])
def P_234 : List Nat := [0, 9, 25, 33, 37, 49, 53, 54, 63, 73, 77, 78]
/-- HandFingersModel.sure()I -/
def i_235 : MI := (RX6, cX6_sure, 5, yX6_sure, (some .int), (9, 214), [])
def P_235 : List Nat := [0, 4, 13, 17, 18, 28, 30, 34, 38, 43, 46, 49, 56, 59, 68, 71, 75, 76, 84, 90]
/-- HandFingersModel.mean()D -/
def i_236 : MI := (RX6, cX6_mean, 2, yX6_mean, (some .double), (9, 214), [])
def P_236 : List Nat := [0, 4, 13, 17, 18, 28, 32, 35, 39, 45, 47]
/-- HandFingersModel.readsFingers()V -/
def i_237 : MI := (RX6, cX6_readsFingers, 4, yX6_readsFingers, none, (4, 87), [])
def P_237 : List Nat := [0, 4, 6, 11, 14, 26, 32, 35, 42, 50, 56, 71, 86, 92, 99, 107, 116, 121, 123, 126, 130]
/-- HandFingersModel.costOfEvent(I)I -/
def i_238 : MI := (RX6, cX6_costOfEvent, 2, yX6_costOfEvent, (some .int), (4, 94), [])
def P_238 : List Nat := [0, 12, 15, 20]
/-- HandFingersModel.faultNow()I -/
def i_239 : MI := (RX6, cX6_faultNow, 2, yX6_faultNow, (some .int), (6, 146), [])
def P_239 : List Nat := [0, 2, 7, 10, 15, 19, 26, 30, 51, 55, 62, 68]
/-- HandFingersModel.costOfTold()I -/
def i_240 : MI := (RX6, cX6_costOfTold, 3, yX6_costOfTold, (some .int), (7, 167), [])
def P_240 : List Nat := [0, 4, 11, 16, 20, 24, 27, 31, 36, 39, 45, 49, 70, 73, 74, 83]
/-- HandFingersModel.faultOfTold()I -/
def i_241 : MI := (RX6, cX6_faultOfTold, 2, yX6_faultOfTold, (some .int), (7, 167), [])
def P_241 : List Nat := [0, 4, 11, 16, 20, 26, 31, 32]
/-- HandFingersModel.otherHand()I -/
def i_242 : MI := (RX6, cX6_otherHand, 2, yX6_otherHand, (some .int), (9, 214), [])
def P_242 : List Nat := [0, 23, 42]
/-- HandFingersModel.canMove(I)Z -/
def i_243 : MI := (RX6, cX6_canMove, 2, yX6_canMove, (some .boolean), (2, 46), [])
def P_243 : List Nat := [0, 8, 11, 15, 18, 23, 28, 31, 36, 41, 44, 48, 49]
/-- HandFingersModel.moves(I)V -/
def i_244 : MI := (RX6, cX6_moves, 4, yX6_moves, none, (1, 21), [])
def P_244 : List Nat := [0, 2, 7, 10, 12, 18, 21, 47, 53]
/-- HandFingersModel.bestMoved(I)I -/
def i_245 : MI := (RX6, cX6_bestMoved, 3, yX6_bestMoved, (some .int), (9, 214), [])
def P_245 : List Nat := [0, 5, 9, 16]
/-- HandFingersModel.transposed(I)I -/
def i_246 : MI := (RX6, cX6_transposed, 2, yX6_transposed, (some .int), (10, 236), [])
def P_246 : List Nat := [0, 6, 9, 13, 14, 24, 28, 33, 36]
/-- HandFingersModel.easiest(I)I -/
def i_247 : MI := (RX6, cX6_easiest, 7, yX6_easiest, (some .int), (10, 236), [])
def P_247 : List Nat := [0, 8, 11, 15, 16, 26, 28, 37, 45, 53, 63, 67, 75, 78, 84, 87, 90, 98, 101, 107, 113, 121, 125, 126, 136, 140, 141]
/-- HandFingersModel.restBehind()I -/
def i_248 : MI := (RX6, cX6_restBehind, 6, yX6_restBehind, (some .int), (9, 214), [])
def P_248 : List Nat := [0, 9, 14, 21, 24, 29, 51, 75, 78, 83, 89]
/-- HandFingersModel.areKeys(III)Z -/
def i_249 : MI := (RX6, cX6_areKeys, 3, yX6_areKeys, (some .boolean), (2, 42), [])
def P_249 : List Nat := [0, 4, 7, 9, 13, 17, 21, 22, 23, 28, 32, 35, 39, 44, 48, 51, 55, 56]
/-- HandFingersModel.play(IIIII)I -/
def i_250 : MI := (RX6, cX6_play, 8, yX6_play, (some .int), (3, 64), [])
def P_250 : List Nat := [0, 7, 10, 13, 17, 24, 27, 35, 38, 42, 43, 53, 55, 59, 64, 67, 75, 89, 99, 122, 132, 136, 141, 145, 146, 192, 198, 218, 232]
/-- HandFingersModel.drop(I)I -/
def i_251 : MI := (RX6, cX6_drop, 3, yX6_drop, (some .int), (2, 46), [])
def P_251 : List Nat := [0, 6, 9, 13, 14, 24, 26, 34, 42, 49, 70, 84]
/-- HandFingersModel.sets(II)I -/
def i_252 : MI := (RX6, cX6_sets, 4, yX6_sets, (some .int), (2, 46), [])
def P_252 : List Nat := [0, 8]
/-- HandFingersModel.setRest(II)I -/
def i_253 : MI := (RX6, cX6_setRest, 3, yX6_setRest, (some .int), (3, 69), [])
def P_253 : List Nat := [0, 6, 9, 13, 20, 23, 27, 28, 38, 42, 56]
/-- HandFingersModel.let(IIIZ)I -/
def i_254 : MI := (RX6, cX6_let, 7, yX6_let, (some .int), (3, 69), [])
def P_254 : List Nat := [0, 7, 10, 14, 17, 21, 22, 32, 34, 63, 76, 88, 91]
/-- HandFingersModel.setWeight(II)I -/
def i_255 : MI := (RX6, cX6_setWeight, 3, yX6_setWeight, (some .int), (3, 69), [])
def P_255 : List Nat := [0, 8, 11, 15, 22, 25, 29, 30, 40, 44, 52]
/-- HandFingersModel.setSpan(IIIII)I -/
def i_256 : MI := (RX6, cX6_setSpan, 8, yX6_setSpan, (some .int), (3, 71), [])
def P_256 : List Nat := [0, 5, 12, 15, 23, 26, 35, 38, 42, 43, 50, 53, 57, 60, 64, 69, 73, 74, 84, 86, 94, 103, 119]
/-- HandFingersModel.setHand(Z)I -/
def i_257 : MI := (RX6, cX6_setHand, 2, yX6_setHand, (some .int), (9, 214), [])
def P_257 : List Nat := [0, 12, 16, 17, 20, 27, 30]
/-- HandFingersModel.transpose(I)I -/
def i_258 : MI := (RX6, cX6_transpose, 2, yX6_transpose, (some .int), (9, 214), [])
def P_258 : List Nat := [0, 6, 9, 13, 14, 24, 26, 34, 39, 43, 46]
/-- HandFingersModel.fix()I -/
def i_259 : MI := (RX6, cX6_fix, 5, yX6_fix, (some .int), (10, 237), [])
def P_259 : List Nat := [0, 5, 8, 12, 13, 23, 25, 33, 37, 42, 45, 47, 53, 56, 62, 75, 79, 80, 113, 123, 129]
/-- HandFingersModel.says(I)V -/
def i_260 : MI := (RX6, cX6_says, 2, yX6_says, none, (0, 0), [])
def P_260 : List Nat := [0]
/-- HandFingersModel.writeFingers()I -/
def i_261 : MI := (RX6, cX6_writeFingers, 3, yX6_writeFingers, (some .int), (10, 237), [])
def P_261 : List Nat := [0, 5, 8, 12, 13, 23, 25, 32, 37, 40, 44, 50, 52, 58, 61, 79, 83, 89, 96, 99, 104, 107, 113, 119]
/-- HandFingersModel.writtenByte(I)I -/
def i_262 : MI := (RX6, cX6_writtenByte, 2, yX6_writtenByte, (some .int), (1, 22), [])
def P_262 : List Nat := [0, 12, 15, 19, 20, 30, 34, 40]
/-- HandFingersLaw.append(LHandFingers;IIIII[J)I -/
def i_263 : MI := (RL, cL_append, 8, yL_append, (some .int), (7, 107), [(0, 16, 19, 13)])
def P_263 : List Nat := [0, 14, 21, 23]
/-- HandFingersLaw.count(LHandFingers;I[J)I -/
def i_264 : MI := (RL, cL_count, 4, yL_count, (some .int), (7, 102), [(0, 9, 12, 19)])
def P_264 : List Nat := [0, 7, 13, 15]
/-- HandFingersLaw.event(LHandFingers;II[J)I -/
def i_265 : MI := (RL, cL_event, 5, yL_event, (some .int), (8, 174), [(0, 10, 13, 25), (0, 10, 17, 19)])
def P_265 : List Nat := [0, 8, 15, 19, 21]
/-- HandFingersLaw.note(LHandFingers;III[J)I -/
def i_266 : MI := (RL, cL_note, 6, yL_note, (some .int), (9, 147), [(0, 12, 15, 25), (0, 12, 19, 19)])
def P_266 : List Nat := [0, 10, 17, 21, 23]
/-- HandFingersLaw.weight(LHandFingers;I[J)I -/
def i_267 : MI := (RL, cL_weight, 4, yL_weight, (some .int), (8, 123), [(0, 9, 12, 25)])
def P_267 : List Nat := [0, 7, 13, 15]
/-- HandFingersLaw.span(LHandFingers;III[J)I -/
def i_268 : MI := (RL, cL_span, 6, yL_span, (some .int), (8, 125), [(0, 12, 15, 25), (0, 12, 19, 19)])
def P_268 : List Nat := [0, 10, 17, 21, 23]
/-- HandFingersLaw.link(LHandFingers;IIII[J)I -/
def i_269 : MI := (RL, cL_link, 7, yL_link, (some .int), (8, 126), [(0, 14, 17, 25), (0, 14, 21, 19)])
def P_269 : List Nat := [0, 12, 19, 23, 25]
/-- HandFingersLaw.finger(LHandFingers;II[J)I -/
def i_270 : MI := (RL, cL_finger, 5, yL_finger, (some .int), (9, 194), [(0, 10, 13, 25), (0, 10, 17, 44)])
def P_270 : List Nat := [0, 8, 15, 19, 21]
/-- HandFingersLaw.part(LHandFingers;II[J)I -/
def i_271 : MI := (RL, cL_part, 5, yL_part, (some .int), (8, 194), [(0, 10, 13, 25), (0, 10, 17, 19), (0, 10, 21, 44)])
def P_271 : List Nat := [0, 8, 15, 19, 23, 25]
/-- HandFingersLaw.costWith(LHandFingers;III[J)I -/
def i_272 : MI := (RL, cL_costWith, 6, yL_costWith, (some .int), (9, 175), [(0, 12, 15, 25)])
def P_272 : List Nat := [0, 10, 17, 19]
/-- HandFingersLaw.uses(LHandFingers;I[J)I -/
def i_273 : MI := (RL, cL_uses, 4, yL_uses, (some .int), (8, 196), [(0, 9, 12, 25), (0, 9, 15, 44)])
def P_273 : List Nat := [0, 7, 13, 16, 18]
/-- HandFingersLaw.sure(LHandFingers;[J)I -/
def i_274 : MI := (RL, cL_sure, 3, yL_sure, (some .int), (8, 195), [(0, 8, 11, 44)])
def P_274 : List Nat := [0, 6, 12, 14]
/-- HandFingersLaw.mean(LHandFingers;[D)I -/
def i_275 : MI := (RL, cL_mean, 3, yL_mean, (some .int), (8, 193), [(0, 7, 10, 44)])
def P_275 : List Nat := [0, 6, 11, 13]
/-- HandFingersLaw.transposed(LHandFingers;I[J)I -/
def i_276 : MI := (RL, cL_transposed, 4, yL_transposed, (some .int), (8, 173), [(0, 9, 12, 19)])
def P_276 : List Nat := [0, 7, 13, 15]
/-- HandFingersLaw.easiest(LHandFingers;I[J)I -/
def i_277 : MI := (RL, cL_easiest, 4, yL_easiest, (some .int), (8, 197), [(0, 9, 12, 19), (0, 9, 15, 44)])
def P_277 : List Nat := [0, 7, 13, 16, 18]
/-- HandFingersLaw.play(LHandFingers;IIIII[J)I -/
def i_278 : MI := (RL, cL_play, 8, yL_play, (some .int), (7, 156), [(0, 16, 19, 25), (0, 16, 23, 19)])
def P_278 : List Nat := [0, 14, 21, 25, 27]
/-- HandFingersLaw.drop(LHandFingers;I[J)I -/
def i_279 : MI := (RL, cL_drop, 4, yL_drop, (some .int), (8, 152), [(0, 9, 12, 25)])
def P_279 : List Nat := [0, 7, 13, 15]
/-- HandFingersLaw.setRest(LHandFingers;II[J)I -/
def i_280 : MI := (RL, cL_setRest, 5, yL_setRest, (some .int), (8, 154), [(0, 10, 13, 25), (0, 10, 17, 19)])
def P_280 : List Nat := [0, 8, 15, 19, 21]
/-- HandFingersLaw.let(LHandFingers;IIIZ[J)I -/
def i_281 : MI := (RL, cL_let, 7, yL_let, (some .int), (9, 157), [(0, 14, 17, 25)])
def P_281 : List Nat := [0, 12, 19, 21]
/-- HandFingersLaw.setWeight(LHandFingers;II[J)I -/
def i_282 : MI := (RL, cL_setWeight, 5, yL_setWeight, (some .int), (8, 154), [(0, 10, 13, 25), (0, 10, 17, 19)])
def P_282 : List Nat := [0, 8, 15, 19, 21]
/-- HandFingersLaw.setSpan(LHandFingers;IIIII[J)I -/
def i_283 : MI := (RL, cL_setSpan, 8, yL_setSpan, (some .int), (8, 157), [(0, 16, 19, 25), (0, 16, 23, 19)])
def P_283 : List Nat := [0, 14, 21, 25, 27]
/-- HandFingersLaw.transpose(LHandFingers;I[J)I -/
def i_284 : MI := (RL, cL_transpose, 4, yL_transpose, (some .int), (8, 173), [(0, 9, 12, 19)])
def P_284 : List Nat := [0, 7, 13, 15]
/-- HandFingersLaw.fix(LHandFingers;[J)I -/
def i_285 : MI := (RL, cL_fix, 3, yL_fix, (some .int), (8, 196), [(0, 8, 11, 44)])
def P_285 : List Nat := [0, 6, 12, 14]
/-- HandFingersLaw.undo(LHandFingers;[J)I -/
def i_286 : MI := (RL, cL_undo, 3, yL_undo, (some .int), (7, 111), [(0, 8, 11, 13)])
def P_286 : List Nat := [0, 6, 12, 14]
/-- HandFingersLaw.save(LHandFingers;I)I -/
def i_287 : MI := (RL, cL_save, 3, yL_save, (some .int), (8, 132), [(0, 5, 8, 25)])
def P_287 : List Nat := [0, 5, 9, 11]
/-- HandFingersLaw.restore(LHandFingers;I[J)I -/
def i_288 : MI := (RL, cL_restore, 4, yL_restore, (some .int), (8, 152), [(0, 9, 12, 25), (0, 9, 15, 13)])
def P_288 : List Nat := [0, 7, 13, 16, 18]
/-- HandFingersLaw.writeFingers(LHandFingers;[J)I -/
def i_289 : MI := (RL, cL_writeFingers, 3, yL_writeFingers, (some .int), (8, 194), [(0, 8, 11, 44)])
def P_289 : List Nat := [0, 6, 12, 14]
/-- HandFingersLaw.writtenByte(LHandFingers;I[J)I -/
def i_290 : MI := (RL, cL_writtenByte, 4, yL_writtenByte, (some .int), (7, 102), [(0, 9, 12, 25)])
def P_290 : List Nat := [0, 7, 13, 15]
/-- HandFingersLaw.law([I)Z -/
def i_291 : MI := (RL, cL_law, 9, yL_law, (some .boolean), (11, 262), [])
def P_291 : List Nat := [0, 7, 15, 28, 38, 212, 247, 283, 289, 294, 296, 301, 311, 313, 316, 320, 324, 327, 329, 333, 337, 340, 342, 353, 365, 371, 376, 378, 383, 393, 395, 398, 415, 433, 439, 444, 446, 451, 461, 463, 466, 489, 513, 519, 524, 526, 531, 541, 543, 546, 557, 569, 575, 580, 582, 587, 597, 599, 602, 625, 649, 655, 660, 662, 667, 677, 679, 682, 711, 741, 747, 752, 754, 759, 769, 771, 774, 778, 782, 785, 787, 804, 822, 828, 833, 835, 840, 850, 852, 855, 872, 890, 896, 901, 903, 908, 918, 920, 923, 933, 937, 938, 941, 951, 955, 956, 959, 963, 965, 988, 1012, 1018, 1023, 1025, 1030, 1040, 1042, 1045, 1049, 1053, 1056, 1058, 1069, 1081, 1087, 1092, 1094, 1099, 1109, 1111, 1114, 1119, 1125, 1131, 1136, 1138, 1143, 1153, 1155, 1158, 1164, 1170, 1176, 1181, 1183, 1188, 1198, 1210, 1218, 1220, 1223, 1227, 1231, 1234, 1236, 1240, 1244, 1247, 1249, 1253, 1257, 1260, 1262, 1273, 1285, 1291, 1296, 1298, 1303, 1313, 1315, 1318, 1329, 1341, 1347, 1352, 1354, 1359, 1369, 1371, 1374, 1378, 1382, 1385, 1387, 1422, 1458, 1464, 1469, 1471, 1476, 1486, 1488, 1491, 1502, 1514, 1520, 1525, 1527, 1532, 1542, 1544, 1547, 1564, 1582, 1588, 1593, 1595, 1600, 1610, 1612, 1615, 1643, 1647, 1648, 1652, 1682, 1686, 1687, 1690, 1696, 1701, 1703, 1708, 1718, 1720, 1723, 1740, 1758, 1764, 1769, 1771, 1776, 1786, 1788, 1791, 1826, 1862, 1868, 1873, 1875, 1880, 1890, 1892, 1895, 1905, 1909, 1910, 1913, 1923, 1927, 1928, 1931, 1934, 1936, 1947, 1959, 1965, 1970, 1972, 1977, 1987, 1989, 1992, 1997, 2003, 2009, 2014, 2016, 2021, 2031, 2033, 2036, 2041, 2047, 2053, 2058, 2060, 2065, 2075, 2077, 2080, 2090, 2102, 2106, 2111, 2113, 2116, 2127, 2139, 2145, 2150, 2152, 2157, 2167, 2169, 2172, 2177, 2183, 2189, 2194, 2196, 2201, 2211, 2213, 2216, 2227, 2239, 2245, 2250, 2252, 2257, 2267, 2269, 2272, 2278]
/-- java/lang/Math.floorMod(II)I -/
def i_292 : MI := (RJ9, cJ9_floorMod_7cf53, 3, yJ9_floorMod_7cf53, (some .int), (0, 0), [])
def P_292 : List Nat := [0, 10, 14, 18]
/-- java/lang/Integer.bitCount(I)I -/
def i_293 : MI := (RJ6, cJ6_bitCount_0f7a4, 1, yJ6_bitCount_0f7a4, (some .int), (0, 0), [])
def P_293 : List Nat := [0]
/-- java/lang/String.length()I -/
def i_294 : MI := (RJ0, cJ0_length_8abf5, 1, yJ0_length_8abf5, (some .int), (1, 20), [])
def P_294 : List Nat := [0, 9]
/-- java/lang/String.charAt(I)C -/
def i_295 : MI := (RJ0, cJ0_charAt_5068e, 2, yJ0_charAt_5068e, (some .char), (3, 64), [])
def P_295 : List Nat := [0, 4, 7, 15, 16]
/-- java/lang/String.coder()B -/
def i_296 : MI := (RJ0, cJ0_coder_7d493, 1, yJ0_coder_7d493, (some .byte), (0, 0), [])
def P_296 : List Nat := [0, 6, 13, 14]
/-- java/lang/String.isLatin1()Z -/
def i_297 : MI := (RJ0, cJ0_isLatin1_aae02, 1, yJ0_isLatin1_aae02, (some .boolean), (0, 0), [])
def P_297 : List Nat := [0, 6, 13, 17, 18]
/-- java/lang/StringLatin1.charAt([BI)C -/
def i_298 : MI := (RJ1, cJ1_charAt_3b067, 2, yJ1_charAt_3b067, (some .char), (2, 43), [])
def P_298 : List Nat := [0]
def i_z : MI := ("", ⟨#[]⟩, 0, ⟨"", "", ""⟩, none, (0, 0), [])
def progI : List MI := [i_0, i_1, i_2, i_3, i_4, i_5, i_6, i_7, i_8, i_9, i_10, i_11, i_12, i_13, i_14, i_15, i_16, i_17, i_18, i_19, i_20, i_21, i_22, i_23, i_24, i_25, i_26, i_27, i_28, i_29, i_30, i_31, i_32, i_33, i_34, i_35, i_36, i_37, i_38, i_39, i_40, i_41, i_42, i_43, i_44, i_45, i_46, i_47, i_48, i_49, i_50, i_51, i_52, i_53, i_54, i_55, i_56, i_57, i_58, i_59, i_60, i_61, i_62, i_63, i_64, i_65, i_66, i_67, i_68, i_69, i_70, i_71, i_72, i_73, i_74, i_75, i_76, i_77, i_78, i_79, i_80, i_81, i_82, i_83, i_84, i_85, i_86, i_87, i_88, i_89, i_90, i_91, i_92, i_93, i_94, i_95, i_96, i_97, i_98, i_99, i_100, i_101, i_102, i_103, i_104, i_105, i_106, i_107, i_108, i_109, i_110, i_111, i_112, i_113, i_114, i_115, i_116, i_117, i_118, i_119, i_120, i_121, i_122, i_123, i_124, i_125, i_126, i_127, i_128, i_129, i_130, i_131, i_132, i_133, i_134, i_135, i_136, i_137, i_138, i_139, i_140, i_141, i_142, i_143, i_144, i_145, i_146, i_147, i_148, i_149, i_150, i_151, i_152, i_153, i_154, i_155, i_156, i_157, i_158, i_159, i_160, i_161, i_162, i_163, i_164, i_165, i_166, i_167, i_168, i_169, i_170, i_171, i_172, i_173, i_174, i_175, i_176, i_177, i_178, i_179, i_180, i_181, i_182, i_183, i_184, i_185, i_186, i_187, i_188, i_189, i_190, i_191, i_192, i_193, i_194, i_195, i_196, i_197, i_198, i_199, i_200, i_201, i_202, i_203, i_204, i_205, i_206, i_207, i_208, i_209, i_210, i_211, i_212, i_213, i_214, i_215, i_216, i_217, i_218, i_219, i_220, i_221, i_222, i_223, i_224, i_225, i_226, i_227, i_228, i_229, i_230, i_231, i_232, i_233, i_234, i_235, i_236, i_237, i_238, i_239, i_240, i_241, i_242, i_243, i_244, i_245, i_246, i_247, i_248, i_249, i_250, i_251, i_252, i_253, i_254, i_255, i_256, i_257, i_258, i_259, i_260, i_261, i_262, i_263, i_264, i_265, i_266, i_267, i_268, i_269, i_270, i_271, i_272, i_273, i_274, i_275, i_276, i_277, i_278, i_279, i_280, i_281, i_282, i_283, i_284, i_285, i_286, i_287, i_288, i_289, i_290, i_291, i_292, i_293, i_294, i_295, i_296, i_297, i_298]
def progP : List (List Nat) := [P_0, P_1, P_2, P_3, P_4, P_5, P_6, P_7, P_8, P_9, P_10, P_11, P_12, P_13, P_14, P_15, P_16, P_17, P_18, P_19, P_20, P_21, P_22, P_23, P_24, P_25, P_26, P_27, P_28, P_29, P_30, P_31, P_32, P_33, P_34, P_35, P_36, P_37, P_38, P_39, P_40, P_41, P_42, P_43, P_44, P_45, P_46, P_47, P_48, P_49, P_50, P_51, P_52, P_53, P_54, P_55, P_56, P_57, P_58, P_59, P_60, P_61, P_62, P_63, P_64, P_65, P_66, P_67, P_68, P_69, P_70, P_71, P_72, P_73, P_74, P_75, P_76, P_77, P_78, P_79, P_80, P_81, P_82, P_83, P_84, P_85, P_86, P_87, P_88, P_89, P_90, P_91, P_92, P_93, P_94, P_95, P_96, P_97, P_98, P_99, P_100, P_101, P_102, P_103, P_104, P_105, P_106, P_107, P_108, P_109, P_110, P_111, P_112, P_113, P_114, P_115, P_116, P_117, P_118, P_119, P_120, P_121, P_122, P_123, P_124, P_125, P_126, P_127, P_128, P_129, P_130, P_131, P_132, P_133, P_134, P_135, P_136, P_137, P_138, P_139, P_140, P_141, P_142, P_143, P_144, P_145, P_146, P_147, P_148, P_149, P_150, P_151, P_152, P_153, P_154, P_155, P_156, P_157, P_158, P_159, P_160, P_161, P_162, P_163, P_164, P_165, P_166, P_167, P_168, P_169, P_170, P_171, P_172, P_173, P_174, P_175, P_176, P_177, P_178, P_179, P_180, P_181, P_182, P_183, P_184, P_185, P_186, P_187, P_188, P_189, P_190, P_191, P_192, P_193, P_194, P_195, P_196, P_197, P_198, P_199, P_200, P_201, P_202, P_203, P_204, P_205, P_206, P_207, P_208, P_209, P_210, P_211, P_212, P_213, P_214, P_215, P_216, P_217, P_218, P_219, P_220, P_221, P_222, P_223, P_224, P_225, P_226, P_227, P_228, P_229, P_230, P_231, P_232, P_233, P_234, P_235, P_236, P_237, P_238, P_239, P_240, P_241, P_242, P_243, P_244, P_245, P_246, P_247, P_248, P_249, P_250, P_251, P_252, P_253, P_254, P_255, P_256, P_257, P_258, P_259, P_260, P_261, P_262, P_263, P_264, P_265, P_266, P_267, P_268, P_269, P_270, P_271, P_272, P_273, P_274, P_275, P_276, P_277, P_278, P_279, P_280, P_281, P_282, P_283, P_284, P_285, P_286, P_287, P_288, P_289, P_290, P_291, P_292, P_293, P_294, P_295, P_296, P_297, P_298]
def bpf (P : List Nat) (b : Nat) : Nat := P.getD b 0
def mi (k : Nat) : MI := progI.getD k i_z
def bpc (k : Nat) : Nat → Nat := bpf (progP.getD k [])
theorem mi_0 : mi 0 = i_0 := rfl
theorem mi_1 : mi 1 = i_1 := rfl
theorem mi_2 : mi 2 = i_2 := rfl
theorem mi_3 : mi 3 = i_3 := rfl
theorem mi_4 : mi 4 = i_4 := rfl
theorem mi_5 : mi 5 = i_5 := rfl
theorem mi_6 : mi 6 = i_6 := rfl
theorem mi_7 : mi 7 = i_7 := rfl
theorem mi_8 : mi 8 = i_8 := rfl
theorem mi_9 : mi 9 = i_9 := rfl
theorem mi_10 : mi 10 = i_10 := rfl
theorem mi_11 : mi 11 = i_11 := rfl
theorem mi_12 : mi 12 = i_12 := rfl
theorem mi_13 : mi 13 = i_13 := rfl
theorem mi_14 : mi 14 = i_14 := rfl
theorem mi_15 : mi 15 = i_15 := rfl
theorem mi_16 : mi 16 = i_16 := rfl
theorem mi_17 : mi 17 = i_17 := rfl
theorem mi_18 : mi 18 = i_18 := rfl
theorem mi_19 : mi 19 = i_19 := rfl
theorem mi_20 : mi 20 = i_20 := rfl
theorem mi_21 : mi 21 = i_21 := rfl
theorem mi_22 : mi 22 = i_22 := rfl
theorem mi_23 : mi 23 = i_23 := rfl
theorem mi_24 : mi 24 = i_24 := rfl
theorem mi_25 : mi 25 = i_25 := rfl
theorem mi_26 : mi 26 = i_26 := rfl
theorem mi_27 : mi 27 = i_27 := rfl
theorem mi_28 : mi 28 = i_28 := rfl
theorem mi_29 : mi 29 = i_29 := rfl
theorem mi_30 : mi 30 = i_30 := rfl
theorem mi_31 : mi 31 = i_31 := rfl
theorem mi_32 : mi 32 = i_32 := rfl
theorem mi_33 : mi 33 = i_33 := rfl
theorem mi_34 : mi 34 = i_34 := rfl
theorem mi_35 : mi 35 = i_35 := rfl
theorem mi_36 : mi 36 = i_36 := rfl
theorem mi_37 : mi 37 = i_37 := rfl
theorem mi_38 : mi 38 = i_38 := rfl
theorem mi_39 : mi 39 = i_39 := rfl
theorem mi_40 : mi 40 = i_40 := rfl
theorem mi_41 : mi 41 = i_41 := rfl
theorem mi_42 : mi 42 = i_42 := rfl
theorem mi_43 : mi 43 = i_43 := rfl
theorem mi_44 : mi 44 = i_44 := rfl
theorem mi_45 : mi 45 = i_45 := rfl
theorem mi_46 : mi 46 = i_46 := rfl
theorem mi_47 : mi 47 = i_47 := rfl
theorem mi_48 : mi 48 = i_48 := rfl
theorem mi_49 : mi 49 = i_49 := rfl
theorem mi_50 : mi 50 = i_50 := rfl
theorem mi_51 : mi 51 = i_51 := rfl
theorem mi_52 : mi 52 = i_52 := rfl
theorem mi_53 : mi 53 = i_53 := rfl
theorem mi_54 : mi 54 = i_54 := rfl
theorem mi_55 : mi 55 = i_55 := rfl
theorem mi_56 : mi 56 = i_56 := rfl
theorem mi_57 : mi 57 = i_57 := rfl
theorem mi_58 : mi 58 = i_58 := rfl
theorem mi_59 : mi 59 = i_59 := rfl
theorem mi_60 : mi 60 = i_60 := rfl
theorem mi_61 : mi 61 = i_61 := rfl
theorem mi_62 : mi 62 = i_62 := rfl
theorem mi_63 : mi 63 = i_63 := rfl
theorem mi_64 : mi 64 = i_64 := rfl
theorem mi_65 : mi 65 = i_65 := rfl
theorem mi_66 : mi 66 = i_66 := rfl
theorem mi_67 : mi 67 = i_67 := rfl
theorem mi_68 : mi 68 = i_68 := rfl
theorem mi_69 : mi 69 = i_69 := rfl
theorem mi_70 : mi 70 = i_70 := rfl
theorem mi_71 : mi 71 = i_71 := rfl
theorem mi_72 : mi 72 = i_72 := rfl
theorem mi_73 : mi 73 = i_73 := rfl
theorem mi_74 : mi 74 = i_74 := rfl
theorem mi_75 : mi 75 = i_75 := rfl
theorem mi_76 : mi 76 = i_76 := rfl
theorem mi_77 : mi 77 = i_77 := rfl
theorem mi_78 : mi 78 = i_78 := rfl
theorem mi_79 : mi 79 = i_79 := rfl
theorem mi_80 : mi 80 = i_80 := rfl
theorem mi_81 : mi 81 = i_81 := rfl
theorem mi_82 : mi 82 = i_82 := rfl
theorem mi_83 : mi 83 = i_83 := rfl
theorem mi_84 : mi 84 = i_84 := rfl
theorem mi_85 : mi 85 = i_85 := rfl
theorem mi_86 : mi 86 = i_86 := rfl
theorem mi_87 : mi 87 = i_87 := rfl
theorem mi_88 : mi 88 = i_88 := rfl
theorem mi_89 : mi 89 = i_89 := rfl
theorem mi_90 : mi 90 = i_90 := rfl
theorem mi_91 : mi 91 = i_91 := rfl
theorem mi_92 : mi 92 = i_92 := rfl
theorem mi_93 : mi 93 = i_93 := rfl
theorem mi_94 : mi 94 = i_94 := rfl
theorem mi_95 : mi 95 = i_95 := rfl
theorem mi_96 : mi 96 = i_96 := rfl
theorem mi_97 : mi 97 = i_97 := rfl
theorem mi_98 : mi 98 = i_98 := rfl
theorem mi_99 : mi 99 = i_99 := rfl
theorem mi_100 : mi 100 = i_100 := rfl
theorem mi_101 : mi 101 = i_101 := rfl
theorem mi_102 : mi 102 = i_102 := rfl
theorem mi_103 : mi 103 = i_103 := rfl
theorem mi_104 : mi 104 = i_104 := rfl
theorem mi_105 : mi 105 = i_105 := rfl
theorem mi_106 : mi 106 = i_106 := rfl
theorem mi_107 : mi 107 = i_107 := rfl
theorem mi_108 : mi 108 = i_108 := rfl
theorem mi_109 : mi 109 = i_109 := rfl
theorem mi_110 : mi 110 = i_110 := rfl
theorem mi_111 : mi 111 = i_111 := rfl
theorem mi_112 : mi 112 = i_112 := rfl
theorem mi_113 : mi 113 = i_113 := rfl
theorem mi_114 : mi 114 = i_114 := rfl
theorem mi_115 : mi 115 = i_115 := rfl
theorem mi_116 : mi 116 = i_116 := rfl
theorem mi_117 : mi 117 = i_117 := rfl
theorem mi_118 : mi 118 = i_118 := rfl
theorem mi_119 : mi 119 = i_119 := rfl
theorem mi_120 : mi 120 = i_120 := rfl
theorem mi_121 : mi 121 = i_121 := rfl
theorem mi_122 : mi 122 = i_122 := rfl
theorem mi_123 : mi 123 = i_123 := rfl
theorem mi_124 : mi 124 = i_124 := rfl
theorem mi_125 : mi 125 = i_125 := rfl
theorem mi_126 : mi 126 = i_126 := rfl
theorem mi_127 : mi 127 = i_127 := rfl
theorem mi_128 : mi 128 = i_128 := rfl
theorem mi_129 : mi 129 = i_129 := rfl
theorem mi_130 : mi 130 = i_130 := rfl
theorem mi_131 : mi 131 = i_131 := rfl
theorem mi_132 : mi 132 = i_132 := rfl
theorem mi_133 : mi 133 = i_133 := rfl
theorem mi_134 : mi 134 = i_134 := rfl
theorem mi_135 : mi 135 = i_135 := rfl
theorem mi_136 : mi 136 = i_136 := rfl
theorem mi_137 : mi 137 = i_137 := rfl
theorem mi_138 : mi 138 = i_138 := rfl
theorem mi_139 : mi 139 = i_139 := rfl
theorem mi_140 : mi 140 = i_140 := rfl
theorem mi_141 : mi 141 = i_141 := rfl
theorem mi_142 : mi 142 = i_142 := rfl
theorem mi_143 : mi 143 = i_143 := rfl
theorem mi_144 : mi 144 = i_144 := rfl
theorem mi_145 : mi 145 = i_145 := rfl
theorem mi_146 : mi 146 = i_146 := rfl
theorem mi_147 : mi 147 = i_147 := rfl
theorem mi_148 : mi 148 = i_148 := rfl
theorem mi_149 : mi 149 = i_149 := rfl
theorem mi_150 : mi 150 = i_150 := rfl
theorem mi_151 : mi 151 = i_151 := rfl
theorem mi_152 : mi 152 = i_152 := rfl
theorem mi_153 : mi 153 = i_153 := rfl
theorem mi_154 : mi 154 = i_154 := rfl
theorem mi_155 : mi 155 = i_155 := rfl
theorem mi_156 : mi 156 = i_156 := rfl
theorem mi_157 : mi 157 = i_157 := rfl
theorem mi_158 : mi 158 = i_158 := rfl
theorem mi_159 : mi 159 = i_159 := rfl
theorem mi_160 : mi 160 = i_160 := rfl
theorem mi_161 : mi 161 = i_161 := rfl
theorem mi_162 : mi 162 = i_162 := rfl
theorem mi_163 : mi 163 = i_163 := rfl
theorem mi_164 : mi 164 = i_164 := rfl
theorem mi_165 : mi 165 = i_165 := rfl
theorem mi_166 : mi 166 = i_166 := rfl
theorem mi_167 : mi 167 = i_167 := rfl
theorem mi_168 : mi 168 = i_168 := rfl
theorem mi_169 : mi 169 = i_169 := rfl
theorem mi_170 : mi 170 = i_170 := rfl
theorem mi_171 : mi 171 = i_171 := rfl
theorem mi_172 : mi 172 = i_172 := rfl
theorem mi_173 : mi 173 = i_173 := rfl
theorem mi_174 : mi 174 = i_174 := rfl
theorem mi_175 : mi 175 = i_175 := rfl
theorem mi_176 : mi 176 = i_176 := rfl
theorem mi_177 : mi 177 = i_177 := rfl
theorem mi_178 : mi 178 = i_178 := rfl
theorem mi_179 : mi 179 = i_179 := rfl
theorem mi_180 : mi 180 = i_180 := rfl
theorem mi_181 : mi 181 = i_181 := rfl
theorem mi_182 : mi 182 = i_182 := rfl
theorem mi_183 : mi 183 = i_183 := rfl
theorem mi_184 : mi 184 = i_184 := rfl
theorem mi_185 : mi 185 = i_185 := rfl
theorem mi_186 : mi 186 = i_186 := rfl
theorem mi_187 : mi 187 = i_187 := rfl
theorem mi_188 : mi 188 = i_188 := rfl
theorem mi_189 : mi 189 = i_189 := rfl
theorem mi_190 : mi 190 = i_190 := rfl
theorem mi_191 : mi 191 = i_191 := rfl
theorem mi_192 : mi 192 = i_192 := rfl
theorem mi_193 : mi 193 = i_193 := rfl
theorem mi_194 : mi 194 = i_194 := rfl
theorem mi_195 : mi 195 = i_195 := rfl
theorem mi_196 : mi 196 = i_196 := rfl
theorem mi_197 : mi 197 = i_197 := rfl
theorem mi_198 : mi 198 = i_198 := rfl
theorem mi_199 : mi 199 = i_199 := rfl
theorem mi_200 : mi 200 = i_200 := rfl
theorem mi_201 : mi 201 = i_201 := rfl
theorem mi_202 : mi 202 = i_202 := rfl
theorem mi_203 : mi 203 = i_203 := rfl
theorem mi_204 : mi 204 = i_204 := rfl
theorem mi_205 : mi 205 = i_205 := rfl
theorem mi_206 : mi 206 = i_206 := rfl
theorem mi_207 : mi 207 = i_207 := rfl
theorem mi_208 : mi 208 = i_208 := rfl
theorem mi_209 : mi 209 = i_209 := rfl
theorem mi_210 : mi 210 = i_210 := rfl
theorem mi_211 : mi 211 = i_211 := rfl
theorem mi_212 : mi 212 = i_212 := rfl
theorem mi_213 : mi 213 = i_213 := rfl
theorem mi_214 : mi 214 = i_214 := rfl
theorem mi_215 : mi 215 = i_215 := rfl
theorem mi_216 : mi 216 = i_216 := rfl
theorem mi_217 : mi 217 = i_217 := rfl
theorem mi_218 : mi 218 = i_218 := rfl
theorem mi_219 : mi 219 = i_219 := rfl
theorem mi_220 : mi 220 = i_220 := rfl
theorem mi_221 : mi 221 = i_221 := rfl
theorem mi_222 : mi 222 = i_222 := rfl
theorem mi_223 : mi 223 = i_223 := rfl
theorem mi_224 : mi 224 = i_224 := rfl
theorem mi_225 : mi 225 = i_225 := rfl
theorem mi_226 : mi 226 = i_226 := rfl
theorem mi_227 : mi 227 = i_227 := rfl
theorem mi_228 : mi 228 = i_228 := rfl
theorem mi_229 : mi 229 = i_229 := rfl
theorem mi_230 : mi 230 = i_230 := rfl
theorem mi_231 : mi 231 = i_231 := rfl
theorem mi_232 : mi 232 = i_232 := rfl
theorem mi_233 : mi 233 = i_233 := rfl
theorem mi_234 : mi 234 = i_234 := rfl
theorem mi_235 : mi 235 = i_235 := rfl
theorem mi_236 : mi 236 = i_236 := rfl
theorem mi_237 : mi 237 = i_237 := rfl
theorem mi_238 : mi 238 = i_238 := rfl
theorem mi_239 : mi 239 = i_239 := rfl
theorem mi_240 : mi 240 = i_240 := rfl
theorem mi_241 : mi 241 = i_241 := rfl
theorem mi_242 : mi 242 = i_242 := rfl
theorem mi_243 : mi 243 = i_243 := rfl
theorem mi_244 : mi 244 = i_244 := rfl
theorem mi_245 : mi 245 = i_245 := rfl
theorem mi_246 : mi 246 = i_246 := rfl
theorem mi_247 : mi 247 = i_247 := rfl
theorem mi_248 : mi 248 = i_248 := rfl
theorem mi_249 : mi 249 = i_249 := rfl
theorem mi_250 : mi 250 = i_250 := rfl
theorem mi_251 : mi 251 = i_251 := rfl
theorem mi_252 : mi 252 = i_252 := rfl
theorem mi_253 : mi 253 = i_253 := rfl
theorem mi_254 : mi 254 = i_254 := rfl
theorem mi_255 : mi 255 = i_255 := rfl
theorem mi_256 : mi 256 = i_256 := rfl
theorem mi_257 : mi 257 = i_257 := rfl
theorem mi_258 : mi 258 = i_258 := rfl
theorem mi_259 : mi 259 = i_259 := rfl
theorem mi_260 : mi 260 = i_260 := rfl
theorem mi_261 : mi 261 = i_261 := rfl
theorem mi_262 : mi 262 = i_262 := rfl
theorem mi_263 : mi 263 = i_263 := rfl
theorem mi_264 : mi 264 = i_264 := rfl
theorem mi_265 : mi 265 = i_265 := rfl
theorem mi_266 : mi 266 = i_266 := rfl
theorem mi_267 : mi 267 = i_267 := rfl
theorem mi_268 : mi 268 = i_268 := rfl
theorem mi_269 : mi 269 = i_269 := rfl
theorem mi_270 : mi 270 = i_270 := rfl
theorem mi_271 : mi 271 = i_271 := rfl
theorem mi_272 : mi 272 = i_272 := rfl
theorem mi_273 : mi 273 = i_273 := rfl
theorem mi_274 : mi 274 = i_274 := rfl
theorem mi_275 : mi 275 = i_275 := rfl
theorem mi_276 : mi 276 = i_276 := rfl
theorem mi_277 : mi 277 = i_277 := rfl
theorem mi_278 : mi 278 = i_278 := rfl
theorem mi_279 : mi 279 = i_279 := rfl
theorem mi_280 : mi 280 = i_280 := rfl
theorem mi_281 : mi 281 = i_281 := rfl
theorem mi_282 : mi 282 = i_282 := rfl
theorem mi_283 : mi 283 = i_283 := rfl
theorem mi_284 : mi 284 = i_284 := rfl
theorem mi_285 : mi 285 = i_285 := rfl
theorem mi_286 : mi 286 = i_286 := rfl
theorem mi_287 : mi 287 = i_287 := rfl
theorem mi_288 : mi 288 = i_288 := rfl
theorem mi_289 : mi 289 = i_289 := rfl
theorem mi_290 : mi 290 = i_290 := rfl
theorem mi_291 : mi 291 = i_291 := rfl
theorem mi_292 : mi 292 = i_292 := rfl
theorem mi_293 : mi 293 = i_293 := rfl
theorem mi_294 : mi 294 = i_294 := rfl
theorem mi_295 : mi 295 = i_295 := rfl
theorem mi_296 : mi 296 = i_296 := rfl
theorem mi_297 : mi 297 = i_297 := rfl
theorem mi_298 : mi 298 = i_298 := rfl
theorem bp_0 : bpc 0 = bpf P_0 := rfl
theorem bp_1 : bpc 1 = bpf P_1 := rfl
theorem bp_2 : bpc 2 = bpf P_2 := rfl
theorem bp_3 : bpc 3 = bpf P_3 := rfl
theorem bp_4 : bpc 4 = bpf P_4 := rfl
theorem bp_5 : bpc 5 = bpf P_5 := rfl
theorem bp_6 : bpc 6 = bpf P_6 := rfl
theorem bp_7 : bpc 7 = bpf P_7 := rfl
theorem bp_8 : bpc 8 = bpf P_8 := rfl
theorem bp_9 : bpc 9 = bpf P_9 := rfl
theorem bp_10 : bpc 10 = bpf P_10 := rfl
theorem bp_11 : bpc 11 = bpf P_11 := rfl
theorem bp_12 : bpc 12 = bpf P_12 := rfl
theorem bp_13 : bpc 13 = bpf P_13 := rfl
theorem bp_14 : bpc 14 = bpf P_14 := rfl
theorem bp_15 : bpc 15 = bpf P_15 := rfl
theorem bp_16 : bpc 16 = bpf P_16 := rfl
theorem bp_17 : bpc 17 = bpf P_17 := rfl
theorem bp_18 : bpc 18 = bpf P_18 := rfl
theorem bp_19 : bpc 19 = bpf P_19 := rfl
theorem bp_20 : bpc 20 = bpf P_20 := rfl
theorem bp_21 : bpc 21 = bpf P_21 := rfl
theorem bp_22 : bpc 22 = bpf P_22 := rfl
theorem bp_23 : bpc 23 = bpf P_23 := rfl
theorem bp_24 : bpc 24 = bpf P_24 := rfl
theorem bp_25 : bpc 25 = bpf P_25 := rfl
theorem bp_26 : bpc 26 = bpf P_26 := rfl
theorem bp_27 : bpc 27 = bpf P_27 := rfl
theorem bp_28 : bpc 28 = bpf P_28 := rfl
theorem bp_29 : bpc 29 = bpf P_29 := rfl
theorem bp_30 : bpc 30 = bpf P_30 := rfl
theorem bp_31 : bpc 31 = bpf P_31 := rfl
theorem bp_32 : bpc 32 = bpf P_32 := rfl
theorem bp_33 : bpc 33 = bpf P_33 := rfl
theorem bp_34 : bpc 34 = bpf P_34 := rfl
theorem bp_35 : bpc 35 = bpf P_35 := rfl
theorem bp_36 : bpc 36 = bpf P_36 := rfl
theorem bp_37 : bpc 37 = bpf P_37 := rfl
theorem bp_38 : bpc 38 = bpf P_38 := rfl
theorem bp_39 : bpc 39 = bpf P_39 := rfl
theorem bp_40 : bpc 40 = bpf P_40 := rfl
theorem bp_41 : bpc 41 = bpf P_41 := rfl
theorem bp_42 : bpc 42 = bpf P_42 := rfl
theorem bp_43 : bpc 43 = bpf P_43 := rfl
theorem bp_44 : bpc 44 = bpf P_44 := rfl
theorem bp_45 : bpc 45 = bpf P_45 := rfl
theorem bp_46 : bpc 46 = bpf P_46 := rfl
theorem bp_47 : bpc 47 = bpf P_47 := rfl
theorem bp_48 : bpc 48 = bpf P_48 := rfl
theorem bp_49 : bpc 49 = bpf P_49 := rfl
theorem bp_50 : bpc 50 = bpf P_50 := rfl
theorem bp_51 : bpc 51 = bpf P_51 := rfl
theorem bp_52 : bpc 52 = bpf P_52 := rfl
theorem bp_53 : bpc 53 = bpf P_53 := rfl
theorem bp_54 : bpc 54 = bpf P_54 := rfl
theorem bp_55 : bpc 55 = bpf P_55 := rfl
theorem bp_56 : bpc 56 = bpf P_56 := rfl
theorem bp_57 : bpc 57 = bpf P_57 := rfl
theorem bp_58 : bpc 58 = bpf P_58 := rfl
theorem bp_59 : bpc 59 = bpf P_59 := rfl
theorem bp_60 : bpc 60 = bpf P_60 := rfl
theorem bp_61 : bpc 61 = bpf P_61 := rfl
theorem bp_62 : bpc 62 = bpf P_62 := rfl
theorem bp_63 : bpc 63 = bpf P_63 := rfl
theorem bp_64 : bpc 64 = bpf P_64 := rfl
theorem bp_65 : bpc 65 = bpf P_65 := rfl
theorem bp_66 : bpc 66 = bpf P_66 := rfl
theorem bp_67 : bpc 67 = bpf P_67 := rfl
theorem bp_68 : bpc 68 = bpf P_68 := rfl
theorem bp_69 : bpc 69 = bpf P_69 := rfl
theorem bp_70 : bpc 70 = bpf P_70 := rfl
theorem bp_71 : bpc 71 = bpf P_71 := rfl
theorem bp_72 : bpc 72 = bpf P_72 := rfl
theorem bp_73 : bpc 73 = bpf P_73 := rfl
theorem bp_74 : bpc 74 = bpf P_74 := rfl
theorem bp_75 : bpc 75 = bpf P_75 := rfl
theorem bp_76 : bpc 76 = bpf P_76 := rfl
theorem bp_77 : bpc 77 = bpf P_77 := rfl
theorem bp_78 : bpc 78 = bpf P_78 := rfl
theorem bp_79 : bpc 79 = bpf P_79 := rfl
theorem bp_80 : bpc 80 = bpf P_80 := rfl
theorem bp_81 : bpc 81 = bpf P_81 := rfl
theorem bp_82 : bpc 82 = bpf P_82 := rfl
theorem bp_83 : bpc 83 = bpf P_83 := rfl
theorem bp_84 : bpc 84 = bpf P_84 := rfl
theorem bp_85 : bpc 85 = bpf P_85 := rfl
theorem bp_86 : bpc 86 = bpf P_86 := rfl
theorem bp_87 : bpc 87 = bpf P_87 := rfl
theorem bp_88 : bpc 88 = bpf P_88 := rfl
theorem bp_89 : bpc 89 = bpf P_89 := rfl
theorem bp_90 : bpc 90 = bpf P_90 := rfl
theorem bp_91 : bpc 91 = bpf P_91 := rfl
theorem bp_92 : bpc 92 = bpf P_92 := rfl
theorem bp_93 : bpc 93 = bpf P_93 := rfl
theorem bp_94 : bpc 94 = bpf P_94 := rfl
theorem bp_95 : bpc 95 = bpf P_95 := rfl
theorem bp_96 : bpc 96 = bpf P_96 := rfl
theorem bp_97 : bpc 97 = bpf P_97 := rfl
theorem bp_98 : bpc 98 = bpf P_98 := rfl
theorem bp_99 : bpc 99 = bpf P_99 := rfl
theorem bp_100 : bpc 100 = bpf P_100 := rfl
theorem bp_101 : bpc 101 = bpf P_101 := rfl
theorem bp_102 : bpc 102 = bpf P_102 := rfl
theorem bp_103 : bpc 103 = bpf P_103 := rfl
theorem bp_104 : bpc 104 = bpf P_104 := rfl
theorem bp_105 : bpc 105 = bpf P_105 := rfl
theorem bp_106 : bpc 106 = bpf P_106 := rfl
theorem bp_107 : bpc 107 = bpf P_107 := rfl
theorem bp_108 : bpc 108 = bpf P_108 := rfl
theorem bp_109 : bpc 109 = bpf P_109 := rfl
theorem bp_110 : bpc 110 = bpf P_110 := rfl
theorem bp_111 : bpc 111 = bpf P_111 := rfl
theorem bp_112 : bpc 112 = bpf P_112 := rfl
theorem bp_113 : bpc 113 = bpf P_113 := rfl
theorem bp_114 : bpc 114 = bpf P_114 := rfl
theorem bp_115 : bpc 115 = bpf P_115 := rfl
theorem bp_116 : bpc 116 = bpf P_116 := rfl
theorem bp_117 : bpc 117 = bpf P_117 := rfl
theorem bp_118 : bpc 118 = bpf P_118 := rfl
theorem bp_119 : bpc 119 = bpf P_119 := rfl
theorem bp_120 : bpc 120 = bpf P_120 := rfl
theorem bp_121 : bpc 121 = bpf P_121 := rfl
theorem bp_122 : bpc 122 = bpf P_122 := rfl
theorem bp_123 : bpc 123 = bpf P_123 := rfl
theorem bp_124 : bpc 124 = bpf P_124 := rfl
theorem bp_125 : bpc 125 = bpf P_125 := rfl
theorem bp_126 : bpc 126 = bpf P_126 := rfl
theorem bp_127 : bpc 127 = bpf P_127 := rfl
theorem bp_128 : bpc 128 = bpf P_128 := rfl
theorem bp_129 : bpc 129 = bpf P_129 := rfl
theorem bp_130 : bpc 130 = bpf P_130 := rfl
theorem bp_131 : bpc 131 = bpf P_131 := rfl
theorem bp_132 : bpc 132 = bpf P_132 := rfl
theorem bp_133 : bpc 133 = bpf P_133 := rfl
theorem bp_134 : bpc 134 = bpf P_134 := rfl
theorem bp_135 : bpc 135 = bpf P_135 := rfl
theorem bp_136 : bpc 136 = bpf P_136 := rfl
theorem bp_137 : bpc 137 = bpf P_137 := rfl
theorem bp_138 : bpc 138 = bpf P_138 := rfl
theorem bp_139 : bpc 139 = bpf P_139 := rfl
theorem bp_140 : bpc 140 = bpf P_140 := rfl
theorem bp_141 : bpc 141 = bpf P_141 := rfl
theorem bp_142 : bpc 142 = bpf P_142 := rfl
theorem bp_143 : bpc 143 = bpf P_143 := rfl
theorem bp_144 : bpc 144 = bpf P_144 := rfl
theorem bp_145 : bpc 145 = bpf P_145 := rfl
theorem bp_146 : bpc 146 = bpf P_146 := rfl
theorem bp_147 : bpc 147 = bpf P_147 := rfl
theorem bp_148 : bpc 148 = bpf P_148 := rfl
theorem bp_149 : bpc 149 = bpf P_149 := rfl
theorem bp_150 : bpc 150 = bpf P_150 := rfl
theorem bp_151 : bpc 151 = bpf P_151 := rfl
theorem bp_152 : bpc 152 = bpf P_152 := rfl
theorem bp_153 : bpc 153 = bpf P_153 := rfl
theorem bp_154 : bpc 154 = bpf P_154 := rfl
theorem bp_155 : bpc 155 = bpf P_155 := rfl
theorem bp_156 : bpc 156 = bpf P_156 := rfl
theorem bp_157 : bpc 157 = bpf P_157 := rfl
theorem bp_158 : bpc 158 = bpf P_158 := rfl
theorem bp_159 : bpc 159 = bpf P_159 := rfl
theorem bp_160 : bpc 160 = bpf P_160 := rfl
theorem bp_161 : bpc 161 = bpf P_161 := rfl
theorem bp_162 : bpc 162 = bpf P_162 := rfl
theorem bp_163 : bpc 163 = bpf P_163 := rfl
theorem bp_164 : bpc 164 = bpf P_164 := rfl
theorem bp_165 : bpc 165 = bpf P_165 := rfl
theorem bp_166 : bpc 166 = bpf P_166 := rfl
theorem bp_167 : bpc 167 = bpf P_167 := rfl
theorem bp_168 : bpc 168 = bpf P_168 := rfl
theorem bp_169 : bpc 169 = bpf P_169 := rfl
theorem bp_170 : bpc 170 = bpf P_170 := rfl
theorem bp_171 : bpc 171 = bpf P_171 := rfl
theorem bp_172 : bpc 172 = bpf P_172 := rfl
theorem bp_173 : bpc 173 = bpf P_173 := rfl
theorem bp_174 : bpc 174 = bpf P_174 := rfl
theorem bp_175 : bpc 175 = bpf P_175 := rfl
theorem bp_176 : bpc 176 = bpf P_176 := rfl
theorem bp_177 : bpc 177 = bpf P_177 := rfl
theorem bp_178 : bpc 178 = bpf P_178 := rfl
theorem bp_179 : bpc 179 = bpf P_179 := rfl
theorem bp_180 : bpc 180 = bpf P_180 := rfl
theorem bp_181 : bpc 181 = bpf P_181 := rfl
theorem bp_182 : bpc 182 = bpf P_182 := rfl
theorem bp_183 : bpc 183 = bpf P_183 := rfl
theorem bp_184 : bpc 184 = bpf P_184 := rfl
theorem bp_185 : bpc 185 = bpf P_185 := rfl
theorem bp_186 : bpc 186 = bpf P_186 := rfl
theorem bp_187 : bpc 187 = bpf P_187 := rfl
theorem bp_188 : bpc 188 = bpf P_188 := rfl
theorem bp_189 : bpc 189 = bpf P_189 := rfl
theorem bp_190 : bpc 190 = bpf P_190 := rfl
theorem bp_191 : bpc 191 = bpf P_191 := rfl
theorem bp_192 : bpc 192 = bpf P_192 := rfl
theorem bp_193 : bpc 193 = bpf P_193 := rfl
theorem bp_194 : bpc 194 = bpf P_194 := rfl
theorem bp_195 : bpc 195 = bpf P_195 := rfl
theorem bp_196 : bpc 196 = bpf P_196 := rfl
theorem bp_197 : bpc 197 = bpf P_197 := rfl
theorem bp_198 : bpc 198 = bpf P_198 := rfl
theorem bp_199 : bpc 199 = bpf P_199 := rfl
theorem bp_200 : bpc 200 = bpf P_200 := rfl
theorem bp_201 : bpc 201 = bpf P_201 := rfl
theorem bp_202 : bpc 202 = bpf P_202 := rfl
theorem bp_203 : bpc 203 = bpf P_203 := rfl
theorem bp_204 : bpc 204 = bpf P_204 := rfl
theorem bp_205 : bpc 205 = bpf P_205 := rfl
theorem bp_206 : bpc 206 = bpf P_206 := rfl
theorem bp_207 : bpc 207 = bpf P_207 := rfl
theorem bp_208 : bpc 208 = bpf P_208 := rfl
theorem bp_209 : bpc 209 = bpf P_209 := rfl
theorem bp_210 : bpc 210 = bpf P_210 := rfl
theorem bp_211 : bpc 211 = bpf P_211 := rfl
theorem bp_212 : bpc 212 = bpf P_212 := rfl
theorem bp_213 : bpc 213 = bpf P_213 := rfl
theorem bp_214 : bpc 214 = bpf P_214 := rfl
theorem bp_215 : bpc 215 = bpf P_215 := rfl
theorem bp_216 : bpc 216 = bpf P_216 := rfl
theorem bp_217 : bpc 217 = bpf P_217 := rfl
theorem bp_218 : bpc 218 = bpf P_218 := rfl
theorem bp_219 : bpc 219 = bpf P_219 := rfl
theorem bp_220 : bpc 220 = bpf P_220 := rfl
theorem bp_221 : bpc 221 = bpf P_221 := rfl
theorem bp_222 : bpc 222 = bpf P_222 := rfl
theorem bp_223 : bpc 223 = bpf P_223 := rfl
theorem bp_224 : bpc 224 = bpf P_224 := rfl
theorem bp_225 : bpc 225 = bpf P_225 := rfl
theorem bp_226 : bpc 226 = bpf P_226 := rfl
theorem bp_227 : bpc 227 = bpf P_227 := rfl
theorem bp_228 : bpc 228 = bpf P_228 := rfl
theorem bp_229 : bpc 229 = bpf P_229 := rfl
theorem bp_230 : bpc 230 = bpf P_230 := rfl
theorem bp_231 : bpc 231 = bpf P_231 := rfl
theorem bp_232 : bpc 232 = bpf P_232 := rfl
theorem bp_233 : bpc 233 = bpf P_233 := rfl
theorem bp_234 : bpc 234 = bpf P_234 := rfl
theorem bp_235 : bpc 235 = bpf P_235 := rfl
theorem bp_236 : bpc 236 = bpf P_236 := rfl
theorem bp_237 : bpc 237 = bpf P_237 := rfl
theorem bp_238 : bpc 238 = bpf P_238 := rfl
theorem bp_239 : bpc 239 = bpf P_239 := rfl
theorem bp_240 : bpc 240 = bpf P_240 := rfl
theorem bp_241 : bpc 241 = bpf P_241 := rfl
theorem bp_242 : bpc 242 = bpf P_242 := rfl
theorem bp_243 : bpc 243 = bpf P_243 := rfl
theorem bp_244 : bpc 244 = bpf P_244 := rfl
theorem bp_245 : bpc 245 = bpf P_245 := rfl
theorem bp_246 : bpc 246 = bpf P_246 := rfl
theorem bp_247 : bpc 247 = bpf P_247 := rfl
theorem bp_248 : bpc 248 = bpf P_248 := rfl
theorem bp_249 : bpc 249 = bpf P_249 := rfl
theorem bp_250 : bpc 250 = bpf P_250 := rfl
theorem bp_251 : bpc 251 = bpf P_251 := rfl
theorem bp_252 : bpc 252 = bpf P_252 := rfl
theorem bp_253 : bpc 253 = bpf P_253 := rfl
theorem bp_254 : bpc 254 = bpf P_254 := rfl
theorem bp_255 : bpc 255 = bpf P_255 := rfl
theorem bp_256 : bpc 256 = bpf P_256 := rfl
theorem bp_257 : bpc 257 = bpf P_257 := rfl
theorem bp_258 : bpc 258 = bpf P_258 := rfl
theorem bp_259 : bpc 259 = bpf P_259 := rfl
theorem bp_260 : bpc 260 = bpf P_260 := rfl
theorem bp_261 : bpc 261 = bpf P_261 := rfl
theorem bp_262 : bpc 262 = bpf P_262 := rfl
theorem bp_263 : bpc 263 = bpf P_263 := rfl
theorem bp_264 : bpc 264 = bpf P_264 := rfl
theorem bp_265 : bpc 265 = bpf P_265 := rfl
theorem bp_266 : bpc 266 = bpf P_266 := rfl
theorem bp_267 : bpc 267 = bpf P_267 := rfl
theorem bp_268 : bpc 268 = bpf P_268 := rfl
theorem bp_269 : bpc 269 = bpf P_269 := rfl
theorem bp_270 : bpc 270 = bpf P_270 := rfl
theorem bp_271 : bpc 271 = bpf P_271 := rfl
theorem bp_272 : bpc 272 = bpf P_272 := rfl
theorem bp_273 : bpc 273 = bpf P_273 := rfl
theorem bp_274 : bpc 274 = bpf P_274 := rfl
theorem bp_275 : bpc 275 = bpf P_275 := rfl
theorem bp_276 : bpc 276 = bpf P_276 := rfl
theorem bp_277 : bpc 277 = bpf P_277 := rfl
theorem bp_278 : bpc 278 = bpf P_278 := rfl
theorem bp_279 : bpc 279 = bpf P_279 := rfl
theorem bp_280 : bpc 280 = bpf P_280 := rfl
theorem bp_281 : bpc 281 = bpf P_281 := rfl
theorem bp_282 : bpc 282 = bpf P_282 := rfl
theorem bp_283 : bpc 283 = bpf P_283 := rfl
theorem bp_284 : bpc 284 = bpf P_284 := rfl
theorem bp_285 : bpc 285 = bpf P_285 := rfl
theorem bp_286 : bpc 286 = bpf P_286 := rfl
theorem bp_287 : bpc 287 = bpf P_287 := rfl
theorem bp_288 : bpc 288 = bpf P_288 := rfl
theorem bp_289 : bpc 289 = bpf P_289 := rfl
theorem bp_290 : bpc 290 = bpf P_290 := rfl
theorem bp_291 : bpc 291 = bpf P_291 := rfl
theorem bp_292 : bpc 292 = bpf P_292 := rfl
theorem bp_293 : bpc 293 = bpf P_293 := rfl
theorem bp_294 : bpc 294 = bpf P_294 := rfl
theorem bp_295 : bpc 295 = bpf P_295 := rfl
theorem bp_296 : bpc 296 = bpf P_296 := rfl
theorem bp_297 : bpc 297 = bpf P_297 := rfl
theorem bp_298 : bpc 298 = bpf P_298 := rfl
