/-! words of the tables, by their places (wip/whole/gen/gencode.py) -/
theorem mw_0 : (Jvm.Cond.selects "Linkcourt$Board" ⟨"Linkcourt$Board", "numberCells", "()V"⟩ ⟨"Linkcourt$Board", "numberCells", "()V"⟩) ∈ mm_ws := mm_memI 0 (by decide +kernel) rfl
theorem mw_1 : (Jvm.Cond.selects "Linkcourt$Board" ⟨"Linkcourt$Board", "meetNeighbours", "()V"⟩ ⟨"Linkcourt$Board", "meetNeighbours", "()V"⟩) ∈ mm_ws := mm_memI 1 (by decide +kernel) rfl
theorem mw_2 : (Jvm.Cond.selects "Linkcourt$Board" ⟨"Linkcourt$Board", "at", "(II)I"⟩ ⟨"Linkcourt$Board", "at", "(II)I"⟩) ∈ mm_ws := mm_memI 2 (by decide +kernel) rfl
theorem mw_3 : (Jvm.Cond.selects "Linkcourt$Board" ⟨"Linkcourt$Board", "findSides", "()V"⟩ ⟨"Linkcourt$Board", "findSides", "()V"⟩) ∈ mm_ws := mm_memI 3 (by decide +kernel) rfl
theorem mw_4 : (Jvm.Cond.selects "Linkcourt$Board" ⟨"Linkcourt$Board", "isAt", "(II)Z"⟩ ⟨"Linkcourt$Board", "isAt", "(II)Z"⟩) ∈ mm_ws := mm_memI 4 (by decide +kernel) rfl
theorem mw_5 : (Jvm.Cond.selects "Linkcourt$Play" ⟨"Linkcourt$Play", "settle", "()V"⟩ ⟨"Linkcourt$Play", "settle", "()V"⟩) ∈ mm_ws := mm_memI 5 (by decide +kernel) rfl
theorem mw_6 : (Jvm.Cond.selects "Linkcourt$Play" ⟨"Linkcourt$Play", "firstKept", "(I)I"⟩ ⟨"Linkcourt$Play", "firstKept", "(I)I"⟩) ∈ mm_ws := mm_memI 6 (by decide +kernel) rfl
theorem mw_7 : (Jvm.Cond.selects "Linkcourt$Board" ⟨"Linkcourt$Board", "isAtAllSides", "(J)Z"⟩ ⟨"Linkcourt$Board", "isAtAllSides", "(J)Z"⟩) ∈ mm_ws := mm_memI 7 (by decide +kernel) rfl
theorem mw_8 : (Jvm.Cond.selects "Linkcourt$Board" ⟨"Linkcourt$Board", "leads", "(IIJ)Z"⟩ ⟨"Linkcourt$Board", "leads", "(IIJ)Z"⟩) ∈ mm_ws := mm_memI 8 (by decide +kernel) rfl
theorem mw_10 : (Jvm.Cond.selects "Linkcourt" ⟨"Linkcourt", "winner", "()I"⟩ ⟨"Linkcourt", "winner", "()I"⟩) ∈ mm_ws := mm_memI 10 (by decide +kernel) rfl
theorem mw_11 : (Jvm.Cond.selects "Linkcourt" ⟨"Linkcourt", "needFewGaps", "()V"⟩ ⟨"Linkcourt", "needFewGaps", "()V"⟩) ∈ mm_ws := mm_memI 11 (by decide +kernel) rfl
theorem mw_12 : (Jvm.Cond.selects "Linkcourt$BestPlay" ⟨"Linkcourt$BestPlay", "take", "(JJI)V"⟩ ⟨"Linkcourt$BestPlay", "take", "(JJI)V"⟩) ∈ mm_ws := mm_memI 12 (by decide +kernel) rfl
theorem mw_13 : (Jvm.Cond.selects "Linkcourt$BestPlay" ⟨"Linkcourt$BestPlay", "joinedAlready", "()I"⟩ ⟨"Linkcourt$BestPlay", "joinedAlready", "()I"⟩) ∈ mm_ws := mm_memI 13 (by decide +kernel) rfl
theorem mw_14 : (Jvm.Cond.selects "Linkcourt$BestPlay" ⟨"Linkcourt$BestPlay", "joins", "(II)Z"⟩ ⟨"Linkcourt$BestPlay", "joins", "(II)Z"⟩) ∈ mm_ws := mm_memI 14 (by decide +kernel) rfl
theorem mw_15 : (Jvm.Cond.selects "Linkcourt$BestPlay" ⟨"Linkcourt$BestPlay", "score", "(IIII)I"⟩ ⟨"Linkcourt$BestPlay", "score", "(IIII)I"⟩) ∈ mm_ws := mm_memI 15 (by decide +kernel) rfl
theorem mw_16 : (Jvm.Cond.selects "Linkcourt$BestPlay" ⟨"Linkcourt$BestPlay", "scoreBehind", "(IIII)I"⟩ ⟨"Linkcourt$BestPlay", "scoreBehind", "(IIII)I"⟩) ∈ mm_ws := mm_memI 16 (by decide +kernel) rfl
theorem mw_17 : (Jvm.Cond.selects "Linkcourt" ⟨"Linkcourt", "needLink", "(III)V"⟩ ⟨"Linkcourt", "needLink", "(III)V"⟩) ∈ mm_ws := mm_memI 17 (by decide +kernel) rfl
theorem mw_18 : (Jvm.Cond.selects "Linkcourt" ⟨"Linkcourt", "isEndOf", "(II)Z"⟩ ⟨"Linkcourt", "isEndOf", "(II)Z"⟩) ∈ mm_ws := mm_memI 18 (by decide +kernel) rfl
theorem mw_19 : (Jvm.Cond.selects "Linkcourt$Links" ⟨"Linkcourt$Links", "holds", "(III)Z"⟩ ⟨"Linkcourt$Links", "holds", "(III)Z"⟩) ∈ mm_ws := mm_memI 19 (by decide +kernel) rfl
theorem mw_20 : (Jvm.Cond.selects "Linkcourt$Links" ⟨"Linkcourt$Links", "ties", "(I)Z"⟩ ⟨"Linkcourt$Links", "ties", "(I)Z"⟩) ∈ mm_ws := mm_memI 20 (by decide +kernel) rfl
theorem mw_21 : (Jvm.Cond.selects "Linkcourt$Links" ⟨"Linkcourt$Links", "cellsOf", "(I)J"⟩ ⟨"Linkcourt$Links", "cellsOf", "(I)J"⟩) ∈ mm_ws := mm_memI 21 (by decide +kernel) rfl
theorem mw_22 : (Jvm.Cond.selects "Linkcourt$Links" ⟨"Linkcourt$Links", "hasAnswers", "(III)Z"⟩ ⟨"Linkcourt$Links", "hasAnswers", "(III)Z"⟩) ∈ mm_ws := mm_memI 22 (by decide +kernel) rfl
theorem mw_23 : (Jvm.Cond.selects "Linkcourt$Links" ⟨"Linkcourt$Links", "hasAnswer", "(III)Z"⟩ ⟨"Linkcourt$Links", "hasAnswer", "(III)Z"⟩) ∈ mm_ws := mm_memI 23 (by decide +kernel) rfl
theorem mw_24 : (Jvm.Cond.selects "Linkcourt$Ways" ⟨"Linkcourt$Ways", "fewestToThree", "(JJ)I"⟩ ⟨"Linkcourt$Ways", "fewestToThree", "(JJ)I"⟩) ∈ mm_ws := mm_memI 24 (by decide +kernel) rfl
theorem mw_25 : (Jvm.Cond.selects "Linkcourt$Ways" ⟨"Linkcourt$Ways", "measure", "(IJJJ)V"⟩ ⟨"Linkcourt$Ways", "measure", "(IJJJ)V"⟩) ∈ mm_ws := mm_memI 25 (by decide +kernel) rfl
theorem mw_26 : (Jvm.Cond.selects "Linkcourt$Ways" ⟨"Linkcourt$Ways", "note", "(IJI)V"⟩ ⟨"Linkcourt$Ways", "note", "(IJI)V"⟩) ∈ mm_ws := mm_memI 26 (by decide +kernel) rfl
theorem mw_27 : (Jvm.Cond.selects "Linkcourt$Ways" ⟨"Linkcourt$Ways", "beside", "(J)J"⟩ ⟨"Linkcourt$Ways", "beside", "(J)J"⟩) ∈ mm_ws := mm_memI 27 (by decide +kernel) rfl
theorem mw_28 : (Jvm.Cond.selects "Linkcourt$Ways" ⟨"Linkcourt$Ways", "cost", "(II)I"⟩ ⟨"Linkcourt$Ways", "cost", "(II)I"⟩) ∈ mm_ws := mm_memI 28 (by decide +kernel) rfl
theorem mw_29 : (Jvm.Cond.selects "Linkcourt$Ways" ⟨"Linkcourt$Ways", "fewestToTwo", "(IIJJ)I"⟩ ⟨"Linkcourt$Ways", "fewestToTwo", "(IIJJ)I"⟩) ∈ mm_ws := mm_memI 29 (by decide +kernel) rfl
theorem mw_30 : (Jvm.Cond.selects "Linkcourt" ⟨"Linkcourt", "playedOutFrom", "(I)J"⟩ ⟨"Linkcourt", "playedOutFrom", "(I)J"⟩) ∈ mm_ws := mm_memI 30 (by decide +kernel) rfl
theorem mw_31 : (Jvm.Cond.selects "Linkcourt$PlayingOut" ⟨"Linkcourt$PlayingOut", "saving", "(IJJ)I"⟩ ⟨"Linkcourt$PlayingOut", "saving", "(IJJ)I"⟩) ∈ mm_ws := mm_memI 31 (by decide +kernel) rfl
theorem mw_32 : (Jvm.Cond.selects "Linkcourt$PlayingOut" ⟨"Linkcourt$PlayingOut", "between", "(IIJ)J"⟩ ⟨"Linkcourt$PlayingOut", "between", "(IIJ)J"⟩) ∈ mm_ws := mm_memI 32 (by decide +kernel) rfl
theorem mw_33 : (Jvm.Cond.selects "Linkcourt$PlayingOut" ⟨"Linkcourt$PlayingOut", "drawnOf", "(J)I"⟩ ⟨"Linkcourt$PlayingOut", "drawnOf", "(J)I"⟩) ∈ mm_ws := mm_memI 33 (by decide +kernel) rfl
theorem mw_34 : (Jvm.Cond.selects "Linkcourt$PlayingOut" ⟨"Linkcourt$PlayingOut", "draw", "(I)I"⟩ ⟨"Linkcourt$PlayingOut", "draw", "(I)I"⟩) ∈ mm_ws := mm_memI 34 (by decide +kernel) rfl
theorem mw_35 : (Jvm.Cond.selects "Linkcourt$Patterns" ⟨"Linkcourt$Patterns", "signOf", "(JI)C"⟩ ⟨"Linkcourt$Patterns", "signOf", "(JI)C"⟩) ∈ mm_ws := mm_memI 35 (by decide +kernel) rfl
theorem mw_36 : (Jvm.Cond.selects "Linkcourt$Patterns" ⟨"Linkcourt$Patterns", "translate", "(I)V"⟩ ⟨"Linkcourt$Patterns", "translate", "(I)V"⟩) ∈ mm_ws := mm_memI 36 (by decide +kernel) rfl
theorem mw_37 : (Jvm.Cond.selects "Linkcourt$Patterns" ⟨"Linkcourt$Patterns", "character", "(II)C"⟩ ⟨"Linkcourt$Patterns", "character", "(II)C"⟩) ∈ mm_ws := mm_memI 37 (by decide +kernel) rfl
theorem mw_38 : (Jvm.Cond.selects "Linkcourt$Patterns" ⟨"Linkcourt$Patterns", "surroundings", "(IJJ)I"⟩ ⟨"Linkcourt$Patterns", "surroundings", "(IJJ)I"⟩) ∈ mm_ws := mm_memI 38 (by decide +kernel) rfl
theorem mw_39 : (Jvm.Cond.selects "Linkcourt$Patterns" ⟨"Linkcourt$Patterns", "rowsFit", "(II)Z"⟩ ⟨"Linkcourt$Patterns", "rowsFit", "(II)Z"⟩) ∈ mm_ws := mm_memI 39 (by decide +kernel) rfl
theorem mw_40 : (Jvm.Cond.selects "Linkcourt$Patterns" ⟨"Linkcourt$Patterns", "textFits", "(IIJJ)Z"⟩ ⟨"Linkcourt$Patterns", "textFits", "(IIJJ)Z"⟩) ∈ mm_ws := mm_memI 40 (by decide +kernel) rfl
theorem mw_41 : (Jvm.Cond.selects "Linkcourt$Patterns" ⟨"Linkcourt$Patterns", "textFitsTurned", "(IIIJJ)Z"⟩ ⟨"Linkcourt$Patterns", "textFitsTurned", "(IIIJJ)Z"⟩) ∈ mm_ws := mm_memI 41 (by decide +kernel) rfl
theorem mw_42 : (Jvm.Cond.selects "Linkcourt$Ladder" ⟨"Linkcourt$Ladder", "climb", "(II)V"⟩ ⟨"Linkcourt$Ladder", "climb", "(II)V"⟩) ∈ mm_ws := mm_memI 42 (by decide +kernel) rfl
theorem mw_43 : (Jvm.Cond.selects "LinkcourtModel" ⟨"LinkcourtModel", "begins", "(III)V"⟩ ⟨"LinkcourtModel", "begins", "(III)V"⟩) ∈ mm_ws := mm_memI 43 (by decide +kernel) rfl
theorem mw_44 : (Jvm.Cond.selects "LinkcourtModel" ⟨"LinkcourtModel", "neighbourOf", "(III)I"⟩ ⟨"LinkcourtModel", "neighbourOf", "(III)I"⟩) ∈ mm_ws := mm_memI 44 (by decide +kernel) rfl
theorem mw_45 : (Jvm.Cond.selects "LinkcourtModel" ⟨"LinkcourtModel", "at", "(II)I"⟩ ⟨"LinkcourtModel", "at", "(II)I"⟩) ∈ mm_ws := mm_memI 45 (by decide +kernel) rfl
theorem mw_46 : (Jvm.Cond.selects "LinkcourtModel" ⟨"LinkcourtModel", "sides", "()I"⟩ ⟨"LinkcourtModel", "sides", "()I"⟩) ∈ mm_ws := mm_memI 46 (by decide +kernel) rfl
theorem mw_47 : (Jvm.Cond.selects "LinkcourtModel" ⟨"LinkcourtModel", "isAtSide", "(II)Z"⟩ ⟨"LinkcourtModel", "isAtSide", "(II)Z"⟩) ∈ mm_ws := mm_memI 47 (by decide +kernel) rfl
theorem mw_48 : (Jvm.Cond.selects "LinkcourtModel" ⟨"LinkcourtModel", "asks", "(Z)Z"⟩ ⟨"LinkcourtModel", "asks", "(Z)Z"⟩) ∈ mm_ws := mm_memI 48 (by decide +kernel) rfl
theorem mw_49 : (Jvm.Cond.selects "LinkcourtModel" ⟨"LinkcourtModel", "isCell", "(I)Z"⟩ ⟨"LinkcourtModel", "isCell", "(I)Z"⟩) ∈ mm_ws := mm_memI 49 (by decide +kernel) rfl
theorem mw_50 : (Jvm.Cond.selects "LinkcourtModel" ⟨"LinkcourtModel", "emptyCells", "()J"⟩ ⟨"LinkcourtModel", "emptyCells", "()J"⟩) ∈ mm_ws := mm_memI 50 (by decide +kernel) rfl
theorem mw_51 : (Jvm.Cond.selects "LinkcourtModel" ⟨"LinkcourtModel", "fails", "(I)I"⟩ ⟨"LinkcourtModel", "fails", "(I)I"⟩) ∈ mm_ws := mm_memI 51 (by decide +kernel) rfl
theorem mw_52 : (Jvm.Cond.selects "LinkcourtModel" ⟨"LinkcourtModel", "winner", "()I"⟩ ⟨"LinkcourtModel", "winner", "()I"⟩) ∈ mm_ws := mm_memI 52 (by decide +kernel) rfl
theorem mw_53 : (Jvm.Cond.selects "LinkcourtModel" ⟨"LinkcourtModel", "joinedNow", "()I"⟩ ⟨"LinkcourtModel", "joinedNow", "()I"⟩) ∈ mm_ws := mm_memI 53 (by decide +kernel) rfl
theorem mw_54 : (Jvm.Cond.selects "LinkcourtModel" ⟨"LinkcourtModel", "joined", "(JJ)I"⟩ ⟨"LinkcourtModel", "joined", "(JJ)I"⟩) ∈ mm_ws := mm_memI 54 (by decide +kernel) rfl
theorem mw_55 : (Jvm.Cond.selects "LinkcourtModel" ⟨"LinkcourtModel", "joins", "(IJ)Z"⟩ ⟨"LinkcourtModel", "joins", "(IJ)Z"⟩) ∈ mm_ws := mm_memI 55 (by decide +kernel) rfl
theorem mw_56 : (Jvm.Cond.selects "LinkcourtModel" ⟨"LinkcourtModel", "spreads", "(JJ)J"⟩ ⟨"LinkcourtModel", "spreads", "(JJ)J"⟩) ∈ mm_ws := mm_memI 56 (by decide +kernel) rfl
theorem mw_57 : (Jvm.Cond.selects "LinkcourtModel" ⟨"LinkcourtModel", "turn", "()I"⟩ ⟨"LinkcourtModel", "turn", "()I"⟩) ∈ mm_ws := mm_memI 57 (by decide +kernel) rfl
theorem mw_58 : (Jvm.Cond.selects "LinkcourtModel" ⟨"LinkcourtModel", "mirrored", "(I)I"⟩ ⟨"LinkcourtModel", "mirrored", "(I)I"⟩) ∈ mm_ws := mm_memI 58 (by decide +kernel) rfl
theorem mw_59 : (Jvm.Cond.selects "LinkcourtModel" ⟨"LinkcourtModel", "groups", "(I)I"⟩ ⟨"LinkcourtModel", "groups", "(I)I"⟩) ∈ mm_ws := mm_memI 59 (by decide +kernel) rfl
theorem mw_60 : (Jvm.Cond.selects "LinkcourtModel" ⟨"LinkcourtModel", "groupOf", "(I)J"⟩ ⟨"LinkcourtModel", "groupOf", "(I)J"⟩) ∈ mm_ws := mm_memI 60 (by decide +kernel) rfl
theorem mw_61 : (Jvm.Cond.selects "LinkcourtModel" ⟨"LinkcourtModel", "sidesOf", "(J)I"⟩ ⟨"LinkcourtModel", "sidesOf", "(J)I"⟩) ∈ mm_ws := mm_memI 61 (by decide +kernel) rfl
theorem mw_62 : (Jvm.Cond.selects "LinkcourtModel" ⟨"LinkcourtModel", "moveOf", "(I)I"⟩ ⟨"LinkcourtModel", "moveOf", "(I)I"⟩) ∈ mm_ws := mm_memI 62 (by decide +kernel) rfl
theorem mw_63 : (Jvm.Cond.selects "LinkcourtModel" ⟨"LinkcourtModel", "asksFew", "()Z"⟩ ⟨"LinkcourtModel", "asksFew", "()Z"⟩) ∈ mm_ws := mm_memI 63 (by decide +kernel) rfl
theorem mw_64 : (Jvm.Cond.selects "LinkcourtModel" ⟨"LinkcourtModel", "solves", "(JJI)V"⟩ ⟨"LinkcourtModel", "solves", "(JJI)V"⟩) ∈ mm_ws := mm_memI 64 (by decide +kernel) rfl
theorem mw_65 : (Jvm.Cond.selects "LinkcourtModel" ⟨"LinkcourtModel", "takesEmpty", "(J)V"⟩ ⟨"LinkcourtModel", "takesEmpty", "(J)V"⟩) ∈ mm_ws := mm_memI 65 (by decide +kernel) rfl
theorem mw_66 : (Jvm.Cond.selects "LinkcourtModel" ⟨"LinkcourtModel", "count", "(II)I"⟩ ⟨"LinkcourtModel", "count", "(II)I"⟩) ∈ mm_ws := mm_memI 66 (by decide +kernel) rfl
theorem mw_67 : (Jvm.Cond.selects "LinkcourtModel" ⟨"LinkcourtModel", "digit", "(II)I"⟩ ⟨"LinkcourtModel", "digit", "(II)I"⟩) ∈ mm_ws := mm_memI 67 (by decide +kernel) rfl
theorem mw_68 : (Jvm.Cond.selects "LinkcourtModel" ⟨"LinkcourtModel", "fills", "(IJJ)V"⟩ ⟨"LinkcourtModel", "fills", "(IJJ)V"⟩) ∈ mm_ws := mm_memI 68 (by decide +kernel) rfl
theorem mw_69 : (Jvm.Cond.selects "LinkcourtModel" ⟨"LinkcourtModel", "solvesOne", "(II)V"⟩ ⟨"LinkcourtModel", "solvesOne", "(II)V"⟩) ∈ mm_ws := mm_memI 69 (by decide +kernel) rfl
theorem mw_70 : (Jvm.Cond.selects "LinkcourtModel" ⟨"LinkcourtModel", "asksLink", "(IIIZ)Z"⟩ ⟨"LinkcourtModel", "asksLink", "(IIIZ)Z"⟩) ∈ mm_ws := mm_memI 70 (by decide +kernel) rfl
theorem mw_71 : (Jvm.Cond.selects "LinkcourtModel" ⟨"LinkcourtModel", "isThere", "(I)Z"⟩ ⟨"LinkcourtModel", "isThere", "(I)Z"⟩) ∈ mm_ws := mm_memI 71 (by decide +kernel) rfl
theorem mw_72 : (Jvm.Cond.selects "LinkcourtModel" ⟨"LinkcourtModel", "isEnd", "(II)Z"⟩ ⟨"LinkcourtModel", "isEnd", "(II)Z"⟩) ∈ mm_ws := mm_memI 72 (by decide +kernel) rfl
theorem mw_73 : (Jvm.Cond.selects "LinkcourtModel" ⟨"LinkcourtModel", "findsCarrier", "(III)I"⟩ ⟨"LinkcourtModel", "findsCarrier", "(III)I"⟩) ∈ mm_ws := mm_memI 73 (by decide +kernel) rfl
theorem mw_74 : (Jvm.Cond.selects "LinkcourtModel" ⟨"LinkcourtModel", "findsLinks", "(III)V"⟩ ⟨"LinkcourtModel", "findsLinks", "(III)V"⟩) ∈ mm_ws := mm_memI 74 (by decide +kernel) rfl
theorem mw_75 : (Jvm.Cond.selects "LinkcourtModel" ⟨"LinkcourtModel", "code", "(II)I"⟩ ⟨"LinkcourtModel", "code", "(II)I"⟩) ∈ mm_ws := mm_memI 75 (by decide +kernel) rfl
theorem mw_76 : (Jvm.Cond.selects "LinkcourtModel" ⟨"LinkcourtModel", "linked", "(IIII)I"⟩ ⟨"LinkcourtModel", "linked", "(IIII)I"⟩) ∈ mm_ws := mm_memI 76 (by decide +kernel) rfl
theorem mw_77 : (Jvm.Cond.selects "LinkcourtModel" ⟨"LinkcourtModel", "links", "(JII)Z"⟩ ⟨"LinkcourtModel", "links", "(JII)Z"⟩) ∈ mm_ws := mm_memI 77 (by decide +kernel) rfl
theorem mw_78 : (Jvm.Cond.selects "LinkcourtModel" ⟨"LinkcourtModel", "endCells", "(I)J"⟩ ⟨"LinkcourtModel", "endCells", "(I)J"⟩) ∈ mm_ws := mm_memI 78 (by decide +kernel) rfl
theorem mw_79 : (Jvm.Cond.selects "LinkcourtModel" ⟨"LinkcourtModel", "goesOn", "(II)I"⟩ ⟨"LinkcourtModel", "goesOn", "(II)I"⟩) ∈ mm_ws := mm_memI 79 (by decide +kernel) rfl
theorem mw_80 : (Jvm.Cond.selects "LinkcourtModel" ⟨"LinkcourtModel", "farOf", "(I)I"⟩ ⟨"LinkcourtModel", "farOf", "(I)I"⟩) ∈ mm_ws := mm_memI 80 (by decide +kernel) rfl
theorem mw_81 : (Jvm.Cond.selects "LinkcourtModel" ⟨"LinkcourtModel", "finds", "(II)V"⟩ ⟨"LinkcourtModel", "finds", "(II)V"⟩) ∈ mm_ws := mm_memI 81 (by decide +kernel) rfl
theorem mw_82 : (Jvm.Cond.selects "LinkcourtModel" ⟨"LinkcourtModel", "weight", "(II)I"⟩ ⟨"LinkcourtModel", "weight", "(II)I"⟩) ∈ mm_ws := mm_memI 82 (by decide +kernel) rfl
theorem mw_83 : (Jvm.Cond.selects "LinkcourtModel" ⟨"LinkcourtModel", "playsOut", "(J)J"⟩ ⟨"LinkcourtModel", "playsOut", "(J)J"⟩) ∈ mm_ws := mm_memI 83 (by decide +kernel) rfl
theorem mw_84 : (Jvm.Cond.selects "LinkcourtModel" ⟨"LinkcourtModel", "mends", "(JJI)I"⟩ ⟨"LinkcourtModel", "mends", "(JJI)I"⟩) ∈ mm_ws := mm_memI 84 (by decide +kernel) rfl
theorem mw_85 : (Jvm.Cond.selects "LinkcourtModel" ⟨"LinkcourtModel", "draws", "(I)I"⟩ ⟨"LinkcourtModel", "draws", "(I)I"⟩) ∈ mm_ws := mm_memI 85 (by decide +kernel) rfl
theorem mw_86 : (Jvm.Cond.selects "LinkcourtModel" ⟨"LinkcourtModel", "faultOf", "()I"⟩ ⟨"LinkcourtModel", "faultOf", "()I"⟩) ∈ mm_ws := mm_memI 86 (by decide +kernel) rfl
theorem mw_87 : (Jvm.Cond.selects "LinkcourtModel" ⟨"LinkcourtModel", "fitsCell", "(III)Z"⟩ ⟨"LinkcourtModel", "fitsCell", "(III)Z"⟩) ∈ mm_ws := mm_memI 87 (by decide +kernel) rfl
theorem mw_88 : (Jvm.Cond.selects "LinkcourtModel" ⟨"LinkcourtModel", "fitsAt", "(IIII)Z"⟩ ⟨"LinkcourtModel", "fitsAt", "(IIII)Z"⟩) ∈ mm_ws := mm_memI 88 (by decide +kernel) rfl
theorem mw_89 : (Jvm.Cond.selects "LinkcourtModel" ⟨"LinkcourtModel", "isAs", "(III)Z"⟩ ⟨"LinkcourtModel", "isAs", "(III)Z"⟩) ∈ mm_ws := mm_memI 89 (by decide +kernel) rfl
theorem mw_90 : (Jvm.Cond.selects "LinkcourtModel" ⟨"LinkcourtModel", "isPerson", "(I)Z"⟩ ⟨"LinkcourtModel", "isPerson", "(I)Z"⟩) ∈ mm_ws := mm_memI 90 (by decide +kernel) rfl
theorem mw_91 : (Jvm.Cond.selects "LinkcourtModel" ⟨"LinkcourtModel", "climbs", "(II)V"⟩ ⟨"LinkcourtModel", "climbs", "(II)V"⟩) ∈ mm_ws := mm_memI 91 (by decide +kernel) rfl
theorem mw_93 : (Jvm.Cond.initialized "Linkcourt") ∈ mm_ws := mm_memI 93 (by decide +kernel) rfl
theorem mw_94 : (Jvm.Cond.initialized "Linkcourt$Board") ∈ mm_ws := mm_memI 94 (by decide +kernel) rfl
theorem mw_95 : (Jvm.Cond.initialized "Linkcourt$Play") ∈ mm_ws := mm_memI 95 (by decide +kernel) rfl
theorem mw_96 : (Jvm.Cond.initialized "java/lang/Long") ∈ mm_ws := mm_memI 96 (by decide +kernel) rfl
theorem mw_97 : (Jvm.Cond.initialized "Linkcourt$BestPlay") ∈ mm_ws := mm_memI 97 (by decide +kernel) rfl
theorem mw_98 : (Jvm.Cond.initialized "Linkcourt$Gaps") ∈ mm_ws := mm_memI 98 (by decide +kernel) rfl
theorem mw_99 : (Jvm.Cond.initialized "Linkcourt$Links") ∈ mm_ws := mm_memI 99 (by decide +kernel) rfl
theorem mw_100 : (Jvm.Cond.initialized "Linkcourt$Ways") ∈ mm_ws := mm_memI 100 (by decide +kernel) rfl
theorem mw_101 : (Jvm.Cond.initialized "Linkcourt$PlayingOut") ∈ mm_ws := mm_memI 101 (by decide +kernel) rfl
theorem mw_102 : (Jvm.Cond.initialized "Linkcourt$Patterns") ∈ mm_ws := mm_memI 102 (by decide +kernel) rfl
theorem mw_103 : (Jvm.Cond.initialized "Linkcourt$Times") ∈ mm_ws := mm_memI 103 (by decide +kernel) rfl
theorem mw_104 : (Jvm.Cond.initialized "Linkcourt$Ladder") ∈ mm_ws := mm_memI 104 (by decide +kernel) rfl
theorem mw_105 : (Jvm.Cond.initialized "LinkcourtModel") ∈ mm_ws := mm_memI 105 (by decide +kernel) rfl
theorem mw_109 : (Jvm.Cond.initialized "java/lang/IllegalArgumentException") ∈ mm_ws := mm_memI 109 (by decide +kernel) rfl
theorem mw_110 : (Jvm.Cond.initialized "java/util/Arrays") ∈ mm_ws := mm_memI 110 (by decide +kernel) rfl
theorem mw_111 : (Jvm.Cond.initialized "java/lang/IndexOutOfBoundsException") ∈ mm_ws := mm_memI 111 (by decide +kernel) rfl
theorem mw_112 : (Jvm.Cond.initialized "java/lang/IllegalStateException") ∈ mm_ws := mm_memI 112 (by decide +kernel) rfl
theorem mw_113 : (Jvm.Cond.initialized "java/lang/Math") ∈ mm_ws := mm_memI 113 (by decide +kernel) rfl
theorem mw_114 : (Jvm.Cond.initialized "java/lang/Integer") ∈ mm_ws := mm_memI 114 (by decide +kernel) rfl
theorem mw_120 : (Jvm.Cond.methodLink "Linkcourt" (1 : Nat) ({ cls := "java/lang/Object", name := "<init>", desc := "()V" } : Jvm.MethodName)) ∈ mm_ws := mm_memI 120 (by decide +kernel) rfl
theorem mw_121 : (Jvm.Cond.instanceMethod ({ cls := "java/lang/Object", name := "<init>", desc := "()V" } : Jvm.MethodName)) ∈ mm_ws := mm_memI 121 (by decide +kernel) rfl
theorem mw_122 : (Jvm.Cond.code ({ cls := "java/lang/Object", name := "<init>", desc := "()V" } : Jvm.MethodName) object_method_1_code (1 : Nat) (Option.none : Option Jvm.ClassFile.FieldType)) ∈ mm_ws := mm_memI 122 (by decide +kernel) rfl
theorem mw_123 : (Jvm.Cond.classLink "Linkcourt" (7 : Nat) "Linkcourt$Board") ∈ mm_ws := mm_memI 123 (by decide +kernel) rfl
theorem mw_124 : (Jvm.Cond.instantiable "Linkcourt$Board" (11 : Nat)) ∈ mm_ws := mm_memI 124 (by decide +kernel) rfl
theorem mw_126 : (Jvm.Cond.instanceMethod ({ cls := "Linkcourt$Board", name := "<init>", desc := "()V" } : Jvm.MethodName)) ∈ mm_ws := mm_memI 126 (by decide +kernel) rfl
theorem mw_127 : (Jvm.Cond.code ({ cls := "Linkcourt$Board", name := "<init>", desc := "()V" } : Jvm.MethodName) prog_3_method_1_code (1 : Nat) (Option.none : Option Jvm.ClassFile.FieldType)) ∈ mm_ws := mm_memI 127 (by decide +kernel) rfl
theorem mw_128 : (Jvm.Cond.methodLink "Linkcourt$Board" (3 : Nat) ({ cls := "java/lang/Object", name := "<init>", desc := "()V" } : Jvm.MethodName)) ∈ mm_ws := mm_memI 128 (by decide +kernel) rfl
theorem mw_129 : (Jvm.Cond.fieldLink "Linkcourt$Board" (9 : Nat) "Linkcourt$Board" "rowOf" "[I") ∈ mm_ws := mm_memI 129 (by decide +kernel) rfl
theorem mw_130 : (Jvm.Cond.fieldLink "Linkcourt$Board" (15 : Nat) "Linkcourt$Board" "columnOf" "[I") ∈ mm_ws := mm_memI 130 (by decide +kernel) rfl
theorem mw_131 : (Jvm.Cond.fieldLink "Linkcourt$Board" (18 : Nat) "Linkcourt$Board" "nextOf" "[I") ∈ mm_ws := mm_memI 131 (by decide +kernel) rfl
theorem mw_132 : (Jvm.Cond.fieldLink "Linkcourt$Board" (21 : Nat) "Linkcourt$Board" "aroundOf" "[J") ∈ mm_ws := mm_memI 132 (by decide +kernel) rfl
theorem mw_133 : (Jvm.Cond.fieldLink "Linkcourt$Board" (25 : Nat) "Linkcourt$Board" "sideOf" "[J") ∈ mm_ws := mm_memI 133 (by decide +kernel) rfl
theorem mw_134 : (Jvm.Cond.fieldLink "Linkcourt$Board" (32 : Nat) "Linkcourt$Board" "rows" "I") ∈ mm_ws := mm_memI 134 (by decide +kernel) rfl
theorem mw_135 : (Jvm.Cond.fieldLink "Linkcourt$Board" (35 : Nat) "Linkcourt$Board" "columns" "I") ∈ mm_ws := mm_memI 135 (by decide +kernel) rfl
theorem mw_136 : (Jvm.Cond.fieldLink "Linkcourt$Board" (28 : Nat) "Linkcourt$Board" "kind" "I") ∈ mm_ws := mm_memI 136 (by decide +kernel) rfl
theorem mw_137 : (Jvm.Cond.fieldLink "Linkcourt$Ways" (19 : Nat) "Linkcourt$Board" "kind" "I") ∈ mm_ws := mm_memI 137 (by decide +kernel) rfl
theorem mw_138 : (Jvm.Cond.fieldLink "Linkcourt" (262 : Nat) "Linkcourt$Board" "kind" "I") ∈ mm_ws := mm_memI 138 (by decide +kernel) rfl
theorem mw_139 : (Jvm.Cond.fieldLink "Linkcourt$Board" (44 : Nat) "Linkcourt$Board" "cells" "I") ∈ mm_ws := mm_memI 139 (by decide +kernel) rfl
theorem mw_140 : (Jvm.Cond.fieldLink "Linkcourt" (102 : Nat) "Linkcourt$Board" "cells" "I") ∈ mm_ws := mm_memI 140 (by decide +kernel) rfl
theorem mw_141 : (Jvm.Cond.fieldLink "Linkcourt$Ways" (41 : Nat) "Linkcourt$Board" "cells" "I") ∈ mm_ws := mm_memI 141 (by decide +kernel) rfl
theorem mw_142 : (Jvm.Cond.fieldLink "Linkcourt$Patterns" (62 : Nat) "Linkcourt$Board" "cells" "I") ∈ mm_ws := mm_memI 142 (by decide +kernel) rfl
theorem mw_143 : (Jvm.Cond.fieldLink "Linkcourt$Board" (38 : Nat) "Linkcourt$Board" "sides" "I") ∈ mm_ws := mm_memI 143 (by decide +kernel) rfl
theorem mw_144 : (Jvm.Cond.fieldLink "Linkcourt$PlayingOut" (19 : Nat) "Linkcourt$Board" "all" "J") ∈ mm_ws := mm_memI 144 (by decide +kernel) rfl
theorem mw_145 : (Jvm.Cond.fieldLink "Linkcourt$Board" (47 : Nat) "Linkcourt$Board" "all" "J") ∈ mm_ws := mm_memI 145 (by decide +kernel) rfl
theorem mw_146 : (Jvm.Cond.fieldLink "Linkcourt$Ways" (61 : Nat) "Linkcourt$Board" "all" "J") ∈ mm_ws := mm_memI 146 (by decide +kernel) rfl
theorem mw_147 : (Jvm.Cond.fieldLink "Linkcourt$BestPlay" (83 : Nat) "Linkcourt$Board" "all" "J") ∈ mm_ws := mm_memI 147 (by decide +kernel) rfl
theorem mw_148 : (Jvm.Cond.fieldLink "Linkcourt$Play" (61 : Nat) "Linkcourt$Board" "all" "J") ∈ mm_ws := mm_memI 148 (by decide +kernel) rfl
theorem mw_172 : (Jvm.Cond.arrayClass Jvm.ClassFile.FieldType.int) ∈ mm_ws := mm_memI 172 (by decide +kernel) rfl
theorem mw_173 : (Jvm.Cond.arrayClass Jvm.ClassFile.FieldType.long) ∈ mm_ws := mm_memI 173 (by decide +kernel) rfl
theorem mw_174 : (Jvm.Cond.methodLink "Linkcourt" (12 : Nat) ({ cls := "Linkcourt$Board", name := "lay", desc := "(III)V" } : Jvm.MethodName)) ∈ mm_ws := mm_memI 174 (by decide +kernel) rfl
theorem mw_175 : (Jvm.Cond.instanceMethod ({ cls := "Linkcourt$Board", name := "lay", desc := "(III)V" } : Jvm.MethodName)) ∈ mm_ws := mm_memI 175 (by decide +kernel) rfl
theorem mw_176 : (Jvm.Cond.selects "Linkcourt$Board" ({ cls := "Linkcourt$Board", name := "lay", desc := "(III)V" } : Jvm.MethodName) ({ cls := "Linkcourt$Board", name := "lay", desc := "(III)V" } : Jvm.MethodName)) ∈ mm_ws := mm_memI 176 (by decide +kernel) rfl
theorem mw_177 : (Jvm.Cond.code ({ cls := "Linkcourt$Board", name := "lay", desc := "(III)V" } : Jvm.MethodName) prog_3_method_2_code (4 : Nat) (Option.none : Option Jvm.ClassFile.FieldType)) ∈ mm_ws := mm_memI 177 (by decide +kernel) rfl
theorem mw_178 : (Jvm.Cond.methodLink "Linkcourt$Board" (41 : Nat) ({ cls := "Linkcourt$Board", name := "numberCells", desc := "()V" } : Jvm.MethodName)) ∈ mm_ws := mm_memI 178 (by decide +kernel) rfl
theorem mw_180 : (Jvm.Cond.instanceMethod ({ cls := "Linkcourt$Board", name := "numberCells", desc := "()V" } : Jvm.MethodName)) ∈ mm_ws := mm_memI 180 (by decide +kernel) rfl
theorem mw_181 : (Jvm.Cond.code ({ cls := "Linkcourt$Board", name := "numberCells", desc := "()V" } : Jvm.MethodName) prog_3_method_3_code (5 : Nat) (Option.none : Option Jvm.ClassFile.FieldType)) ∈ mm_ws := mm_memI 181 (by decide +kernel) rfl
theorem mw_182 : (Jvm.Cond.methodLink "Linkcourt$Board" (51 : Nat) ({ cls := "Linkcourt$Board", name := "meetNeighbours", desc := "()V" } : Jvm.MethodName)) ∈ mm_ws := mm_memI 182 (by decide +kernel) rfl
theorem mw_184 : (Jvm.Cond.instanceMethod ({ cls := "Linkcourt$Board", name := "meetNeighbours", desc := "()V" } : Jvm.MethodName)) ∈ mm_ws := mm_memI 184 (by decide +kernel) rfl
theorem mw_185 : (Jvm.Cond.code ({ cls := "Linkcourt$Board", name := "meetNeighbours", desc := "()V" } : Jvm.MethodName) prog_3_method_4_code (7 : Nat) (Option.none : Option Jvm.ClassFile.FieldType)) ∈ mm_ws := mm_memI 185 (by decide +kernel) rfl
theorem mw_186 : (Jvm.Cond.fieldLink "Linkcourt$Board" (57 : Nat) "Linkcourt$Board" "TRIANGLE_COLUMN_STEPS" "[I") ∈ mm_ws := mm_memI 186 (by decide +kernel) rfl
theorem mw_188 : (Jvm.Cond.fieldLink "Linkcourt$Board" (60 : Nat) "Linkcourt$Board" "COLUMN_STEPS" "[I") ∈ mm_ws := mm_memI 188 (by decide +kernel) rfl
theorem mw_190 : (Jvm.Cond.fieldLink "Linkcourt$Board" (63 : Nat) "Linkcourt$Board" "ROW_STEPS" "[I") ∈ mm_ws := mm_memI 190 (by decide +kernel) rfl
theorem mw_192 : (Jvm.Cond.methodLink "Linkcourt$Board" (66 : Nat) ({ cls := "Linkcourt$Board", name := "at", desc := "(II)I" } : Jvm.MethodName)) ∈ mm_ws := mm_memI 192 (by decide +kernel) rfl
theorem mw_194 : (Jvm.Cond.instanceMethod ({ cls := "Linkcourt$Board", name := "at", desc := "(II)I" } : Jvm.MethodName)) ∈ mm_ws := mm_memI 194 (by decide +kernel) rfl
theorem mw_195 : (Jvm.Cond.code ({ cls := "Linkcourt$Board", name := "at", desc := "(II)I" } : Jvm.MethodName) prog_3_method_6_code (3 : Nat) (Option.some Jvm.ClassFile.FieldType.int)) ∈ mm_ws := mm_memI 195 (by decide +kernel) rfl
theorem mw_196 : (Jvm.Cond.methodLink "Linkcourt$Board" (54 : Nat) ({ cls := "Linkcourt$Board", name := "findSides", desc := "()V" } : Jvm.MethodName)) ∈ mm_ws := mm_memI 196 (by decide +kernel) rfl
theorem mw_198 : (Jvm.Cond.instanceMethod ({ cls := "Linkcourt$Board", name := "findSides", desc := "()V" } : Jvm.MethodName)) ∈ mm_ws := mm_memI 198 (by decide +kernel) rfl
theorem mw_199 : (Jvm.Cond.code ({ cls := "Linkcourt$Board", name := "findSides", desc := "()V" } : Jvm.MethodName) prog_3_method_5_code (5 : Nat) (Option.none : Option Jvm.ClassFile.FieldType)) ∈ mm_ws := mm_memI 199 (by decide +kernel) rfl
theorem mw_200 : (Jvm.Cond.methodLink "Linkcourt$Board" (70 : Nat) ({ cls := "Linkcourt$Board", name := "isAt", desc := "(II)Z" } : Jvm.MethodName)) ∈ mm_ws := mm_memI 200 (by decide +kernel) rfl
theorem mw_202 : (Jvm.Cond.instanceMethod ({ cls := "Linkcourt$Board", name := "isAt", desc := "(II)Z" } : Jvm.MethodName)) ∈ mm_ws := mm_memI 202 (by decide +kernel) rfl
theorem mw_203 : (Jvm.Cond.code ({ cls := "Linkcourt$Board", name := "isAt", desc := "(II)Z" } : Jvm.MethodName) prog_3_method_7_code (6 : Nat) (Option.some Jvm.ClassFile.FieldType.boolean)) ∈ mm_ws := mm_memI 203 (by decide +kernel) rfl
theorem mw_204 : (Jvm.Cond.methodLink "Linkcourt$Board" (74 : Nat) ({ cls := "Linkcourt$Board", name := "row", desc := "(I)I" } : Jvm.MethodName)) ∈ mm_ws := mm_memI 204 (by decide +kernel) rfl
theorem mw_205 : (Jvm.Cond.instanceMethod ({ cls := "Linkcourt$Board", name := "row", desc := "(I)I" } : Jvm.MethodName)) ∈ mm_ws := mm_memI 205 (by decide +kernel) rfl
theorem mw_206 : (Jvm.Cond.selects "Linkcourt$Board" ({ cls := "Linkcourt$Board", name := "row", desc := "(I)I" } : Jvm.MethodName) ({ cls := "Linkcourt$Board", name := "row", desc := "(I)I" } : Jvm.MethodName)) ∈ mm_ws := mm_memI 206 (by decide +kernel) rfl
theorem mw_207 : (Jvm.Cond.code ({ cls := "Linkcourt$Board", name := "row", desc := "(I)I" } : Jvm.MethodName) prog_3_method_10_code (2 : Nat) (Option.some Jvm.ClassFile.FieldType.int)) ∈ mm_ws := mm_memI 207 (by decide +kernel) rfl
theorem mw_208 : (Jvm.Cond.methodLink "Linkcourt$Board" (78 : Nat) ({ cls := "Linkcourt$Board", name := "column", desc := "(I)I" } : Jvm.MethodName)) ∈ mm_ws := mm_memI 208 (by decide +kernel) rfl
theorem mw_209 : (Jvm.Cond.instanceMethod ({ cls := "Linkcourt$Board", name := "column", desc := "(I)I" } : Jvm.MethodName)) ∈ mm_ws := mm_memI 209 (by decide +kernel) rfl
theorem mw_210 : (Jvm.Cond.selects "Linkcourt$Board" ({ cls := "Linkcourt$Board", name := "column", desc := "(I)I" } : Jvm.MethodName) ({ cls := "Linkcourt$Board", name := "column", desc := "(I)I" } : Jvm.MethodName)) ∈ mm_ws := mm_memI 210 (by decide +kernel) rfl
theorem mw_211 : (Jvm.Cond.code ({ cls := "Linkcourt$Board", name := "column", desc := "(I)I" } : Jvm.MethodName) prog_3_method_11_code (2 : Nat) (Option.some Jvm.ClassFile.FieldType.int)) ∈ mm_ws := mm_memI 211 (by decide +kernel) rfl
theorem mw_212 : (Jvm.Cond.classLink "Linkcourt" (16 : Nat) "Linkcourt$Play") ∈ mm_ws := mm_memI 212 (by decide +kernel) rfl
theorem mw_213 : (Jvm.Cond.instantiable "Linkcourt$Play" (7 : Nat)) ∈ mm_ws := mm_memI 213 (by decide +kernel) rfl
theorem mw_214 : (Jvm.Cond.methodLink "Linkcourt" (18 : Nat) ({ cls := "Linkcourt$Play", name := "<init>", desc := "(LLinkcourt$Board;)V" } : Jvm.MethodName)) ∈ mm_ws := mm_memI 214 (by decide +kernel) rfl
theorem mw_215 : (Jvm.Cond.instanceMethod ({ cls := "Linkcourt$Play", name := "<init>", desc := "(LLinkcourt$Board;)V" } : Jvm.MethodName)) ∈ mm_ws := mm_memI 215 (by decide +kernel) rfl
theorem mw_216 : (Jvm.Cond.code ({ cls := "Linkcourt$Play", name := "<init>", desc := "(LLinkcourt$Board;)V" } : Jvm.MethodName) prog_8_method_1_code (2 : Nat) (Option.none : Option Jvm.ClassFile.FieldType)) ∈ mm_ws := mm_memI 216 (by decide +kernel) rfl
theorem mw_217 : (Jvm.Cond.methodLink "Linkcourt$Play" (3 : Nat) ({ cls := "java/lang/Object", name := "<init>", desc := "()V" } : Jvm.MethodName)) ∈ mm_ws := mm_memI 217 (by decide +kernel) rfl
theorem mw_218 : (Jvm.Cond.fieldLink "Linkcourt$Play" (19 : Nat) "Linkcourt$Play" "board" "LLinkcourt$Board;") ∈ mm_ws := mm_memI 218 (by decide +kernel) rfl
theorem mw_219 : (Jvm.Cond.fieldLink "Linkcourt$Play" (9 : Nat) "Linkcourt$Play" "log" "[I") ∈ mm_ws := mm_memI 219 (by decide +kernel) rfl
theorem mw_220 : (Jvm.Cond.fieldLink "Linkcourt$Play" (23 : Nat) "Linkcourt$Play" "made" "I") ∈ mm_ws := mm_memI 220 (by decide +kernel) rfl
theorem mw_221 : (Jvm.Cond.fieldLink "Linkcourt" (144 : Nat) "Linkcourt$Play" "made" "I") ∈ mm_ws := mm_memI 221 (by decide +kernel) rfl
theorem mw_222 : (Jvm.Cond.fieldLink "Linkcourt$Play" (26 : Nat) "Linkcourt$Play" "swapped" "Z") ∈ mm_ws := mm_memI 222 (by decide +kernel) rfl
theorem mw_223 : (Jvm.Cond.fieldLink "Linkcourt" (246 : Nat) "Linkcourt$Play" "swapped" "Z") ∈ mm_ws := mm_memI 223 (by decide +kernel) rfl
theorem mw_224 : (Jvm.Cond.fieldLink "Linkcourt$Play" (47 : Nat) "Linkcourt$Play" "stones0" "J") ∈ mm_ws := mm_memI 224 (by decide +kernel) rfl
theorem mw_225 : (Jvm.Cond.fieldLink "Linkcourt" (169 : Nat) "Linkcourt$Play" "stones0" "J") ∈ mm_ws := mm_memI 225 (by decide +kernel) rfl
theorem mw_226 : (Jvm.Cond.fieldLink "Linkcourt$Play" (51 : Nat) "Linkcourt$Play" "stones1" "J") ∈ mm_ws := mm_memI 226 (by decide +kernel) rfl
theorem mw_227 : (Jvm.Cond.fieldLink "Linkcourt" (176 : Nat) "Linkcourt$Play" "stones1" "J") ∈ mm_ws := mm_memI 227 (by decide +kernel) rfl
theorem mw_228 : (Jvm.Cond.fieldLink "Linkcourt$Play" (15 : Nat) "Linkcourt$Play" "joined" "I") ∈ mm_ws := mm_memI 228 (by decide +kernel) rfl
theorem mw_229 : (Jvm.Cond.fieldLink "Linkcourt" (166 : Nat) "Linkcourt$Play" "joined" "I") ∈ mm_ws := mm_memI 229 (by decide +kernel) rfl
theorem mw_245 : (Jvm.Cond.methodLink "Linkcourt" (21 : Nat) ({ cls := "Linkcourt$Play", name := "begin", desc := "()V" } : Jvm.MethodName)) ∈ mm_ws := mm_memI 245 (by decide +kernel) rfl
theorem mw_246 : (Jvm.Cond.instanceMethod ({ cls := "Linkcourt$Play", name := "begin", desc := "()V" } : Jvm.MethodName)) ∈ mm_ws := mm_memI 246 (by decide +kernel) rfl
theorem mw_247 : (Jvm.Cond.selects "Linkcourt$Play" ({ cls := "Linkcourt$Play", name := "begin", desc := "()V" } : Jvm.MethodName) ({ cls := "Linkcourt$Play", name := "begin", desc := "()V" } : Jvm.MethodName)) ∈ mm_ws := mm_memI 247 (by decide +kernel) rfl
theorem mw_248 : (Jvm.Cond.code ({ cls := "Linkcourt$Play", name := "begin", desc := "()V" } : Jvm.MethodName) prog_8_method_2_code (1 : Nat) (Option.none : Option Jvm.ClassFile.FieldType)) ∈ mm_ws := mm_memI 248 (by decide +kernel) rfl
theorem mw_249 : (Jvm.Cond.methodLink "Linkcourt$Play" (30 : Nat) ({ cls := "Linkcourt$Play", name := "settle", desc := "()V" } : Jvm.MethodName)) ∈ mm_ws := mm_memI 249 (by decide +kernel) rfl
theorem mw_251 : (Jvm.Cond.instanceMethod ({ cls := "Linkcourt$Play", name := "settle", desc := "()V" } : Jvm.MethodName)) ∈ mm_ws := mm_memI 251 (by decide +kernel) rfl
theorem mw_252 : (Jvm.Cond.code ({ cls := "Linkcourt$Play", name := "settle", desc := "()V" } : Jvm.MethodName) prog_8_method_6_code (1 : Nat) (Option.none : Option Jvm.ClassFile.FieldType)) ∈ mm_ws := mm_memI 252 (by decide +kernel) rfl
theorem mw_253 : (Jvm.Cond.methodLink "Linkcourt$Play" (43 : Nat) ({ cls := "Linkcourt$Play", name := "stonesAhead", desc := "(II)J" } : Jvm.MethodName)) ∈ mm_ws := mm_memI 253 (by decide +kernel) rfl
theorem mw_254 : (Jvm.Cond.instanceMethod ({ cls := "Linkcourt$Play", name := "stonesAhead", desc := "(II)J" } : Jvm.MethodName)) ∈ mm_ws := mm_memI 254 (by decide +kernel) rfl
theorem mw_255 : (Jvm.Cond.selects "Linkcourt$Play" ({ cls := "Linkcourt$Play", name := "stonesAhead", desc := "(II)J" } : Jvm.MethodName) ({ cls := "Linkcourt$Play", name := "stonesAhead", desc := "(II)J" } : Jvm.MethodName)) ∈ mm_ws := mm_memI 255 (by decide +kernel) rfl
theorem mw_256 : (Jvm.Cond.code ({ cls := "Linkcourt$Play", name := "stonesAhead", desc := "(II)J" } : Jvm.MethodName) prog_8_method_7_code (6 : Nat) (Option.some Jvm.ClassFile.FieldType.long)) ∈ mm_ws := mm_memI 256 (by decide +kernel) rfl
theorem mw_257 : (Jvm.Cond.methodLink "Linkcourt$Play" (58 : Nat) ({ cls := "Linkcourt$Play", name := "firstKept", desc := "(I)I" } : Jvm.MethodName)) ∈ mm_ws := mm_memI 257 (by decide +kernel) rfl
theorem mw_259 : (Jvm.Cond.instanceMethod ({ cls := "Linkcourt$Play", name := "firstKept", desc := "(I)I" } : Jvm.MethodName)) ∈ mm_ws := mm_memI 259 (by decide +kernel) rfl
theorem mw_260 : (Jvm.Cond.code ({ cls := "Linkcourt$Play", name := "firstKept", desc := "(I)I" } : Jvm.MethodName) prog_8_method_8_code (2 : Nat) (Option.some Jvm.ClassFile.FieldType.int)) ∈ mm_ws := mm_memI 260 (by decide +kernel) rfl
theorem mw_261 : (Jvm.Cond.methodLink "Linkcourt$Play" (54 : Nat) ({ cls := "Linkcourt$Board", name := "hasJoined", desc := "(IJ)Z" } : Jvm.MethodName)) ∈ mm_ws := mm_memI 261 (by decide +kernel) rfl
theorem mw_262 : (Jvm.Cond.instanceMethod ({ cls := "Linkcourt$Board", name := "hasJoined", desc := "(IJ)Z" } : Jvm.MethodName)) ∈ mm_ws := mm_memI 262 (by decide +kernel) rfl
theorem mw_263 : (Jvm.Cond.selects "Linkcourt$Board" ({ cls := "Linkcourt$Board", name := "hasJoined", desc := "(IJ)Z" } : Jvm.MethodName) ({ cls := "Linkcourt$Board", name := "hasJoined", desc := "(IJ)Z" } : Jvm.MethodName)) ∈ mm_ws := mm_memI 263 (by decide +kernel) rfl
theorem mw_264 : (Jvm.Cond.code ({ cls := "Linkcourt$Board", name := "hasJoined", desc := "(IJ)Z" } : Jvm.MethodName) prog_3_method_19_code (4 : Nat) (Option.some Jvm.ClassFile.FieldType.boolean)) ∈ mm_ws := mm_memI 264 (by decide +kernel) rfl
theorem mw_265 : (Jvm.Cond.methodLink "Linkcourt$Board" (101 : Nat) ({ cls := "Linkcourt$Board", name := "isAtAllSides", desc := "(J)Z" } : Jvm.MethodName)) ∈ mm_ws := mm_memI 265 (by decide +kernel) rfl
theorem mw_267 : (Jvm.Cond.instanceMethod ({ cls := "Linkcourt$Board", name := "isAtAllSides", desc := "(J)Z" } : Jvm.MethodName)) ∈ mm_ws := mm_memI 267 (by decide +kernel) rfl
theorem mw_268 : (Jvm.Cond.code ({ cls := "Linkcourt$Board", name := "isAtAllSides", desc := "(J)Z" } : Jvm.MethodName) prog_3_method_21_code (8 : Nat) (Option.some Jvm.ClassFile.FieldType.boolean)) ∈ mm_ws := mm_memI 268 (by decide +kernel) rfl
theorem mw_269 : (Jvm.Cond.methodLink "Linkcourt$Board" (97 : Nat) ({ cls := "Linkcourt$Board", name := "side", desc := "(I)J" } : Jvm.MethodName)) ∈ mm_ws := mm_memI 269 (by decide +kernel) rfl
theorem mw_270 : (Jvm.Cond.instanceMethod ({ cls := "Linkcourt$Board", name := "side", desc := "(I)J" } : Jvm.MethodName)) ∈ mm_ws := mm_memI 270 (by decide +kernel) rfl
theorem mw_271 : (Jvm.Cond.selects "Linkcourt$Board" ({ cls := "Linkcourt$Board", name := "side", desc := "(I)J" } : Jvm.MethodName) ({ cls := "Linkcourt$Board", name := "side", desc := "(I)J" } : Jvm.MethodName)) ∈ mm_ws := mm_memI 271 (by decide +kernel) rfl
theorem mw_272 : (Jvm.Cond.code ({ cls := "Linkcourt$Board", name := "side", desc := "(I)J" } : Jvm.MethodName) prog_3_method_14_code (2 : Nat) (Option.some Jvm.ClassFile.FieldType.long)) ∈ mm_ws := mm_memI 272 (by decide +kernel) rfl
theorem mw_273 : (Jvm.Cond.methodLink "Linkcourt$Board" (93 : Nat) ({ cls := "Linkcourt$Board", name := "reach", desc := "(JJ)J" } : Jvm.MethodName)) ∈ mm_ws := mm_memI 273 (by decide +kernel) rfl
theorem mw_274 : (Jvm.Cond.instanceMethod ({ cls := "Linkcourt$Board", name := "reach", desc := "(JJ)J" } : Jvm.MethodName)) ∈ mm_ws := mm_memI 274 (by decide +kernel) rfl
theorem mw_275 : (Jvm.Cond.selects "Linkcourt$Board" ({ cls := "Linkcourt$Board", name := "reach", desc := "(JJ)J" } : Jvm.MethodName) ({ cls := "Linkcourt$Board", name := "reach", desc := "(JJ)J" } : Jvm.MethodName)) ∈ mm_ws := mm_memI 275 (by decide +kernel) rfl
theorem mw_276 : (Jvm.Cond.code ({ cls := "Linkcourt$Board", name := "reach", desc := "(JJ)J" } : Jvm.MethodName) prog_3_method_16_code (13 : Nat) (Option.some Jvm.ClassFile.FieldType.long)) ∈ mm_ws := mm_memI 276 (by decide +kernel) rfl
theorem mw_277 : (Jvm.Cond.methodLink "Linkcourt$Board" (85 : Nat) ({ cls := "java/lang/Long", name := "bitCount", desc := "(J)I" } : Jvm.MethodName)) ∈ mm_ws := mm_memI 277 (by decide +kernel) rfl
theorem mw_278 : (Jvm.Cond.static ({ cls := "java/lang/Long", name := "bitCount", desc := "(J)I" } : Jvm.MethodName)) ∈ mm_ws := mm_memI 278 (by decide +kernel) rfl
theorem mw_279 : (Jvm.Cond.code ({ cls := "java/lang/Long", name := "bitCount", desc := "(J)I" } : Jvm.MethodName) prog_19_method_50_code (2 : Nat) (Option.some Jvm.ClassFile.FieldType.int)) ∈ mm_ws := mm_memI 279 (by decide +kernel) rfl
theorem mw_280 : (Jvm.Cond.constantLong "java/lang/Long" (314 : Nat) (6148914691236517205 : Int64)) ∈ mm_ws := mm_memI 280 (by decide +kernel) rfl
theorem mw_281 : (Jvm.Cond.constantLong "java/lang/Long" (316 : Nat) (3689348814741910323 : Int64)) ∈ mm_ws := mm_memI 281 (by decide +kernel) rfl
theorem mw_282 : (Jvm.Cond.constantLong "java/lang/Long" (318 : Nat) (1085102592571150095 : Int64)) ∈ mm_ws := mm_memI 282 (by decide +kernel) rfl
theorem mw_283 : (Jvm.Cond.constantLong "Linkcourt$Board" (91 : Nat) (-1 : Int64)) ∈ mm_ws := mm_memI 283 (by decide +kernel) rfl
theorem mw_284 : (Jvm.Cond.methodLink "Linkcourt$Board" (105 : Nat) ({ cls := "Linkcourt$Board", name := "leads", desc := "(IIJ)Z" } : Jvm.MethodName)) ∈ mm_ws := mm_memI 284 (by decide +kernel) rfl
theorem mw_286 : (Jvm.Cond.instanceMethod ({ cls := "Linkcourt$Board", name := "leads", desc := "(IIJ)Z" } : Jvm.MethodName)) ∈ mm_ws := mm_memI 286 (by decide +kernel) rfl
theorem mw_287 : (Jvm.Cond.code ({ cls := "Linkcourt$Board", name := "leads", desc := "(IIJ)Z" } : Jvm.MethodName) prog_3_method_20_code (5 : Nat) (Option.some Jvm.ClassFile.FieldType.boolean)) ∈ mm_ws := mm_memI 287 (by decide +kernel) rfl
theorem mw_288 : (Jvm.Cond.classLink "Linkcourt" (32 : Nat) "Linkcourt$BestPlay") ∈ mm_ws := mm_memI 288 (by decide +kernel) rfl
theorem mw_289 : (Jvm.Cond.instantiable "Linkcourt$BestPlay" (8 : Nat)) ∈ mm_ws := mm_memI 289 (by decide +kernel) rfl
theorem mw_290 : (Jvm.Cond.methodLink "Linkcourt" (34 : Nat) ({ cls := "Linkcourt$BestPlay", name := "<init>", desc := "(LLinkcourt$Board;)V" } : Jvm.MethodName)) ∈ mm_ws := mm_memI 290 (by decide +kernel) rfl
theorem mw_291 : (Jvm.Cond.instanceMethod ({ cls := "Linkcourt$BestPlay", name := "<init>", desc := "(LLinkcourt$Board;)V" } : Jvm.MethodName)) ∈ mm_ws := mm_memI 291 (by decide +kernel) rfl
theorem mw_292 : (Jvm.Cond.code ({ cls := "Linkcourt$BestPlay", name := "<init>", desc := "(LLinkcourt$Board;)V" } : Jvm.MethodName) prog_2_method_1_code (2 : Nat) (Option.none : Option Jvm.ClassFile.FieldType)) ∈ mm_ws := mm_memI 292 (by decide +kernel) rfl
theorem mw_293 : (Jvm.Cond.methodLink "Linkcourt$BestPlay" (3 : Nat) ({ cls := "java/lang/Object", name := "<init>", desc := "()V" } : Jvm.MethodName)) ∈ mm_ws := mm_memI 293 (by decide +kernel) rfl
theorem mw_294 : (Jvm.Cond.classLink "Linkcourt$BestPlay" (9 : Nat) "Linkcourt$Gaps") ∈ mm_ws := mm_memI 294 (by decide +kernel) rfl
theorem mw_295 : (Jvm.Cond.instantiable "Linkcourt$Gaps" (3 : Nat)) ∈ mm_ws := mm_memI 295 (by decide +kernel) rfl
theorem mw_296 : (Jvm.Cond.methodLink "Linkcourt$BestPlay" (11 : Nat) ({ cls := "Linkcourt$Gaps", name := "<init>", desc := "()V" } : Jvm.MethodName)) ∈ mm_ws := mm_memI 296 (by decide +kernel) rfl
theorem mw_297 : (Jvm.Cond.instanceMethod ({ cls := "Linkcourt$Gaps", name := "<init>", desc := "()V" } : Jvm.MethodName)) ∈ mm_ws := mm_memI 297 (by decide +kernel) rfl
theorem mw_298 : (Jvm.Cond.code ({ cls := "Linkcourt$Gaps", name := "<init>", desc := "()V" } : Jvm.MethodName) prog_4_method_1_code (2 : Nat) (Option.none : Option Jvm.ClassFile.FieldType)) ∈ mm_ws := mm_memI 298 (by decide +kernel) rfl
theorem mw_299 : (Jvm.Cond.methodLink "Linkcourt$Gaps" (3 : Nat) ({ cls := "java/lang/Object", name := "<init>", desc := "()V" } : Jvm.MethodName)) ∈ mm_ws := mm_memI 299 (by decide +kernel) rfl
theorem mw_300 : (Jvm.Cond.fieldLink "Linkcourt$Gaps" (9 : Nat) "Linkcourt$Gaps" "cellOf" "[I") ∈ mm_ws := mm_memI 300 (by decide +kernel) rfl
theorem mw_301 : (Jvm.Cond.fieldLink "Linkcourt$Gaps" (15 : Nat) "Linkcourt$Gaps" "ternary" "[I") ∈ mm_ws := mm_memI 301 (by decide +kernel) rfl
theorem mw_302 : (Jvm.Cond.fieldLink "Linkcourt$Gaps" (18 : Nat) "Linkcourt$Gaps" "count" "I") ∈ mm_ws := mm_memI 302 (by decide +kernel) rfl
theorem mw_303 : (Jvm.Cond.fieldLink "Linkcourt$Links" (60 : Nat) "Linkcourt$Gaps" "count" "I") ∈ mm_ws := mm_memI 303 (by decide +kernel) rfl
theorem mw_304 : (Jvm.Cond.fieldLink "Linkcourt$BestPlay" (55 : Nat) "Linkcourt$Gaps" "count" "I") ∈ mm_ws := mm_memI 304 (by decide +kernel) rfl
theorem mw_312 : (Jvm.Cond.fieldLink "Linkcourt$BestPlay" (25 : Nat) "Linkcourt$BestPlay" "board" "LLinkcourt$Board;") ∈ mm_ws := mm_memI 312 (by decide +kernel) rfl
theorem mw_313 : (Jvm.Cond.fieldLink "Linkcourt$BestPlay" (12 : Nat) "Linkcourt$BestPlay" "gaps" "LLinkcourt$Gaps;") ∈ mm_ws := mm_memI 313 (by decide +kernel) rfl
theorem mw_314 : (Jvm.Cond.fieldLink "Linkcourt$BestPlay" (18 : Nat) "Linkcourt$BestPlay" "joined" "[B") ∈ mm_ws := mm_memI 314 (by decide +kernel) rfl
theorem mw_315 : (Jvm.Cond.fieldLink "Linkcourt$BestPlay" (22 : Nat) "Linkcourt$BestPlay" "scores" "[B") ∈ mm_ws := mm_memI 315 (by decide +kernel) rfl
theorem mw_316 : (Jvm.Cond.fieldLink "Linkcourt$BestPlay" (29 : Nat) "Linkcourt$BestPlay" "known" "Z") ∈ mm_ws := mm_memI 316 (by decide +kernel) rfl
theorem mw_317 : (Jvm.Cond.fieldLink "Linkcourt$BestPlay" (76 : Nat) "Linkcourt$BestPlay" "stones0" "J") ∈ mm_ws := mm_memI 317 (by decide +kernel) rfl
theorem mw_318 : (Jvm.Cond.fieldLink "Linkcourt$BestPlay" (80 : Nat) "Linkcourt$BestPlay" "stones1" "J") ∈ mm_ws := mm_memI 318 (by decide +kernel) rfl
theorem mw_319 : (Jvm.Cond.fieldLink "Linkcourt$BestPlay" (41 : Nat) "Linkcourt$BestPlay" "turn" "I") ∈ mm_ws := mm_memI 319 (by decide +kernel) rfl
theorem mw_337 : (Jvm.Cond.arrayClass Jvm.ClassFile.FieldType.byte) ∈ mm_ws := mm_memI 337 (by decide +kernel) rfl
theorem mw_338 : (Jvm.Cond.classLink "Linkcourt" (39 : Nat) "Linkcourt$Links") ∈ mm_ws := mm_memI 338 (by decide +kernel) rfl
theorem mw_339 : (Jvm.Cond.instantiable "Linkcourt$Links" (7 : Nat)) ∈ mm_ws := mm_memI 339 (by decide +kernel) rfl
theorem mw_340 : (Jvm.Cond.methodLink "Linkcourt" (41 : Nat) ({ cls := "Linkcourt$Links", name := "<init>", desc := "(LLinkcourt$Board;)V" } : Jvm.MethodName)) ∈ mm_ws := mm_memI 340 (by decide +kernel) rfl
theorem mw_341 : (Jvm.Cond.instanceMethod ({ cls := "Linkcourt$Links", name := "<init>", desc := "(LLinkcourt$Board;)V" } : Jvm.MethodName)) ∈ mm_ws := mm_memI 341 (by decide +kernel) rfl
theorem mw_342 : (Jvm.Cond.code ({ cls := "Linkcourt$Links", name := "<init>", desc := "(LLinkcourt$Board;)V" } : Jvm.MethodName) prog_6_method_1_code (2 : Nat) (Option.none : Option Jvm.ClassFile.FieldType)) ∈ mm_ws := mm_memI 342 (by decide +kernel) rfl
theorem mw_343 : (Jvm.Cond.methodLink "Linkcourt$Links" (3 : Nat) ({ cls := "java/lang/Object", name := "<init>", desc := "()V" } : Jvm.MethodName)) ∈ mm_ws := mm_memI 343 (by decide +kernel) rfl
theorem mw_344 : (Jvm.Cond.classLink "Linkcourt$Links" (9 : Nat) "Linkcourt$Gaps") ∈ mm_ws := mm_memI 344 (by decide +kernel) rfl
theorem mw_345 : (Jvm.Cond.methodLink "Linkcourt$Links" (11 : Nat) ({ cls := "Linkcourt$Gaps", name := "<init>", desc := "()V" } : Jvm.MethodName)) ∈ mm_ws := mm_memI 345 (by decide +kernel) rfl
theorem mw_346 : (Jvm.Cond.fieldLink "Linkcourt$Links" (25 : Nat) "Linkcourt$Links" "board" "LLinkcourt$Board;") ∈ mm_ws := mm_memI 346 (by decide +kernel) rfl
theorem mw_347 : (Jvm.Cond.fieldLink "Linkcourt$Links" (12 : Nat) "Linkcourt$Links" "gaps" "LLinkcourt$Gaps;") ∈ mm_ws := mm_memI 347 (by decide +kernel) rfl
theorem mw_348 : (Jvm.Cond.fieldLink "Linkcourt$Links" (18 : Nat) "Linkcourt$Links" "tied" "[B") ∈ mm_ws := mm_memI 348 (by decide +kernel) rfl
theorem mw_349 : (Jvm.Cond.fieldLink "Linkcourt$Links" (22 : Nat) "Linkcourt$Links" "held" "[B") ∈ mm_ws := mm_memI 349 (by decide +kernel) rfl
theorem mw_350 : (Jvm.Cond.fieldLink "Linkcourt$Links" (29 : Nat) "Linkcourt$Links" "stones" "J") ∈ mm_ws := mm_memI 350 (by decide +kernel) rfl
theorem mw_351 : (Jvm.Cond.fieldLink "Linkcourt$Links" (33 : Nat) "Linkcourt$Links" "one" "I") ∈ mm_ws := mm_memI 351 (by decide +kernel) rfl
theorem mw_352 : (Jvm.Cond.fieldLink "Linkcourt$Links" (37 : Nat) "Linkcourt$Links" "other" "I") ∈ mm_ws := mm_memI 352 (by decide +kernel) rfl
theorem mw_368 : (Jvm.Cond.classLink "Linkcourt" (46 : Nat) "Linkcourt$Ways") ∈ mm_ws := mm_memI 368 (by decide +kernel) rfl
theorem mw_369 : (Jvm.Cond.instantiable "Linkcourt$Ways" (2 : Nat)) ∈ mm_ws := mm_memI 369 (by decide +kernel) rfl
theorem mw_370 : (Jvm.Cond.methodLink "Linkcourt" (48 : Nat) ({ cls := "Linkcourt$Ways", name := "<init>", desc := "(LLinkcourt$Board;)V" } : Jvm.MethodName)) ∈ mm_ws := mm_memI 370 (by decide +kernel) rfl
theorem mw_371 : (Jvm.Cond.instanceMethod ({ cls := "Linkcourt$Ways", name := "<init>", desc := "(LLinkcourt$Board;)V" } : Jvm.MethodName)) ∈ mm_ws := mm_memI 371 (by decide +kernel) rfl
theorem mw_372 : (Jvm.Cond.code ({ cls := "Linkcourt$Ways", name := "<init>", desc := "(LLinkcourt$Board;)V" } : Jvm.MethodName) prog_11_method_1_code (2 : Nat) (Option.none : Option Jvm.ClassFile.FieldType)) ∈ mm_ws := mm_memI 372 (by decide +kernel) rfl
theorem mw_373 : (Jvm.Cond.methodLink "Linkcourt$Ways" (3 : Nat) ({ cls := "java/lang/Object", name := "<init>", desc := "()V" } : Jvm.MethodName)) ∈ mm_ws := mm_memI 373 (by decide +kernel) rfl
theorem mw_374 : (Jvm.Cond.fieldLink "Linkcourt$Ways" (15 : Nat) "Linkcourt$Ways" "board" "LLinkcourt$Board;") ∈ mm_ws := mm_memI 374 (by decide +kernel) rfl
theorem mw_375 : (Jvm.Cond.fieldLink "Linkcourt$Ways" (11 : Nat) "Linkcourt$Ways" "costs" "[I") ∈ mm_ws := mm_memI 375 (by decide +kernel) rfl
theorem mw_381 : (Jvm.Cond.classLink "Linkcourt" (53 : Nat) "Linkcourt$PlayingOut") ∈ mm_ws := mm_memI 381 (by decide +kernel) rfl
theorem mw_382 : (Jvm.Cond.instantiable "Linkcourt$PlayingOut" (2 : Nat)) ∈ mm_ws := mm_memI 382 (by decide +kernel) rfl
theorem mw_383 : (Jvm.Cond.methodLink "Linkcourt" (55 : Nat) ({ cls := "Linkcourt$PlayingOut", name := "<init>", desc := "(LLinkcourt$Board;)V" } : Jvm.MethodName)) ∈ mm_ws := mm_memI 383 (by decide +kernel) rfl
theorem mw_384 : (Jvm.Cond.instanceMethod ({ cls := "Linkcourt$PlayingOut", name := "<init>", desc := "(LLinkcourt$Board;)V" } : Jvm.MethodName)) ∈ mm_ws := mm_memI 384 (by decide +kernel) rfl
theorem mw_385 : (Jvm.Cond.code ({ cls := "Linkcourt$PlayingOut", name := "<init>", desc := "(LLinkcourt$Board;)V" } : Jvm.MethodName) prog_9_method_1_code (2 : Nat) (Option.none : Option Jvm.ClassFile.FieldType)) ∈ mm_ws := mm_memI 385 (by decide +kernel) rfl
theorem mw_386 : (Jvm.Cond.methodLink "Linkcourt$PlayingOut" (3 : Nat) ({ cls := "java/lang/Object", name := "<init>", desc := "()V" } : Jvm.MethodName)) ∈ mm_ws := mm_memI 386 (by decide +kernel) rfl
theorem mw_387 : (Jvm.Cond.fieldLink "Linkcourt$PlayingOut" (9 : Nat) "Linkcourt$PlayingOut" "board" "LLinkcourt$Board;") ∈ mm_ws := mm_memI 387 (by decide +kernel) rfl
theorem mw_388 : (Jvm.Cond.fieldLink "Linkcourt$PlayingOut" (15 : Nat) "Linkcourt$PlayingOut" "number" "J") ∈ mm_ws := mm_memI 388 (by decide +kernel) rfl
theorem mw_394 : (Jvm.Cond.classLink "Linkcourt" (60 : Nat) "Linkcourt$Patterns") ∈ mm_ws := mm_memI 394 (by decide +kernel) rfl
theorem mw_395 : (Jvm.Cond.instantiable "Linkcourt$Patterns" (8 : Nat)) ∈ mm_ws := mm_memI 395 (by decide +kernel) rfl
theorem mw_396 : (Jvm.Cond.methodLink "Linkcourt" (62 : Nat) ({ cls := "Linkcourt$Patterns", name := "<init>", desc := "(LLinkcourt$Board;)V" } : Jvm.MethodName)) ∈ mm_ws := mm_memI 396 (by decide +kernel) rfl
theorem mw_397 : (Jvm.Cond.instanceMethod ({ cls := "Linkcourt$Patterns", name := "<init>", desc := "(LLinkcourt$Board;)V" } : Jvm.MethodName)) ∈ mm_ws := mm_memI 397 (by decide +kernel) rfl
theorem mw_398 : (Jvm.Cond.code ({ cls := "Linkcourt$Patterns", name := "<init>", desc := "(LLinkcourt$Board;)V" } : Jvm.MethodName) prog_7_method_1_code (2 : Nat) (Option.none : Option Jvm.ClassFile.FieldType)) ∈ mm_ws := mm_memI 398 (by decide +kernel) rfl
theorem mw_399 : (Jvm.Cond.methodLink "Linkcourt$Patterns" (5 : Nat) ({ cls := "java/lang/Object", name := "<init>", desc := "()V" } : Jvm.MethodName)) ∈ mm_ws := mm_memI 399 (by decide +kernel) rfl
theorem mw_400 : (Jvm.Cond.fieldLink "Linkcourt$Patterns" (28 : Nat) "Linkcourt$Patterns" "board" "LLinkcourt$Board;") ∈ mm_ws := mm_memI 400 (by decide +kernel) rfl
theorem mw_401 : (Jvm.Cond.fieldLink "Linkcourt$Patterns" (11 : Nat) "Linkcourt$Patterns" "tape" "[C") ∈ mm_ws := mm_memI 401 (by decide +kernel) rfl
theorem mw_402 : (Jvm.Cond.fieldLink "Linkcourt$Patterns" (15 : Nat) "Linkcourt$Patterns" "texts" "[C") ∈ mm_ws := mm_memI 402 (by decide +kernel) rfl
theorem mw_403 : (Jvm.Cond.fieldLink "Linkcourt$Patterns" (18 : Nat) "Linkcourt$Patterns" "lengths" "[I") ∈ mm_ws := mm_memI 403 (by decide +kernel) rfl
theorem mw_404 : (Jvm.Cond.fieldLink "Linkcourt$Patterns" (22 : Nat) "Linkcourt$Patterns" "alternatives" "[I") ∈ mm_ws := mm_memI 404 (by decide +kernel) rfl
theorem mw_405 : (Jvm.Cond.fieldLink "Linkcourt$Patterns" (25 : Nat) "Linkcourt$Patterns" "alternativesOf" "[I") ∈ mm_ws := mm_memI 405 (by decide +kernel) rfl
theorem mw_406 : (Jvm.Cond.fieldLink "Linkcourt$Patterns" (40 : Nat) "Linkcourt$Patterns" "taped" "I") ∈ mm_ws := mm_memI 406 (by decide +kernel) rfl
theorem mw_407 : (Jvm.Cond.fieldLink "Linkcourt" (290 : Nat) "Linkcourt$Patterns" "taped" "I") ∈ mm_ws := mm_memI 407 (by decide +kernel) rfl
theorem mw_408 : (Jvm.Cond.fieldLink "Linkcourt$Patterns" (46 : Nat) "Linkcourt$Patterns" "count" "I") ∈ mm_ws := mm_memI 408 (by decide +kernel) rfl
theorem mw_409 : (Jvm.Cond.fieldLink "Linkcourt" (304 : Nat) "Linkcourt$Patterns" "count" "I") ∈ mm_ws := mm_memI 409 (by decide +kernel) rfl
theorem mw_427 : (Jvm.Cond.arrayClass Jvm.ClassFile.FieldType.char) ∈ mm_ws := mm_memI 427 (by decide +kernel) rfl
theorem mw_428 : (Jvm.Cond.classLink "Linkcourt" (67 : Nat) "Linkcourt$Times") ∈ mm_ws := mm_memI 428 (by decide +kernel) rfl
theorem mw_429 : (Jvm.Cond.instantiable "Linkcourt$Times" (6 : Nat)) ∈ mm_ws := mm_memI 429 (by decide +kernel) rfl
theorem mw_431 : (Jvm.Cond.instanceMethod ({ cls := "Linkcourt$Times", name := "<init>", desc := "()V" } : Jvm.MethodName)) ∈ mm_ws := mm_memI 431 (by decide +kernel) rfl
theorem mw_432 : (Jvm.Cond.code ({ cls := "Linkcourt$Times", name := "<init>", desc := "()V" } : Jvm.MethodName) prog_10_method_1_code (1 : Nat) (Option.none : Option Jvm.ClassFile.FieldType)) ∈ mm_ws := mm_memI 432 (by decide +kernel) rfl
theorem mw_433 : (Jvm.Cond.methodLink "Linkcourt$Times" (3 : Nat) ({ cls := "java/lang/Object", name := "<init>", desc := "()V" } : Jvm.MethodName)) ∈ mm_ws := mm_memI 433 (by decide +kernel) rfl
theorem mw_434 : (Jvm.Cond.fieldLink "Linkcourt$Times" (9 : Nat) "Linkcourt$Times" "seconds" "[I") ∈ mm_ws := mm_memI 434 (by decide +kernel) rfl
theorem mw_435 : (Jvm.Cond.fieldLink "Linkcourt$Times" (15 : Nat) "Linkcourt$Times" "periods" "[I") ∈ mm_ws := mm_memI 435 (by decide +kernel) rfl
theorem mw_436 : (Jvm.Cond.fieldLink "Linkcourt$Times" (18 : Nat) "Linkcourt$Times" "used" "[I") ∈ mm_ws := mm_memI 436 (by decide +kernel) rfl
theorem mw_437 : (Jvm.Cond.fieldLink "Linkcourt$Times" (39 : Nat) "Linkcourt$Times" "each" "I") ∈ mm_ws := mm_memI 437 (by decide +kernel) rfl
theorem mw_438 : (Jvm.Cond.fieldLink "Linkcourt$Times" (29 : Nat) "Linkcourt$Times" "ticking" "Z") ∈ mm_ws := mm_memI 438 (by decide +kernel) rfl
theorem mw_439 : (Jvm.Cond.fieldLink "Linkcourt" (326 : Nat) "Linkcourt$Times" "ticking" "Z") ∈ mm_ws := mm_memI 439 (by decide +kernel) rfl
theorem mw_440 : (Jvm.Cond.fieldLink "Linkcourt$Times" (21 : Nat) "Linkcourt$Times" "loser" "I") ∈ mm_ws := mm_memI 440 (by decide +kernel) rfl
theorem mw_441 : (Jvm.Cond.fieldLink "Linkcourt" (152 : Nat) "Linkcourt$Times" "loser" "I") ∈ mm_ws := mm_memI 441 (by decide +kernel) rfl
theorem mw_455 : (Jvm.Cond.classLink "Linkcourt" (74 : Nat) "Linkcourt$Ladder") ∈ mm_ws := mm_memI 455 (by decide +kernel) rfl
theorem mw_456 : (Jvm.Cond.instantiable "Linkcourt$Ladder" (5 : Nat)) ∈ mm_ws := mm_memI 456 (by decide +kernel) rfl
theorem mw_458 : (Jvm.Cond.instanceMethod ({ cls := "Linkcourt$Ladder", name := "<init>", desc := "()V" } : Jvm.MethodName)) ∈ mm_ws := mm_memI 458 (by decide +kernel) rfl
theorem mw_459 : (Jvm.Cond.code ({ cls := "Linkcourt$Ladder", name := "<init>", desc := "()V" } : Jvm.MethodName) prog_5_method_1_code (1 : Nat) (Option.none : Option Jvm.ClassFile.FieldType)) ∈ mm_ws := mm_memI 459 (by decide +kernel) rfl
theorem mw_460 : (Jvm.Cond.methodLink "Linkcourt$Ladder" (3 : Nat) ({ cls := "java/lang/Object", name := "<init>", desc := "()V" } : Jvm.MethodName)) ∈ mm_ws := mm_memI 460 (by decide +kernel) rfl
theorem mw_461 : (Jvm.Cond.fieldLink "Linkcourt$Ladder" (11 : Nat) "Linkcourt$Ladder" "ratings" "[I") ∈ mm_ws := mm_memI 461 (by decide +kernel) rfl
theorem mw_462 : (Jvm.Cond.fieldLink "Linkcourt$Ladder" (15 : Nat) "Linkcourt$Ladder" "places" "[I") ∈ mm_ws := mm_memI 462 (by decide +kernel) rfl
theorem mw_463 : (Jvm.Cond.fieldLink "Linkcourt$Ladder" (18 : Nat) "Linkcourt$Ladder" "won" "[I") ∈ mm_ws := mm_memI 463 (by decide +kernel) rfl
theorem mw_464 : (Jvm.Cond.fieldLink "Linkcourt$Ladder" (21 : Nat) "Linkcourt$Ladder" "lost" "[I") ∈ mm_ws := mm_memI 464 (by decide +kernel) rfl
theorem mw_465 : (Jvm.Cond.fieldLink "Linkcourt$Ladder" (24 : Nat) "Linkcourt$Ladder" "count" "I") ∈ mm_ws := mm_memI 465 (by decide +kernel) rfl
theorem mw_466 : (Jvm.Cond.fieldLink "Linkcourt" (345 : Nat) "Linkcourt$Ladder" "count" "I") ∈ mm_ws := mm_memI 466 (by decide +kernel) rfl
theorem mw_478 : (Jvm.Cond.fieldLink "Linkcourt" (24 : Nat) "Linkcourt" "board" "LLinkcourt$Board;") ∈ mm_ws := mm_memI 478 (by decide +kernel) rfl
theorem mw_479 : (Jvm.Cond.fieldLink "Linkcourt" (28 : Nat) "Linkcourt" "play" "LLinkcourt$Play;") ∈ mm_ws := mm_memI 479 (by decide +kernel) rfl
theorem mw_480 : (Jvm.Cond.fieldLink "Linkcourt" (35 : Nat) "Linkcourt" "bestPlay" "LLinkcourt$BestPlay;") ∈ mm_ws := mm_memI 480 (by decide +kernel) rfl
theorem mw_481 : (Jvm.Cond.fieldLink "Linkcourt" (42 : Nat) "Linkcourt" "links" "LLinkcourt$Links;") ∈ mm_ws := mm_memI 481 (by decide +kernel) rfl
theorem mw_482 : (Jvm.Cond.fieldLink "Linkcourt" (49 : Nat) "Linkcourt" "ways" "LLinkcourt$Ways;") ∈ mm_ws := mm_memI 482 (by decide +kernel) rfl
theorem mw_483 : (Jvm.Cond.fieldLink "Linkcourt" (56 : Nat) "Linkcourt" "playingOut" "LLinkcourt$PlayingOut;") ∈ mm_ws := mm_memI 483 (by decide +kernel) rfl
theorem mw_484 : (Jvm.Cond.fieldLink "Linkcourt" (63 : Nat) "Linkcourt" "patterns" "LLinkcourt$Patterns;") ∈ mm_ws := mm_memI 484 (by decide +kernel) rfl
theorem mw_485 : (Jvm.Cond.fieldLink "Linkcourt" (70 : Nat) "Linkcourt" "times" "LLinkcourt$Times;") ∈ mm_ws := mm_memI 485 (by decide +kernel) rfl
theorem mw_486 : (Jvm.Cond.fieldLink "Linkcourt" (77 : Nat) "Linkcourt" "ladder" "LLinkcourt$Ladder;") ∈ mm_ws := mm_memI 486 (by decide +kernel) rfl
theorem mw_487 : (Jvm.Cond.fieldLink "Linkcourt" (98 : Nat) "Linkcourt" "recorded" "Z") ∈ mm_ws := mm_memI 487 (by decide +kernel) rfl
theorem mw_517 : (Jvm.Cond.methodLink "Linkcourt" (299 : Nat) ({ cls := "Linkcourt$Patterns", name := "firstFault", desc := "()I" } : Jvm.MethodName)) ∈ mm_ws := mm_memI 517 (by decide +kernel) rfl
theorem mw_518 : (Jvm.Cond.instanceMethod ({ cls := "Linkcourt$Patterns", name := "firstFault", desc := "()I" } : Jvm.MethodName)) ∈ mm_ws := mm_memI 518 (by decide +kernel) rfl
theorem mw_519 : (Jvm.Cond.selects "Linkcourt$Patterns" ({ cls := "Linkcourt$Patterns", name := "firstFault", desc := "()I" } : Jvm.MethodName) ({ cls := "Linkcourt$Patterns", name := "firstFault", desc := "()I" } : Jvm.MethodName)) ∈ mm_ws := mm_memI 519 (by decide +kernel) rfl
theorem mw_520 : (Jvm.Cond.code ({ cls := "Linkcourt$Patterns", name := "firstFault", desc := "()I" } : Jvm.MethodName) prog_7_method_6_code (4 : Nat) (Option.some Jvm.ClassFile.FieldType.int)) ∈ mm_ws := mm_memI 520 (by decide +kernel) rfl
theorem mw_521 : (Jvm.Cond.methodLink "Linkcourt$Patterns" (36 : Nat) ({ cls := "Linkcourt$Patterns", name := "meaning", desc := "(C)I" } : Jvm.MethodName)) ∈ mm_ws := mm_memI 521 (by decide +kernel) rfl
theorem mw_522 : (Jvm.Cond.static ({ cls := "Linkcourt$Patterns", name := "meaning", desc := "(C)I" } : Jvm.MethodName)) ∈ mm_ws := mm_memI 522 (by decide +kernel) rfl
theorem mw_523 : (Jvm.Cond.code ({ cls := "Linkcourt$Patterns", name := "meaning", desc := "(C)I" } : Jvm.MethodName) prog_7_method_5_code (1 : Nat) (Option.some Jvm.ClassFile.FieldType.int)) ∈ mm_ws := mm_memI 523 (by decide +kernel) rfl
theorem mw_532 : (Jvm.Cond.methodLink "Linkcourt" (81 : Nat) ({ cls := "Linkcourt", name := "isBoard", desc := "(III)Z" } : Jvm.MethodName)) ∈ mm_ws := mm_memI 532 (by decide +kernel) rfl
theorem mw_533 : (Jvm.Cond.static ({ cls := "Linkcourt", name := "isBoard", desc := "(III)Z" } : Jvm.MethodName)) ∈ mm_ws := mm_memI 533 (by decide +kernel) rfl
theorem mw_534 : (Jvm.Cond.code ({ cls := "Linkcourt", name := "isBoard", desc := "(III)Z" } : Jvm.MethodName) prog_1_method_31_code (3 : Nat) (Option.some Jvm.ClassFile.FieldType.boolean)) ∈ mm_ws := mm_memI 534 (by decide +kernel) rfl
theorem mw_535 : (Jvm.Cond.classLink "Linkcourt" (85 : Nat) "java/lang/IllegalArgumentException") ∈ mm_ws := mm_memI 535 (by decide +kernel) rfl
theorem mw_602 : (Jvm.Cond.methodLink "Linkcourt" (92 : Nat) ({ cls := "Linkcourt$BestPlay", name := "forget", desc := "()V" } : Jvm.MethodName)) ∈ mm_ws := mm_memI 602 (by decide +kernel) rfl
theorem mw_603 : (Jvm.Cond.instanceMethod ({ cls := "Linkcourt$BestPlay", name := "forget", desc := "()V" } : Jvm.MethodName)) ∈ mm_ws := mm_memI 603 (by decide +kernel) rfl
theorem mw_604 : (Jvm.Cond.selects "Linkcourt$BestPlay" ({ cls := "Linkcourt$BestPlay", name := "forget", desc := "()V" } : Jvm.MethodName) ({ cls := "Linkcourt$BestPlay", name := "forget", desc := "()V" } : Jvm.MethodName)) ∈ mm_ws := mm_memI 604 (by decide +kernel) rfl
theorem mw_605 : (Jvm.Cond.code ({ cls := "Linkcourt$BestPlay", name := "forget", desc := "()V" } : Jvm.MethodName) prog_2_method_2_code (1 : Nat) (Option.none : Option Jvm.ClassFile.FieldType)) ∈ mm_ws := mm_memI 605 (by decide +kernel) rfl
theorem mw_606 : (Jvm.Cond.methodLink "Linkcourt" (95 : Nat) ({ cls := "Linkcourt$Times", name := "takeAway", desc := "()V" } : Jvm.MethodName)) ∈ mm_ws := mm_memI 606 (by decide +kernel) rfl
theorem mw_607 : (Jvm.Cond.instanceMethod ({ cls := "Linkcourt$Times", name := "takeAway", desc := "()V" } : Jvm.MethodName)) ∈ mm_ws := mm_memI 607 (by decide +kernel) rfl
theorem mw_608 : (Jvm.Cond.selects "Linkcourt$Times" ({ cls := "Linkcourt$Times", name := "takeAway", desc := "()V" } : Jvm.MethodName) ({ cls := "Linkcourt$Times", name := "takeAway", desc := "()V" } : Jvm.MethodName)) ∈ mm_ws := mm_memI 608 (by decide +kernel) rfl
theorem mw_609 : (Jvm.Cond.code ({ cls := "Linkcourt$Times", name := "takeAway", desc := "()V" } : Jvm.MethodName) prog_10_method_2_code (1 : Nat) (Option.none : Option Jvm.ClassFile.FieldType)) ∈ mm_ws := mm_memI 609 (by decide +kernel) rfl
theorem mw_610 : (Jvm.Cond.methodLink "Linkcourt$Times" (25 : Nat) ({ cls := "Linkcourt$Times", name := "start", desc := "(III)V" } : Jvm.MethodName)) ∈ mm_ws := mm_memI 610 (by decide +kernel) rfl
theorem mw_611 : (Jvm.Cond.instanceMethod ({ cls := "Linkcourt$Times", name := "start", desc := "(III)V" } : Jvm.MethodName)) ∈ mm_ws := mm_memI 611 (by decide +kernel) rfl
theorem mw_612 : (Jvm.Cond.selects "Linkcourt$Times" ({ cls := "Linkcourt$Times", name := "start", desc := "(III)V" } : Jvm.MethodName) ({ cls := "Linkcourt$Times", name := "start", desc := "(III)V" } : Jvm.MethodName)) ∈ mm_ws := mm_memI 612 (by decide +kernel) rfl
theorem mw_613 : (Jvm.Cond.code ({ cls := "Linkcourt$Times", name := "start", desc := "(III)V" } : Jvm.MethodName) prog_10_method_3_code (4 : Nat) (Option.none : Option Jvm.ClassFile.FieldType)) ∈ mm_ws := mm_memI 613 (by decide +kernel) rfl
theorem mw_614 : (Jvm.Cond.methodLink "Linkcourt$Times" (33 : Nat) ({ cls := "java/util/Arrays", name := "fill", desc := "([II)V" } : Jvm.MethodName)) ∈ mm_ws := mm_memI 614 (by decide +kernel) rfl
theorem mw_615 : (Jvm.Cond.static ({ cls := "java/util/Arrays", name := "fill", desc := "([II)V" } : Jvm.MethodName)) ∈ mm_ws := mm_memI 615 (by decide +kernel) rfl
theorem mw_616 : (Jvm.Cond.code ({ cls := "java/util/Arrays", name := "fill", desc := "([II)V" } : Jvm.MethodName) prog_24_method_103_code (4 : Nat) (Option.none : Option Jvm.ClassFile.FieldType)) ∈ mm_ws := mm_memI 616 (by decide +kernel) rfl
theorem mw_626 : (Jvm.Cond.methodLink "Linkcourt" (106 : Nat) ({ cls := "Linkcourt$Board", name := "hasCell", desc := "(I)Z" } : Jvm.MethodName)) ∈ mm_ws := mm_memI 626 (by decide +kernel) rfl
theorem mw_627 : (Jvm.Cond.instanceMethod ({ cls := "Linkcourt$Board", name := "hasCell", desc := "(I)Z" } : Jvm.MethodName)) ∈ mm_ws := mm_memI 627 (by decide +kernel) rfl
theorem mw_628 : (Jvm.Cond.selects "Linkcourt$Board" ({ cls := "Linkcourt$Board", name := "hasCell", desc := "(I)Z" } : Jvm.MethodName) ({ cls := "Linkcourt$Board", name := "hasCell", desc := "(I)Z" } : Jvm.MethodName)) ∈ mm_ws := mm_memI 628 (by decide +kernel) rfl
theorem mw_629 : (Jvm.Cond.code ({ cls := "Linkcourt$Board", name := "hasCell", desc := "(I)Z" } : Jvm.MethodName) prog_3_method_8_code (2 : Nat) (Option.some Jvm.ClassFile.FieldType.boolean)) ∈ mm_ws := mm_memI 629 (by decide +kernel) rfl
theorem mw_630 : (Jvm.Cond.classLink "Linkcourt" (110 : Nat) "java/lang/IndexOutOfBoundsException") ∈ mm_ws := mm_memI 630 (by decide +kernel) rfl
theorem mw_646 : (Jvm.Cond.methodLink "Linkcourt" (115 : Nat) ({ cls := "Linkcourt$Play", name := "empty", desc := "()J" } : Jvm.MethodName)) ∈ mm_ws := mm_memI 646 (by decide +kernel) rfl
theorem mw_647 : (Jvm.Cond.instanceMethod ({ cls := "Linkcourt$Play", name := "empty", desc := "()J" } : Jvm.MethodName)) ∈ mm_ws := mm_memI 647 (by decide +kernel) rfl
theorem mw_648 : (Jvm.Cond.selects "Linkcourt$Play" ({ cls := "Linkcourt$Play", name := "empty", desc := "()J" } : Jvm.MethodName) ({ cls := "Linkcourt$Play", name := "empty", desc := "()J" } : Jvm.MethodName)) ∈ mm_ws := mm_memI 648 (by decide +kernel) rfl
theorem mw_649 : (Jvm.Cond.code ({ cls := "Linkcourt$Play", name := "empty", desc := "()J" } : Jvm.MethodName) prog_8_method_12_code (1 : Nat) (Option.some Jvm.ClassFile.FieldType.long)) ∈ mm_ws := mm_memI 649 (by decide +kernel) rfl
theorem mw_650 : (Jvm.Cond.constantLong "Linkcourt$Play" (64 : Nat) (-1 : Int64)) ∈ mm_ws := mm_memI 650 (by decide +kernel) rfl
theorem mw_651 : (Jvm.Cond.methodLink "Linkcourt" (119 : Nat) ({ cls := "Linkcourt", name := "has", desc := "(JI)Z" } : Jvm.MethodName)) ∈ mm_ws := mm_memI 651 (by decide +kernel) rfl
theorem mw_652 : (Jvm.Cond.static ({ cls := "Linkcourt", name := "has", desc := "(JI)Z" } : Jvm.MethodName)) ∈ mm_ws := mm_memI 652 (by decide +kernel) rfl
theorem mw_653 : (Jvm.Cond.code ({ cls := "Linkcourt", name := "has", desc := "(JI)Z" } : Jvm.MethodName) prog_1_method_33_code (3 : Nat) (Option.some Jvm.ClassFile.FieldType.boolean)) ∈ mm_ws := mm_memI 653 (by decide +kernel) rfl
theorem mw_655 : (Jvm.Cond.methodLink "Linkcourt" (125 : Nat) ({ cls := "Linkcourt", name := "winner", desc := "()I" } : Jvm.MethodName)) ∈ mm_ws := mm_memI 655 (by decide +kernel) rfl
theorem mw_657 : (Jvm.Cond.instanceMethod ({ cls := "Linkcourt", name := "winner", desc := "()I" } : Jvm.MethodName)) ∈ mm_ws := mm_memI 657 (by decide +kernel) rfl
theorem mw_658 : (Jvm.Cond.code ({ cls := "Linkcourt", name := "winner", desc := "()I" } : Jvm.MethodName) prog_1_method_35_code (1 : Nat) (Option.some Jvm.ClassFile.FieldType.int)) ∈ mm_ws := mm_memI 658 (by decide +kernel) rfl
theorem mw_659 : (Jvm.Cond.classLink "Linkcourt" (129 : Nat) "java/lang/IllegalStateException") ∈ mm_ws := mm_memI 659 (by decide +kernel) rfl
theorem mw_675 : (Jvm.Cond.methodLink "Linkcourt" (134 : Nat) ({ cls := "Linkcourt$Play", name := "mover", desc := "()I" } : Jvm.MethodName)) ∈ mm_ws := mm_memI 675 (by decide +kernel) rfl
theorem mw_676 : (Jvm.Cond.instanceMethod ({ cls := "Linkcourt$Play", name := "mover", desc := "()I" } : Jvm.MethodName)) ∈ mm_ws := mm_memI 676 (by decide +kernel) rfl
theorem mw_677 : (Jvm.Cond.selects "Linkcourt$Play" ({ cls := "Linkcourt$Play", name := "mover", desc := "()I" } : Jvm.MethodName) ({ cls := "Linkcourt$Play", name := "mover", desc := "()I" } : Jvm.MethodName)) ∈ mm_ws := mm_memI 677 (by decide +kernel) rfl
theorem mw_678 : (Jvm.Cond.code ({ cls := "Linkcourt$Play", name := "mover", desc := "()I" } : Jvm.MethodName) prog_8_method_10_code (1 : Nat) (Option.some Jvm.ClassFile.FieldType.int)) ∈ mm_ws := mm_memI 678 (by decide +kernel) rfl
theorem mw_679 : (Jvm.Cond.methodLink "Linkcourt" (137 : Nat) ({ cls := "Linkcourt$Times", name := "giveBack", desc := "(I)V" } : Jvm.MethodName)) ∈ mm_ws := mm_memI 679 (by decide +kernel) rfl
theorem mw_680 : (Jvm.Cond.instanceMethod ({ cls := "Linkcourt$Times", name := "giveBack", desc := "(I)V" } : Jvm.MethodName)) ∈ mm_ws := mm_memI 680 (by decide +kernel) rfl
theorem mw_681 : (Jvm.Cond.selects "Linkcourt$Times" ({ cls := "Linkcourt$Times", name := "giveBack", desc := "(I)V" } : Jvm.MethodName) ({ cls := "Linkcourt$Times", name := "giveBack", desc := "(I)V" } : Jvm.MethodName)) ∈ mm_ws := mm_memI 681 (by decide +kernel) rfl
theorem mw_682 : (Jvm.Cond.code ({ cls := "Linkcourt$Times", name := "giveBack", desc := "(I)V" } : Jvm.MethodName) prog_10_method_4_code (2 : Nat) (Option.none : Option Jvm.ClassFile.FieldType)) ∈ mm_ws := mm_memI 682 (by decide +kernel) rfl
theorem mw_684 : (Jvm.Cond.static ({ cls := "Linkcourt", name := "isPlayer", desc := "(I)Z" } : Jvm.MethodName)) ∈ mm_ws := mm_memI 684 (by decide +kernel) rfl
theorem mw_685 : (Jvm.Cond.code ({ cls := "Linkcourt", name := "isPlayer", desc := "(I)Z" } : Jvm.MethodName) prog_1_method_32_code (1 : Nat) (Option.some Jvm.ClassFile.FieldType.boolean)) ∈ mm_ws := mm_memI 685 (by decide +kernel) rfl
theorem mw_686 : (Jvm.Cond.methodLink "Linkcourt" (141 : Nat) ({ cls := "Linkcourt$Play", name := "put", desc := "(I)V" } : Jvm.MethodName)) ∈ mm_ws := mm_memI 686 (by decide +kernel) rfl
theorem mw_687 : (Jvm.Cond.instanceMethod ({ cls := "Linkcourt$Play", name := "put", desc := "(I)V" } : Jvm.MethodName)) ∈ mm_ws := mm_memI 687 (by decide +kernel) rfl
theorem mw_688 : (Jvm.Cond.selects "Linkcourt$Play" ({ cls := "Linkcourt$Play", name := "put", desc := "(I)V" } : Jvm.MethodName) ({ cls := "Linkcourt$Play", name := "put", desc := "(I)V" } : Jvm.MethodName)) ∈ mm_ws := mm_memI 688 (by decide +kernel) rfl
theorem mw_689 : (Jvm.Cond.code ({ cls := "Linkcourt$Play", name := "put", desc := "(I)V" } : Jvm.MethodName) prog_8_method_3_code (2 : Nat) (Option.none : Option Jvm.ClassFile.FieldType)) ∈ mm_ws := mm_memI 689 (by decide +kernel) rfl
theorem mw_698 : (Jvm.Cond.methodLink "Linkcourt" (149 : Nat) ({ cls := "Linkcourt$Play", name := "exchange", desc := "()I" } : Jvm.MethodName)) ∈ mm_ws := mm_memI 698 (by decide +kernel) rfl
theorem mw_699 : (Jvm.Cond.instanceMethod ({ cls := "Linkcourt$Play", name := "exchange", desc := "()I" } : Jvm.MethodName)) ∈ mm_ws := mm_memI 699 (by decide +kernel) rfl
theorem mw_700 : (Jvm.Cond.selects "Linkcourt$Play" ({ cls := "Linkcourt$Play", name := "exchange", desc := "()I" } : Jvm.MethodName) ({ cls := "Linkcourt$Play", name := "exchange", desc := "()I" } : Jvm.MethodName)) ∈ mm_ws := mm_memI 700 (by decide +kernel) rfl
theorem mw_701 : (Jvm.Cond.code ({ cls := "Linkcourt$Play", name := "exchange", desc := "()I" } : Jvm.MethodName) prog_8_method_4_code (2 : Nat) (Option.some Jvm.ClassFile.FieldType.int)) ∈ mm_ws := mm_memI 701 (by decide +kernel) rfl
theorem mw_702 : (Jvm.Cond.methodLink "Linkcourt$Play" (33 : Nat) ({ cls := "Linkcourt$Board", name := "exchanged", desc := "(I)I" } : Jvm.MethodName)) ∈ mm_ws := mm_memI 702 (by decide +kernel) rfl
theorem mw_703 : (Jvm.Cond.instanceMethod ({ cls := "Linkcourt$Board", name := "exchanged", desc := "(I)I" } : Jvm.MethodName)) ∈ mm_ws := mm_memI 703 (by decide +kernel) rfl
theorem mw_704 : (Jvm.Cond.selects "Linkcourt$Board" ({ cls := "Linkcourt$Board", name := "exchanged", desc := "(I)I" } : Jvm.MethodName) ({ cls := "Linkcourt$Board", name := "exchanged", desc := "(I)I" } : Jvm.MethodName)) ∈ mm_ws := mm_memI 704 (by decide +kernel) rfl
theorem mw_705 : (Jvm.Cond.code ({ cls := "Linkcourt$Board", name := "exchanged", desc := "(I)I" } : Jvm.MethodName) prog_3_method_15_code (2 : Nat) (Option.some Jvm.ClassFile.FieldType.int)) ∈ mm_ws := mm_memI 705 (by decide +kernel) rfl
theorem mw_706 : (Jvm.Cond.methodLink "Linkcourt$Play" (39 : Nat) ({ cls := "Linkcourt$Play", name := "put", desc := "(I)V" } : Jvm.MethodName)) ∈ mm_ws := mm_memI 706 (by decide +kernel) rfl
theorem mw_715 : (Jvm.Cond.methodLink "Linkcourt" (157 : Nat) ({ cls := "Linkcourt$Play", name := "takeBack", desc := "()V" } : Jvm.MethodName)) ∈ mm_ws := mm_memI 715 (by decide +kernel) rfl
theorem mw_716 : (Jvm.Cond.instanceMethod ({ cls := "Linkcourt$Play", name := "takeBack", desc := "()V" } : Jvm.MethodName)) ∈ mm_ws := mm_memI 716 (by decide +kernel) rfl
theorem mw_717 : (Jvm.Cond.selects "Linkcourt$Play" ({ cls := "Linkcourt$Play", name := "takeBack", desc := "()V" } : Jvm.MethodName) ({ cls := "Linkcourt$Play", name := "takeBack", desc := "()V" } : Jvm.MethodName)) ∈ mm_ws := mm_memI 717 (by decide +kernel) rfl
theorem mw_718 : (Jvm.Cond.code ({ cls := "Linkcourt$Play", name := "takeBack", desc := "()V" } : Jvm.MethodName) prog_8_method_5_code (1 : Nat) (Option.none : Option Jvm.ClassFile.FieldType)) ∈ mm_ws := mm_memI 718 (by decide +kernel) rfl
theorem mw_726 : (Jvm.Cond.methodLink "Linkcourt" (160 : Nat) ({ cls := "java/lang/Long", name := "bitCount", desc := "(J)I" } : Jvm.MethodName)) ∈ mm_ws := mm_memI 726 (by decide +kernel) rfl
theorem mw_727 : (Jvm.Cond.methodLink "Linkcourt" (173 : Nat) ({ cls := "Linkcourt$Board", name := "groups", desc := "(J)I" } : Jvm.MethodName)) ∈ mm_ws := mm_memI 727 (by decide +kernel) rfl
theorem mw_728 : (Jvm.Cond.instanceMethod ({ cls := "Linkcourt$Board", name := "groups", desc := "(J)I" } : Jvm.MethodName)) ∈ mm_ws := mm_memI 728 (by decide +kernel) rfl
theorem mw_729 : (Jvm.Cond.selects "Linkcourt$Board" ({ cls := "Linkcourt$Board", name := "groups", desc := "(J)I" } : Jvm.MethodName) ({ cls := "Linkcourt$Board", name := "groups", desc := "(J)I" } : Jvm.MethodName)) ∈ mm_ws := mm_memI 729 (by decide +kernel) rfl
theorem mw_730 : (Jvm.Cond.code ({ cls := "Linkcourt$Board", name := "groups", desc := "(J)I" } : Jvm.MethodName) prog_3_method_17_code (6 : Nat) (Option.some Jvm.ClassFile.FieldType.int)) ∈ mm_ws := mm_memI 730 (by decide +kernel) rfl
theorem mw_739 : (Jvm.Cond.methodLink "Linkcourt" (181 : Nat) ({ cls := "Linkcourt$Board", name := "row", desc := "(I)I" } : Jvm.MethodName)) ∈ mm_ws := mm_memI 739 (by decide +kernel) rfl
theorem mw_740 : (Jvm.Cond.methodLink "Linkcourt" (185 : Nat) ({ cls := "Linkcourt$Board", name := "column", desc := "(I)I" } : Jvm.MethodName)) ∈ mm_ws := mm_memI 740 (by decide +kernel) rfl
theorem mw_741 : (Jvm.Cond.methodLink "Linkcourt" (188 : Nat) ({ cls := "Linkcourt$Play", name := "owner", desc := "(I)I" } : Jvm.MethodName)) ∈ mm_ws := mm_memI 741 (by decide +kernel) rfl
theorem mw_742 : (Jvm.Cond.instanceMethod ({ cls := "Linkcourt$Play", name := "owner", desc := "(I)I" } : Jvm.MethodName)) ∈ mm_ws := mm_memI 742 (by decide +kernel) rfl
theorem mw_743 : (Jvm.Cond.selects "Linkcourt$Play" ({ cls := "Linkcourt$Play", name := "owner", desc := "(I)I" } : Jvm.MethodName) ({ cls := "Linkcourt$Play", name := "owner", desc := "(I)I" } : Jvm.MethodName)) ∈ mm_ws := mm_memI 743 (by decide +kernel) rfl
theorem mw_744 : (Jvm.Cond.code ({ cls := "Linkcourt$Play", name := "owner", desc := "(I)I" } : Jvm.MethodName) prog_8_method_13_code (2 : Nat) (Option.some Jvm.ClassFile.FieldType.int)) ∈ mm_ws := mm_memI 744 (by decide +kernel) rfl
theorem mw_746 : (Jvm.Cond.methodLink "Linkcourt" (191 : Nat) ({ cls := "Linkcourt$Play", name := "numberOf", desc := "(I)I" } : Jvm.MethodName)) ∈ mm_ws := mm_memI 746 (by decide +kernel) rfl
theorem mw_747 : (Jvm.Cond.instanceMethod ({ cls := "Linkcourt$Play", name := "numberOf", desc := "(I)I" } : Jvm.MethodName)) ∈ mm_ws := mm_memI 747 (by decide +kernel) rfl
theorem mw_748 : (Jvm.Cond.selects "Linkcourt$Play" ({ cls := "Linkcourt$Play", name := "numberOf", desc := "(I)I" } : Jvm.MethodName) ({ cls := "Linkcourt$Play", name := "numberOf", desc := "(I)I" } : Jvm.MethodName)) ∈ mm_ws := mm_memI 748 (by decide +kernel) rfl
theorem mw_749 : (Jvm.Cond.code ({ cls := "Linkcourt$Play", name := "numberOf", desc := "(I)I" } : Jvm.MethodName) prog_8_method_9_code (3 : Nat) (Option.some Jvm.ClassFile.FieldType.int)) ∈ mm_ws := mm_memI 749 (by decide +kernel) rfl
theorem mw_750 : (Jvm.Cond.methodLink "Linkcourt" (194 : Nat) ({ cls := "Linkcourt$Play", name := "stones", desc := "(I)J" } : Jvm.MethodName)) ∈ mm_ws := mm_memI 750 (by decide +kernel) rfl
theorem mw_751 : (Jvm.Cond.instanceMethod ({ cls := "Linkcourt$Play", name := "stones", desc := "(I)J" } : Jvm.MethodName)) ∈ mm_ws := mm_memI 751 (by decide +kernel) rfl
theorem mw_752 : (Jvm.Cond.selects "Linkcourt$Play" ({ cls := "Linkcourt$Play", name := "stones", desc := "(I)J" } : Jvm.MethodName) ({ cls := "Linkcourt$Play", name := "stones", desc := "(I)J" } : Jvm.MethodName)) ∈ mm_ws := mm_memI 752 (by decide +kernel) rfl
theorem mw_753 : (Jvm.Cond.code ({ cls := "Linkcourt$Play", name := "stones", desc := "(I)J" } : Jvm.MethodName) prog_8_method_11_code (2 : Nat) (Option.some Jvm.ClassFile.FieldType.long)) ∈ mm_ws := mm_memI 753 (by decide +kernel) rfl
theorem mw_754 : (Jvm.Cond.methodLink "Linkcourt" (198 : Nat) ({ cls := "Linkcourt$Board", name := "reach", desc := "(JJ)J" } : Jvm.MethodName)) ∈ mm_ws := mm_memI 754 (by decide +kernel) rfl
theorem mw_755 : (Jvm.Cond.methodLink "Linkcourt" (202 : Nat) ({ cls := "Linkcourt$Board", name := "sidesOf", desc := "(J)I" } : Jvm.MethodName)) ∈ mm_ws := mm_memI 755 (by decide +kernel) rfl
theorem mw_756 : (Jvm.Cond.instanceMethod ({ cls := "Linkcourt$Board", name := "sidesOf", desc := "(J)I" } : Jvm.MethodName)) ∈ mm_ws := mm_memI 756 (by decide +kernel) rfl
theorem mw_757 : (Jvm.Cond.selects "Linkcourt$Board" ({ cls := "Linkcourt$Board", name := "sidesOf", desc := "(J)I" } : Jvm.MethodName) ({ cls := "Linkcourt$Board", name := "sidesOf", desc := "(J)I" } : Jvm.MethodName)) ∈ mm_ws := mm_memI 757 (by decide +kernel) rfl
theorem mw_758 : (Jvm.Cond.code ({ cls := "Linkcourt$Board", name := "sidesOf", desc := "(J)I" } : Jvm.MethodName) prog_3_method_18_code (5 : Nat) (Option.some Jvm.ClassFile.FieldType.int)) ∈ mm_ws := mm_memI 758 (by decide +kernel) rfl
theorem mw_759 : (Jvm.Cond.methodLink "Linkcourt" (205 : Nat) ({ cls := "Linkcourt", name := "lowest", desc := "(J)I" } : Jvm.MethodName)) ∈ mm_ws := mm_memI 759 (by decide +kernel) rfl
theorem mw_760 : (Jvm.Cond.static ({ cls := "Linkcourt", name := "lowest", desc := "(J)I" } : Jvm.MethodName)) ∈ mm_ws := mm_memI 760 (by decide +kernel) rfl
theorem mw_761 : (Jvm.Cond.code ({ cls := "Linkcourt", name := "lowest", desc := "(J)I" } : Jvm.MethodName) prog_1_method_34_code (2 : Nat) (Option.some Jvm.ClassFile.FieldType.int)) ∈ mm_ws := mm_memI 761 (by decide +kernel) rfl
theorem mw_770 : (Jvm.Cond.methodLink "Linkcourt" (210 : Nat) ({ cls := "Linkcourt$Board", name := "next", desc := "(II)I" } : Jvm.MethodName)) ∈ mm_ws := mm_memI 770 (by decide +kernel) rfl
theorem mw_771 : (Jvm.Cond.instanceMethod ({ cls := "Linkcourt$Board", name := "next", desc := "(II)I" } : Jvm.MethodName)) ∈ mm_ws := mm_memI 771 (by decide +kernel) rfl
theorem mw_772 : (Jvm.Cond.selects "Linkcourt$Board" ({ cls := "Linkcourt$Board", name := "next", desc := "(II)I" } : Jvm.MethodName) ({ cls := "Linkcourt$Board", name := "next", desc := "(II)I" } : Jvm.MethodName)) ∈ mm_ws := mm_memI 772 (by decide +kernel) rfl
theorem mw_773 : (Jvm.Cond.code ({ cls := "Linkcourt$Board", name := "next", desc := "(II)I" } : Jvm.MethodName) prog_3_method_12_code (3 : Nat) (Option.some Jvm.ClassFile.FieldType.int)) ∈ mm_ws := mm_memI 773 (by decide +kernel) rfl
theorem mw_774 : (Jvm.Cond.methodLink "Linkcourt$Board" (81 : Nat) ({ cls := "Linkcourt$Board", name := "hasCell", desc := "(I)Z" } : Jvm.MethodName)) ∈ mm_ws := mm_memI 774 (by decide +kernel) rfl
theorem mw_782 : (Jvm.Cond.methodLink "Linkcourt" (214 : Nat) ({ cls := "Linkcourt", name := "needFewGaps", desc := "()V" } : Jvm.MethodName)) ∈ mm_ws := mm_memI 782 (by decide +kernel) rfl
theorem mw_784 : (Jvm.Cond.instanceMethod ({ cls := "Linkcourt", name := "needFewGaps", desc := "()V" } : Jvm.MethodName)) ∈ mm_ws := mm_memI 784 (by decide +kernel) rfl
theorem mw_785 : (Jvm.Cond.code ({ cls := "Linkcourt", name := "needFewGaps", desc := "()V" } : Jvm.MethodName) prog_1_method_36_code (1 : Nat) (Option.none : Option Jvm.ClassFile.FieldType)) ∈ mm_ws := mm_memI 785 (by decide +kernel) rfl
theorem mw_787 : (Jvm.Cond.methodLink "Linkcourt" (217 : Nat) ({ cls := "Linkcourt$BestPlay", name := "winnerOf", desc := "(JJI)I" } : Jvm.MethodName)) ∈ mm_ws := mm_memI 787 (by decide +kernel) rfl
theorem mw_788 : (Jvm.Cond.instanceMethod ({ cls := "Linkcourt$BestPlay", name := "winnerOf", desc := "(JJI)I" } : Jvm.MethodName)) ∈ mm_ws := mm_memI 788 (by decide +kernel) rfl
theorem mw_789 : (Jvm.Cond.selects "Linkcourt$BestPlay" ({ cls := "Linkcourt$BestPlay", name := "winnerOf", desc := "(JJI)I" } : Jvm.MethodName) ({ cls := "Linkcourt$BestPlay", name := "winnerOf", desc := "(JJI)I" } : Jvm.MethodName)) ∈ mm_ws := mm_memI 789 (by decide +kernel) rfl
theorem mw_790 : (Jvm.Cond.code ({ cls := "Linkcourt$BestPlay", name := "winnerOf", desc := "(JJI)I" } : Jvm.MethodName) prog_2_method_3_code (7 : Nat) (Option.some Jvm.ClassFile.FieldType.int)) ∈ mm_ws := mm_memI 790 (by decide +kernel) rfl
theorem mw_791 : (Jvm.Cond.methodLink "Linkcourt$BestPlay" (33 : Nat) ({ cls := "Linkcourt$BestPlay", name := "take", desc := "(JJI)V" } : Jvm.MethodName)) ∈ mm_ws := mm_memI 791 (by decide +kernel) rfl
theorem mw_793 : (Jvm.Cond.instanceMethod ({ cls := "Linkcourt$BestPlay", name := "take", desc := "(JJI)V" } : Jvm.MethodName)) ∈ mm_ws := mm_memI 793 (by decide +kernel) rfl
theorem mw_794 : (Jvm.Cond.code ({ cls := "Linkcourt$BestPlay", name := "take", desc := "(JJI)V" } : Jvm.MethodName) prog_2_method_7_code (6 : Nat) (Option.none : Option Jvm.ClassFile.FieldType)) ∈ mm_ws := mm_memI 794 (by decide +kernel) rfl
theorem mw_795 : (Jvm.Cond.constantLong "Linkcourt$BestPlay" (88 : Nat) (-1 : Int64)) ∈ mm_ws := mm_memI 795 (by decide +kernel) rfl
theorem mw_796 : (Jvm.Cond.methodLink "Linkcourt$BestPlay" (90 : Nat) ({ cls := "Linkcourt$Gaps", name := "take", desc := "(J)V" } : Jvm.MethodName)) ∈ mm_ws := mm_memI 796 (by decide +kernel) rfl
theorem mw_797 : (Jvm.Cond.instanceMethod ({ cls := "Linkcourt$Gaps", name := "take", desc := "(J)V" } : Jvm.MethodName)) ∈ mm_ws := mm_memI 797 (by decide +kernel) rfl
theorem mw_798 : (Jvm.Cond.selects "Linkcourt$Gaps" ({ cls := "Linkcourt$Gaps", name := "take", desc := "(J)V" } : Jvm.MethodName) ({ cls := "Linkcourt$Gaps", name := "take", desc := "(J)V" } : Jvm.MethodName)) ∈ mm_ws := mm_memI 798 (by decide +kernel) rfl
theorem mw_799 : (Jvm.Cond.code ({ cls := "Linkcourt$Gaps", name := "take", desc := "(J)V" } : Jvm.MethodName) prog_4_method_2_code (4 : Nat) (Option.none : Option Jvm.ClassFile.FieldType)) ∈ mm_ws := mm_memI 799 (by decide +kernel) rfl
theorem mw_801 : (Jvm.Cond.methodLink "Linkcourt$BestPlay" (93 : Nat) ({ cls := "java/util/Arrays", name := "fill", desc := "([BB)V" } : Jvm.MethodName)) ∈ mm_ws := mm_memI 801 (by decide +kernel) rfl
theorem mw_802 : (Jvm.Cond.static ({ cls := "java/util/Arrays", name := "fill", desc := "([BB)V" } : Jvm.MethodName)) ∈ mm_ws := mm_memI 802 (by decide +kernel) rfl
theorem mw_803 : (Jvm.Cond.code ({ cls := "java/util/Arrays", name := "fill", desc := "([BB)V" } : Jvm.MethodName) prog_24_method_109_code (4 : Nat) (Option.none : Option Jvm.ClassFile.FieldType)) ∈ mm_ws := mm_memI 803 (by decide +kernel) rfl
theorem mw_804 : (Jvm.Cond.methodLink "Linkcourt$BestPlay" (37 : Nat) ({ cls := "Linkcourt$BestPlay", name := "joinedAlready", desc := "()I" } : Jvm.MethodName)) ∈ mm_ws := mm_memI 804 (by decide +kernel) rfl
theorem mw_806 : (Jvm.Cond.instanceMethod ({ cls := "Linkcourt$BestPlay", name := "joinedAlready", desc := "()I" } : Jvm.MethodName)) ∈ mm_ws := mm_memI 806 (by decide +kernel) rfl
theorem mw_807 : (Jvm.Cond.code ({ cls := "Linkcourt$BestPlay", name := "joinedAlready", desc := "()I" } : Jvm.MethodName) prog_2_method_8_code (1 : Nat) (Option.some Jvm.ClassFile.FieldType.int)) ∈ mm_ws := mm_memI 807 (by decide +kernel) rfl
theorem mw_808 : (Jvm.Cond.methodLink "Linkcourt$BestPlay" (72 : Nat) ({ cls := "Linkcourt$BestPlay", name := "joins", desc := "(II)Z" } : Jvm.MethodName)) ∈ mm_ws := mm_memI 808 (by decide +kernel) rfl
theorem mw_810 : (Jvm.Cond.instanceMethod ({ cls := "Linkcourt$BestPlay", name := "joins", desc := "(II)Z" } : Jvm.MethodName)) ∈ mm_ws := mm_memI 810 (by decide +kernel) rfl
theorem mw_811 : (Jvm.Cond.code ({ cls := "Linkcourt$BestPlay", name := "joins", desc := "(II)Z" } : Jvm.MethodName) prog_2_method_9_code (6 : Nat) (Option.some Jvm.ClassFile.FieldType.boolean)) ∈ mm_ws := mm_memI 811 (by decide +kernel) rfl
theorem mw_812 : (Jvm.Cond.methodLink "Linkcourt$BestPlay" (61 : Nat) ({ cls := "Linkcourt$Gaps", name := "spread", desc := "(I)J" } : Jvm.MethodName)) ∈ mm_ws := mm_memI 812 (by decide +kernel) rfl
theorem mw_813 : (Jvm.Cond.instanceMethod ({ cls := "Linkcourt$Gaps", name := "spread", desc := "(I)J" } : Jvm.MethodName)) ∈ mm_ws := mm_memI 813 (by decide +kernel) rfl
theorem mw_814 : (Jvm.Cond.selects "Linkcourt$Gaps" ({ cls := "Linkcourt$Gaps", name := "spread", desc := "(I)J" } : Jvm.MethodName) ({ cls := "Linkcourt$Gaps", name := "spread", desc := "(I)J" } : Jvm.MethodName)) ∈ mm_ws := mm_memI 814 (by decide +kernel) rfl
theorem mw_815 : (Jvm.Cond.code ({ cls := "Linkcourt$Gaps", name := "spread", desc := "(I)J" } : Jvm.MethodName) prog_4_method_5_code (5 : Nat) (Option.some Jvm.ClassFile.FieldType.long)) ∈ mm_ws := mm_memI 815 (by decide +kernel) rfl
theorem mw_816 : (Jvm.Cond.methodLink "Linkcourt$BestPlay" (99 : Nat) ({ cls := "Linkcourt$Board", name := "hasJoined", desc := "(IJ)Z" } : Jvm.MethodName)) ∈ mm_ws := mm_memI 816 (by decide +kernel) rfl
theorem mw_817 : (Jvm.Cond.methodLink "Linkcourt$BestPlay" (45 : Nat) ({ cls := "Linkcourt$BestPlay", name := "score", desc := "(IIII)I" } : Jvm.MethodName)) ∈ mm_ws := mm_memI 817 (by decide +kernel) rfl
theorem mw_819 : (Jvm.Cond.instanceMethod ({ cls := "Linkcourt$BestPlay", name := "score", desc := "(IIII)I" } : Jvm.MethodName)) ∈ mm_ws := mm_memI 819 (by decide +kernel) rfl
theorem mw_820 : (Jvm.Cond.code ({ cls := "Linkcourt$BestPlay", name := "score", desc := "(IIII)I" } : Jvm.MethodName) prog_2_method_10_code (9 : Nat) (Option.some Jvm.ClassFile.FieldType.int)) ∈ mm_ws := mm_memI 820 (by decide +kernel) rfl
theorem mw_821 : (Jvm.Cond.methodLink "Linkcourt$BestPlay" (103 : Nat) ({ cls := "Linkcourt$Gaps", name := "pair", desc := "(II)I" } : Jvm.MethodName)) ∈ mm_ws := mm_memI 821 (by decide +kernel) rfl
theorem mw_822 : (Jvm.Cond.instanceMethod ({ cls := "Linkcourt$Gaps", name := "pair", desc := "(II)I" } : Jvm.MethodName)) ∈ mm_ws := mm_memI 822 (by decide +kernel) rfl
theorem mw_823 : (Jvm.Cond.selects "Linkcourt$Gaps" ({ cls := "Linkcourt$Gaps", name := "pair", desc := "(II)I" } : Jvm.MethodName) ({ cls := "Linkcourt$Gaps", name := "pair", desc := "(II)I" } : Jvm.MethodName)) ∈ mm_ws := mm_memI 823 (by decide +kernel) rfl
theorem mw_824 : (Jvm.Cond.code ({ cls := "Linkcourt$Gaps", name := "pair", desc := "(II)I" } : Jvm.MethodName) prog_4_method_7_code (3 : Nat) (Option.some Jvm.ClassFile.FieldType.int)) ∈ mm_ws := mm_memI 824 (by decide +kernel) rfl
theorem mw_825 : (Jvm.Cond.methodLink "Linkcourt$BestPlay" (65 : Nat) ({ cls := "Linkcourt$Gaps", name := "full", desc := "()I" } : Jvm.MethodName)) ∈ mm_ws := mm_memI 825 (by decide +kernel) rfl
theorem mw_826 : (Jvm.Cond.instanceMethod ({ cls := "Linkcourt$Gaps", name := "full", desc := "()I" } : Jvm.MethodName)) ∈ mm_ws := mm_memI 826 (by decide +kernel) rfl
theorem mw_827 : (Jvm.Cond.selects "Linkcourt$Gaps" ({ cls := "Linkcourt$Gaps", name := "full", desc := "()I" } : Jvm.MethodName) ({ cls := "Linkcourt$Gaps", name := "full", desc := "()I" } : Jvm.MethodName)) ∈ mm_ws := mm_memI 827 (by decide +kernel) rfl
theorem mw_828 : (Jvm.Cond.code ({ cls := "Linkcourt$Gaps", name := "full", desc := "()I" } : Jvm.MethodName) prog_4_method_3_code (1 : Nat) (Option.some Jvm.ClassFile.FieldType.int)) ∈ mm_ws := mm_memI 828 (by decide +kernel) rfl
theorem mw_830 : (Jvm.Cond.methodLink "Linkcourt$BestPlay" (58 : Nat) ({ cls := "Linkcourt$BestPlay", name := "scoreBehind", desc := "(IIII)I" } : Jvm.MethodName)) ∈ mm_ws := mm_memI 830 (by decide +kernel) rfl
theorem mw_832 : (Jvm.Cond.instanceMethod ({ cls := "Linkcourt$BestPlay", name := "scoreBehind", desc := "(IIII)I" } : Jvm.MethodName)) ∈ mm_ws := mm_memI 832 (by decide +kernel) rfl
theorem mw_833 : (Jvm.Cond.code ({ cls := "Linkcourt$BestPlay", name := "scoreBehind", desc := "(IIII)I" } : Jvm.MethodName) prog_2_method_11_code (6 : Nat) (Option.some Jvm.ClassFile.FieldType.int)) ∈ mm_ws := mm_memI 833 (by decide +kernel) rfl
theorem mw_834 : (Jvm.Cond.methodLink "Linkcourt$BestPlay" (107 : Nat) ({ cls := "java/lang/Math", name := "max", desc := "(II)I" } : Jvm.MethodName)) ∈ mm_ws := mm_memI 834 (by decide +kernel) rfl
theorem mw_835 : (Jvm.Cond.static ({ cls := "java/lang/Math", name := "max", desc := "(II)I" } : Jvm.MethodName)) ∈ mm_ws := mm_memI 835 (by decide +kernel) rfl
theorem mw_836 : (Jvm.Cond.code ({ cls := "java/lang/Math", name := "max", desc := "(II)I" } : Jvm.MethodName) prog_20_method_65_code (2 : Nat) (Option.some Jvm.ClassFile.FieldType.int)) ∈ mm_ws := mm_memI 836 (by decide +kernel) rfl
theorem mw_844 : (Jvm.Cond.methodLink "Linkcourt" (221 : Nat) ({ cls := "Linkcourt$BestPlay", name := "winsOf", desc := "(JJI)J" } : Jvm.MethodName)) ∈ mm_ws := mm_memI 844 (by decide +kernel) rfl
theorem mw_845 : (Jvm.Cond.instanceMethod ({ cls := "Linkcourt$BestPlay", name := "winsOf", desc := "(JJI)J" } : Jvm.MethodName)) ∈ mm_ws := mm_memI 845 (by decide +kernel) rfl
theorem mw_846 : (Jvm.Cond.selects "Linkcourt$BestPlay" ({ cls := "Linkcourt$BestPlay", name := "winsOf", desc := "(JJI)J" } : Jvm.MethodName) ({ cls := "Linkcourt$BestPlay", name := "winsOf", desc := "(JJI)J" } : Jvm.MethodName)) ∈ mm_ws := mm_memI 846 (by decide +kernel) rfl
theorem mw_847 : (Jvm.Cond.code ({ cls := "Linkcourt$BestPlay", name := "winsOf", desc := "(JJI)J" } : Jvm.MethodName) prog_2_method_5_code (8 : Nat) (Option.some Jvm.ClassFile.FieldType.long)) ∈ mm_ws := mm_memI 847 (by decide +kernel) rfl
theorem mw_855 : (Jvm.Cond.methodLink "Linkcourt" (225 : Nat) ({ cls := "Linkcourt$BestPlay", name := "lengthOf", desc := "(JJI)I" } : Jvm.MethodName)) ∈ mm_ws := mm_memI 855 (by decide +kernel) rfl
theorem mw_856 : (Jvm.Cond.instanceMethod ({ cls := "Linkcourt$BestPlay", name := "lengthOf", desc := "(JJI)I" } : Jvm.MethodName)) ∈ mm_ws := mm_memI 856 (by decide +kernel) rfl
theorem mw_857 : (Jvm.Cond.selects "Linkcourt$BestPlay" ({ cls := "Linkcourt$BestPlay", name := "lengthOf", desc := "(JJI)I" } : Jvm.MethodName) ({ cls := "Linkcourt$BestPlay", name := "lengthOf", desc := "(JJI)I" } : Jvm.MethodName)) ∈ mm_ws := mm_memI 857 (by decide +kernel) rfl
theorem mw_858 : (Jvm.Cond.code ({ cls := "Linkcourt$BestPlay", name := "lengthOf", desc := "(JJI)I" } : Jvm.MethodName) prog_2_method_4_code (6 : Nat) (Option.some Jvm.ClassFile.FieldType.int)) ∈ mm_ws := mm_memI 858 (by decide +kernel) rfl
theorem mw_859 : (Jvm.Cond.methodLink "Linkcourt$BestPlay" (49 : Nat) ({ cls := "java/lang/Math", name := "abs", desc := "(I)I" } : Jvm.MethodName)) ∈ mm_ws := mm_memI 859 (by decide +kernel) rfl
theorem mw_860 : (Jvm.Cond.static ({ cls := "java/lang/Math", name := "abs", desc := "(I)I" } : Jvm.MethodName)) ∈ mm_ws := mm_memI 860 (by decide +kernel) rfl
theorem mw_861 : (Jvm.Cond.code ({ cls := "java/lang/Math", name := "abs", desc := "(I)I" } : Jvm.MethodName) prog_20_method_59_code (1 : Nat) (Option.some Jvm.ClassFile.FieldType.int)) ∈ mm_ws := mm_memI 861 (by decide +kernel) rfl
theorem mw_869 : (Jvm.Cond.methodLink "Linkcourt" (228 : Nat) ({ cls := "Linkcourt$BestPlay", name := "deadOf", desc := "(JJI)J" } : Jvm.MethodName)) ∈ mm_ws := mm_memI 869 (by decide +kernel) rfl
theorem mw_870 : (Jvm.Cond.instanceMethod ({ cls := "Linkcourt$BestPlay", name := "deadOf", desc := "(JJI)J" } : Jvm.MethodName)) ∈ mm_ws := mm_memI 870 (by decide +kernel) rfl
theorem mw_871 : (Jvm.Cond.selects "Linkcourt$BestPlay" ({ cls := "Linkcourt$BestPlay", name := "deadOf", desc := "(JJI)J" } : Jvm.MethodName) ({ cls := "Linkcourt$BestPlay", name := "deadOf", desc := "(JJI)J" } : Jvm.MethodName)) ∈ mm_ws := mm_memI 871 (by decide +kernel) rfl
theorem mw_872 : (Jvm.Cond.code ({ cls := "Linkcourt$BestPlay", name := "deadOf", desc := "(JJI)J" } : Jvm.MethodName) prog_2_method_6_code (10 : Nat) (Option.some Jvm.ClassFile.FieldType.long)) ∈ mm_ws := mm_memI 872 (by decide +kernel) rfl
theorem mw_880 : (Jvm.Cond.methodLink "Linkcourt" (231 : Nat) ({ cls := "Linkcourt", name := "needLink", desc := "(III)V" } : Jvm.MethodName)) ∈ mm_ws := mm_memI 880 (by decide +kernel) rfl
theorem mw_882 : (Jvm.Cond.instanceMethod ({ cls := "Linkcourt", name := "needLink", desc := "(III)V" } : Jvm.MethodName)) ∈ mm_ws := mm_memI 882 (by decide +kernel) rfl
theorem mw_883 : (Jvm.Cond.code ({ cls := "Linkcourt", name := "needLink", desc := "(III)V" } : Jvm.MethodName) prog_1_method_37_code (4 : Nat) (Option.none : Option Jvm.ClassFile.FieldType)) ∈ mm_ws := mm_memI 883 (by decide +kernel) rfl
theorem mw_884 : (Jvm.Cond.methodLink "Linkcourt" (257 : Nat) ({ cls := "Linkcourt", name := "isPlayer", desc := "(I)Z" } : Jvm.MethodName)) ∈ mm_ws := mm_memI 884 (by decide +kernel) rfl
theorem mw_885 : (Jvm.Cond.methodLink "Linkcourt" (366 : Nat) ({ cls := "Linkcourt$Board", name := "hasEnd", desc := "(I)Z" } : Jvm.MethodName)) ∈ mm_ws := mm_memI 885 (by decide +kernel) rfl
theorem mw_886 : (Jvm.Cond.instanceMethod ({ cls := "Linkcourt$Board", name := "hasEnd", desc := "(I)Z" } : Jvm.MethodName)) ∈ mm_ws := mm_memI 886 (by decide +kernel) rfl
theorem mw_887 : (Jvm.Cond.selects "Linkcourt$Board" ({ cls := "Linkcourt$Board", name := "hasEnd", desc := "(I)Z" } : Jvm.MethodName) ({ cls := "Linkcourt$Board", name := "hasEnd", desc := "(I)Z" } : Jvm.MethodName)) ∈ mm_ws := mm_memI 887 (by decide +kernel) rfl
theorem mw_888 : (Jvm.Cond.code ({ cls := "Linkcourt$Board", name := "hasEnd", desc := "(I)Z" } : Jvm.MethodName) prog_3_method_9_code (2 : Nat) (Option.some Jvm.ClassFile.FieldType.boolean)) ∈ mm_ws := mm_memI 888 (by decide +kernel) rfl
theorem mw_890 : (Jvm.Cond.methodLink "Linkcourt" (371 : Nat) ({ cls := "Linkcourt", name := "isEndOf", desc := "(II)Z" } : Jvm.MethodName)) ∈ mm_ws := mm_memI 890 (by decide +kernel) rfl
theorem mw_892 : (Jvm.Cond.instanceMethod ({ cls := "Linkcourt", name := "isEndOf", desc := "(II)Z" } : Jvm.MethodName)) ∈ mm_ws := mm_memI 892 (by decide +kernel) rfl
theorem mw_893 : (Jvm.Cond.code ({ cls := "Linkcourt", name := "isEndOf", desc := "(II)Z" } : Jvm.MethodName) prog_1_method_38_code (3 : Nat) (Option.some Jvm.ClassFile.FieldType.boolean)) ∈ mm_ws := mm_memI 893 (by decide +kernel) rfl
theorem mw_895 : (Jvm.Cond.methodLink "Linkcourt" (234 : Nat) ({ cls := "Linkcourt$Links", name := "carrierOf", desc := "(JJII)J" } : Jvm.MethodName)) ∈ mm_ws := mm_memI 895 (by decide +kernel) rfl
theorem mw_896 : (Jvm.Cond.instanceMethod ({ cls := "Linkcourt$Links", name := "carrierOf", desc := "(JJII)J" } : Jvm.MethodName)) ∈ mm_ws := mm_memI 896 (by decide +kernel) rfl
theorem mw_897 : (Jvm.Cond.selects "Linkcourt$Links" ({ cls := "Linkcourt$Links", name := "carrierOf", desc := "(JJII)J" } : Jvm.MethodName) ({ cls := "Linkcourt$Links", name := "carrierOf", desc := "(JJII)J" } : Jvm.MethodName)) ∈ mm_ws := mm_memI 897 (by decide +kernel) rfl
theorem mw_898 : (Jvm.Cond.code ({ cls := "Linkcourt$Links", name := "carrierOf", desc := "(JJII)J" } : Jvm.MethodName) prog_6_method_2_code (10 : Nat) (Option.some Jvm.ClassFile.FieldType.long)) ∈ mm_ws := mm_memI 898 (by decide +kernel) rfl
theorem mw_899 : (Jvm.Cond.methodLink "Linkcourt$Links" (40 : Nat) ({ cls := "Linkcourt$Gaps", name := "take", desc := "(J)V" } : Jvm.MethodName)) ∈ mm_ws := mm_memI 899 (by decide +kernel) rfl
theorem mw_900 : (Jvm.Cond.methodLink "Linkcourt$Links" (44 : Nat) ({ cls := "java/util/Arrays", name := "fill", desc := "([BB)V" } : Jvm.MethodName)) ∈ mm_ws := mm_memI 900 (by decide +kernel) rfl
theorem mw_901 : (Jvm.Cond.methodLink "Linkcourt$Links" (50 : Nat) ({ cls := "Linkcourt$Gaps", name := "full", desc := "()I" } : Jvm.MethodName)) ∈ mm_ws := mm_memI 901 (by decide +kernel) rfl
theorem mw_902 : (Jvm.Cond.methodLink "Linkcourt$Links" (54 : Nat) ({ cls := "Linkcourt$Links", name := "holds", desc := "(III)Z" } : Jvm.MethodName)) ∈ mm_ws := mm_memI 902 (by decide +kernel) rfl
theorem mw_904 : (Jvm.Cond.instanceMethod ({ cls := "Linkcourt$Links", name := "holds", desc := "(III)Z" } : Jvm.MethodName)) ∈ mm_ws := mm_memI 904 (by decide +kernel) rfl
theorem mw_905 : (Jvm.Cond.code ({ cls := "Linkcourt$Links", name := "holds", desc := "(III)Z" } : Jvm.MethodName) prog_6_method_4_code (5 : Nat) (Option.some Jvm.ClassFile.FieldType.boolean)) ∈ mm_ws := mm_memI 905 (by decide +kernel) rfl
theorem mw_906 : (Jvm.Cond.methodLink "Linkcourt$Links" (84 : Nat) ({ cls := "Linkcourt$Links", name := "ties", desc := "(I)Z" } : Jvm.MethodName)) ∈ mm_ws := mm_memI 906 (by decide +kernel) rfl
theorem mw_908 : (Jvm.Cond.instanceMethod ({ cls := "Linkcourt$Links", name := "ties", desc := "(I)Z" } : Jvm.MethodName)) ∈ mm_ws := mm_memI 908 (by decide +kernel) rfl
theorem mw_909 : (Jvm.Cond.code ({ cls := "Linkcourt$Links", name := "ties", desc := "(I)Z" } : Jvm.MethodName) prog_6_method_7_code (5 : Nat) (Option.some Jvm.ClassFile.FieldType.boolean)) ∈ mm_ws := mm_memI 909 (by decide +kernel) rfl
theorem mw_910 : (Jvm.Cond.methodLink "Linkcourt$Links" (69 : Nat) ({ cls := "Linkcourt$Gaps", name := "spread", desc := "(I)J" } : Jvm.MethodName)) ∈ mm_ws := mm_memI 910 (by decide +kernel) rfl
theorem mw_911 : (Jvm.Cond.methodLink "Linkcourt$Links" (98 : Nat) ({ cls := "Linkcourt$Links", name := "cellsOf", desc := "(I)J" } : Jvm.MethodName)) ∈ mm_ws := mm_memI 911 (by decide +kernel) rfl
theorem mw_913 : (Jvm.Cond.instanceMethod ({ cls := "Linkcourt$Links", name := "cellsOf", desc := "(I)J" } : Jvm.MethodName)) ∈ mm_ws := mm_memI 913 (by decide +kernel) rfl
theorem mw_914 : (Jvm.Cond.code ({ cls := "Linkcourt$Links", name := "cellsOf", desc := "(I)J" } : Jvm.MethodName) prog_6_method_8_code (2 : Nat) (Option.some Jvm.ClassFile.FieldType.long)) ∈ mm_ws := mm_memI 914 (by decide +kernel) rfl
theorem mw_915 : (Jvm.Cond.methodLink "Linkcourt$Links" (107 : Nat) ({ cls := "Linkcourt$Board", name := "side", desc := "(I)J" } : Jvm.MethodName)) ∈ mm_ws := mm_memI 915 (by decide +kernel) rfl
theorem mw_916 : (Jvm.Cond.methodLink "Linkcourt$Links" (101 : Nat) ({ cls := "Linkcourt$Board", name := "reach", desc := "(JJ)J" } : Jvm.MethodName)) ∈ mm_ws := mm_memI 916 (by decide +kernel) rfl
theorem mw_917 : (Jvm.Cond.methodLink "Linkcourt$Links" (88 : Nat) ({ cls := "Linkcourt$Gaps", name := "pair", desc := "(II)I" } : Jvm.MethodName)) ∈ mm_ws := mm_memI 917 (by decide +kernel) rfl
theorem mw_918 : (Jvm.Cond.methodLink "Linkcourt$Links" (92 : Nat) ({ cls := "Linkcourt$Links", name := "hasAnswers", desc := "(III)Z" } : Jvm.MethodName)) ∈ mm_ws := mm_memI 918 (by decide +kernel) rfl
theorem mw_920 : (Jvm.Cond.instanceMethod ({ cls := "Linkcourt$Links", name := "hasAnswers", desc := "(III)Z" } : Jvm.MethodName)) ∈ mm_ws := mm_memI 920 (by decide +kernel) rfl
theorem mw_921 : (Jvm.Cond.code ({ cls := "Linkcourt$Links", name := "hasAnswers", desc := "(III)Z" } : Jvm.MethodName) prog_6_method_5_code (5 : Nat) (Option.some Jvm.ClassFile.FieldType.boolean)) ∈ mm_ws := mm_memI 921 (by decide +kernel) rfl
theorem mw_923 : (Jvm.Cond.methodLink "Linkcourt$Links" (95 : Nat) ({ cls := "Linkcourt$Links", name := "hasAnswer", desc := "(III)Z" } : Jvm.MethodName)) ∈ mm_ws := mm_memI 923 (by decide +kernel) rfl
theorem mw_925 : (Jvm.Cond.instanceMethod ({ cls := "Linkcourt$Links", name := "hasAnswer", desc := "(III)Z" } : Jvm.MethodName)) ∈ mm_ws := mm_memI 925 (by decide +kernel) rfl
theorem mw_926 : (Jvm.Cond.code ({ cls := "Linkcourt$Links", name := "hasAnswer", desc := "(III)Z" } : Jvm.MethodName) prog_6_method_6_code (6 : Nat) (Option.some Jvm.ClassFile.FieldType.boolean)) ∈ mm_ws := mm_memI 926 (by decide +kernel) rfl
theorem mw_927 : (Jvm.Cond.constantLong "Linkcourt$Links" (58 : Nat) (-1 : Int64)) ∈ mm_ws := mm_memI 927 (by decide +kernel) rfl
theorem mw_928 : (Jvm.Cond.methodLink "Linkcourt$Links" (63 : Nat) ({ cls := "java/lang/Integer", name := "bitCount", desc := "(I)I" } : Jvm.MethodName)) ∈ mm_ws := mm_memI 928 (by decide +kernel) rfl
theorem mw_929 : (Jvm.Cond.static ({ cls := "java/lang/Integer", name := "bitCount", desc := "(I)I" } : Jvm.MethodName)) ∈ mm_ws := mm_memI 929 (by decide +kernel) rfl
theorem mw_930 : (Jvm.Cond.code ({ cls := "java/lang/Integer", name := "bitCount", desc := "(I)I" } : Jvm.MethodName) prog_18_method_49_code (1 : Nat) (Option.some Jvm.ClassFile.FieldType.int)) ∈ mm_ws := mm_memI 930 (by decide +kernel) rfl
theorem mw_931 : (Jvm.Cond.constant "java/lang/Integer" (265 : Nat) (1431655765 : Int32)) ∈ mm_ws := mm_memI 931 (by decide +kernel) rfl
theorem mw_932 : (Jvm.Cond.constant "java/lang/Integer" (266 : Nat) (858993459 : Int32)) ∈ mm_ws := mm_memI 932 (by decide +kernel) rfl
theorem mw_933 : (Jvm.Cond.constant "java/lang/Integer" (267 : Nat) (252645135 : Int32)) ∈ mm_ws := mm_memI 933 (by decide +kernel) rfl
theorem mw_941 : (Jvm.Cond.constantLong "Linkcourt" (238 : Nat) (-1 : Int64)) ∈ mm_ws := mm_memI 941 (by decide +kernel) rfl
theorem mw_942 : (Jvm.Cond.methodLink "Linkcourt" (240 : Nat) ({ cls := "Linkcourt$Links", name := "answerIn", desc := "(JI)I" } : Jvm.MethodName)) ∈ mm_ws := mm_memI 942 (by decide +kernel) rfl
theorem mw_943 : (Jvm.Cond.instanceMethod ({ cls := "Linkcourt$Links", name := "answerIn", desc := "(JI)I" } : Jvm.MethodName)) ∈ mm_ws := mm_memI 943 (by decide +kernel) rfl
theorem mw_944 : (Jvm.Cond.selects "Linkcourt$Links" ({ cls := "Linkcourt$Links", name := "answerIn", desc := "(JI)I" } : Jvm.MethodName) ({ cls := "Linkcourt$Links", name := "answerIn", desc := "(JI)I" } : Jvm.MethodName)) ∈ mm_ws := mm_memI 944 (by decide +kernel) rfl
theorem mw_945 : (Jvm.Cond.code ({ cls := "Linkcourt$Links", name := "answerIn", desc := "(JI)I" } : Jvm.MethodName) prog_6_method_3_code (6 : Nat) (Option.some Jvm.ClassFile.FieldType.int)) ∈ mm_ws := mm_memI 945 (by decide +kernel) rfl
theorem mw_946 : (Jvm.Cond.methodLink "Linkcourt$Links" (73 : Nat) ({ cls := "Linkcourt$Gaps", name := "gather", desc := "(J)I" } : Jvm.MethodName)) ∈ mm_ws := mm_memI 946 (by decide +kernel) rfl
theorem mw_947 : (Jvm.Cond.instanceMethod ({ cls := "Linkcourt$Gaps", name := "gather", desc := "(J)I" } : Jvm.MethodName)) ∈ mm_ws := mm_memI 947 (by decide +kernel) rfl
theorem mw_948 : (Jvm.Cond.selects "Linkcourt$Gaps" ({ cls := "Linkcourt$Gaps", name := "gather", desc := "(J)I" } : Jvm.MethodName) ({ cls := "Linkcourt$Gaps", name := "gather", desc := "(J)I" } : Jvm.MethodName)) ∈ mm_ws := mm_memI 948 (by decide +kernel) rfl
theorem mw_949 : (Jvm.Cond.code ({ cls := "Linkcourt$Gaps", name := "gather", desc := "(J)I" } : Jvm.MethodName) prog_4_method_6_code (5 : Nat) (Option.some Jvm.ClassFile.FieldType.int)) ∈ mm_ws := mm_memI 949 (by decide +kernel) rfl
theorem mw_950 : (Jvm.Cond.methodLink "Linkcourt$Links" (81 : Nat) ({ cls := "Linkcourt$Gaps", name := "cellAt", desc := "(I)I" } : Jvm.MethodName)) ∈ mm_ws := mm_memI 950 (by decide +kernel) rfl
theorem mw_951 : (Jvm.Cond.instanceMethod ({ cls := "Linkcourt$Gaps", name := "cellAt", desc := "(I)I" } : Jvm.MethodName)) ∈ mm_ws := mm_memI 951 (by decide +kernel) rfl
theorem mw_952 : (Jvm.Cond.selects "Linkcourt$Gaps" ({ cls := "Linkcourt$Gaps", name := "cellAt", desc := "(I)I" } : Jvm.MethodName) ({ cls := "Linkcourt$Gaps", name := "cellAt", desc := "(I)I" } : Jvm.MethodName)) ∈ mm_ws := mm_memI 952 (by decide +kernel) rfl
theorem mw_953 : (Jvm.Cond.code ({ cls := "Linkcourt$Gaps", name := "cellAt", desc := "(I)I" } : Jvm.MethodName) prog_4_method_4_code (2 : Nat) (Option.some Jvm.ClassFile.FieldType.int)) ∈ mm_ws := mm_memI 953 (by decide +kernel) rfl
theorem mw_963 : (Jvm.Cond.methodLink "Linkcourt" (251 : Nat) ({ cls := "Linkcourt$Play", name := "stonesAhead", desc := "(II)J" } : Jvm.MethodName)) ∈ mm_ws := mm_memI 963 (by decide +kernel) rfl
theorem mw_974 : (Jvm.Cond.methodLink "Linkcourt" (267 : Nat) ({ cls := "Linkcourt$Ways", name := "fewest", desc := "(IJJ)I" } : Jvm.MethodName)) ∈ mm_ws := mm_memI 974 (by decide +kernel) rfl
theorem mw_975 : (Jvm.Cond.instanceMethod ({ cls := "Linkcourt$Ways", name := "fewest", desc := "(IJJ)I" } : Jvm.MethodName)) ∈ mm_ws := mm_memI 975 (by decide +kernel) rfl
theorem mw_976 : (Jvm.Cond.selects "Linkcourt$Ways" ({ cls := "Linkcourt$Ways", name := "fewest", desc := "(IJJ)I" } : Jvm.MethodName) ({ cls := "Linkcourt$Ways", name := "fewest", desc := "(IJJ)I" } : Jvm.MethodName)) ∈ mm_ws := mm_memI 976 (by decide +kernel) rfl
theorem mw_977 : (Jvm.Cond.code ({ cls := "Linkcourt$Ways", name := "fewest", desc := "(IJJ)I" } : Jvm.MethodName) prog_11_method_2_code (7 : Nat) (Option.some Jvm.ClassFile.FieldType.int)) ∈ mm_ws := mm_memI 977 (by decide +kernel) rfl
theorem mw_978 : (Jvm.Cond.methodLink "Linkcourt$Ways" (25 : Nat) ({ cls := "Linkcourt$Ways", name := "fewestToThree", desc := "(JJ)I" } : Jvm.MethodName)) ∈ mm_ws := mm_memI 978 (by decide +kernel) rfl
theorem mw_980 : (Jvm.Cond.instanceMethod ({ cls := "Linkcourt$Ways", name := "fewestToThree", desc := "(JJ)I" } : Jvm.MethodName)) ∈ mm_ws := mm_memI 980 (by decide +kernel) rfl
theorem mw_981 : (Jvm.Cond.code ({ cls := "Linkcourt$Ways", name := "fewestToThree", desc := "(JJ)I" } : Jvm.MethodName) prog_11_method_4_code (8 : Nat) (Option.some Jvm.ClassFile.FieldType.int)) ∈ mm_ws := mm_memI 981 (by decide +kernel) rfl
theorem mw_982 : (Jvm.Cond.methodLink "Linkcourt$Ways" (33 : Nat) ({ cls := "Linkcourt$Board", name := "side", desc := "(I)J" } : Jvm.MethodName)) ∈ mm_ws := mm_memI 982 (by decide +kernel) rfl
theorem mw_983 : (Jvm.Cond.methodLink "Linkcourt$Ways" (37 : Nat) ({ cls := "Linkcourt$Ways", name := "measure", desc := "(IJJJ)V" } : Jvm.MethodName)) ∈ mm_ws := mm_memI 983 (by decide +kernel) rfl
theorem mw_985 : (Jvm.Cond.instanceMethod ({ cls := "Linkcourt$Ways", name := "measure", desc := "(IJJJ)V" } : Jvm.MethodName)) ∈ mm_ws := mm_memI 985 (by decide +kernel) rfl
theorem mw_986 : (Jvm.Cond.code ({ cls := "Linkcourt$Ways", name := "measure", desc := "(IJJJ)V" } : Jvm.MethodName) prog_11_method_5_code (15 : Nat) (Option.none : Option Jvm.ClassFile.FieldType)) ∈ mm_ws := mm_memI 986 (by decide +kernel) rfl
theorem mw_987 : (Jvm.Cond.methodLink "Linkcourt$Ways" (57 : Nat) ({ cls := "Linkcourt$Board", name := "reach", desc := "(JJ)J" } : Jvm.MethodName)) ∈ mm_ws := mm_memI 987 (by decide +kernel) rfl
theorem mw_988 : (Jvm.Cond.methodLink "Linkcourt$Ways" (65 : Nat) ({ cls := "Linkcourt$Ways", name := "note", desc := "(IJI)V" } : Jvm.MethodName)) ∈ mm_ws := mm_memI 988 (by decide +kernel) rfl
theorem mw_990 : (Jvm.Cond.instanceMethod ({ cls := "Linkcourt$Ways", name := "note", desc := "(IJI)V" } : Jvm.MethodName)) ∈ mm_ws := mm_memI 990 (by decide +kernel) rfl
theorem mw_991 : (Jvm.Cond.code ({ cls := "Linkcourt$Ways", name := "note", desc := "(IJI)V" } : Jvm.MethodName) prog_11_method_7_code (7 : Nat) (Option.none : Option Jvm.ClassFile.FieldType)) ∈ mm_ws := mm_memI 991 (by decide +kernel) rfl
theorem mw_993 : (Jvm.Cond.methodLink "Linkcourt$Ways" (69 : Nat) ({ cls := "Linkcourt$Ways", name := "beside", desc := "(J)J" } : Jvm.MethodName)) ∈ mm_ws := mm_memI 993 (by decide +kernel) rfl
theorem mw_995 : (Jvm.Cond.instanceMethod ({ cls := "Linkcourt$Ways", name := "beside", desc := "(J)J" } : Jvm.MethodName)) ∈ mm_ws := mm_memI 995 (by decide +kernel) rfl
theorem mw_996 : (Jvm.Cond.code ({ cls := "Linkcourt$Ways", name := "beside", desc := "(J)J" } : Jvm.MethodName) prog_11_method_6_code (6 : Nat) (Option.some Jvm.ClassFile.FieldType.long)) ∈ mm_ws := mm_memI 996 (by decide +kernel) rfl
theorem mw_997 : (Jvm.Cond.methodLink "Linkcourt$Ways" (75 : Nat) ({ cls := "Linkcourt$Board", name := "around", desc := "(I)J" } : Jvm.MethodName)) ∈ mm_ws := mm_memI 997 (by decide +kernel) rfl
theorem mw_998 : (Jvm.Cond.instanceMethod ({ cls := "Linkcourt$Board", name := "around", desc := "(I)J" } : Jvm.MethodName)) ∈ mm_ws := mm_memI 998 (by decide +kernel) rfl
theorem mw_999 : (Jvm.Cond.selects "Linkcourt$Board" ({ cls := "Linkcourt$Board", name := "around", desc := "(I)J" } : Jvm.MethodName) ({ cls := "Linkcourt$Board", name := "around", desc := "(I)J" } : Jvm.MethodName)) ∈ mm_ws := mm_memI 999 (by decide +kernel) rfl
theorem mw_1000 : (Jvm.Cond.code ({ cls := "Linkcourt$Board", name := "around", desc := "(I)J" } : Jvm.MethodName) prog_3_method_13_code (2 : Nat) (Option.some Jvm.ClassFile.FieldType.long)) ∈ mm_ws := mm_memI 1000 (by decide +kernel) rfl
theorem mw_1001 : (Jvm.Cond.constantLong "Linkcourt$Ways" (73 : Nat) (-1 : Int64)) ∈ mm_ws := mm_memI 1001 (by decide +kernel) rfl
theorem mw_1002 : (Jvm.Cond.methodLink "Linkcourt$Ways" (48 : Nat) ({ cls := "Linkcourt$Ways", name := "cost", desc := "(II)I" } : Jvm.MethodName)) ∈ mm_ws := mm_memI 1002 (by decide +kernel) rfl
theorem mw_1004 : (Jvm.Cond.instanceMethod ({ cls := "Linkcourt$Ways", name := "cost", desc := "(II)I" } : Jvm.MethodName)) ∈ mm_ws := mm_memI 1004 (by decide +kernel) rfl
theorem mw_1005 : (Jvm.Cond.code ({ cls := "Linkcourt$Ways", name := "cost", desc := "(II)I" } : Jvm.MethodName) prog_11_method_8_code (4 : Nat) (Option.some Jvm.ClassFile.FieldType.int)) ∈ mm_ws := mm_memI 1005 (by decide +kernel) rfl
theorem mw_1006 : (Jvm.Cond.methodLink "Linkcourt$Ways" (52 : Nat) ({ cls := "java/lang/Math", name := "min", desc := "(II)I" } : Jvm.MethodName)) ∈ mm_ws := mm_memI 1006 (by decide +kernel) rfl
theorem mw_1007 : (Jvm.Cond.static ({ cls := "java/lang/Math", name := "min", desc := "(II)I" } : Jvm.MethodName)) ∈ mm_ws := mm_memI 1007 (by decide +kernel) rfl
theorem mw_1008 : (Jvm.Cond.code ({ cls := "java/lang/Math", name := "min", desc := "(II)I" } : Jvm.MethodName) prog_20_method_69_code (2 : Nat) (Option.some Jvm.ClassFile.FieldType.int)) ∈ mm_ws := mm_memI 1008 (by decide +kernel) rfl
theorem mw_1009 : (Jvm.Cond.methodLink "Linkcourt$Ways" (29 : Nat) ({ cls := "Linkcourt$Ways", name := "fewestToTwo", desc := "(IIJJ)I" } : Jvm.MethodName)) ∈ mm_ws := mm_memI 1009 (by decide +kernel) rfl
theorem mw_1011 : (Jvm.Cond.instanceMethod ({ cls := "Linkcourt$Ways", name := "fewestToTwo", desc := "(IIJJ)I" } : Jvm.MethodName)) ∈ mm_ws := mm_memI 1011 (by decide +kernel) rfl
theorem mw_1012 : (Jvm.Cond.code ({ cls := "Linkcourt$Ways", name := "fewestToTwo", desc := "(IIJJ)I" } : Jvm.MethodName) prog_11_method_3_code (9 : Nat) (Option.some Jvm.ClassFile.FieldType.int)) ∈ mm_ws := mm_memI 1012 (by decide +kernel) rfl
theorem mw_1020 : (Jvm.Cond.constant "Linkcourt" (271 : Nat) (1000000 : Int32)) ∈ mm_ws := mm_memI 1020 (by decide +kernel) rfl
theorem mw_1023 : (Jvm.Cond.methodLink "Linkcourt" (276 : Nat) ({ cls := "Linkcourt", name := "playedOutFrom", desc := "(I)J" } : Jvm.MethodName)) ∈ mm_ws := mm_memI 1023 (by decide +kernel) rfl
theorem mw_1025 : (Jvm.Cond.instanceMethod ({ cls := "Linkcourt", name := "playedOutFrom", desc := "(I)J" } : Jvm.MethodName)) ∈ mm_ws := mm_memI 1025 (by decide +kernel) rfl
theorem mw_1026 : (Jvm.Cond.code ({ cls := "Linkcourt", name := "playedOutFrom", desc := "(I)J" } : Jvm.MethodName) prog_1_method_39_code (2 : Nat) (Option.some Jvm.ClassFile.FieldType.long)) ∈ mm_ws := mm_memI 1026 (by decide +kernel) rfl
theorem mw_1027 : (Jvm.Cond.methodLink "Linkcourt" (377 : Nat) ({ cls := "Linkcourt$PlayingOut", name := "stonesOf0", desc := "(JJII)J" } : Jvm.MethodName)) ∈ mm_ws := mm_memI 1027 (by decide +kernel) rfl
theorem mw_1028 : (Jvm.Cond.instanceMethod ({ cls := "Linkcourt$PlayingOut", name := "stonesOf0", desc := "(JJII)J" } : Jvm.MethodName)) ∈ mm_ws := mm_memI 1028 (by decide +kernel) rfl
theorem mw_1029 : (Jvm.Cond.selects "Linkcourt$PlayingOut" ({ cls := "Linkcourt$PlayingOut", name := "stonesOf0", desc := "(JJII)J" } : Jvm.MethodName) ({ cls := "Linkcourt$PlayingOut", name := "stonesOf0", desc := "(JJII)J" } : Jvm.MethodName)) ∈ mm_ws := mm_memI 1029 (by decide +kernel) rfl
theorem mw_1030 : (Jvm.Cond.code ({ cls := "Linkcourt$PlayingOut", name := "stonesOf0", desc := "(JJII)J" } : Jvm.MethodName) prog_9_method_2_code (17 : Nat) (Option.some Jvm.ClassFile.FieldType.long)) ∈ mm_ws := mm_memI 1030 (by decide +kernel) rfl
theorem mw_1031 : (Jvm.Cond.constantLong "Linkcourt$PlayingOut" (24 : Nat) (-1 : Int64)) ∈ mm_ws := mm_memI 1031 (by decide +kernel) rfl
theorem mw_1032 : (Jvm.Cond.methodLink "Linkcourt$PlayingOut" (26 : Nat) ({ cls := "Linkcourt$PlayingOut", name := "saving", desc := "(IJJ)I" } : Jvm.MethodName)) ∈ mm_ws := mm_memI 1032 (by decide +kernel) rfl
theorem mw_1034 : (Jvm.Cond.instanceMethod ({ cls := "Linkcourt$PlayingOut", name := "saving", desc := "(IJJ)I" } : Jvm.MethodName)) ∈ mm_ws := mm_memI 1034 (by decide +kernel) rfl
theorem mw_1035 : (Jvm.Cond.code ({ cls := "Linkcourt$PlayingOut", name := "saving", desc := "(IJJ)I" } : Jvm.MethodName) prog_9_method_3_code (10 : Nat) (Option.some Jvm.ClassFile.FieldType.int)) ∈ mm_ws := mm_memI 1035 (by decide +kernel) rfl
theorem mw_1036 : (Jvm.Cond.methodLink "Linkcourt$PlayingOut" (34 : Nat) ({ cls := "Linkcourt$Board", name := "next", desc := "(II)I" } : Jvm.MethodName)) ∈ mm_ws := mm_memI 1036 (by decide +kernel) rfl
theorem mw_1037 : (Jvm.Cond.methodLink "Linkcourt$PlayingOut" (38 : Nat) ({ cls := "Linkcourt$PlayingOut", name := "between", desc := "(IIJ)J" } : Jvm.MethodName)) ∈ mm_ws := mm_memI 1037 (by decide +kernel) rfl
theorem mw_1039 : (Jvm.Cond.instanceMethod ({ cls := "Linkcourt$PlayingOut", name := "between", desc := "(IIJ)J" } : Jvm.MethodName)) ∈ mm_ws := mm_memI 1039 (by decide +kernel) rfl
theorem mw_1040 : (Jvm.Cond.code ({ cls := "Linkcourt$PlayingOut", name := "between", desc := "(IIJ)J" } : Jvm.MethodName) prog_9_method_4_code (7 : Nat) (Option.some Jvm.ClassFile.FieldType.long)) ∈ mm_ws := mm_memI 1040 (by decide +kernel) rfl
theorem mw_1042 : (Jvm.Cond.methodLink "Linkcourt$PlayingOut" (49 : Nat) ({ cls := "Linkcourt$Board", name := "around", desc := "(I)J" } : Jvm.MethodName)) ∈ mm_ws := mm_memI 1042 (by decide +kernel) rfl
theorem mw_1043 : (Jvm.Cond.methodLink "Linkcourt$PlayingOut" (53 : Nat) ({ cls := "java/lang/Long", name := "bitCount", desc := "(J)I" } : Jvm.MethodName)) ∈ mm_ws := mm_memI 1043 (by decide +kernel) rfl
theorem mw_1045 : (Jvm.Cond.methodLink "Linkcourt$PlayingOut" (30 : Nat) ({ cls := "Linkcourt$PlayingOut", name := "drawnOf", desc := "(J)I" } : Jvm.MethodName)) ∈ mm_ws := mm_memI 1045 (by decide +kernel) rfl
theorem mw_1047 : (Jvm.Cond.instanceMethod ({ cls := "Linkcourt$PlayingOut", name := "drawnOf", desc := "(J)I" } : Jvm.MethodName)) ∈ mm_ws := mm_memI 1047 (by decide +kernel) rfl
theorem mw_1048 : (Jvm.Cond.code ({ cls := "Linkcourt$PlayingOut", name := "drawnOf", desc := "(J)I" } : Jvm.MethodName) prog_9_method_5_code (7 : Nat) (Option.some Jvm.ClassFile.FieldType.int)) ∈ mm_ws := mm_memI 1048 (by decide +kernel) rfl
theorem mw_1049 : (Jvm.Cond.methodLink "Linkcourt$PlayingOut" (58 : Nat) ({ cls := "Linkcourt$PlayingOut", name := "draw", desc := "(I)I" } : Jvm.MethodName)) ∈ mm_ws := mm_memI 1049 (by decide +kernel) rfl
theorem mw_1051 : (Jvm.Cond.instanceMethod ({ cls := "Linkcourt$PlayingOut", name := "draw", desc := "(I)I" } : Jvm.MethodName)) ∈ mm_ws := mm_memI 1051 (by decide +kernel) rfl
theorem mw_1052 : (Jvm.Cond.code ({ cls := "Linkcourt$PlayingOut", name := "draw", desc := "(I)I" } : Jvm.MethodName) prog_9_method_6_code (2 : Nat) (Option.some Jvm.ClassFile.FieldType.int)) ∈ mm_ws := mm_memI 1052 (by decide +kernel) rfl
theorem mw_1053 : (Jvm.Cond.constantLong "Linkcourt$PlayingOut" (62 : Nat) (1103515245 : Int64)) ∈ mm_ws := mm_memI 1053 (by decide +kernel) rfl
theorem mw_1054 : (Jvm.Cond.constantLong "Linkcourt$PlayingOut" (64 : Nat) (12345 : Int64)) ∈ mm_ws := mm_memI 1054 (by decide +kernel) rfl
theorem mw_1055 : (Jvm.Cond.constantLong "Linkcourt$PlayingOut" (66 : Nat) (2147483648 : Int64)) ∈ mm_ws := mm_memI 1055 (by decide +kernel) rfl
theorem mw_1056 : (Jvm.Cond.constantLong "Linkcourt$PlayingOut" (68 : Nat) (65536 : Int64)) ∈ mm_ws := mm_memI 1056 (by decide +kernel) rfl
theorem mw_1057 : (Jvm.Cond.methodLink "Linkcourt" (279 : Nat) ({ cls := "Linkcourt$Board", name := "hasJoined", desc := "(IJ)Z" } : Jvm.MethodName)) ∈ mm_ws := mm_memI 1057 (by decide +kernel) rfl
theorem mw_1073 : (Jvm.Cond.methodLink "Linkcourt" (285 : Nat) ({ cls := "Linkcourt$Patterns", name := "canType", desc := "(JI)Z" } : Jvm.MethodName)) ∈ mm_ws := mm_memI 1073 (by decide +kernel) rfl
theorem mw_1074 : (Jvm.Cond.instanceMethod ({ cls := "Linkcourt$Patterns", name := "canType", desc := "(JI)Z" } : Jvm.MethodName)) ∈ mm_ws := mm_memI 1074 (by decide +kernel) rfl
theorem mw_1075 : (Jvm.Cond.selects "Linkcourt$Patterns" ({ cls := "Linkcourt$Patterns", name := "canType", desc := "(JI)Z" } : Jvm.MethodName) ({ cls := "Linkcourt$Patterns", name := "canType", desc := "(JI)Z" } : Jvm.MethodName)) ∈ mm_ws := mm_memI 1075 (by decide +kernel) rfl
theorem mw_1076 : (Jvm.Cond.code ({ cls := "Linkcourt$Patterns", name := "canType", desc := "(JI)Z" } : Jvm.MethodName) prog_7_method_2_code (6 : Nat) (Option.some Jvm.ClassFile.FieldType.boolean)) ∈ mm_ws := mm_memI 1076 (by decide +kernel) rfl
theorem mw_1077 : (Jvm.Cond.methodLink "Linkcourt$Patterns" (32 : Nat) ({ cls := "Linkcourt$Patterns", name := "signOf", desc := "(JI)C" } : Jvm.MethodName)) ∈ mm_ws := mm_memI 1077 (by decide +kernel) rfl
theorem mw_1079 : (Jvm.Cond.instanceMethod ({ cls := "Linkcourt$Patterns", name := "signOf", desc := "(JI)C" } : Jvm.MethodName)) ∈ mm_ws := mm_memI 1079 (by decide +kernel) rfl
theorem mw_1080 : (Jvm.Cond.code ({ cls := "Linkcourt$Patterns", name := "signOf", desc := "(JI)C" } : Jvm.MethodName) prog_7_method_4_code (4 : Nat) (Option.some Jvm.ClassFile.FieldType.char)) ∈ mm_ws := mm_memI 1080 (by decide +kernel) rfl
theorem mw_1081 : (Jvm.Cond.constantLong "Linkcourt$Patterns" (44 : Nat) (255 : Int64)) ∈ mm_ws := mm_memI 1081 (by decide +kernel) rfl
theorem mw_1084 : (Jvm.Cond.methodLink "Linkcourt" (295 : Nat) ({ cls := "Linkcourt$Patterns", name := "append", desc := "(JI)V" } : Jvm.MethodName)) ∈ mm_ws := mm_memI 1084 (by decide +kernel) rfl
theorem mw_1085 : (Jvm.Cond.instanceMethod ({ cls := "Linkcourt$Patterns", name := "append", desc := "(JI)V" } : Jvm.MethodName)) ∈ mm_ws := mm_memI 1085 (by decide +kernel) rfl
theorem mw_1086 : (Jvm.Cond.selects "Linkcourt$Patterns" ({ cls := "Linkcourt$Patterns", name := "append", desc := "(JI)V" } : Jvm.MethodName) ({ cls := "Linkcourt$Patterns", name := "append", desc := "(JI)V" } : Jvm.MethodName)) ∈ mm_ws := mm_memI 1086 (by decide +kernel) rfl
theorem mw_1087 : (Jvm.Cond.code ({ cls := "Linkcourt$Patterns", name := "append", desc := "(JI)V" } : Jvm.MethodName) prog_7_method_3_code (5 : Nat) (Option.none : Option Jvm.ClassFile.FieldType)) ∈ mm_ws := mm_memI 1087 (by decide +kernel) rfl
theorem mw_1097 : (Jvm.Cond.methodLink "Linkcourt" (309 : Nat) ({ cls := "Linkcourt$Patterns", name := "keep", desc := "()I" } : Jvm.MethodName)) ∈ mm_ws := mm_memI 1097 (by decide +kernel) rfl
theorem mw_1098 : (Jvm.Cond.instanceMethod ({ cls := "Linkcourt$Patterns", name := "keep", desc := "()I" } : Jvm.MethodName)) ∈ mm_ws := mm_memI 1098 (by decide +kernel) rfl
theorem mw_1099 : (Jvm.Cond.selects "Linkcourt$Patterns" ({ cls := "Linkcourt$Patterns", name := "keep", desc := "()I" } : Jvm.MethodName) ({ cls := "Linkcourt$Patterns", name := "keep", desc := "()I" } : Jvm.MethodName)) ∈ mm_ws := mm_memI 1099 (by decide +kernel) rfl
theorem mw_1100 : (Jvm.Cond.code ({ cls := "Linkcourt$Patterns", name := "keep", desc := "()I" } : Jvm.MethodName) prog_7_method_8_code (2 : Nat) (Option.some Jvm.ClassFile.FieldType.int)) ∈ mm_ws := mm_memI 1100 (by decide +kernel) rfl
theorem mw_1101 : (Jvm.Cond.methodLink "Linkcourt$Patterns" (49 : Nat) ({ cls := "Linkcourt$Patterns", name := "translate", desc := "(I)V" } : Jvm.MethodName)) ∈ mm_ws := mm_memI 1101 (by decide +kernel) rfl
theorem mw_1103 : (Jvm.Cond.instanceMethod ({ cls := "Linkcourt$Patterns", name := "translate", desc := "(I)V" } : Jvm.MethodName)) ∈ mm_ws := mm_memI 1103 (by decide +kernel) rfl
theorem mw_1104 : (Jvm.Cond.code ({ cls := "Linkcourt$Patterns", name := "translate", desc := "(I)V" } : Jvm.MethodName) prog_7_method_9_code (8 : Nat) (Option.none : Option Jvm.ClassFile.FieldType)) ∈ mm_ws := mm_memI 1104 (by decide +kernel) rfl
theorem mw_1105 : (Jvm.Cond.methodLink "Linkcourt$Patterns" (53 : Nat) ({ cls := "Linkcourt$Patterns", name := "hasPattern", desc := "(I)Z" } : Jvm.MethodName)) ∈ mm_ws := mm_memI 1105 (by decide +kernel) rfl
theorem mw_1106 : (Jvm.Cond.instanceMethod ({ cls := "Linkcourt$Patterns", name := "hasPattern", desc := "(I)Z" } : Jvm.MethodName)) ∈ mm_ws := mm_memI 1106 (by decide +kernel) rfl
theorem mw_1107 : (Jvm.Cond.selects "Linkcourt$Patterns" ({ cls := "Linkcourt$Patterns", name := "hasPattern", desc := "(I)Z" } : Jvm.MethodName) ({ cls := "Linkcourt$Patterns", name := "hasPattern", desc := "(I)Z" } : Jvm.MethodName)) ∈ mm_ws := mm_memI 1107 (by decide +kernel) rfl
theorem mw_1108 : (Jvm.Cond.code ({ cls := "Linkcourt$Patterns", name := "hasPattern", desc := "(I)Z" } : Jvm.MethodName) prog_7_method_7_code (2 : Nat) (Option.some Jvm.ClassFile.FieldType.boolean)) ∈ mm_ws := mm_memI 1108 (by decide +kernel) rfl
theorem mw_1109 : (Jvm.Cond.methodLink "Linkcourt$Patterns" (57 : Nat) ({ cls := "Linkcourt$Patterns", name := "character", desc := "(II)C" } : Jvm.MethodName)) ∈ mm_ws := mm_memI 1109 (by decide +kernel) rfl
theorem mw_1111 : (Jvm.Cond.instanceMethod ({ cls := "Linkcourt$Patterns", name := "character", desc := "(II)C" } : Jvm.MethodName)) ∈ mm_ws := mm_memI 1111 (by decide +kernel) rfl
theorem mw_1112 : (Jvm.Cond.code ({ cls := "Linkcourt$Patterns", name := "character", desc := "(II)C" } : Jvm.MethodName) prog_7_method_10_code (3 : Nat) (Option.some Jvm.ClassFile.FieldType.char)) ∈ mm_ws := mm_memI 1112 (by decide +kernel) rfl
theorem mw_1113 : (Jvm.Cond.constant "Linkcourt$Patterns" (61 : Nat) (16777216 : Int32)) ∈ mm_ws := mm_memI 1113 (by decide +kernel) rfl
theorem mw_1121 : (Jvm.Cond.methodLink "Linkcourt" (312 : Nat) ({ cls := "Linkcourt$Patterns", name := "hasPattern", desc := "(I)Z" } : Jvm.MethodName)) ∈ mm_ws := mm_memI 1121 (by decide +kernel) rfl
theorem mw_1123 : (Jvm.Cond.methodLink "Linkcourt" (317 : Nat) ({ cls := "Linkcourt$Patterns", name := "placesByRows", desc := "(IJJ)J" } : Jvm.MethodName)) ∈ mm_ws := mm_memI 1123 (by decide +kernel) rfl
theorem mw_1124 : (Jvm.Cond.instanceMethod ({ cls := "Linkcourt$Patterns", name := "placesByRows", desc := "(IJJ)J" } : Jvm.MethodName)) ∈ mm_ws := mm_memI 1124 (by decide +kernel) rfl
theorem mw_1125 : (Jvm.Cond.selects "Linkcourt$Patterns" ({ cls := "Linkcourt$Patterns", name := "placesByRows", desc := "(IJJ)J" } : Jvm.MethodName) ({ cls := "Linkcourt$Patterns", name := "placesByRows", desc := "(IJJ)J" } : Jvm.MethodName)) ∈ mm_ws := mm_memI 1125 (by decide +kernel) rfl
theorem mw_1126 : (Jvm.Cond.code ({ cls := "Linkcourt$Patterns", name := "placesByRows", desc := "(IJJ)J" } : Jvm.MethodName) prog_7_method_11_code (9 : Nat) (Option.some Jvm.ClassFile.FieldType.long)) ∈ mm_ws := mm_memI 1126 (by decide +kernel) rfl
theorem mw_1128 : (Jvm.Cond.methodLink "Linkcourt$Patterns" (71 : Nat) ({ cls := "Linkcourt$Patterns", name := "surroundings", desc := "(IJJ)I" } : Jvm.MethodName)) ∈ mm_ws := mm_memI 1128 (by decide +kernel) rfl
theorem mw_1130 : (Jvm.Cond.instanceMethod ({ cls := "Linkcourt$Patterns", name := "surroundings", desc := "(IJJ)I" } : Jvm.MethodName)) ∈ mm_ws := mm_memI 1130 (by decide +kernel) rfl
theorem mw_1131 : (Jvm.Cond.code ({ cls := "Linkcourt$Patterns", name := "surroundings", desc := "(IJJ)I" } : Jvm.MethodName) prog_7_method_12_code (8 : Nat) (Option.some Jvm.ClassFile.FieldType.int)) ∈ mm_ws := mm_memI 1131 (by decide +kernel) rfl
theorem mw_1132 : (Jvm.Cond.methodLink "Linkcourt$Patterns" (79 : Nat) ({ cls := "Linkcourt$Board", name := "next", desc := "(II)I" } : Jvm.MethodName)) ∈ mm_ws := mm_memI 1132 (by decide +kernel) rfl
theorem mw_1133 : (Jvm.Cond.methodLink "Linkcourt$Patterns" (83 : Nat) ({ cls := "Linkcourt$Patterns", name := "thing", desc := "(IJJ)I" } : Jvm.MethodName)) ∈ mm_ws := mm_memI 1133 (by decide +kernel) rfl
theorem mw_1134 : (Jvm.Cond.static ({ cls := "Linkcourt$Patterns", name := "thing", desc := "(IJJ)I" } : Jvm.MethodName)) ∈ mm_ws := mm_memI 1134 (by decide +kernel) rfl
theorem mw_1135 : (Jvm.Cond.code ({ cls := "Linkcourt$Patterns", name := "thing", desc := "(IJJ)I" } : Jvm.MethodName) prog_7_method_13_code (5 : Nat) (Option.some Jvm.ClassFile.FieldType.int)) ∈ mm_ws := mm_memI 1135 (by decide +kernel) rfl
theorem mw_1136 : (Jvm.Cond.methodLink "Linkcourt$Patterns" (75 : Nat) ({ cls := "Linkcourt$Patterns", name := "rowsFit", desc := "(II)Z" } : Jvm.MethodName)) ∈ mm_ws := mm_memI 1136 (by decide +kernel) rfl
theorem mw_1138 : (Jvm.Cond.instanceMethod ({ cls := "Linkcourt$Patterns", name := "rowsFit", desc := "(II)Z" } : Jvm.MethodName)) ∈ mm_ws := mm_memI 1138 (by decide +kernel) rfl
theorem mw_1139 : (Jvm.Cond.code ({ cls := "Linkcourt$Patterns", name := "rowsFit", desc := "(II)Z" } : Jvm.MethodName) prog_7_method_14_code (4 : Nat) (Option.some Jvm.ClassFile.FieldType.boolean)) ∈ mm_ws := mm_memI 1139 (by decide +kernel) rfl
theorem mw_1140 : (Jvm.Cond.methodLink "Linkcourt$Patterns" (86 : Nat) ({ cls := "Linkcourt$Patterns", name := "rowFits", desc := "(II)Z" } : Jvm.MethodName)) ∈ mm_ws := mm_memI 1140 (by decide +kernel) rfl
theorem mw_1141 : (Jvm.Cond.static ({ cls := "Linkcourt$Patterns", name := "rowFits", desc := "(II)Z" } : Jvm.MethodName)) ∈ mm_ws := mm_memI 1141 (by decide +kernel) rfl
theorem mw_1142 : (Jvm.Cond.code ({ cls := "Linkcourt$Patterns", name := "rowFits", desc := "(II)Z" } : Jvm.MethodName) prog_7_method_15_code (5 : Nat) (Option.some Jvm.ClassFile.FieldType.boolean)) ∈ mm_ws := mm_memI 1142 (by decide +kernel) rfl
theorem mw_1143 : (Jvm.Cond.constant "Linkcourt$Patterns" (89 : Nat) (16777215 : Int32)) ∈ mm_ws := mm_memI 1143 (by decide +kernel) rfl
theorem mw_1151 : (Jvm.Cond.methodLink "Linkcourt" (321 : Nat) ({ cls := "Linkcourt$Patterns", name := "placesByText", desc := "(IJJ)J" } : Jvm.MethodName)) ∈ mm_ws := mm_memI 1151 (by decide +kernel) rfl
theorem mw_1152 : (Jvm.Cond.instanceMethod ({ cls := "Linkcourt$Patterns", name := "placesByText", desc := "(IJJ)J" } : Jvm.MethodName)) ∈ mm_ws := mm_memI 1152 (by decide +kernel) rfl
theorem mw_1153 : (Jvm.Cond.selects "Linkcourt$Patterns" ({ cls := "Linkcourt$Patterns", name := "placesByText", desc := "(IJJ)J" } : Jvm.MethodName) ({ cls := "Linkcourt$Patterns", name := "placesByText", desc := "(IJJ)J" } : Jvm.MethodName)) ∈ mm_ws := mm_memI 1153 (by decide +kernel) rfl
theorem mw_1154 : (Jvm.Cond.code ({ cls := "Linkcourt$Patterns", name := "placesByText", desc := "(IJJ)J" } : Jvm.MethodName) prog_7_method_16_code (9 : Nat) (Option.some Jvm.ClassFile.FieldType.long)) ∈ mm_ws := mm_memI 1154 (by decide +kernel) rfl
theorem mw_1155 : (Jvm.Cond.methodLink "Linkcourt$Patterns" (90 : Nat) ({ cls := "Linkcourt$Patterns", name := "textFits", desc := "(IIJJ)Z" } : Jvm.MethodName)) ∈ mm_ws := mm_memI 1155 (by decide +kernel) rfl
theorem mw_1157 : (Jvm.Cond.instanceMethod ({ cls := "Linkcourt$Patterns", name := "textFits", desc := "(IIJJ)Z" } : Jvm.MethodName)) ∈ mm_ws := mm_memI 1157 (by decide +kernel) rfl
theorem mw_1158 : (Jvm.Cond.code ({ cls := "Linkcourt$Patterns", name := "textFits", desc := "(IIJJ)Z" } : Jvm.MethodName) prog_7_method_17_code (13 : Nat) (Option.some Jvm.ClassFile.FieldType.boolean)) ∈ mm_ws := mm_memI 1158 (by decide +kernel) rfl
theorem mw_1159 : (Jvm.Cond.methodLink "Linkcourt$Patterns" (94 : Nat) ({ cls := "Linkcourt$Patterns", name := "textFitsTurned", desc := "(IIIJJ)Z" } : Jvm.MethodName)) ∈ mm_ws := mm_memI 1159 (by decide +kernel) rfl
theorem mw_1161 : (Jvm.Cond.instanceMethod ({ cls := "Linkcourt$Patterns", name := "textFitsTurned", desc := "(IIIJJ)Z" } : Jvm.MethodName)) ∈ mm_ws := mm_memI 1161 (by decide +kernel) rfl
theorem mw_1162 : (Jvm.Cond.code ({ cls := "Linkcourt$Patterns", name := "textFitsTurned", desc := "(IIIJJ)Z" } : Jvm.MethodName) prog_7_method_18_code (10 : Nat) (Option.some Jvm.ClassFile.FieldType.boolean)) ∈ mm_ws := mm_memI 1162 (by decide +kernel) rfl
theorem mw_1172 : (Jvm.Cond.methodLink "Linkcourt" (331 : Nat) ({ cls := "Linkcourt$Times", name := "start", desc := "(III)V" } : Jvm.MethodName)) ∈ mm_ws := mm_memI 1172 (by decide +kernel) rfl
theorem mw_1182 : (Jvm.Cond.methodLink "Linkcourt" (338 : Nat) ({ cls := "Linkcourt$Times", name := "spend", desc := "(II)V" } : Jvm.MethodName)) ∈ mm_ws := mm_memI 1182 (by decide +kernel) rfl
theorem mw_1183 : (Jvm.Cond.instanceMethod ({ cls := "Linkcourt$Times", name := "spend", desc := "(II)V" } : Jvm.MethodName)) ∈ mm_ws := mm_memI 1183 (by decide +kernel) rfl
theorem mw_1184 : (Jvm.Cond.selects "Linkcourt$Times" ({ cls := "Linkcourt$Times", name := "spend", desc := "(II)V" } : Jvm.MethodName) ({ cls := "Linkcourt$Times", name := "spend", desc := "(II)V" } : Jvm.MethodName)) ∈ mm_ws := mm_memI 1184 (by decide +kernel) rfl
theorem mw_1185 : (Jvm.Cond.code ({ cls := "Linkcourt$Times", name := "spend", desc := "(II)V" } : Jvm.MethodName) prog_10_method_5_code (6 : Nat) (Option.none : Option Jvm.ClassFile.FieldType)) ∈ mm_ws := mm_memI 1185 (by decide +kernel) rfl
theorem mw_1186 : (Jvm.Cond.methodLink "Linkcourt$Times" (46 : Nat) ({ cls := "java/lang/Math", name := "min", desc := "(II)I" } : Jvm.MethodName)) ∈ mm_ws := mm_memI 1186 (by decide +kernel) rfl
theorem mw_1194 : (Jvm.Cond.methodLink "Linkcourt" (342 : Nat) ({ cls := "Linkcourt$Times", name := "shown", desc := "(II)I" } : Jvm.MethodName)) ∈ mm_ws := mm_memI 1194 (by decide +kernel) rfl
theorem mw_1195 : (Jvm.Cond.instanceMethod ({ cls := "Linkcourt$Times", name := "shown", desc := "(II)I" } : Jvm.MethodName)) ∈ mm_ws := mm_memI 1195 (by decide +kernel) rfl
theorem mw_1196 : (Jvm.Cond.selects "Linkcourt$Times" ({ cls := "Linkcourt$Times", name := "shown", desc := "(II)I" } : Jvm.MethodName) ({ cls := "Linkcourt$Times", name := "shown", desc := "(II)I" } : Jvm.MethodName)) ∈ mm_ws := mm_memI 1196 (by decide +kernel) rfl
theorem mw_1197 : (Jvm.Cond.code ({ cls := "Linkcourt$Times", name := "shown", desc := "(II)I" } : Jvm.MethodName) prog_10_method_6_code (3 : Nat) (Option.some Jvm.ClassFile.FieldType.int)) ∈ mm_ws := mm_memI 1197 (by decide +kernel) rfl
theorem mw_1206 : (Jvm.Cond.methodLink "Linkcourt" (348 : Nat) ({ cls := "Linkcourt$Ladder", name := "takeOn", desc := "()I" } : Jvm.MethodName)) ∈ mm_ws := mm_memI 1206 (by decide +kernel) rfl
theorem mw_1207 : (Jvm.Cond.instanceMethod ({ cls := "Linkcourt$Ladder", name := "takeOn", desc := "()I" } : Jvm.MethodName)) ∈ mm_ws := mm_memI 1207 (by decide +kernel) rfl
theorem mw_1208 : (Jvm.Cond.selects "Linkcourt$Ladder" ({ cls := "Linkcourt$Ladder", name := "takeOn", desc := "()I" } : Jvm.MethodName) ({ cls := "Linkcourt$Ladder", name := "takeOn", desc := "()I" } : Jvm.MethodName)) ∈ mm_ws := mm_memI 1208 (by decide +kernel) rfl
theorem mw_1209 : (Jvm.Cond.code ({ cls := "Linkcourt$Ladder", name := "takeOn", desc := "()I" } : Jvm.MethodName) prog_5_method_3_code (2 : Nat) (Option.some Jvm.ClassFile.FieldType.int)) ∈ mm_ws := mm_memI 1209 (by decide +kernel) rfl
theorem mw_1217 : (Jvm.Cond.methodLink "Linkcourt" (351 : Nat) ({ cls := "Linkcourt$Ladder", name := "hasPerson", desc := "(I)Z" } : Jvm.MethodName)) ∈ mm_ws := mm_memI 1217 (by decide +kernel) rfl
theorem mw_1218 : (Jvm.Cond.instanceMethod ({ cls := "Linkcourt$Ladder", name := "hasPerson", desc := "(I)Z" } : Jvm.MethodName)) ∈ mm_ws := mm_memI 1218 (by decide +kernel) rfl
theorem mw_1219 : (Jvm.Cond.selects "Linkcourt$Ladder" ({ cls := "Linkcourt$Ladder", name := "hasPerson", desc := "(I)Z" } : Jvm.MethodName) ({ cls := "Linkcourt$Ladder", name := "hasPerson", desc := "(I)Z" } : Jvm.MethodName)) ∈ mm_ws := mm_memI 1219 (by decide +kernel) rfl
theorem mw_1220 : (Jvm.Cond.code ({ cls := "Linkcourt$Ladder", name := "hasPerson", desc := "(I)Z" } : Jvm.MethodName) prog_5_method_2_code (2 : Nat) (Option.some Jvm.ClassFile.FieldType.boolean)) ∈ mm_ws := mm_memI 1220 (by decide +kernel) rfl
theorem mw_1224 : (Jvm.Cond.methodLink "Linkcourt" (360 : Nat) ({ cls := "Linkcourt$Ladder", name := "enter", desc := "(II)I" } : Jvm.MethodName)) ∈ mm_ws := mm_memI 1224 (by decide +kernel) rfl
theorem mw_1225 : (Jvm.Cond.instanceMethod ({ cls := "Linkcourt$Ladder", name := "enter", desc := "(II)I" } : Jvm.MethodName)) ∈ mm_ws := mm_memI 1225 (by decide +kernel) rfl
theorem mw_1226 : (Jvm.Cond.selects "Linkcourt$Ladder" ({ cls := "Linkcourt$Ladder", name := "enter", desc := "(II)I" } : Jvm.MethodName) ({ cls := "Linkcourt$Ladder", name := "enter", desc := "(II)I" } : Jvm.MethodName)) ∈ mm_ws := mm_memI 1226 (by decide +kernel) rfl
theorem mw_1227 : (Jvm.Cond.code ({ cls := "Linkcourt$Ladder", name := "enter", desc := "(II)I" } : Jvm.MethodName) prog_5_method_4_code (5 : Nat) (Option.some Jvm.ClassFile.FieldType.int)) ∈ mm_ws := mm_memI 1227 (by decide +kernel) rfl
theorem mw_1228 : (Jvm.Cond.methodLink "Linkcourt$Ladder" (28 : Nat) ({ cls := "Linkcourt$Ladder", name := "hasPerson", desc := "(I)Z" } : Jvm.MethodName)) ∈ mm_ws := mm_memI 1228 (by decide +kernel) rfl
theorem mw_1229 : (Jvm.Cond.methodLink "Linkcourt$Ladder" (32 : Nat) ({ cls := "java/lang/Math", name := "floorDiv", desc := "(II)I" } : Jvm.MethodName)) ∈ mm_ws := mm_memI 1229 (by decide +kernel) rfl
theorem mw_1230 : (Jvm.Cond.static ({ cls := "java/lang/Math", name := "floorDiv", desc := "(II)I" } : Jvm.MethodName)) ∈ mm_ws := mm_memI 1230 (by decide +kernel) rfl
theorem mw_1231 : (Jvm.Cond.code ({ cls := "java/lang/Math", name := "floorDiv", desc := "(II)I" } : Jvm.MethodName) prog_20_method_47_code (3 : Nat) (Option.some Jvm.ClassFile.FieldType.int)) ∈ mm_ws := mm_memI 1231 (by decide +kernel) rfl
theorem mw_1232 : (Jvm.Cond.methodLink "Linkcourt$Ladder" (38 : Nat) ({ cls := "java/lang/Math", name := "min", desc := "(II)I" } : Jvm.MethodName)) ∈ mm_ws := mm_memI 1232 (by decide +kernel) rfl
theorem mw_1233 : (Jvm.Cond.methodLink "Linkcourt$Ladder" (41 : Nat) ({ cls := "java/lang/Math", name := "max", desc := "(II)I" } : Jvm.MethodName)) ∈ mm_ws := mm_memI 1233 (by decide +kernel) rfl
theorem mw_1234 : (Jvm.Cond.methodLink "Linkcourt$Ladder" (44 : Nat) ({ cls := "Linkcourt$Ladder", name := "climb", desc := "(II)V" } : Jvm.MethodName)) ∈ mm_ws := mm_memI 1234 (by decide +kernel) rfl
theorem mw_1236 : (Jvm.Cond.instanceMethod ({ cls := "Linkcourt$Ladder", name := "climb", desc := "(II)V" } : Jvm.MethodName)) ∈ mm_ws := mm_memI 1236 (by decide +kernel) rfl
theorem mw_1237 : (Jvm.Cond.code ({ cls := "Linkcourt$Ladder", name := "climb", desc := "(II)V" } : Jvm.MethodName) prog_5_method_5_code (5 : Nat) (Option.none : Option Jvm.ClassFile.FieldType)) ∈ mm_ws := mm_memI 1237 (by decide +kernel) rfl
theorem mw_1245 : (Jvm.Cond.methodLink "Linkcourt" (363 : Nat) ({ cls := "Linkcourt$Ladder", name := "shown", desc := "(II)I" } : Jvm.MethodName)) ∈ mm_ws := mm_memI 1245 (by decide +kernel) rfl
theorem mw_1246 : (Jvm.Cond.instanceMethod ({ cls := "Linkcourt$Ladder", name := "shown", desc := "(II)I" } : Jvm.MethodName)) ∈ mm_ws := mm_memI 1246 (by decide +kernel) rfl
theorem mw_1247 : (Jvm.Cond.selects "Linkcourt$Ladder" ({ cls := "Linkcourt$Ladder", name := "shown", desc := "(II)I" } : Jvm.MethodName) ({ cls := "Linkcourt$Ladder", name := "shown", desc := "(II)I" } : Jvm.MethodName)) ∈ mm_ws := mm_memI 1247 (by decide +kernel) rfl
theorem mw_1248 : (Jvm.Cond.code ({ cls := "Linkcourt$Ladder", name := "shown", desc := "(II)I" } : Jvm.MethodName) prog_5_method_6_code (3 : Nat) (Option.some Jvm.ClassFile.FieldType.int)) ∈ mm_ws := mm_memI 1248 (by decide +kernel) rfl
theorem mw_1254 : (Jvm.Cond.methodLink "LinkcourtModel" (1 : Nat) ({ cls := "java/lang/Object", name := "<init>", desc := "()V" } : Jvm.MethodName)) ∈ mm_ws := mm_memI 1254 (by decide +kernel) rfl
theorem mw_1255 : (Jvm.Cond.methodLink "LinkcourtModel" (83 : Nat) ({ cls := "LinkcourtModel", name := "begins", desc := "(III)V" } : Jvm.MethodName)) ∈ mm_ws := mm_memI 1255 (by decide +kernel) rfl
theorem mw_1257 : (Jvm.Cond.instanceMethod ({ cls := "LinkcourtModel", name := "begins", desc := "(III)V" } : Jvm.MethodName)) ∈ mm_ws := mm_memI 1257 (by decide +kernel) rfl
theorem mw_1258 : (Jvm.Cond.code ({ cls := "LinkcourtModel", name := "begins", desc := "(III)V" } : Jvm.MethodName) prog_13_method_15_code (7 : Nat) (Option.none : Option Jvm.ClassFile.FieldType)) ∈ mm_ws := mm_memI 1258 (by decide +kernel) rfl
theorem mw_1259 : (Jvm.Cond.methodLink "LinkcourtModel" (115 : Nat) ({ cls := "LinkcourtModel", name := "neighbourOf", desc := "(III)I" } : Jvm.MethodName)) ∈ mm_ws := mm_memI 1259 (by decide +kernel) rfl
theorem mw_1261 : (Jvm.Cond.instanceMethod ({ cls := "LinkcourtModel", name := "neighbourOf", desc := "(III)I" } : Jvm.MethodName)) ∈ mm_ws := mm_memI 1261 (by decide +kernel) rfl
theorem mw_1262 : (Jvm.Cond.code ({ cls := "LinkcourtModel", name := "neighbourOf", desc := "(III)I" } : Jvm.MethodName) prog_13_method_12_code (5 : Nat) (Option.some Jvm.ClassFile.FieldType.int)) ∈ mm_ws := mm_memI 1262 (by decide +kernel) rfl
theorem mw_1263 : (Jvm.Cond.methodLink "LinkcourtModel" (111 : Nat) ({ cls := "LinkcourtModel", name := "at", desc := "(II)I" } : Jvm.MethodName)) ∈ mm_ws := mm_memI 1263 (by decide +kernel) rfl
theorem mw_1265 : (Jvm.Cond.instanceMethod ({ cls := "LinkcourtModel", name := "at", desc := "(II)I" } : Jvm.MethodName)) ∈ mm_ws := mm_memI 1265 (by decide +kernel) rfl
theorem mw_1266 : (Jvm.Cond.code ({ cls := "LinkcourtModel", name := "at", desc := "(II)I" } : Jvm.MethodName) prog_13_method_11_code (4 : Nat) (Option.some Jvm.ClassFile.FieldType.int)) ∈ mm_ws := mm_memI 1266 (by decide +kernel) rfl
theorem mw_1267 : (Jvm.Cond.methodLink "LinkcourtModel" (98 : Nat) ({ cls := "LinkcourtModel", name := "in", desc := "(III)Z" } : Jvm.MethodName)) ∈ mm_ws := mm_memI 1267 (by decide +kernel) rfl
theorem mw_1268 : (Jvm.Cond.static ({ cls := "LinkcourtModel", name := "in", desc := "(III)Z" } : Jvm.MethodName)) ∈ mm_ws := mm_memI 1268 (by decide +kernel) rfl
theorem mw_1269 : (Jvm.Cond.code ({ cls := "LinkcourtModel", name := "in", desc := "(III)Z" } : Jvm.MethodName) prog_13_method_5_code (3 : Nat) (Option.some Jvm.ClassFile.FieldType.boolean)) ∈ mm_ws := mm_memI 1269 (by decide +kernel) rfl
theorem mw_1270 : (Jvm.Cond.methodLink "LinkcourtModel" (119 : Nat) ({ cls := "LinkcourtModel", name := "bit", desc := "(I)J" } : Jvm.MethodName)) ∈ mm_ws := mm_memI 1270 (by decide +kernel) rfl
theorem mw_1271 : (Jvm.Cond.static ({ cls := "LinkcourtModel", name := "bit", desc := "(I)J" } : Jvm.MethodName)) ∈ mm_ws := mm_memI 1271 (by decide +kernel) rfl
theorem mw_1272 : (Jvm.Cond.code ({ cls := "LinkcourtModel", name := "bit", desc := "(I)J" } : Jvm.MethodName) prog_13_method_6_code (1 : Nat) (Option.some Jvm.ClassFile.FieldType.long)) ∈ mm_ws := mm_memI 1272 (by decide +kernel) rfl
theorem mw_1273 : (Jvm.Cond.methodLink "LinkcourtModel" (123 : Nat) ({ cls := "LinkcourtModel", name := "sides", desc := "()I" } : Jvm.MethodName)) ∈ mm_ws := mm_memI 1273 (by decide +kernel) rfl
theorem mw_1275 : (Jvm.Cond.instanceMethod ({ cls := "LinkcourtModel", name := "sides", desc := "()I" } : Jvm.MethodName)) ∈ mm_ws := mm_memI 1275 (by decide +kernel) rfl
theorem mw_1276 : (Jvm.Cond.code ({ cls := "LinkcourtModel", name := "sides", desc := "()I" } : Jvm.MethodName) prog_13_method_13_code (1 : Nat) (Option.some Jvm.ClassFile.FieldType.int)) ∈ mm_ws := mm_memI 1276 (by decide +kernel) rfl
theorem mw_1277 : (Jvm.Cond.methodLink "LinkcourtModel" (127 : Nat) ({ cls := "LinkcourtModel", name := "isAtSide", desc := "(II)Z" } : Jvm.MethodName)) ∈ mm_ws := mm_memI 1277 (by decide +kernel) rfl
theorem mw_1279 : (Jvm.Cond.instanceMethod ({ cls := "LinkcourtModel", name := "isAtSide", desc := "(II)Z" } : Jvm.MethodName)) ∈ mm_ws := mm_memI 1279 (by decide +kernel) rfl
theorem mw_1280 : (Jvm.Cond.code ({ cls := "LinkcourtModel", name := "isAtSide", desc := "(II)Z" } : Jvm.MethodName) prog_13_method_14_code (5 : Nat) (Option.some Jvm.ClassFile.FieldType.boolean)) ∈ mm_ws := mm_memI 1280 (by decide +kernel) rfl
theorem mw_1281 : (Jvm.Cond.fieldLink "LinkcourtModel" (105 : Nat) "LinkcourtModel" "kind" "I") ∈ mm_ws := mm_memI 1281 (by decide +kernel) rfl
theorem mw_1282 : (Jvm.Cond.fieldLink "LinkcourtModel" (102 : Nat) "LinkcourtModel" "rows" "I") ∈ mm_ws := mm_memI 1282 (by decide +kernel) rfl
theorem mw_1283 : (Jvm.Cond.fieldLink "LinkcourtModel" (108 : Nat) "LinkcourtModel" "columns" "I") ∈ mm_ws := mm_memI 1283 (by decide +kernel) rfl
theorem mw_1284 : (Jvm.Cond.fieldLink "LinkcourtModel" (95 : Nat) "LinkcourtModel" "cells" "I") ∈ mm_ws := mm_memI 1284 (by decide +kernel) rfl
theorem mw_1285 : (Jvm.Cond.fieldLink "LinkcourtModel" (7 : Nat) "LinkcourtModel" "rowOf" "[I") ∈ mm_ws := mm_memI 1285 (by decide +kernel) rfl
theorem mw_1286 : (Jvm.Cond.fieldLink "LinkcourtModel" (13 : Nat) "LinkcourtModel" "columnOf" "[I") ∈ mm_ws := mm_memI 1286 (by decide +kernel) rfl
theorem mw_1287 : (Jvm.Cond.fieldLink "LinkcourtModel" (16 : Nat) "LinkcourtModel" "beside" "[I") ∈ mm_ws := mm_memI 1287 (by decide +kernel) rfl
theorem mw_1288 : (Jvm.Cond.fieldLink "LinkcourtModel" (19 : Nat) "LinkcourtModel" "near" "[J") ∈ mm_ws := mm_memI 1288 (by decide +kernel) rfl
theorem mw_1289 : (Jvm.Cond.fieldLink "LinkcourtModel" (23 : Nat) "LinkcourtModel" "side" "[J") ∈ mm_ws := mm_memI 1289 (by decide +kernel) rfl
theorem mw_1290 : (Jvm.Cond.fieldLink "LinkcourtModel" (26 : Nat) "LinkcourtModel" "stones" "[J") ∈ mm_ws := mm_memI 1290 (by decide +kernel) rfl
theorem mw_1291 : (Jvm.Cond.fieldLink "LinkcourtModel" (131 : Nat) "LinkcourtModel" "moves" "I") ∈ mm_ws := mm_memI 1291 (by decide +kernel) rfl
theorem mw_1292 : (Jvm.Cond.fieldLink "LinkcourtModel" (29 : Nat) "LinkcourtModel" "moved" "[I") ∈ mm_ws := mm_memI 1292 (by decide +kernel) rfl
theorem mw_1293 : (Jvm.Cond.fieldLink "LinkcourtModel" (134 : Nat) "LinkcourtModel" "isSwapped" "Z") ∈ mm_ws := mm_memI 1293 (by decide +kernel) rfl
theorem mw_1294 : (Jvm.Cond.fieldLink "LinkcourtModel" (138 : Nat) "LinkcourtModel" "onTime" "I") ∈ mm_ws := mm_memI 1294 (by decide +kernel) rfl
theorem mw_1295 : (Jvm.Cond.fieldLink "LinkcourtModel" (141 : Nat) "LinkcourtModel" "isRecorded" "Z") ∈ mm_ws := mm_memI 1295 (by decide +kernel) rfl
theorem mw_1296 : (Jvm.Cond.fieldLink "LinkcourtModel" (144 : Nat) "LinkcourtModel" "hasClocks" "Z") ∈ mm_ws := mm_memI 1296 (by decide +kernel) rfl
theorem mw_1297 : (Jvm.Cond.fieldLink "LinkcourtModel" (344 : Nat) "LinkcourtModel" "each" "I") ∈ mm_ws := mm_memI 1297 (by decide +kernel) rfl
theorem mw_1298 : (Jvm.Cond.fieldLink "LinkcourtModel" (32 : Nat) "LinkcourtModel" "seconds" "[I") ∈ mm_ws := mm_memI 1298 (by decide +kernel) rfl
theorem mw_1299 : (Jvm.Cond.fieldLink "LinkcourtModel" (35 : Nat) "LinkcourtModel" "periods" "[I") ∈ mm_ws := mm_memI 1299 (by decide +kernel) rfl
theorem mw_1300 : (Jvm.Cond.fieldLink "LinkcourtModel" (38 : Nat) "LinkcourtModel" "used" "[I") ∈ mm_ws := mm_memI 1300 (by decide +kernel) rfl
theorem mw_1301 : (Jvm.Cond.fieldLink "LinkcourtModel" (41 : Nat) "LinkcourtModel" "empty" "[I") ∈ mm_ws := mm_memI 1301 (by decide +kernel) rfl
theorem mw_1302 : (Jvm.Cond.fieldLink "LinkcourtModel" (208 : Nat) "LinkcourtModel" "many" "I") ∈ mm_ws := mm_memI 1302 (by decide +kernel) rfl
theorem mw_1303 : (Jvm.Cond.fieldLink "LinkcourtModel" (44 : Nat) "LinkcourtModel" "threes" "[I") ∈ mm_ws := mm_memI 1303 (by decide +kernel) rfl
theorem mw_1304 : (Jvm.Cond.fieldLink "LinkcourtModel" (47 : Nat) "LinkcourtModel" "value" "[I") ∈ mm_ws := mm_memI 1304 (by decide +kernel) rfl
theorem mw_1305 : (Jvm.Cond.fieldLink "LinkcourtModel" (50 : Nat) "LinkcourtModel" "lasting" "[I") ∈ mm_ws := mm_memI 1305 (by decide +kernel) rfl
theorem mw_1306 : (Jvm.Cond.fieldLink "LinkcourtModel" (53 : Nat) "LinkcourtModel" "both" "[J") ∈ mm_ws := mm_memI 1306 (by decide +kernel) rfl
theorem mw_1307 : (Jvm.Cond.fieldLink "LinkcourtModel" (56 : Nat) "LinkcourtModel" "tape" "[I") ∈ mm_ws := mm_memI 1307 (by decide +kernel) rfl
theorem mw_1308 : (Jvm.Cond.fieldLink "LinkcourtModel" (321 : Nat) "LinkcourtModel" "length" "I") ∈ mm_ws := mm_memI 1308 (by decide +kernel) rfl
theorem mw_1309 : (Jvm.Cond.fieldLink "LinkcourtModel" (327 : Nat) "LinkcourtModel" "patterns" "I") ∈ mm_ws := mm_memI 1309 (by decide +kernel) rfl
theorem mw_1310 : (Jvm.Cond.fieldLink "LinkcourtModel" (59 : Nat) "LinkcourtModel" "sign" "[I") ∈ mm_ws := mm_memI 1310 (by decide +kernel) rfl
theorem mw_1311 : (Jvm.Cond.fieldLink "LinkcourtModel" (62 : Nat) "LinkcourtModel" "signs" "[I") ∈ mm_ws := mm_memI 1311 (by decide +kernel) rfl
theorem mw_1312 : (Jvm.Cond.fieldLink "LinkcourtModel" (347 : Nat) "LinkcourtModel" "persons" "I") ∈ mm_ws := mm_memI 1312 (by decide +kernel) rfl
theorem mw_1313 : (Jvm.Cond.fieldLink "LinkcourtModel" (65 : Nat) "LinkcourtModel" "rating" "[I") ∈ mm_ws := mm_memI 1313 (by decide +kernel) rfl
theorem mw_1314 : (Jvm.Cond.fieldLink "LinkcourtModel" (68 : Nat) "LinkcourtModel" "place" "[I") ∈ mm_ws := mm_memI 1314 (by decide +kernel) rfl
theorem mw_1315 : (Jvm.Cond.fieldLink "LinkcourtModel" (71 : Nat) "LinkcourtModel" "won" "[I") ∈ mm_ws := mm_memI 1315 (by decide +kernel) rfl
theorem mw_1316 : (Jvm.Cond.fieldLink "LinkcourtModel" (74 : Nat) "LinkcourtModel" "lost" "[I") ∈ mm_ws := mm_memI 1316 (by decide +kernel) rfl
theorem mw_1317 : (Jvm.Cond.fieldLink "LinkcourtModel" (77 : Nat) "LinkcourtModel" "far" "[I") ∈ mm_ws := mm_memI 1317 (by decide +kernel) rfl
theorem mw_1318 : (Jvm.Cond.fieldLink "LinkcourtModel" (80 : Nat) "LinkcourtModel" "sum" "[I") ∈ mm_ws := mm_memI 1318 (by decide +kernel) rfl
theorem mw_1319 : (Jvm.Cond.fieldLink "LinkcourtModel" (287 : Nat) "LinkcourtModel" "drawn" "J") ∈ mm_ws := mm_memI 1319 (by decide +kernel) rfl
theorem mw_1320 : (Jvm.Cond.fieldLink "LinkcourtModel" (87 : Nat) "LinkcourtModel" "thrown" "I") ∈ mm_ws := mm_memI 1320 (by decide +kernel) rfl
theorem mw_1410 : (Jvm.Cond.methodLink "LinkcourtModel" (164 : Nat) ({ cls := "LinkcourtModel", name := "asks", desc := "(Z)Z" } : Jvm.MethodName)) ∈ mm_ws := mm_memI 1410 (by decide +kernel) rfl
theorem mw_1412 : (Jvm.Cond.instanceMethod ({ cls := "LinkcourtModel", name := "asks", desc := "(Z)Z" } : Jvm.MethodName)) ∈ mm_ws := mm_memI 1412 (by decide +kernel) rfl
theorem mw_1413 : (Jvm.Cond.code ({ cls := "LinkcourtModel", name := "asks", desc := "(Z)Z" } : Jvm.MethodName) prog_13_method_4_code (2 : Nat) (Option.some Jvm.ClassFile.FieldType.boolean)) ∈ mm_ws := mm_memI 1413 (by decide +kernel) rfl
theorem mw_1418 : (Jvm.Cond.methodLink "LinkcourtModel" (168 : Nat) ({ cls := "LinkcourtModel", name := "isCell", desc := "(I)Z" } : Jvm.MethodName)) ∈ mm_ws := mm_memI 1418 (by decide +kernel) rfl
theorem mw_1420 : (Jvm.Cond.instanceMethod ({ cls := "LinkcourtModel", name := "isCell", desc := "(I)Z" } : Jvm.MethodName)) ∈ mm_ws := mm_memI 1420 (by decide +kernel) rfl
theorem mw_1421 : (Jvm.Cond.code ({ cls := "LinkcourtModel", name := "isCell", desc := "(I)Z" } : Jvm.MethodName) prog_13_method_9_code (2 : Nat) (Option.some Jvm.ClassFile.FieldType.boolean)) ∈ mm_ws := mm_memI 1421 (by decide +kernel) rfl
theorem mw_1422 : (Jvm.Cond.methodLink "LinkcourtModel" (172 : Nat) ({ cls := "LinkcourtModel", name := "emptyCells", desc := "()J" } : Jvm.MethodName)) ∈ mm_ws := mm_memI 1422 (by decide +kernel) rfl
theorem mw_1424 : (Jvm.Cond.instanceMethod ({ cls := "LinkcourtModel", name := "emptyCells", desc := "()J" } : Jvm.MethodName)) ∈ mm_ws := mm_memI 1424 (by decide +kernel) rfl
theorem mw_1425 : (Jvm.Cond.code ({ cls := "LinkcourtModel", name := "emptyCells", desc := "()J" } : Jvm.MethodName) prog_13_method_21_code (1 : Nat) (Option.some Jvm.ClassFile.FieldType.long)) ∈ mm_ws := mm_memI 1425 (by decide +kernel) rfl
theorem mw_1426 : (Jvm.Cond.constantLong "LinkcourtModel" (151 : Nat) (-1 : Int64)) ∈ mm_ws := mm_memI 1426 (by decide +kernel) rfl
theorem mw_1427 : (Jvm.Cond.methodLink "LinkcourtModel" (91 : Nat) ({ cls := "LinkcourtModel", name := "has", desc := "(JI)Z" } : Jvm.MethodName)) ∈ mm_ws := mm_memI 1427 (by decide +kernel) rfl
theorem mw_1428 : (Jvm.Cond.static ({ cls := "LinkcourtModel", name := "has", desc := "(JI)Z" } : Jvm.MethodName)) ∈ mm_ws := mm_memI 1428 (by decide +kernel) rfl
theorem mw_1429 : (Jvm.Cond.code ({ cls := "LinkcourtModel", name := "has", desc := "(JI)Z" } : Jvm.MethodName) prog_13_method_7_code (3 : Nat) (Option.some Jvm.ClassFile.FieldType.boolean)) ∈ mm_ws := mm_memI 1429 (by decide +kernel) rfl
theorem mw_1430 : (Jvm.Cond.methodLink "LinkcourtModel" (176 : Nat) ({ cls := "LinkcourtModel", name := "fails", desc := "(I)I" } : Jvm.MethodName)) ∈ mm_ws := mm_memI 1430 (by decide +kernel) rfl
theorem mw_1432 : (Jvm.Cond.instanceMethod ({ cls := "LinkcourtModel", name := "fails", desc := "(I)I" } : Jvm.MethodName)) ∈ mm_ws := mm_memI 1432 (by decide +kernel) rfl
theorem mw_1433 : (Jvm.Cond.code ({ cls := "LinkcourtModel", name := "fails", desc := "(I)I" } : Jvm.MethodName) prog_13_method_3_code (2 : Nat) (Option.some Jvm.ClassFile.FieldType.int)) ∈ mm_ws := mm_memI 1433 (by decide +kernel) rfl
theorem mw_1434 : (Jvm.Cond.methodLink "LinkcourtModel" (180 : Nat) ({ cls := "LinkcourtModel", name := "winner", desc := "()I" } : Jvm.MethodName)) ∈ mm_ws := mm_memI 1434 (by decide +kernel) rfl
theorem mw_1436 : (Jvm.Cond.instanceMethod ({ cls := "LinkcourtModel", name := "winner", desc := "()I" } : Jvm.MethodName)) ∈ mm_ws := mm_memI 1436 (by decide +kernel) rfl
theorem mw_1437 : (Jvm.Cond.code ({ cls := "LinkcourtModel", name := "winner", desc := "()I" } : Jvm.MethodName) prog_13_method_20_code (1 : Nat) (Option.some Jvm.ClassFile.FieldType.int)) ∈ mm_ws := mm_memI 1437 (by decide +kernel) rfl
theorem mw_1438 : (Jvm.Cond.methodLink "LinkcourtModel" (161 : Nat) ({ cls := "LinkcourtModel", name := "joinedNow", desc := "()I" } : Jvm.MethodName)) ∈ mm_ws := mm_memI 1438 (by decide +kernel) rfl
theorem mw_1440 : (Jvm.Cond.instanceMethod ({ cls := "LinkcourtModel", name := "joinedNow", desc := "()I" } : Jvm.MethodName)) ∈ mm_ws := mm_memI 1440 (by decide +kernel) rfl
theorem mw_1441 : (Jvm.Cond.code ({ cls := "LinkcourtModel", name := "joinedNow", desc := "()I" } : Jvm.MethodName) prog_13_method_19_code (1 : Nat) (Option.some Jvm.ClassFile.FieldType.int)) ∈ mm_ws := mm_memI 1441 (by decide +kernel) rfl
theorem mw_1442 : (Jvm.Cond.methodLink "LinkcourtModel" (157 : Nat) ({ cls := "LinkcourtModel", name := "joined", desc := "(JJ)I" } : Jvm.MethodName)) ∈ mm_ws := mm_memI 1442 (by decide +kernel) rfl
theorem mw_1444 : (Jvm.Cond.instanceMethod ({ cls := "LinkcourtModel", name := "joined", desc := "(JJ)I" } : Jvm.MethodName)) ∈ mm_ws := mm_memI 1444 (by decide +kernel) rfl
theorem mw_1445 : (Jvm.Cond.code ({ cls := "LinkcourtModel", name := "joined", desc := "(JJ)I" } : Jvm.MethodName) prog_13_method_18_code (5 : Nat) (Option.some Jvm.ClassFile.FieldType.int)) ∈ mm_ws := mm_memI 1445 (by decide +kernel) rfl
theorem mw_1446 : (Jvm.Cond.methodLink "LinkcourtModel" (153 : Nat) ({ cls := "LinkcourtModel", name := "joins", desc := "(IJ)Z" } : Jvm.MethodName)) ∈ mm_ws := mm_memI 1446 (by decide +kernel) rfl
theorem mw_1448 : (Jvm.Cond.instanceMethod ({ cls := "LinkcourtModel", name := "joins", desc := "(IJ)Z" } : Jvm.MethodName)) ∈ mm_ws := mm_memI 1448 (by decide +kernel) rfl
theorem mw_1449 : (Jvm.Cond.code ({ cls := "LinkcourtModel", name := "joins", desc := "(IJ)Z" } : Jvm.MethodName) prog_13_method_17_code (9 : Nat) (Option.some Jvm.ClassFile.FieldType.boolean)) ∈ mm_ws := mm_memI 1449 (by decide +kernel) rfl
theorem mw_1450 : (Jvm.Cond.methodLink "LinkcourtModel" (147 : Nat) ({ cls := "LinkcourtModel", name := "spreads", desc := "(JJ)J" } : Jvm.MethodName)) ∈ mm_ws := mm_memI 1450 (by decide +kernel) rfl
theorem mw_1452 : (Jvm.Cond.instanceMethod ({ cls := "LinkcourtModel", name := "spreads", desc := "(JJ)J" } : Jvm.MethodName)) ∈ mm_ws := mm_memI 1452 (by decide +kernel) rfl
theorem mw_1453 : (Jvm.Cond.code ({ cls := "LinkcourtModel", name := "spreads", desc := "(JJ)J" } : Jvm.MethodName) prog_13_method_16_code (11 : Nat) (Option.some Jvm.ClassFile.FieldType.long)) ∈ mm_ws := mm_memI 1453 (by decide +kernel) rfl
theorem mw_1454 : (Jvm.Cond.methodLink "LinkcourtModel" (183 : Nat) ({ cls := "LinkcourtModel", name := "turn", desc := "()I" } : Jvm.MethodName)) ∈ mm_ws := mm_memI 1454 (by decide +kernel) rfl
theorem mw_1456 : (Jvm.Cond.instanceMethod ({ cls := "LinkcourtModel", name := "turn", desc := "()I" } : Jvm.MethodName)) ∈ mm_ws := mm_memI 1456 (by decide +kernel) rfl
theorem mw_1457 : (Jvm.Cond.code ({ cls := "LinkcourtModel", name := "turn", desc := "()I" } : Jvm.MethodName) prog_13_method_26_code (1 : Nat) (Option.some Jvm.ClassFile.FieldType.int)) ∈ mm_ws := mm_memI 1457 (by decide +kernel) rfl
theorem mw_1462 : (Jvm.Cond.methodLink "LinkcourtModel" (186 : Nat) ({ cls := "LinkcourtModel", name := "mirrored", desc := "(I)I" } : Jvm.MethodName)) ∈ mm_ws := mm_memI 1462 (by decide +kernel) rfl
theorem mw_1464 : (Jvm.Cond.instanceMethod ({ cls := "LinkcourtModel", name := "mirrored", desc := "(I)I" } : Jvm.MethodName)) ∈ mm_ws := mm_memI 1464 (by decide +kernel) rfl
theorem mw_1465 : (Jvm.Cond.code ({ cls := "LinkcourtModel", name := "mirrored", desc := "(I)I" } : Jvm.MethodName) prog_13_method_28_code (2 : Nat) (Option.some Jvm.ClassFile.FieldType.int)) ∈ mm_ws := mm_memI 1465 (by decide +kernel) rfl
theorem mw_1474 : (Jvm.Cond.methodLink "LinkcourtModel" (189 : Nat) ({ cls := "LinkcourtModel", name := "ones", desc := "(J)I" } : Jvm.MethodName)) ∈ mm_ws := mm_memI 1474 (by decide +kernel) rfl
theorem mw_1475 : (Jvm.Cond.static ({ cls := "LinkcourtModel", name := "ones", desc := "(J)I" } : Jvm.MethodName)) ∈ mm_ws := mm_memI 1475 (by decide +kernel) rfl
theorem mw_1476 : (Jvm.Cond.code ({ cls := "LinkcourtModel", name := "ones", desc := "(J)I" } : Jvm.MethodName) prog_13_method_8_code (4 : Nat) (Option.some Jvm.ClassFile.FieldType.int)) ∈ mm_ws := mm_memI 1476 (by decide +kernel) rfl
theorem mw_1477 : (Jvm.Cond.methodLink "LinkcourtModel" (193 : Nat) ({ cls := "LinkcourtModel", name := "groups", desc := "(I)I" } : Jvm.MethodName)) ∈ mm_ws := mm_memI 1477 (by decide +kernel) rfl
theorem mw_1479 : (Jvm.Cond.instanceMethod ({ cls := "LinkcourtModel", name := "groups", desc := "(I)I" } : Jvm.MethodName)) ∈ mm_ws := mm_memI 1479 (by decide +kernel) rfl
theorem mw_1480 : (Jvm.Cond.code ({ cls := "LinkcourtModel", name := "groups", desc := "(I)I" } : Jvm.MethodName) prog_13_method_23_code (5 : Nat) (Option.some Jvm.ClassFile.FieldType.int)) ∈ mm_ws := mm_memI 1480 (by decide +kernel) rfl
theorem mw_1485 : (Jvm.Cond.methodLink "LinkcourtModel" (196 : Nat) ({ cls := "LinkcourtModel", name := "groupOf", desc := "(I)J" } : Jvm.MethodName)) ∈ mm_ws := mm_memI 1485 (by decide +kernel) rfl
theorem mw_1487 : (Jvm.Cond.instanceMethod ({ cls := "LinkcourtModel", name := "groupOf", desc := "(I)J" } : Jvm.MethodName)) ∈ mm_ws := mm_memI 1487 (by decide +kernel) rfl
theorem mw_1488 : (Jvm.Cond.code ({ cls := "LinkcourtModel", name := "groupOf", desc := "(I)J" } : Jvm.MethodName) prog_13_method_22_code (4 : Nat) (Option.some Jvm.ClassFile.FieldType.long)) ∈ mm_ws := mm_memI 1488 (by decide +kernel) rfl
theorem mw_1489 : (Jvm.Cond.methodLink "LinkcourtModel" (199 : Nat) ({ cls := "LinkcourtModel", name := "sidesOf", desc := "(J)I" } : Jvm.MethodName)) ∈ mm_ws := mm_memI 1489 (by decide +kernel) rfl
theorem mw_1491 : (Jvm.Cond.instanceMethod ({ cls := "LinkcourtModel", name := "sidesOf", desc := "(J)I" } : Jvm.MethodName)) ∈ mm_ws := mm_memI 1491 (by decide +kernel) rfl
theorem mw_1492 : (Jvm.Cond.code ({ cls := "LinkcourtModel", name := "sidesOf", desc := "(J)I" } : Jvm.MethodName) prog_13_method_32_code (5 : Nat) (Option.some Jvm.ClassFile.FieldType.int)) ∈ mm_ws := mm_memI 1492 (by decide +kernel) rfl
theorem mw_1493 : (Jvm.Cond.methodLink "LinkcourtModel" (202 : Nat) ({ cls := "LinkcourtModel", name := "lowest", desc := "(J)I" } : Jvm.MethodName)) ∈ mm_ws := mm_memI 1493 (by decide +kernel) rfl
theorem mw_1494 : (Jvm.Cond.static ({ cls := "LinkcourtModel", name := "lowest", desc := "(J)I" } : Jvm.MethodName)) ∈ mm_ws := mm_memI 1494 (by decide +kernel) rfl
theorem mw_1495 : (Jvm.Cond.code ({ cls := "LinkcourtModel", name := "lowest", desc := "(J)I" } : Jvm.MethodName) prog_13_method_24_code (3 : Nat) (Option.some Jvm.ClassFile.FieldType.int)) ∈ mm_ws := mm_memI 1495 (by decide +kernel) rfl
theorem mw_1496 : (Jvm.Cond.methodLink "LinkcourtModel" (205 : Nat) ({ cls := "LinkcourtModel", name := "moveOf", desc := "(I)I" } : Jvm.MethodName)) ∈ mm_ws := mm_memI 1496 (by decide +kernel) rfl
theorem mw_1498 : (Jvm.Cond.instanceMethod ({ cls := "LinkcourtModel", name := "moveOf", desc := "(I)I" } : Jvm.MethodName)) ∈ mm_ws := mm_memI 1498 (by decide +kernel) rfl
theorem mw_1499 : (Jvm.Cond.code ({ cls := "LinkcourtModel", name := "moveOf", desc := "(I)I" } : Jvm.MethodName) prog_13_method_33_code (4 : Nat) (Option.some Jvm.ClassFile.FieldType.int)) ∈ mm_ws := mm_memI 1499 (by decide +kernel) rfl
theorem mw_1508 : (Jvm.Cond.methodLink "LinkcourtModel" (229 : Nat) ({ cls := "LinkcourtModel", name := "asksFew", desc := "()Z" } : Jvm.MethodName)) ∈ mm_ws := mm_memI 1508 (by decide +kernel) rfl
theorem mw_1510 : (Jvm.Cond.instanceMethod ({ cls := "LinkcourtModel", name := "asksFew", desc := "()Z" } : Jvm.MethodName)) ∈ mm_ws := mm_memI 1510 (by decide +kernel) rfl
theorem mw_1511 : (Jvm.Cond.code ({ cls := "LinkcourtModel", name := "asksFew", desc := "()Z" } : Jvm.MethodName) prog_13_method_42_code (1 : Nat) (Option.some Jvm.ClassFile.FieldType.boolean)) ∈ mm_ws := mm_memI 1511 (by decide +kernel) rfl
theorem mw_1512 : (Jvm.Cond.methodLink "LinkcourtModel" (233 : Nat) ({ cls := "LinkcourtModel", name := "solves", desc := "(JJI)V" } : Jvm.MethodName)) ∈ mm_ws := mm_memI 1512 (by decide +kernel) rfl
theorem mw_1514 : (Jvm.Cond.instanceMethod ({ cls := "LinkcourtModel", name := "solves", desc := "(JJI)V" } : Jvm.MethodName)) ∈ mm_ws := mm_memI 1514 (by decide +kernel) rfl
theorem mw_1515 : (Jvm.Cond.code ({ cls := "LinkcourtModel", name := "solves", desc := "(JJI)V" } : Jvm.MethodName) prog_13_method_40_code (10 : Nat) (Option.none : Option Jvm.ClassFile.FieldType)) ∈ mm_ws := mm_memI 1515 (by decide +kernel) rfl
theorem mw_1516 : (Jvm.Cond.methodLink "LinkcourtModel" (214 : Nat) ({ cls := "LinkcourtModel", name := "takesEmpty", desc := "(J)V" } : Jvm.MethodName)) ∈ mm_ws := mm_memI 1516 (by decide +kernel) rfl
theorem mw_1518 : (Jvm.Cond.instanceMethod ({ cls := "LinkcourtModel", name := "takesEmpty", desc := "(J)V" } : Jvm.MethodName)) ∈ mm_ws := mm_memI 1518 (by decide +kernel) rfl
theorem mw_1519 : (Jvm.Cond.code ({ cls := "LinkcourtModel", name := "takesEmpty", desc := "(J)V" } : Jvm.MethodName) prog_13_method_36_code (4 : Nat) (Option.none : Option Jvm.ClassFile.FieldType)) ∈ mm_ws := mm_memI 1519 (by decide +kernel) rfl
theorem mw_1520 : (Jvm.Cond.methodLink "LinkcourtModel" (218 : Nat) ({ cls := "LinkcourtModel", name := "count", desc := "(II)I" } : Jvm.MethodName)) ∈ mm_ws := mm_memI 1520 (by decide +kernel) rfl
theorem mw_1522 : (Jvm.Cond.instanceMethod ({ cls := "LinkcourtModel", name := "count", desc := "(II)I" } : Jvm.MethodName)) ∈ mm_ws := mm_memI 1522 (by decide +kernel) rfl
theorem mw_1523 : (Jvm.Cond.code ({ cls := "LinkcourtModel", name := "count", desc := "(II)I" } : Jvm.MethodName) prog_13_method_38_code (5 : Nat) (Option.some Jvm.ClassFile.FieldType.int)) ∈ mm_ws := mm_memI 1523 (by decide +kernel) rfl
theorem mw_1524 : (Jvm.Cond.methodLink "LinkcourtModel" (211 : Nat) ({ cls := "LinkcourtModel", name := "digit", desc := "(II)I" } : Jvm.MethodName)) ∈ mm_ws := mm_memI 1524 (by decide +kernel) rfl
theorem mw_1526 : (Jvm.Cond.instanceMethod ({ cls := "LinkcourtModel", name := "digit", desc := "(II)I" } : Jvm.MethodName)) ∈ mm_ws := mm_memI 1526 (by decide +kernel) rfl
theorem mw_1527 : (Jvm.Cond.code ({ cls := "LinkcourtModel", name := "digit", desc := "(II)I" } : Jvm.MethodName) prog_13_method_37_code (3 : Nat) (Option.some Jvm.ClassFile.FieldType.int)) ∈ mm_ws := mm_memI 1527 (by decide +kernel) rfl
theorem mw_1528 : (Jvm.Cond.methodLink "LinkcourtModel" (221 : Nat) ({ cls := "LinkcourtModel", name := "fills", desc := "(IJJ)V" } : Jvm.MethodName)) ∈ mm_ws := mm_memI 1528 (by decide +kernel) rfl
theorem mw_1530 : (Jvm.Cond.instanceMethod ({ cls := "LinkcourtModel", name := "fills", desc := "(IJJ)V" } : Jvm.MethodName)) ∈ mm_ws := mm_memI 1530 (by decide +kernel) rfl
theorem mw_1531 : (Jvm.Cond.code ({ cls := "LinkcourtModel", name := "fills", desc := "(IJJ)V" } : Jvm.MethodName) prog_13_method_39_code (8 : Nat) (Option.none : Option Jvm.ClassFile.FieldType)) ∈ mm_ws := mm_memI 1531 (by decide +kernel) rfl
theorem mw_1532 : (Jvm.Cond.methodLink "LinkcourtModel" (225 : Nat) ({ cls := "LinkcourtModel", name := "solvesOne", desc := "(II)V" } : Jvm.MethodName)) ∈ mm_ws := mm_memI 1532 (by decide +kernel) rfl
theorem mw_1534 : (Jvm.Cond.instanceMethod ({ cls := "LinkcourtModel", name := "solvesOne", desc := "(II)V" } : Jvm.MethodName)) ∈ mm_ws := mm_memI 1534 (by decide +kernel) rfl
theorem mw_1535 : (Jvm.Cond.code ({ cls := "LinkcourtModel", name := "solvesOne", desc := "(II)V" } : Jvm.MethodName) prog_13_method_41_code (8 : Nat) (Option.none : Option Jvm.ClassFile.FieldType)) ∈ mm_ws := mm_memI 1535 (by decide +kernel) rfl
theorem mw_1552 : (Jvm.Cond.methodLink "LinkcourtModel" (269 : Nat) ({ cls := "LinkcourtModel", name := "asksLink", desc := "(IIIZ)Z" } : Jvm.MethodName)) ∈ mm_ws := mm_memI 1552 (by decide +kernel) rfl
theorem mw_1554 : (Jvm.Cond.instanceMethod ({ cls := "LinkcourtModel", name := "asksLink", desc := "(IIIZ)Z" } : Jvm.MethodName)) ∈ mm_ws := mm_memI 1554 (by decide +kernel) rfl
theorem mw_1555 : (Jvm.Cond.code ({ cls := "LinkcourtModel", name := "asksLink", desc := "(IIIZ)Z" } : Jvm.MethodName) prog_13_method_57_code (5 : Nat) (Option.some Jvm.ClassFile.FieldType.boolean)) ∈ mm_ws := mm_memI 1555 (by decide +kernel) rfl
theorem mw_1556 : (Jvm.Cond.methodLink "LinkcourtModel" (260 : Nat) ({ cls := "LinkcourtModel", name := "isPlayer", desc := "(I)Z" } : Jvm.MethodName)) ∈ mm_ws := mm_memI 1556 (by decide +kernel) rfl
theorem mw_1557 : (Jvm.Cond.static ({ cls := "LinkcourtModel", name := "isPlayer", desc := "(I)Z" } : Jvm.MethodName)) ∈ mm_ws := mm_memI 1557 (by decide +kernel) rfl
theorem mw_1558 : (Jvm.Cond.code ({ cls := "LinkcourtModel", name := "isPlayer", desc := "(I)Z" } : Jvm.MethodName) prog_13_method_10_code (1 : Nat) (Option.some Jvm.ClassFile.FieldType.boolean)) ∈ mm_ws := mm_memI 1558 (by decide +kernel) rfl
theorem mw_1559 : (Jvm.Cond.methodLink "LinkcourtModel" (263 : Nat) ({ cls := "LinkcourtModel", name := "isThere", desc := "(I)Z" } : Jvm.MethodName)) ∈ mm_ws := mm_memI 1559 (by decide +kernel) rfl
theorem mw_1561 : (Jvm.Cond.instanceMethod ({ cls := "LinkcourtModel", name := "isThere", desc := "(I)Z" } : Jvm.MethodName)) ∈ mm_ws := mm_memI 1561 (by decide +kernel) rfl
theorem mw_1562 : (Jvm.Cond.code ({ cls := "LinkcourtModel", name := "isThere", desc := "(I)Z" } : Jvm.MethodName) prog_13_method_47_code (2 : Nat) (Option.some Jvm.ClassFile.FieldType.boolean)) ∈ mm_ws := mm_memI 1562 (by decide +kernel) rfl
theorem mw_1563 : (Jvm.Cond.methodLink "LinkcourtModel" (266 : Nat) ({ cls := "LinkcourtModel", name := "isEnd", desc := "(II)Z" } : Jvm.MethodName)) ∈ mm_ws := mm_memI 1563 (by decide +kernel) rfl
theorem mw_1565 : (Jvm.Cond.instanceMethod ({ cls := "LinkcourtModel", name := "isEnd", desc := "(II)Z" } : Jvm.MethodName)) ∈ mm_ws := mm_memI 1565 (by decide +kernel) rfl
theorem mw_1566 : (Jvm.Cond.code ({ cls := "LinkcourtModel", name := "isEnd", desc := "(II)Z" } : Jvm.MethodName) prog_13_method_48_code (3 : Nat) (Option.some Jvm.ClassFile.FieldType.boolean)) ∈ mm_ws := mm_memI 1566 (by decide +kernel) rfl
theorem mw_1567 : (Jvm.Cond.methodLink "LinkcourtModel" (273 : Nat) ({ cls := "LinkcourtModel", name := "findsCarrier", desc := "(III)I" } : Jvm.MethodName)) ∈ mm_ws := mm_memI 1567 (by decide +kernel) rfl
theorem mw_1569 : (Jvm.Cond.instanceMethod ({ cls := "LinkcourtModel", name := "findsCarrier", desc := "(III)I" } : Jvm.MethodName)) ∈ mm_ws := mm_memI 1569 (by decide +kernel) rfl
theorem mw_1570 : (Jvm.Cond.code ({ cls := "LinkcourtModel", name := "findsCarrier", desc := "(III)I" } : Jvm.MethodName) prog_13_method_56_code (7 : Nat) (Option.some Jvm.ClassFile.FieldType.int)) ∈ mm_ws := mm_memI 1570 (by decide +kernel) rfl
theorem mw_1571 : (Jvm.Cond.methodLink "LinkcourtModel" (254 : Nat) ({ cls := "LinkcourtModel", name := "findsLinks", desc := "(III)V" } : Jvm.MethodName)) ∈ mm_ws := mm_memI 1571 (by decide +kernel) rfl
theorem mw_1573 : (Jvm.Cond.instanceMethod ({ cls := "LinkcourtModel", name := "findsLinks", desc := "(III)V" } : Jvm.MethodName)) ∈ mm_ws := mm_memI 1573 (by decide +kernel) rfl
theorem mw_1574 : (Jvm.Cond.code ({ cls := "LinkcourtModel", name := "findsLinks", desc := "(III)V" } : Jvm.MethodName) prog_13_method_52_code (7 : Nat) (Option.none : Option Jvm.ClassFile.FieldType)) ∈ mm_ws := mm_memI 1574 (by decide +kernel) rfl
theorem mw_1575 : (Jvm.Cond.methodLink "LinkcourtModel" (240 : Nat) ({ cls := "LinkcourtModel", name := "code", desc := "(II)I" } : Jvm.MethodName)) ∈ mm_ws := mm_memI 1575 (by decide +kernel) rfl
theorem mw_1577 : (Jvm.Cond.instanceMethod ({ cls := "LinkcourtModel", name := "code", desc := "(II)I" } : Jvm.MethodName)) ∈ mm_ws := mm_memI 1577 (by decide +kernel) rfl
theorem mw_1578 : (Jvm.Cond.code ({ cls := "LinkcourtModel", name := "code", desc := "(II)I" } : Jvm.MethodName) prog_13_method_51_code (5 : Nat) (Option.some Jvm.ClassFile.FieldType.int)) ∈ mm_ws := mm_memI 1578 (by decide +kernel) rfl
theorem mw_1579 : (Jvm.Cond.methodLink "LinkcourtModel" (243 : Nat) ({ cls := "LinkcourtModel", name := "linked", desc := "(IIII)I" } : Jvm.MethodName)) ∈ mm_ws := mm_memI 1579 (by decide +kernel) rfl
theorem mw_1581 : (Jvm.Cond.instanceMethod ({ cls := "LinkcourtModel", name := "linked", desc := "(IIII)I" } : Jvm.MethodName)) ∈ mm_ws := mm_memI 1581 (by decide +kernel) rfl
theorem mw_1582 : (Jvm.Cond.code ({ cls := "LinkcourtModel", name := "linked", desc := "(IIII)I" } : Jvm.MethodName) prog_13_method_53_code (8 : Nat) (Option.some Jvm.ClassFile.FieldType.int)) ∈ mm_ws := mm_memI 1582 (by decide +kernel) rfl
theorem mw_1583 : (Jvm.Cond.methodLink "LinkcourtModel" (250 : Nat) ({ cls := "LinkcourtModel", name := "links", desc := "(JII)Z" } : Jvm.MethodName)) ∈ mm_ws := mm_memI 1583 (by decide +kernel) rfl
theorem mw_1585 : (Jvm.Cond.instanceMethod ({ cls := "LinkcourtModel", name := "links", desc := "(JII)Z" } : Jvm.MethodName)) ∈ mm_ws := mm_memI 1585 (by decide +kernel) rfl
theorem mw_1586 : (Jvm.Cond.code ({ cls := "LinkcourtModel", name := "links", desc := "(JII)Z" } : Jvm.MethodName) prog_13_method_50_code (10 : Nat) (Option.some Jvm.ClassFile.FieldType.boolean)) ∈ mm_ws := mm_memI 1586 (by decide +kernel) rfl
theorem mw_1587 : (Jvm.Cond.methodLink "LinkcourtModel" (237 : Nat) ({ cls := "LinkcourtModel", name := "endCells", desc := "(I)J" } : Jvm.MethodName)) ∈ mm_ws := mm_memI 1587 (by decide +kernel) rfl
theorem mw_1589 : (Jvm.Cond.instanceMethod ({ cls := "LinkcourtModel", name := "endCells", desc := "(I)J" } : Jvm.MethodName)) ∈ mm_ws := mm_memI 1589 (by decide +kernel) rfl
theorem mw_1590 : (Jvm.Cond.code ({ cls := "LinkcourtModel", name := "endCells", desc := "(I)J" } : Jvm.MethodName) prog_13_method_49_code (2 : Nat) (Option.some Jvm.ClassFile.FieldType.long)) ∈ mm_ws := mm_memI 1590 (by decide +kernel) rfl
theorem mw_1591 : (Jvm.Cond.methodLink "LinkcourtModel" (247 : Nat) ({ cls := "LinkcourtModel", name := "goesOn", desc := "(II)I" } : Jvm.MethodName)) ∈ mm_ws := mm_memI 1591 (by decide +kernel) rfl
theorem mw_1593 : (Jvm.Cond.instanceMethod ({ cls := "LinkcourtModel", name := "goesOn", desc := "(II)I" } : Jvm.MethodName)) ∈ mm_ws := mm_memI 1593 (by decide +kernel) rfl
theorem mw_1594 : (Jvm.Cond.code ({ cls := "LinkcourtModel", name := "goesOn", desc := "(II)I" } : Jvm.MethodName) prog_13_method_54_code (7 : Nat) (Option.some Jvm.ClassFile.FieldType.int)) ∈ mm_ws := mm_memI 1594 (by decide +kernel) rfl
theorem mw_1595 : (Jvm.Cond.methodLink "LinkcourtModel" (257 : Nat) ({ cls := "LinkcourtModel", name := "size", desc := "(I)I" } : Jvm.MethodName)) ∈ mm_ws := mm_memI 1595 (by decide +kernel) rfl
theorem mw_1596 : (Jvm.Cond.static ({ cls := "LinkcourtModel", name := "size", desc := "(I)I" } : Jvm.MethodName)) ∈ mm_ws := mm_memI 1596 (by decide +kernel) rfl
theorem mw_1597 : (Jvm.Cond.code ({ cls := "LinkcourtModel", name := "size", desc := "(I)I" } : Jvm.MethodName) prog_13_method_55_code (3 : Nat) (Option.some Jvm.ClassFile.FieldType.int)) ∈ mm_ws := mm_memI 1597 (by decide +kernel) rfl
theorem mw_1610 : (Jvm.Cond.methodLink "LinkcourtModel" (282 : Nat) ({ cls := "LinkcourtModel", name := "farOf", desc := "(I)I" } : Jvm.MethodName)) ∈ mm_ws := mm_memI 1610 (by decide +kernel) rfl
theorem mw_1612 : (Jvm.Cond.instanceMethod ({ cls := "LinkcourtModel", name := "farOf", desc := "(I)I" } : Jvm.MethodName)) ∈ mm_ws := mm_memI 1612 (by decide +kernel) rfl
theorem mw_1613 : (Jvm.Cond.code ({ cls := "LinkcourtModel", name := "farOf", desc := "(I)I" } : Jvm.MethodName) prog_13_method_63_code (6 : Nat) (Option.some Jvm.ClassFile.FieldType.int)) ∈ mm_ws := mm_memI 1613 (by decide +kernel) rfl
theorem mw_1614 : (Jvm.Cond.methodLink "LinkcourtModel" (276 : Nat) ({ cls := "LinkcourtModel", name := "finds", desc := "(II)V" } : Jvm.MethodName)) ∈ mm_ws := mm_memI 1614 (by decide +kernel) rfl
theorem mw_1616 : (Jvm.Cond.instanceMethod ({ cls := "LinkcourtModel", name := "finds", desc := "(II)V" } : Jvm.MethodName)) ∈ mm_ws := mm_memI 1616 (by decide +kernel) rfl
theorem mw_1617 : (Jvm.Cond.code ({ cls := "LinkcourtModel", name := "finds", desc := "(II)V" } : Jvm.MethodName) prog_13_method_61_code (8 : Nat) (Option.none : Option Jvm.ClassFile.FieldType)) ∈ mm_ws := mm_memI 1617 (by decide +kernel) rfl
theorem mw_1618 : (Jvm.Cond.methodLink "LinkcourtModel" (279 : Nat) ({ cls := "LinkcourtModel", name := "weight", desc := "(II)I" } : Jvm.MethodName)) ∈ mm_ws := mm_memI 1618 (by decide +kernel) rfl
theorem mw_1620 : (Jvm.Cond.instanceMethod ({ cls := "LinkcourtModel", name := "weight", desc := "(II)I" } : Jvm.MethodName)) ∈ mm_ws := mm_memI 1620 (by decide +kernel) rfl
theorem mw_1621 : (Jvm.Cond.code ({ cls := "LinkcourtModel", name := "weight", desc := "(II)I" } : Jvm.MethodName) prog_13_method_62_code (3 : Nat) (Option.some Jvm.ClassFile.FieldType.int)) ∈ mm_ws := mm_memI 1621 (by decide +kernel) rfl
theorem mw_1626 : (Jvm.Cond.constant "LinkcourtModel" (308 : Nat) (1000000 : Int32)) ∈ mm_ws := mm_memI 1626 (by decide +kernel) rfl
theorem mw_1627 : (Jvm.Cond.methodLink "LinkcourtModel" (309 : Nat) ({ cls := "LinkcourtModel", name := "playsOut", desc := "(J)J" } : Jvm.MethodName)) ∈ mm_ws := mm_memI 1627 (by decide +kernel) rfl
theorem mw_1629 : (Jvm.Cond.instanceMethod ({ cls := "LinkcourtModel", name := "playsOut", desc := "(J)J" } : Jvm.MethodName)) ∈ mm_ws := mm_memI 1629 (by decide +kernel) rfl
theorem mw_1630 : (Jvm.Cond.code ({ cls := "LinkcourtModel", name := "playsOut", desc := "(J)J" } : Jvm.MethodName) prog_13_method_68_code (12 : Nat) (Option.some Jvm.ClassFile.FieldType.long)) ∈ mm_ws := mm_memI 1630 (by decide +kernel) rfl
theorem mw_1631 : (Jvm.Cond.methodLink "LinkcourtModel" (297 : Nat) ({ cls := "LinkcourtModel", name := "mends", desc := "(JJI)I" } : Jvm.MethodName)) ∈ mm_ws := mm_memI 1631 (by decide +kernel) rfl
theorem mw_1633 : (Jvm.Cond.instanceMethod ({ cls := "LinkcourtModel", name := "mends", desc := "(JJI)I" } : Jvm.MethodName)) ∈ mm_ws := mm_memI 1633 (by decide +kernel) rfl
theorem mw_1634 : (Jvm.Cond.code ({ cls := "LinkcourtModel", name := "mends", desc := "(JJI)I" } : Jvm.MethodName) prog_13_method_66_code (13 : Nat) (Option.some Jvm.ClassFile.FieldType.int)) ∈ mm_ws := mm_memI 1634 (by decide +kernel) rfl
theorem mw_1635 : (Jvm.Cond.methodLink "LinkcourtModel" (301 : Nat) ({ cls := "LinkcourtModel", name := "draws", desc := "(I)I" } : Jvm.MethodName)) ∈ mm_ws := mm_memI 1635 (by decide +kernel) rfl
theorem mw_1637 : (Jvm.Cond.instanceMethod ({ cls := "LinkcourtModel", name := "draws", desc := "(I)I" } : Jvm.MethodName)) ∈ mm_ws := mm_memI 1637 (by decide +kernel) rfl
theorem mw_1638 : (Jvm.Cond.code ({ cls := "LinkcourtModel", name := "draws", desc := "(I)I" } : Jvm.MethodName) prog_13_method_65_code (2 : Nat) (Option.some Jvm.ClassFile.FieldType.int)) ∈ mm_ws := mm_memI 1638 (by decide +kernel) rfl
theorem mw_1639 : (Jvm.Cond.constantLong "LinkcourtModel" (285 : Nat) (1103515245 : Int64)) ∈ mm_ws := mm_memI 1639 (by decide +kernel) rfl
theorem mw_1640 : (Jvm.Cond.constantLong "LinkcourtModel" (291 : Nat) (12345 : Int64)) ∈ mm_ws := mm_memI 1640 (by decide +kernel) rfl
theorem mw_1641 : (Jvm.Cond.constantLong "LinkcourtModel" (293 : Nat) (2147483648 : Int64)) ∈ mm_ws := mm_memI 1641 (by decide +kernel) rfl
theorem mw_1642 : (Jvm.Cond.constantLong "LinkcourtModel" (295 : Nat) (65536 : Int64)) ∈ mm_ws := mm_memI 1642 (by decide +kernel) rfl
theorem mw_1643 : (Jvm.Cond.methodLink "LinkcourtModel" (304 : Nat) ({ cls := "LinkcourtModel", name := "placed", desc := "(JI)I" } : Jvm.MethodName)) ∈ mm_ws := mm_memI 1643 (by decide +kernel) rfl
theorem mw_1644 : (Jvm.Cond.static ({ cls := "LinkcourtModel", name := "placed", desc := "(JI)I" } : Jvm.MethodName)) ∈ mm_ws := mm_memI 1644 (by decide +kernel) rfl
theorem mw_1645 : (Jvm.Cond.code ({ cls := "LinkcourtModel", name := "placed", desc := "(JI)I" } : Jvm.MethodName) prog_13_method_67_code (6 : Nat) (Option.some Jvm.ClassFile.FieldType.int)) ∈ mm_ws := mm_memI 1645 (by decide +kernel) rfl
theorem mw_1654 : (Jvm.Cond.constantLong "LinkcourtModel" (316 : Nat) (255 : Int64)) ∈ mm_ws := mm_memI 1654 (by decide +kernel) rfl
theorem mw_1655 : (Jvm.Cond.methodLink "LinkcourtModel" (318 : Nat) ({ cls := "LinkcourtModel", name := "isSign", desc := "(I)Z" } : Jvm.MethodName)) ∈ mm_ws := mm_memI 1655 (by decide +kernel) rfl
theorem mw_1656 : (Jvm.Cond.static ({ cls := "LinkcourtModel", name := "isSign", desc := "(I)Z" } : Jvm.MethodName)) ∈ mm_ws := mm_memI 1656 (by decide +kernel) rfl
theorem mw_1657 : (Jvm.Cond.code ({ cls := "LinkcourtModel", name := "isSign", desc := "(I)Z" } : Jvm.MethodName) prog_13_method_72_code (1 : Nat) (Option.some Jvm.ClassFile.FieldType.boolean)) ∈ mm_ws := mm_memI 1657 (by decide +kernel) rfl
theorem mw_1658 : (Jvm.Cond.methodLink "LinkcourtModel" (313 : Nat) ({ cls := "LinkcourtModel", name := "isTold", desc := "(I)Z" } : Jvm.MethodName)) ∈ mm_ws := mm_memI 1658 (by decide +kernel) rfl
theorem mw_1659 : (Jvm.Cond.static ({ cls := "LinkcourtModel", name := "isTold", desc := "(I)Z" } : Jvm.MethodName)) ∈ mm_ws := mm_memI 1659 (by decide +kernel) rfl
theorem mw_1660 : (Jvm.Cond.code ({ cls := "LinkcourtModel", name := "isTold", desc := "(I)Z" } : Jvm.MethodName) prog_13_method_71_code (1 : Nat) (Option.some Jvm.ClassFile.FieldType.boolean)) ∈ mm_ws := mm_memI 1660 (by decide +kernel) rfl
theorem mw_1669 : (Jvm.Cond.methodLink "LinkcourtModel" (324 : Nat) ({ cls := "LinkcourtModel", name := "faultOf", desc := "()I" } : Jvm.MethodName)) ∈ mm_ws := mm_memI 1669 (by decide +kernel) rfl
theorem mw_1671 : (Jvm.Cond.instanceMethod ({ cls := "LinkcourtModel", name := "faultOf", desc := "()I" } : Jvm.MethodName)) ∈ mm_ws := mm_memI 1671 (by decide +kernel) rfl
theorem mw_1672 : (Jvm.Cond.code ({ cls := "LinkcourtModel", name := "faultOf", desc := "()I" } : Jvm.MethodName) prog_13_method_75_code (5 : Nat) (Option.some Jvm.ClassFile.FieldType.int)) ∈ mm_ws := mm_memI 1672 (by decide +kernel) rfl
theorem mw_1678 : (Jvm.Cond.instanceMethod ({ cls := "LinkcourtModel", name := "fits", desc := "(II)J" } : Jvm.MethodName)) ∈ mm_ws := mm_memI 1678 (by decide +kernel) rfl
theorem mw_1679 : (Jvm.Cond.selects "LinkcourtModel" ({ cls := "LinkcourtModel", name := "fits", desc := "(II)J" } : Jvm.MethodName) ({ cls := "LinkcourtModel", name := "fits", desc := "(II)J" } : Jvm.MethodName)) ∈ mm_ws := mm_memI 1679 (by decide +kernel) rfl
theorem mw_1680 : (Jvm.Cond.code ({ cls := "LinkcourtModel", name := "fits", desc := "(II)J" } : Jvm.MethodName) prog_13_method_81_code (6 : Nat) (Option.some Jvm.ClassFile.FieldType.long)) ∈ mm_ws := mm_memI 1680 (by decide +kernel) rfl
theorem mw_1681 : (Jvm.Cond.methodLink "LinkcourtModel" (337 : Nat) ({ cls := "LinkcourtModel", name := "fitsCell", desc := "(III)Z" } : Jvm.MethodName)) ∈ mm_ws := mm_memI 1681 (by decide +kernel) rfl
theorem mw_1683 : (Jvm.Cond.instanceMethod ({ cls := "LinkcourtModel", name := "fitsCell", desc := "(III)Z" } : Jvm.MethodName)) ∈ mm_ws := mm_memI 1683 (by decide +kernel) rfl
theorem mw_1684 : (Jvm.Cond.code ({ cls := "LinkcourtModel", name := "fitsCell", desc := "(III)Z" } : Jvm.MethodName) prog_13_method_80_code (9 : Nat) (Option.some Jvm.ClassFile.FieldType.boolean)) ∈ mm_ws := mm_memI 1684 (by decide +kernel) rfl
theorem mw_1685 : (Jvm.Cond.methodLink "LinkcourtModel" (333 : Nat) ({ cls := "LinkcourtModel", name := "fitsAt", desc := "(IIII)Z" } : Jvm.MethodName)) ∈ mm_ws := mm_memI 1685 (by decide +kernel) rfl
theorem mw_1687 : (Jvm.Cond.instanceMethod ({ cls := "LinkcourtModel", name := "fitsAt", desc := "(IIII)Z" } : Jvm.MethodName)) ∈ mm_ws := mm_memI 1687 (by decide +kernel) rfl
theorem mw_1688 : (Jvm.Cond.code ({ cls := "LinkcourtModel", name := "fitsAt", desc := "(IIII)Z" } : Jvm.MethodName) prog_13_method_79_code (7 : Nat) (Option.some Jvm.ClassFile.FieldType.boolean)) ∈ mm_ws := mm_memI 1688 (by decide +kernel) rfl
theorem mw_1689 : (Jvm.Cond.methodLink "LinkcourtModel" (330 : Nat) ({ cls := "LinkcourtModel", name := "isAs", desc := "(III)Z" } : Jvm.MethodName)) ∈ mm_ws := mm_memI 1689 (by decide +kernel) rfl
theorem mw_1691 : (Jvm.Cond.instanceMethod ({ cls := "LinkcourtModel", name := "isAs", desc := "(III)Z" } : Jvm.MethodName)) ∈ mm_ws := mm_memI 1691 (by decide +kernel) rfl
theorem mw_1692 : (Jvm.Cond.code ({ cls := "LinkcourtModel", name := "isAs", desc := "(III)Z" } : Jvm.MethodName) prog_13_method_78_code (4 : Nat) (Option.some Jvm.ClassFile.FieldType.boolean)) ∈ mm_ws := mm_memI 1692 (by decide +kernel) rfl
theorem mw_1697 : (Jvm.Cond.methodLink "LinkcourtModel" (340 : Nat) ({ cls := "LinkcourtModel", name := "fits", desc := "(II)J" } : Jvm.MethodName)) ∈ mm_ws := mm_memI 1697 (by decide +kernel) rfl
theorem mw_1718 : (Jvm.Cond.methodLink "LinkcourtModel" (350 : Nat) ({ cls := "LinkcourtModel", name := "isPerson", desc := "(I)Z" } : Jvm.MethodName)) ∈ mm_ws := mm_memI 1718 (by decide +kernel) rfl
theorem mw_1720 : (Jvm.Cond.instanceMethod ({ cls := "LinkcourtModel", name := "isPerson", desc := "(I)Z" } : Jvm.MethodName)) ∈ mm_ws := mm_memI 1720 (by decide +kernel) rfl
theorem mw_1721 : (Jvm.Cond.code ({ cls := "LinkcourtModel", name := "isPerson", desc := "(I)Z" } : Jvm.MethodName) prog_13_method_87_code (2 : Nat) (Option.some Jvm.ClassFile.FieldType.boolean)) ∈ mm_ws := mm_memI 1721 (by decide +kernel) rfl
theorem mw_1722 : (Jvm.Cond.methodLink "LinkcourtModel" (353 : Nat) ({ cls := "LinkcourtModel", name := "down", desc := "(I)I" } : Jvm.MethodName)) ∈ mm_ws := mm_memI 1722 (by decide +kernel) rfl
theorem mw_1723 : (Jvm.Cond.static ({ cls := "LinkcourtModel", name := "down", desc := "(I)I" } : Jvm.MethodName)) ∈ mm_ws := mm_memI 1723 (by decide +kernel) rfl
theorem mw_1724 : (Jvm.Cond.code ({ cls := "LinkcourtModel", name := "down", desc := "(I)I" } : Jvm.MethodName) prog_13_method_88_code (1 : Nat) (Option.some Jvm.ClassFile.FieldType.int)) ∈ mm_ws := mm_memI 1724 (by decide +kernel) rfl
theorem mw_1725 : (Jvm.Cond.methodLink "LinkcourtModel" (356 : Nat) ({ cls := "LinkcourtModel", name := "climbs", desc := "(II)V" } : Jvm.MethodName)) ∈ mm_ws := mm_memI 1725 (by decide +kernel) rfl
theorem mw_1727 : (Jvm.Cond.instanceMethod ({ cls := "LinkcourtModel", name := "climbs", desc := "(II)V" } : Jvm.MethodName)) ∈ mm_ws := mm_memI 1727 (by decide +kernel) rfl
theorem mw_1728 : (Jvm.Cond.code ({ cls := "LinkcourtModel", name := "climbs", desc := "(II)V" } : Jvm.MethodName) prog_13_method_89_code (6 : Nat) (Option.none : Option Jvm.ClassFile.FieldType)) ∈ mm_ws := mm_memI 1728 (by decide +kernel) rfl
