/-! words of the tables, by their places (wip/p32/gen/gencode.py) -/
theorem mw_0 : (Jvm.Cond.selects "Linkcourt$Board" ⟨"Linkcourt$Board", "numberCells", "()V"⟩ ⟨"Linkcourt$Board", "numberCells", "()V"⟩) ∈ mm_ws := mm_memI 0 (by decide +kernel) rfl
theorem mw_1 : (Jvm.Cond.selects "Linkcourt$Board" ⟨"Linkcourt$Board", "meetNeighbours", "()V"⟩ ⟨"Linkcourt$Board", "meetNeighbours", "()V"⟩) ∈ mm_ws := mm_memI 1 (by decide +kernel) rfl
theorem mw_2 : (Jvm.Cond.selects "Linkcourt$Board" ⟨"Linkcourt$Board", "at", "(II)I"⟩ ⟨"Linkcourt$Board", "at", "(II)I"⟩) ∈ mm_ws := mm_memI 2 (by decide +kernel) rfl
theorem mw_3 : (Jvm.Cond.selects "Linkcourt$Board" ⟨"Linkcourt$Board", "findSides", "()V"⟩ ⟨"Linkcourt$Board", "findSides", "()V"⟩) ∈ mm_ws := mm_memI 3 (by decide +kernel) rfl
theorem mw_4 : (Jvm.Cond.selects "Linkcourt$Board" ⟨"Linkcourt$Board", "isAt", "(II)Z"⟩ ⟨"Linkcourt$Board", "isAt", "(II)Z"⟩) ∈ mm_ws := mm_memI 4 (by decide +kernel) rfl
theorem mw_5 : (Jvm.Cond.selects "Linkcourt$Play" ⟨"Linkcourt$Play", "settle", "()V"⟩ ⟨"Linkcourt$Play", "settle", "()V"⟩) ∈ mm_ws := mm_memI 5 (by decide +kernel) rfl
theorem mw_6 : (Jvm.Cond.selects "Linkcourt$Play" ⟨"Linkcourt$Play", "firstKept", "(I)I"⟩ ⟨"Linkcourt$Play", "firstKept", "(I)I"⟩) ∈ mm_ws := mm_memI 6 (by decide +kernel) rfl
theorem mw_7 : (Jvm.Cond.selects "Linkcourt$Board" ⟨"Linkcourt$Board", "isAtAllSides", "(J)Z"⟩ ⟨"Linkcourt$Board", "isAtAllSides", "(J)Z"⟩) ∈ mm_ws := mm_memI 7 (by decide +kernel) rfl
theorem mw_8 : (Jvm.Cond.selects "Linkcourt$Board" ⟨"Linkcourt$Board", "leads", "(IIJ)Z"⟩ ⟨"Linkcourt$Board", "leads", "(IIJ)Z"⟩) ∈ mm_ws := mm_memI 8 (by decide +kernel) rfl
theorem mw_9 : (Jvm.Cond.selects "Linkcourt" ⟨"Linkcourt", "winner", "()I"⟩ ⟨"Linkcourt", "winner", "()I"⟩) ∈ mm_ws := mm_memI 9 (by decide +kernel) rfl
theorem mw_11 : (Jvm.Cond.selects "Linkcourt$Patterns" ⟨"Linkcourt$Patterns", "surroundings", "(IJJ)I"⟩ ⟨"Linkcourt$Patterns", "surroundings", "(IJJ)I"⟩) ∈ mm_ws := mm_memI 11 (by decide +kernel) rfl
theorem mw_12 : (Jvm.Cond.selects "Linkcourt$Patterns" ⟨"Linkcourt$Patterns", "rowsFit", "(II)Z"⟩ ⟨"Linkcourt$Patterns", "rowsFit", "(II)Z"⟩) ∈ mm_ws := mm_memI 12 (by decide +kernel) rfl
theorem mw_13 : (Jvm.Cond.selects "Linkcourt" ⟨"Linkcourt", "needFewGaps", "()V"⟩ ⟨"Linkcourt", "needFewGaps", "()V"⟩) ∈ mm_ws := mm_memI 13 (by decide +kernel) rfl
theorem mw_14 : (Jvm.Cond.selects "Linkcourt$BestPlay" ⟨"Linkcourt$BestPlay", "take", "(JJI)V"⟩ ⟨"Linkcourt$BestPlay", "take", "(JJI)V"⟩) ∈ mm_ws := mm_memI 14 (by decide +kernel) rfl
theorem mw_15 : (Jvm.Cond.selects "Linkcourt$BestPlay" ⟨"Linkcourt$BestPlay", "joinedAlready", "()I"⟩ ⟨"Linkcourt$BestPlay", "joinedAlready", "()I"⟩) ∈ mm_ws := mm_memI 15 (by decide +kernel) rfl
theorem mw_16 : (Jvm.Cond.selects "Linkcourt$BestPlay" ⟨"Linkcourt$BestPlay", "joins", "(II)Z"⟩ ⟨"Linkcourt$BestPlay", "joins", "(II)Z"⟩) ∈ mm_ws := mm_memI 16 (by decide +kernel) rfl
theorem mw_17 : (Jvm.Cond.selects "Linkcourt$BestPlay" ⟨"Linkcourt$BestPlay", "score", "(IIII)I"⟩ ⟨"Linkcourt$BestPlay", "score", "(IIII)I"⟩) ∈ mm_ws := mm_memI 17 (by decide +kernel) rfl
theorem mw_18 : (Jvm.Cond.selects "Linkcourt$BestPlay" ⟨"Linkcourt$BestPlay", "scoreBehind", "(IIII)I"⟩ ⟨"Linkcourt$BestPlay", "scoreBehind", "(IIII)I"⟩) ∈ mm_ws := mm_memI 18 (by decide +kernel) rfl
theorem mw_19 : (Jvm.Cond.selects "Linkcourt" ⟨"Linkcourt", "needLink", "(III)V"⟩ ⟨"Linkcourt", "needLink", "(III)V"⟩) ∈ mm_ws := mm_memI 19 (by decide +kernel) rfl
theorem mw_20 : (Jvm.Cond.selects "Linkcourt" ⟨"Linkcourt", "isEndOf", "(II)Z"⟩ ⟨"Linkcourt", "isEndOf", "(II)Z"⟩) ∈ mm_ws := mm_memI 20 (by decide +kernel) rfl
theorem mw_21 : (Jvm.Cond.selects "Linkcourt$Links" ⟨"Linkcourt$Links", "holds", "(III)Z"⟩ ⟨"Linkcourt$Links", "holds", "(III)Z"⟩) ∈ mm_ws := mm_memI 21 (by decide +kernel) rfl
theorem mw_22 : (Jvm.Cond.selects "Linkcourt$Links" ⟨"Linkcourt$Links", "ties", "(I)Z"⟩ ⟨"Linkcourt$Links", "ties", "(I)Z"⟩) ∈ mm_ws := mm_memI 22 (by decide +kernel) rfl
theorem mw_23 : (Jvm.Cond.selects "Linkcourt$Links" ⟨"Linkcourt$Links", "cellsOf", "(I)J"⟩ ⟨"Linkcourt$Links", "cellsOf", "(I)J"⟩) ∈ mm_ws := mm_memI 23 (by decide +kernel) rfl
theorem mw_24 : (Jvm.Cond.selects "Linkcourt$Links" ⟨"Linkcourt$Links", "hasAnswers", "(III)Z"⟩ ⟨"Linkcourt$Links", "hasAnswers", "(III)Z"⟩) ∈ mm_ws := mm_memI 24 (by decide +kernel) rfl
theorem mw_25 : (Jvm.Cond.selects "Linkcourt$Links" ⟨"Linkcourt$Links", "hasAnswer", "(III)Z"⟩ ⟨"Linkcourt$Links", "hasAnswer", "(III)Z"⟩) ∈ mm_ws := mm_memI 25 (by decide +kernel) rfl
theorem mw_26 : (Jvm.Cond.selects "Linkcourt$Ways" ⟨"Linkcourt$Ways", "fewestToThree", "(JJ)I"⟩ ⟨"Linkcourt$Ways", "fewestToThree", "(JJ)I"⟩) ∈ mm_ws := mm_memI 26 (by decide +kernel) rfl
theorem mw_27 : (Jvm.Cond.selects "Linkcourt$Ways" ⟨"Linkcourt$Ways", "measure", "(IJJJ)V"⟩ ⟨"Linkcourt$Ways", "measure", "(IJJJ)V"⟩) ∈ mm_ws := mm_memI 27 (by decide +kernel) rfl
theorem mw_28 : (Jvm.Cond.selects "Linkcourt$Ways" ⟨"Linkcourt$Ways", "note", "(IJI)V"⟩ ⟨"Linkcourt$Ways", "note", "(IJI)V"⟩) ∈ mm_ws := mm_memI 28 (by decide +kernel) rfl
theorem mw_29 : (Jvm.Cond.selects "Linkcourt$Ways" ⟨"Linkcourt$Ways", "beside", "(J)J"⟩ ⟨"Linkcourt$Ways", "beside", "(J)J"⟩) ∈ mm_ws := mm_memI 29 (by decide +kernel) rfl
theorem mw_30 : (Jvm.Cond.selects "Linkcourt$Ways" ⟨"Linkcourt$Ways", "cost", "(II)I"⟩ ⟨"Linkcourt$Ways", "cost", "(II)I"⟩) ∈ mm_ws := mm_memI 30 (by decide +kernel) rfl
theorem mw_31 : (Jvm.Cond.selects "Linkcourt$Ways" ⟨"Linkcourt$Ways", "fewestToTwo", "(IIJJ)I"⟩ ⟨"Linkcourt$Ways", "fewestToTwo", "(IIJJ)I"⟩) ∈ mm_ws := mm_memI 31 (by decide +kernel) rfl
theorem mw_32 : (Jvm.Cond.selects "Linkcourt" ⟨"Linkcourt", "playedOutFrom", "(I)J"⟩ ⟨"Linkcourt", "playedOutFrom", "(I)J"⟩) ∈ mm_ws := mm_memI 32 (by decide +kernel) rfl
theorem mw_33 : (Jvm.Cond.selects "Linkcourt$PlayingOut" ⟨"Linkcourt$PlayingOut", "saving", "(IJJ)I"⟩ ⟨"Linkcourt$PlayingOut", "saving", "(IJJ)I"⟩) ∈ mm_ws := mm_memI 33 (by decide +kernel) rfl
theorem mw_34 : (Jvm.Cond.selects "Linkcourt$PlayingOut" ⟨"Linkcourt$PlayingOut", "between", "(IIJ)J"⟩ ⟨"Linkcourt$PlayingOut", "between", "(IIJ)J"⟩) ∈ mm_ws := mm_memI 34 (by decide +kernel) rfl
theorem mw_35 : (Jvm.Cond.selects "Linkcourt$PlayingOut" ⟨"Linkcourt$PlayingOut", "drawnOf", "(J)I"⟩ ⟨"Linkcourt$PlayingOut", "drawnOf", "(J)I"⟩) ∈ mm_ws := mm_memI 35 (by decide +kernel) rfl
theorem mw_36 : (Jvm.Cond.selects "Linkcourt$PlayingOut" ⟨"Linkcourt$PlayingOut", "draw", "(I)I"⟩ ⟨"Linkcourt$PlayingOut", "draw", "(I)I"⟩) ∈ mm_ws := mm_memI 36 (by decide +kernel) rfl
theorem mw_37 : (Jvm.Cond.selects "Linkcourt$Patterns" ⟨"Linkcourt$Patterns", "translate", "(I)V"⟩ ⟨"Linkcourt$Patterns", "translate", "(I)V"⟩) ∈ mm_ws := mm_memI 37 (by decide +kernel) rfl
theorem mw_38 : (Jvm.Cond.selects "Linkcourt$Patterns" ⟨"Linkcourt$Patterns", "character", "(II)C"⟩ ⟨"Linkcourt$Patterns", "character", "(II)C"⟩) ∈ mm_ws := mm_memI 38 (by decide +kernel) rfl
theorem mw_39 : (Jvm.Cond.selects "Linkcourt$Ladder" ⟨"Linkcourt$Ladder", "climb", "(II)V"⟩ ⟨"Linkcourt$Ladder", "climb", "(II)V"⟩) ∈ mm_ws := mm_memI 39 (by decide +kernel) rfl
theorem mw_40 : (Jvm.Cond.selects "Linkcourt$Patterns" ⟨"Linkcourt$Patterns", "textFits", "(IIJJ)Z"⟩ ⟨"Linkcourt$Patterns", "textFits", "(IIJJ)Z"⟩) ∈ mm_ws := mm_memI 40 (by decide +kernel) rfl
theorem mw_41 : (Jvm.Cond.selects "Linkcourt$Patterns" ⟨"Linkcourt$Patterns", "textFitsTurned", "(IIIJJ)Z"⟩ ⟨"Linkcourt$Patterns", "textFitsTurned", "(IIIJJ)Z"⟩) ∈ mm_ws := mm_memI 41 (by decide +kernel) rfl
theorem mw_42 : (Jvm.Cond.selects "Linkcourt$Patterns" ⟨"Linkcourt$Patterns", "signOf", "(JI)C"⟩ ⟨"Linkcourt$Patterns", "signOf", "(JI)C"⟩) ∈ mm_ws := mm_memI 42 (by decide +kernel) rfl
theorem mw_44 : (Jvm.Cond.initialized "Linkcourt") ∈ mm_ws := mm_memI 44 (by decide +kernel) rfl
theorem mw_45 : (Jvm.Cond.initialized "Linkcourt$Board") ∈ mm_ws := mm_memI 45 (by decide +kernel) rfl
theorem mw_46 : (Jvm.Cond.initialized "Linkcourt$Play") ∈ mm_ws := mm_memI 46 (by decide +kernel) rfl
theorem mw_47 : (Jvm.Cond.initialized "java/lang/Long") ∈ mm_ws := mm_memI 47 (by decide +kernel) rfl
theorem mw_48 : (Jvm.Cond.initialized "Linkcourt$BestPlay") ∈ mm_ws := mm_memI 48 (by decide +kernel) rfl
theorem mw_49 : (Jvm.Cond.initialized "Linkcourt$Gaps") ∈ mm_ws := mm_memI 49 (by decide +kernel) rfl
theorem mw_50 : (Jvm.Cond.initialized "Linkcourt$Links") ∈ mm_ws := mm_memI 50 (by decide +kernel) rfl
theorem mw_51 : (Jvm.Cond.initialized "Linkcourt$Ways") ∈ mm_ws := mm_memI 51 (by decide +kernel) rfl
theorem mw_52 : (Jvm.Cond.initialized "Linkcourt$PlayingOut") ∈ mm_ws := mm_memI 52 (by decide +kernel) rfl
theorem mw_53 : (Jvm.Cond.initialized "Linkcourt$Patterns") ∈ mm_ws := mm_memI 53 (by decide +kernel) rfl
theorem mw_54 : (Jvm.Cond.initialized "Linkcourt$Times") ∈ mm_ws := mm_memI 54 (by decide +kernel) rfl
theorem mw_55 : (Jvm.Cond.initialized "Linkcourt$Ladder") ∈ mm_ws := mm_memI 55 (by decide +kernel) rfl
theorem mw_59 : (Jvm.Cond.initialized "java/lang/IllegalArgumentException") ∈ mm_ws := mm_memI 59 (by decide +kernel) rfl
theorem mw_60 : (Jvm.Cond.initialized "java/lang/IndexOutOfBoundsException") ∈ mm_ws := mm_memI 60 (by decide +kernel) rfl
theorem mw_61 : (Jvm.Cond.initialized "java/util/Arrays") ∈ mm_ws := mm_memI 61 (by decide +kernel) rfl
theorem mw_62 : (Jvm.Cond.initialized "java/lang/IllegalStateException") ∈ mm_ws := mm_memI 62 (by decide +kernel) rfl
theorem mw_63 : (Jvm.Cond.initialized "java/lang/Math") ∈ mm_ws := mm_memI 63 (by decide +kernel) rfl
theorem mw_64 : (Jvm.Cond.initialized "java/lang/Integer") ∈ mm_ws := mm_memI 64 (by decide +kernel) rfl
theorem mw_70 : (Jvm.Cond.methodLink "Linkcourt" (1 : Nat) ({ cls := "java/lang/Object", name := "<init>", desc := "()V" } : Jvm.MethodName)) ∈ mm_ws := mm_memI 70 (by decide +kernel) rfl
theorem mw_71 : (Jvm.Cond.instanceMethod ({ cls := "java/lang/Object", name := "<init>", desc := "()V" } : Jvm.MethodName)) ∈ mm_ws := mm_memI 71 (by decide +kernel) rfl
theorem mw_72 : (Jvm.Cond.code ({ cls := "java/lang/Object", name := "<init>", desc := "()V" } : Jvm.MethodName) object_method_1_code (1 : Nat) (Option.none : Option Jvm.ClassFile.FieldType)) ∈ mm_ws := mm_memI 72 (by decide +kernel) rfl
theorem mw_73 : (Jvm.Cond.classLink "Linkcourt" (7 : Nat) "Linkcourt$Board") ∈ mm_ws := mm_memI 73 (by decide +kernel) rfl
theorem mw_74 : (Jvm.Cond.instantiable "Linkcourt$Board" (11 : Nat)) ∈ mm_ws := mm_memI 74 (by decide +kernel) rfl
theorem mw_76 : (Jvm.Cond.instanceMethod ({ cls := "Linkcourt$Board", name := "<init>", desc := "()V" } : Jvm.MethodName)) ∈ mm_ws := mm_memI 76 (by decide +kernel) rfl
theorem mw_77 : (Jvm.Cond.code ({ cls := "Linkcourt$Board", name := "<init>", desc := "()V" } : Jvm.MethodName) prog_3_method_1_code (1 : Nat) (Option.none : Option Jvm.ClassFile.FieldType)) ∈ mm_ws := mm_memI 77 (by decide +kernel) rfl
theorem mw_78 : (Jvm.Cond.methodLink "Linkcourt$Board" (3 : Nat) ({ cls := "java/lang/Object", name := "<init>", desc := "()V" } : Jvm.MethodName)) ∈ mm_ws := mm_memI 78 (by decide +kernel) rfl
theorem mw_79 : (Jvm.Cond.fieldLink "Linkcourt$Board" (9 : Nat) "Linkcourt$Board" "rowOf" "[I") ∈ mm_ws := mm_memI 79 (by decide +kernel) rfl
theorem mw_80 : (Jvm.Cond.fieldLink "Linkcourt$Board" (15 : Nat) "Linkcourt$Board" "columnOf" "[I") ∈ mm_ws := mm_memI 80 (by decide +kernel) rfl
theorem mw_81 : (Jvm.Cond.fieldLink "Linkcourt$Board" (18 : Nat) "Linkcourt$Board" "nextOf" "[I") ∈ mm_ws := mm_memI 81 (by decide +kernel) rfl
theorem mw_82 : (Jvm.Cond.fieldLink "Linkcourt$Board" (21 : Nat) "Linkcourt$Board" "aroundOf" "[J") ∈ mm_ws := mm_memI 82 (by decide +kernel) rfl
theorem mw_83 : (Jvm.Cond.fieldLink "Linkcourt$Board" (25 : Nat) "Linkcourt$Board" "sideOf" "[J") ∈ mm_ws := mm_memI 83 (by decide +kernel) rfl
theorem mw_84 : (Jvm.Cond.fieldLink "Linkcourt$Board" (32 : Nat) "Linkcourt$Board" "rows" "I") ∈ mm_ws := mm_memI 84 (by decide +kernel) rfl
theorem mw_85 : (Jvm.Cond.fieldLink "Linkcourt$Board" (35 : Nat) "Linkcourt$Board" "columns" "I") ∈ mm_ws := mm_memI 85 (by decide +kernel) rfl
theorem mw_86 : (Jvm.Cond.fieldLink "Linkcourt$Board" (28 : Nat) "Linkcourt$Board" "kind" "I") ∈ mm_ws := mm_memI 86 (by decide +kernel) rfl
theorem mw_87 : (Jvm.Cond.fieldLink "Linkcourt$Ways" (19 : Nat) "Linkcourt$Board" "kind" "I") ∈ mm_ws := mm_memI 87 (by decide +kernel) rfl
theorem mw_88 : (Jvm.Cond.fieldLink "Linkcourt" (262 : Nat) "Linkcourt$Board" "kind" "I") ∈ mm_ws := mm_memI 88 (by decide +kernel) rfl
theorem mw_89 : (Jvm.Cond.fieldLink "Linkcourt$Board" (44 : Nat) "Linkcourt$Board" "cells" "I") ∈ mm_ws := mm_memI 89 (by decide +kernel) rfl
theorem mw_90 : (Jvm.Cond.fieldLink "Linkcourt" (102 : Nat) "Linkcourt$Board" "cells" "I") ∈ mm_ws := mm_memI 90 (by decide +kernel) rfl
theorem mw_91 : (Jvm.Cond.fieldLink "Linkcourt$Ways" (41 : Nat) "Linkcourt$Board" "cells" "I") ∈ mm_ws := mm_memI 91 (by decide +kernel) rfl
theorem mw_92 : (Jvm.Cond.fieldLink "Linkcourt$Patterns" (62 : Nat) "Linkcourt$Board" "cells" "I") ∈ mm_ws := mm_memI 92 (by decide +kernel) rfl
theorem mw_93 : (Jvm.Cond.fieldLink "Linkcourt$Board" (38 : Nat) "Linkcourt$Board" "sides" "I") ∈ mm_ws := mm_memI 93 (by decide +kernel) rfl
theorem mw_94 : (Jvm.Cond.fieldLink "Linkcourt$PlayingOut" (19 : Nat) "Linkcourt$Board" "all" "J") ∈ mm_ws := mm_memI 94 (by decide +kernel) rfl
theorem mw_95 : (Jvm.Cond.fieldLink "Linkcourt$Board" (47 : Nat) "Linkcourt$Board" "all" "J") ∈ mm_ws := mm_memI 95 (by decide +kernel) rfl
theorem mw_96 : (Jvm.Cond.fieldLink "Linkcourt$Ways" (61 : Nat) "Linkcourt$Board" "all" "J") ∈ mm_ws := mm_memI 96 (by decide +kernel) rfl
theorem mw_97 : (Jvm.Cond.fieldLink "Linkcourt$BestPlay" (83 : Nat) "Linkcourt$Board" "all" "J") ∈ mm_ws := mm_memI 97 (by decide +kernel) rfl
theorem mw_98 : (Jvm.Cond.fieldLink "Linkcourt$Play" (61 : Nat) "Linkcourt$Board" "all" "J") ∈ mm_ws := mm_memI 98 (by decide +kernel) rfl
theorem mw_122 : (Jvm.Cond.arrayClass Jvm.ClassFile.FieldType.int) ∈ mm_ws := mm_memI 122 (by decide +kernel) rfl
theorem mw_123 : (Jvm.Cond.arrayClass Jvm.ClassFile.FieldType.long) ∈ mm_ws := mm_memI 123 (by decide +kernel) rfl
theorem mw_124 : (Jvm.Cond.methodLink "Linkcourt" (12 : Nat) ({ cls := "Linkcourt$Board", name := "lay", desc := "(III)V" } : Jvm.MethodName)) ∈ mm_ws := mm_memI 124 (by decide +kernel) rfl
theorem mw_125 : (Jvm.Cond.instanceMethod ({ cls := "Linkcourt$Board", name := "lay", desc := "(III)V" } : Jvm.MethodName)) ∈ mm_ws := mm_memI 125 (by decide +kernel) rfl
theorem mw_126 : (Jvm.Cond.selects "Linkcourt$Board" ({ cls := "Linkcourt$Board", name := "lay", desc := "(III)V" } : Jvm.MethodName) ({ cls := "Linkcourt$Board", name := "lay", desc := "(III)V" } : Jvm.MethodName)) ∈ mm_ws := mm_memI 126 (by decide +kernel) rfl
theorem mw_127 : (Jvm.Cond.code ({ cls := "Linkcourt$Board", name := "lay", desc := "(III)V" } : Jvm.MethodName) prog_3_method_2_code (4 : Nat) (Option.none : Option Jvm.ClassFile.FieldType)) ∈ mm_ws := mm_memI 127 (by decide +kernel) rfl
theorem mw_128 : (Jvm.Cond.methodLink "Linkcourt$Board" (41 : Nat) ({ cls := "Linkcourt$Board", name := "numberCells", desc := "()V" } : Jvm.MethodName)) ∈ mm_ws := mm_memI 128 (by decide +kernel) rfl
theorem mw_130 : (Jvm.Cond.instanceMethod ({ cls := "Linkcourt$Board", name := "numberCells", desc := "()V" } : Jvm.MethodName)) ∈ mm_ws := mm_memI 130 (by decide +kernel) rfl
theorem mw_131 : (Jvm.Cond.code ({ cls := "Linkcourt$Board", name := "numberCells", desc := "()V" } : Jvm.MethodName) prog_3_method_3_code (5 : Nat) (Option.none : Option Jvm.ClassFile.FieldType)) ∈ mm_ws := mm_memI 131 (by decide +kernel) rfl
theorem mw_132 : (Jvm.Cond.methodLink "Linkcourt$Board" (51 : Nat) ({ cls := "Linkcourt$Board", name := "meetNeighbours", desc := "()V" } : Jvm.MethodName)) ∈ mm_ws := mm_memI 132 (by decide +kernel) rfl
theorem mw_134 : (Jvm.Cond.instanceMethod ({ cls := "Linkcourt$Board", name := "meetNeighbours", desc := "()V" } : Jvm.MethodName)) ∈ mm_ws := mm_memI 134 (by decide +kernel) rfl
theorem mw_135 : (Jvm.Cond.code ({ cls := "Linkcourt$Board", name := "meetNeighbours", desc := "()V" } : Jvm.MethodName) prog_3_method_4_code (7 : Nat) (Option.none : Option Jvm.ClassFile.FieldType)) ∈ mm_ws := mm_memI 135 (by decide +kernel) rfl
theorem mw_136 : (Jvm.Cond.fieldLink "Linkcourt$Board" (57 : Nat) "Linkcourt$Board" "TRIANGLE_COLUMN_STEPS" "[I") ∈ mm_ws := mm_memI 136 (by decide +kernel) rfl
theorem mw_138 : (Jvm.Cond.fieldLink "Linkcourt$Board" (60 : Nat) "Linkcourt$Board" "COLUMN_STEPS" "[I") ∈ mm_ws := mm_memI 138 (by decide +kernel) rfl
theorem mw_140 : (Jvm.Cond.fieldLink "Linkcourt$Board" (63 : Nat) "Linkcourt$Board" "ROW_STEPS" "[I") ∈ mm_ws := mm_memI 140 (by decide +kernel) rfl
theorem mw_142 : (Jvm.Cond.methodLink "Linkcourt$Board" (66 : Nat) ({ cls := "Linkcourt$Board", name := "at", desc := "(II)I" } : Jvm.MethodName)) ∈ mm_ws := mm_memI 142 (by decide +kernel) rfl
theorem mw_144 : (Jvm.Cond.instanceMethod ({ cls := "Linkcourt$Board", name := "at", desc := "(II)I" } : Jvm.MethodName)) ∈ mm_ws := mm_memI 144 (by decide +kernel) rfl
theorem mw_145 : (Jvm.Cond.code ({ cls := "Linkcourt$Board", name := "at", desc := "(II)I" } : Jvm.MethodName) prog_3_method_6_code (3 : Nat) (Option.some Jvm.ClassFile.FieldType.int)) ∈ mm_ws := mm_memI 145 (by decide +kernel) rfl
theorem mw_146 : (Jvm.Cond.methodLink "Linkcourt$Board" (54 : Nat) ({ cls := "Linkcourt$Board", name := "findSides", desc := "()V" } : Jvm.MethodName)) ∈ mm_ws := mm_memI 146 (by decide +kernel) rfl
theorem mw_148 : (Jvm.Cond.instanceMethod ({ cls := "Linkcourt$Board", name := "findSides", desc := "()V" } : Jvm.MethodName)) ∈ mm_ws := mm_memI 148 (by decide +kernel) rfl
theorem mw_149 : (Jvm.Cond.code ({ cls := "Linkcourt$Board", name := "findSides", desc := "()V" } : Jvm.MethodName) prog_3_method_5_code (5 : Nat) (Option.none : Option Jvm.ClassFile.FieldType)) ∈ mm_ws := mm_memI 149 (by decide +kernel) rfl
theorem mw_150 : (Jvm.Cond.methodLink "Linkcourt$Board" (70 : Nat) ({ cls := "Linkcourt$Board", name := "isAt", desc := "(II)Z" } : Jvm.MethodName)) ∈ mm_ws := mm_memI 150 (by decide +kernel) rfl
theorem mw_152 : (Jvm.Cond.instanceMethod ({ cls := "Linkcourt$Board", name := "isAt", desc := "(II)Z" } : Jvm.MethodName)) ∈ mm_ws := mm_memI 152 (by decide +kernel) rfl
theorem mw_153 : (Jvm.Cond.code ({ cls := "Linkcourt$Board", name := "isAt", desc := "(II)Z" } : Jvm.MethodName) prog_3_method_7_code (6 : Nat) (Option.some Jvm.ClassFile.FieldType.boolean)) ∈ mm_ws := mm_memI 153 (by decide +kernel) rfl
theorem mw_154 : (Jvm.Cond.methodLink "Linkcourt$Board" (74 : Nat) ({ cls := "Linkcourt$Board", name := "row", desc := "(I)I" } : Jvm.MethodName)) ∈ mm_ws := mm_memI 154 (by decide +kernel) rfl
theorem mw_155 : (Jvm.Cond.instanceMethod ({ cls := "Linkcourt$Board", name := "row", desc := "(I)I" } : Jvm.MethodName)) ∈ mm_ws := mm_memI 155 (by decide +kernel) rfl
theorem mw_156 : (Jvm.Cond.selects "Linkcourt$Board" ({ cls := "Linkcourt$Board", name := "row", desc := "(I)I" } : Jvm.MethodName) ({ cls := "Linkcourt$Board", name := "row", desc := "(I)I" } : Jvm.MethodName)) ∈ mm_ws := mm_memI 156 (by decide +kernel) rfl
theorem mw_157 : (Jvm.Cond.code ({ cls := "Linkcourt$Board", name := "row", desc := "(I)I" } : Jvm.MethodName) prog_3_method_10_code (2 : Nat) (Option.some Jvm.ClassFile.FieldType.int)) ∈ mm_ws := mm_memI 157 (by decide +kernel) rfl
theorem mw_158 : (Jvm.Cond.methodLink "Linkcourt$Board" (78 : Nat) ({ cls := "Linkcourt$Board", name := "column", desc := "(I)I" } : Jvm.MethodName)) ∈ mm_ws := mm_memI 158 (by decide +kernel) rfl
theorem mw_159 : (Jvm.Cond.instanceMethod ({ cls := "Linkcourt$Board", name := "column", desc := "(I)I" } : Jvm.MethodName)) ∈ mm_ws := mm_memI 159 (by decide +kernel) rfl
theorem mw_160 : (Jvm.Cond.selects "Linkcourt$Board" ({ cls := "Linkcourt$Board", name := "column", desc := "(I)I" } : Jvm.MethodName) ({ cls := "Linkcourt$Board", name := "column", desc := "(I)I" } : Jvm.MethodName)) ∈ mm_ws := mm_memI 160 (by decide +kernel) rfl
theorem mw_161 : (Jvm.Cond.code ({ cls := "Linkcourt$Board", name := "column", desc := "(I)I" } : Jvm.MethodName) prog_3_method_11_code (2 : Nat) (Option.some Jvm.ClassFile.FieldType.int)) ∈ mm_ws := mm_memI 161 (by decide +kernel) rfl
theorem mw_162 : (Jvm.Cond.classLink "Linkcourt" (16 : Nat) "Linkcourt$Play") ∈ mm_ws := mm_memI 162 (by decide +kernel) rfl
theorem mw_163 : (Jvm.Cond.instantiable "Linkcourt$Play" (7 : Nat)) ∈ mm_ws := mm_memI 163 (by decide +kernel) rfl
theorem mw_164 : (Jvm.Cond.methodLink "Linkcourt" (18 : Nat) ({ cls := "Linkcourt$Play", name := "<init>", desc := "(LLinkcourt$Board;)V" } : Jvm.MethodName)) ∈ mm_ws := mm_memI 164 (by decide +kernel) rfl
theorem mw_165 : (Jvm.Cond.instanceMethod ({ cls := "Linkcourt$Play", name := "<init>", desc := "(LLinkcourt$Board;)V" } : Jvm.MethodName)) ∈ mm_ws := mm_memI 165 (by decide +kernel) rfl
theorem mw_166 : (Jvm.Cond.code ({ cls := "Linkcourt$Play", name := "<init>", desc := "(LLinkcourt$Board;)V" } : Jvm.MethodName) prog_8_method_1_code (2 : Nat) (Option.none : Option Jvm.ClassFile.FieldType)) ∈ mm_ws := mm_memI 166 (by decide +kernel) rfl
theorem mw_167 : (Jvm.Cond.methodLink "Linkcourt$Play" (3 : Nat) ({ cls := "java/lang/Object", name := "<init>", desc := "()V" } : Jvm.MethodName)) ∈ mm_ws := mm_memI 167 (by decide +kernel) rfl
theorem mw_168 : (Jvm.Cond.fieldLink "Linkcourt$Play" (19 : Nat) "Linkcourt$Play" "board" "LLinkcourt$Board;") ∈ mm_ws := mm_memI 168 (by decide +kernel) rfl
theorem mw_169 : (Jvm.Cond.fieldLink "Linkcourt$Play" (9 : Nat) "Linkcourt$Play" "log" "[I") ∈ mm_ws := mm_memI 169 (by decide +kernel) rfl
theorem mw_170 : (Jvm.Cond.fieldLink "Linkcourt$Play" (23 : Nat) "Linkcourt$Play" "made" "I") ∈ mm_ws := mm_memI 170 (by decide +kernel) rfl
theorem mw_171 : (Jvm.Cond.fieldLink "Linkcourt" (144 : Nat) "Linkcourt$Play" "made" "I") ∈ mm_ws := mm_memI 171 (by decide +kernel) rfl
theorem mw_172 : (Jvm.Cond.fieldLink "Linkcourt$Play" (26 : Nat) "Linkcourt$Play" "swapped" "Z") ∈ mm_ws := mm_memI 172 (by decide +kernel) rfl
theorem mw_173 : (Jvm.Cond.fieldLink "Linkcourt" (246 : Nat) "Linkcourt$Play" "swapped" "Z") ∈ mm_ws := mm_memI 173 (by decide +kernel) rfl
theorem mw_174 : (Jvm.Cond.fieldLink "Linkcourt$Play" (47 : Nat) "Linkcourt$Play" "stones0" "J") ∈ mm_ws := mm_memI 174 (by decide +kernel) rfl
theorem mw_175 : (Jvm.Cond.fieldLink "Linkcourt" (169 : Nat) "Linkcourt$Play" "stones0" "J") ∈ mm_ws := mm_memI 175 (by decide +kernel) rfl
theorem mw_176 : (Jvm.Cond.fieldLink "Linkcourt$Play" (51 : Nat) "Linkcourt$Play" "stones1" "J") ∈ mm_ws := mm_memI 176 (by decide +kernel) rfl
theorem mw_177 : (Jvm.Cond.fieldLink "Linkcourt" (176 : Nat) "Linkcourt$Play" "stones1" "J") ∈ mm_ws := mm_memI 177 (by decide +kernel) rfl
theorem mw_178 : (Jvm.Cond.fieldLink "Linkcourt$Play" (15 : Nat) "Linkcourt$Play" "joined" "I") ∈ mm_ws := mm_memI 178 (by decide +kernel) rfl
theorem mw_179 : (Jvm.Cond.fieldLink "Linkcourt" (166 : Nat) "Linkcourt$Play" "joined" "I") ∈ mm_ws := mm_memI 179 (by decide +kernel) rfl
theorem mw_195 : (Jvm.Cond.methodLink "Linkcourt" (21 : Nat) ({ cls := "Linkcourt$Play", name := "begin", desc := "()V" } : Jvm.MethodName)) ∈ mm_ws := mm_memI 195 (by decide +kernel) rfl
theorem mw_196 : (Jvm.Cond.instanceMethod ({ cls := "Linkcourt$Play", name := "begin", desc := "()V" } : Jvm.MethodName)) ∈ mm_ws := mm_memI 196 (by decide +kernel) rfl
theorem mw_197 : (Jvm.Cond.selects "Linkcourt$Play" ({ cls := "Linkcourt$Play", name := "begin", desc := "()V" } : Jvm.MethodName) ({ cls := "Linkcourt$Play", name := "begin", desc := "()V" } : Jvm.MethodName)) ∈ mm_ws := mm_memI 197 (by decide +kernel) rfl
theorem mw_198 : (Jvm.Cond.code ({ cls := "Linkcourt$Play", name := "begin", desc := "()V" } : Jvm.MethodName) prog_8_method_2_code (1 : Nat) (Option.none : Option Jvm.ClassFile.FieldType)) ∈ mm_ws := mm_memI 198 (by decide +kernel) rfl
theorem mw_199 : (Jvm.Cond.methodLink "Linkcourt$Play" (30 : Nat) ({ cls := "Linkcourt$Play", name := "settle", desc := "()V" } : Jvm.MethodName)) ∈ mm_ws := mm_memI 199 (by decide +kernel) rfl
theorem mw_201 : (Jvm.Cond.instanceMethod ({ cls := "Linkcourt$Play", name := "settle", desc := "()V" } : Jvm.MethodName)) ∈ mm_ws := mm_memI 201 (by decide +kernel) rfl
theorem mw_202 : (Jvm.Cond.code ({ cls := "Linkcourt$Play", name := "settle", desc := "()V" } : Jvm.MethodName) prog_8_method_6_code (1 : Nat) (Option.none : Option Jvm.ClassFile.FieldType)) ∈ mm_ws := mm_memI 202 (by decide +kernel) rfl
theorem mw_203 : (Jvm.Cond.methodLink "Linkcourt$Play" (43 : Nat) ({ cls := "Linkcourt$Play", name := "stonesAhead", desc := "(II)J" } : Jvm.MethodName)) ∈ mm_ws := mm_memI 203 (by decide +kernel) rfl
theorem mw_204 : (Jvm.Cond.instanceMethod ({ cls := "Linkcourt$Play", name := "stonesAhead", desc := "(II)J" } : Jvm.MethodName)) ∈ mm_ws := mm_memI 204 (by decide +kernel) rfl
theorem mw_205 : (Jvm.Cond.selects "Linkcourt$Play" ({ cls := "Linkcourt$Play", name := "stonesAhead", desc := "(II)J" } : Jvm.MethodName) ({ cls := "Linkcourt$Play", name := "stonesAhead", desc := "(II)J" } : Jvm.MethodName)) ∈ mm_ws := mm_memI 205 (by decide +kernel) rfl
theorem mw_206 : (Jvm.Cond.code ({ cls := "Linkcourt$Play", name := "stonesAhead", desc := "(II)J" } : Jvm.MethodName) prog_8_method_7_code (6 : Nat) (Option.some Jvm.ClassFile.FieldType.long)) ∈ mm_ws := mm_memI 206 (by decide +kernel) rfl
theorem mw_207 : (Jvm.Cond.methodLink "Linkcourt$Play" (58 : Nat) ({ cls := "Linkcourt$Play", name := "firstKept", desc := "(I)I" } : Jvm.MethodName)) ∈ mm_ws := mm_memI 207 (by decide +kernel) rfl
theorem mw_209 : (Jvm.Cond.instanceMethod ({ cls := "Linkcourt$Play", name := "firstKept", desc := "(I)I" } : Jvm.MethodName)) ∈ mm_ws := mm_memI 209 (by decide +kernel) rfl
theorem mw_210 : (Jvm.Cond.code ({ cls := "Linkcourt$Play", name := "firstKept", desc := "(I)I" } : Jvm.MethodName) prog_8_method_8_code (2 : Nat) (Option.some Jvm.ClassFile.FieldType.int)) ∈ mm_ws := mm_memI 210 (by decide +kernel) rfl
theorem mw_211 : (Jvm.Cond.methodLink "Linkcourt$Play" (54 : Nat) ({ cls := "Linkcourt$Board", name := "hasJoined", desc := "(IJ)Z" } : Jvm.MethodName)) ∈ mm_ws := mm_memI 211 (by decide +kernel) rfl
theorem mw_212 : (Jvm.Cond.instanceMethod ({ cls := "Linkcourt$Board", name := "hasJoined", desc := "(IJ)Z" } : Jvm.MethodName)) ∈ mm_ws := mm_memI 212 (by decide +kernel) rfl
theorem mw_213 : (Jvm.Cond.selects "Linkcourt$Board" ({ cls := "Linkcourt$Board", name := "hasJoined", desc := "(IJ)Z" } : Jvm.MethodName) ({ cls := "Linkcourt$Board", name := "hasJoined", desc := "(IJ)Z" } : Jvm.MethodName)) ∈ mm_ws := mm_memI 213 (by decide +kernel) rfl
theorem mw_214 : (Jvm.Cond.code ({ cls := "Linkcourt$Board", name := "hasJoined", desc := "(IJ)Z" } : Jvm.MethodName) prog_3_method_19_code (4 : Nat) (Option.some Jvm.ClassFile.FieldType.boolean)) ∈ mm_ws := mm_memI 214 (by decide +kernel) rfl
theorem mw_215 : (Jvm.Cond.methodLink "Linkcourt$Board" (101 : Nat) ({ cls := "Linkcourt$Board", name := "isAtAllSides", desc := "(J)Z" } : Jvm.MethodName)) ∈ mm_ws := mm_memI 215 (by decide +kernel) rfl
theorem mw_217 : (Jvm.Cond.instanceMethod ({ cls := "Linkcourt$Board", name := "isAtAllSides", desc := "(J)Z" } : Jvm.MethodName)) ∈ mm_ws := mm_memI 217 (by decide +kernel) rfl
theorem mw_218 : (Jvm.Cond.code ({ cls := "Linkcourt$Board", name := "isAtAllSides", desc := "(J)Z" } : Jvm.MethodName) prog_3_method_21_code (8 : Nat) (Option.some Jvm.ClassFile.FieldType.boolean)) ∈ mm_ws := mm_memI 218 (by decide +kernel) rfl
theorem mw_219 : (Jvm.Cond.methodLink "Linkcourt$Board" (97 : Nat) ({ cls := "Linkcourt$Board", name := "side", desc := "(I)J" } : Jvm.MethodName)) ∈ mm_ws := mm_memI 219 (by decide +kernel) rfl
theorem mw_220 : (Jvm.Cond.instanceMethod ({ cls := "Linkcourt$Board", name := "side", desc := "(I)J" } : Jvm.MethodName)) ∈ mm_ws := mm_memI 220 (by decide +kernel) rfl
theorem mw_221 : (Jvm.Cond.selects "Linkcourt$Board" ({ cls := "Linkcourt$Board", name := "side", desc := "(I)J" } : Jvm.MethodName) ({ cls := "Linkcourt$Board", name := "side", desc := "(I)J" } : Jvm.MethodName)) ∈ mm_ws := mm_memI 221 (by decide +kernel) rfl
theorem mw_222 : (Jvm.Cond.code ({ cls := "Linkcourt$Board", name := "side", desc := "(I)J" } : Jvm.MethodName) prog_3_method_14_code (2 : Nat) (Option.some Jvm.ClassFile.FieldType.long)) ∈ mm_ws := mm_memI 222 (by decide +kernel) rfl
theorem mw_223 : (Jvm.Cond.methodLink "Linkcourt$Board" (93 : Nat) ({ cls := "Linkcourt$Board", name := "reach", desc := "(JJ)J" } : Jvm.MethodName)) ∈ mm_ws := mm_memI 223 (by decide +kernel) rfl
theorem mw_224 : (Jvm.Cond.instanceMethod ({ cls := "Linkcourt$Board", name := "reach", desc := "(JJ)J" } : Jvm.MethodName)) ∈ mm_ws := mm_memI 224 (by decide +kernel) rfl
theorem mw_225 : (Jvm.Cond.selects "Linkcourt$Board" ({ cls := "Linkcourt$Board", name := "reach", desc := "(JJ)J" } : Jvm.MethodName) ({ cls := "Linkcourt$Board", name := "reach", desc := "(JJ)J" } : Jvm.MethodName)) ∈ mm_ws := mm_memI 225 (by decide +kernel) rfl
theorem mw_226 : (Jvm.Cond.code ({ cls := "Linkcourt$Board", name := "reach", desc := "(JJ)J" } : Jvm.MethodName) prog_3_method_16_code (13 : Nat) (Option.some Jvm.ClassFile.FieldType.long)) ∈ mm_ws := mm_memI 226 (by decide +kernel) rfl
theorem mw_227 : (Jvm.Cond.methodLink "Linkcourt$Board" (85 : Nat) ({ cls := "java/lang/Long", name := "bitCount", desc := "(J)I" } : Jvm.MethodName)) ∈ mm_ws := mm_memI 227 (by decide +kernel) rfl
theorem mw_228 : (Jvm.Cond.static ({ cls := "java/lang/Long", name := "bitCount", desc := "(J)I" } : Jvm.MethodName)) ∈ mm_ws := mm_memI 228 (by decide +kernel) rfl
theorem mw_229 : (Jvm.Cond.code ({ cls := "java/lang/Long", name := "bitCount", desc := "(J)I" } : Jvm.MethodName) prog_19_method_50_code (2 : Nat) (Option.some Jvm.ClassFile.FieldType.int)) ∈ mm_ws := mm_memI 229 (by decide +kernel) rfl
theorem mw_230 : (Jvm.Cond.constantLong "java/lang/Long" (314 : Nat) (6148914691236517205 : Int64)) ∈ mm_ws := mm_memI 230 (by decide +kernel) rfl
theorem mw_231 : (Jvm.Cond.constantLong "java/lang/Long" (316 : Nat) (3689348814741910323 : Int64)) ∈ mm_ws := mm_memI 231 (by decide +kernel) rfl
theorem mw_232 : (Jvm.Cond.constantLong "java/lang/Long" (318 : Nat) (1085102592571150095 : Int64)) ∈ mm_ws := mm_memI 232 (by decide +kernel) rfl
theorem mw_233 : (Jvm.Cond.constantLong "Linkcourt$Board" (91 : Nat) (-1 : Int64)) ∈ mm_ws := mm_memI 233 (by decide +kernel) rfl
theorem mw_234 : (Jvm.Cond.methodLink "Linkcourt$Board" (105 : Nat) ({ cls := "Linkcourt$Board", name := "leads", desc := "(IIJ)Z" } : Jvm.MethodName)) ∈ mm_ws := mm_memI 234 (by decide +kernel) rfl
theorem mw_236 : (Jvm.Cond.instanceMethod ({ cls := "Linkcourt$Board", name := "leads", desc := "(IIJ)Z" } : Jvm.MethodName)) ∈ mm_ws := mm_memI 236 (by decide +kernel) rfl
theorem mw_237 : (Jvm.Cond.code ({ cls := "Linkcourt$Board", name := "leads", desc := "(IIJ)Z" } : Jvm.MethodName) prog_3_method_20_code (5 : Nat) (Option.some Jvm.ClassFile.FieldType.boolean)) ∈ mm_ws := mm_memI 237 (by decide +kernel) rfl
theorem mw_238 : (Jvm.Cond.classLink "Linkcourt" (32 : Nat) "Linkcourt$BestPlay") ∈ mm_ws := mm_memI 238 (by decide +kernel) rfl
theorem mw_239 : (Jvm.Cond.instantiable "Linkcourt$BestPlay" (8 : Nat)) ∈ mm_ws := mm_memI 239 (by decide +kernel) rfl
theorem mw_240 : (Jvm.Cond.methodLink "Linkcourt" (34 : Nat) ({ cls := "Linkcourt$BestPlay", name := "<init>", desc := "(LLinkcourt$Board;)V" } : Jvm.MethodName)) ∈ mm_ws := mm_memI 240 (by decide +kernel) rfl
theorem mw_241 : (Jvm.Cond.instanceMethod ({ cls := "Linkcourt$BestPlay", name := "<init>", desc := "(LLinkcourt$Board;)V" } : Jvm.MethodName)) ∈ mm_ws := mm_memI 241 (by decide +kernel) rfl
theorem mw_242 : (Jvm.Cond.code ({ cls := "Linkcourt$BestPlay", name := "<init>", desc := "(LLinkcourt$Board;)V" } : Jvm.MethodName) prog_2_method_1_code (2 : Nat) (Option.none : Option Jvm.ClassFile.FieldType)) ∈ mm_ws := mm_memI 242 (by decide +kernel) rfl
theorem mw_243 : (Jvm.Cond.methodLink "Linkcourt$BestPlay" (3 : Nat) ({ cls := "java/lang/Object", name := "<init>", desc := "()V" } : Jvm.MethodName)) ∈ mm_ws := mm_memI 243 (by decide +kernel) rfl
theorem mw_244 : (Jvm.Cond.classLink "Linkcourt$BestPlay" (9 : Nat) "Linkcourt$Gaps") ∈ mm_ws := mm_memI 244 (by decide +kernel) rfl
theorem mw_245 : (Jvm.Cond.instantiable "Linkcourt$Gaps" (3 : Nat)) ∈ mm_ws := mm_memI 245 (by decide +kernel) rfl
theorem mw_246 : (Jvm.Cond.methodLink "Linkcourt$BestPlay" (11 : Nat) ({ cls := "Linkcourt$Gaps", name := "<init>", desc := "()V" } : Jvm.MethodName)) ∈ mm_ws := mm_memI 246 (by decide +kernel) rfl
theorem mw_247 : (Jvm.Cond.instanceMethod ({ cls := "Linkcourt$Gaps", name := "<init>", desc := "()V" } : Jvm.MethodName)) ∈ mm_ws := mm_memI 247 (by decide +kernel) rfl
theorem mw_248 : (Jvm.Cond.code ({ cls := "Linkcourt$Gaps", name := "<init>", desc := "()V" } : Jvm.MethodName) prog_4_method_1_code (2 : Nat) (Option.none : Option Jvm.ClassFile.FieldType)) ∈ mm_ws := mm_memI 248 (by decide +kernel) rfl
theorem mw_249 : (Jvm.Cond.methodLink "Linkcourt$Gaps" (3 : Nat) ({ cls := "java/lang/Object", name := "<init>", desc := "()V" } : Jvm.MethodName)) ∈ mm_ws := mm_memI 249 (by decide +kernel) rfl
theorem mw_250 : (Jvm.Cond.fieldLink "Linkcourt$Gaps" (9 : Nat) "Linkcourt$Gaps" "cellOf" "[I") ∈ mm_ws := mm_memI 250 (by decide +kernel) rfl
theorem mw_251 : (Jvm.Cond.fieldLink "Linkcourt$Gaps" (15 : Nat) "Linkcourt$Gaps" "ternary" "[I") ∈ mm_ws := mm_memI 251 (by decide +kernel) rfl
theorem mw_252 : (Jvm.Cond.fieldLink "Linkcourt$Gaps" (18 : Nat) "Linkcourt$Gaps" "count" "I") ∈ mm_ws := mm_memI 252 (by decide +kernel) rfl
theorem mw_253 : (Jvm.Cond.fieldLink "Linkcourt$Links" (60 : Nat) "Linkcourt$Gaps" "count" "I") ∈ mm_ws := mm_memI 253 (by decide +kernel) rfl
theorem mw_254 : (Jvm.Cond.fieldLink "Linkcourt$BestPlay" (55 : Nat) "Linkcourt$Gaps" "count" "I") ∈ mm_ws := mm_memI 254 (by decide +kernel) rfl
theorem mw_262 : (Jvm.Cond.fieldLink "Linkcourt$BestPlay" (25 : Nat) "Linkcourt$BestPlay" "board" "LLinkcourt$Board;") ∈ mm_ws := mm_memI 262 (by decide +kernel) rfl
theorem mw_263 : (Jvm.Cond.fieldLink "Linkcourt$BestPlay" (12 : Nat) "Linkcourt$BestPlay" "gaps" "LLinkcourt$Gaps;") ∈ mm_ws := mm_memI 263 (by decide +kernel) rfl
theorem mw_264 : (Jvm.Cond.fieldLink "Linkcourt$BestPlay" (18 : Nat) "Linkcourt$BestPlay" "joined" "[B") ∈ mm_ws := mm_memI 264 (by decide +kernel) rfl
theorem mw_265 : (Jvm.Cond.fieldLink "Linkcourt$BestPlay" (22 : Nat) "Linkcourt$BestPlay" "scores" "[B") ∈ mm_ws := mm_memI 265 (by decide +kernel) rfl
theorem mw_266 : (Jvm.Cond.fieldLink "Linkcourt$BestPlay" (29 : Nat) "Linkcourt$BestPlay" "known" "Z") ∈ mm_ws := mm_memI 266 (by decide +kernel) rfl
theorem mw_267 : (Jvm.Cond.fieldLink "Linkcourt$BestPlay" (76 : Nat) "Linkcourt$BestPlay" "stones0" "J") ∈ mm_ws := mm_memI 267 (by decide +kernel) rfl
theorem mw_268 : (Jvm.Cond.fieldLink "Linkcourt$BestPlay" (80 : Nat) "Linkcourt$BestPlay" "stones1" "J") ∈ mm_ws := mm_memI 268 (by decide +kernel) rfl
theorem mw_269 : (Jvm.Cond.fieldLink "Linkcourt$BestPlay" (41 : Nat) "Linkcourt$BestPlay" "turn" "I") ∈ mm_ws := mm_memI 269 (by decide +kernel) rfl
theorem mw_287 : (Jvm.Cond.arrayClass Jvm.ClassFile.FieldType.byte) ∈ mm_ws := mm_memI 287 (by decide +kernel) rfl
theorem mw_288 : (Jvm.Cond.classLink "Linkcourt" (39 : Nat) "Linkcourt$Links") ∈ mm_ws := mm_memI 288 (by decide +kernel) rfl
theorem mw_289 : (Jvm.Cond.instantiable "Linkcourt$Links" (7 : Nat)) ∈ mm_ws := mm_memI 289 (by decide +kernel) rfl
theorem mw_290 : (Jvm.Cond.methodLink "Linkcourt" (41 : Nat) ({ cls := "Linkcourt$Links", name := "<init>", desc := "(LLinkcourt$Board;)V" } : Jvm.MethodName)) ∈ mm_ws := mm_memI 290 (by decide +kernel) rfl
theorem mw_291 : (Jvm.Cond.instanceMethod ({ cls := "Linkcourt$Links", name := "<init>", desc := "(LLinkcourt$Board;)V" } : Jvm.MethodName)) ∈ mm_ws := mm_memI 291 (by decide +kernel) rfl
theorem mw_292 : (Jvm.Cond.code ({ cls := "Linkcourt$Links", name := "<init>", desc := "(LLinkcourt$Board;)V" } : Jvm.MethodName) prog_6_method_1_code (2 : Nat) (Option.none : Option Jvm.ClassFile.FieldType)) ∈ mm_ws := mm_memI 292 (by decide +kernel) rfl
theorem mw_293 : (Jvm.Cond.methodLink "Linkcourt$Links" (3 : Nat) ({ cls := "java/lang/Object", name := "<init>", desc := "()V" } : Jvm.MethodName)) ∈ mm_ws := mm_memI 293 (by decide +kernel) rfl
theorem mw_294 : (Jvm.Cond.classLink "Linkcourt$Links" (9 : Nat) "Linkcourt$Gaps") ∈ mm_ws := mm_memI 294 (by decide +kernel) rfl
theorem mw_295 : (Jvm.Cond.methodLink "Linkcourt$Links" (11 : Nat) ({ cls := "Linkcourt$Gaps", name := "<init>", desc := "()V" } : Jvm.MethodName)) ∈ mm_ws := mm_memI 295 (by decide +kernel) rfl
theorem mw_296 : (Jvm.Cond.fieldLink "Linkcourt$Links" (25 : Nat) "Linkcourt$Links" "board" "LLinkcourt$Board;") ∈ mm_ws := mm_memI 296 (by decide +kernel) rfl
theorem mw_297 : (Jvm.Cond.fieldLink "Linkcourt$Links" (12 : Nat) "Linkcourt$Links" "gaps" "LLinkcourt$Gaps;") ∈ mm_ws := mm_memI 297 (by decide +kernel) rfl
theorem mw_298 : (Jvm.Cond.fieldLink "Linkcourt$Links" (18 : Nat) "Linkcourt$Links" "tied" "[B") ∈ mm_ws := mm_memI 298 (by decide +kernel) rfl
theorem mw_299 : (Jvm.Cond.fieldLink "Linkcourt$Links" (22 : Nat) "Linkcourt$Links" "held" "[B") ∈ mm_ws := mm_memI 299 (by decide +kernel) rfl
theorem mw_300 : (Jvm.Cond.fieldLink "Linkcourt$Links" (29 : Nat) "Linkcourt$Links" "stones" "J") ∈ mm_ws := mm_memI 300 (by decide +kernel) rfl
theorem mw_301 : (Jvm.Cond.fieldLink "Linkcourt$Links" (33 : Nat) "Linkcourt$Links" "one" "I") ∈ mm_ws := mm_memI 301 (by decide +kernel) rfl
theorem mw_302 : (Jvm.Cond.fieldLink "Linkcourt$Links" (37 : Nat) "Linkcourt$Links" "other" "I") ∈ mm_ws := mm_memI 302 (by decide +kernel) rfl
theorem mw_318 : (Jvm.Cond.classLink "Linkcourt" (46 : Nat) "Linkcourt$Ways") ∈ mm_ws := mm_memI 318 (by decide +kernel) rfl
theorem mw_319 : (Jvm.Cond.instantiable "Linkcourt$Ways" (2 : Nat)) ∈ mm_ws := mm_memI 319 (by decide +kernel) rfl
theorem mw_320 : (Jvm.Cond.methodLink "Linkcourt" (48 : Nat) ({ cls := "Linkcourt$Ways", name := "<init>", desc := "(LLinkcourt$Board;)V" } : Jvm.MethodName)) ∈ mm_ws := mm_memI 320 (by decide +kernel) rfl
theorem mw_321 : (Jvm.Cond.instanceMethod ({ cls := "Linkcourt$Ways", name := "<init>", desc := "(LLinkcourt$Board;)V" } : Jvm.MethodName)) ∈ mm_ws := mm_memI 321 (by decide +kernel) rfl
theorem mw_322 : (Jvm.Cond.code ({ cls := "Linkcourt$Ways", name := "<init>", desc := "(LLinkcourt$Board;)V" } : Jvm.MethodName) prog_11_method_1_code (2 : Nat) (Option.none : Option Jvm.ClassFile.FieldType)) ∈ mm_ws := mm_memI 322 (by decide +kernel) rfl
theorem mw_323 : (Jvm.Cond.methodLink "Linkcourt$Ways" (3 : Nat) ({ cls := "java/lang/Object", name := "<init>", desc := "()V" } : Jvm.MethodName)) ∈ mm_ws := mm_memI 323 (by decide +kernel) rfl
theorem mw_324 : (Jvm.Cond.fieldLink "Linkcourt$Ways" (15 : Nat) "Linkcourt$Ways" "board" "LLinkcourt$Board;") ∈ mm_ws := mm_memI 324 (by decide +kernel) rfl
theorem mw_325 : (Jvm.Cond.fieldLink "Linkcourt$Ways" (11 : Nat) "Linkcourt$Ways" "costs" "[I") ∈ mm_ws := mm_memI 325 (by decide +kernel) rfl
theorem mw_331 : (Jvm.Cond.classLink "Linkcourt" (53 : Nat) "Linkcourt$PlayingOut") ∈ mm_ws := mm_memI 331 (by decide +kernel) rfl
theorem mw_332 : (Jvm.Cond.instantiable "Linkcourt$PlayingOut" (2 : Nat)) ∈ mm_ws := mm_memI 332 (by decide +kernel) rfl
theorem mw_333 : (Jvm.Cond.methodLink "Linkcourt" (55 : Nat) ({ cls := "Linkcourt$PlayingOut", name := "<init>", desc := "(LLinkcourt$Board;)V" } : Jvm.MethodName)) ∈ mm_ws := mm_memI 333 (by decide +kernel) rfl
theorem mw_334 : (Jvm.Cond.instanceMethod ({ cls := "Linkcourt$PlayingOut", name := "<init>", desc := "(LLinkcourt$Board;)V" } : Jvm.MethodName)) ∈ mm_ws := mm_memI 334 (by decide +kernel) rfl
theorem mw_335 : (Jvm.Cond.code ({ cls := "Linkcourt$PlayingOut", name := "<init>", desc := "(LLinkcourt$Board;)V" } : Jvm.MethodName) prog_9_method_1_code (2 : Nat) (Option.none : Option Jvm.ClassFile.FieldType)) ∈ mm_ws := mm_memI 335 (by decide +kernel) rfl
theorem mw_336 : (Jvm.Cond.methodLink "Linkcourt$PlayingOut" (3 : Nat) ({ cls := "java/lang/Object", name := "<init>", desc := "()V" } : Jvm.MethodName)) ∈ mm_ws := mm_memI 336 (by decide +kernel) rfl
theorem mw_337 : (Jvm.Cond.fieldLink "Linkcourt$PlayingOut" (9 : Nat) "Linkcourt$PlayingOut" "board" "LLinkcourt$Board;") ∈ mm_ws := mm_memI 337 (by decide +kernel) rfl
theorem mw_338 : (Jvm.Cond.fieldLink "Linkcourt$PlayingOut" (15 : Nat) "Linkcourt$PlayingOut" "number" "J") ∈ mm_ws := mm_memI 338 (by decide +kernel) rfl
theorem mw_344 : (Jvm.Cond.classLink "Linkcourt" (60 : Nat) "Linkcourt$Patterns") ∈ mm_ws := mm_memI 344 (by decide +kernel) rfl
theorem mw_345 : (Jvm.Cond.instantiable "Linkcourt$Patterns" (8 : Nat)) ∈ mm_ws := mm_memI 345 (by decide +kernel) rfl
theorem mw_346 : (Jvm.Cond.methodLink "Linkcourt" (62 : Nat) ({ cls := "Linkcourt$Patterns", name := "<init>", desc := "(LLinkcourt$Board;)V" } : Jvm.MethodName)) ∈ mm_ws := mm_memI 346 (by decide +kernel) rfl
theorem mw_347 : (Jvm.Cond.instanceMethod ({ cls := "Linkcourt$Patterns", name := "<init>", desc := "(LLinkcourt$Board;)V" } : Jvm.MethodName)) ∈ mm_ws := mm_memI 347 (by decide +kernel) rfl
theorem mw_348 : (Jvm.Cond.code ({ cls := "Linkcourt$Patterns", name := "<init>", desc := "(LLinkcourt$Board;)V" } : Jvm.MethodName) prog_7_method_1_code (2 : Nat) (Option.none : Option Jvm.ClassFile.FieldType)) ∈ mm_ws := mm_memI 348 (by decide +kernel) rfl
theorem mw_349 : (Jvm.Cond.methodLink "Linkcourt$Patterns" (5 : Nat) ({ cls := "java/lang/Object", name := "<init>", desc := "()V" } : Jvm.MethodName)) ∈ mm_ws := mm_memI 349 (by decide +kernel) rfl
theorem mw_350 : (Jvm.Cond.fieldLink "Linkcourt$Patterns" (28 : Nat) "Linkcourt$Patterns" "board" "LLinkcourt$Board;") ∈ mm_ws := mm_memI 350 (by decide +kernel) rfl
theorem mw_351 : (Jvm.Cond.fieldLink "Linkcourt$Patterns" (11 : Nat) "Linkcourt$Patterns" "tape" "[C") ∈ mm_ws := mm_memI 351 (by decide +kernel) rfl
theorem mw_352 : (Jvm.Cond.fieldLink "Linkcourt$Patterns" (15 : Nat) "Linkcourt$Patterns" "texts" "[C") ∈ mm_ws := mm_memI 352 (by decide +kernel) rfl
theorem mw_353 : (Jvm.Cond.fieldLink "Linkcourt$Patterns" (18 : Nat) "Linkcourt$Patterns" "lengths" "[I") ∈ mm_ws := mm_memI 353 (by decide +kernel) rfl
theorem mw_354 : (Jvm.Cond.fieldLink "Linkcourt$Patterns" (22 : Nat) "Linkcourt$Patterns" "alternatives" "[I") ∈ mm_ws := mm_memI 354 (by decide +kernel) rfl
theorem mw_355 : (Jvm.Cond.fieldLink "Linkcourt$Patterns" (25 : Nat) "Linkcourt$Patterns" "alternativesOf" "[I") ∈ mm_ws := mm_memI 355 (by decide +kernel) rfl
theorem mw_356 : (Jvm.Cond.fieldLink "Linkcourt$Patterns" (40 : Nat) "Linkcourt$Patterns" "taped" "I") ∈ mm_ws := mm_memI 356 (by decide +kernel) rfl
theorem mw_357 : (Jvm.Cond.fieldLink "Linkcourt" (290 : Nat) "Linkcourt$Patterns" "taped" "I") ∈ mm_ws := mm_memI 357 (by decide +kernel) rfl
theorem mw_358 : (Jvm.Cond.fieldLink "Linkcourt$Patterns" (46 : Nat) "Linkcourt$Patterns" "count" "I") ∈ mm_ws := mm_memI 358 (by decide +kernel) rfl
theorem mw_359 : (Jvm.Cond.fieldLink "Linkcourt" (304 : Nat) "Linkcourt$Patterns" "count" "I") ∈ mm_ws := mm_memI 359 (by decide +kernel) rfl
theorem mw_377 : (Jvm.Cond.arrayClass Jvm.ClassFile.FieldType.char) ∈ mm_ws := mm_memI 377 (by decide +kernel) rfl
theorem mw_378 : (Jvm.Cond.classLink "Linkcourt" (67 : Nat) "Linkcourt$Times") ∈ mm_ws := mm_memI 378 (by decide +kernel) rfl
theorem mw_379 : (Jvm.Cond.instantiable "Linkcourt$Times" (6 : Nat)) ∈ mm_ws := mm_memI 379 (by decide +kernel) rfl
theorem mw_381 : (Jvm.Cond.instanceMethod ({ cls := "Linkcourt$Times", name := "<init>", desc := "()V" } : Jvm.MethodName)) ∈ mm_ws := mm_memI 381 (by decide +kernel) rfl
theorem mw_382 : (Jvm.Cond.code ({ cls := "Linkcourt$Times", name := "<init>", desc := "()V" } : Jvm.MethodName) prog_10_method_1_code (1 : Nat) (Option.none : Option Jvm.ClassFile.FieldType)) ∈ mm_ws := mm_memI 382 (by decide +kernel) rfl
theorem mw_383 : (Jvm.Cond.methodLink "Linkcourt$Times" (3 : Nat) ({ cls := "java/lang/Object", name := "<init>", desc := "()V" } : Jvm.MethodName)) ∈ mm_ws := mm_memI 383 (by decide +kernel) rfl
theorem mw_384 : (Jvm.Cond.fieldLink "Linkcourt$Times" (9 : Nat) "Linkcourt$Times" "seconds" "[I") ∈ mm_ws := mm_memI 384 (by decide +kernel) rfl
theorem mw_385 : (Jvm.Cond.fieldLink "Linkcourt$Times" (15 : Nat) "Linkcourt$Times" "periods" "[I") ∈ mm_ws := mm_memI 385 (by decide +kernel) rfl
theorem mw_386 : (Jvm.Cond.fieldLink "Linkcourt$Times" (18 : Nat) "Linkcourt$Times" "used" "[I") ∈ mm_ws := mm_memI 386 (by decide +kernel) rfl
theorem mw_387 : (Jvm.Cond.fieldLink "Linkcourt$Times" (39 : Nat) "Linkcourt$Times" "each" "I") ∈ mm_ws := mm_memI 387 (by decide +kernel) rfl
theorem mw_388 : (Jvm.Cond.fieldLink "Linkcourt$Times" (29 : Nat) "Linkcourt$Times" "ticking" "Z") ∈ mm_ws := mm_memI 388 (by decide +kernel) rfl
theorem mw_389 : (Jvm.Cond.fieldLink "Linkcourt" (326 : Nat) "Linkcourt$Times" "ticking" "Z") ∈ mm_ws := mm_memI 389 (by decide +kernel) rfl
theorem mw_390 : (Jvm.Cond.fieldLink "Linkcourt$Times" (21 : Nat) "Linkcourt$Times" "loser" "I") ∈ mm_ws := mm_memI 390 (by decide +kernel) rfl
theorem mw_391 : (Jvm.Cond.fieldLink "Linkcourt" (152 : Nat) "Linkcourt$Times" "loser" "I") ∈ mm_ws := mm_memI 391 (by decide +kernel) rfl
theorem mw_405 : (Jvm.Cond.classLink "Linkcourt" (74 : Nat) "Linkcourt$Ladder") ∈ mm_ws := mm_memI 405 (by decide +kernel) rfl
theorem mw_406 : (Jvm.Cond.instantiable "Linkcourt$Ladder" (5 : Nat)) ∈ mm_ws := mm_memI 406 (by decide +kernel) rfl
theorem mw_408 : (Jvm.Cond.instanceMethod ({ cls := "Linkcourt$Ladder", name := "<init>", desc := "()V" } : Jvm.MethodName)) ∈ mm_ws := mm_memI 408 (by decide +kernel) rfl
theorem mw_409 : (Jvm.Cond.code ({ cls := "Linkcourt$Ladder", name := "<init>", desc := "()V" } : Jvm.MethodName) prog_5_method_1_code (1 : Nat) (Option.none : Option Jvm.ClassFile.FieldType)) ∈ mm_ws := mm_memI 409 (by decide +kernel) rfl
theorem mw_410 : (Jvm.Cond.methodLink "Linkcourt$Ladder" (3 : Nat) ({ cls := "java/lang/Object", name := "<init>", desc := "()V" } : Jvm.MethodName)) ∈ mm_ws := mm_memI 410 (by decide +kernel) rfl
theorem mw_411 : (Jvm.Cond.fieldLink "Linkcourt$Ladder" (11 : Nat) "Linkcourt$Ladder" "ratings" "[I") ∈ mm_ws := mm_memI 411 (by decide +kernel) rfl
theorem mw_412 : (Jvm.Cond.fieldLink "Linkcourt$Ladder" (15 : Nat) "Linkcourt$Ladder" "places" "[I") ∈ mm_ws := mm_memI 412 (by decide +kernel) rfl
theorem mw_413 : (Jvm.Cond.fieldLink "Linkcourt$Ladder" (18 : Nat) "Linkcourt$Ladder" "won" "[I") ∈ mm_ws := mm_memI 413 (by decide +kernel) rfl
theorem mw_414 : (Jvm.Cond.fieldLink "Linkcourt$Ladder" (21 : Nat) "Linkcourt$Ladder" "lost" "[I") ∈ mm_ws := mm_memI 414 (by decide +kernel) rfl
theorem mw_415 : (Jvm.Cond.fieldLink "Linkcourt$Ladder" (24 : Nat) "Linkcourt$Ladder" "count" "I") ∈ mm_ws := mm_memI 415 (by decide +kernel) rfl
theorem mw_416 : (Jvm.Cond.fieldLink "Linkcourt" (345 : Nat) "Linkcourt$Ladder" "count" "I") ∈ mm_ws := mm_memI 416 (by decide +kernel) rfl
theorem mw_428 : (Jvm.Cond.fieldLink "Linkcourt" (24 : Nat) "Linkcourt" "board" "LLinkcourt$Board;") ∈ mm_ws := mm_memI 428 (by decide +kernel) rfl
theorem mw_429 : (Jvm.Cond.fieldLink "Linkcourt" (28 : Nat) "Linkcourt" "play" "LLinkcourt$Play;") ∈ mm_ws := mm_memI 429 (by decide +kernel) rfl
theorem mw_430 : (Jvm.Cond.fieldLink "Linkcourt" (35 : Nat) "Linkcourt" "bestPlay" "LLinkcourt$BestPlay;") ∈ mm_ws := mm_memI 430 (by decide +kernel) rfl
theorem mw_431 : (Jvm.Cond.fieldLink "Linkcourt" (42 : Nat) "Linkcourt" "links" "LLinkcourt$Links;") ∈ mm_ws := mm_memI 431 (by decide +kernel) rfl
theorem mw_432 : (Jvm.Cond.fieldLink "Linkcourt" (49 : Nat) "Linkcourt" "ways" "LLinkcourt$Ways;") ∈ mm_ws := mm_memI 432 (by decide +kernel) rfl
theorem mw_433 : (Jvm.Cond.fieldLink "Linkcourt" (56 : Nat) "Linkcourt" "playingOut" "LLinkcourt$PlayingOut;") ∈ mm_ws := mm_memI 433 (by decide +kernel) rfl
theorem mw_434 : (Jvm.Cond.fieldLink "Linkcourt" (63 : Nat) "Linkcourt" "patterns" "LLinkcourt$Patterns;") ∈ mm_ws := mm_memI 434 (by decide +kernel) rfl
theorem mw_435 : (Jvm.Cond.fieldLink "Linkcourt" (70 : Nat) "Linkcourt" "times" "LLinkcourt$Times;") ∈ mm_ws := mm_memI 435 (by decide +kernel) rfl
theorem mw_436 : (Jvm.Cond.fieldLink "Linkcourt" (77 : Nat) "Linkcourt" "ladder" "LLinkcourt$Ladder;") ∈ mm_ws := mm_memI 436 (by decide +kernel) rfl
theorem mw_437 : (Jvm.Cond.fieldLink "Linkcourt" (98 : Nat) "Linkcourt" "recorded" "Z") ∈ mm_ws := mm_memI 437 (by decide +kernel) rfl
theorem mw_476 : (Jvm.Cond.methodLink "Linkcourt" (134 : Nat) ({ cls := "Linkcourt$Play", name := "mover", desc := "()I" } : Jvm.MethodName)) ∈ mm_ws := mm_memI 476 (by decide +kernel) rfl
theorem mw_477 : (Jvm.Cond.instanceMethod ({ cls := "Linkcourt$Play", name := "mover", desc := "()I" } : Jvm.MethodName)) ∈ mm_ws := mm_memI 477 (by decide +kernel) rfl
theorem mw_478 : (Jvm.Cond.selects "Linkcourt$Play" ({ cls := "Linkcourt$Play", name := "mover", desc := "()I" } : Jvm.MethodName) ({ cls := "Linkcourt$Play", name := "mover", desc := "()I" } : Jvm.MethodName)) ∈ mm_ws := mm_memI 478 (by decide +kernel) rfl
theorem mw_479 : (Jvm.Cond.code ({ cls := "Linkcourt$Play", name := "mover", desc := "()I" } : Jvm.MethodName) prog_8_method_10_code (1 : Nat) (Option.some Jvm.ClassFile.FieldType.int)) ∈ mm_ws := mm_memI 479 (by decide +kernel) rfl
theorem mw_480 : (Jvm.Cond.methodLink "Linkcourt" (115 : Nat) ({ cls := "Linkcourt$Play", name := "empty", desc := "()J" } : Jvm.MethodName)) ∈ mm_ws := mm_memI 480 (by decide +kernel) rfl
theorem mw_481 : (Jvm.Cond.instanceMethod ({ cls := "Linkcourt$Play", name := "empty", desc := "()J" } : Jvm.MethodName)) ∈ mm_ws := mm_memI 481 (by decide +kernel) rfl
theorem mw_482 : (Jvm.Cond.selects "Linkcourt$Play" ({ cls := "Linkcourt$Play", name := "empty", desc := "()J" } : Jvm.MethodName) ({ cls := "Linkcourt$Play", name := "empty", desc := "()J" } : Jvm.MethodName)) ∈ mm_ws := mm_memI 482 (by decide +kernel) rfl
theorem mw_483 : (Jvm.Cond.code ({ cls := "Linkcourt$Play", name := "empty", desc := "()J" } : Jvm.MethodName) prog_8_method_12_code (1 : Nat) (Option.some Jvm.ClassFile.FieldType.long)) ∈ mm_ws := mm_memI 483 (by decide +kernel) rfl
theorem mw_484 : (Jvm.Cond.constantLong "Linkcourt$Play" (64 : Nat) (-1 : Int64)) ∈ mm_ws := mm_memI 484 (by decide +kernel) rfl
theorem mw_485 : (Jvm.Cond.methodLink "Linkcourt" (160 : Nat) ({ cls := "java/lang/Long", name := "bitCount", desc := "(J)I" } : Jvm.MethodName)) ∈ mm_ws := mm_memI 485 (by decide +kernel) rfl
theorem mw_486 : (Jvm.Cond.methodLink "Linkcourt" (125 : Nat) ({ cls := "Linkcourt", name := "winner", desc := "()I" } : Jvm.MethodName)) ∈ mm_ws := mm_memI 486 (by decide +kernel) rfl
theorem mw_488 : (Jvm.Cond.instanceMethod ({ cls := "Linkcourt", name := "winner", desc := "()I" } : Jvm.MethodName)) ∈ mm_ws := mm_memI 488 (by decide +kernel) rfl
theorem mw_489 : (Jvm.Cond.code ({ cls := "Linkcourt", name := "winner", desc := "()I" } : Jvm.MethodName) prog_1_method_35_code (1 : Nat) (Option.some Jvm.ClassFile.FieldType.int)) ∈ mm_ws := mm_memI 489 (by decide +kernel) rfl
theorem mw_490 : (Jvm.Cond.methodLink "Linkcourt" (173 : Nat) ({ cls := "Linkcourt$Board", name := "groups", desc := "(J)I" } : Jvm.MethodName)) ∈ mm_ws := mm_memI 490 (by decide +kernel) rfl
theorem mw_491 : (Jvm.Cond.instanceMethod ({ cls := "Linkcourt$Board", name := "groups", desc := "(J)I" } : Jvm.MethodName)) ∈ mm_ws := mm_memI 491 (by decide +kernel) rfl
theorem mw_492 : (Jvm.Cond.selects "Linkcourt$Board" ({ cls := "Linkcourt$Board", name := "groups", desc := "(J)I" } : Jvm.MethodName) ({ cls := "Linkcourt$Board", name := "groups", desc := "(J)I" } : Jvm.MethodName)) ∈ mm_ws := mm_memI 492 (by decide +kernel) rfl
theorem mw_493 : (Jvm.Cond.code ({ cls := "Linkcourt$Board", name := "groups", desc := "(J)I" } : Jvm.MethodName) prog_3_method_17_code (6 : Nat) (Option.some Jvm.ClassFile.FieldType.int)) ∈ mm_ws := mm_memI 493 (by decide +kernel) rfl
theorem mw_494 : (Jvm.Cond.classLink "Linkcourt" (85 : Nat) "java/lang/IllegalArgumentException") ∈ mm_ws := mm_memI 494 (by decide +kernel) rfl
theorem mw_565 : (Jvm.Cond.methodLink "Linkcourt" (106 : Nat) ({ cls := "Linkcourt$Board", name := "hasCell", desc := "(I)Z" } : Jvm.MethodName)) ∈ mm_ws := mm_memI 565 (by decide +kernel) rfl
theorem mw_566 : (Jvm.Cond.instanceMethod ({ cls := "Linkcourt$Board", name := "hasCell", desc := "(I)Z" } : Jvm.MethodName)) ∈ mm_ws := mm_memI 566 (by decide +kernel) rfl
theorem mw_567 : (Jvm.Cond.selects "Linkcourt$Board" ({ cls := "Linkcourt$Board", name := "hasCell", desc := "(I)Z" } : Jvm.MethodName) ({ cls := "Linkcourt$Board", name := "hasCell", desc := "(I)Z" } : Jvm.MethodName)) ∈ mm_ws := mm_memI 567 (by decide +kernel) rfl
theorem mw_568 : (Jvm.Cond.code ({ cls := "Linkcourt$Board", name := "hasCell", desc := "(I)Z" } : Jvm.MethodName) prog_3_method_8_code (2 : Nat) (Option.some Jvm.ClassFile.FieldType.boolean)) ∈ mm_ws := mm_memI 568 (by decide +kernel) rfl
theorem mw_569 : (Jvm.Cond.classLink "Linkcourt" (110 : Nat) "java/lang/IndexOutOfBoundsException") ∈ mm_ws := mm_memI 569 (by decide +kernel) rfl
theorem mw_585 : (Jvm.Cond.methodLink "Linkcourt" (181 : Nat) ({ cls := "Linkcourt$Board", name := "row", desc := "(I)I" } : Jvm.MethodName)) ∈ mm_ws := mm_memI 585 (by decide +kernel) rfl
theorem mw_586 : (Jvm.Cond.methodLink "Linkcourt" (185 : Nat) ({ cls := "Linkcourt$Board", name := "column", desc := "(I)I" } : Jvm.MethodName)) ∈ mm_ws := mm_memI 586 (by decide +kernel) rfl
theorem mw_587 : (Jvm.Cond.methodLink "Linkcourt" (188 : Nat) ({ cls := "Linkcourt$Play", name := "owner", desc := "(I)I" } : Jvm.MethodName)) ∈ mm_ws := mm_memI 587 (by decide +kernel) rfl
theorem mw_588 : (Jvm.Cond.instanceMethod ({ cls := "Linkcourt$Play", name := "owner", desc := "(I)I" } : Jvm.MethodName)) ∈ mm_ws := mm_memI 588 (by decide +kernel) rfl
theorem mw_589 : (Jvm.Cond.selects "Linkcourt$Play" ({ cls := "Linkcourt$Play", name := "owner", desc := "(I)I" } : Jvm.MethodName) ({ cls := "Linkcourt$Play", name := "owner", desc := "(I)I" } : Jvm.MethodName)) ∈ mm_ws := mm_memI 589 (by decide +kernel) rfl
theorem mw_590 : (Jvm.Cond.code ({ cls := "Linkcourt$Play", name := "owner", desc := "(I)I" } : Jvm.MethodName) prog_8_method_13_code (2 : Nat) (Option.some Jvm.ClassFile.FieldType.int)) ∈ mm_ws := mm_memI 590 (by decide +kernel) rfl
theorem mw_592 : (Jvm.Cond.static ({ cls := "Linkcourt", name := "has", desc := "(JI)Z" } : Jvm.MethodName)) ∈ mm_ws := mm_memI 592 (by decide +kernel) rfl
theorem mw_593 : (Jvm.Cond.code ({ cls := "Linkcourt", name := "has", desc := "(JI)Z" } : Jvm.MethodName) prog_1_method_33_code (3 : Nat) (Option.some Jvm.ClassFile.FieldType.boolean)) ∈ mm_ws := mm_memI 593 (by decide +kernel) rfl
theorem mw_594 : (Jvm.Cond.methodLink "Linkcourt" (191 : Nat) ({ cls := "Linkcourt$Play", name := "numberOf", desc := "(I)I" } : Jvm.MethodName)) ∈ mm_ws := mm_memI 594 (by decide +kernel) rfl
theorem mw_595 : (Jvm.Cond.instanceMethod ({ cls := "Linkcourt$Play", name := "numberOf", desc := "(I)I" } : Jvm.MethodName)) ∈ mm_ws := mm_memI 595 (by decide +kernel) rfl
theorem mw_596 : (Jvm.Cond.selects "Linkcourt$Play" ({ cls := "Linkcourt$Play", name := "numberOf", desc := "(I)I" } : Jvm.MethodName) ({ cls := "Linkcourt$Play", name := "numberOf", desc := "(I)I" } : Jvm.MethodName)) ∈ mm_ws := mm_memI 596 (by decide +kernel) rfl
theorem mw_597 : (Jvm.Cond.code ({ cls := "Linkcourt$Play", name := "numberOf", desc := "(I)I" } : Jvm.MethodName) prog_8_method_9_code (3 : Nat) (Option.some Jvm.ClassFile.FieldType.int)) ∈ mm_ws := mm_memI 597 (by decide +kernel) rfl
theorem mw_598 : (Jvm.Cond.methodLink "Linkcourt" (194 : Nat) ({ cls := "Linkcourt$Play", name := "stones", desc := "(I)J" } : Jvm.MethodName)) ∈ mm_ws := mm_memI 598 (by decide +kernel) rfl
theorem mw_599 : (Jvm.Cond.instanceMethod ({ cls := "Linkcourt$Play", name := "stones", desc := "(I)J" } : Jvm.MethodName)) ∈ mm_ws := mm_memI 599 (by decide +kernel) rfl
theorem mw_600 : (Jvm.Cond.selects "Linkcourt$Play" ({ cls := "Linkcourt$Play", name := "stones", desc := "(I)J" } : Jvm.MethodName) ({ cls := "Linkcourt$Play", name := "stones", desc := "(I)J" } : Jvm.MethodName)) ∈ mm_ws := mm_memI 600 (by decide +kernel) rfl
theorem mw_601 : (Jvm.Cond.code ({ cls := "Linkcourt$Play", name := "stones", desc := "(I)J" } : Jvm.MethodName) prog_8_method_11_code (2 : Nat) (Option.some Jvm.ClassFile.FieldType.long)) ∈ mm_ws := mm_memI 601 (by decide +kernel) rfl
theorem mw_602 : (Jvm.Cond.methodLink "Linkcourt" (198 : Nat) ({ cls := "Linkcourt$Board", name := "reach", desc := "(JJ)J" } : Jvm.MethodName)) ∈ mm_ws := mm_memI 602 (by decide +kernel) rfl
theorem mw_603 : (Jvm.Cond.methodLink "Linkcourt" (202 : Nat) ({ cls := "Linkcourt$Board", name := "sidesOf", desc := "(J)I" } : Jvm.MethodName)) ∈ mm_ws := mm_memI 603 (by decide +kernel) rfl
theorem mw_604 : (Jvm.Cond.instanceMethod ({ cls := "Linkcourt$Board", name := "sidesOf", desc := "(J)I" } : Jvm.MethodName)) ∈ mm_ws := mm_memI 604 (by decide +kernel) rfl
theorem mw_605 : (Jvm.Cond.selects "Linkcourt$Board" ({ cls := "Linkcourt$Board", name := "sidesOf", desc := "(J)I" } : Jvm.MethodName) ({ cls := "Linkcourt$Board", name := "sidesOf", desc := "(J)I" } : Jvm.MethodName)) ∈ mm_ws := mm_memI 605 (by decide +kernel) rfl
theorem mw_606 : (Jvm.Cond.code ({ cls := "Linkcourt$Board", name := "sidesOf", desc := "(J)I" } : Jvm.MethodName) prog_3_method_18_code (5 : Nat) (Option.some Jvm.ClassFile.FieldType.int)) ∈ mm_ws := mm_memI 606 (by decide +kernel) rfl
theorem mw_607 : (Jvm.Cond.methodLink "Linkcourt" (205 : Nat) ({ cls := "Linkcourt", name := "lowest", desc := "(J)I" } : Jvm.MethodName)) ∈ mm_ws := mm_memI 607 (by decide +kernel) rfl
theorem mw_608 : (Jvm.Cond.static ({ cls := "Linkcourt", name := "lowest", desc := "(J)I" } : Jvm.MethodName)) ∈ mm_ws := mm_memI 608 (by decide +kernel) rfl
theorem mw_609 : (Jvm.Cond.code ({ cls := "Linkcourt", name := "lowest", desc := "(J)I" } : Jvm.MethodName) prog_1_method_34_code (2 : Nat) (Option.some Jvm.ClassFile.FieldType.int)) ∈ mm_ws := mm_memI 609 (by decide +kernel) rfl
theorem mw_615 : (Jvm.Cond.methodLink "Linkcourt" (312 : Nat) ({ cls := "Linkcourt$Patterns", name := "hasPattern", desc := "(I)Z" } : Jvm.MethodName)) ∈ mm_ws := mm_memI 615 (by decide +kernel) rfl
theorem mw_616 : (Jvm.Cond.instanceMethod ({ cls := "Linkcourt$Patterns", name := "hasPattern", desc := "(I)Z" } : Jvm.MethodName)) ∈ mm_ws := mm_memI 616 (by decide +kernel) rfl
theorem mw_617 : (Jvm.Cond.selects "Linkcourt$Patterns" ({ cls := "Linkcourt$Patterns", name := "hasPattern", desc := "(I)Z" } : Jvm.MethodName) ({ cls := "Linkcourt$Patterns", name := "hasPattern", desc := "(I)Z" } : Jvm.MethodName)) ∈ mm_ws := mm_memI 617 (by decide +kernel) rfl
theorem mw_618 : (Jvm.Cond.code ({ cls := "Linkcourt$Patterns", name := "hasPattern", desc := "(I)Z" } : Jvm.MethodName) prog_7_method_7_code (2 : Nat) (Option.some Jvm.ClassFile.FieldType.boolean)) ∈ mm_ws := mm_memI 618 (by decide +kernel) rfl
theorem mw_619 : (Jvm.Cond.methodLink "Linkcourt" (257 : Nat) ({ cls := "Linkcourt", name := "isPlayer", desc := "(I)Z" } : Jvm.MethodName)) ∈ mm_ws := mm_memI 619 (by decide +kernel) rfl
theorem mw_620 : (Jvm.Cond.static ({ cls := "Linkcourt", name := "isPlayer", desc := "(I)Z" } : Jvm.MethodName)) ∈ mm_ws := mm_memI 620 (by decide +kernel) rfl
theorem mw_621 : (Jvm.Cond.code ({ cls := "Linkcourt", name := "isPlayer", desc := "(I)Z" } : Jvm.MethodName) prog_1_method_32_code (1 : Nat) (Option.some Jvm.ClassFile.FieldType.boolean)) ∈ mm_ws := mm_memI 621 (by decide +kernel) rfl
theorem mw_623 : (Jvm.Cond.methodLink "Linkcourt" (317 : Nat) ({ cls := "Linkcourt$Patterns", name := "placesByRows", desc := "(IJJ)J" } : Jvm.MethodName)) ∈ mm_ws := mm_memI 623 (by decide +kernel) rfl
theorem mw_624 : (Jvm.Cond.instanceMethod ({ cls := "Linkcourt$Patterns", name := "placesByRows", desc := "(IJJ)J" } : Jvm.MethodName)) ∈ mm_ws := mm_memI 624 (by decide +kernel) rfl
theorem mw_625 : (Jvm.Cond.selects "Linkcourt$Patterns" ({ cls := "Linkcourt$Patterns", name := "placesByRows", desc := "(IJJ)J" } : Jvm.MethodName) ({ cls := "Linkcourt$Patterns", name := "placesByRows", desc := "(IJJ)J" } : Jvm.MethodName)) ∈ mm_ws := mm_memI 625 (by decide +kernel) rfl
theorem mw_626 : (Jvm.Cond.code ({ cls := "Linkcourt$Patterns", name := "placesByRows", desc := "(IJJ)J" } : Jvm.MethodName) prog_7_method_11_code (9 : Nat) (Option.some Jvm.ClassFile.FieldType.long)) ∈ mm_ws := mm_memI 626 (by decide +kernel) rfl
theorem mw_628 : (Jvm.Cond.methodLink "Linkcourt$Patterns" (71 : Nat) ({ cls := "Linkcourt$Patterns", name := "surroundings", desc := "(IJJ)I" } : Jvm.MethodName)) ∈ mm_ws := mm_memI 628 (by decide +kernel) rfl
theorem mw_630 : (Jvm.Cond.instanceMethod ({ cls := "Linkcourt$Patterns", name := "surroundings", desc := "(IJJ)I" } : Jvm.MethodName)) ∈ mm_ws := mm_memI 630 (by decide +kernel) rfl
theorem mw_631 : (Jvm.Cond.code ({ cls := "Linkcourt$Patterns", name := "surroundings", desc := "(IJJ)I" } : Jvm.MethodName) prog_7_method_12_code (8 : Nat) (Option.some Jvm.ClassFile.FieldType.int)) ∈ mm_ws := mm_memI 631 (by decide +kernel) rfl
theorem mw_632 : (Jvm.Cond.methodLink "Linkcourt$Patterns" (79 : Nat) ({ cls := "Linkcourt$Board", name := "next", desc := "(II)I" } : Jvm.MethodName)) ∈ mm_ws := mm_memI 632 (by decide +kernel) rfl
theorem mw_633 : (Jvm.Cond.instanceMethod ({ cls := "Linkcourt$Board", name := "next", desc := "(II)I" } : Jvm.MethodName)) ∈ mm_ws := mm_memI 633 (by decide +kernel) rfl
theorem mw_634 : (Jvm.Cond.selects "Linkcourt$Board" ({ cls := "Linkcourt$Board", name := "next", desc := "(II)I" } : Jvm.MethodName) ({ cls := "Linkcourt$Board", name := "next", desc := "(II)I" } : Jvm.MethodName)) ∈ mm_ws := mm_memI 634 (by decide +kernel) rfl
theorem mw_635 : (Jvm.Cond.code ({ cls := "Linkcourt$Board", name := "next", desc := "(II)I" } : Jvm.MethodName) prog_3_method_12_code (3 : Nat) (Option.some Jvm.ClassFile.FieldType.int)) ∈ mm_ws := mm_memI 635 (by decide +kernel) rfl
theorem mw_636 : (Jvm.Cond.methodLink "Linkcourt$Board" (81 : Nat) ({ cls := "Linkcourt$Board", name := "hasCell", desc := "(I)Z" } : Jvm.MethodName)) ∈ mm_ws := mm_memI 636 (by decide +kernel) rfl
theorem mw_637 : (Jvm.Cond.methodLink "Linkcourt$Patterns" (83 : Nat) ({ cls := "Linkcourt$Patterns", name := "thing", desc := "(IJJ)I" } : Jvm.MethodName)) ∈ mm_ws := mm_memI 637 (by decide +kernel) rfl
theorem mw_638 : (Jvm.Cond.static ({ cls := "Linkcourt$Patterns", name := "thing", desc := "(IJJ)I" } : Jvm.MethodName)) ∈ mm_ws := mm_memI 638 (by decide +kernel) rfl
theorem mw_639 : (Jvm.Cond.code ({ cls := "Linkcourt$Patterns", name := "thing", desc := "(IJJ)I" } : Jvm.MethodName) prog_7_method_13_code (5 : Nat) (Option.some Jvm.ClassFile.FieldType.int)) ∈ mm_ws := mm_memI 639 (by decide +kernel) rfl
theorem mw_640 : (Jvm.Cond.methodLink "Linkcourt$Patterns" (75 : Nat) ({ cls := "Linkcourt$Patterns", name := "rowsFit", desc := "(II)Z" } : Jvm.MethodName)) ∈ mm_ws := mm_memI 640 (by decide +kernel) rfl
theorem mw_642 : (Jvm.Cond.instanceMethod ({ cls := "Linkcourt$Patterns", name := "rowsFit", desc := "(II)Z" } : Jvm.MethodName)) ∈ mm_ws := mm_memI 642 (by decide +kernel) rfl
theorem mw_643 : (Jvm.Cond.code ({ cls := "Linkcourt$Patterns", name := "rowsFit", desc := "(II)Z" } : Jvm.MethodName) prog_7_method_14_code (4 : Nat) (Option.some Jvm.ClassFile.FieldType.boolean)) ∈ mm_ws := mm_memI 643 (by decide +kernel) rfl
theorem mw_644 : (Jvm.Cond.methodLink "Linkcourt$Patterns" (53 : Nat) ({ cls := "Linkcourt$Patterns", name := "hasPattern", desc := "(I)Z" } : Jvm.MethodName)) ∈ mm_ws := mm_memI 644 (by decide +kernel) rfl
theorem mw_645 : (Jvm.Cond.methodLink "Linkcourt$Patterns" (86 : Nat) ({ cls := "Linkcourt$Patterns", name := "rowFits", desc := "(II)Z" } : Jvm.MethodName)) ∈ mm_ws := mm_memI 645 (by decide +kernel) rfl
theorem mw_646 : (Jvm.Cond.static ({ cls := "Linkcourt$Patterns", name := "rowFits", desc := "(II)Z" } : Jvm.MethodName)) ∈ mm_ws := mm_memI 646 (by decide +kernel) rfl
theorem mw_647 : (Jvm.Cond.code ({ cls := "Linkcourt$Patterns", name := "rowFits", desc := "(II)Z" } : Jvm.MethodName) prog_7_method_15_code (5 : Nat) (Option.some Jvm.ClassFile.FieldType.boolean)) ∈ mm_ws := mm_memI 647 (by decide +kernel) rfl
theorem mw_648 : (Jvm.Cond.constant "Linkcourt$Patterns" (89 : Nat) (16777215 : Int32)) ∈ mm_ws := mm_memI 648 (by decide +kernel) rfl
theorem mw_649 : (Jvm.Cond.constant "Linkcourt$Patterns" (61 : Nat) (16777216 : Int32)) ∈ mm_ws := mm_memI 649 (by decide +kernel) rfl
theorem mw_654 : (Jvm.Cond.methodLink "Linkcourt" (351 : Nat) ({ cls := "Linkcourt$Ladder", name := "hasPerson", desc := "(I)Z" } : Jvm.MethodName)) ∈ mm_ws := mm_memI 654 (by decide +kernel) rfl
theorem mw_655 : (Jvm.Cond.instanceMethod ({ cls := "Linkcourt$Ladder", name := "hasPerson", desc := "(I)Z" } : Jvm.MethodName)) ∈ mm_ws := mm_memI 655 (by decide +kernel) rfl
theorem mw_656 : (Jvm.Cond.selects "Linkcourt$Ladder" ({ cls := "Linkcourt$Ladder", name := "hasPerson", desc := "(I)Z" } : Jvm.MethodName) ({ cls := "Linkcourt$Ladder", name := "hasPerson", desc := "(I)Z" } : Jvm.MethodName)) ∈ mm_ws := mm_memI 656 (by decide +kernel) rfl
theorem mw_657 : (Jvm.Cond.code ({ cls := "Linkcourt$Ladder", name := "hasPerson", desc := "(I)Z" } : Jvm.MethodName) prog_5_method_2_code (2 : Nat) (Option.some Jvm.ClassFile.FieldType.boolean)) ∈ mm_ws := mm_memI 657 (by decide +kernel) rfl
theorem mw_659 : (Jvm.Cond.methodLink "Linkcourt" (363 : Nat) ({ cls := "Linkcourt$Ladder", name := "shown", desc := "(II)I" } : Jvm.MethodName)) ∈ mm_ws := mm_memI 659 (by decide +kernel) rfl
theorem mw_660 : (Jvm.Cond.instanceMethod ({ cls := "Linkcourt$Ladder", name := "shown", desc := "(II)I" } : Jvm.MethodName)) ∈ mm_ws := mm_memI 660 (by decide +kernel) rfl
theorem mw_661 : (Jvm.Cond.selects "Linkcourt$Ladder" ({ cls := "Linkcourt$Ladder", name := "shown", desc := "(II)I" } : Jvm.MethodName) ({ cls := "Linkcourt$Ladder", name := "shown", desc := "(II)I" } : Jvm.MethodName)) ∈ mm_ws := mm_memI 661 (by decide +kernel) rfl
theorem mw_662 : (Jvm.Cond.code ({ cls := "Linkcourt$Ladder", name := "shown", desc := "(II)I" } : Jvm.MethodName) prog_5_method_6_code (3 : Nat) (Option.some Jvm.ClassFile.FieldType.int)) ∈ mm_ws := mm_memI 662 (by decide +kernel) rfl
theorem mw_663 : (Jvm.Cond.methodLink "Linkcourt$Ladder" (28 : Nat) ({ cls := "Linkcourt$Ladder", name := "hasPerson", desc := "(I)Z" } : Jvm.MethodName)) ∈ mm_ws := mm_memI 663 (by decide +kernel) rfl
theorem mw_669 : (Jvm.Cond.methodLink "Linkcourt" (342 : Nat) ({ cls := "Linkcourt$Times", name := "shown", desc := "(II)I" } : Jvm.MethodName)) ∈ mm_ws := mm_memI 669 (by decide +kernel) rfl
theorem mw_670 : (Jvm.Cond.instanceMethod ({ cls := "Linkcourt$Times", name := "shown", desc := "(II)I" } : Jvm.MethodName)) ∈ mm_ws := mm_memI 670 (by decide +kernel) rfl
theorem mw_671 : (Jvm.Cond.selects "Linkcourt$Times" ({ cls := "Linkcourt$Times", name := "shown", desc := "(II)I" } : Jvm.MethodName) ({ cls := "Linkcourt$Times", name := "shown", desc := "(II)I" } : Jvm.MethodName)) ∈ mm_ws := mm_memI 671 (by decide +kernel) rfl
theorem mw_672 : (Jvm.Cond.code ({ cls := "Linkcourt$Times", name := "shown", desc := "(II)I" } : Jvm.MethodName) prog_10_method_6_code (3 : Nat) (Option.some Jvm.ClassFile.FieldType.int)) ∈ mm_ws := mm_memI 672 (by decide +kernel) rfl
theorem mw_678 : (Jvm.Cond.methodLink "Linkcourt" (299 : Nat) ({ cls := "Linkcourt$Patterns", name := "firstFault", desc := "()I" } : Jvm.MethodName)) ∈ mm_ws := mm_memI 678 (by decide +kernel) rfl
theorem mw_679 : (Jvm.Cond.instanceMethod ({ cls := "Linkcourt$Patterns", name := "firstFault", desc := "()I" } : Jvm.MethodName)) ∈ mm_ws := mm_memI 679 (by decide +kernel) rfl
theorem mw_680 : (Jvm.Cond.selects "Linkcourt$Patterns" ({ cls := "Linkcourt$Patterns", name := "firstFault", desc := "()I" } : Jvm.MethodName) ({ cls := "Linkcourt$Patterns", name := "firstFault", desc := "()I" } : Jvm.MethodName)) ∈ mm_ws := mm_memI 680 (by decide +kernel) rfl
theorem mw_681 : (Jvm.Cond.code ({ cls := "Linkcourt$Patterns", name := "firstFault", desc := "()I" } : Jvm.MethodName) prog_7_method_6_code (4 : Nat) (Option.some Jvm.ClassFile.FieldType.int)) ∈ mm_ws := mm_memI 681 (by decide +kernel) rfl
theorem mw_682 : (Jvm.Cond.methodLink "Linkcourt$Patterns" (36 : Nat) ({ cls := "Linkcourt$Patterns", name := "meaning", desc := "(C)I" } : Jvm.MethodName)) ∈ mm_ws := mm_memI 682 (by decide +kernel) rfl
theorem mw_683 : (Jvm.Cond.static ({ cls := "Linkcourt$Patterns", name := "meaning", desc := "(C)I" } : Jvm.MethodName)) ∈ mm_ws := mm_memI 683 (by decide +kernel) rfl
theorem mw_684 : (Jvm.Cond.code ({ cls := "Linkcourt$Patterns", name := "meaning", desc := "(C)I" } : Jvm.MethodName) prog_7_method_5_code (1 : Nat) (Option.some Jvm.ClassFile.FieldType.int)) ∈ mm_ws := mm_memI 684 (by decide +kernel) rfl
theorem mw_704 : (Jvm.Cond.methodLink "Linkcourt" (81 : Nat) ({ cls := "Linkcourt", name := "isBoard", desc := "(III)Z" } : Jvm.MethodName)) ∈ mm_ws := mm_memI 704 (by decide +kernel) rfl
theorem mw_705 : (Jvm.Cond.static ({ cls := "Linkcourt", name := "isBoard", desc := "(III)Z" } : Jvm.MethodName)) ∈ mm_ws := mm_memI 705 (by decide +kernel) rfl
theorem mw_706 : (Jvm.Cond.code ({ cls := "Linkcourt", name := "isBoard", desc := "(III)Z" } : Jvm.MethodName) prog_1_method_31_code (3 : Nat) (Option.some Jvm.ClassFile.FieldType.boolean)) ∈ mm_ws := mm_memI 706 (by decide +kernel) rfl
theorem mw_708 : (Jvm.Cond.methodLink "Linkcourt" (92 : Nat) ({ cls := "Linkcourt$BestPlay", name := "forget", desc := "()V" } : Jvm.MethodName)) ∈ mm_ws := mm_memI 708 (by decide +kernel) rfl
theorem mw_709 : (Jvm.Cond.instanceMethod ({ cls := "Linkcourt$BestPlay", name := "forget", desc := "()V" } : Jvm.MethodName)) ∈ mm_ws := mm_memI 709 (by decide +kernel) rfl
theorem mw_710 : (Jvm.Cond.selects "Linkcourt$BestPlay" ({ cls := "Linkcourt$BestPlay", name := "forget", desc := "()V" } : Jvm.MethodName) ({ cls := "Linkcourt$BestPlay", name := "forget", desc := "()V" } : Jvm.MethodName)) ∈ mm_ws := mm_memI 710 (by decide +kernel) rfl
theorem mw_711 : (Jvm.Cond.code ({ cls := "Linkcourt$BestPlay", name := "forget", desc := "()V" } : Jvm.MethodName) prog_2_method_2_code (1 : Nat) (Option.none : Option Jvm.ClassFile.FieldType)) ∈ mm_ws := mm_memI 711 (by decide +kernel) rfl
theorem mw_712 : (Jvm.Cond.methodLink "Linkcourt" (95 : Nat) ({ cls := "Linkcourt$Times", name := "takeAway", desc := "()V" } : Jvm.MethodName)) ∈ mm_ws := mm_memI 712 (by decide +kernel) rfl
theorem mw_713 : (Jvm.Cond.instanceMethod ({ cls := "Linkcourt$Times", name := "takeAway", desc := "()V" } : Jvm.MethodName)) ∈ mm_ws := mm_memI 713 (by decide +kernel) rfl
theorem mw_714 : (Jvm.Cond.selects "Linkcourt$Times" ({ cls := "Linkcourt$Times", name := "takeAway", desc := "()V" } : Jvm.MethodName) ({ cls := "Linkcourt$Times", name := "takeAway", desc := "()V" } : Jvm.MethodName)) ∈ mm_ws := mm_memI 714 (by decide +kernel) rfl
theorem mw_715 : (Jvm.Cond.code ({ cls := "Linkcourt$Times", name := "takeAway", desc := "()V" } : Jvm.MethodName) prog_10_method_2_code (1 : Nat) (Option.none : Option Jvm.ClassFile.FieldType)) ∈ mm_ws := mm_memI 715 (by decide +kernel) rfl
theorem mw_716 : (Jvm.Cond.methodLink "Linkcourt$Times" (25 : Nat) ({ cls := "Linkcourt$Times", name := "start", desc := "(III)V" } : Jvm.MethodName)) ∈ mm_ws := mm_memI 716 (by decide +kernel) rfl
theorem mw_717 : (Jvm.Cond.instanceMethod ({ cls := "Linkcourt$Times", name := "start", desc := "(III)V" } : Jvm.MethodName)) ∈ mm_ws := mm_memI 717 (by decide +kernel) rfl
theorem mw_718 : (Jvm.Cond.selects "Linkcourt$Times" ({ cls := "Linkcourt$Times", name := "start", desc := "(III)V" } : Jvm.MethodName) ({ cls := "Linkcourt$Times", name := "start", desc := "(III)V" } : Jvm.MethodName)) ∈ mm_ws := mm_memI 718 (by decide +kernel) rfl
theorem mw_719 : (Jvm.Cond.code ({ cls := "Linkcourt$Times", name := "start", desc := "(III)V" } : Jvm.MethodName) prog_10_method_3_code (4 : Nat) (Option.none : Option Jvm.ClassFile.FieldType)) ∈ mm_ws := mm_memI 719 (by decide +kernel) rfl
theorem mw_720 : (Jvm.Cond.methodLink "Linkcourt$Times" (33 : Nat) ({ cls := "java/util/Arrays", name := "fill", desc := "([II)V" } : Jvm.MethodName)) ∈ mm_ws := mm_memI 720 (by decide +kernel) rfl
theorem mw_721 : (Jvm.Cond.static ({ cls := "java/util/Arrays", name := "fill", desc := "([II)V" } : Jvm.MethodName)) ∈ mm_ws := mm_memI 721 (by decide +kernel) rfl
theorem mw_722 : (Jvm.Cond.code ({ cls := "java/util/Arrays", name := "fill", desc := "([II)V" } : Jvm.MethodName) prog_24_method_103_code (4 : Nat) (Option.none : Option Jvm.ClassFile.FieldType)) ∈ mm_ws := mm_memI 722 (by decide +kernel) rfl
theorem mw_727 : (Jvm.Cond.methodLink "Linkcourt" (119 : Nat) ({ cls := "Linkcourt", name := "has", desc := "(JI)Z" } : Jvm.MethodName)) ∈ mm_ws := mm_memI 727 (by decide +kernel) rfl
theorem mw_729 : (Jvm.Cond.classLink "Linkcourt" (129 : Nat) "java/lang/IllegalStateException") ∈ mm_ws := mm_memI 729 (by decide +kernel) rfl
theorem mw_745 : (Jvm.Cond.methodLink "Linkcourt" (137 : Nat) ({ cls := "Linkcourt$Times", name := "giveBack", desc := "(I)V" } : Jvm.MethodName)) ∈ mm_ws := mm_memI 745 (by decide +kernel) rfl
theorem mw_746 : (Jvm.Cond.instanceMethod ({ cls := "Linkcourt$Times", name := "giveBack", desc := "(I)V" } : Jvm.MethodName)) ∈ mm_ws := mm_memI 746 (by decide +kernel) rfl
theorem mw_747 : (Jvm.Cond.selects "Linkcourt$Times" ({ cls := "Linkcourt$Times", name := "giveBack", desc := "(I)V" } : Jvm.MethodName) ({ cls := "Linkcourt$Times", name := "giveBack", desc := "(I)V" } : Jvm.MethodName)) ∈ mm_ws := mm_memI 747 (by decide +kernel) rfl
theorem mw_748 : (Jvm.Cond.code ({ cls := "Linkcourt$Times", name := "giveBack", desc := "(I)V" } : Jvm.MethodName) prog_10_method_4_code (2 : Nat) (Option.none : Option Jvm.ClassFile.FieldType)) ∈ mm_ws := mm_memI 748 (by decide +kernel) rfl
theorem mw_749 : (Jvm.Cond.methodLink "Linkcourt" (141 : Nat) ({ cls := "Linkcourt$Play", name := "put", desc := "(I)V" } : Jvm.MethodName)) ∈ mm_ws := mm_memI 749 (by decide +kernel) rfl
theorem mw_750 : (Jvm.Cond.instanceMethod ({ cls := "Linkcourt$Play", name := "put", desc := "(I)V" } : Jvm.MethodName)) ∈ mm_ws := mm_memI 750 (by decide +kernel) rfl
theorem mw_751 : (Jvm.Cond.selects "Linkcourt$Play" ({ cls := "Linkcourt$Play", name := "put", desc := "(I)V" } : Jvm.MethodName) ({ cls := "Linkcourt$Play", name := "put", desc := "(I)V" } : Jvm.MethodName)) ∈ mm_ws := mm_memI 751 (by decide +kernel) rfl
theorem mw_752 : (Jvm.Cond.code ({ cls := "Linkcourt$Play", name := "put", desc := "(I)V" } : Jvm.MethodName) prog_8_method_3_code (2 : Nat) (Option.none : Option Jvm.ClassFile.FieldType)) ∈ mm_ws := mm_memI 752 (by decide +kernel) rfl
theorem mw_758 : (Jvm.Cond.methodLink "Linkcourt" (149 : Nat) ({ cls := "Linkcourt$Play", name := "exchange", desc := "()I" } : Jvm.MethodName)) ∈ mm_ws := mm_memI 758 (by decide +kernel) rfl
theorem mw_759 : (Jvm.Cond.instanceMethod ({ cls := "Linkcourt$Play", name := "exchange", desc := "()I" } : Jvm.MethodName)) ∈ mm_ws := mm_memI 759 (by decide +kernel) rfl
theorem mw_760 : (Jvm.Cond.selects "Linkcourt$Play" ({ cls := "Linkcourt$Play", name := "exchange", desc := "()I" } : Jvm.MethodName) ({ cls := "Linkcourt$Play", name := "exchange", desc := "()I" } : Jvm.MethodName)) ∈ mm_ws := mm_memI 760 (by decide +kernel) rfl
theorem mw_761 : (Jvm.Cond.code ({ cls := "Linkcourt$Play", name := "exchange", desc := "()I" } : Jvm.MethodName) prog_8_method_4_code (2 : Nat) (Option.some Jvm.ClassFile.FieldType.int)) ∈ mm_ws := mm_memI 761 (by decide +kernel) rfl
theorem mw_762 : (Jvm.Cond.methodLink "Linkcourt$Play" (33 : Nat) ({ cls := "Linkcourt$Board", name := "exchanged", desc := "(I)I" } : Jvm.MethodName)) ∈ mm_ws := mm_memI 762 (by decide +kernel) rfl
theorem mw_763 : (Jvm.Cond.instanceMethod ({ cls := "Linkcourt$Board", name := "exchanged", desc := "(I)I" } : Jvm.MethodName)) ∈ mm_ws := mm_memI 763 (by decide +kernel) rfl
theorem mw_764 : (Jvm.Cond.selects "Linkcourt$Board" ({ cls := "Linkcourt$Board", name := "exchanged", desc := "(I)I" } : Jvm.MethodName) ({ cls := "Linkcourt$Board", name := "exchanged", desc := "(I)I" } : Jvm.MethodName)) ∈ mm_ws := mm_memI 764 (by decide +kernel) rfl
theorem mw_765 : (Jvm.Cond.code ({ cls := "Linkcourt$Board", name := "exchanged", desc := "(I)I" } : Jvm.MethodName) prog_3_method_15_code (2 : Nat) (Option.some Jvm.ClassFile.FieldType.int)) ∈ mm_ws := mm_memI 765 (by decide +kernel) rfl
theorem mw_766 : (Jvm.Cond.methodLink "Linkcourt$Play" (39 : Nat) ({ cls := "Linkcourt$Play", name := "put", desc := "(I)V" } : Jvm.MethodName)) ∈ mm_ws := mm_memI 766 (by decide +kernel) rfl
theorem mw_772 : (Jvm.Cond.methodLink "Linkcourt" (157 : Nat) ({ cls := "Linkcourt$Play", name := "takeBack", desc := "()V" } : Jvm.MethodName)) ∈ mm_ws := mm_memI 772 (by decide +kernel) rfl
theorem mw_773 : (Jvm.Cond.instanceMethod ({ cls := "Linkcourt$Play", name := "takeBack", desc := "()V" } : Jvm.MethodName)) ∈ mm_ws := mm_memI 773 (by decide +kernel) rfl
theorem mw_774 : (Jvm.Cond.selects "Linkcourt$Play" ({ cls := "Linkcourt$Play", name := "takeBack", desc := "()V" } : Jvm.MethodName) ({ cls := "Linkcourt$Play", name := "takeBack", desc := "()V" } : Jvm.MethodName)) ∈ mm_ws := mm_memI 774 (by decide +kernel) rfl
theorem mw_775 : (Jvm.Cond.code ({ cls := "Linkcourt$Play", name := "takeBack", desc := "()V" } : Jvm.MethodName) prog_8_method_5_code (1 : Nat) (Option.none : Option Jvm.ClassFile.FieldType)) ∈ mm_ws := mm_memI 775 (by decide +kernel) rfl
theorem mw_781 : (Jvm.Cond.methodLink "Linkcourt" (210 : Nat) ({ cls := "Linkcourt$Board", name := "next", desc := "(II)I" } : Jvm.MethodName)) ∈ mm_ws := mm_memI 781 (by decide +kernel) rfl
theorem mw_786 : (Jvm.Cond.methodLink "Linkcourt" (214 : Nat) ({ cls := "Linkcourt", name := "needFewGaps", desc := "()V" } : Jvm.MethodName)) ∈ mm_ws := mm_memI 786 (by decide +kernel) rfl
theorem mw_788 : (Jvm.Cond.instanceMethod ({ cls := "Linkcourt", name := "needFewGaps", desc := "()V" } : Jvm.MethodName)) ∈ mm_ws := mm_memI 788 (by decide +kernel) rfl
theorem mw_789 : (Jvm.Cond.code ({ cls := "Linkcourt", name := "needFewGaps", desc := "()V" } : Jvm.MethodName) prog_1_method_36_code (1 : Nat) (Option.none : Option Jvm.ClassFile.FieldType)) ∈ mm_ws := mm_memI 789 (by decide +kernel) rfl
theorem mw_791 : (Jvm.Cond.methodLink "Linkcourt" (217 : Nat) ({ cls := "Linkcourt$BestPlay", name := "winnerOf", desc := "(JJI)I" } : Jvm.MethodName)) ∈ mm_ws := mm_memI 791 (by decide +kernel) rfl
theorem mw_792 : (Jvm.Cond.instanceMethod ({ cls := "Linkcourt$BestPlay", name := "winnerOf", desc := "(JJI)I" } : Jvm.MethodName)) ∈ mm_ws := mm_memI 792 (by decide +kernel) rfl
theorem mw_793 : (Jvm.Cond.selects "Linkcourt$BestPlay" ({ cls := "Linkcourt$BestPlay", name := "winnerOf", desc := "(JJI)I" } : Jvm.MethodName) ({ cls := "Linkcourt$BestPlay", name := "winnerOf", desc := "(JJI)I" } : Jvm.MethodName)) ∈ mm_ws := mm_memI 793 (by decide +kernel) rfl
theorem mw_794 : (Jvm.Cond.code ({ cls := "Linkcourt$BestPlay", name := "winnerOf", desc := "(JJI)I" } : Jvm.MethodName) prog_2_method_3_code (7 : Nat) (Option.some Jvm.ClassFile.FieldType.int)) ∈ mm_ws := mm_memI 794 (by decide +kernel) rfl
theorem mw_795 : (Jvm.Cond.methodLink "Linkcourt$BestPlay" (33 : Nat) ({ cls := "Linkcourt$BestPlay", name := "take", desc := "(JJI)V" } : Jvm.MethodName)) ∈ mm_ws := mm_memI 795 (by decide +kernel) rfl
theorem mw_797 : (Jvm.Cond.instanceMethod ({ cls := "Linkcourt$BestPlay", name := "take", desc := "(JJI)V" } : Jvm.MethodName)) ∈ mm_ws := mm_memI 797 (by decide +kernel) rfl
theorem mw_798 : (Jvm.Cond.code ({ cls := "Linkcourt$BestPlay", name := "take", desc := "(JJI)V" } : Jvm.MethodName) prog_2_method_7_code (6 : Nat) (Option.none : Option Jvm.ClassFile.FieldType)) ∈ mm_ws := mm_memI 798 (by decide +kernel) rfl
theorem mw_799 : (Jvm.Cond.constantLong "Linkcourt$BestPlay" (88 : Nat) (-1 : Int64)) ∈ mm_ws := mm_memI 799 (by decide +kernel) rfl
theorem mw_800 : (Jvm.Cond.methodLink "Linkcourt$BestPlay" (90 : Nat) ({ cls := "Linkcourt$Gaps", name := "take", desc := "(J)V" } : Jvm.MethodName)) ∈ mm_ws := mm_memI 800 (by decide +kernel) rfl
theorem mw_801 : (Jvm.Cond.instanceMethod ({ cls := "Linkcourt$Gaps", name := "take", desc := "(J)V" } : Jvm.MethodName)) ∈ mm_ws := mm_memI 801 (by decide +kernel) rfl
theorem mw_802 : (Jvm.Cond.selects "Linkcourt$Gaps" ({ cls := "Linkcourt$Gaps", name := "take", desc := "(J)V" } : Jvm.MethodName) ({ cls := "Linkcourt$Gaps", name := "take", desc := "(J)V" } : Jvm.MethodName)) ∈ mm_ws := mm_memI 802 (by decide +kernel) rfl
theorem mw_803 : (Jvm.Cond.code ({ cls := "Linkcourt$Gaps", name := "take", desc := "(J)V" } : Jvm.MethodName) prog_4_method_2_code (4 : Nat) (Option.none : Option Jvm.ClassFile.FieldType)) ∈ mm_ws := mm_memI 803 (by decide +kernel) rfl
theorem mw_805 : (Jvm.Cond.methodLink "Linkcourt$BestPlay" (93 : Nat) ({ cls := "java/util/Arrays", name := "fill", desc := "([BB)V" } : Jvm.MethodName)) ∈ mm_ws := mm_memI 805 (by decide +kernel) rfl
theorem mw_806 : (Jvm.Cond.static ({ cls := "java/util/Arrays", name := "fill", desc := "([BB)V" } : Jvm.MethodName)) ∈ mm_ws := mm_memI 806 (by decide +kernel) rfl
theorem mw_807 : (Jvm.Cond.code ({ cls := "java/util/Arrays", name := "fill", desc := "([BB)V" } : Jvm.MethodName) prog_24_method_109_code (4 : Nat) (Option.none : Option Jvm.ClassFile.FieldType)) ∈ mm_ws := mm_memI 807 (by decide +kernel) rfl
theorem mw_808 : (Jvm.Cond.methodLink "Linkcourt$BestPlay" (37 : Nat) ({ cls := "Linkcourt$BestPlay", name := "joinedAlready", desc := "()I" } : Jvm.MethodName)) ∈ mm_ws := mm_memI 808 (by decide +kernel) rfl
theorem mw_810 : (Jvm.Cond.instanceMethod ({ cls := "Linkcourt$BestPlay", name := "joinedAlready", desc := "()I" } : Jvm.MethodName)) ∈ mm_ws := mm_memI 810 (by decide +kernel) rfl
theorem mw_811 : (Jvm.Cond.code ({ cls := "Linkcourt$BestPlay", name := "joinedAlready", desc := "()I" } : Jvm.MethodName) prog_2_method_8_code (1 : Nat) (Option.some Jvm.ClassFile.FieldType.int)) ∈ mm_ws := mm_memI 811 (by decide +kernel) rfl
theorem mw_812 : (Jvm.Cond.methodLink "Linkcourt$BestPlay" (72 : Nat) ({ cls := "Linkcourt$BestPlay", name := "joins", desc := "(II)Z" } : Jvm.MethodName)) ∈ mm_ws := mm_memI 812 (by decide +kernel) rfl
theorem mw_814 : (Jvm.Cond.instanceMethod ({ cls := "Linkcourt$BestPlay", name := "joins", desc := "(II)Z" } : Jvm.MethodName)) ∈ mm_ws := mm_memI 814 (by decide +kernel) rfl
theorem mw_815 : (Jvm.Cond.code ({ cls := "Linkcourt$BestPlay", name := "joins", desc := "(II)Z" } : Jvm.MethodName) prog_2_method_9_code (6 : Nat) (Option.some Jvm.ClassFile.FieldType.boolean)) ∈ mm_ws := mm_memI 815 (by decide +kernel) rfl
theorem mw_816 : (Jvm.Cond.methodLink "Linkcourt$BestPlay" (61 : Nat) ({ cls := "Linkcourt$Gaps", name := "spread", desc := "(I)J" } : Jvm.MethodName)) ∈ mm_ws := mm_memI 816 (by decide +kernel) rfl
theorem mw_817 : (Jvm.Cond.instanceMethod ({ cls := "Linkcourt$Gaps", name := "spread", desc := "(I)J" } : Jvm.MethodName)) ∈ mm_ws := mm_memI 817 (by decide +kernel) rfl
theorem mw_818 : (Jvm.Cond.selects "Linkcourt$Gaps" ({ cls := "Linkcourt$Gaps", name := "spread", desc := "(I)J" } : Jvm.MethodName) ({ cls := "Linkcourt$Gaps", name := "spread", desc := "(I)J" } : Jvm.MethodName)) ∈ mm_ws := mm_memI 818 (by decide +kernel) rfl
theorem mw_819 : (Jvm.Cond.code ({ cls := "Linkcourt$Gaps", name := "spread", desc := "(I)J" } : Jvm.MethodName) prog_4_method_5_code (5 : Nat) (Option.some Jvm.ClassFile.FieldType.long)) ∈ mm_ws := mm_memI 819 (by decide +kernel) rfl
theorem mw_820 : (Jvm.Cond.methodLink "Linkcourt$BestPlay" (99 : Nat) ({ cls := "Linkcourt$Board", name := "hasJoined", desc := "(IJ)Z" } : Jvm.MethodName)) ∈ mm_ws := mm_memI 820 (by decide +kernel) rfl
theorem mw_821 : (Jvm.Cond.methodLink "Linkcourt$BestPlay" (45 : Nat) ({ cls := "Linkcourt$BestPlay", name := "score", desc := "(IIII)I" } : Jvm.MethodName)) ∈ mm_ws := mm_memI 821 (by decide +kernel) rfl
theorem mw_823 : (Jvm.Cond.instanceMethod ({ cls := "Linkcourt$BestPlay", name := "score", desc := "(IIII)I" } : Jvm.MethodName)) ∈ mm_ws := mm_memI 823 (by decide +kernel) rfl
theorem mw_824 : (Jvm.Cond.code ({ cls := "Linkcourt$BestPlay", name := "score", desc := "(IIII)I" } : Jvm.MethodName) prog_2_method_10_code (9 : Nat) (Option.some Jvm.ClassFile.FieldType.int)) ∈ mm_ws := mm_memI 824 (by decide +kernel) rfl
theorem mw_825 : (Jvm.Cond.methodLink "Linkcourt$BestPlay" (103 : Nat) ({ cls := "Linkcourt$Gaps", name := "pair", desc := "(II)I" } : Jvm.MethodName)) ∈ mm_ws := mm_memI 825 (by decide +kernel) rfl
theorem mw_826 : (Jvm.Cond.instanceMethod ({ cls := "Linkcourt$Gaps", name := "pair", desc := "(II)I" } : Jvm.MethodName)) ∈ mm_ws := mm_memI 826 (by decide +kernel) rfl
theorem mw_827 : (Jvm.Cond.selects "Linkcourt$Gaps" ({ cls := "Linkcourt$Gaps", name := "pair", desc := "(II)I" } : Jvm.MethodName) ({ cls := "Linkcourt$Gaps", name := "pair", desc := "(II)I" } : Jvm.MethodName)) ∈ mm_ws := mm_memI 827 (by decide +kernel) rfl
theorem mw_828 : (Jvm.Cond.code ({ cls := "Linkcourt$Gaps", name := "pair", desc := "(II)I" } : Jvm.MethodName) prog_4_method_7_code (3 : Nat) (Option.some Jvm.ClassFile.FieldType.int)) ∈ mm_ws := mm_memI 828 (by decide +kernel) rfl
theorem mw_829 : (Jvm.Cond.methodLink "Linkcourt$BestPlay" (65 : Nat) ({ cls := "Linkcourt$Gaps", name := "full", desc := "()I" } : Jvm.MethodName)) ∈ mm_ws := mm_memI 829 (by decide +kernel) rfl
theorem mw_830 : (Jvm.Cond.instanceMethod ({ cls := "Linkcourt$Gaps", name := "full", desc := "()I" } : Jvm.MethodName)) ∈ mm_ws := mm_memI 830 (by decide +kernel) rfl
theorem mw_831 : (Jvm.Cond.selects "Linkcourt$Gaps" ({ cls := "Linkcourt$Gaps", name := "full", desc := "()I" } : Jvm.MethodName) ({ cls := "Linkcourt$Gaps", name := "full", desc := "()I" } : Jvm.MethodName)) ∈ mm_ws := mm_memI 831 (by decide +kernel) rfl
theorem mw_832 : (Jvm.Cond.code ({ cls := "Linkcourt$Gaps", name := "full", desc := "()I" } : Jvm.MethodName) prog_4_method_3_code (1 : Nat) (Option.some Jvm.ClassFile.FieldType.int)) ∈ mm_ws := mm_memI 832 (by decide +kernel) rfl
theorem mw_834 : (Jvm.Cond.methodLink "Linkcourt$BestPlay" (58 : Nat) ({ cls := "Linkcourt$BestPlay", name := "scoreBehind", desc := "(IIII)I" } : Jvm.MethodName)) ∈ mm_ws := mm_memI 834 (by decide +kernel) rfl
theorem mw_836 : (Jvm.Cond.instanceMethod ({ cls := "Linkcourt$BestPlay", name := "scoreBehind", desc := "(IIII)I" } : Jvm.MethodName)) ∈ mm_ws := mm_memI 836 (by decide +kernel) rfl
theorem mw_837 : (Jvm.Cond.code ({ cls := "Linkcourt$BestPlay", name := "scoreBehind", desc := "(IIII)I" } : Jvm.MethodName) prog_2_method_11_code (6 : Nat) (Option.some Jvm.ClassFile.FieldType.int)) ∈ mm_ws := mm_memI 837 (by decide +kernel) rfl
theorem mw_838 : (Jvm.Cond.methodLink "Linkcourt$BestPlay" (107 : Nat) ({ cls := "java/lang/Math", name := "max", desc := "(II)I" } : Jvm.MethodName)) ∈ mm_ws := mm_memI 838 (by decide +kernel) rfl
theorem mw_839 : (Jvm.Cond.static ({ cls := "java/lang/Math", name := "max", desc := "(II)I" } : Jvm.MethodName)) ∈ mm_ws := mm_memI 839 (by decide +kernel) rfl
theorem mw_840 : (Jvm.Cond.code ({ cls := "java/lang/Math", name := "max", desc := "(II)I" } : Jvm.MethodName) prog_20_method_65_code (2 : Nat) (Option.some Jvm.ClassFile.FieldType.int)) ∈ mm_ws := mm_memI 840 (by decide +kernel) rfl
theorem mw_845 : (Jvm.Cond.methodLink "Linkcourt" (225 : Nat) ({ cls := "Linkcourt$BestPlay", name := "lengthOf", desc := "(JJI)I" } : Jvm.MethodName)) ∈ mm_ws := mm_memI 845 (by decide +kernel) rfl
theorem mw_846 : (Jvm.Cond.instanceMethod ({ cls := "Linkcourt$BestPlay", name := "lengthOf", desc := "(JJI)I" } : Jvm.MethodName)) ∈ mm_ws := mm_memI 846 (by decide +kernel) rfl
theorem mw_847 : (Jvm.Cond.selects "Linkcourt$BestPlay" ({ cls := "Linkcourt$BestPlay", name := "lengthOf", desc := "(JJI)I" } : Jvm.MethodName) ({ cls := "Linkcourt$BestPlay", name := "lengthOf", desc := "(JJI)I" } : Jvm.MethodName)) ∈ mm_ws := mm_memI 847 (by decide +kernel) rfl
theorem mw_848 : (Jvm.Cond.code ({ cls := "Linkcourt$BestPlay", name := "lengthOf", desc := "(JJI)I" } : Jvm.MethodName) prog_2_method_4_code (6 : Nat) (Option.some Jvm.ClassFile.FieldType.int)) ∈ mm_ws := mm_memI 848 (by decide +kernel) rfl
theorem mw_849 : (Jvm.Cond.methodLink "Linkcourt$BestPlay" (49 : Nat) ({ cls := "java/lang/Math", name := "abs", desc := "(I)I" } : Jvm.MethodName)) ∈ mm_ws := mm_memI 849 (by decide +kernel) rfl
theorem mw_850 : (Jvm.Cond.static ({ cls := "java/lang/Math", name := "abs", desc := "(I)I" } : Jvm.MethodName)) ∈ mm_ws := mm_memI 850 (by decide +kernel) rfl
theorem mw_851 : (Jvm.Cond.code ({ cls := "java/lang/Math", name := "abs", desc := "(I)I" } : Jvm.MethodName) prog_20_method_59_code (1 : Nat) (Option.some Jvm.ClassFile.FieldType.int)) ∈ mm_ws := mm_memI 851 (by decide +kernel) rfl
theorem mw_856 : (Jvm.Cond.methodLink "Linkcourt" (231 : Nat) ({ cls := "Linkcourt", name := "needLink", desc := "(III)V" } : Jvm.MethodName)) ∈ mm_ws := mm_memI 856 (by decide +kernel) rfl
theorem mw_858 : (Jvm.Cond.instanceMethod ({ cls := "Linkcourt", name := "needLink", desc := "(III)V" } : Jvm.MethodName)) ∈ mm_ws := mm_memI 858 (by decide +kernel) rfl
theorem mw_859 : (Jvm.Cond.code ({ cls := "Linkcourt", name := "needLink", desc := "(III)V" } : Jvm.MethodName) prog_1_method_37_code (4 : Nat) (Option.none : Option Jvm.ClassFile.FieldType)) ∈ mm_ws := mm_memI 859 (by decide +kernel) rfl
theorem mw_860 : (Jvm.Cond.methodLink "Linkcourt" (366 : Nat) ({ cls := "Linkcourt$Board", name := "hasEnd", desc := "(I)Z" } : Jvm.MethodName)) ∈ mm_ws := mm_memI 860 (by decide +kernel) rfl
theorem mw_861 : (Jvm.Cond.instanceMethod ({ cls := "Linkcourt$Board", name := "hasEnd", desc := "(I)Z" } : Jvm.MethodName)) ∈ mm_ws := mm_memI 861 (by decide +kernel) rfl
theorem mw_862 : (Jvm.Cond.selects "Linkcourt$Board" ({ cls := "Linkcourt$Board", name := "hasEnd", desc := "(I)Z" } : Jvm.MethodName) ({ cls := "Linkcourt$Board", name := "hasEnd", desc := "(I)Z" } : Jvm.MethodName)) ∈ mm_ws := mm_memI 862 (by decide +kernel) rfl
theorem mw_863 : (Jvm.Cond.code ({ cls := "Linkcourt$Board", name := "hasEnd", desc := "(I)Z" } : Jvm.MethodName) prog_3_method_9_code (2 : Nat) (Option.some Jvm.ClassFile.FieldType.boolean)) ∈ mm_ws := mm_memI 863 (by decide +kernel) rfl
theorem mw_865 : (Jvm.Cond.methodLink "Linkcourt" (371 : Nat) ({ cls := "Linkcourt", name := "isEndOf", desc := "(II)Z" } : Jvm.MethodName)) ∈ mm_ws := mm_memI 865 (by decide +kernel) rfl
theorem mw_867 : (Jvm.Cond.instanceMethod ({ cls := "Linkcourt", name := "isEndOf", desc := "(II)Z" } : Jvm.MethodName)) ∈ mm_ws := mm_memI 867 (by decide +kernel) rfl
theorem mw_868 : (Jvm.Cond.code ({ cls := "Linkcourt", name := "isEndOf", desc := "(II)Z" } : Jvm.MethodName) prog_1_method_38_code (3 : Nat) (Option.some Jvm.ClassFile.FieldType.boolean)) ∈ mm_ws := mm_memI 868 (by decide +kernel) rfl
theorem mw_870 : (Jvm.Cond.methodLink "Linkcourt" (234 : Nat) ({ cls := "Linkcourt$Links", name := "carrierOf", desc := "(JJII)J" } : Jvm.MethodName)) ∈ mm_ws := mm_memI 870 (by decide +kernel) rfl
theorem mw_871 : (Jvm.Cond.instanceMethod ({ cls := "Linkcourt$Links", name := "carrierOf", desc := "(JJII)J" } : Jvm.MethodName)) ∈ mm_ws := mm_memI 871 (by decide +kernel) rfl
theorem mw_872 : (Jvm.Cond.selects "Linkcourt$Links" ({ cls := "Linkcourt$Links", name := "carrierOf", desc := "(JJII)J" } : Jvm.MethodName) ({ cls := "Linkcourt$Links", name := "carrierOf", desc := "(JJII)J" } : Jvm.MethodName)) ∈ mm_ws := mm_memI 872 (by decide +kernel) rfl
theorem mw_873 : (Jvm.Cond.code ({ cls := "Linkcourt$Links", name := "carrierOf", desc := "(JJII)J" } : Jvm.MethodName) prog_6_method_2_code (10 : Nat) (Option.some Jvm.ClassFile.FieldType.long)) ∈ mm_ws := mm_memI 873 (by decide +kernel) rfl
theorem mw_874 : (Jvm.Cond.methodLink "Linkcourt$Links" (40 : Nat) ({ cls := "Linkcourt$Gaps", name := "take", desc := "(J)V" } : Jvm.MethodName)) ∈ mm_ws := mm_memI 874 (by decide +kernel) rfl
theorem mw_875 : (Jvm.Cond.methodLink "Linkcourt$Links" (44 : Nat) ({ cls := "java/util/Arrays", name := "fill", desc := "([BB)V" } : Jvm.MethodName)) ∈ mm_ws := mm_memI 875 (by decide +kernel) rfl
theorem mw_876 : (Jvm.Cond.methodLink "Linkcourt$Links" (50 : Nat) ({ cls := "Linkcourt$Gaps", name := "full", desc := "()I" } : Jvm.MethodName)) ∈ mm_ws := mm_memI 876 (by decide +kernel) rfl
theorem mw_877 : (Jvm.Cond.methodLink "Linkcourt$Links" (54 : Nat) ({ cls := "Linkcourt$Links", name := "holds", desc := "(III)Z" } : Jvm.MethodName)) ∈ mm_ws := mm_memI 877 (by decide +kernel) rfl
theorem mw_879 : (Jvm.Cond.instanceMethod ({ cls := "Linkcourt$Links", name := "holds", desc := "(III)Z" } : Jvm.MethodName)) ∈ mm_ws := mm_memI 879 (by decide +kernel) rfl
theorem mw_880 : (Jvm.Cond.code ({ cls := "Linkcourt$Links", name := "holds", desc := "(III)Z" } : Jvm.MethodName) prog_6_method_4_code (5 : Nat) (Option.some Jvm.ClassFile.FieldType.boolean)) ∈ mm_ws := mm_memI 880 (by decide +kernel) rfl
theorem mw_881 : (Jvm.Cond.methodLink "Linkcourt$Links" (84 : Nat) ({ cls := "Linkcourt$Links", name := "ties", desc := "(I)Z" } : Jvm.MethodName)) ∈ mm_ws := mm_memI 881 (by decide +kernel) rfl
theorem mw_883 : (Jvm.Cond.instanceMethod ({ cls := "Linkcourt$Links", name := "ties", desc := "(I)Z" } : Jvm.MethodName)) ∈ mm_ws := mm_memI 883 (by decide +kernel) rfl
theorem mw_884 : (Jvm.Cond.code ({ cls := "Linkcourt$Links", name := "ties", desc := "(I)Z" } : Jvm.MethodName) prog_6_method_7_code (5 : Nat) (Option.some Jvm.ClassFile.FieldType.boolean)) ∈ mm_ws := mm_memI 884 (by decide +kernel) rfl
theorem mw_885 : (Jvm.Cond.methodLink "Linkcourt$Links" (69 : Nat) ({ cls := "Linkcourt$Gaps", name := "spread", desc := "(I)J" } : Jvm.MethodName)) ∈ mm_ws := mm_memI 885 (by decide +kernel) rfl
theorem mw_886 : (Jvm.Cond.methodLink "Linkcourt$Links" (98 : Nat) ({ cls := "Linkcourt$Links", name := "cellsOf", desc := "(I)J" } : Jvm.MethodName)) ∈ mm_ws := mm_memI 886 (by decide +kernel) rfl
theorem mw_888 : (Jvm.Cond.instanceMethod ({ cls := "Linkcourt$Links", name := "cellsOf", desc := "(I)J" } : Jvm.MethodName)) ∈ mm_ws := mm_memI 888 (by decide +kernel) rfl
theorem mw_889 : (Jvm.Cond.code ({ cls := "Linkcourt$Links", name := "cellsOf", desc := "(I)J" } : Jvm.MethodName) prog_6_method_8_code (2 : Nat) (Option.some Jvm.ClassFile.FieldType.long)) ∈ mm_ws := mm_memI 889 (by decide +kernel) rfl
theorem mw_890 : (Jvm.Cond.methodLink "Linkcourt$Links" (107 : Nat) ({ cls := "Linkcourt$Board", name := "side", desc := "(I)J" } : Jvm.MethodName)) ∈ mm_ws := mm_memI 890 (by decide +kernel) rfl
theorem mw_891 : (Jvm.Cond.methodLink "Linkcourt$Links" (101 : Nat) ({ cls := "Linkcourt$Board", name := "reach", desc := "(JJ)J" } : Jvm.MethodName)) ∈ mm_ws := mm_memI 891 (by decide +kernel) rfl
theorem mw_892 : (Jvm.Cond.methodLink "Linkcourt$Links" (88 : Nat) ({ cls := "Linkcourt$Gaps", name := "pair", desc := "(II)I" } : Jvm.MethodName)) ∈ mm_ws := mm_memI 892 (by decide +kernel) rfl
theorem mw_893 : (Jvm.Cond.methodLink "Linkcourt$Links" (92 : Nat) ({ cls := "Linkcourt$Links", name := "hasAnswers", desc := "(III)Z" } : Jvm.MethodName)) ∈ mm_ws := mm_memI 893 (by decide +kernel) rfl
theorem mw_895 : (Jvm.Cond.instanceMethod ({ cls := "Linkcourt$Links", name := "hasAnswers", desc := "(III)Z" } : Jvm.MethodName)) ∈ mm_ws := mm_memI 895 (by decide +kernel) rfl
theorem mw_896 : (Jvm.Cond.code ({ cls := "Linkcourt$Links", name := "hasAnswers", desc := "(III)Z" } : Jvm.MethodName) prog_6_method_5_code (5 : Nat) (Option.some Jvm.ClassFile.FieldType.boolean)) ∈ mm_ws := mm_memI 896 (by decide +kernel) rfl
theorem mw_898 : (Jvm.Cond.methodLink "Linkcourt$Links" (95 : Nat) ({ cls := "Linkcourt$Links", name := "hasAnswer", desc := "(III)Z" } : Jvm.MethodName)) ∈ mm_ws := mm_memI 898 (by decide +kernel) rfl
theorem mw_900 : (Jvm.Cond.instanceMethod ({ cls := "Linkcourt$Links", name := "hasAnswer", desc := "(III)Z" } : Jvm.MethodName)) ∈ mm_ws := mm_memI 900 (by decide +kernel) rfl
theorem mw_901 : (Jvm.Cond.code ({ cls := "Linkcourt$Links", name := "hasAnswer", desc := "(III)Z" } : Jvm.MethodName) prog_6_method_6_code (6 : Nat) (Option.some Jvm.ClassFile.FieldType.boolean)) ∈ mm_ws := mm_memI 901 (by decide +kernel) rfl
theorem mw_902 : (Jvm.Cond.constantLong "Linkcourt$Links" (58 : Nat) (-1 : Int64)) ∈ mm_ws := mm_memI 902 (by decide +kernel) rfl
theorem mw_903 : (Jvm.Cond.methodLink "Linkcourt$Links" (63 : Nat) ({ cls := "java/lang/Integer", name := "bitCount", desc := "(I)I" } : Jvm.MethodName)) ∈ mm_ws := mm_memI 903 (by decide +kernel) rfl
theorem mw_904 : (Jvm.Cond.static ({ cls := "java/lang/Integer", name := "bitCount", desc := "(I)I" } : Jvm.MethodName)) ∈ mm_ws := mm_memI 904 (by decide +kernel) rfl
theorem mw_905 : (Jvm.Cond.code ({ cls := "java/lang/Integer", name := "bitCount", desc := "(I)I" } : Jvm.MethodName) prog_18_method_49_code (1 : Nat) (Option.some Jvm.ClassFile.FieldType.int)) ∈ mm_ws := mm_memI 905 (by decide +kernel) rfl
theorem mw_906 : (Jvm.Cond.constant "java/lang/Integer" (265 : Nat) (1431655765 : Int32)) ∈ mm_ws := mm_memI 906 (by decide +kernel) rfl
theorem mw_907 : (Jvm.Cond.constant "java/lang/Integer" (266 : Nat) (858993459 : Int32)) ∈ mm_ws := mm_memI 907 (by decide +kernel) rfl
theorem mw_908 : (Jvm.Cond.constant "java/lang/Integer" (267 : Nat) (252645135 : Int32)) ∈ mm_ws := mm_memI 908 (by decide +kernel) rfl
theorem mw_909 : (Jvm.Cond.constantLong "Linkcourt" (238 : Nat) (-1 : Int64)) ∈ mm_ws := mm_memI 909 (by decide +kernel) rfl
theorem mw_910 : (Jvm.Cond.methodLink "Linkcourt" (240 : Nat) ({ cls := "Linkcourt$Links", name := "answerIn", desc := "(JI)I" } : Jvm.MethodName)) ∈ mm_ws := mm_memI 910 (by decide +kernel) rfl
theorem mw_911 : (Jvm.Cond.instanceMethod ({ cls := "Linkcourt$Links", name := "answerIn", desc := "(JI)I" } : Jvm.MethodName)) ∈ mm_ws := mm_memI 911 (by decide +kernel) rfl
theorem mw_912 : (Jvm.Cond.selects "Linkcourt$Links" ({ cls := "Linkcourt$Links", name := "answerIn", desc := "(JI)I" } : Jvm.MethodName) ({ cls := "Linkcourt$Links", name := "answerIn", desc := "(JI)I" } : Jvm.MethodName)) ∈ mm_ws := mm_memI 912 (by decide +kernel) rfl
theorem mw_913 : (Jvm.Cond.code ({ cls := "Linkcourt$Links", name := "answerIn", desc := "(JI)I" } : Jvm.MethodName) prog_6_method_3_code (6 : Nat) (Option.some Jvm.ClassFile.FieldType.int)) ∈ mm_ws := mm_memI 913 (by decide +kernel) rfl
theorem mw_914 : (Jvm.Cond.methodLink "Linkcourt$Links" (73 : Nat) ({ cls := "Linkcourt$Gaps", name := "gather", desc := "(J)I" } : Jvm.MethodName)) ∈ mm_ws := mm_memI 914 (by decide +kernel) rfl
theorem mw_915 : (Jvm.Cond.instanceMethod ({ cls := "Linkcourt$Gaps", name := "gather", desc := "(J)I" } : Jvm.MethodName)) ∈ mm_ws := mm_memI 915 (by decide +kernel) rfl
theorem mw_916 : (Jvm.Cond.selects "Linkcourt$Gaps" ({ cls := "Linkcourt$Gaps", name := "gather", desc := "(J)I" } : Jvm.MethodName) ({ cls := "Linkcourt$Gaps", name := "gather", desc := "(J)I" } : Jvm.MethodName)) ∈ mm_ws := mm_memI 916 (by decide +kernel) rfl
theorem mw_917 : (Jvm.Cond.code ({ cls := "Linkcourt$Gaps", name := "gather", desc := "(J)I" } : Jvm.MethodName) prog_4_method_6_code (5 : Nat) (Option.some Jvm.ClassFile.FieldType.int)) ∈ mm_ws := mm_memI 917 (by decide +kernel) rfl
theorem mw_918 : (Jvm.Cond.methodLink "Linkcourt$Links" (81 : Nat) ({ cls := "Linkcourt$Gaps", name := "cellAt", desc := "(I)I" } : Jvm.MethodName)) ∈ mm_ws := mm_memI 918 (by decide +kernel) rfl
theorem mw_919 : (Jvm.Cond.instanceMethod ({ cls := "Linkcourt$Gaps", name := "cellAt", desc := "(I)I" } : Jvm.MethodName)) ∈ mm_ws := mm_memI 919 (by decide +kernel) rfl
theorem mw_920 : (Jvm.Cond.selects "Linkcourt$Gaps" ({ cls := "Linkcourt$Gaps", name := "cellAt", desc := "(I)I" } : Jvm.MethodName) ({ cls := "Linkcourt$Gaps", name := "cellAt", desc := "(I)I" } : Jvm.MethodName)) ∈ mm_ws := mm_memI 920 (by decide +kernel) rfl
theorem mw_921 : (Jvm.Cond.code ({ cls := "Linkcourt$Gaps", name := "cellAt", desc := "(I)I" } : Jvm.MethodName) prog_4_method_4_code (2 : Nat) (Option.some Jvm.ClassFile.FieldType.int)) ∈ mm_ws := mm_memI 921 (by decide +kernel) rfl
theorem mw_928 : (Jvm.Cond.methodLink "Linkcourt" (251 : Nat) ({ cls := "Linkcourt$Play", name := "stonesAhead", desc := "(II)J" } : Jvm.MethodName)) ∈ mm_ws := mm_memI 928 (by decide +kernel) rfl
theorem mw_935 : (Jvm.Cond.methodLink "Linkcourt" (267 : Nat) ({ cls := "Linkcourt$Ways", name := "fewest", desc := "(IJJ)I" } : Jvm.MethodName)) ∈ mm_ws := mm_memI 935 (by decide +kernel) rfl
theorem mw_936 : (Jvm.Cond.instanceMethod ({ cls := "Linkcourt$Ways", name := "fewest", desc := "(IJJ)I" } : Jvm.MethodName)) ∈ mm_ws := mm_memI 936 (by decide +kernel) rfl
theorem mw_937 : (Jvm.Cond.selects "Linkcourt$Ways" ({ cls := "Linkcourt$Ways", name := "fewest", desc := "(IJJ)I" } : Jvm.MethodName) ({ cls := "Linkcourt$Ways", name := "fewest", desc := "(IJJ)I" } : Jvm.MethodName)) ∈ mm_ws := mm_memI 937 (by decide +kernel) rfl
theorem mw_938 : (Jvm.Cond.code ({ cls := "Linkcourt$Ways", name := "fewest", desc := "(IJJ)I" } : Jvm.MethodName) prog_11_method_2_code (7 : Nat) (Option.some Jvm.ClassFile.FieldType.int)) ∈ mm_ws := mm_memI 938 (by decide +kernel) rfl
theorem mw_939 : (Jvm.Cond.methodLink "Linkcourt$Ways" (25 : Nat) ({ cls := "Linkcourt$Ways", name := "fewestToThree", desc := "(JJ)I" } : Jvm.MethodName)) ∈ mm_ws := mm_memI 939 (by decide +kernel) rfl
theorem mw_941 : (Jvm.Cond.instanceMethod ({ cls := "Linkcourt$Ways", name := "fewestToThree", desc := "(JJ)I" } : Jvm.MethodName)) ∈ mm_ws := mm_memI 941 (by decide +kernel) rfl
theorem mw_942 : (Jvm.Cond.code ({ cls := "Linkcourt$Ways", name := "fewestToThree", desc := "(JJ)I" } : Jvm.MethodName) prog_11_method_4_code (8 : Nat) (Option.some Jvm.ClassFile.FieldType.int)) ∈ mm_ws := mm_memI 942 (by decide +kernel) rfl
theorem mw_943 : (Jvm.Cond.methodLink "Linkcourt$Ways" (33 : Nat) ({ cls := "Linkcourt$Board", name := "side", desc := "(I)J" } : Jvm.MethodName)) ∈ mm_ws := mm_memI 943 (by decide +kernel) rfl
theorem mw_944 : (Jvm.Cond.methodLink "Linkcourt$Ways" (37 : Nat) ({ cls := "Linkcourt$Ways", name := "measure", desc := "(IJJJ)V" } : Jvm.MethodName)) ∈ mm_ws := mm_memI 944 (by decide +kernel) rfl
theorem mw_946 : (Jvm.Cond.instanceMethod ({ cls := "Linkcourt$Ways", name := "measure", desc := "(IJJJ)V" } : Jvm.MethodName)) ∈ mm_ws := mm_memI 946 (by decide +kernel) rfl
theorem mw_947 : (Jvm.Cond.code ({ cls := "Linkcourt$Ways", name := "measure", desc := "(IJJJ)V" } : Jvm.MethodName) prog_11_method_5_code (15 : Nat) (Option.none : Option Jvm.ClassFile.FieldType)) ∈ mm_ws := mm_memI 947 (by decide +kernel) rfl
theorem mw_948 : (Jvm.Cond.methodLink "Linkcourt$Ways" (57 : Nat) ({ cls := "Linkcourt$Board", name := "reach", desc := "(JJ)J" } : Jvm.MethodName)) ∈ mm_ws := mm_memI 948 (by decide +kernel) rfl
theorem mw_949 : (Jvm.Cond.methodLink "Linkcourt$Ways" (65 : Nat) ({ cls := "Linkcourt$Ways", name := "note", desc := "(IJI)V" } : Jvm.MethodName)) ∈ mm_ws := mm_memI 949 (by decide +kernel) rfl
theorem mw_951 : (Jvm.Cond.instanceMethod ({ cls := "Linkcourt$Ways", name := "note", desc := "(IJI)V" } : Jvm.MethodName)) ∈ mm_ws := mm_memI 951 (by decide +kernel) rfl
theorem mw_952 : (Jvm.Cond.code ({ cls := "Linkcourt$Ways", name := "note", desc := "(IJI)V" } : Jvm.MethodName) prog_11_method_7_code (7 : Nat) (Option.none : Option Jvm.ClassFile.FieldType)) ∈ mm_ws := mm_memI 952 (by decide +kernel) rfl
theorem mw_954 : (Jvm.Cond.methodLink "Linkcourt$Ways" (69 : Nat) ({ cls := "Linkcourt$Ways", name := "beside", desc := "(J)J" } : Jvm.MethodName)) ∈ mm_ws := mm_memI 954 (by decide +kernel) rfl
theorem mw_956 : (Jvm.Cond.instanceMethod ({ cls := "Linkcourt$Ways", name := "beside", desc := "(J)J" } : Jvm.MethodName)) ∈ mm_ws := mm_memI 956 (by decide +kernel) rfl
theorem mw_957 : (Jvm.Cond.code ({ cls := "Linkcourt$Ways", name := "beside", desc := "(J)J" } : Jvm.MethodName) prog_11_method_6_code (6 : Nat) (Option.some Jvm.ClassFile.FieldType.long)) ∈ mm_ws := mm_memI 957 (by decide +kernel) rfl
theorem mw_958 : (Jvm.Cond.methodLink "Linkcourt$Ways" (75 : Nat) ({ cls := "Linkcourt$Board", name := "around", desc := "(I)J" } : Jvm.MethodName)) ∈ mm_ws := mm_memI 958 (by decide +kernel) rfl
theorem mw_959 : (Jvm.Cond.instanceMethod ({ cls := "Linkcourt$Board", name := "around", desc := "(I)J" } : Jvm.MethodName)) ∈ mm_ws := mm_memI 959 (by decide +kernel) rfl
theorem mw_960 : (Jvm.Cond.selects "Linkcourt$Board" ({ cls := "Linkcourt$Board", name := "around", desc := "(I)J" } : Jvm.MethodName) ({ cls := "Linkcourt$Board", name := "around", desc := "(I)J" } : Jvm.MethodName)) ∈ mm_ws := mm_memI 960 (by decide +kernel) rfl
theorem mw_961 : (Jvm.Cond.code ({ cls := "Linkcourt$Board", name := "around", desc := "(I)J" } : Jvm.MethodName) prog_3_method_13_code (2 : Nat) (Option.some Jvm.ClassFile.FieldType.long)) ∈ mm_ws := mm_memI 961 (by decide +kernel) rfl
theorem mw_962 : (Jvm.Cond.constantLong "Linkcourt$Ways" (73 : Nat) (-1 : Int64)) ∈ mm_ws := mm_memI 962 (by decide +kernel) rfl
theorem mw_963 : (Jvm.Cond.methodLink "Linkcourt$Ways" (48 : Nat) ({ cls := "Linkcourt$Ways", name := "cost", desc := "(II)I" } : Jvm.MethodName)) ∈ mm_ws := mm_memI 963 (by decide +kernel) rfl
theorem mw_965 : (Jvm.Cond.instanceMethod ({ cls := "Linkcourt$Ways", name := "cost", desc := "(II)I" } : Jvm.MethodName)) ∈ mm_ws := mm_memI 965 (by decide +kernel) rfl
theorem mw_966 : (Jvm.Cond.code ({ cls := "Linkcourt$Ways", name := "cost", desc := "(II)I" } : Jvm.MethodName) prog_11_method_8_code (4 : Nat) (Option.some Jvm.ClassFile.FieldType.int)) ∈ mm_ws := mm_memI 966 (by decide +kernel) rfl
theorem mw_967 : (Jvm.Cond.methodLink "Linkcourt$Ways" (52 : Nat) ({ cls := "java/lang/Math", name := "min", desc := "(II)I" } : Jvm.MethodName)) ∈ mm_ws := mm_memI 967 (by decide +kernel) rfl
theorem mw_968 : (Jvm.Cond.static ({ cls := "java/lang/Math", name := "min", desc := "(II)I" } : Jvm.MethodName)) ∈ mm_ws := mm_memI 968 (by decide +kernel) rfl
theorem mw_969 : (Jvm.Cond.code ({ cls := "java/lang/Math", name := "min", desc := "(II)I" } : Jvm.MethodName) prog_20_method_69_code (2 : Nat) (Option.some Jvm.ClassFile.FieldType.int)) ∈ mm_ws := mm_memI 969 (by decide +kernel) rfl
theorem mw_970 : (Jvm.Cond.methodLink "Linkcourt$Ways" (29 : Nat) ({ cls := "Linkcourt$Ways", name := "fewestToTwo", desc := "(IIJJ)I" } : Jvm.MethodName)) ∈ mm_ws := mm_memI 970 (by decide +kernel) rfl
theorem mw_972 : (Jvm.Cond.instanceMethod ({ cls := "Linkcourt$Ways", name := "fewestToTwo", desc := "(IIJJ)I" } : Jvm.MethodName)) ∈ mm_ws := mm_memI 972 (by decide +kernel) rfl
theorem mw_973 : (Jvm.Cond.code ({ cls := "Linkcourt$Ways", name := "fewestToTwo", desc := "(IIJJ)I" } : Jvm.MethodName) prog_11_method_3_code (9 : Nat) (Option.some Jvm.ClassFile.FieldType.int)) ∈ mm_ws := mm_memI 973 (by decide +kernel) rfl
theorem mw_978 : (Jvm.Cond.constant "Linkcourt" (271 : Nat) (1000000 : Int32)) ∈ mm_ws := mm_memI 978 (by decide +kernel) rfl
theorem mw_981 : (Jvm.Cond.methodLink "Linkcourt" (276 : Nat) ({ cls := "Linkcourt", name := "playedOutFrom", desc := "(I)J" } : Jvm.MethodName)) ∈ mm_ws := mm_memI 981 (by decide +kernel) rfl
theorem mw_983 : (Jvm.Cond.instanceMethod ({ cls := "Linkcourt", name := "playedOutFrom", desc := "(I)J" } : Jvm.MethodName)) ∈ mm_ws := mm_memI 983 (by decide +kernel) rfl
theorem mw_984 : (Jvm.Cond.code ({ cls := "Linkcourt", name := "playedOutFrom", desc := "(I)J" } : Jvm.MethodName) prog_1_method_39_code (2 : Nat) (Option.some Jvm.ClassFile.FieldType.long)) ∈ mm_ws := mm_memI 984 (by decide +kernel) rfl
theorem mw_985 : (Jvm.Cond.methodLink "Linkcourt" (377 : Nat) ({ cls := "Linkcourt$PlayingOut", name := "stonesOf0", desc := "(JJII)J" } : Jvm.MethodName)) ∈ mm_ws := mm_memI 985 (by decide +kernel) rfl
theorem mw_986 : (Jvm.Cond.instanceMethod ({ cls := "Linkcourt$PlayingOut", name := "stonesOf0", desc := "(JJII)J" } : Jvm.MethodName)) ∈ mm_ws := mm_memI 986 (by decide +kernel) rfl
theorem mw_987 : (Jvm.Cond.selects "Linkcourt$PlayingOut" ({ cls := "Linkcourt$PlayingOut", name := "stonesOf0", desc := "(JJII)J" } : Jvm.MethodName) ({ cls := "Linkcourt$PlayingOut", name := "stonesOf0", desc := "(JJII)J" } : Jvm.MethodName)) ∈ mm_ws := mm_memI 987 (by decide +kernel) rfl
theorem mw_988 : (Jvm.Cond.code ({ cls := "Linkcourt$PlayingOut", name := "stonesOf0", desc := "(JJII)J" } : Jvm.MethodName) prog_9_method_2_code (17 : Nat) (Option.some Jvm.ClassFile.FieldType.long)) ∈ mm_ws := mm_memI 988 (by decide +kernel) rfl
theorem mw_989 : (Jvm.Cond.constantLong "Linkcourt$PlayingOut" (24 : Nat) (-1 : Int64)) ∈ mm_ws := mm_memI 989 (by decide +kernel) rfl
theorem mw_990 : (Jvm.Cond.methodLink "Linkcourt$PlayingOut" (26 : Nat) ({ cls := "Linkcourt$PlayingOut", name := "saving", desc := "(IJJ)I" } : Jvm.MethodName)) ∈ mm_ws := mm_memI 990 (by decide +kernel) rfl
theorem mw_992 : (Jvm.Cond.instanceMethod ({ cls := "Linkcourt$PlayingOut", name := "saving", desc := "(IJJ)I" } : Jvm.MethodName)) ∈ mm_ws := mm_memI 992 (by decide +kernel) rfl
theorem mw_993 : (Jvm.Cond.code ({ cls := "Linkcourt$PlayingOut", name := "saving", desc := "(IJJ)I" } : Jvm.MethodName) prog_9_method_3_code (10 : Nat) (Option.some Jvm.ClassFile.FieldType.int)) ∈ mm_ws := mm_memI 993 (by decide +kernel) rfl
theorem mw_994 : (Jvm.Cond.methodLink "Linkcourt$PlayingOut" (34 : Nat) ({ cls := "Linkcourt$Board", name := "next", desc := "(II)I" } : Jvm.MethodName)) ∈ mm_ws := mm_memI 994 (by decide +kernel) rfl
theorem mw_995 : (Jvm.Cond.methodLink "Linkcourt$PlayingOut" (38 : Nat) ({ cls := "Linkcourt$PlayingOut", name := "between", desc := "(IIJ)J" } : Jvm.MethodName)) ∈ mm_ws := mm_memI 995 (by decide +kernel) rfl
theorem mw_997 : (Jvm.Cond.instanceMethod ({ cls := "Linkcourt$PlayingOut", name := "between", desc := "(IIJ)J" } : Jvm.MethodName)) ∈ mm_ws := mm_memI 997 (by decide +kernel) rfl
theorem mw_998 : (Jvm.Cond.code ({ cls := "Linkcourt$PlayingOut", name := "between", desc := "(IIJ)J" } : Jvm.MethodName) prog_9_method_4_code (7 : Nat) (Option.some Jvm.ClassFile.FieldType.long)) ∈ mm_ws := mm_memI 998 (by decide +kernel) rfl
theorem mw_1000 : (Jvm.Cond.methodLink "Linkcourt$PlayingOut" (49 : Nat) ({ cls := "Linkcourt$Board", name := "around", desc := "(I)J" } : Jvm.MethodName)) ∈ mm_ws := mm_memI 1000 (by decide +kernel) rfl
theorem mw_1001 : (Jvm.Cond.methodLink "Linkcourt$PlayingOut" (53 : Nat) ({ cls := "java/lang/Long", name := "bitCount", desc := "(J)I" } : Jvm.MethodName)) ∈ mm_ws := mm_memI 1001 (by decide +kernel) rfl
theorem mw_1003 : (Jvm.Cond.methodLink "Linkcourt$PlayingOut" (30 : Nat) ({ cls := "Linkcourt$PlayingOut", name := "drawnOf", desc := "(J)I" } : Jvm.MethodName)) ∈ mm_ws := mm_memI 1003 (by decide +kernel) rfl
theorem mw_1005 : (Jvm.Cond.instanceMethod ({ cls := "Linkcourt$PlayingOut", name := "drawnOf", desc := "(J)I" } : Jvm.MethodName)) ∈ mm_ws := mm_memI 1005 (by decide +kernel) rfl
theorem mw_1006 : (Jvm.Cond.code ({ cls := "Linkcourt$PlayingOut", name := "drawnOf", desc := "(J)I" } : Jvm.MethodName) prog_9_method_5_code (7 : Nat) (Option.some Jvm.ClassFile.FieldType.int)) ∈ mm_ws := mm_memI 1006 (by decide +kernel) rfl
theorem mw_1007 : (Jvm.Cond.methodLink "Linkcourt$PlayingOut" (58 : Nat) ({ cls := "Linkcourt$PlayingOut", name := "draw", desc := "(I)I" } : Jvm.MethodName)) ∈ mm_ws := mm_memI 1007 (by decide +kernel) rfl
theorem mw_1009 : (Jvm.Cond.instanceMethod ({ cls := "Linkcourt$PlayingOut", name := "draw", desc := "(I)I" } : Jvm.MethodName)) ∈ mm_ws := mm_memI 1009 (by decide +kernel) rfl
theorem mw_1010 : (Jvm.Cond.code ({ cls := "Linkcourt$PlayingOut", name := "draw", desc := "(I)I" } : Jvm.MethodName) prog_9_method_6_code (2 : Nat) (Option.some Jvm.ClassFile.FieldType.int)) ∈ mm_ws := mm_memI 1010 (by decide +kernel) rfl
theorem mw_1011 : (Jvm.Cond.constantLong "Linkcourt$PlayingOut" (62 : Nat) (1103515245 : Int64)) ∈ mm_ws := mm_memI 1011 (by decide +kernel) rfl
theorem mw_1012 : (Jvm.Cond.constantLong "Linkcourt$PlayingOut" (64 : Nat) (12345 : Int64)) ∈ mm_ws := mm_memI 1012 (by decide +kernel) rfl
theorem mw_1013 : (Jvm.Cond.constantLong "Linkcourt$PlayingOut" (66 : Nat) (2147483648 : Int64)) ∈ mm_ws := mm_memI 1013 (by decide +kernel) rfl
theorem mw_1014 : (Jvm.Cond.constantLong "Linkcourt$PlayingOut" (68 : Nat) (65536 : Int64)) ∈ mm_ws := mm_memI 1014 (by decide +kernel) rfl
theorem mw_1015 : (Jvm.Cond.methodLink "Linkcourt" (279 : Nat) ({ cls := "Linkcourt$Board", name := "hasJoined", desc := "(IJ)Z" } : Jvm.MethodName)) ∈ mm_ws := mm_memI 1015 (by decide +kernel) rfl
theorem mw_1026 : (Jvm.Cond.methodLink "Linkcourt" (309 : Nat) ({ cls := "Linkcourt$Patterns", name := "keep", desc := "()I" } : Jvm.MethodName)) ∈ mm_ws := mm_memI 1026 (by decide +kernel) rfl
theorem mw_1027 : (Jvm.Cond.instanceMethod ({ cls := "Linkcourt$Patterns", name := "keep", desc := "()I" } : Jvm.MethodName)) ∈ mm_ws := mm_memI 1027 (by decide +kernel) rfl
theorem mw_1028 : (Jvm.Cond.selects "Linkcourt$Patterns" ({ cls := "Linkcourt$Patterns", name := "keep", desc := "()I" } : Jvm.MethodName) ({ cls := "Linkcourt$Patterns", name := "keep", desc := "()I" } : Jvm.MethodName)) ∈ mm_ws := mm_memI 1028 (by decide +kernel) rfl
theorem mw_1029 : (Jvm.Cond.code ({ cls := "Linkcourt$Patterns", name := "keep", desc := "()I" } : Jvm.MethodName) prog_7_method_8_code (2 : Nat) (Option.some Jvm.ClassFile.FieldType.int)) ∈ mm_ws := mm_memI 1029 (by decide +kernel) rfl
theorem mw_1030 : (Jvm.Cond.methodLink "Linkcourt$Patterns" (49 : Nat) ({ cls := "Linkcourt$Patterns", name := "translate", desc := "(I)V" } : Jvm.MethodName)) ∈ mm_ws := mm_memI 1030 (by decide +kernel) rfl
theorem mw_1032 : (Jvm.Cond.instanceMethod ({ cls := "Linkcourt$Patterns", name := "translate", desc := "(I)V" } : Jvm.MethodName)) ∈ mm_ws := mm_memI 1032 (by decide +kernel) rfl
theorem mw_1033 : (Jvm.Cond.code ({ cls := "Linkcourt$Patterns", name := "translate", desc := "(I)V" } : Jvm.MethodName) prog_7_method_9_code (8 : Nat) (Option.none : Option Jvm.ClassFile.FieldType)) ∈ mm_ws := mm_memI 1033 (by decide +kernel) rfl
theorem mw_1034 : (Jvm.Cond.methodLink "Linkcourt$Patterns" (57 : Nat) ({ cls := "Linkcourt$Patterns", name := "character", desc := "(II)C" } : Jvm.MethodName)) ∈ mm_ws := mm_memI 1034 (by decide +kernel) rfl
theorem mw_1036 : (Jvm.Cond.instanceMethod ({ cls := "Linkcourt$Patterns", name := "character", desc := "(II)C" } : Jvm.MethodName)) ∈ mm_ws := mm_memI 1036 (by decide +kernel) rfl
theorem mw_1037 : (Jvm.Cond.code ({ cls := "Linkcourt$Patterns", name := "character", desc := "(II)C" } : Jvm.MethodName) prog_7_method_10_code (3 : Nat) (Option.some Jvm.ClassFile.FieldType.char)) ∈ mm_ws := mm_memI 1037 (by decide +kernel) rfl
theorem mw_1044 : (Jvm.Cond.methodLink "Linkcourt" (331 : Nat) ({ cls := "Linkcourt$Times", name := "start", desc := "(III)V" } : Jvm.MethodName)) ∈ mm_ws := mm_memI 1044 (by decide +kernel) rfl
theorem mw_1051 : (Jvm.Cond.methodLink "Linkcourt" (338 : Nat) ({ cls := "Linkcourt$Times", name := "spend", desc := "(II)V" } : Jvm.MethodName)) ∈ mm_ws := mm_memI 1051 (by decide +kernel) rfl
theorem mw_1052 : (Jvm.Cond.instanceMethod ({ cls := "Linkcourt$Times", name := "spend", desc := "(II)V" } : Jvm.MethodName)) ∈ mm_ws := mm_memI 1052 (by decide +kernel) rfl
theorem mw_1053 : (Jvm.Cond.selects "Linkcourt$Times" ({ cls := "Linkcourt$Times", name := "spend", desc := "(II)V" } : Jvm.MethodName) ({ cls := "Linkcourt$Times", name := "spend", desc := "(II)V" } : Jvm.MethodName)) ∈ mm_ws := mm_memI 1053 (by decide +kernel) rfl
theorem mw_1054 : (Jvm.Cond.code ({ cls := "Linkcourt$Times", name := "spend", desc := "(II)V" } : Jvm.MethodName) prog_10_method_5_code (6 : Nat) (Option.none : Option Jvm.ClassFile.FieldType)) ∈ mm_ws := mm_memI 1054 (by decide +kernel) rfl
theorem mw_1055 : (Jvm.Cond.methodLink "Linkcourt$Times" (46 : Nat) ({ cls := "java/lang/Math", name := "min", desc := "(II)I" } : Jvm.MethodName)) ∈ mm_ws := mm_memI 1055 (by decide +kernel) rfl
theorem mw_1061 : (Jvm.Cond.methodLink "Linkcourt" (348 : Nat) ({ cls := "Linkcourt$Ladder", name := "takeOn", desc := "()I" } : Jvm.MethodName)) ∈ mm_ws := mm_memI 1061 (by decide +kernel) rfl
theorem mw_1062 : (Jvm.Cond.instanceMethod ({ cls := "Linkcourt$Ladder", name := "takeOn", desc := "()I" } : Jvm.MethodName)) ∈ mm_ws := mm_memI 1062 (by decide +kernel) rfl
theorem mw_1063 : (Jvm.Cond.selects "Linkcourt$Ladder" ({ cls := "Linkcourt$Ladder", name := "takeOn", desc := "()I" } : Jvm.MethodName) ({ cls := "Linkcourt$Ladder", name := "takeOn", desc := "()I" } : Jvm.MethodName)) ∈ mm_ws := mm_memI 1063 (by decide +kernel) rfl
theorem mw_1064 : (Jvm.Cond.code ({ cls := "Linkcourt$Ladder", name := "takeOn", desc := "()I" } : Jvm.MethodName) prog_5_method_3_code (2 : Nat) (Option.some Jvm.ClassFile.FieldType.int)) ∈ mm_ws := mm_memI 1064 (by decide +kernel) rfl
theorem mw_1071 : (Jvm.Cond.methodLink "Linkcourt" (360 : Nat) ({ cls := "Linkcourt$Ladder", name := "enter", desc := "(II)I" } : Jvm.MethodName)) ∈ mm_ws := mm_memI 1071 (by decide +kernel) rfl
theorem mw_1072 : (Jvm.Cond.instanceMethod ({ cls := "Linkcourt$Ladder", name := "enter", desc := "(II)I" } : Jvm.MethodName)) ∈ mm_ws := mm_memI 1072 (by decide +kernel) rfl
theorem mw_1073 : (Jvm.Cond.selects "Linkcourt$Ladder" ({ cls := "Linkcourt$Ladder", name := "enter", desc := "(II)I" } : Jvm.MethodName) ({ cls := "Linkcourt$Ladder", name := "enter", desc := "(II)I" } : Jvm.MethodName)) ∈ mm_ws := mm_memI 1073 (by decide +kernel) rfl
theorem mw_1074 : (Jvm.Cond.code ({ cls := "Linkcourt$Ladder", name := "enter", desc := "(II)I" } : Jvm.MethodName) prog_5_method_4_code (5 : Nat) (Option.some Jvm.ClassFile.FieldType.int)) ∈ mm_ws := mm_memI 1074 (by decide +kernel) rfl
theorem mw_1075 : (Jvm.Cond.methodLink "Linkcourt$Ladder" (32 : Nat) ({ cls := "java/lang/Math", name := "floorDiv", desc := "(II)I" } : Jvm.MethodName)) ∈ mm_ws := mm_memI 1075 (by decide +kernel) rfl
theorem mw_1076 : (Jvm.Cond.static ({ cls := "java/lang/Math", name := "floorDiv", desc := "(II)I" } : Jvm.MethodName)) ∈ mm_ws := mm_memI 1076 (by decide +kernel) rfl
theorem mw_1077 : (Jvm.Cond.code ({ cls := "java/lang/Math", name := "floorDiv", desc := "(II)I" } : Jvm.MethodName) prog_20_method_47_code (3 : Nat) (Option.some Jvm.ClassFile.FieldType.int)) ∈ mm_ws := mm_memI 1077 (by decide +kernel) rfl
theorem mw_1078 : (Jvm.Cond.methodLink "Linkcourt$Ladder" (38 : Nat) ({ cls := "java/lang/Math", name := "min", desc := "(II)I" } : Jvm.MethodName)) ∈ mm_ws := mm_memI 1078 (by decide +kernel) rfl
theorem mw_1079 : (Jvm.Cond.methodLink "Linkcourt$Ladder" (41 : Nat) ({ cls := "java/lang/Math", name := "max", desc := "(II)I" } : Jvm.MethodName)) ∈ mm_ws := mm_memI 1079 (by decide +kernel) rfl
theorem mw_1080 : (Jvm.Cond.methodLink "Linkcourt$Ladder" (44 : Nat) ({ cls := "Linkcourt$Ladder", name := "climb", desc := "(II)V" } : Jvm.MethodName)) ∈ mm_ws := mm_memI 1080 (by decide +kernel) rfl
theorem mw_1082 : (Jvm.Cond.instanceMethod ({ cls := "Linkcourt$Ladder", name := "climb", desc := "(II)V" } : Jvm.MethodName)) ∈ mm_ws := mm_memI 1082 (by decide +kernel) rfl
theorem mw_1083 : (Jvm.Cond.code ({ cls := "Linkcourt$Ladder", name := "climb", desc := "(II)V" } : Jvm.MethodName) prog_5_method_5_code (5 : Nat) (Option.none : Option Jvm.ClassFile.FieldType)) ∈ mm_ws := mm_memI 1083 (by decide +kernel) rfl
theorem mw_1104 : (Jvm.Cond.methodLink "Linkcourt" (221 : Nat) ({ cls := "Linkcourt$BestPlay", name := "winsOf", desc := "(JJI)J" } : Jvm.MethodName)) ∈ mm_ws := mm_memI 1104 (by decide +kernel) rfl
theorem mw_1105 : (Jvm.Cond.instanceMethod ({ cls := "Linkcourt$BestPlay", name := "winsOf", desc := "(JJI)J" } : Jvm.MethodName)) ∈ mm_ws := mm_memI 1105 (by decide +kernel) rfl
theorem mw_1106 : (Jvm.Cond.selects "Linkcourt$BestPlay" ({ cls := "Linkcourt$BestPlay", name := "winsOf", desc := "(JJI)J" } : Jvm.MethodName) ({ cls := "Linkcourt$BestPlay", name := "winsOf", desc := "(JJI)J" } : Jvm.MethodName)) ∈ mm_ws := mm_memI 1106 (by decide +kernel) rfl
theorem mw_1107 : (Jvm.Cond.code ({ cls := "Linkcourt$BestPlay", name := "winsOf", desc := "(JJI)J" } : Jvm.MethodName) prog_2_method_5_code (8 : Nat) (Option.some Jvm.ClassFile.FieldType.long)) ∈ mm_ws := mm_memI 1107 (by decide +kernel) rfl
theorem mw_1112 : (Jvm.Cond.methodLink "Linkcourt" (228 : Nat) ({ cls := "Linkcourt$BestPlay", name := "deadOf", desc := "(JJI)J" } : Jvm.MethodName)) ∈ mm_ws := mm_memI 1112 (by decide +kernel) rfl
theorem mw_1113 : (Jvm.Cond.instanceMethod ({ cls := "Linkcourt$BestPlay", name := "deadOf", desc := "(JJI)J" } : Jvm.MethodName)) ∈ mm_ws := mm_memI 1113 (by decide +kernel) rfl
theorem mw_1114 : (Jvm.Cond.selects "Linkcourt$BestPlay" ({ cls := "Linkcourt$BestPlay", name := "deadOf", desc := "(JJI)J" } : Jvm.MethodName) ({ cls := "Linkcourt$BestPlay", name := "deadOf", desc := "(JJI)J" } : Jvm.MethodName)) ∈ mm_ws := mm_memI 1114 (by decide +kernel) rfl
theorem mw_1115 : (Jvm.Cond.code ({ cls := "Linkcourt$BestPlay", name := "deadOf", desc := "(JJI)J" } : Jvm.MethodName) prog_2_method_6_code (10 : Nat) (Option.some Jvm.ClassFile.FieldType.long)) ∈ mm_ws := mm_memI 1115 (by decide +kernel) rfl
theorem mw_1129 : (Jvm.Cond.methodLink "Linkcourt" (321 : Nat) ({ cls := "Linkcourt$Patterns", name := "placesByText", desc := "(IJJ)J" } : Jvm.MethodName)) ∈ mm_ws := mm_memI 1129 (by decide +kernel) rfl
theorem mw_1130 : (Jvm.Cond.instanceMethod ({ cls := "Linkcourt$Patterns", name := "placesByText", desc := "(IJJ)J" } : Jvm.MethodName)) ∈ mm_ws := mm_memI 1130 (by decide +kernel) rfl
theorem mw_1131 : (Jvm.Cond.selects "Linkcourt$Patterns" ({ cls := "Linkcourt$Patterns", name := "placesByText", desc := "(IJJ)J" } : Jvm.MethodName) ({ cls := "Linkcourt$Patterns", name := "placesByText", desc := "(IJJ)J" } : Jvm.MethodName)) ∈ mm_ws := mm_memI 1131 (by decide +kernel) rfl
theorem mw_1132 : (Jvm.Cond.code ({ cls := "Linkcourt$Patterns", name := "placesByText", desc := "(IJJ)J" } : Jvm.MethodName) prog_7_method_16_code (9 : Nat) (Option.some Jvm.ClassFile.FieldType.long)) ∈ mm_ws := mm_memI 1132 (by decide +kernel) rfl
theorem mw_1133 : (Jvm.Cond.methodLink "Linkcourt$Patterns" (90 : Nat) ({ cls := "Linkcourt$Patterns", name := "textFits", desc := "(IIJJ)Z" } : Jvm.MethodName)) ∈ mm_ws := mm_memI 1133 (by decide +kernel) rfl
theorem mw_1135 : (Jvm.Cond.instanceMethod ({ cls := "Linkcourt$Patterns", name := "textFits", desc := "(IIJJ)Z" } : Jvm.MethodName)) ∈ mm_ws := mm_memI 1135 (by decide +kernel) rfl
theorem mw_1136 : (Jvm.Cond.code ({ cls := "Linkcourt$Patterns", name := "textFits", desc := "(IIJJ)Z" } : Jvm.MethodName) prog_7_method_17_code (13 : Nat) (Option.some Jvm.ClassFile.FieldType.boolean)) ∈ mm_ws := mm_memI 1136 (by decide +kernel) rfl
theorem mw_1137 : (Jvm.Cond.methodLink "Linkcourt$Patterns" (94 : Nat) ({ cls := "Linkcourt$Patterns", name := "textFitsTurned", desc := "(IIIJJ)Z" } : Jvm.MethodName)) ∈ mm_ws := mm_memI 1137 (by decide +kernel) rfl
theorem mw_1139 : (Jvm.Cond.instanceMethod ({ cls := "Linkcourt$Patterns", name := "textFitsTurned", desc := "(IIIJJ)Z" } : Jvm.MethodName)) ∈ mm_ws := mm_memI 1139 (by decide +kernel) rfl
theorem mw_1140 : (Jvm.Cond.code ({ cls := "Linkcourt$Patterns", name := "textFitsTurned", desc := "(IIIJJ)Z" } : Jvm.MethodName) prog_7_method_18_code (10 : Nat) (Option.some Jvm.ClassFile.FieldType.boolean)) ∈ mm_ws := mm_memI 1140 (by decide +kernel) rfl
theorem mw_1165 : (Jvm.Cond.methodLink "Linkcourt" (285 : Nat) ({ cls := "Linkcourt$Patterns", name := "canType", desc := "(JI)Z" } : Jvm.MethodName)) ∈ mm_ws := mm_memI 1165 (by decide +kernel) rfl
theorem mw_1166 : (Jvm.Cond.instanceMethod ({ cls := "Linkcourt$Patterns", name := "canType", desc := "(JI)Z" } : Jvm.MethodName)) ∈ mm_ws := mm_memI 1166 (by decide +kernel) rfl
theorem mw_1167 : (Jvm.Cond.selects "Linkcourt$Patterns" ({ cls := "Linkcourt$Patterns", name := "canType", desc := "(JI)Z" } : Jvm.MethodName) ({ cls := "Linkcourt$Patterns", name := "canType", desc := "(JI)Z" } : Jvm.MethodName)) ∈ mm_ws := mm_memI 1167 (by decide +kernel) rfl
theorem mw_1168 : (Jvm.Cond.code ({ cls := "Linkcourt$Patterns", name := "canType", desc := "(JI)Z" } : Jvm.MethodName) prog_7_method_2_code (6 : Nat) (Option.some Jvm.ClassFile.FieldType.boolean)) ∈ mm_ws := mm_memI 1168 (by decide +kernel) rfl
theorem mw_1169 : (Jvm.Cond.methodLink "Linkcourt$Patterns" (32 : Nat) ({ cls := "Linkcourt$Patterns", name := "signOf", desc := "(JI)C" } : Jvm.MethodName)) ∈ mm_ws := mm_memI 1169 (by decide +kernel) rfl
theorem mw_1171 : (Jvm.Cond.instanceMethod ({ cls := "Linkcourt$Patterns", name := "signOf", desc := "(JI)C" } : Jvm.MethodName)) ∈ mm_ws := mm_memI 1171 (by decide +kernel) rfl
theorem mw_1172 : (Jvm.Cond.code ({ cls := "Linkcourt$Patterns", name := "signOf", desc := "(JI)C" } : Jvm.MethodName) prog_7_method_4_code (4 : Nat) (Option.some Jvm.ClassFile.FieldType.char)) ∈ mm_ws := mm_memI 1172 (by decide +kernel) rfl
theorem mw_1173 : (Jvm.Cond.constantLong "Linkcourt$Patterns" (44 : Nat) (255 : Int64)) ∈ mm_ws := mm_memI 1173 (by decide +kernel) rfl
theorem mw_1176 : (Jvm.Cond.methodLink "Linkcourt" (295 : Nat) ({ cls := "Linkcourt$Patterns", name := "append", desc := "(JI)V" } : Jvm.MethodName)) ∈ mm_ws := mm_memI 1176 (by decide +kernel) rfl
theorem mw_1177 : (Jvm.Cond.instanceMethod ({ cls := "Linkcourt$Patterns", name := "append", desc := "(JI)V" } : Jvm.MethodName)) ∈ mm_ws := mm_memI 1177 (by decide +kernel) rfl
theorem mw_1178 : (Jvm.Cond.selects "Linkcourt$Patterns" ({ cls := "Linkcourt$Patterns", name := "append", desc := "(JI)V" } : Jvm.MethodName) ({ cls := "Linkcourt$Patterns", name := "append", desc := "(JI)V" } : Jvm.MethodName)) ∈ mm_ws := mm_memI 1178 (by decide +kernel) rfl
theorem mw_1179 : (Jvm.Cond.code ({ cls := "Linkcourt$Patterns", name := "append", desc := "(JI)V" } : Jvm.MethodName) prog_7_method_3_code (5 : Nat) (Option.none : Option Jvm.ClassFile.FieldType)) ∈ mm_ws := mm_memI 1179 (by decide +kernel) rfl
