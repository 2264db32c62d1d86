theorem FOK_in {ws : List Cond} (h : ws.all (fun w => decide (w ∈ lw_tbl) && goodWord w) = true) : ∀ w ∈ ws, w ∈ LT := fun w hw => by
  have h1 := List.all_eq_true.mp h w hw
  simp only [Bool.and_eq_true, decide_eq_true_eq] at h1
  exact LT_eq ▸ List.mem_filter.mpr h1
theorem kw_0 : (Cond.selects RX9 yX9_worksLeft yX9_worksLeft : Cond) ∈ LT := LT_of 0 (by decide +kernel) (by decide +kernel)
theorem kw_1 : (Cond.selects RX9 yX9_needText yX9_needText : Cond) ∈ LT := LT_of 1 (by decide +kernel) (by decide +kernel)
theorem kw_2 : (Cond.selects RX9 yX9_needRange yX9_needRange : Cond) ∈ LT := LT_of 2 (by decide +kernel) (by decide +kernel)
theorem kw_3 : (Cond.selects "java/lang/Throwable" ⟨"java/lang/Throwable", "fillInStackTrace", "(I)Ljava/lang/Throwable;"⟩ ⟨"java/lang/Throwable", "fillInStackTrace", "(I)Ljava/lang/Throwable;"⟩ : Cond) ∈ LT := LT_of 3 (by decide +kernel) (by decide +kernel)
theorem kw_4 : (Cond.selects RX9 yX9_forgetImages yX9_forgetImages : Cond) ∈ LT := LT_of 4 (by decide +kernel) (by decide +kernel)
theorem kw_5 : (Cond.selects RX1 yX1_readSum yX1_readSum : Cond) ∈ LT := LT_of 5 (by decide +kernel) (by decide +kernel)
theorem kw_6 : (Cond.selects RX1 yX1_readProduct yX1_readProduct : Cond) ∈ LT := LT_of 6 (by decide +kernel) (by decide +kernel)
theorem kw_7 : (Cond.selects RX1 yX1_readUnit yX1_readUnit : Cond) ∈ LT := LT_of 7 (by decide +kernel) (by decide +kernel)
theorem kw_8 : (Cond.selects RX1 yX1_readOpen yX1_readOpen : Cond) ∈ LT := LT_of 8 (by decide +kernel) (by decide +kernel)
theorem kw_9 : (Cond.selects RX8 yX8_readSteps yX8_readSteps : Cond) ∈ LT := LT_of 9 (by decide +kernel) (by decide +kernel)
theorem kw_10 : (Cond.selects RX8 yX8_readStep yX8_readStep : Cond) ∈ LT := LT_of 10 (by decide +kernel) (by decide +kernel)
theorem kw_11 : (Cond.selects RX8 yX8_readAgain yX8_readAgain : Cond) ∈ LT := LT_of 11 (by decide +kernel) (by decide +kernel)
theorem kw_12 : (Cond.selects RX9 yX9_needOneOf yX9_needOneOf : Cond) ∈ LT := LT_of 12 (by decide +kernel) (by decide +kernel)
theorem kw_13 : (Cond.selects RX9 yX9_needPlace yX9_needPlace : Cond) ∈ LT := LT_of 13 (by decide +kernel) (by decide +kernel)
theorem kw_14 : (Cond.selects RX9 yX9_fewestBeds yX9_fewestBeds : Cond) ∈ LT := LT_of 14 (by decide +kernel) (by decide +kernel)
theorem kw_15 : (Cond.selects RX9 yX9_mostLeftBy yX9_mostLeftBy : Cond) ∈ LT := LT_of 15 (by decide +kernel) (by decide +kernel)
theorem kw_16 : (Cond.selects RX9 yX9_givenBy yX9_givenBy : Cond) ∈ LT := LT_of 16 (by decide +kernel) (by decide +kernel)
theorem kw_17 : (Cond.selects RX10 yX10_clears yX10_clears : Cond) ∈ LT := LT_of 17 (by decide +kernel) (by decide +kernel)
theorem kw_18 : (Cond.selects RX10 yX10_sets yX10_sets : Cond) ∈ LT := LT_of 18 (by decide +kernel) (by decide +kernel)
theorem kw_19 : (Cond.selects RX10 yX10_copies yX10_copies : Cond) ∈ LT := LT_of 19 (by decide +kernel) (by decide +kernel)
theorem kw_20 : (Cond.selects RX10 yX10_may yX10_may : Cond) ∈ LT := LT_of 20 (by decide +kernel) (by decide +kernel)
theorem kw_21 : (Cond.selects RX10 yX10_begins yX10_begins : Cond) ∈ LT := LT_of 21 (by decide +kernel) (by decide +kernel)
theorem kw_22 : (Cond.selects RX10 yX10_fine yX10_fine : Cond) ∈ LT := LT_of 22 (by decide +kernel) (by decide +kernel)
theorem kw_23 : (Cond.selects RX10 yX10_isMore yX10_isMore : Cond) ∈ LT := LT_of 23 (by decide +kernel) (by decide +kernel)
theorem kw_24 : (Cond.selects RX10 yX10_here yX10_here : Cond) ∈ LT := LT_of 24 (by decide +kernel) (by decide +kernel)
theorem kw_25 : (Cond.selects RX10 yX10_wordHere yX10_wordHere : Cond) ∈ LT := LT_of 25 (by decide +kernel) (by decide +kernel)
theorem kw_26 : (Cond.selects RX10 yX10_wrong yX10_wrong : Cond) ∈ LT := LT_of 26 (by decide +kernel) (by decide +kernel)
theorem kw_27 : (Cond.selects RX10 yX10_isFull yX10_isFull : Cond) ∈ LT := LT_of 27 (by decide +kernel) (by decide +kernel)
theorem kw_28 : (Cond.selects RX10 yX10_pass yX10_pass : Cond) ∈ LT := LT_of 28 (by decide +kernel) (by decide +kernel)
theorem kw_29 : (Cond.selects RX10 yX10_readRow yX10_readRow : Cond) ∈ LT := LT_of 29 (by decide +kernel) (by decide +kernel)
theorem kw_30 : (Cond.selects RX10 yX10_readNumber yX10_readNumber : Cond) ∈ LT := LT_of 30 (by decide +kernel) (by decide +kernel)
theorem kw_31 : (Cond.selects RX10 yX10_readLetter yX10_readLetter : Cond) ∈ LT := LT_of 31 (by decide +kernel) (by decide +kernel)
theorem kw_32 : (Cond.selects RX10 yX10_readBedTold yX10_readBedTold : Cond) ∈ LT := LT_of 32 (by decide +kernel) (by decide +kernel)
theorem kw_33 : (Cond.selects RX10 yX10_sign yX10_sign : Cond) ∈ LT := LT_of 33 (by decide +kernel) (by decide +kernel)
theorem kw_34 : (Cond.selects RX10 yX10_result yX10_result : Cond) ∈ LT := LT_of 34 (by decide +kernel) (by decide +kernel)
theorem kw_35 : (Cond.selects RX10 yX10_readSum yX10_readSum : Cond) ∈ LT := LT_of 35 (by decide +kernel) (by decide +kernel)
theorem kw_36 : (Cond.selects RX10 yX10_readProduct yX10_readProduct : Cond) ∈ LT := LT_of 36 (by decide +kernel) (by decide +kernel)
theorem kw_37 : (Cond.selects RX10 yX10_readUnit yX10_readUnit : Cond) ∈ LT := LT_of 37 (by decide +kernel) (by decide +kernel)
theorem kw_38 : (Cond.selects RX10 yX10_opensOne yX10_opensOne : Cond) ∈ LT := LT_of 38 (by decide +kernel) (by decide +kernel)
theorem kw_39 : (Cond.selects RX10 yX10_emit yX10_emit : Cond) ∈ LT := LT_of 39 (by decide +kernel) (by decide +kernel)
theorem kw_40 : (Cond.selects RX10 yX10_readTwo yX10_readTwo : Cond) ∈ LT := LT_of 40 (by decide +kernel) (by decide +kernel)
theorem kw_41 : (Cond.selects RX10 yX10_factHere yX10_factHere : Cond) ∈ LT := LT_of 41 (by decide +kernel) (by decide +kernel)
theorem kw_42 : (Cond.selects RX10 yX10_readStep yX10_readStep : Cond) ∈ LT := LT_of 42 (by decide +kernel) (by decide +kernel)
theorem kw_43 : (Cond.selects RX10 yX10_readAgain yX10_readAgain : Cond) ∈ LT := LT_of 43 (by decide +kernel) (by decide +kernel)
theorem kw_44 : (Cond.selects RX10 yX10_tellsStep yX10_tellsStep : Cond) ∈ LT := LT_of 44 (by decide +kernel) (by decide +kernel)
theorem kw_45 : (Cond.selects RX10 yX10_readFirst yX10_readFirst : Cond) ∈ LT := LT_of 45 (by decide +kernel) (by decide +kernel)
theorem kw_46 : (Cond.selects RX10 yX10_take yX10_take : Cond) ∈ LT := LT_of 46 (by decide +kernel) (by decide +kernel)
theorem kw_47 : (Cond.selects RX10 yX10_goesSteps yX10_goesSteps : Cond) ∈ LT := LT_of 47 (by decide +kernel) (by decide +kernel)
theorem kw_48 : (Cond.selects RX10 yX10_isDone yX10_isDone : Cond) ∈ LT := LT_of 48 (by decide +kernel) (by decide +kernel)
theorem kw_49 : (Cond.selects RX10 yX10_isBlown yX10_isBlown : Cond) ∈ LT := LT_of 49 (by decide +kernel) (by decide +kernel)
theorem kw_50 : (Cond.selects RX10 yX10_newsOf yX10_newsOf : Cond) ∈ LT := LT_of 50 (by decide +kernel) (by decide +kernel)
theorem kw_51 : (Cond.selects RX10 yX10_nextWords yX10_nextWords : Cond) ∈ LT := LT_of 51 (by decide +kernel) (by decide +kernel)
theorem kw_52 : (Cond.selects RX10 yX10_leftOf yX10_leftOf : Cond) ∈ LT := LT_of 52 (by decide +kernel) (by decide +kernel)
theorem kw_53 : (Cond.selects RX10 yX10_wordOf yX10_wordOf : Cond) ∈ LT := LT_of 53 (by decide +kernel) (by decide +kernel)
theorem kw_54 : (Cond.selects RX10 yX10_isWalked yX10_isWalked : Cond) ∈ LT := LT_of 54 (by decide +kernel) (by decide +kernel)
theorem kw_55 : (Cond.selects RX10 yX10_wordsIn yX10_wordsIn : Cond) ∈ LT := LT_of 55 (by decide +kernel) (by decide +kernel)
theorem kw_56 : (Cond.selects RX10 yX10_isEaten yX10_isEaten : Cond) ∈ LT := LT_of 56 (by decide +kernel) (by decide +kernel)
theorem kw_57 : (Cond.selects RX10 yX10_pours yX10_pours : Cond) ∈ LT := LT_of 57 (by decide +kernel) (by decide +kernel)
theorem kw_58 : (Cond.selects RX10 yX10_runBy yX10_runBy : Cond) ∈ LT := LT_of 58 (by decide +kernel) (by decide +kernel)
theorem kw_59 : (Cond.selects RX10 yX10_runOf yX10_runOf : Cond) ∈ LT := LT_of 59 (by decide +kernel) (by decide +kernel)
theorem kw_60 : (Cond.selects RX10 yX10_runNow yX10_runNow : Cond) ∈ LT := LT_of 60 (by decide +kernel) (by decide +kernel)
theorem kw_61 : (Cond.selects RX10 yX10_valueNow yX10_valueNow : Cond) ∈ LT := LT_of 61 (by decide +kernel) (by decide +kernel)
theorem kw_62 : (Cond.selects RX10 yX10_runsOut yX10_runsOut : Cond) ∈ LT := LT_of 62 (by decide +kernel) (by decide +kernel)
theorem kw_63 : (Cond.selects RX10 yX10_passes yX10_passes : Cond) ∈ LT := LT_of 63 (by decide +kernel) (by decide +kernel)
theorem kw_64 : (Cond.selects RX10 yX10_grows yX10_grows : Cond) ∈ LT := LT_of 64 (by decide +kernel) (by decide +kernel)
theorem kw_65 : (Cond.selects RX10 yX10_leftAll yX10_leftAll : Cond) ∈ LT := LT_of 65 (by decide +kernel) (by decide +kernel)
theorem kw_66 : (Cond.selects RX10 yX10_sumOf yX10_sumOf : Cond) ∈ LT := LT_of 66 (by decide +kernel) (by decide +kernel)
theorem kw_67 : (Cond.selects RX10 yX10_isLetter yX10_isLetter : Cond) ∈ LT := LT_of 67 (by decide +kernel) (by decide +kernel)
theorem kw_68 : (Cond.selects RX10 yX10_isBed yX10_isBed : Cond) ∈ LT := LT_of 68 (by decide +kernel) (by decide +kernel)
theorem kw_69 : (Cond.selects RX10 yX10_firstIn yX10_firstIn : Cond) ∈ LT := LT_of 69 (by decide +kernel) (by decide +kernel)
theorem kw_70 : (Cond.selects RX10 yX10_isReader yX10_isReader : Cond) ∈ LT := LT_of 70 (by decide +kernel) (by decide +kernel)
theorem kw_71 : (Cond.selects RX10 yX10_laysSeams yX10_laysSeams : Cond) ∈ LT := LT_of 71 (by decide +kernel) (by decide +kernel)
theorem kw_72 : (Cond.selects RX10 yX10_someLeft yX10_someLeft : Cond) ∈ LT := LT_of 72 (by decide +kernel) (by decide +kernel)
theorem kw_73 : (Cond.selects RX10 yX10_seamOf yX10_seamOf : Cond) ∈ LT := LT_of 73 (by decide +kernel) (by decide +kernel)
theorem kw_74 : (Cond.selects RX10 yX10_bedsWith yX10_bedsWith : Cond) ∈ LT := LT_of 74 (by decide +kernel) (by decide +kernel)
theorem kw_75 : (Cond.selects RX10 yX10_laysLasts yX10_laysLasts : Cond) ∈ LT := LT_of 75 (by decide +kernel) (by decide +kernel)
theorem kw_76 : (Cond.selects RX10 yX10_isFit yX10_isFit : Cond) ∈ LT := LT_of 76 (by decide +kernel) (by decide +kernel)
theorem kw_77 : (Cond.selects RX10 yX10_worstOf yX10_worstOf : Cond) ∈ LT := LT_of 77 (by decide +kernel) (by decide +kernel)
theorem kw_78 : (Cond.selects RX10 yX10_seedBy yX10_seedBy : Cond) ∈ LT := LT_of 78 (by decide +kernel) (by decide +kernel)
theorem kw_79 : (Cond.selects RX10 yX10_oftenOf yX10_oftenOf : Cond) ∈ LT := LT_of 79 (by decide +kernel) (by decide +kernel)
theorem kw_80 : (Cond.selects RX10 yX10_summerGoes yX10_summerGoes : Cond) ∈ LT := LT_of 80 (by decide +kernel) (by decide +kernel)
theorem kw_81 : (Cond.selects RX10 yX10_draws yX10_draws : Cond) ∈ LT := LT_of 81 (by decide +kernel) (by decide +kernel)
theorem kw_82 : (Cond.selects RX10 yX10_heardAny yX10_heardAny : Cond) ∈ LT := LT_of 82 (by decide +kernel) (by decide +kernel)
theorem kw_83 : (Cond.selects RX10 yX10_keepsAll yX10_keepsAll : Cond) ∈ LT := LT_of 83 (by decide +kernel) (by decide +kernel)
theorem kw_84 : (Cond.selects RX10 yX10_keepsRow yX10_keepsRow : Cond) ∈ LT := LT_of 84 (by decide +kernel) (by decide +kernel)
theorem kw_85 : (Cond.initialized RL : Cond) ∈ LT := LT_of 85 (by decide +kernel) (by decide +kernel)
theorem kw_86 : (Cond.initialized RX9 : Cond) ∈ LT := LT_of 86 (by decide +kernel) (by decide +kernel)
theorem kw_87 : (Cond.initialized RX7 : Cond) ∈ LT := LT_of 87 (by decide +kernel) (by decide +kernel)
theorem kw_88 : (Cond.initialized RX4 : Cond) ∈ LT := LT_of 88 (by decide +kernel) (by decide +kernel)
theorem kw_89 : (Cond.initialized RX8 : Cond) ∈ LT := LT_of 89 (by decide +kernel) (by decide +kernel)
theorem kw_90 : (Cond.initialized RX6 : Cond) ∈ LT := LT_of 90 (by decide +kernel) (by decide +kernel)
theorem kw_91 : (Cond.initialized RX5 : Cond) ∈ LT := LT_of 91 (by decide +kernel) (by decide +kernel)
theorem kw_92 : (Cond.initialized RX2 : Cond) ∈ LT := LT_of 92 (by decide +kernel) (by decide +kernel)
theorem kw_93 : (Cond.initialized RX1 : Cond) ∈ LT := LT_of 93 (by decide +kernel) (by decide +kernel)
theorem kw_94 : (Cond.initialized RX0 : Cond) ∈ LT := LT_of 94 (by decide +kernel) (by decide +kernel)
theorem kw_95 : (Cond.initialized RX10 : Cond) ∈ LT := LT_of 95 (by decide +kernel) (by decide +kernel)
theorem kw_96 : (Cond.initialized RJ9 : Cond) ∈ LT := LT_of 96 (by decide +kernel) (by decide +kernel)
theorem kw_97 : (Cond.initialized "java/lang/Throwable" : Cond) ∈ LT := LT_of 97 (by decide +kernel) (by decide +kernel)
theorem kw_98 : (Cond.initialized "java/lang/Exception" : Cond) ∈ LT := LT_of 98 (by decide +kernel) (by decide +kernel)
theorem kw_99 : (Cond.initialized "java/lang/RuntimeException" : Cond) ∈ LT := LT_of 99 (by decide +kernel) (by decide +kernel)
theorem kw_100 : (Cond.initialized "java/lang/IllegalArgumentException" : Cond) ∈ LT := LT_of 100 (by decide +kernel) (by decide +kernel)
theorem kw_101 : (Cond.initialized RJ0 : Cond) ∈ LT := LT_of 101 (by decide +kernel) (by decide +kernel)
theorem kw_102 : (Cond.initialized RJ1 : Cond) ∈ LT := LT_of 102 (by decide +kernel) (by decide +kernel)
theorem kw_103 : (Cond.initialized RJ3 : Cond) ∈ LT := LT_of 103 (by decide +kernel) (by decide +kernel)
theorem kw_104 : (Cond.initialized RJ2 : Cond) ∈ LT := LT_of 104 (by decide +kernel) (by decide +kernel)
theorem kw_105 : (Cond.initialized RX3 : Cond) ∈ LT := LT_of 105 (by decide +kernel) (by decide +kernel)
theorem kw_106 : (Cond.initialized RJ10 : Cond) ∈ LT := LT_of 106 (by decide +kernel) (by decide +kernel)
theorem kw_107 : (Cond.initialized "java/util/NoSuchElementException" : Cond) ∈ LT := LT_of 107 (by decide +kernel) (by decide +kernel)
theorem kw_108 : (Cond.initialized RJ6 : Cond) ∈ LT := LT_of 108 (by decide +kernel) (by decide +kernel)
theorem kw_109 : (Cond.classLink RL 8 RX9 : Cond) ∈ LT := LT_of 109 (by decide +kernel) (by decide +kernel)
theorem kw_110 : (Cond.instantiable RX9 19 : Cond) ∈ LT := LT_of 110 (by decide +kernel) (by decide +kernel)
theorem kw_111 : (Cond.methodLink RL 119 yX9_init : Cond) ∈ LT := LT_of 111 (by decide +kernel) (by decide +kernel)
theorem kw_112 : (Cond.instanceMethod yX9_init : Cond) ∈ LT := LT_of 112 (by decide +kernel) (by decide +kernel)
theorem kw_113 : (Cond.code yX9_init cX9_init 1 none : Cond) ∈ LT := LT_of 113 (by decide +kernel) (by decide +kernel)
theorem kw_114 : (Cond.methodLink RX9 1 objectInit : Cond) ∈ LT := LT_of 114 (by decide +kernel) (by decide +kernel)
theorem kw_115 : (Cond.instanceMethod objectInit : Cond) ∈ LT := LT_of 115 (by decide +kernel) (by decide +kernel)
theorem kw_116 : (Cond.code objectInit object_method_1_code 1 none : Cond) ∈ LT := LT_of 116 (by decide +kernel) (by decide +kernel)
theorem kw_117 : (Cond.classLink RX9 7 RX7 : Cond) ∈ LT := LT_of 117 (by decide +kernel) (by decide +kernel)
theorem kw_118 : (Cond.instantiable RX7 7 : Cond) ∈ LT := LT_of 118 (by decide +kernel) (by decide +kernel)
theorem kw_120 : (Cond.instanceMethod yX7_init : Cond) ∈ LT := LT_of 120 (by decide +kernel) (by decide +kernel)
theorem kw_121 : (Cond.code yX7_init cX7_init 1 none : Cond) ∈ LT := LT_of 121 (by decide +kernel) (by decide +kernel)
theorem kw_122 : (Cond.methodLink RX7 3 objectInit : Cond) ∈ LT := LT_of 122 (by decide +kernel) (by decide +kernel)
theorem kw_123 : (Cond.fieldLink RX7 9 (TX7 0).1 (TX7 0).2.1 (TX7 0).2.2.1 : Cond) ∈ LT := LT_of 123 (by decide +kernel) (by decide +kernel)
theorem kw_124 : (Cond.fieldLink RX7 15 (TX7 1).1 (TX7 1).2.1 (TX7 1).2.2.1 : Cond) ∈ LT := LT_of 124 (by decide +kernel) (by decide +kernel)
theorem kw_125 : (Cond.fieldLink RX9 112 (TX7 1).1 (TX7 1).2.1 (TX7 1).2.2.1 : Cond) ∈ LT := LT_of 125 (by decide +kernel) (by decide +kernel)
theorem kw_126 : (Cond.fieldLink RX7 19 (TX7 2).1 (TX7 2).2.1 (TX7 2).2.2.1 : Cond) ∈ LT := LT_of 126 (by decide +kernel) (by decide +kernel)
theorem kw_127 : (Cond.fieldLink RX7 22 (TX7 3).1 (TX7 3).2.1 (TX7 3).2.2.1 : Cond) ∈ LT := LT_of 127 (by decide +kernel) (by decide +kernel)
theorem kw_128 : (Cond.fieldLink RX7 25 (TX7 4).1 (TX7 4).2.1 (TX7 4).2.2.1 : Cond) ∈ LT := LT_of 128 (by decide +kernel) (by decide +kernel)
theorem kw_129 : (Cond.fieldLink RX7 28 (TX7 5).1 (TX7 5).2.1 (TX7 5).2.2.1 : Cond) ∈ LT := LT_of 129 (by decide +kernel) (by decide +kernel)
theorem kw_130 : (Cond.fieldLink RX7 31 (TX7 6).1 (TX7 6).2.1 (TX7 6).2.2.1 : Cond) ∈ LT := LT_of 130 (by decide +kernel) (by decide +kernel)
theorem kw_131 : (Cond.fieldLink RX9 178 (TX7 6).1 (TX7 6).2.1 (TX7 6).2.2.1 : Cond) ∈ LT := LT_of 131 (by decide +kernel) (by decide +kernel)
theorem kw_147 : (Cond.arrayClass .byte : Cond) ∈ LT := LT_of 147 (by decide +kernel) (by decide +kernel)
theorem kw_148 : (Cond.classLink RX9 16 RX4 : Cond) ∈ LT := LT_of 148 (by decide +kernel) (by decide +kernel)
theorem kw_149 : (Cond.instantiable RX4 12 : Cond) ∈ LT := LT_of 149 (by decide +kernel) (by decide +kernel)
theorem kw_151 : (Cond.instanceMethod yX4_init : Cond) ∈ LT := LT_of 151 (by decide +kernel) (by decide +kernel)
theorem kw_152 : (Cond.code yX4_init cX4_init 1 none : Cond) ∈ LT := LT_of 152 (by decide +kernel) (by decide +kernel)
theorem kw_153 : (Cond.methodLink RX4 3 objectInit : Cond) ∈ LT := LT_of 153 (by decide +kernel) (by decide +kernel)
theorem kw_154 : (Cond.fieldLink RX4 9 (TX4 0).1 (TX4 0).2.1 (TX4 0).2.2.1 : Cond) ∈ LT := LT_of 154 (by decide +kernel) (by decide +kernel)
theorem kw_155 : (Cond.fieldLink RX9 198 (TX4 0).1 (TX4 0).2.1 (TX4 0).2.2.1 : Cond) ∈ LT := LT_of 155 (by decide +kernel) (by decide +kernel)
theorem kw_156 : (Cond.fieldLink RX8 132 (TX4 0).1 (TX4 0).2.1 (TX4 0).2.2.1 : Cond) ∈ LT := LT_of 156 (by decide +kernel) (by decide +kernel)
theorem kw_157 : (Cond.fieldLink RX4 15 (TX4 1).1 (TX4 1).2.1 (TX4 1).2.2.1 : Cond) ∈ LT := LT_of 157 (by decide +kernel) (by decide +kernel)
theorem kw_158 : (Cond.fieldLink RX9 201 (TX4 1).1 (TX4 1).2.1 (TX4 1).2.2.1 : Cond) ∈ LT := LT_of 158 (by decide +kernel) (by decide +kernel)
theorem kw_159 : (Cond.fieldLink RX4 18 (TX4 2).1 (TX4 2).2.1 (TX4 2).2.2.1 : Cond) ∈ LT := LT_of 159 (by decide +kernel) (by decide +kernel)
theorem kw_160 : (Cond.fieldLink RX9 211 (TX4 2).1 (TX4 2).2.1 (TX4 2).2.2.1 : Cond) ∈ LT := LT_of 160 (by decide +kernel) (by decide +kernel)
theorem kw_161 : (Cond.fieldLink RX4 21 (TX4 3).1 (TX4 3).2.1 (TX4 3).2.2.1 : Cond) ∈ LT := LT_of 161 (by decide +kernel) (by decide +kernel)
theorem kw_162 : (Cond.fieldLink RX9 214 (TX4 3).1 (TX4 3).2.1 (TX4 3).2.2.1 : Cond) ∈ LT := LT_of 162 (by decide +kernel) (by decide +kernel)
theorem kw_163 : (Cond.fieldLink RX4 24 (TX4 4).1 (TX4 4).2.1 (TX4 4).2.2.1 : Cond) ∈ LT := LT_of 163 (by decide +kernel) (by decide +kernel)
theorem kw_164 : (Cond.fieldLink RX8 129 (TX4 4).1 (TX4 4).2.1 (TX4 4).2.2.1 : Cond) ∈ LT := LT_of 164 (by decide +kernel) (by decide +kernel)
theorem kw_165 : (Cond.fieldLink RX4 27 (TX4 5).1 (TX4 5).2.1 (TX4 5).2.2.1 : Cond) ∈ LT := LT_of 165 (by decide +kernel) (by decide +kernel)
theorem kw_166 : (Cond.fieldLink RX9 217 (TX4 5).1 (TX4 5).2.1 (TX4 5).2.2.1 : Cond) ∈ LT := LT_of 166 (by decide +kernel) (by decide +kernel)
theorem kw_167 : (Cond.fieldLink RX4 30 (TX4 6).1 (TX4 6).2.1 (TX4 6).2.2.1 : Cond) ∈ LT := LT_of 167 (by decide +kernel) (by decide +kernel)
theorem kw_168 : (Cond.fieldLink RX4 34 (TX4 7).1 (TX4 7).2.1 (TX4 7).2.2.1 : Cond) ∈ LT := LT_of 168 (by decide +kernel) (by decide +kernel)
theorem kw_169 : (Cond.fieldLink RX9 263 (TX4 7).1 (TX4 7).2.1 (TX4 7).2.2.1 : Cond) ∈ LT := LT_of 169 (by decide +kernel) (by decide +kernel)
theorem kw_170 : (Cond.fieldLink RX4 37 (TX4 8).1 (TX4 8).2.1 (TX4 8).2.2.1 : Cond) ∈ LT := LT_of 170 (by decide +kernel) (by decide +kernel)
theorem kw_171 : (Cond.fieldLink RX9 266 (TX4 8).1 (TX4 8).2.1 (TX4 8).2.2.1 : Cond) ∈ LT := LT_of 171 (by decide +kernel) (by decide +kernel)
theorem kw_172 : (Cond.fieldLink RX4 40 (TX4 9).1 (TX4 9).2.1 (TX4 9).2.2.1 : Cond) ∈ LT := LT_of 172 (by decide +kernel) (by decide +kernel)
theorem kw_173 : (Cond.fieldLink RX9 247 (TX4 9).1 (TX4 9).2.1 (TX4 9).2.2.1 : Cond) ∈ LT := LT_of 173 (by decide +kernel) (by decide +kernel)
theorem kw_174 : (Cond.fieldLink RX4 43 (TX4 10).1 (TX4 10).2.1 (TX4 10).2.2.1 : Cond) ∈ LT := LT_of 174 (by decide +kernel) (by decide +kernel)
theorem kw_175 : (Cond.fieldLink RX4 46 (TX4 11).1 (TX4 11).2.1 (TX4 11).2.2.1 : Cond) ∈ LT := LT_of 175 (by decide +kernel) (by decide +kernel)
theorem kw_176 : (Cond.fieldLink RX9 269 (TX4 11).1 (TX4 11).2.1 (TX4 11).2.2.1 : Cond) ∈ LT := LT_of 176 (by decide +kernel) (by decide +kernel)
theorem kw_202 : (Cond.arrayClass .int : Cond) ∈ LT := LT_of 202 (by decide +kernel) (by decide +kernel)
theorem kw_203 : (Cond.classLink RX9 26 RX8 : Cond) ∈ LT := LT_of 203 (by decide +kernel) (by decide +kernel)
theorem kw_204 : (Cond.instantiable RX8 7 : Cond) ∈ LT := LT_of 204 (by decide +kernel) (by decide +kernel)
theorem kw_206 : (Cond.instanceMethod yX8_init : Cond) ∈ LT := LT_of 206 (by decide +kernel) (by decide +kernel)
theorem kw_207 : (Cond.code yX8_init cX8_init 1 none : Cond) ∈ LT := LT_of 207 (by decide +kernel) (by decide +kernel)
theorem kw_208 : (Cond.methodLink RX8 3 objectInit : Cond) ∈ LT := LT_of 208 (by decide +kernel) (by decide +kernel)
theorem kw_209 : (Cond.fieldLink RX8 9 (TX8 0).1 (TX8 0).2.1 (TX8 0).2.2.1 : Cond) ∈ LT := LT_of 209 (by decide +kernel) (by decide +kernel)
theorem kw_210 : (Cond.fieldLink RX8 15 (TX8 1).1 (TX8 1).2.1 (TX8 1).2.2.1 : Cond) ∈ LT := LT_of 210 (by decide +kernel) (by decide +kernel)
theorem kw_211 : (Cond.fieldLink RX8 18 (TX8 2).1 (TX8 2).2.1 (TX8 2).2.2.1 : Cond) ∈ LT := LT_of 211 (by decide +kernel) (by decide +kernel)
theorem kw_212 : (Cond.fieldLink RX8 21 (TX8 3).1 (TX8 3).2.1 (TX8 3).2.2.1 : Cond) ∈ LT := LT_of 212 (by decide +kernel) (by decide +kernel)
theorem kw_213 : (Cond.fieldLink RX8 24 (TX8 4).1 (TX8 4).2.1 (TX8 4).2.2.1 : Cond) ∈ LT := LT_of 213 (by decide +kernel) (by decide +kernel)
theorem kw_214 : (Cond.fieldLink RX8 28 (TX8 5).1 (TX8 5).2.1 (TX8 5).2.2.1 : Cond) ∈ LT := LT_of 214 (by decide +kernel) (by decide +kernel)
theorem kw_215 : (Cond.fieldLink RX8 31 (TX8 6).1 (TX8 6).2.1 (TX8 6).2.2.1 : Cond) ∈ LT := LT_of 215 (by decide +kernel) (by decide +kernel)
theorem kw_216 : (Cond.fieldLink RX9 166 (TX8 6).1 (TX8 6).2.1 (TX8 6).2.2.1 : Cond) ∈ LT := LT_of 216 (by decide +kernel) (by decide +kernel)
theorem kw_232 : (Cond.classLink RX9 33 RX6 : Cond) ∈ LT := LT_of 232 (by decide +kernel) (by decide +kernel)
theorem kw_233 : (Cond.instantiable RX6 1 : Cond) ∈ LT := LT_of 233 (by decide +kernel) (by decide +kernel)
theorem kw_235 : (Cond.instanceMethod yX6_init : Cond) ∈ LT := LT_of 235 (by decide +kernel) (by decide +kernel)
theorem kw_236 : (Cond.code yX6_init cX6_init 1 none : Cond) ∈ LT := LT_of 236 (by decide +kernel) (by decide +kernel)
theorem kw_237 : (Cond.methodLink RX6 3 objectInit : Cond) ∈ LT := LT_of 237 (by decide +kernel) (by decide +kernel)
theorem kw_238 : (Cond.fieldLink RX6 9 (TX6 0).1 (TX6 0).2.1 (TX6 0).2.2.1 : Cond) ∈ LT := LT_of 238 (by decide +kernel) (by decide +kernel)
theorem kw_242 : (Cond.classLink RX9 40 RX5 : Cond) ∈ LT := LT_of 242 (by decide +kernel) (by decide +kernel)
theorem kw_243 : (Cond.instantiable RX5 5 : Cond) ∈ LT := LT_of 243 (by decide +kernel) (by decide +kernel)
theorem kw_245 : (Cond.instanceMethod yX5_init : Cond) ∈ LT := LT_of 245 (by decide +kernel) (by decide +kernel)
theorem kw_246 : (Cond.code yX5_init cX5_init 1 none : Cond) ∈ LT := LT_of 246 (by decide +kernel) (by decide +kernel)
theorem kw_247 : (Cond.methodLink RX5 3 objectInit : Cond) ∈ LT := LT_of 247 (by decide +kernel) (by decide +kernel)
theorem kw_248 : (Cond.fieldLink RX5 9 (TX5 0).1 (TX5 0).2.1 (TX5 0).2.2.1 : Cond) ∈ LT := LT_of 248 (by decide +kernel) (by decide +kernel)
theorem kw_249 : (Cond.fieldLink RX9 304 (TX5 0).1 (TX5 0).2.1 (TX5 0).2.2.1 : Cond) ∈ LT := LT_of 249 (by decide +kernel) (by decide +kernel)
theorem kw_250 : (Cond.fieldLink RX5 15 (TX5 1).1 (TX5 1).2.1 (TX5 1).2.2.1 : Cond) ∈ LT := LT_of 250 (by decide +kernel) (by decide +kernel)
theorem kw_251 : (Cond.fieldLink RX5 18 (TX5 2).1 (TX5 2).2.1 (TX5 2).2.2.1 : Cond) ∈ LT := LT_of 251 (by decide +kernel) (by decide +kernel)
theorem kw_252 : (Cond.fieldLink RX5 21 (TX5 3).1 (TX5 3).2.1 (TX5 3).2.2.1 : Cond) ∈ LT := LT_of 252 (by decide +kernel) (by decide +kernel)
theorem kw_253 : (Cond.fieldLink RX9 301 (TX5 3).1 (TX5 3).2.1 (TX5 3).2.2.1 : Cond) ∈ LT := LT_of 253 (by decide +kernel) (by decide +kernel)
theorem kw_254 : (Cond.fieldLink RX5 25 (TX5 4).1 (TX5 4).2.1 (TX5 4).2.2.1 : Cond) ∈ LT := LT_of 254 (by decide +kernel) (by decide +kernel)
theorem kw_255 : (Cond.fieldLink RX9 298 (TX5 4).1 (TX5 4).2.1 (TX5 4).2.2.1 : Cond) ∈ LT := LT_of 255 (by decide +kernel) (by decide +kernel)
theorem kw_267 : (Cond.classLink RX9 47 RX3 : Cond) ∈ LT := LT_of 267 (by decide +kernel) (by decide +kernel)
theorem kw_269 : (Cond.classLink RX9 57 RX2 : Cond) ∈ LT := LT_of 269 (by decide +kernel) (by decide +kernel)
theorem kw_270 : (Cond.instantiable RX2 8 : Cond) ∈ LT := LT_of 270 (by decide +kernel) (by decide +kernel)
theorem kw_272 : (Cond.instanceMethod yX2_init : Cond) ∈ LT := LT_of 272 (by decide +kernel) (by decide +kernel)
theorem kw_273 : (Cond.code yX2_init cX2_init 1 none : Cond) ∈ LT := LT_of 273 (by decide +kernel) (by decide +kernel)
theorem kw_274 : (Cond.methodLink RX2 3 objectInit : Cond) ∈ LT := LT_of 274 (by decide +kernel) (by decide +kernel)
theorem kw_275 : (Cond.fieldLink RX2 9 (TX2 0).1 (TX2 0).2.1 (TX2 0).2.2.1 : Cond) ∈ LT := LT_of 275 (by decide +kernel) (by decide +kernel)
theorem kw_276 : (Cond.fieldLink RX6 42 (TX2 0).1 (TX2 0).2.1 (TX2 0).2.2.1 : Cond) ∈ LT := LT_of 276 (by decide +kernel) (by decide +kernel)
theorem kw_277 : (Cond.fieldLink RX0 40 (TX2 0).1 (TX2 0).2.1 (TX2 0).2.2.1 : Cond) ∈ LT := LT_of 277 (by decide +kernel) (by decide +kernel)
theorem kw_278 : (Cond.fieldLink RX8 86 (TX2 0).1 (TX2 0).2.1 (TX2 0).2.2.1 : Cond) ∈ LT := LT_of 278 (by decide +kernel) (by decide +kernel)
theorem kw_279 : (Cond.fieldLink RX9 169 (TX2 0).1 (TX2 0).2.1 (TX2 0).2.2.1 : Cond) ∈ LT := LT_of 279 (by decide +kernel) (by decide +kernel)
theorem kw_280 : (Cond.fieldLink RX4 81 (TX2 0).1 (TX2 0).2.1 (TX2 0).2.2.1 : Cond) ∈ LT := LT_of 280 (by decide +kernel) (by decide +kernel)
theorem kw_281 : (Cond.fieldLink RX2 15 (TX2 1).1 (TX2 1).2.1 (TX2 1).2.2.1 : Cond) ∈ LT := LT_of 281 (by decide +kernel) (by decide +kernel)
theorem kw_282 : (Cond.fieldLink RX5 28 (TX2 1).1 (TX2 1).2.1 (TX2 1).2.2.1 : Cond) ∈ LT := LT_of 282 (by decide +kernel) (by decide +kernel)
theorem kw_283 : (Cond.fieldLink RX9 149 (TX2 1).1 (TX2 1).2.1 (TX2 1).2.2.1 : Cond) ∈ LT := LT_of 283 (by decide +kernel) (by decide +kernel)
theorem kw_284 : (Cond.fieldLink RX8 76 (TX2 1).1 (TX2 1).2.1 (TX2 1).2.2.1 : Cond) ∈ LT := LT_of 284 (by decide +kernel) (by decide +kernel)
theorem kw_285 : (Cond.fieldLink RX4 67 (TX2 1).1 (TX2 1).2.1 (TX2 1).2.2.1 : Cond) ∈ LT := LT_of 285 (by decide +kernel) (by decide +kernel)
theorem kw_286 : (Cond.fieldLink RX2 18 (TX2 2).1 (TX2 2).2.1 (TX2 2).2.2.1 : Cond) ∈ LT := LT_of 286 (by decide +kernel) (by decide +kernel)
theorem kw_287 : (Cond.fieldLink RX6 37 (TX2 2).1 (TX2 2).2.1 (TX2 2).2.2.1 : Cond) ∈ LT := LT_of 287 (by decide +kernel) (by decide +kernel)
theorem kw_288 : (Cond.fieldLink RX8 83 (TX2 2).1 (TX2 2).2.1 (TX2 2).2.2.1 : Cond) ∈ LT := LT_of 288 (by decide +kernel) (by decide +kernel)
theorem kw_289 : (Cond.fieldLink RX9 195 (TX2 2).1 (TX2 2).2.1 (TX2 2).2.2.1 : Cond) ∈ LT := LT_of 289 (by decide +kernel) (by decide +kernel)
theorem kw_290 : (Cond.fieldLink RX4 88 (TX2 2).1 (TX2 2).2.1 (TX2 2).2.2.1 : Cond) ∈ LT := LT_of 290 (by decide +kernel) (by decide +kernel)
theorem kw_291 : (Cond.fieldLink RX2 21 (TX2 3).1 (TX2 3).2.1 (TX2 3).2.2.1 : Cond) ∈ LT := LT_of 291 (by decide +kernel) (by decide +kernel)
theorem kw_292 : (Cond.fieldLink RX9 244 (TX2 3).1 (TX2 3).2.1 (TX2 3).2.2.1 : Cond) ∈ LT := LT_of 292 (by decide +kernel) (by decide +kernel)
theorem kw_293 : (Cond.fieldLink RX4 99 (TX2 3).1 (TX2 3).2.1 (TX2 3).2.2.1 : Cond) ∈ LT := LT_of 293 (by decide +kernel) (by decide +kernel)
theorem kw_294 : (Cond.fieldLink RX2 25 (TX2 4).1 (TX2 4).2.1 (TX2 4).2.2.1 : Cond) ∈ LT := LT_of 294 (by decide +kernel) (by decide +kernel)
theorem kw_295 : (Cond.fieldLink RX9 223 (TX2 4).1 (TX2 4).2.1 (TX2 4).2.2.1 : Cond) ∈ LT := LT_of 295 (by decide +kernel) (by decide +kernel)
theorem kw_296 : (Cond.fieldLink RX4 96 (TX2 4).1 (TX2 4).2.1 (TX2 4).2.2.1 : Cond) ∈ LT := LT_of 296 (by decide +kernel) (by decide +kernel)
theorem kw_297 : (Cond.fieldLink RX2 28 (TX2 5).1 (TX2 5).2.1 (TX2 5).2.2.1 : Cond) ∈ LT := LT_of 297 (by decide +kernel) (by decide +kernel)
theorem kw_298 : (Cond.fieldLink RX5 39 (TX2 5).1 (TX2 5).2.1 (TX2 5).2.2.1 : Cond) ∈ LT := LT_of 298 (by decide +kernel) (by decide +kernel)
theorem kw_299 : (Cond.fieldLink RX4 64 (TX2 5).1 (TX2 5).2.1 (TX2 5).2.2.1 : Cond) ∈ LT := LT_of 299 (by decide +kernel) (by decide +kernel)
theorem kw_300 : (Cond.fieldLink RX9 226 (TX2 5).1 (TX2 5).2.1 (TX2 5).2.2.1 : Cond) ∈ LT := LT_of 300 (by decide +kernel) (by decide +kernel)
theorem kw_301 : (Cond.fieldLink RX2 31 (TX2 6).1 (TX2 6).2.1 (TX2 6).2.2.1 : Cond) ∈ LT := LT_of 301 (by decide +kernel) (by decide +kernel)
theorem kw_302 : (Cond.fieldLink RX2 34 (TX2 7).1 (TX2 7).2.1 (TX2 7).2.2.1 : Cond) ∈ LT := LT_of 302 (by decide +kernel) (by decide +kernel)
theorem kw_303 : (Cond.fieldLink RX4 49 (TX2 7).1 (TX2 7).2.1 (TX2 7).2.2.1 : Cond) ∈ LT := LT_of 303 (by decide +kernel) (by decide +kernel)
theorem kw_321 : (Cond.classLink RX9 67 RX1 : Cond) ∈ LT := LT_of 321 (by decide +kernel) (by decide +kernel)
theorem kw_322 : (Cond.instantiable RX1 4 : Cond) ∈ LT := LT_of 322 (by decide +kernel) (by decide +kernel)
theorem kw_323 : (Cond.methodLink RX9 69 yX1_init : Cond) ∈ LT := LT_of 323 (by decide +kernel) (by decide +kernel)
theorem kw_324 : (Cond.instanceMethod yX1_init : Cond) ∈ LT := LT_of 324 (by decide +kernel) (by decide +kernel)
theorem kw_325 : (Cond.code yX1_init cX1_init 1 none : Cond) ∈ LT := LT_of 325 (by decide +kernel) (by decide +kernel)
theorem kw_326 : (Cond.methodLink RX1 3 objectInit : Cond) ∈ LT := LT_of 326 (by decide +kernel) (by decide +kernel)
theorem kw_327 : (Cond.methodLink RX1 25 yX1_makePlain : Cond) ∈ LT := LT_of 327 (by decide +kernel) (by decide +kernel)
theorem kw_328 : (Cond.instanceMethod yX1_makePlain : Cond) ∈ LT := LT_of 328 (by decide +kernel) (by decide +kernel)
theorem kw_329 : (Cond.selects RX1 yX1_makePlain yX1_makePlain : Cond) ∈ LT := LT_of 329 (by decide +kernel) (by decide +kernel)
theorem kw_330 : (Cond.code yX1_makePlain cX1_makePlain 1 none : Cond) ∈ LT := LT_of 330 (by decide +kernel) (by decide +kernel)
theorem kw_331 : (Cond.methodLink RX1 28 yX1_add : Cond) ∈ LT := LT_of 331 (by decide +kernel) (by decide +kernel)
theorem kw_332 : (Cond.instanceMethod yX1_add : Cond) ∈ LT := LT_of 332 (by decide +kernel) (by decide +kernel)
theorem kw_333 : (Cond.selects RX1 yX1_add yX1_add : Cond) ∈ LT := LT_of 333 (by decide +kernel) (by decide +kernel)
theorem kw_334 : (Cond.code yX1_add cX1_add 2 none : Cond) ∈ LT := LT_of 334 (by decide +kernel) (by decide +kernel)
theorem kw_335 : (Cond.fieldLink RX1 9 (TX1 0).1 (TX1 0).2.1 (TX1 0).2.2.1 : Cond) ∈ LT := LT_of 335 (by decide +kernel) (by decide +kernel)
theorem kw_336 : (Cond.fieldLink RX1 15 (TX1 1).1 (TX1 1).2.1 (TX1 1).2.2.1 : Cond) ∈ LT := LT_of 336 (by decide +kernel) (by decide +kernel)
theorem kw_337 : (Cond.fieldLink RX1 18 (TX1 2).1 (TX1 2).2.1 (TX1 2).2.2.1 : Cond) ∈ LT := LT_of 337 (by decide +kernel) (by decide +kernel)
theorem kw_338 : (Cond.fieldLink RX1 21 (TX1 3).1 (TX1 3).2.1 (TX1 3).2.2.1 : Cond) ∈ LT := LT_of 338 (by decide +kernel) (by decide +kernel)
theorem kw_348 : (Cond.classLink RX9 77 RX0 : Cond) ∈ LT := LT_of 348 (by decide +kernel) (by decide +kernel)
theorem kw_349 : (Cond.instantiable RX0 2 : Cond) ∈ LT := LT_of 349 (by decide +kernel) (by decide +kernel)
theorem kw_350 : (Cond.methodLink RX9 79 yX0_init : Cond) ∈ LT := LT_of 350 (by decide +kernel) (by decide +kernel)
theorem kw_351 : (Cond.instanceMethod yX0_init : Cond) ∈ LT := LT_of 351 (by decide +kernel) (by decide +kernel)
theorem kw_352 : (Cond.code yX0_init cX0_init 1 none : Cond) ∈ LT := LT_of 352 (by decide +kernel) (by decide +kernel)
theorem kw_353 : (Cond.methodLink RX0 3 objectInit : Cond) ∈ LT := LT_of 353 (by decide +kernel) (by decide +kernel)
theorem kw_354 : (Cond.methodLink RX0 19 yX0_clear : Cond) ∈ LT := LT_of 354 (by decide +kernel) (by decide +kernel)
theorem kw_355 : (Cond.instanceMethod yX0_clear : Cond) ∈ LT := LT_of 355 (by decide +kernel) (by decide +kernel)
theorem kw_356 : (Cond.selects RX0 yX0_clear yX0_clear : Cond) ∈ LT := LT_of 356 (by decide +kernel) (by decide +kernel)
theorem kw_357 : (Cond.code yX0_clear cX0_clear 2 none : Cond) ∈ LT := LT_of 357 (by decide +kernel) (by decide +kernel)
theorem kw_358 : (Cond.fieldLink RX0 9 (TX0 0).1 (TX0 0).2.1 (TX0 0).2.2.1 : Cond) ∈ LT := LT_of 358 (by decide +kernel) (by decide +kernel)
theorem kw_359 : (Cond.fieldLink RX9 318 (TX0 0).1 (TX0 0).2.1 (TX0 0).2.2.1 : Cond) ∈ LT := LT_of 359 (by decide +kernel) (by decide +kernel)
theorem kw_360 : (Cond.fieldLink RX0 15 (TX0 1).1 (TX0 1).2.1 (TX0 1).2.2.1 : Cond) ∈ LT := LT_of 360 (by decide +kernel) (by decide +kernel)
theorem kw_361 : (Cond.fieldLink RX9 175 (TX0 1).1 (TX0 1).2.1 (TX0 1).2.2.1 : Cond) ∈ LT := LT_of 361 (by decide +kernel) (by decide +kernel)
theorem kw_367 : (Cond.fieldLink RX9 10 (TX9 0).1 (TX9 0).2.1 (TX9 0).2.2.1 : Cond) ∈ LT := LT_of 367 (by decide +kernel) (by decide +kernel)
theorem kw_368 : (Cond.fieldLink RX9 19 (TX9 1).1 (TX9 1).2.1 (TX9 1).2.2.1 : Cond) ∈ LT := LT_of 368 (by decide +kernel) (by decide +kernel)
theorem kw_369 : (Cond.fieldLink RX9 23 (TX9 2).1 (TX9 2).2.1 (TX9 2).2.2.1 : Cond) ∈ LT := LT_of 369 (by decide +kernel) (by decide +kernel)
theorem kw_370 : (Cond.fieldLink RX9 29 (TX9 3).1 (TX9 3).2.1 (TX9 3).2.2.1 : Cond) ∈ LT := LT_of 370 (by decide +kernel) (by decide +kernel)
theorem kw_371 : (Cond.fieldLink RX9 36 (TX9 4).1 (TX9 4).2.1 (TX9 4).2.2.1 : Cond) ∈ LT := LT_of 371 (by decide +kernel) (by decide +kernel)
theorem kw_372 : (Cond.fieldLink RX9 43 (TX9 5).1 (TX9 5).2.1 (TX9 5).2.2.1 : Cond) ∈ LT := LT_of 372 (by decide +kernel) (by decide +kernel)
theorem kw_373 : (Cond.fieldLink RX9 49 (TX9 6).1 (TX9 6).2.1 (TX9 6).2.2.1 : Cond) ∈ LT := LT_of 373 (by decide +kernel) (by decide +kernel)
theorem kw_374 : (Cond.fieldLink RX9 53 (TX9 7).1 (TX9 7).2.1 (TX9 7).2.2.1 : Cond) ∈ LT := LT_of 374 (by decide +kernel) (by decide +kernel)
theorem kw_375 : (Cond.fieldLink RX9 60 (TX9 8).1 (TX9 8).2.1 (TX9 8).2.2.1 : Cond) ∈ LT := LT_of 375 (by decide +kernel) (by decide +kernel)
theorem kw_376 : (Cond.fieldLink RX9 64 (TX9 9).1 (TX9 9).2.1 (TX9 9).2.2.1 : Cond) ∈ LT := LT_of 376 (by decide +kernel) (by decide +kernel)
theorem kw_377 : (Cond.fieldLink RX9 70 (TX9 10).1 (TX9 10).2.1 (TX9 10).2.2.1 : Cond) ∈ LT := LT_of 377 (by decide +kernel) (by decide +kernel)
theorem kw_378 : (Cond.fieldLink RX9 74 (TX9 11).1 (TX9 11).2.1 (TX9 11).2.2.1 : Cond) ∈ LT := LT_of 378 (by decide +kernel) (by decide +kernel)
theorem kw_379 : (Cond.fieldLink RX9 80 (TX9 12).1 (TX9 12).2.1 (TX9 12).2.2.1 : Cond) ∈ LT := LT_of 379 (by decide +kernel) (by decide +kernel)
theorem kw_380 : (Cond.fieldLink RX9 84 (TX9 13).1 (TX9 13).2.1 (TX9 13).2.2.1 : Cond) ∈ LT := LT_of 380 (by decide +kernel) (by decide +kernel)
theorem kw_381 : (Cond.fieldLink RX9 87 (TX9 14).1 (TX9 14).2.1 (TX9 14).2.2.1 : Cond) ∈ LT := LT_of 381 (by decide +kernel) (by decide +kernel)
theorem kw_382 : (Cond.fieldLink RX9 91 (TX9 15).1 (TX9 15).2.1 (TX9 15).2.2.1 : Cond) ∈ LT := LT_of 382 (by decide +kernel) (by decide +kernel)
theorem kw_383 : (Cond.fieldLink RX9 95 (TX9 16).1 (TX9 16).2.1 (TX9 16).2.2.1 : Cond) ∈ LT := LT_of 383 (by decide +kernel) (by decide +kernel)
theorem kw_384 : (Cond.fieldLink RX9 98 (TX9 17).1 (TX9 17).2.1 (TX9 17).2.2.1 : Cond) ∈ LT := LT_of 384 (by decide +kernel) (by decide +kernel)
theorem kw_385 : (Cond.fieldLink RX9 101 (TX9 18).1 (TX9 18).2.1 (TX9 18).2.2.1 : Cond) ∈ LT := LT_of 385 (by decide +kernel) (by decide +kernel)
theorem kw_425 : (Cond.methodLink RL 123 yX9_feed : Cond) ∈ LT := LT_of 425 (by decide +kernel) (by decide +kernel)
theorem kw_426 : (Cond.instanceMethod yX9_feed : Cond) ∈ LT := LT_of 426 (by decide +kernel) (by decide +kernel)
theorem kw_427 : (Cond.selects RX9 yX9_feed yX9_feed : Cond) ∈ LT := LT_of 427 (by decide +kernel) (by decide +kernel)
theorem kw_428 : (Cond.code yX9_feed cX9_feed 6 (some .int) : Cond) ∈ LT := LT_of 428 (by decide +kernel) (by decide +kernel)
theorem kw_429 : (Cond.methodLink RX9 104 yX7_hasRoom : Cond) ∈ LT := LT_of 429 (by decide +kernel) (by decide +kernel)
theorem kw_430 : (Cond.instanceMethod yX7_hasRoom : Cond) ∈ LT := LT_of 430 (by decide +kernel) (by decide +kernel)
theorem kw_431 : (Cond.selects RX7 yX7_hasRoom yX7_hasRoom : Cond) ∈ LT := LT_of 431 (by decide +kernel) (by decide +kernel)
theorem kw_432 : (Cond.code yX7_hasRoom cX7_hasRoom 1 (some .boolean) : Cond) ∈ LT := LT_of 432 (by decide +kernel) (by decide +kernel)
theorem kw_433 : (Cond.methodLink RX9 108 yX7_put : Cond) ∈ LT := LT_of 433 (by decide +kernel) (by decide +kernel)
theorem kw_434 : (Cond.instanceMethod yX7_put : Cond) ∈ LT := LT_of 434 (by decide +kernel) (by decide +kernel)
theorem kw_435 : (Cond.selects RX7 yX7_put yX7_put : Cond) ∈ LT := LT_of 435 (by decide +kernel) (by decide +kernel)
theorem kw_436 : (Cond.code yX7_put cX7_put 3 none : Cond) ∈ LT := LT_of 436 (by decide +kernel) (by decide +kernel)
theorem kw_437 : (Cond.methodLink RL 147 yX9_fault : Cond) ∈ LT := LT_of 437 (by decide +kernel) (by decide +kernel)
theorem kw_438 : (Cond.instanceMethod yX9_fault : Cond) ∈ LT := LT_of 438 (by decide +kernel) (by decide +kernel)
theorem kw_439 : (Cond.selects RX9 yX9_fault yX9_fault : Cond) ∈ LT := LT_of 439 (by decide +kernel) (by decide +kernel)
theorem kw_440 : (Cond.code yX9_fault cX9_fault 1 (some .int) : Cond) ∈ LT := LT_of 440 (by decide +kernel) (by decide +kernel)
theorem kw_441 : (Cond.methodLink RL 151 yX9_undo : Cond) ∈ LT := LT_of 441 (by decide +kernel) (by decide +kernel)
theorem kw_442 : (Cond.instanceMethod yX9_undo : Cond) ∈ LT := LT_of 442 (by decide +kernel) (by decide +kernel)
theorem kw_443 : (Cond.selects RX9 yX9_undo yX9_undo : Cond) ∈ LT := LT_of 443 (by decide +kernel) (by decide +kernel)
theorem kw_444 : (Cond.code yX9_undo cX9_undo 1 (some .int) : Cond) ∈ LT := LT_of 444 (by decide +kernel) (by decide +kernel)
theorem kw_445 : (Cond.methodLink RX9 184 yX4_copy : Cond) ∈ LT := LT_of 445 (by decide +kernel) (by decide +kernel)
theorem kw_446 : (Cond.instanceMethod yX4_copy : Cond) ∈ LT := LT_of 446 (by decide +kernel) (by decide +kernel)
theorem kw_447 : (Cond.selects RX4 yX4_copy yX4_copy : Cond) ∈ LT := LT_of 447 (by decide +kernel) (by decide +kernel)
theorem kw_448 : (Cond.code yX4_copy cX4_copy 2 none : Cond) ∈ LT := LT_of 448 (by decide +kernel) (by decide +kernel)
theorem kw_449 : (Cond.methodLink RX4 54 arraycopyName : Cond) ∈ LT := LT_of 449 (by decide +kernel) (by decide +kernel)
theorem kw_450 : (Cond.static arraycopyName : Cond) ∈ LT := LT_of 450 (by decide +kernel) (by decide +kernel)
theorem kw_451 : (Cond.native arraycopyName : Cond) ∈ LT := LT_of 451 (by decide +kernel) (by decide +kernel)
theorem kw_452 : (Cond.methodLink RX9 153 yX9_worksLeft : Cond) ∈ LT := LT_of 452 (by decide +kernel) (by decide +kernel)
theorem kw_454 : (Cond.instanceMethod yX9_worksLeft : Cond) ∈ LT := LT_of 454 (by decide +kernel) (by decide +kernel)
theorem kw_455 : (Cond.code yX9_worksLeft cX9_worksLeft 1 (some .int) : Cond) ∈ LT := LT_of 455 (by decide +kernel) (by decide +kernel)
theorem kw_456 : (Cond.methodLink RL 191 yX9_stuff : Cond) ∈ LT := LT_of 456 (by decide +kernel) (by decide +kernel)
theorem kw_457 : (Cond.instanceMethod yX9_stuff : Cond) ∈ LT := LT_of 457 (by decide +kernel) (by decide +kernel)
theorem kw_458 : (Cond.selects RX9 yX9_stuff yX9_stuff : Cond) ∈ LT := LT_of 458 (by decide +kernel) (by decide +kernel)
theorem kw_459 : (Cond.code yX9_stuff cX9_stuff 1 (some .int) : Cond) ∈ LT := LT_of 459 (by decide +kernel) (by decide +kernel)
theorem kw_460 : (Cond.methodLink RX9 294 yX5_find : Cond) ∈ LT := LT_of 460 (by decide +kernel) (by decide +kernel)
theorem kw_461 : (Cond.instanceMethod yX5_find : Cond) ∈ LT := LT_of 461 (by decide +kernel) (by decide +kernel)
theorem kw_462 : (Cond.selects RX5 yX5_find yX5_find : Cond) ∈ LT := LT_of 462 (by decide +kernel) (by decide +kernel)
theorem kw_463 : (Cond.code yX5_find cX5_find 7 none : Cond) ∈ LT := LT_of 463 (by decide +kernel) (by decide +kernel)
theorem kw_464 : (Cond.methodLink RX5 33 yX4_leftOf : Cond) ∈ LT := LT_of 464 (by decide +kernel) (by decide +kernel)
theorem kw_465 : (Cond.instanceMethod yX4_leftOf : Cond) ∈ LT := LT_of 465 (by decide +kernel) (by decide +kernel)
theorem kw_466 : (Cond.selects RX4 yX4_leftOf yX4_leftOf : Cond) ∈ LT := LT_of 466 (by decide +kernel) (by decide +kernel)
theorem kw_467 : (Cond.code yX4_leftOf cX4_leftOf 3 (some .int) : Cond) ∈ LT := LT_of 467 (by decide +kernel) (by decide +kernel)
theorem kw_468 : (Cond.methodLink RX5 42 yX2_wordAt : Cond) ∈ LT := LT_of 468 (by decide +kernel) (by decide +kernel)
theorem kw_469 : (Cond.instanceMethod yX2_wordAt : Cond) ∈ LT := LT_of 469 (by decide +kernel) (by decide +kernel)
theorem kw_470 : (Cond.selects RX2 yX2_wordAt yX2_wordAt : Cond) ∈ LT := LT_of 470 (by decide +kernel) (by decide +kernel)
theorem kw_471 : (Cond.code yX2_wordAt cX2_wordAt 3 (some .int) : Cond) ∈ LT := LT_of 471 (by decide +kernel) (by decide +kernel)
theorem kw_472 : (Cond.methodLink RX5 46 yX4_nextOf : Cond) ∈ LT := LT_of 472 (by decide +kernel) (by decide +kernel)
theorem kw_473 : (Cond.instanceMethod yX4_nextOf : Cond) ∈ LT := LT_of 473 (by decide +kernel) (by decide +kernel)
theorem kw_474 : (Cond.selects RX4 yX4_nextOf yX4_nextOf : Cond) ∈ LT := LT_of 474 (by decide +kernel) (by decide +kernel)
theorem kw_475 : (Cond.code yX4_nextOf cX4_nextOf 3 (some .int) : Cond) ∈ LT := LT_of 475 (by decide +kernel) (by decide +kernel)
theorem kw_476 : (Cond.methodLink RX4 70 yX4_leftOf : Cond) ∈ LT := LT_of 476 (by decide +kernel) (by decide +kernel)
theorem kw_477 : (Cond.methodLink RX4 74 yX2_wordAt : Cond) ∈ LT := LT_of 477 (by decide +kernel) (by decide +kernel)
theorem kw_478 : (Cond.methodLink RX5 49 yX5_bestBehind : Cond) ∈ LT := LT_of 478 (by decide +kernel) (by decide +kernel)
theorem kw_479 : (Cond.instanceMethod yX5_bestBehind : Cond) ∈ LT := LT_of 479 (by decide +kernel) (by decide +kernel)
theorem kw_480 : (Cond.selects RX5 yX5_bestBehind yX5_bestBehind : Cond) ∈ LT := LT_of 480 (by decide +kernel) (by decide +kernel)
theorem kw_481 : (Cond.code yX5_bestBehind cX5_bestBehind 5 (some .int) : Cond) ∈ LT := LT_of 481 (by decide +kernel) (by decide +kernel)
theorem kw_483 : (Cond.static yX9_has : Cond) ∈ LT := LT_of 483 (by decide +kernel) (by decide +kernel)
theorem kw_484 : (Cond.code yX9_has cX9_has 2 (some .boolean) : Cond) ∈ LT := LT_of 484 (by decide +kernel) (by decide +kernel)
theorem kw_485 : (Cond.methodLink RX5 52 yX5_worth : Cond) ∈ LT := LT_of 485 (by decide +kernel) (by decide +kernel)
theorem kw_486 : (Cond.instanceMethod yX5_worth : Cond) ∈ LT := LT_of 486 (by decide +kernel) (by decide +kernel)
theorem kw_487 : (Cond.selects RX5 yX5_worth yX5_worth : Cond) ∈ LT := LT_of 487 (by decide +kernel) (by decide +kernel)
theorem kw_488 : (Cond.code yX5_worth cX5_worth 5 (some .int) : Cond) ∈ LT := LT_of 488 (by decide +kernel) (by decide +kernel)
theorem kw_489 : (Cond.methodLink RX5 56 yX5_choose : Cond) ∈ LT := LT_of 489 (by decide +kernel) (by decide +kernel)
theorem kw_490 : (Cond.instanceMethod yX5_choose : Cond) ∈ LT := LT_of 490 (by decide +kernel) (by decide +kernel)
theorem kw_491 : (Cond.selects RX5 yX5_choose yX5_choose : Cond) ∈ LT := LT_of 491 (by decide +kernel) (by decide +kernel)
theorem kw_492 : (Cond.code yX5_choose cX5_choose 6 none : Cond) ∈ LT := LT_of 492 (by decide +kernel) (by decide +kernel)
theorem kw_493 : (Cond.methodLink RL 251 yX9_image : Cond) ∈ LT := LT_of 493 (by decide +kernel) (by decide +kernel)
theorem kw_494 : (Cond.instanceMethod yX9_image : Cond) ∈ LT := LT_of 494 (by decide +kernel) (by decide +kernel)
theorem kw_495 : (Cond.selects RX9 yX9_image yX9_image : Cond) ∈ LT := LT_of 495 (by decide +kernel) (by decide +kernel)
theorem kw_496 : (Cond.code yX9_image cX9_image 1 (some .int) : Cond) ∈ LT := LT_of 496 (by decide +kernel) (by decide +kernel)
theorem kw_497 : (Cond.instantiable RX3 3 : Cond) ∈ LT := LT_of 497 (by decide +kernel) (by decide +kernel)
theorem kw_498 : (Cond.methodLink RX9 159 yX3_init : Cond) ∈ LT := LT_of 498 (by decide +kernel) (by decide +kernel)
theorem kw_499 : (Cond.instanceMethod yX3_init : Cond) ∈ LT := LT_of 499 (by decide +kernel) (by decide +kernel)
theorem kw_500 : (Cond.code yX3_init cX3_init 4 none : Cond) ∈ LT := LT_of 500 (by decide +kernel) (by decide +kernel)
theorem kw_501 : (Cond.methodLink RX3 1 objectInit : Cond) ∈ LT := LT_of 501 (by decide +kernel) (by decide +kernel)
theorem kw_502 : (Cond.classLink RX3 7 RX4 : Cond) ∈ LT := LT_of 502 (by decide +kernel) (by decide +kernel)
theorem kw_504 : (Cond.methodLink RX3 16 yX4_copy : Cond) ∈ LT := LT_of 504 (by decide +kernel) (by decide +kernel)
theorem kw_505 : (Cond.fieldLink RX3 10 (TX3 0).1 (TX3 0).2.1 (TX3 0).2.2.1 : Cond) ∈ LT := LT_of 505 (by decide +kernel) (by decide +kernel)
theorem kw_506 : (Cond.fieldLink RX9 181 (TX3 0).1 (TX3 0).2.1 (TX3 0).2.2.1 : Cond) ∈ LT := LT_of 506 (by decide +kernel) (by decide +kernel)
theorem kw_507 : (Cond.fieldLink RX3 20 (TX3 1).1 (TX3 1).2.1 (TX3 1).2.2.1 : Cond) ∈ LT := LT_of 507 (by decide +kernel) (by decide +kernel)
theorem kw_508 : (Cond.fieldLink RX9 188 (TX3 1).1 (TX3 1).2.1 (TX3 1).2.2.1 : Cond) ∈ LT := LT_of 508 (by decide +kernel) (by decide +kernel)
theorem kw_509 : (Cond.fieldLink RX3 24 (TX3 2).1 (TX3 2).2.1 (TX3 2).2.2.1 : Cond) ∈ LT := LT_of 509 (by decide +kernel) (by decide +kernel)
theorem kw_510 : (Cond.fieldLink RX9 374 (TX3 2).1 (TX3 2).2.1 (TX3 2).2.2.1 : Cond) ∈ LT := LT_of 510 (by decide +kernel) (by decide +kernel)
theorem kw_518 : (Cond.methodLink RL 255 yX9_restore : Cond) ∈ LT := LT_of 518 (by decide +kernel) (by decide +kernel)
theorem kw_519 : (Cond.instanceMethod yX9_restore : Cond) ∈ LT := LT_of 519 (by decide +kernel) (by decide +kernel)
theorem kw_520 : (Cond.selects RX9 yX9_restore yX9_restore : Cond) ∈ LT := LT_of 520 (by decide +kernel) (by decide +kernel)
theorem kw_521 : (Cond.code yX9_restore cX9_restore 2 (some .int) : Cond) ∈ LT := LT_of 521 (by decide +kernel) (by decide +kernel)
theorem kw_522 : (Cond.methodLink RL 259 yX9_status : Cond) ∈ LT := LT_of 522 (by decide +kernel) (by decide +kernel)
theorem kw_523 : (Cond.instanceMethod yX9_status : Cond) ∈ LT := LT_of 523 (by decide +kernel) (by decide +kernel)
theorem kw_524 : (Cond.selects RX9 yX9_status yX9_status : Cond) ∈ LT := LT_of 524 (by decide +kernel) (by decide +kernel)
theorem kw_525 : (Cond.code yX9_status cX9_status 2 (some .int) : Cond) ∈ LT := LT_of 525 (by decide +kernel) (by decide +kernel)
theorem kw_526 : (Cond.methodLink RL 263 yX9_count : Cond) ∈ LT := LT_of 526 (by decide +kernel) (by decide +kernel)
theorem kw_527 : (Cond.instanceMethod yX9_count : Cond) ∈ LT := LT_of 527 (by decide +kernel) (by decide +kernel)
theorem kw_528 : (Cond.selects RX9 yX9_count yX9_count : Cond) ∈ LT := LT_of 528 (by decide +kernel) (by decide +kernel)
theorem kw_529 : (Cond.code yX9_count cX9_count 2 (some .int) : Cond) ∈ LT := LT_of 529 (by decide +kernel) (by decide +kernel)
theorem kw_530 : (Cond.methodLink RL 128 yL_garden : Cond) ∈ LT := LT_of 530 (by decide +kernel) (by decide +kernel)
theorem kw_531 : (Cond.static yL_garden : Cond) ∈ LT := LT_of 531 (by decide +kernel) (by decide +kernel)
theorem kw_533 : (Cond.classLink RL 13 "java/lang/IllegalArgumentException" : Cond) ∈ LT := LT_of 533 (by decide +kernel) (by decide +kernel)
theorem kw_534 : (Cond.methodLink RL 7 yX9_garden : Cond) ∈ LT := LT_of 534 (by decide +kernel) (by decide +kernel)
theorem kw_535 : (Cond.instanceMethod yX9_garden : Cond) ∈ LT := LT_of 535 (by decide +kernel) (by decide +kernel)
theorem kw_536 : (Cond.selects RX9 yX9_garden yX9_garden : Cond) ∈ LT := LT_of 536 (by decide +kernel) (by decide +kernel)
theorem kw_537 : (Cond.code yX9_garden cX9_garden 3 (some .int) : Cond) ∈ LT := LT_of 537 (by decide +kernel) (by decide +kernel)
theorem kw_538 : (Cond.methodLink RX9 115 yX9_needText : Cond) ∈ LT := LT_of 538 (by decide +kernel) (by decide +kernel)
theorem kw_540 : (Cond.instanceMethod yX9_needText : Cond) ∈ LT := LT_of 540 (by decide +kernel) (by decide +kernel)
theorem kw_541 : (Cond.code yX9_needText cX9_needText 3 none : Cond) ∈ LT := LT_of 541 (by decide +kernel) (by decide +kernel)
theorem kw_542 : (Cond.methodLink RX9 341 Lib.Math.min.name : Cond) ∈ LT := LT_of 542 (by decide +kernel) (by decide +kernel)
theorem kw_543 : (Cond.static Lib.Math.min.name : Cond) ∈ LT := LT_of 543 (by decide +kernel) (by decide +kernel)
theorem kw_544 : (Cond.code Lib.Math.min.name Lib.Math.min.code 2 (some .int) : Cond) ∈ LT := LT_of 544 (by decide +kernel) (by decide +kernel)
theorem kw_545 : (Cond.methodLink RX9 191 yX9_needRange : Cond) ∈ LT := LT_of 545 (by decide +kernel) (by decide +kernel)
theorem kw_547 : (Cond.instanceMethod yX9_needRange : Cond) ∈ LT := LT_of 547 (by decide +kernel) (by decide +kernel)
theorem kw_548 : (Cond.code yX9_needRange cX9_needRange 4 none : Cond) ∈ LT := LT_of 548 (by decide +kernel) (by decide +kernel)
theorem kw_549 : (Cond.classLink RX9 368 "java/lang/IllegalArgumentException" : Cond) ∈ LT := LT_of 549 (by decide +kernel) (by decide +kernel)
theorem kw_550 : (Cond.instantiable "java/lang/IllegalArgumentException" 6 : Cond) ∈ LT := LT_of 550 (by decide +kernel) (by decide +kernel)
theorem kw_558 : (Cond.selects "java/lang/IllegalArgumentException" ⟨"java/lang/Throwable", "fillInStackTrace", "(I)Ljava/lang/Throwable;"⟩ ⟨"java/lang/Throwable", "fillInStackTrace", "(I)Ljava/lang/Throwable;"⟩ : Cond) ∈ LT := LT_of 558 (by decide +kernel) (by decide +kernel)
theorem kw_559 : (Cond.selects "java/lang/IllegalArgumentException" ⟨"java/lang/Throwable", "fillInStackTrace", "()Ljava/lang/Throwable;"⟩ ⟨"java/lang/Throwable", "fillInStackTrace", "()Ljava/lang/Throwable;"⟩ : Cond) ∈ LT := LT_of 559 (by decide +kernel) (by decide +kernel)
theorem kw_570 : (Cond.fieldLink "java/lang/Throwable" 198 "java/lang/Throwable" "backtrace" "Ljava/lang/Object;" : Cond) ∈ LT := LT_of 570 (by decide +kernel) (by decide +kernel)
theorem kw_572 : (Cond.instanceMethod ⟨"java/lang/Throwable", "<init>", "()V"⟩ : Cond) ∈ LT := LT_of 572 (by decide +kernel) (by decide +kernel)
theorem kw_573 : (Cond.code ⟨"java/lang/Throwable", "<init>", "()V"⟩ prog_25_method_1_code 1 none : Cond) ∈ LT := LT_of 573 (by decide +kernel) (by decide +kernel)
theorem kw_574 : (Cond.methodLink "java/lang/Throwable" 1 objectInit : Cond) ∈ LT := LT_of 574 (by decide +kernel) (by decide +kernel)
theorem kw_575 : (Cond.fieldLink "java/lang/Throwable" 13 "java/lang/Throwable" "UNASSIGNED_STACK" "[Ljava/lang/StackTraceElement;" : Cond) ∈ LT := LT_of 575 (by decide +kernel) (by decide +kernel)
theorem kw_577 : (Cond.fieldLink "java/lang/Throwable" 20 "java/lang/Throwable" "SUPPRESSED_SENTINEL" "Ljava/util/List;" : Cond) ∈ LT := LT_of 577 (by decide +kernel) (by decide +kernel)
theorem kw_579 : (Cond.methodLink "java/lang/Throwable" 27 ⟨"java/lang/Throwable", "fillInStackTrace", "()Ljava/lang/Throwable;"⟩ : Cond) ∈ LT := LT_of 579 (by decide +kernel) (by decide +kernel)
theorem kw_580 : (Cond.instanceMethod ⟨"java/lang/Throwable", "fillInStackTrace", "()Ljava/lang/Throwable;"⟩ : Cond) ∈ LT := LT_of 580 (by decide +kernel) (by decide +kernel)
theorem kw_582 : (Cond.selects "java/util/NoSuchElementException" ⟨"java/lang/Throwable", "fillInStackTrace", "()Ljava/lang/Throwable;"⟩ ⟨"java/lang/Throwable", "fillInStackTrace", "()Ljava/lang/Throwable;"⟩ : Cond) ∈ LT := LT_of 582 (by decide +kernel) (by decide +kernel)
theorem kw_584 : (Cond.methodLink "java/lang/Throwable" 202 ⟨"java/lang/Throwable", "fillInStackTrace", "(I)Ljava/lang/Throwable;"⟩ : Cond) ∈ LT := LT_of 584 (by decide +kernel) (by decide +kernel)
theorem kw_586 : (Cond.instanceMethod ⟨"java/lang/Throwable", "fillInStackTrace", "(I)Ljava/lang/Throwable;"⟩ : Cond) ∈ LT := LT_of 586 (by decide +kernel) (by decide +kernel)
theorem kw_587 : (Cond.instantiable "java/lang/Throwable" 6 : Cond) ∈ LT := LT_of 587 (by decide +kernel) (by decide +kernel)
theorem kw_588 : (Cond.native ⟨"java/lang/Throwable", "fillInStackTrace", "(I)Ljava/lang/Throwable;"⟩ : Cond) ∈ LT := LT_of 588 (by decide +kernel) (by decide +kernel)
theorem kw_589 : (Cond.methodLink RX9 370 ⟨"java/lang/IllegalArgumentException", "<init>", "()V"⟩ : Cond) ∈ LT := LT_of 589 (by decide +kernel) (by decide +kernel)
theorem kw_590 : (Cond.instanceMethod ⟨"java/lang/IllegalArgumentException", "<init>", "()V"⟩ : Cond) ∈ LT := LT_of 590 (by decide +kernel) (by decide +kernel)
theorem kw_591 : (Cond.code ⟨"java/lang/IllegalArgumentException", "<init>", "()V"⟩ prog_17_method_1_code 1 none : Cond) ∈ LT := LT_of 591 (by decide +kernel) (by decide +kernel)
theorem kw_592 : (Cond.methodLink "java/lang/IllegalArgumentException" 1 ⟨"java/lang/RuntimeException", "<init>", "()V"⟩ : Cond) ∈ LT := LT_of 592 (by decide +kernel) (by decide +kernel)
theorem kw_593 : (Cond.instanceMethod ⟨"java/lang/RuntimeException", "<init>", "()V"⟩ : Cond) ∈ LT := LT_of 593 (by decide +kernel) (by decide +kernel)
theorem kw_594 : (Cond.code ⟨"java/lang/RuntimeException", "<init>", "()V"⟩ prog_20_method_1_code 1 none : Cond) ∈ LT := LT_of 594 (by decide +kernel) (by decide +kernel)
theorem kw_595 : (Cond.methodLink "java/lang/RuntimeException" 1 ⟨"java/lang/Exception", "<init>", "()V"⟩ : Cond) ∈ LT := LT_of 595 (by decide +kernel) (by decide +kernel)
theorem kw_596 : (Cond.instanceMethod ⟨"java/lang/Exception", "<init>", "()V"⟩ : Cond) ∈ LT := LT_of 596 (by decide +kernel) (by decide +kernel)
theorem kw_597 : (Cond.code ⟨"java/lang/Exception", "<init>", "()V"⟩ prog_16_method_1_code 1 none : Cond) ∈ LT := LT_of 597 (by decide +kernel) (by decide +kernel)
theorem kw_598 : (Cond.methodLink "java/lang/Exception" 1 ⟨"java/lang/Throwable", "<init>", "()V"⟩ : Cond) ∈ LT := LT_of 598 (by decide +kernel) (by decide +kernel)
theorem kw_600 : (Cond.fieldLink "java/lang/Throwable" 7 "java/lang/Throwable" "cause" "Ljava/lang/Throwable;" : Cond) ∈ LT := LT_of 600 (by decide +kernel) (by decide +kernel)
theorem kw_601 : (Cond.fieldLink "java/lang/Throwable" 17 "java/lang/Throwable" "stackTrace" "[Ljava/lang/StackTraceElement;" : Cond) ∈ LT := LT_of 601 (by decide +kernel) (by decide +kernel)
theorem kw_602 : (Cond.fieldLink "java/lang/Throwable" 24 "java/lang/Throwable" "suppressedExceptions" "Ljava/util/List;" : Cond) ∈ LT := LT_of 602 (by decide +kernel) (by decide +kernel)
theorem kw_611 : (Cond.methodLink RX9 119 yX7_open : Cond) ∈ LT := LT_of 611 (by decide +kernel) (by decide +kernel)
theorem kw_612 : (Cond.instanceMethod yX7_open : Cond) ∈ LT := LT_of 612 (by decide +kernel) (by decide +kernel)
theorem kw_613 : (Cond.selects RX7 yX7_open yX7_open : Cond) ∈ LT := LT_of 613 (by decide +kernel) (by decide +kernel)
theorem kw_614 : (Cond.code yX7_open cX7_open 2 none : Cond) ∈ LT := LT_of 614 (by decide +kernel) (by decide +kernel)
theorem kw_615 : (Cond.methodLink RX9 122 yX2_read : Cond) ∈ LT := LT_of 615 (by decide +kernel) (by decide +kernel)
theorem kw_616 : (Cond.instanceMethod yX2_read : Cond) ∈ LT := LT_of 616 (by decide +kernel) (by decide +kernel)
theorem kw_617 : (Cond.selects RX2 yX2_read yX2_read : Cond) ∈ LT := LT_of 617 (by decide +kernel) (by decide +kernel)
theorem kw_618 : (Cond.code yX2_read cX2_read 3 none : Cond) ∈ LT := LT_of 618 (by decide +kernel) (by decide +kernel)
theorem kw_619 : (Cond.methodLink RX2 37 yX7_isAtEnd : Cond) ∈ LT := LT_of 619 (by decide +kernel) (by decide +kernel)
theorem kw_620 : (Cond.instanceMethod yX7_isAtEnd : Cond) ∈ LT := LT_of 620 (by decide +kernel) (by decide +kernel)
theorem kw_621 : (Cond.selects RX7 yX7_isAtEnd yX7_isAtEnd : Cond) ∈ LT := LT_of 621 (by decide +kernel) (by decide +kernel)
theorem kw_622 : (Cond.code yX7_isAtEnd cX7_isAtEnd 1 (some .boolean) : Cond) ∈ LT := LT_of 622 (by decide +kernel) (by decide +kernel)
theorem kw_623 : (Cond.methodLink RX7 34 yX7_peek : Cond) ∈ LT := LT_of 623 (by decide +kernel) (by decide +kernel)
theorem kw_624 : (Cond.instanceMethod yX7_peek : Cond) ∈ LT := LT_of 624 (by decide +kernel) (by decide +kernel)
theorem kw_625 : (Cond.selects RX7 yX7_peek yX7_peek : Cond) ∈ LT := LT_of 625 (by decide +kernel) (by decide +kernel)
theorem kw_626 : (Cond.code yX7_peek cX7_peek 1 (some .int) : Cond) ∈ LT := LT_of 626 (by decide +kernel) (by decide +kernel)
theorem kw_627 : (Cond.methodLink RX2 43 yX2_readClause : Cond) ∈ LT := LT_of 627 (by decide +kernel) (by decide +kernel)
theorem kw_628 : (Cond.instanceMethod yX2_readClause : Cond) ∈ LT := LT_of 628 (by decide +kernel) (by decide +kernel)
theorem kw_629 : (Cond.selects RX2 yX2_readClause yX2_readClause : Cond) ∈ LT := LT_of 629 (by decide +kernel) (by decide +kernel)
theorem kw_630 : (Cond.code yX2_readClause cX2_readClause 2 none : Cond) ∈ LT := LT_of 630 (by decide +kernel) (by decide +kernel)
theorem kw_632 : (Cond.methodLink RX2 53 yX7_takes_ : Cond) ∈ LT := LT_of 632 (by decide +kernel) (by decide +kernel)
theorem kw_633 : (Cond.instanceMethod yX7_takes_ : Cond) ∈ LT := LT_of 633 (by decide +kernel) (by decide +kernel)
theorem kw_634 : (Cond.selects RX7 yX7_takes_ yX7_takes_ : Cond) ∈ LT := LT_of 634 (by decide +kernel) (by decide +kernel)
theorem kw_635 : (Cond.code yX7_takes_ cX7_takes_ 4 (some .boolean) : Cond) ∈ LT := LT_of 635 (by decide +kernel) (by decide +kernel)
theorem kw_636 : (Cond.methodLink RX7 42 yJ0_length_8abf5 : Cond) ∈ LT := LT_of 636 (by decide +kernel) (by decide +kernel)
theorem kw_637 : (Cond.instanceMethod yJ0_length_8abf5 : Cond) ∈ LT := LT_of 637 (by decide +kernel) (by decide +kernel)
theorem kw_638 : (Cond.selects RJ0 yJ0_length_8abf5 yJ0_length_8abf5 : Cond) ∈ LT := LT_of 638 (by decide +kernel) (by decide +kernel)
theorem kw_639 : (Cond.code yJ0_length_8abf5 cJ0_length_8abf5 1 (some .int) : Cond) ∈ LT := LT_of 639 (by decide +kernel) (by decide +kernel)
theorem kw_640 : (Cond.methodLink RJ0 335 yJ0_coder_7d493 : Cond) ∈ LT := LT_of 640 (by decide +kernel) (by decide +kernel)
theorem kw_641 : (Cond.instanceMethod yJ0_coder_7d493 : Cond) ∈ LT := LT_of 641 (by decide +kernel) (by decide +kernel)
theorem kw_642 : (Cond.selects RJ0 yJ0_coder_7d493 yJ0_coder_7d493 : Cond) ∈ LT := LT_of 642 (by decide +kernel) (by decide +kernel)
theorem kw_643 : (Cond.code yJ0_coder_7d493 cJ0_coder_7d493 1 (some .byte) : Cond) ∈ LT := LT_of 643 (by decide +kernel) (by decide +kernel)
theorem kw_644 : (Cond.fieldLink RJ0 38 "java/lang/String" "COMPACT_STRINGS" "Z" : Cond) ∈ LT := LT_of 644 (by decide +kernel) (by decide +kernel)
theorem kw_646 : (Cond.methodLink RX7 47 yX7_byteAt : Cond) ∈ LT := LT_of 646 (by decide +kernel) (by decide +kernel)
theorem kw_647 : (Cond.instanceMethod yX7_byteAt : Cond) ∈ LT := LT_of 647 (by decide +kernel) (by decide +kernel)
theorem kw_648 : (Cond.selects RX7 yX7_byteAt yX7_byteAt : Cond) ∈ LT := LT_of 648 (by decide +kernel) (by decide +kernel)
theorem kw_649 : (Cond.code yX7_byteAt cX7_byteAt 2 (some .int) : Cond) ∈ LT := LT_of 649 (by decide +kernel) (by decide +kernel)
theorem kw_650 : (Cond.methodLink RX7 51 yJ0_charAt_5068e : Cond) ∈ LT := LT_of 650 (by decide +kernel) (by decide +kernel)
theorem kw_651 : (Cond.instanceMethod yJ0_charAt_5068e : Cond) ∈ LT := LT_of 651 (by decide +kernel) (by decide +kernel)
theorem kw_652 : (Cond.selects RJ0 yJ0_charAt_5068e yJ0_charAt_5068e : Cond) ∈ LT := LT_of 652 (by decide +kernel) (by decide +kernel)
theorem kw_653 : (Cond.code yJ0_charAt_5068e cJ0_charAt_5068e 2 (some .char) : Cond) ∈ LT := LT_of 653 (by decide +kernel) (by decide +kernel)
theorem kw_654 : (Cond.methodLink RJ0 492 yJ0_isLatin1_aae02 : Cond) ∈ LT := LT_of 654 (by decide +kernel) (by decide +kernel)
theorem kw_655 : (Cond.instanceMethod yJ0_isLatin1_aae02 : Cond) ∈ LT := LT_of 655 (by decide +kernel) (by decide +kernel)
theorem kw_656 : (Cond.selects RJ0 yJ0_isLatin1_aae02 yJ0_isLatin1_aae02 : Cond) ∈ LT := LT_of 656 (by decide +kernel) (by decide +kernel)
theorem kw_657 : (Cond.code yJ0_isLatin1_aae02 cJ0_isLatin1_aae02 1 (some .boolean) : Cond) ∈ LT := LT_of 657 (by decide +kernel) (by decide +kernel)
theorem kw_658 : (Cond.methodLink RJ0 495 yJ1_charAt_3b067 : Cond) ∈ LT := LT_of 658 (by decide +kernel) (by decide +kernel)
theorem kw_659 : (Cond.static yJ1_charAt_3b067 : Cond) ∈ LT := LT_of 659 (by decide +kernel) (by decide +kernel)
theorem kw_660 : (Cond.code yJ1_charAt_3b067 cJ1_charAt_3b067 2 (some .char) : Cond) ∈ LT := LT_of 660 (by decide +kernel) (by decide +kernel)
theorem kw_661 : (Cond.methodLink RJ1 9 yJ0_checkIndex_df160 : Cond) ∈ LT := LT_of 661 (by decide +kernel) (by decide +kernel)
theorem kw_662 : (Cond.static yJ0_checkIndex_df160 : Cond) ∈ LT := LT_of 662 (by decide +kernel) (by decide +kernel)
theorem kw_663 : (Cond.code yJ0_checkIndex_df160 cJ0_checkIndex_df160 2 none : Cond) ∈ LT := LT_of 663 (by decide +kernel) (by decide +kernel)
theorem kw_664 : (Cond.fieldLink RJ0 1053 "jdk/internal/util/Preconditions" "SIOOBE_FORMATTER" "Ljava/util/function/BiFunction;" : Cond) ∈ LT := LT_of 664 (by decide +kernel) (by decide +kernel)
theorem kw_666 : (Cond.methodLink RJ0 1059 yJ3_checkIndex_8e157 : Cond) ∈ LT := LT_of 666 (by decide +kernel) (by decide +kernel)
theorem kw_667 : (Cond.static yJ3_checkIndex_8e157 : Cond) ∈ LT := LT_of 667 (by decide +kernel) (by decide +kernel)
theorem kw_668 : (Cond.code yJ3_checkIndex_8e157 cJ3_checkIndex_8e157 3 (some .int) : Cond) ∈ LT := LT_of 668 (by decide +kernel) (by decide +kernel)
theorem kw_669 : (Cond.methodLink RJ0 498 yJ2_charAt_3b067 : Cond) ∈ LT := LT_of 669 (by decide +kernel) (by decide +kernel)
theorem kw_670 : (Cond.static yJ2_charAt_3b067 : Cond) ∈ LT := LT_of 670 (by decide +kernel) (by decide +kernel)
theorem kw_671 : (Cond.code yJ2_charAt_3b067 cJ2_charAt_3b067 2 (some .char) : Cond) ∈ LT := LT_of 671 (by decide +kernel) (by decide +kernel)
theorem kw_672 : (Cond.methodLink RJ2 67 yJ2_checkIndex_2214a : Cond) ∈ LT := LT_of 672 (by decide +kernel) (by decide +kernel)
theorem kw_673 : (Cond.static yJ2_checkIndex_2214a : Cond) ∈ LT := LT_of 673 (by decide +kernel) (by decide +kernel)
theorem kw_674 : (Cond.code yJ2_checkIndex_2214a cJ2_checkIndex_2214a 2 none : Cond) ∈ LT := LT_of 674 (by decide +kernel) (by decide +kernel)
theorem kw_675 : (Cond.methodLink RJ2 48 yJ2_length_9d52b : Cond) ∈ LT := LT_of 675 (by decide +kernel) (by decide +kernel)
theorem kw_676 : (Cond.static yJ2_length_9d52b : Cond) ∈ LT := LT_of 676 (by decide +kernel) (by decide +kernel)
theorem kw_677 : (Cond.code yJ2_length_9d52b cJ2_length_9d52b 1 (some .int) : Cond) ∈ LT := LT_of 677 (by decide +kernel) (by decide +kernel)
theorem kw_678 : (Cond.methodLink RJ2 414 yJ0_checkIndex_df160 : Cond) ∈ LT := LT_of 678 (by decide +kernel) (by decide +kernel)
theorem kw_679 : (Cond.methodLink RJ2 71 yJ2_getChar_3b067 : Cond) ∈ LT := LT_of 679 (by decide +kernel) (by decide +kernel)
theorem kw_680 : (Cond.static yJ2_getChar_3b067 : Cond) ∈ LT := LT_of 680 (by decide +kernel) (by decide +kernel)
theorem kw_681 : (Cond.code yJ2_getChar_3b067 cJ2_getChar_3b067 2 (some .char) : Cond) ∈ LT := LT_of 681 (by decide +kernel) (by decide +kernel)
theorem kw_682 : (Cond.fieldLink RJ2 44 "java/lang/StringUTF16" "$assertionsDisabled" "Z" : Cond) ∈ LT := LT_of 682 (by decide +kernel) (by decide +kernel)
theorem kw_684 : (Cond.fieldLink RJ2 59 "java/lang/StringUTF16" "HI_BYTE_SHIFT" "I" : Cond) ∈ LT := LT_of 684 (by decide +kernel) (by decide +kernel)
theorem kw_686 : (Cond.fieldLink RJ2 63 "java/lang/StringUTF16" "LO_BYTE_SHIFT" "I" : Cond) ∈ LT := LT_of 686 (by decide +kernel) (by decide +kernel)
theorem kw_688 : (Cond.methodLink RX7 55 yX7_isSmallLetter : Cond) ∈ LT := LT_of 688 (by decide +kernel) (by decide +kernel)
theorem kw_689 : (Cond.static yX7_isSmallLetter : Cond) ∈ LT := LT_of 689 (by decide +kernel) (by decide +kernel)
theorem kw_690 : (Cond.code yX7_isSmallLetter cX7_isSmallLetter 1 (some .boolean) : Cond) ∈ LT := LT_of 690 (by decide +kernel) (by decide +kernel)
theorem kw_691 : (Cond.methodLink RX2 57 yX2_readBed : Cond) ∈ LT := LT_of 691 (by decide +kernel) (by decide +kernel)
theorem kw_692 : (Cond.instanceMethod yX2_readBed : Cond) ∈ LT := LT_of 692 (by decide +kernel) (by decide +kernel)
theorem kw_693 : (Cond.selects RX2 yX2_readBed yX2_readBed : Cond) ∈ LT := LT_of 693 (by decide +kernel) (by decide +kernel)
theorem kw_694 : (Cond.code yX2_readBed cX2_readBed 2 none : Cond) ∈ LT := LT_of 694 (by decide +kernel) (by decide +kernel)
theorem kw_695 : (Cond.methodLink RX2 70 yX7_blame : Cond) ∈ LT := LT_of 695 (by decide +kernel) (by decide +kernel)
theorem kw_696 : (Cond.instanceMethod yX7_blame : Cond) ∈ LT := LT_of 696 (by decide +kernel) (by decide +kernel)
theorem kw_697 : (Cond.selects RX7 yX7_blame yX7_blame : Cond) ∈ LT := LT_of 697 (by decide +kernel) (by decide +kernel)
theorem kw_698 : (Cond.code yX7_blame cX7_blame 2 none : Cond) ∈ LT := LT_of 698 (by decide +kernel) (by decide +kernel)
theorem kw_699 : (Cond.methodLink RX2 74 yX7_number : Cond) ∈ LT := LT_of 699 (by decide +kernel) (by decide +kernel)
theorem kw_700 : (Cond.instanceMethod yX7_number : Cond) ∈ LT := LT_of 700 (by decide +kernel) (by decide +kernel)
theorem kw_701 : (Cond.selects RX7 yX7_number yX7_number : Cond) ∈ LT := LT_of 701 (by decide +kernel) (by decide +kernel)
theorem kw_702 : (Cond.code yX7_number cX7_number 4 (some .int) : Cond) ∈ LT := LT_of 702 (by decide +kernel) (by decide +kernel)
theorem kw_703 : (Cond.methodLink RX7 38 yX7_isDigit : Cond) ∈ LT := LT_of 703 (by decide +kernel) (by decide +kernel)
theorem kw_704 : (Cond.static yX7_isDigit : Cond) ∈ LT := LT_of 704 (by decide +kernel) (by decide +kernel)
theorem kw_705 : (Cond.code yX7_isDigit cX7_isDigit 1 (some .boolean) : Cond) ∈ LT := LT_of 705 (by decide +kernel) (by decide +kernel)
theorem kw_706 : (Cond.methodLink RX7 58 yX7_blame : Cond) ∈ LT := LT_of 706 (by decide +kernel) (by decide +kernel)
theorem kw_707 : (Cond.methodLink RX7 66 Lib.Math.min.name : Cond) ∈ LT := LT_of 707 (by decide +kernel) (by decide +kernel)
theorem kw_709 : (Cond.methodLink RX2 62 yX2_readLetter : Cond) ∈ LT := LT_of 709 (by decide +kernel) (by decide +kernel)
theorem kw_710 : (Cond.instanceMethod yX2_readLetter : Cond) ∈ LT := LT_of 710 (by decide +kernel) (by decide +kernel)
theorem kw_711 : (Cond.selects RX2 yX2_readLetter yX2_readLetter : Cond) ∈ LT := LT_of 711 (by decide +kernel) (by decide +kernel)
theorem kw_712 : (Cond.code yX2_readLetter cX2_readLetter 3 none : Cond) ∈ LT := LT_of 712 (by decide +kernel) (by decide +kernel)
theorem kw_713 : (Cond.methodLink RX2 78 yX7_isAtNumber : Cond) ∈ LT := LT_of 713 (by decide +kernel) (by decide +kernel)
theorem kw_714 : (Cond.instanceMethod yX7_isAtNumber : Cond) ∈ LT := LT_of 714 (by decide +kernel) (by decide +kernel)
theorem kw_715 : (Cond.selects RX7 yX7_isAtNumber yX7_isAtNumber : Cond) ∈ LT := LT_of 715 (by decide +kernel) (by decide +kernel)
theorem kw_716 : (Cond.code yX7_isAtNumber cX7_isAtNumber 1 (some .boolean) : Cond) ∈ LT := LT_of 716 (by decide +kernel) (by decide +kernel)
theorem kw_718 : (Cond.methodLink RX2 67 yX2_readReader : Cond) ∈ LT := LT_of 718 (by decide +kernel) (by decide +kernel)
theorem kw_719 : (Cond.instanceMethod yX2_readReader : Cond) ∈ LT := LT_of 719 (by decide +kernel) (by decide +kernel)
theorem kw_720 : (Cond.selects RX2 yX2_readReader yX2_readReader : Cond) ∈ LT := LT_of 720 (by decide +kernel) (by decide +kernel)
theorem kw_721 : (Cond.code yX2_readReader cX2_readReader 2 none : Cond) ∈ LT := LT_of 721 (by decide +kernel) (by decide +kernel)
theorem kw_722 : (Cond.methodLink RX2 47 yX7_need : Cond) ∈ LT := LT_of 722 (by decide +kernel) (by decide +kernel)
theorem kw_723 : (Cond.instanceMethod yX7_need : Cond) ∈ LT := LT_of 723 (by decide +kernel) (by decide +kernel)
theorem kw_724 : (Cond.selects RX7 yX7_need yX7_need : Cond) ∈ LT := LT_of 724 (by decide +kernel) (by decide +kernel)
theorem kw_725 : (Cond.code yX7_need cX7_need 2 none : Cond) ∈ LT := LT_of 725 (by decide +kernel) (by decide +kernel)
theorem kw_726 : (Cond.methodLink RX9 126 yX7_empty : Cond) ∈ LT := LT_of 726 (by decide +kernel) (by decide +kernel)
theorem kw_727 : (Cond.instanceMethod yX7_empty : Cond) ∈ LT := LT_of 727 (by decide +kernel) (by decide +kernel)
theorem kw_728 : (Cond.selects RX7 yX7_empty yX7_empty : Cond) ∈ LT := LT_of 728 (by decide +kernel) (by decide +kernel)
theorem kw_729 : (Cond.code yX7_empty cX7_empty 1 none : Cond) ∈ LT := LT_of 729 (by decide +kernel) (by decide +kernel)
theorem kw_730 : (Cond.methodLink RX9 129 yX7_isSound : Cond) ∈ LT := LT_of 730 (by decide +kernel) (by decide +kernel)
theorem kw_731 : (Cond.instanceMethod yX7_isSound : Cond) ∈ LT := LT_of 731 (by decide +kernel) (by decide +kernel)
theorem kw_732 : (Cond.selects RX7 yX7_isSound yX7_isSound : Cond) ∈ LT := LT_of 732 (by decide +kernel) (by decide +kernel)
theorem kw_733 : (Cond.code yX7_isSound cX7_isSound 1 (some .boolean) : Cond) ∈ LT := LT_of 733 (by decide +kernel) (by decide +kernel)
theorem kw_734 : (Cond.methodLink RX9 132 yX7_answer : Cond) ∈ LT := LT_of 734 (by decide +kernel) (by decide +kernel)
theorem kw_735 : (Cond.instanceMethod yX7_answer : Cond) ∈ LT := LT_of 735 (by decide +kernel) (by decide +kernel)
theorem kw_736 : (Cond.selects RX7 yX7_answer yX7_answer : Cond) ∈ LT := LT_of 736 (by decide +kernel) (by decide +kernel)
theorem kw_737 : (Cond.code yX7_answer cX7_answer 1 (some .int) : Cond) ∈ LT := LT_of 737 (by decide +kernel) (by decide +kernel)
theorem kw_738 : (Cond.methodLink RX9 136 yX1_makePlain : Cond) ∈ LT := LT_of 738 (by decide +kernel) (by decide +kernel)
theorem kw_739 : (Cond.methodLink RX9 139 yX0_clear : Cond) ∈ LT := LT_of 739 (by decide +kernel) (by decide +kernel)
theorem kw_740 : (Cond.methodLink RX9 142 yX9_forgetImages : Cond) ∈ LT := LT_of 740 (by decide +kernel) (by decide +kernel)
theorem kw_742 : (Cond.instanceMethod yX9_forgetImages : Cond) ∈ LT := LT_of 742 (by decide +kernel) (by decide +kernel)
theorem kw_743 : (Cond.code yX9_forgetImages cX9_forgetImages 2 none : Cond) ∈ LT := LT_of 743 (by decide +kernel) (by decide +kernel)
theorem kw_744 : (Cond.methodLink RX9 145 yX4_begin : Cond) ∈ LT := LT_of 744 (by decide +kernel) (by decide +kernel)
theorem kw_745 : (Cond.instanceMethod yX4_begin : Cond) ∈ LT := LT_of 745 (by decide +kernel) (by decide +kernel)
theorem kw_746 : (Cond.selects RX4 yX4_begin yX4_begin : Cond) ∈ LT := LT_of 746 (by decide +kernel) (by decide +kernel)
theorem kw_747 : (Cond.code yX4_begin cX4_begin 3 none : Cond) ∈ LT := LT_of 747 (by decide +kernel) (by decide +kernel)
theorem kw_748 : (Cond.methodLink RL 138 yL_law : Cond) ∈ LT := LT_of 748 (by decide +kernel) (by decide +kernel)
theorem kw_749 : (Cond.static yL_law : Cond) ∈ LT := LT_of 749 (by decide +kernel) (by decide +kernel)
theorem kw_751 : (Cond.methodLink RL 15 yX9_law : Cond) ∈ LT := LT_of 751 (by decide +kernel) (by decide +kernel)
theorem kw_752 : (Cond.instanceMethod yX9_law : Cond) ∈ LT := LT_of 752 (by decide +kernel) (by decide +kernel)
theorem kw_753 : (Cond.selects RX9 yX9_law yX9_law : Cond) ∈ LT := LT_of 753 (by decide +kernel) (by decide +kernel)
theorem kw_754 : (Cond.code yX9_law cX9_law 3 (some .int) : Cond) ∈ LT := LT_of 754 (by decide +kernel) (by decide +kernel)
theorem kw_755 : (Cond.methodLink RX9 152 yX1_read : Cond) ∈ LT := LT_of 755 (by decide +kernel) (by decide +kernel)
theorem kw_756 : (Cond.instanceMethod yX1_read : Cond) ∈ LT := LT_of 756 (by decide +kernel) (by decide +kernel)
theorem kw_757 : (Cond.selects RX1 yX1_read yX1_read : Cond) ∈ LT := LT_of 757 (by decide +kernel) (by decide +kernel)
theorem kw_758 : (Cond.code yX1_read cX1_read 2 none : Cond) ∈ LT := LT_of 758 (by decide +kernel) (by decide +kernel)
theorem kw_759 : (Cond.methodLink RX1 32 yX1_readSum : Cond) ∈ LT := LT_of 759 (by decide +kernel) (by decide +kernel)
theorem kw_761 : (Cond.instanceMethod yX1_readSum : Cond) ∈ LT := LT_of 761 (by decide +kernel) (by decide +kernel)
theorem kw_762 : (Cond.code yX1_readSum cX1_readSum 5 none : Cond) ∈ LT := LT_of 762 (by decide +kernel) (by decide +kernel)
theorem kw_763 : (Cond.methodLink RX1 41 yX1_readProduct : Cond) ∈ LT := LT_of 763 (by decide +kernel) (by decide +kernel)
theorem kw_765 : (Cond.instanceMethod yX1_readProduct : Cond) ∈ LT := LT_of 765 (by decide +kernel) (by decide +kernel)
theorem kw_766 : (Cond.code yX1_readProduct cX1_readProduct 5 none : Cond) ∈ LT := LT_of 766 (by decide +kernel) (by decide +kernel)
theorem kw_767 : (Cond.methodLink RX1 48 yX1_readUnit : Cond) ∈ LT := LT_of 767 (by decide +kernel) (by decide +kernel)
theorem kw_769 : (Cond.instanceMethod yX1_readUnit : Cond) ∈ LT := LT_of 769 (by decide +kernel) (by decide +kernel)
theorem kw_770 : (Cond.code yX1_readUnit cX1_readUnit 3 none : Cond) ∈ LT := LT_of 770 (by decide +kernel) (by decide +kernel)
theorem kw_771 : (Cond.methodLink RX1 51 yX7_isAtNumber : Cond) ∈ LT := LT_of 771 (by decide +kernel) (by decide +kernel)
theorem kw_772 : (Cond.methodLink RX1 55 yX7_number : Cond) ∈ LT := LT_of 772 (by decide +kernel) (by decide +kernel)
theorem kw_773 : (Cond.methodLink RX1 44 yX7_takes : Cond) ∈ LT := LT_of 773 (by decide +kernel) (by decide +kernel)
theorem kw_774 : (Cond.instanceMethod yX7_takes : Cond) ∈ LT := LT_of 774 (by decide +kernel) (by decide +kernel)
theorem kw_775 : (Cond.selects RX7 yX7_takes yX7_takes : Cond) ∈ LT := LT_of 775 (by decide +kernel) (by decide +kernel)
theorem kw_776 : (Cond.code yX7_takes cX7_takes 2 (some .boolean) : Cond) ∈ LT := LT_of 776 (by decide +kernel) (by decide +kernel)
theorem kw_777 : (Cond.methodLink RX1 59 yX1_readOpen : Cond) ∈ LT := LT_of 777 (by decide +kernel) (by decide +kernel)
theorem kw_779 : (Cond.instanceMethod yX1_readOpen : Cond) ∈ LT := LT_of 779 (by decide +kernel) (by decide +kernel)
theorem kw_780 : (Cond.code yX1_readOpen cX1_readOpen 4 none : Cond) ∈ LT := LT_of 780 (by decide +kernel) (by decide +kernel)
theorem kw_781 : (Cond.methodLink RX1 74 yX7_blame : Cond) ∈ LT := LT_of 781 (by decide +kernel) (by decide +kernel)
theorem kw_782 : (Cond.methodLink RX1 77 yX7_need : Cond) ∈ LT := LT_of 782 (by decide +kernel) (by decide +kernel)
theorem kw_784 : (Cond.methodLink RX1 65 yX7_takes_ : Cond) ∈ LT := LT_of 784 (by decide +kernel) (by decide +kernel)
theorem kw_786 : (Cond.methodLink RX1 70 yX1_readValue : Cond) ∈ LT := LT_of 786 (by decide +kernel) (by decide +kernel)
theorem kw_787 : (Cond.instanceMethod yX1_readValue : Cond) ∈ LT := LT_of 787 (by decide +kernel) (by decide +kernel)
theorem kw_788 : (Cond.selects RX1 yX1_readValue yX1_readValue : Cond) ∈ LT := LT_of 788 (by decide +kernel) (by decide +kernel)
theorem kw_789 : (Cond.code yX1_readValue cX1_readValue 3 none : Cond) ∈ LT := LT_of 789 (by decide +kernel) (by decide +kernel)
theorem kw_797 : (Cond.methodLink RX1 36 yX7_needEnd : Cond) ∈ LT := LT_of 797 (by decide +kernel) (by decide +kernel)
theorem kw_798 : (Cond.instanceMethod yX7_needEnd : Cond) ∈ LT := LT_of 798 (by decide +kernel) (by decide +kernel)
theorem kw_799 : (Cond.selects RX7 yX7_needEnd yX7_needEnd : Cond) ∈ LT := LT_of 799 (by decide +kernel) (by decide +kernel)
theorem kw_800 : (Cond.code yX7_needEnd cX7_needEnd 1 none : Cond) ∈ LT := LT_of 800 (by decide +kernel) (by decide +kernel)
theorem kw_801 : (Cond.methodLink RX7 62 yX7_isAtEnd : Cond) ∈ LT := LT_of 801 (by decide +kernel) (by decide +kernel)
theorem kw_802 : (Cond.methodLink RL 141 yL_work : Cond) ∈ LT := LT_of 802 (by decide +kernel) (by decide +kernel)
theorem kw_803 : (Cond.static yL_work : Cond) ∈ LT := LT_of 803 (by decide +kernel) (by decide +kernel)
theorem kw_805 : (Cond.methodLink RL 18 yX9_work : Cond) ∈ LT := LT_of 805 (by decide +kernel) (by decide +kernel)
theorem kw_806 : (Cond.instanceMethod yX9_work : Cond) ∈ LT := LT_of 806 (by decide +kernel) (by decide +kernel)
theorem kw_807 : (Cond.selects RX9 yX9_work yX9_work : Cond) ∈ LT := LT_of 807 (by decide +kernel) (by decide +kernel)
theorem kw_808 : (Cond.code yX9_work cX9_work 3 (some .int) : Cond) ∈ LT := LT_of 808 (by decide +kernel) (by decide +kernel)
theorem kw_809 : (Cond.methodLink RX9 156 yX8_read : Cond) ∈ LT := LT_of 809 (by decide +kernel) (by decide +kernel)
theorem kw_810 : (Cond.instanceMethod yX8_read : Cond) ∈ LT := LT_of 810 (by decide +kernel) (by decide +kernel)
theorem kw_811 : (Cond.selects RX8 yX8_read yX8_read : Cond) ∈ LT := LT_of 811 (by decide +kernel) (by decide +kernel)
theorem kw_812 : (Cond.code yX8_read cX8_read 3 none : Cond) ∈ LT := LT_of 812 (by decide +kernel) (by decide +kernel)
theorem kw_813 : (Cond.methodLink RX8 34 yX8_readSteps : Cond) ∈ LT := LT_of 813 (by decide +kernel) (by decide +kernel)
theorem kw_815 : (Cond.instanceMethod yX8_readSteps : Cond) ∈ LT := LT_of 815 (by decide +kernel) (by decide +kernel)
theorem kw_816 : (Cond.code yX8_readSteps cX8_readSteps 5 none : Cond) ∈ LT := LT_of 816 (by decide +kernel) (by decide +kernel)
theorem kw_817 : (Cond.methodLink RX8 43 yX7_isAtEnd : Cond) ∈ LT := LT_of 817 (by decide +kernel) (by decide +kernel)
theorem kw_818 : (Cond.methodLink RX8 47 yX7_peek : Cond) ∈ LT := LT_of 818 (by decide +kernel) (by decide +kernel)
theorem kw_819 : (Cond.methodLink RX8 51 yX8_readStep : Cond) ∈ LT := LT_of 819 (by decide +kernel) (by decide +kernel)
theorem kw_821 : (Cond.instanceMethod yX8_readStep : Cond) ∈ LT := LT_of 821 (by decide +kernel) (by decide +kernel)
theorem kw_822 : (Cond.code yX8_readStep cX8_readStep 5 none : Cond) ∈ LT := LT_of 822 (by decide +kernel) (by decide +kernel)
theorem kw_824 : (Cond.methodLink RX8 60 yX7_takes_ : Cond) ∈ LT := LT_of 824 (by decide +kernel) (by decide +kernel)
theorem kw_825 : (Cond.methodLink RX8 64 yX7_number : Cond) ∈ LT := LT_of 825 (by decide +kernel) (by decide +kernel)
theorem kw_826 : (Cond.methodLink RX8 68 yX8_add : Cond) ∈ LT := LT_of 826 (by decide +kernel) (by decide +kernel)
theorem kw_827 : (Cond.instanceMethod yX8_add : Cond) ∈ LT := LT_of 827 (by decide +kernel) (by decide +kernel)
theorem kw_828 : (Cond.selects RX8 yX8_add yX8_add : Cond) ∈ LT := LT_of 828 (by decide +kernel) (by decide +kernel)
theorem kw_829 : (Cond.code yX8_add cX8_add 4 none : Cond) ∈ LT := LT_of 829 (by decide +kernel) (by decide +kernel)
theorem kw_836 : (Cond.methodLink RX8 95 yX8_readAgain : Cond) ∈ LT := LT_of 836 (by decide +kernel) (by decide +kernel)
theorem kw_838 : (Cond.instanceMethod yX8_readAgain : Cond) ∈ LT := LT_of 838 (by decide +kernel) (by decide +kernel)
theorem kw_839 : (Cond.code yX8_readAgain cX8_readAgain 5 none : Cond) ∈ LT := LT_of 839 (by decide +kernel) (by decide +kernel)
theorem kw_840 : (Cond.methodLink RX8 98 yX7_blame : Cond) ∈ LT := LT_of 840 (by decide +kernel) (by decide +kernel)
theorem kw_841 : (Cond.methodLink RX8 54 yX7_need : Cond) ∈ LT := LT_of 841 (by decide +kernel) (by decide +kernel)
theorem kw_842 : (Cond.methodLink RX8 38 yX7_needEnd : Cond) ∈ LT := LT_of 842 (by decide +kernel) (by decide +kernel)
theorem kw_843 : (Cond.methodLink RX9 162 yX8_perform : Cond) ∈ LT := LT_of 843 (by decide +kernel) (by decide +kernel)
theorem kw_844 : (Cond.instanceMethod yX8_perform : Cond) ∈ LT := LT_of 844 (by decide +kernel) (by decide +kernel)
theorem kw_845 : (Cond.selects RX8 yX8_perform yX8_perform : Cond) ∈ LT := LT_of 845 (by decide +kernel) (by decide +kernel)
theorem kw_846 : (Cond.code yX8_perform cX8_perform 7 (some .int) : Cond) ∈ LT := LT_of 846 (by decide +kernel) (by decide +kernel)
theorem kw_847 : (Cond.constant RX8 102 (1000000) : Cond) ∈ LT := LT_of 847 (by decide +kernel) (by decide +kernel)
theorem kw_848 : (Cond.methodLink RX8 103 yX8_afterRound : Cond) ∈ LT := LT_of 848 (by decide +kernel) (by decide +kernel)
theorem kw_849 : (Cond.instanceMethod yX8_afterRound : Cond) ∈ LT := LT_of 849 (by decide +kernel) (by decide +kernel)
theorem kw_850 : (Cond.selects RX8 yX8_afterRound yX8_afterRound : Cond) ∈ LT := LT_of 850 (by decide +kernel) (by decide +kernel)
theorem kw_851 : (Cond.code yX8_afterRound cX8_afterRound 3 (some .int) : Cond) ∈ LT := LT_of 851 (by decide +kernel) (by decide +kernel)
theorem kw_852 : (Cond.methodLink RX8 107 yX8_isDone : Cond) ∈ LT := LT_of 852 (by decide +kernel) (by decide +kernel)
theorem kw_853 : (Cond.instanceMethod yX8_isDone : Cond) ∈ LT := LT_of 853 (by decide +kernel) (by decide +kernel)
theorem kw_854 : (Cond.selects RX8 yX8_isDone yX8_isDone : Cond) ∈ LT := LT_of 854 (by decide +kernel) (by decide +kernel)
theorem kw_855 : (Cond.code yX8_isDone cX8_isDone 5 (some .boolean) : Cond) ∈ LT := LT_of 855 (by decide +kernel) (by decide +kernel)
theorem kw_856 : (Cond.methodLink RX8 111 yX4_blow : Cond) ∈ LT := LT_of 856 (by decide +kernel) (by decide +kernel)
theorem kw_857 : (Cond.instanceMethod yX4_blow : Cond) ∈ LT := LT_of 857 (by decide +kernel) (by decide +kernel)
theorem kw_858 : (Cond.selects RX4 yX4_blow yX4_blow : Cond) ∈ LT := LT_of 858 (by decide +kernel) (by decide +kernel)
theorem kw_859 : (Cond.code yX4_blow cX4_blow 6 (some .boolean) : Cond) ∈ LT := LT_of 859 (by decide +kernel) (by decide +kernel)
theorem kw_860 : (Cond.methodLink RX4 111 yX4_toldBy : Cond) ∈ LT := LT_of 860 (by decide +kernel) (by decide +kernel)
theorem kw_861 : (Cond.instanceMethod yX4_toldBy : Cond) ∈ LT := LT_of 861 (by decide +kernel) (by decide +kernel)
theorem kw_862 : (Cond.selects RX4 yX4_toldBy yX4_toldBy : Cond) ∈ LT := LT_of 862 (by decide +kernel) (by decide +kernel)
theorem kw_863 : (Cond.code yX4_toldBy cX4_toldBy 6 (some .int) : Cond) ∈ LT := LT_of 863 (by decide +kernel) (by decide +kernel)
theorem kw_864 : (Cond.methodLink RX4 108 yX4_nextOf : Cond) ∈ LT := LT_of 864 (by decide +kernel) (by decide +kernel)
theorem kw_865 : (Cond.methodLink RX8 117 yX4_go : Cond) ∈ LT := LT_of 865 (by decide +kernel) (by decide +kernel)
theorem kw_866 : (Cond.instanceMethod yX4_go : Cond) ∈ LT := LT_of 866 (by decide +kernel) (by decide +kernel)
theorem kw_867 : (Cond.selects RX4 yX4_go yX4_go : Cond) ∈ LT := LT_of 867 (by decide +kernel) (by decide +kernel)
theorem kw_868 : (Cond.code yX4_go cX4_go 3 (some .boolean) : Cond) ∈ LT := LT_of 868 (by decide +kernel) (by decide +kernel)
theorem kw_869 : (Cond.methodLink RX4 84 yX4_wordsIn : Cond) ∈ LT := LT_of 869 (by decide +kernel) (by decide +kernel)
theorem kw_870 : (Cond.instanceMethod yX4_wordsIn : Cond) ∈ LT := LT_of 870 (by decide +kernel) (by decide +kernel)
theorem kw_871 : (Cond.selects RX4 yX4_wordsIn yX4_wordsIn : Cond) ∈ LT := LT_of 871 (by decide +kernel) (by decide +kernel)
theorem kw_872 : (Cond.code yX4_wordsIn cX4_wordsIn 4 (some .int) : Cond) ∈ LT := LT_of 872 (by decide +kernel) (by decide +kernel)
theorem kw_873 : (Cond.methodLink RX4 78 yX4_lyingAt : Cond) ∈ LT := LT_of 873 (by decide +kernel) (by decide +kernel)
theorem kw_874 : (Cond.instanceMethod yX4_lyingAt : Cond) ∈ LT := LT_of 874 (by decide +kernel) (by decide +kernel)
theorem kw_875 : (Cond.selects RX4 yX4_lyingAt yX4_lyingAt : Cond) ∈ LT := LT_of 875 (by decide +kernel) (by decide +kernel)
theorem kw_876 : (Cond.code yX4_lyingAt cX4_lyingAt 3 (some .int) : Cond) ∈ LT := LT_of 876 (by decide +kernel) (by decide +kernel)
theorem kw_877 : (Cond.methodLink RX8 121 yX4_clearBed : Cond) ∈ LT := LT_of 877 (by decide +kernel) (by decide +kernel)
theorem kw_878 : (Cond.instanceMethod yX4_clearBed : Cond) ∈ LT := LT_of 878 (by decide +kernel) (by decide +kernel)
theorem kw_879 : (Cond.selects RX4 yX4_clearBed yX4_clearBed : Cond) ∈ LT := LT_of 879 (by decide +kernel) (by decide +kernel)
theorem kw_880 : (Cond.code yX4_clearBed cX4_clearBed 2 (some .boolean) : Cond) ∈ LT := LT_of 880 (by decide +kernel) (by decide +kernel)
theorem kw_881 : (Cond.methodLink RX8 125 yX4_pour : Cond) ∈ LT := LT_of 881 (by decide +kernel) (by decide +kernel)
theorem kw_882 : (Cond.instanceMethod yX4_pour : Cond) ∈ LT := LT_of 882 (by decide +kernel) (by decide +kernel)
theorem kw_883 : (Cond.selects RX4 yX4_pour yX4_pour : Cond) ∈ LT := LT_of 883 (by decide +kernel) (by decide +kernel)
theorem kw_884 : (Cond.code yX4_pour cX4_pour 5 none : Cond) ∈ LT := LT_of 884 (by decide +kernel) (by decide +kernel)
theorem kw_885 : (Cond.methodLink RX4 115 yX4_wetBy : Cond) ∈ LT := LT_of 885 (by decide +kernel) (by decide +kernel)
theorem kw_886 : (Cond.instanceMethod yX4_wetBy : Cond) ∈ LT := LT_of 886 (by decide +kernel) (by decide +kernel)
theorem kw_887 : (Cond.selects RX4 yX4_wetBy yX4_wetBy : Cond) ∈ LT := LT_of 887 (by decide +kernel) (by decide +kernel)
theorem kw_888 : (Cond.code yX4_wetBy cX4_wetBy 2 (some .int) : Cond) ∈ LT := LT_of 888 (by decide +kernel) (by decide +kernel)
theorem kw_889 : (Cond.methodLink RX4 91 Lib.Math.min.name : Cond) ∈ LT := LT_of 889 (by decide +kernel) (by decide +kernel)
theorem kw_890 : (Cond.methodLink RX4 118 yX4_isTied : Cond) ∈ LT := LT_of 890 (by decide +kernel) (by decide +kernel)
theorem kw_891 : (Cond.instanceMethod yX4_isTied : Cond) ∈ LT := LT_of 891 (by decide +kernel) (by decide +kernel)
theorem kw_892 : (Cond.selects RX4 yX4_isTied yX4_isTied : Cond) ∈ LT := LT_of 892 (by decide +kernel) (by decide +kernel)
theorem kw_893 : (Cond.code yX4_isTied cX4_isTied 2 (some .boolean) : Cond) ∈ LT := LT_of 893 (by decide +kernel) (by decide +kernel)
theorem kw_895 : (Cond.methodLink RX4 122 yX4_runOf : Cond) ∈ LT := LT_of 895 (by decide +kernel) (by decide +kernel)
theorem kw_896 : (Cond.instanceMethod yX4_runOf : Cond) ∈ LT := LT_of 896 (by decide +kernel) (by decide +kernel)
theorem kw_897 : (Cond.selects RX4 yX4_runOf yX4_runOf : Cond) ∈ LT := LT_of 897 (by decide +kernel) (by decide +kernel)
theorem kw_898 : (Cond.code yX4_runOf cX4_runOf 9 (some .int) : Cond) ∈ LT := LT_of 898 (by decide +kernel) (by decide +kernel)
theorem kw_899 : (Cond.methodLink RX4 102 yX1_tells : Cond) ∈ LT := LT_of 899 (by decide +kernel) (by decide +kernel)
theorem kw_900 : (Cond.instanceMethod yX1_tells : Cond) ∈ LT := LT_of 900 (by decide +kernel) (by decide +kernel)
theorem kw_901 : (Cond.selects RX1 yX1_tells yX1_tells : Cond) ∈ LT := LT_of 901 (by decide +kernel) (by decide +kernel)
theorem kw_902 : (Cond.code yX1_tells cX1_tells 11 (some .int) : Cond) ∈ LT := LT_of 902 (by decide +kernel) (by decide +kernel)
theorem kw_903 : (Cond.methodLink RX1 95 yX1_joined : Cond) ∈ LT := LT_of 903 (by decide +kernel) (by decide +kernel)
theorem kw_904 : (Cond.static yX1_joined : Cond) ∈ LT := LT_of 904 (by decide +kernel) (by decide +kernel)
theorem kw_905 : (Cond.code yX1_joined cX1_joined 3 (some .int) : Cond) ∈ LT := LT_of 905 (by decide +kernel) (by decide +kernel)
theorem kw_906 : (Cond.methodLink RX4 126 yX4_runOut : Cond) ∈ LT := LT_of 906 (by decide +kernel) (by decide +kernel)
theorem kw_907 : (Cond.instanceMethod yX4_runOut : Cond) ∈ LT := LT_of 907 (by decide +kernel) (by decide +kernel)
theorem kw_908 : (Cond.selects RX4 yX4_runOut yX4_runOut : Cond) ∈ LT := LT_of 908 (by decide +kernel) (by decide +kernel)
theorem kw_909 : (Cond.code yX4_runOut cX4_runOut 6 none : Cond) ∈ LT := LT_of 909 (by decide +kernel) (by decide +kernel)
theorem kw_910 : (Cond.methodLink RX8 134 yX4_passYear : Cond) ∈ LT := LT_of 910 (by decide +kernel) (by decide +kernel)
theorem kw_911 : (Cond.instanceMethod yX4_passYear : Cond) ∈ LT := LT_of 911 (by decide +kernel) (by decide +kernel)
theorem kw_912 : (Cond.selects RX4 yX4_passYear yX4_passYear : Cond) ∈ LT := LT_of 912 (by decide +kernel) (by decide +kernel)
theorem kw_913 : (Cond.code yX4_passYear cX4_passYear 3 none : Cond) ∈ LT := LT_of 913 (by decide +kernel) (by decide +kernel)
theorem kw_914 : (Cond.methodLink RX4 130 yX4_ripen : Cond) ∈ LT := LT_of 914 (by decide +kernel) (by decide +kernel)
theorem kw_915 : (Cond.instanceMethod yX4_ripen : Cond) ∈ LT := LT_of 915 (by decide +kernel) (by decide +kernel)
theorem kw_916 : (Cond.selects RX4 yX4_ripen yX4_ripen : Cond) ∈ LT := LT_of 916 (by decide +kernel) (by decide +kernel)
theorem kw_917 : (Cond.code yX4_ripen cX4_ripen 2 none : Cond) ∈ LT := LT_of 917 (by decide +kernel) (by decide +kernel)
theorem kw_918 : (Cond.methodLink RL 144 yL_book : Cond) ∈ LT := LT_of 918 (by decide +kernel) (by decide +kernel)
theorem kw_919 : (Cond.static yL_book : Cond) ∈ LT := LT_of 919 (by decide +kernel) (by decide +kernel)
theorem kw_921 : (Cond.methodLink RL 21 yX9_book : Cond) ∈ LT := LT_of 921 (by decide +kernel) (by decide +kernel)
theorem kw_922 : (Cond.instanceMethod yX9_book : Cond) ∈ LT := LT_of 922 (by decide +kernel) (by decide +kernel)
theorem kw_923 : (Cond.selects RX9 yX9_book yX9_book : Cond) ∈ LT := LT_of 923 (by decide +kernel) (by decide +kernel)
theorem kw_924 : (Cond.code yX9_book cX9_book 3 (some .int) : Cond) ∈ LT := LT_of 924 (by decide +kernel) (by decide +kernel)
theorem kw_925 : (Cond.methodLink RX9 172 yX0_read : Cond) ∈ LT := LT_of 925 (by decide +kernel) (by decide +kernel)
theorem kw_926 : (Cond.instanceMethod yX0_read : Cond) ∈ LT := LT_of 926 (by decide +kernel) (by decide +kernel)
theorem kw_927 : (Cond.selects RX0 yX0_read yX0_read : Cond) ∈ LT := LT_of 927 (by decide +kernel) (by decide +kernel)
theorem kw_928 : (Cond.code yX0_read cX0_read 5 none : Cond) ∈ LT := LT_of 928 (by decide +kernel) (by decide +kernel)
theorem kw_929 : (Cond.methodLink RX0 22 yX7_isAtEnd : Cond) ∈ LT := LT_of 929 (by decide +kernel) (by decide +kernel)
theorem kw_930 : (Cond.methodLink RX0 28 yX7_number : Cond) ∈ LT := LT_of 930 (by decide +kernel) (by decide +kernel)
theorem kw_931 : (Cond.methodLink RX0 32 yX7_blame : Cond) ∈ LT := LT_of 931 (by decide +kernel) (by decide +kernel)
theorem kw_932 : (Cond.methodLink RX0 36 yX7_need : Cond) ∈ LT := LT_of 932 (by decide +kernel) (by decide +kernel)
theorem kw_933 : (Cond.methodLink RL 155 yL_told : Cond) ∈ LT := LT_of 933 (by decide +kernel) (by decide +kernel)
theorem kw_934 : (Cond.static yL_told : Cond) ∈ LT := LT_of 934 (by decide +kernel) (by decide +kernel)
theorem kw_936 : (Cond.methodLink RL 24 yX9_told : Cond) ∈ LT := LT_of 936 (by decide +kernel) (by decide +kernel)
theorem kw_937 : (Cond.instanceMethod yX9_told : Cond) ∈ LT := LT_of 937 (by decide +kernel) (by decide +kernel)
theorem kw_938 : (Cond.selects RX9 yX9_told yX9_told : Cond) ∈ LT := LT_of 938 (by decide +kernel) (by decide +kernel)
theorem kw_939 : (Cond.code yX9_told cX9_told 2 (some .int) : Cond) ∈ LT := LT_of 939 (by decide +kernel) (by decide +kernel)
theorem kw_940 : (Cond.methodLink RX9 204 yX4_leftOfAll : Cond) ∈ LT := LT_of 940 (by decide +kernel) (by decide +kernel)
theorem kw_941 : (Cond.instanceMethod yX4_leftOfAll : Cond) ∈ LT := LT_of 941 (by decide +kernel) (by decide +kernel)
theorem kw_942 : (Cond.selects RX4 yX4_leftOfAll yX4_leftOfAll : Cond) ∈ LT := LT_of 942 (by decide +kernel) (by decide +kernel)
theorem kw_943 : (Cond.code yX4_leftOfAll cX4_leftOfAll 4 (some .int) : Cond) ∈ LT := LT_of 943 (by decide +kernel) (by decide +kernel)
theorem kw_944 : (Cond.methodLink RX9 208 yX4_lyingInAll : Cond) ∈ LT := LT_of 944 (by decide +kernel) (by decide +kernel)
theorem kw_945 : (Cond.instanceMethod yX4_lyingInAll : Cond) ∈ LT := LT_of 945 (by decide +kernel) (by decide +kernel)
theorem kw_946 : (Cond.selects RX4 yX4_lyingInAll yX4_lyingInAll : Cond) ∈ LT := LT_of 946 (by decide +kernel) (by decide +kernel)
theorem kw_947 : (Cond.code yX4_lyingInAll cX4_lyingInAll 3 (some .int) : Cond) ∈ LT := LT_of 947 (by decide +kernel) (by decide +kernel)
theorem kw_948 : (Cond.methodLink RL 158 yL_letter : Cond) ∈ LT := LT_of 948 (by decide +kernel) (by decide +kernel)
theorem kw_949 : (Cond.static yL_letter : Cond) ∈ LT := LT_of 949 (by decide +kernel) (by decide +kernel)
theorem kw_951 : (Cond.classLink RL 31 "java/util/NoSuchElementException" : Cond) ∈ LT := LT_of 951 (by decide +kernel) (by decide +kernel)
theorem kw_952 : (Cond.methodLink RL 27 yX9_letter : Cond) ∈ LT := LT_of 952 (by decide +kernel) (by decide +kernel)
theorem kw_953 : (Cond.instanceMethod yX9_letter : Cond) ∈ LT := LT_of 953 (by decide +kernel) (by decide +kernel)
theorem kw_954 : (Cond.selects RX9 yX9_letter yX9_letter : Cond) ∈ LT := LT_of 954 (by decide +kernel) (by decide +kernel)
theorem kw_955 : (Cond.code yX9_letter cX9_letter 3 (some .int) : Cond) ∈ LT := LT_of 955 (by decide +kernel) (by decide +kernel)
theorem kw_956 : (Cond.methodLink RX9 220 yX9_needOneOf : Cond) ∈ LT := LT_of 956 (by decide +kernel) (by decide +kernel)
theorem kw_958 : (Cond.instanceMethod yX9_needOneOf : Cond) ∈ LT := LT_of 958 (by decide +kernel) (by decide +kernel)
theorem kw_959 : (Cond.code yX9_needOneOf cX9_needOneOf 3 none : Cond) ∈ LT := LT_of 959 (by decide +kernel) (by decide +kernel)
theorem kw_960 : (Cond.classLink RX9 371 "java/util/NoSuchElementException" : Cond) ∈ LT := LT_of 960 (by decide +kernel) (by decide +kernel)
theorem kw_961 : (Cond.instantiable "java/util/NoSuchElementException" 6 : Cond) ∈ LT := LT_of 961 (by decide +kernel) (by decide +kernel)
theorem kw_963 : (Cond.selects "java/util/NoSuchElementException" ⟨"java/lang/Throwable", "fillInStackTrace", "(I)Ljava/lang/Throwable;"⟩ ⟨"java/lang/Throwable", "fillInStackTrace", "(I)Ljava/lang/Throwable;"⟩ : Cond) ∈ LT := LT_of 963 (by decide +kernel) (by decide +kernel)
theorem kw_969 : (Cond.methodLink RX9 373 ⟨"java/util/NoSuchElementException", "<init>", "()V"⟩ : Cond) ∈ LT := LT_of 969 (by decide +kernel) (by decide +kernel)
theorem kw_970 : (Cond.instanceMethod ⟨"java/util/NoSuchElementException", "<init>", "()V"⟩ : Cond) ∈ LT := LT_of 970 (by decide +kernel) (by decide +kernel)
theorem kw_971 : (Cond.code ⟨"java/util/NoSuchElementException", "<init>", "()V"⟩ prog_28_method_1_code 1 none : Cond) ∈ LT := LT_of 971 (by decide +kernel) (by decide +kernel)
theorem kw_972 : (Cond.methodLink "java/util/NoSuchElementException" 1 ⟨"java/lang/RuntimeException", "<init>", "()V"⟩ : Cond) ∈ LT := LT_of 972 (by decide +kernel) (by decide +kernel)
theorem kw_975 : (Cond.methodLink RX9 229 yX4_leftOf : Cond) ∈ LT := LT_of 975 (by decide +kernel) (by decide +kernel)
theorem kw_976 : (Cond.methodLink RX9 233 yX4_nextOf : Cond) ∈ LT := LT_of 976 (by decide +kernel) (by decide +kernel)
theorem kw_977 : (Cond.methodLink RX9 236 yX4_isTied : Cond) ∈ LT := LT_of 977 (by decide +kernel) (by decide +kernel)
theorem kw_978 : (Cond.methodLink RL 162 yL_word : Cond) ∈ LT := LT_of 978 (by decide +kernel) (by decide +kernel)
theorem kw_979 : (Cond.static yL_word : Cond) ∈ LT := LT_of 979 (by decide +kernel) (by decide +kernel)
theorem kw_981 : (Cond.methodLink RL 33 yX9_word : Cond) ∈ LT := LT_of 981 (by decide +kernel) (by decide +kernel)
theorem kw_982 : (Cond.instanceMethod yX9_word : Cond) ∈ LT := LT_of 982 (by decide +kernel) (by decide +kernel)
theorem kw_983 : (Cond.selects RX9 yX9_word yX9_word : Cond) ∈ LT := LT_of 983 (by decide +kernel) (by decide +kernel)
theorem kw_984 : (Cond.code yX9_word cX9_word 3 (some .int) : Cond) ∈ LT := LT_of 984 (by decide +kernel) (by decide +kernel)
theorem kw_985 : (Cond.methodLink RX9 240 yX2_wordAt : Cond) ∈ LT := LT_of 985 (by decide +kernel) (by decide +kernel)
theorem kw_986 : (Cond.methodLink RL 165 yL_bed : Cond) ∈ LT := LT_of 986 (by decide +kernel) (by decide +kernel)
theorem kw_987 : (Cond.static yL_bed : Cond) ∈ LT := LT_of 987 (by decide +kernel) (by decide +kernel)
theorem kw_989 : (Cond.methodLink RL 36 yX9_bed : Cond) ∈ LT := LT_of 989 (by decide +kernel) (by decide +kernel)
theorem kw_990 : (Cond.instanceMethod yX9_bed : Cond) ∈ LT := LT_of 990 (by decide +kernel) (by decide +kernel)
theorem kw_991 : (Cond.selects RX9 yX9_bed yX9_bed : Cond) ∈ LT := LT_of 991 (by decide +kernel) (by decide +kernel)
theorem kw_992 : (Cond.code yX9_bed cX9_bed 3 (some .int) : Cond) ∈ LT := LT_of 992 (by decide +kernel) (by decide +kernel)
theorem kw_993 : (Cond.methodLink RX9 250 yX4_wordsIn : Cond) ∈ LT := LT_of 993 (by decide +kernel) (by decide +kernel)
theorem kw_994 : (Cond.methodLink RX9 254 yX4_lyingAt : Cond) ∈ LT := LT_of 994 (by decide +kernel) (by decide +kernel)
theorem kw_995 : (Cond.methodLink RX9 257 yX4_readersAt : Cond) ∈ LT := LT_of 995 (by decide +kernel) (by decide +kernel)
theorem kw_996 : (Cond.instanceMethod yX4_readersAt : Cond) ∈ LT := LT_of 996 (by decide +kernel) (by decide +kernel)
theorem kw_997 : (Cond.selects RX4 yX4_readersAt yX4_readersAt : Cond) ∈ LT := LT_of 997 (by decide +kernel) (by decide +kernel)
theorem kw_998 : (Cond.code yX4_readersAt cX4_readersAt 5 (some .int) : Cond) ∈ LT := LT_of 998 (by decide +kernel) (by decide +kernel)
theorem kw_999 : (Cond.methodLink RL 168 yL_lies : Cond) ∈ LT := LT_of 999 (by decide +kernel) (by decide +kernel)
theorem kw_1000 : (Cond.static yL_lies : Cond) ∈ LT := LT_of 1000 (by decide +kernel) (by decide +kernel)
theorem kw_1002 : (Cond.methodLink RL 39 yX9_lies : Cond) ∈ LT := LT_of 1002 (by decide +kernel) (by decide +kernel)
theorem kw_1003 : (Cond.instanceMethod yX9_lies : Cond) ∈ LT := LT_of 1003 (by decide +kernel) (by decide +kernel)
theorem kw_1004 : (Cond.selects RX9 yX9_lies yX9_lies : Cond) ∈ LT := LT_of 1004 (by decide +kernel) (by decide +kernel)
theorem kw_1005 : (Cond.code yX9_lies cX9_lies 3 (some .int) : Cond) ∈ LT := LT_of 1005 (by decide +kernel) (by decide +kernel)
theorem kw_1006 : (Cond.methodLink RX9 260 yX9_needPlace : Cond) ∈ LT := LT_of 1006 (by decide +kernel) (by decide +kernel)
theorem kw_1008 : (Cond.instanceMethod yX9_needPlace : Cond) ∈ LT := LT_of 1008 (by decide +kernel) (by decide +kernel)
theorem kw_1009 : (Cond.code yX9_needPlace cX9_needPlace 2 none : Cond) ∈ LT := LT_of 1009 (by decide +kernel) (by decide +kernel)
theorem kw_1010 : (Cond.methodLink RL 171 yL_reader : Cond) ∈ LT := LT_of 1010 (by decide +kernel) (by decide +kernel)
theorem kw_1011 : (Cond.static yL_reader : Cond) ∈ LT := LT_of 1011 (by decide +kernel) (by decide +kernel)
theorem kw_1013 : (Cond.methodLink RL 42 yX9_reader : Cond) ∈ LT := LT_of 1013 (by decide +kernel) (by decide +kernel)
theorem kw_1014 : (Cond.instanceMethod yX9_reader : Cond) ∈ LT := LT_of 1014 (by decide +kernel) (by decide +kernel)
theorem kw_1015 : (Cond.selects RX9 yX9_reader yX9_reader : Cond) ∈ LT := LT_of 1015 (by decide +kernel) (by decide +kernel)
theorem kw_1016 : (Cond.code yX9_reader cX9_reader 3 (some .int) : Cond) ∈ LT := LT_of 1016 (by decide +kernel) (by decide +kernel)
theorem kw_1017 : (Cond.methodLink RL 174 yL_grown : Cond) ∈ LT := LT_of 1017 (by decide +kernel) (by decide +kernel)
theorem kw_1018 : (Cond.static yL_grown : Cond) ∈ LT := LT_of 1018 (by decide +kernel) (by decide +kernel)
theorem kw_1020 : (Cond.methodLink RL 45 yX9_grown : Cond) ∈ LT := LT_of 1020 (by decide +kernel) (by decide +kernel)
theorem kw_1021 : (Cond.instanceMethod yX9_grown : Cond) ∈ LT := LT_of 1021 (by decide +kernel) (by decide +kernel)
theorem kw_1022 : (Cond.selects RX9 yX9_grown yX9_grown : Cond) ∈ LT := LT_of 1022 (by decide +kernel) (by decide +kernel)
theorem kw_1023 : (Cond.code yX9_grown cX9_grown 2 (some .int) : Cond) ∈ LT := LT_of 1023 (by decide +kernel) (by decide +kernel)
theorem kw_1024 : (Cond.methodLink RL 177 yL_runs : Cond) ∈ LT := LT_of 1024 (by decide +kernel) (by decide +kernel)
theorem kw_1025 : (Cond.static yL_runs : Cond) ∈ LT := LT_of 1025 (by decide +kernel) (by decide +kernel)
theorem kw_1027 : (Cond.methodLink RL 48 yX9_runs : Cond) ∈ LT := LT_of 1027 (by decide +kernel) (by decide +kernel)
theorem kw_1028 : (Cond.instanceMethod yX9_runs : Cond) ∈ LT := LT_of 1028 (by decide +kernel) (by decide +kernel)
theorem kw_1029 : (Cond.selects RX9 yX9_runs yX9_runs : Cond) ∈ LT := LT_of 1029 (by decide +kernel) (by decide +kernel)
theorem kw_1030 : (Cond.code yX9_runs cX9_runs 3 (some .int) : Cond) ∈ LT := LT_of 1030 (by decide +kernel) (by decide +kernel)
theorem kw_1031 : (Cond.methodLink RX9 272 yX4_wetBy : Cond) ∈ LT := LT_of 1031 (by decide +kernel) (by decide +kernel)
theorem kw_1032 : (Cond.methodLink RX9 275 yX4_runOf : Cond) ∈ LT := LT_of 1032 (by decide +kernel) (by decide +kernel)
theorem kw_1033 : (Cond.methodLink RL 180 yL_would : Cond) ∈ LT := LT_of 1033 (by decide +kernel) (by decide +kernel)
theorem kw_1034 : (Cond.static yL_would : Cond) ∈ LT := LT_of 1034 (by decide +kernel) (by decide +kernel)
theorem kw_1036 : (Cond.methodLink RL 51 yX9_would : Cond) ∈ LT := LT_of 1036 (by decide +kernel) (by decide +kernel)
theorem kw_1037 : (Cond.instanceMethod yX9_would : Cond) ∈ LT := LT_of 1037 (by decide +kernel) (by decide +kernel)
theorem kw_1038 : (Cond.selects RX9 yX9_would yX9_would : Cond) ∈ LT := LT_of 1038 (by decide +kernel) (by decide +kernel)
theorem kw_1039 : (Cond.code yX9_would cX9_would 8 (some .int) : Cond) ∈ LT := LT_of 1039 (by decide +kernel) (by decide +kernel)
theorem kw_1040 : (Cond.methodLink RX9 279 yX1_tells : Cond) ∈ LT := LT_of 1040 (by decide +kernel) (by decide +kernel)
theorem kw_1041 : (Cond.methodLink RL 184 yL_ahead : Cond) ∈ LT := LT_of 1041 (by decide +kernel) (by decide +kernel)
theorem kw_1042 : (Cond.static yL_ahead : Cond) ∈ LT := LT_of 1042 (by decide +kernel) (by decide +kernel)
theorem kw_1044 : (Cond.methodLink RL 55 yX9_ahead : Cond) ∈ LT := LT_of 1044 (by decide +kernel) (by decide +kernel)
theorem kw_1045 : (Cond.instanceMethod yX9_ahead : Cond) ∈ LT := LT_of 1045 (by decide +kernel) (by decide +kernel)
theorem kw_1046 : (Cond.selects RX9 yX9_ahead yX9_ahead : Cond) ∈ LT := LT_of 1046 (by decide +kernel) (by decide +kernel)
theorem kw_1047 : (Cond.code yX9_ahead cX9_ahead 4 (some .int) : Cond) ∈ LT := LT_of 1047 (by decide +kernel) (by decide +kernel)
theorem kw_1048 : (Cond.methodLink RX9 283 yX4_passYear : Cond) ∈ LT := LT_of 1048 (by decide +kernel) (by decide +kernel)
theorem kw_1049 : (Cond.methodLink RL 187 yL_rains : Cond) ∈ LT := LT_of 1049 (by decide +kernel) (by decide +kernel)
theorem kw_1050 : (Cond.static yL_rains : Cond) ∈ LT := LT_of 1050 (by decide +kernel) (by decide +kernel)
theorem kw_1052 : (Cond.methodLink RL 58 yX9_rains : Cond) ∈ LT := LT_of 1052 (by decide +kernel) (by decide +kernel)
theorem kw_1053 : (Cond.instanceMethod yX9_rains : Cond) ∈ LT := LT_of 1053 (by decide +kernel) (by decide +kernel)
theorem kw_1054 : (Cond.selects RX9 yX9_rains yX9_rains : Cond) ∈ LT := LT_of 1054 (by decide +kernel) (by decide +kernel)
theorem kw_1055 : (Cond.code yX9_rains cX9_rains 5 (some .int) : Cond) ∈ LT := LT_of 1055 (by decide +kernel) (by decide +kernel)
theorem kw_1056 : (Cond.methodLink RX9 286 yX9_has : Cond) ∈ LT := LT_of 1056 (by decide +kernel) (by decide +kernel)
theorem kw_1057 : (Cond.methodLink RX9 290 yX4_pour : Cond) ∈ LT := LT_of 1057 (by decide +kernel) (by decide +kernel)
theorem kw_1058 : (Cond.methodLink RL 195 yL_stuffed : Cond) ∈ LT := LT_of 1058 (by decide +kernel) (by decide +kernel)
theorem kw_1059 : (Cond.static yL_stuffed : Cond) ∈ LT := LT_of 1059 (by decide +kernel) (by decide +kernel)
theorem kw_1061 : (Cond.methodLink RL 62 yX9_stuffed : Cond) ∈ LT := LT_of 1061 (by decide +kernel) (by decide +kernel)
theorem kw_1062 : (Cond.instanceMethod yX9_stuffed : Cond) ∈ LT := LT_of 1062 (by decide +kernel) (by decide +kernel)
theorem kw_1063 : (Cond.selects RX9 yX9_stuffed yX9_stuffed : Cond) ∈ LT := LT_of 1063 (by decide +kernel) (by decide +kernel)
theorem kw_1064 : (Cond.code yX9_stuffed cX9_stuffed 2 (some .int) : Cond) ∈ LT := LT_of 1064 (by decide +kernel) (by decide +kernel)
theorem kw_1065 : (Cond.methodLink RL 198 yL_all : Cond) ∈ LT := LT_of 1065 (by decide +kernel) (by decide +kernel)
theorem kw_1066 : (Cond.static yL_all : Cond) ∈ LT := LT_of 1066 (by decide +kernel) (by decide +kernel)
theorem kw_1068 : (Cond.methodLink RL 65 yX9_all : Cond) ∈ LT := LT_of 1068 (by decide +kernel) (by decide +kernel)
theorem kw_1069 : (Cond.instanceMethod yX9_all : Cond) ∈ LT := LT_of 1069 (by decide +kernel) (by decide +kernel)
theorem kw_1070 : (Cond.selects RX9 yX9_all yX9_all : Cond) ∈ LT := LT_of 1070 (by decide +kernel) (by decide +kernel)
theorem kw_1071 : (Cond.code yX9_all cX9_all 2 (some .int) : Cond) ∈ LT := LT_of 1071 (by decide +kernel) (by decide +kernel)
theorem kw_1072 : (Cond.constant RX9 307 (65535) : Cond) ∈ LT := LT_of 1072 (by decide +kernel) (by decide +kernel)
theorem kw_1073 : (Cond.methodLink RX9 308 yX9_fewestBeds : Cond) ∈ LT := LT_of 1073 (by decide +kernel) (by decide +kernel)
theorem kw_1075 : (Cond.instanceMethod yX9_fewestBeds : Cond) ∈ LT := LT_of 1075 (by decide +kernel) (by decide +kernel)
theorem kw_1076 : (Cond.code yX9_fewestBeds cX9_fewestBeds 7 (some .int) : Cond) ∈ LT := LT_of 1076 (by decide +kernel) (by decide +kernel)
theorem kw_1077 : (Cond.methodLink RX9 353 yJ6_bitCount_0f7a4 : Cond) ∈ LT := LT_of 1077 (by decide +kernel) (by decide +kernel)
theorem kw_1078 : (Cond.static yJ6_bitCount_0f7a4 : Cond) ∈ LT := LT_of 1078 (by decide +kernel) (by decide +kernel)
theorem kw_1079 : (Cond.code yJ6_bitCount_0f7a4 cJ6_bitCount_0f7a4 1 (some .int) : Cond) ∈ LT := LT_of 1079 (by decide +kernel) (by decide +kernel)
theorem kw_1080 : (Cond.constant RJ6 265 (1431655765) : Cond) ∈ LT := LT_of 1080 (by decide +kernel) (by decide +kernel)
theorem kw_1081 : (Cond.constant RJ6 266 (858993459) : Cond) ∈ LT := LT_of 1081 (by decide +kernel) (by decide +kernel)
theorem kw_1082 : (Cond.constant RJ6 267 (252645135) : Cond) ∈ LT := LT_of 1082 (by decide +kernel) (by decide +kernel)
theorem kw_1083 : (Cond.methodLink RL 201 yL_tour : Cond) ∈ LT := LT_of 1083 (by decide +kernel) (by decide +kernel)
theorem kw_1084 : (Cond.static yL_tour : Cond) ∈ LT := LT_of 1084 (by decide +kernel) (by decide +kernel)
theorem kw_1086 : (Cond.methodLink RL 68 yX9_tour : Cond) ∈ LT := LT_of 1086 (by decide +kernel) (by decide +kernel)
theorem kw_1087 : (Cond.instanceMethod yX9_tour : Cond) ∈ LT := LT_of 1087 (by decide +kernel) (by decide +kernel)
theorem kw_1088 : (Cond.selects RX9 yX9_tour yX9_tour : Cond) ∈ LT := LT_of 1088 (by decide +kernel) (by decide +kernel)
theorem kw_1089 : (Cond.code yX9_tour cX9_tour 2 (some .int) : Cond) ∈ LT := LT_of 1089 (by decide +kernel) (by decide +kernel)
theorem kw_1090 : (Cond.methodLink RX9 311 yX4_wordsInAll : Cond) ∈ LT := LT_of 1090 (by decide +kernel) (by decide +kernel)
theorem kw_1091 : (Cond.instanceMethod yX4_wordsInAll : Cond) ∈ LT := LT_of 1091 (by decide +kernel) (by decide +kernel)
theorem kw_1092 : (Cond.selects RX4 yX4_wordsInAll yX4_wordsInAll : Cond) ∈ LT := LT_of 1092 (by decide +kernel) (by decide +kernel)
theorem kw_1093 : (Cond.code yX4_wordsInAll cX4_wordsInAll 4 (some .int) : Cond) ∈ LT := LT_of 1093 (by decide +kernel) (by decide +kernel)
theorem kw_1094 : (Cond.methodLink RL 204 yL_fits : Cond) ∈ LT := LT_of 1094 (by decide +kernel) (by decide +kernel)
theorem kw_1095 : (Cond.static yL_fits : Cond) ∈ LT := LT_of 1095 (by decide +kernel) (by decide +kernel)
theorem kw_1097 : (Cond.methodLink RL 71 yX9_fits : Cond) ∈ LT := LT_of 1097 (by decide +kernel) (by decide +kernel)
theorem kw_1098 : (Cond.instanceMethod yX9_fits : Cond) ∈ LT := LT_of 1098 (by decide +kernel) (by decide +kernel)
theorem kw_1099 : (Cond.selects RX9 yX9_fits yX9_fits : Cond) ∈ LT := LT_of 1099 (by decide +kernel) (by decide +kernel)
theorem kw_1100 : (Cond.code yX9_fits cX9_fits 6 (some .int) : Cond) ∈ LT := LT_of 1100 (by decide +kernel) (by decide +kernel)
theorem kw_1101 : (Cond.methodLink RX9 314 yX0_isRight : Cond) ∈ LT := LT_of 1101 (by decide +kernel) (by decide +kernel)
theorem kw_1102 : (Cond.instanceMethod yX0_isRight : Cond) ∈ LT := LT_of 1102 (by decide +kernel) (by decide +kernel)
theorem kw_1103 : (Cond.selects RX0 yX0_isRight yX0_isRight : Cond) ∈ LT := LT_of 1103 (by decide +kernel) (by decide +kernel)
theorem kw_1104 : (Cond.code yX0_isRight cX0_isRight 6 (some .boolean) : Cond) ∈ LT := LT_of 1104 (by decide +kernel) (by decide +kernel)
theorem kw_1105 : (Cond.methodLink RX0 45 yX4_lastAfter : Cond) ∈ LT := LT_of 1105 (by decide +kernel) (by decide +kernel)
theorem kw_1106 : (Cond.instanceMethod yX4_lastAfter : Cond) ∈ LT := LT_of 1106 (by decide +kernel) (by decide +kernel)
theorem kw_1107 : (Cond.selects RX4 yX4_lastAfter yX4_lastAfter : Cond) ∈ LT := LT_of 1107 (by decide +kernel) (by decide +kernel)
theorem kw_1108 : (Cond.code yX4_lastAfter cX4_lastAfter 7 (some .int) : Cond) ∈ LT := LT_of 1108 (by decide +kernel) (by decide +kernel)
theorem kw_1109 : (Cond.methodLink RL 207 yL_look : Cond) ∈ LT := LT_of 1109 (by decide +kernel) (by decide +kernel)
theorem kw_1110 : (Cond.static yL_look : Cond) ∈ LT := LT_of 1110 (by decide +kernel) (by decide +kernel)
theorem kw_1112 : (Cond.methodLink RL 74 yX9_look : Cond) ∈ LT := LT_of 1112 (by decide +kernel) (by decide +kernel)
theorem kw_1113 : (Cond.instanceMethod yX9_look : Cond) ∈ LT := LT_of 1113 (by decide +kernel) (by decide +kernel)
theorem kw_1114 : (Cond.selects RX9 yX9_look yX9_look : Cond) ∈ LT := LT_of 1114 (by decide +kernel) (by decide +kernel)
theorem kw_1115 : (Cond.code yX9_look cX9_look 6 (some .int) : Cond) ∈ LT := LT_of 1115 (by decide +kernel) (by decide +kernel)
theorem kw_1116 : (Cond.methodLink RX9 321 yX9_mostLeftBy : Cond) ∈ LT := LT_of 1116 (by decide +kernel) (by decide +kernel)
theorem kw_1118 : (Cond.instanceMethod yX9_mostLeftBy : Cond) ∈ LT := LT_of 1118 (by decide +kernel) (by decide +kernel)
theorem kw_1119 : (Cond.code yX9_mostLeftBy cX9_mostLeftBy 6 (some .int) : Cond) ∈ LT := LT_of 1119 (by decide +kernel) (by decide +kernel)
theorem kw_1120 : (Cond.methodLink RX9 377 yX4_lastAfter : Cond) ∈ LT := LT_of 1120 (by decide +kernel) (by decide +kernel)
theorem kw_1121 : (Cond.methodLink RX9 365 Lib.Math.max.name : Cond) ∈ LT := LT_of 1121 (by decide +kernel) (by decide +kernel)
theorem kw_1122 : (Cond.static Lib.Math.max.name : Cond) ∈ LT := LT_of 1122 (by decide +kernel) (by decide +kernel)
theorem kw_1123 : (Cond.code Lib.Math.max.name Lib.Math.max.code 2 (some .int) : Cond) ∈ LT := LT_of 1123 (by decide +kernel) (by decide +kernel)
theorem kw_1124 : (Cond.methodLink RL 210 yL_pods : Cond) ∈ LT := LT_of 1124 (by decide +kernel) (by decide +kernel)
theorem kw_1125 : (Cond.static yL_pods : Cond) ∈ LT := LT_of 1125 (by decide +kernel) (by decide +kernel)
theorem kw_1127 : (Cond.methodLink RL 77 yX9_pods : Cond) ∈ LT := LT_of 1127 (by decide +kernel) (by decide +kernel)
theorem kw_1128 : (Cond.instanceMethod yX9_pods : Cond) ∈ LT := LT_of 1128 (by decide +kernel) (by decide +kernel)
theorem kw_1129 : (Cond.selects RX9 yX9_pods yX9_pods : Cond) ∈ LT := LT_of 1129 (by decide +kernel) (by decide +kernel)
theorem kw_1130 : (Cond.code yX9_pods cX9_pods 12 (some .long) : Cond) ∈ LT := LT_of 1130 (by decide +kernel) (by decide +kernel)
theorem kw_1131 : (Cond.methodLink RX9 324 yX9_power : Cond) ∈ LT := LT_of 1131 (by decide +kernel) (by decide +kernel)
theorem kw_1132 : (Cond.static yX9_power : Cond) ∈ LT := LT_of 1132 (by decide +kernel) (by decide +kernel)
theorem kw_1133 : (Cond.code yX9_power cX9_power 5 (some .long) : Cond) ∈ LT := LT_of 1133 (by decide +kernel) (by decide +kernel)
theorem kw_1134 : (Cond.constantLong RX9 328 (2) : Cond) ∈ LT := LT_of 1134 (by decide +kernel) (by decide +kernel)
theorem kw_1135 : (Cond.methodLink RL 214 yL_she : Cond) ∈ LT := LT_of 1135 (by decide +kernel) (by decide +kernel)
theorem kw_1136 : (Cond.static yL_she : Cond) ∈ LT := LT_of 1136 (by decide +kernel) (by decide +kernel)
theorem kw_1138 : (Cond.methodLink RL 81 yX9_she : Cond) ∈ LT := LT_of 1138 (by decide +kernel) (by decide +kernel)
theorem kw_1139 : (Cond.instanceMethod yX9_she : Cond) ∈ LT := LT_of 1139 (by decide +kernel) (by decide +kernel)
theorem kw_1140 : (Cond.selects RX9 yX9_she yX9_she : Cond) ∈ LT := LT_of 1140 (by decide +kernel) (by decide +kernel)
theorem kw_1141 : (Cond.code yX9_she cX9_she 9 (some .int) : Cond) ∈ LT := LT_of 1141 (by decide +kernel) (by decide +kernel)
theorem kw_1142 : (Cond.methodLink RX9 330 yX9_isContent : Cond) ∈ LT := LT_of 1142 (by decide +kernel) (by decide +kernel)
theorem kw_1143 : (Cond.static yX9_isContent : Cond) ∈ LT := LT_of 1143 (by decide +kernel) (by decide +kernel)
theorem kw_1144 : (Cond.code yX9_isContent cX9_isContent 4 (some .boolean) : Cond) ∈ LT := LT_of 1144 (by decide +kernel) (by decide +kernel)
theorem kw_1145 : (Cond.methodLink RX9 334 yX9_getting : Cond) ∈ LT := LT_of 1145 (by decide +kernel) (by decide +kernel)
theorem kw_1146 : (Cond.static yX9_getting : Cond) ∈ LT := LT_of 1146 (by decide +kernel) (by decide +kernel)
theorem kw_1147 : (Cond.code yX9_getting cX9_getting 4 (some .int) : Cond) ∈ LT := LT_of 1147 (by decide +kernel) (by decide +kernel)
theorem kw_1148 : (Cond.methodLink RL 217 yL_seed : Cond) ∈ LT := LT_of 1148 (by decide +kernel) (by decide +kernel)
theorem kw_1149 : (Cond.static yL_seed : Cond) ∈ LT := LT_of 1149 (by decide +kernel) (by decide +kernel)
theorem kw_1151 : (Cond.methodLink RL 84 yX9_seed : Cond) ∈ LT := LT_of 1151 (by decide +kernel) (by decide +kernel)
theorem kw_1152 : (Cond.instanceMethod yX9_seed : Cond) ∈ LT := LT_of 1152 (by decide +kernel) (by decide +kernel)
theorem kw_1153 : (Cond.selects RX9 yX9_seed yX9_seed : Cond) ∈ LT := LT_of 1153 (by decide +kernel) (by decide +kernel)
theorem kw_1154 : (Cond.code yX9_seed cX9_seed 5 (some .int) : Cond) ∈ LT := LT_of 1154 (by decide +kernel) (by decide +kernel)
theorem kw_1155 : (Cond.methodLink RX9 338 yX9_givenBy : Cond) ∈ LT := LT_of 1155 (by decide +kernel) (by decide +kernel)
theorem kw_1157 : (Cond.instanceMethod yX9_givenBy : Cond) ∈ LT := LT_of 1157 (by decide +kernel) (by decide +kernel)
theorem kw_1158 : (Cond.code yX9_givenBy cX9_givenBy 5 (some .int) : Cond) ∈ LT := LT_of 1158 (by decide +kernel) (by decide +kernel)
theorem kw_1159 : (Cond.methodLink RL 220 yL_often : Cond) ∈ LT := LT_of 1159 (by decide +kernel) (by decide +kernel)
theorem kw_1160 : (Cond.static yL_often : Cond) ∈ LT := LT_of 1160 (by decide +kernel) (by decide +kernel)
theorem kw_1162 : (Cond.methodLink RL 87 yX9_often : Cond) ∈ LT := LT_of 1162 (by decide +kernel) (by decide +kernel)
theorem kw_1163 : (Cond.instanceMethod yX9_often : Cond) ∈ LT := LT_of 1163 (by decide +kernel) (by decide +kernel)
theorem kw_1164 : (Cond.selects RX9 yX9_often yX9_often : Cond) ∈ LT := LT_of 1164 (by decide +kernel) (by decide +kernel)
theorem kw_1165 : (Cond.code yX9_often cX9_often 6 (some .int) : Cond) ∈ LT := LT_of 1165 (by decide +kernel) (by decide +kernel)
theorem kw_1166 : (Cond.methodLink RX9 346 yX4_timesOf : Cond) ∈ LT := LT_of 1166 (by decide +kernel) (by decide +kernel)
theorem kw_1167 : (Cond.instanceMethod yX4_timesOf : Cond) ∈ LT := LT_of 1167 (by decide +kernel) (by decide +kernel)
theorem kw_1168 : (Cond.selects RX4 yX4_timesOf yX4_timesOf : Cond) ∈ LT := LT_of 1168 (by decide +kernel) (by decide +kernel)
theorem kw_1169 : (Cond.code yX4_timesOf cX4_timesOf 6 (some .int) : Cond) ∈ LT := LT_of 1169 (by decide +kernel) (by decide +kernel)
theorem kw_1170 : (Cond.methodLink RL 223 yL_hearers : Cond) ∈ LT := LT_of 1170 (by decide +kernel) (by decide +kernel)
theorem kw_1171 : (Cond.static yL_hearers : Cond) ∈ LT := LT_of 1171 (by decide +kernel) (by decide +kernel)
theorem kw_1173 : (Cond.methodLink RL 90 yX9_hearers : Cond) ∈ LT := LT_of 1173 (by decide +kernel) (by decide +kernel)
theorem kw_1174 : (Cond.instanceMethod yX9_hearers : Cond) ∈ LT := LT_of 1174 (by decide +kernel) (by decide +kernel)
theorem kw_1175 : (Cond.selects RX9 yX9_hearers yX9_hearers : Cond) ∈ LT := LT_of 1175 (by decide +kernel) (by decide +kernel)
theorem kw_1176 : (Cond.code yX9_hearers cX9_hearers 4 (some .int) : Cond) ∈ LT := LT_of 1176 (by decide +kernel) (by decide +kernel)
theorem kw_1177 : (Cond.methodLink RL 226 yL_news : Cond) ∈ LT := LT_of 1177 (by decide +kernel) (by decide +kernel)
theorem kw_1178 : (Cond.static yL_news : Cond) ∈ LT := LT_of 1178 (by decide +kernel) (by decide +kernel)
theorem kw_1180 : (Cond.methodLink RL 93 yX9_news : Cond) ∈ LT := LT_of 1180 (by decide +kernel) (by decide +kernel)
theorem kw_1181 : (Cond.instanceMethod yX9_news : Cond) ∈ LT := LT_of 1181 (by decide +kernel) (by decide +kernel)
theorem kw_1182 : (Cond.selects RX9 yX9_news yX9_news : Cond) ∈ LT := LT_of 1182 (by decide +kernel) (by decide +kernel)
theorem kw_1183 : (Cond.code yX9_news cX9_news 3 (some .int) : Cond) ∈ LT := LT_of 1183 (by decide +kernel) (by decide +kernel)
theorem kw_1184 : (Cond.methodLink RX9 349 yX4_toldBy : Cond) ∈ LT := LT_of 1184 (by decide +kernel) (by decide +kernel)
theorem kw_1185 : (Cond.methodLink RL 229 yL_full : Cond) ∈ LT := LT_of 1185 (by decide +kernel) (by decide +kernel)
theorem kw_1186 : (Cond.static yL_full : Cond) ∈ LT := LT_of 1186 (by decide +kernel) (by decide +kernel)
theorem kw_1188 : (Cond.methodLink RL 96 yX9_full : Cond) ∈ LT := LT_of 1188 (by decide +kernel) (by decide +kernel)
theorem kw_1189 : (Cond.instanceMethod yX9_full : Cond) ∈ LT := LT_of 1189 (by decide +kernel) (by decide +kernel)
theorem kw_1190 : (Cond.selects RX9 yX9_full yX9_full : Cond) ∈ LT := LT_of 1190 (by decide +kernel) (by decide +kernel)
theorem kw_1191 : (Cond.code yX9_full cX9_full 5 (some .int) : Cond) ∈ LT := LT_of 1191 (by decide +kernel) (by decide +kernel)
theorem kw_1192 : (Cond.methodLink RL 232 yL_drains : Cond) ∈ LT := LT_of 1192 (by decide +kernel) (by decide +kernel)
theorem kw_1193 : (Cond.static yL_drains : Cond) ∈ LT := LT_of 1193 (by decide +kernel) (by decide +kernel)
theorem kw_1195 : (Cond.methodLink RL 99 yX9_drains : Cond) ∈ LT := LT_of 1195 (by decide +kernel) (by decide +kernel)
theorem kw_1196 : (Cond.instanceMethod yX9_drains : Cond) ∈ LT := LT_of 1196 (by decide +kernel) (by decide +kernel)
theorem kw_1197 : (Cond.selects RX9 yX9_drains yX9_drains : Cond) ∈ LT := LT_of 1197 (by decide +kernel) (by decide +kernel)
theorem kw_1198 : (Cond.code yX9_drains cX9_drains 4 (some .int) : Cond) ∈ LT := LT_of 1198 (by decide +kernel) (by decide +kernel)
theorem kw_1199 : (Cond.methodLink RL 235 yL_unread : Cond) ∈ LT := LT_of 1199 (by decide +kernel) (by decide +kernel)
theorem kw_1200 : (Cond.static yL_unread : Cond) ∈ LT := LT_of 1200 (by decide +kernel) (by decide +kernel)
theorem kw_1202 : (Cond.methodLink RL 102 yX9_unread : Cond) ∈ LT := LT_of 1202 (by decide +kernel) (by decide +kernel)
theorem kw_1203 : (Cond.instanceMethod yX9_unread : Cond) ∈ LT := LT_of 1203 (by decide +kernel) (by decide +kernel)
theorem kw_1204 : (Cond.selects RX9 yX9_unread yX9_unread : Cond) ∈ LT := LT_of 1204 (by decide +kernel) (by decide +kernel)
theorem kw_1205 : (Cond.code yX9_unread cX9_unread 2 (some .int) : Cond) ∈ LT := LT_of 1205 (by decide +kernel) (by decide +kernel)
theorem kw_1206 : (Cond.methodLink RL 238 yL_coming : Cond) ∈ LT := LT_of 1206 (by decide +kernel) (by decide +kernel)
theorem kw_1207 : (Cond.static yL_coming : Cond) ∈ LT := LT_of 1207 (by decide +kernel) (by decide +kernel)
theorem kw_1209 : (Cond.methodLink RL 105 yX9_coming : Cond) ∈ LT := LT_of 1209 (by decide +kernel) (by decide +kernel)
theorem kw_1210 : (Cond.instanceMethod yX9_coming : Cond) ∈ LT := LT_of 1210 (by decide +kernel) (by decide +kernel)
theorem kw_1211 : (Cond.selects RX9 yX9_coming yX9_coming : Cond) ∈ LT := LT_of 1211 (by decide +kernel) (by decide +kernel)
theorem kw_1212 : (Cond.code yX9_coming cX9_coming 5 (some .int) : Cond) ∈ LT := LT_of 1212 (by decide +kernel) (by decide +kernel)
theorem kw_1213 : (Cond.methodLink RL 241 yL_shared : Cond) ∈ LT := LT_of 1213 (by decide +kernel) (by decide +kernel)
theorem kw_1214 : (Cond.static yL_shared : Cond) ∈ LT := LT_of 1214 (by decide +kernel) (by decide +kernel)
theorem kw_1216 : (Cond.methodLink RL 108 yX9_shared : Cond) ∈ LT := LT_of 1216 (by decide +kernel) (by decide +kernel)
theorem kw_1217 : (Cond.instanceMethod yX9_shared : Cond) ∈ LT := LT_of 1217 (by decide +kernel) (by decide +kernel)
theorem kw_1218 : (Cond.selects RX9 yX9_shared yX9_shared : Cond) ∈ LT := LT_of 1218 (by decide +kernel) (by decide +kernel)
theorem kw_1219 : (Cond.code yX9_shared cX9_shared 3 (some .int) : Cond) ∈ LT := LT_of 1219 (by decide +kernel) (by decide +kernel)
theorem kw_1220 : (Cond.methodLink RL 244 yL_summer : Cond) ∈ LT := LT_of 1220 (by decide +kernel) (by decide +kernel)
theorem kw_1221 : (Cond.static yL_summer : Cond) ∈ LT := LT_of 1221 (by decide +kernel) (by decide +kernel)
theorem kw_1223 : (Cond.methodLink RL 111 yX9_summer : Cond) ∈ LT := LT_of 1223 (by decide +kernel) (by decide +kernel)
theorem kw_1224 : (Cond.instanceMethod yX9_summer : Cond) ∈ LT := LT_of 1224 (by decide +kernel) (by decide +kernel)
theorem kw_1225 : (Cond.selects RX9 yX9_summer yX9_summer : Cond) ∈ LT := LT_of 1225 (by decide +kernel) (by decide +kernel)
theorem kw_1226 : (Cond.code yX9_summer cX9_summer 5 (some .int) : Cond) ∈ LT := LT_of 1226 (by decide +kernel) (by decide +kernel)
theorem kw_1227 : (Cond.methodLink RX9 358 yX6_pass : Cond) ∈ LT := LT_of 1227 (by decide +kernel) (by decide +kernel)
theorem kw_1228 : (Cond.instanceMethod yX6_pass : Cond) ∈ LT := LT_of 1228 (by decide +kernel) (by decide +kernel)
theorem kw_1229 : (Cond.selects RX6 yX6_pass yX6_pass : Cond) ∈ LT := LT_of 1229 (by decide +kernel) (by decide +kernel)
theorem kw_1230 : (Cond.code yX6_pass cX6_pass 8 none : Cond) ∈ LT := LT_of 1230 (by decide +kernel) (by decide +kernel)
theorem kw_1231 : (Cond.methodLink RX6 15 yX6_passHalf : Cond) ∈ LT := LT_of 1231 (by decide +kernel) (by decide +kernel)
theorem kw_1232 : (Cond.instanceMethod yX6_passHalf : Cond) ∈ LT := LT_of 1232 (by decide +kernel) (by decide +kernel)
theorem kw_1233 : (Cond.selects RX6 yX6_passHalf yX6_passHalf : Cond) ∈ LT := LT_of 1233 (by decide +kernel) (by decide +kernel)
theorem kw_1234 : (Cond.code yX6_passHalf cX6_passHalf 6 none : Cond) ∈ LT := LT_of 1234 (by decide +kernel) (by decide +kernel)
theorem kw_1235 : (Cond.methodLink RX6 25 yX6_draw : Cond) ∈ LT := LT_of 1235 (by decide +kernel) (by decide +kernel)
theorem kw_1236 : (Cond.instanceMethod yX6_draw : Cond) ∈ LT := LT_of 1236 (by decide +kernel) (by decide +kernel)
theorem kw_1237 : (Cond.selects RX6 yX6_draw yX6_draw : Cond) ∈ LT := LT_of 1237 (by decide +kernel) (by decide +kernel)
theorem kw_1238 : (Cond.code yX6_draw cX6_draw 3 (some .int) : Cond) ∈ LT := LT_of 1238 (by decide +kernel) (by decide +kernel)
theorem kw_1239 : (Cond.constant RX6 49 (1103515245) : Cond) ∈ LT := LT_of 1239 (by decide +kernel) (by decide +kernel)
theorem kw_1240 : (Cond.methodLink RX6 29 yX4_pour : Cond) ∈ LT := LT_of 1240 (by decide +kernel) (by decide +kernel)
theorem kw_1241 : (Cond.methodLink RX6 33 yX4_blow : Cond) ∈ LT := LT_of 1241 (by decide +kernel) (by decide +kernel)
theorem kw_1242 : (Cond.methodLink RX6 45 yX4_go : Cond) ∈ LT := LT_of 1242 (by decide +kernel) (by decide +kernel)
theorem kw_1243 : (Cond.methodLink RX6 19 yX4_passYear : Cond) ∈ LT := LT_of 1243 (by decide +kernel) (by decide +kernel)
theorem kw_1244 : (Cond.methodLink RX9 362 yX4_heardByAny : Cond) ∈ LT := LT_of 1244 (by decide +kernel) (by decide +kernel)
theorem kw_1245 : (Cond.instanceMethod yX4_heardByAny : Cond) ∈ LT := LT_of 1245 (by decide +kernel) (by decide +kernel)
theorem kw_1246 : (Cond.selects RX4 yX4_heardByAny yX4_heardByAny : Cond) ∈ LT := LT_of 1246 (by decide +kernel) (by decide +kernel)
theorem kw_1247 : (Cond.code yX4_heardByAny cX4_heardByAny 4 (some .int) : Cond) ∈ LT := LT_of 1247 (by decide +kernel) (by decide +kernel)
theorem kw_1248 : (Cond.methodLink RL 247 yL_span : Cond) ∈ LT := LT_of 1248 (by decide +kernel) (by decide +kernel)
theorem kw_1249 : (Cond.static yL_span : Cond) ∈ LT := LT_of 1249 (by decide +kernel) (by decide +kernel)
theorem kw_1251 : (Cond.methodLink RL 115 yX9_span : Cond) ∈ LT := LT_of 1251 (by decide +kernel) (by decide +kernel)
theorem kw_1252 : (Cond.instanceMethod yX9_span : Cond) ∈ LT := LT_of 1252 (by decide +kernel) (by decide +kernel)
theorem kw_1253 : (Cond.selects RX9 yX9_span yX9_span : Cond) ∈ LT := LT_of 1253 (by decide +kernel) (by decide +kernel)
theorem kw_1254 : (Cond.code yX9_span cX9_span 11 (some .int) : Cond) ∈ LT := LT_of 1254 (by decide +kernel) (by decide +kernel)
theorem kw_1255 : (Cond.methodLink RL 134 yX10_thrown : Cond) ∈ LT := LT_of 1255 (by decide +kernel) (by decide +kernel)
theorem kw_1256 : (Cond.instanceMethod yX10_thrown : Cond) ∈ LT := LT_of 1256 (by decide +kernel) (by decide +kernel)
theorem kw_1257 : (Cond.selects RX10 yX10_thrown yX10_thrown : Cond) ∈ LT := LT_of 1257 (by decide +kernel) (by decide +kernel)
theorem kw_1258 : (Cond.code yX10_thrown cX10_thrown 1 (some .int) : Cond) ∈ LT := LT_of 1258 (by decide +kernel) (by decide +kernel)
theorem kw_1259 : (Cond.classLink RL 120 RX10 : Cond) ∈ LT := LT_of 1259 (by decide +kernel) (by decide +kernel)
theorem kw_1260 : (Cond.instantiable RX10 53 : Cond) ∈ LT := LT_of 1260 (by decide +kernel) (by decide +kernel)
theorem kw_1261 : (Cond.methodLink RL 122 yX10_init : Cond) ∈ LT := LT_of 1261 (by decide +kernel) (by decide +kernel)
theorem kw_1262 : (Cond.instanceMethod yX10_init : Cond) ∈ LT := LT_of 1262 (by decide +kernel) (by decide +kernel)
theorem kw_1263 : (Cond.code yX10_init cX10_init 1 none : Cond) ∈ LT := LT_of 1263 (by decide +kernel) (by decide +kernel)
theorem kw_1264 : (Cond.methodLink RX10 11 objectInit : Cond) ∈ LT := LT_of 1264 (by decide +kernel) (by decide +kernel)
theorem kw_1265 : (Cond.methodLink RX10 99 yX10_clears : Cond) ∈ LT := LT_of 1265 (by decide +kernel) (by decide +kernel)
theorem kw_1267 : (Cond.instanceMethod yX10_clears : Cond) ∈ LT := LT_of 1267 (by decide +kernel) (by decide +kernel)
theorem kw_1268 : (Cond.code yX10_clears cX10_clears 1 none : Cond) ∈ LT := LT_of 1268 (by decide +kernel) (by decide +kernel)
theorem kw_1269 : (Cond.methodLink RX10 102 yX10_sets : Cond) ∈ LT := LT_of 1269 (by decide +kernel) (by decide +kernel)
theorem kw_1271 : (Cond.instanceMethod yX10_sets : Cond) ∈ LT := LT_of 1271 (by decide +kernel) (by decide +kernel)
theorem kw_1272 : (Cond.code yX10_sets cX10_sets 2 none : Cond) ∈ LT := LT_of 1272 (by decide +kernel) (by decide +kernel)
theorem kw_1273 : (Cond.methodLink RX10 169 yX10_copies : Cond) ∈ LT := LT_of 1273 (by decide +kernel) (by decide +kernel)
theorem kw_1275 : (Cond.instanceMethod yX10_copies : Cond) ∈ LT := LT_of 1275 (by decide +kernel) (by decide +kernel)
theorem kw_1276 : (Cond.code yX10_copies cX10_copies 5 none : Cond) ∈ LT := LT_of 1276 (by decide +kernel) (by decide +kernel)
theorem kw_1277 : (Cond.fieldLink RX10 3 (TX10 0).1 (TX10 0).2.1 (TX10 0).2.2.1 : Cond) ∈ LT := LT_of 1277 (by decide +kernel) (by decide +kernel)
theorem kw_1278 : (Cond.fieldLink RX10 7 (TX10 1).1 (TX10 1).2.1 (TX10 1).2.2.1 : Cond) ∈ LT := LT_of 1278 (by decide +kernel) (by decide +kernel)
theorem kw_1279 : (Cond.fieldLink RX10 105 (TX10 2).1 (TX10 2).2.1 (TX10 2).2.2.1 : Cond) ∈ LT := LT_of 1279 (by decide +kernel) (by decide +kernel)
theorem kw_1280 : (Cond.fieldLink RX10 117 (TX10 3).1 (TX10 3).2.1 (TX10 3).2.2.1 : Cond) ∈ LT := LT_of 1280 (by decide +kernel) (by decide +kernel)
theorem kw_1281 : (Cond.fieldLink RX10 114 (TX10 4).1 (TX10 4).2.1 (TX10 4).2.2.1 : Cond) ∈ LT := LT_of 1281 (by decide +kernel) (by decide +kernel)
theorem kw_1282 : (Cond.fieldLink RX10 108 (TX10 5).1 (TX10 5).2.1 (TX10 5).2.2.1 : Cond) ∈ LT := LT_of 1282 (by decide +kernel) (by decide +kernel)
theorem kw_1283 : (Cond.fieldLink RX10 111 (TX10 6).1 (TX10 6).2.1 (TX10 6).2.2.1 : Cond) ∈ LT := LT_of 1283 (by decide +kernel) (by decide +kernel)
theorem kw_1284 : (Cond.fieldLink RX10 148 (TX10 7).1 (TX10 7).2.1 (TX10 7).2.2.1 : Cond) ∈ LT := LT_of 1284 (by decide +kernel) (by decide +kernel)
theorem kw_1285 : (Cond.fieldLink RX10 17 (TX10 8).1 (TX10 8).2.1 (TX10 8).2.2.1 : Cond) ∈ LT := LT_of 1285 (by decide +kernel) (by decide +kernel)
theorem kw_1286 : (Cond.fieldLink RX10 20 (TX10 9).1 (TX10 9).2.1 (TX10 9).2.2.1 : Cond) ∈ LT := LT_of 1286 (by decide +kernel) (by decide +kernel)
theorem kw_1287 : (Cond.fieldLink RX10 23 (TX10 10).1 (TX10 10).2.1 (TX10 10).2.2.1 : Cond) ∈ LT := LT_of 1287 (by decide +kernel) (by decide +kernel)
theorem kw_1288 : (Cond.fieldLink RX10 26 (TX10 11).1 (TX10 11).2.1 (TX10 11).2.2.1 : Cond) ∈ LT := LT_of 1288 (by decide +kernel) (by decide +kernel)
theorem kw_1289 : (Cond.fieldLink RX10 29 (TX10 12).1 (TX10 12).2.1 (TX10 12).2.2.1 : Cond) ∈ LT := LT_of 1289 (by decide +kernel) (by decide +kernel)
theorem kw_1290 : (Cond.fieldLink RX10 32 (TX10 13).1 (TX10 13).2.1 (TX10 13).2.2.1 : Cond) ∈ LT := LT_of 1290 (by decide +kernel) (by decide +kernel)
theorem kw_1291 : (Cond.fieldLink RX10 35 (TX10 14).1 (TX10 14).2.1 (TX10 14).2.2.1 : Cond) ∈ LT := LT_of 1291 (by decide +kernel) (by decide +kernel)
theorem kw_1292 : (Cond.fieldLink RX10 38 (TX10 15).1 (TX10 15).2.1 (TX10 15).2.2.1 : Cond) ∈ LT := LT_of 1292 (by decide +kernel) (by decide +kernel)
theorem kw_1293 : (Cond.fieldLink RX10 151 (TX10 16).1 (TX10 16).2.1 (TX10 16).2.2.1 : Cond) ∈ LT := LT_of 1293 (by decide +kernel) (by decide +kernel)
theorem kw_1294 : (Cond.fieldLink RX10 154 (TX10 17).1 (TX10 17).2.1 (TX10 17).2.2.1 : Cond) ∈ LT := LT_of 1294 (by decide +kernel) (by decide +kernel)
theorem kw_1295 : (Cond.fieldLink RX10 157 (TX10 18).1 (TX10 18).2.1 (TX10 18).2.2.1 : Cond) ∈ LT := LT_of 1295 (by decide +kernel) (by decide +kernel)
theorem kw_1296 : (Cond.fieldLink RX10 160 (TX10 19).1 (TX10 19).2.1 (TX10 19).2.2.1 : Cond) ∈ LT := LT_of 1296 (by decide +kernel) (by decide +kernel)
theorem kw_1297 : (Cond.fieldLink RX10 163 (TX10 20).1 (TX10 20).2.1 (TX10 20).2.2.1 : Cond) ∈ LT := LT_of 1297 (by decide +kernel) (by decide +kernel)
theorem kw_1298 : (Cond.fieldLink RX10 166 (TX10 21).1 (TX10 21).2.1 (TX10 21).2.2.1 : Cond) ∈ LT := LT_of 1298 (by decide +kernel) (by decide +kernel)
theorem kw_1299 : (Cond.fieldLink RX10 41 (TX10 22).1 (TX10 22).2.1 (TX10 22).2.2.1 : Cond) ∈ LT := LT_of 1299 (by decide +kernel) (by decide +kernel)
theorem kw_1300 : (Cond.fieldLink RX10 44 (TX10 23).1 (TX10 23).2.1 (TX10 23).2.2.1 : Cond) ∈ LT := LT_of 1300 (by decide +kernel) (by decide +kernel)
theorem kw_1301 : (Cond.fieldLink RX10 47 (TX10 24).1 (TX10 24).2.1 (TX10 24).2.2.1 : Cond) ∈ LT := LT_of 1301 (by decide +kernel) (by decide +kernel)
theorem kw_1302 : (Cond.fieldLink RX10 50 (TX10 25).1 (TX10 25).2.1 (TX10 25).2.2.1 : Cond) ∈ LT := LT_of 1302 (by decide +kernel) (by decide +kernel)
theorem kw_1303 : (Cond.fieldLink RX10 53 (TX10 26).1 (TX10 26).2.1 (TX10 26).2.2.1 : Cond) ∈ LT := LT_of 1303 (by decide +kernel) (by decide +kernel)
theorem kw_1304 : (Cond.fieldLink RX10 238 (TX10 27).1 (TX10 27).2.1 (TX10 27).2.2.1 : Cond) ∈ LT := LT_of 1304 (by decide +kernel) (by decide +kernel)
theorem kw_1305 : (Cond.fieldLink RX10 173 (TX10 28).1 (TX10 28).2.1 (TX10 28).2.2.1 : Cond) ∈ LT := LT_of 1305 (by decide +kernel) (by decide +kernel)
theorem kw_1306 : (Cond.fieldLink RX10 56 (TX10 29).1 (TX10 29).2.1 (TX10 29).2.2.1 : Cond) ∈ LT := LT_of 1306 (by decide +kernel) (by decide +kernel)
theorem kw_1307 : (Cond.fieldLink RX10 59 (TX10 30).1 (TX10 30).2.1 (TX10 30).2.2.1 : Cond) ∈ LT := LT_of 1307 (by decide +kernel) (by decide +kernel)
theorem kw_1308 : (Cond.fieldLink RX10 62 (TX10 31).1 (TX10 31).2.1 (TX10 31).2.2.1 : Cond) ∈ LT := LT_of 1308 (by decide +kernel) (by decide +kernel)
theorem kw_1309 : (Cond.fieldLink RX10 285 (TX10 32).1 (TX10 32).2.1 (TX10 32).2.2.1 : Cond) ∈ LT := LT_of 1309 (by decide +kernel) (by decide +kernel)
theorem kw_1310 : (Cond.fieldLink RX10 179 (TX10 33).1 (TX10 33).2.1 (TX10 33).2.2.1 : Cond) ∈ LT := LT_of 1310 (by decide +kernel) (by decide +kernel)
theorem kw_1311 : (Cond.fieldLink RX10 185 (TX10 34).1 (TX10 34).2.1 (TX10 34).2.2.1 : Cond) ∈ LT := LT_of 1311 (by decide +kernel) (by decide +kernel)
theorem kw_1312 : (Cond.fieldLink RX10 317 (TX10 35).1 (TX10 35).2.1 (TX10 35).2.2.1 : Cond) ∈ LT := LT_of 1312 (by decide +kernel) (by decide +kernel)
theorem kw_1313 : (Cond.fieldLink RX10 320 (TX10 36).1 (TX10 36).2.1 (TX10 36).2.2.1 : Cond) ∈ LT := LT_of 1313 (by decide +kernel) (by decide +kernel)
theorem kw_1314 : (Cond.fieldLink RX10 323 (TX10 37).1 (TX10 37).2.1 (TX10 37).2.2.1 : Cond) ∈ LT := LT_of 1314 (by decide +kernel) (by decide +kernel)
theorem kw_1315 : (Cond.fieldLink RX10 65 (TX10 38).1 (TX10 38).2.1 (TX10 38).2.2.1 : Cond) ∈ LT := LT_of 1315 (by decide +kernel) (by decide +kernel)
theorem kw_1316 : (Cond.fieldLink RX10 68 (TX10 39).1 (TX10 39).2.1 (TX10 39).2.2.1 : Cond) ∈ LT := LT_of 1316 (by decide +kernel) (by decide +kernel)
theorem kw_1317 : (Cond.fieldLink RX10 71 (TX10 40).1 (TX10 40).2.1 (TX10 40).2.2.1 : Cond) ∈ LT := LT_of 1317 (by decide +kernel) (by decide +kernel)
theorem kw_1318 : (Cond.fieldLink RX10 74 (TX10 41).1 (TX10 41).2.1 (TX10 41).2.2.1 : Cond) ∈ LT := LT_of 1318 (by decide +kernel) (by decide +kernel)
theorem kw_1319 : (Cond.fieldLink RX10 77 (TX10 42).1 (TX10 42).2.1 (TX10 42).2.2.1 : Cond) ∈ LT := LT_of 1319 (by decide +kernel) (by decide +kernel)
theorem kw_1320 : (Cond.fieldLink RX10 176 (TX10 43).1 (TX10 43).2.1 (TX10 43).2.2.1 : Cond) ∈ LT := LT_of 1320 (by decide +kernel) (by decide +kernel)
theorem kw_1321 : (Cond.fieldLink RX10 80 (TX10 44).1 (TX10 44).2.1 (TX10 44).2.2.1 : Cond) ∈ LT := LT_of 1321 (by decide +kernel) (by decide +kernel)
theorem kw_1322 : (Cond.fieldLink RX10 83 (TX10 45).1 (TX10 45).2.1 (TX10 45).2.2.1 : Cond) ∈ LT := LT_of 1322 (by decide +kernel) (by decide +kernel)
theorem kw_1323 : (Cond.fieldLink RX10 410 (TX10 46).1 (TX10 46).2.1 (TX10 46).2.2.1 : Cond) ∈ LT := LT_of 1323 (by decide +kernel) (by decide +kernel)
theorem kw_1324 : (Cond.fieldLink RX10 86 (TX10 47).1 (TX10 47).2.1 (TX10 47).2.2.1 : Cond) ∈ LT := LT_of 1324 (by decide +kernel) (by decide +kernel)
theorem kw_1325 : (Cond.fieldLink RX10 89 (TX10 48).1 (TX10 48).2.1 (TX10 48).2.2.1 : Cond) ∈ LT := LT_of 1325 (by decide +kernel) (by decide +kernel)
theorem kw_1326 : (Cond.fieldLink RX10 92 (TX10 49).1 (TX10 49).2.1 (TX10 49).2.2.1 : Cond) ∈ LT := LT_of 1326 (by decide +kernel) (by decide +kernel)
theorem kw_1327 : (Cond.fieldLink RX10 447 (TX10 50).1 (TX10 50).2.1 (TX10 50).2.2.1 : Cond) ∈ LT := LT_of 1327 (by decide +kernel) (by decide +kernel)
theorem kw_1328 : (Cond.fieldLink RX10 96 (TX10 51).1 (TX10 51).2.1 (TX10 51).2.2.1 : Cond) ∈ LT := LT_of 1328 (by decide +kernel) (by decide +kernel)
theorem kw_1329 : (Cond.fieldLink RX10 182 (TX10 52).1 (TX10 52).2.1 (TX10 52).2.2.1 : Cond) ∈ LT := LT_of 1329 (by decide +kernel) (by decide +kernel)
theorem kw_1437 : (Cond.arrayClass .long : Cond) ∈ LT := LT_of 1437 (by decide +kernel) (by decide +kernel)
theorem kw_1438 : (Cond.methodLink RL 127 yX10_feed : Cond) ∈ LT := LT_of 1438 (by decide +kernel) (by decide +kernel)
theorem kw_1439 : (Cond.instanceMethod yX10_feed : Cond) ∈ LT := LT_of 1439 (by decide +kernel) (by decide +kernel)
theorem kw_1440 : (Cond.selects RX10 yX10_feed yX10_feed : Cond) ∈ LT := LT_of 1440 (by decide +kernel) (by decide +kernel)
theorem kw_1441 : (Cond.code yX10_feed cX10_feed 8 (some .int) : Cond) ∈ LT := LT_of 1441 (by decide +kernel) (by decide +kernel)
theorem kw_1442 : (Cond.methodLink RL 150 yX10_fault : Cond) ∈ LT := LT_of 1442 (by decide +kernel) (by decide +kernel)
theorem kw_1443 : (Cond.instanceMethod yX10_fault : Cond) ∈ LT := LT_of 1443 (by decide +kernel) (by decide +kernel)
theorem kw_1444 : (Cond.selects RX10 yX10_fault yX10_fault : Cond) ∈ LT := LT_of 1444 (by decide +kernel) (by decide +kernel)
theorem kw_1445 : (Cond.code yX10_fault cX10_fault 1 (some .int) : Cond) ∈ LT := LT_of 1445 (by decide +kernel) (by decide +kernel)
theorem kw_1446 : (Cond.methodLink RL 133 yX10_garden : Cond) ∈ LT := LT_of 1446 (by decide +kernel) (by decide +kernel)
theorem kw_1447 : (Cond.instanceMethod yX10_garden : Cond) ∈ LT := LT_of 1447 (by decide +kernel) (by decide +kernel)
theorem kw_1448 : (Cond.selects RX10 yX10_garden yX10_garden : Cond) ∈ LT := LT_of 1448 (by decide +kernel) (by decide +kernel)
theorem kw_1449 : (Cond.code yX10_garden cX10_garden 4 (some .int) : Cond) ∈ LT := LT_of 1449 (by decide +kernel) (by decide +kernel)
theorem kw_1450 : (Cond.methodLink RX10 205 yX10_may : Cond) ∈ LT := LT_of 1450 (by decide +kernel) (by decide +kernel)
theorem kw_1452 : (Cond.instanceMethod yX10_may : Cond) ∈ LT := LT_of 1452 (by decide +kernel) (by decide +kernel)
theorem kw_1453 : (Cond.code yX10_may cX10_may 4 (some .boolean) : Cond) ∈ LT := LT_of 1453 (by decide +kernel) (by decide +kernel)
theorem kw_1454 : (Cond.methodLink RX10 209 yX10_begins : Cond) ∈ LT := LT_of 1454 (by decide +kernel) (by decide +kernel)
theorem kw_1456 : (Cond.instanceMethod yX10_begins : Cond) ∈ LT := LT_of 1456 (by decide +kernel) (by decide +kernel)
theorem kw_1457 : (Cond.code yX10_begins cX10_begins 2 none : Cond) ∈ LT := LT_of 1457 (by decide +kernel) (by decide +kernel)
theorem kw_1458 : (Cond.methodLink RX10 137 yX10_fine : Cond) ∈ LT := LT_of 1458 (by decide +kernel) (by decide +kernel)
theorem kw_1460 : (Cond.instanceMethod yX10_fine : Cond) ∈ LT := LT_of 1460 (by decide +kernel) (by decide +kernel)
theorem kw_1461 : (Cond.code yX10_fine cX10_fine 1 (some .boolean) : Cond) ∈ LT := LT_of 1461 (by decide +kernel) (by decide +kernel)
theorem kw_1462 : (Cond.methodLink RX10 213 yX10_isMore : Cond) ∈ LT := LT_of 1462 (by decide +kernel) (by decide +kernel)
theorem kw_1464 : (Cond.instanceMethod yX10_isMore : Cond) ∈ LT := LT_of 1464 (by decide +kernel) (by decide +kernel)
theorem kw_1465 : (Cond.code yX10_isMore cX10_isMore 1 (some .boolean) : Cond) ∈ LT := LT_of 1465 (by decide +kernel) (by decide +kernel)
theorem kw_1466 : (Cond.methodLink RX10 120 yX10_here : Cond) ∈ LT := LT_of 1466 (by decide +kernel) (by decide +kernel)
theorem kw_1468 : (Cond.instanceMethod yX10_here : Cond) ∈ LT := LT_of 1468 (by decide +kernel) (by decide +kernel)
theorem kw_1469 : (Cond.code yX10_here cX10_here 1 (some .int) : Cond) ∈ LT := LT_of 1469 (by decide +kernel) (by decide +kernel)
theorem kw_1470 : (Cond.methodLink RX10 216 yX10_wordHere : Cond) ∈ LT := LT_of 1470 (by decide +kernel) (by decide +kernel)
theorem kw_1472 : (Cond.instanceMethod yX10_wordHere : Cond) ∈ LT := LT_of 1472 (by decide +kernel) (by decide +kernel)
theorem kw_1473 : (Cond.code yX10_wordHere cX10_wordHere 4 (some .int) : Cond) ∈ LT := LT_of 1473 (by decide +kernel) (by decide +kernel)
theorem kw_1474 : (Cond.methodLink RX10 124 yX10_isSmall : Cond) ∈ LT := LT_of 1474 (by decide +kernel) (by decide +kernel)
theorem kw_1475 : (Cond.static yX10_isSmall : Cond) ∈ LT := LT_of 1475 (by decide +kernel) (by decide +kernel)
theorem kw_1476 : (Cond.code yX10_isSmall cX10_isSmall 1 (some .boolean) : Cond) ∈ LT := LT_of 1476 (by decide +kernel) (by decide +kernel)
theorem kw_1477 : (Cond.methodLink RX10 219 yX10_isRow : Cond) ∈ LT := LT_of 1477 (by decide +kernel) (by decide +kernel)
theorem kw_1478 : (Cond.static yX10_isRow : Cond) ∈ LT := LT_of 1478 (by decide +kernel) (by decide +kernel)
theorem kw_1479 : (Cond.code yX10_isRow cX10_isRow 1 (some .boolean) : Cond) ∈ LT := LT_of 1479 (by decide +kernel) (by decide +kernel)
theorem kw_1481 : (Cond.methodLink RX10 196 yX10_of : Cond) ∈ LT := LT_of 1481 (by decide +kernel) (by decide +kernel)
theorem kw_1482 : (Cond.static yX10_of : Cond) ∈ LT := LT_of 1482 (by decide +kernel) (by decide +kernel)
theorem kw_1483 : (Cond.code yX10_of cX10_of 3 (some .int) : Cond) ∈ LT := LT_of 1483 (by decide +kernel) (by decide +kernel)
theorem kw_1484 : (Cond.methodLink RX10 128 yJ0_length_8abf5 : Cond) ∈ LT := LT_of 1484 (by decide +kernel) (by decide +kernel)
theorem kw_1485 : (Cond.methodLink RX10 133 yJ0_charAt_5068e : Cond) ∈ LT := LT_of 1485 (by decide +kernel) (by decide +kernel)
theorem kw_1488 : (Cond.methodLink RX10 144 yX10_wrong : Cond) ∈ LT := LT_of 1488 (by decide +kernel) (by decide +kernel)
theorem kw_1490 : (Cond.instanceMethod yX10_wrong : Cond) ∈ LT := LT_of 1490 (by decide +kernel) (by decide +kernel)
theorem kw_1491 : (Cond.code yX10_wrong cX10_wrong 3 none : Cond) ∈ LT := LT_of 1491 (by decide +kernel) (by decide +kernel)
theorem kw_1492 : (Cond.methodLink RX10 222 yX10_isFull : Cond) ∈ LT := LT_of 1492 (by decide +kernel) (by decide +kernel)
theorem kw_1494 : (Cond.instanceMethod yX10_isFull : Cond) ∈ LT := LT_of 1494 (by decide +kernel) (by decide +kernel)
theorem kw_1495 : (Cond.code yX10_isFull cX10_isFull 2 (some .boolean) : Cond) ∈ LT := LT_of 1495 (by decide +kernel) (by decide +kernel)
theorem kw_1496 : (Cond.methodLink RX10 225 yX10_pass : Cond) ∈ LT := LT_of 1496 (by decide +kernel) (by decide +kernel)
theorem kw_1498 : (Cond.instanceMethod yX10_pass : Cond) ∈ LT := LT_of 1498 (by decide +kernel) (by decide +kernel)
theorem kw_1499 : (Cond.code yX10_pass cX10_pass 1 none : Cond) ∈ LT := LT_of 1499 (by decide +kernel) (by decide +kernel)
theorem kw_1500 : (Cond.methodLink RX10 228 yX10_readRow : Cond) ∈ LT := LT_of 1500 (by decide +kernel) (by decide +kernel)
theorem kw_1502 : (Cond.instanceMethod yX10_readRow : Cond) ∈ LT := LT_of 1502 (by decide +kernel) (by decide +kernel)
theorem kw_1503 : (Cond.code yX10_readRow cX10_readRow 2 none : Cond) ∈ LT := LT_of 1503 (by decide +kernel) (by decide +kernel)
theorem kw_1504 : (Cond.methodLink RX10 188 yX10_readNumber : Cond) ∈ LT := LT_of 1504 (by decide +kernel) (by decide +kernel)
theorem kw_1506 : (Cond.instanceMethod yX10_readNumber : Cond) ∈ LT := LT_of 1506 (by decide +kernel) (by decide +kernel)
theorem kw_1507 : (Cond.code yX10_readNumber cX10_readNumber 6 (some .int) : Cond) ∈ LT := LT_of 1507 (by decide +kernel) (by decide +kernel)
theorem kw_1508 : (Cond.methodLink RX10 141 yX10_isDigit : Cond) ∈ LT := LT_of 1508 (by decide +kernel) (by decide +kernel)
theorem kw_1509 : (Cond.static yX10_isDigit : Cond) ∈ LT := LT_of 1509 (by decide +kernel) (by decide +kernel)
theorem kw_1510 : (Cond.code yX10_isDigit cX10_isDigit 1 (some .boolean) : Cond) ∈ LT := LT_of 1510 (by decide +kernel) (by decide +kernel)
theorem kw_1511 : (Cond.methodLink RX10 202 yX10_readLetter : Cond) ∈ LT := LT_of 1511 (by decide +kernel) (by decide +kernel)
theorem kw_1513 : (Cond.instanceMethod yX10_readLetter : Cond) ∈ LT := LT_of 1513 (by decide +kernel) (by decide +kernel)
theorem kw_1514 : (Cond.code yX10_readLetter cX10_readLetter 5 none : Cond) ∈ LT := LT_of 1514 (by decide +kernel) (by decide +kernel)
theorem kw_1515 : (Cond.methodLink RX10 192 yX10_readBedTold : Cond) ∈ LT := LT_of 1515 (by decide +kernel) (by decide +kernel)
theorem kw_1517 : (Cond.instanceMethod yX10_readBedTold : Cond) ∈ LT := LT_of 1517 (by decide +kernel) (by decide +kernel)
theorem kw_1518 : (Cond.code yX10_readBedTold cX10_readBedTold 1 (some .int) : Cond) ∈ LT := LT_of 1518 (by decide +kernel) (by decide +kernel)
theorem kw_1519 : (Cond.methodLink RX10 231 yX10_sign : Cond) ∈ LT := LT_of 1519 (by decide +kernel) (by decide +kernel)
theorem kw_1521 : (Cond.instanceMethod yX10_sign : Cond) ∈ LT := LT_of 1521 (by decide +kernel) (by decide +kernel)
theorem kw_1522 : (Cond.code yX10_sign cX10_sign 2 none : Cond) ∈ LT := LT_of 1522 (by decide +kernel) (by decide +kernel)
theorem kw_1523 : (Cond.methodLink RX10 234 yX10_result : Cond) ∈ LT := LT_of 1523 (by decide +kernel) (by decide +kernel)
theorem kw_1525 : (Cond.instanceMethod yX10_result : Cond) ∈ LT := LT_of 1525 (by decide +kernel) (by decide +kernel)
theorem kw_1526 : (Cond.code yX10_result cX10_result 2 (some .int) : Cond) ∈ LT := LT_of 1526 (by decide +kernel) (by decide +kernel)
theorem kw_1527 : (Cond.methodLink RL 140 yX10_law : Cond) ∈ LT := LT_of 1527 (by decide +kernel) (by decide +kernel)
theorem kw_1528 : (Cond.instanceMethod yX10_law : Cond) ∈ LT := LT_of 1528 (by decide +kernel) (by decide +kernel)
theorem kw_1529 : (Cond.selects RX10 yX10_law yX10_law : Cond) ∈ LT := LT_of 1529 (by decide +kernel) (by decide +kernel)
theorem kw_1530 : (Cond.code yX10_law cX10_law 3 (some .int) : Cond) ∈ LT := LT_of 1530 (by decide +kernel) (by decide +kernel)
theorem kw_1531 : (Cond.methodLink RX10 253 yX10_readSum : Cond) ∈ LT := LT_of 1531 (by decide +kernel) (by decide +kernel)
theorem kw_1533 : (Cond.instanceMethod yX10_readSum : Cond) ∈ LT := LT_of 1533 (by decide +kernel) (by decide +kernel)
theorem kw_1534 : (Cond.code yX10_readSum cX10_readSum 2 none : Cond) ∈ LT := LT_of 1534 (by decide +kernel) (by decide +kernel)
theorem kw_1535 : (Cond.methodLink RX10 241 yX10_readProduct : Cond) ∈ LT := LT_of 1535 (by decide +kernel) (by decide +kernel)
theorem kw_1537 : (Cond.instanceMethod yX10_readProduct : Cond) ∈ LT := LT_of 1537 (by decide +kernel) (by decide +kernel)
theorem kw_1538 : (Cond.code yX10_readProduct cX10_readProduct 2 none : Cond) ∈ LT := LT_of 1538 (by decide +kernel) (by decide +kernel)
theorem kw_1539 : (Cond.methodLink RX10 247 yX10_readUnit : Cond) ∈ LT := LT_of 1539 (by decide +kernel) (by decide +kernel)
theorem kw_1541 : (Cond.instanceMethod yX10_readUnit : Cond) ∈ LT := LT_of 1541 (by decide +kernel) (by decide +kernel)
theorem kw_1542 : (Cond.code yX10_readUnit cX10_readUnit 2 none : Cond) ∈ LT := LT_of 1542 (by decide +kernel) (by decide +kernel)
theorem kw_1543 : (Cond.methodLink RX10 250 yX10_opensOne : Cond) ∈ LT := LT_of 1543 (by decide +kernel) (by decide +kernel)
theorem kw_1545 : (Cond.instanceMethod yX10_opensOne : Cond) ∈ LT := LT_of 1545 (by decide +kernel) (by decide +kernel)
theorem kw_1546 : (Cond.code yX10_opensOne cX10_opensOne 2 none : Cond) ∈ LT := LT_of 1546 (by decide +kernel) (by decide +kernel)
theorem kw_1547 : (Cond.methodLink RX10 244 yX10_emit : Cond) ∈ LT := LT_of 1547 (by decide +kernel) (by decide +kernel)
theorem kw_1549 : (Cond.instanceMethod yX10_emit : Cond) ∈ LT := LT_of 1549 (by decide +kernel) (by decide +kernel)
theorem kw_1550 : (Cond.code yX10_emit cX10_emit 3 none : Cond) ∈ LT := LT_of 1550 (by decide +kernel) (by decide +kernel)
theorem kw_1552 : (Cond.methodLink RX10 270 yX10_readTwo : Cond) ∈ LT := LT_of 1552 (by decide +kernel) (by decide +kernel)
theorem kw_1554 : (Cond.instanceMethod yX10_readTwo : Cond) ∈ LT := LT_of 1554 (by decide +kernel) (by decide +kernel)
theorem kw_1555 : (Cond.code yX10_readTwo cX10_readTwo 3 none : Cond) ∈ LT := LT_of 1555 (by decide +kernel) (by decide +kernel)
theorem kw_1557 : (Cond.methodLink RX10 275 yX10_factHere : Cond) ∈ LT := LT_of 1557 (by decide +kernel) (by decide +kernel)
theorem kw_1559 : (Cond.instanceMethod yX10_factHere : Cond) ∈ LT := LT_of 1559 (by decide +kernel) (by decide +kernel)
theorem kw_1560 : (Cond.code yX10_factHere cX10_factHere 2 (some .int) : Cond) ∈ LT := LT_of 1560 (by decide +kernel) (by decide +kernel)
theorem kw_1567 : (Cond.methodLink RL 143 yX10_work : Cond) ∈ LT := LT_of 1567 (by decide +kernel) (by decide +kernel)
theorem kw_1568 : (Cond.instanceMethod yX10_work : Cond) ∈ LT := LT_of 1568 (by decide +kernel) (by decide +kernel)
theorem kw_1569 : (Cond.selects RX10 yX10_work yX10_work : Cond) ∈ LT := LT_of 1569 (by decide +kernel) (by decide +kernel)
theorem kw_1570 : (Cond.code yX10_work cX10_work 4 (some .int) : Cond) ∈ LT := LT_of 1570 (by decide +kernel) (by decide +kernel)
theorem kw_1571 : (Cond.methodLink RX10 302 yX10_readStep : Cond) ∈ LT := LT_of 1571 (by decide +kernel) (by decide +kernel)
theorem kw_1573 : (Cond.instanceMethod yX10_readStep : Cond) ∈ LT := LT_of 1573 (by decide +kernel) (by decide +kernel)
theorem kw_1574 : (Cond.code yX10_readStep cX10_readStep 3 none : Cond) ∈ LT := LT_of 1574 (by decide +kernel) (by decide +kernel)
theorem kw_1575 : (Cond.methodLink RX10 305 yX10_stepOf : Cond) ∈ LT := LT_of 1575 (by decide +kernel) (by decide +kernel)
theorem kw_1576 : (Cond.static yX10_stepOf : Cond) ∈ LT := LT_of 1576 (by decide +kernel) (by decide +kernel)
theorem kw_1577 : (Cond.code yX10_stepOf cX10_stepOf 1 (some .int) : Cond) ∈ LT := LT_of 1577 (by decide +kernel) (by decide +kernel)
theorem kw_1583 : (Cond.methodLink RX10 308 yX10_readAgain : Cond) ∈ LT := LT_of 1583 (by decide +kernel) (by decide +kernel)
theorem kw_1585 : (Cond.instanceMethod yX10_readAgain : Cond) ∈ LT := LT_of 1585 (by decide +kernel) (by decide +kernel)
theorem kw_1586 : (Cond.code yX10_readAgain cX10_readAgain 3 none : Cond) ∈ LT := LT_of 1586 (by decide +kernel) (by decide +kernel)
theorem kw_1587 : (Cond.methodLink RX10 298 yX10_tellsStep : Cond) ∈ LT := LT_of 1587 (by decide +kernel) (by decide +kernel)
theorem kw_1589 : (Cond.instanceMethod yX10_tellsStep : Cond) ∈ LT := LT_of 1589 (by decide +kernel) (by decide +kernel)
theorem kw_1590 : (Cond.code yX10_tellsStep cX10_tellsStep 4 none : Cond) ∈ LT := LT_of 1590 (by decide +kernel) (by decide +kernel)
theorem kw_1591 : (Cond.methodLink RX10 311 yX10_readFirst : Cond) ∈ LT := LT_of 1591 (by decide +kernel) (by decide +kernel)
theorem kw_1593 : (Cond.instanceMethod yX10_readFirst : Cond) ∈ LT := LT_of 1593 (by decide +kernel) (by decide +kernel)
theorem kw_1594 : (Cond.code yX10_readFirst cX10_readFirst 2 (some .int) : Cond) ∈ LT := LT_of 1594 (by decide +kernel) (by decide +kernel)
theorem kw_1595 : (Cond.methodLink RX10 314 yX10_take : Cond) ∈ LT := LT_of 1595 (by decide +kernel) (by decide +kernel)
theorem kw_1597 : (Cond.instanceMethod yX10_take : Cond) ∈ LT := LT_of 1597 (by decide +kernel) (by decide +kernel)
theorem kw_1598 : (Cond.code yX10_take cX10_take 1 none : Cond) ∈ LT := LT_of 1598 (by decide +kernel) (by decide +kernel)
theorem kw_1599 : (Cond.methodLink RX10 326 yX10_goesSteps : Cond) ∈ LT := LT_of 1599 (by decide +kernel) (by decide +kernel)
theorem kw_1601 : (Cond.instanceMethod yX10_goesSteps : Cond) ∈ LT := LT_of 1601 (by decide +kernel) (by decide +kernel)
theorem kw_1602 : (Cond.code yX10_goesSteps cX10_goesSteps 6 none : Cond) ∈ LT := LT_of 1602 (by decide +kernel) (by decide +kernel)
theorem kw_1603 : (Cond.methodLink RX10 329 yX10_isDone : Cond) ∈ LT := LT_of 1603 (by decide +kernel) (by decide +kernel)
theorem kw_1605 : (Cond.instanceMethod yX10_isDone : Cond) ∈ LT := LT_of 1605 (by decide +kernel) (by decide +kernel)
theorem kw_1606 : (Cond.code yX10_isDone cX10_isDone 4 (some .boolean) : Cond) ∈ LT := LT_of 1606 (by decide +kernel) (by decide +kernel)
theorem kw_1607 : (Cond.methodLink RX10 367 yX10_isBlown : Cond) ∈ LT := LT_of 1607 (by decide +kernel) (by decide +kernel)
theorem kw_1609 : (Cond.instanceMethod yX10_isBlown : Cond) ∈ LT := LT_of 1609 (by decide +kernel) (by decide +kernel)
theorem kw_1610 : (Cond.code yX10_isBlown cX10_isBlown 5 (some .boolean) : Cond) ∈ LT := LT_of 1610 (by decide +kernel) (by decide +kernel)
theorem kw_1611 : (Cond.methodLink RX10 358 yX10_newsOf : Cond) ∈ LT := LT_of 1611 (by decide +kernel) (by decide +kernel)
theorem kw_1613 : (Cond.instanceMethod yX10_newsOf : Cond) ∈ LT := LT_of 1613 (by decide +kernel) (by decide +kernel)
theorem kw_1614 : (Cond.code yX10_newsOf cX10_newsOf 3 (some .int) : Cond) ∈ LT := LT_of 1614 (by decide +kernel) (by decide +kernel)
theorem kw_1615 : (Cond.methodLink RX10 355 yX10_nextWords : Cond) ∈ LT := LT_of 1615 (by decide +kernel) (by decide +kernel)
theorem kw_1617 : (Cond.instanceMethod yX10_nextWords : Cond) ∈ LT := LT_of 1617 (by decide +kernel) (by decide +kernel)
theorem kw_1618 : (Cond.code yX10_nextWords cX10_nextWords 3 (some .int) : Cond) ∈ LT := LT_of 1618 (by decide +kernel) (by decide +kernel)
theorem kw_1619 : (Cond.methodLink RX10 336 yX10_leftOf : Cond) ∈ LT := LT_of 1619 (by decide +kernel) (by decide +kernel)
theorem kw_1621 : (Cond.instanceMethod yX10_leftOf : Cond) ∈ LT := LT_of 1621 (by decide +kernel) (by decide +kernel)
theorem kw_1622 : (Cond.code yX10_leftOf cX10_leftOf 2 (some .int) : Cond) ∈ LT := LT_of 1622 (by decide +kernel) (by decide +kernel)
theorem kw_1623 : (Cond.methodLink RX10 346 yX10_wordOf : Cond) ∈ LT := LT_of 1623 (by decide +kernel) (by decide +kernel)
theorem kw_1625 : (Cond.instanceMethod yX10_wordOf : Cond) ∈ LT := LT_of 1625 (by decide +kernel) (by decide +kernel)
theorem kw_1626 : (Cond.code yX10_wordOf cX10_wordOf 3 (some .int) : Cond) ∈ LT := LT_of 1626 (by decide +kernel) (by decide +kernel)
theorem kw_1627 : (Cond.methodLink RX10 370 yX10_isWalked : Cond) ∈ LT := LT_of 1627 (by decide +kernel) (by decide +kernel)
theorem kw_1629 : (Cond.instanceMethod yX10_isWalked : Cond) ∈ LT := LT_of 1629 (by decide +kernel) (by decide +kernel)
theorem kw_1630 : (Cond.code yX10_isWalked cX10_isWalked 3 (some .boolean) : Cond) ∈ LT := LT_of 1630 (by decide +kernel) (by decide +kernel)
theorem kw_1631 : (Cond.methodLink RX10 361 yX10_wordsIn : Cond) ∈ LT := LT_of 1631 (by decide +kernel) (by decide +kernel)
theorem kw_1633 : (Cond.instanceMethod yX10_wordsIn : Cond) ∈ LT := LT_of 1633 (by decide +kernel) (by decide +kernel)
theorem kw_1634 : (Cond.code yX10_wordsIn cX10_wordsIn 4 (some .int) : Cond) ∈ LT := LT_of 1634 (by decide +kernel) (by decide +kernel)
theorem kw_1635 : (Cond.methodLink RX10 374 yX10_isEaten : Cond) ∈ LT := LT_of 1635 (by decide +kernel) (by decide +kernel)
theorem kw_1637 : (Cond.instanceMethod yX10_isEaten : Cond) ∈ LT := LT_of 1637 (by decide +kernel) (by decide +kernel)
theorem kw_1638 : (Cond.code yX10_isEaten cX10_isEaten 2 (some .boolean) : Cond) ∈ LT := LT_of 1638 (by decide +kernel) (by decide +kernel)
theorem kw_1639 : (Cond.methodLink RX10 377 yX10_pours : Cond) ∈ LT := LT_of 1639 (by decide +kernel) (by decide +kernel)
theorem kw_1641 : (Cond.instanceMethod yX10_pours : Cond) ∈ LT := LT_of 1641 (by decide +kernel) (by decide +kernel)
theorem kw_1642 : (Cond.code yX10_pours cX10_pours 3 none : Cond) ∈ LT := LT_of 1642 (by decide +kernel) (by decide +kernel)
theorem kw_1643 : (Cond.methodLink RX10 343 yX10_held : Cond) ∈ LT := LT_of 1643 (by decide +kernel) (by decide +kernel)
theorem kw_1644 : (Cond.static yX10_held : Cond) ∈ LT := LT_of 1644 (by decide +kernel) (by decide +kernel)
theorem kw_1645 : (Cond.code yX10_held cX10_held 2 (some .int) : Cond) ∈ LT := LT_of 1645 (by decide +kernel) (by decide +kernel)
theorem kw_1646 : (Cond.methodLink RX10 349 yX10_runBy : Cond) ∈ LT := LT_of 1646 (by decide +kernel) (by decide +kernel)
theorem kw_1648 : (Cond.instanceMethod yX10_runBy : Cond) ∈ LT := LT_of 1648 (by decide +kernel) (by decide +kernel)
theorem kw_1649 : (Cond.code yX10_runBy cX10_runBy 5 (some .int) : Cond) ∈ LT := LT_of 1649 (by decide +kernel) (by decide +kernel)
theorem kw_1650 : (Cond.methodLink RX10 339 yX10_runOf : Cond) ∈ LT := LT_of 1650 (by decide +kernel) (by decide +kernel)
theorem kw_1652 : (Cond.instanceMethod yX10_runOf : Cond) ∈ LT := LT_of 1652 (by decide +kernel) (by decide +kernel)
theorem kw_1653 : (Cond.code yX10_runOf cX10_runOf 8 (some .int) : Cond) ∈ LT := LT_of 1653 (by decide +kernel) (by decide +kernel)
theorem kw_1654 : (Cond.methodLink RX10 333 yX10_runNow : Cond) ∈ LT := LT_of 1654 (by decide +kernel) (by decide +kernel)
theorem kw_1656 : (Cond.instanceMethod yX10_runNow : Cond) ∈ LT := LT_of 1656 (by decide +kernel) (by decide +kernel)
theorem kw_1657 : (Cond.code yX10_runNow cX10_runNow 2 (some .int) : Cond) ∈ LT := LT_of 1657 (by decide +kernel) (by decide +kernel)
theorem kw_1658 : (Cond.methodLink RX10 282 yX10_valueNow : Cond) ∈ LT := LT_of 1658 (by decide +kernel) (by decide +kernel)
theorem kw_1660 : (Cond.instanceMethod yX10_valueNow : Cond) ∈ LT := LT_of 1660 (by decide +kernel) (by decide +kernel)
theorem kw_1661 : (Cond.code yX10_valueNow cX10_valueNow 4 (some .int) : Cond) ∈ LT := LT_of 1661 (by decide +kernel) (by decide +kernel)
theorem kw_1662 : (Cond.methodLink RX10 278 yX10_both : Cond) ∈ LT := LT_of 1662 (by decide +kernel) (by decide +kernel)
theorem kw_1663 : (Cond.static yX10_both : Cond) ∈ LT := LT_of 1663 (by decide +kernel) (by decide +kernel)
theorem kw_1664 : (Cond.code yX10_both cX10_both 3 (some .int) : Cond) ∈ LT := LT_of 1664 (by decide +kernel) (by decide +kernel)
theorem kw_1665 : (Cond.methodLink RX10 352 yX10_runsOut : Cond) ∈ LT := LT_of 1665 (by decide +kernel) (by decide +kernel)
theorem kw_1667 : (Cond.instanceMethod yX10_runsOut : Cond) ∈ LT := LT_of 1667 (by decide +kernel) (by decide +kernel)
theorem kw_1668 : (Cond.code yX10_runsOut cX10_runsOut 5 none : Cond) ∈ LT := LT_of 1668 (by decide +kernel) (by decide +kernel)
theorem kw_1669 : (Cond.methodLink RX10 380 yX10_passes : Cond) ∈ LT := LT_of 1669 (by decide +kernel) (by decide +kernel)
theorem kw_1671 : (Cond.instanceMethod yX10_passes : Cond) ∈ LT := LT_of 1671 (by decide +kernel) (by decide +kernel)
theorem kw_1672 : (Cond.code yX10_passes cX10_passes 3 none : Cond) ∈ LT := LT_of 1672 (by decide +kernel) (by decide +kernel)
theorem kw_1673 : (Cond.methodLink RX10 364 yX10_grows : Cond) ∈ LT := LT_of 1673 (by decide +kernel) (by decide +kernel)
theorem kw_1675 : (Cond.instanceMethod yX10_grows : Cond) ∈ LT := LT_of 1675 (by decide +kernel) (by decide +kernel)
theorem kw_1676 : (Cond.code yX10_grows cX10_grows 3 none : Cond) ∈ LT := LT_of 1676 (by decide +kernel) (by decide +kernel)
theorem kw_1677 : (Cond.methodLink RL 146 yX10_book : Cond) ∈ LT := LT_of 1677 (by decide +kernel) (by decide +kernel)
theorem kw_1678 : (Cond.instanceMethod yX10_book : Cond) ∈ LT := LT_of 1678 (by decide +kernel) (by decide +kernel)
theorem kw_1679 : (Cond.selects RX10 yX10_book yX10_book : Cond) ∈ LT := LT_of 1679 (by decide +kernel) (by decide +kernel)
theorem kw_1680 : (Cond.code yX10_book cX10_book 6 (some .int) : Cond) ∈ LT := LT_of 1680 (by decide +kernel) (by decide +kernel)
theorem kw_1681 : (Cond.methodLink RL 154 yX10_undo : Cond) ∈ LT := LT_of 1681 (by decide +kernel) (by decide +kernel)
theorem kw_1682 : (Cond.instanceMethod yX10_undo : Cond) ∈ LT := LT_of 1682 (by decide +kernel) (by decide +kernel)
theorem kw_1683 : (Cond.selects RX10 yX10_undo yX10_undo : Cond) ∈ LT := LT_of 1683 (by decide +kernel) (by decide +kernel)
theorem kw_1684 : (Cond.code yX10_undo cX10_undo 2 (some .int) : Cond) ∈ LT := LT_of 1684 (by decide +kernel) (by decide +kernel)
theorem kw_1685 : (Cond.methodLink RL 157 yX10_told : Cond) ∈ LT := LT_of 1685 (by decide +kernel) (by decide +kernel)
theorem kw_1686 : (Cond.instanceMethod yX10_told : Cond) ∈ LT := LT_of 1686 (by decide +kernel) (by decide +kernel)
theorem kw_1687 : (Cond.selects RX10 yX10_told yX10_told : Cond) ∈ LT := LT_of 1687 (by decide +kernel) (by decide +kernel)
theorem kw_1688 : (Cond.code yX10_told cX10_told 2 (some .int) : Cond) ∈ LT := LT_of 1688 (by decide +kernel) (by decide +kernel)
theorem kw_1689 : (Cond.methodLink RX10 383 yX10_within : Cond) ∈ LT := LT_of 1689 (by decide +kernel) (by decide +kernel)
theorem kw_1690 : (Cond.static yX10_within : Cond) ∈ LT := LT_of 1690 (by decide +kernel) (by decide +kernel)
theorem kw_1691 : (Cond.code yX10_within cX10_within 3 (some .boolean) : Cond) ∈ LT := LT_of 1691 (by decide +kernel) (by decide +kernel)
theorem kw_1692 : (Cond.methodLink RX10 386 yX10_leftAll : Cond) ∈ LT := LT_of 1692 (by decide +kernel) (by decide +kernel)
theorem kw_1694 : (Cond.instanceMethod yX10_leftAll : Cond) ∈ LT := LT_of 1694 (by decide +kernel) (by decide +kernel)
theorem kw_1695 : (Cond.code yX10_leftAll cX10_leftAll 3 (some .int) : Cond) ∈ LT := LT_of 1695 (by decide +kernel) (by decide +kernel)
theorem kw_1696 : (Cond.methodLink RX10 389 yX10_sumOf : Cond) ∈ LT := LT_of 1696 (by decide +kernel) (by decide +kernel)
theorem kw_1698 : (Cond.instanceMethod yX10_sumOf : Cond) ∈ LT := LT_of 1698 (by decide +kernel) (by decide +kernel)
theorem kw_1699 : (Cond.code yX10_sumOf cX10_sumOf 5 (some .int) : Cond) ∈ LT := LT_of 1699 (by decide +kernel) (by decide +kernel)
theorem kw_1700 : (Cond.methodLink RL 161 yX10_letter : Cond) ∈ LT := LT_of 1700 (by decide +kernel) (by decide +kernel)
theorem kw_1701 : (Cond.instanceMethod yX10_letter : Cond) ∈ LT := LT_of 1701 (by decide +kernel) (by decide +kernel)
theorem kw_1702 : (Cond.selects RX10 yX10_letter yX10_letter : Cond) ∈ LT := LT_of 1702 (by decide +kernel) (by decide +kernel)
theorem kw_1703 : (Cond.code yX10_letter cX10_letter 3 (some .int) : Cond) ∈ LT := LT_of 1703 (by decide +kernel) (by decide +kernel)
theorem kw_1704 : (Cond.methodLink RX10 392 yX10_isLetter : Cond) ∈ LT := LT_of 1704 (by decide +kernel) (by decide +kernel)
theorem kw_1706 : (Cond.instanceMethod yX10_isLetter : Cond) ∈ LT := LT_of 1706 (by decide +kernel) (by decide +kernel)
theorem kw_1707 : (Cond.code yX10_isLetter cX10_isLetter 3 (some .boolean) : Cond) ∈ LT := LT_of 1707 (by decide +kernel) (by decide +kernel)
theorem kw_1708 : (Cond.methodLink RL 164 yX10_word : Cond) ∈ LT := LT_of 1708 (by decide +kernel) (by decide +kernel)
theorem kw_1709 : (Cond.instanceMethod yX10_word : Cond) ∈ LT := LT_of 1709 (by decide +kernel) (by decide +kernel)
theorem kw_1710 : (Cond.selects RX10 yX10_word yX10_word : Cond) ∈ LT := LT_of 1710 (by decide +kernel) (by decide +kernel)
theorem kw_1711 : (Cond.code yX10_word cX10_word 3 (some .int) : Cond) ∈ LT := LT_of 1711 (by decide +kernel) (by decide +kernel)
theorem kw_1712 : (Cond.methodLink RL 167 yX10_bed : Cond) ∈ LT := LT_of 1712 (by decide +kernel) (by decide +kernel)
theorem kw_1713 : (Cond.instanceMethod yX10_bed : Cond) ∈ LT := LT_of 1713 (by decide +kernel) (by decide +kernel)
theorem kw_1714 : (Cond.selects RX10 yX10_bed yX10_bed : Cond) ∈ LT := LT_of 1714 (by decide +kernel) (by decide +kernel)
theorem kw_1715 : (Cond.code yX10_bed cX10_bed 5 (some .int) : Cond) ∈ LT := LT_of 1715 (by decide +kernel) (by decide +kernel)
theorem kw_1716 : (Cond.methodLink RX10 395 yX10_isBed : Cond) ∈ LT := LT_of 1716 (by decide +kernel) (by decide +kernel)
theorem kw_1718 : (Cond.instanceMethod yX10_isBed : Cond) ∈ LT := LT_of 1718 (by decide +kernel) (by decide +kernel)
theorem kw_1719 : (Cond.code yX10_isBed cX10_isBed 3 (some .boolean) : Cond) ∈ LT := LT_of 1719 (by decide +kernel) (by decide +kernel)
theorem kw_1720 : (Cond.methodLink RX10 398 yX10_firstIn : Cond) ∈ LT := LT_of 1720 (by decide +kernel) (by decide +kernel)
theorem kw_1722 : (Cond.instanceMethod yX10_firstIn : Cond) ∈ LT := LT_of 1722 (by decide +kernel) (by decide +kernel)
theorem kw_1723 : (Cond.code yX10_firstIn cX10_firstIn 2 (some .int) : Cond) ∈ LT := LT_of 1723 (by decide +kernel) (by decide +kernel)
theorem kw_1724 : (Cond.methodLink RL 170 yX10_lies : Cond) ∈ LT := LT_of 1724 (by decide +kernel) (by decide +kernel)
theorem kw_1725 : (Cond.instanceMethod yX10_lies : Cond) ∈ LT := LT_of 1725 (by decide +kernel) (by decide +kernel)
theorem kw_1726 : (Cond.selects RX10 yX10_lies yX10_lies : Cond) ∈ LT := LT_of 1726 (by decide +kernel) (by decide +kernel)
theorem kw_1727 : (Cond.code yX10_lies cX10_lies 3 (some .int) : Cond) ∈ LT := LT_of 1727 (by decide +kernel) (by decide +kernel)
theorem kw_1728 : (Cond.methodLink RL 173 yX10_reader : Cond) ∈ LT := LT_of 1728 (by decide +kernel) (by decide +kernel)
theorem kw_1729 : (Cond.instanceMethod yX10_reader : Cond) ∈ LT := LT_of 1729 (by decide +kernel) (by decide +kernel)
theorem kw_1730 : (Cond.selects RX10 yX10_reader yX10_reader : Cond) ∈ LT := LT_of 1730 (by decide +kernel) (by decide +kernel)
theorem kw_1731 : (Cond.code yX10_reader cX10_reader 3 (some .int) : Cond) ∈ LT := LT_of 1731 (by decide +kernel) (by decide +kernel)
theorem kw_1732 : (Cond.methodLink RX10 401 yX10_isReader : Cond) ∈ LT := LT_of 1732 (by decide +kernel) (by decide +kernel)
theorem kw_1734 : (Cond.instanceMethod yX10_isReader : Cond) ∈ LT := LT_of 1734 (by decide +kernel) (by decide +kernel)
theorem kw_1735 : (Cond.code yX10_isReader cX10_isReader 3 (some .boolean) : Cond) ∈ LT := LT_of 1735 (by decide +kernel) (by decide +kernel)
theorem kw_1736 : (Cond.methodLink RL 176 yX10_grown : Cond) ∈ LT := LT_of 1736 (by decide +kernel) (by decide +kernel)
theorem kw_1737 : (Cond.instanceMethod yX10_grown : Cond) ∈ LT := LT_of 1737 (by decide +kernel) (by decide +kernel)
theorem kw_1738 : (Cond.selects RX10 yX10_grown yX10_grown : Cond) ∈ LT := LT_of 1738 (by decide +kernel) (by decide +kernel)
theorem kw_1739 : (Cond.code yX10_grown cX10_grown 2 (some .int) : Cond) ∈ LT := LT_of 1739 (by decide +kernel) (by decide +kernel)
theorem kw_1740 : (Cond.methodLink RL 179 yX10_runs : Cond) ∈ LT := LT_of 1740 (by decide +kernel) (by decide +kernel)
theorem kw_1741 : (Cond.instanceMethod yX10_runs : Cond) ∈ LT := LT_of 1741 (by decide +kernel) (by decide +kernel)
theorem kw_1742 : (Cond.selects RX10 yX10_runs yX10_runs : Cond) ∈ LT := LT_of 1742 (by decide +kernel) (by decide +kernel)
theorem kw_1743 : (Cond.code yX10_runs cX10_runs 3 (some .int) : Cond) ∈ LT := LT_of 1743 (by decide +kernel) (by decide +kernel)
theorem kw_1744 : (Cond.methodLink RL 183 yX10_would : Cond) ∈ LT := LT_of 1744 (by decide +kernel) (by decide +kernel)
theorem kw_1745 : (Cond.instanceMethod yX10_would : Cond) ∈ LT := LT_of 1745 (by decide +kernel) (by decide +kernel)
theorem kw_1746 : (Cond.selects RX10 yX10_would yX10_would : Cond) ∈ LT := LT_of 1746 (by decide +kernel) (by decide +kernel)
theorem kw_1747 : (Cond.code yX10_would cX10_would 8 (some .int) : Cond) ∈ LT := LT_of 1747 (by decide +kernel) (by decide +kernel)
theorem kw_1748 : (Cond.methodLink RL 186 yX10_ahead : Cond) ∈ LT := LT_of 1748 (by decide +kernel) (by decide +kernel)
theorem kw_1749 : (Cond.instanceMethod yX10_ahead : Cond) ∈ LT := LT_of 1749 (by decide +kernel) (by decide +kernel)
theorem kw_1750 : (Cond.selects RX10 yX10_ahead yX10_ahead : Cond) ∈ LT := LT_of 1750 (by decide +kernel) (by decide +kernel)
theorem kw_1751 : (Cond.code yX10_ahead cX10_ahead 4 (some .int) : Cond) ∈ LT := LT_of 1751 (by decide +kernel) (by decide +kernel)
theorem kw_1752 : (Cond.methodLink RL 190 yX10_rains : Cond) ∈ LT := LT_of 1752 (by decide +kernel) (by decide +kernel)
theorem kw_1753 : (Cond.instanceMethod yX10_rains : Cond) ∈ LT := LT_of 1753 (by decide +kernel) (by decide +kernel)
theorem kw_1754 : (Cond.selects RX10 yX10_rains yX10_rains : Cond) ∈ LT := LT_of 1754 (by decide +kernel) (by decide +kernel)
theorem kw_1755 : (Cond.code yX10_rains cX10_rains 5 (some .int) : Cond) ∈ LT := LT_of 1755 (by decide +kernel) (by decide +kernel)
theorem kw_1756 : (Cond.methodLink RL 194 yX10_stuff : Cond) ∈ LT := LT_of 1756 (by decide +kernel) (by decide +kernel)
theorem kw_1757 : (Cond.instanceMethod yX10_stuff : Cond) ∈ LT := LT_of 1757 (by decide +kernel) (by decide +kernel)
theorem kw_1758 : (Cond.selects RX10 yX10_stuff yX10_stuff : Cond) ∈ LT := LT_of 1758 (by decide +kernel) (by decide +kernel)
theorem kw_1759 : (Cond.code yX10_stuff cX10_stuff 1 (some .int) : Cond) ∈ LT := LT_of 1759 (by decide +kernel) (by decide +kernel)
theorem kw_1760 : (Cond.methodLink RX10 413 yX10_laysSeams : Cond) ∈ LT := LT_of 1760 (by decide +kernel) (by decide +kernel)
theorem kw_1762 : (Cond.instanceMethod yX10_laysSeams : Cond) ∈ LT := LT_of 1762 (by decide +kernel) (by decide +kernel)
theorem kw_1763 : (Cond.code yX10_laysSeams cX10_laysSeams 9 (some .int) : Cond) ∈ LT := LT_of 1763 (by decide +kernel) (by decide +kernel)
theorem kw_1764 : (Cond.methodLink RX10 404 yX10_someLeft : Cond) ∈ LT := LT_of 1764 (by decide +kernel) (by decide +kernel)
theorem kw_1766 : (Cond.instanceMethod yX10_someLeft : Cond) ∈ LT := LT_of 1766 (by decide +kernel) (by decide +kernel)
theorem kw_1767 : (Cond.code yX10_someLeft cX10_someLeft 3 (some .int) : Cond) ∈ LT := LT_of 1767 (by decide +kernel) (by decide +kernel)
theorem kw_1768 : (Cond.methodLink RX10 407 yX10_seamOf : Cond) ∈ LT := LT_of 1768 (by decide +kernel) (by decide +kernel)
theorem kw_1770 : (Cond.instanceMethod yX10_seamOf : Cond) ∈ LT := LT_of 1770 (by decide +kernel) (by decide +kernel)
theorem kw_1771 : (Cond.code yX10_seamOf cX10_seamOf 3 (some .int) : Cond) ∈ LT := LT_of 1771 (by decide +kernel) (by decide +kernel)
theorem kw_1772 : (Cond.methodLink RL 197 yX10_stuffed : Cond) ∈ LT := LT_of 1772 (by decide +kernel) (by decide +kernel)
theorem kw_1773 : (Cond.instanceMethod yX10_stuffed : Cond) ∈ LT := LT_of 1773 (by decide +kernel) (by decide +kernel)
theorem kw_1774 : (Cond.selects RX10 yX10_stuffed yX10_stuffed : Cond) ∈ LT := LT_of 1774 (by decide +kernel) (by decide +kernel)
theorem kw_1775 : (Cond.code yX10_stuffed cX10_stuffed 2 (some .int) : Cond) ∈ LT := LT_of 1775 (by decide +kernel) (by decide +kernel)
theorem kw_1776 : (Cond.methodLink RL 200 yX10_all : Cond) ∈ LT := LT_of 1776 (by decide +kernel) (by decide +kernel)
theorem kw_1777 : (Cond.instanceMethod yX10_all : Cond) ∈ LT := LT_of 1777 (by decide +kernel) (by decide +kernel)
theorem kw_1778 : (Cond.selects RX10 yX10_all yX10_all : Cond) ∈ LT := LT_of 1778 (by decide +kernel) (by decide +kernel)
theorem kw_1779 : (Cond.code yX10_all cX10_all 2 (some .int) : Cond) ∈ LT := LT_of 1779 (by decide +kernel) (by decide +kernel)
theorem kw_1780 : (Cond.constant RX10 419 (65535) : Cond) ∈ LT := LT_of 1780 (by decide +kernel) (by decide +kernel)
theorem kw_1781 : (Cond.methodLink RX10 420 yX10_bedsWith : Cond) ∈ LT := LT_of 1781 (by decide +kernel) (by decide +kernel)
theorem kw_1783 : (Cond.instanceMethod yX10_bedsWith : Cond) ∈ LT := LT_of 1783 (by decide +kernel) (by decide +kernel)
theorem kw_1784 : (Cond.code yX10_bedsWith cX10_bedsWith 7 (some .int) : Cond) ∈ LT := LT_of 1784 (by decide +kernel) (by decide +kernel)
theorem kw_1785 : (Cond.methodLink RX10 416 yX10_ones : Cond) ∈ LT := LT_of 1785 (by decide +kernel) (by decide +kernel)
theorem kw_1786 : (Cond.static yX10_ones : Cond) ∈ LT := LT_of 1786 (by decide +kernel) (by decide +kernel)
theorem kw_1787 : (Cond.code yX10_ones cX10_ones 3 (some .int) : Cond) ∈ LT := LT_of 1787 (by decide +kernel) (by decide +kernel)
theorem kw_1788 : (Cond.methodLink RL 203 yX10_tour : Cond) ∈ LT := LT_of 1788 (by decide +kernel) (by decide +kernel)
theorem kw_1789 : (Cond.instanceMethod yX10_tour : Cond) ∈ LT := LT_of 1789 (by decide +kernel) (by decide +kernel)
theorem kw_1790 : (Cond.selects RX10 yX10_tour yX10_tour : Cond) ∈ LT := LT_of 1790 (by decide +kernel) (by decide +kernel)
theorem kw_1791 : (Cond.code yX10_tour cX10_tour 4 (some .int) : Cond) ∈ LT := LT_of 1791 (by decide +kernel) (by decide +kernel)
theorem kw_1792 : (Cond.methodLink RL 206 yX10_fits : Cond) ∈ LT := LT_of 1792 (by decide +kernel) (by decide +kernel)
theorem kw_1793 : (Cond.instanceMethod yX10_fits : Cond) ∈ LT := LT_of 1793 (by decide +kernel) (by decide +kernel)
theorem kw_1794 : (Cond.selects RX10 yX10_fits yX10_fits : Cond) ∈ LT := LT_of 1794 (by decide +kernel) (by decide +kernel)
theorem kw_1795 : (Cond.code yX10_fits cX10_fits 5 (some .int) : Cond) ∈ LT := LT_of 1795 (by decide +kernel) (by decide +kernel)
theorem kw_1796 : (Cond.methodLink RX10 423 yX10_laysLasts : Cond) ∈ LT := LT_of 1796 (by decide +kernel) (by decide +kernel)
theorem kw_1798 : (Cond.instanceMethod yX10_laysLasts : Cond) ∈ LT := LT_of 1798 (by decide +kernel) (by decide +kernel)
theorem kw_1799 : (Cond.code yX10_laysLasts cX10_laysLasts 4 none : Cond) ∈ LT := LT_of 1799 (by decide +kernel) (by decide +kernel)
theorem kw_1800 : (Cond.methodLink RX10 426 yX10_isFit : Cond) ∈ LT := LT_of 1800 (by decide +kernel) (by decide +kernel)
theorem kw_1802 : (Cond.instanceMethod yX10_isFit : Cond) ∈ LT := LT_of 1802 (by decide +kernel) (by decide +kernel)
theorem kw_1803 : (Cond.code yX10_isFit cX10_isFit 4 (some .boolean) : Cond) ∈ LT := LT_of 1803 (by decide +kernel) (by decide +kernel)
theorem kw_1804 : (Cond.methodLink RL 209 yX10_look : Cond) ∈ LT := LT_of 1804 (by decide +kernel) (by decide +kernel)
theorem kw_1805 : (Cond.instanceMethod yX10_look : Cond) ∈ LT := LT_of 1805 (by decide +kernel) (by decide +kernel)
theorem kw_1806 : (Cond.selects RX10 yX10_look yX10_look : Cond) ∈ LT := LT_of 1806 (by decide +kernel) (by decide +kernel)
theorem kw_1807 : (Cond.code yX10_look cX10_look 6 (some .int) : Cond) ∈ LT := LT_of 1807 (by decide +kernel) (by decide +kernel)
theorem kw_1808 : (Cond.methodLink RX10 429 yX10_worstOf : Cond) ∈ LT := LT_of 1808 (by decide +kernel) (by decide +kernel)
theorem kw_1810 : (Cond.instanceMethod yX10_worstOf : Cond) ∈ LT := LT_of 1810 (by decide +kernel) (by decide +kernel)
theorem kw_1811 : (Cond.code yX10_worstOf cX10_worstOf 5 (some .int) : Cond) ∈ LT := LT_of 1811 (by decide +kernel) (by decide +kernel)
theorem kw_1812 : (Cond.methodLink RL 213 yX10_pods : Cond) ∈ LT := LT_of 1812 (by decide +kernel) (by decide +kernel)
theorem kw_1813 : (Cond.instanceMethod yX10_pods : Cond) ∈ LT := LT_of 1813 (by decide +kernel) (by decide +kernel)
theorem kw_1814 : (Cond.selects RX10 yX10_pods yX10_pods : Cond) ∈ LT := LT_of 1814 (by decide +kernel) (by decide +kernel)
theorem kw_1815 : (Cond.code yX10_pods cX10_pods 10 (some .long) : Cond) ∈ LT := LT_of 1815 (by decide +kernel) (by decide +kernel)
theorem kw_1816 : (Cond.constantLong RX10 432 (16) : Cond) ∈ LT := LT_of 1816 (by decide +kernel) (by decide +kernel)
theorem kw_1817 : (Cond.methodLink RX10 434 yX10_least : Cond) ∈ LT := LT_of 1817 (by decide +kernel) (by decide +kernel)
theorem kw_1818 : (Cond.static yX10_least : Cond) ∈ LT := LT_of 1818 (by decide +kernel) (by decide +kernel)
theorem kw_1819 : (Cond.code yX10_least cX10_least 11 (some .long) : Cond) ∈ LT := LT_of 1819 (by decide +kernel) (by decide +kernel)
theorem kw_1820 : (Cond.methodLink RL 216 yX10_she : Cond) ∈ LT := LT_of 1820 (by decide +kernel) (by decide +kernel)
theorem kw_1821 : (Cond.instanceMethod yX10_she : Cond) ∈ LT := LT_of 1821 (by decide +kernel) (by decide +kernel)
theorem kw_1822 : (Cond.selects RX10 yX10_she yX10_she : Cond) ∈ LT := LT_of 1822 (by decide +kernel) (by decide +kernel)
theorem kw_1823 : (Cond.code yX10_she cX10_she 9 (some .int) : Cond) ∈ LT := LT_of 1823 (by decide +kernel) (by decide +kernel)
theorem kw_1824 : (Cond.methodLink RX10 437 yX10_hasBy : Cond) ∈ LT := LT_of 1824 (by decide +kernel) (by decide +kernel)
theorem kw_1825 : (Cond.static yX10_hasBy : Cond) ∈ LT := LT_of 1825 (by decide +kernel) (by decide +kernel)
theorem kw_1826 : (Cond.code yX10_hasBy cX10_hasBy 4 (some .int) : Cond) ∈ LT := LT_of 1826 (by decide +kernel) (by decide +kernel)
theorem kw_1827 : (Cond.methodLink RL 219 yX10_seed : Cond) ∈ LT := LT_of 1827 (by decide +kernel) (by decide +kernel)
theorem kw_1828 : (Cond.instanceMethod yX10_seed : Cond) ∈ LT := LT_of 1828 (by decide +kernel) (by decide +kernel)
theorem kw_1829 : (Cond.selects RX10 yX10_seed yX10_seed : Cond) ∈ LT := LT_of 1829 (by decide +kernel) (by decide +kernel)
theorem kw_1830 : (Cond.code yX10_seed cX10_seed 5 (some .int) : Cond) ∈ LT := LT_of 1830 (by decide +kernel) (by decide +kernel)
theorem kw_1831 : (Cond.methodLink RX10 441 yX10_seedBy : Cond) ∈ LT := LT_of 1831 (by decide +kernel) (by decide +kernel)
theorem kw_1833 : (Cond.instanceMethod yX10_seedBy : Cond) ∈ LT := LT_of 1833 (by decide +kernel) (by decide +kernel)
theorem kw_1834 : (Cond.code yX10_seedBy cX10_seedBy 5 (some .int) : Cond) ∈ LT := LT_of 1834 (by decide +kernel) (by decide +kernel)
theorem kw_1835 : (Cond.methodLink RL 222 yX10_often : Cond) ∈ LT := LT_of 1835 (by decide +kernel) (by decide +kernel)
theorem kw_1836 : (Cond.instanceMethod yX10_often : Cond) ∈ LT := LT_of 1836 (by decide +kernel) (by decide +kernel)
theorem kw_1837 : (Cond.selects RX10 yX10_often yX10_often : Cond) ∈ LT := LT_of 1837 (by decide +kernel) (by decide +kernel)
theorem kw_1838 : (Cond.code yX10_often cX10_often 4 (some .int) : Cond) ∈ LT := LT_of 1838 (by decide +kernel) (by decide +kernel)
theorem kw_1839 : (Cond.methodLink RX10 444 yX10_oftenOf : Cond) ∈ LT := LT_of 1839 (by decide +kernel) (by decide +kernel)
theorem kw_1841 : (Cond.instanceMethod yX10_oftenOf : Cond) ∈ LT := LT_of 1841 (by decide +kernel) (by decide +kernel)
theorem kw_1842 : (Cond.code yX10_oftenOf cX10_oftenOf 5 (some .int) : Cond) ∈ LT := LT_of 1842 (by decide +kernel) (by decide +kernel)
theorem kw_1843 : (Cond.methodLink RL 225 yX10_hearers : Cond) ∈ LT := LT_of 1843 (by decide +kernel) (by decide +kernel)
theorem kw_1844 : (Cond.instanceMethod yX10_hearers : Cond) ∈ LT := LT_of 1844 (by decide +kernel) (by decide +kernel)
theorem kw_1845 : (Cond.selects RX10 yX10_hearers yX10_hearers : Cond) ∈ LT := LT_of 1845 (by decide +kernel) (by decide +kernel)
theorem kw_1846 : (Cond.code yX10_hearers cX10_hearers 4 (some .int) : Cond) ∈ LT := LT_of 1846 (by decide +kernel) (by decide +kernel)
theorem kw_1847 : (Cond.methodLink RL 228 yX10_news : Cond) ∈ LT := LT_of 1847 (by decide +kernel) (by decide +kernel)
theorem kw_1848 : (Cond.instanceMethod yX10_news : Cond) ∈ LT := LT_of 1848 (by decide +kernel) (by decide +kernel)
theorem kw_1849 : (Cond.selects RX10 yX10_news yX10_news : Cond) ∈ LT := LT_of 1849 (by decide +kernel) (by decide +kernel)
theorem kw_1850 : (Cond.code yX10_news cX10_news 3 (some .int) : Cond) ∈ LT := LT_of 1850 (by decide +kernel) (by decide +kernel)
theorem kw_1851 : (Cond.methodLink RL 231 yX10_full : Cond) ∈ LT := LT_of 1851 (by decide +kernel) (by decide +kernel)
theorem kw_1852 : (Cond.instanceMethod yX10_full : Cond) ∈ LT := LT_of 1852 (by decide +kernel) (by decide +kernel)
theorem kw_1853 : (Cond.selects RX10 yX10_full yX10_full : Cond) ∈ LT := LT_of 1853 (by decide +kernel) (by decide +kernel)
theorem kw_1854 : (Cond.code yX10_full cX10_full 4 (some .int) : Cond) ∈ LT := LT_of 1854 (by decide +kernel) (by decide +kernel)
theorem kw_1855 : (Cond.methodLink RL 234 yX10_drains : Cond) ∈ LT := LT_of 1855 (by decide +kernel) (by decide +kernel)
theorem kw_1856 : (Cond.instanceMethod yX10_drains : Cond) ∈ LT := LT_of 1856 (by decide +kernel) (by decide +kernel)
theorem kw_1857 : (Cond.selects RX10 yX10_drains yX10_drains : Cond) ∈ LT := LT_of 1857 (by decide +kernel) (by decide +kernel)
theorem kw_1858 : (Cond.code yX10_drains cX10_drains 4 (some .int) : Cond) ∈ LT := LT_of 1858 (by decide +kernel) (by decide +kernel)
theorem kw_1859 : (Cond.methodLink RL 237 yX10_unread : Cond) ∈ LT := LT_of 1859 (by decide +kernel) (by decide +kernel)
theorem kw_1860 : (Cond.instanceMethod yX10_unread : Cond) ∈ LT := LT_of 1860 (by decide +kernel) (by decide +kernel)
theorem kw_1861 : (Cond.selects RX10 yX10_unread yX10_unread : Cond) ∈ LT := LT_of 1861 (by decide +kernel) (by decide +kernel)
theorem kw_1862 : (Cond.code yX10_unread cX10_unread 2 (some .int) : Cond) ∈ LT := LT_of 1862 (by decide +kernel) (by decide +kernel)
theorem kw_1863 : (Cond.methodLink RL 240 yX10_coming : Cond) ∈ LT := LT_of 1863 (by decide +kernel) (by decide +kernel)
theorem kw_1864 : (Cond.instanceMethod yX10_coming : Cond) ∈ LT := LT_of 1864 (by decide +kernel) (by decide +kernel)
theorem kw_1865 : (Cond.selects RX10 yX10_coming yX10_coming : Cond) ∈ LT := LT_of 1865 (by decide +kernel) (by decide +kernel)
theorem kw_1866 : (Cond.code yX10_coming cX10_coming 5 (some .int) : Cond) ∈ LT := LT_of 1866 (by decide +kernel) (by decide +kernel)
theorem kw_1867 : (Cond.methodLink RL 243 yX10_shared : Cond) ∈ LT := LT_of 1867 (by decide +kernel) (by decide +kernel)
theorem kw_1868 : (Cond.instanceMethod yX10_shared : Cond) ∈ LT := LT_of 1868 (by decide +kernel) (by decide +kernel)
theorem kw_1869 : (Cond.selects RX10 yX10_shared yX10_shared : Cond) ∈ LT := LT_of 1869 (by decide +kernel) (by decide +kernel)
theorem kw_1870 : (Cond.code yX10_shared cX10_shared 3 (some .int) : Cond) ∈ LT := LT_of 1870 (by decide +kernel) (by decide +kernel)
theorem kw_1871 : (Cond.methodLink RL 246 yX10_summer : Cond) ∈ LT := LT_of 1871 (by decide +kernel) (by decide +kernel)
theorem kw_1872 : (Cond.instanceMethod yX10_summer : Cond) ∈ LT := LT_of 1872 (by decide +kernel) (by decide +kernel)
theorem kw_1873 : (Cond.selects RX10 yX10_summer yX10_summer : Cond) ∈ LT := LT_of 1873 (by decide +kernel) (by decide +kernel)
theorem kw_1874 : (Cond.code yX10_summer cX10_summer 5 (some .int) : Cond) ∈ LT := LT_of 1874 (by decide +kernel) (by decide +kernel)
theorem kw_1875 : (Cond.methodLink RX10 454 yX10_isSummer : Cond) ∈ LT := LT_of 1875 (by decide +kernel) (by decide +kernel)
theorem kw_1876 : (Cond.static yX10_isSummer : Cond) ∈ LT := LT_of 1876 (by decide +kernel) (by decide +kernel)
theorem kw_1877 : (Cond.code yX10_isSummer cX10_isSummer 2 (some .boolean) : Cond) ∈ LT := LT_of 1877 (by decide +kernel) (by decide +kernel)
theorem kw_1878 : (Cond.methodLink RX10 457 yX10_summerGoes : Cond) ∈ LT := LT_of 1878 (by decide +kernel) (by decide +kernel)
theorem kw_1880 : (Cond.instanceMethod yX10_summerGoes : Cond) ∈ LT := LT_of 1880 (by decide +kernel) (by decide +kernel)
theorem kw_1881 : (Cond.code yX10_summerGoes cX10_summerGoes 6 none : Cond) ∈ LT := LT_of 1881 (by decide +kernel) (by decide +kernel)
theorem kw_1882 : (Cond.methodLink RX10 451 yX10_draws : Cond) ∈ LT := LT_of 1882 (by decide +kernel) (by decide +kernel)
theorem kw_1884 : (Cond.instanceMethod yX10_draws : Cond) ∈ LT := LT_of 1884 (by decide +kernel) (by decide +kernel)
theorem kw_1885 : (Cond.code yX10_draws cX10_draws 2 (some .int) : Cond) ∈ LT := LT_of 1885 (by decide +kernel) (by decide +kernel)
theorem kw_1886 : (Cond.constant RX10 450 (1103515245) : Cond) ∈ LT := LT_of 1886 (by decide +kernel) (by decide +kernel)
theorem kw_1887 : (Cond.methodLink RX10 460 yX10_heardAny : Cond) ∈ LT := LT_of 1887 (by decide +kernel) (by decide +kernel)
theorem kw_1889 : (Cond.instanceMethod yX10_heardAny : Cond) ∈ LT := LT_of 1889 (by decide +kernel) (by decide +kernel)
theorem kw_1890 : (Cond.code yX10_heardAny cX10_heardAny 3 (some .int) : Cond) ∈ LT := LT_of 1890 (by decide +kernel) (by decide +kernel)
theorem kw_1891 : (Cond.methodLink RL 250 yX10_span : Cond) ∈ LT := LT_of 1891 (by decide +kernel) (by decide +kernel)
theorem kw_1892 : (Cond.instanceMethod yX10_span : Cond) ∈ LT := LT_of 1892 (by decide +kernel) (by decide +kernel)
theorem kw_1893 : (Cond.selects RX10 yX10_span yX10_span : Cond) ∈ LT := LT_of 1893 (by decide +kernel) (by decide +kernel)
theorem kw_1894 : (Cond.code yX10_span cX10_span 12 (some .int) : Cond) ∈ LT := LT_of 1894 (by decide +kernel) (by decide +kernel)
theorem kw_1895 : (Cond.methodLink RL 254 yX10_image : Cond) ∈ LT := LT_of 1895 (by decide +kernel) (by decide +kernel)
theorem kw_1896 : (Cond.instanceMethod yX10_image : Cond) ∈ LT := LT_of 1896 (by decide +kernel) (by decide +kernel)
theorem kw_1897 : (Cond.selects RX10 yX10_image yX10_image : Cond) ∈ LT := LT_of 1897 (by decide +kernel) (by decide +kernel)
theorem kw_1898 : (Cond.code yX10_image cX10_image 1 (some .int) : Cond) ∈ LT := LT_of 1898 (by decide +kernel) (by decide +kernel)
theorem kw_1899 : (Cond.methodLink RX10 467 yX10_keepsAll : Cond) ∈ LT := LT_of 1899 (by decide +kernel) (by decide +kernel)
theorem kw_1901 : (Cond.instanceMethod yX10_keepsAll : Cond) ∈ LT := LT_of 1901 (by decide +kernel) (by decide +kernel)
theorem kw_1902 : (Cond.code yX10_keepsAll cX10_keepsAll 4 none : Cond) ∈ LT := LT_of 1902 (by decide +kernel) (by decide +kernel)
theorem kw_1903 : (Cond.methodLink RX10 463 yX10_keepsRow : Cond) ∈ LT := LT_of 1903 (by decide +kernel) (by decide +kernel)
theorem kw_1905 : (Cond.instanceMethod yX10_keepsRow : Cond) ∈ LT := LT_of 1905 (by decide +kernel) (by decide +kernel)
theorem kw_1906 : (Cond.code yX10_keepsRow cX10_keepsRow 6 (some .int) : Cond) ∈ LT := LT_of 1906 (by decide +kernel) (by decide +kernel)
theorem kw_1907 : (Cond.methodLink RL 258 yX10_restore : Cond) ∈ LT := LT_of 1907 (by decide +kernel) (by decide +kernel)
theorem kw_1908 : (Cond.instanceMethod yX10_restore : Cond) ∈ LT := LT_of 1908 (by decide +kernel) (by decide +kernel)
theorem kw_1909 : (Cond.selects RX10 yX10_restore yX10_restore : Cond) ∈ LT := LT_of 1909 (by decide +kernel) (by decide +kernel)
theorem kw_1910 : (Cond.code yX10_restore cX10_restore 1 (some .int) : Cond) ∈ LT := LT_of 1910 (by decide +kernel) (by decide +kernel)
theorem kw_1911 : (Cond.methodLink RL 262 yX10_status : Cond) ∈ LT := LT_of 1911 (by decide +kernel) (by decide +kernel)
theorem kw_1912 : (Cond.instanceMethod yX10_status : Cond) ∈ LT := LT_of 1912 (by decide +kernel) (by decide +kernel)
theorem kw_1913 : (Cond.selects RX10 yX10_status yX10_status : Cond) ∈ LT := LT_of 1913 (by decide +kernel) (by decide +kernel)
theorem kw_1914 : (Cond.code yX10_status cX10_status 2 (some .int) : Cond) ∈ LT := LT_of 1914 (by decide +kernel) (by decide +kernel)
theorem kw_1915 : (Cond.methodLink RL 266 yX10_count : Cond) ∈ LT := LT_of 1915 (by decide +kernel) (by decide +kernel)
theorem kw_1916 : (Cond.instanceMethod yX10_count : Cond) ∈ LT := LT_of 1916 (by decide +kernel) (by decide +kernel)
theorem kw_1917 : (Cond.selects RX10 yX10_count yX10_count : Cond) ∈ LT := LT_of 1917 (by decide +kernel) (by decide +kernel)
theorem kw_1918 : (Cond.code yX10_count cX10_count 2 (some .int) : Cond) ∈ LT := LT_of 1918 (by decide +kernel) (by decide +kernel)
theorem kw_1935 : (Cond.fieldLink RJ0 9 "java/lang/String" "value" "[B" : Cond) ∈ LT := LT_of 1935 (by decide +kernel) (by decide +kernel)
theorem kw_1936 : (Cond.fieldLink RJ0 15 "java/lang/String" "coder" "B" : Cond) ∈ LT := LT_of 1936 (by decide +kernel) (by decide +kernel)
theorem ci_m1 : Int32.ofInt (-1) = -1 := by decide
theorem ci_0 : Int32.ofInt (0) = 0 := by decide
theorem ci_1 : Int32.ofInt (1) = 1 := by decide
theorem ci_2 : Int32.ofInt (2) = 2 := by decide
theorem ci_3 : Int32.ofInt (3) = 3 := by decide
theorem ci_4 : Int32.ofInt (4) = 4 := by decide
theorem ci_5 : Int32.ofInt (5) = 5 := by decide
theorem cb_m20 : (Int8.ofInt (-20)).toInt32 = -20 := by decide
theorem cb_m14 : (Int8.ofInt (-14)).toInt32 = -14 := by decide
theorem cb_m13 : (Int8.ofInt (-13)).toInt32 = -13 := by decide
theorem cb_m12 : (Int8.ofInt (-12)).toInt32 = -12 := by decide
theorem cb_m11 : (Int8.ofInt (-11)).toInt32 = -11 := by decide
theorem cb_m10 : (Int8.ofInt (-10)).toInt32 = -10 := by decide
theorem cb_m9 : (Int8.ofInt (-9)).toInt32 = -9 := by decide
theorem cb_m8 : (Int8.ofInt (-8)).toInt32 = -8 := by decide
theorem cb_m7 : (Int8.ofInt (-7)).toInt32 = -7 := by decide
theorem cb_m6 : (Int8.ofInt (-6)).toInt32 = -6 := by decide
theorem cb_m5 : (Int8.ofInt (-5)).toInt32 = -5 := by decide
theorem cb_m4 : (Int8.ofInt (-4)).toInt32 = -4 := by decide
theorem cb_m3 : (Int8.ofInt (-3)).toInt32 = -3 := by decide
theorem cb_m2 : (Int8.ofInt (-2)).toInt32 = -2 := by decide
theorem cb_6 : (Int8.ofInt (6)).toInt32 = 6 := by decide
theorem cb_7 : (Int8.ofInt (7)).toInt32 = 7 := by decide
theorem cb_8 : (Int8.ofInt (8)).toInt32 = 8 := by decide
theorem cb_9 : (Int8.ofInt (9)).toInt32 = 9 := by decide
theorem cb_10 : (Int8.ofInt (10)).toInt32 = 10 := by decide
theorem cb_11 : (Int8.ofInt (11)).toInt32 = 11 := by decide
theorem cb_12 : (Int8.ofInt (12)).toInt32 = 12 := by decide
theorem cb_13 : (Int8.ofInt (13)).toInt32 = 13 := by decide
theorem cb_14 : (Int8.ofInt (14)).toInt32 = 14 := by decide
theorem cb_15 : (Int8.ofInt (15)).toInt32 = 15 := by decide
theorem cb_16 : (Int8.ofInt (16)).toInt32 = 16 := by decide
theorem cb_17 : (Int8.ofInt (17)).toInt32 = 17 := by decide
theorem cb_20 : (Int8.ofInt (20)).toInt32 = 20 := by decide
theorem cb_24 : (Int8.ofInt (24)).toInt32 = 24 := by decide
theorem cb_30 : (Int8.ofInt (30)).toInt32 = 30 := by decide
theorem cb_32 : (Int8.ofInt (32)).toInt32 = 32 := by decide
theorem cb_36 : (Int8.ofInt (36)).toInt32 = 36 := by decide
theorem cb_37 : (Int8.ofInt (37)).toInt32 = 37 := by decide
theorem cb_40 : (Int8.ofInt (40)).toInt32 = 40 := by decide
theorem cb_41 : (Int8.ofInt (41)).toInt32 = 41 := by decide
theorem cb_42 : (Int8.ofInt (42)).toInt32 = 42 := by decide
theorem cb_43 : (Int8.ofInt (43)).toInt32 = 43 := by decide
theorem cb_44 : (Int8.ofInt (44)).toInt32 = 44 := by decide
theorem cb_45 : (Int8.ofInt (45)).toInt32 = 45 := by decide
theorem cb_47 : (Int8.ofInt (47)).toInt32 = 47 := by decide
theorem cb_48 : (Int8.ofInt (48)).toInt32 = 48 := by decide
theorem cb_57 : (Int8.ofInt (57)).toInt32 = 57 := by decide
theorem cb_59 : (Int8.ofInt (59)).toInt32 = 59 := by decide
theorem cb_60 : (Int8.ofInt (60)).toInt32 = 60 := by decide
theorem cb_63 : (Int8.ofInt (63)).toInt32 = 63 := by decide
theorem cb_72 : (Int8.ofInt (72)).toInt32 = 72 := by decide
theorem cb_84 : (Int8.ofInt (84)).toInt32 = 84 := by decide
theorem cb_90 : (Int8.ofInt (90)).toInt32 = 90 := by decide
theorem cb_91 : (Int8.ofInt (91)).toInt32 = 91 := by decide
theorem cb_93 : (Int8.ofInt (93)).toInt32 = 93 := by decide
theorem cb_95 : (Int8.ofInt (95)).toInt32 = 95 := by decide
theorem cb_96 : (Int8.ofInt (96)).toInt32 = 96 := by decide
theorem cb_97 : (Int8.ofInt (97)).toInt32 = 97 := by decide
theorem cb_99 : (Int8.ofInt (99)).toInt32 = 99 := by decide
theorem cb_100 : (Int8.ofInt (100)).toInt32 = 100 := by decide
theorem cb_122 : (Int8.ofInt (122)).toInt32 = 122 := by decide
theorem cs_150 : (Int16.ofInt (150)).toInt32 = 150 := by decide
theorem cs_160 : (Int16.ofInt (160)).toInt32 = 160 := by decide
theorem cs_161 : (Int16.ofInt (161)).toInt32 = 161 := by decide
theorem cs_162 : (Int16.ofInt (162)).toInt32 = 162 := by decide
theorem cs_163 : (Int16.ofInt (163)).toInt32 = 163 := by decide
theorem cs_164 : (Int16.ofInt (164)).toInt32 = 164 := by decide
theorem cs_165 : (Int16.ofInt (165)).toInt32 = 165 := by decide
theorem cs_200 : (Int16.ofInt (200)).toInt32 = 200 := by decide
theorem cs_255 : (Int16.ofInt (255)).toInt32 = 255 := by decide
theorem cs_324 : (Int16.ofInt (324)).toInt32 = 324 := by decide
theorem cs_384 : (Int16.ofInt (384)).toInt32 = 384 := by decide
theorem cs_400 : (Int16.ofInt (400)).toInt32 = 400 := by decide
theorem cs_600 : (Int16.ofInt (600)).toInt32 = 600 := by decide
theorem cs_999 : (Int16.ofInt (999)).toInt32 = 999 := by decide
theorem cs_1000 : (Int16.ofInt (1000)).toInt32 = 1000 := by decide
theorem cs_2640 : (Int16.ofInt (2640)).toInt32 = 2640 := by decide
theorem cs_2806 : (Int16.ofInt (2806)).toInt32 = 2806 := by decide
theorem cs_8418 : (Int16.ofInt (8418)).toInt32 = 8418 := by decide
theorem cs_9999 : (Int16.ofInt (9999)).toInt32 = 9999 := by decide
theorem cs_10000 : (Int16.ofInt (10000)).toInt32 = 10000 := by decide
theorem cs_12345 : (Int16.ofInt (12345)).toInt32 = 12345 := by decide
theorem cs_32767 : (Int16.ofInt (32767)).toInt32 = 32767 := by decide
theorem ii_m8 (x : Int32) : x + Int32.ofInt (-8) = x + (-8) := congrArg (x + ·) (by decide)
theorem ii_m1 (x : Int32) : x + Int32.ofInt (-1) = x + (-1) := congrArg (x + ·) (by decide)
theorem ii_1 (x : Int32) : x + Int32.ofInt (1) = x + 1 := congrArg (x + ·) (by decide)
theorem ii_3 (x : Int32) : x + Int32.ofInt (3) = x + 3 := congrArg (x + ·) (by decide)
theorem ii_8 (x : Int32) : x + Int32.ofInt (8) = x + 8 := congrArg (x + ·) (by decide)
theorem hy_J0_charAt_5068e : yJ0_charAt_5068e.cls = RJ0 ∧ yJ0_charAt_5068e.cls ≠ "java/lang/invoke/MethodHandle" ∧ yJ0_charAt_5068e.cls ≠ "java/lang/invoke/VarHandle" ∧ (parseMethodDescriptor yJ0_charAt_5068e.desc).map (fun d => d.parameters.length) = some 1 := by decide +kernel
theorem hn_J0_charAt_5068e : yJ0_charAt_5068e.cls ≠ "java/lang/invoke/MethodHandle" ∧ yJ0_charAt_5068e.cls ≠ "java/lang/invoke/VarHandle" ∧ (parseMethodDescriptor yJ0_charAt_5068e.desc).map (fun d => d.parameters.length) = some 1 := by decide +kernel
theorem hy_J0_checkIndex_df160 : yJ0_checkIndex_df160.cls = RJ0 ∧ yJ0_checkIndex_df160.cls ≠ "java/lang/invoke/MethodHandle" ∧ yJ0_checkIndex_df160.cls ≠ "java/lang/invoke/VarHandle" ∧ (parseMethodDescriptor yJ0_checkIndex_df160.desc).map (fun d => d.parameters.length) = some 2 := by decide +kernel
theorem hn_J0_checkIndex_df160 : yJ0_checkIndex_df160.cls ≠ "java/lang/invoke/MethodHandle" ∧ yJ0_checkIndex_df160.cls ≠ "java/lang/invoke/VarHandle" ∧ (parseMethodDescriptor yJ0_checkIndex_df160.desc).map (fun d => d.parameters.length) = some 2 := by decide +kernel
theorem hy_J0_coder_7d493 : yJ0_coder_7d493.cls = RJ0 ∧ yJ0_coder_7d493.cls ≠ "java/lang/invoke/MethodHandle" ∧ yJ0_coder_7d493.cls ≠ "java/lang/invoke/VarHandle" ∧ (parseMethodDescriptor yJ0_coder_7d493.desc).map (fun d => d.parameters.length) = some 0 := by decide +kernel
theorem hn_J0_coder_7d493 : yJ0_coder_7d493.cls ≠ "java/lang/invoke/MethodHandle" ∧ yJ0_coder_7d493.cls ≠ "java/lang/invoke/VarHandle" ∧ (parseMethodDescriptor yJ0_coder_7d493.desc).map (fun d => d.parameters.length) = some 0 := by decide +kernel
theorem hy_J0_isLatin1_aae02 : yJ0_isLatin1_aae02.cls = RJ0 ∧ yJ0_isLatin1_aae02.cls ≠ "java/lang/invoke/MethodHandle" ∧ yJ0_isLatin1_aae02.cls ≠ "java/lang/invoke/VarHandle" ∧ (parseMethodDescriptor yJ0_isLatin1_aae02.desc).map (fun d => d.parameters.length) = some 0 := by decide +kernel
theorem hn_J0_isLatin1_aae02 : yJ0_isLatin1_aae02.cls ≠ "java/lang/invoke/MethodHandle" ∧ yJ0_isLatin1_aae02.cls ≠ "java/lang/invoke/VarHandle" ∧ (parseMethodDescriptor yJ0_isLatin1_aae02.desc).map (fun d => d.parameters.length) = some 0 := by decide +kernel
theorem hy_J0_length_8abf5 : yJ0_length_8abf5.cls = RJ0 ∧ yJ0_length_8abf5.cls ≠ "java/lang/invoke/MethodHandle" ∧ yJ0_length_8abf5.cls ≠ "java/lang/invoke/VarHandle" ∧ (parseMethodDescriptor yJ0_length_8abf5.desc).map (fun d => d.parameters.length) = some 0 := by decide +kernel
theorem hn_J0_length_8abf5 : yJ0_length_8abf5.cls ≠ "java/lang/invoke/MethodHandle" ∧ yJ0_length_8abf5.cls ≠ "java/lang/invoke/VarHandle" ∧ (parseMethodDescriptor yJ0_length_8abf5.desc).map (fun d => d.parameters.length) = some 0 := by decide +kernel
theorem hy_J1_charAt_3b067 : yJ1_charAt_3b067.cls = RJ1 ∧ yJ1_charAt_3b067.cls ≠ "java/lang/invoke/MethodHandle" ∧ yJ1_charAt_3b067.cls ≠ "java/lang/invoke/VarHandle" ∧ (parseMethodDescriptor yJ1_charAt_3b067.desc).map (fun d => d.parameters.length) = some 2 := by decide +kernel
theorem hn_J1_charAt_3b067 : yJ1_charAt_3b067.cls ≠ "java/lang/invoke/MethodHandle" ∧ yJ1_charAt_3b067.cls ≠ "java/lang/invoke/VarHandle" ∧ (parseMethodDescriptor yJ1_charAt_3b067.desc).map (fun d => d.parameters.length) = some 2 := by decide +kernel
theorem hy_J2_charAt_3b067 : yJ2_charAt_3b067.cls = RJ2 ∧ yJ2_charAt_3b067.cls ≠ "java/lang/invoke/MethodHandle" ∧ yJ2_charAt_3b067.cls ≠ "java/lang/invoke/VarHandle" ∧ (parseMethodDescriptor yJ2_charAt_3b067.desc).map (fun d => d.parameters.length) = some 2 := by decide +kernel
theorem hn_J2_charAt_3b067 : yJ2_charAt_3b067.cls ≠ "java/lang/invoke/MethodHandle" ∧ yJ2_charAt_3b067.cls ≠ "java/lang/invoke/VarHandle" ∧ (parseMethodDescriptor yJ2_charAt_3b067.desc).map (fun d => d.parameters.length) = some 2 := by decide +kernel
theorem hy_J2_checkIndex_2214a : yJ2_checkIndex_2214a.cls = RJ2 ∧ yJ2_checkIndex_2214a.cls ≠ "java/lang/invoke/MethodHandle" ∧ yJ2_checkIndex_2214a.cls ≠ "java/lang/invoke/VarHandle" ∧ (parseMethodDescriptor yJ2_checkIndex_2214a.desc).map (fun d => d.parameters.length) = some 2 := by decide +kernel
theorem hn_J2_checkIndex_2214a : yJ2_checkIndex_2214a.cls ≠ "java/lang/invoke/MethodHandle" ∧ yJ2_checkIndex_2214a.cls ≠ "java/lang/invoke/VarHandle" ∧ (parseMethodDescriptor yJ2_checkIndex_2214a.desc).map (fun d => d.parameters.length) = some 2 := by decide +kernel
theorem hy_J2_getChar_3b067 : yJ2_getChar_3b067.cls = RJ2 ∧ yJ2_getChar_3b067.cls ≠ "java/lang/invoke/MethodHandle" ∧ yJ2_getChar_3b067.cls ≠ "java/lang/invoke/VarHandle" ∧ (parseMethodDescriptor yJ2_getChar_3b067.desc).map (fun d => d.parameters.length) = some 2 := by decide +kernel
theorem hn_J2_getChar_3b067 : yJ2_getChar_3b067.cls ≠ "java/lang/invoke/MethodHandle" ∧ yJ2_getChar_3b067.cls ≠ "java/lang/invoke/VarHandle" ∧ (parseMethodDescriptor yJ2_getChar_3b067.desc).map (fun d => d.parameters.length) = some 2 := by decide +kernel
theorem hy_J2_length_9d52b : yJ2_length_9d52b.cls = RJ2 ∧ yJ2_length_9d52b.cls ≠ "java/lang/invoke/MethodHandle" ∧ yJ2_length_9d52b.cls ≠ "java/lang/invoke/VarHandle" ∧ (parseMethodDescriptor yJ2_length_9d52b.desc).map (fun d => d.parameters.length) = some 1 := by decide +kernel
theorem hn_J2_length_9d52b : yJ2_length_9d52b.cls ≠ "java/lang/invoke/MethodHandle" ∧ yJ2_length_9d52b.cls ≠ "java/lang/invoke/VarHandle" ∧ (parseMethodDescriptor yJ2_length_9d52b.desc).map (fun d => d.parameters.length) = some 1 := by decide +kernel
theorem hy_J3_checkIndex_8e157 : yJ3_checkIndex_8e157.cls = RJ3 ∧ yJ3_checkIndex_8e157.cls ≠ "java/lang/invoke/MethodHandle" ∧ yJ3_checkIndex_8e157.cls ≠ "java/lang/invoke/VarHandle" ∧ (parseMethodDescriptor yJ3_checkIndex_8e157.desc).map (fun d => d.parameters.length) = some 3 := by decide +kernel
theorem hn_J3_checkIndex_8e157 : yJ3_checkIndex_8e157.cls ≠ "java/lang/invoke/MethodHandle" ∧ yJ3_checkIndex_8e157.cls ≠ "java/lang/invoke/VarHandle" ∧ (parseMethodDescriptor yJ3_checkIndex_8e157.desc).map (fun d => d.parameters.length) = some 3 := by decide +kernel
theorem hy_J6_bitCount_0f7a4 : yJ6_bitCount_0f7a4.cls = RJ6 ∧ yJ6_bitCount_0f7a4.cls ≠ "java/lang/invoke/MethodHandle" ∧ yJ6_bitCount_0f7a4.cls ≠ "java/lang/invoke/VarHandle" ∧ (parseMethodDescriptor yJ6_bitCount_0f7a4.desc).map (fun d => d.parameters.length) = some 1 := by decide +kernel
theorem hn_J6_bitCount_0f7a4 : yJ6_bitCount_0f7a4.cls ≠ "java/lang/invoke/MethodHandle" ∧ yJ6_bitCount_0f7a4.cls ≠ "java/lang/invoke/VarHandle" ∧ (parseMethodDescriptor yJ6_bitCount_0f7a4.desc).map (fun d => d.parameters.length) = some 1 := by decide +kernel
theorem hy_J9_max_7cf53 : yJ9_max_7cf53.cls = RJ9 ∧ yJ9_max_7cf53.cls ≠ "java/lang/invoke/MethodHandle" ∧ yJ9_max_7cf53.cls ≠ "java/lang/invoke/VarHandle" ∧ (parseMethodDescriptor yJ9_max_7cf53.desc).map (fun d => d.parameters.length) = some 2 := by decide +kernel
theorem hn_J9_max_7cf53 : yJ9_max_7cf53.cls ≠ "java/lang/invoke/MethodHandle" ∧ yJ9_max_7cf53.cls ≠ "java/lang/invoke/VarHandle" ∧ (parseMethodDescriptor yJ9_max_7cf53.desc).map (fun d => d.parameters.length) = some 2 := by decide +kernel
theorem hy_J9_min_7cf53 : yJ9_min_7cf53.cls = RJ9 ∧ yJ9_min_7cf53.cls ≠ "java/lang/invoke/MethodHandle" ∧ yJ9_min_7cf53.cls ≠ "java/lang/invoke/VarHandle" ∧ (parseMethodDescriptor yJ9_min_7cf53.desc).map (fun d => d.parameters.length) = some 2 := by decide +kernel
theorem hn_J9_min_7cf53 : yJ9_min_7cf53.cls ≠ "java/lang/invoke/MethodHandle" ∧ yJ9_min_7cf53.cls ≠ "java/lang/invoke/VarHandle" ∧ (parseMethodDescriptor yJ9_min_7cf53.desc).map (fun d => d.parameters.length) = some 2 := by decide +kernel
theorem hy_X0_clear : yX0_clear.cls = RX0 ∧ yX0_clear.cls ≠ "java/lang/invoke/MethodHandle" ∧ yX0_clear.cls ≠ "java/lang/invoke/VarHandle" ∧ (parseMethodDescriptor yX0_clear.desc).map (fun d => d.parameters.length) = some 0 := by decide +kernel
theorem hn_X0_clear : yX0_clear.cls ≠ "java/lang/invoke/MethodHandle" ∧ yX0_clear.cls ≠ "java/lang/invoke/VarHandle" ∧ (parseMethodDescriptor yX0_clear.desc).map (fun d => d.parameters.length) = some 0 := by decide +kernel
theorem hy_X0_init : yX0_init.cls = RX0 ∧ yX0_init.cls ≠ "java/lang/invoke/MethodHandle" ∧ yX0_init.cls ≠ "java/lang/invoke/VarHandle" ∧ (parseMethodDescriptor yX0_init.desc).map (fun d => d.parameters.length) = some 0 := by decide +kernel
theorem hn_X0_init : yX0_init.cls ≠ "java/lang/invoke/MethodHandle" ∧ yX0_init.cls ≠ "java/lang/invoke/VarHandle" ∧ (parseMethodDescriptor yX0_init.desc).map (fun d => d.parameters.length) = some 0 := by decide +kernel
theorem hy_X0_isRight : yX0_isRight.cls = RX0 ∧ yX0_isRight.cls ≠ "java/lang/invoke/MethodHandle" ∧ yX0_isRight.cls ≠ "java/lang/invoke/VarHandle" ∧ (parseMethodDescriptor yX0_isRight.desc).map (fun d => d.parameters.length) = some 4 := by decide +kernel
theorem hn_X0_isRight : yX0_isRight.cls ≠ "java/lang/invoke/MethodHandle" ∧ yX0_isRight.cls ≠ "java/lang/invoke/VarHandle" ∧ (parseMethodDescriptor yX0_isRight.desc).map (fun d => d.parameters.length) = some 4 := by decide +kernel
theorem hy_X0_read : yX0_read.cls = RX0 ∧ yX0_read.cls ≠ "java/lang/invoke/MethodHandle" ∧ yX0_read.cls ≠ "java/lang/invoke/VarHandle" ∧ (parseMethodDescriptor yX0_read.desc).map (fun d => d.parameters.length) = some 2 := by decide +kernel
theorem hn_X0_read : yX0_read.cls ≠ "java/lang/invoke/MethodHandle" ∧ yX0_read.cls ≠ "java/lang/invoke/VarHandle" ∧ (parseMethodDescriptor yX0_read.desc).map (fun d => d.parameters.length) = some 2 := by decide +kernel
theorem hy_X10_ahead : yX10_ahead.cls = RX10 ∧ yX10_ahead.cls ≠ "java/lang/invoke/MethodHandle" ∧ yX10_ahead.cls ≠ "java/lang/invoke/VarHandle" ∧ (parseMethodDescriptor yX10_ahead.desc).map (fun d => d.parameters.length) = some 2 := by decide +kernel
theorem hn_X10_ahead : yX10_ahead.cls ≠ "java/lang/invoke/MethodHandle" ∧ yX10_ahead.cls ≠ "java/lang/invoke/VarHandle" ∧ (parseMethodDescriptor yX10_ahead.desc).map (fun d => d.parameters.length) = some 2 := by decide +kernel
theorem hy_X10_all : yX10_all.cls = RX10 ∧ yX10_all.cls ≠ "java/lang/invoke/MethodHandle" ∧ yX10_all.cls ≠ "java/lang/invoke/VarHandle" ∧ (parseMethodDescriptor yX10_all.desc).map (fun d => d.parameters.length) = some 1 := by decide +kernel
theorem hn_X10_all : yX10_all.cls ≠ "java/lang/invoke/MethodHandle" ∧ yX10_all.cls ≠ "java/lang/invoke/VarHandle" ∧ (parseMethodDescriptor yX10_all.desc).map (fun d => d.parameters.length) = some 1 := by decide +kernel
theorem hy_X10_bed : yX10_bed.cls = RX10 ∧ yX10_bed.cls ≠ "java/lang/invoke/MethodHandle" ∧ yX10_bed.cls ≠ "java/lang/invoke/VarHandle" ∧ (parseMethodDescriptor yX10_bed.desc).map (fun d => d.parameters.length) = some 2 := by decide +kernel
theorem hn_X10_bed : yX10_bed.cls ≠ "java/lang/invoke/MethodHandle" ∧ yX10_bed.cls ≠ "java/lang/invoke/VarHandle" ∧ (parseMethodDescriptor yX10_bed.desc).map (fun d => d.parameters.length) = some 2 := by decide +kernel
theorem hy_X10_bedsWith : yX10_bedsWith.cls = RX10 ∧ yX10_bedsWith.cls ≠ "java/lang/invoke/MethodHandle" ∧ yX10_bedsWith.cls ≠ "java/lang/invoke/VarHandle" ∧ (parseMethodDescriptor yX10_bedsWith.desc).map (fun d => d.parameters.length) = some 2 := by decide +kernel
theorem hn_X10_bedsWith : yX10_bedsWith.cls ≠ "java/lang/invoke/MethodHandle" ∧ yX10_bedsWith.cls ≠ "java/lang/invoke/VarHandle" ∧ (parseMethodDescriptor yX10_bedsWith.desc).map (fun d => d.parameters.length) = some 2 := by decide +kernel
theorem hy_X10_begins : yX10_begins.cls = RX10 ∧ yX10_begins.cls ≠ "java/lang/invoke/MethodHandle" ∧ yX10_begins.cls ≠ "java/lang/invoke/VarHandle" ∧ (parseMethodDescriptor yX10_begins.desc).map (fun d => d.parameters.length) = some 1 := by decide +kernel
theorem hn_X10_begins : yX10_begins.cls ≠ "java/lang/invoke/MethodHandle" ∧ yX10_begins.cls ≠ "java/lang/invoke/VarHandle" ∧ (parseMethodDescriptor yX10_begins.desc).map (fun d => d.parameters.length) = some 1 := by decide +kernel
theorem hy_X10_book : yX10_book.cls = RX10 ∧ yX10_book.cls ≠ "java/lang/invoke/MethodHandle" ∧ yX10_book.cls ≠ "java/lang/invoke/VarHandle" ∧ (parseMethodDescriptor yX10_book.desc).map (fun d => d.parameters.length) = some 1 := by decide +kernel
theorem hn_X10_book : yX10_book.cls ≠ "java/lang/invoke/MethodHandle" ∧ yX10_book.cls ≠ "java/lang/invoke/VarHandle" ∧ (parseMethodDescriptor yX10_book.desc).map (fun d => d.parameters.length) = some 1 := by decide +kernel
theorem hy_X10_both : yX10_both.cls = RX10 ∧ yX10_both.cls ≠ "java/lang/invoke/MethodHandle" ∧ yX10_both.cls ≠ "java/lang/invoke/VarHandle" ∧ (parseMethodDescriptor yX10_both.desc).map (fun d => d.parameters.length) = some 3 := by decide +kernel
theorem hn_X10_both : yX10_both.cls ≠ "java/lang/invoke/MethodHandle" ∧ yX10_both.cls ≠ "java/lang/invoke/VarHandle" ∧ (parseMethodDescriptor yX10_both.desc).map (fun d => d.parameters.length) = some 3 := by decide +kernel
theorem hy_X10_clears : yX10_clears.cls = RX10 ∧ yX10_clears.cls ≠ "java/lang/invoke/MethodHandle" ∧ yX10_clears.cls ≠ "java/lang/invoke/VarHandle" ∧ (parseMethodDescriptor yX10_clears.desc).map (fun d => d.parameters.length) = some 0 := by decide +kernel
theorem hn_X10_clears : yX10_clears.cls ≠ "java/lang/invoke/MethodHandle" ∧ yX10_clears.cls ≠ "java/lang/invoke/VarHandle" ∧ (parseMethodDescriptor yX10_clears.desc).map (fun d => d.parameters.length) = some 0 := by decide +kernel
theorem hy_X10_coming : yX10_coming.cls = RX10 ∧ yX10_coming.cls ≠ "java/lang/invoke/MethodHandle" ∧ yX10_coming.cls ≠ "java/lang/invoke/VarHandle" ∧ (parseMethodDescriptor yX10_coming.desc).map (fun d => d.parameters.length) = some 2 := by decide +kernel
theorem hn_X10_coming : yX10_coming.cls ≠ "java/lang/invoke/MethodHandle" ∧ yX10_coming.cls ≠ "java/lang/invoke/VarHandle" ∧ (parseMethodDescriptor yX10_coming.desc).map (fun d => d.parameters.length) = some 2 := by decide +kernel
theorem hy_X10_copies : yX10_copies.cls = RX10 ∧ yX10_copies.cls ≠ "java/lang/invoke/MethodHandle" ∧ yX10_copies.cls ≠ "java/lang/invoke/VarHandle" ∧ (parseMethodDescriptor yX10_copies.desc).map (fun d => d.parameters.length) = some 3 := by decide +kernel
theorem hn_X10_copies : yX10_copies.cls ≠ "java/lang/invoke/MethodHandle" ∧ yX10_copies.cls ≠ "java/lang/invoke/VarHandle" ∧ (parseMethodDescriptor yX10_copies.desc).map (fun d => d.parameters.length) = some 3 := by decide +kernel
theorem hy_X10_count : yX10_count.cls = RX10 ∧ yX10_count.cls ≠ "java/lang/invoke/MethodHandle" ∧ yX10_count.cls ≠ "java/lang/invoke/VarHandle" ∧ (parseMethodDescriptor yX10_count.desc).map (fun d => d.parameters.length) = some 1 := by decide +kernel
theorem hn_X10_count : yX10_count.cls ≠ "java/lang/invoke/MethodHandle" ∧ yX10_count.cls ≠ "java/lang/invoke/VarHandle" ∧ (parseMethodDescriptor yX10_count.desc).map (fun d => d.parameters.length) = some 1 := by decide +kernel
theorem hy_X10_drains : yX10_drains.cls = RX10 ∧ yX10_drains.cls ≠ "java/lang/invoke/MethodHandle" ∧ yX10_drains.cls ≠ "java/lang/invoke/VarHandle" ∧ (parseMethodDescriptor yX10_drains.desc).map (fun d => d.parameters.length) = some 1 := by decide +kernel
theorem hn_X10_drains : yX10_drains.cls ≠ "java/lang/invoke/MethodHandle" ∧ yX10_drains.cls ≠ "java/lang/invoke/VarHandle" ∧ (parseMethodDescriptor yX10_drains.desc).map (fun d => d.parameters.length) = some 1 := by decide +kernel
theorem hy_X10_draws : yX10_draws.cls = RX10 ∧ yX10_draws.cls ≠ "java/lang/invoke/MethodHandle" ∧ yX10_draws.cls ≠ "java/lang/invoke/VarHandle" ∧ (parseMethodDescriptor yX10_draws.desc).map (fun d => d.parameters.length) = some 1 := by decide +kernel
theorem hn_X10_draws : yX10_draws.cls ≠ "java/lang/invoke/MethodHandle" ∧ yX10_draws.cls ≠ "java/lang/invoke/VarHandle" ∧ (parseMethodDescriptor yX10_draws.desc).map (fun d => d.parameters.length) = some 1 := by decide +kernel
theorem hy_X10_emit : yX10_emit.cls = RX10 ∧ yX10_emit.cls ≠ "java/lang/invoke/MethodHandle" ∧ yX10_emit.cls ≠ "java/lang/invoke/VarHandle" ∧ (parseMethodDescriptor yX10_emit.desc).map (fun d => d.parameters.length) = some 2 := by decide +kernel
theorem hn_X10_emit : yX10_emit.cls ≠ "java/lang/invoke/MethodHandle" ∧ yX10_emit.cls ≠ "java/lang/invoke/VarHandle" ∧ (parseMethodDescriptor yX10_emit.desc).map (fun d => d.parameters.length) = some 2 := by decide +kernel
theorem hy_X10_factHere : yX10_factHere.cls = RX10 ∧ yX10_factHere.cls ≠ "java/lang/invoke/MethodHandle" ∧ yX10_factHere.cls ≠ "java/lang/invoke/VarHandle" ∧ (parseMethodDescriptor yX10_factHere.desc).map (fun d => d.parameters.length) = some 0 := by decide +kernel
theorem hn_X10_factHere : yX10_factHere.cls ≠ "java/lang/invoke/MethodHandle" ∧ yX10_factHere.cls ≠ "java/lang/invoke/VarHandle" ∧ (parseMethodDescriptor yX10_factHere.desc).map (fun d => d.parameters.length) = some 0 := by decide +kernel
theorem hy_X10_fault : yX10_fault.cls = RX10 ∧ yX10_fault.cls ≠ "java/lang/invoke/MethodHandle" ∧ yX10_fault.cls ≠ "java/lang/invoke/VarHandle" ∧ (parseMethodDescriptor yX10_fault.desc).map (fun d => d.parameters.length) = some 0 := by decide +kernel
theorem hn_X10_fault : yX10_fault.cls ≠ "java/lang/invoke/MethodHandle" ∧ yX10_fault.cls ≠ "java/lang/invoke/VarHandle" ∧ (parseMethodDescriptor yX10_fault.desc).map (fun d => d.parameters.length) = some 0 := by decide +kernel
theorem hy_X10_feed : yX10_feed.cls = RX10 ∧ yX10_feed.cls ≠ "java/lang/invoke/MethodHandle" ∧ yX10_feed.cls ≠ "java/lang/invoke/VarHandle" ∧ (parseMethodDescriptor yX10_feed.desc).map (fun d => d.parameters.length) = some 5 := by decide +kernel
theorem hn_X10_feed : yX10_feed.cls ≠ "java/lang/invoke/MethodHandle" ∧ yX10_feed.cls ≠ "java/lang/invoke/VarHandle" ∧ (parseMethodDescriptor yX10_feed.desc).map (fun d => d.parameters.length) = some 5 := by decide +kernel
theorem hy_X10_fine : yX10_fine.cls = RX10 ∧ yX10_fine.cls ≠ "java/lang/invoke/MethodHandle" ∧ yX10_fine.cls ≠ "java/lang/invoke/VarHandle" ∧ (parseMethodDescriptor yX10_fine.desc).map (fun d => d.parameters.length) = some 0 := by decide +kernel
theorem hn_X10_fine : yX10_fine.cls ≠ "java/lang/invoke/MethodHandle" ∧ yX10_fine.cls ≠ "java/lang/invoke/VarHandle" ∧ (parseMethodDescriptor yX10_fine.desc).map (fun d => d.parameters.length) = some 0 := by decide +kernel
theorem hy_X10_firstIn : yX10_firstIn.cls = RX10 ∧ yX10_firstIn.cls ≠ "java/lang/invoke/MethodHandle" ∧ yX10_firstIn.cls ≠ "java/lang/invoke/VarHandle" ∧ (parseMethodDescriptor yX10_firstIn.desc).map (fun d => d.parameters.length) = some 1 := by decide +kernel
theorem hn_X10_firstIn : yX10_firstIn.cls ≠ "java/lang/invoke/MethodHandle" ∧ yX10_firstIn.cls ≠ "java/lang/invoke/VarHandle" ∧ (parseMethodDescriptor yX10_firstIn.desc).map (fun d => d.parameters.length) = some 1 := by decide +kernel
theorem hy_X10_fits : yX10_fits.cls = RX10 ∧ yX10_fits.cls ≠ "java/lang/invoke/MethodHandle" ∧ yX10_fits.cls ≠ "java/lang/invoke/VarHandle" ∧ (parseMethodDescriptor yX10_fits.desc).map (fun d => d.parameters.length) = some 1 := by decide +kernel
theorem hn_X10_fits : yX10_fits.cls ≠ "java/lang/invoke/MethodHandle" ∧ yX10_fits.cls ≠ "java/lang/invoke/VarHandle" ∧ (parseMethodDescriptor yX10_fits.desc).map (fun d => d.parameters.length) = some 1 := by decide +kernel
theorem hy_X10_full : yX10_full.cls = RX10 ∧ yX10_full.cls ≠ "java/lang/invoke/MethodHandle" ∧ yX10_full.cls ≠ "java/lang/invoke/VarHandle" ∧ (parseMethodDescriptor yX10_full.desc).map (fun d => d.parameters.length) = some 1 := by decide +kernel
theorem hn_X10_full : yX10_full.cls ≠ "java/lang/invoke/MethodHandle" ∧ yX10_full.cls ≠ "java/lang/invoke/VarHandle" ∧ (parseMethodDescriptor yX10_full.desc).map (fun d => d.parameters.length) = some 1 := by decide +kernel
theorem hy_X10_garden : yX10_garden.cls = RX10 ∧ yX10_garden.cls ≠ "java/lang/invoke/MethodHandle" ∧ yX10_garden.cls ≠ "java/lang/invoke/VarHandle" ∧ (parseMethodDescriptor yX10_garden.desc).map (fun d => d.parameters.length) = some 1 := by decide +kernel
theorem hn_X10_garden : yX10_garden.cls ≠ "java/lang/invoke/MethodHandle" ∧ yX10_garden.cls ≠ "java/lang/invoke/VarHandle" ∧ (parseMethodDescriptor yX10_garden.desc).map (fun d => d.parameters.length) = some 1 := by decide +kernel
theorem hy_X10_goesSteps : yX10_goesSteps.cls = RX10 ∧ yX10_goesSteps.cls ≠ "java/lang/invoke/MethodHandle" ∧ yX10_goesSteps.cls ≠ "java/lang/invoke/VarHandle" ∧ (parseMethodDescriptor yX10_goesSteps.desc).map (fun d => d.parameters.length) = some 2 := by decide +kernel
theorem hn_X10_goesSteps : yX10_goesSteps.cls ≠ "java/lang/invoke/MethodHandle" ∧ yX10_goesSteps.cls ≠ "java/lang/invoke/VarHandle" ∧ (parseMethodDescriptor yX10_goesSteps.desc).map (fun d => d.parameters.length) = some 2 := by decide +kernel
theorem hy_X10_grown : yX10_grown.cls = RX10 ∧ yX10_grown.cls ≠ "java/lang/invoke/MethodHandle" ∧ yX10_grown.cls ≠ "java/lang/invoke/VarHandle" ∧ (parseMethodDescriptor yX10_grown.desc).map (fun d => d.parameters.length) = some 1 := by decide +kernel
theorem hn_X10_grown : yX10_grown.cls ≠ "java/lang/invoke/MethodHandle" ∧ yX10_grown.cls ≠ "java/lang/invoke/VarHandle" ∧ (parseMethodDescriptor yX10_grown.desc).map (fun d => d.parameters.length) = some 1 := by decide +kernel
theorem hy_X10_grows : yX10_grows.cls = RX10 ∧ yX10_grows.cls ≠ "java/lang/invoke/MethodHandle" ∧ yX10_grows.cls ≠ "java/lang/invoke/VarHandle" ∧ (parseMethodDescriptor yX10_grows.desc).map (fun d => d.parameters.length) = some 1 := by decide +kernel
theorem hn_X10_grows : yX10_grows.cls ≠ "java/lang/invoke/MethodHandle" ∧ yX10_grows.cls ≠ "java/lang/invoke/VarHandle" ∧ (parseMethodDescriptor yX10_grows.desc).map (fun d => d.parameters.length) = some 1 := by decide +kernel
theorem hy_X10_hasBy : yX10_hasBy.cls = RX10 ∧ yX10_hasBy.cls ≠ "java/lang/invoke/MethodHandle" ∧ yX10_hasBy.cls ≠ "java/lang/invoke/VarHandle" ∧ (parseMethodDescriptor yX10_hasBy.desc).map (fun d => d.parameters.length) = some 4 := by decide +kernel
theorem hn_X10_hasBy : yX10_hasBy.cls ≠ "java/lang/invoke/MethodHandle" ∧ yX10_hasBy.cls ≠ "java/lang/invoke/VarHandle" ∧ (parseMethodDescriptor yX10_hasBy.desc).map (fun d => d.parameters.length) = some 4 := by decide +kernel
theorem hy_X10_heardAny : yX10_heardAny.cls = RX10 ∧ yX10_heardAny.cls ≠ "java/lang/invoke/MethodHandle" ∧ yX10_heardAny.cls ≠ "java/lang/invoke/VarHandle" ∧ (parseMethodDescriptor yX10_heardAny.desc).map (fun d => d.parameters.length) = some 0 := by decide +kernel
theorem hn_X10_heardAny : yX10_heardAny.cls ≠ "java/lang/invoke/MethodHandle" ∧ yX10_heardAny.cls ≠ "java/lang/invoke/VarHandle" ∧ (parseMethodDescriptor yX10_heardAny.desc).map (fun d => d.parameters.length) = some 0 := by decide +kernel
theorem hy_X10_hearers : yX10_hearers.cls = RX10 ∧ yX10_hearers.cls ≠ "java/lang/invoke/MethodHandle" ∧ yX10_hearers.cls ≠ "java/lang/invoke/VarHandle" ∧ (parseMethodDescriptor yX10_hearers.desc).map (fun d => d.parameters.length) = some 1 := by decide +kernel
theorem hn_X10_hearers : yX10_hearers.cls ≠ "java/lang/invoke/MethodHandle" ∧ yX10_hearers.cls ≠ "java/lang/invoke/VarHandle" ∧ (parseMethodDescriptor yX10_hearers.desc).map (fun d => d.parameters.length) = some 1 := by decide +kernel
theorem hy_X10_held : yX10_held.cls = RX10 ∧ yX10_held.cls ≠ "java/lang/invoke/MethodHandle" ∧ yX10_held.cls ≠ "java/lang/invoke/VarHandle" ∧ (parseMethodDescriptor yX10_held.desc).map (fun d => d.parameters.length) = some 2 := by decide +kernel
theorem hn_X10_held : yX10_held.cls ≠ "java/lang/invoke/MethodHandle" ∧ yX10_held.cls ≠ "java/lang/invoke/VarHandle" ∧ (parseMethodDescriptor yX10_held.desc).map (fun d => d.parameters.length) = some 2 := by decide +kernel
theorem hy_X10_here : yX10_here.cls = RX10 ∧ yX10_here.cls ≠ "java/lang/invoke/MethodHandle" ∧ yX10_here.cls ≠ "java/lang/invoke/VarHandle" ∧ (parseMethodDescriptor yX10_here.desc).map (fun d => d.parameters.length) = some 0 := by decide +kernel
theorem hn_X10_here : yX10_here.cls ≠ "java/lang/invoke/MethodHandle" ∧ yX10_here.cls ≠ "java/lang/invoke/VarHandle" ∧ (parseMethodDescriptor yX10_here.desc).map (fun d => d.parameters.length) = some 0 := by decide +kernel
theorem hy_X10_image : yX10_image.cls = RX10 ∧ yX10_image.cls ≠ "java/lang/invoke/MethodHandle" ∧ yX10_image.cls ≠ "java/lang/invoke/VarHandle" ∧ (parseMethodDescriptor yX10_image.desc).map (fun d => d.parameters.length) = some 0 := by decide +kernel
theorem hn_X10_image : yX10_image.cls ≠ "java/lang/invoke/MethodHandle" ∧ yX10_image.cls ≠ "java/lang/invoke/VarHandle" ∧ (parseMethodDescriptor yX10_image.desc).map (fun d => d.parameters.length) = some 0 := by decide +kernel
theorem hy_X10_init : yX10_init.cls = RX10 ∧ yX10_init.cls ≠ "java/lang/invoke/MethodHandle" ∧ yX10_init.cls ≠ "java/lang/invoke/VarHandle" ∧ (parseMethodDescriptor yX10_init.desc).map (fun d => d.parameters.length) = some 0 := by decide +kernel
theorem hn_X10_init : yX10_init.cls ≠ "java/lang/invoke/MethodHandle" ∧ yX10_init.cls ≠ "java/lang/invoke/VarHandle" ∧ (parseMethodDescriptor yX10_init.desc).map (fun d => d.parameters.length) = some 0 := by decide +kernel
theorem hy_X10_isBed : yX10_isBed.cls = RX10 ∧ yX10_isBed.cls ≠ "java/lang/invoke/MethodHandle" ∧ yX10_isBed.cls ≠ "java/lang/invoke/VarHandle" ∧ (parseMethodDescriptor yX10_isBed.desc).map (fun d => d.parameters.length) = some 2 := by decide +kernel
theorem hn_X10_isBed : yX10_isBed.cls ≠ "java/lang/invoke/MethodHandle" ∧ yX10_isBed.cls ≠ "java/lang/invoke/VarHandle" ∧ (parseMethodDescriptor yX10_isBed.desc).map (fun d => d.parameters.length) = some 2 := by decide +kernel
theorem hy_X10_isBlown : yX10_isBlown.cls = RX10 ∧ yX10_isBlown.cls ≠ "java/lang/invoke/MethodHandle" ∧ yX10_isBlown.cls ≠ "java/lang/invoke/VarHandle" ∧ (parseMethodDescriptor yX10_isBlown.desc).map (fun d => d.parameters.length) = some 1 := by decide +kernel
theorem hn_X10_isBlown : yX10_isBlown.cls ≠ "java/lang/invoke/MethodHandle" ∧ yX10_isBlown.cls ≠ "java/lang/invoke/VarHandle" ∧ (parseMethodDescriptor yX10_isBlown.desc).map (fun d => d.parameters.length) = some 1 := by decide +kernel
theorem hy_X10_isDigit : yX10_isDigit.cls = RX10 ∧ yX10_isDigit.cls ≠ "java/lang/invoke/MethodHandle" ∧ yX10_isDigit.cls ≠ "java/lang/invoke/VarHandle" ∧ (parseMethodDescriptor yX10_isDigit.desc).map (fun d => d.parameters.length) = some 1 := by decide +kernel
theorem hn_X10_isDigit : yX10_isDigit.cls ≠ "java/lang/invoke/MethodHandle" ∧ yX10_isDigit.cls ≠ "java/lang/invoke/VarHandle" ∧ (parseMethodDescriptor yX10_isDigit.desc).map (fun d => d.parameters.length) = some 1 := by decide +kernel
theorem hy_X10_isDone : yX10_isDone.cls = RX10 ∧ yX10_isDone.cls ≠ "java/lang/invoke/MethodHandle" ∧ yX10_isDone.cls ≠ "java/lang/invoke/VarHandle" ∧ (parseMethodDescriptor yX10_isDone.desc).map (fun d => d.parameters.length) = some 3 := by decide +kernel
theorem hn_X10_isDone : yX10_isDone.cls ≠ "java/lang/invoke/MethodHandle" ∧ yX10_isDone.cls ≠ "java/lang/invoke/VarHandle" ∧ (parseMethodDescriptor yX10_isDone.desc).map (fun d => d.parameters.length) = some 3 := by decide +kernel
theorem hy_X10_isEaten : yX10_isEaten.cls = RX10 ∧ yX10_isEaten.cls ≠ "java/lang/invoke/MethodHandle" ∧ yX10_isEaten.cls ≠ "java/lang/invoke/VarHandle" ∧ (parseMethodDescriptor yX10_isEaten.desc).map (fun d => d.parameters.length) = some 1 := by decide +kernel
theorem hn_X10_isEaten : yX10_isEaten.cls ≠ "java/lang/invoke/MethodHandle" ∧ yX10_isEaten.cls ≠ "java/lang/invoke/VarHandle" ∧ (parseMethodDescriptor yX10_isEaten.desc).map (fun d => d.parameters.length) = some 1 := by decide +kernel
theorem hy_X10_isFit : yX10_isFit.cls = RX10 ∧ yX10_isFit.cls ≠ "java/lang/invoke/MethodHandle" ∧ yX10_isFit.cls ≠ "java/lang/invoke/VarHandle" ∧ (parseMethodDescriptor yX10_isFit.desc).map (fun d => d.parameters.length) = some 1 := by decide +kernel
theorem hn_X10_isFit : yX10_isFit.cls ≠ "java/lang/invoke/MethodHandle" ∧ yX10_isFit.cls ≠ "java/lang/invoke/VarHandle" ∧ (parseMethodDescriptor yX10_isFit.desc).map (fun d => d.parameters.length) = some 1 := by decide +kernel
theorem hy_X10_isFull : yX10_isFull.cls = RX10 ∧ yX10_isFull.cls ≠ "java/lang/invoke/MethodHandle" ∧ yX10_isFull.cls ≠ "java/lang/invoke/VarHandle" ∧ (parseMethodDescriptor yX10_isFull.desc).map (fun d => d.parameters.length) = some 1 := by decide +kernel
theorem hn_X10_isFull : yX10_isFull.cls ≠ "java/lang/invoke/MethodHandle" ∧ yX10_isFull.cls ≠ "java/lang/invoke/VarHandle" ∧ (parseMethodDescriptor yX10_isFull.desc).map (fun d => d.parameters.length) = some 1 := by decide +kernel
theorem hy_X10_isLetter : yX10_isLetter.cls = RX10 ∧ yX10_isLetter.cls ≠ "java/lang/invoke/MethodHandle" ∧ yX10_isLetter.cls ≠ "java/lang/invoke/VarHandle" ∧ (parseMethodDescriptor yX10_isLetter.desc).map (fun d => d.parameters.length) = some 2 := by decide +kernel
theorem hn_X10_isLetter : yX10_isLetter.cls ≠ "java/lang/invoke/MethodHandle" ∧ yX10_isLetter.cls ≠ "java/lang/invoke/VarHandle" ∧ (parseMethodDescriptor yX10_isLetter.desc).map (fun d => d.parameters.length) = some 2 := by decide +kernel
theorem hy_X10_isMore : yX10_isMore.cls = RX10 ∧ yX10_isMore.cls ≠ "java/lang/invoke/MethodHandle" ∧ yX10_isMore.cls ≠ "java/lang/invoke/VarHandle" ∧ (parseMethodDescriptor yX10_isMore.desc).map (fun d => d.parameters.length) = some 0 := by decide +kernel
theorem hn_X10_isMore : yX10_isMore.cls ≠ "java/lang/invoke/MethodHandle" ∧ yX10_isMore.cls ≠ "java/lang/invoke/VarHandle" ∧ (parseMethodDescriptor yX10_isMore.desc).map (fun d => d.parameters.length) = some 0 := by decide +kernel
theorem hy_X10_isReader : yX10_isReader.cls = RX10 ∧ yX10_isReader.cls ≠ "java/lang/invoke/MethodHandle" ∧ yX10_isReader.cls ≠ "java/lang/invoke/VarHandle" ∧ (parseMethodDescriptor yX10_isReader.desc).map (fun d => d.parameters.length) = some 2 := by decide +kernel
theorem hn_X10_isReader : yX10_isReader.cls ≠ "java/lang/invoke/MethodHandle" ∧ yX10_isReader.cls ≠ "java/lang/invoke/VarHandle" ∧ (parseMethodDescriptor yX10_isReader.desc).map (fun d => d.parameters.length) = some 2 := by decide +kernel
theorem hy_X10_isRow : yX10_isRow.cls = RX10 ∧ yX10_isRow.cls ≠ "java/lang/invoke/MethodHandle" ∧ yX10_isRow.cls ≠ "java/lang/invoke/VarHandle" ∧ (parseMethodDescriptor yX10_isRow.desc).map (fun d => d.parameters.length) = some 1 := by decide +kernel
theorem hn_X10_isRow : yX10_isRow.cls ≠ "java/lang/invoke/MethodHandle" ∧ yX10_isRow.cls ≠ "java/lang/invoke/VarHandle" ∧ (parseMethodDescriptor yX10_isRow.desc).map (fun d => d.parameters.length) = some 1 := by decide +kernel
theorem hy_X10_isSmall : yX10_isSmall.cls = RX10 ∧ yX10_isSmall.cls ≠ "java/lang/invoke/MethodHandle" ∧ yX10_isSmall.cls ≠ "java/lang/invoke/VarHandle" ∧ (parseMethodDescriptor yX10_isSmall.desc).map (fun d => d.parameters.length) = some 1 := by decide +kernel
theorem hn_X10_isSmall : yX10_isSmall.cls ≠ "java/lang/invoke/MethodHandle" ∧ yX10_isSmall.cls ≠ "java/lang/invoke/VarHandle" ∧ (parseMethodDescriptor yX10_isSmall.desc).map (fun d => d.parameters.length) = some 1 := by decide +kernel
theorem hy_X10_isSummer : yX10_isSummer.cls = RX10 ∧ yX10_isSummer.cls ≠ "java/lang/invoke/MethodHandle" ∧ yX10_isSummer.cls ≠ "java/lang/invoke/VarHandle" ∧ (parseMethodDescriptor yX10_isSummer.desc).map (fun d => d.parameters.length) = some 2 := by decide +kernel
theorem hn_X10_isSummer : yX10_isSummer.cls ≠ "java/lang/invoke/MethodHandle" ∧ yX10_isSummer.cls ≠ "java/lang/invoke/VarHandle" ∧ (parseMethodDescriptor yX10_isSummer.desc).map (fun d => d.parameters.length) = some 2 := by decide +kernel
theorem hy_X10_isWalked : yX10_isWalked.cls = RX10 ∧ yX10_isWalked.cls ≠ "java/lang/invoke/MethodHandle" ∧ yX10_isWalked.cls ≠ "java/lang/invoke/VarHandle" ∧ (parseMethodDescriptor yX10_isWalked.desc).map (fun d => d.parameters.length) = some 2 := by decide +kernel
theorem hn_X10_isWalked : yX10_isWalked.cls ≠ "java/lang/invoke/MethodHandle" ∧ yX10_isWalked.cls ≠ "java/lang/invoke/VarHandle" ∧ (parseMethodDescriptor yX10_isWalked.desc).map (fun d => d.parameters.length) = some 2 := by decide +kernel
theorem hy_X10_keepsAll : yX10_keepsAll.cls = RX10 ∧ yX10_keepsAll.cls ≠ "java/lang/invoke/MethodHandle" ∧ yX10_keepsAll.cls ≠ "java/lang/invoke/VarHandle" ∧ (parseMethodDescriptor yX10_keepsAll.desc).map (fun d => d.parameters.length) = some 2 := by decide +kernel
theorem hn_X10_keepsAll : yX10_keepsAll.cls ≠ "java/lang/invoke/MethodHandle" ∧ yX10_keepsAll.cls ≠ "java/lang/invoke/VarHandle" ∧ (parseMethodDescriptor yX10_keepsAll.desc).map (fun d => d.parameters.length) = some 2 := by decide +kernel
theorem hy_X10_keepsRow : yX10_keepsRow.cls = RX10 ∧ yX10_keepsRow.cls ≠ "java/lang/invoke/MethodHandle" ∧ yX10_keepsRow.cls ≠ "java/lang/invoke/VarHandle" ∧ (parseMethodDescriptor yX10_keepsRow.desc).map (fun d => d.parameters.length) = some 4 := by decide +kernel
theorem hn_X10_keepsRow : yX10_keepsRow.cls ≠ "java/lang/invoke/MethodHandle" ∧ yX10_keepsRow.cls ≠ "java/lang/invoke/VarHandle" ∧ (parseMethodDescriptor yX10_keepsRow.desc).map (fun d => d.parameters.length) = some 4 := by decide +kernel
theorem hy_X10_law : yX10_law.cls = RX10 ∧ yX10_law.cls ≠ "java/lang/invoke/MethodHandle" ∧ yX10_law.cls ≠ "java/lang/invoke/VarHandle" ∧ (parseMethodDescriptor yX10_law.desc).map (fun d => d.parameters.length) = some 1 := by decide +kernel
theorem hn_X10_law : yX10_law.cls ≠ "java/lang/invoke/MethodHandle" ∧ yX10_law.cls ≠ "java/lang/invoke/VarHandle" ∧ (parseMethodDescriptor yX10_law.desc).map (fun d => d.parameters.length) = some 1 := by decide +kernel
theorem hy_X10_laysLasts : yX10_laysLasts.cls = RX10 ∧ yX10_laysLasts.cls ≠ "java/lang/invoke/MethodHandle" ∧ yX10_laysLasts.cls ≠ "java/lang/invoke/VarHandle" ∧ (parseMethodDescriptor yX10_laysLasts.desc).map (fun d => d.parameters.length) = some 0 := by decide +kernel
theorem hn_X10_laysLasts : yX10_laysLasts.cls ≠ "java/lang/invoke/MethodHandle" ∧ yX10_laysLasts.cls ≠ "java/lang/invoke/VarHandle" ∧ (parseMethodDescriptor yX10_laysLasts.desc).map (fun d => d.parameters.length) = some 0 := by decide +kernel
theorem hy_X10_laysSeams : yX10_laysSeams.cls = RX10 ∧ yX10_laysSeams.cls ≠ "java/lang/invoke/MethodHandle" ∧ yX10_laysSeams.cls ≠ "java/lang/invoke/VarHandle" ∧ (parseMethodDescriptor yX10_laysSeams.desc).map (fun d => d.parameters.length) = some 0 := by decide +kernel
theorem hn_X10_laysSeams : yX10_laysSeams.cls ≠ "java/lang/invoke/MethodHandle" ∧ yX10_laysSeams.cls ≠ "java/lang/invoke/VarHandle" ∧ (parseMethodDescriptor yX10_laysSeams.desc).map (fun d => d.parameters.length) = some 0 := by decide +kernel
theorem hy_X10_least : yX10_least.cls = RX10 ∧ yX10_least.cls ≠ "java/lang/invoke/MethodHandle" ∧ yX10_least.cls ≠ "java/lang/invoke/VarHandle" ∧ (parseMethodDescriptor yX10_least.desc).map (fun d => d.parameters.length) = some 3 := by decide +kernel
theorem hn_X10_least : yX10_least.cls ≠ "java/lang/invoke/MethodHandle" ∧ yX10_least.cls ≠ "java/lang/invoke/VarHandle" ∧ (parseMethodDescriptor yX10_least.desc).map (fun d => d.parameters.length) = some 3 := by decide +kernel
theorem hy_X10_leftAll : yX10_leftAll.cls = RX10 ∧ yX10_leftAll.cls ≠ "java/lang/invoke/MethodHandle" ∧ yX10_leftAll.cls ≠ "java/lang/invoke/VarHandle" ∧ (parseMethodDescriptor yX10_leftAll.desc).map (fun d => d.parameters.length) = some 0 := by decide +kernel
theorem hn_X10_leftAll : yX10_leftAll.cls ≠ "java/lang/invoke/MethodHandle" ∧ yX10_leftAll.cls ≠ "java/lang/invoke/VarHandle" ∧ (parseMethodDescriptor yX10_leftAll.desc).map (fun d => d.parameters.length) = some 0 := by decide +kernel
theorem hy_X10_leftOf : yX10_leftOf.cls = RX10 ∧ yX10_leftOf.cls ≠ "java/lang/invoke/MethodHandle" ∧ yX10_leftOf.cls ≠ "java/lang/invoke/VarHandle" ∧ (parseMethodDescriptor yX10_leftOf.desc).map (fun d => d.parameters.length) = some 1 := by decide +kernel
theorem hn_X10_leftOf : yX10_leftOf.cls ≠ "java/lang/invoke/MethodHandle" ∧ yX10_leftOf.cls ≠ "java/lang/invoke/VarHandle" ∧ (parseMethodDescriptor yX10_leftOf.desc).map (fun d => d.parameters.length) = some 1 := by decide +kernel
theorem hy_X10_letter : yX10_letter.cls = RX10 ∧ yX10_letter.cls ≠ "java/lang/invoke/MethodHandle" ∧ yX10_letter.cls ≠ "java/lang/invoke/VarHandle" ∧ (parseMethodDescriptor yX10_letter.desc).map (fun d => d.parameters.length) = some 2 := by decide +kernel
theorem hn_X10_letter : yX10_letter.cls ≠ "java/lang/invoke/MethodHandle" ∧ yX10_letter.cls ≠ "java/lang/invoke/VarHandle" ∧ (parseMethodDescriptor yX10_letter.desc).map (fun d => d.parameters.length) = some 2 := by decide +kernel
theorem hy_X10_lies : yX10_lies.cls = RX10 ∧ yX10_lies.cls ≠ "java/lang/invoke/MethodHandle" ∧ yX10_lies.cls ≠ "java/lang/invoke/VarHandle" ∧ (parseMethodDescriptor yX10_lies.desc).map (fun d => d.parameters.length) = some 2 := by decide +kernel
theorem hn_X10_lies : yX10_lies.cls ≠ "java/lang/invoke/MethodHandle" ∧ yX10_lies.cls ≠ "java/lang/invoke/VarHandle" ∧ (parseMethodDescriptor yX10_lies.desc).map (fun d => d.parameters.length) = some 2 := by decide +kernel
theorem hy_X10_look : yX10_look.cls = RX10 ∧ yX10_look.cls ≠ "java/lang/invoke/MethodHandle" ∧ yX10_look.cls ≠ "java/lang/invoke/VarHandle" ∧ (parseMethodDescriptor yX10_look.desc).map (fun d => d.parameters.length) = some 1 := by decide +kernel
theorem hn_X10_look : yX10_look.cls ≠ "java/lang/invoke/MethodHandle" ∧ yX10_look.cls ≠ "java/lang/invoke/VarHandle" ∧ (parseMethodDescriptor yX10_look.desc).map (fun d => d.parameters.length) = some 1 := by decide +kernel
theorem hy_X10_may : yX10_may.cls = RX10 ∧ yX10_may.cls ≠ "java/lang/invoke/MethodHandle" ∧ yX10_may.cls ≠ "java/lang/invoke/VarHandle" ∧ (parseMethodDescriptor yX10_may.desc).map (fun d => d.parameters.length) = some 3 := by decide +kernel
theorem hn_X10_may : yX10_may.cls ≠ "java/lang/invoke/MethodHandle" ∧ yX10_may.cls ≠ "java/lang/invoke/VarHandle" ∧ (parseMethodDescriptor yX10_may.desc).map (fun d => d.parameters.length) = some 3 := by decide +kernel
theorem hy_X10_news : yX10_news.cls = RX10 ∧ yX10_news.cls ≠ "java/lang/invoke/MethodHandle" ∧ yX10_news.cls ≠ "java/lang/invoke/VarHandle" ∧ (parseMethodDescriptor yX10_news.desc).map (fun d => d.parameters.length) = some 2 := by decide +kernel
theorem hn_X10_news : yX10_news.cls ≠ "java/lang/invoke/MethodHandle" ∧ yX10_news.cls ≠ "java/lang/invoke/VarHandle" ∧ (parseMethodDescriptor yX10_news.desc).map (fun d => d.parameters.length) = some 2 := by decide +kernel
theorem hy_X10_newsOf : yX10_newsOf.cls = RX10 ∧ yX10_newsOf.cls ≠ "java/lang/invoke/MethodHandle" ∧ yX10_newsOf.cls ≠ "java/lang/invoke/VarHandle" ∧ (parseMethodDescriptor yX10_newsOf.desc).map (fun d => d.parameters.length) = some 2 := by decide +kernel
theorem hn_X10_newsOf : yX10_newsOf.cls ≠ "java/lang/invoke/MethodHandle" ∧ yX10_newsOf.cls ≠ "java/lang/invoke/VarHandle" ∧ (parseMethodDescriptor yX10_newsOf.desc).map (fun d => d.parameters.length) = some 2 := by decide +kernel
theorem hy_X10_nextWords : yX10_nextWords.cls = RX10 ∧ yX10_nextWords.cls ≠ "java/lang/invoke/MethodHandle" ∧ yX10_nextWords.cls ≠ "java/lang/invoke/VarHandle" ∧ (parseMethodDescriptor yX10_nextWords.desc).map (fun d => d.parameters.length) = some 0 := by decide +kernel
theorem hn_X10_nextWords : yX10_nextWords.cls ≠ "java/lang/invoke/MethodHandle" ∧ yX10_nextWords.cls ≠ "java/lang/invoke/VarHandle" ∧ (parseMethodDescriptor yX10_nextWords.desc).map (fun d => d.parameters.length) = some 0 := by decide +kernel
theorem hy_X10_of : yX10_of.cls = RX10 ∧ yX10_of.cls ≠ "java/lang/invoke/MethodHandle" ∧ yX10_of.cls ≠ "java/lang/invoke/VarHandle" ∧ (parseMethodDescriptor yX10_of.desc).map (fun d => d.parameters.length) = some 1 := by decide +kernel
theorem hn_X10_of : yX10_of.cls ≠ "java/lang/invoke/MethodHandle" ∧ yX10_of.cls ≠ "java/lang/invoke/VarHandle" ∧ (parseMethodDescriptor yX10_of.desc).map (fun d => d.parameters.length) = some 1 := by decide +kernel
theorem hy_X10_often : yX10_often.cls = RX10 ∧ yX10_often.cls ≠ "java/lang/invoke/MethodHandle" ∧ yX10_often.cls ≠ "java/lang/invoke/VarHandle" ∧ (parseMethodDescriptor yX10_often.desc).map (fun d => d.parameters.length) = some 1 := by decide +kernel
theorem hn_X10_often : yX10_often.cls ≠ "java/lang/invoke/MethodHandle" ∧ yX10_often.cls ≠ "java/lang/invoke/VarHandle" ∧ (parseMethodDescriptor yX10_often.desc).map (fun d => d.parameters.length) = some 1 := by decide +kernel
theorem hy_X10_oftenOf : yX10_oftenOf.cls = RX10 ∧ yX10_oftenOf.cls ≠ "java/lang/invoke/MethodHandle" ∧ yX10_oftenOf.cls ≠ "java/lang/invoke/VarHandle" ∧ (parseMethodDescriptor yX10_oftenOf.desc).map (fun d => d.parameters.length) = some 1 := by decide +kernel
theorem hn_X10_oftenOf : yX10_oftenOf.cls ≠ "java/lang/invoke/MethodHandle" ∧ yX10_oftenOf.cls ≠ "java/lang/invoke/VarHandle" ∧ (parseMethodDescriptor yX10_oftenOf.desc).map (fun d => d.parameters.length) = some 1 := by decide +kernel
theorem hy_X10_ones : yX10_ones.cls = RX10 ∧ yX10_ones.cls ≠ "java/lang/invoke/MethodHandle" ∧ yX10_ones.cls ≠ "java/lang/invoke/VarHandle" ∧ (parseMethodDescriptor yX10_ones.desc).map (fun d => d.parameters.length) = some 1 := by decide +kernel
theorem hn_X10_ones : yX10_ones.cls ≠ "java/lang/invoke/MethodHandle" ∧ yX10_ones.cls ≠ "java/lang/invoke/VarHandle" ∧ (parseMethodDescriptor yX10_ones.desc).map (fun d => d.parameters.length) = some 1 := by decide +kernel
theorem hy_X10_opensOne : yX10_opensOne.cls = RX10 ∧ yX10_opensOne.cls ≠ "java/lang/invoke/MethodHandle" ∧ yX10_opensOne.cls ≠ "java/lang/invoke/VarHandle" ∧ (parseMethodDescriptor yX10_opensOne.desc).map (fun d => d.parameters.length) = some 1 := by decide +kernel
theorem hn_X10_opensOne : yX10_opensOne.cls ≠ "java/lang/invoke/MethodHandle" ∧ yX10_opensOne.cls ≠ "java/lang/invoke/VarHandle" ∧ (parseMethodDescriptor yX10_opensOne.desc).map (fun d => d.parameters.length) = some 1 := by decide +kernel
theorem hy_X10_pass : yX10_pass.cls = RX10 ∧ yX10_pass.cls ≠ "java/lang/invoke/MethodHandle" ∧ yX10_pass.cls ≠ "java/lang/invoke/VarHandle" ∧ (parseMethodDescriptor yX10_pass.desc).map (fun d => d.parameters.length) = some 0 := by decide +kernel
theorem hn_X10_pass : yX10_pass.cls ≠ "java/lang/invoke/MethodHandle" ∧ yX10_pass.cls ≠ "java/lang/invoke/VarHandle" ∧ (parseMethodDescriptor yX10_pass.desc).map (fun d => d.parameters.length) = some 0 := by decide +kernel
theorem hy_X10_passes : yX10_passes.cls = RX10 ∧ yX10_passes.cls ≠ "java/lang/invoke/MethodHandle" ∧ yX10_passes.cls ≠ "java/lang/invoke/VarHandle" ∧ (parseMethodDescriptor yX10_passes.desc).map (fun d => d.parameters.length) = some 0 := by decide +kernel
theorem hn_X10_passes : yX10_passes.cls ≠ "java/lang/invoke/MethodHandle" ∧ yX10_passes.cls ≠ "java/lang/invoke/VarHandle" ∧ (parseMethodDescriptor yX10_passes.desc).map (fun d => d.parameters.length) = some 0 := by decide +kernel
theorem hy_X10_pods : yX10_pods.cls = RX10 ∧ yX10_pods.cls ≠ "java/lang/invoke/MethodHandle" ∧ yX10_pods.cls ≠ "java/lang/invoke/VarHandle" ∧ (parseMethodDescriptor yX10_pods.desc).map (fun d => d.parameters.length) = some 4 := by decide +kernel
theorem hn_X10_pods : yX10_pods.cls ≠ "java/lang/invoke/MethodHandle" ∧ yX10_pods.cls ≠ "java/lang/invoke/VarHandle" ∧ (parseMethodDescriptor yX10_pods.desc).map (fun d => d.parameters.length) = some 4 := by decide +kernel
theorem hy_X10_pours : yX10_pours.cls = RX10 ∧ yX10_pours.cls ≠ "java/lang/invoke/MethodHandle" ∧ yX10_pours.cls ≠ "java/lang/invoke/VarHandle" ∧ (parseMethodDescriptor yX10_pours.desc).map (fun d => d.parameters.length) = some 1 := by decide +kernel
theorem hn_X10_pours : yX10_pours.cls ≠ "java/lang/invoke/MethodHandle" ∧ yX10_pours.cls ≠ "java/lang/invoke/VarHandle" ∧ (parseMethodDescriptor yX10_pours.desc).map (fun d => d.parameters.length) = some 1 := by decide +kernel
theorem hy_X10_rains : yX10_rains.cls = RX10 ∧ yX10_rains.cls ≠ "java/lang/invoke/MethodHandle" ∧ yX10_rains.cls ≠ "java/lang/invoke/VarHandle" ∧ (parseMethodDescriptor yX10_rains.desc).map (fun d => d.parameters.length) = some 3 := by decide +kernel
theorem hn_X10_rains : yX10_rains.cls ≠ "java/lang/invoke/MethodHandle" ∧ yX10_rains.cls ≠ "java/lang/invoke/VarHandle" ∧ (parseMethodDescriptor yX10_rains.desc).map (fun d => d.parameters.length) = some 3 := by decide +kernel
theorem hy_X10_readAgain : yX10_readAgain.cls = RX10 ∧ yX10_readAgain.cls ≠ "java/lang/invoke/MethodHandle" ∧ yX10_readAgain.cls ≠ "java/lang/invoke/VarHandle" ∧ (parseMethodDescriptor yX10_readAgain.desc).map (fun d => d.parameters.length) = some 0 := by decide +kernel
theorem hn_X10_readAgain : yX10_readAgain.cls ≠ "java/lang/invoke/MethodHandle" ∧ yX10_readAgain.cls ≠ "java/lang/invoke/VarHandle" ∧ (parseMethodDescriptor yX10_readAgain.desc).map (fun d => d.parameters.length) = some 0 := by decide +kernel
theorem hy_X10_readBedTold : yX10_readBedTold.cls = RX10 ∧ yX10_readBedTold.cls ≠ "java/lang/invoke/MethodHandle" ∧ yX10_readBedTold.cls ≠ "java/lang/invoke/VarHandle" ∧ (parseMethodDescriptor yX10_readBedTold.desc).map (fun d => d.parameters.length) = some 0 := by decide +kernel
theorem hn_X10_readBedTold : yX10_readBedTold.cls ≠ "java/lang/invoke/MethodHandle" ∧ yX10_readBedTold.cls ≠ "java/lang/invoke/VarHandle" ∧ (parseMethodDescriptor yX10_readBedTold.desc).map (fun d => d.parameters.length) = some 0 := by decide +kernel
theorem hy_X10_readFirst : yX10_readFirst.cls = RX10 ∧ yX10_readFirst.cls ≠ "java/lang/invoke/MethodHandle" ∧ yX10_readFirst.cls ≠ "java/lang/invoke/VarHandle" ∧ (parseMethodDescriptor yX10_readFirst.desc).map (fun d => d.parameters.length) = some 1 := by decide +kernel
theorem hn_X10_readFirst : yX10_readFirst.cls ≠ "java/lang/invoke/MethodHandle" ∧ yX10_readFirst.cls ≠ "java/lang/invoke/VarHandle" ∧ (parseMethodDescriptor yX10_readFirst.desc).map (fun d => d.parameters.length) = some 1 := by decide +kernel
theorem hy_X10_readLetter : yX10_readLetter.cls = RX10 ∧ yX10_readLetter.cls ≠ "java/lang/invoke/MethodHandle" ∧ yX10_readLetter.cls ≠ "java/lang/invoke/VarHandle" ∧ (parseMethodDescriptor yX10_readLetter.desc).map (fun d => d.parameters.length) = some 0 := by decide +kernel
theorem hn_X10_readLetter : yX10_readLetter.cls ≠ "java/lang/invoke/MethodHandle" ∧ yX10_readLetter.cls ≠ "java/lang/invoke/VarHandle" ∧ (parseMethodDescriptor yX10_readLetter.desc).map (fun d => d.parameters.length) = some 0 := by decide +kernel
theorem hy_X10_readNumber : yX10_readNumber.cls = RX10 ∧ yX10_readNumber.cls ≠ "java/lang/invoke/MethodHandle" ∧ yX10_readNumber.cls ≠ "java/lang/invoke/VarHandle" ∧ (parseMethodDescriptor yX10_readNumber.desc).map (fun d => d.parameters.length) = some 2 := by decide +kernel
theorem hn_X10_readNumber : yX10_readNumber.cls ≠ "java/lang/invoke/MethodHandle" ∧ yX10_readNumber.cls ≠ "java/lang/invoke/VarHandle" ∧ (parseMethodDescriptor yX10_readNumber.desc).map (fun d => d.parameters.length) = some 2 := by decide +kernel
theorem hy_X10_readProduct : yX10_readProduct.cls = RX10 ∧ yX10_readProduct.cls ≠ "java/lang/invoke/MethodHandle" ∧ yX10_readProduct.cls ≠ "java/lang/invoke/VarHandle" ∧ (parseMethodDescriptor yX10_readProduct.desc).map (fun d => d.parameters.length) = some 0 := by decide +kernel
theorem hn_X10_readProduct : yX10_readProduct.cls ≠ "java/lang/invoke/MethodHandle" ∧ yX10_readProduct.cls ≠ "java/lang/invoke/VarHandle" ∧ (parseMethodDescriptor yX10_readProduct.desc).map (fun d => d.parameters.length) = some 0 := by decide +kernel
theorem hy_X10_readRow : yX10_readRow.cls = RX10 ∧ yX10_readRow.cls ≠ "java/lang/invoke/MethodHandle" ∧ yX10_readRow.cls ≠ "java/lang/invoke/VarHandle" ∧ (parseMethodDescriptor yX10_readRow.desc).map (fun d => d.parameters.length) = some 1 := by decide +kernel
theorem hn_X10_readRow : yX10_readRow.cls ≠ "java/lang/invoke/MethodHandle" ∧ yX10_readRow.cls ≠ "java/lang/invoke/VarHandle" ∧ (parseMethodDescriptor yX10_readRow.desc).map (fun d => d.parameters.length) = some 1 := by decide +kernel
theorem hy_X10_readStep : yX10_readStep.cls = RX10 ∧ yX10_readStep.cls ≠ "java/lang/invoke/MethodHandle" ∧ yX10_readStep.cls ≠ "java/lang/invoke/VarHandle" ∧ (parseMethodDescriptor yX10_readStep.desc).map (fun d => d.parameters.length) = some 0 := by decide +kernel
theorem hn_X10_readStep : yX10_readStep.cls ≠ "java/lang/invoke/MethodHandle" ∧ yX10_readStep.cls ≠ "java/lang/invoke/VarHandle" ∧ (parseMethodDescriptor yX10_readStep.desc).map (fun d => d.parameters.length) = some 0 := by decide +kernel
theorem hy_X10_readSum : yX10_readSum.cls = RX10 ∧ yX10_readSum.cls ≠ "java/lang/invoke/MethodHandle" ∧ yX10_readSum.cls ≠ "java/lang/invoke/VarHandle" ∧ (parseMethodDescriptor yX10_readSum.desc).map (fun d => d.parameters.length) = some 0 := by decide +kernel
theorem hn_X10_readSum : yX10_readSum.cls ≠ "java/lang/invoke/MethodHandle" ∧ yX10_readSum.cls ≠ "java/lang/invoke/VarHandle" ∧ (parseMethodDescriptor yX10_readSum.desc).map (fun d => d.parameters.length) = some 0 := by decide +kernel
theorem hy_X10_readTwo : yX10_readTwo.cls = RX10 ∧ yX10_readTwo.cls ≠ "java/lang/invoke/MethodHandle" ∧ yX10_readTwo.cls ≠ "java/lang/invoke/VarHandle" ∧ (parseMethodDescriptor yX10_readTwo.desc).map (fun d => d.parameters.length) = some 2 := by decide +kernel
theorem hn_X10_readTwo : yX10_readTwo.cls ≠ "java/lang/invoke/MethodHandle" ∧ yX10_readTwo.cls ≠ "java/lang/invoke/VarHandle" ∧ (parseMethodDescriptor yX10_readTwo.desc).map (fun d => d.parameters.length) = some 2 := by decide +kernel
theorem hy_X10_readUnit : yX10_readUnit.cls = RX10 ∧ yX10_readUnit.cls ≠ "java/lang/invoke/MethodHandle" ∧ yX10_readUnit.cls ≠ "java/lang/invoke/VarHandle" ∧ (parseMethodDescriptor yX10_readUnit.desc).map (fun d => d.parameters.length) = some 0 := by decide +kernel
theorem hn_X10_readUnit : yX10_readUnit.cls ≠ "java/lang/invoke/MethodHandle" ∧ yX10_readUnit.cls ≠ "java/lang/invoke/VarHandle" ∧ (parseMethodDescriptor yX10_readUnit.desc).map (fun d => d.parameters.length) = some 0 := by decide +kernel
theorem hy_X10_reader : yX10_reader.cls = RX10 ∧ yX10_reader.cls ≠ "java/lang/invoke/MethodHandle" ∧ yX10_reader.cls ≠ "java/lang/invoke/VarHandle" ∧ (parseMethodDescriptor yX10_reader.desc).map (fun d => d.parameters.length) = some 2 := by decide +kernel
theorem hn_X10_reader : yX10_reader.cls ≠ "java/lang/invoke/MethodHandle" ∧ yX10_reader.cls ≠ "java/lang/invoke/VarHandle" ∧ (parseMethodDescriptor yX10_reader.desc).map (fun d => d.parameters.length) = some 2 := by decide +kernel
theorem hy_X10_restore : yX10_restore.cls = RX10 ∧ yX10_restore.cls ≠ "java/lang/invoke/MethodHandle" ∧ yX10_restore.cls ≠ "java/lang/invoke/VarHandle" ∧ (parseMethodDescriptor yX10_restore.desc).map (fun d => d.parameters.length) = some 0 := by decide +kernel
theorem hn_X10_restore : yX10_restore.cls ≠ "java/lang/invoke/MethodHandle" ∧ yX10_restore.cls ≠ "java/lang/invoke/VarHandle" ∧ (parseMethodDescriptor yX10_restore.desc).map (fun d => d.parameters.length) = some 0 := by decide +kernel
theorem hy_X10_result : yX10_result.cls = RX10 ∧ yX10_result.cls ≠ "java/lang/invoke/MethodHandle" ∧ yX10_result.cls ≠ "java/lang/invoke/VarHandle" ∧ (parseMethodDescriptor yX10_result.desc).map (fun d => d.parameters.length) = some 1 := by decide +kernel
theorem hn_X10_result : yX10_result.cls ≠ "java/lang/invoke/MethodHandle" ∧ yX10_result.cls ≠ "java/lang/invoke/VarHandle" ∧ (parseMethodDescriptor yX10_result.desc).map (fun d => d.parameters.length) = some 1 := by decide +kernel
theorem hy_X10_runBy : yX10_runBy.cls = RX10 ∧ yX10_runBy.cls ≠ "java/lang/invoke/MethodHandle" ∧ yX10_runBy.cls ≠ "java/lang/invoke/VarHandle" ∧ (parseMethodDescriptor yX10_runBy.desc).map (fun d => d.parameters.length) = some 3 := by decide +kernel
theorem hn_X10_runBy : yX10_runBy.cls ≠ "java/lang/invoke/MethodHandle" ∧ yX10_runBy.cls ≠ "java/lang/invoke/VarHandle" ∧ (parseMethodDescriptor yX10_runBy.desc).map (fun d => d.parameters.length) = some 3 := by decide +kernel
theorem hy_X10_runNow : yX10_runNow.cls = RX10 ∧ yX10_runNow.cls ≠ "java/lang/invoke/MethodHandle" ∧ yX10_runNow.cls ≠ "java/lang/invoke/VarHandle" ∧ (parseMethodDescriptor yX10_runNow.desc).map (fun d => d.parameters.length) = some 0 := by decide +kernel
theorem hn_X10_runNow : yX10_runNow.cls ≠ "java/lang/invoke/MethodHandle" ∧ yX10_runNow.cls ≠ "java/lang/invoke/VarHandle" ∧ (parseMethodDescriptor yX10_runNow.desc).map (fun d => d.parameters.length) = some 0 := by decide +kernel
theorem hy_X10_runOf : yX10_runOf.cls = RX10 ∧ yX10_runOf.cls ≠ "java/lang/invoke/MethodHandle" ∧ yX10_runOf.cls ≠ "java/lang/invoke/VarHandle" ∧ (parseMethodDescriptor yX10_runOf.desc).map (fun d => d.parameters.length) = some 7 := by decide +kernel
theorem hn_X10_runOf : yX10_runOf.cls ≠ "java/lang/invoke/MethodHandle" ∧ yX10_runOf.cls ≠ "java/lang/invoke/VarHandle" ∧ (parseMethodDescriptor yX10_runOf.desc).map (fun d => d.parameters.length) = some 7 := by decide +kernel
theorem hy_X10_runs : yX10_runs.cls = RX10 ∧ yX10_runs.cls ≠ "java/lang/invoke/MethodHandle" ∧ yX10_runs.cls ≠ "java/lang/invoke/VarHandle" ∧ (parseMethodDescriptor yX10_runs.desc).map (fun d => d.parameters.length) = some 2 := by decide +kernel
theorem hn_X10_runs : yX10_runs.cls ≠ "java/lang/invoke/MethodHandle" ∧ yX10_runs.cls ≠ "java/lang/invoke/VarHandle" ∧ (parseMethodDescriptor yX10_runs.desc).map (fun d => d.parameters.length) = some 2 := by decide +kernel
theorem hy_X10_runsOut : yX10_runsOut.cls = RX10 ∧ yX10_runsOut.cls ≠ "java/lang/invoke/MethodHandle" ∧ yX10_runsOut.cls ≠ "java/lang/invoke/VarHandle" ∧ (parseMethodDescriptor yX10_runsOut.desc).map (fun d => d.parameters.length) = some 2 := by decide +kernel
theorem hn_X10_runsOut : yX10_runsOut.cls ≠ "java/lang/invoke/MethodHandle" ∧ yX10_runsOut.cls ≠ "java/lang/invoke/VarHandle" ∧ (parseMethodDescriptor yX10_runsOut.desc).map (fun d => d.parameters.length) = some 2 := by decide +kernel
theorem hy_X10_seamOf : yX10_seamOf.cls = RX10 ∧ yX10_seamOf.cls ≠ "java/lang/invoke/MethodHandle" ∧ yX10_seamOf.cls ≠ "java/lang/invoke/VarHandle" ∧ (parseMethodDescriptor yX10_seamOf.desc).map (fun d => d.parameters.length) = some 2 := by decide +kernel
theorem hn_X10_seamOf : yX10_seamOf.cls ≠ "java/lang/invoke/MethodHandle" ∧ yX10_seamOf.cls ≠ "java/lang/invoke/VarHandle" ∧ (parseMethodDescriptor yX10_seamOf.desc).map (fun d => d.parameters.length) = some 2 := by decide +kernel
theorem hy_X10_seed : yX10_seed.cls = RX10 ∧ yX10_seed.cls ≠ "java/lang/invoke/MethodHandle" ∧ yX10_seed.cls ≠ "java/lang/invoke/VarHandle" ∧ (parseMethodDescriptor yX10_seed.desc).map (fun d => d.parameters.length) = some 3 := by decide +kernel
theorem hn_X10_seed : yX10_seed.cls ≠ "java/lang/invoke/MethodHandle" ∧ yX10_seed.cls ≠ "java/lang/invoke/VarHandle" ∧ (parseMethodDescriptor yX10_seed.desc).map (fun d => d.parameters.length) = some 3 := by decide +kernel
theorem hy_X10_seedBy : yX10_seedBy.cls = RX10 ∧ yX10_seedBy.cls ≠ "java/lang/invoke/MethodHandle" ∧ yX10_seedBy.cls ≠ "java/lang/invoke/VarHandle" ∧ (parseMethodDescriptor yX10_seedBy.desc).map (fun d => d.parameters.length) = some 2 := by decide +kernel
theorem hn_X10_seedBy : yX10_seedBy.cls ≠ "java/lang/invoke/MethodHandle" ∧ yX10_seedBy.cls ≠ "java/lang/invoke/VarHandle" ∧ (parseMethodDescriptor yX10_seedBy.desc).map (fun d => d.parameters.length) = some 2 := by decide +kernel
theorem hy_X10_sets : yX10_sets.cls = RX10 ∧ yX10_sets.cls ≠ "java/lang/invoke/MethodHandle" ∧ yX10_sets.cls ≠ "java/lang/invoke/VarHandle" ∧ (parseMethodDescriptor yX10_sets.desc).map (fun d => d.parameters.length) = some 0 := by decide +kernel
theorem hn_X10_sets : yX10_sets.cls ≠ "java/lang/invoke/MethodHandle" ∧ yX10_sets.cls ≠ "java/lang/invoke/VarHandle" ∧ (parseMethodDescriptor yX10_sets.desc).map (fun d => d.parameters.length) = some 0 := by decide +kernel
theorem hy_X10_shared : yX10_shared.cls = RX10 ∧ yX10_shared.cls ≠ "java/lang/invoke/MethodHandle" ∧ yX10_shared.cls ≠ "java/lang/invoke/VarHandle" ∧ (parseMethodDescriptor yX10_shared.desc).map (fun d => d.parameters.length) = some 2 := by decide +kernel
theorem hn_X10_shared : yX10_shared.cls ≠ "java/lang/invoke/MethodHandle" ∧ yX10_shared.cls ≠ "java/lang/invoke/VarHandle" ∧ (parseMethodDescriptor yX10_shared.desc).map (fun d => d.parameters.length) = some 2 := by decide +kernel
theorem hy_X10_she : yX10_she.cls = RX10 ∧ yX10_she.cls ≠ "java/lang/invoke/MethodHandle" ∧ yX10_she.cls ≠ "java/lang/invoke/VarHandle" ∧ (parseMethodDescriptor yX10_she.desc).map (fun d => d.parameters.length) = some 3 := by decide +kernel
theorem hn_X10_she : yX10_she.cls ≠ "java/lang/invoke/MethodHandle" ∧ yX10_she.cls ≠ "java/lang/invoke/VarHandle" ∧ (parseMethodDescriptor yX10_she.desc).map (fun d => d.parameters.length) = some 3 := by decide +kernel
theorem hy_X10_sign : yX10_sign.cls = RX10 ∧ yX10_sign.cls ≠ "java/lang/invoke/MethodHandle" ∧ yX10_sign.cls ≠ "java/lang/invoke/VarHandle" ∧ (parseMethodDescriptor yX10_sign.desc).map (fun d => d.parameters.length) = some 1 := by decide +kernel
theorem hn_X10_sign : yX10_sign.cls ≠ "java/lang/invoke/MethodHandle" ∧ yX10_sign.cls ≠ "java/lang/invoke/VarHandle" ∧ (parseMethodDescriptor yX10_sign.desc).map (fun d => d.parameters.length) = some 1 := by decide +kernel
theorem hy_X10_someLeft : yX10_someLeft.cls = RX10 ∧ yX10_someLeft.cls ≠ "java/lang/invoke/MethodHandle" ∧ yX10_someLeft.cls ≠ "java/lang/invoke/VarHandle" ∧ (parseMethodDescriptor yX10_someLeft.desc).map (fun d => d.parameters.length) = some 0 := by decide +kernel
theorem hn_X10_someLeft : yX10_someLeft.cls ≠ "java/lang/invoke/MethodHandle" ∧ yX10_someLeft.cls ≠ "java/lang/invoke/VarHandle" ∧ (parseMethodDescriptor yX10_someLeft.desc).map (fun d => d.parameters.length) = some 0 := by decide +kernel
theorem hy_X10_span : yX10_span.cls = RX10 ∧ yX10_span.cls ≠ "java/lang/invoke/MethodHandle" ∧ yX10_span.cls ≠ "java/lang/invoke/VarHandle" ∧ (parseMethodDescriptor yX10_span.desc).map (fun d => d.parameters.length) = some 6 := by decide +kernel
theorem hn_X10_span : yX10_span.cls ≠ "java/lang/invoke/MethodHandle" ∧ yX10_span.cls ≠ "java/lang/invoke/VarHandle" ∧ (parseMethodDescriptor yX10_span.desc).map (fun d => d.parameters.length) = some 6 := by decide +kernel
theorem hy_X10_status : yX10_status.cls = RX10 ∧ yX10_status.cls ≠ "java/lang/invoke/MethodHandle" ∧ yX10_status.cls ≠ "java/lang/invoke/VarHandle" ∧ (parseMethodDescriptor yX10_status.desc).map (fun d => d.parameters.length) = some 1 := by decide +kernel
theorem hn_X10_status : yX10_status.cls ≠ "java/lang/invoke/MethodHandle" ∧ yX10_status.cls ≠ "java/lang/invoke/VarHandle" ∧ (parseMethodDescriptor yX10_status.desc).map (fun d => d.parameters.length) = some 1 := by decide +kernel
theorem hy_X10_stepOf : yX10_stepOf.cls = RX10 ∧ yX10_stepOf.cls ≠ "java/lang/invoke/MethodHandle" ∧ yX10_stepOf.cls ≠ "java/lang/invoke/VarHandle" ∧ (parseMethodDescriptor yX10_stepOf.desc).map (fun d => d.parameters.length) = some 1 := by decide +kernel
theorem hn_X10_stepOf : yX10_stepOf.cls ≠ "java/lang/invoke/MethodHandle" ∧ yX10_stepOf.cls ≠ "java/lang/invoke/VarHandle" ∧ (parseMethodDescriptor yX10_stepOf.desc).map (fun d => d.parameters.length) = some 1 := by decide +kernel
theorem hy_X10_stuff : yX10_stuff.cls = RX10 ∧ yX10_stuff.cls ≠ "java/lang/invoke/MethodHandle" ∧ yX10_stuff.cls ≠ "java/lang/invoke/VarHandle" ∧ (parseMethodDescriptor yX10_stuff.desc).map (fun d => d.parameters.length) = some 0 := by decide +kernel
theorem hn_X10_stuff : yX10_stuff.cls ≠ "java/lang/invoke/MethodHandle" ∧ yX10_stuff.cls ≠ "java/lang/invoke/VarHandle" ∧ (parseMethodDescriptor yX10_stuff.desc).map (fun d => d.parameters.length) = some 0 := by decide +kernel
theorem hy_X10_stuffed : yX10_stuffed.cls = RX10 ∧ yX10_stuffed.cls ≠ "java/lang/invoke/MethodHandle" ∧ yX10_stuffed.cls ≠ "java/lang/invoke/VarHandle" ∧ (parseMethodDescriptor yX10_stuffed.desc).map (fun d => d.parameters.length) = some 1 := by decide +kernel
theorem hn_X10_stuffed : yX10_stuffed.cls ≠ "java/lang/invoke/MethodHandle" ∧ yX10_stuffed.cls ≠ "java/lang/invoke/VarHandle" ∧ (parseMethodDescriptor yX10_stuffed.desc).map (fun d => d.parameters.length) = some 1 := by decide +kernel
theorem hy_X10_sumOf : yX10_sumOf.cls = RX10 ∧ yX10_sumOf.cls ≠ "java/lang/invoke/MethodHandle" ∧ yX10_sumOf.cls ≠ "java/lang/invoke/VarHandle" ∧ (parseMethodDescriptor yX10_sumOf.desc).map (fun d => d.parameters.length) = some 2 := by decide +kernel
theorem hn_X10_sumOf : yX10_sumOf.cls ≠ "java/lang/invoke/MethodHandle" ∧ yX10_sumOf.cls ≠ "java/lang/invoke/VarHandle" ∧ (parseMethodDescriptor yX10_sumOf.desc).map (fun d => d.parameters.length) = some 2 := by decide +kernel
theorem hy_X10_summer : yX10_summer.cls = RX10 ∧ yX10_summer.cls ≠ "java/lang/invoke/MethodHandle" ∧ yX10_summer.cls ≠ "java/lang/invoke/VarHandle" ∧ (parseMethodDescriptor yX10_summer.desc).map (fun d => d.parameters.length) = some 4 := by decide +kernel
theorem hn_X10_summer : yX10_summer.cls ≠ "java/lang/invoke/MethodHandle" ∧ yX10_summer.cls ≠ "java/lang/invoke/VarHandle" ∧ (parseMethodDescriptor yX10_summer.desc).map (fun d => d.parameters.length) = some 4 := by decide +kernel
theorem hy_X10_summerGoes : yX10_summerGoes.cls = RX10 ∧ yX10_summerGoes.cls ≠ "java/lang/invoke/MethodHandle" ∧ yX10_summerGoes.cls ≠ "java/lang/invoke/VarHandle" ∧ (parseMethodDescriptor yX10_summerGoes.desc).map (fun d => d.parameters.length) = some 3 := by decide +kernel
theorem hn_X10_summerGoes : yX10_summerGoes.cls ≠ "java/lang/invoke/MethodHandle" ∧ yX10_summerGoes.cls ≠ "java/lang/invoke/VarHandle" ∧ (parseMethodDescriptor yX10_summerGoes.desc).map (fun d => d.parameters.length) = some 3 := by decide +kernel
theorem hy_X10_take : yX10_take.cls = RX10 ∧ yX10_take.cls ≠ "java/lang/invoke/MethodHandle" ∧ yX10_take.cls ≠ "java/lang/invoke/VarHandle" ∧ (parseMethodDescriptor yX10_take.desc).map (fun d => d.parameters.length) = some 0 := by decide +kernel
theorem hn_X10_take : yX10_take.cls ≠ "java/lang/invoke/MethodHandle" ∧ yX10_take.cls ≠ "java/lang/invoke/VarHandle" ∧ (parseMethodDescriptor yX10_take.desc).map (fun d => d.parameters.length) = some 0 := by decide +kernel
theorem hy_X10_tellsStep : yX10_tellsStep.cls = RX10 ∧ yX10_tellsStep.cls ≠ "java/lang/invoke/MethodHandle" ∧ yX10_tellsStep.cls ≠ "java/lang/invoke/VarHandle" ∧ (parseMethodDescriptor yX10_tellsStep.desc).map (fun d => d.parameters.length) = some 3 := by decide +kernel
theorem hn_X10_tellsStep : yX10_tellsStep.cls ≠ "java/lang/invoke/MethodHandle" ∧ yX10_tellsStep.cls ≠ "java/lang/invoke/VarHandle" ∧ (parseMethodDescriptor yX10_tellsStep.desc).map (fun d => d.parameters.length) = some 3 := by decide +kernel
theorem hy_X10_thrown : yX10_thrown.cls = RX10 ∧ yX10_thrown.cls ≠ "java/lang/invoke/MethodHandle" ∧ yX10_thrown.cls ≠ "java/lang/invoke/VarHandle" ∧ (parseMethodDescriptor yX10_thrown.desc).map (fun d => d.parameters.length) = some 0 := by decide +kernel
theorem hn_X10_thrown : yX10_thrown.cls ≠ "java/lang/invoke/MethodHandle" ∧ yX10_thrown.cls ≠ "java/lang/invoke/VarHandle" ∧ (parseMethodDescriptor yX10_thrown.desc).map (fun d => d.parameters.length) = some 0 := by decide +kernel
theorem hy_X10_told : yX10_told.cls = RX10 ∧ yX10_told.cls ≠ "java/lang/invoke/MethodHandle" ∧ yX10_told.cls ≠ "java/lang/invoke/VarHandle" ∧ (parseMethodDescriptor yX10_told.desc).map (fun d => d.parameters.length) = some 1 := by decide +kernel
theorem hn_X10_told : yX10_told.cls ≠ "java/lang/invoke/MethodHandle" ∧ yX10_told.cls ≠ "java/lang/invoke/VarHandle" ∧ (parseMethodDescriptor yX10_told.desc).map (fun d => d.parameters.length) = some 1 := by decide +kernel
theorem hy_X10_tour : yX10_tour.cls = RX10 ∧ yX10_tour.cls ≠ "java/lang/invoke/MethodHandle" ∧ yX10_tour.cls ≠ "java/lang/invoke/VarHandle" ∧ (parseMethodDescriptor yX10_tour.desc).map (fun d => d.parameters.length) = some 1 := by decide +kernel
theorem hn_X10_tour : yX10_tour.cls ≠ "java/lang/invoke/MethodHandle" ∧ yX10_tour.cls ≠ "java/lang/invoke/VarHandle" ∧ (parseMethodDescriptor yX10_tour.desc).map (fun d => d.parameters.length) = some 1 := by decide +kernel
theorem hy_X10_undo : yX10_undo.cls = RX10 ∧ yX10_undo.cls ≠ "java/lang/invoke/MethodHandle" ∧ yX10_undo.cls ≠ "java/lang/invoke/VarHandle" ∧ (parseMethodDescriptor yX10_undo.desc).map (fun d => d.parameters.length) = some 0 := by decide +kernel
theorem hn_X10_undo : yX10_undo.cls ≠ "java/lang/invoke/MethodHandle" ∧ yX10_undo.cls ≠ "java/lang/invoke/VarHandle" ∧ (parseMethodDescriptor yX10_undo.desc).map (fun d => d.parameters.length) = some 0 := by decide +kernel
theorem hy_X10_unread : yX10_unread.cls = RX10 ∧ yX10_unread.cls ≠ "java/lang/invoke/MethodHandle" ∧ yX10_unread.cls ≠ "java/lang/invoke/VarHandle" ∧ (parseMethodDescriptor yX10_unread.desc).map (fun d => d.parameters.length) = some 1 := by decide +kernel
theorem hn_X10_unread : yX10_unread.cls ≠ "java/lang/invoke/MethodHandle" ∧ yX10_unread.cls ≠ "java/lang/invoke/VarHandle" ∧ (parseMethodDescriptor yX10_unread.desc).map (fun d => d.parameters.length) = some 1 := by decide +kernel
theorem hy_X10_valueNow : yX10_valueNow.cls = RX10 ∧ yX10_valueNow.cls ≠ "java/lang/invoke/MethodHandle" ∧ yX10_valueNow.cls ≠ "java/lang/invoke/VarHandle" ∧ (parseMethodDescriptor yX10_valueNow.desc).map (fun d => d.parameters.length) = some 0 := by decide +kernel
theorem hn_X10_valueNow : yX10_valueNow.cls ≠ "java/lang/invoke/MethodHandle" ∧ yX10_valueNow.cls ≠ "java/lang/invoke/VarHandle" ∧ (parseMethodDescriptor yX10_valueNow.desc).map (fun d => d.parameters.length) = some 0 := by decide +kernel
theorem hy_X10_within : yX10_within.cls = RX10 ∧ yX10_within.cls ≠ "java/lang/invoke/MethodHandle" ∧ yX10_within.cls ≠ "java/lang/invoke/VarHandle" ∧ (parseMethodDescriptor yX10_within.desc).map (fun d => d.parameters.length) = some 3 := by decide +kernel
theorem hn_X10_within : yX10_within.cls ≠ "java/lang/invoke/MethodHandle" ∧ yX10_within.cls ≠ "java/lang/invoke/VarHandle" ∧ (parseMethodDescriptor yX10_within.desc).map (fun d => d.parameters.length) = some 3 := by decide +kernel
theorem hy_X10_word : yX10_word.cls = RX10 ∧ yX10_word.cls ≠ "java/lang/invoke/MethodHandle" ∧ yX10_word.cls ≠ "java/lang/invoke/VarHandle" ∧ (parseMethodDescriptor yX10_word.desc).map (fun d => d.parameters.length) = some 2 := by decide +kernel
theorem hn_X10_word : yX10_word.cls ≠ "java/lang/invoke/MethodHandle" ∧ yX10_word.cls ≠ "java/lang/invoke/VarHandle" ∧ (parseMethodDescriptor yX10_word.desc).map (fun d => d.parameters.length) = some 2 := by decide +kernel
theorem hy_X10_wordHere : yX10_wordHere.cls = RX10 ∧ yX10_wordHere.cls ≠ "java/lang/invoke/MethodHandle" ∧ yX10_wordHere.cls ≠ "java/lang/invoke/VarHandle" ∧ (parseMethodDescriptor yX10_wordHere.desc).map (fun d => d.parameters.length) = some 0 := by decide +kernel
theorem hn_X10_wordHere : yX10_wordHere.cls ≠ "java/lang/invoke/MethodHandle" ∧ yX10_wordHere.cls ≠ "java/lang/invoke/VarHandle" ∧ (parseMethodDescriptor yX10_wordHere.desc).map (fun d => d.parameters.length) = some 0 := by decide +kernel
theorem hy_X10_wordOf : yX10_wordOf.cls = RX10 ∧ yX10_wordOf.cls ≠ "java/lang/invoke/MethodHandle" ∧ yX10_wordOf.cls ≠ "java/lang/invoke/VarHandle" ∧ (parseMethodDescriptor yX10_wordOf.desc).map (fun d => d.parameters.length) = some 2 := by decide +kernel
theorem hn_X10_wordOf : yX10_wordOf.cls ≠ "java/lang/invoke/MethodHandle" ∧ yX10_wordOf.cls ≠ "java/lang/invoke/VarHandle" ∧ (parseMethodDescriptor yX10_wordOf.desc).map (fun d => d.parameters.length) = some 2 := by decide +kernel
theorem hy_X10_wordsIn : yX10_wordsIn.cls = RX10 ∧ yX10_wordsIn.cls ≠ "java/lang/invoke/MethodHandle" ∧ yX10_wordsIn.cls ≠ "java/lang/invoke/VarHandle" ∧ (parseMethodDescriptor yX10_wordsIn.desc).map (fun d => d.parameters.length) = some 1 := by decide +kernel
theorem hn_X10_wordsIn : yX10_wordsIn.cls ≠ "java/lang/invoke/MethodHandle" ∧ yX10_wordsIn.cls ≠ "java/lang/invoke/VarHandle" ∧ (parseMethodDescriptor yX10_wordsIn.desc).map (fun d => d.parameters.length) = some 1 := by decide +kernel
theorem hy_X10_work : yX10_work.cls = RX10 ∧ yX10_work.cls ≠ "java/lang/invoke/MethodHandle" ∧ yX10_work.cls ≠ "java/lang/invoke/VarHandle" ∧ (parseMethodDescriptor yX10_work.desc).map (fun d => d.parameters.length) = some 1 := by decide +kernel
theorem hn_X10_work : yX10_work.cls ≠ "java/lang/invoke/MethodHandle" ∧ yX10_work.cls ≠ "java/lang/invoke/VarHandle" ∧ (parseMethodDescriptor yX10_work.desc).map (fun d => d.parameters.length) = some 1 := by decide +kernel
theorem hy_X10_worstOf : yX10_worstOf.cls = RX10 ∧ yX10_worstOf.cls ≠ "java/lang/invoke/MethodHandle" ∧ yX10_worstOf.cls ≠ "java/lang/invoke/VarHandle" ∧ (parseMethodDescriptor yX10_worstOf.desc).map (fun d => d.parameters.length) = some 1 := by decide +kernel
theorem hn_X10_worstOf : yX10_worstOf.cls ≠ "java/lang/invoke/MethodHandle" ∧ yX10_worstOf.cls ≠ "java/lang/invoke/VarHandle" ∧ (parseMethodDescriptor yX10_worstOf.desc).map (fun d => d.parameters.length) = some 1 := by decide +kernel
theorem hy_X10_would : yX10_would.cls = RX10 ∧ yX10_would.cls ≠ "java/lang/invoke/MethodHandle" ∧ yX10_would.cls ≠ "java/lang/invoke/VarHandle" ∧ (parseMethodDescriptor yX10_would.desc).map (fun d => d.parameters.length) = some 7 := by decide +kernel
theorem hn_X10_would : yX10_would.cls ≠ "java/lang/invoke/MethodHandle" ∧ yX10_would.cls ≠ "java/lang/invoke/VarHandle" ∧ (parseMethodDescriptor yX10_would.desc).map (fun d => d.parameters.length) = some 7 := by decide +kernel
theorem hy_X10_wrong : yX10_wrong.cls = RX10 ∧ yX10_wrong.cls ≠ "java/lang/invoke/MethodHandle" ∧ yX10_wrong.cls ≠ "java/lang/invoke/VarHandle" ∧ (parseMethodDescriptor yX10_wrong.desc).map (fun d => d.parameters.length) = some 2 := by decide +kernel
theorem hn_X10_wrong : yX10_wrong.cls ≠ "java/lang/invoke/MethodHandle" ∧ yX10_wrong.cls ≠ "java/lang/invoke/VarHandle" ∧ (parseMethodDescriptor yX10_wrong.desc).map (fun d => d.parameters.length) = some 2 := by decide +kernel
theorem hy_X1_add : yX1_add.cls = RX1 ∧ yX1_add.cls ≠ "java/lang/invoke/MethodHandle" ∧ yX1_add.cls ≠ "java/lang/invoke/VarHandle" ∧ (parseMethodDescriptor yX1_add.desc).map (fun d => d.parameters.length) = some 1 := by decide +kernel
theorem hn_X1_add : yX1_add.cls ≠ "java/lang/invoke/MethodHandle" ∧ yX1_add.cls ≠ "java/lang/invoke/VarHandle" ∧ (parseMethodDescriptor yX1_add.desc).map (fun d => d.parameters.length) = some 1 := by decide +kernel
theorem hy_X1_init : yX1_init.cls = RX1 ∧ yX1_init.cls ≠ "java/lang/invoke/MethodHandle" ∧ yX1_init.cls ≠ "java/lang/invoke/VarHandle" ∧ (parseMethodDescriptor yX1_init.desc).map (fun d => d.parameters.length) = some 0 := by decide +kernel
theorem hn_X1_init : yX1_init.cls ≠ "java/lang/invoke/MethodHandle" ∧ yX1_init.cls ≠ "java/lang/invoke/VarHandle" ∧ (parseMethodDescriptor yX1_init.desc).map (fun d => d.parameters.length) = some 0 := by decide +kernel
theorem hy_X1_joined : yX1_joined.cls = RX1 ∧ yX1_joined.cls ≠ "java/lang/invoke/MethodHandle" ∧ yX1_joined.cls ≠ "java/lang/invoke/VarHandle" ∧ (parseMethodDescriptor yX1_joined.desc).map (fun d => d.parameters.length) = some 3 := by decide +kernel
theorem hn_X1_joined : yX1_joined.cls ≠ "java/lang/invoke/MethodHandle" ∧ yX1_joined.cls ≠ "java/lang/invoke/VarHandle" ∧ (parseMethodDescriptor yX1_joined.desc).map (fun d => d.parameters.length) = some 3 := by decide +kernel
theorem hy_X1_makePlain : yX1_makePlain.cls = RX1 ∧ yX1_makePlain.cls ≠ "java/lang/invoke/MethodHandle" ∧ yX1_makePlain.cls ≠ "java/lang/invoke/VarHandle" ∧ (parseMethodDescriptor yX1_makePlain.desc).map (fun d => d.parameters.length) = some 0 := by decide +kernel
theorem hn_X1_makePlain : yX1_makePlain.cls ≠ "java/lang/invoke/MethodHandle" ∧ yX1_makePlain.cls ≠ "java/lang/invoke/VarHandle" ∧ (parseMethodDescriptor yX1_makePlain.desc).map (fun d => d.parameters.length) = some 0 := by decide +kernel
theorem hy_X1_read : yX1_read.cls = RX1 ∧ yX1_read.cls ≠ "java/lang/invoke/MethodHandle" ∧ yX1_read.cls ≠ "java/lang/invoke/VarHandle" ∧ (parseMethodDescriptor yX1_read.desc).map (fun d => d.parameters.length) = some 1 := by decide +kernel
theorem hn_X1_read : yX1_read.cls ≠ "java/lang/invoke/MethodHandle" ∧ yX1_read.cls ≠ "java/lang/invoke/VarHandle" ∧ (parseMethodDescriptor yX1_read.desc).map (fun d => d.parameters.length) = some 1 := by decide +kernel
theorem hy_X1_readOpen : yX1_readOpen.cls = RX1 ∧ yX1_readOpen.cls ≠ "java/lang/invoke/MethodHandle" ∧ yX1_readOpen.cls ≠ "java/lang/invoke/VarHandle" ∧ (parseMethodDescriptor yX1_readOpen.desc).map (fun d => d.parameters.length) = some 3 := by decide +kernel
theorem hn_X1_readOpen : yX1_readOpen.cls ≠ "java/lang/invoke/MethodHandle" ∧ yX1_readOpen.cls ≠ "java/lang/invoke/VarHandle" ∧ (parseMethodDescriptor yX1_readOpen.desc).map (fun d => d.parameters.length) = some 3 := by decide +kernel
theorem hy_X1_readProduct : yX1_readProduct.cls = RX1 ∧ yX1_readProduct.cls ≠ "java/lang/invoke/MethodHandle" ∧ yX1_readProduct.cls ≠ "java/lang/invoke/VarHandle" ∧ (parseMethodDescriptor yX1_readProduct.desc).map (fun d => d.parameters.length) = some 2 := by decide +kernel
theorem hn_X1_readProduct : yX1_readProduct.cls ≠ "java/lang/invoke/MethodHandle" ∧ yX1_readProduct.cls ≠ "java/lang/invoke/VarHandle" ∧ (parseMethodDescriptor yX1_readProduct.desc).map (fun d => d.parameters.length) = some 2 := by decide +kernel
theorem hy_X1_readSum : yX1_readSum.cls = RX1 ∧ yX1_readSum.cls ≠ "java/lang/invoke/MethodHandle" ∧ yX1_readSum.cls ≠ "java/lang/invoke/VarHandle" ∧ (parseMethodDescriptor yX1_readSum.desc).map (fun d => d.parameters.length) = some 2 := by decide +kernel
theorem hn_X1_readSum : yX1_readSum.cls ≠ "java/lang/invoke/MethodHandle" ∧ yX1_readSum.cls ≠ "java/lang/invoke/VarHandle" ∧ (parseMethodDescriptor yX1_readSum.desc).map (fun d => d.parameters.length) = some 2 := by decide +kernel
theorem hy_X1_readUnit : yX1_readUnit.cls = RX1 ∧ yX1_readUnit.cls ≠ "java/lang/invoke/MethodHandle" ∧ yX1_readUnit.cls ≠ "java/lang/invoke/VarHandle" ∧ (parseMethodDescriptor yX1_readUnit.desc).map (fun d => d.parameters.length) = some 2 := by decide +kernel
theorem hn_X1_readUnit : yX1_readUnit.cls ≠ "java/lang/invoke/MethodHandle" ∧ yX1_readUnit.cls ≠ "java/lang/invoke/VarHandle" ∧ (parseMethodDescriptor yX1_readUnit.desc).map (fun d => d.parameters.length) = some 2 := by decide +kernel
theorem hy_X1_readValue : yX1_readValue.cls = RX1 ∧ yX1_readValue.cls ≠ "java/lang/invoke/MethodHandle" ∧ yX1_readValue.cls ≠ "java/lang/invoke/VarHandle" ∧ (parseMethodDescriptor yX1_readValue.desc).map (fun d => d.parameters.length) = some 1 := by decide +kernel
theorem hn_X1_readValue : yX1_readValue.cls ≠ "java/lang/invoke/MethodHandle" ∧ yX1_readValue.cls ≠ "java/lang/invoke/VarHandle" ∧ (parseMethodDescriptor yX1_readValue.desc).map (fun d => d.parameters.length) = some 1 := by decide +kernel
theorem hy_X1_tells : yX1_tells.cls = RX1 ∧ yX1_tells.cls ≠ "java/lang/invoke/MethodHandle" ∧ yX1_tells.cls ≠ "java/lang/invoke/VarHandle" ∧ (parseMethodDescriptor yX1_tells.desc).map (fun d => d.parameters.length) = some 7 := by decide +kernel
theorem hn_X1_tells : yX1_tells.cls ≠ "java/lang/invoke/MethodHandle" ∧ yX1_tells.cls ≠ "java/lang/invoke/VarHandle" ∧ (parseMethodDescriptor yX1_tells.desc).map (fun d => d.parameters.length) = some 7 := by decide +kernel
theorem hy_X2_init : yX2_init.cls = RX2 ∧ yX2_init.cls ≠ "java/lang/invoke/MethodHandle" ∧ yX2_init.cls ≠ "java/lang/invoke/VarHandle" ∧ (parseMethodDescriptor yX2_init.desc).map (fun d => d.parameters.length) = some 0 := by decide +kernel
theorem hn_X2_init : yX2_init.cls ≠ "java/lang/invoke/MethodHandle" ∧ yX2_init.cls ≠ "java/lang/invoke/VarHandle" ∧ (parseMethodDescriptor yX2_init.desc).map (fun d => d.parameters.length) = some 0 := by decide +kernel
theorem hy_X2_read : yX2_read.cls = RX2 ∧ yX2_read.cls ≠ "java/lang/invoke/MethodHandle" ∧ yX2_read.cls ≠ "java/lang/invoke/VarHandle" ∧ (parseMethodDescriptor yX2_read.desc).map (fun d => d.parameters.length) = some 1 := by decide +kernel
theorem hn_X2_read : yX2_read.cls ≠ "java/lang/invoke/MethodHandle" ∧ yX2_read.cls ≠ "java/lang/invoke/VarHandle" ∧ (parseMethodDescriptor yX2_read.desc).map (fun d => d.parameters.length) = some 1 := by decide +kernel
theorem hy_X2_readBed : yX2_readBed.cls = RX2 ∧ yX2_readBed.cls ≠ "java/lang/invoke/MethodHandle" ∧ yX2_readBed.cls ≠ "java/lang/invoke/VarHandle" ∧ (parseMethodDescriptor yX2_readBed.desc).map (fun d => d.parameters.length) = some 1 := by decide +kernel
theorem hn_X2_readBed : yX2_readBed.cls ≠ "java/lang/invoke/MethodHandle" ∧ yX2_readBed.cls ≠ "java/lang/invoke/VarHandle" ∧ (parseMethodDescriptor yX2_readBed.desc).map (fun d => d.parameters.length) = some 1 := by decide +kernel
theorem hy_X2_readClause : yX2_readClause.cls = RX2 ∧ yX2_readClause.cls ≠ "java/lang/invoke/MethodHandle" ∧ yX2_readClause.cls ≠ "java/lang/invoke/VarHandle" ∧ (parseMethodDescriptor yX2_readClause.desc).map (fun d => d.parameters.length) = some 1 := by decide +kernel
theorem hn_X2_readClause : yX2_readClause.cls ≠ "java/lang/invoke/MethodHandle" ∧ yX2_readClause.cls ≠ "java/lang/invoke/VarHandle" ∧ (parseMethodDescriptor yX2_readClause.desc).map (fun d => d.parameters.length) = some 1 := by decide +kernel
theorem hy_X2_readLetter : yX2_readLetter.cls = RX2 ∧ yX2_readLetter.cls ≠ "java/lang/invoke/MethodHandle" ∧ yX2_readLetter.cls ≠ "java/lang/invoke/VarHandle" ∧ (parseMethodDescriptor yX2_readLetter.desc).map (fun d => d.parameters.length) = some 1 := by decide +kernel
theorem hn_X2_readLetter : yX2_readLetter.cls ≠ "java/lang/invoke/MethodHandle" ∧ yX2_readLetter.cls ≠ "java/lang/invoke/VarHandle" ∧ (parseMethodDescriptor yX2_readLetter.desc).map (fun d => d.parameters.length) = some 1 := by decide +kernel
theorem hy_X2_readReader : yX2_readReader.cls = RX2 ∧ yX2_readReader.cls ≠ "java/lang/invoke/MethodHandle" ∧ yX2_readReader.cls ≠ "java/lang/invoke/VarHandle" ∧ (parseMethodDescriptor yX2_readReader.desc).map (fun d => d.parameters.length) = some 1 := by decide +kernel
theorem hn_X2_readReader : yX2_readReader.cls ≠ "java/lang/invoke/MethodHandle" ∧ yX2_readReader.cls ≠ "java/lang/invoke/VarHandle" ∧ (parseMethodDescriptor yX2_readReader.desc).map (fun d => d.parameters.length) = some 1 := by decide +kernel
theorem hy_X2_wordAt : yX2_wordAt.cls = RX2 ∧ yX2_wordAt.cls ≠ "java/lang/invoke/MethodHandle" ∧ yX2_wordAt.cls ≠ "java/lang/invoke/VarHandle" ∧ (parseMethodDescriptor yX2_wordAt.desc).map (fun d => d.parameters.length) = some 2 := by decide +kernel
theorem hn_X2_wordAt : yX2_wordAt.cls ≠ "java/lang/invoke/MethodHandle" ∧ yX2_wordAt.cls ≠ "java/lang/invoke/VarHandle" ∧ (parseMethodDescriptor yX2_wordAt.desc).map (fun d => d.parameters.length) = some 2 := by decide +kernel
theorem hy_X3_init : yX3_init.cls = RX3 ∧ yX3_init.cls ≠ "java/lang/invoke/MethodHandle" ∧ yX3_init.cls ≠ "java/lang/invoke/VarHandle" ∧ (parseMethodDescriptor yX3_init.desc).map (fun d => d.parameters.length) = some 3 := by decide +kernel
theorem hn_X3_init : yX3_init.cls ≠ "java/lang/invoke/MethodHandle" ∧ yX3_init.cls ≠ "java/lang/invoke/VarHandle" ∧ (parseMethodDescriptor yX3_init.desc).map (fun d => d.parameters.length) = some 3 := by decide +kernel
theorem hy_X4_begin : yX4_begin.cls = RX4 ∧ yX4_begin.cls ≠ "java/lang/invoke/MethodHandle" ∧ yX4_begin.cls ≠ "java/lang/invoke/VarHandle" ∧ (parseMethodDescriptor yX4_begin.desc).map (fun d => d.parameters.length) = some 1 := by decide +kernel
theorem hn_X4_begin : yX4_begin.cls ≠ "java/lang/invoke/MethodHandle" ∧ yX4_begin.cls ≠ "java/lang/invoke/VarHandle" ∧ (parseMethodDescriptor yX4_begin.desc).map (fun d => d.parameters.length) = some 1 := by decide +kernel
theorem hy_X4_blow : yX4_blow.cls = RX4 ∧ yX4_blow.cls ≠ "java/lang/invoke/MethodHandle" ∧ yX4_blow.cls ≠ "java/lang/invoke/VarHandle" ∧ (parseMethodDescriptor yX4_blow.desc).map (fun d => d.parameters.length) = some 2 := by decide +kernel
theorem hn_X4_blow : yX4_blow.cls ≠ "java/lang/invoke/MethodHandle" ∧ yX4_blow.cls ≠ "java/lang/invoke/VarHandle" ∧ (parseMethodDescriptor yX4_blow.desc).map (fun d => d.parameters.length) = some 2 := by decide +kernel
theorem hy_X4_clearBed : yX4_clearBed.cls = RX4 ∧ yX4_clearBed.cls ≠ "java/lang/invoke/MethodHandle" ∧ yX4_clearBed.cls ≠ "java/lang/invoke/VarHandle" ∧ (parseMethodDescriptor yX4_clearBed.desc).map (fun d => d.parameters.length) = some 1 := by decide +kernel
theorem hn_X4_clearBed : yX4_clearBed.cls ≠ "java/lang/invoke/MethodHandle" ∧ yX4_clearBed.cls ≠ "java/lang/invoke/VarHandle" ∧ (parseMethodDescriptor yX4_clearBed.desc).map (fun d => d.parameters.length) = some 1 := by decide +kernel
theorem hy_X4_copy : yX4_copy.cls = RX4 ∧ yX4_copy.cls ≠ "java/lang/invoke/MethodHandle" ∧ yX4_copy.cls ≠ "java/lang/invoke/VarHandle" ∧ (parseMethodDescriptor yX4_copy.desc).map (fun d => d.parameters.length) = some 1 := by decide +kernel
theorem hn_X4_copy : yX4_copy.cls ≠ "java/lang/invoke/MethodHandle" ∧ yX4_copy.cls ≠ "java/lang/invoke/VarHandle" ∧ (parseMethodDescriptor yX4_copy.desc).map (fun d => d.parameters.length) = some 1 := by decide +kernel
theorem hy_X4_go : yX4_go.cls = RX4 ∧ yX4_go.cls ≠ "java/lang/invoke/MethodHandle" ∧ yX4_go.cls ≠ "java/lang/invoke/VarHandle" ∧ (parseMethodDescriptor yX4_go.desc).map (fun d => d.parameters.length) = some 2 := by decide +kernel
theorem hn_X4_go : yX4_go.cls ≠ "java/lang/invoke/MethodHandle" ∧ yX4_go.cls ≠ "java/lang/invoke/VarHandle" ∧ (parseMethodDescriptor yX4_go.desc).map (fun d => d.parameters.length) = some 2 := by decide +kernel
theorem hy_X4_heardByAny : yX4_heardByAny.cls = RX4 ∧ yX4_heardByAny.cls ≠ "java/lang/invoke/MethodHandle" ∧ yX4_heardByAny.cls ≠ "java/lang/invoke/VarHandle" ∧ (parseMethodDescriptor yX4_heardByAny.desc).map (fun d => d.parameters.length) = some 1 := by decide +kernel
theorem hn_X4_heardByAny : yX4_heardByAny.cls ≠ "java/lang/invoke/MethodHandle" ∧ yX4_heardByAny.cls ≠ "java/lang/invoke/VarHandle" ∧ (parseMethodDescriptor yX4_heardByAny.desc).map (fun d => d.parameters.length) = some 1 := by decide +kernel
theorem hy_X4_init : yX4_init.cls = RX4 ∧ yX4_init.cls ≠ "java/lang/invoke/MethodHandle" ∧ yX4_init.cls ≠ "java/lang/invoke/VarHandle" ∧ (parseMethodDescriptor yX4_init.desc).map (fun d => d.parameters.length) = some 0 := by decide +kernel
theorem hn_X4_init : yX4_init.cls ≠ "java/lang/invoke/MethodHandle" ∧ yX4_init.cls ≠ "java/lang/invoke/VarHandle" ∧ (parseMethodDescriptor yX4_init.desc).map (fun d => d.parameters.length) = some 0 := by decide +kernel
theorem hy_X4_isTied : yX4_isTied.cls = RX4 ∧ yX4_isTied.cls ≠ "java/lang/invoke/MethodHandle" ∧ yX4_isTied.cls ≠ "java/lang/invoke/VarHandle" ∧ (parseMethodDescriptor yX4_isTied.desc).map (fun d => d.parameters.length) = some 1 := by decide +kernel
theorem hn_X4_isTied : yX4_isTied.cls ≠ "java/lang/invoke/MethodHandle" ∧ yX4_isTied.cls ≠ "java/lang/invoke/VarHandle" ∧ (parseMethodDescriptor yX4_isTied.desc).map (fun d => d.parameters.length) = some 1 := by decide +kernel
theorem hy_X4_lastAfter : yX4_lastAfter.cls = RX4 ∧ yX4_lastAfter.cls ≠ "java/lang/invoke/MethodHandle" ∧ yX4_lastAfter.cls ≠ "java/lang/invoke/VarHandle" ∧ (parseMethodDescriptor yX4_lastAfter.desc).map (fun d => d.parameters.length) = some 4 := by decide +kernel
theorem hn_X4_lastAfter : yX4_lastAfter.cls ≠ "java/lang/invoke/MethodHandle" ∧ yX4_lastAfter.cls ≠ "java/lang/invoke/VarHandle" ∧ (parseMethodDescriptor yX4_lastAfter.desc).map (fun d => d.parameters.length) = some 4 := by decide +kernel
theorem hy_X4_leftOf : yX4_leftOf.cls = RX4 ∧ yX4_leftOf.cls ≠ "java/lang/invoke/MethodHandle" ∧ yX4_leftOf.cls ≠ "java/lang/invoke/VarHandle" ∧ (parseMethodDescriptor yX4_leftOf.desc).map (fun d => d.parameters.length) = some 2 := by decide +kernel
theorem hn_X4_leftOf : yX4_leftOf.cls ≠ "java/lang/invoke/MethodHandle" ∧ yX4_leftOf.cls ≠ "java/lang/invoke/VarHandle" ∧ (parseMethodDescriptor yX4_leftOf.desc).map (fun d => d.parameters.length) = some 2 := by decide +kernel
theorem hy_X4_leftOfAll : yX4_leftOfAll.cls = RX4 ∧ yX4_leftOfAll.cls ≠ "java/lang/invoke/MethodHandle" ∧ yX4_leftOfAll.cls ≠ "java/lang/invoke/VarHandle" ∧ (parseMethodDescriptor yX4_leftOfAll.desc).map (fun d => d.parameters.length) = some 1 := by decide +kernel
theorem hn_X4_leftOfAll : yX4_leftOfAll.cls ≠ "java/lang/invoke/MethodHandle" ∧ yX4_leftOfAll.cls ≠ "java/lang/invoke/VarHandle" ∧ (parseMethodDescriptor yX4_leftOfAll.desc).map (fun d => d.parameters.length) = some 1 := by decide +kernel
theorem hy_X4_lyingAt : yX4_lyingAt.cls = RX4 ∧ yX4_lyingAt.cls ≠ "java/lang/invoke/MethodHandle" ∧ yX4_lyingAt.cls ≠ "java/lang/invoke/VarHandle" ∧ (parseMethodDescriptor yX4_lyingAt.desc).map (fun d => d.parameters.length) = some 2 := by decide +kernel
theorem hn_X4_lyingAt : yX4_lyingAt.cls ≠ "java/lang/invoke/MethodHandle" ∧ yX4_lyingAt.cls ≠ "java/lang/invoke/VarHandle" ∧ (parseMethodDescriptor yX4_lyingAt.desc).map (fun d => d.parameters.length) = some 2 := by decide +kernel
theorem hy_X4_lyingInAll : yX4_lyingInAll.cls = RX4 ∧ yX4_lyingInAll.cls ≠ "java/lang/invoke/MethodHandle" ∧ yX4_lyingInAll.cls ≠ "java/lang/invoke/VarHandle" ∧ (parseMethodDescriptor yX4_lyingInAll.desc).map (fun d => d.parameters.length) = some 0 := by decide +kernel
theorem hn_X4_lyingInAll : yX4_lyingInAll.cls ≠ "java/lang/invoke/MethodHandle" ∧ yX4_lyingInAll.cls ≠ "java/lang/invoke/VarHandle" ∧ (parseMethodDescriptor yX4_lyingInAll.desc).map (fun d => d.parameters.length) = some 0 := by decide +kernel
theorem hy_X4_nextOf : yX4_nextOf.cls = RX4 ∧ yX4_nextOf.cls ≠ "java/lang/invoke/MethodHandle" ∧ yX4_nextOf.cls ≠ "java/lang/invoke/VarHandle" ∧ (parseMethodDescriptor yX4_nextOf.desc).map (fun d => d.parameters.length) = some 2 := by decide +kernel
theorem hn_X4_nextOf : yX4_nextOf.cls ≠ "java/lang/invoke/MethodHandle" ∧ yX4_nextOf.cls ≠ "java/lang/invoke/VarHandle" ∧ (parseMethodDescriptor yX4_nextOf.desc).map (fun d => d.parameters.length) = some 2 := by decide +kernel
theorem hy_X4_passYear : yX4_passYear.cls = RX4 ∧ yX4_passYear.cls ≠ "java/lang/invoke/MethodHandle" ∧ yX4_passYear.cls ≠ "java/lang/invoke/VarHandle" ∧ (parseMethodDescriptor yX4_passYear.desc).map (fun d => d.parameters.length) = some 1 := by decide +kernel
theorem hn_X4_passYear : yX4_passYear.cls ≠ "java/lang/invoke/MethodHandle" ∧ yX4_passYear.cls ≠ "java/lang/invoke/VarHandle" ∧ (parseMethodDescriptor yX4_passYear.desc).map (fun d => d.parameters.length) = some 1 := by decide +kernel
theorem hy_X4_pour : yX4_pour.cls = RX4 ∧ yX4_pour.cls ≠ "java/lang/invoke/MethodHandle" ∧ yX4_pour.cls ≠ "java/lang/invoke/VarHandle" ∧ (parseMethodDescriptor yX4_pour.desc).map (fun d => d.parameters.length) = some 3 := by decide +kernel
theorem hn_X4_pour : yX4_pour.cls ≠ "java/lang/invoke/MethodHandle" ∧ yX4_pour.cls ≠ "java/lang/invoke/VarHandle" ∧ (parseMethodDescriptor yX4_pour.desc).map (fun d => d.parameters.length) = some 3 := by decide +kernel
theorem hy_X4_readersAt : yX4_readersAt.cls = RX4 ∧ yX4_readersAt.cls ≠ "java/lang/invoke/MethodHandle" ∧ yX4_readersAt.cls ≠ "java/lang/invoke/VarHandle" ∧ (parseMethodDescriptor yX4_readersAt.desc).map (fun d => d.parameters.length) = some 2 := by decide +kernel
theorem hn_X4_readersAt : yX4_readersAt.cls ≠ "java/lang/invoke/MethodHandle" ∧ yX4_readersAt.cls ≠ "java/lang/invoke/VarHandle" ∧ (parseMethodDescriptor yX4_readersAt.desc).map (fun d => d.parameters.length) = some 2 := by decide +kernel
theorem hy_X4_ripen : yX4_ripen.cls = RX4 ∧ yX4_ripen.cls ≠ "java/lang/invoke/MethodHandle" ∧ yX4_ripen.cls ≠ "java/lang/invoke/VarHandle" ∧ (parseMethodDescriptor yX4_ripen.desc).map (fun d => d.parameters.length) = some 1 := by decide +kernel
theorem hn_X4_ripen : yX4_ripen.cls ≠ "java/lang/invoke/MethodHandle" ∧ yX4_ripen.cls ≠ "java/lang/invoke/VarHandle" ∧ (parseMethodDescriptor yX4_ripen.desc).map (fun d => d.parameters.length) = some 1 := by decide +kernel
theorem hy_X4_runOf : yX4_runOf.cls = RX4 ∧ yX4_runOf.cls ≠ "java/lang/invoke/MethodHandle" ∧ yX4_runOf.cls ≠ "java/lang/invoke/VarHandle" ∧ (parseMethodDescriptor yX4_runOf.desc).map (fun d => d.parameters.length) = some 5 := by decide +kernel
theorem hn_X4_runOf : yX4_runOf.cls ≠ "java/lang/invoke/MethodHandle" ∧ yX4_runOf.cls ≠ "java/lang/invoke/VarHandle" ∧ (parseMethodDescriptor yX4_runOf.desc).map (fun d => d.parameters.length) = some 5 := by decide +kernel
theorem hy_X4_runOut : yX4_runOut.cls = RX4 ∧ yX4_runOut.cls ≠ "java/lang/invoke/MethodHandle" ∧ yX4_runOut.cls ≠ "java/lang/invoke/VarHandle" ∧ (parseMethodDescriptor yX4_runOut.desc).map (fun d => d.parameters.length) = some 3 := by decide +kernel
theorem hn_X4_runOut : yX4_runOut.cls ≠ "java/lang/invoke/MethodHandle" ∧ yX4_runOut.cls ≠ "java/lang/invoke/VarHandle" ∧ (parseMethodDescriptor yX4_runOut.desc).map (fun d => d.parameters.length) = some 3 := by decide +kernel
theorem hy_X4_timesOf : yX4_timesOf.cls = RX4 ∧ yX4_timesOf.cls ≠ "java/lang/invoke/MethodHandle" ∧ yX4_timesOf.cls ≠ "java/lang/invoke/VarHandle" ∧ (parseMethodDescriptor yX4_timesOf.desc).map (fun d => d.parameters.length) = some 2 := by decide +kernel
theorem hn_X4_timesOf : yX4_timesOf.cls ≠ "java/lang/invoke/MethodHandle" ∧ yX4_timesOf.cls ≠ "java/lang/invoke/VarHandle" ∧ (parseMethodDescriptor yX4_timesOf.desc).map (fun d => d.parameters.length) = some 2 := by decide +kernel
theorem hy_X4_toldBy : yX4_toldBy.cls = RX4 ∧ yX4_toldBy.cls ≠ "java/lang/invoke/MethodHandle" ∧ yX4_toldBy.cls ≠ "java/lang/invoke/VarHandle" ∧ (parseMethodDescriptor yX4_toldBy.desc).map (fun d => d.parameters.length) = some 3 := by decide +kernel
theorem hn_X4_toldBy : yX4_toldBy.cls ≠ "java/lang/invoke/MethodHandle" ∧ yX4_toldBy.cls ≠ "java/lang/invoke/VarHandle" ∧ (parseMethodDescriptor yX4_toldBy.desc).map (fun d => d.parameters.length) = some 3 := by decide +kernel
theorem hy_X4_wetBy : yX4_wetBy.cls = RX4 ∧ yX4_wetBy.cls ≠ "java/lang/invoke/MethodHandle" ∧ yX4_wetBy.cls ≠ "java/lang/invoke/VarHandle" ∧ (parseMethodDescriptor yX4_wetBy.desc).map (fun d => d.parameters.length) = some 1 := by decide +kernel
theorem hn_X4_wetBy : yX4_wetBy.cls ≠ "java/lang/invoke/MethodHandle" ∧ yX4_wetBy.cls ≠ "java/lang/invoke/VarHandle" ∧ (parseMethodDescriptor yX4_wetBy.desc).map (fun d => d.parameters.length) = some 1 := by decide +kernel
theorem hy_X4_wordsIn : yX4_wordsIn.cls = RX4 ∧ yX4_wordsIn.cls ≠ "java/lang/invoke/MethodHandle" ∧ yX4_wordsIn.cls ≠ "java/lang/invoke/VarHandle" ∧ (parseMethodDescriptor yX4_wordsIn.desc).map (fun d => d.parameters.length) = some 1 := by decide +kernel
theorem hn_X4_wordsIn : yX4_wordsIn.cls ≠ "java/lang/invoke/MethodHandle" ∧ yX4_wordsIn.cls ≠ "java/lang/invoke/VarHandle" ∧ (parseMethodDescriptor yX4_wordsIn.desc).map (fun d => d.parameters.length) = some 1 := by decide +kernel
theorem hy_X4_wordsInAll : yX4_wordsInAll.cls = RX4 ∧ yX4_wordsInAll.cls ≠ "java/lang/invoke/MethodHandle" ∧ yX4_wordsInAll.cls ≠ "java/lang/invoke/VarHandle" ∧ (parseMethodDescriptor yX4_wordsInAll.desc).map (fun d => d.parameters.length) = some 1 := by decide +kernel
theorem hn_X4_wordsInAll : yX4_wordsInAll.cls ≠ "java/lang/invoke/MethodHandle" ∧ yX4_wordsInAll.cls ≠ "java/lang/invoke/VarHandle" ∧ (parseMethodDescriptor yX4_wordsInAll.desc).map (fun d => d.parameters.length) = some 1 := by decide +kernel
theorem hy_X5_bestBehind : yX5_bestBehind.cls = RX5 ∧ yX5_bestBehind.cls ≠ "java/lang/invoke/MethodHandle" ∧ yX5_bestBehind.cls ≠ "java/lang/invoke/VarHandle" ∧ (parseMethodDescriptor yX5_bestBehind.desc).map (fun d => d.parameters.length) = some 2 := by decide +kernel
theorem hn_X5_bestBehind : yX5_bestBehind.cls ≠ "java/lang/invoke/MethodHandle" ∧ yX5_bestBehind.cls ≠ "java/lang/invoke/VarHandle" ∧ (parseMethodDescriptor yX5_bestBehind.desc).map (fun d => d.parameters.length) = some 2 := by decide +kernel
theorem hy_X5_choose : yX5_choose.cls = RX5 ∧ yX5_choose.cls ≠ "java/lang/invoke/MethodHandle" ∧ yX5_choose.cls ≠ "java/lang/invoke/VarHandle" ∧ (parseMethodDescriptor yX5_choose.desc).map (fun d => d.parameters.length) = some 1 := by decide +kernel
theorem hn_X5_choose : yX5_choose.cls ≠ "java/lang/invoke/MethodHandle" ∧ yX5_choose.cls ≠ "java/lang/invoke/VarHandle" ∧ (parseMethodDescriptor yX5_choose.desc).map (fun d => d.parameters.length) = some 1 := by decide +kernel
theorem hy_X5_find : yX5_find.cls = RX5 ∧ yX5_find.cls ≠ "java/lang/invoke/MethodHandle" ∧ yX5_find.cls ≠ "java/lang/invoke/VarHandle" ∧ (parseMethodDescriptor yX5_find.desc).map (fun d => d.parameters.length) = some 2 := by decide +kernel
theorem hn_X5_find : yX5_find.cls ≠ "java/lang/invoke/MethodHandle" ∧ yX5_find.cls ≠ "java/lang/invoke/VarHandle" ∧ (parseMethodDescriptor yX5_find.desc).map (fun d => d.parameters.length) = some 2 := by decide +kernel
theorem hy_X5_init : yX5_init.cls = RX5 ∧ yX5_init.cls ≠ "java/lang/invoke/MethodHandle" ∧ yX5_init.cls ≠ "java/lang/invoke/VarHandle" ∧ (parseMethodDescriptor yX5_init.desc).map (fun d => d.parameters.length) = some 0 := by decide +kernel
theorem hn_X5_init : yX5_init.cls ≠ "java/lang/invoke/MethodHandle" ∧ yX5_init.cls ≠ "java/lang/invoke/VarHandle" ∧ (parseMethodDescriptor yX5_init.desc).map (fun d => d.parameters.length) = some 0 := by decide +kernel
theorem hy_X5_worth : yX5_worth.cls = RX5 ∧ yX5_worth.cls ≠ "java/lang/invoke/MethodHandle" ∧ yX5_worth.cls ≠ "java/lang/invoke/VarHandle" ∧ (parseMethodDescriptor yX5_worth.desc).map (fun d => d.parameters.length) = some 3 := by decide +kernel
theorem hn_X5_worth : yX5_worth.cls ≠ "java/lang/invoke/MethodHandle" ∧ yX5_worth.cls ≠ "java/lang/invoke/VarHandle" ∧ (parseMethodDescriptor yX5_worth.desc).map (fun d => d.parameters.length) = some 3 := by decide +kernel
theorem hy_X6_draw : yX6_draw.cls = RX6 ∧ yX6_draw.cls ≠ "java/lang/invoke/MethodHandle" ∧ yX6_draw.cls ≠ "java/lang/invoke/VarHandle" ∧ (parseMethodDescriptor yX6_draw.desc).map (fun d => d.parameters.length) = some 1 := by decide +kernel
theorem hn_X6_draw : yX6_draw.cls ≠ "java/lang/invoke/MethodHandle" ∧ yX6_draw.cls ≠ "java/lang/invoke/VarHandle" ∧ (parseMethodDescriptor yX6_draw.desc).map (fun d => d.parameters.length) = some 1 := by decide +kernel
theorem hy_X6_init : yX6_init.cls = RX6 ∧ yX6_init.cls ≠ "java/lang/invoke/MethodHandle" ∧ yX6_init.cls ≠ "java/lang/invoke/VarHandle" ∧ (parseMethodDescriptor yX6_init.desc).map (fun d => d.parameters.length) = some 0 := by decide +kernel
theorem hn_X6_init : yX6_init.cls ≠ "java/lang/invoke/MethodHandle" ∧ yX6_init.cls ≠ "java/lang/invoke/VarHandle" ∧ (parseMethodDescriptor yX6_init.desc).map (fun d => d.parameters.length) = some 0 := by decide +kernel
theorem hy_X6_pass : yX6_pass.cls = RX6 ∧ yX6_pass.cls ≠ "java/lang/invoke/MethodHandle" ∧ yX6_pass.cls ≠ "java/lang/invoke/VarHandle" ∧ (parseMethodDescriptor yX6_pass.desc).map (fun d => d.parameters.length) = some 6 := by decide +kernel
theorem hn_X6_pass : yX6_pass.cls ≠ "java/lang/invoke/MethodHandle" ∧ yX6_pass.cls ≠ "java/lang/invoke/VarHandle" ∧ (parseMethodDescriptor yX6_pass.desc).map (fun d => d.parameters.length) = some 6 := by decide +kernel
theorem hy_X6_passHalf : yX6_passHalf.cls = RX6 ∧ yX6_passHalf.cls ≠ "java/lang/invoke/MethodHandle" ∧ yX6_passHalf.cls ≠ "java/lang/invoke/VarHandle" ∧ (parseMethodDescriptor yX6_passHalf.desc).map (fun d => d.parameters.length) = some 4 := by decide +kernel
theorem hn_X6_passHalf : yX6_passHalf.cls ≠ "java/lang/invoke/MethodHandle" ∧ yX6_passHalf.cls ≠ "java/lang/invoke/VarHandle" ∧ (parseMethodDescriptor yX6_passHalf.desc).map (fun d => d.parameters.length) = some 4 := by decide +kernel
theorem hy_X7_answer : yX7_answer.cls = RX7 ∧ yX7_answer.cls ≠ "java/lang/invoke/MethodHandle" ∧ yX7_answer.cls ≠ "java/lang/invoke/VarHandle" ∧ (parseMethodDescriptor yX7_answer.desc).map (fun d => d.parameters.length) = some 0 := by decide +kernel
theorem hn_X7_answer : yX7_answer.cls ≠ "java/lang/invoke/MethodHandle" ∧ yX7_answer.cls ≠ "java/lang/invoke/VarHandle" ∧ (parseMethodDescriptor yX7_answer.desc).map (fun d => d.parameters.length) = some 0 := by decide +kernel
theorem hy_X7_blame : yX7_blame.cls = RX7 ∧ yX7_blame.cls ≠ "java/lang/invoke/MethodHandle" ∧ yX7_blame.cls ≠ "java/lang/invoke/VarHandle" ∧ (parseMethodDescriptor yX7_blame.desc).map (fun d => d.parameters.length) = some 1 := by decide +kernel
theorem hn_X7_blame : yX7_blame.cls ≠ "java/lang/invoke/MethodHandle" ∧ yX7_blame.cls ≠ "java/lang/invoke/VarHandle" ∧ (parseMethodDescriptor yX7_blame.desc).map (fun d => d.parameters.length) = some 1 := by decide +kernel
theorem hy_X7_byteAt : yX7_byteAt.cls = RX7 ∧ yX7_byteAt.cls ≠ "java/lang/invoke/MethodHandle" ∧ yX7_byteAt.cls ≠ "java/lang/invoke/VarHandle" ∧ (parseMethodDescriptor yX7_byteAt.desc).map (fun d => d.parameters.length) = some 1 := by decide +kernel
theorem hn_X7_byteAt : yX7_byteAt.cls ≠ "java/lang/invoke/MethodHandle" ∧ yX7_byteAt.cls ≠ "java/lang/invoke/VarHandle" ∧ (parseMethodDescriptor yX7_byteAt.desc).map (fun d => d.parameters.length) = some 1 := by decide +kernel
theorem hy_X7_empty : yX7_empty.cls = RX7 ∧ yX7_empty.cls ≠ "java/lang/invoke/MethodHandle" ∧ yX7_empty.cls ≠ "java/lang/invoke/VarHandle" ∧ (parseMethodDescriptor yX7_empty.desc).map (fun d => d.parameters.length) = some 0 := by decide +kernel
theorem hn_X7_empty : yX7_empty.cls ≠ "java/lang/invoke/MethodHandle" ∧ yX7_empty.cls ≠ "java/lang/invoke/VarHandle" ∧ (parseMethodDescriptor yX7_empty.desc).map (fun d => d.parameters.length) = some 0 := by decide +kernel
theorem hy_X7_hasRoom : yX7_hasRoom.cls = RX7 ∧ yX7_hasRoom.cls ≠ "java/lang/invoke/MethodHandle" ∧ yX7_hasRoom.cls ≠ "java/lang/invoke/VarHandle" ∧ (parseMethodDescriptor yX7_hasRoom.desc).map (fun d => d.parameters.length) = some 0 := by decide +kernel
theorem hn_X7_hasRoom : yX7_hasRoom.cls ≠ "java/lang/invoke/MethodHandle" ∧ yX7_hasRoom.cls ≠ "java/lang/invoke/VarHandle" ∧ (parseMethodDescriptor yX7_hasRoom.desc).map (fun d => d.parameters.length) = some 0 := by decide +kernel
theorem hy_X7_init : yX7_init.cls = RX7 ∧ yX7_init.cls ≠ "java/lang/invoke/MethodHandle" ∧ yX7_init.cls ≠ "java/lang/invoke/VarHandle" ∧ (parseMethodDescriptor yX7_init.desc).map (fun d => d.parameters.length) = some 0 := by decide +kernel
theorem hn_X7_init : yX7_init.cls ≠ "java/lang/invoke/MethodHandle" ∧ yX7_init.cls ≠ "java/lang/invoke/VarHandle" ∧ (parseMethodDescriptor yX7_init.desc).map (fun d => d.parameters.length) = some 0 := by decide +kernel
theorem hy_X7_isAtEnd : yX7_isAtEnd.cls = RX7 ∧ yX7_isAtEnd.cls ≠ "java/lang/invoke/MethodHandle" ∧ yX7_isAtEnd.cls ≠ "java/lang/invoke/VarHandle" ∧ (parseMethodDescriptor yX7_isAtEnd.desc).map (fun d => d.parameters.length) = some 0 := by decide +kernel
theorem hn_X7_isAtEnd : yX7_isAtEnd.cls ≠ "java/lang/invoke/MethodHandle" ∧ yX7_isAtEnd.cls ≠ "java/lang/invoke/VarHandle" ∧ (parseMethodDescriptor yX7_isAtEnd.desc).map (fun d => d.parameters.length) = some 0 := by decide +kernel
theorem hy_X7_isAtNumber : yX7_isAtNumber.cls = RX7 ∧ yX7_isAtNumber.cls ≠ "java/lang/invoke/MethodHandle" ∧ yX7_isAtNumber.cls ≠ "java/lang/invoke/VarHandle" ∧ (parseMethodDescriptor yX7_isAtNumber.desc).map (fun d => d.parameters.length) = some 0 := by decide +kernel
theorem hn_X7_isAtNumber : yX7_isAtNumber.cls ≠ "java/lang/invoke/MethodHandle" ∧ yX7_isAtNumber.cls ≠ "java/lang/invoke/VarHandle" ∧ (parseMethodDescriptor yX7_isAtNumber.desc).map (fun d => d.parameters.length) = some 0 := by decide +kernel
theorem hy_X7_isDigit : yX7_isDigit.cls = RX7 ∧ yX7_isDigit.cls ≠ "java/lang/invoke/MethodHandle" ∧ yX7_isDigit.cls ≠ "java/lang/invoke/VarHandle" ∧ (parseMethodDescriptor yX7_isDigit.desc).map (fun d => d.parameters.length) = some 1 := by decide +kernel
theorem hn_X7_isDigit : yX7_isDigit.cls ≠ "java/lang/invoke/MethodHandle" ∧ yX7_isDigit.cls ≠ "java/lang/invoke/VarHandle" ∧ (parseMethodDescriptor yX7_isDigit.desc).map (fun d => d.parameters.length) = some 1 := by decide +kernel
theorem hy_X7_isSmallLetter : yX7_isSmallLetter.cls = RX7 ∧ yX7_isSmallLetter.cls ≠ "java/lang/invoke/MethodHandle" ∧ yX7_isSmallLetter.cls ≠ "java/lang/invoke/VarHandle" ∧ (parseMethodDescriptor yX7_isSmallLetter.desc).map (fun d => d.parameters.length) = some 1 := by decide +kernel
theorem hn_X7_isSmallLetter : yX7_isSmallLetter.cls ≠ "java/lang/invoke/MethodHandle" ∧ yX7_isSmallLetter.cls ≠ "java/lang/invoke/VarHandle" ∧ (parseMethodDescriptor yX7_isSmallLetter.desc).map (fun d => d.parameters.length) = some 1 := by decide +kernel
theorem hy_X7_isSound : yX7_isSound.cls = RX7 ∧ yX7_isSound.cls ≠ "java/lang/invoke/MethodHandle" ∧ yX7_isSound.cls ≠ "java/lang/invoke/VarHandle" ∧ (parseMethodDescriptor yX7_isSound.desc).map (fun d => d.parameters.length) = some 0 := by decide +kernel
theorem hn_X7_isSound : yX7_isSound.cls ≠ "java/lang/invoke/MethodHandle" ∧ yX7_isSound.cls ≠ "java/lang/invoke/VarHandle" ∧ (parseMethodDescriptor yX7_isSound.desc).map (fun d => d.parameters.length) = some 0 := by decide +kernel
theorem hy_X7_need : yX7_need.cls = RX7 ∧ yX7_need.cls ≠ "java/lang/invoke/MethodHandle" ∧ yX7_need.cls ≠ "java/lang/invoke/VarHandle" ∧ (parseMethodDescriptor yX7_need.desc).map (fun d => d.parameters.length) = some 1 := by decide +kernel
theorem hn_X7_need : yX7_need.cls ≠ "java/lang/invoke/MethodHandle" ∧ yX7_need.cls ≠ "java/lang/invoke/VarHandle" ∧ (parseMethodDescriptor yX7_need.desc).map (fun d => d.parameters.length) = some 1 := by decide +kernel
theorem hy_X7_needEnd : yX7_needEnd.cls = RX7 ∧ yX7_needEnd.cls ≠ "java/lang/invoke/MethodHandle" ∧ yX7_needEnd.cls ≠ "java/lang/invoke/VarHandle" ∧ (parseMethodDescriptor yX7_needEnd.desc).map (fun d => d.parameters.length) = some 0 := by decide +kernel
theorem hn_X7_needEnd : yX7_needEnd.cls ≠ "java/lang/invoke/MethodHandle" ∧ yX7_needEnd.cls ≠ "java/lang/invoke/VarHandle" ∧ (parseMethodDescriptor yX7_needEnd.desc).map (fun d => d.parameters.length) = some 0 := by decide +kernel
theorem hy_X7_number : yX7_number.cls = RX7 ∧ yX7_number.cls ≠ "java/lang/invoke/MethodHandle" ∧ yX7_number.cls ≠ "java/lang/invoke/VarHandle" ∧ (parseMethodDescriptor yX7_number.desc).map (fun d => d.parameters.length) = some 2 := by decide +kernel
theorem hn_X7_number : yX7_number.cls ≠ "java/lang/invoke/MethodHandle" ∧ yX7_number.cls ≠ "java/lang/invoke/VarHandle" ∧ (parseMethodDescriptor yX7_number.desc).map (fun d => d.parameters.length) = some 2 := by decide +kernel
theorem hy_X7_open : yX7_open.cls = RX7 ∧ yX7_open.cls ≠ "java/lang/invoke/MethodHandle" ∧ yX7_open.cls ≠ "java/lang/invoke/VarHandle" ∧ (parseMethodDescriptor yX7_open.desc).map (fun d => d.parameters.length) = some 1 := by decide +kernel
theorem hn_X7_open : yX7_open.cls ≠ "java/lang/invoke/MethodHandle" ∧ yX7_open.cls ≠ "java/lang/invoke/VarHandle" ∧ (parseMethodDescriptor yX7_open.desc).map (fun d => d.parameters.length) = some 1 := by decide +kernel
theorem hy_X7_peek : yX7_peek.cls = RX7 ∧ yX7_peek.cls ≠ "java/lang/invoke/MethodHandle" ∧ yX7_peek.cls ≠ "java/lang/invoke/VarHandle" ∧ (parseMethodDescriptor yX7_peek.desc).map (fun d => d.parameters.length) = some 0 := by decide +kernel
theorem hn_X7_peek : yX7_peek.cls ≠ "java/lang/invoke/MethodHandle" ∧ yX7_peek.cls ≠ "java/lang/invoke/VarHandle" ∧ (parseMethodDescriptor yX7_peek.desc).map (fun d => d.parameters.length) = some 0 := by decide +kernel
theorem hy_X7_put : yX7_put.cls = RX7 ∧ yX7_put.cls ≠ "java/lang/invoke/MethodHandle" ∧ yX7_put.cls ≠ "java/lang/invoke/VarHandle" ∧ (parseMethodDescriptor yX7_put.desc).map (fun d => d.parameters.length) = some 1 := by decide +kernel
theorem hn_X7_put : yX7_put.cls ≠ "java/lang/invoke/MethodHandle" ∧ yX7_put.cls ≠ "java/lang/invoke/VarHandle" ∧ (parseMethodDescriptor yX7_put.desc).map (fun d => d.parameters.length) = some 1 := by decide +kernel
theorem hy_X7_takes : yX7_takes.cls = RX7 ∧ yX7_takes.cls ≠ "java/lang/invoke/MethodHandle" ∧ yX7_takes.cls ≠ "java/lang/invoke/VarHandle" ∧ (parseMethodDescriptor yX7_takes.desc).map (fun d => d.parameters.length) = some 1 := by decide +kernel
theorem hn_X7_takes : yX7_takes.cls ≠ "java/lang/invoke/MethodHandle" ∧ yX7_takes.cls ≠ "java/lang/invoke/VarHandle" ∧ (parseMethodDescriptor yX7_takes.desc).map (fun d => d.parameters.length) = some 1 := by decide +kernel
theorem hy_X7_takes_ : yX7_takes_.cls = RX7 ∧ yX7_takes_.cls ≠ "java/lang/invoke/MethodHandle" ∧ yX7_takes_.cls ≠ "java/lang/invoke/VarHandle" ∧ (parseMethodDescriptor yX7_takes_.desc).map (fun d => d.parameters.length) = some 1 := by decide +kernel
theorem hn_X7_takes_ : yX7_takes_.cls ≠ "java/lang/invoke/MethodHandle" ∧ yX7_takes_.cls ≠ "java/lang/invoke/VarHandle" ∧ (parseMethodDescriptor yX7_takes_.desc).map (fun d => d.parameters.length) = some 1 := by decide +kernel
theorem hy_X8_add : yX8_add.cls = RX8 ∧ yX8_add.cls ≠ "java/lang/invoke/MethodHandle" ∧ yX8_add.cls ≠ "java/lang/invoke/VarHandle" ∧ (parseMethodDescriptor yX8_add.desc).map (fun d => d.parameters.length) = some 3 := by decide +kernel
theorem hn_X8_add : yX8_add.cls ≠ "java/lang/invoke/MethodHandle" ∧ yX8_add.cls ≠ "java/lang/invoke/VarHandle" ∧ (parseMethodDescriptor yX8_add.desc).map (fun d => d.parameters.length) = some 3 := by decide +kernel
theorem hy_X8_afterRound : yX8_afterRound.cls = RX8 ∧ yX8_afterRound.cls ≠ "java/lang/invoke/MethodHandle" ∧ yX8_afterRound.cls ≠ "java/lang/invoke/VarHandle" ∧ (parseMethodDescriptor yX8_afterRound.desc).map (fun d => d.parameters.length) = some 1 := by decide +kernel
theorem hn_X8_afterRound : yX8_afterRound.cls ≠ "java/lang/invoke/MethodHandle" ∧ yX8_afterRound.cls ≠ "java/lang/invoke/VarHandle" ∧ (parseMethodDescriptor yX8_afterRound.desc).map (fun d => d.parameters.length) = some 1 := by decide +kernel
theorem hy_X8_init : yX8_init.cls = RX8 ∧ yX8_init.cls ≠ "java/lang/invoke/MethodHandle" ∧ yX8_init.cls ≠ "java/lang/invoke/VarHandle" ∧ (parseMethodDescriptor yX8_init.desc).map (fun d => d.parameters.length) = some 0 := by decide +kernel
theorem hn_X8_init : yX8_init.cls ≠ "java/lang/invoke/MethodHandle" ∧ yX8_init.cls ≠ "java/lang/invoke/VarHandle" ∧ (parseMethodDescriptor yX8_init.desc).map (fun d => d.parameters.length) = some 0 := by decide +kernel
theorem hy_X8_isDone : yX8_isDone.cls = RX8 ∧ yX8_isDone.cls ≠ "java/lang/invoke/MethodHandle" ∧ yX8_isDone.cls ≠ "java/lang/invoke/VarHandle" ∧ (parseMethodDescriptor yX8_isDone.desc).map (fun d => d.parameters.length) = some 4 := by decide +kernel
theorem hn_X8_isDone : yX8_isDone.cls ≠ "java/lang/invoke/MethodHandle" ∧ yX8_isDone.cls ≠ "java/lang/invoke/VarHandle" ∧ (parseMethodDescriptor yX8_isDone.desc).map (fun d => d.parameters.length) = some 4 := by decide +kernel
theorem hy_X8_perform : yX8_perform.cls = RX8 ∧ yX8_perform.cls ≠ "java/lang/invoke/MethodHandle" ∧ yX8_perform.cls ≠ "java/lang/invoke/VarHandle" ∧ (parseMethodDescriptor yX8_perform.desc).map (fun d => d.parameters.length) = some 3 := by decide +kernel
theorem hn_X8_perform : yX8_perform.cls ≠ "java/lang/invoke/MethodHandle" ∧ yX8_perform.cls ≠ "java/lang/invoke/VarHandle" ∧ (parseMethodDescriptor yX8_perform.desc).map (fun d => d.parameters.length) = some 3 := by decide +kernel
theorem hy_X8_read : yX8_read.cls = RX8 ∧ yX8_read.cls ≠ "java/lang/invoke/MethodHandle" ∧ yX8_read.cls ≠ "java/lang/invoke/VarHandle" ∧ (parseMethodDescriptor yX8_read.desc).map (fun d => d.parameters.length) = some 2 := by decide +kernel
theorem hn_X8_read : yX8_read.cls ≠ "java/lang/invoke/MethodHandle" ∧ yX8_read.cls ≠ "java/lang/invoke/VarHandle" ∧ (parseMethodDescriptor yX8_read.desc).map (fun d => d.parameters.length) = some 2 := by decide +kernel
theorem hy_X8_readAgain : yX8_readAgain.cls = RX8 ∧ yX8_readAgain.cls ≠ "java/lang/invoke/MethodHandle" ∧ yX8_readAgain.cls ≠ "java/lang/invoke/VarHandle" ∧ (parseMethodDescriptor yX8_readAgain.desc).map (fun d => d.parameters.length) = some 3 := by decide +kernel
theorem hn_X8_readAgain : yX8_readAgain.cls ≠ "java/lang/invoke/MethodHandle" ∧ yX8_readAgain.cls ≠ "java/lang/invoke/VarHandle" ∧ (parseMethodDescriptor yX8_readAgain.desc).map (fun d => d.parameters.length) = some 3 := by decide +kernel
theorem hy_X8_readStep : yX8_readStep.cls = RX8 ∧ yX8_readStep.cls ≠ "java/lang/invoke/MethodHandle" ∧ yX8_readStep.cls ≠ "java/lang/invoke/VarHandle" ∧ (parseMethodDescriptor yX8_readStep.desc).map (fun d => d.parameters.length) = some 3 := by decide +kernel
theorem hn_X8_readStep : yX8_readStep.cls ≠ "java/lang/invoke/MethodHandle" ∧ yX8_readStep.cls ≠ "java/lang/invoke/VarHandle" ∧ (parseMethodDescriptor yX8_readStep.desc).map (fun d => d.parameters.length) = some 3 := by decide +kernel
theorem hy_X8_readSteps : yX8_readSteps.cls = RX8 ∧ yX8_readSteps.cls ≠ "java/lang/invoke/MethodHandle" ∧ yX8_readSteps.cls ≠ "java/lang/invoke/VarHandle" ∧ (parseMethodDescriptor yX8_readSteps.desc).map (fun d => d.parameters.length) = some 3 := by decide +kernel
theorem hn_X8_readSteps : yX8_readSteps.cls ≠ "java/lang/invoke/MethodHandle" ∧ yX8_readSteps.cls ≠ "java/lang/invoke/VarHandle" ∧ (parseMethodDescriptor yX8_readSteps.desc).map (fun d => d.parameters.length) = some 3 := by decide +kernel
theorem hy_X9_ahead : yX9_ahead.cls = RX9 ∧ yX9_ahead.cls ≠ "java/lang/invoke/MethodHandle" ∧ yX9_ahead.cls ≠ "java/lang/invoke/VarHandle" ∧ (parseMethodDescriptor yX9_ahead.desc).map (fun d => d.parameters.length) = some 2 := by decide +kernel
theorem hn_X9_ahead : yX9_ahead.cls ≠ "java/lang/invoke/MethodHandle" ∧ yX9_ahead.cls ≠ "java/lang/invoke/VarHandle" ∧ (parseMethodDescriptor yX9_ahead.desc).map (fun d => d.parameters.length) = some 2 := by decide +kernel
theorem hy_X9_all : yX9_all.cls = RX9 ∧ yX9_all.cls ≠ "java/lang/invoke/MethodHandle" ∧ yX9_all.cls ≠ "java/lang/invoke/VarHandle" ∧ (parseMethodDescriptor yX9_all.desc).map (fun d => d.parameters.length) = some 1 := by decide +kernel
theorem hn_X9_all : yX9_all.cls ≠ "java/lang/invoke/MethodHandle" ∧ yX9_all.cls ≠ "java/lang/invoke/VarHandle" ∧ (parseMethodDescriptor yX9_all.desc).map (fun d => d.parameters.length) = some 1 := by decide +kernel
theorem hy_X9_bed : yX9_bed.cls = RX9 ∧ yX9_bed.cls ≠ "java/lang/invoke/MethodHandle" ∧ yX9_bed.cls ≠ "java/lang/invoke/VarHandle" ∧ (parseMethodDescriptor yX9_bed.desc).map (fun d => d.parameters.length) = some 2 := by decide +kernel
theorem hn_X9_bed : yX9_bed.cls ≠ "java/lang/invoke/MethodHandle" ∧ yX9_bed.cls ≠ "java/lang/invoke/VarHandle" ∧ (parseMethodDescriptor yX9_bed.desc).map (fun d => d.parameters.length) = some 2 := by decide +kernel
theorem hy_X9_book : yX9_book.cls = RX9 ∧ yX9_book.cls ≠ "java/lang/invoke/MethodHandle" ∧ yX9_book.cls ≠ "java/lang/invoke/VarHandle" ∧ (parseMethodDescriptor yX9_book.desc).map (fun d => d.parameters.length) = some 1 := by decide +kernel
theorem hn_X9_book : yX9_book.cls ≠ "java/lang/invoke/MethodHandle" ∧ yX9_book.cls ≠ "java/lang/invoke/VarHandle" ∧ (parseMethodDescriptor yX9_book.desc).map (fun d => d.parameters.length) = some 1 := by decide +kernel
theorem hy_X9_coming : yX9_coming.cls = RX9 ∧ yX9_coming.cls ≠ "java/lang/invoke/MethodHandle" ∧ yX9_coming.cls ≠ "java/lang/invoke/VarHandle" ∧ (parseMethodDescriptor yX9_coming.desc).map (fun d => d.parameters.length) = some 2 := by decide +kernel
theorem hn_X9_coming : yX9_coming.cls ≠ "java/lang/invoke/MethodHandle" ∧ yX9_coming.cls ≠ "java/lang/invoke/VarHandle" ∧ (parseMethodDescriptor yX9_coming.desc).map (fun d => d.parameters.length) = some 2 := by decide +kernel
theorem hy_X9_count : yX9_count.cls = RX9 ∧ yX9_count.cls ≠ "java/lang/invoke/MethodHandle" ∧ yX9_count.cls ≠ "java/lang/invoke/VarHandle" ∧ (parseMethodDescriptor yX9_count.desc).map (fun d => d.parameters.length) = some 1 := by decide +kernel
theorem hn_X9_count : yX9_count.cls ≠ "java/lang/invoke/MethodHandle" ∧ yX9_count.cls ≠ "java/lang/invoke/VarHandle" ∧ (parseMethodDescriptor yX9_count.desc).map (fun d => d.parameters.length) = some 1 := by decide +kernel
theorem hy_X9_drains : yX9_drains.cls = RX9 ∧ yX9_drains.cls ≠ "java/lang/invoke/MethodHandle" ∧ yX9_drains.cls ≠ "java/lang/invoke/VarHandle" ∧ (parseMethodDescriptor yX9_drains.desc).map (fun d => d.parameters.length) = some 1 := by decide +kernel
theorem hn_X9_drains : yX9_drains.cls ≠ "java/lang/invoke/MethodHandle" ∧ yX9_drains.cls ≠ "java/lang/invoke/VarHandle" ∧ (parseMethodDescriptor yX9_drains.desc).map (fun d => d.parameters.length) = some 1 := by decide +kernel
theorem hy_X9_fault : yX9_fault.cls = RX9 ∧ yX9_fault.cls ≠ "java/lang/invoke/MethodHandle" ∧ yX9_fault.cls ≠ "java/lang/invoke/VarHandle" ∧ (parseMethodDescriptor yX9_fault.desc).map (fun d => d.parameters.length) = some 0 := by decide +kernel
theorem hn_X9_fault : yX9_fault.cls ≠ "java/lang/invoke/MethodHandle" ∧ yX9_fault.cls ≠ "java/lang/invoke/VarHandle" ∧ (parseMethodDescriptor yX9_fault.desc).map (fun d => d.parameters.length) = some 0 := by decide +kernel
theorem hy_X9_feed : yX9_feed.cls = RX9 ∧ yX9_feed.cls ≠ "java/lang/invoke/MethodHandle" ∧ yX9_feed.cls ≠ "java/lang/invoke/VarHandle" ∧ (parseMethodDescriptor yX9_feed.desc).map (fun d => d.parameters.length) = some 5 := by decide +kernel
theorem hn_X9_feed : yX9_feed.cls ≠ "java/lang/invoke/MethodHandle" ∧ yX9_feed.cls ≠ "java/lang/invoke/VarHandle" ∧ (parseMethodDescriptor yX9_feed.desc).map (fun d => d.parameters.length) = some 5 := by decide +kernel
theorem hy_X9_fewestBeds : yX9_fewestBeds.cls = RX9 ∧ yX9_fewestBeds.cls ≠ "java/lang/invoke/MethodHandle" ∧ yX9_fewestBeds.cls ≠ "java/lang/invoke/VarHandle" ∧ (parseMethodDescriptor yX9_fewestBeds.desc).map (fun d => d.parameters.length) = some 1 := by decide +kernel
theorem hn_X9_fewestBeds : yX9_fewestBeds.cls ≠ "java/lang/invoke/MethodHandle" ∧ yX9_fewestBeds.cls ≠ "java/lang/invoke/VarHandle" ∧ (parseMethodDescriptor yX9_fewestBeds.desc).map (fun d => d.parameters.length) = some 1 := by decide +kernel
theorem hy_X9_fits : yX9_fits.cls = RX9 ∧ yX9_fits.cls ≠ "java/lang/invoke/MethodHandle" ∧ yX9_fits.cls ≠ "java/lang/invoke/VarHandle" ∧ (parseMethodDescriptor yX9_fits.desc).map (fun d => d.parameters.length) = some 1 := by decide +kernel
theorem hn_X9_fits : yX9_fits.cls ≠ "java/lang/invoke/MethodHandle" ∧ yX9_fits.cls ≠ "java/lang/invoke/VarHandle" ∧ (parseMethodDescriptor yX9_fits.desc).map (fun d => d.parameters.length) = some 1 := by decide +kernel
theorem hy_X9_forgetImages : yX9_forgetImages.cls = RX9 ∧ yX9_forgetImages.cls ≠ "java/lang/invoke/MethodHandle" ∧ yX9_forgetImages.cls ≠ "java/lang/invoke/VarHandle" ∧ (parseMethodDescriptor yX9_forgetImages.desc).map (fun d => d.parameters.length) = some 0 := by decide +kernel
theorem hn_X9_forgetImages : yX9_forgetImages.cls ≠ "java/lang/invoke/MethodHandle" ∧ yX9_forgetImages.cls ≠ "java/lang/invoke/VarHandle" ∧ (parseMethodDescriptor yX9_forgetImages.desc).map (fun d => d.parameters.length) = some 0 := by decide +kernel
theorem hy_X9_full : yX9_full.cls = RX9 ∧ yX9_full.cls ≠ "java/lang/invoke/MethodHandle" ∧ yX9_full.cls ≠ "java/lang/invoke/VarHandle" ∧ (parseMethodDescriptor yX9_full.desc).map (fun d => d.parameters.length) = some 1 := by decide +kernel
theorem hn_X9_full : yX9_full.cls ≠ "java/lang/invoke/MethodHandle" ∧ yX9_full.cls ≠ "java/lang/invoke/VarHandle" ∧ (parseMethodDescriptor yX9_full.desc).map (fun d => d.parameters.length) = some 1 := by decide +kernel
theorem hy_X9_garden : yX9_garden.cls = RX9 ∧ yX9_garden.cls ≠ "java/lang/invoke/MethodHandle" ∧ yX9_garden.cls ≠ "java/lang/invoke/VarHandle" ∧ (parseMethodDescriptor yX9_garden.desc).map (fun d => d.parameters.length) = some 1 := by decide +kernel
theorem hn_X9_garden : yX9_garden.cls ≠ "java/lang/invoke/MethodHandle" ∧ yX9_garden.cls ≠ "java/lang/invoke/VarHandle" ∧ (parseMethodDescriptor yX9_garden.desc).map (fun d => d.parameters.length) = some 1 := by decide +kernel
theorem hy_X9_getting : yX9_getting.cls = RX9 ∧ yX9_getting.cls ≠ "java/lang/invoke/MethodHandle" ∧ yX9_getting.cls ≠ "java/lang/invoke/VarHandle" ∧ (parseMethodDescriptor yX9_getting.desc).map (fun d => d.parameters.length) = some 4 := by decide +kernel
theorem hn_X9_getting : yX9_getting.cls ≠ "java/lang/invoke/MethodHandle" ∧ yX9_getting.cls ≠ "java/lang/invoke/VarHandle" ∧ (parseMethodDescriptor yX9_getting.desc).map (fun d => d.parameters.length) = some 4 := by decide +kernel
theorem hy_X9_givenBy : yX9_givenBy.cls = RX9 ∧ yX9_givenBy.cls ≠ "java/lang/invoke/MethodHandle" ∧ yX9_givenBy.cls ≠ "java/lang/invoke/VarHandle" ∧ (parseMethodDescriptor yX9_givenBy.desc).map (fun d => d.parameters.length) = some 2 := by decide +kernel
theorem hn_X9_givenBy : yX9_givenBy.cls ≠ "java/lang/invoke/MethodHandle" ∧ yX9_givenBy.cls ≠ "java/lang/invoke/VarHandle" ∧ (parseMethodDescriptor yX9_givenBy.desc).map (fun d => d.parameters.length) = some 2 := by decide +kernel
theorem hy_X9_grown : yX9_grown.cls = RX9 ∧ yX9_grown.cls ≠ "java/lang/invoke/MethodHandle" ∧ yX9_grown.cls ≠ "java/lang/invoke/VarHandle" ∧ (parseMethodDescriptor yX9_grown.desc).map (fun d => d.parameters.length) = some 1 := by decide +kernel
theorem hn_X9_grown : yX9_grown.cls ≠ "java/lang/invoke/MethodHandle" ∧ yX9_grown.cls ≠ "java/lang/invoke/VarHandle" ∧ (parseMethodDescriptor yX9_grown.desc).map (fun d => d.parameters.length) = some 1 := by decide +kernel
theorem hy_X9_has : yX9_has.cls = RX9 ∧ yX9_has.cls ≠ "java/lang/invoke/MethodHandle" ∧ yX9_has.cls ≠ "java/lang/invoke/VarHandle" ∧ (parseMethodDescriptor yX9_has.desc).map (fun d => d.parameters.length) = some 2 := by decide +kernel
theorem hn_X9_has : yX9_has.cls ≠ "java/lang/invoke/MethodHandle" ∧ yX9_has.cls ≠ "java/lang/invoke/VarHandle" ∧ (parseMethodDescriptor yX9_has.desc).map (fun d => d.parameters.length) = some 2 := by decide +kernel
theorem hy_X9_hearers : yX9_hearers.cls = RX9 ∧ yX9_hearers.cls ≠ "java/lang/invoke/MethodHandle" ∧ yX9_hearers.cls ≠ "java/lang/invoke/VarHandle" ∧ (parseMethodDescriptor yX9_hearers.desc).map (fun d => d.parameters.length) = some 1 := by decide +kernel
theorem hn_X9_hearers : yX9_hearers.cls ≠ "java/lang/invoke/MethodHandle" ∧ yX9_hearers.cls ≠ "java/lang/invoke/VarHandle" ∧ (parseMethodDescriptor yX9_hearers.desc).map (fun d => d.parameters.length) = some 1 := by decide +kernel
theorem hy_X9_image : yX9_image.cls = RX9 ∧ yX9_image.cls ≠ "java/lang/invoke/MethodHandle" ∧ yX9_image.cls ≠ "java/lang/invoke/VarHandle" ∧ (parseMethodDescriptor yX9_image.desc).map (fun d => d.parameters.length) = some 0 := by decide +kernel
theorem hn_X9_image : yX9_image.cls ≠ "java/lang/invoke/MethodHandle" ∧ yX9_image.cls ≠ "java/lang/invoke/VarHandle" ∧ (parseMethodDescriptor yX9_image.desc).map (fun d => d.parameters.length) = some 0 := by decide +kernel
theorem hy_X9_init : yX9_init.cls = RX9 ∧ yX9_init.cls ≠ "java/lang/invoke/MethodHandle" ∧ yX9_init.cls ≠ "java/lang/invoke/VarHandle" ∧ (parseMethodDescriptor yX9_init.desc).map (fun d => d.parameters.length) = some 0 := by decide +kernel
theorem hn_X9_init : yX9_init.cls ≠ "java/lang/invoke/MethodHandle" ∧ yX9_init.cls ≠ "java/lang/invoke/VarHandle" ∧ (parseMethodDescriptor yX9_init.desc).map (fun d => d.parameters.length) = some 0 := by decide +kernel
theorem hy_X9_isContent : yX9_isContent.cls = RX9 ∧ yX9_isContent.cls ≠ "java/lang/invoke/MethodHandle" ∧ yX9_isContent.cls ≠ "java/lang/invoke/VarHandle" ∧ (parseMethodDescriptor yX9_isContent.desc).map (fun d => d.parameters.length) = some 4 := by decide +kernel
theorem hn_X9_isContent : yX9_isContent.cls ≠ "java/lang/invoke/MethodHandle" ∧ yX9_isContent.cls ≠ "java/lang/invoke/VarHandle" ∧ (parseMethodDescriptor yX9_isContent.desc).map (fun d => d.parameters.length) = some 4 := by decide +kernel
theorem hy_X9_law : yX9_law.cls = RX9 ∧ yX9_law.cls ≠ "java/lang/invoke/MethodHandle" ∧ yX9_law.cls ≠ "java/lang/invoke/VarHandle" ∧ (parseMethodDescriptor yX9_law.desc).map (fun d => d.parameters.length) = some 1 := by decide +kernel
theorem hn_X9_law : yX9_law.cls ≠ "java/lang/invoke/MethodHandle" ∧ yX9_law.cls ≠ "java/lang/invoke/VarHandle" ∧ (parseMethodDescriptor yX9_law.desc).map (fun d => d.parameters.length) = some 1 := by decide +kernel
theorem hy_X9_letter : yX9_letter.cls = RX9 ∧ yX9_letter.cls ≠ "java/lang/invoke/MethodHandle" ∧ yX9_letter.cls ≠ "java/lang/invoke/VarHandle" ∧ (parseMethodDescriptor yX9_letter.desc).map (fun d => d.parameters.length) = some 2 := by decide +kernel
theorem hn_X9_letter : yX9_letter.cls ≠ "java/lang/invoke/MethodHandle" ∧ yX9_letter.cls ≠ "java/lang/invoke/VarHandle" ∧ (parseMethodDescriptor yX9_letter.desc).map (fun d => d.parameters.length) = some 2 := by decide +kernel
theorem hy_X9_lies : yX9_lies.cls = RX9 ∧ yX9_lies.cls ≠ "java/lang/invoke/MethodHandle" ∧ yX9_lies.cls ≠ "java/lang/invoke/VarHandle" ∧ (parseMethodDescriptor yX9_lies.desc).map (fun d => d.parameters.length) = some 2 := by decide +kernel
theorem hn_X9_lies : yX9_lies.cls ≠ "java/lang/invoke/MethodHandle" ∧ yX9_lies.cls ≠ "java/lang/invoke/VarHandle" ∧ (parseMethodDescriptor yX9_lies.desc).map (fun d => d.parameters.length) = some 2 := by decide +kernel
theorem hy_X9_look : yX9_look.cls = RX9 ∧ yX9_look.cls ≠ "java/lang/invoke/MethodHandle" ∧ yX9_look.cls ≠ "java/lang/invoke/VarHandle" ∧ (parseMethodDescriptor yX9_look.desc).map (fun d => d.parameters.length) = some 1 := by decide +kernel
theorem hn_X9_look : yX9_look.cls ≠ "java/lang/invoke/MethodHandle" ∧ yX9_look.cls ≠ "java/lang/invoke/VarHandle" ∧ (parseMethodDescriptor yX9_look.desc).map (fun d => d.parameters.length) = some 1 := by decide +kernel
theorem hy_X9_mostLeftBy : yX9_mostLeftBy.cls = RX9 ∧ yX9_mostLeftBy.cls ≠ "java/lang/invoke/MethodHandle" ∧ yX9_mostLeftBy.cls ≠ "java/lang/invoke/VarHandle" ∧ (parseMethodDescriptor yX9_mostLeftBy.desc).map (fun d => d.parameters.length) = some 1 := by decide +kernel
theorem hn_X9_mostLeftBy : yX9_mostLeftBy.cls ≠ "java/lang/invoke/MethodHandle" ∧ yX9_mostLeftBy.cls ≠ "java/lang/invoke/VarHandle" ∧ (parseMethodDescriptor yX9_mostLeftBy.desc).map (fun d => d.parameters.length) = some 1 := by decide +kernel
theorem hy_X9_needOneOf : yX9_needOneOf.cls = RX9 ∧ yX9_needOneOf.cls ≠ "java/lang/invoke/MethodHandle" ∧ yX9_needOneOf.cls ≠ "java/lang/invoke/VarHandle" ∧ (parseMethodDescriptor yX9_needOneOf.desc).map (fun d => d.parameters.length) = some 2 := by decide +kernel
theorem hn_X9_needOneOf : yX9_needOneOf.cls ≠ "java/lang/invoke/MethodHandle" ∧ yX9_needOneOf.cls ≠ "java/lang/invoke/VarHandle" ∧ (parseMethodDescriptor yX9_needOneOf.desc).map (fun d => d.parameters.length) = some 2 := by decide +kernel
theorem hy_X9_needPlace : yX9_needPlace.cls = RX9 ∧ yX9_needPlace.cls ≠ "java/lang/invoke/MethodHandle" ∧ yX9_needPlace.cls ≠ "java/lang/invoke/VarHandle" ∧ (parseMethodDescriptor yX9_needPlace.desc).map (fun d => d.parameters.length) = some 1 := by decide +kernel
theorem hn_X9_needPlace : yX9_needPlace.cls ≠ "java/lang/invoke/MethodHandle" ∧ yX9_needPlace.cls ≠ "java/lang/invoke/VarHandle" ∧ (parseMethodDescriptor yX9_needPlace.desc).map (fun d => d.parameters.length) = some 1 := by decide +kernel
theorem hy_X9_needRange : yX9_needRange.cls = RX9 ∧ yX9_needRange.cls ≠ "java/lang/invoke/MethodHandle" ∧ yX9_needRange.cls ≠ "java/lang/invoke/VarHandle" ∧ (parseMethodDescriptor yX9_needRange.desc).map (fun d => d.parameters.length) = some 3 := by decide +kernel
theorem hn_X9_needRange : yX9_needRange.cls ≠ "java/lang/invoke/MethodHandle" ∧ yX9_needRange.cls ≠ "java/lang/invoke/VarHandle" ∧ (parseMethodDescriptor yX9_needRange.desc).map (fun d => d.parameters.length) = some 3 := by decide +kernel
theorem hy_X9_needText : yX9_needText.cls = RX9 ∧ yX9_needText.cls ≠ "java/lang/invoke/MethodHandle" ∧ yX9_needText.cls ≠ "java/lang/invoke/VarHandle" ∧ (parseMethodDescriptor yX9_needText.desc).map (fun d => d.parameters.length) = some 2 := by decide +kernel
theorem hn_X9_needText : yX9_needText.cls ≠ "java/lang/invoke/MethodHandle" ∧ yX9_needText.cls ≠ "java/lang/invoke/VarHandle" ∧ (parseMethodDescriptor yX9_needText.desc).map (fun d => d.parameters.length) = some 2 := by decide +kernel
theorem hy_X9_news : yX9_news.cls = RX9 ∧ yX9_news.cls ≠ "java/lang/invoke/MethodHandle" ∧ yX9_news.cls ≠ "java/lang/invoke/VarHandle" ∧ (parseMethodDescriptor yX9_news.desc).map (fun d => d.parameters.length) = some 2 := by decide +kernel
theorem hn_X9_news : yX9_news.cls ≠ "java/lang/invoke/MethodHandle" ∧ yX9_news.cls ≠ "java/lang/invoke/VarHandle" ∧ (parseMethodDescriptor yX9_news.desc).map (fun d => d.parameters.length) = some 2 := by decide +kernel
theorem hy_X9_often : yX9_often.cls = RX9 ∧ yX9_often.cls ≠ "java/lang/invoke/MethodHandle" ∧ yX9_often.cls ≠ "java/lang/invoke/VarHandle" ∧ (parseMethodDescriptor yX9_often.desc).map (fun d => d.parameters.length) = some 1 := by decide +kernel
theorem hn_X9_often : yX9_often.cls ≠ "java/lang/invoke/MethodHandle" ∧ yX9_often.cls ≠ "java/lang/invoke/VarHandle" ∧ (parseMethodDescriptor yX9_often.desc).map (fun d => d.parameters.length) = some 1 := by decide +kernel
theorem hy_X9_pods : yX9_pods.cls = RX9 ∧ yX9_pods.cls ≠ "java/lang/invoke/MethodHandle" ∧ yX9_pods.cls ≠ "java/lang/invoke/VarHandle" ∧ (parseMethodDescriptor yX9_pods.desc).map (fun d => d.parameters.length) = some 4 := by decide +kernel
theorem hn_X9_pods : yX9_pods.cls ≠ "java/lang/invoke/MethodHandle" ∧ yX9_pods.cls ≠ "java/lang/invoke/VarHandle" ∧ (parseMethodDescriptor yX9_pods.desc).map (fun d => d.parameters.length) = some 4 := by decide +kernel
theorem hy_X9_power : yX9_power.cls = RX9 ∧ yX9_power.cls ≠ "java/lang/invoke/MethodHandle" ∧ yX9_power.cls ≠ "java/lang/invoke/VarHandle" ∧ (parseMethodDescriptor yX9_power.desc).map (fun d => d.parameters.length) = some 2 := by decide +kernel
theorem hn_X9_power : yX9_power.cls ≠ "java/lang/invoke/MethodHandle" ∧ yX9_power.cls ≠ "java/lang/invoke/VarHandle" ∧ (parseMethodDescriptor yX9_power.desc).map (fun d => d.parameters.length) = some 2 := by decide +kernel
theorem hy_X9_rains : yX9_rains.cls = RX9 ∧ yX9_rains.cls ≠ "java/lang/invoke/MethodHandle" ∧ yX9_rains.cls ≠ "java/lang/invoke/VarHandle" ∧ (parseMethodDescriptor yX9_rains.desc).map (fun d => d.parameters.length) = some 3 := by decide +kernel
theorem hn_X9_rains : yX9_rains.cls ≠ "java/lang/invoke/MethodHandle" ∧ yX9_rains.cls ≠ "java/lang/invoke/VarHandle" ∧ (parseMethodDescriptor yX9_rains.desc).map (fun d => d.parameters.length) = some 3 := by decide +kernel
theorem hy_X9_reader : yX9_reader.cls = RX9 ∧ yX9_reader.cls ≠ "java/lang/invoke/MethodHandle" ∧ yX9_reader.cls ≠ "java/lang/invoke/VarHandle" ∧ (parseMethodDescriptor yX9_reader.desc).map (fun d => d.parameters.length) = some 2 := by decide +kernel
theorem hn_X9_reader : yX9_reader.cls ≠ "java/lang/invoke/MethodHandle" ∧ yX9_reader.cls ≠ "java/lang/invoke/VarHandle" ∧ (parseMethodDescriptor yX9_reader.desc).map (fun d => d.parameters.length) = some 2 := by decide +kernel
theorem hy_X9_restore : yX9_restore.cls = RX9 ∧ yX9_restore.cls ≠ "java/lang/invoke/MethodHandle" ∧ yX9_restore.cls ≠ "java/lang/invoke/VarHandle" ∧ (parseMethodDescriptor yX9_restore.desc).map (fun d => d.parameters.length) = some 0 := by decide +kernel
theorem hn_X9_restore : yX9_restore.cls ≠ "java/lang/invoke/MethodHandle" ∧ yX9_restore.cls ≠ "java/lang/invoke/VarHandle" ∧ (parseMethodDescriptor yX9_restore.desc).map (fun d => d.parameters.length) = some 0 := by decide +kernel
theorem hy_X9_runs : yX9_runs.cls = RX9 ∧ yX9_runs.cls ≠ "java/lang/invoke/MethodHandle" ∧ yX9_runs.cls ≠ "java/lang/invoke/VarHandle" ∧ (parseMethodDescriptor yX9_runs.desc).map (fun d => d.parameters.length) = some 2 := by decide +kernel
theorem hn_X9_runs : yX9_runs.cls ≠ "java/lang/invoke/MethodHandle" ∧ yX9_runs.cls ≠ "java/lang/invoke/VarHandle" ∧ (parseMethodDescriptor yX9_runs.desc).map (fun d => d.parameters.length) = some 2 := by decide +kernel
theorem hy_X9_seed : yX9_seed.cls = RX9 ∧ yX9_seed.cls ≠ "java/lang/invoke/MethodHandle" ∧ yX9_seed.cls ≠ "java/lang/invoke/VarHandle" ∧ (parseMethodDescriptor yX9_seed.desc).map (fun d => d.parameters.length) = some 3 := by decide +kernel
theorem hn_X9_seed : yX9_seed.cls ≠ "java/lang/invoke/MethodHandle" ∧ yX9_seed.cls ≠ "java/lang/invoke/VarHandle" ∧ (parseMethodDescriptor yX9_seed.desc).map (fun d => d.parameters.length) = some 3 := by decide +kernel
theorem hy_X9_shared : yX9_shared.cls = RX9 ∧ yX9_shared.cls ≠ "java/lang/invoke/MethodHandle" ∧ yX9_shared.cls ≠ "java/lang/invoke/VarHandle" ∧ (parseMethodDescriptor yX9_shared.desc).map (fun d => d.parameters.length) = some 2 := by decide +kernel
theorem hn_X9_shared : yX9_shared.cls ≠ "java/lang/invoke/MethodHandle" ∧ yX9_shared.cls ≠ "java/lang/invoke/VarHandle" ∧ (parseMethodDescriptor yX9_shared.desc).map (fun d => d.parameters.length) = some 2 := by decide +kernel
theorem hy_X9_she : yX9_she.cls = RX9 ∧ yX9_she.cls ≠ "java/lang/invoke/MethodHandle" ∧ yX9_she.cls ≠ "java/lang/invoke/VarHandle" ∧ (parseMethodDescriptor yX9_she.desc).map (fun d => d.parameters.length) = some 3 := by decide +kernel
theorem hn_X9_she : yX9_she.cls ≠ "java/lang/invoke/MethodHandle" ∧ yX9_she.cls ≠ "java/lang/invoke/VarHandle" ∧ (parseMethodDescriptor yX9_she.desc).map (fun d => d.parameters.length) = some 3 := by decide +kernel
theorem hy_X9_span : yX9_span.cls = RX9 ∧ yX9_span.cls ≠ "java/lang/invoke/MethodHandle" ∧ yX9_span.cls ≠ "java/lang/invoke/VarHandle" ∧ (parseMethodDescriptor yX9_span.desc).map (fun d => d.parameters.length) = some 6 := by decide +kernel
theorem hn_X9_span : yX9_span.cls ≠ "java/lang/invoke/MethodHandle" ∧ yX9_span.cls ≠ "java/lang/invoke/VarHandle" ∧ (parseMethodDescriptor yX9_span.desc).map (fun d => d.parameters.length) = some 6 := by decide +kernel
theorem hy_X9_status : yX9_status.cls = RX9 ∧ yX9_status.cls ≠ "java/lang/invoke/MethodHandle" ∧ yX9_status.cls ≠ "java/lang/invoke/VarHandle" ∧ (parseMethodDescriptor yX9_status.desc).map (fun d => d.parameters.length) = some 1 := by decide +kernel
theorem hn_X9_status : yX9_status.cls ≠ "java/lang/invoke/MethodHandle" ∧ yX9_status.cls ≠ "java/lang/invoke/VarHandle" ∧ (parseMethodDescriptor yX9_status.desc).map (fun d => d.parameters.length) = some 1 := by decide +kernel
theorem hy_X9_stuff : yX9_stuff.cls = RX9 ∧ yX9_stuff.cls ≠ "java/lang/invoke/MethodHandle" ∧ yX9_stuff.cls ≠ "java/lang/invoke/VarHandle" ∧ (parseMethodDescriptor yX9_stuff.desc).map (fun d => d.parameters.length) = some 0 := by decide +kernel
theorem hn_X9_stuff : yX9_stuff.cls ≠ "java/lang/invoke/MethodHandle" ∧ yX9_stuff.cls ≠ "java/lang/invoke/VarHandle" ∧ (parseMethodDescriptor yX9_stuff.desc).map (fun d => d.parameters.length) = some 0 := by decide +kernel
theorem hy_X9_stuffed : yX9_stuffed.cls = RX9 ∧ yX9_stuffed.cls ≠ "java/lang/invoke/MethodHandle" ∧ yX9_stuffed.cls ≠ "java/lang/invoke/VarHandle" ∧ (parseMethodDescriptor yX9_stuffed.desc).map (fun d => d.parameters.length) = some 1 := by decide +kernel
theorem hn_X9_stuffed : yX9_stuffed.cls ≠ "java/lang/invoke/MethodHandle" ∧ yX9_stuffed.cls ≠ "java/lang/invoke/VarHandle" ∧ (parseMethodDescriptor yX9_stuffed.desc).map (fun d => d.parameters.length) = some 1 := by decide +kernel
theorem hy_X9_summer : yX9_summer.cls = RX9 ∧ yX9_summer.cls ≠ "java/lang/invoke/MethodHandle" ∧ yX9_summer.cls ≠ "java/lang/invoke/VarHandle" ∧ (parseMethodDescriptor yX9_summer.desc).map (fun d => d.parameters.length) = some 4 := by decide +kernel
theorem hn_X9_summer : yX9_summer.cls ≠ "java/lang/invoke/MethodHandle" ∧ yX9_summer.cls ≠ "java/lang/invoke/VarHandle" ∧ (parseMethodDescriptor yX9_summer.desc).map (fun d => d.parameters.length) = some 4 := by decide +kernel
theorem hy_X9_told : yX9_told.cls = RX9 ∧ yX9_told.cls ≠ "java/lang/invoke/MethodHandle" ∧ yX9_told.cls ≠ "java/lang/invoke/VarHandle" ∧ (parseMethodDescriptor yX9_told.desc).map (fun d => d.parameters.length) = some 1 := by decide +kernel
theorem hn_X9_told : yX9_told.cls ≠ "java/lang/invoke/MethodHandle" ∧ yX9_told.cls ≠ "java/lang/invoke/VarHandle" ∧ (parseMethodDescriptor yX9_told.desc).map (fun d => d.parameters.length) = some 1 := by decide +kernel
theorem hy_X9_tour : yX9_tour.cls = RX9 ∧ yX9_tour.cls ≠ "java/lang/invoke/MethodHandle" ∧ yX9_tour.cls ≠ "java/lang/invoke/VarHandle" ∧ (parseMethodDescriptor yX9_tour.desc).map (fun d => d.parameters.length) = some 1 := by decide +kernel
theorem hn_X9_tour : yX9_tour.cls ≠ "java/lang/invoke/MethodHandle" ∧ yX9_tour.cls ≠ "java/lang/invoke/VarHandle" ∧ (parseMethodDescriptor yX9_tour.desc).map (fun d => d.parameters.length) = some 1 := by decide +kernel
theorem hy_X9_undo : yX9_undo.cls = RX9 ∧ yX9_undo.cls ≠ "java/lang/invoke/MethodHandle" ∧ yX9_undo.cls ≠ "java/lang/invoke/VarHandle" ∧ (parseMethodDescriptor yX9_undo.desc).map (fun d => d.parameters.length) = some 0 := by decide +kernel
theorem hn_X9_undo : yX9_undo.cls ≠ "java/lang/invoke/MethodHandle" ∧ yX9_undo.cls ≠ "java/lang/invoke/VarHandle" ∧ (parseMethodDescriptor yX9_undo.desc).map (fun d => d.parameters.length) = some 0 := by decide +kernel
theorem hy_X9_unread : yX9_unread.cls = RX9 ∧ yX9_unread.cls ≠ "java/lang/invoke/MethodHandle" ∧ yX9_unread.cls ≠ "java/lang/invoke/VarHandle" ∧ (parseMethodDescriptor yX9_unread.desc).map (fun d => d.parameters.length) = some 1 := by decide +kernel
theorem hn_X9_unread : yX9_unread.cls ≠ "java/lang/invoke/MethodHandle" ∧ yX9_unread.cls ≠ "java/lang/invoke/VarHandle" ∧ (parseMethodDescriptor yX9_unread.desc).map (fun d => d.parameters.length) = some 1 := by decide +kernel
theorem hy_X9_word : yX9_word.cls = RX9 ∧ yX9_word.cls ≠ "java/lang/invoke/MethodHandle" ∧ yX9_word.cls ≠ "java/lang/invoke/VarHandle" ∧ (parseMethodDescriptor yX9_word.desc).map (fun d => d.parameters.length) = some 2 := by decide +kernel
theorem hn_X9_word : yX9_word.cls ≠ "java/lang/invoke/MethodHandle" ∧ yX9_word.cls ≠ "java/lang/invoke/VarHandle" ∧ (parseMethodDescriptor yX9_word.desc).map (fun d => d.parameters.length) = some 2 := by decide +kernel
theorem hy_X9_work : yX9_work.cls = RX9 ∧ yX9_work.cls ≠ "java/lang/invoke/MethodHandle" ∧ yX9_work.cls ≠ "java/lang/invoke/VarHandle" ∧ (parseMethodDescriptor yX9_work.desc).map (fun d => d.parameters.length) = some 1 := by decide +kernel
theorem hn_X9_work : yX9_work.cls ≠ "java/lang/invoke/MethodHandle" ∧ yX9_work.cls ≠ "java/lang/invoke/VarHandle" ∧ (parseMethodDescriptor yX9_work.desc).map (fun d => d.parameters.length) = some 1 := by decide +kernel
theorem hy_X9_worksLeft : yX9_worksLeft.cls = RX9 ∧ yX9_worksLeft.cls ≠ "java/lang/invoke/MethodHandle" ∧ yX9_worksLeft.cls ≠ "java/lang/invoke/VarHandle" ∧ (parseMethodDescriptor yX9_worksLeft.desc).map (fun d => d.parameters.length) = some 0 := by decide +kernel
theorem hn_X9_worksLeft : yX9_worksLeft.cls ≠ "java/lang/invoke/MethodHandle" ∧ yX9_worksLeft.cls ≠ "java/lang/invoke/VarHandle" ∧ (parseMethodDescriptor yX9_worksLeft.desc).map (fun d => d.parameters.length) = some 0 := by decide +kernel
theorem hy_X9_would : yX9_would.cls = RX9 ∧ yX9_would.cls ≠ "java/lang/invoke/MethodHandle" ∧ yX9_would.cls ≠ "java/lang/invoke/VarHandle" ∧ (parseMethodDescriptor yX9_would.desc).map (fun d => d.parameters.length) = some 7 := by decide +kernel
theorem hn_X9_would : yX9_would.cls ≠ "java/lang/invoke/MethodHandle" ∧ yX9_would.cls ≠ "java/lang/invoke/VarHandle" ∧ (parseMethodDescriptor yX9_would.desc).map (fun d => d.parameters.length) = some 7 := by decide +kernel
