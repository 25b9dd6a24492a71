/-! WORDS, by program (wip/whole/prog/words.py): each word of the tables that a row may want -/
section Words
variable {s : State} {args : Array Value}
theorem in_t1 {w : Cond} (h : w ∈ tables_1_1) : w ∈ lw_tbl := List.mem_append_right _ (List.mem_append_left _ h)
theorem in_t2 {w : Cond} (h : w ∈ tables_1_2) : w ∈ lw_tbl := List.mem_append_right _ (List.mem_append_right _ (List.mem_append_left _ h))
theorem in_t3 {w : Cond} (h : w ∈ tables_1_3) : w ∈ lw_tbl := List.mem_append_right _ (List.mem_append_right _ (List.mem_append_right _ (List.mem_append_left _ h)))
theorem in_t4 {w : Cond} (h : w ∈ tables_1_4) : w ∈ lw_tbl := List.mem_append_right _ (List.mem_append_right _ (List.mem_append_right _ (List.mem_append_right _ h)))
theorem in_s {w : Cond} (h : w ∈ k2_sels lw_privs) : w ∈ lw_tbl := List.mem_append_left _ h
theorem k_0 (h : Tb s) : (Cond.initialized R_La).before args s = true := h.w (in_t1 (List.mem_of_getElem? (i := 0) rfl)) rfl
theorem k_1 (h : Tb s) : (Cond.initialized R_Pc).before args s = true := h.w (in_t1 (List.mem_of_getElem? (i := 1) rfl)) rfl
theorem k_2 (h : Tb s) : (Cond.initialized R_Ck).before args s = true := h.w (in_t1 (List.mem_of_getElem? (i := 2) rfl)) rfl
theorem k_3 (h : Tb s) : (Cond.initialized R_Cc).before args s = true := h.w (in_t1 (List.mem_of_getElem? (i := 3) rfl)) rfl
theorem k_4 (h : Tb s) : (Cond.initialized R_Ar).before args s = true := h.w (in_t1 (List.mem_of_getElem? (i := 4) rfl)) rfl
theorem k_5 (h : Tb s) : (Cond.initialized R_Dc).before args s = true := h.w (in_t1 (List.mem_of_getElem? (i := 5) rfl)) rfl
theorem k_6 (h : Tb s) : (Cond.initialized R_Pr).before args s = true := h.w (in_t1 (List.mem_of_getElem? (i := 6) rfl)) rfl
theorem k_7 (h : Tb s) : (Cond.initialized R_Sc).before args s = true := h.w (in_t1 (List.mem_of_getElem? (i := 7) rfl)) rfl
theorem k_8 (h : Tb s) : (Cond.initialized R_In).before args s = true := h.w (in_t1 (List.mem_of_getElem? (i := 8) rfl)) rfl
theorem k_9 (h : Tb s) : (Cond.initialized R_Mo).before args s = true := h.w (in_t1 (List.mem_of_getElem? (i := 9) rfl)) rfl
theorem k_10 (h : Tb s) : (Cond.initialized "java/lang/Throwable").before args s = true := h.w (in_t1 (List.mem_of_getElem? (i := 10) rfl)) rfl
theorem k_11 (h : Tb s) : (Cond.initialized "java/lang/Exception").before args s = true := h.w (in_t1 (List.mem_of_getElem? (i := 11) rfl)) rfl
theorem k_12 (h : Tb s) : (Cond.initialized "java/lang/RuntimeException").before args s = true := h.w (in_t1 (List.mem_of_getElem? (i := 12) rfl)) rfl
theorem k_13 (h : Tb s) : (Cond.initialized "java/lang/IllegalArgumentException").before args s = true := h.w (in_t1 (List.mem_of_getElem? (i := 13) rfl)) rfl
theorem k_14 (h : Tb s) : (Cond.initialized "java/lang/IllegalStateException").before args s = true := h.w (in_t1 (List.mem_of_getElem? (i := 14) rfl)) rfl
theorem k_15 (h : Tb s) : (Cond.initialized "java/lang/IndexOutOfBoundsException").before args s = true := h.w (in_t1 (List.mem_of_getElem? (i := 15) rfl)) rfl
theorem k_16 (h : Tb s) : (Cond.initialized R_Ma).before args s = true := h.w (in_t1 (List.mem_of_getElem? (i := 16) rfl)) rfl
theorem k_17 (h : Tb s) : (Cond.initialized "java/lang/ArithmeticException").before args s = true := h.w (in_t1 (List.mem_of_getElem? (i := 17) rfl)) rfl
theorem k_18 (h : Tb s) : (Cond.classLink R_La 8 R_Pc).before args s = true := h.w (in_t1 (List.mem_of_getElem? (i := 18) rfl)) rfl
theorem k_19 (h : Tb s) : (Cond.instantiable R_Pc 12).before args s = true := h.w (in_t1 (List.mem_of_getElem? (i := 19) rfl)) rfl
theorem k_20 (h : Tb s) : (Cond.methodLink R_La 47 y_Pc_init).before args s = true := h.w (in_t1 (List.mem_of_getElem? (i := 20) rfl)) rfl
theorem k_21 (h : Tb s) : (Cond.instanceMethod y_Pc_init).before args s = true := h.w (in_t1 (List.mem_of_getElem? (i := 21) rfl)) rfl
theorem k_22 (h : Tb s) : (Cond.code y_Pc_init b_Pc_init 2 none).before args s = true := h.w (in_t1 (List.mem_of_getElem? (i := 22) rfl)) rfl
theorem k_23 (h : Tb s) : (Cond.methodLink R_Pc 1 objectInit).before args s = true := h.w (in_t1 (List.mem_of_getElem? (i := 23) rfl)) rfl
theorem k_24 (h : Tb s) : (Cond.instanceMethod objectInit).before args s = true := h.w (in_t1 (List.mem_of_getElem? (i := 24) rfl)) rfl
theorem k_25 (h : Tb s) : (Cond.code objectInit ⟨#[0xb1]⟩ 1 none).before args s = true := h.w (in_t1 (List.mem_of_getElem? (i := 25) rfl)) rfl
theorem k_26 (h : Tb s) : (Cond.classLink R_Pc 9 R_In).before args s = true := h.w (in_t1 (List.mem_of_getElem? (i := 26) rfl)) rfl
theorem k_28 (h : Tb s) : (Cond.classLink R_Pc 26 R_Ck).before args s = true := h.w (in_t1 (List.mem_of_getElem? (i := 28) rfl)) rfl
theorem k_29 (h : Tb s) : (Cond.instantiable R_Ck 5).before args s = true := h.w (in_t1 (List.mem_of_getElem? (i := 29) rfl)) rfl
theorem k_30 (h : Tb s) : (Cond.methodLinkNest R_Pc 28 y_Ck_init "PipeComputer").before args s = true := h.w (in_t1 (List.mem_of_getElem? (i := 30) rfl)) rfl
theorem k_31 (h : Tb s) : (Cond.instanceMethod y_Ck_init).before args s = true := h.w (in_t1 (List.mem_of_getElem? (i := 31) rfl)) rfl
theorem k_32 (h : Tb s) : (Cond.code y_Ck_init b_Ck_init 1 none).before args s = true := h.w (in_t1 (List.mem_of_getElem? (i := 32) rfl)) rfl
theorem k_33 (h : Tb s) : (Cond.methodLink R_Ck 3 objectInit).before args s = true := h.w (in_t1 (List.mem_of_getElem? (i := 33) rfl)) rfl
theorem k_34 (h : Tb s) : (Cond.fieldLink R_Ck 9 "PipeComputer$Clock" "ready" "[I").before args s = true := h.w (in_t1 (List.mem_of_getElem? (i := 34) rfl)) rfl
theorem k_35 (h : Tb s) : (Cond.fieldLink R_Pc 130 "PipeComputer$Clock" "ready" "[I").before args s = true := h.w (in_t1 (List.mem_of_getElem? (i := 35) rfl)) rfl
theorem k_36 (h : Tb s) : (Cond.fieldLink R_Ck 15 "PipeComputer$Clock" "began" "I").before args s = true := h.w (in_t1 (List.mem_of_getElem? (i := 36) rfl)) rfl
theorem k_37 (h : Tb s) : (Cond.fieldLink R_Pc 133 "PipeComputer$Clock" "began" "I").before args s = true := h.w (in_t1 (List.mem_of_getElem? (i := 37) rfl)) rfl
theorem k_38 (h : Tb s) : (Cond.fieldLink R_Ck 19 "PipeComputer$Clock" "dividerFree" "I").before args s = true := h.w (in_t1 (List.mem_of_getElem? (i := 38) rfl)) rfl
theorem k_39 (h : Tb s) : (Cond.fieldLink R_Ck 22 "PipeComputer$Clock" "memoryFree" "I").before args s = true := h.w (in_t1 (List.mem_of_getElem? (i := 39) rfl)) rfl
theorem k_40 (h : Tb s) : (Cond.fieldLink R_Ck 25 "PipeComputer$Clock" "afterWrongJump" "Z").before args s = true := h.w (in_t1 (List.mem_of_getElem? (i := 40) rfl)) rfl
theorem k_52 (h : Tb s) : (Cond.arrayClass .double).before args s = true := h.w (in_t1 (List.mem_of_getElem? (i := 52) rfl)) rfl
theorem k_53 (h : Tb s) : (Cond.arrayClass .int).before args s = true := h.w (in_t1 (List.mem_of_getElem? (i := 53) rfl)) rfl
theorem k_54 (h : Tb s) : (Cond.classLink R_Pc 33 R_Cc).before args s = true := h.w (in_t1 (List.mem_of_getElem? (i := 54) rfl)) rfl
theorem k_55 (h : Tb s) : (Cond.instantiable R_Cc 2).before args s = true := h.w (in_t1 (List.mem_of_getElem? (i := 55) rfl)) rfl
theorem k_56 (h : Tb s) : (Cond.methodLink R_Pc 35 y_Cc_init).before args s = true := h.w (in_t1 (List.mem_of_getElem? (i := 56) rfl)) rfl
theorem k_57 (h : Tb s) : (Cond.instanceMethod y_Cc_init).before args s = true := h.w (in_t1 (List.mem_of_getElem? (i := 57) rfl)) rfl
theorem k_58 (h : Tb s) : (Cond.code y_Cc_init b_Cc_init 1 none).before args s = true := h.w (in_t1 (List.mem_of_getElem? (i := 58) rfl)) rfl
theorem k_59 (h : Tb s) : (Cond.methodLink R_Cc 3 objectInit).before args s = true := h.w (in_t1 (List.mem_of_getElem? (i := 59) rfl)) rfl
theorem k_60 (h : Tb s) : (Cond.methodLink R_Cc 19 y_Cc_empty).before args s = true := h.w (in_t1 (List.mem_of_getElem? (i := 60) rfl)) rfl
theorem k_61 (h : Tb s) : (Cond.instanceMethod y_Cc_empty).before args s = true := h.w (in_t1 (List.mem_of_getElem? (i := 61) rfl)) rfl
theorem k_62 (h : Tb s) : (Cond.selects R_Cc y_Cc_empty y_Cc_empty).before args s = true := h.w (in_t1 (List.mem_of_getElem? (i := 62) rfl)) rfl
theorem k_63 (h : Tb s) : (Cond.code y_Cc_empty b_Cc_empty 1 none).before args s = true := h.w (in_t1 (List.mem_of_getElem? (i := 63) rfl)) rfl
theorem k_64 (h : Tb s) : (Cond.methodLink R_Cc 22 y_Ar_fill2).before args s = true := h.w (in_t1 (List.mem_of_getElem? (i := 64) rfl)) rfl
theorem k_65 (h : Tb s) : (Cond.static y_Ar_fill2).before args s = true := h.w (in_t1 (List.mem_of_getElem? (i := 65) rfl)) rfl
theorem k_66 (h : Tb s) : (Cond.code y_Ar_fill2 b_Ar_fill2 4 none).before args s = true := h.w (in_t1 (List.mem_of_getElem? (i := 66) rfl)) rfl
theorem k_67 (h : Tb s) : (Cond.fieldLink R_Cc 9 "PipeComputer$CodeCache" "notFound" "I").before args s = true := h.w (in_t1 (List.mem_of_getElem? (i := 67) rfl)) rfl
theorem k_68 (h : Tb s) : (Cond.fieldLink R_Pc 136 "PipeComputer$CodeCache" "notFound" "I").before args s = true := h.w (in_t1 (List.mem_of_getElem? (i := 68) rfl)) rfl
theorem k_69 (h : Tb s) : (Cond.fieldLink R_Cc 15 "PipeComputer$CodeCache" "groups" "[I").before args s = true := h.w (in_t1 (List.mem_of_getElem? (i := 69) rfl)) rfl
theorem k_75 (h : Tb s) : (Cond.classLink R_Pc 40 R_Dc).before args s = true := h.w (in_t1 (List.mem_of_getElem? (i := 75) rfl)) rfl
theorem k_76 (h : Tb s) : (Cond.instantiable R_Dc 4).before args s = true := h.w (in_t1 (List.mem_of_getElem? (i := 76) rfl)) rfl
theorem k_77 (h : Tb s) : (Cond.methodLink R_Pc 42 y_Dc_init).before args s = true := h.w (in_t1 (List.mem_of_getElem? (i := 77) rfl)) rfl
theorem k_78 (h : Tb s) : (Cond.instanceMethod y_Dc_init).before args s = true := h.w (in_t1 (List.mem_of_getElem? (i := 78) rfl)) rfl
theorem k_79 (h : Tb s) : (Cond.code y_Dc_init b_Dc_init 1 none).before args s = true := h.w (in_t1 (List.mem_of_getElem? (i := 79) rfl)) rfl
theorem k_80 (h : Tb s) : (Cond.methodLink R_Dc 3 objectInit).before args s = true := h.w (in_t1 (List.mem_of_getElem? (i := 80) rfl)) rfl
theorem k_81 (h : Tb s) : (Cond.methodLink R_Dc 25 y_Dc_empty).before args s = true := h.w (in_t1 (List.mem_of_getElem? (i := 81) rfl)) rfl
theorem k_82 (h : Tb s) : (Cond.instanceMethod y_Dc_empty).before args s = true := h.w (in_t1 (List.mem_of_getElem? (i := 82) rfl)) rfl
theorem k_83 (h : Tb s) : (Cond.selects R_Dc y_Dc_empty y_Dc_empty).before args s = true := h.w (in_t1 (List.mem_of_getElem? (i := 83) rfl)) rfl
theorem k_84 (h : Tb s) : (Cond.code y_Dc_empty b_Dc_empty 1 none).before args s = true := h.w (in_t1 (List.mem_of_getElem? (i := 84) rfl)) rfl
theorem k_85 (h : Tb s) : (Cond.methodLink R_Dc 28 y_Ar_fill2).before args s = true := h.w (in_t1 (List.mem_of_getElem? (i := 85) rfl)) rfl
theorem k_86 (h : Tb s) : (Cond.fieldLink R_Dc 9 "PipeComputer$DataCache" "notFound" "I").before args s = true := h.w (in_t1 (List.mem_of_getElem? (i := 86) rfl)) rfl
theorem k_87 (h : Tb s) : (Cond.fieldLink R_Pc 139 "PipeComputer$DataCache" "notFound" "I").before args s = true := h.w (in_t1 (List.mem_of_getElem? (i := 87) rfl)) rfl
theorem k_88 (h : Tb s) : (Cond.fieldLink R_Dc 15 "PipeComputer$DataCache" "lines" "[I").before args s = true := h.w (in_t1 (List.mem_of_getElem? (i := 88) rfl)) rfl
theorem k_89 (h : Tb s) : (Cond.fieldLink R_Dc 19 "PipeComputer$DataCache" "latestUse" "[I").before args s = true := h.w (in_t1 (List.mem_of_getElem? (i := 89) rfl)) rfl
theorem k_90 (h : Tb s) : (Cond.fieldLink R_Dc 22 "PipeComputer$DataCache" "uses" "I").before args s = true := h.w (in_t1 (List.mem_of_getElem? (i := 90) rfl)) rfl
theorem k_100 (h : Tb s) : (Cond.classLink R_Pc 47 R_Pr).before args s = true := h.w (in_t1 (List.mem_of_getElem? (i := 100) rfl)) rfl
theorem k_101 (h : Tb s) : (Cond.instantiable R_Pr 2).before args s = true := h.w (in_t1 (List.mem_of_getElem? (i := 101) rfl)) rfl
theorem k_102 (h : Tb s) : (Cond.methodLink R_Pc 49 y_Pr_init).before args s = true := h.w (in_t1 (List.mem_of_getElem? (i := 102) rfl)) rfl
theorem k_103 (h : Tb s) : (Cond.instanceMethod y_Pr_init).before args s = true := h.w (in_t1 (List.mem_of_getElem? (i := 103) rfl)) rfl
theorem k_104 (h : Tb s) : (Cond.code y_Pr_init b_Pr_init 1 none).before args s = true := h.w (in_t1 (List.mem_of_getElem? (i := 104) rfl)) rfl
theorem k_105 (h : Tb s) : (Cond.methodLink R_Pr 1 objectInit).before args s = true := h.w (in_t1 (List.mem_of_getElem? (i := 105) rfl)) rfl
theorem k_106 (h : Tb s) : (Cond.methodLink R_Pr 17 y_Pr_reset).before args s = true := h.w (in_t1 (List.mem_of_getElem? (i := 106) rfl)) rfl
theorem k_107 (h : Tb s) : (Cond.instanceMethod y_Pr_reset).before args s = true := h.w (in_t1 (List.mem_of_getElem? (i := 107) rfl)) rfl
theorem k_108 (h : Tb s) : (Cond.selects R_Pr y_Pr_reset y_Pr_reset).before args s = true := h.w (in_t1 (List.mem_of_getElem? (i := 108) rfl)) rfl
theorem k_109 (h : Tb s) : (Cond.code y_Pr_reset b_Pr_reset 1 none).before args s = true := h.w (in_t1 (List.mem_of_getElem? (i := 109) rfl)) rfl
theorem k_110 (h : Tb s) : (Cond.methodLink R_Pr 20 y_Ar_fill2).before args s = true := h.w (in_t1 (List.mem_of_getElem? (i := 110) rfl)) rfl
theorem k_111 (h : Tb s) : (Cond.fieldLink R_Pr 7 "PipeComputer$Predictor" "wrong" "I").before args s = true := h.w (in_t1 (List.mem_of_getElem? (i := 111) rfl)) rfl
theorem k_112 (h : Tb s) : (Cond.fieldLink R_Pc 140 "PipeComputer$Predictor" "wrong" "I").before args s = true := h.w (in_t1 (List.mem_of_getElem? (i := 112) rfl)) rfl
theorem k_113 (h : Tb s) : (Cond.fieldLink R_Pr 13 "PipeComputer$Predictor" "counters" "[I").before args s = true := h.w (in_t1 (List.mem_of_getElem? (i := 113) rfl)) rfl
theorem k_119 (h : Tb s) : (Cond.classLink R_Pc 54 R_Sc).before args s = true := h.w (in_t1 (List.mem_of_getElem? (i := 119) rfl)) rfl
theorem k_120 (h : Tb s) : (Cond.instantiable R_Sc 4).before args s = true := h.w (in_t1 (List.mem_of_getElem? (i := 120) rfl)) rfl
theorem k_121 (h : Tb s) : (Cond.methodLinkNest R_Pc 56 y_Sc_init "PipeComputer").before args s = true := h.w (in_t1 (List.mem_of_getElem? (i := 121) rfl)) rfl
theorem k_122 (h : Tb s) : (Cond.instanceMethod y_Sc_init).before args s = true := h.w (in_t1 (List.mem_of_getElem? (i := 122) rfl)) rfl
theorem k_123 (h : Tb s) : (Cond.code y_Sc_init b_Sc_init 1 none).before args s = true := h.w (in_t1 (List.mem_of_getElem? (i := 123) rfl)) rfl
theorem k_124 (h : Tb s) : (Cond.methodLink R_Sc 3 objectInit).before args s = true := h.w (in_t1 (List.mem_of_getElem? (i := 124) rfl)) rfl
theorem k_125 (h : Tb s) : (Cond.classLink R_Sc 9 R_In).before args s = true := h.w (in_t1 (List.mem_of_getElem? (i := 125) rfl)) rfl
theorem k_126 (h : Tb s) : (Cond.fieldLink R_Sc 11 "PipeComputer$Scheduler" "old" "[LPipeComputer$Instruction;").before args s = true := h.w (in_t1 (List.mem_of_getElem? (i := 126) rfl)) rfl
theorem k_127 (h : Tb s) : (Cond.fieldLink R_Sc 17 "PipeComputer$Scheduler" "leaders" "[Z").before args s = true := h.w (in_t1 (List.mem_of_getElem? (i := 127) rfl)) rfl
theorem k_128 (h : Tb s) : (Cond.fieldLink R_Sc 21 "PipeComputer$Scheduler" "heights" "[I").before args s = true := h.w (in_t1 (List.mem_of_getElem? (i := 128) rfl)) rfl
theorem k_129 (h : Tb s) : (Cond.fieldLink R_Sc 25 "PipeComputer$Scheduler" "behind" "[I").before args s = true := h.w (in_t1 (List.mem_of_getElem? (i := 129) rfl)) rfl
theorem k_139 (h : Tb s) : (Cond.arrayClass .boolean).before args s = true := h.w (in_t1 (List.mem_of_getElem? (i := 139) rfl)) rfl
theorem k_140 (h : Tb s) : (Cond.instantiable R_In 8).before args s = true := h.w (in_t1 (List.mem_of_getElem? (i := 140) rfl)) rfl
theorem k_141 (h : Tb s) : (Cond.methodLinkNest R_Pc 72 y_In_init "PipeComputer").before args s = true := h.w (in_t1 (List.mem_of_getElem? (i := 141) rfl)) rfl
theorem k_142 (h : Tb s) : (Cond.instanceMethod y_In_init).before args s = true := h.w (in_t1 (List.mem_of_getElem? (i := 142) rfl)) rfl
theorem k_143 (h : Tb s) : (Cond.code y_In_init b_In_init 1 none).before args s = true := h.w (in_t1 (List.mem_of_getElem? (i := 143) rfl)) rfl
theorem k_144 (h : Tb s) : (Cond.methodLink R_In 3 objectInit).before args s = true := h.w (in_t1 (List.mem_of_getElem? (i := 144) rfl)) rfl
theorem k_145 (h : Tb s) : (Cond.fieldLink R_In 9 "PipeComputer$Instruction" "op" "I").before args s = true := h.w (in_t1 (List.mem_of_getElem? (i := 145) rfl)) rfl
theorem k_146 (h : Tb s) : (Cond.fieldLink R_Ck 48 "PipeComputer$Instruction" "op" "I").before args s = true := h.w (in_t1 (List.mem_of_getElem? (i := 146) rfl)) rfl
theorem k_147 (h : Tb s) : (Cond.fieldLink R_Pc 115 "PipeComputer$Instruction" "op" "I").before args s = true := h.w (in_t1 (List.mem_of_getElem? (i := 147) rfl)) rfl
theorem k_148 (h : Tb s) : (Cond.fieldLink R_In 15 "PipeComputer$Instruction" "d" "I").before args s = true := h.w (in_t1 (List.mem_of_getElem? (i := 148) rfl)) rfl
theorem k_149 (h : Tb s) : (Cond.fieldLink R_Pc 118 "PipeComputer$Instruction" "d" "I").before args s = true := h.w (in_t1 (List.mem_of_getElem? (i := 149) rfl)) rfl
theorem k_150 (h : Tb s) : (Cond.fieldLink R_In 18 "PipeComputer$Instruction" "a" "I").before args s = true := h.w (in_t1 (List.mem_of_getElem? (i := 150) rfl)) rfl
theorem k_151 (h : Tb s) : (Cond.fieldLink R_Pc 121 "PipeComputer$Instruction" "a" "I").before args s = true := h.w (in_t1 (List.mem_of_getElem? (i := 151) rfl)) rfl
theorem k_152 (h : Tb s) : (Cond.fieldLink R_In 21 "PipeComputer$Instruction" "b" "I").before args s = true := h.w (in_t1 (List.mem_of_getElem? (i := 152) rfl)) rfl
theorem k_153 (h : Tb s) : (Cond.fieldLink R_Pc 124 "PipeComputer$Instruction" "b" "I").before args s = true := h.w (in_t1 (List.mem_of_getElem? (i := 153) rfl)) rfl
theorem k_154 (h : Tb s) : (Cond.fieldLink R_In 24 "PipeComputer$Instruction" "n" "I").before args s = true := h.w (in_t1 (List.mem_of_getElem? (i := 154) rfl)) rfl
theorem k_155 (h : Tb s) : (Cond.fieldLink R_Pc 127 "PipeComputer$Instruction" "n" "I").before args s = true := h.w (in_t1 (List.mem_of_getElem? (i := 155) rfl)) rfl
theorem k_156 (h : Tb s) : (Cond.fieldLink R_In 27 "PipeComputer$Instruction" "written" "I").before args s = true := h.w (in_t1 (List.mem_of_getElem? (i := 156) rfl)) rfl
theorem k_157 (h : Tb s) : (Cond.fieldLink R_Ck 45 "PipeComputer$Instruction" "written" "I").before args s = true := h.w (in_t1 (List.mem_of_getElem? (i := 157) rfl)) rfl
theorem k_158 (h : Tb s) : (Cond.fieldLink R_In 30 "PipeComputer$Instruction" "firstRead" "I").before args s = true := h.w (in_t1 (List.mem_of_getElem? (i := 158) rfl)) rfl
theorem k_159 (h : Tb s) : (Cond.fieldLink R_Ck 55 "PipeComputer$Instruction" "firstRead" "I").before args s = true := h.w (in_t1 (List.mem_of_getElem? (i := 159) rfl)) rfl
theorem k_160 (h : Tb s) : (Cond.fieldLink R_In 33 "PipeComputer$Instruction" "secondRead" "I").before args s = true := h.w (in_t1 (List.mem_of_getElem? (i := 160) rfl)) rfl
theorem k_161 (h : Tb s) : (Cond.fieldLink R_Ck 68 "PipeComputer$Instruction" "secondRead" "I").before args s = true := h.w (in_t1 (List.mem_of_getElem? (i := 161) rfl)) rfl
theorem k_179 (h : Tb s) : (Cond.fieldLink R_Pc 11 "PipeComputer" "program" "[LPipeComputer$Instruction;").before args s = true := h.w (in_t1 (List.mem_of_getElem? (i := 179) rfl)) rfl
theorem k_180 (h : Tb s) : (Cond.fieldLink R_Pc 15 "PipeComputer" "cells" "[D").before args s = true := h.w (in_t1 (List.mem_of_getElem? (i := 180) rfl)) rfl
theorem k_181 (h : Tb s) : (Cond.fieldLink R_Pc 19 "PipeComputer" "wholes" "[I").before args s = true := h.w (in_t1 (List.mem_of_getElem? (i := 181) rfl)) rfl
theorem k_182 (h : Tb s) : (Cond.fieldLink R_Pc 23 "PipeComputer" "fractions" "[D").before args s = true := h.w (in_t1 (List.mem_of_getElem? (i := 182) rfl)) rfl
theorem k_183 (h : Tb s) : (Cond.fieldLink R_Pc 29 "PipeComputer" "clock" "LPipeComputer$Clock;").before args s = true := h.w (in_t1 (List.mem_of_getElem? (i := 183) rfl)) rfl
theorem k_184 (h : Tb s) : (Cond.fieldLink R_Pc 36 "PipeComputer" "codeCache" "LPipeComputer$CodeCache;").before args s = true := h.w (in_t1 (List.mem_of_getElem? (i := 184) rfl)) rfl
theorem k_185 (h : Tb s) : (Cond.fieldLink R_Pc 43 "PipeComputer" "dataCache" "LPipeComputer$DataCache;").before args s = true := h.w (in_t1 (List.mem_of_getElem? (i := 185) rfl)) rfl
theorem k_186 (h : Tb s) : (Cond.fieldLink R_Pc 50 "PipeComputer" "predictor" "LPipeComputer$Predictor;").before args s = true := h.w (in_t1 (List.mem_of_getElem? (i := 186) rfl)) rfl
theorem k_187 (h : Tb s) : (Cond.fieldLink R_Pc 57 "PipeComputer" "scheduler" "LPipeComputer$Scheduler;").before args s = true := h.w (in_t1 (List.mem_of_getElem? (i := 187) rfl)) rfl
theorem k_188 (h : Tb s) : (Cond.fieldLink R_Pc 61 "PipeComputer" "at" "I").before args s = true := h.w (in_t1 (List.mem_of_getElem? (i := 188) rfl)) rfl
theorem k_189 (h : Tb s) : (Cond.fieldLink R_Pc 65 "PipeComputer" "stopped" "Z").before args s = true := h.w (in_t1 (List.mem_of_getElem? (i := 189) rfl)) rfl
theorem k_190 (h : Tb s) : (Cond.fieldLink R_Pc 69 "PipeComputer" "done" "I").before args s = true := h.w (in_t1 (List.mem_of_getElem? (i := 190) rfl)) rfl
theorem k_216 (h : Tb s) : (Cond.methodLink R_La 75 y_Pc_schedule).before args s = true := h.w (in_t1 (List.mem_of_getElem? (i := 216) rfl)) rfl
theorem k_217 (h : Tb s) : (Cond.instanceMethod y_Pc_schedule).before args s = true := h.w (in_t1 (List.mem_of_getElem? (i := 217) rfl)) rfl
theorem k_218 (h : Tb s) : (Cond.selects R_Pc y_Pc_schedule y_Pc_schedule).before args s = true := h.w (in_t1 (List.mem_of_getElem? (i := 218) rfl)) rfl
theorem k_219 (h : Tb s) : (Cond.code y_Pc_schedule b_Pc_schedule 1 (some .int)).before args s = true := h.w (in_t1 (List.mem_of_getElem? (i := 219) rfl)) rfl
theorem k_220 (h : Tb s) : (Cond.methodLink R_Pc 111 y_Sc_reorder).before args s = true := h.w (in_t1 (List.mem_of_getElem? (i := 220) rfl)) rfl
theorem k_221 (h : Tb s) : (Cond.instanceMethod y_Sc_reorder).before args s = true := h.w (in_t1 (List.mem_of_getElem? (i := 221) rfl)) rfl
theorem k_222 (h : Tb s) : (Cond.selects R_Sc y_Sc_reorder y_Sc_reorder).before args s = true := h.w (in_t1 (List.mem_of_getElem? (i := 222) rfl)) rfl
theorem k_223 (h : Tb s) : (Cond.code y_Sc_reorder b_Sc_reorder 4 (some .int)).before args s = true := h.w (in_t1 (List.mem_of_getElem? (i := 223) rfl)) rfl
theorem k_224 (h : Tb s) : (Cond.methodLink R_Sc 28 y_Sc_findLeaders).before args s = true := h.w (in_t1 (List.mem_of_getElem? (i := 224) rfl)) rfl
theorem k_226 (h : Tb s) : (Cond.instanceMethod y_Sc_findLeaders).before args s = true := h.w (in_t1 (List.mem_of_getElem? (i := 226) rfl)) rfl
theorem k_227 (h : Tb s) : (Cond.code y_Sc_findLeaders b_Sc_findLeaders 2 none).before args s = true := h.w (in_t1 (List.mem_of_getElem? (i := 227) rfl)) rfl
theorem k_228 (h : Tb s) : (Cond.methodLink R_Sc 39 y_In_endsBlock).before args s = true := h.w (in_t1 (List.mem_of_getElem? (i := 228) rfl)) rfl
theorem k_229 (h : Tb s) : (Cond.instanceMethod y_In_endsBlock).before args s = true := h.w (in_t1 (List.mem_of_getElem? (i := 229) rfl)) rfl
theorem k_230 (h : Tb s) : (Cond.selects R_In y_In_endsBlock y_In_endsBlock).before args s = true := h.w (in_t1 (List.mem_of_getElem? (i := 230) rfl)) rfl
theorem k_231 (h : Tb s) : (Cond.code y_In_endsBlock b_In_endsBlock 1 (some .boolean)).before args s = true := h.w (in_t1 (List.mem_of_getElem? (i := 231) rfl)) rfl
theorem k_232 (h : Tb s) : (Cond.methodLink R_In 58 y_In_hasTarget).before args s = true := h.w (in_t1 (List.mem_of_getElem? (i := 232) rfl)) rfl
theorem k_233 (h : Tb s) : (Cond.instanceMethod y_In_hasTarget).before args s = true := h.w (in_t1 (List.mem_of_getElem? (i := 233) rfl)) rfl
theorem k_234 (h : Tb s) : (Cond.selects R_In y_In_hasTarget y_In_hasTarget).before args s = true := h.w (in_t1 (List.mem_of_getElem? (i := 234) rfl)) rfl
theorem k_235 (h : Tb s) : (Cond.code y_In_hasTarget b_In_hasTarget 1 (some .boolean)).before args s = true := h.w (in_t1 (List.mem_of_getElem? (i := 235) rfl)) rfl
theorem k_236 (h : Tb s) : (Cond.methodLink R_Sc 43 y_In_hasTarget).before args s = true := h.w (in_t1 (List.mem_of_getElem? (i := 236) rfl)) rfl
theorem k_237 (h : Tb s) : (Cond.methodLink R_Sc 46 y_In_target).before args s = true := h.w (in_t1 (List.mem_of_getElem? (i := 237) rfl)) rfl
theorem k_238 (h : Tb s) : (Cond.instanceMethod y_In_target).before args s = true := h.w (in_t1 (List.mem_of_getElem? (i := 238) rfl)) rfl
theorem k_239 (h : Tb s) : (Cond.selects R_In y_In_target y_In_target).before args s = true := h.w (in_t1 (List.mem_of_getElem? (i := 239) rfl)) rfl
theorem k_240 (h : Tb s) : (Cond.code y_In_target b_In_target 1 (some .int)).before args s = true := h.w (in_t2 (List.mem_of_getElem? (i := 0) rfl)) rfl
theorem k_241 (h : Tb s) : (Cond.methodLink R_In 61 y_Ma_floorMod).before args s = true := h.w (in_t2 (List.mem_of_getElem? (i := 1) rfl)) rfl
theorem k_242 (h : Tb s) : (Cond.static y_Ma_floorMod).before args s = true := h.w (in_t2 (List.mem_of_getElem? (i := 2) rfl)) rfl
theorem k_243 (h : Tb s) : (Cond.code y_Ma_floorMod b_Ma_floorMod 3 (some .int)).before args s = true := h.w (in_t2 (List.mem_of_getElem? (i := 3) rfl)) rfl
theorem k_244 (h : Tb s) : (Cond.methodLink R_Sc 31 y_Sc_endOfBlock).before args s = true := h.w (in_t2 (List.mem_of_getElem? (i := 4) rfl)) rfl
theorem k_246 (h : Tb s) : (Cond.instanceMethod y_Sc_endOfBlock).before args s = true := h.w (in_t2 (List.mem_of_getElem? (i := 6) rfl)) rfl
theorem k_247 (h : Tb s) : (Cond.code y_Sc_endOfBlock b_Sc_endOfBlock 3 (some .int)).before args s = true := h.w (in_t2 (List.mem_of_getElem? (i := 7) rfl)) rfl
theorem k_248 (h : Tb s) : (Cond.methodLink R_Sc 35 y_Sc_reorderBlock).before args s = true := h.w (in_t2 (List.mem_of_getElem? (i := 8) rfl)) rfl
theorem k_250 (h : Tb s) : (Cond.instanceMethod y_Sc_reorderBlock).before args s = true := h.w (in_t2 (List.mem_of_getElem? (i := 10) rfl)) rfl
theorem k_251 (h : Tb s) : (Cond.code y_Sc_reorderBlock b_Sc_reorderBlock 8 (some .int)).before args s = true := h.w (in_t2 (List.mem_of_getElem? (i := 11) rfl)) rfl
theorem k_252 (h : Tb s) : (Cond.methodLink R_Sc 50 y_Sc_findHeights).before args s = true := h.w (in_t2 (List.mem_of_getElem? (i := 12) rfl)) rfl
theorem k_254 (h : Tb s) : (Cond.instanceMethod y_Sc_findHeights).before args s = true := h.w (in_t2 (List.mem_of_getElem? (i := 14) rfl)) rfl
theorem k_255 (h : Tb s) : (Cond.code y_Sc_findHeights b_Sc_findHeights 6 none).before args s = true := h.w (in_t2 (List.mem_of_getElem? (i := 15) rfl)) rfl
theorem k_256 (h : Tb s) : (Cond.methodLink R_Sc 58 y_In_mustStayBehind).before args s = true := h.w (in_t2 (List.mem_of_getElem? (i := 16) rfl)) rfl
theorem k_257 (h : Tb s) : (Cond.instanceMethod y_In_mustStayBehind).before args s = true := h.w (in_t2 (List.mem_of_getElem? (i := 17) rfl)) rfl
theorem k_258 (h : Tb s) : (Cond.selects R_In y_In_mustStayBehind y_In_mustStayBehind).before args s = true := h.w (in_t2 (List.mem_of_getElem? (i := 18) rfl)) rfl
theorem k_259 (h : Tb s) : (Cond.code y_In_mustStayBehind b_In_mustStayBehind 3 (some .boolean)).before args s = true := h.w (in_t2 (List.mem_of_getElem? (i := 19) rfl)) rfl
theorem k_260 (h : Tb s) : (Cond.methodLink R_In 50 y_In_readsWhatIsWrittenBy).before args s = true := h.w (in_t2 (List.mem_of_getElem? (i := 20) rfl)) rfl
theorem k_261 (h : Tb s) : (Cond.instanceMethod y_In_readsWhatIsWrittenBy).before args s = true := h.w (in_t2 (List.mem_of_getElem? (i := 21) rfl)) rfl
theorem k_262 (h : Tb s) : (Cond.selects R_In y_In_readsWhatIsWrittenBy y_In_readsWhatIsWrittenBy).before args s = true := h.w (in_t2 (List.mem_of_getElem? (i := 22) rfl)) rfl
theorem k_263 (h : Tb s) : (Cond.code y_In_readsWhatIsWrittenBy b_In_readsWhatIsWrittenBy 3 (some .boolean)).before args s = true := h.w (in_t2 (List.mem_of_getElem? (i := 23) rfl)) rfl
theorem k_264 (h : Tb s) : (Cond.methodLink R_In 54 y_In_keepsItsTurn).before args s = true := h.w (in_t2 (List.mem_of_getElem? (i := 24) rfl)) rfl
theorem k_266 (h : Tb s) : (Cond.instanceMethod y_In_keepsItsTurn).before args s = true := h.w (in_t2 (List.mem_of_getElem? (i := 26) rfl)) rfl
theorem k_267 (h : Tb s) : (Cond.code y_In_keepsItsTurn b_In_keepsItsTurn 1 (some .boolean)).before args s = true := h.w (in_t2 (List.mem_of_getElem? (i := 27) rfl)) rfl
theorem k_268 (h : Tb s) : (Cond.methodLink R_Sc 62 y_In_readsWhatIsWrittenBy).before args s = true := h.w (in_t2 (List.mem_of_getElem? (i := 28) rfl)) rfl
theorem k_269 (h : Tb s) : (Cond.methodLink R_Sc 65 y_In_latency).before args s = true := h.w (in_t2 (List.mem_of_getElem? (i := 29) rfl)) rfl
theorem k_270 (h : Tb s) : (Cond.instanceMethod y_In_latency).before args s = true := h.w (in_t2 (List.mem_of_getElem? (i := 30) rfl)) rfl
theorem k_271 (h : Tb s) : (Cond.selects R_In y_In_latency y_In_latency).before args s = true := h.w (in_t2 (List.mem_of_getElem? (i := 31) rfl)) rfl
theorem k_272 (h : Tb s) : (Cond.code y_In_latency b_In_latency 1 (some .int)).before args s = true := h.w (in_t2 (List.mem_of_getElem? (i := 32) rfl)) rfl
theorem k_273 (h : Tb s) : (Cond.fieldLinkNest R_In 66 "PipeComputer" "LATENCY" "[I" "PipeComputer").before args s = true := h.w (in_t2 (List.mem_of_getElem? (i := 33) rfl)) rfl
theorem k_275 (h : Tb s) : (Cond.methodLink R_Sc 68 ⟨"java/lang/Math", "max", "(II)I"⟩).before args s = true := h.w (in_t2 (List.mem_of_getElem? (i := 35) rfl)) rfl
theorem k_276 (h : Tb s) : (Cond.static ⟨"java/lang/Math", "max", "(II)I"⟩).before args s = true := h.w (in_t2 (List.mem_of_getElem? (i := 36) rfl)) rfl
theorem k_277 (h : Tb s) : (Cond.code Lib.Math.max.name Lib.Math.max.code 2 (some .int)).before args s = true := h.w (in_t2 (List.mem_of_getElem? (i := 37) rfl)) rfl
theorem k_278 (h : Tb s) : (Cond.methodLink R_Sc 54 y_Sc_nextToPlace).before args s = true := h.w (in_t2 (List.mem_of_getElem? (i := 38) rfl)) rfl
theorem k_280 (h : Tb s) : (Cond.instanceMethod y_Sc_nextToPlace).before args s = true := h.w (in_t2 (List.mem_of_getElem? (i := 40) rfl)) rfl
theorem k_281 (h : Tb s) : (Cond.code y_Sc_nextToPlace b_Sc_nextToPlace 7 (some .int)).before args s = true := h.w (in_t2 (List.mem_of_getElem? (i := 41) rfl)) rfl
theorem k_282 (h : Tb s) : (Cond.methodLink R_La 93 y_Pc_count).before args s = true := h.w (in_t2 (List.mem_of_getElem? (i := 42) rfl)) rfl
theorem k_283 (h : Tb s) : (Cond.instanceMethod y_Pc_count).before args s = true := h.w (in_t2 (List.mem_of_getElem? (i := 43) rfl)) rfl
theorem k_284 (h : Tb s) : (Cond.selects R_Pc y_Pc_count y_Pc_count).before args s = true := h.w (in_t2 (List.mem_of_getElem? (i := 44) rfl)) rfl
theorem k_285 (h : Tb s) : (Cond.code y_Pc_count b_Pc_count 2 (some .int)).before args s = true := h.w (in_t2 (List.mem_of_getElem? (i := 45) rfl)) rfl
theorem k_286 (h : Tb s) : (Cond.methodLink R_La 51 y_La_code).before args s = true := h.w (in_t2 (List.mem_of_getElem? (i := 46) rfl)) rfl
theorem k_287 (h : Tb s) : (Cond.static y_La_code).before args s = true := h.w (in_t2 (List.mem_of_getElem? (i := 47) rfl)) rfl
theorem k_288 (h : Tb s) : (Cond.codeWith y_La_code b_La_code 8 (some .int) [(0, 13, 16, 13)]).before args s = true := h.w (in_t2 (List.mem_of_getElem? (i := 48) rfl)) rfl
theorem k_289 (h : Tb s) : (Cond.classLink R_La 13 "java/lang/IllegalArgumentException").before args s = true := h.w (in_t2 (List.mem_of_getElem? (i := 49) rfl)) rfl
theorem k_290 (h : Tb s) : (Cond.methodLink R_La 7 y_Pc_code).before args s = true := h.w (in_t2 (List.mem_of_getElem? (i := 50) rfl)) rfl
theorem k_291 (h : Tb s) : (Cond.instanceMethod y_Pc_code).before args s = true := h.w (in_t2 (List.mem_of_getElem? (i := 51) rfl)) rfl
theorem k_292 (h : Tb s) : (Cond.selects R_Pc y_Pc_code y_Pc_code).before args s = true := h.w (in_t2 (List.mem_of_getElem? (i := 52) rfl)) rfl
theorem k_293 (h : Tb s) : (Cond.code y_Pc_code b_Pc_code 7 none).before args s = true := h.w (in_t2 (List.mem_of_getElem? (i := 53) rfl)) rfl
theorem k_294 (h : Tb s) : (Cond.methodLink R_Pc 73 y_Pc_refuseOutside).before args s = true := h.w (in_t2 (List.mem_of_getElem? (i := 54) rfl)) rfl
theorem k_295 (h : Tb s) : (Cond.static y_Pc_refuseOutside).before args s = true := h.w (in_t2 (List.mem_of_getElem? (i := 55) rfl)) rfl
theorem k_296 (h : Tb s) : (Cond.code y_Pc_refuseOutside b_Pc_refuseOutside 2 none).before args s = true := h.w (in_t2 (List.mem_of_getElem? (i := 56) rfl)) rfl
theorem k_297 (h : Tb s) : (Cond.classLink R_Pc 85 "java/lang/IllegalArgumentException").before args s = true := h.w (in_t2 (List.mem_of_getElem? (i := 57) rfl)) rfl
theorem k_298 (h : Tb s) : (Cond.instantiable "java/lang/IllegalArgumentException" 6).before args s = true := h.w (in_t2 (List.mem_of_getElem? (i := 58) rfl)) rfl
theorem k_299 (h : Tb s) : (Cond.castable "java/lang/IllegalArgumentException" "java/lang/IllegalArgumentException").before args s = true := h.w (in_t2 (List.mem_of_getElem? (i := 59) rfl)) rfl
theorem k_320 (h : Tb s) : (Cond.instanceMethod ⟨"java/lang/Throwable", "<init>", "()V"⟩).before args s = true := h.w (in_t2 (List.mem_of_getElem? (i := 80) rfl)) rfl
theorem k_328 (h : Tb s) : (Cond.instanceMethod ⟨"java/lang/Throwable", "fillInStackTrace", "()Ljava/lang/Throwable;"⟩).before args s = true := h.w (in_t2 (List.mem_of_getElem? (i := 88) rfl)) rfl
theorem k_336 (h : Tb s) : (Cond.instanceMethod ⟨"java/lang/Throwable", "fillInStackTrace", "(I)Ljava/lang/Throwable;"⟩).before args s = true := h.w (in_t2 (List.mem_of_getElem? (i := 96) rfl)) rfl
theorem k_337 (h : Tb s) : (Cond.instantiable "java/lang/Throwable" 6).before args s = true := h.w (in_t2 (List.mem_of_getElem? (i := 97) rfl)) rfl
theorem k_339 (h : Tb s) : (Cond.methodLink R_Pc 87 ⟨"java/lang/IllegalArgumentException", "<init>", "()V"⟩).before args s = true := h.w (in_t2 (List.mem_of_getElem? (i := 99) rfl)) rfl
theorem k_340 (h : Tb s) : (Cond.instanceMethod ⟨"java/lang/IllegalArgumentException", "<init>", "()V"⟩).before args s = true := h.w (in_t2 (List.mem_of_getElem? (i := 100) rfl)) rfl
theorem k_343 (h : Tb s) : (Cond.instanceMethod ⟨"java/lang/RuntimeException", "<init>", "()V"⟩).before args s = true := h.w (in_t2 (List.mem_of_getElem? (i := 103) rfl)) rfl
theorem k_346 (h : Tb s) : (Cond.instanceMethod ⟨"java/lang/Exception", "<init>", "()V"⟩).before args s = true := h.w (in_t2 (List.mem_of_getElem? (i := 106) rfl)) rfl
theorem k_361 (h : Tb s) : (Cond.methodLink R_Pc 77 y_In_become).before args s = true := h.w (in_t2 (List.mem_of_getElem? (i := 121) rfl)) rfl
theorem k_362 (h : Tb s) : (Cond.instanceMethod y_In_become).before args s = true := h.w (in_t2 (List.mem_of_getElem? (i := 122) rfl)) rfl
theorem k_363 (h : Tb s) : (Cond.selects R_In y_In_become y_In_become).before args s = true := h.w (in_t2 (List.mem_of_getElem? (i := 123) rfl)) rfl
theorem k_364 (h : Tb s) : (Cond.code y_In_become b_In_become 6 none).before args s = true := h.w (in_t2 (List.mem_of_getElem? (i := 124) rfl)) rfl
theorem k_365 (h : Tb s) : (Cond.fieldLinkNest R_In 36 "PipeComputer" "WRITTEN_D" "[I" "PipeComputer").before args s = true := h.w (in_t2 (List.mem_of_getElem? (i := 125) rfl)) rfl
theorem k_367 (h : Tb s) : (Cond.methodLink R_In 40 y_In_register).before args s = true := h.w (in_t2 (List.mem_of_getElem? (i := 127) rfl)) rfl
theorem k_368 (h : Tb s) : (Cond.static y_In_register).before args s = true := h.w (in_t2 (List.mem_of_getElem? (i := 128) rfl)) rfl
theorem k_369 (h : Tb s) : (Cond.code y_In_register b_In_register 2 (some .int)).before args s = true := h.w (in_t2 (List.mem_of_getElem? (i := 129) rfl)) rfl
theorem k_370 (h : Tb s) : (Cond.fieldLinkNest R_In 44 "PipeComputer" "READ_A" "[I" "PipeComputer").before args s = true := h.w (in_t2 (List.mem_of_getElem? (i := 130) rfl)) rfl
theorem k_372 (h : Tb s) : (Cond.fieldLinkNest R_In 47 "PipeComputer" "READ_B" "[I" "PipeComputer").before args s = true := h.w (in_t2 (List.mem_of_getElem? (i := 132) rfl)) rfl
theorem k_374 (h : Tb s) : (Cond.methodLink R_La 63 y_La_cell2).before args s = true := h.w (in_t2 (List.mem_of_getElem? (i := 134) rfl)) rfl
theorem k_375 (h : Tb s) : (Cond.static y_La_cell2).before args s = true := h.w (in_t2 (List.mem_of_getElem? (i := 135) rfl)) rfl
theorem k_376 (h : Tb s) : (Cond.codeWith y_La_cell2 b_La_cell2 5 (some .int) [(0, 6, 9, 13)]).before args s = true := h.w (in_t2 (List.mem_of_getElem? (i := 136) rfl)) rfl
theorem k_377 (h : Tb s) : (Cond.methodLink R_La 15 y_Pc_cell).before args s = true := h.w (in_t2 (List.mem_of_getElem? (i := 137) rfl)) rfl
theorem k_378 (h : Tb s) : (Cond.instanceMethod y_Pc_cell).before args s = true := h.w (in_t2 (List.mem_of_getElem? (i := 138) rfl)) rfl
theorem k_379 (h : Tb s) : (Cond.selects R_Pc y_Pc_cell y_Pc_cell).before args s = true := h.w (in_t2 (List.mem_of_getElem? (i := 139) rfl)) rfl
theorem k_380 (h : Tb s) : (Cond.code y_Pc_cell b_Pc_cell 5 none).before args s = true := h.w (in_t2 (List.mem_of_getElem? (i := 140) rfl)) rfl
theorem k_381 (h : Tb s) : (Cond.constantDouble R_Pc 81 (13920209183539462144 : UInt64)).before args s = true := h.w (in_t2 (List.mem_of_getElem? (i := 141) rfl)) rfl
theorem k_382 (h : Tb s) : (Cond.constantDouble R_Pc 83 (4696837146684686336 : UInt64)).before args s = true := h.w (in_t2 (List.mem_of_getElem? (i := 142) rfl)) rfl
theorem k_383 (h : Tb s) : (Cond.methodLink R_La 67 y_La_start).before args s = true := h.w (in_t2 (List.mem_of_getElem? (i := 143) rfl)) rfl
theorem k_384 (h : Tb s) : (Cond.static y_La_start).before args s = true := h.w (in_t2 (List.mem_of_getElem? (i := 144) rfl)) rfl
theorem k_385 (h : Tb s) : (Cond.codeWith y_La_start b_La_start 3 (some .int) [(0, 5, 8, 13)]).before args s = true := h.w (in_t2 (List.mem_of_getElem? (i := 145) rfl)) rfl
theorem k_386 (h : Tb s) : (Cond.methodLink R_La 19 y_Pc_start).before args s = true := h.w (in_t2 (List.mem_of_getElem? (i := 146) rfl)) rfl
theorem k_387 (h : Tb s) : (Cond.instanceMethod y_Pc_start).before args s = true := h.w (in_t2 (List.mem_of_getElem? (i := 147) rfl)) rfl
theorem k_388 (h : Tb s) : (Cond.selects R_Pc y_Pc_start y_Pc_start).before args s = true := h.w (in_t2 (List.mem_of_getElem? (i := 148) rfl)) rfl
theorem k_389 (h : Tb s) : (Cond.code y_Pc_start b_Pc_start 2 none).before args s = true := h.w (in_t2 (List.mem_of_getElem? (i := 149) rfl)) rfl
theorem k_390 (h : Tb s) : (Cond.methodLink R_Pc 88 y_Ar_fill2).before args s = true := h.w (in_t2 (List.mem_of_getElem? (i := 150) rfl)) rfl
theorem k_391 (h : Tb s) : (Cond.methodLink R_Pc 94 y_Ar_fill).before args s = true := h.w (in_t2 (List.mem_of_getElem? (i := 151) rfl)) rfl
theorem k_392 (h : Tb s) : (Cond.static y_Ar_fill).before args s = true := h.w (in_t2 (List.mem_of_getElem? (i := 152) rfl)) rfl
theorem k_393 (h : Tb s) : (Cond.code y_Ar_fill b_Ar_fill 5 none).before args s = true := h.w (in_t2 (List.mem_of_getElem? (i := 153) rfl)) rfl
theorem k_394 (h : Tb s) : (Cond.methodLink R_Pc 97 y_Ck_reset).before args s = true := h.w (in_t2 (List.mem_of_getElem? (i := 154) rfl)) rfl
theorem k_395 (h : Tb s) : (Cond.instanceMethod y_Ck_reset).before args s = true := h.w (in_t2 (List.mem_of_getElem? (i := 155) rfl)) rfl
theorem k_396 (h : Tb s) : (Cond.selects R_Ck y_Ck_reset y_Ck_reset).before args s = true := h.w (in_t2 (List.mem_of_getElem? (i := 156) rfl)) rfl
theorem k_397 (h : Tb s) : (Cond.code y_Ck_reset b_Ck_reset 1 none).before args s = true := h.w (in_t2 (List.mem_of_getElem? (i := 157) rfl)) rfl
theorem k_398 (h : Tb s) : (Cond.methodLink R_Ck 29 y_Ar_fill2).before args s = true := h.w (in_t2 (List.mem_of_getElem? (i := 158) rfl)) rfl
theorem k_399 (h : Tb s) : (Cond.methodLink R_Pc 100 y_Cc_empty).before args s = true := h.w (in_t2 (List.mem_of_getElem? (i := 159) rfl)) rfl
theorem k_400 (h : Tb s) : (Cond.methodLink R_Pc 103 y_Dc_empty).before args s = true := h.w (in_t2 (List.mem_of_getElem? (i := 160) rfl)) rfl
theorem k_401 (h : Tb s) : (Cond.methodLink R_Pc 104 y_Pr_reset).before args s = true := h.w (in_t2 (List.mem_of_getElem? (i := 161) rfl)) rfl
theorem k_402 (h : Tb s) : (Cond.methodLink R_La 71 y_La_run).before args s = true := h.w (in_t2 (List.mem_of_getElem? (i := 162) rfl)) rfl
theorem k_403 (h : Tb s) : (Cond.static y_La_run).before args s = true := h.w (in_t2 (List.mem_of_getElem? (i := 163) rfl)) rfl
theorem k_404 (h : Tb s) : (Cond.codeWith y_La_run b_La_run 4 (some .int) [(0, 9, 12, 13), (0, 9, 15, 27), (0, 9, 18, 29), (0, 9, 21, 31)]).before args s = true := h.w (in_t2 (List.mem_of_getElem? (i := 164) rfl)) rfl
theorem k_405 (h : Tb s) : (Cond.classLink R_La 27 "java/lang/IllegalStateException").before args s = true := h.w (in_t2 (List.mem_of_getElem? (i := 165) rfl)) rfl
theorem k_406 (h : Tb s) : (Cond.classLink R_La 29 "java/lang/IndexOutOfBoundsException").before args s = true := h.w (in_t2 (List.mem_of_getElem? (i := 166) rfl)) rfl
theorem k_407 (h : Tb s) : (Cond.classLink R_La 31 "java/lang/ArithmeticException").before args s = true := h.w (in_t2 (List.mem_of_getElem? (i := 167) rfl)) rfl
theorem k_408 (h : Tb s) : (Cond.methodLink R_La 23 y_Pc_run).before args s = true := h.w (in_t2 (List.mem_of_getElem? (i := 168) rfl)) rfl
theorem k_409 (h : Tb s) : (Cond.instanceMethod y_Pc_run).before args s = true := h.w (in_t2 (List.mem_of_getElem? (i := 169) rfl)) rfl
theorem k_410 (h : Tb s) : (Cond.selects R_Pc y_Pc_run y_Pc_run).before args s = true := h.w (in_t2 (List.mem_of_getElem? (i := 170) rfl)) rfl
theorem k_411 (h : Tb s) : (Cond.code y_Pc_run b_Pc_run 3 (some .int)).before args s = true := h.w (in_t2 (List.mem_of_getElem? (i := 171) rfl)) rfl
theorem k_412 (h : Tb s) : (Cond.classLink R_Pc 105 "java/lang/IllegalStateException").before args s = true := h.w (in_t2 (List.mem_of_getElem? (i := 172) rfl)) rfl
theorem k_413 (h : Tb s) : (Cond.instantiable "java/lang/IllegalStateException" 6).before args s = true := h.w (in_t2 (List.mem_of_getElem? (i := 173) rfl)) rfl
theorem k_414 (h : Tb s) : (Cond.castable "java/lang/IllegalStateException" "java/lang/IllegalStateException").before args s = true := h.w (in_t2 (List.mem_of_getElem? (i := 174) rfl)) rfl
theorem k_421 (h : Tb s) : (Cond.methodLink R_Pc 107 ⟨"java/lang/IllegalStateException", "<init>", "()V"⟩).before args s = true := h.w (in_t2 (List.mem_of_getElem? (i := 181) rfl)) rfl
theorem k_422 (h : Tb s) : (Cond.instanceMethod ⟨"java/lang/IllegalStateException", "<init>", "()V"⟩).before args s = true := h.w (in_t2 (List.mem_of_getElem? (i := 182) rfl)) rfl
theorem k_427 (h : Tb s) : (Cond.methodLink R_Pc 108 y_Pc_doOne).before args s = true := h.w (in_t2 (List.mem_of_getElem? (i := 187) rfl)) rfl
theorem k_429 (h : Tb s) : (Cond.instanceMethod y_Pc_doOne).before args s = true := h.w (in_t2 (List.mem_of_getElem? (i := 189) rfl)) rfl
theorem k_430 (h : Tb s) : (Cond.code y_Pc_doOne b_Pc_doOne 6 none).before args s = true := h.w (in_t2 (List.mem_of_getElem? (i := 190) rfl)) rfl
theorem k_431 (h : Tb s) : (Cond.methodLink R_Pc 143 y_Cc_misses).before args s = true := h.w (in_t2 (List.mem_of_getElem? (i := 191) rfl)) rfl
theorem k_432 (h : Tb s) : (Cond.instanceMethod y_Cc_misses).before args s = true := h.w (in_t2 (List.mem_of_getElem? (i := 192) rfl)) rfl
theorem k_433 (h : Tb s) : (Cond.selects R_Cc y_Cc_misses y_Cc_misses).before args s = true := h.w (in_t2 (List.mem_of_getElem? (i := 193) rfl)) rfl
theorem k_434 (h : Tb s) : (Cond.code y_Cc_misses b_Cc_misses 3 (some .boolean)).before args s = true := h.w (in_t2 (List.mem_of_getElem? (i := 194) rfl)) rfl
theorem k_435 (h : Tb s) : (Cond.methodLink R_Pc 147 y_In_goesToMemory).before args s = true := h.w (in_t2 (List.mem_of_getElem? (i := 195) rfl)) rfl
theorem k_436 (h : Tb s) : (Cond.instanceMethod y_In_goesToMemory).before args s = true := h.w (in_t2 (List.mem_of_getElem? (i := 196) rfl)) rfl
theorem k_437 (h : Tb s) : (Cond.selects R_In y_In_goesToMemory y_In_goesToMemory).before args s = true := h.w (in_t2 (List.mem_of_getElem? (i := 197) rfl)) rfl
theorem k_438 (h : Tb s) : (Cond.code y_In_goesToMemory b_In_goesToMemory 1 (some .boolean)).before args s = true := h.w (in_t2 (List.mem_of_getElem? (i := 198) rfl)) rfl
theorem k_439 (h : Tb s) : (Cond.methodLink R_Pc 151 y_Pc_moveCell).before args s = true := h.w (in_t2 (List.mem_of_getElem? (i := 199) rfl)) rfl
theorem k_441 (h : Tb s) : (Cond.instanceMethod y_Pc_moveCell).before args s = true := h.w (in_t2 (List.mem_of_getElem? (i := 201) rfl)) rfl
theorem k_442 (h : Tb s) : (Cond.code y_Pc_moveCell b_Pc_moveCell 3 (some .boolean)).before args s = true := h.w (in_t2 (List.mem_of_getElem? (i := 202) rfl)) rfl
theorem k_443 (h : Tb s) : (Cond.classLink R_Pc 177 "java/lang/IndexOutOfBoundsException").before args s = true := h.w (in_t2 (List.mem_of_getElem? (i := 203) rfl)) rfl
theorem k_444 (h : Tb s) : (Cond.instantiable "java/lang/IndexOutOfBoundsException" 6).before args s = true := h.w (in_t2 (List.mem_of_getElem? (i := 204) rfl)) rfl
theorem k_445 (h : Tb s) : (Cond.castable "java/lang/IndexOutOfBoundsException" "java/lang/IndexOutOfBoundsException").before args s = true := h.w (in_t2 (List.mem_of_getElem? (i := 205) rfl)) rfl
theorem k_452 (h : Tb s) : (Cond.methodLink R_Pc 179 ⟨"java/lang/IndexOutOfBoundsException", "<init>", "()V"⟩).before args s = true := h.w (in_t2 (List.mem_of_getElem? (i := 212) rfl)) rfl
theorem k_453 (h : Tb s) : (Cond.instanceMethod ⟨"java/lang/IndexOutOfBoundsException", "<init>", "()V"⟩).before args s = true := h.w (in_t2 (List.mem_of_getElem? (i := 213) rfl)) rfl
theorem k_458 (h : Tb s) : (Cond.methodLink R_Pc 180 y_Pc_putWhole).before args s = true := h.w (in_t2 (List.mem_of_getElem? (i := 218) rfl)) rfl
theorem k_460 (h : Tb s) : (Cond.instanceMethod y_Pc_putWhole).before args s = true := h.w (in_t2 (List.mem_of_getElem? (i := 220) rfl)) rfl
theorem k_461 (h : Tb s) : (Cond.code y_Pc_putWhole b_Pc_putWhole 3 none).before args s = true := h.w (in_t2 (List.mem_of_getElem? (i := 221) rfl)) rfl
theorem k_462 (h : Tb s) : (Cond.methodLink R_Pc 183 y_Dc_misses).before args s = true := h.w (in_t2 (List.mem_of_getElem? (i := 222) rfl)) rfl
theorem k_463 (h : Tb s) : (Cond.instanceMethod y_Dc_misses).before args s = true := h.w (in_t2 (List.mem_of_getElem? (i := 223) rfl)) rfl
theorem k_464 (h : Tb s) : (Cond.selects R_Dc y_Dc_misses y_Dc_misses).before args s = true := h.w (in_t2 (List.mem_of_getElem? (i := 224) rfl)) rfl
theorem k_465 (h : Tb s) : (Cond.code y_Dc_misses b_Dc_misses 5 (some .boolean)).before args s = true := h.w (in_t2 (List.mem_of_getElem? (i := 225) rfl)) rfl
theorem k_466 (h : Tb s) : (Cond.methodLink R_Pc 155 y_In_hasTarget).before args s = true := h.w (in_t2 (List.mem_of_getElem? (i := 226) rfl)) rfl
theorem k_467 (h : Tb s) : (Cond.methodLink R_Pc 158 y_Pc_jumpIsDue).before args s = true := h.w (in_t2 (List.mem_of_getElem? (i := 227) rfl)) rfl
theorem k_469 (h : Tb s) : (Cond.instanceMethod y_Pc_jumpIsDue).before args s = true := h.w (in_t2 (List.mem_of_getElem? (i := 229) rfl)) rfl
theorem k_470 (h : Tb s) : (Cond.code y_Pc_jumpIsDue b_Pc_jumpIsDue 3 (some .boolean)).before args s = true := h.w (in_t2 (List.mem_of_getElem? (i := 230) rfl)) rfl
theorem k_471 (h : Tb s) : (Cond.methodLink R_Pc 161 y_Pr_guessesWrong).before args s = true := h.w (in_t2 (List.mem_of_getElem? (i := 231) rfl)) rfl
theorem k_472 (h : Tb s) : (Cond.instanceMethod y_Pr_guessesWrong).before args s = true := h.w (in_t2 (List.mem_of_getElem? (i := 232) rfl)) rfl
theorem k_473 (h : Tb s) : (Cond.selects R_Pr y_Pr_guessesWrong y_Pr_guessesWrong).before args s = true := h.w (in_t2 (List.mem_of_getElem? (i := 233) rfl)) rfl
theorem k_474 (h : Tb s) : (Cond.code y_Pr_guessesWrong b_Pr_guessesWrong 5 (some .boolean)).before args s = true := h.w (in_t2 (List.mem_of_getElem? (i := 234) rfl)) rfl
theorem k_475 (h : Tb s) : (Cond.methodLink R_Pr 26 ⟨"java/lang/Math", "min", "(II)I"⟩).before args s = true := h.w (in_t2 (List.mem_of_getElem? (i := 235) rfl)) rfl
theorem k_476 (h : Tb s) : (Cond.static ⟨"java/lang/Math", "min", "(II)I"⟩).before args s = true := h.w (in_t2 (List.mem_of_getElem? (i := 236) rfl)) rfl
theorem k_477 (h : Tb s) : (Cond.code Lib.Math.min.name Lib.Math.min.code 2 (some .int)).before args s = true := h.w (in_t2 (List.mem_of_getElem? (i := 237) rfl)) rfl
theorem k_478 (h : Tb s) : (Cond.methodLink R_Pr 32 ⟨"java/lang/Math", "max", "(II)I"⟩).before args s = true := h.w (in_t2 (List.mem_of_getElem? (i := 238) rfl)) rfl
theorem k_479 (h : Tb s) : (Cond.methodLink R_Pc 165 y_Pc_compute).before args s = true := h.w (in_t2 (List.mem_of_getElem? (i := 239) rfl)) rfl
theorem k_481 (h : Tb s) : (Cond.instanceMethod y_Pc_compute).before args s = true := h.w (in_t3 (List.mem_of_getElem? (i := 1) rfl)) rfl
theorem k_482 (h : Tb s) : (Cond.code y_Pc_compute b_Pc_compute 6 none).before args s = true := h.w (in_t3 (List.mem_of_getElem? (i := 2) rfl)) rfl
theorem k_483 (h : Tb s) : (Cond.methodLink R_Pc 184 y_Pc_computedWhole).before args s = true := h.w (in_t3 (List.mem_of_getElem? (i := 3) rfl)) rfl
theorem k_485 (h : Tb s) : (Cond.instanceMethod y_Pc_computedWhole).before args s = true := h.w (in_t3 (List.mem_of_getElem? (i := 5) rfl)) rfl
theorem k_486 (h : Tb s) : (Cond.code y_Pc_computedWhole b_Pc_computedWhole 4 (some .int)).before args s = true := h.w (in_t3 (List.mem_of_getElem? (i := 6) rfl)) rfl
theorem k_487 (h : Tb s) : (Cond.methodLink R_Pc 188 y_Pc_computedFraction).before args s = true := h.w (in_t3 (List.mem_of_getElem? (i := 7) rfl)) rfl
theorem k_489 (h : Tb s) : (Cond.instanceMethod y_Pc_computedFraction).before args s = true := h.w (in_t3 (List.mem_of_getElem? (i := 9) rfl)) rfl
theorem k_490 (h : Tb s) : (Cond.code y_Pc_computedFraction b_Pc_computedFraction 8 (some .double)).before args s = true := h.w (in_t3 (List.mem_of_getElem? (i := 10) rfl)) rfl
theorem k_491 (h : Tb s) : (Cond.methodLink R_Pc 192 y_Pc_outcomeOf).before args s = true := h.w (in_t3 (List.mem_of_getElem? (i := 11) rfl)) rfl
theorem k_493 (h : Tb s) : (Cond.instanceMethod y_Pc_outcomeOf).before args s = true := h.w (in_t3 (List.mem_of_getElem? (i := 13) rfl)) rfl
theorem k_494 (h : Tb s) : (Cond.code y_Pc_outcomeOf b_Pc_outcomeOf 6 (some .double)).before args s = true := h.w (in_t3 (List.mem_of_getElem? (i := 14) rfl)) rfl
theorem k_495 (h : Tb s) : (Cond.methodLink R_Pc 202 y_Pc_quotient).before args s = true := h.w (in_t3 (List.mem_of_getElem? (i := 15) rfl)) rfl
theorem k_497 (h : Tb s) : (Cond.instanceMethod y_Pc_quotient).before args s = true := h.w (in_t3 (List.mem_of_getElem? (i := 17) rfl)) rfl
theorem k_498 (h : Tb s) : (Cond.code y_Pc_quotient b_Pc_quotient 5 (some .double)).before args s = true := h.w (in_t3 (List.mem_of_getElem? (i := 18) rfl)) rfl
theorem k_499 (h : Tb s) : (Cond.classLink R_Pc 199 "java/lang/ArithmeticException").before args s = true := h.w (in_t3 (List.mem_of_getElem? (i := 19) rfl)) rfl
theorem k_500 (h : Tb s) : (Cond.instantiable "java/lang/ArithmeticException" 6).before args s = true := h.w (in_t3 (List.mem_of_getElem? (i := 20) rfl)) rfl
theorem k_501 (h : Tb s) : (Cond.castable "java/lang/ArithmeticException" "java/lang/ArithmeticException").before args s = true := h.w (in_t3 (List.mem_of_getElem? (i := 21) rfl)) rfl
theorem k_508 (h : Tb s) : (Cond.methodLink R_Pc 201 ⟨"java/lang/ArithmeticException", "<init>", "()V"⟩).before args s = true := h.w (in_t3 (List.mem_of_getElem? (i := 28) rfl)) rfl
theorem k_509 (h : Tb s) : (Cond.instanceMethod ⟨"java/lang/ArithmeticException", "<init>", "()V"⟩).before args s = true := h.w (in_t3 (List.mem_of_getElem? (i := 29) rfl)) rfl
theorem k_514 (h : Tb s) : (Cond.constantDouble R_Pc 195 (4741671816366391296 : UInt64)).before args s = true := h.w (in_t3 (List.mem_of_getElem? (i := 34) rfl)) rfl
theorem k_515 (h : Tb s) : (Cond.constantDouble R_Pc 197 (13965043853221167104 : UInt64)).before args s = true := h.w (in_t3 (List.mem_of_getElem? (i := 35) rfl)) rfl
theorem k_516 (h : Tb s) : (Cond.methodLink R_Pc 169 y_Ck_begin).before args s = true := h.w (in_t3 (List.mem_of_getElem? (i := 36) rfl)) rfl
theorem k_517 (h : Tb s) : (Cond.instanceMethod y_Ck_begin).before args s = true := h.w (in_t3 (List.mem_of_getElem? (i := 37) rfl)) rfl
theorem k_518 (h : Tb s) : (Cond.selects R_Ck y_Ck_begin y_Ck_begin).before args s = true := h.w (in_t3 (List.mem_of_getElem? (i := 38) rfl)) rfl
theorem k_519 (h : Tb s) : (Cond.code y_Ck_begin b_Ck_begin 7 none).before args s = true := h.w (in_t3 (List.mem_of_getElem? (i := 39) rfl)) rfl
theorem k_520 (h : Tb s) : (Cond.methodLink R_Ck 35 y_In_latency).before args s = true := h.w (in_t3 (List.mem_of_getElem? (i := 40) rfl)) rfl
theorem k_521 (h : Tb s) : (Cond.methodLink R_Ck 41 y_Ck_beginning).before args s = true := h.w (in_t3 (List.mem_of_getElem? (i := 41) rfl)) rfl
theorem k_523 (h : Tb s) : (Cond.instanceMethod y_Ck_beginning).before args s = true := h.w (in_t3 (List.mem_of_getElem? (i := 43) rfl)) rfl
theorem k_524 (h : Tb s) : (Cond.code y_Ck_beginning b_Ck_beginning 5 (some .int)).before args s = true := h.w (in_t3 (List.mem_of_getElem? (i := 44) rfl)) rfl
theorem k_525 (h : Tb s) : (Cond.methodLink R_Ck 58 y_Ck_readyTime).before args s = true := h.w (in_t3 (List.mem_of_getElem? (i := 45) rfl)) rfl
theorem k_527 (h : Tb s) : (Cond.instanceMethod y_Ck_readyTime).before args s = true := h.w (in_t3 (List.mem_of_getElem? (i := 47) rfl)) rfl
theorem k_528 (h : Tb s) : (Cond.code y_Ck_readyTime b_Ck_readyTime 2 (some .int)).before args s = true := h.w (in_t3 (List.mem_of_getElem? (i := 48) rfl)) rfl
theorem k_529 (h : Tb s) : (Cond.methodLink R_Ck 62 ⟨"java/lang/Math", "max", "(II)I"⟩).before args s = true := h.w (in_t3 (List.mem_of_getElem? (i := 49) rfl)) rfl
theorem k_530 (h : Tb s) : (Cond.methodLink R_Ck 51 y_In_goesToMemory).before args s = true := h.w (in_t3 (List.mem_of_getElem? (i := 50) rfl)) rfl
theorem k_531 (h : Tb s) : (Cond.methodLink R_Pc 173 y_In_target).before args s = true := h.w (in_t3 (List.mem_of_getElem? (i := 51) rfl)) rfl
theorem k_532 (h : Tb s) : (Cond.methodLink R_La 79 y_La_whole).before args s = true := h.w (in_t3 (List.mem_of_getElem? (i := 52) rfl)) rfl
theorem k_533 (h : Tb s) : (Cond.static y_La_whole).before args s = true := h.w (in_t3 (List.mem_of_getElem? (i := 53) rfl)) rfl
theorem k_534 (h : Tb s) : (Cond.codeWith y_La_whole b_La_whole 4 (some .int) [(0, 9, 12, 13)]).before args s = true := h.w (in_t3 (List.mem_of_getElem? (i := 54) rfl)) rfl
theorem k_535 (h : Tb s) : (Cond.methodLink R_La 33 y_Pc_whole).before args s = true := h.w (in_t3 (List.mem_of_getElem? (i := 55) rfl)) rfl
theorem k_536 (h : Tb s) : (Cond.instanceMethod y_Pc_whole).before args s = true := h.w (in_t3 (List.mem_of_getElem? (i := 56) rfl)) rfl
theorem k_537 (h : Tb s) : (Cond.selects R_Pc y_Pc_whole y_Pc_whole).before args s = true := h.w (in_t3 (List.mem_of_getElem? (i := 57) rfl)) rfl
theorem k_538 (h : Tb s) : (Cond.code y_Pc_whole b_Pc_whole 2 (some .int)).before args s = true := h.w (in_t3 (List.mem_of_getElem? (i := 58) rfl)) rfl
theorem k_539 (h : Tb s) : (Cond.methodLink R_La 82 y_La_fraction).before args s = true := h.w (in_t3 (List.mem_of_getElem? (i := 59) rfl)) rfl
theorem k_540 (h : Tb s) : (Cond.static y_La_fraction).before args s = true := h.w (in_t3 (List.mem_of_getElem? (i := 60) rfl)) rfl
theorem k_541 (h : Tb s) : (Cond.codeWith y_La_fraction b_La_fraction 4 (some .int) [(0, 8, 11, 13)]).before args s = true := h.w (in_t3 (List.mem_of_getElem? (i := 61) rfl)) rfl
theorem k_542 (h : Tb s) : (Cond.methodLink R_La 36 y_Pc_fraction).before args s = true := h.w (in_t3 (List.mem_of_getElem? (i := 62) rfl)) rfl
theorem k_543 (h : Tb s) : (Cond.instanceMethod y_Pc_fraction).before args s = true := h.w (in_t3 (List.mem_of_getElem? (i := 63) rfl)) rfl
theorem k_544 (h : Tb s) : (Cond.selects R_Pc y_Pc_fraction y_Pc_fraction).before args s = true := h.w (in_t3 (List.mem_of_getElem? (i := 64) rfl)) rfl
theorem k_545 (h : Tb s) : (Cond.code y_Pc_fraction b_Pc_fraction 2 (some .double)).before args s = true := h.w (in_t3 (List.mem_of_getElem? (i := 65) rfl)) rfl
theorem k_546 (h : Tb s) : (Cond.methodLink R_La 86 y_La_memory).before args s = true := h.w (in_t3 (List.mem_of_getElem? (i := 66) rfl)) rfl
theorem k_547 (h : Tb s) : (Cond.static y_La_memory).before args s = true := h.w (in_t3 (List.mem_of_getElem? (i := 67) rfl)) rfl
theorem k_548 (h : Tb s) : (Cond.codeWith y_La_memory b_La_memory 4 (some .int) [(0, 8, 11, 13)]).before args s = true := h.w (in_t3 (List.mem_of_getElem? (i := 68) rfl)) rfl
theorem k_549 (h : Tb s) : (Cond.methodLink R_La 40 y_Pc_memory).before args s = true := h.w (in_t3 (List.mem_of_getElem? (i := 69) rfl)) rfl
theorem k_550 (h : Tb s) : (Cond.instanceMethod y_Pc_memory).before args s = true := h.w (in_t3 (List.mem_of_getElem? (i := 70) rfl)) rfl
theorem k_551 (h : Tb s) : (Cond.selects R_Pc y_Pc_memory y_Pc_memory).before args s = true := h.w (in_t3 (List.mem_of_getElem? (i := 71) rfl)) rfl
theorem k_552 (h : Tb s) : (Cond.code y_Pc_memory b_Pc_memory 2 (some .double)).before args s = true := h.w (in_t3 (List.mem_of_getElem? (i := 72) rfl)) rfl
theorem k_553 (h : Tb s) : (Cond.methodLink R_La 89 y_La_told).before args s = true := h.w (in_t3 (List.mem_of_getElem? (i := 73) rfl)) rfl
theorem k_554 (h : Tb s) : (Cond.static y_La_told).before args s = true := h.w (in_t3 (List.mem_of_getElem? (i := 74) rfl)) rfl
theorem k_555 (h : Tb s) : (Cond.codeWith y_La_told b_La_told 5 (some .int) [(0, 10, 13, 13)]).before args s = true := h.w (in_t3 (List.mem_of_getElem? (i := 75) rfl)) rfl
theorem k_556 (h : Tb s) : (Cond.methodLink R_La 43 y_Pc_told).before args s = true := h.w (in_t3 (List.mem_of_getElem? (i := 76) rfl)) rfl
theorem k_557 (h : Tb s) : (Cond.instanceMethod y_Pc_told).before args s = true := h.w (in_t3 (List.mem_of_getElem? (i := 77) rfl)) rfl
theorem k_558 (h : Tb s) : (Cond.selects R_Pc y_Pc_told y_Pc_told).before args s = true := h.w (in_t3 (List.mem_of_getElem? (i := 78) rfl)) rfl
theorem k_559 (h : Tb s) : (Cond.code y_Pc_told b_Pc_told 4 (some .int)).before args s = true := h.w (in_t3 (List.mem_of_getElem? (i := 79) rfl)) rfl
theorem k_560 (h : Tb s) : (Cond.classLink R_La 48 R_Mo).before args s = true := h.w (in_t3 (List.mem_of_getElem? (i := 80) rfl)) rfl
theorem k_561 (h : Tb s) : (Cond.instantiable R_Mo 29).before args s = true := h.w (in_t3 (List.mem_of_getElem? (i := 81) rfl)) rfl
theorem k_562 (h : Tb s) : (Cond.methodLink R_La 50 y_Mo_init).before args s = true := h.w (in_t3 (List.mem_of_getElem? (i := 82) rfl)) rfl
theorem k_563 (h : Tb s) : (Cond.instanceMethod y_Mo_init).before args s = true := h.w (in_t3 (List.mem_of_getElem? (i := 83) rfl)) rfl
theorem k_564 (h : Tb s) : (Cond.code y_Mo_init b_Mo_init 1 none).before args s = true := h.w (in_t3 (List.mem_of_getElem? (i := 84) rfl)) rfl
theorem k_565 (h : Tb s) : (Cond.methodLink R_Mo 1 objectInit).before args s = true := h.w (in_t3 (List.mem_of_getElem? (i := 85) rfl)) rfl
theorem k_566 (h : Tb s) : (Cond.methodLink R_Mo 71 y_Mo_reset).before args s = true := h.w (in_t3 (List.mem_of_getElem? (i := 86) rfl)) rfl
theorem k_568 (h : Tb s) : (Cond.instanceMethod y_Mo_reset).before args s = true := h.w (in_t3 (List.mem_of_getElem? (i := 88) rfl)) rfl
theorem k_569 (h : Tb s) : (Cond.code y_Mo_reset b_Mo_reset 2 none).before args s = true := h.w (in_t3 (List.mem_of_getElem? (i := 89) rfl)) rfl
theorem k_570 (h : Tb s) : (Cond.fieldLink R_Mo 7 "PipeComputerModel" "op" "[I").before args s = true := h.w (in_t3 (List.mem_of_getElem? (i := 90) rfl)) rfl
theorem k_571 (h : Tb s) : (Cond.fieldLink R_Mo 13 "PipeComputerModel" "d" "[I").before args s = true := h.w (in_t3 (List.mem_of_getElem? (i := 91) rfl)) rfl
theorem k_572 (h : Tb s) : (Cond.fieldLink R_Mo 16 "PipeComputerModel" "a" "[I").before args s = true := h.w (in_t3 (List.mem_of_getElem? (i := 92) rfl)) rfl
theorem k_573 (h : Tb s) : (Cond.fieldLink R_Mo 19 "PipeComputerModel" "b" "[I").before args s = true := h.w (in_t3 (List.mem_of_getElem? (i := 93) rfl)) rfl
theorem k_574 (h : Tb s) : (Cond.fieldLink R_Mo 22 "PipeComputerModel" "n" "[I").before args s = true := h.w (in_t3 (List.mem_of_getElem? (i := 94) rfl)) rfl
theorem k_575 (h : Tb s) : (Cond.fieldLink R_Mo 25 "PipeComputerModel" "whole" "[I").before args s = true := h.w (in_t3 (List.mem_of_getElem? (i := 95) rfl)) rfl
theorem k_576 (h : Tb s) : (Cond.fieldLink R_Mo 28 "PipeComputerModel" "ready" "[I").before args s = true := h.w (in_t3 (List.mem_of_getElem? (i := 96) rfl)) rfl
theorem k_577 (h : Tb s) : (Cond.fieldLink R_Mo 31 "PipeComputerModel" "group" "[I").before args s = true := h.w (in_t3 (List.mem_of_getElem? (i := 97) rfl)) rfl
theorem k_578 (h : Tb s) : (Cond.fieldLink R_Mo 34 "PipeComputerModel" "line" "[I").before args s = true := h.w (in_t3 (List.mem_of_getElem? (i := 98) rfl)) rfl
theorem k_579 (h : Tb s) : (Cond.fieldLink R_Mo 37 "PipeComputerModel" "used" "[I").before args s = true := h.w (in_t3 (List.mem_of_getElem? (i := 99) rfl)) rfl
theorem k_580 (h : Tb s) : (Cond.fieldLink R_Mo 40 "PipeComputerModel" "counter" "[I").before args s = true := h.w (in_t3 (List.mem_of_getElem? (i := 100) rfl)) rfl
theorem k_581 (h : Tb s) : (Cond.fieldLink R_Mo 43 "PipeComputerModel" "fraction" "[D").before args s = true := h.w (in_t3 (List.mem_of_getElem? (i := 101) rfl)) rfl
theorem k_582 (h : Tb s) : (Cond.fieldLink R_Mo 47 "PipeComputerModel" "memory" "[D").before args s = true := h.w (in_t3 (List.mem_of_getElem? (i := 102) rfl)) rfl
theorem k_583 (h : Tb s) : (Cond.fieldLink R_Mo 50 "PipeComputerModel" "height" "[I").before args s = true := h.w (in_t3 (List.mem_of_getElem? (i := 103) rfl)) rfl
theorem k_584 (h : Tb s) : (Cond.fieldLink R_Mo 53 "PipeComputerModel" "order" "[I").before args s = true := h.w (in_t3 (List.mem_of_getElem? (i := 104) rfl)) rfl
theorem k_585 (h : Tb s) : (Cond.fieldLink R_Mo 56 "PipeComputerModel" "kept" "[I").before args s = true := h.w (in_t3 (List.mem_of_getElem? (i := 105) rfl)) rfl
theorem k_586 (h : Tb s) : (Cond.fieldLink R_Mo 59 "PipeComputerModel" "placed" "[Z").before args s = true := h.w (in_t3 (List.mem_of_getElem? (i := 106) rfl)) rfl
theorem k_587 (h : Tb s) : (Cond.fieldLink R_Mo 113 "PipeComputerModel" "place" "I").before args s = true := h.w (in_t3 (List.mem_of_getElem? (i := 107) rfl)) rfl
theorem k_588 (h : Tb s) : (Cond.fieldLink R_Mo 95 "PipeComputerModel" "done" "I").before args s = true := h.w (in_t3 (List.mem_of_getElem? (i := 108) rfl)) rfl
theorem k_589 (h : Tb s) : (Cond.fieldLink R_Mo 63 "PipeComputerModel" "began" "I").before args s = true := h.w (in_t3 (List.mem_of_getElem? (i := 109) rfl)) rfl
theorem k_590 (h : Tb s) : (Cond.fieldLink R_Mo 92 "PipeComputerModel" "groupsMissed" "I").before args s = true := h.w (in_t3 (List.mem_of_getElem? (i := 110) rfl)) rfl
theorem k_591 (h : Tb s) : (Cond.fieldLink R_Mo 89 "PipeComputerModel" "linesMissed" "I").before args s = true := h.w (in_t3 (List.mem_of_getElem? (i := 111) rfl)) rfl
theorem k_592 (h : Tb s) : (Cond.fieldLink R_Mo 86 "PipeComputerModel" "wrongJumps" "I").before args s = true := h.w (in_t3 (List.mem_of_getElem? (i := 112) rfl)) rfl
theorem k_593 (h : Tb s) : (Cond.fieldLink R_Mo 83 "PipeComputerModel" "divider" "I").before args s = true := h.w (in_t3 (List.mem_of_getElem? (i := 113) rfl)) rfl
theorem k_594 (h : Tb s) : (Cond.fieldLink R_Mo 80 "PipeComputerModel" "memoryFree" "I").before args s = true := h.w (in_t3 (List.mem_of_getElem? (i := 114) rfl)) rfl
theorem k_595 (h : Tb s) : (Cond.fieldLink R_Mo 77 "PipeComputerModel" "clock" "I").before args s = true := h.w (in_t3 (List.mem_of_getElem? (i := 115) rfl)) rfl
theorem k_596 (h : Tb s) : (Cond.fieldLink R_Mo 74 "PipeComputerModel" "thrown" "I").before args s = true := h.w (in_t3 (List.mem_of_getElem? (i := 116) rfl)) rfl
theorem k_597 (h : Tb s) : (Cond.fieldLink R_Mo 67 "PipeComputerModel" "stopped" "Z").before args s = true := h.w (in_t3 (List.mem_of_getElem? (i := 117) rfl)) rfl
theorem k_598 (h : Tb s) : (Cond.fieldLink R_Mo 98 "PipeComputerModel" "wrong" "Z").before args s = true := h.w (in_t3 (List.mem_of_getElem? (i := 118) rfl)) rfl
theorem k_658 (h : Tb s) : (Cond.methodLink R_La 57 y_Mo_thrown).before args s = true := h.w (in_t3 (List.mem_of_getElem? (i := 178) rfl)) rfl
theorem k_659 (h : Tb s) : (Cond.instanceMethod y_Mo_thrown).before args s = true := h.w (in_t3 (List.mem_of_getElem? (i := 179) rfl)) rfl
theorem k_660 (h : Tb s) : (Cond.selects R_Mo y_Mo_thrown y_Mo_thrown).before args s = true := h.w (in_t3 (List.mem_of_getElem? (i := 180) rfl)) rfl
theorem k_661 (h : Tb s) : (Cond.code y_Mo_thrown b_Mo_thrown 1 (some .int)).before args s = true := h.w (in_t3 (List.mem_of_getElem? (i := 181) rfl)) rfl
theorem k_662 (h : Tb s) : (Cond.methodLink R_La 56 y_Mo_code).before args s = true := h.w (in_t3 (List.mem_of_getElem? (i := 182) rfl)) rfl
theorem k_663 (h : Tb s) : (Cond.instanceMethod y_Mo_code).before args s = true := h.w (in_t3 (List.mem_of_getElem? (i := 183) rfl)) rfl
theorem k_664 (h : Tb s) : (Cond.selects R_Mo y_Mo_code y_Mo_code).before args s = true := h.w (in_t3 (List.mem_of_getElem? (i := 184) rfl)) rfl
theorem k_665 (h : Tb s) : (Cond.code y_Mo_code b_Mo_code 7 none).before args s = true := h.w (in_t3 (List.mem_of_getElem? (i := 185) rfl)) rfl
theorem k_666 (h : Tb s) : (Cond.methodLink R_Mo 101 y_Mo_in).before args s = true := h.w (in_t3 (List.mem_of_getElem? (i := 186) rfl)) rfl
theorem k_667 (h : Tb s) : (Cond.static y_Mo_in).before args s = true := h.w (in_t3 (List.mem_of_getElem? (i := 187) rfl)) rfl
theorem k_668 (h : Tb s) : (Cond.code y_Mo_in b_Mo_in 3 (some .boolean)).before args s = true := h.w (in_t3 (List.mem_of_getElem? (i := 188) rfl)) rfl
theorem k_669 (h : Tb s) : (Cond.methodLink R_Mo 105 y_Mo_bad).before args s = true := h.w (in_t3 (List.mem_of_getElem? (i := 189) rfl)) rfl
theorem k_671 (h : Tb s) : (Cond.instanceMethod y_Mo_bad).before args s = true := h.w (in_t3 (List.mem_of_getElem? (i := 191) rfl)) rfl
theorem k_672 (h : Tb s) : (Cond.code y_Mo_bad b_Mo_bad 2 (some .boolean)).before args s = true := h.w (in_t3 (List.mem_of_getElem? (i := 192) rfl)) rfl
theorem k_673 (h : Tb s) : (Cond.methodLink R_La 66 y_Mo_cell).before args s = true := h.w (in_t3 (List.mem_of_getElem? (i := 193) rfl)) rfl
theorem k_674 (h : Tb s) : (Cond.instanceMethod y_Mo_cell).before args s = true := h.w (in_t3 (List.mem_of_getElem? (i := 194) rfl)) rfl
theorem k_675 (h : Tb s) : (Cond.selects R_Mo y_Mo_cell y_Mo_cell).before args s = true := h.w (in_t3 (List.mem_of_getElem? (i := 195) rfl)) rfl
theorem k_676 (h : Tb s) : (Cond.code y_Mo_cell b_Mo_cell 4 none).before args s = true := h.w (in_t3 (List.mem_of_getElem? (i := 196) rfl)) rfl
theorem k_677 (h : Tb s) : (Cond.constantDouble R_Mo 109 (13920209183539462144 : UInt64)).before args s = true := h.w (in_t3 (List.mem_of_getElem? (i := 197) rfl)) rfl
theorem k_678 (h : Tb s) : (Cond.constantDouble R_Mo 111 (4696837146684686336 : UInt64)).before args s = true := h.w (in_t3 (List.mem_of_getElem? (i := 198) rfl)) rfl
theorem k_679 (h : Tb s) : (Cond.methodLink R_La 70 y_Mo_start).before args s = true := h.w (in_t3 (List.mem_of_getElem? (i := 199) rfl)) rfl
theorem k_680 (h : Tb s) : (Cond.instanceMethod y_Mo_start).before args s = true := h.w (in_t3 (List.mem_of_getElem? (i := 200) rfl)) rfl
theorem k_681 (h : Tb s) : (Cond.selects R_Mo y_Mo_start y_Mo_start).before args s = true := h.w (in_t3 (List.mem_of_getElem? (i := 201) rfl)) rfl
theorem k_682 (h : Tb s) : (Cond.code y_Mo_start b_Mo_start 2 none).before args s = true := h.w (in_t3 (List.mem_of_getElem? (i := 202) rfl)) rfl
theorem k_683 (h : Tb s) : (Cond.methodLink R_La 74 y_Mo_run).before args s = true := h.w (in_t3 (List.mem_of_getElem? (i := 203) rfl)) rfl
theorem k_684 (h : Tb s) : (Cond.instanceMethod y_Mo_run).before args s = true := h.w (in_t3 (List.mem_of_getElem? (i := 204) rfl)) rfl
theorem k_685 (h : Tb s) : (Cond.selects R_Mo y_Mo_run y_Mo_run).before args s = true := h.w (in_t3 (List.mem_of_getElem? (i := 205) rfl)) rfl
theorem k_686 (h : Tb s) : (Cond.code y_Mo_run b_Mo_run 3 (some .int)).before args s = true := h.w (in_t3 (List.mem_of_getElem? (i := 206) rfl)) rfl
theorem k_687 (h : Tb s) : (Cond.methodLink R_Mo 165 y_Mo_doOne).before args s = true := h.w (in_t3 (List.mem_of_getElem? (i := 207) rfl)) rfl
theorem k_689 (h : Tb s) : (Cond.instanceMethod y_Mo_doOne).before args s = true := h.w (in_t3 (List.mem_of_getElem? (i := 209) rfl)) rfl
theorem k_690 (h : Tb s) : (Cond.code y_Mo_doOne b_Mo_doOne 10 none).before args s = true := h.w (in_t3 (List.mem_of_getElem? (i := 210) rfl)) rfl
theorem k_691 (h : Tb s) : (Cond.methodLink R_Mo 132 y_Mo_missGroup).before args s = true := h.w (in_t3 (List.mem_of_getElem? (i := 211) rfl)) rfl
theorem k_693 (h : Tb s) : (Cond.instanceMethod y_Mo_missGroup).before args s = true := h.w (in_t3 (List.mem_of_getElem? (i := 213) rfl)) rfl
theorem k_694 (h : Tb s) : (Cond.code y_Mo_missGroup b_Mo_missGroup 3 (some .boolean)).before args s = true := h.w (in_t3 (List.mem_of_getElem? (i := 214) rfl)) rfl
theorem k_695 (h : Tb s) : (Cond.methodLink R_Mo 136 y_Mo_trouble).before args s = true := h.w (in_t3 (List.mem_of_getElem? (i := 215) rfl)) rfl
theorem k_697 (h : Tb s) : (Cond.instanceMethod y_Mo_trouble).before args s = true := h.w (in_t3 (List.mem_of_getElem? (i := 217) rfl)) rfl
theorem k_698 (h : Tb s) : (Cond.code y_Mo_trouble b_Mo_trouble 9 (some .int)).before args s = true := h.w (in_t3 (List.mem_of_getElem? (i := 218) rfl)) rfl
theorem k_699 (h : Tb s) : (Cond.methodLink R_Mo 120 y_Mo_reckon).before args s = true := h.w (in_t3 (List.mem_of_getElem? (i := 219) rfl)) rfl
theorem k_701 (h : Tb s) : (Cond.instanceMethod y_Mo_reckon).before args s = true := h.w (in_t3 (List.mem_of_getElem? (i := 221) rfl)) rfl
theorem k_702 (h : Tb s) : (Cond.code y_Mo_reckon b_Mo_reckon 6 (some .double)).before args s = true := h.w (in_t3 (List.mem_of_getElem? (i := 222) rfl)) rfl
theorem k_703 (h : Tb s) : (Cond.constantDouble R_Mo 124 (4741671816366391296 : UInt64)).before args s = true := h.w (in_t3 (List.mem_of_getElem? (i := 223) rfl)) rfl
theorem k_704 (h : Tb s) : (Cond.constantDouble R_Mo 126 (13965043853221167104 : UInt64)).before args s = true := h.w (in_t3 (List.mem_of_getElem? (i := 224) rfl)) rfl
theorem k_705 (h : Tb s) : (Cond.methodLink R_Mo 139 y_Mo_missLine).before args s = true := h.w (in_t3 (List.mem_of_getElem? (i := 225) rfl)) rfl
theorem k_707 (h : Tb s) : (Cond.instanceMethod y_Mo_missLine).before args s = true := h.w (in_t3 (List.mem_of_getElem? (i := 227) rfl)) rfl
theorem k_708 (h : Tb s) : (Cond.code y_Mo_missLine b_Mo_missLine 5 (some .boolean)).before args s = true := h.w (in_t3 (List.mem_of_getElem? (i := 228) rfl)) rfl
theorem k_709 (h : Tb s) : (Cond.methodLink R_Mo 142 y_Mo_target).before args s = true := h.w (in_t3 (List.mem_of_getElem? (i := 229) rfl)) rfl
theorem k_711 (h : Tb s) : (Cond.instanceMethod y_Mo_target).before args s = true := h.w (in_t3 (List.mem_of_getElem? (i := 231) rfl)) rfl
theorem k_712 (h : Tb s) : (Cond.code y_Mo_target b_Mo_target 3 (some .int)).before args s = true := h.w (in_t3 (List.mem_of_getElem? (i := 232) rfl)) rfl
theorem k_713 (h : Tb s) : (Cond.methodLink R_Mo 145 y_Mo_latency).before args s = true := h.w (in_t3 (List.mem_of_getElem? (i := 233) rfl)) rfl
theorem k_715 (h : Tb s) : (Cond.instanceMethod y_Mo_latency).before args s = true := h.w (in_t3 (List.mem_of_getElem? (i := 235) rfl)) rfl
theorem k_716 (h : Tb s) : (Cond.code y_Mo_latency b_Mo_latency 3 (some .int)).before args s = true := h.w (in_t3 (List.mem_of_getElem? (i := 236) rfl)) rfl
theorem k_717 (h : Tb s) : (Cond.methodLink R_Mo 148 y_Mo_first).before args s = true := h.w (in_t3 (List.mem_of_getElem? (i := 237) rfl)) rfl
theorem k_719 (h : Tb s) : (Cond.instanceMethod y_Mo_first).before args s = true := h.w (in_t3 (List.mem_of_getElem? (i := 239) rfl)) rfl
theorem k_720 (h : Tb s) : (Cond.code y_Mo_first b_Mo_first 3 (some .int)).before args s = true := h.w (in_t4 (List.mem_of_getElem? (i := 0) rfl)) rfl
theorem k_721 (h : Tb s) : (Cond.methodLink R_Mo 151 y_Mo_later).before args s = true := h.w (in_t4 (List.mem_of_getElem? (i := 1) rfl)) rfl
theorem k_722 (h : Tb s) : (Cond.static y_Mo_later).before args s = true := h.w (in_t4 (List.mem_of_getElem? (i := 2) rfl)) rfl
theorem k_723 (h : Tb s) : (Cond.code y_Mo_later b_Mo_later 2 (some .int)).before args s = true := h.w (in_t4 (List.mem_of_getElem? (i := 3) rfl)) rfl
theorem k_724 (h : Tb s) : (Cond.methodLink R_Mo 155 y_Mo_second).before args s = true := h.w (in_t4 (List.mem_of_getElem? (i := 4) rfl)) rfl
theorem k_726 (h : Tb s) : (Cond.instanceMethod y_Mo_second).before args s = true := h.w (in_t4 (List.mem_of_getElem? (i := 6) rfl)) rfl
theorem k_727 (h : Tb s) : (Cond.code y_Mo_second b_Mo_second 3 (some .int)).before args s = true := h.w (in_t4 (List.mem_of_getElem? (i := 7) rfl)) rfl
theorem k_728 (h : Tb s) : (Cond.methodLink R_Mo 158 y_Mo_compute).before args s = true := h.w (in_t4 (List.mem_of_getElem? (i := 8) rfl)) rfl
theorem k_730 (h : Tb s) : (Cond.instanceMethod y_Mo_compute).before args s = true := h.w (in_t4 (List.mem_of_getElem? (i := 10) rfl)) rfl
theorem k_731 (h : Tb s) : (Cond.code y_Mo_compute b_Mo_compute 10 none).before args s = true := h.w (in_t4 (List.mem_of_getElem? (i := 11) rfl)) rfl
theorem k_732 (h : Tb s) : (Cond.methodLink R_Mo 116 y_Mo_put).before args s = true := h.w (in_t4 (List.mem_of_getElem? (i := 12) rfl)) rfl
theorem k_734 (h : Tb s) : (Cond.instanceMethod y_Mo_put).before args s = true := h.w (in_t4 (List.mem_of_getElem? (i := 14) rfl)) rfl
theorem k_735 (h : Tb s) : (Cond.code y_Mo_put b_Mo_put 3 none).before args s = true := h.w (in_t4 (List.mem_of_getElem? (i := 15) rfl)) rfl
theorem k_736 (h : Tb s) : (Cond.methodLink R_Mo 162 y_Mo_next).before args s = true := h.w (in_t4 (List.mem_of_getElem? (i := 16) rfl)) rfl
theorem k_738 (h : Tb s) : (Cond.instanceMethod y_Mo_next).before args s = true := h.w (in_t4 (List.mem_of_getElem? (i := 18) rfl)) rfl
theorem k_739 (h : Tb s) : (Cond.code y_Mo_next b_Mo_next 5 (some .int)).before args s = true := h.w (in_t4 (List.mem_of_getElem? (i := 19) rfl)) rfl
theorem k_740 (h : Tb s) : (Cond.methodLink R_Mo 128 y_Mo_modulo).before args s = true := h.w (in_t4 (List.mem_of_getElem? (i := 20) rfl)) rfl
theorem k_741 (h : Tb s) : (Cond.static y_Mo_modulo).before args s = true := h.w (in_t4 (List.mem_of_getElem? (i := 21) rfl)) rfl
theorem k_742 (h : Tb s) : (Cond.code y_Mo_modulo b_Mo_modulo 1 (some .int)).before args s = true := h.w (in_t4 (List.mem_of_getElem? (i := 22) rfl)) rfl
theorem k_743 (h : Tb s) : (Cond.methodLink R_La 78 y_Mo_schedule).before args s = true := h.w (in_t4 (List.mem_of_getElem? (i := 23) rfl)) rfl
theorem k_744 (h : Tb s) : (Cond.instanceMethod y_Mo_schedule).before args s = true := h.w (in_t4 (List.mem_of_getElem? (i := 24) rfl)) rfl
theorem k_745 (h : Tb s) : (Cond.selects R_Mo y_Mo_schedule y_Mo_schedule).before args s = true := h.w (in_t4 (List.mem_of_getElem? (i := 25) rfl)) rfl
theorem k_746 (h : Tb s) : (Cond.code y_Mo_schedule b_Mo_schedule 7 (some .int)).before args s = true := h.w (in_t4 (List.mem_of_getElem? (i := 26) rfl)) rfl
theorem k_747 (h : Tb s) : (Cond.methodLink R_Mo 175 y_Mo_leader).before args s = true := h.w (in_t4 (List.mem_of_getElem? (i := 27) rfl)) rfl
theorem k_749 (h : Tb s) : (Cond.instanceMethod y_Mo_leader).before args s = true := h.w (in_t4 (List.mem_of_getElem? (i := 29) rfl)) rfl
theorem k_750 (h : Tb s) : (Cond.code y_Mo_leader b_Mo_leader 3 (some .boolean)).before args s = true := h.w (in_t4 (List.mem_of_getElem? (i := 30) rfl)) rfl
theorem k_751 (h : Tb s) : (Cond.methodLink R_Mo 178 y_Mo_findHeights).before args s = true := h.w (in_t4 (List.mem_of_getElem? (i := 31) rfl)) rfl
theorem k_753 (h : Tb s) : (Cond.instanceMethod y_Mo_findHeights).before args s = true := h.w (in_t4 (List.mem_of_getElem? (i := 33) rfl)) rfl
theorem k_754 (h : Tb s) : (Cond.code y_Mo_findHeights b_Mo_findHeights 5 none).before args s = true := h.w (in_t4 (List.mem_of_getElem? (i := 34) rfl)) rfl
theorem k_755 (h : Tb s) : (Cond.methodLink R_Mo 172 y_Mo_tied).before args s = true := h.w (in_t4 (List.mem_of_getElem? (i := 35) rfl)) rfl
theorem k_757 (h : Tb s) : (Cond.instanceMethod y_Mo_tied).before args s = true := h.w (in_t4 (List.mem_of_getElem? (i := 37) rfl)) rfl
theorem k_758 (h : Tb s) : (Cond.code y_Mo_tied b_Mo_tied 5 (some .boolean)).before args s = true := h.w (in_t4 (List.mem_of_getElem? (i := 38) rfl)) rfl
theorem k_759 (h : Tb s) : (Cond.methodLink R_Mo 168 y_Mo_reads).before args s = true := h.w (in_t4 (List.mem_of_getElem? (i := 39) rfl)) rfl
theorem k_761 (h : Tb s) : (Cond.instanceMethod y_Mo_reads).before args s = true := h.w (in_t4 (List.mem_of_getElem? (i := 41) rfl)) rfl
theorem k_762 (h : Tb s) : (Cond.code y_Mo_reads b_Mo_reads 3 (some .boolean)).before args s = true := h.w (in_t4 (List.mem_of_getElem? (i := 42) rfl)) rfl
theorem k_763 (h : Tb s) : (Cond.methodLink R_Mo 181 y_Mo_free).before args s = true := h.w (in_t4 (List.mem_of_getElem? (i := 43) rfl)) rfl
theorem k_765 (h : Tb s) : (Cond.instanceMethod y_Mo_free).before args s = true := h.w (in_t4 (List.mem_of_getElem? (i := 45) rfl)) rfl
theorem k_766 (h : Tb s) : (Cond.code y_Mo_free b_Mo_free 4 (some .boolean)).before args s = true := h.w (in_t4 (List.mem_of_getElem? (i := 46) rfl)) rfl
theorem k_767 (h : Tb s) : (Cond.methodLink R_Mo 184 y_Mo_move).before args s = true := h.w (in_t4 (List.mem_of_getElem? (i := 47) rfl)) rfl
theorem k_769 (h : Tb s) : (Cond.instanceMethod y_Mo_move).before args s = true := h.w (in_t4 (List.mem_of_getElem? (i := 49) rfl)) rfl
theorem k_770 (h : Tb s) : (Cond.code y_Mo_move b_Mo_move 3 none).before args s = true := h.w (in_t4 (List.mem_of_getElem? (i := 50) rfl)) rfl
theorem k_771 (h : Tb s) : (Cond.methodLink R_La 81 y_Mo_whole).before args s = true := h.w (in_t4 (List.mem_of_getElem? (i := 51) rfl)) rfl
theorem k_772 (h : Tb s) : (Cond.instanceMethod y_Mo_whole).before args s = true := h.w (in_t4 (List.mem_of_getElem? (i := 52) rfl)) rfl
theorem k_773 (h : Tb s) : (Cond.selects R_Mo y_Mo_whole y_Mo_whole).before args s = true := h.w (in_t4 (List.mem_of_getElem? (i := 53) rfl)) rfl
theorem k_774 (h : Tb s) : (Cond.code y_Mo_whole b_Mo_whole 2 (some .int)).before args s = true := h.w (in_t4 (List.mem_of_getElem? (i := 54) rfl)) rfl
theorem k_775 (h : Tb s) : (Cond.methodLink R_La 85 y_Mo_fraction).before args s = true := h.w (in_t4 (List.mem_of_getElem? (i := 55) rfl)) rfl
theorem k_776 (h : Tb s) : (Cond.instanceMethod y_Mo_fraction).before args s = true := h.w (in_t4 (List.mem_of_getElem? (i := 56) rfl)) rfl
theorem k_777 (h : Tb s) : (Cond.selects R_Mo y_Mo_fraction y_Mo_fraction).before args s = true := h.w (in_t4 (List.mem_of_getElem? (i := 57) rfl)) rfl
theorem k_778 (h : Tb s) : (Cond.code y_Mo_fraction b_Mo_fraction 2 (some .double)).before args s = true := h.w (in_t4 (List.mem_of_getElem? (i := 58) rfl)) rfl
theorem k_779 (h : Tb s) : (Cond.methodLink R_La 88 y_Mo_memory).before args s = true := h.w (in_t4 (List.mem_of_getElem? (i := 59) rfl)) rfl
theorem k_780 (h : Tb s) : (Cond.instanceMethod y_Mo_memory).before args s = true := h.w (in_t4 (List.mem_of_getElem? (i := 60) rfl)) rfl
theorem k_781 (h : Tb s) : (Cond.selects R_Mo y_Mo_memory y_Mo_memory).before args s = true := h.w (in_t4 (List.mem_of_getElem? (i := 61) rfl)) rfl
theorem k_782 (h : Tb s) : (Cond.code y_Mo_memory b_Mo_memory 2 (some .double)).before args s = true := h.w (in_t4 (List.mem_of_getElem? (i := 62) rfl)) rfl
theorem k_783 (h : Tb s) : (Cond.methodLink R_La 92 y_Mo_told).before args s = true := h.w (in_t4 (List.mem_of_getElem? (i := 63) rfl)) rfl
theorem k_784 (h : Tb s) : (Cond.instanceMethod y_Mo_told).before args s = true := h.w (in_t4 (List.mem_of_getElem? (i := 64) rfl)) rfl
theorem k_785 (h : Tb s) : (Cond.selects R_Mo y_Mo_told y_Mo_told).before args s = true := h.w (in_t4 (List.mem_of_getElem? (i := 65) rfl)) rfl
theorem k_786 (h : Tb s) : (Cond.code y_Mo_told b_Mo_told 3 (some .int)).before args s = true := h.w (in_t4 (List.mem_of_getElem? (i := 66) rfl)) rfl
theorem k_787 (h : Tb s) : (Cond.methodLink R_La 96 y_Mo_count).before args s = true := h.w (in_t4 (List.mem_of_getElem? (i := 67) rfl)) rfl
theorem k_788 (h : Tb s) : (Cond.instanceMethod y_Mo_count).before args s = true := h.w (in_t4 (List.mem_of_getElem? (i := 68) rfl)) rfl
theorem k_789 (h : Tb s) : (Cond.selects R_Mo y_Mo_count y_Mo_count).before args s = true := h.w (in_t4 (List.mem_of_getElem? (i := 69) rfl)) rfl
theorem k_790 (h : Tb s) : (Cond.code y_Mo_count b_Mo_count 2 (some .int)).before args s = true := h.w (in_t4 (List.mem_of_getElem? (i := 70) rfl)) rfl
theorem k_791 (h : Tb s) : (Cond.constantDouble R_La 61 (4593671619917905920 : UInt64)).before args s = true := h.w (in_t4 (List.mem_of_getElem? (i := 71) rfl)) rfl
theorem k_792 (h : Tb s) : (Cond.arrayClass .long).before args s = true := h.w (in_t4 (List.mem_of_getElem? (i := 72) rfl)) rfl
theorem ks_0 (h : Tb s) : (Cond.selects R_Sc y_Sc_findLeaders y_Sc_findLeaders).before args s = true := h.w (in_s (List.mem_of_getElem? (i := 0) rfl)) rfl
theorem ks_1 (h : Tb s) : (Cond.selects R_Sc y_Sc_endOfBlock y_Sc_endOfBlock).before args s = true := h.w (in_s (List.mem_of_getElem? (i := 1) rfl)) rfl
theorem ks_2 (h : Tb s) : (Cond.selects R_Sc y_Sc_reorderBlock y_Sc_reorderBlock).before args s = true := h.w (in_s (List.mem_of_getElem? (i := 2) rfl)) rfl
theorem ks_3 (h : Tb s) : (Cond.selects R_Sc y_Sc_findHeights y_Sc_findHeights).before args s = true := h.w (in_s (List.mem_of_getElem? (i := 3) rfl)) rfl
theorem ks_4 (h : Tb s) : (Cond.selects R_In y_In_keepsItsTurn y_In_keepsItsTurn).before args s = true := h.w (in_s (List.mem_of_getElem? (i := 4) rfl)) rfl
theorem ks_5 (h : Tb s) : (Cond.selects R_Sc y_Sc_nextToPlace y_Sc_nextToPlace).before args s = true := h.w (in_s (List.mem_of_getElem? (i := 5) rfl)) rfl
theorem ks_6 (h : Tb s) : (Cond.selects "java/lang/Throwable" ⟨"java/lang/Throwable", "fillInStackTrace", "(I)Ljava/lang/Throwable;"⟩ ⟨"java/lang/Throwable", "fillInStackTrace", "(I)Ljava/lang/Throwable;"⟩).before args s = true := h.w (in_s (List.mem_of_getElem? (i := 6) rfl)) rfl
theorem ks_7 (h : Tb s) : (Cond.selects R_Pc y_Pc_doOne y_Pc_doOne).before args s = true := h.w (in_s (List.mem_of_getElem? (i := 7) rfl)) rfl
theorem ks_8 (h : Tb s) : (Cond.selects R_Pc y_Pc_moveCell y_Pc_moveCell).before args s = true := h.w (in_s (List.mem_of_getElem? (i := 8) rfl)) rfl
theorem ks_9 (h : Tb s) : (Cond.selects R_Pc y_Pc_putWhole y_Pc_putWhole).before args s = true := h.w (in_s (List.mem_of_getElem? (i := 9) rfl)) rfl
theorem ks_10 (h : Tb s) : (Cond.selects R_Pc y_Pc_jumpIsDue y_Pc_jumpIsDue).before args s = true := h.w (in_s (List.mem_of_getElem? (i := 10) rfl)) rfl
theorem ks_11 (h : Tb s) : (Cond.selects R_Pc y_Pc_compute y_Pc_compute).before args s = true := h.w (in_s (List.mem_of_getElem? (i := 11) rfl)) rfl
theorem ks_12 (h : Tb s) : (Cond.selects R_Pc y_Pc_computedWhole y_Pc_computedWhole).before args s = true := h.w (in_s (List.mem_of_getElem? (i := 12) rfl)) rfl
theorem ks_13 (h : Tb s) : (Cond.selects R_Pc y_Pc_computedFraction y_Pc_computedFraction).before args s = true := h.w (in_s (List.mem_of_getElem? (i := 13) rfl)) rfl
theorem ks_14 (h : Tb s) : (Cond.selects R_Pc y_Pc_outcomeOf y_Pc_outcomeOf).before args s = true := h.w (in_s (List.mem_of_getElem? (i := 14) rfl)) rfl
theorem ks_15 (h : Tb s) : (Cond.selects R_Pc y_Pc_quotient y_Pc_quotient).before args s = true := h.w (in_s (List.mem_of_getElem? (i := 15) rfl)) rfl
theorem ks_16 (h : Tb s) : (Cond.selects R_Ck y_Ck_beginning y_Ck_beginning).before args s = true := h.w (in_s (List.mem_of_getElem? (i := 16) rfl)) rfl
theorem ks_17 (h : Tb s) : (Cond.selects R_Ck y_Ck_readyTime y_Ck_readyTime).before args s = true := h.w (in_s (List.mem_of_getElem? (i := 17) rfl)) rfl
theorem ks_18 (h : Tb s) : (Cond.selects R_Mo y_Mo_reset y_Mo_reset).before args s = true := h.w (in_s (List.mem_of_getElem? (i := 18) rfl)) rfl
theorem ks_19 (h : Tb s) : (Cond.selects R_Mo y_Mo_bad y_Mo_bad).before args s = true := h.w (in_s (List.mem_of_getElem? (i := 19) rfl)) rfl
theorem ks_20 (h : Tb s) : (Cond.selects R_Mo y_Mo_doOne y_Mo_doOne).before args s = true := h.w (in_s (List.mem_of_getElem? (i := 20) rfl)) rfl
theorem ks_21 (h : Tb s) : (Cond.selects R_Mo y_Mo_missGroup y_Mo_missGroup).before args s = true := h.w (in_s (List.mem_of_getElem? (i := 21) rfl)) rfl
theorem ks_22 (h : Tb s) : (Cond.selects R_Mo y_Mo_trouble y_Mo_trouble).before args s = true := h.w (in_s (List.mem_of_getElem? (i := 22) rfl)) rfl
theorem ks_23 (h : Tb s) : (Cond.selects R_Mo y_Mo_reckon y_Mo_reckon).before args s = true := h.w (in_s (List.mem_of_getElem? (i := 23) rfl)) rfl
theorem ks_24 (h : Tb s) : (Cond.selects R_Mo y_Mo_missLine y_Mo_missLine).before args s = true := h.w (in_s (List.mem_of_getElem? (i := 24) rfl)) rfl
theorem ks_25 (h : Tb s) : (Cond.selects R_Mo y_Mo_target y_Mo_target).before args s = true := h.w (in_s (List.mem_of_getElem? (i := 25) rfl)) rfl
theorem ks_26 (h : Tb s) : (Cond.selects R_Mo y_Mo_latency y_Mo_latency).before args s = true := h.w (in_s (List.mem_of_getElem? (i := 26) rfl)) rfl
theorem ks_27 (h : Tb s) : (Cond.selects R_Mo y_Mo_first y_Mo_first).before args s = true := h.w (in_s (List.mem_of_getElem? (i := 27) rfl)) rfl
theorem ks_28 (h : Tb s) : (Cond.selects R_Mo y_Mo_second y_Mo_second).before args s = true := h.w (in_s (List.mem_of_getElem? (i := 28) rfl)) rfl
theorem ks_29 (h : Tb s) : (Cond.selects R_Mo y_Mo_compute y_Mo_compute).before args s = true := h.w (in_s (List.mem_of_getElem? (i := 29) rfl)) rfl
theorem ks_30 (h : Tb s) : (Cond.selects R_Mo y_Mo_put y_Mo_put).before args s = true := h.w (in_s (List.mem_of_getElem? (i := 30) rfl)) rfl
theorem ks_31 (h : Tb s) : (Cond.selects R_Mo y_Mo_next y_Mo_next).before args s = true := h.w (in_s (List.mem_of_getElem? (i := 31) rfl)) rfl
theorem ks_32 (h : Tb s) : (Cond.selects R_Mo y_Mo_leader y_Mo_leader).before args s = true := h.w (in_s (List.mem_of_getElem? (i := 32) rfl)) rfl
theorem ks_33 (h : Tb s) : (Cond.selects R_Mo y_Mo_findHeights y_Mo_findHeights).before args s = true := h.w (in_s (List.mem_of_getElem? (i := 33) rfl)) rfl
theorem ks_34 (h : Tb s) : (Cond.selects R_Mo y_Mo_tied y_Mo_tied).before args s = true := h.w (in_s (List.mem_of_getElem? (i := 34) rfl)) rfl
theorem ks_35 (h : Tb s) : (Cond.selects R_Mo y_Mo_reads y_Mo_reads).before args s = true := h.w (in_s (List.mem_of_getElem? (i := 35) rfl)) rfl
theorem ks_36 (h : Tb s) : (Cond.selects R_Mo y_Mo_free y_Mo_free).before args s = true := h.w (in_s (List.mem_of_getElem? (i := 36) rfl)) rfl
theorem ks_37 (h : Tb s) : (Cond.selects R_Mo y_Mo_move y_Mo_move).before args s = true := h.w (in_s (List.mem_of_getElem? (i := 37) rfl)) rfl
set_option maxRecDepth 20000 in
theorem wl_Ck_in : ∀ w ∈ u_ws R_Ck F_Ck 5, w ∈ lw_tbl ∧ tb_ok w = true := by decide +kernel
theorem wl_Ck (h : Tb s) : ∀ w ∈ u_ws R_Ck F_Ck 5, w.before args s = true := fun w hw => h.w (wl_Ck_in w hw).1 (wl_Ck_in w hw).2
set_option maxRecDepth 20000 in
theorem wl_Cc_in : ∀ w ∈ u_ws R_Cc F_Cc 2, w ∈ lw_tbl ∧ tb_ok w = true := by decide +kernel
theorem wl_Cc (h : Tb s) : ∀ w ∈ u_ws R_Cc F_Cc 2, w.before args s = true := fun w hw => h.w (wl_Cc_in w hw).1 (wl_Cc_in w hw).2
set_option maxRecDepth 20000 in
theorem wl_Dc_in : ∀ w ∈ u_ws R_Dc F_Dc 4, w ∈ lw_tbl ∧ tb_ok w = true := by decide +kernel
theorem wl_Dc (h : Tb s) : ∀ w ∈ u_ws R_Dc F_Dc 4, w.before args s = true := fun w hw => h.w (wl_Dc_in w hw).1 (wl_Dc_in w hw).2
set_option maxRecDepth 20000 in
theorem wl_In_in : ∀ w ∈ u_ws R_In F_In 8, w ∈ lw_tbl ∧ tb_ok w = true := by decide +kernel
theorem wl_In (h : Tb s) : ∀ w ∈ u_ws R_In F_In 8, w.before args s = true := fun w hw => h.w (wl_In_in w hw).1 (wl_In_in w hw).2
set_option maxRecDepth 20000 in
theorem wl_Pr_in : ∀ w ∈ u_ws R_Pr F_Pr 2, w ∈ lw_tbl ∧ tb_ok w = true := by decide +kernel
theorem wl_Pr (h : Tb s) : ∀ w ∈ u_ws R_Pr F_Pr 2, w.before args s = true := fun w hw => h.w (wl_Pr_in w hw).1 (wl_Pr_in w hw).2
set_option maxRecDepth 20000 in
theorem wl_Sc_in : ∀ w ∈ u_ws R_Sc F_Sc 4, w ∈ lw_tbl ∧ tb_ok w = true := by decide +kernel
theorem wl_Sc (h : Tb s) : ∀ w ∈ u_ws R_Sc F_Sc 4, w.before args s = true := fun w hw => h.w (wl_Sc_in w hw).1 (wl_Sc_in w hw).2
set_option maxRecDepth 20000 in
theorem wl_Pc_in : ∀ w ∈ u_ws R_Pc F_Pc 12, w ∈ lw_tbl ∧ tb_ok w = true := by decide +kernel
theorem wl_Pc (h : Tb s) : ∀ w ∈ u_ws R_Pc F_Pc 12, w.before args s = true := fun w hw => h.w (wl_Pc_in w hw).1 (wl_Pc_in w hw).2
set_option maxRecDepth 20000 in
theorem wl_Mo_in : ∀ w ∈ u_ws R_Mo F_Mo 29, w ∈ lw_tbl ∧ tb_ok w = true := by decide +kernel
theorem wl_Mo (h : Tb s) : ∀ w ∈ u_ws R_Mo F_Mo 29, w.before args s = true := fun w hw => h.w (wl_Mo_in w hw).1 (wl_Mo_in w hw).2
end Words
