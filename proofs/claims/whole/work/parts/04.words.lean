/-! the tables' words, each by its place -/
def lw_g : List Cond := lw_tbl.filter goodWord
theorem ms_tb {w : Cond} (h : w ∈ tables_1) (hg : goodWord w = true) : w ∈ lw_g := List.mem_filter.mpr ⟨List.mem_append_right _ h, hg⟩
theorem ms_tq {w : Cond} (h : w ∈ tables_1) : w ∈ lw_tbl := List.mem_append_right _ h
theorem ms_t1 {w : Cond} (h : w ∈ tables_1_1) (hg : goodWord w = true) : w ∈ lw_g := ms_tb (List.mem_append_left _ h) hg
theorem ms_q1 {w : Cond} (h : w ∈ tables_1_1) : w ∈ lw_tbl := ms_tq (List.mem_append_left _ h)
theorem ms_t2 {w : Cond} (h : w ∈ tables_1_2) (hg : goodWord w = true) : w ∈ lw_g := ms_tb (List.mem_append_right _ (List.mem_append_left _ h)) hg
theorem ms_q2 {w : Cond} (h : w ∈ tables_1_2) : w ∈ lw_tbl := ms_tq (List.mem_append_right _ (List.mem_append_left _ h))
theorem ms_t3 {w : Cond} (h : w ∈ tables_1_3) (hg : goodWord w = true) : w ∈ lw_g := ms_tb (List.mem_append_right _ (List.mem_append_right _ (List.mem_append_left _ h))) hg
theorem ms_q3 {w : Cond} (h : w ∈ tables_1_3) : w ∈ lw_tbl := ms_tq (List.mem_append_right _ (List.mem_append_right _ (List.mem_append_left _ h)))
theorem ms_t4 {w : Cond} (h : w ∈ tables_1_4) (hg : goodWord w = true) : w ∈ lw_g := ms_tb (List.mem_append_right _ (List.mem_append_right _ (List.mem_append_right _ (List.mem_append_left _ h)))) hg
theorem ms_q4 {w : Cond} (h : w ∈ tables_1_4) : w ∈ lw_tbl := ms_tq (List.mem_append_right _ (List.mem_append_right _ (List.mem_append_right _ (List.mem_append_left _ h))))
theorem ms_t5 {w : Cond} (h : w ∈ tables_1_5) (hg : goodWord w = true) : w ∈ lw_g := ms_tb (List.mem_append_right _ (List.mem_append_right _ (List.mem_append_right _ (List.mem_append_right _ (List.mem_append_left _ h))))) hg
theorem ms_q5 {w : Cond} (h : w ∈ tables_1_5) : w ∈ lw_tbl := ms_tq (List.mem_append_right _ (List.mem_append_right _ (List.mem_append_right _ (List.mem_append_right _ (List.mem_append_left _ h)))))
theorem ms_t6 {w : Cond} (h : w ∈ tables_1_6) (hg : goodWord w = true) : w ∈ lw_g := ms_tb (List.mem_append_right _ (List.mem_append_right _ (List.mem_append_right _ (List.mem_append_right _ (List.mem_append_right _ (List.mem_append_left _ h)))))) hg
theorem ms_q6 {w : Cond} (h : w ∈ tables_1_6) : w ∈ lw_tbl := ms_tq (List.mem_append_right _ (List.mem_append_right _ (List.mem_append_right _ (List.mem_append_right _ (List.mem_append_right _ (List.mem_append_left _ h))))))
theorem ms_t7 {w : Cond} (h : w ∈ tables_1_7) (hg : goodWord w = true) : w ∈ lw_g := ms_tb (List.mem_append_right _ (List.mem_append_right _ (List.mem_append_right _ (List.mem_append_right _ (List.mem_append_right _ (List.mem_append_right _ h)))))) hg
theorem ms_q7 {w : Cond} (h : w ∈ tables_1_7) : w ∈ lw_tbl := ms_tq (List.mem_append_right _ (List.mem_append_right _ (List.mem_append_right _ (List.mem_append_right _ (List.mem_append_right _ (List.mem_append_right _ h))))))
theorem kw_1_0 : (Cond.initialized "CensusWalkLaw") ∈ lw_g := ms_t1 (List.mem_of_getElem? (i := 0) rfl) rfl
theorem kw_1_1 : (Cond.initialized "CensusWalk") ∈ lw_g := ms_t1 (List.mem_of_getElem? (i := 1) rfl) rfl
theorem kw_1_2 : (Cond.initialized "CensusWalk$Town") ∈ lw_g := ms_t1 (List.mem_of_getElem? (i := 2) rfl) rfl
theorem kw_1_3 : (Cond.initialized "CensusWalk$Streets") ∈ lw_g := ms_t1 (List.mem_of_getElem? (i := 3) rfl) rfl
theorem kw_1_4 : (Cond.initialized "CensusWalk$Houses") ∈ lw_g := ms_t1 (List.mem_of_getElem? (i := 4) rfl) rfl
theorem kw_1_5 : (Cond.initialized "CensusWalk$Walkers") ∈ lw_g := ms_t1 (List.mem_of_getElem? (i := 5) rfl) rfl
theorem kw_1_6 : (Cond.initialized "CensusWalk$SetupReader") ∈ lw_g := ms_t1 (List.mem_of_getElem? (i := 6) rfl) rfl
theorem kw_1_7 : (Cond.initialized "CensusWalk$Tokens") ∈ lw_g := ms_t1 (List.mem_of_getElem? (i := 7) rfl) rfl
theorem kw_1_8 : (Cond.initialized "CensusWalk$VisitExpression") ∈ lw_g := ms_t1 (List.mem_of_getElem? (i := 8) rfl) rfl
theorem kw_1_9 : (Cond.initialized "CensusWalk$Routes") ∈ lw_g := ms_t1 (List.mem_of_getElem? (i := 9) rfl) rfl
theorem kw_1_10 : (Cond.initialized "CensusWalk$Simulation") ∈ lw_g := ms_t1 (List.mem_of_getElem? (i := 10) rfl) rfl
theorem kw_1_11 : (Cond.initialized "CensusWalk$Search") ∈ lw_g := ms_t1 (List.mem_of_getElem? (i := 11) rfl) rfl
theorem kw_1_12 : (Cond.initialized "CensusWalkModel") ∈ lw_g := ms_t1 (List.mem_of_getElem? (i := 12) rfl) rfl
theorem kw_1_13 : (Cond.initialized "java/lang/Throwable") ∈ lw_g := ms_t1 (List.mem_of_getElem? (i := 13) rfl) rfl
theorem kw_1_14 : (Cond.initialized "java/lang/Exception") ∈ lw_g := ms_t1 (List.mem_of_getElem? (i := 14) rfl) rfl
theorem kw_1_15 : (Cond.initialized "java/lang/RuntimeException") ∈ lw_g := ms_t1 (List.mem_of_getElem? (i := 15) rfl) rfl
theorem kw_1_16 : (Cond.initialized "java/lang/IllegalArgumentException") ∈ lw_g := ms_t1 (List.mem_of_getElem? (i := 16) rfl) rfl
theorem kw_1_17 : (Cond.initialized "java/lang/Math") ∈ lw_g := ms_t1 (List.mem_of_getElem? (i := 17) rfl) rfl
theorem kw_1_18 : (Cond.initialized "java/lang/String") ∈ lw_g := ms_t1 (List.mem_of_getElem? (i := 18) rfl) rfl
theorem kw_1_19 : (Cond.initialized "java/lang/StringLatin1") ∈ lw_g := ms_t1 (List.mem_of_getElem? (i := 19) rfl) rfl
theorem kw_1_20 : (Cond.initialized "jdk/internal/util/Preconditions") ∈ lw_g := ms_t1 (List.mem_of_getElem? (i := 20) rfl) rfl
theorem kw_1_21 : (Cond.initialized "java/lang/StringUTF16") ∈ lw_g := ms_t1 (List.mem_of_getElem? (i := 21) rfl) rfl
theorem kw_1_22 : (Cond.initialized "java/lang/System") ∈ lw_g := ms_t1 (List.mem_of_getElem? (i := 22) rfl) rfl
theorem kw_1_23 : (Cond.initialized "java/lang/IndexOutOfBoundsException") ∈ lw_g := ms_t1 (List.mem_of_getElem? (i := 23) rfl) rfl
theorem kw_1_24 : (Cond.initialized "java/util/Arrays") ∈ lw_g := ms_t1 (List.mem_of_getElem? (i := 24) rfl) rfl
theorem kw_1_25 : (Cond.initialized "java/lang/Integer") ∈ lw_g := ms_t1 (List.mem_of_getElem? (i := 25) rfl) rfl
theorem kw_1_26 : (Cond.initialized "java/lang/IllegalStateException") ∈ lw_g := ms_t1 (List.mem_of_getElem? (i := 26) rfl) rfl
theorem kw_1_27 : (Cond.classLink "CensusWalkLaw" 8 "CensusWalk") ∈ lw_g := ms_t1 (List.mem_of_getElem? (i := 27) rfl) rfl
theorem kw_1_28 : (Cond.instantiable "CensusWalk" 13) ∈ lw_g := ms_t1 (List.mem_of_getElem? (i := 28) rfl) rfl
theorem kw_1_29 : (Cond.methodLink "CensusWalkLaw" 90 ⟨"CensusWalk", "<init>", "()V"⟩) ∈ lw_g := ms_t1 (List.mem_of_getElem? (i := 29) rfl) rfl
theorem kw_1_30 : (Cond.instanceMethod ⟨"CensusWalk", "<init>", "()V"⟩) ∈ lw_g := ms_t1 (List.mem_of_getElem? (i := 30) rfl) rfl
theorem kw_1_31 : (Cond.code ⟨"CensusWalk", "<init>", "()V"⟩ prog_1_method_1_code 2 none) ∈ lw_g := ms_t1 (List.mem_of_getElem? (i := 31) rfl) rfl
theorem kw_1_32 : (Cond.methodLink "CensusWalk" 3 ⟨"java/lang/Object", "<init>", "()V"⟩) ∈ lw_g := ms_t1 (List.mem_of_getElem? (i := 32) rfl) rfl
theorem kw_1_33 : (Cond.instanceMethod ⟨"java/lang/Object", "<init>", "()V"⟩) ∈ lw_g := ms_t1 (List.mem_of_getElem? (i := 33) rfl) rfl
theorem kw_1_34 : (Cond.code ⟨"java/lang/Object", "<init>", "()V"⟩ object_method_1_code 1 none) ∈ lw_g := ms_t1 (List.mem_of_getElem? (i := 34) rfl) rfl
theorem kw_1_35 : (Cond.classLink "CensusWalk" 20 "CensusWalk$Town") ∈ lw_g := ms_t1 (List.mem_of_getElem? (i := 35) rfl) rfl
theorem kw_1_36 : (Cond.instantiable "CensusWalk$Town" 6) ∈ lw_g := ms_t1 (List.mem_of_getElem? (i := 36) rfl) rfl
theorem kw_1_37 : (Cond.methodLinkNest "CensusWalk" 22 ⟨"CensusWalk$Town", "<init>", "()V"⟩ "CensusWalk") ∈ lw_tbl := ms_q1 (List.mem_of_getElem? (i := 37) rfl)
theorem kw_1_38 : (Cond.instanceMethod ⟨"CensusWalk$Town", "<init>", "()V"⟩) ∈ lw_g := ms_t1 (List.mem_of_getElem? (i := 38) rfl) rfl
theorem kw_1_39 : (Cond.code ⟨"CensusWalk$Town", "<init>", "()V"⟩ prog_9_method_1_code 1 none) ∈ lw_g := ms_t1 (List.mem_of_getElem? (i := 39) rfl) rfl
theorem kw_1_40 : (Cond.methodLink "CensusWalk$Town" 1 ⟨"java/lang/Object", "<init>", "()V"⟩) ∈ lw_g := ms_t1 (List.mem_of_getElem? (i := 40) rfl) rfl
theorem kw_1_41 : (Cond.classLink "CensusWalk$Town" 19 "CensusWalk$Streets") ∈ lw_g := ms_t1 (List.mem_of_getElem? (i := 41) rfl) rfl
theorem kw_1_42 : (Cond.instantiable "CensusWalk$Streets" 5) ∈ lw_g := ms_t1 (List.mem_of_getElem? (i := 42) rfl) rfl
theorem kw_1_43 : (Cond.methodLinkNest "CensusWalk$Town" 21 ⟨"CensusWalk$Streets", "<init>", "()V"⟩ "CensusWalk") ∈ lw_tbl := ms_q1 (List.mem_of_getElem? (i := 43) rfl)
theorem kw_1_44 : (Cond.instanceMethod ⟨"CensusWalk$Streets", "<init>", "()V"⟩) ∈ lw_g := ms_t1 (List.mem_of_getElem? (i := 44) rfl) rfl
theorem kw_1_45 : (Cond.code ⟨"CensusWalk$Streets", "<init>", "()V"⟩ prog_7_method_1_code 1 none) ∈ lw_g := ms_t1 (List.mem_of_getElem? (i := 45) rfl) rfl
theorem kw_1_46 : (Cond.methodLink "CensusWalk$Streets" 3 ⟨"java/lang/Object", "<init>", "()V"⟩) ∈ lw_g := ms_t1 (List.mem_of_getElem? (i := 46) rfl) rfl
theorem kw_1_47 : (Cond.fieldLink "CensusWalk$Streets" 9 "CensusWalk$Streets" "count" "I") ∈ lw_g := ms_t1 (List.mem_of_getElem? (i := 47) rfl) rfl
theorem kw_1_48 : (Cond.fieldLink "CensusWalk$Town" 40 "CensusWalk$Streets" "count" "I") ∈ lw_g := ms_t1 (List.mem_of_getElem? (i := 48) rfl) rfl
theorem kw_1_49 : (Cond.fieldLink "CensusWalk$Routes" 32 "CensusWalk$Streets" "count" "I") ∈ lw_g := ms_t1 (List.mem_of_getElem? (i := 49) rfl) rfl
theorem kw_1_50 : (Cond.fieldLink "CensusWalk$SetupReader" 129 "CensusWalk$Streets" "count" "I") ∈ lw_g := ms_t1 (List.mem_of_getElem? (i := 50) rfl) rfl
theorem kw_1_51 : (Cond.fieldLink "CensusWalk" 112 "CensusWalk$Streets" "count" "I") ∈ lw_g := ms_t1 (List.mem_of_getElem? (i := 51) rfl) rfl
theorem kw_1_52 : (Cond.fieldLink "CensusWalk$Streets" 15 "CensusWalk$Streets" "start" "[I") ∈ lw_g := ms_t1 (List.mem_of_getElem? (i := 52) rfl) rfl
theorem kw_1_53 : (Cond.fieldLink "CensusWalk$Routes" 42 "CensusWalk$Streets" "start" "[I") ∈ lw_g := ms_t1 (List.mem_of_getElem? (i := 53) rfl) rfl
theorem kw_1_54 : (Cond.fieldLink "CensusWalk$Streets" 19 "CensusWalk$Streets" "end" "[I") ∈ lw_g := ms_t1 (List.mem_of_getElem? (i := 54) rfl) rfl
theorem kw_1_55 : (Cond.fieldLink "CensusWalk$Routes" 45 "CensusWalk$Streets" "end" "[I") ∈ lw_g := ms_t1 (List.mem_of_getElem? (i := 55) rfl) rfl
theorem kw_1_56 : (Cond.fieldLink "CensusWalk$Streets" 22 "CensusWalk$Streets" "length" "[I") ∈ lw_g := ms_t1 (List.mem_of_getElem? (i := 56) rfl) rfl
theorem kw_1_57 : (Cond.fieldLink "CensusWalk$Routes" 48 "CensusWalk$Streets" "length" "[I") ∈ lw_g := ms_t1 (List.mem_of_getElem? (i := 57) rfl) rfl
theorem kw_1_58 : (Cond.fieldLink "CensusWalk$SetupReader" 145 "CensusWalk$Streets" "length" "[I") ∈ lw_g := ms_t1 (List.mem_of_getElem? (i := 58) rfl) rfl
theorem kw_1_59 : (Cond.fieldLink "CensusWalk$Streets" 25 "CensusWalk$Streets" "open" "[Z") ∈ lw_g := ms_t1 (List.mem_of_getElem? (i := 59) rfl) rfl
theorem kw_1_60 : (Cond.fieldLink "CensusWalk$Routes" 38 "CensusWalk$Streets" "open" "[Z") ∈ lw_g := ms_t1 (List.mem_of_getElem? (i := 60) rfl) rfl
theorem kw_1_61 : (Cond.fieldLink "CensusWalk" 147 "CensusWalk$Streets" "open" "[Z") ∈ lw_g := ms_t1 (List.mem_of_getElem? (i := 61) rfl) rfl
theorem kw_1_62 : (Cond.lays "CensusWalk$Streets" "CensusWalk$Streets" "count" "I") ∈ lw_g := ms_t1 (List.mem_of_getElem? (i := 62) rfl) rfl
theorem kw_1_64 : (Cond.laysFinal "CensusWalk$Streets" "CensusWalk$Streets" "start" "[I") ∈ lw_g := ms_t1 (List.mem_of_getElem? (i := 64) rfl) rfl
theorem kw_1_66 : (Cond.laysFinal "CensusWalk$Streets" "CensusWalk$Streets" "end" "[I") ∈ lw_g := ms_t1 (List.mem_of_getElem? (i := 66) rfl) rfl
theorem kw_1_68 : (Cond.laysFinal "CensusWalk$Streets" "CensusWalk$Streets" "length" "[I") ∈ lw_g := ms_t1 (List.mem_of_getElem? (i := 68) rfl) rfl
theorem kw_1_70 : (Cond.laysFinal "CensusWalk$Streets" "CensusWalk$Streets" "open" "[Z") ∈ lw_g := ms_t1 (List.mem_of_getElem? (i := 70) rfl) rfl
theorem kw_1_73 : (Cond.arrayClass .byte) ∈ lw_g := ms_t1 (List.mem_of_getElem? (i := 73) rfl) rfl
theorem kw_1_74 : (Cond.arrayClass .int) ∈ lw_g := ms_t1 (List.mem_of_getElem? (i := 74) rfl) rfl
theorem kw_1_75 : (Cond.arrayClass .boolean) ∈ lw_g := ms_t1 (List.mem_of_getElem? (i := 75) rfl) rfl
theorem kw_1_76 : (Cond.classLink "CensusWalk$Town" 26 "CensusWalk$Houses") ∈ lw_g := ms_t1 (List.mem_of_getElem? (i := 76) rfl) rfl
theorem kw_1_77 : (Cond.instantiable "CensusWalk$Houses" 9) ∈ lw_g := ms_t1 (List.mem_of_getElem? (i := 77) rfl) rfl
theorem kw_1_78 : (Cond.methodLinkNest "CensusWalk$Town" 28 ⟨"CensusWalk$Houses", "<init>", "()V"⟩ "CensusWalk") ∈ lw_tbl := ms_q1 (List.mem_of_getElem? (i := 78) rfl)
theorem kw_1_79 : (Cond.instanceMethod ⟨"CensusWalk$Houses", "<init>", "()V"⟩) ∈ lw_g := ms_t1 (List.mem_of_getElem? (i := 79) rfl) rfl
theorem kw_1_80 : (Cond.code ⟨"CensusWalk$Houses", "<init>", "()V"⟩ prog_2_method_1_code 1 none) ∈ lw_g := ms_t1 (List.mem_of_getElem? (i := 80) rfl) rfl
theorem kw_1_81 : (Cond.methodLink "CensusWalk$Houses" 3 ⟨"java/lang/Object", "<init>", "()V"⟩) ∈ lw_g := ms_t1 (List.mem_of_getElem? (i := 81) rfl) rfl
theorem kw_1_82 : (Cond.fieldLink "CensusWalk$Houses" 9 "CensusWalk$Houses" "count" "I") ∈ lw_g := ms_t1 (List.mem_of_getElem? (i := 82) rfl) rfl
theorem kw_1_83 : (Cond.fieldLink "CensusWalk$Town" 43 "CensusWalk$Houses" "count" "I") ∈ lw_g := ms_t1 (List.mem_of_getElem? (i := 83) rfl) rfl
theorem kw_1_84 : (Cond.fieldLink "CensusWalk" 100 "CensusWalk$Houses" "count" "I") ∈ lw_g := ms_t1 (List.mem_of_getElem? (i := 84) rfl) rfl
theorem kw_1_85 : (Cond.fieldLink "CensusWalk$SetupReader" 141 "CensusWalk$Houses" "count" "I") ∈ lw_g := ms_t1 (List.mem_of_getElem? (i := 85) rfl) rfl
theorem kw_1_86 : (Cond.fieldLink "CensusWalk$Search" 112 "CensusWalk$Houses" "count" "I") ∈ lw_g := ms_t1 (List.mem_of_getElem? (i := 86) rfl) rfl
theorem kw_1_87 : (Cond.fieldLink "CensusWalk$Houses" 15 "CensusWalk$Houses" "street" "[I") ∈ lw_g := ms_t1 (List.mem_of_getElem? (i := 87) rfl) rfl
theorem kw_1_88 : (Cond.fieldLink "CensusWalk$Routes" 71 "CensusWalk$Houses" "street" "[I") ∈ lw_g := ms_t1 (List.mem_of_getElem? (i := 88) rfl) rfl
theorem kw_1_89 : (Cond.fieldLink "CensusWalk$SetupReader" 149 "CensusWalk$Houses" "street" "[I") ∈ lw_g := ms_t1 (List.mem_of_getElem? (i := 89) rfl) rfl
theorem kw_1_90 : (Cond.fieldLink "CensusWalk" 140 "CensusWalk$Houses" "street" "[I") ∈ lw_g := ms_t1 (List.mem_of_getElem? (i := 90) rfl) rfl
theorem kw_1_91 : (Cond.fieldLink "CensusWalk$Houses" 19 "CensusWalk$Houses" "offset" "[I") ∈ lw_g := ms_t1 (List.mem_of_getElem? (i := 91) rfl) rfl
theorem kw_1_92 : (Cond.fieldLink "CensusWalk$Routes" 75 "CensusWalk$Houses" "offset" "[I") ∈ lw_g := ms_t1 (List.mem_of_getElem? (i := 92) rfl) rfl
theorem kw_1_93 : (Cond.fieldLink "CensusWalk$SetupReader" 151 "CensusWalk$Houses" "offset" "[I") ∈ lw_g := ms_t1 (List.mem_of_getElem? (i := 93) rfl) rfl
theorem kw_1_94 : (Cond.fieldLink "CensusWalk$Houses" 22 "CensusWalk$Houses" "side" "[I") ∈ lw_g := ms_t1 (List.mem_of_getElem? (i := 94) rfl) rfl
theorem kw_1_95 : (Cond.fieldLink "CensusWalk$Routes" 88 "CensusWalk$Houses" "side" "[I") ∈ lw_g := ms_t1 (List.mem_of_getElem? (i := 95) rfl) rfl
theorem kw_1_96 : (Cond.fieldLink "CensusWalk$SetupReader" 154 "CensusWalk$Houses" "side" "[I") ∈ lw_g := ms_t1 (List.mem_of_getElem? (i := 96) rfl) rfl
theorem kw_1_97 : (Cond.fieldLink "CensusWalk$Houses" 25 "CensusWalk$Houses" "persons" "[I") ∈ lw_g := ms_t1 (List.mem_of_getElem? (i := 97) rfl) rfl
theorem kw_1_98 : (Cond.fieldLink "CensusWalk$SetupReader" 157 "CensusWalk$Houses" "persons" "[I") ∈ lw_g := ms_t1 (List.mem_of_getElem? (i := 98) rfl) rfl
theorem kw_1_99 : (Cond.fieldLink "CensusWalk" 202 "CensusWalk$Houses" "persons" "[I") ∈ lw_g := ms_t1 (List.mem_of_getElem? (i := 99) rfl) rfl
theorem kw_1_100 : (Cond.fieldLink "CensusWalk$Houses" 28 "CensusWalk$Houses" "from" "[I") ∈ lw_g := ms_t1 (List.mem_of_getElem? (i := 100) rfl) rfl
theorem kw_1_101 : (Cond.fieldLink "CensusWalk$Search" 115 "CensusWalk$Houses" "from" "[I") ∈ lw_g := ms_t1 (List.mem_of_getElem? (i := 101) rfl) rfl
theorem kw_1_102 : (Cond.fieldLink "CensusWalk$SetupReader" 160 "CensusWalk$Houses" "from" "[I") ∈ lw_g := ms_t1 (List.mem_of_getElem? (i := 102) rfl) rfl
theorem kw_1_103 : (Cond.fieldLink "CensusWalk" 249 "CensusWalk$Houses" "from" "[I") ∈ lw_g := ms_t1 (List.mem_of_getElem? (i := 103) rfl) rfl
theorem kw_1_104 : (Cond.fieldLink "CensusWalk$Houses" 31 "CensusWalk$Houses" "to" "[I") ∈ lw_g := ms_t1 (List.mem_of_getElem? (i := 104) rfl) rfl
theorem kw_1_105 : (Cond.fieldLink "CensusWalk$Search" 118 "CensusWalk$Houses" "to" "[I") ∈ lw_g := ms_t1 (List.mem_of_getElem? (i := 105) rfl) rfl
theorem kw_1_106 : (Cond.fieldLink "CensusWalk$SetupReader" 163 "CensusWalk$Houses" "to" "[I") ∈ lw_g := ms_t1 (List.mem_of_getElem? (i := 106) rfl) rfl
theorem kw_1_107 : (Cond.fieldLink "CensusWalk" 252 "CensusWalk$Houses" "to" "[I") ∈ lw_g := ms_t1 (List.mem_of_getElem? (i := 107) rfl) rfl
theorem kw_1_108 : (Cond.fieldLink "CensusWalk$Houses" 34 "CensusWalk$Houses" "dog" "[Z") ∈ lw_g := ms_t1 (List.mem_of_getElem? (i := 108) rfl) rfl
theorem kw_1_109 : (Cond.fieldLink "CensusWalk$SetupReader" 166 "CensusWalk$Houses" "dog" "[Z") ∈ lw_g := ms_t1 (List.mem_of_getElem? (i := 109) rfl) rfl
theorem kw_1_110 : (Cond.fieldLink "CensusWalk" 151 "CensusWalk$Houses" "dog" "[Z") ∈ lw_g := ms_t1 (List.mem_of_getElem? (i := 110) rfl) rfl
theorem kw_1_111 : (Cond.fieldLink "CensusWalk$Houses" 38 "CensusWalk$Houses" "visits" "[I") ∈ lw_g := ms_t1 (List.mem_of_getElem? (i := 111) rfl) rfl
theorem kw_1_112 : (Cond.lays "CensusWalk$Houses" "CensusWalk$Houses" "count" "I") ∈ lw_g := ms_t1 (List.mem_of_getElem? (i := 112) rfl) rfl
theorem kw_1_114 : (Cond.laysFinal "CensusWalk$Houses" "CensusWalk$Houses" "street" "[I") ∈ lw_g := ms_t1 (List.mem_of_getElem? (i := 114) rfl) rfl
theorem kw_1_116 : (Cond.laysFinal "CensusWalk$Houses" "CensusWalk$Houses" "offset" "[I") ∈ lw_g := ms_t1 (List.mem_of_getElem? (i := 116) rfl) rfl
theorem kw_1_118 : (Cond.laysFinal "CensusWalk$Houses" "CensusWalk$Houses" "side" "[I") ∈ lw_g := ms_t1 (List.mem_of_getElem? (i := 118) rfl) rfl
theorem kw_1_120 : (Cond.laysFinal "CensusWalk$Houses" "CensusWalk$Houses" "persons" "[I") ∈ lw_g := ms_t1 (List.mem_of_getElem? (i := 120) rfl) rfl
theorem kw_1_122 : (Cond.laysFinal "CensusWalk$Houses" "CensusWalk$Houses" "from" "[I") ∈ lw_g := ms_t1 (List.mem_of_getElem? (i := 122) rfl) rfl
theorem kw_1_124 : (Cond.laysFinal "CensusWalk$Houses" "CensusWalk$Houses" "to" "[I") ∈ lw_g := ms_t1 (List.mem_of_getElem? (i := 124) rfl) rfl
theorem kw_1_126 : (Cond.laysFinal "CensusWalk$Houses" "CensusWalk$Houses" "dog" "[Z") ∈ lw_g := ms_t1 (List.mem_of_getElem? (i := 126) rfl) rfl
theorem kw_1_128 : (Cond.laysFinal "CensusWalk$Houses" "CensusWalk$Houses" "visits" "[I") ∈ lw_g := ms_t1 (List.mem_of_getElem? (i := 128) rfl) rfl
theorem kw_1_131 : (Cond.classLink "CensusWalk$Town" 33 "CensusWalk$Walkers") ∈ lw_g := ms_t1 (List.mem_of_getElem? (i := 131) rfl) rfl
theorem kw_1_132 : (Cond.instantiable "CensusWalk$Walkers" 5) ∈ lw_g := ms_t1 (List.mem_of_getElem? (i := 132) rfl) rfl
theorem kw_1_133 : (Cond.methodLinkNest "CensusWalk$Town" 35 ⟨"CensusWalk$Walkers", "<init>", "()V"⟩ "CensusWalk") ∈ lw_tbl := ms_q1 (List.mem_of_getElem? (i := 133) rfl)
theorem kw_1_134 : (Cond.instanceMethod ⟨"CensusWalk$Walkers", "<init>", "()V"⟩) ∈ lw_g := ms_t1 (List.mem_of_getElem? (i := 134) rfl) rfl
theorem kw_1_135 : (Cond.code ⟨"CensusWalk$Walkers", "<init>", "()V"⟩ prog_11_method_1_code 1 none) ∈ lw_g := ms_t1 (List.mem_of_getElem? (i := 135) rfl) rfl
theorem kw_1_136 : (Cond.methodLink "CensusWalk$Walkers" 3 ⟨"java/lang/Object", "<init>", "()V"⟩) ∈ lw_g := ms_t1 (List.mem_of_getElem? (i := 136) rfl) rfl
theorem kw_1_137 : (Cond.fieldLink "CensusWalk$Walkers" 9 "CensusWalk$Walkers" "count" "I") ∈ lw_g := ms_t1 (List.mem_of_getElem? (i := 137) rfl) rfl
theorem kw_1_138 : (Cond.fieldLink "CensusWalk$Simulation" 52 "CensusWalk$Walkers" "count" "I") ∈ lw_g := ms_t1 (List.mem_of_getElem? (i := 138) rfl) rfl
theorem kw_1_139 : (Cond.fieldLink "CensusWalk$Town" 44 "CensusWalk$Walkers" "count" "I") ∈ lw_g := ms_t1 (List.mem_of_getElem? (i := 139) rfl) rfl
theorem kw_1_140 : (Cond.fieldLink "CensusWalk$Search" 96 "CensusWalk$Walkers" "count" "I") ∈ lw_g := ms_t1 (List.mem_of_getElem? (i := 140) rfl) rfl
theorem kw_1_141 : (Cond.fieldLink "CensusWalk$SetupReader" 175 "CensusWalk$Walkers" "count" "I") ∈ lw_g := ms_t1 (List.mem_of_getElem? (i := 141) rfl) rfl
theorem kw_1_142 : (Cond.fieldLink "CensusWalk" 119 "CensusWalk$Walkers" "count" "I") ∈ lw_g := ms_t1 (List.mem_of_getElem? (i := 142) rfl) rfl
theorem kw_1_143 : (Cond.fieldLink "CensusWalk$Walkers" 15 "CensusWalk$Walkers" "crossing" "[I") ∈ lw_g := ms_t1 (List.mem_of_getElem? (i := 143) rfl) rfl
theorem kw_1_144 : (Cond.fieldLink "CensusWalk$Simulation" 76 "CensusWalk$Walkers" "crossing" "[I") ∈ lw_g := ms_t1 (List.mem_of_getElem? (i := 144) rfl) rfl
theorem kw_1_145 : (Cond.fieldLink "CensusWalk$Search" 137 "CensusWalk$Walkers" "crossing" "[I") ∈ lw_g := ms_t1 (List.mem_of_getElem? (i := 145) rfl) rfl
theorem kw_1_146 : (Cond.fieldLink "CensusWalk$Walkers" 19 "CensusWalk$Walkers" "startTime" "[I") ∈ lw_g := ms_t1 (List.mem_of_getElem? (i := 146) rfl) rfl
theorem kw_1_147 : (Cond.fieldLink "CensusWalk$Simulation" 57 "CensusWalk$Walkers" "startTime" "[I") ∈ lw_g := ms_t1 (List.mem_of_getElem? (i := 147) rfl) rfl
theorem kw_1_148 : (Cond.fieldLink "CensusWalk$Search" 134 "CensusWalk$Walkers" "startTime" "[I") ∈ lw_g := ms_t1 (List.mem_of_getElem? (i := 148) rfl) rfl
theorem kw_1_149 : (Cond.fieldLink "CensusWalk$Walkers" 22 "CensusWalk$Walkers" "planLength" "[I") ∈ lw_g := ms_t1 (List.mem_of_getElem? (i := 149) rfl) rfl
theorem kw_1_150 : (Cond.fieldLink "CensusWalk$Simulation" 88 "CensusWalk$Walkers" "planLength" "[I") ∈ lw_g := ms_t1 (List.mem_of_getElem? (i := 150) rfl) rfl
theorem kw_1_151 : (Cond.fieldLink "CensusWalk" 169 "CensusWalk$Walkers" "planLength" "[I") ∈ lw_g := ms_t1 (List.mem_of_getElem? (i := 151) rfl) rfl
theorem kw_1_152 : (Cond.fieldLink "CensusWalk$Walkers" 25 "CensusWalk$Walkers" "plans" "[I") ∈ lw_g := ms_t1 (List.mem_of_getElem? (i := 152) rfl) rfl
theorem kw_1_153 : (Cond.fieldLink "CensusWalk" 242 "CensusWalk$Walkers" "plans" "[I") ∈ lw_g := ms_t1 (List.mem_of_getElem? (i := 153) rfl) rfl
theorem kw_1_154 : (Cond.lays "CensusWalk$Walkers" "CensusWalk$Walkers" "count" "I") ∈ lw_g := ms_t1 (List.mem_of_getElem? (i := 154) rfl) rfl
theorem kw_1_156 : (Cond.laysFinal "CensusWalk$Walkers" "CensusWalk$Walkers" "crossing" "[I") ∈ lw_g := ms_t1 (List.mem_of_getElem? (i := 156) rfl) rfl
theorem kw_1_158 : (Cond.laysFinal "CensusWalk$Walkers" "CensusWalk$Walkers" "startTime" "[I") ∈ lw_g := ms_t1 (List.mem_of_getElem? (i := 158) rfl) rfl
theorem kw_1_160 : (Cond.laysFinal "CensusWalk$Walkers" "CensusWalk$Walkers" "planLength" "[I") ∈ lw_g := ms_t1 (List.mem_of_getElem? (i := 160) rfl) rfl
theorem kw_1_162 : (Cond.laysFinal "CensusWalk$Walkers" "CensusWalk$Walkers" "plans" "[I") ∈ lw_g := ms_t1 (List.mem_of_getElem? (i := 162) rfl) rfl
theorem kw_1_165 : (Cond.fieldLink "CensusWalk$Town" 7 "CensusWalk$Town" "crossings" "I") ∈ lw_g := ms_t1 (List.mem_of_getElem? (i := 165) rfl) rfl
theorem kw_1_166 : (Cond.fieldLink "CensusWalk$Routes" 51 "CensusWalk$Town" "crossings" "I") ∈ lw_g := ms_t1 (List.mem_of_getElem? (i := 166) rfl) rfl
theorem kw_1_167 : (Cond.fieldLink "CensusWalk$SetupReader" 97 "CensusWalk$Town" "crossings" "I") ∈ lw_g := ms_t1 (List.mem_of_getElem? (i := 167) rfl) rfl
theorem kw_1_168 : (Cond.fieldLink "CensusWalk" 105 "CensusWalk$Town" "crossings" "I") ∈ lw_g := ms_t1 (List.mem_of_getElem? (i := 168) rfl) rfl
theorem kw_1_169 : (Cond.fieldLink "CensusWalk$Town" 13 "CensusWalk$Town" "crossingTime" "I") ∈ lw_g := ms_t1 (List.mem_of_getElem? (i := 169) rfl) rfl
theorem kw_1_170 : (Cond.fieldLink "CensusWalk$SetupReader" 114 "CensusWalk$Town" "crossingTime" "I") ∈ lw_g := ms_t1 (List.mem_of_getElem? (i := 170) rfl) rfl
theorem kw_1_171 : (Cond.fieldLink "CensusWalk$Routes" 91 "CensusWalk$Town" "crossingTime" "I") ∈ lw_g := ms_t1 (List.mem_of_getElem? (i := 171) rfl) rfl
theorem kw_1_172 : (Cond.fieldLink "CensusWalk$Town" 16 "CensusWalk$Town" "gap" "I") ∈ lw_g := ms_t1 (List.mem_of_getElem? (i := 172) rfl) rfl
theorem kw_1_173 : (Cond.fieldLink "CensusWalk$SetupReader" 119 "CensusWalk$Town" "gap" "I") ∈ lw_g := ms_t1 (List.mem_of_getElem? (i := 173) rfl) rfl
theorem kw_1_174 : (Cond.fieldLink "CensusWalk$Simulation" 113 "CensusWalk$Town" "gap" "I") ∈ lw_g := ms_t1 (List.mem_of_getElem? (i := 174) rfl) rfl
theorem kw_1_175 : (Cond.fieldLink "CensusWalk$Town" 22 "CensusWalk$Town" "streets" "LCensusWalk$Streets;") ∈ lw_g := ms_t1 (List.mem_of_getElem? (i := 175) rfl) rfl
theorem kw_1_176 : (Cond.fieldLink "CensusWalk$Routes" 26 "CensusWalk$Town" "streets" "LCensusWalk$Streets;") ∈ lw_g := ms_t1 (List.mem_of_getElem? (i := 176) rfl) rfl
theorem kw_1_177 : (Cond.fieldLink "CensusWalk$SetupReader" 125 "CensusWalk$Town" "streets" "LCensusWalk$Streets;") ∈ lw_g := ms_t1 (List.mem_of_getElem? (i := 177) rfl) rfl
theorem kw_1_178 : (Cond.fieldLink "CensusWalk" 108 "CensusWalk$Town" "streets" "LCensusWalk$Streets;") ∈ lw_g := ms_t1 (List.mem_of_getElem? (i := 178) rfl) rfl
theorem kw_1_179 : (Cond.fieldLink "CensusWalk$Town" 29 "CensusWalk$Town" "houses" "LCensusWalk$Houses;") ∈ lw_g := ms_t1 (List.mem_of_getElem? (i := 179) rfl) rfl
theorem kw_1_180 : (Cond.fieldLink "CensusWalk$SetupReader" 71 "CensusWalk$Town" "houses" "LCensusWalk$Houses;") ∈ lw_g := ms_t1 (List.mem_of_getElem? (i := 180) rfl) rfl
theorem kw_1_181 : (Cond.fieldLink "CensusWalk" 96 "CensusWalk$Town" "houses" "LCensusWalk$Houses;") ∈ lw_g := ms_t1 (List.mem_of_getElem? (i := 181) rfl) rfl
theorem kw_1_182 : (Cond.fieldLink "CensusWalk$Routes" 61 "CensusWalk$Town" "houses" "LCensusWalk$Houses;") ∈ lw_g := ms_t1 (List.mem_of_getElem? (i := 182) rfl) rfl
theorem kw_1_183 : (Cond.fieldLink "CensusWalk$Simulation" 96 "CensusWalk$Town" "houses" "LCensusWalk$Houses;") ∈ lw_g := ms_t1 (List.mem_of_getElem? (i := 183) rfl) rfl
theorem kw_1_184 : (Cond.fieldLink "CensusWalk$Search" 108 "CensusWalk$Town" "houses" "LCensusWalk$Houses;") ∈ lw_g := ms_t1 (List.mem_of_getElem? (i := 184) rfl) rfl
theorem kw_1_185 : (Cond.fieldLink "CensusWalk$Town" 36 "CensusWalk$Town" "walkers" "LCensusWalk$Walkers;") ∈ lw_g := ms_t1 (List.mem_of_getElem? (i := 185) rfl) rfl
theorem kw_1_186 : (Cond.fieldLink "CensusWalk$Simulation" 46 "CensusWalk$Town" "walkers" "LCensusWalk$Walkers;") ∈ lw_g := ms_t1 (List.mem_of_getElem? (i := 186) rfl) rfl
theorem kw_1_187 : (Cond.fieldLink "CensusWalk$Search" 90 "CensusWalk$Town" "walkers" "LCensusWalk$Walkers;") ∈ lw_g := ms_t1 (List.mem_of_getElem? (i := 187) rfl) rfl
theorem kw_1_188 : (Cond.fieldLink "CensusWalk$SetupReader" 171 "CensusWalk$Town" "walkers" "LCensusWalk$Walkers;") ∈ lw_g := ms_t1 (List.mem_of_getElem? (i := 188) rfl) rfl
theorem kw_1_189 : (Cond.fieldLink "CensusWalk" 115 "CensusWalk$Town" "walkers" "LCensusWalk$Walkers;") ∈ lw_g := ms_t1 (List.mem_of_getElem? (i := 189) rfl) rfl
theorem kw_1_190 : (Cond.lays "CensusWalk$Town" "CensusWalk$Town" "crossings" "I") ∈ lw_g := ms_t1 (List.mem_of_getElem? (i := 190) rfl) rfl
theorem kw_1_192 : (Cond.lays "CensusWalk$Town" "CensusWalk$Town" "crossingTime" "I") ∈ lw_g := ms_t1 (List.mem_of_getElem? (i := 192) rfl) rfl
theorem kw_1_194 : (Cond.lays "CensusWalk$Town" "CensusWalk$Town" "gap" "I") ∈ lw_g := ms_t1 (List.mem_of_getElem? (i := 194) rfl) rfl
theorem kw_1_196 : (Cond.laysFinal "CensusWalk$Town" "CensusWalk$Town" "streets" "LCensusWalk$Streets;") ∈ lw_g := ms_t1 (List.mem_of_getElem? (i := 196) rfl) rfl
theorem kw_1_198 : (Cond.laysFinal "CensusWalk$Town" "CensusWalk$Town" "houses" "LCensusWalk$Houses;") ∈ lw_g := ms_t1 (List.mem_of_getElem? (i := 198) rfl) rfl
theorem kw_1_200 : (Cond.laysFinal "CensusWalk$Town" "CensusWalk$Town" "walkers" "LCensusWalk$Walkers;") ∈ lw_g := ms_t1 (List.mem_of_getElem? (i := 200) rfl) rfl
theorem kw_1_203 : (Cond.arrayOver (.object "CensusWalk$Town")) ∈ lw_tbl := ms_q1 (List.mem_of_getElem? (i := 203) rfl)
theorem kw_1_204 : (Cond.classLink "CensusWalk" 37 "CensusWalk$SetupReader") ∈ lw_g := ms_t1 (List.mem_of_getElem? (i := 204) rfl) rfl
theorem kw_1_205 : (Cond.instantiable "CensusWalk$SetupReader" 8) ∈ lw_g := ms_t1 (List.mem_of_getElem? (i := 205) rfl) rfl
theorem kw_1_206 : (Cond.methodLinkNest "CensusWalk" 39 ⟨"CensusWalk$SetupReader", "<init>", "()V"⟩ "CensusWalk") ∈ lw_tbl := ms_q1 (List.mem_of_getElem? (i := 206) rfl)
theorem kw_1_207 : (Cond.instanceMethod ⟨"CensusWalk$SetupReader", "<init>", "()V"⟩) ∈ lw_g := ms_t1 (List.mem_of_getElem? (i := 207) rfl) rfl
theorem kw_1_208 : (Cond.code ⟨"CensusWalk$SetupReader", "<init>", "()V"⟩ prog_5_method_1_code 1 none) ∈ lw_g := ms_t1 (List.mem_of_getElem? (i := 208) rfl) rfl
theorem kw_1_209 : (Cond.methodLink "CensusWalk$SetupReader" 3 ⟨"java/lang/Object", "<init>", "()V"⟩) ∈ lw_g := ms_t1 (List.mem_of_getElem? (i := 209) rfl) rfl
theorem kw_1_210 : (Cond.classLink "CensusWalk$SetupReader" 9 "CensusWalk$Town") ∈ lw_g := ms_t1 (List.mem_of_getElem? (i := 210) rfl) rfl
theorem kw_1_211 : (Cond.methodLinkNest "CensusWalk$SetupReader" 11 ⟨"CensusWalk$Town", "<init>", "()V"⟩ "CensusWalk") ∈ lw_tbl := ms_q1 (List.mem_of_getElem? (i := 211) rfl)
theorem kw_1_212 : (Cond.classLink "CensusWalk$SetupReader" 25 "CensusWalk$Tokens") ∈ lw_g := ms_t1 (List.mem_of_getElem? (i := 212) rfl) rfl
theorem kw_1_213 : (Cond.instantiable "CensusWalk$Tokens" 6) ∈ lw_g := ms_t1 (List.mem_of_getElem? (i := 213) rfl) rfl
theorem kw_1_214 : (Cond.methodLinkNest "CensusWalk$SetupReader" 27 ⟨"CensusWalk$Tokens", "<init>", "()V"⟩ "CensusWalk") ∈ lw_tbl := ms_q1 (List.mem_of_getElem? (i := 214) rfl)
theorem kw_1_215 : (Cond.instanceMethod ⟨"CensusWalk$Tokens", "<init>", "()V"⟩) ∈ lw_g := ms_t1 (List.mem_of_getElem? (i := 215) rfl) rfl
theorem kw_1_216 : (Cond.code ⟨"CensusWalk$Tokens", "<init>", "()V"⟩ prog_8_method_1_code 1 none) ∈ lw_g := ms_t1 (List.mem_of_getElem? (i := 216) rfl) rfl
theorem kw_1_217 : (Cond.methodLink "CensusWalk$Tokens" 1 ⟨"java/lang/Object", "<init>", "()V"⟩) ∈ lw_g := ms_t1 (List.mem_of_getElem? (i := 217) rfl) rfl
theorem kw_1_218 : (Cond.fieldLink "CensusWalk$Tokens" 9 "CensusWalk$Tokens" "kind" "I") ∈ lw_g := ms_t1 (List.mem_of_getElem? (i := 218) rfl) rfl
theorem kw_1_219 : (Cond.fieldLink "CensusWalk$SetupReader" 61 "CensusWalk$Tokens" "kind" "I") ∈ lw_g := ms_t1 (List.mem_of_getElem? (i := 219) rfl) rfl
theorem kw_1_220 : (Cond.fieldLink "CensusWalk$Tokens" 13 "CensusWalk$Tokens" "start" "I") ∈ lw_g := ms_t1 (List.mem_of_getElem? (i := 220) rfl) rfl
theorem kw_1_221 : (Cond.fieldLink "CensusWalk$SetupReader" 196 "CensusWalk$Tokens" "start" "I") ∈ lw_g := ms_t1 (List.mem_of_getElem? (i := 221) rfl) rfl
theorem kw_1_222 : (Cond.fieldLink "CensusWalk$Tokens" 16 "CensusWalk$Tokens" "value" "I") ∈ lw_g := ms_t1 (List.mem_of_getElem? (i := 222) rfl) rfl
theorem kw_1_223 : (Cond.fieldLink "CensusWalk$SetupReader" 134 "CensusWalk$Tokens" "value" "I") ∈ lw_g := ms_t1 (List.mem_of_getElem? (i := 223) rfl) rfl
theorem kw_1_224 : (Cond.fieldLink "CensusWalk$Tokens" 19 "CensusWalk$Tokens" "text" "[B") ∈ lw_g := ms_t1 (List.mem_of_getElem? (i := 224) rfl) rfl
theorem kw_1_225 : (Cond.fieldLink "CensusWalk$Tokens" 23 "CensusWalk$Tokens" "length" "I") ∈ lw_g := ms_t1 (List.mem_of_getElem? (i := 225) rfl) rfl
theorem kw_1_226 : (Cond.fieldLink "CensusWalk$Tokens" 26 "CensusWalk$Tokens" "next" "I") ∈ lw_g := ms_t1 (List.mem_of_getElem? (i := 226) rfl) rfl
theorem kw_1_227 : (Cond.lays "CensusWalk$Tokens" "CensusWalk$Tokens" "kind" "I") ∈ lw_g := ms_t1 (List.mem_of_getElem? (i := 227) rfl) rfl
theorem kw_1_229 : (Cond.lays "CensusWalk$Tokens" "CensusWalk$Tokens" "start" "I") ∈ lw_g := ms_t1 (List.mem_of_getElem? (i := 229) rfl) rfl
theorem kw_1_231 : (Cond.lays "CensusWalk$Tokens" "CensusWalk$Tokens" "value" "I") ∈ lw_g := ms_t1 (List.mem_of_getElem? (i := 231) rfl) rfl
theorem kw_1_233 : (Cond.lays "CensusWalk$Tokens" "CensusWalk$Tokens" "text" "[B") ∈ lw_g := ms_t1 (List.mem_of_getElem? (i := 233) rfl) rfl
theorem kw_1_235 : (Cond.lays "CensusWalk$Tokens" "CensusWalk$Tokens" "length" "I") ∈ lw_g := ms_t1 (List.mem_of_getElem? (i := 235) rfl) rfl
theorem kw_1_237 : (Cond.lays "CensusWalk$Tokens" "CensusWalk$Tokens" "next" "I") ∈ lw_g := ms_t1 (List.mem_of_getElem? (i := 237) rfl) rfl
theorem kw_2_0 : (Cond.classLink "CensusWalk$SetupReader" 32 "CensusWalk$VisitExpression") ∈ lw_g := ms_t2 (List.mem_of_getElem? (i := 0) rfl) rfl
theorem kw_2_1 : (Cond.instantiable "CensusWalk$VisitExpression" 3) ∈ lw_g := ms_t2 (List.mem_of_getElem? (i := 1) rfl) rfl
theorem kw_2_2 : (Cond.methodLinkNest "CensusWalk$SetupReader" 34 ⟨"CensusWalk$VisitExpression", "<init>", "()V"⟩ "CensusWalk") ∈ lw_tbl := ms_q2 (List.mem_of_getElem? (i := 2) rfl)
theorem kw_2_3 : (Cond.instanceMethod ⟨"CensusWalk$VisitExpression", "<init>", "()V"⟩) ∈ lw_g := ms_t2 (List.mem_of_getElem? (i := 3) rfl) rfl
theorem kw_2_4 : (Cond.code ⟨"CensusWalk$VisitExpression", "<init>", "()V"⟩ prog_10_method_1_code 1 none) ∈ lw_g := ms_t2 (List.mem_of_getElem? (i := 4) rfl) rfl
theorem kw_2_5 : (Cond.methodLink "CensusWalk$VisitExpression" 3 ⟨"java/lang/Object", "<init>", "()V"⟩) ∈ lw_g := ms_t2 (List.mem_of_getElem? (i := 5) rfl) rfl
theorem kw_2_6 : (Cond.fieldLink "CensusWalk$VisitExpression" 9 "CensusWalk$VisitExpression" "codes" "[I") ∈ lw_g := ms_t2 (List.mem_of_getElem? (i := 6) rfl) rfl
theorem kw_2_7 : (Cond.fieldLink "CensusWalk$VisitExpression" 15 "CensusWalk$VisitExpression" "length" "I") ∈ lw_g := ms_t2 (List.mem_of_getElem? (i := 7) rfl) rfl
theorem kw_2_8 : (Cond.fieldLink "CensusWalk$VisitExpression" 19 "CensusWalk$VisitExpression" "stack" "[I") ∈ lw_g := ms_t2 (List.mem_of_getElem? (i := 8) rfl) rfl
theorem kw_2_9 : (Cond.laysFinal "CensusWalk$VisitExpression" "CensusWalk$VisitExpression" "codes" "[I") ∈ lw_g := ms_t2 (List.mem_of_getElem? (i := 9) rfl) rfl
theorem kw_2_11 : (Cond.lays "CensusWalk$VisitExpression" "CensusWalk$VisitExpression" "length" "I") ∈ lw_g := ms_t2 (List.mem_of_getElem? (i := 11) rfl) rfl
theorem kw_2_13 : (Cond.laysFinal "CensusWalk$VisitExpression" "CensusWalk$VisitExpression" "stack" "[I") ∈ lw_g := ms_t2 (List.mem_of_getElem? (i := 13) rfl) rfl
theorem kw_2_16 : (Cond.fieldLink "CensusWalk$SetupReader" 12 "CensusWalk$SetupReader" "town" "LCensusWalk$Town;") ∈ lw_g := ms_t2 (List.mem_of_getElem? (i := 16) rfl) rfl
theorem kw_2_17 : (Cond.fieldLink "CensusWalk" 91 "CensusWalk$SetupReader" "town" "LCensusWalk$Town;") ∈ lw_g := ms_t2 (List.mem_of_getElem? (i := 17) rfl) rfl
theorem kw_2_18 : (Cond.fieldLink "CensusWalk$SetupReader" 18 "CensusWalk$SetupReader" "errorAt" "I") ∈ lw_g := ms_t2 (List.mem_of_getElem? (i := 18) rfl) rfl
theorem kw_2_19 : (Cond.fieldLink "CensusWalk" 87 "CensusWalk$SetupReader" "errorAt" "I") ∈ lw_g := ms_t2 (List.mem_of_getElem? (i := 19) rfl) rfl
theorem kw_2_20 : (Cond.fieldLink "CensusWalk$SetupReader" 22 "CensusWalk$SetupReader" "error" "I") ∈ lw_g := ms_t2 (List.mem_of_getElem? (i := 20) rfl) rfl
theorem kw_2_21 : (Cond.fieldLink "CensusWalk$SetupReader" 28 "CensusWalk$SetupReader" "tokens" "LCensusWalk$Tokens;") ∈ lw_g := ms_t2 (List.mem_of_getElem? (i := 21) rfl) rfl
theorem kw_2_22 : (Cond.fieldLink "CensusWalk$SetupReader" 35 "CensusWalk$SetupReader" "visit" "LCensusWalk$VisitExpression;") ∈ lw_g := ms_t2 (List.mem_of_getElem? (i := 22) rfl) rfl
theorem kw_2_23 : (Cond.fieldLink "CensusWalk$SetupReader" 39 "CensusWalk$SetupReader" "crossSeen" "Z") ∈ lw_g := ms_t2 (List.mem_of_getElem? (i := 23) rfl) rfl
theorem kw_2_24 : (Cond.fieldLink "CensusWalk$SetupReader" 43 "CensusWalk$SetupReader" "gapSeen" "Z") ∈ lw_g := ms_t2 (List.mem_of_getElem? (i := 24) rfl) rfl
theorem kw_2_25 : (Cond.fieldLink "CensusWalk$SetupReader" 46 "CensusWalk$SetupReader" "visitSeen" "Z") ∈ lw_g := ms_t2 (List.mem_of_getElem? (i := 25) rfl) rfl
theorem kw_2_26 : (Cond.laysFinal "CensusWalk$SetupReader" "CensusWalk$SetupReader" "town" "LCensusWalk$Town;") ∈ lw_g := ms_t2 (List.mem_of_getElem? (i := 26) rfl) rfl
theorem kw_2_28 : (Cond.lays "CensusWalk$SetupReader" "CensusWalk$SetupReader" "errorAt" "I") ∈ lw_g := ms_t2 (List.mem_of_getElem? (i := 28) rfl) rfl
theorem kw_2_30 : (Cond.lays "CensusWalk$SetupReader" "CensusWalk$SetupReader" "error" "I") ∈ lw_g := ms_t2 (List.mem_of_getElem? (i := 30) rfl) rfl
theorem kw_2_32 : (Cond.laysFinal "CensusWalk$SetupReader" "CensusWalk$SetupReader" "tokens" "LCensusWalk$Tokens;") ∈ lw_g := ms_t2 (List.mem_of_getElem? (i := 32) rfl) rfl
theorem kw_2_34 : (Cond.laysFinal "CensusWalk$SetupReader" "CensusWalk$SetupReader" "visit" "LCensusWalk$VisitExpression;") ∈ lw_g := ms_t2 (List.mem_of_getElem? (i := 34) rfl) rfl
theorem kw_2_36 : (Cond.lays "CensusWalk$SetupReader" "CensusWalk$SetupReader" "crossSeen" "Z") ∈ lw_g := ms_t2 (List.mem_of_getElem? (i := 36) rfl) rfl
theorem kw_2_38 : (Cond.lays "CensusWalk$SetupReader" "CensusWalk$SetupReader" "gapSeen" "Z") ∈ lw_g := ms_t2 (List.mem_of_getElem? (i := 38) rfl) rfl
theorem kw_2_40 : (Cond.lays "CensusWalk$SetupReader" "CensusWalk$SetupReader" "visitSeen" "Z") ∈ lw_g := ms_t2 (List.mem_of_getElem? (i := 40) rfl) rfl
theorem kw_2_43 : (Cond.classLink "CensusWalk" 44 "CensusWalk$Routes") ∈ lw_g := ms_t2 (List.mem_of_getElem? (i := 43) rfl) rfl
theorem kw_2_44 : (Cond.instantiable "CensusWalk$Routes" 1) ∈ lw_g := ms_t2 (List.mem_of_getElem? (i := 44) rfl) rfl
theorem kw_2_45 : (Cond.methodLinkNest "CensusWalk" 46 ⟨"CensusWalk$Routes", "<init>", "()V"⟩ "CensusWalk") ∈ lw_tbl := ms_q2 (List.mem_of_getElem? (i := 45) rfl)
theorem kw_2_46 : (Cond.instanceMethod ⟨"CensusWalk$Routes", "<init>", "()V"⟩) ∈ lw_g := ms_t2 (List.mem_of_getElem? (i := 46) rfl) rfl
theorem kw_2_47 : (Cond.code ⟨"CensusWalk$Routes", "<init>", "()V"⟩ prog_3_method_1_code 1 none) ∈ lw_g := ms_t2 (List.mem_of_getElem? (i := 47) rfl) rfl
theorem kw_2_48 : (Cond.methodLink "CensusWalk$Routes" 3 ⟨"java/lang/Object", "<init>", "()V"⟩) ∈ lw_g := ms_t2 (List.mem_of_getElem? (i := 48) rfl) rfl
theorem kw_2_49 : (Cond.fieldLink "CensusWalk$Routes" 9 "CensusWalk$Routes" "ways" "[I") ∈ lw_g := ms_t2 (List.mem_of_getElem? (i := 49) rfl) rfl
theorem kw_2_50 : (Cond.laysFinal "CensusWalk$Routes" "CensusWalk$Routes" "ways" "[I") ∈ lw_g := ms_t2 (List.mem_of_getElem? (i := 50) rfl) rfl
theorem kw_2_53 : (Cond.classLink "CensusWalk" 51 "CensusWalk$Simulation") ∈ lw_g := ms_t2 (List.mem_of_getElem? (i := 53) rfl) rfl
theorem kw_2_54 : (Cond.instantiable "CensusWalk$Simulation" 9) ∈ lw_g := ms_t2 (List.mem_of_getElem? (i := 54) rfl) rfl
theorem kw_2_55 : (Cond.methodLinkNest "CensusWalk" 53 ⟨"CensusWalk$Simulation", "<init>", "()V"⟩ "CensusWalk") ∈ lw_tbl := ms_q2 (List.mem_of_getElem? (i := 55) rfl)
theorem kw_2_56 : (Cond.instanceMethod ⟨"CensusWalk$Simulation", "<init>", "()V"⟩) ∈ lw_g := ms_t2 (List.mem_of_getElem? (i := 56) rfl) rfl
theorem kw_2_57 : (Cond.code ⟨"CensusWalk$Simulation", "<init>", "()V"⟩ prog_6_method_1_code 1 none) ∈ lw_g := ms_t2 (List.mem_of_getElem? (i := 57) rfl) rfl
theorem kw_2_58 : (Cond.methodLink "CensusWalk$Simulation" 3 ⟨"java/lang/Object", "<init>", "()V"⟩) ∈ lw_g := ms_t2 (List.mem_of_getElem? (i := 58) rfl) rfl
theorem kw_2_59 : (Cond.fieldLink "CensusWalk$Simulation" 9 "CensusWalk$Simulation" "results" "[I") ∈ lw_g := ms_t2 (List.mem_of_getElem? (i := 59) rfl) rfl
theorem kw_2_60 : (Cond.fieldLink "CensusWalk" 182 "CensusWalk$Simulation" "results" "[I") ∈ lw_g := ms_t2 (List.mem_of_getElem? (i := 60) rfl) rfl
theorem kw_2_61 : (Cond.fieldLink "CensusWalk$Simulation" 15 "CensusWalk$Simulation" "arrivals" "[I") ∈ lw_g := ms_t2 (List.mem_of_getElem? (i := 61) rfl) rfl
theorem kw_2_62 : (Cond.fieldLink "CensusWalk" 185 "CensusWalk$Simulation" "arrivals" "[I") ∈ lw_g := ms_t2 (List.mem_of_getElem? (i := 62) rfl) rfl
theorem kw_2_63 : (Cond.fieldLink "CensusWalk$Simulation" 18 "CensusWalk$Simulation" "time" "[I") ∈ lw_g := ms_t2 (List.mem_of_getElem? (i := 63) rfl) rfl
theorem kw_2_64 : (Cond.fieldLink "CensusWalk" 188 "CensusWalk$Simulation" "time" "[I") ∈ lw_g := ms_t2 (List.mem_of_getElem? (i := 64) rfl) rfl
theorem kw_2_65 : (Cond.fieldLink "CensusWalk$Simulation" 21 "CensusWalk$Simulation" "callCount" "[I") ∈ lw_g := ms_t2 (List.mem_of_getElem? (i := 65) rfl) rfl
theorem kw_2_66 : (Cond.fieldLink "CensusWalk" 205 "CensusWalk$Simulation" "callCount" "[I") ∈ lw_g := ms_t2 (List.mem_of_getElem? (i := 66) rfl) rfl
theorem kw_2_67 : (Cond.fieldLink "CensusWalk$Simulation" 24 "CensusWalk$Simulation" "countedHouses" "I") ∈ lw_g := ms_t2 (List.mem_of_getElem? (i := 67) rfl) rfl
theorem kw_2_68 : (Cond.fieldLink "CensusWalk" 196 "CensusWalk$Simulation" "countedHouses" "I") ∈ lw_g := ms_t2 (List.mem_of_getElem? (i := 68) rfl) rfl
theorem kw_2_69 : (Cond.fieldLink "CensusWalk$Simulation" 28 "CensusWalk$Simulation" "latestCall" "[I") ∈ lw_g := ms_t2 (List.mem_of_getElem? (i := 69) rfl) rfl
theorem kw_2_70 : (Cond.fieldLink "CensusWalk$Simulation" 31 "CensusWalk$Simulation" "treated" "[I") ∈ lw_g := ms_t2 (List.mem_of_getElem? (i := 70) rfl) rfl
theorem kw_2_71 : (Cond.fieldLink "CensusWalk$Simulation" 34 "CensusWalk$Simulation" "place" "[I") ∈ lw_g := ms_t2 (List.mem_of_getElem? (i := 71) rfl) rfl
theorem kw_2_72 : (Cond.fieldLink "CensusWalk$Simulation" 37 "CensusWalk$Simulation" "ahead" "[I") ∈ lw_g := ms_t2 (List.mem_of_getElem? (i := 72) rfl) rfl
theorem kw_2_73 : (Cond.laysFinal "CensusWalk$Simulation" "CensusWalk$Simulation" "results" "[I") ∈ lw_g := ms_t2 (List.mem_of_getElem? (i := 73) rfl) rfl
theorem kw_2_75 : (Cond.laysFinal "CensusWalk$Simulation" "CensusWalk$Simulation" "arrivals" "[I") ∈ lw_g := ms_t2 (List.mem_of_getElem? (i := 75) rfl) rfl
theorem kw_2_77 : (Cond.laysFinal "CensusWalk$Simulation" "CensusWalk$Simulation" "time" "[I") ∈ lw_g := ms_t2 (List.mem_of_getElem? (i := 77) rfl) rfl
theorem kw_2_79 : (Cond.laysFinal "CensusWalk$Simulation" "CensusWalk$Simulation" "callCount" "[I") ∈ lw_g := ms_t2 (List.mem_of_getElem? (i := 79) rfl) rfl
theorem kw_2_81 : (Cond.lays "CensusWalk$Simulation" "CensusWalk$Simulation" "countedHouses" "I") ∈ lw_g := ms_t2 (List.mem_of_getElem? (i := 81) rfl) rfl
theorem kw_2_83 : (Cond.laysFinal "CensusWalk$Simulation" "CensusWalk$Simulation" "latestCall" "[I") ∈ lw_g := ms_t2 (List.mem_of_getElem? (i := 83) rfl) rfl
theorem kw_2_85 : (Cond.laysFinal "CensusWalk$Simulation" "CensusWalk$Simulation" "treated" "[I") ∈ lw_g := ms_t2 (List.mem_of_getElem? (i := 85) rfl) rfl
theorem kw_2_87 : (Cond.laysFinal "CensusWalk$Simulation" "CensusWalk$Simulation" "place" "[I") ∈ lw_g := ms_t2 (List.mem_of_getElem? (i := 87) rfl) rfl
theorem kw_2_89 : (Cond.laysFinal "CensusWalk$Simulation" "CensusWalk$Simulation" "ahead" "[I") ∈ lw_g := ms_t2 (List.mem_of_getElem? (i := 89) rfl) rfl
theorem kw_2_92 : (Cond.classLink "CensusWalk" 58 "CensusWalk$Search") ∈ lw_g := ms_t2 (List.mem_of_getElem? (i := 92) rfl) rfl
theorem kw_2_93 : (Cond.instantiable "CensusWalk$Search" 16) ∈ lw_g := ms_t2 (List.mem_of_getElem? (i := 93) rfl) rfl
theorem kw_2_94 : (Cond.methodLinkNest "CensusWalk" 60 ⟨"CensusWalk$Search", "<init>", "()V"⟩ "CensusWalk") ∈ lw_tbl := ms_q2 (List.mem_of_getElem? (i := 94) rfl)
theorem kw_2_95 : (Cond.instanceMethod ⟨"CensusWalk$Search", "<init>", "()V"⟩) ∈ lw_g := ms_t2 (List.mem_of_getElem? (i := 95) rfl) rfl
theorem kw_2_96 : (Cond.code ⟨"CensusWalk$Search", "<init>", "()V"⟩ prog_4_method_1_code 1 none) ∈ lw_g := ms_t2 (List.mem_of_getElem? (i := 96) rfl) rfl
theorem kw_2_97 : (Cond.methodLink "CensusWalk$Search" 3 ⟨"java/lang/Object", "<init>", "()V"⟩) ∈ lw_g := ms_t2 (List.mem_of_getElem? (i := 97) rfl) rfl
theorem kw_2_98 : (Cond.fieldLink "CensusWalk$Search" 9 "CensusWalk$Search" "size" "I") ∈ lw_g := ms_t2 (List.mem_of_getElem? (i := 98) rfl) rfl
theorem kw_2_99 : (Cond.fieldLink "CensusWalk" 217 "CensusWalk$Search" "size" "I") ∈ lw_g := ms_t2 (List.mem_of_getElem? (i := 99) rfl) rfl
theorem kw_2_100 : (Cond.fieldLink "CensusWalk$Search" 15 "CensusWalk$Search" "order" "[I") ∈ lw_g := ms_t2 (List.mem_of_getElem? (i := 100) rfl) rfl
theorem kw_2_101 : (Cond.fieldLink "CensusWalk" 223 "CensusWalk$Search" "order" "[I") ∈ lw_g := ms_t2 (List.mem_of_getElem? (i := 101) rfl) rfl
theorem kw_2_102 : (Cond.fieldLink "CensusWalk$Search" 19 "CensusWalk$Search" "bestTime" "I") ∈ lw_g := ms_t2 (List.mem_of_getElem? (i := 102) rfl) rfl
theorem kw_2_103 : (Cond.fieldLink "CensusWalk" 230 "CensusWalk$Search" "bestTime" "I") ∈ lw_g := ms_t2 (List.mem_of_getElem? (i := 103) rfl) rfl
theorem kw_2_104 : (Cond.fieldLink "CensusWalk$Search" 22 "CensusWalk$Search" "members" "[I") ∈ lw_g := ms_t2 (List.mem_of_getElem? (i := 104) rfl) rfl
theorem kw_2_105 : (Cond.fieldLink "CensusWalk$Search" 25 "CensusWalk$Search" "opens" "[I") ∈ lw_g := ms_t2 (List.mem_of_getElem? (i := 105) rfl) rfl
theorem kw_2_106 : (Cond.fieldLink "CensusWalk$Search" 28 "CensusWalk$Search" "closes" "[I") ∈ lw_g := ms_t2 (List.mem_of_getElem? (i := 106) rfl) rfl
theorem kw_2_107 : (Cond.fieldLink "CensusWalk$Search" 31 "CensusWalk$Search" "visits" "[I") ∈ lw_g := ms_t2 (List.mem_of_getElem? (i := 107) rfl) rfl
theorem kw_2_108 : (Cond.fieldLink "CensusWalk$Search" 34 "CensusWalk$Search" "ways" "[I") ∈ lw_g := ms_t2 (List.mem_of_getElem? (i := 108) rfl) rfl
theorem kw_2_109 : (Cond.fieldLink "CensusWalk$Search" 37 "CensusWalk$Search" "firstWays" "[I") ∈ lw_g := ms_t2 (List.mem_of_getElem? (i := 109) rfl) rfl
theorem kw_2_110 : (Cond.fieldLink "CensusWalk$Search" 40 "CensusWalk$Search" "begin" "I") ∈ lw_g := ms_t2 (List.mem_of_getElem? (i := 110) rfl) rfl
theorem kw_2_111 : (Cond.fieldLink "CensusWalk$Search" 43 "CensusWalk$Search" "early" "[I") ∈ lw_g := ms_t2 (List.mem_of_getElem? (i := 111) rfl) rfl
theorem kw_2_112 : (Cond.fieldLink "CensusWalk$Search" 46 "CensusWalk$Search" "late" "[I") ∈ lw_g := ms_t2 (List.mem_of_getElem? (i := 112) rfl) rfl
theorem kw_2_113 : (Cond.fieldLink "CensusWalk$Search" 49 "CensusWalk$Search" "ends" "[I") ∈ lw_g := ms_t2 (List.mem_of_getElem? (i := 113) rfl) rfl
theorem kw_2_114 : (Cond.fieldLink "CensusWalk$Search" 52 "CensusWalk$Search" "shares" "[I") ∈ lw_g := ms_t2 (List.mem_of_getElem? (i := 114) rfl) rfl
theorem kw_2_115 : (Cond.fieldLink "CensusWalk$Search" 55 "CensusWalk$Search" "bestShares" "[I") ∈ lw_g := ms_t2 (List.mem_of_getElem? (i := 115) rfl) rfl
theorem kw_2_116 : (Cond.fieldLink "CensusWalk$Search" 58 "CensusWalk$Search" "walkerCount" "I") ∈ lw_g := ms_t2 (List.mem_of_getElem? (i := 116) rfl) rfl
theorem kw_2_117 : (Cond.lays "CensusWalk$Search" "CensusWalk$Search" "size" "I") ∈ lw_g := ms_t2 (List.mem_of_getElem? (i := 117) rfl) rfl
theorem kw_2_119 : (Cond.laysFinal "CensusWalk$Search" "CensusWalk$Search" "order" "[I") ∈ lw_g := ms_t2 (List.mem_of_getElem? (i := 119) rfl) rfl
theorem kw_2_121 : (Cond.lays "CensusWalk$Search" "CensusWalk$Search" "bestTime" "I") ∈ lw_g := ms_t2 (List.mem_of_getElem? (i := 121) rfl) rfl
theorem kw_2_123 : (Cond.laysFinal "CensusWalk$Search" "CensusWalk$Search" "members" "[I") ∈ lw_g := ms_t2 (List.mem_of_getElem? (i := 123) rfl) rfl
theorem kw_2_125 : (Cond.laysFinal "CensusWalk$Search" "CensusWalk$Search" "opens" "[I") ∈ lw_g := ms_t2 (List.mem_of_getElem? (i := 125) rfl) rfl
theorem kw_2_127 : (Cond.laysFinal "CensusWalk$Search" "CensusWalk$Search" "closes" "[I") ∈ lw_g := ms_t2 (List.mem_of_getElem? (i := 127) rfl) rfl
theorem kw_2_129 : (Cond.laysFinal "CensusWalk$Search" "CensusWalk$Search" "visits" "[I") ∈ lw_g := ms_t2 (List.mem_of_getElem? (i := 129) rfl) rfl
theorem kw_2_131 : (Cond.laysFinal "CensusWalk$Search" "CensusWalk$Search" "ways" "[I") ∈ lw_g := ms_t2 (List.mem_of_getElem? (i := 131) rfl) rfl
theorem kw_2_133 : (Cond.laysFinal "CensusWalk$Search" "CensusWalk$Search" "firstWays" "[I") ∈ lw_g := ms_t2 (List.mem_of_getElem? (i := 133) rfl) rfl
theorem kw_2_135 : (Cond.lays "CensusWalk$Search" "CensusWalk$Search" "begin" "I") ∈ lw_g := ms_t2 (List.mem_of_getElem? (i := 135) rfl) rfl
theorem kw_2_137 : (Cond.laysFinal "CensusWalk$Search" "CensusWalk$Search" "early" "[I") ∈ lw_g := ms_t2 (List.mem_of_getElem? (i := 137) rfl) rfl
theorem kw_2_139 : (Cond.laysFinal "CensusWalk$Search" "CensusWalk$Search" "late" "[I") ∈ lw_g := ms_t2 (List.mem_of_getElem? (i := 139) rfl) rfl
theorem kw_2_141 : (Cond.laysFinal "CensusWalk$Search" "CensusWalk$Search" "ends" "[I") ∈ lw_g := ms_t2 (List.mem_of_getElem? (i := 141) rfl) rfl
theorem kw_2_143 : (Cond.laysFinal "CensusWalk$Search" "CensusWalk$Search" "shares" "[I") ∈ lw_g := ms_t2 (List.mem_of_getElem? (i := 143) rfl) rfl
theorem kw_2_145 : (Cond.laysFinal "CensusWalk$Search" "CensusWalk$Search" "bestShares" "[I") ∈ lw_g := ms_t2 (List.mem_of_getElem? (i := 145) rfl) rfl
theorem kw_2_147 : (Cond.lays "CensusWalk$Search" "CensusWalk$Search" "walkerCount" "I") ∈ lw_g := ms_t2 (List.mem_of_getElem? (i := 147) rfl) rfl
theorem kw_2_150 : (Cond.fieldLink "CensusWalk" 9 "CensusWalk" "buffer" "[B") ∈ lw_g := ms_t2 (List.mem_of_getElem? (i := 150) rfl) rfl
theorem kw_2_151 : (Cond.fieldLink "CensusWalk" 13 "CensusWalk" "bufferLength" "I") ∈ lw_g := ms_t2 (List.mem_of_getElem? (i := 151) rfl) rfl
theorem kw_2_152 : (Cond.fieldLink "CensusWalk" 17 "CensusWalk" "errorAt" "I") ∈ lw_g := ms_t2 (List.mem_of_getElem? (i := 152) rfl) rfl
theorem kw_2_153 : (Cond.fieldLink "CensusWalk" 23 "CensusWalk" "town" "LCensusWalk$Town;") ∈ lw_g := ms_t2 (List.mem_of_getElem? (i := 153) rfl) rfl
theorem kw_2_154 : (Cond.fieldLink "CensusWalk" 27 "CensusWalk" "past" "[LCensusWalk$Town;") ∈ lw_g := ms_t2 (List.mem_of_getElem? (i := 154) rfl) rfl
theorem kw_2_155 : (Cond.fieldLink "CensusWalk" 31 "CensusWalk" "oldestPast" "I") ∈ lw_g := ms_t2 (List.mem_of_getElem? (i := 155) rfl) rfl
theorem kw_2_156 : (Cond.fieldLink "CensusWalk" 34 "CensusWalk" "pastCount" "I") ∈ lw_g := ms_t2 (List.mem_of_getElem? (i := 156) rfl) rfl
theorem kw_2_157 : (Cond.fieldLink "CensusWalk" 40 "CensusWalk" "reader" "LCensusWalk$SetupReader;") ∈ lw_g := ms_t2 (List.mem_of_getElem? (i := 157) rfl) rfl
theorem kw_2_158 : (Cond.fieldLink "CensusWalk" 47 "CensusWalk" "routes" "LCensusWalk$Routes;") ∈ lw_g := ms_t2 (List.mem_of_getElem? (i := 158) rfl) rfl
theorem kw_2_159 : (Cond.fieldLink "CensusWalk" 54 "CensusWalk" "simulation" "LCensusWalk$Simulation;") ∈ lw_g := ms_t2 (List.mem_of_getElem? (i := 159) rfl) rfl
theorem kw_2_160 : (Cond.fieldLink "CensusWalk" 61 "CensusWalk" "search" "LCensusWalk$Search;") ∈ lw_g := ms_t2 (List.mem_of_getElem? (i := 160) rfl) rfl
theorem kw_2_161 : (Cond.fieldLink "CensusWalk" 65 "CensusWalk" "routesFresh" "Z") ∈ lw_g := ms_t2 (List.mem_of_getElem? (i := 161) rfl) rfl
theorem kw_2_162 : (Cond.fieldLink "CensusWalk" 69 "CensusWalk" "simulationFresh" "Z") ∈ lw_g := ms_t2 (List.mem_of_getElem? (i := 162) rfl) rfl
theorem kw_2_163 : (Cond.laysFinal "CensusWalk" "CensusWalk" "buffer" "[B") ∈ lw_g := ms_t2 (List.mem_of_getElem? (i := 163) rfl) rfl
theorem kw_2_165 : (Cond.lays "CensusWalk" "CensusWalk" "bufferLength" "I") ∈ lw_g := ms_t2 (List.mem_of_getElem? (i := 165) rfl) rfl
theorem kw_2_167 : (Cond.lays "CensusWalk" "CensusWalk" "errorAt" "I") ∈ lw_g := ms_t2 (List.mem_of_getElem? (i := 167) rfl) rfl
theorem kw_2_169 : (Cond.laysFinal "CensusWalk" "CensusWalk" "town" "LCensusWalk$Town;") ∈ lw_g := ms_t2 (List.mem_of_getElem? (i := 169) rfl) rfl
theorem kw_2_171 : (Cond.laysFinal "CensusWalk" "CensusWalk" "past" "[LCensusWalk$Town;") ∈ lw_g := ms_t2 (List.mem_of_getElem? (i := 171) rfl) rfl
theorem kw_2_173 : (Cond.lays "CensusWalk" "CensusWalk" "oldestPast" "I") ∈ lw_g := ms_t2 (List.mem_of_getElem? (i := 173) rfl) rfl
theorem kw_2_175 : (Cond.lays "CensusWalk" "CensusWalk" "pastCount" "I") ∈ lw_g := ms_t2 (List.mem_of_getElem? (i := 175) rfl) rfl
theorem kw_2_177 : (Cond.laysFinal "CensusWalk" "CensusWalk" "reader" "LCensusWalk$SetupReader;") ∈ lw_g := ms_t2 (List.mem_of_getElem? (i := 177) rfl) rfl
theorem kw_2_179 : (Cond.laysFinal "CensusWalk" "CensusWalk" "routes" "LCensusWalk$Routes;") ∈ lw_g := ms_t2 (List.mem_of_getElem? (i := 179) rfl) rfl
theorem kw_2_181 : (Cond.laysFinal "CensusWalk" "CensusWalk" "simulation" "LCensusWalk$Simulation;") ∈ lw_g := ms_t2 (List.mem_of_getElem? (i := 181) rfl) rfl
theorem kw_2_183 : (Cond.laysFinal "CensusWalk" "CensusWalk" "search" "LCensusWalk$Search;") ∈ lw_g := ms_t2 (List.mem_of_getElem? (i := 183) rfl) rfl
theorem kw_2_185 : (Cond.lays "CensusWalk" "CensusWalk" "routesFresh" "Z") ∈ lw_g := ms_t2 (List.mem_of_getElem? (i := 185) rfl) rfl
theorem kw_2_187 : (Cond.lays "CensusWalk" "CensusWalk" "simulationFresh" "Z") ∈ lw_g := ms_t2 (List.mem_of_getElem? (i := 187) rfl) rfl
theorem kw_2_190 : (Cond.methodLink "CensusWalkLaw" 94 ⟨"CensusWalk", "append", "(IIIII)I"⟩) ∈ lw_g := ms_t2 (List.mem_of_getElem? (i := 190) rfl) rfl
theorem kw_2_191 : (Cond.instanceMethod ⟨"CensusWalk", "append", "(IIIII)I"⟩) ∈ lw_g := ms_t2 (List.mem_of_getElem? (i := 191) rfl) rfl
theorem kw_2_192 : (Cond.selects "CensusWalk" ⟨"CensusWalk", "append", "(IIIII)I"⟩ ⟨"CensusWalk", "append", "(IIIII)I"⟩) ∈ lw_g := ms_t2 (List.mem_of_getElem? (i := 192) rfl) rfl
theorem kw_2_193 : (Cond.code ⟨"CensusWalk", "append", "(IIIII)I"⟩ prog_1_method_2_code 6 (some .int)) ∈ lw_g := ms_t2 (List.mem_of_getElem? (i := 193) rfl) rfl
theorem kw_2_194 : (Cond.methodLink "CensusWalk" 72 ⟨"CensusWalk", "appendWord", "(I)V"⟩) ∈ lw_g := ms_t2 (List.mem_of_getElem? (i := 194) rfl) rfl
theorem kw_2_196 : (Cond.instanceMethod ⟨"CensusWalk", "appendWord", "(I)V"⟩) ∈ lw_g := ms_t2 (List.mem_of_getElem? (i := 196) rfl) rfl
theorem kw_2_197 : (Cond.code ⟨"CensusWalk", "appendWord", "(I)V"⟩ prog_1_method_36_code 3 none) ∈ lw_g := ms_t2 (List.mem_of_getElem? (i := 197) rfl) rfl
theorem kw_2_198 : (Cond.methodLink "CensusWalkLaw" 109 ⟨"CensusWalk", "errorOffset", "()I"⟩) ∈ lw_g := ms_t2 (List.mem_of_getElem? (i := 198) rfl) rfl
theorem kw_2_199 : (Cond.instanceMethod ⟨"CensusWalk", "errorOffset", "()I"⟩) ∈ lw_g := ms_t2 (List.mem_of_getElem? (i := 199) rfl) rfl
theorem kw_2_200 : (Cond.selects "CensusWalk" ⟨"CensusWalk", "errorOffset", "()I"⟩ ⟨"CensusWalk", "errorOffset", "()I"⟩) ∈ lw_g := ms_t2 (List.mem_of_getElem? (i := 200) rfl) rfl
theorem kw_2_201 : (Cond.code ⟨"CensusWalk", "errorOffset", "()I"⟩ prog_1_method_4_code 1 (some .int)) ∈ lw_g := ms_t2 (List.mem_of_getElem? (i := 201) rfl) rfl
theorem kw_2_202 : (Cond.methodLink "CensusWalkLaw" 113 ⟨"CensusWalk", "crossingCount", "()I"⟩) ∈ lw_g := ms_t2 (List.mem_of_getElem? (i := 202) rfl) rfl
theorem kw_2_203 : (Cond.instanceMethod ⟨"CensusWalk", "crossingCount", "()I"⟩) ∈ lw_g := ms_t2 (List.mem_of_getElem? (i := 203) rfl) rfl
theorem kw_2_204 : (Cond.selects "CensusWalk" ⟨"CensusWalk", "crossingCount", "()I"⟩ ⟨"CensusWalk", "crossingCount", "()I"⟩) ∈ lw_g := ms_t2 (List.mem_of_getElem? (i := 204) rfl) rfl
theorem kw_2_205 : (Cond.code ⟨"CensusWalk", "crossingCount", "()I"⟩ prog_1_method_5_code 1 (some .int)) ∈ lw_g := ms_t2 (List.mem_of_getElem? (i := 205) rfl) rfl
theorem kw_2_206 : (Cond.methodLink "CensusWalkLaw" 117 ⟨"CensusWalk", "streetCount", "()I"⟩) ∈ lw_g := ms_t2 (List.mem_of_getElem? (i := 206) rfl) rfl
theorem kw_2_207 : (Cond.instanceMethod ⟨"CensusWalk", "streetCount", "()I"⟩) ∈ lw_g := ms_t2 (List.mem_of_getElem? (i := 207) rfl) rfl
theorem kw_2_208 : (Cond.selects "CensusWalk" ⟨"CensusWalk", "streetCount", "()I"⟩ ⟨"CensusWalk", "streetCount", "()I"⟩) ∈ lw_g := ms_t2 (List.mem_of_getElem? (i := 208) rfl) rfl
theorem kw_2_209 : (Cond.code ⟨"CensusWalk", "streetCount", "()I"⟩ prog_1_method_6_code 1 (some .int)) ∈ lw_g := ms_t2 (List.mem_of_getElem? (i := 209) rfl) rfl
theorem kw_2_210 : (Cond.methodLink "CensusWalkLaw" 121 ⟨"CensusWalk", "houseCount", "()I"⟩) ∈ lw_g := ms_t2 (List.mem_of_getElem? (i := 210) rfl) rfl
theorem kw_2_211 : (Cond.instanceMethod ⟨"CensusWalk", "houseCount", "()I"⟩) ∈ lw_g := ms_t2 (List.mem_of_getElem? (i := 211) rfl) rfl
theorem kw_2_212 : (Cond.selects "CensusWalk" ⟨"CensusWalk", "houseCount", "()I"⟩ ⟨"CensusWalk", "houseCount", "()I"⟩) ∈ lw_g := ms_t2 (List.mem_of_getElem? (i := 212) rfl) rfl
theorem kw_2_213 : (Cond.code ⟨"CensusWalk", "houseCount", "()I"⟩ prog_1_method_7_code 1 (some .int)) ∈ lw_g := ms_t2 (List.mem_of_getElem? (i := 213) rfl) rfl
theorem kw_2_214 : (Cond.methodLink "CensusWalkLaw" 125 ⟨"CensusWalk", "walkerCount", "()I"⟩) ∈ lw_g := ms_t2 (List.mem_of_getElem? (i := 214) rfl) rfl
theorem kw_2_215 : (Cond.instanceMethod ⟨"CensusWalk", "walkerCount", "()I"⟩) ∈ lw_g := ms_t2 (List.mem_of_getElem? (i := 215) rfl) rfl
theorem kw_2_216 : (Cond.selects "CensusWalk" ⟨"CensusWalk", "walkerCount", "()I"⟩ ⟨"CensusWalk", "walkerCount", "()I"⟩) ∈ lw_g := ms_t2 (List.mem_of_getElem? (i := 216) rfl) rfl
theorem kw_2_217 : (Cond.code ⟨"CensusWalk", "walkerCount", "()I"⟩ prog_1_method_8_code 1 (some .int)) ∈ lw_g := ms_t2 (List.mem_of_getElem? (i := 217) rfl) rfl
theorem kw_2_218 : (Cond.methodLink "CensusWalkLaw" 166 ⟨"CensusWalk", "finishAll", "()I"⟩) ∈ lw_g := ms_t2 (List.mem_of_getElem? (i := 218) rfl) rfl
theorem kw_2_219 : (Cond.instanceMethod ⟨"CensusWalk", "finishAll", "()I"⟩) ∈ lw_g := ms_t2 (List.mem_of_getElem? (i := 219) rfl) rfl
theorem kw_2_220 : (Cond.selects "CensusWalk" ⟨"CensusWalk", "finishAll", "()I"⟩ ⟨"CensusWalk", "finishAll", "()I"⟩) ∈ lw_g := ms_t2 (List.mem_of_getElem? (i := 220) rfl) rfl
theorem kw_2_221 : (Cond.code ⟨"CensusWalk", "finishAll", "()I"⟩ prog_1_method_21_code 3 (some .int)) ∈ lw_g := ms_t2 (List.mem_of_getElem? (i := 221) rfl) rfl
theorem kw_2_222 : (Cond.methodLink "CensusWalk" 179 ⟨"CensusWalk", "refreshSimulation", "()V"⟩) ∈ lw_g := ms_t2 (List.mem_of_getElem? (i := 222) rfl) rfl
theorem kw_2_224 : (Cond.instanceMethod ⟨"CensusWalk", "refreshSimulation", "()V"⟩) ∈ lw_g := ms_t2 (List.mem_of_getElem? (i := 224) rfl) rfl
theorem kw_2_225 : (Cond.code ⟨"CensusWalk", "refreshSimulation", "()V"⟩ prog_1_method_40_code 1 none) ∈ lw_g := ms_t2 (List.mem_of_getElem? (i := 225) rfl) rfl
theorem kw_2_226 : (Cond.methodLink "CensusWalk" 125 ⟨"CensusWalk", "refreshRoutes", "()V"⟩) ∈ lw_g := ms_t2 (List.mem_of_getElem? (i := 226) rfl) rfl
theorem kw_2_228 : (Cond.instanceMethod ⟨"CensusWalk", "refreshRoutes", "()V"⟩) ∈ lw_g := ms_t2 (List.mem_of_getElem? (i := 228) rfl) rfl
theorem kw_2_229 : (Cond.code ⟨"CensusWalk", "refreshRoutes", "()V"⟩ prog_1_method_39_code 1 none) ∈ lw_g := ms_t2 (List.mem_of_getElem? (i := 229) rfl) rfl
theorem kw_2_230 : (Cond.methodLink "CensusWalk" 265 ⟨"CensusWalk$Routes", "measure", "(LCensusWalk$Town;)V"⟩) ∈ lw_g := ms_t2 (List.mem_of_getElem? (i := 230) rfl) rfl
theorem kw_2_231 : (Cond.instanceMethod ⟨"CensusWalk$Routes", "measure", "(LCensusWalk$Town;)V"⟩) ∈ lw_g := ms_t2 (List.mem_of_getElem? (i := 231) rfl) rfl
theorem kw_2_232 : (Cond.selects "CensusWalk$Routes" ⟨"CensusWalk$Routes", "measure", "(LCensusWalk$Town;)V"⟩ ⟨"CensusWalk$Routes", "measure", "(LCensusWalk$Town;)V"⟩) ∈ lw_g := ms_t2 (List.mem_of_getElem? (i := 232) rfl) rfl
theorem kw_2_233 : (Cond.code ⟨"CensusWalk$Routes", "measure", "(LCensusWalk$Town;)V"⟩ prog_3_method_2_code 5 none) ∈ lw_g := ms_t2 (List.mem_of_getElem? (i := 233) rfl) rfl
theorem kw_2_234 : (Cond.constant "CensusWalk$Routes" 15 (1000000 : Int32)) ∈ lw_g := ms_t2 (List.mem_of_getElem? (i := 234) rfl) rfl
theorem kw_2_235 : (Cond.methodLink "CensusWalk$Routes" 16 ⟨"java/util/Arrays", "fill", "([II)V"⟩) ∈ lw_g := ms_t2 (List.mem_of_getElem? (i := 235) rfl) rfl
theorem kw_2_236 : (Cond.static ⟨"java/util/Arrays", "fill", "([II)V"⟩) ∈ lw_g := ms_t2 (List.mem_of_getElem? (i := 236) rfl) rfl
theorem kw_2_237 : (Cond.code ⟨"java/util/Arrays", "fill", "([II)V"⟩ prog_26_method_103_code 4 none) ∈ lw_g := ms_t2 (List.mem_of_getElem? (i := 237) rfl) rfl
theorem kw_2_238 : (Cond.methodLink "CensusWalk$Routes" 22 ⟨"CensusWalk$Routes", "shorten", "(III)V"⟩) ∈ lw_g := ms_t2 (List.mem_of_getElem? (i := 238) rfl) rfl
theorem kw_3_0 : (Cond.instanceMethod ⟨"CensusWalk$Routes", "shorten", "(III)V"⟩) ∈ lw_g := ms_t3 (List.mem_of_getElem? (i := 0) rfl) rfl
theorem kw_3_1 : (Cond.code ⟨"CensusWalk$Routes", "shorten", "(III)V"⟩ prog_3_method_7_code 4 none) ∈ lw_g := ms_t3 (List.mem_of_getElem? (i := 1) rfl) rfl
theorem kw_3_2 : (Cond.methodLink "CensusWalk$Routes" 97 ⟨"CensusWalk$Routes", "isCrossing", "(I)Z"⟩) ∈ lw_g := ms_t3 (List.mem_of_getElem? (i := 2) rfl) rfl
theorem kw_3_3 : (Cond.static ⟨"CensusWalk$Routes", "isCrossing", "(I)Z"⟩) ∈ lw_g := ms_t3 (List.mem_of_getElem? (i := 3) rfl) rfl
theorem kw_3_4 : (Cond.code ⟨"CensusWalk$Routes", "isCrossing", "(I)Z"⟩ prog_3_method_9_code 1 (some .boolean)) ∈ lw_g := ms_t3 (List.mem_of_getElem? (i := 4) rfl) rfl
theorem kw_3_5 : (Cond.methodLink "CensusWalk$Routes" 54 ⟨"CensusWalk$Routes", "shortenAllFrom", "(III)V"⟩) ∈ lw_g := ms_t3 (List.mem_of_getElem? (i := 5) rfl) rfl
theorem kw_3_7 : (Cond.instanceMethod ⟨"CensusWalk$Routes", "shortenAllFrom", "(III)V"⟩) ∈ lw_g := ms_t3 (List.mem_of_getElem? (i := 7) rfl) rfl
theorem kw_3_8 : (Cond.code ⟨"CensusWalk$Routes", "shortenAllFrom", "(III)V"⟩ prog_3_method_6_code 6 none) ∈ lw_g := ms_t3 (List.mem_of_getElem? (i := 8) rfl) rfl
theorem kw_3_9 : (Cond.methodLink "CensusWalk$Routes" 94 ⟨"CensusWalk$Routes", "way", "(II)I"⟩) ∈ lw_g := ms_t3 (List.mem_of_getElem? (i := 9) rfl) rfl
theorem kw_3_11 : (Cond.instanceMethod ⟨"CensusWalk$Routes", "way", "(II)I"⟩) ∈ lw_g := ms_t3 (List.mem_of_getElem? (i := 11) rfl) rfl
theorem kw_3_12 : (Cond.code ⟨"CensusWalk$Routes", "way", "(II)I"⟩ prog_3_method_8_code 3 (some .int)) ∈ lw_g := ms_t3 (List.mem_of_getElem? (i := 12) rfl) rfl
theorem kw_3_13 : (Cond.methodLink "CensusWalk" 268 ⟨"CensusWalk$Simulation", "run", "(LCensusWalk$Town;LCensusWalk$Routes;)V"⟩) ∈ lw_g := ms_t3 (List.mem_of_getElem? (i := 13) rfl) rfl
theorem kw_3_14 : (Cond.instanceMethod ⟨"CensusWalk$Simulation", "run", "(LCensusWalk$Town;LCensusWalk$Routes;)V"⟩) ∈ lw_g := ms_t3 (List.mem_of_getElem? (i := 14) rfl) rfl
theorem kw_3_15 : (Cond.selects "CensusWalk$Simulation" ⟨"CensusWalk$Simulation", "run", "(LCensusWalk$Town;LCensusWalk$Routes;)V"⟩ ⟨"CensusWalk$Simulation", "run", "(LCensusWalk$Town;LCensusWalk$Routes;)V"⟩) ∈ lw_g := ms_t3 (List.mem_of_getElem? (i := 15) rfl) rfl
theorem kw_3_16 : (Cond.code ⟨"CensusWalk$Simulation", "run", "(LCensusWalk$Town;LCensusWalk$Routes;)V"⟩ prog_6_method_2_code 5 none) ∈ lw_g := ms_t3 (List.mem_of_getElem? (i := 16) rfl) rfl
theorem kw_3_17 : (Cond.methodLink "CensusWalk$Simulation" 40 ⟨"java/util/Arrays", "fill", "([II)V"⟩) ∈ lw_g := ms_t3 (List.mem_of_getElem? (i := 17) rfl) rfl
theorem kw_3_18 : (Cond.methodLink "CensusWalk$Simulation" 60 ⟨"CensusWalk$Simulation", "lookAhead", "(LCensusWalk$Town;LCensusWalk$Routes;I)V"⟩) ∈ lw_g := ms_t3 (List.mem_of_getElem? (i := 18) rfl) rfl
theorem kw_3_20 : (Cond.instanceMethod ⟨"CensusWalk$Simulation", "lookAhead", "(LCensusWalk$Town;LCensusWalk$Routes;I)V"⟩) ∈ lw_g := ms_t3 (List.mem_of_getElem? (i := 20) rfl) rfl
theorem kw_3_21 : (Cond.code ⟨"CensusWalk$Simulation", "lookAhead", "(LCensusWalk$Town;LCensusWalk$Routes;I)V"⟩ prog_6_method_3_code 5 none) ∈ lw_g := ms_t3 (List.mem_of_getElem? (i := 21) rfl) rfl
theorem kw_3_22 : (Cond.methodLink "CensusWalk$Simulation" 72 ⟨"CensusWalk$Walkers", "plannedHouse", "(II)I"⟩) ∈ lw_g := ms_t3 (List.mem_of_getElem? (i := 22) rfl) rfl
theorem kw_3_23 : (Cond.instanceMethod ⟨"CensusWalk$Walkers", "plannedHouse", "(II)I"⟩) ∈ lw_g := ms_t3 (List.mem_of_getElem? (i := 23) rfl) rfl
theorem kw_3_24 : (Cond.selects "CensusWalk$Walkers" ⟨"CensusWalk$Walkers", "plannedHouse", "(II)I"⟩ ⟨"CensusWalk$Walkers", "plannedHouse", "(II)I"⟩) ∈ lw_g := ms_t3 (List.mem_of_getElem? (i := 24) rfl) rfl
theorem kw_3_25 : (Cond.code ⟨"CensusWalk$Walkers", "plannedHouse", "(II)I"⟩ prog_11_method_4_code 3 (some .int)) ∈ lw_g := ms_t3 (List.mem_of_getElem? (i := 25) rfl) rfl
theorem kw_3_26 : (Cond.methodLink "CensusWalk$Walkers" 28 ⟨"CensusWalk$Walkers", "has", "(I)Z"⟩) ∈ lw_g := ms_t3 (List.mem_of_getElem? (i := 26) rfl) rfl
theorem kw_3_27 : (Cond.instanceMethod ⟨"CensusWalk$Walkers", "has", "(I)Z"⟩) ∈ lw_g := ms_t3 (List.mem_of_getElem? (i := 27) rfl) rfl
theorem kw_3_28 : (Cond.selects "CensusWalk$Walkers" ⟨"CensusWalk$Walkers", "has", "(I)Z"⟩ ⟨"CensusWalk$Walkers", "has", "(I)Z"⟩) ∈ lw_g := ms_t3 (List.mem_of_getElem? (i := 28) rfl) rfl
theorem kw_3_29 : (Cond.code ⟨"CensusWalk$Walkers", "has", "(I)Z"⟩ prog_11_method_2_code 2 (some .boolean)) ∈ lw_g := ms_t3 (List.mem_of_getElem? (i := 29) rfl) rfl
theorem kw_3_30 : (Cond.methodLink "CensusWalk$Simulation" 79 ⟨"CensusWalk$Routes", "fromCrossing", "(LCensusWalk$Town;II)I"⟩) ∈ lw_g := ms_t3 (List.mem_of_getElem? (i := 30) rfl) rfl
theorem kw_3_31 : (Cond.instanceMethod ⟨"CensusWalk$Routes", "fromCrossing", "(LCensusWalk$Town;II)I"⟩) ∈ lw_g := ms_t3 (List.mem_of_getElem? (i := 31) rfl) rfl
theorem kw_3_32 : (Cond.selects "CensusWalk$Routes" ⟨"CensusWalk$Routes", "fromCrossing", "(LCensusWalk$Town;II)I"⟩ ⟨"CensusWalk$Routes", "fromCrossing", "(LCensusWalk$Town;II)I"⟩) ∈ lw_g := ms_t3 (List.mem_of_getElem? (i := 32) rfl) rfl
theorem kw_3_33 : (Cond.code ⟨"CensusWalk$Routes", "fromCrossing", "(LCensusWalk$Town;II)I"⟩ prog_3_method_3_code 5 (some .int)) ∈ lw_g := ms_t3 (List.mem_of_getElem? (i := 33) rfl) rfl
theorem kw_3_34 : (Cond.methodLink "CensusWalk$Routes" 57 ⟨"CensusWalk$Routes", "reach", "(LCensusWalk$Town;II)I"⟩) ∈ lw_g := ms_t3 (List.mem_of_getElem? (i := 34) rfl) rfl
theorem kw_3_36 : (Cond.instanceMethod ⟨"CensusWalk$Routes", "reach", "(LCensusWalk$Town;II)I"⟩) ∈ lw_g := ms_t3 (List.mem_of_getElem? (i := 36) rfl) rfl
theorem kw_3_37 : (Cond.code ⟨"CensusWalk$Routes", "reach", "(LCensusWalk$Town;II)I"⟩ prog_3_method_5_code 8 (some .int)) ∈ lw_g := ms_t3 (List.mem_of_getElem? (i := 37) rfl) rfl
theorem kw_3_38 : (Cond.methodLink "CensusWalk$Routes" 65 ⟨"CensusWalk$Houses", "has", "(I)Z"⟩) ∈ lw_g := ms_t3 (List.mem_of_getElem? (i := 38) rfl) rfl
theorem kw_3_39 : (Cond.instanceMethod ⟨"CensusWalk$Houses", "has", "(I)Z"⟩) ∈ lw_g := ms_t3 (List.mem_of_getElem? (i := 39) rfl) rfl
theorem kw_3_40 : (Cond.selects "CensusWalk$Houses" ⟨"CensusWalk$Houses", "has", "(I)Z"⟩ ⟨"CensusWalk$Houses", "has", "(I)Z"⟩) ∈ lw_g := ms_t3 (List.mem_of_getElem? (i := 40) rfl) rfl
theorem kw_3_41 : (Cond.code ⟨"CensusWalk$Houses", "has", "(I)Z"⟩ prog_2_method_2_code 2 (some .boolean)) ∈ lw_g := ms_t3 (List.mem_of_getElem? (i := 41) rfl) rfl
theorem kw_3_42 : (Cond.methodLink "CensusWalk$Routes" 74 ⟨"CensusWalk$Streets", "has", "(I)Z"⟩) ∈ lw_g := ms_t3 (List.mem_of_getElem? (i := 42) rfl) rfl
theorem kw_3_43 : (Cond.instanceMethod ⟨"CensusWalk$Streets", "has", "(I)Z"⟩) ∈ lw_g := ms_t3 (List.mem_of_getElem? (i := 43) rfl) rfl
theorem kw_3_44 : (Cond.selects "CensusWalk$Streets" ⟨"CensusWalk$Streets", "has", "(I)Z"⟩ ⟨"CensusWalk$Streets", "has", "(I)Z"⟩) ∈ lw_g := ms_t3 (List.mem_of_getElem? (i := 44) rfl) rfl
theorem kw_3_45 : (Cond.code ⟨"CensusWalk$Streets", "has", "(I)Z"⟩ prog_7_method_2_code 2 (some .boolean)) ∈ lw_g := ms_t3 (List.mem_of_getElem? (i := 45) rfl) rfl
theorem kw_3_46 : (Cond.methodLink "CensusWalk$Routes" 78 ⟨"java/lang/Math", "min", "(II)I"⟩) ∈ lw_g := ms_t3 (List.mem_of_getElem? (i := 46) rfl) rfl
theorem kw_3_47 : (Cond.static ⟨"java/lang/Math", "min", "(II)I"⟩) ∈ lw_g := ms_t3 (List.mem_of_getElem? (i := 47) rfl) rfl
theorem kw_3_48 : (Cond.code ⟨"java/lang/Math", "min", "(II)I"⟩ prog_19_method_69_code 2 (some .int)) ∈ lw_g := ms_t3 (List.mem_of_getElem? (i := 48) rfl) rfl
theorem kw_3_49 : (Cond.methodLink "CensusWalk$Simulation" 85 ⟨"CensusWalk$Routes", "betweenHouses", "(LCensusWalk$Town;II)I"⟩) ∈ lw_g := ms_t3 (List.mem_of_getElem? (i := 49) rfl) rfl
theorem kw_3_50 : (Cond.instanceMethod ⟨"CensusWalk$Routes", "betweenHouses", "(LCensusWalk$Town;II)I"⟩) ∈ lw_g := ms_t3 (List.mem_of_getElem? (i := 50) rfl) rfl
theorem kw_3_51 : (Cond.selects "CensusWalk$Routes" ⟨"CensusWalk$Routes", "betweenHouses", "(LCensusWalk$Town;II)I"⟩ ⟨"CensusWalk$Routes", "betweenHouses", "(LCensusWalk$Town;II)I"⟩) ∈ lw_g := ms_t3 (List.mem_of_getElem? (i := 51) rfl) rfl
theorem kw_3_52 : (Cond.code ⟨"CensusWalk$Routes", "betweenHouses", "(LCensusWalk$Town;II)I"⟩ prog_3_method_4_code 9 (some .int)) ∈ lw_g := ms_t3 (List.mem_of_getElem? (i := 52) rfl) rfl
theorem kw_3_53 : (Cond.methodLink "CensusWalk$Routes" 84 ⟨"java/lang/Math", "abs", "(I)I"⟩) ∈ lw_g := ms_t3 (List.mem_of_getElem? (i := 53) rfl) rfl
theorem kw_3_54 : (Cond.static ⟨"java/lang/Math", "abs", "(I)I"⟩) ∈ lw_g := ms_t3 (List.mem_of_getElem? (i := 54) rfl) rfl
theorem kw_3_55 : (Cond.code ⟨"java/lang/Math", "abs", "(I)I"⟩ prog_19_method_59_code 1 (some .int)) ∈ lw_g := ms_t3 (List.mem_of_getElem? (i := 55) rfl) rfl
theorem kw_3_56 : (Cond.methodLink "CensusWalk$Simulation" 64 ⟨"CensusWalk$Simulation", "firstToArrive", "(LCensusWalk$Walkers;)I"⟩) ∈ lw_g := ms_t3 (List.mem_of_getElem? (i := 56) rfl) rfl
theorem kw_3_58 : (Cond.instanceMethod ⟨"CensusWalk$Simulation", "firstToArrive", "(LCensusWalk$Walkers;)I"⟩) ∈ lw_g := ms_t3 (List.mem_of_getElem? (i := 58) rfl) rfl
theorem kw_3_59 : (Cond.code ⟨"CensusWalk$Simulation", "firstToArrive", "(LCensusWalk$Walkers;)I"⟩ prog_6_method_4_code 6 (some .int)) ∈ lw_g := ms_t3 (List.mem_of_getElem? (i := 59) rfl) rfl
theorem kw_3_60 : (Cond.methodLink "CensusWalk$Simulation" 91 ⟨"java/lang/Math", "max", "(II)I"⟩) ∈ lw_g := ms_t3 (List.mem_of_getElem? (i := 60) rfl) rfl
theorem kw_3_61 : (Cond.static ⟨"java/lang/Math", "max", "(II)I"⟩) ∈ lw_g := ms_t3 (List.mem_of_getElem? (i := 61) rfl) rfl
theorem kw_3_62 : (Cond.code ⟨"java/lang/Math", "max", "(II)I"⟩ prog_19_method_65_code 2 (some .int)) ∈ lw_g := ms_t3 (List.mem_of_getElem? (i := 62) rfl) rfl
theorem kw_3_63 : (Cond.methodLink "CensusWalk$Simulation" 68 ⟨"CensusWalk$Simulation", "treat", "(LCensusWalk$Town;I)V"⟩) ∈ lw_g := ms_t3 (List.mem_of_getElem? (i := 63) rfl) rfl
theorem kw_3_65 : (Cond.instanceMethod ⟨"CensusWalk$Simulation", "treat", "(LCensusWalk$Town;I)V"⟩) ∈ lw_g := ms_t3 (List.mem_of_getElem? (i := 65) rfl) rfl
theorem kw_3_66 : (Cond.code ⟨"CensusWalk$Simulation", "treat", "(LCensusWalk$Town;I)V"⟩ prog_6_method_5_code 6 none) ∈ lw_g := ms_t3 (List.mem_of_getElem? (i := 66) rfl) rfl
theorem kw_3_67 : (Cond.methodLink "CensusWalk$Simulation" 100 ⟨"CensusWalk$Houses", "has", "(I)Z"⟩) ∈ lw_g := ms_t3 (List.mem_of_getElem? (i := 67) rfl) rfl
theorem kw_3_68 : (Cond.methodLink "CensusWalk$Simulation" 106 ⟨"CensusWalk$Simulation", "callOn", "(LCensusWalk$Town;II)I"⟩) ∈ lw_g := ms_t3 (List.mem_of_getElem? (i := 68) rfl) rfl
theorem kw_3_70 : (Cond.instanceMethod ⟨"CensusWalk$Simulation", "callOn", "(LCensusWalk$Town;II)I"⟩) ∈ lw_g := ms_t3 (List.mem_of_getElem? (i := 70) rfl) rfl
theorem kw_3_71 : (Cond.code ⟨"CensusWalk$Simulation", "callOn", "(LCensusWalk$Town;II)I"⟩ prog_6_method_6_code 5 (some .int)) ∈ lw_g := ms_t3 (List.mem_of_getElem? (i := 71) rfl) rfl
theorem kw_3_72 : (Cond.methodLinkNest "CensusWalk$Simulation" 109 ⟨"CensusWalk", "contains", "(II)Z"⟩ "CensusWalk") ∈ lw_tbl := ms_q3 (List.mem_of_getElem? (i := 72) rfl)
theorem kw_3_73 : (Cond.static ⟨"CensusWalk", "contains", "(II)Z"⟩) ∈ lw_g := ms_t3 (List.mem_of_getElem? (i := 73) rfl) rfl
theorem kw_3_74 : (Cond.code ⟨"CensusWalk", "contains", "(II)Z"⟩ prog_1_method_46_code 2 (some .boolean)) ∈ lw_g := ms_t3 (List.mem_of_getElem? (i := 74) rfl) rfl
theorem kw_3_75 : (Cond.methodLink "CensusWalk$Simulation" 116 ⟨"CensusWalk$Houses", "homeAt", "(II)Z"⟩) ∈ lw_g := ms_t3 (List.mem_of_getElem? (i := 75) rfl) rfl
theorem kw_3_76 : (Cond.instanceMethod ⟨"CensusWalk$Houses", "homeAt", "(II)Z"⟩) ∈ lw_g := ms_t3 (List.mem_of_getElem? (i := 76) rfl) rfl
theorem kw_3_77 : (Cond.selects "CensusWalk$Houses" ⟨"CensusWalk$Houses", "homeAt", "(II)Z"⟩ ⟨"CensusWalk$Houses", "homeAt", "(II)Z"⟩) ∈ lw_g := ms_t3 (List.mem_of_getElem? (i := 77) rfl) rfl
theorem kw_3_78 : (Cond.code ⟨"CensusWalk$Houses", "homeAt", "(II)Z"⟩ prog_2_method_3_code 3 (some .boolean)) ∈ lw_g := ms_t3 (List.mem_of_getElem? (i := 78) rfl) rfl
theorem kw_3_79 : (Cond.methodLink "CensusWalk$Houses" 41 ⟨"CensusWalk$Houses", "has", "(I)Z"⟩) ∈ lw_g := ms_t3 (List.mem_of_getElem? (i := 79) rfl) rfl
theorem kw_3_80 : (Cond.methodLink "CensusWalk$Simulation" 119 ⟨"CensusWalk$Houses", "visitTime", "(II)I"⟩) ∈ lw_g := ms_t3 (List.mem_of_getElem? (i := 80) rfl) rfl
theorem kw_3_81 : (Cond.instanceMethod ⟨"CensusWalk$Houses", "visitTime", "(II)I"⟩) ∈ lw_g := ms_t3 (List.mem_of_getElem? (i := 81) rfl) rfl
theorem kw_3_82 : (Cond.selects "CensusWalk$Houses" ⟨"CensusWalk$Houses", "visitTime", "(II)I"⟩ ⟨"CensusWalk$Houses", "visitTime", "(II)I"⟩) ∈ lw_g := ms_t3 (List.mem_of_getElem? (i := 82) rfl) rfl
theorem kw_3_83 : (Cond.code ⟨"CensusWalk$Houses", "visitTime", "(II)I"⟩ prog_2_method_4_code 3 (some .int)) ∈ lw_g := ms_t3 (List.mem_of_getElem? (i := 83) rfl) rfl
theorem kw_3_84 : (Cond.methodLink "CensusWalk" 191 ⟨"java/lang/Math", "max", "(II)I"⟩) ∈ lw_g := ms_t3 (List.mem_of_getElem? (i := 84) rfl) rfl
theorem kw_3_85 : (Cond.methodLink "CensusWalkLaw" 170 ⟨"CensusWalk", "counted", "()I"⟩) ∈ lw_g := ms_t3 (List.mem_of_getElem? (i := 85) rfl) rfl
theorem kw_3_86 : (Cond.instanceMethod ⟨"CensusWalk", "counted", "()I"⟩) ∈ lw_g := ms_t3 (List.mem_of_getElem? (i := 86) rfl) rfl
theorem kw_3_87 : (Cond.selects "CensusWalk" ⟨"CensusWalk", "counted", "()I"⟩ ⟨"CensusWalk", "counted", "()I"⟩) ∈ lw_g := ms_t3 (List.mem_of_getElem? (i := 87) rfl) rfl
theorem kw_3_88 : (Cond.code ⟨"CensusWalk", "counted", "()I"⟩ prog_1_method_22_code 1 (some .int)) ∈ lw_g := ms_t3 (List.mem_of_getElem? (i := 88) rfl) rfl
theorem kw_3_89 : (Cond.methodLink "CensusWalkLaw" 174 ⟨"CensusWalk", "persons", "()I"⟩) ∈ lw_g := ms_t3 (List.mem_of_getElem? (i := 89) rfl) rfl
theorem kw_3_90 : (Cond.instanceMethod ⟨"CensusWalk", "persons", "()I"⟩) ∈ lw_g := ms_t3 (List.mem_of_getElem? (i := 90) rfl) rfl
theorem kw_3_91 : (Cond.selects "CensusWalk" ⟨"CensusWalk", "persons", "()I"⟩ ⟨"CensusWalk", "persons", "()I"⟩) ∈ lw_g := ms_t3 (List.mem_of_getElem? (i := 91) rfl) rfl
theorem kw_3_92 : (Cond.code ⟨"CensusWalk", "persons", "()I"⟩ prog_1_method_23_code 3 (some .int)) ∈ lw_g := ms_t3 (List.mem_of_getElem? (i := 92) rfl) rfl
theorem kw_3_93 : (Cond.methodLink "CensusWalk" 199 ⟨"CensusWalk", "contains", "(II)Z"⟩) ∈ lw_g := ms_t3 (List.mem_of_getElem? (i := 93) rfl) rfl
theorem kw_3_94 : (Cond.methodLink "CensusWalkLaw" 210 ⟨"CensusWalk", "undo", "()I"⟩) ∈ lw_g := ms_t3 (List.mem_of_getElem? (i := 94) rfl) rfl
theorem kw_3_95 : (Cond.instanceMethod ⟨"CensusWalk", "undo", "()I"⟩) ∈ lw_g := ms_t3 (List.mem_of_getElem? (i := 95) rfl) rfl
theorem kw_3_96 : (Cond.selects "CensusWalk" ⟨"CensusWalk", "undo", "()I"⟩ ⟨"CensusWalk", "undo", "()I"⟩) ∈ lw_g := ms_t3 (List.mem_of_getElem? (i := 96) rfl) rfl
theorem kw_3_97 : (Cond.code ⟨"CensusWalk", "undo", "()I"⟩ prog_1_method_34_code 1 (some .int)) ∈ lw_g := ms_t3 (List.mem_of_getElem? (i := 97) rfl) rfl
theorem kw_3_98 : (Cond.methodLink "CensusWalk" 92 ⟨"CensusWalk$Town", "copyFrom", "(LCensusWalk$Town;)V"⟩) ∈ lw_g := ms_t3 (List.mem_of_getElem? (i := 98) rfl) rfl
theorem kw_3_99 : (Cond.instanceMethod ⟨"CensusWalk$Town", "copyFrom", "(LCensusWalk$Town;)V"⟩) ∈ lw_g := ms_t3 (List.mem_of_getElem? (i := 99) rfl) rfl
theorem kw_3_100 : (Cond.selects "CensusWalk$Town" ⟨"CensusWalk$Town", "copyFrom", "(LCensusWalk$Town;)V"⟩ ⟨"CensusWalk$Town", "copyFrom", "(LCensusWalk$Town;)V"⟩) ∈ lw_g := ms_t3 (List.mem_of_getElem? (i := 100) rfl) rfl
theorem kw_3_101 : (Cond.code ⟨"CensusWalk$Town", "copyFrom", "(LCensusWalk$Town;)V"⟩ prog_9_method_3_code 2 none) ∈ lw_g := ms_t3 (List.mem_of_getElem? (i := 101) rfl) rfl
theorem kw_3_102 : (Cond.methodLink "CensusWalk$Town" 45 ⟨"CensusWalk$Streets", "copyFrom", "(LCensusWalk$Streets;)V"⟩) ∈ lw_g := ms_t3 (List.mem_of_getElem? (i := 102) rfl) rfl
theorem kw_3_103 : (Cond.instanceMethod ⟨"CensusWalk$Streets", "copyFrom", "(LCensusWalk$Streets;)V"⟩) ∈ lw_g := ms_t3 (List.mem_of_getElem? (i := 103) rfl) rfl
theorem kw_3_104 : (Cond.selects "CensusWalk$Streets" ⟨"CensusWalk$Streets", "copyFrom", "(LCensusWalk$Streets;)V"⟩ ⟨"CensusWalk$Streets", "copyFrom", "(LCensusWalk$Streets;)V"⟩) ∈ lw_g := ms_t3 (List.mem_of_getElem? (i := 104) rfl) rfl
theorem kw_3_105 : (Cond.code ⟨"CensusWalk$Streets", "copyFrom", "(LCensusWalk$Streets;)V"⟩ prog_7_method_4_code 3 none) ∈ lw_g := ms_t3 (List.mem_of_getElem? (i := 105) rfl) rfl
theorem kw_3_106 : (Cond.methodLink "CensusWalk$Streets" 29 ⟨"java/lang/System", "arraycopy", "(Ljava/lang/Object;ILjava/lang/Object;II)V"⟩) ∈ lw_g := ms_t3 (List.mem_of_getElem? (i := 106) rfl) rfl
theorem kw_3_107 : (Cond.static ⟨"java/lang/System", "arraycopy", "(Ljava/lang/Object;ILjava/lang/Object;II)V"⟩) ∈ lw_g := ms_t3 (List.mem_of_getElem? (i := 107) rfl) rfl
theorem kw_3_108 : (Cond.native ⟨"java/lang/System", "arraycopy", "(Ljava/lang/Object;ILjava/lang/Object;II)V"⟩) ∈ lw_g := ms_t3 (List.mem_of_getElem? (i := 108) rfl) rfl
theorem kw_3_109 : (Cond.methodLink "CensusWalk$Town" 49 ⟨"CensusWalk$Houses", "copyFrom", "(LCensusWalk$Houses;)V"⟩) ∈ lw_g := ms_t3 (List.mem_of_getElem? (i := 109) rfl) rfl
theorem kw_3_110 : (Cond.instanceMethod ⟨"CensusWalk$Houses", "copyFrom", "(LCensusWalk$Houses;)V"⟩) ∈ lw_g := ms_t3 (List.mem_of_getElem? (i := 110) rfl) rfl
theorem kw_3_111 : (Cond.selects "CensusWalk$Houses" ⟨"CensusWalk$Houses", "copyFrom", "(LCensusWalk$Houses;)V"⟩ ⟨"CensusWalk$Houses", "copyFrom", "(LCensusWalk$Houses;)V"⟩) ∈ lw_g := ms_t3 (List.mem_of_getElem? (i := 111) rfl) rfl
theorem kw_3_112 : (Cond.code ⟨"CensusWalk$Houses", "copyFrom", "(LCensusWalk$Houses;)V"⟩ prog_2_method_6_code 3 none) ∈ lw_g := ms_t3 (List.mem_of_getElem? (i := 112) rfl) rfl
theorem kw_3_113 : (Cond.methodLink "CensusWalk$Houses" 51 ⟨"java/lang/System", "arraycopy", "(Ljava/lang/Object;ILjava/lang/Object;II)V"⟩) ∈ lw_g := ms_t3 (List.mem_of_getElem? (i := 113) rfl) rfl
theorem kw_3_114 : (Cond.methodLink "CensusWalk$Town" 52 ⟨"CensusWalk$Walkers", "copyFrom", "(LCensusWalk$Walkers;)V"⟩) ∈ lw_g := ms_t3 (List.mem_of_getElem? (i := 114) rfl) rfl
theorem kw_3_115 : (Cond.instanceMethod ⟨"CensusWalk$Walkers", "copyFrom", "(LCensusWalk$Walkers;)V"⟩) ∈ lw_g := ms_t3 (List.mem_of_getElem? (i := 115) rfl) rfl
theorem kw_3_116 : (Cond.selects "CensusWalk$Walkers" ⟨"CensusWalk$Walkers", "copyFrom", "(LCensusWalk$Walkers;)V"⟩ ⟨"CensusWalk$Walkers", "copyFrom", "(LCensusWalk$Walkers;)V"⟩) ∈ lw_g := ms_t3 (List.mem_of_getElem? (i := 116) rfl) rfl
theorem kw_3_117 : (Cond.code ⟨"CensusWalk$Walkers", "copyFrom", "(LCensusWalk$Walkers;)V"⟩ prog_11_method_5_code 2 none) ∈ lw_g := ms_t3 (List.mem_of_getElem? (i := 117) rfl) rfl
theorem kw_3_118 : (Cond.methodLink "CensusWalk$Walkers" 32 ⟨"java/lang/System", "arraycopy", "(Ljava/lang/Object;ILjava/lang/Object;II)V"⟩) ∈ lw_g := ms_t3 (List.mem_of_getElem? (i := 118) rfl) rfl
theorem kw_3_119 : (Cond.methodLink "CensusWalk" 260 ⟨"CensusWalk", "forgetAnswers", "()V"⟩) ∈ lw_g := ms_t3 (List.mem_of_getElem? (i := 119) rfl) rfl
theorem kw_3_121 : (Cond.instanceMethod ⟨"CensusWalk", "forgetAnswers", "()V"⟩) ∈ lw_g := ms_t3 (List.mem_of_getElem? (i := 121) rfl) rfl
theorem kw_3_122 : (Cond.code ⟨"CensusWalk", "forgetAnswers", "()V"⟩ prog_1_method_38_code 1 none) ∈ lw_g := ms_t3 (List.mem_of_getElem? (i := 122) rfl) rfl
theorem kw_3_123 : (Cond.methodLink "CensusWalkLaw" 214 ⟨"CensusWalk", "checksum", "()J"⟩) ∈ lw_g := ms_t3 (List.mem_of_getElem? (i := 123) rfl) rfl
theorem kw_3_124 : (Cond.instanceMethod ⟨"CensusWalk", "checksum", "()J"⟩) ∈ lw_g := ms_t3 (List.mem_of_getElem? (i := 124) rfl) rfl
theorem kw_3_125 : (Cond.selects "CensusWalk" ⟨"CensusWalk", "checksum", "()J"⟩ ⟨"CensusWalk", "checksum", "()J"⟩) ∈ lw_g := ms_t3 (List.mem_of_getElem? (i := 125) rfl) rfl
theorem kw_3_126 : (Cond.code ⟨"CensusWalk", "checksum", "()J"⟩ prog_1_method_35_code 6 (some .long)) ∈ lw_g := ms_t3 (List.mem_of_getElem? (i := 126) rfl) rfl
theorem kw_3_127 : (Cond.constantLong "CensusWalk" 263 (31 : Int64)) ∈ lw_g := ms_t3 (List.mem_of_getElem? (i := 127) rfl) rfl
theorem kw_3_128 : (Cond.methodLink "CensusWalk" 176 ⟨"CensusWalk$Walkers", "plannedHouse", "(II)I"⟩) ∈ lw_g := ms_t3 (List.mem_of_getElem? (i := 128) rfl) rfl
theorem kw_3_129 : (Cond.methodLink "CensusWalkLaw" 99 ⟨"CensusWalkLaw", "load", "(LCensusWalk;I[J)I"⟩) ∈ lw_g := ms_t3 (List.mem_of_getElem? (i := 129) rfl) rfl
theorem kw_3_130 : (Cond.static ⟨"CensusWalkLaw", "load", "(LCensusWalk;I[J)I"⟩) ∈ lw_g := ms_t3 (List.mem_of_getElem? (i := 130) rfl) rfl
theorem kw_3_131 : (Cond.codeWith ⟨"CensusWalkLaw", "load", "(LCensusWalk;I[J)I"⟩ method_3_code 4 (some .int) [(0, 9, 12, 13)]) ∈ lw_g := ms_t3 (List.mem_of_getElem? (i := 131) rfl) rfl
theorem kw_3_132 : (Cond.classLink "CensusWalkLaw" 13 "java/lang/IllegalArgumentException") ∈ lw_g := ms_t3 (List.mem_of_getElem? (i := 132) rfl) rfl
theorem kw_3_133 : (Cond.methodLink "CensusWalkLaw" 7 ⟨"CensusWalk", "load", "(I)I"⟩) ∈ lw_g := ms_t3 (List.mem_of_getElem? (i := 133) rfl) rfl
theorem kw_3_134 : (Cond.instanceMethod ⟨"CensusWalk", "load", "(I)I"⟩) ∈ lw_g := ms_t3 (List.mem_of_getElem? (i := 134) rfl) rfl
theorem kw_3_135 : (Cond.selects "CensusWalk" ⟨"CensusWalk", "load", "(I)I"⟩ ⟨"CensusWalk", "load", "(I)I"⟩) ∈ lw_g := ms_t3 (List.mem_of_getElem? (i := 135) rfl) rfl
theorem kw_3_136 : (Cond.code ⟨"CensusWalk", "load", "(I)I"⟩ prog_1_method_3_code 3 (some .int)) ∈ lw_g := ms_t3 (List.mem_of_getElem? (i := 136) rfl) rfl
theorem kw_3_137 : (Cond.classLink "CensusWalk" 76 "java/lang/IllegalArgumentException") ∈ lw_g := ms_t3 (List.mem_of_getElem? (i := 137) rfl) rfl
theorem kw_3_138 : (Cond.instantiable "java/lang/IllegalArgumentException" 6) ∈ lw_g := ms_t3 (List.mem_of_getElem? (i := 138) rfl) rfl
theorem kw_3_139 : (Cond.castable "java/lang/IllegalArgumentException" "java/lang/IllegalArgumentException") ∈ lw_tbl := ms_q3 (List.mem_of_getElem? (i := 139) rfl)
theorem kw_3_140 : (Cond.declares ⟨"java/lang/RuntimeException", "<init>", "()V"⟩) ∈ lw_tbl := ms_q3 (List.mem_of_getElem? (i := 140) rfl)
theorem kw_3_141 : (Cond.declares ⟨"java/lang/RuntimeException", "<init>", "(Ljava/lang/String;)V"⟩) ∈ lw_tbl := ms_q3 (List.mem_of_getElem? (i := 141) rfl)
theorem kw_3_142 : (Cond.declares ⟨"java/lang/Exception", "<init>", "()V"⟩) ∈ lw_tbl := ms_q3 (List.mem_of_getElem? (i := 142) rfl)
theorem kw_3_143 : (Cond.declares ⟨"java/lang/Exception", "<init>", "(Ljava/lang/String;)V"⟩) ∈ lw_tbl := ms_q3 (List.mem_of_getElem? (i := 143) rfl)
theorem kw_3_144 : (Cond.declares ⟨"java/lang/Throwable", "<init>", "()V"⟩) ∈ lw_tbl := ms_q3 (List.mem_of_getElem? (i := 144) rfl)
theorem kw_3_145 : (Cond.declares ⟨"java/lang/Throwable", "<init>", "(Ljava/lang/String;)V"⟩) ∈ lw_tbl := ms_q3 (List.mem_of_getElem? (i := 145) rfl)
theorem kw_3_146 : (Cond.selects "java/lang/IllegalArgumentException" ⟨"java/lang/Throwable", "fillInStackTrace", "(I)Ljava/lang/Throwable;"⟩ ⟨"java/lang/Throwable", "fillInStackTrace", "(I)Ljava/lang/Throwable;"⟩) ∈ lw_g := ms_t3 (List.mem_of_getElem? (i := 146) rfl) rfl
theorem kw_3_147 : (Cond.selects "java/lang/IllegalArgumentException" ⟨"java/lang/Throwable", "fillInStackTrace", "()Ljava/lang/Throwable;"⟩ ⟨"java/lang/Throwable", "fillInStackTrace", "()Ljava/lang/Throwable;"⟩) ∈ lw_g := ms_t3 (List.mem_of_getElem? (i := 147) rfl) rfl
theorem kw_3_148 : (Cond.lays "java/lang/IllegalArgumentException" "java/lang/Throwable" "cause" "Ljava/lang/Throwable;") ∈ lw_g := ms_t3 (List.mem_of_getElem? (i := 148) rfl) rfl
theorem kw_3_149 : (Cond.lays "java/lang/Throwable" "java/lang/Throwable" "cause" "Ljava/lang/Throwable;") ∈ lw_g := ms_t3 (List.mem_of_getElem? (i := 149) rfl) rfl
theorem kw_3_150 : (Cond.lays "java/lang/IllegalArgumentException" "java/lang/Throwable" "stackTrace" "[Ljava/lang/StackTraceElement;") ∈ lw_g := ms_t3 (List.mem_of_getElem? (i := 150) rfl) rfl
theorem kw_3_151 : (Cond.lays "java/lang/Throwable" "java/lang/Throwable" "stackTrace" "[Ljava/lang/StackTraceElement;") ∈ lw_g := ms_t3 (List.mem_of_getElem? (i := 151) rfl) rfl
theorem kw_3_152 : (Cond.lays "java/lang/IllegalArgumentException" "java/lang/Throwable" "suppressedExceptions" "Ljava/util/List;") ∈ lw_g := ms_t3 (List.mem_of_getElem? (i := 152) rfl) rfl
theorem kw_3_153 : (Cond.lays "java/lang/Throwable" "java/lang/Throwable" "suppressedExceptions" "Ljava/util/List;") ∈ lw_g := ms_t3 (List.mem_of_getElem? (i := 153) rfl) rfl
theorem kw_3_154 : (Cond.lays "java/lang/IllegalArgumentException" "java/lang/Throwable" "detailMessage" "Ljava/lang/String;") ∈ lw_g := ms_t3 (List.mem_of_getElem? (i := 154) rfl) rfl
theorem kw_3_155 : (Cond.lays "java/lang/Throwable" "java/lang/Throwable" "detailMessage" "Ljava/lang/String;") ∈ lw_g := ms_t3 (List.mem_of_getElem? (i := 155) rfl) rfl
theorem kw_3_156 : (Cond.lays "java/lang/IllegalArgumentException" "java/lang/Throwable" "backtrace" "Ljava/lang/Object;") ∈ lw_g := ms_t3 (List.mem_of_getElem? (i := 156) rfl) rfl
theorem kw_3_157 : (Cond.lays "java/lang/Throwable" "java/lang/Throwable" "backtrace" "Ljava/lang/Object;") ∈ lw_g := ms_t3 (List.mem_of_getElem? (i := 157) rfl) rfl
theorem kw_3_158 : (Cond.fieldLink "java/lang/Throwable" 198 "java/lang/Throwable" "backtrace" "Ljava/lang/Object;") ∈ lw_g := ms_t3 (List.mem_of_getElem? (i := 158) rfl) rfl
theorem kw_3_160 : (Cond.instanceMethod ⟨"java/lang/Throwable", "<init>", "()V"⟩) ∈ lw_g := ms_t3 (List.mem_of_getElem? (i := 160) rfl) rfl
theorem kw_3_161 : (Cond.code ⟨"java/lang/Throwable", "<init>", "()V"⟩ prog_25_method_1_code 1 none) ∈ lw_g := ms_t3 (List.mem_of_getElem? (i := 161) rfl) rfl
theorem kw_3_162 : (Cond.methodLink "java/lang/Throwable" 1 ⟨"java/lang/Object", "<init>", "()V"⟩) ∈ lw_g := ms_t3 (List.mem_of_getElem? (i := 162) rfl) rfl
theorem kw_3_163 : (Cond.fieldLink "java/lang/Throwable" 13 "java/lang/Throwable" "UNASSIGNED_STACK" "[Ljava/lang/StackTraceElement;") ∈ lw_g := ms_t3 (List.mem_of_getElem? (i := 163) rfl) rfl
theorem kw_3_164 : (Cond.laysStatic "java/lang/Throwable" "UNASSIGNED_STACK" "[Ljava/lang/StackTraceElement;") ∈ lw_tbl := ms_q3 (List.mem_of_getElem? (i := 164) rfl)
theorem kw_3_165 : (Cond.fieldLink "java/lang/Throwable" 20 "java/lang/Throwable" "SUPPRESSED_SENTINEL" "Ljava/util/List;") ∈ lw_g := ms_t3 (List.mem_of_getElem? (i := 165) rfl) rfl
theorem kw_3_166 : (Cond.laysStatic "java/lang/Throwable" "SUPPRESSED_SENTINEL" "Ljava/util/List;") ∈ lw_tbl := ms_q3 (List.mem_of_getElem? (i := 166) rfl)
theorem kw_3_167 : (Cond.methodLink "java/lang/Throwable" 27 ⟨"java/lang/Throwable", "fillInStackTrace", "()Ljava/lang/Throwable;"⟩) ∈ lw_g := ms_t3 (List.mem_of_getElem? (i := 167) rfl) rfl
theorem kw_3_168 : (Cond.instanceMethod ⟨"java/lang/Throwable", "fillInStackTrace", "()Ljava/lang/Throwable;"⟩) ∈ lw_g := ms_t3 (List.mem_of_getElem? (i := 168) rfl) rfl
theorem kw_3_169 : (Cond.sameMethod "java/lang/Throwable" "java/lang/Throwable" "fillInStackTrace" "()Ljava/lang/Throwable;") ∈ lw_tbl := ms_q3 (List.mem_of_getElem? (i := 169) rfl)
theorem kw_3_170 : (Cond.selects "java/lang/IllegalStateException" ⟨"java/lang/Throwable", "fillInStackTrace", "()Ljava/lang/Throwable;"⟩ ⟨"java/lang/Throwable", "fillInStackTrace", "()Ljava/lang/Throwable;"⟩) ∈ lw_g := ms_t3 (List.mem_of_getElem? (i := 170) rfl) rfl
theorem kw_3_171 : (Cond.selects "java/lang/IndexOutOfBoundsException" ⟨"java/lang/Throwable", "fillInStackTrace", "()Ljava/lang/Throwable;"⟩ ⟨"java/lang/Throwable", "fillInStackTrace", "()Ljava/lang/Throwable;"⟩) ∈ lw_g := ms_t3 (List.mem_of_getElem? (i := 171) rfl) rfl
theorem kw_3_172 : (Cond.codeSync ⟨"java/lang/Throwable", "fillInStackTrace", "()Ljava/lang/Throwable;"⟩ prog_25_method_18_code 1 (some (.object "java/lang/Throwable"))) ∈ lw_tbl := ms_q3 (List.mem_of_getElem? (i := 172) rfl)
theorem kw_3_173 : (Cond.methodLink "java/lang/Throwable" 202 ⟨"java/lang/Throwable", "fillInStackTrace", "(I)Ljava/lang/Throwable;"⟩) ∈ lw_g := ms_t3 (List.mem_of_getElem? (i := 173) rfl) rfl
theorem kw_3_175 : (Cond.instanceMethod ⟨"java/lang/Throwable", "fillInStackTrace", "(I)Ljava/lang/Throwable;"⟩) ∈ lw_g := ms_t3 (List.mem_of_getElem? (i := 175) rfl) rfl
theorem kw_3_176 : (Cond.instantiable "java/lang/Throwable" 6) ∈ lw_g := ms_t3 (List.mem_of_getElem? (i := 176) rfl) rfl
theorem kw_3_177 : (Cond.native ⟨"java/lang/Throwable", "fillInStackTrace", "(I)Ljava/lang/Throwable;"⟩) ∈ lw_g := ms_t3 (List.mem_of_getElem? (i := 177) rfl) rfl
theorem kw_3_178 : (Cond.stringRef "CensusWalk" 78 "no such length") ∈ lw_tbl := ms_q3 (List.mem_of_getElem? (i := 178) rfl)
theorem kw_3_179 : (Cond.methodLink "CensusWalk" 80 ⟨"java/lang/IllegalArgumentException", "<init>", "(Ljava/lang/String;)V"⟩) ∈ lw_g := ms_t3 (List.mem_of_getElem? (i := 179) rfl) rfl
theorem kw_3_180 : (Cond.instanceMethod ⟨"java/lang/IllegalArgumentException", "<init>", "(Ljava/lang/String;)V"⟩) ∈ lw_g := ms_t3 (List.mem_of_getElem? (i := 180) rfl) rfl
theorem kw_3_181 : (Cond.code ⟨"java/lang/IllegalArgumentException", "<init>", "(Ljava/lang/String;)V"⟩ prog_15_method_2_code 2 none) ∈ lw_g := ms_t3 (List.mem_of_getElem? (i := 181) rfl) rfl
theorem kw_3_182 : (Cond.methodLink "java/lang/IllegalArgumentException" 7 ⟨"java/lang/RuntimeException", "<init>", "(Ljava/lang/String;)V"⟩) ∈ lw_g := ms_t3 (List.mem_of_getElem? (i := 182) rfl) rfl
theorem kw_3_183 : (Cond.instanceMethod ⟨"java/lang/RuntimeException", "<init>", "(Ljava/lang/String;)V"⟩) ∈ lw_g := ms_t3 (List.mem_of_getElem? (i := 183) rfl) rfl
theorem kw_3_184 : (Cond.code ⟨"java/lang/RuntimeException", "<init>", "(Ljava/lang/String;)V"⟩ prog_20_method_2_code 2 none) ∈ lw_g := ms_t3 (List.mem_of_getElem? (i := 184) rfl) rfl
theorem kw_3_185 : (Cond.methodLink "java/lang/RuntimeException" 7 ⟨"java/lang/Exception", "<init>", "(Ljava/lang/String;)V"⟩) ∈ lw_g := ms_t3 (List.mem_of_getElem? (i := 185) rfl) rfl
theorem kw_3_186 : (Cond.instanceMethod ⟨"java/lang/Exception", "<init>", "(Ljava/lang/String;)V"⟩) ∈ lw_g := ms_t3 (List.mem_of_getElem? (i := 186) rfl) rfl
theorem kw_3_187 : (Cond.code ⟨"java/lang/Exception", "<init>", "(Ljava/lang/String;)V"⟩ prog_14_method_2_code 2 none) ∈ lw_g := ms_t3 (List.mem_of_getElem? (i := 187) rfl) rfl
theorem kw_3_188 : (Cond.methodLink "java/lang/Exception" 7 ⟨"java/lang/Throwable", "<init>", "(Ljava/lang/String;)V"⟩) ∈ lw_g := ms_t3 (List.mem_of_getElem? (i := 188) rfl) rfl
theorem kw_3_189 : (Cond.instanceMethod ⟨"java/lang/Throwable", "<init>", "(Ljava/lang/String;)V"⟩) ∈ lw_g := ms_t3 (List.mem_of_getElem? (i := 189) rfl) rfl
theorem kw_3_190 : (Cond.code ⟨"java/lang/Throwable", "<init>", "(Ljava/lang/String;)V"⟩ prog_25_method_2_code 2 none) ∈ lw_g := ms_t3 (List.mem_of_getElem? (i := 190) rfl) rfl
theorem kw_3_192 : (Cond.fieldLink "java/lang/Throwable" 31 "java/lang/Throwable" "detailMessage" "Ljava/lang/String;") ∈ lw_g := ms_t3 (List.mem_of_getElem? (i := 192) rfl) rfl
theorem kw_3_193 : (Cond.fieldLink "java/lang/Throwable" 7 "java/lang/Throwable" "cause" "Ljava/lang/Throwable;") ∈ lw_g := ms_t3 (List.mem_of_getElem? (i := 193) rfl) rfl
theorem kw_3_194 : (Cond.fieldLink "java/lang/Throwable" 17 "java/lang/Throwable" "stackTrace" "[Ljava/lang/StackTraceElement;") ∈ lw_g := ms_t3 (List.mem_of_getElem? (i := 194) rfl) rfl
theorem kw_3_195 : (Cond.fieldLink "java/lang/Throwable" 24 "java/lang/Throwable" "suppressedExceptions" "Ljava/util/List;") ∈ lw_g := ms_t3 (List.mem_of_getElem? (i := 195) rfl) rfl
theorem kw_3_200 : (Cond.lays "java/lang/IllegalArgumentException" "java/lang/Throwable" "depth" "I") ∈ lw_g := ms_t3 (List.mem_of_getElem? (i := 200) rfl) rfl
theorem kw_3_204 : (Cond.methodLink "CensusWalk" 83 ⟨"CensusWalk$SetupReader", "read", "([BI)I"⟩) ∈ lw_g := ms_t3 (List.mem_of_getElem? (i := 204) rfl) rfl
theorem kw_3_205 : (Cond.instanceMethod ⟨"CensusWalk$SetupReader", "read", "([BI)I"⟩) ∈ lw_g := ms_t3 (List.mem_of_getElem? (i := 205) rfl) rfl
theorem kw_3_206 : (Cond.selects "CensusWalk$SetupReader" ⟨"CensusWalk$SetupReader", "read", "([BI)I"⟩ ⟨"CensusWalk$SetupReader", "read", "([BI)I"⟩) ∈ lw_g := ms_t3 (List.mem_of_getElem? (i := 206) rfl) rfl
theorem kw_3_207 : (Cond.code ⟨"CensusWalk$SetupReader", "read", "([BI)I"⟩ prog_5_method_2_code 5 (some .int)) ∈ lw_g := ms_t3 (List.mem_of_getElem? (i := 207) rfl) rfl
theorem kw_3_208 : (Cond.methodLink "CensusWalk$SetupReader" 49 ⟨"CensusWalk$Town", "clear", "()V"⟩) ∈ lw_g := ms_t3 (List.mem_of_getElem? (i := 208) rfl) rfl
theorem kw_3_209 : (Cond.instanceMethod ⟨"CensusWalk$Town", "clear", "()V"⟩) ∈ lw_g := ms_t3 (List.mem_of_getElem? (i := 209) rfl) rfl
theorem kw_3_210 : (Cond.selects "CensusWalk$Town" ⟨"CensusWalk$Town", "clear", "()V"⟩ ⟨"CensusWalk$Town", "clear", "()V"⟩) ∈ lw_g := ms_t3 (List.mem_of_getElem? (i := 210) rfl) rfl
theorem kw_3_211 : (Cond.code ⟨"CensusWalk$Town", "clear", "()V"⟩ prog_9_method_2_code 1 none) ∈ lw_g := ms_t3 (List.mem_of_getElem? (i := 211) rfl) rfl
theorem kw_3_212 : (Cond.methodLink "CensusWalk$SetupReader" 52 ⟨"CensusWalk$VisitExpression", "clear", "()V"⟩) ∈ lw_g := ms_t3 (List.mem_of_getElem? (i := 212) rfl) rfl
theorem kw_3_213 : (Cond.instanceMethod ⟨"CensusWalk$VisitExpression", "clear", "()V"⟩) ∈ lw_g := ms_t3 (List.mem_of_getElem? (i := 213) rfl) rfl
theorem kw_3_214 : (Cond.selects "CensusWalk$VisitExpression" ⟨"CensusWalk$VisitExpression", "clear", "()V"⟩ ⟨"CensusWalk$VisitExpression", "clear", "()V"⟩) ∈ lw_g := ms_t3 (List.mem_of_getElem? (i := 214) rfl) rfl
theorem kw_3_215 : (Cond.code ⟨"CensusWalk$VisitExpression", "clear", "()V"⟩ prog_10_method_2_code 1 none) ∈ lw_g := ms_t3 (List.mem_of_getElem? (i := 215) rfl) rfl
theorem kw_3_216 : (Cond.methodLink "CensusWalk$SetupReader" 53 ⟨"CensusWalk$Tokens", "begin", "([BI)V"⟩) ∈ lw_g := ms_t3 (List.mem_of_getElem? (i := 216) rfl) rfl
theorem kw_3_217 : (Cond.instanceMethod ⟨"CensusWalk$Tokens", "begin", "([BI)V"⟩) ∈ lw_g := ms_t3 (List.mem_of_getElem? (i := 217) rfl) rfl
theorem kw_3_218 : (Cond.selects "CensusWalk$Tokens" ⟨"CensusWalk$Tokens", "begin", "([BI)V"⟩ ⟨"CensusWalk$Tokens", "begin", "([BI)V"⟩) ∈ lw_g := ms_t3 (List.mem_of_getElem? (i := 218) rfl) rfl
theorem kw_3_219 : (Cond.code ⟨"CensusWalk$Tokens", "begin", "([BI)V"⟩ prog_8_method_2_code 3 none) ∈ lw_g := ms_t3 (List.mem_of_getElem? (i := 219) rfl) rfl
theorem kw_3_220 : (Cond.methodLink "CensusWalk$Tokens" 29 ⟨"java/lang/Math", "min", "(II)I"⟩) ∈ lw_g := ms_t3 (List.mem_of_getElem? (i := 220) rfl) rfl
theorem kw_3_221 : (Cond.methodLink "CensusWalk$Tokens" 35 ⟨"CensusWalk$Tokens", "advance", "()V"⟩) ∈ lw_g := ms_t3 (List.mem_of_getElem? (i := 221) rfl) rfl
theorem kw_3_222 : (Cond.instanceMethod ⟨"CensusWalk$Tokens", "advance", "()V"⟩) ∈ lw_g := ms_t3 (List.mem_of_getElem? (i := 222) rfl) rfl
theorem kw_3_223 : (Cond.selects "CensusWalk$Tokens" ⟨"CensusWalk$Tokens", "advance", "()V"⟩ ⟨"CensusWalk$Tokens", "advance", "()V"⟩) ∈ lw_g := ms_t3 (List.mem_of_getElem? (i := 223) rfl) rfl
theorem kw_3_224 : (Cond.code ⟨"CensusWalk$Tokens", "advance", "()V"⟩ prog_8_method_3_code 1 none) ∈ lw_g := ms_t3 (List.mem_of_getElem? (i := 224) rfl) rfl
theorem kw_3_225 : (Cond.methodLink "CensusWalk$Tokens" 38 ⟨"CensusWalk$Tokens", "isDigit", "(I)Z"⟩) ∈ lw_g := ms_t3 (List.mem_of_getElem? (i := 225) rfl) rfl
theorem kw_3_226 : (Cond.static ⟨"CensusWalk$Tokens", "isDigit", "(I)Z"⟩) ∈ lw_g := ms_t3 (List.mem_of_getElem? (i := 226) rfl) rfl
theorem kw_3_227 : (Cond.code ⟨"CensusWalk$Tokens", "isDigit", "(I)Z"⟩ prog_8_method_6_code 1 (some .boolean)) ∈ lw_g := ms_t3 (List.mem_of_getElem? (i := 227) rfl) rfl
theorem kw_3_228 : (Cond.constant "CensusWalk$Tokens" 42 (100000 : Int32)) ∈ lw_g := ms_t3 (List.mem_of_getElem? (i := 228) rfl) rfl
theorem kw_3_229 : (Cond.methodLink "CensusWalk$Tokens" 43 ⟨"CensusWalk$Tokens", "isLetter", "(I)Z"⟩) ∈ lw_g := ms_t3 (List.mem_of_getElem? (i := 229) rfl) rfl
theorem kw_3_230 : (Cond.static ⟨"CensusWalk$Tokens", "isLetter", "(I)Z"⟩) ∈ lw_g := ms_t3 (List.mem_of_getElem? (i := 230) rfl) rfl
theorem kw_3_231 : (Cond.code ⟨"CensusWalk$Tokens", "isLetter", "(I)Z"⟩ prog_8_method_7_code 1 (some .boolean)) ∈ lw_g := ms_t3 (List.mem_of_getElem? (i := 231) rfl) rfl
theorem kw_3_232 : (Cond.methodLink "CensusWalk$SetupReader" 57 ⟨"CensusWalk$SetupReader", "header", "()Z"⟩) ∈ lw_g := ms_t3 (List.mem_of_getElem? (i := 232) rfl) rfl
theorem kw_3_234 : (Cond.instanceMethod ⟨"CensusWalk$SetupReader", "header", "()Z"⟩) ∈ lw_g := ms_t3 (List.mem_of_getElem? (i := 234) rfl) rfl
theorem kw_3_235 : (Cond.code ⟨"CensusWalk$SetupReader", "header", "()Z"⟩ prog_5_method_3_code 2 (some .boolean)) ∈ lw_g := ms_t3 (List.mem_of_getElem? (i := 235) rfl) rfl
theorem kw_3_236 : (Cond.stringRef "CensusWalk$SetupReader" 81 "town") ∈ lw_tbl := ms_q3 (List.mem_of_getElem? (i := 236) rfl)
theorem kw_3_237 : (Cond.methodLink "CensusWalk$SetupReader" 82 ⟨"CensusWalk$Tokens", "isWord", "(Ljava/lang/String;)Z"⟩) ∈ lw_g := ms_t3 (List.mem_of_getElem? (i := 237) rfl) rfl
theorem kw_3_238 : (Cond.instanceMethod ⟨"CensusWalk$Tokens", "isWord", "(Ljava/lang/String;)Z"⟩) ∈ lw_g := ms_t3 (List.mem_of_getElem? (i := 238) rfl) rfl
theorem kw_3_239 : (Cond.selects "CensusWalk$Tokens" ⟨"CensusWalk$Tokens", "isWord", "(Ljava/lang/String;)Z"⟩ ⟨"CensusWalk$Tokens", "isWord", "(Ljava/lang/String;)Z"⟩) ∈ lw_g := ms_t3 (List.mem_of_getElem? (i := 239) rfl) rfl
theorem kw_4_0 : (Cond.code ⟨"CensusWalk$Tokens", "isWord", "(Ljava/lang/String;)Z"⟩ prog_8_method_4_code 3 (some .boolean)) ∈ lw_g := ms_t4 (List.mem_of_getElem? (i := 0) rfl) rfl
theorem kw_4_1 : (Cond.methodLink "CensusWalk$Tokens" 46 ⟨"java/lang/String", "length", "()I"⟩) ∈ lw_g := ms_t4 (List.mem_of_getElem? (i := 1) rfl) rfl
theorem kw_4_2 : (Cond.instanceMethod ⟨"java/lang/String", "length", "()I"⟩) ∈ lw_g := ms_t4 (List.mem_of_getElem? (i := 2) rfl) rfl
theorem kw_4_3 : (Cond.selects "java/lang/String" ⟨"java/lang/String", "length", "()I"⟩ ⟨"java/lang/String", "length", "()I"⟩) ∈ lw_g := ms_t4 (List.mem_of_getElem? (i := 3) rfl) rfl
theorem kw_4_4 : (Cond.code ⟨"java/lang/String", "length", "()I"⟩ prog_21_method_54_code 1 (some .int)) ∈ lw_g := ms_t4 (List.mem_of_getElem? (i := 4) rfl) rfl
theorem kw_4_5 : (Cond.methodLink "java/lang/String" 335 ⟨"java/lang/String", "coder", "()B"⟩) ∈ lw_g := ms_t4 (List.mem_of_getElem? (i := 5) rfl) rfl
theorem kw_4_6 : (Cond.instanceMethod ⟨"java/lang/String", "coder", "()B"⟩) ∈ lw_g := ms_t4 (List.mem_of_getElem? (i := 6) rfl) rfl
theorem kw_4_7 : (Cond.selects "java/lang/String" ⟨"java/lang/String", "coder", "()B"⟩ ⟨"java/lang/String", "coder", "()B"⟩) ∈ lw_g := ms_t4 (List.mem_of_getElem? (i := 7) rfl) rfl
theorem kw_4_8 : (Cond.code ⟨"java/lang/String", "coder", "()B"⟩ prog_21_method_152_code 1 (some .byte)) ∈ lw_g := ms_t4 (List.mem_of_getElem? (i := 8) rfl) rfl
theorem kw_4_9 : (Cond.fieldLink "java/lang/String" 38 "java/lang/String" "COMPACT_STRINGS" "Z") ∈ lw_g := ms_t4 (List.mem_of_getElem? (i := 9) rfl) rfl
theorem kw_4_10 : (Cond.laysStatic "java/lang/String" "COMPACT_STRINGS" "Z") ∈ lw_tbl := ms_q4 (List.mem_of_getElem? (i := 10) rfl)
theorem kw_4_11 : (Cond.methodLink "CensusWalk$Tokens" 51 ⟨"java/lang/String", "charAt", "(I)C"⟩) ∈ lw_g := ms_t4 (List.mem_of_getElem? (i := 11) rfl) rfl
theorem kw_4_12 : (Cond.instanceMethod ⟨"java/lang/String", "charAt", "(I)C"⟩) ∈ lw_g := ms_t4 (List.mem_of_getElem? (i := 12) rfl) rfl
theorem kw_4_13 : (Cond.selects "java/lang/String" ⟨"java/lang/String", "charAt", "(I)C"⟩ ⟨"java/lang/String", "charAt", "(I)C"⟩) ∈ lw_g := ms_t4 (List.mem_of_getElem? (i := 13) rfl) rfl
theorem kw_4_14 : (Cond.code ⟨"java/lang/String", "charAt", "(I)C"⟩ prog_21_method_56_code 2 (some .char)) ∈ lw_g := ms_t4 (List.mem_of_getElem? (i := 14) rfl) rfl
theorem kw_4_15 : (Cond.methodLink "java/lang/String" 492 ⟨"java/lang/String", "isLatin1", "()Z"⟩) ∈ lw_g := ms_t4 (List.mem_of_getElem? (i := 15) rfl) rfl
theorem kw_4_16 : (Cond.instanceMethod ⟨"java/lang/String", "isLatin1", "()Z"⟩) ∈ lw_g := ms_t4 (List.mem_of_getElem? (i := 16) rfl) rfl
theorem kw_4_17 : (Cond.selects "java/lang/String" ⟨"java/lang/String", "isLatin1", "()Z"⟩ ⟨"java/lang/String", "isLatin1", "()Z"⟩) ∈ lw_g := ms_t4 (List.mem_of_getElem? (i := 17) rfl) rfl
theorem kw_4_18 : (Cond.code ⟨"java/lang/String", "isLatin1", "()Z"⟩ prog_21_method_154_code 1 (some .boolean)) ∈ lw_g := ms_t4 (List.mem_of_getElem? (i := 18) rfl) rfl
theorem kw_4_19 : (Cond.methodLink "java/lang/String" 495 ⟨"java/lang/StringLatin1", "charAt", "([BI)C"⟩) ∈ lw_g := ms_t4 (List.mem_of_getElem? (i := 19) rfl) rfl
theorem kw_4_20 : (Cond.static ⟨"java/lang/StringLatin1", "charAt", "([BI)C"⟩) ∈ lw_g := ms_t4 (List.mem_of_getElem? (i := 20) rfl) rfl
theorem kw_4_21 : (Cond.code ⟨"java/lang/StringLatin1", "charAt", "([BI)C"⟩ prog_22_method_2_code 2 (some .char)) ∈ lw_g := ms_t4 (List.mem_of_getElem? (i := 21) rfl) rfl
theorem kw_4_22 : (Cond.methodLink "java/lang/StringLatin1" 9 ⟨"java/lang/String", "checkIndex", "(II)V"⟩) ∈ lw_g := ms_t4 (List.mem_of_getElem? (i := 22) rfl) rfl
theorem kw_4_23 : (Cond.static ⟨"java/lang/String", "checkIndex", "(II)V"⟩) ∈ lw_g := ms_t4 (List.mem_of_getElem? (i := 23) rfl) rfl
theorem kw_4_24 : (Cond.code ⟨"java/lang/String", "checkIndex", "(II)V"⟩ prog_21_method_155_code 2 none) ∈ lw_g := ms_t4 (List.mem_of_getElem? (i := 24) rfl) rfl
theorem kw_4_25 : (Cond.fieldLink "java/lang/String" 1053 "jdk/internal/util/Preconditions" "SIOOBE_FORMATTER" "Ljava/util/function/BiFunction;") ∈ lw_g := ms_t4 (List.mem_of_getElem? (i := 25) rfl) rfl
theorem kw_4_26 : (Cond.laysStatic "jdk/internal/util/Preconditions" "SIOOBE_FORMATTER" "Ljava/util/function/BiFunction;") ∈ lw_tbl := ms_q4 (List.mem_of_getElem? (i := 26) rfl)
theorem kw_4_27 : (Cond.methodLink "java/lang/String" 1059 ⟨"jdk/internal/util/Preconditions", "checkIndex", "(IILjava/util/function/BiFunction;)I"⟩) ∈ lw_g := ms_t4 (List.mem_of_getElem? (i := 27) rfl) rfl
theorem kw_4_28 : (Cond.static ⟨"jdk/internal/util/Preconditions", "checkIndex", "(IILjava/util/function/BiFunction;)I"⟩) ∈ lw_g := ms_t4 (List.mem_of_getElem? (i := 28) rfl) rfl
theorem kw_4_29 : (Cond.code ⟨"jdk/internal/util/Preconditions", "checkIndex", "(IILjava/util/function/BiFunction;)I"⟩ prog_27_method_11_code 3 (some .int)) ∈ lw_g := ms_t4 (List.mem_of_getElem? (i := 29) rfl) rfl
theorem kw_4_30 : (Cond.methodLink "java/lang/String" 498 ⟨"java/lang/StringUTF16", "charAt", "([BI)C"⟩) ∈ lw_g := ms_t4 (List.mem_of_getElem? (i := 30) rfl) rfl
theorem kw_4_31 : (Cond.static ⟨"java/lang/StringUTF16", "charAt", "([BI)C"⟩) ∈ lw_g := ms_t4 (List.mem_of_getElem? (i := 31) rfl) rfl
theorem kw_4_32 : (Cond.code ⟨"java/lang/StringUTF16", "charAt", "([BI)C"⟩ prog_23_method_83_code 2 (some .char)) ∈ lw_g := ms_t4 (List.mem_of_getElem? (i := 32) rfl) rfl
theorem kw_4_33 : (Cond.methodLink "java/lang/StringUTF16" 67 ⟨"java/lang/StringUTF16", "checkIndex", "(I[B)V"⟩) ∈ lw_g := ms_t4 (List.mem_of_getElem? (i := 33) rfl) rfl
theorem kw_4_34 : (Cond.static ⟨"java/lang/StringUTF16", "checkIndex", "(I[B)V"⟩) ∈ lw_g := ms_t4 (List.mem_of_getElem? (i := 34) rfl) rfl
theorem kw_4_35 : (Cond.code ⟨"java/lang/StringUTF16", "checkIndex", "(I[B)V"⟩ prog_23_method_91_code 2 none) ∈ lw_g := ms_t4 (List.mem_of_getElem? (i := 35) rfl) rfl
theorem kw_4_36 : (Cond.methodLink "java/lang/StringUTF16" 48 ⟨"java/lang/StringUTF16", "length", "([B)I"⟩) ∈ lw_g := ms_t4 (List.mem_of_getElem? (i := 36) rfl) rfl
theorem kw_4_37 : (Cond.static ⟨"java/lang/StringUTF16", "length", "([B)I"⟩) ∈ lw_g := ms_t4 (List.mem_of_getElem? (i := 37) rfl) rfl
theorem kw_4_38 : (Cond.code ⟨"java/lang/StringUTF16", "length", "([B)I"⟩ prog_23_method_6_code 1 (some .int)) ∈ lw_g := ms_t4 (List.mem_of_getElem? (i := 38) rfl) rfl
theorem kw_4_39 : (Cond.methodLink "java/lang/StringUTF16" 414 ⟨"java/lang/String", "checkIndex", "(II)V"⟩) ∈ lw_g := ms_t4 (List.mem_of_getElem? (i := 39) rfl) rfl
theorem kw_4_40 : (Cond.methodLink "java/lang/StringUTF16" 71 ⟨"java/lang/StringUTF16", "getChar", "([BI)C"⟩) ∈ lw_g := ms_t4 (List.mem_of_getElem? (i := 40) rfl) rfl
theorem kw_4_41 : (Cond.static ⟨"java/lang/StringUTF16", "getChar", "([BI)C"⟩) ∈ lw_g := ms_t4 (List.mem_of_getElem? (i := 41) rfl) rfl
theorem kw_4_42 : (Cond.code ⟨"java/lang/StringUTF16", "getChar", "([BI)C"⟩ prog_23_method_5_code 2 (some .char)) ∈ lw_g := ms_t4 (List.mem_of_getElem? (i := 42) rfl) rfl
theorem kw_4_43 : (Cond.fieldLink "java/lang/StringUTF16" 44 "java/lang/StringUTF16" "$assertionsDisabled" "Z") ∈ lw_g := ms_t4 (List.mem_of_getElem? (i := 43) rfl) rfl
theorem kw_4_44 : (Cond.laysStatic "java/lang/StringUTF16" "$assertionsDisabled" "Z") ∈ lw_tbl := ms_q4 (List.mem_of_getElem? (i := 44) rfl)
theorem kw_4_45 : (Cond.fieldLink "java/lang/StringUTF16" 59 "java/lang/StringUTF16" "HI_BYTE_SHIFT" "I") ∈ lw_g := ms_t4 (List.mem_of_getElem? (i := 45) rfl) rfl
theorem kw_4_46 : (Cond.laysStatic "java/lang/StringUTF16" "HI_BYTE_SHIFT" "I") ∈ lw_tbl := ms_q4 (List.mem_of_getElem? (i := 46) rfl)
theorem kw_4_47 : (Cond.fieldLink "java/lang/StringUTF16" 63 "java/lang/StringUTF16" "LO_BYTE_SHIFT" "I") ∈ lw_g := ms_t4 (List.mem_of_getElem? (i := 47) rfl) rfl
theorem kw_4_48 : (Cond.laysStatic "java/lang/StringUTF16" "LO_BYTE_SHIFT" "I") ∈ lw_tbl := ms_q4 (List.mem_of_getElem? (i := 48) rfl)
theorem kw_4_49 : (Cond.methodLink "CensusWalk$SetupReader" 86 ⟨"CensusWalk$SetupReader", "fail", "(I)Z"⟩) ∈ lw_g := ms_t4 (List.mem_of_getElem? (i := 49) rfl) rfl
theorem kw_4_51 : (Cond.instanceMethod ⟨"CensusWalk$SetupReader", "fail", "(I)Z"⟩) ∈ lw_g := ms_t4 (List.mem_of_getElem? (i := 51) rfl) rfl
theorem kw_4_52 : (Cond.code ⟨"CensusWalk$SetupReader", "fail", "(I)Z"⟩ prog_5_method_13_code 2 (some .boolean)) ∈ lw_g := ms_t4 (List.mem_of_getElem? (i := 52) rfl) rfl
theorem kw_4_53 : (Cond.methodLink "CensusWalk$SetupReader" 90 ⟨"CensusWalk$Tokens", "advance", "()V"⟩) ∈ lw_g := ms_t4 (List.mem_of_getElem? (i := 53) rfl) rfl
theorem kw_4_54 : (Cond.methodLink "CensusWalk$SetupReader" 93 ⟨"CensusWalk$SetupReader", "number", "(II)I"⟩) ∈ lw_g := ms_t4 (List.mem_of_getElem? (i := 54) rfl) rfl
theorem kw_4_56 : (Cond.instanceMethod ⟨"CensusWalk$SetupReader", "number", "(II)I"⟩) ∈ lw_g := ms_t4 (List.mem_of_getElem? (i := 56) rfl) rfl
theorem kw_4_57 : (Cond.code ⟨"CensusWalk$SetupReader", "number", "(II)I"⟩ prog_5_method_12_code 4 (some .int)) ∈ lw_g := ms_t4 (List.mem_of_getElem? (i := 57) rfl) rfl
theorem kw_4_58 : (Cond.methodLink "CensusWalk$SetupReader" 67 ⟨"CensusWalk$SetupReader", "expect", "(C)Z"⟩) ∈ lw_g := ms_t4 (List.mem_of_getElem? (i := 58) rfl) rfl
theorem kw_4_60 : (Cond.instanceMethod ⟨"CensusWalk$SetupReader", "expect", "(C)Z"⟩) ∈ lw_g := ms_t4 (List.mem_of_getElem? (i := 60) rfl) rfl
theorem kw_4_61 : (Cond.code ⟨"CensusWalk$SetupReader", "expect", "(C)Z"⟩ prog_5_method_11_code 2 (some .boolean)) ∈ lw_g := ms_t4 (List.mem_of_getElem? (i := 61) rfl) rfl
theorem kw_4_62 : (Cond.methodLink "CensusWalk$SetupReader" 184 ⟨"CensusWalk$Tokens", "isSign", "(C)Z"⟩) ∈ lw_g := ms_t4 (List.mem_of_getElem? (i := 62) rfl) rfl
theorem kw_4_63 : (Cond.instanceMethod ⟨"CensusWalk$Tokens", "isSign", "(C)Z"⟩) ∈ lw_g := ms_t4 (List.mem_of_getElem? (i := 63) rfl) rfl
theorem kw_4_64 : (Cond.selects "CensusWalk$Tokens" ⟨"CensusWalk$Tokens", "isSign", "(C)Z"⟩ ⟨"CensusWalk$Tokens", "isSign", "(C)Z"⟩) ∈ lw_g := ms_t4 (List.mem_of_getElem? (i := 64) rfl) rfl
theorem kw_4_65 : (Cond.code ⟨"CensusWalk$Tokens", "isSign", "(C)Z"⟩ prog_8_method_5_code 2 (some .boolean)) ∈ lw_g := ms_t4 (List.mem_of_getElem? (i := 65) rfl) rfl
theorem kw_4_66 : (Cond.methodLink "CensusWalk$SetupReader" 64 ⟨"CensusWalk$SetupReader", "statement", "()Z"⟩) ∈ lw_g := ms_t4 (List.mem_of_getElem? (i := 66) rfl) rfl
theorem kw_4_68 : (Cond.instanceMethod ⟨"CensusWalk$SetupReader", "statement", "()Z"⟩) ∈ lw_g := ms_t4 (List.mem_of_getElem? (i := 68) rfl) rfl
theorem kw_4_69 : (Cond.code ⟨"CensusWalk$SetupReader", "statement", "()Z"⟩ prog_5_method_4_code 1 (some .boolean)) ∈ lw_g := ms_t4 (List.mem_of_getElem? (i := 69) rfl) rfl
theorem kw_4_70 : (Cond.stringRef "CensusWalk$SetupReader" 100 "street") ∈ lw_tbl := ms_q4 (List.mem_of_getElem? (i := 70) rfl)
theorem kw_4_71 : (Cond.methodLink "CensusWalk$SetupReader" 102 ⟨"CensusWalk$SetupReader", "street", "()Z"⟩) ∈ lw_g := ms_t4 (List.mem_of_getElem? (i := 71) rfl) rfl
theorem kw_4_73 : (Cond.instanceMethod ⟨"CensusWalk$SetupReader", "street", "()Z"⟩) ∈ lw_g := ms_t4 (List.mem_of_getElem? (i := 73) rfl) rfl
theorem kw_4_74 : (Cond.code ⟨"CensusWalk$SetupReader", "street", "()Z"⟩ prog_5_method_5_code 4 (some .boolean)) ∈ lw_g := ms_t4 (List.mem_of_getElem? (i := 74) rfl) rfl
theorem kw_4_75 : (Cond.methodLink "CensusWalk$SetupReader" 137 ⟨"CensusWalk$Streets", "add", "(III)V"⟩) ∈ lw_g := ms_t4 (List.mem_of_getElem? (i := 75) rfl) rfl
theorem kw_4_76 : (Cond.instanceMethod ⟨"CensusWalk$Streets", "add", "(III)V"⟩) ∈ lw_g := ms_t4 (List.mem_of_getElem? (i := 76) rfl) rfl
theorem kw_4_77 : (Cond.selects "CensusWalk$Streets" ⟨"CensusWalk$Streets", "add", "(III)V"⟩ ⟨"CensusWalk$Streets", "add", "(III)V"⟩) ∈ lw_g := ms_t4 (List.mem_of_getElem? (i := 77) rfl) rfl
theorem kw_4_78 : (Cond.code ⟨"CensusWalk$Streets", "add", "(III)V"⟩ prog_7_method_3_code 4 none) ∈ lw_g := ms_t4 (List.mem_of_getElem? (i := 78) rfl) rfl
theorem kw_4_79 : (Cond.stringRef "CensusWalk$SetupReader" 104 "house") ∈ lw_tbl := ms_q4 (List.mem_of_getElem? (i := 79) rfl)
theorem kw_4_80 : (Cond.methodLink "CensusWalk$SetupReader" 106 ⟨"CensusWalk$SetupReader", "house", "()Z"⟩) ∈ lw_g := ms_t4 (List.mem_of_getElem? (i := 80) rfl) rfl
theorem kw_4_82 : (Cond.instanceMethod ⟨"CensusWalk$SetupReader", "house", "()Z"⟩) ∈ lw_g := ms_t4 (List.mem_of_getElem? (i := 82) rfl) rfl
theorem kw_4_83 : (Cond.code ⟨"CensusWalk$SetupReader", "house", "()Z"⟩ prog_5_method_6_code 9 (some .boolean)) ∈ lw_g := ms_t4 (List.mem_of_getElem? (i := 83) rfl) rfl
theorem kw_4_84 : (Cond.methodLink "CensusWalk$SetupReader" 142 ⟨"CensusWalk$Streets", "has", "(I)Z"⟩) ∈ lw_g := ms_t4 (List.mem_of_getElem? (i := 84) rfl) rfl
theorem kw_4_85 : (Cond.stringRef "CensusWalk$SetupReader" 170 "dog") ∈ lw_tbl := ms_q4 (List.mem_of_getElem? (i := 85) rfl)
theorem kw_4_86 : (Cond.stringRef "CensusWalk$SetupReader" 108 "walker") ∈ lw_tbl := ms_q4 (List.mem_of_getElem? (i := 86) rfl)
theorem kw_4_87 : (Cond.methodLink "CensusWalk$SetupReader" 110 ⟨"CensusWalk$SetupReader", "walker", "()Z"⟩) ∈ lw_g := ms_t4 (List.mem_of_getElem? (i := 87) rfl) rfl
theorem kw_4_89 : (Cond.instanceMethod ⟨"CensusWalk$SetupReader", "walker", "()Z"⟩) ∈ lw_g := ms_t4 (List.mem_of_getElem? (i := 89) rfl) rfl
theorem kw_4_90 : (Cond.code ⟨"CensusWalk$SetupReader", "walker", "()Z"⟩ prog_5_method_7_code 3 (some .boolean)) ∈ lw_g := ms_t4 (List.mem_of_getElem? (i := 90) rfl) rfl
theorem kw_4_91 : (Cond.methodLink "CensusWalk$SetupReader" 178 ⟨"CensusWalk$Walkers", "add", "(II)V"⟩) ∈ lw_g := ms_t4 (List.mem_of_getElem? (i := 91) rfl) rfl
theorem kw_4_92 : (Cond.instanceMethod ⟨"CensusWalk$Walkers", "add", "(II)V"⟩) ∈ lw_g := ms_t4 (List.mem_of_getElem? (i := 92) rfl) rfl
theorem kw_4_93 : (Cond.selects "CensusWalk$Walkers" ⟨"CensusWalk$Walkers", "add", "(II)V"⟩ ⟨"CensusWalk$Walkers", "add", "(II)V"⟩) ∈ lw_g := ms_t4 (List.mem_of_getElem? (i := 93) rfl) rfl
theorem kw_4_94 : (Cond.code ⟨"CensusWalk$Walkers", "add", "(II)V"⟩ prog_11_method_3_code 3 none) ∈ lw_g := ms_t4 (List.mem_of_getElem? (i := 94) rfl) rfl
theorem kw_4_95 : (Cond.stringRef "CensusWalk$SetupReader" 112 "cross") ∈ lw_tbl := ms_q4 (List.mem_of_getElem? (i := 95) rfl)
theorem kw_4_96 : (Cond.stringRef "CensusWalk$SetupReader" 117 "gap") ∈ lw_tbl := ms_q4 (List.mem_of_getElem? (i := 96) rfl)
theorem kw_4_97 : (Cond.stringRef "CensusWalk$SetupReader" 121 "visit") ∈ lw_tbl := ms_q4 (List.mem_of_getElem? (i := 97) rfl)
theorem kw_4_98 : (Cond.methodLink "CensusWalk$SetupReader" 122 ⟨"CensusWalk$SetupReader", "sum", "(I)Z"⟩) ∈ lw_g := ms_t4 (List.mem_of_getElem? (i := 98) rfl) rfl
theorem kw_4_100 : (Cond.instanceMethod ⟨"CensusWalk$SetupReader", "sum", "(I)Z"⟩) ∈ lw_g := ms_t4 (List.mem_of_getElem? (i := 100) rfl) rfl
theorem kw_4_101 : (Cond.code ⟨"CensusWalk$SetupReader", "sum", "(I)Z"⟩ prog_5_method_8_code 4 (some .boolean)) ∈ lw_g := ms_t4 (List.mem_of_getElem? (i := 101) rfl) rfl
theorem kw_4_102 : (Cond.methodLink "CensusWalk$SetupReader" 181 ⟨"CensusWalk$SetupReader", "term", "(I)Z"⟩) ∈ lw_g := ms_t4 (List.mem_of_getElem? (i := 102) rfl) rfl
theorem kw_4_104 : (Cond.instanceMethod ⟨"CensusWalk$SetupReader", "term", "(I)Z"⟩) ∈ lw_g := ms_t4 (List.mem_of_getElem? (i := 104) rfl) rfl
theorem kw_4_105 : (Cond.code ⟨"CensusWalk$SetupReader", "term", "(I)Z"⟩ prog_5_method_9_code 4 (some .boolean)) ∈ lw_g := ms_t4 (List.mem_of_getElem? (i := 105) rfl) rfl
theorem kw_4_106 : (Cond.methodLink "CensusWalk$SetupReader" 190 ⟨"CensusWalk$SetupReader", "factor", "(I)Z"⟩) ∈ lw_g := ms_t4 (List.mem_of_getElem? (i := 106) rfl) rfl
theorem kw_4_108 : (Cond.instanceMethod ⟨"CensusWalk$SetupReader", "factor", "(I)Z"⟩) ∈ lw_g := ms_t4 (List.mem_of_getElem? (i := 108) rfl) rfl
theorem kw_4_109 : (Cond.code ⟨"CensusWalk$SetupReader", "factor", "(I)Z"⟩ prog_5_method_10_code 2 (some .boolean)) ∈ lw_g := ms_t4 (List.mem_of_getElem? (i := 109) rfl) rfl
theorem kw_4_110 : (Cond.stringRef "CensusWalk$SetupReader" 193 "persons") ∈ lw_tbl := ms_q4 (List.mem_of_getElem? (i := 110) rfl)
theorem kw_4_111 : (Cond.methodLink "CensusWalk$SetupReader" 187 ⟨"CensusWalk$VisitExpression", "add", "(I)V"⟩) ∈ lw_g := ms_t4 (List.mem_of_getElem? (i := 111) rfl) rfl
theorem kw_4_112 : (Cond.instanceMethod ⟨"CensusWalk$VisitExpression", "add", "(I)V"⟩) ∈ lw_g := ms_t4 (List.mem_of_getElem? (i := 112) rfl) rfl
theorem kw_4_113 : (Cond.selects "CensusWalk$VisitExpression" ⟨"CensusWalk$VisitExpression", "add", "(I)V"⟩ ⟨"CensusWalk$VisitExpression", "add", "(I)V"⟩) ∈ lw_g := ms_t4 (List.mem_of_getElem? (i := 113) rfl) rfl
theorem kw_4_114 : (Cond.code ⟨"CensusWalk$VisitExpression", "add", "(I)V"⟩ prog_10_method_3_code 2 none) ∈ lw_g := ms_t4 (List.mem_of_getElem? (i := 114) rfl) rfl
theorem kw_4_115 : (Cond.stringRef "CensusWalk$SetupReader" 194 "call") ∈ lw_tbl := ms_q4 (List.mem_of_getElem? (i := 115) rfl)
theorem kw_4_116 : (Cond.methodLink "CensusWalk$SetupReader" 75 ⟨"CensusWalk$Houses", "setVisits", "(LCensusWalk$VisitExpression;)V"⟩) ∈ lw_g := ms_t4 (List.mem_of_getElem? (i := 116) rfl) rfl
theorem kw_4_117 : (Cond.instanceMethod ⟨"CensusWalk$Houses", "setVisits", "(LCensusWalk$VisitExpression;)V"⟩) ∈ lw_g := ms_t4 (List.mem_of_getElem? (i := 117) rfl) rfl
theorem kw_4_118 : (Cond.selects "CensusWalk$Houses" ⟨"CensusWalk$Houses", "setVisits", "(LCensusWalk$VisitExpression;)V"⟩ ⟨"CensusWalk$Houses", "setVisits", "(LCensusWalk$VisitExpression;)V"⟩) ∈ lw_g := ms_t4 (List.mem_of_getElem? (i := 118) rfl) rfl
theorem kw_4_119 : (Cond.code ⟨"CensusWalk$Houses", "setVisits", "(LCensusWalk$VisitExpression;)V"⟩ prog_2_method_5_code 4 none) ∈ lw_g := ms_t4 (List.mem_of_getElem? (i := 119) rfl) rfl
theorem kw_4_120 : (Cond.methodLink "CensusWalk$Houses" 47 ⟨"CensusWalk$VisitExpression", "minutes", "(III)I"⟩) ∈ lw_g := ms_t4 (List.mem_of_getElem? (i := 120) rfl) rfl
theorem kw_4_121 : (Cond.instanceMethod ⟨"CensusWalk$VisitExpression", "minutes", "(III)I"⟩) ∈ lw_g := ms_t4 (List.mem_of_getElem? (i := 121) rfl) rfl
theorem kw_4_122 : (Cond.selects "CensusWalk$VisitExpression" ⟨"CensusWalk$VisitExpression", "minutes", "(III)I"⟩ ⟨"CensusWalk$VisitExpression", "minutes", "(III)I"⟩) ∈ lw_g := ms_t4 (List.mem_of_getElem? (i := 122) rfl) rfl
theorem kw_4_123 : (Cond.code ⟨"CensusWalk$VisitExpression", "minutes", "(III)I"⟩ prog_10_method_4_code 7 (some .int)) ∈ lw_g := ms_t4 (List.mem_of_getElem? (i := 123) rfl) rfl
theorem kw_4_124 : (Cond.methodLink "CensusWalk$VisitExpression" 22 ⟨"CensusWalk$VisitExpression", "combine", "(III)I"⟩) ∈ lw_g := ms_t4 (List.mem_of_getElem? (i := 124) rfl) rfl
theorem kw_4_125 : (Cond.static ⟨"CensusWalk$VisitExpression", "combine", "(III)I"⟩) ∈ lw_g := ms_t4 (List.mem_of_getElem? (i := 125) rfl) rfl
theorem kw_4_126 : (Cond.code ⟨"CensusWalk$VisitExpression", "combine", "(III)I"⟩ prog_10_method_6_code 5 (some .int)) ∈ lw_g := ms_t4 (List.mem_of_getElem? (i := 126) rfl) rfl
theorem kw_4_127 : (Cond.constantLong "CensusWalk$VisitExpression" 39 (-1000000 : Int64)) ∈ lw_g := ms_t4 (List.mem_of_getElem? (i := 127) rfl) rfl
theorem kw_4_128 : (Cond.constantLong "CensusWalk$VisitExpression" 41 (1000000 : Int64)) ∈ lw_g := ms_t4 (List.mem_of_getElem? (i := 128) rfl) rfl
theorem kw_4_129 : (Cond.methodLink "CensusWalk$VisitExpression" 43 ⟨"java/lang/Math", "min", "(JJ)J"⟩) ∈ lw_g := ms_t4 (List.mem_of_getElem? (i := 129) rfl) rfl
theorem kw_4_130 : (Cond.static ⟨"java/lang/Math", "min", "(JJ)J"⟩) ∈ lw_g := ms_t4 (List.mem_of_getElem? (i := 130) rfl) rfl
theorem kw_4_131 : (Cond.code ⟨"java/lang/Math", "min", "(JJ)J"⟩ prog_19_method_70_code 4 (some .long)) ∈ lw_g := ms_t4 (List.mem_of_getElem? (i := 131) rfl) rfl
theorem kw_4_132 : (Cond.methodLink "CensusWalk$VisitExpression" 46 ⟨"java/lang/Math", "max", "(JJ)J"⟩) ∈ lw_g := ms_t4 (List.mem_of_getElem? (i := 132) rfl) rfl
theorem kw_4_133 : (Cond.static ⟨"java/lang/Math", "max", "(JJ)J"⟩) ∈ lw_g := ms_t4 (List.mem_of_getElem? (i := 133) rfl) rfl
theorem kw_4_134 : (Cond.code ⟨"java/lang/Math", "max", "(JJ)J"⟩ prog_19_method_66_code 4 (some .long)) ∈ lw_g := ms_t4 (List.mem_of_getElem? (i := 134) rfl) rfl
theorem kw_4_135 : (Cond.methodLink "CensusWalk$VisitExpression" 26 ⟨"CensusWalk$VisitExpression", "operand", "(IIII)I"⟩) ∈ lw_g := ms_t4 (List.mem_of_getElem? (i := 135) rfl) rfl
theorem kw_4_136 : (Cond.static ⟨"CensusWalk$VisitExpression", "operand", "(IIII)I"⟩) ∈ lw_g := ms_t4 (List.mem_of_getElem? (i := 136) rfl) rfl
theorem kw_4_137 : (Cond.code ⟨"CensusWalk$VisitExpression", "operand", "(IIII)I"⟩ prog_10_method_5_code 4 (some .int)) ∈ lw_g := ms_t4 (List.mem_of_getElem? (i := 137) rfl) rfl
theorem kw_4_138 : (Cond.methodLink "CensusWalk$VisitExpression" 30 ⟨"java/lang/Math", "min", "(II)I"⟩) ∈ lw_g := ms_t4 (List.mem_of_getElem? (i := 138) rfl) rfl
theorem kw_4_139 : (Cond.methodLink "CensusWalk$VisitExpression" 36 ⟨"java/lang/Math", "max", "(II)I"⟩) ∈ lw_g := ms_t4 (List.mem_of_getElem? (i := 139) rfl) rfl
theorem kw_4_140 : (Cond.methodLink "CensusWalk" 88 ⟨"CensusWalk", "beginChange", "()V"⟩) ∈ lw_g := ms_t4 (List.mem_of_getElem? (i := 140) rfl) rfl
theorem kw_4_142 : (Cond.instanceMethod ⟨"CensusWalk", "beginChange", "()V"⟩) ∈ lw_g := ms_t4 (List.mem_of_getElem? (i := 142) rfl) rfl
theorem kw_4_143 : (Cond.code ⟨"CensusWalk", "beginChange", "()V"⟩ prog_1_method_37_code 1 none) ∈ lw_g := ms_t4 (List.mem_of_getElem? (i := 143) rfl) rfl
theorem kw_4_144 : (Cond.methodLink "CensusWalkLaw" 129 ⟨"CensusWalkLaw", "distance", "(LCensusWalk;II[J)I"⟩) ∈ lw_g := ms_t4 (List.mem_of_getElem? (i := 144) rfl) rfl
theorem kw_4_145 : (Cond.static ⟨"CensusWalkLaw", "distance", "(LCensusWalk;II[J)I"⟩) ∈ lw_g := ms_t4 (List.mem_of_getElem? (i := 145) rfl) rfl
theorem kw_4_146 : (Cond.codeWith ⟨"CensusWalkLaw", "distance", "(LCensusWalk;II[J)I"⟩ method_4_code 5 (some .int) [(0, 10, 13, 19)]) ∈ lw_g := ms_t4 (List.mem_of_getElem? (i := 146) rfl) rfl
theorem kw_4_147 : (Cond.classLink "CensusWalkLaw" 19 "java/lang/IndexOutOfBoundsException") ∈ lw_g := ms_t4 (List.mem_of_getElem? (i := 147) rfl) rfl
theorem kw_4_148 : (Cond.methodLink "CensusWalkLaw" 15 ⟨"CensusWalk", "distance", "(II)I"⟩) ∈ lw_g := ms_t4 (List.mem_of_getElem? (i := 148) rfl) rfl
theorem kw_4_149 : (Cond.instanceMethod ⟨"CensusWalk", "distance", "(II)I"⟩) ∈ lw_g := ms_t4 (List.mem_of_getElem? (i := 149) rfl) rfl
theorem kw_4_150 : (Cond.selects "CensusWalk" ⟨"CensusWalk", "distance", "(II)I"⟩ ⟨"CensusWalk", "distance", "(II)I"⟩) ∈ lw_g := ms_t4 (List.mem_of_getElem? (i := 150) rfl) rfl
theorem kw_4_151 : (Cond.code ⟨"CensusWalk", "distance", "(II)I"⟩ prog_1_method_9_code 3 (some .int)) ∈ lw_g := ms_t4 (List.mem_of_getElem? (i := 151) rfl) rfl
theorem kw_4_152 : (Cond.methodLink "CensusWalk" 122 ⟨"CensusWalk", "checkHouse", "(I)V"⟩) ∈ lw_g := ms_t4 (List.mem_of_getElem? (i := 152) rfl) rfl
theorem kw_4_154 : (Cond.instanceMethod ⟨"CensusWalk", "checkHouse", "(I)V"⟩) ∈ lw_g := ms_t4 (List.mem_of_getElem? (i := 154) rfl) rfl
theorem kw_4_155 : (Cond.code ⟨"CensusWalk", "checkHouse", "(I)V"⟩ prog_1_method_42_code 2 none) ∈ lw_g := ms_t4 (List.mem_of_getElem? (i := 155) rfl) rfl
theorem kw_4_156 : (Cond.methodLink "CensusWalk" 278 ⟨"CensusWalk$Houses", "has", "(I)Z"⟩) ∈ lw_g := ms_t4 (List.mem_of_getElem? (i := 156) rfl) rfl
theorem kw_4_157 : (Cond.classLink "CensusWalk" 132 "java/lang/IndexOutOfBoundsException") ∈ lw_g := ms_t4 (List.mem_of_getElem? (i := 157) rfl) rfl
theorem kw_4_158 : (Cond.instantiable "java/lang/IndexOutOfBoundsException" 6) ∈ lw_g := ms_t4 (List.mem_of_getElem? (i := 158) rfl) rfl
theorem kw_4_159 : (Cond.castable "java/lang/IndexOutOfBoundsException" "java/lang/IndexOutOfBoundsException") ∈ lw_tbl := ms_q4 (List.mem_of_getElem? (i := 159) rfl)
theorem kw_4_160 : (Cond.selects "java/lang/IndexOutOfBoundsException" ⟨"java/lang/Throwable", "fillInStackTrace", "(I)Ljava/lang/Throwable;"⟩ ⟨"java/lang/Throwable", "fillInStackTrace", "(I)Ljava/lang/Throwable;"⟩) ∈ lw_g := ms_t4 (List.mem_of_getElem? (i := 160) rfl) rfl
theorem kw_4_161 : (Cond.lays "java/lang/IndexOutOfBoundsException" "java/lang/Throwable" "cause" "Ljava/lang/Throwable;") ∈ lw_g := ms_t4 (List.mem_of_getElem? (i := 161) rfl) rfl
theorem kw_4_162 : (Cond.lays "java/lang/IndexOutOfBoundsException" "java/lang/Throwable" "stackTrace" "[Ljava/lang/StackTraceElement;") ∈ lw_g := ms_t4 (List.mem_of_getElem? (i := 162) rfl) rfl
theorem kw_4_163 : (Cond.lays "java/lang/IndexOutOfBoundsException" "java/lang/Throwable" "suppressedExceptions" "Ljava/util/List;") ∈ lw_g := ms_t4 (List.mem_of_getElem? (i := 163) rfl) rfl
theorem kw_4_164 : (Cond.lays "java/lang/IndexOutOfBoundsException" "java/lang/Throwable" "detailMessage" "Ljava/lang/String;") ∈ lw_g := ms_t4 (List.mem_of_getElem? (i := 164) rfl) rfl
theorem kw_4_165 : (Cond.lays "java/lang/IndexOutOfBoundsException" "java/lang/Throwable" "backtrace" "Ljava/lang/Object;") ∈ lw_g := ms_t4 (List.mem_of_getElem? (i := 165) rfl) rfl
theorem kw_4_166 : (Cond.stringRef "CensusWalk" 279 "no such house") ∈ lw_tbl := ms_q4 (List.mem_of_getElem? (i := 166) rfl)
theorem kw_4_167 : (Cond.methodLink "CensusWalk" 136 ⟨"java/lang/IndexOutOfBoundsException", "<init>", "(Ljava/lang/String;)V"⟩) ∈ lw_g := ms_t4 (List.mem_of_getElem? (i := 167) rfl) rfl
theorem kw_4_168 : (Cond.instanceMethod ⟨"java/lang/IndexOutOfBoundsException", "<init>", "(Ljava/lang/String;)V"⟩) ∈ lw_g := ms_t4 (List.mem_of_getElem? (i := 168) rfl) rfl
theorem kw_4_169 : (Cond.code ⟨"java/lang/IndexOutOfBoundsException", "<init>", "(Ljava/lang/String;)V"⟩ prog_17_method_2_code 2 none) ∈ lw_g := ms_t4 (List.mem_of_getElem? (i := 169) rfl) rfl
theorem kw_4_170 : (Cond.methodLink "java/lang/IndexOutOfBoundsException" 7 ⟨"java/lang/RuntimeException", "<init>", "(Ljava/lang/String;)V"⟩) ∈ lw_g := ms_t4 (List.mem_of_getElem? (i := 170) rfl) rfl
theorem kw_4_171 : (Cond.lays "java/lang/IndexOutOfBoundsException" "java/lang/Throwable" "depth" "I") ∈ lw_g := ms_t4 (List.mem_of_getElem? (i := 171) rfl) rfl
theorem kw_4_173 : (Cond.methodLink "CensusWalk" 128 ⟨"CensusWalk$Routes", "betweenHouses", "(LCensusWalk$Town;II)I"⟩) ∈ lw_g := ms_t4 (List.mem_of_getElem? (i := 173) rfl) rfl
theorem kw_4_174 : (Cond.methodLink "CensusWalkLaw" 133 ⟨"CensusWalkLaw", "distanceFrom", "(LCensusWalk;II[J)I"⟩) ∈ lw_g := ms_t4 (List.mem_of_getElem? (i := 174) rfl) rfl
theorem kw_4_175 : (Cond.static ⟨"CensusWalkLaw", "distanceFrom", "(LCensusWalk;II[J)I"⟩) ∈ lw_g := ms_t4 (List.mem_of_getElem? (i := 175) rfl) rfl
theorem kw_4_176 : (Cond.codeWith ⟨"CensusWalkLaw", "distanceFrom", "(LCensusWalk;II[J)I"⟩ method_5_code 5 (some .int) [(0, 10, 13, 19)]) ∈ lw_g := ms_t4 (List.mem_of_getElem? (i := 176) rfl) rfl
theorem kw_4_177 : (Cond.methodLink "CensusWalkLaw" 21 ⟨"CensusWalk", "distanceFrom", "(II)I"⟩) ∈ lw_g := ms_t4 (List.mem_of_getElem? (i := 177) rfl) rfl
theorem kw_4_178 : (Cond.instanceMethod ⟨"CensusWalk", "distanceFrom", "(II)I"⟩) ∈ lw_g := ms_t4 (List.mem_of_getElem? (i := 178) rfl) rfl
theorem kw_4_179 : (Cond.selects "CensusWalk" ⟨"CensusWalk", "distanceFrom", "(II)I"⟩ ⟨"CensusWalk", "distanceFrom", "(II)I"⟩) ∈ lw_g := ms_t4 (List.mem_of_getElem? (i := 179) rfl) rfl
theorem kw_4_180 : (Cond.code ⟨"CensusWalk", "distanceFrom", "(II)I"⟩ prog_1_method_10_code 3 (some .int)) ∈ lw_g := ms_t4 (List.mem_of_getElem? (i := 180) rfl) rfl
theorem kw_4_181 : (Cond.stringRef "CensusWalk" 134 "no such crossing") ∈ lw_tbl := ms_q4 (List.mem_of_getElem? (i := 181) rfl)
theorem kw_4_182 : (Cond.methodLink "CensusWalk" 137 ⟨"CensusWalk$Routes", "fromCrossing", "(LCensusWalk$Town;II)I"⟩) ∈ lw_g := ms_t4 (List.mem_of_getElem? (i := 182) rfl) rfl
theorem kw_4_183 : (Cond.methodLink "CensusWalkLaw" 136 ⟨"CensusWalkLaw", "streetOf", "(LCensusWalk;I[J)I"⟩) ∈ lw_g := ms_t4 (List.mem_of_getElem? (i := 183) rfl) rfl
theorem kw_4_184 : (Cond.static ⟨"CensusWalkLaw", "streetOf", "(LCensusWalk;I[J)I"⟩) ∈ lw_g := ms_t4 (List.mem_of_getElem? (i := 184) rfl) rfl
theorem kw_4_185 : (Cond.codeWith ⟨"CensusWalkLaw", "streetOf", "(LCensusWalk;I[J)I"⟩ method_6_code 4 (some .int) [(0, 9, 12, 19)]) ∈ lw_g := ms_t4 (List.mem_of_getElem? (i := 185) rfl) rfl
theorem kw_4_186 : (Cond.methodLink "CensusWalkLaw" 24 ⟨"CensusWalk", "streetOf", "(I)I"⟩) ∈ lw_g := ms_t4 (List.mem_of_getElem? (i := 186) rfl) rfl
theorem kw_4_187 : (Cond.instanceMethod ⟨"CensusWalk", "streetOf", "(I)I"⟩) ∈ lw_g := ms_t4 (List.mem_of_getElem? (i := 187) rfl) rfl
theorem kw_4_188 : (Cond.selects "CensusWalk" ⟨"CensusWalk", "streetOf", "(I)I"⟩ ⟨"CensusWalk", "streetOf", "(I)I"⟩) ∈ lw_g := ms_t4 (List.mem_of_getElem? (i := 188) rfl) rfl
theorem kw_4_189 : (Cond.code ⟨"CensusWalk", "streetOf", "(I)I"⟩ prog_1_method_11_code 2 (some .int)) ∈ lw_g := ms_t4 (List.mem_of_getElem? (i := 189) rfl) rfl
theorem kw_4_190 : (Cond.methodLink "CensusWalkLaw" 139 ⟨"CensusWalkLaw", "isOpen", "(LCensusWalk;I[J)I"⟩) ∈ lw_g := ms_t4 (List.mem_of_getElem? (i := 190) rfl) rfl
theorem kw_4_191 : (Cond.static ⟨"CensusWalkLaw", "isOpen", "(LCensusWalk;I[J)I"⟩) ∈ lw_g := ms_t4 (List.mem_of_getElem? (i := 191) rfl) rfl
theorem kw_4_192 : (Cond.codeWith ⟨"CensusWalkLaw", "isOpen", "(LCensusWalk;I[J)I"⟩ method_7_code 4 (some .int) [(0, 16, 19, 19)]) ∈ lw_g := ms_t4 (List.mem_of_getElem? (i := 192) rfl) rfl
theorem kw_4_193 : (Cond.methodLink "CensusWalkLaw" 27 ⟨"CensusWalk", "isOpen", "(I)Z"⟩) ∈ lw_g := ms_t4 (List.mem_of_getElem? (i := 193) rfl) rfl
theorem kw_4_194 : (Cond.instanceMethod ⟨"CensusWalk", "isOpen", "(I)Z"⟩) ∈ lw_g := ms_t4 (List.mem_of_getElem? (i := 194) rfl) rfl
theorem kw_4_195 : (Cond.selects "CensusWalk" ⟨"CensusWalk", "isOpen", "(I)Z"⟩ ⟨"CensusWalk", "isOpen", "(I)Z"⟩) ∈ lw_g := ms_t4 (List.mem_of_getElem? (i := 195) rfl) rfl
theorem kw_4_196 : (Cond.code ⟨"CensusWalk", "isOpen", "(I)Z"⟩ prog_1_method_12_code 2 (some .boolean)) ∈ lw_g := ms_t4 (List.mem_of_getElem? (i := 196) rfl) rfl
theorem kw_4_197 : (Cond.methodLink "CensusWalk" 144 ⟨"CensusWalk", "checkStreet", "(I)V"⟩) ∈ lw_g := ms_t4 (List.mem_of_getElem? (i := 197) rfl) rfl
theorem kw_4_199 : (Cond.instanceMethod ⟨"CensusWalk", "checkStreet", "(I)V"⟩) ∈ lw_g := ms_t4 (List.mem_of_getElem? (i := 199) rfl) rfl
theorem kw_4_200 : (Cond.code ⟨"CensusWalk", "checkStreet", "(I)V"⟩ prog_1_method_41_code 2 none) ∈ lw_g := ms_t4 (List.mem_of_getElem? (i := 200) rfl) rfl
theorem kw_4_201 : (Cond.methodLink "CensusWalk" 272 ⟨"CensusWalk$Streets", "has", "(I)Z"⟩) ∈ lw_g := ms_t4 (List.mem_of_getElem? (i := 201) rfl) rfl
theorem kw_4_202 : (Cond.stringRef "CensusWalk" 276 "no such street") ∈ lw_tbl := ms_q4 (List.mem_of_getElem? (i := 202) rfl)
theorem kw_4_203 : (Cond.methodLink "CensusWalkLaw" 142 ⟨"CensusWalkLaw", "hasDog", "(LCensusWalk;I[J)I"⟩) ∈ lw_g := ms_t4 (List.mem_of_getElem? (i := 203) rfl) rfl
theorem kw_4_204 : (Cond.static ⟨"CensusWalkLaw", "hasDog", "(LCensusWalk;I[J)I"⟩) ∈ lw_g := ms_t4 (List.mem_of_getElem? (i := 204) rfl) rfl
theorem kw_4_205 : (Cond.codeWith ⟨"CensusWalkLaw", "hasDog", "(LCensusWalk;I[J)I"⟩ method_8_code 4 (some .int) [(0, 16, 19, 19)]) ∈ lw_g := ms_t4 (List.mem_of_getElem? (i := 205) rfl) rfl
theorem kw_4_206 : (Cond.methodLink "CensusWalkLaw" 31 ⟨"CensusWalk", "hasDog", "(I)Z"⟩) ∈ lw_g := ms_t4 (List.mem_of_getElem? (i := 206) rfl) rfl
theorem kw_4_207 : (Cond.instanceMethod ⟨"CensusWalk", "hasDog", "(I)Z"⟩) ∈ lw_g := ms_t4 (List.mem_of_getElem? (i := 207) rfl) rfl
theorem kw_4_208 : (Cond.selects "CensusWalk" ⟨"CensusWalk", "hasDog", "(I)Z"⟩ ⟨"CensusWalk", "hasDog", "(I)Z"⟩) ∈ lw_g := ms_t4 (List.mem_of_getElem? (i := 208) rfl) rfl
theorem kw_4_209 : (Cond.code ⟨"CensusWalk", "hasDog", "(I)Z"⟩ prog_1_method_13_code 2 (some .boolean)) ∈ lw_g := ms_t4 (List.mem_of_getElem? (i := 209) rfl) rfl
theorem kw_4_210 : (Cond.methodLink "CensusWalkLaw" 145 ⟨"CensusWalkLaw", "isHome", "(LCensusWalk;II[J)I"⟩) ∈ lw_g := ms_t4 (List.mem_of_getElem? (i := 210) rfl) rfl
theorem kw_4_211 : (Cond.static ⟨"CensusWalkLaw", "isHome", "(LCensusWalk;II[J)I"⟩) ∈ lw_g := ms_t4 (List.mem_of_getElem? (i := 211) rfl) rfl
theorem kw_4_212 : (Cond.codeWith ⟨"CensusWalkLaw", "isHome", "(LCensusWalk;II[J)I"⟩ method_9_code 5 (some .int) [(0, 17, 20, 19), (0, 17, 24, 13)]) ∈ lw_g := ms_t4 (List.mem_of_getElem? (i := 212) rfl) rfl
theorem kw_4_213 : (Cond.methodLink "CensusWalkLaw" 34 ⟨"CensusWalk", "isHome", "(II)Z"⟩) ∈ lw_g := ms_t4 (List.mem_of_getElem? (i := 213) rfl) rfl
theorem kw_4_214 : (Cond.instanceMethod ⟨"CensusWalk", "isHome", "(II)Z"⟩) ∈ lw_g := ms_t4 (List.mem_of_getElem? (i := 214) rfl) rfl
theorem kw_4_215 : (Cond.selects "CensusWalk" ⟨"CensusWalk", "isHome", "(II)Z"⟩ ⟨"CensusWalk", "isHome", "(II)Z"⟩) ∈ lw_g := ms_t4 (List.mem_of_getElem? (i := 215) rfl) rfl
theorem kw_4_216 : (Cond.code ⟨"CensusWalk", "isHome", "(II)Z"⟩ prog_1_method_14_code 3 (some .boolean)) ∈ lw_g := ms_t4 (List.mem_of_getElem? (i := 216) rfl) rfl
theorem kw_4_217 : (Cond.stringRef "CensusWalk" 154 "time is out of range") ∈ lw_tbl := ms_q4 (List.mem_of_getElem? (i := 217) rfl)
theorem kw_4_218 : (Cond.methodLink "CensusWalk" 156 ⟨"CensusWalk$Houses", "homeAt", "(II)Z"⟩) ∈ lw_g := ms_t4 (List.mem_of_getElem? (i := 218) rfl) rfl
theorem kw_4_219 : (Cond.methodLink "CensusWalkLaw" 148 ⟨"CensusWalkLaw", "duration", "(LCensusWalk;II[J)I"⟩) ∈ lw_g := ms_t4 (List.mem_of_getElem? (i := 219) rfl) rfl
theorem kw_4_220 : (Cond.static ⟨"CensusWalkLaw", "duration", "(LCensusWalk;II[J)I"⟩) ∈ lw_g := ms_t4 (List.mem_of_getElem? (i := 220) rfl) rfl
theorem kw_4_221 : (Cond.codeWith ⟨"CensusWalkLaw", "duration", "(LCensusWalk;II[J)I"⟩ method_10_code 5 (some .int) [(0, 10, 13, 19), (0, 10, 17, 13)]) ∈ lw_g := ms_t4 (List.mem_of_getElem? (i := 221) rfl) rfl
theorem kw_4_222 : (Cond.methodLink "CensusWalkLaw" 38 ⟨"CensusWalk", "duration", "(II)I"⟩) ∈ lw_g := ms_t4 (List.mem_of_getElem? (i := 222) rfl) rfl
theorem kw_4_223 : (Cond.instanceMethod ⟨"CensusWalk", "duration", "(II)I"⟩) ∈ lw_g := ms_t4 (List.mem_of_getElem? (i := 223) rfl) rfl
theorem kw_4_224 : (Cond.selects "CensusWalk" ⟨"CensusWalk", "duration", "(II)I"⟩ ⟨"CensusWalk", "duration", "(II)I"⟩) ∈ lw_g := ms_t4 (List.mem_of_getElem? (i := 224) rfl) rfl
theorem kw_4_225 : (Cond.code ⟨"CensusWalk", "duration", "(II)I"⟩ prog_1_method_15_code 3 (some .int)) ∈ lw_g := ms_t4 (List.mem_of_getElem? (i := 225) rfl) rfl
theorem kw_4_226 : (Cond.stringRef "CensusWalk" 160 "call is not 1 or 2") ∈ lw_tbl := ms_q4 (List.mem_of_getElem? (i := 226) rfl)
theorem kw_4_227 : (Cond.methodLink "CensusWalk" 162 ⟨"CensusWalk$Houses", "visitTime", "(II)I"⟩) ∈ lw_g := ms_t4 (List.mem_of_getElem? (i := 227) rfl) rfl
theorem kw_4_228 : (Cond.methodLink "CensusWalkLaw" 151 ⟨"CensusWalkLaw", "planLength", "(LCensusWalk;I[J)I"⟩) ∈ lw_g := ms_t4 (List.mem_of_getElem? (i := 228) rfl) rfl
theorem kw_4_229 : (Cond.static ⟨"CensusWalkLaw", "planLength", "(LCensusWalk;I[J)I"⟩) ∈ lw_g := ms_t4 (List.mem_of_getElem? (i := 229) rfl) rfl
theorem kw_4_230 : (Cond.codeWith ⟨"CensusWalkLaw", "planLength", "(LCensusWalk;I[J)I"⟩ method_11_code 4 (some .int) [(0, 9, 12, 19)]) ∈ lw_g := ms_t4 (List.mem_of_getElem? (i := 230) rfl) rfl
theorem kw_4_231 : (Cond.methodLink "CensusWalkLaw" 41 ⟨"CensusWalk", "planLength", "(I)I"⟩) ∈ lw_g := ms_t4 (List.mem_of_getElem? (i := 231) rfl) rfl
theorem kw_4_232 : (Cond.instanceMethod ⟨"CensusWalk", "planLength", "(I)I"⟩) ∈ lw_g := ms_t4 (List.mem_of_getElem? (i := 232) rfl) rfl
theorem kw_4_233 : (Cond.selects "CensusWalk" ⟨"CensusWalk", "planLength", "(I)I"⟩ ⟨"CensusWalk", "planLength", "(I)I"⟩) ∈ lw_g := ms_t4 (List.mem_of_getElem? (i := 233) rfl) rfl
theorem kw_4_234 : (Cond.code ⟨"CensusWalk", "planLength", "(I)I"⟩ prog_1_method_16_code 2 (some .int)) ∈ lw_g := ms_t4 (List.mem_of_getElem? (i := 234) rfl) rfl
theorem kw_4_235 : (Cond.methodLink "CensusWalk" 166 ⟨"CensusWalk", "checkWalker", "(I)V"⟩) ∈ lw_g := ms_t4 (List.mem_of_getElem? (i := 235) rfl) rfl
theorem kw_4_237 : (Cond.instanceMethod ⟨"CensusWalk", "checkWalker", "(I)V"⟩) ∈ lw_g := ms_t4 (List.mem_of_getElem? (i := 237) rfl) rfl
theorem kw_4_238 : (Cond.code ⟨"CensusWalk", "checkWalker", "(I)V"⟩ prog_1_method_43_code 2 none) ∈ lw_g := ms_t4 (List.mem_of_getElem? (i := 238) rfl) rfl
theorem kw_4_239 : (Cond.methodLink "CensusWalk" 281 ⟨"CensusWalk$Walkers", "has", "(I)Z"⟩) ∈ lw_g := ms_t4 (List.mem_of_getElem? (i := 239) rfl) rfl
theorem kw_5_0 : (Cond.stringRef "CensusWalk" 282 "no such walker") ∈ lw_tbl := ms_q5 (List.mem_of_getElem? (i := 0) rfl)
theorem kw_5_1 : (Cond.methodLink "CensusWalkLaw" 154 ⟨"CensusWalkLaw", "planned", "(LCensusWalk;II[J)I"⟩) ∈ lw_g := ms_t5 (List.mem_of_getElem? (i := 1) rfl) rfl
theorem kw_5_2 : (Cond.static ⟨"CensusWalkLaw", "planned", "(LCensusWalk;II[J)I"⟩) ∈ lw_g := ms_t5 (List.mem_of_getElem? (i := 2) rfl) rfl
theorem kw_5_3 : (Cond.codeWith ⟨"CensusWalkLaw", "planned", "(LCensusWalk;II[J)I"⟩ method_12_code 5 (some .int) [(0, 10, 13, 19)]) ∈ lw_g := ms_t5 (List.mem_of_getElem? (i := 3) rfl) rfl
theorem kw_5_4 : (Cond.methodLink "CensusWalkLaw" 44 ⟨"CensusWalk", "planned", "(II)I"⟩) ∈ lw_g := ms_t5 (List.mem_of_getElem? (i := 4) rfl) rfl
theorem kw_5_5 : (Cond.instanceMethod ⟨"CensusWalk", "planned", "(II)I"⟩) ∈ lw_g := ms_t5 (List.mem_of_getElem? (i := 5) rfl) rfl
theorem kw_5_6 : (Cond.selects "CensusWalk" ⟨"CensusWalk", "planned", "(II)I"⟩ ⟨"CensusWalk", "planned", "(II)I"⟩) ∈ lw_g := ms_t5 (List.mem_of_getElem? (i := 6) rfl) rfl
theorem kw_5_7 : (Cond.code ⟨"CensusWalk", "planned", "(II)I"⟩ prog_1_method_17_code 3 (some .int)) ∈ lw_g := ms_t5 (List.mem_of_getElem? (i := 7) rfl) rfl
theorem kw_5_8 : (Cond.methodLink "CensusWalk" 172 ⟨"CensusWalk", "checkPlanIndex", "(II)V"⟩) ∈ lw_g := ms_t5 (List.mem_of_getElem? (i := 8) rfl) rfl
theorem kw_5_10 : (Cond.instanceMethod ⟨"CensusWalk", "checkPlanIndex", "(II)V"⟩) ∈ lw_g := ms_t5 (List.mem_of_getElem? (i := 10) rfl) rfl
theorem kw_5_11 : (Cond.code ⟨"CensusWalk", "checkPlanIndex", "(II)V"⟩ prog_1_method_44_code 3 none) ∈ lw_g := ms_t5 (List.mem_of_getElem? (i := 11) rfl) rfl
theorem kw_5_12 : (Cond.stringRef "CensusWalk" 284 "no such index in the plan") ∈ lw_tbl := ms_q5 (List.mem_of_getElem? (i := 12) rfl)
theorem kw_5_13 : (Cond.methodLink "CensusWalkLaw" 157 ⟨"CensusWalkLaw", "result", "(LCensusWalk;II[J)I"⟩) ∈ lw_g := ms_t5 (List.mem_of_getElem? (i := 13) rfl) rfl
theorem kw_5_14 : (Cond.static ⟨"CensusWalkLaw", "result", "(LCensusWalk;II[J)I"⟩) ∈ lw_g := ms_t5 (List.mem_of_getElem? (i := 14) rfl) rfl
theorem kw_5_15 : (Cond.codeWith ⟨"CensusWalkLaw", "result", "(LCensusWalk;II[J)I"⟩ method_13_code 5 (some .int) [(0, 10, 13, 19)]) ∈ lw_g := ms_t5 (List.mem_of_getElem? (i := 15) rfl) rfl
theorem kw_5_16 : (Cond.methodLink "CensusWalkLaw" 47 ⟨"CensusWalk", "result", "(II)I"⟩) ∈ lw_g := ms_t5 (List.mem_of_getElem? (i := 16) rfl) rfl
theorem kw_5_17 : (Cond.instanceMethod ⟨"CensusWalk", "result", "(II)I"⟩) ∈ lw_g := ms_t5 (List.mem_of_getElem? (i := 17) rfl) rfl
theorem kw_5_18 : (Cond.selects "CensusWalk" ⟨"CensusWalk", "result", "(II)I"⟩ ⟨"CensusWalk", "result", "(II)I"⟩) ∈ lw_g := ms_t5 (List.mem_of_getElem? (i := 18) rfl) rfl
theorem kw_5_19 : (Cond.code ⟨"CensusWalk", "result", "(II)I"⟩ prog_1_method_18_code 3 (some .int)) ∈ lw_g := ms_t5 (List.mem_of_getElem? (i := 19) rfl) rfl
theorem kw_5_20 : (Cond.methodLink "CensusWalkLaw" 160 ⟨"CensusWalkLaw", "arrival", "(LCensusWalk;II[J)I"⟩) ∈ lw_g := ms_t5 (List.mem_of_getElem? (i := 20) rfl) rfl
theorem kw_5_21 : (Cond.static ⟨"CensusWalkLaw", "arrival", "(LCensusWalk;II[J)I"⟩) ∈ lw_g := ms_t5 (List.mem_of_getElem? (i := 21) rfl) rfl
theorem kw_5_22 : (Cond.codeWith ⟨"CensusWalkLaw", "arrival", "(LCensusWalk;II[J)I"⟩ method_14_code 5 (some .int) [(0, 10, 13, 19)]) ∈ lw_g := ms_t5 (List.mem_of_getElem? (i := 22) rfl) rfl
theorem kw_5_23 : (Cond.methodLink "CensusWalkLaw" 50 ⟨"CensusWalk", "arrival", "(II)I"⟩) ∈ lw_g := ms_t5 (List.mem_of_getElem? (i := 23) rfl) rfl
theorem kw_5_24 : (Cond.instanceMethod ⟨"CensusWalk", "arrival", "(II)I"⟩) ∈ lw_g := ms_t5 (List.mem_of_getElem? (i := 24) rfl) rfl
theorem kw_5_25 : (Cond.selects "CensusWalk" ⟨"CensusWalk", "arrival", "(II)I"⟩ ⟨"CensusWalk", "arrival", "(II)I"⟩) ∈ lw_g := ms_t5 (List.mem_of_getElem? (i := 25) rfl) rfl
theorem kw_5_26 : (Cond.code ⟨"CensusWalk", "arrival", "(II)I"⟩ prog_1_method_19_code 3 (some .int)) ∈ lw_g := ms_t5 (List.mem_of_getElem? (i := 26) rfl) rfl
theorem kw_5_27 : (Cond.methodLink "CensusWalkLaw" 163 ⟨"CensusWalkLaw", "finish", "(LCensusWalk;I[J)I"⟩) ∈ lw_g := ms_t5 (List.mem_of_getElem? (i := 27) rfl) rfl
theorem kw_5_28 : (Cond.static ⟨"CensusWalkLaw", "finish", "(LCensusWalk;I[J)I"⟩) ∈ lw_g := ms_t5 (List.mem_of_getElem? (i := 28) rfl) rfl
theorem kw_5_29 : (Cond.codeWith ⟨"CensusWalkLaw", "finish", "(LCensusWalk;I[J)I"⟩ method_15_code 4 (some .int) [(0, 9, 12, 19)]) ∈ lw_g := ms_t5 (List.mem_of_getElem? (i := 29) rfl) rfl
theorem kw_5_30 : (Cond.methodLink "CensusWalkLaw" 53 ⟨"CensusWalk", "finish", "(I)I"⟩) ∈ lw_g := ms_t5 (List.mem_of_getElem? (i := 30) rfl) rfl
theorem kw_5_31 : (Cond.instanceMethod ⟨"CensusWalk", "finish", "(I)I"⟩) ∈ lw_g := ms_t5 (List.mem_of_getElem? (i := 31) rfl) rfl
theorem kw_5_32 : (Cond.selects "CensusWalk" ⟨"CensusWalk", "finish", "(I)I"⟩ ⟨"CensusWalk", "finish", "(I)I"⟩) ∈ lw_g := ms_t5 (List.mem_of_getElem? (i := 32) rfl) rfl
theorem kw_5_33 : (Cond.code ⟨"CensusWalk", "finish", "(I)I"⟩ prog_1_method_20_code 2 (some .int)) ∈ lw_g := ms_t5 (List.mem_of_getElem? (i := 33) rfl) rfl
theorem kw_5_34 : (Cond.methodLink "CensusWalkLaw" 178 ⟨"CensusWalkLaw", "calls", "(LCensusWalk;I[J)I"⟩) ∈ lw_g := ms_t5 (List.mem_of_getElem? (i := 34) rfl) rfl
theorem kw_5_35 : (Cond.static ⟨"CensusWalkLaw", "calls", "(LCensusWalk;I[J)I"⟩) ∈ lw_g := ms_t5 (List.mem_of_getElem? (i := 35) rfl) rfl
theorem kw_5_36 : (Cond.codeWith ⟨"CensusWalkLaw", "calls", "(LCensusWalk;I[J)I"⟩ method_16_code 4 (some .int) [(0, 9, 12, 19)]) ∈ lw_g := ms_t5 (List.mem_of_getElem? (i := 36) rfl) rfl
theorem kw_5_37 : (Cond.methodLink "CensusWalkLaw" 56 ⟨"CensusWalk", "calls", "(I)I"⟩) ∈ lw_g := ms_t5 (List.mem_of_getElem? (i := 37) rfl) rfl
theorem kw_5_38 : (Cond.instanceMethod ⟨"CensusWalk", "calls", "(I)I"⟩) ∈ lw_g := ms_t5 (List.mem_of_getElem? (i := 38) rfl) rfl
theorem kw_5_39 : (Cond.selects "CensusWalk" ⟨"CensusWalk", "calls", "(I)I"⟩ ⟨"CensusWalk", "calls", "(I)I"⟩) ∈ lw_g := ms_t5 (List.mem_of_getElem? (i := 39) rfl) rfl
theorem kw_5_40 : (Cond.code ⟨"CensusWalk", "calls", "(I)I"⟩ prog_1_method_24_code 2 (some .int)) ∈ lw_g := ms_t5 (List.mem_of_getElem? (i := 40) rfl) rfl
theorem kw_5_41 : (Cond.methodLink "CensusWalkLaw" 181 ⟨"CensusWalkLaw", "soonest", "(LCensusWalk;II[J)I"⟩) ∈ lw_g := ms_t5 (List.mem_of_getElem? (i := 41) rfl) rfl
theorem kw_5_42 : (Cond.static ⟨"CensusWalkLaw", "soonest", "(LCensusWalk;II[J)I"⟩) ∈ lw_g := ms_t5 (List.mem_of_getElem? (i := 42) rfl) rfl
theorem kw_5_43 : (Cond.codeWith ⟨"CensusWalkLaw", "soonest", "(LCensusWalk;II[J)I"⟩ method_17_code 5 (some .int) [(0, 10, 13, 19), (0, 10, 17, 13)]) ∈ lw_g := ms_t5 (List.mem_of_getElem? (i := 43) rfl) rfl
theorem kw_5_44 : (Cond.methodLink "CensusWalkLaw" 59 ⟨"CensusWalk", "soonest", "(II)I"⟩) ∈ lw_g := ms_t5 (List.mem_of_getElem? (i := 44) rfl) rfl
theorem kw_5_45 : (Cond.instanceMethod ⟨"CensusWalk", "soonest", "(II)I"⟩) ∈ lw_g := ms_t5 (List.mem_of_getElem? (i := 45) rfl) rfl
theorem kw_5_46 : (Cond.selects "CensusWalk" ⟨"CensusWalk", "soonest", "(II)I"⟩ ⟨"CensusWalk", "soonest", "(II)I"⟩) ∈ lw_g := ms_t5 (List.mem_of_getElem? (i := 46) rfl) rfl
theorem kw_5_47 : (Cond.code ⟨"CensusWalk", "soonest", "(II)I"⟩ prog_1_method_25_code 3 (some .int)) ∈ lw_g := ms_t5 (List.mem_of_getElem? (i := 47) rfl) rfl
theorem kw_5_48 : (Cond.methodLink "CensusWalk" 208 ⟨"CensusWalk", "checkSet", "(I)V"⟩) ∈ lw_g := ms_t5 (List.mem_of_getElem? (i := 48) rfl) rfl
theorem kw_5_50 : (Cond.instanceMethod ⟨"CensusWalk", "checkSet", "(I)V"⟩) ∈ lw_g := ms_t5 (List.mem_of_getElem? (i := 50) rfl) rfl
theorem kw_5_51 : (Cond.code ⟨"CensusWalk", "checkSet", "(I)V"⟩ prog_1_method_45_code 2 none) ∈ lw_g := ms_t5 (List.mem_of_getElem? (i := 51) rfl) rfl
theorem kw_5_52 : (Cond.methodLink "CensusWalk" 255 ⟨"java/lang/Integer", "bitCount", "(I)I"⟩) ∈ lw_g := ms_t5 (List.mem_of_getElem? (i := 52) rfl) rfl
theorem kw_5_53 : (Cond.static ⟨"java/lang/Integer", "bitCount", "(I)I"⟩) ∈ lw_g := ms_t5 (List.mem_of_getElem? (i := 53) rfl) rfl
theorem kw_5_54 : (Cond.code ⟨"java/lang/Integer", "bitCount", "(I)I"⟩ prog_18_method_49_code 1 (some .int)) ∈ lw_g := ms_t5 (List.mem_of_getElem? (i := 54) rfl) rfl
theorem kw_5_55 : (Cond.constant "java/lang/Integer" 265 (1431655765 : Int32)) ∈ lw_g := ms_t5 (List.mem_of_getElem? (i := 55) rfl) rfl
theorem kw_5_56 : (Cond.constant "java/lang/Integer" 266 (858993459 : Int32)) ∈ lw_g := ms_t5 (List.mem_of_getElem? (i := 56) rfl) rfl
theorem kw_5_57 : (Cond.constant "java/lang/Integer" 267 (252645135 : Int32)) ∈ lw_g := ms_t5 (List.mem_of_getElem? (i := 57) rfl) rfl
theorem kw_5_58 : (Cond.stringRef "CensusWalk" 286 "no such set of houses") ∈ lw_tbl := ms_q5 (List.mem_of_getElem? (i := 58) rfl)
theorem kw_5_59 : (Cond.methodLink "CensusWalk" 211 ⟨"CensusWalk$Search", "soonestEnd", "(LCensusWalk$Town;LCensusWalk$Routes;II)I"⟩) ∈ lw_g := ms_t5 (List.mem_of_getElem? (i := 59) rfl) rfl
theorem kw_5_60 : (Cond.instanceMethod ⟨"CensusWalk$Search", "soonestEnd", "(LCensusWalk$Town;LCensusWalk$Routes;II)I"⟩) ∈ lw_g := ms_t5 (List.mem_of_getElem? (i := 60) rfl) rfl
theorem kw_5_61 : (Cond.selects "CensusWalk$Search" ⟨"CensusWalk$Search", "soonestEnd", "(LCensusWalk$Town;LCensusWalk$Routes;II)I"⟩ ⟨"CensusWalk$Search", "soonestEnd", "(LCensusWalk$Town;LCensusWalk$Routes;II)I"⟩) ∈ lw_g := ms_t5 (List.mem_of_getElem? (i := 61) rfl) rfl
theorem kw_5_62 : (Cond.code ⟨"CensusWalk$Search", "soonestEnd", "(LCensusWalk$Town;LCensusWalk$Routes;II)I"⟩ prog_4_method_2_code 5 (some .int)) ∈ lw_g := ms_t5 (List.mem_of_getElem? (i := 62) rfl) rfl
theorem kw_5_63 : (Cond.methodLink "CensusWalk$Search" 61 ⟨"CensusWalk$Search", "choose", "(LCensusWalk$Town;LCensusWalk$Routes;I)V"⟩) ∈ lw_g := ms_t5 (List.mem_of_getElem? (i := 63) rfl) rfl
theorem kw_5_65 : (Cond.instanceMethod ⟨"CensusWalk$Search", "choose", "(LCensusWalk$Town;LCensusWalk$Routes;I)V"⟩) ∈ lw_g := ms_t5 (List.mem_of_getElem? (i := 65) rfl) rfl
theorem kw_5_66 : (Cond.code ⟨"CensusWalk$Search", "choose", "(LCensusWalk$Town;LCensusWalk$Routes;I)V"⟩ prog_4_method_6_code 6 none) ∈ lw_g := ms_t5 (List.mem_of_getElem? (i := 66) rfl) rfl
theorem kw_5_67 : (Cond.methodLinkNest "CensusWalk$Search" 104 ⟨"CensusWalk", "contains", "(II)Z"⟩ "CensusWalk") ∈ lw_tbl := ms_q5 (List.mem_of_getElem? (i := 67) rfl)
theorem kw_5_68 : (Cond.methodLink "CensusWalk$Search" 121 ⟨"CensusWalk$Houses", "visitTime", "(II)I"⟩) ∈ lw_g := ms_t5 (List.mem_of_getElem? (i := 68) rfl) rfl
theorem kw_5_69 : (Cond.methodLink "CensusWalk$Search" 124 ⟨"CensusWalk$Routes", "betweenHouses", "(LCensusWalk$Town;II)I"⟩) ∈ lw_g := ms_t5 (List.mem_of_getElem? (i := 69) rfl) rfl
theorem kw_5_70 : (Cond.methodLink "CensusWalk$Search" 65 ⟨"CensusWalk$Search", "beginAt", "(LCensusWalk$Town;LCensusWalk$Routes;I)V"⟩) ∈ lw_g := ms_t5 (List.mem_of_getElem? (i := 70) rfl) rfl
theorem kw_5_72 : (Cond.instanceMethod ⟨"CensusWalk$Search", "beginAt", "(LCensusWalk$Town;LCensusWalk$Routes;I)V"⟩) ∈ lw_g := ms_t5 (List.mem_of_getElem? (i := 72) rfl) rfl
theorem kw_5_73 : (Cond.code ⟨"CensusWalk$Search", "beginAt", "(LCensusWalk$Town;LCensusWalk$Routes;I)V"⟩ prog_4_method_7_code 5 none) ∈ lw_g := ms_t5 (List.mem_of_getElem? (i := 73) rfl) rfl
theorem kw_5_74 : (Cond.methodLink "CensusWalk$Search" 130 ⟨"CensusWalk$Walkers", "has", "(I)Z"⟩) ∈ lw_g := ms_t5 (List.mem_of_getElem? (i := 74) rfl) rfl
theorem kw_5_75 : (Cond.methodLink "CensusWalk$Search" 140 ⟨"CensusWalk$Routes", "fromCrossing", "(LCensusWalk$Town;II)I"⟩) ∈ lw_g := ms_t5 (List.mem_of_getElem? (i := 75) rfl) rfl
theorem kw_5_76 : (Cond.methodLink "CensusWalk$Search" 68 ⟨"CensusWalk$Search", "findEarly", "()V"⟩) ∈ lw_g := ms_t5 (List.mem_of_getElem? (i := 76) rfl) rfl
theorem kw_5_78 : (Cond.instanceMethod ⟨"CensusWalk$Search", "findEarly", "()V"⟩) ∈ lw_g := ms_t5 (List.mem_of_getElem? (i := 78) rfl) rfl
theorem kw_5_79 : (Cond.code ⟨"CensusWalk$Search", "findEarly", "()V"⟩ prog_4_method_8_code 3 none) ∈ lw_g := ms_t5 (List.mem_of_getElem? (i := 79) rfl) rfl
theorem kw_5_80 : (Cond.methodLink "CensusWalk$Search" 143 ⟨"CensusWalk$Search", "earliestAfter", "(II)I"⟩) ∈ lw_g := ms_t5 (List.mem_of_getElem? (i := 80) rfl) rfl
theorem kw_5_82 : (Cond.instanceMethod ⟨"CensusWalk$Search", "earliestAfter", "(II)I"⟩) ∈ lw_g := ms_t5 (List.mem_of_getElem? (i := 82) rfl) rfl
theorem kw_5_83 : (Cond.code ⟨"CensusWalk$Search", "earliestAfter", "(II)I"⟩ prog_4_method_9_code 6 (some .int)) ∈ lw_g := ms_t5 (List.mem_of_getElem? (i := 83) rfl) rfl
theorem kw_5_84 : (Cond.methodLink "CensusWalk$Search" 87 ⟨"CensusWalk$Search", "visitEnd", "(III)I"⟩) ∈ lw_g := ms_t5 (List.mem_of_getElem? (i := 84) rfl) rfl
theorem kw_5_86 : (Cond.instanceMethod ⟨"CensusWalk$Search", "visitEnd", "(III)I"⟩) ∈ lw_g := ms_t5 (List.mem_of_getElem? (i := 86) rfl) rfl
theorem kw_5_87 : (Cond.code ⟨"CensusWalk$Search", "visitEnd", "(III)I"⟩ prog_4_method_12_code 4 (some .int)) ∈ lw_g := ms_t5 (List.mem_of_getElem? (i := 87) rfl) rfl
theorem kw_5_88 : (Cond.methodLink "CensusWalk$Search" 154 ⟨"java/lang/Math", "max", "(II)I"⟩) ∈ lw_g := ms_t5 (List.mem_of_getElem? (i := 88) rfl) rfl
theorem kw_5_89 : (Cond.methodLink "CensusWalk$Search" 146 ⟨"CensusWalk$Search", "earlier", "(II)I"⟩) ∈ lw_g := ms_t5 (List.mem_of_getElem? (i := 89) rfl) rfl
theorem kw_5_90 : (Cond.static ⟨"CensusWalk$Search", "earlier", "(II)I"⟩) ∈ lw_g := ms_t5 (List.mem_of_getElem? (i := 90) rfl) rfl
theorem kw_5_91 : (Cond.code ⟨"CensusWalk$Search", "earlier", "(II)I"⟩ prog_4_method_11_code 2 (some .int)) ∈ lw_g := ms_t5 (List.mem_of_getElem? (i := 91) rfl) rfl
theorem kw_5_92 : (Cond.methodLink "CensusWalk$Search" 149 ⟨"java/lang/Math", "min", "(II)I"⟩) ∈ lw_g := ms_t5 (List.mem_of_getElem? (i := 92) rfl) rfl
theorem kw_5_93 : (Cond.methodLink "CensusWalk$Search" 71 ⟨"CensusWalk$Search", "earliestEnd", "(I)I"⟩) ∈ lw_g := ms_t5 (List.mem_of_getElem? (i := 93) rfl) rfl
theorem kw_5_95 : (Cond.instanceMethod ⟨"CensusWalk$Search", "earliestEnd", "(I)I"⟩) ∈ lw_g := ms_t5 (List.mem_of_getElem? (i := 95) rfl) rfl
theorem kw_5_96 : (Cond.code ⟨"CensusWalk$Search", "earliestEnd", "(I)I"⟩ prog_4_method_10_code 4 (some .int)) ∈ lw_g := ms_t5 (List.mem_of_getElem? (i := 96) rfl) rfl
theorem kw_5_97 : (Cond.methodLink "CensusWalkLaw" 184 ⟨"CensusWalkLaw", "soonestOrder", "(LCensusWalk;III[J)I"⟩) ∈ lw_g := ms_t5 (List.mem_of_getElem? (i := 97) rfl) rfl
theorem kw_5_98 : (Cond.static ⟨"CensusWalkLaw", "soonestOrder", "(LCensusWalk;III[J)I"⟩) ∈ lw_g := ms_t5 (List.mem_of_getElem? (i := 98) rfl) rfl
theorem kw_5_99 : (Cond.codeWith ⟨"CensusWalkLaw", "soonestOrder", "(LCensusWalk;III[J)I"⟩ method_18_code 6 (some .int) [(0, 12, 15, 19), (0, 12, 19, 13)]) ∈ lw_g := ms_t5 (List.mem_of_getElem? (i := 99) rfl) rfl
theorem kw_5_100 : (Cond.methodLink "CensusWalkLaw" 62 ⟨"CensusWalk", "soonestOrder", "(III)I"⟩) ∈ lw_g := ms_t5 (List.mem_of_getElem? (i := 100) rfl) rfl
theorem kw_5_101 : (Cond.instanceMethod ⟨"CensusWalk", "soonestOrder", "(III)I"⟩) ∈ lw_g := ms_t5 (List.mem_of_getElem? (i := 101) rfl) rfl
theorem kw_5_102 : (Cond.selects "CensusWalk" ⟨"CensusWalk", "soonestOrder", "(III)I"⟩ ⟨"CensusWalk", "soonestOrder", "(III)I"⟩) ∈ lw_g := ms_t5 (List.mem_of_getElem? (i := 102) rfl) rfl
theorem kw_5_103 : (Cond.code ⟨"CensusWalk", "soonestOrder", "(III)I"⟩ prog_1_method_26_code 5 (some .int)) ∈ lw_g := ms_t5 (List.mem_of_getElem? (i := 103) rfl) rfl
theorem kw_5_104 : (Cond.stringRef "CensusWalk" 215 "k is negative") ∈ lw_tbl := ms_q5 (List.mem_of_getElem? (i := 104) rfl)
theorem kw_5_105 : (Cond.methodLink "CensusWalk" 220 ⟨"CensusWalk$Search", "findOrder", "(I)V"⟩) ∈ lw_g := ms_t5 (List.mem_of_getElem? (i := 105) rfl) rfl
theorem kw_5_106 : (Cond.instanceMethod ⟨"CensusWalk$Search", "findOrder", "(I)V"⟩) ∈ lw_g := ms_t5 (List.mem_of_getElem? (i := 106) rfl) rfl
theorem kw_5_107 : (Cond.selects "CensusWalk$Search" ⟨"CensusWalk$Search", "findOrder", "(I)V"⟩ ⟨"CensusWalk$Search", "findOrder", "(I)V"⟩) ∈ lw_g := ms_t5 (List.mem_of_getElem? (i := 107) rfl) rfl
theorem kw_5_108 : (Cond.code ⟨"CensusWalk$Search", "findOrder", "(I)V"⟩ prog_4_method_3_code 7 none) ∈ lw_g := ms_t5 (List.mem_of_getElem? (i := 108) rfl) rfl
theorem kw_5_109 : (Cond.methodLink "CensusWalk$Search" 75 ⟨"CensusWalk$Search", "findLate", "(I)V"⟩) ∈ lw_g := ms_t5 (List.mem_of_getElem? (i := 109) rfl) rfl
theorem kw_5_111 : (Cond.instanceMethod ⟨"CensusWalk$Search", "findLate", "(I)V"⟩) ∈ lw_g := ms_t5 (List.mem_of_getElem? (i := 111) rfl) rfl
theorem kw_5_112 : (Cond.code ⟨"CensusWalk$Search", "findLate", "(I)V"⟩ prog_4_method_14_code 4 none) ∈ lw_g := ms_t5 (List.mem_of_getElem? (i := 112) rfl) rfl
theorem kw_5_113 : (Cond.methodLink "CensusWalk$Search" 157 ⟨"CensusWalk$Search", "latestLeave", "(II)I"⟩) ∈ lw_g := ms_t5 (List.mem_of_getElem? (i := 113) rfl) rfl
theorem kw_5_115 : (Cond.instanceMethod ⟨"CensusWalk$Search", "latestLeave", "(II)I"⟩) ∈ lw_g := ms_t5 (List.mem_of_getElem? (i := 115) rfl) rfl
theorem kw_5_116 : (Cond.code ⟨"CensusWalk$Search", "latestLeave", "(II)I"⟩ prog_4_method_15_code 7 (some .int)) ∈ lw_g := ms_t5 (List.mem_of_getElem? (i := 116) rfl) rfl
theorem kw_5_117 : (Cond.methodLink "CensusWalk$Search" 160 ⟨"CensusWalk$Search", "latestCall", "(II)I"⟩) ∈ lw_g := ms_t5 (List.mem_of_getElem? (i := 117) rfl) rfl
theorem kw_5_119 : (Cond.instanceMethod ⟨"CensusWalk$Search", "latestCall", "(II)I"⟩) ∈ lw_g := ms_t5 (List.mem_of_getElem? (i := 119) rfl) rfl
theorem kw_5_120 : (Cond.code ⟨"CensusWalk$Search", "latestCall", "(II)I"⟩ prog_4_method_16_code 4 (some .int)) ∈ lw_g := ms_t5 (List.mem_of_getElem? (i := 120) rfl) rfl
theorem kw_5_121 : (Cond.methodLink "CensusWalk$Search" 79 ⟨"CensusWalk$Search", "firstInTime", "(III)I"⟩) ∈ lw_g := ms_t5 (List.mem_of_getElem? (i := 121) rfl) rfl
theorem kw_5_123 : (Cond.instanceMethod ⟨"CensusWalk$Search", "firstInTime", "(III)I"⟩) ∈ lw_g := ms_t5 (List.mem_of_getElem? (i := 123) rfl) rfl
theorem kw_5_124 : (Cond.code ⟨"CensusWalk$Search", "firstInTime", "(III)I"⟩ prog_4_method_17_code 6 (some .int)) ∈ lw_g := ms_t5 (List.mem_of_getElem? (i := 124) rfl) rfl
theorem kw_5_125 : (Cond.methodLink "CensusWalk$Search" 83 ⟨"CensusWalk$Search", "wayTo", "(II)I"⟩) ∈ lw_g := ms_t5 (List.mem_of_getElem? (i := 125) rfl) rfl
theorem kw_5_127 : (Cond.instanceMethod ⟨"CensusWalk$Search", "wayTo", "(II)I"⟩) ∈ lw_g := ms_t5 (List.mem_of_getElem? (i := 127) rfl) rfl
theorem kw_5_128 : (Cond.code ⟨"CensusWalk$Search", "wayTo", "(II)I"⟩ prog_4_method_13_code 3 (some .int)) ∈ lw_g := ms_t5 (List.mem_of_getElem? (i := 128) rfl) rfl
theorem kw_5_129 : (Cond.methodLink "CensusWalkLaw" 188 ⟨"CensusWalkLaw", "division", "(LCensusWalk;I[J)I"⟩) ∈ lw_g := ms_t5 (List.mem_of_getElem? (i := 129) rfl) rfl
theorem kw_5_130 : (Cond.static ⟨"CensusWalkLaw", "division", "(LCensusWalk;I[J)I"⟩) ∈ lw_g := ms_t5 (List.mem_of_getElem? (i := 130) rfl) rfl
theorem kw_5_131 : (Cond.codeWith ⟨"CensusWalkLaw", "division", "(LCensusWalk;I[J)I"⟩ method_19_code 4 (some .int) [(0, 9, 12, 13)]) ∈ lw_g := ms_t5 (List.mem_of_getElem? (i := 131) rfl) rfl
theorem kw_5_132 : (Cond.methodLink "CensusWalkLaw" 66 ⟨"CensusWalk", "division", "(I)I"⟩) ∈ lw_g := ms_t5 (List.mem_of_getElem? (i := 132) rfl) rfl
theorem kw_5_133 : (Cond.instanceMethod ⟨"CensusWalk", "division", "(I)I"⟩) ∈ lw_g := ms_t5 (List.mem_of_getElem? (i := 133) rfl) rfl
theorem kw_5_134 : (Cond.selects "CensusWalk" ⟨"CensusWalk", "division", "(I)I"⟩ ⟨"CensusWalk", "division", "(I)I"⟩) ∈ lw_g := ms_t5 (List.mem_of_getElem? (i := 134) rfl) rfl
theorem kw_5_135 : (Cond.code ⟨"CensusWalk", "division", "(I)I"⟩ prog_1_method_27_code 2 (some .int)) ∈ lw_g := ms_t5 (List.mem_of_getElem? (i := 135) rfl) rfl
theorem kw_5_136 : (Cond.methodLink "CensusWalk" 226 ⟨"CensusWalk$Search", "divide", "(LCensusWalk$Town;LCensusWalk$Routes;I)V"⟩) ∈ lw_g := ms_t5 (List.mem_of_getElem? (i := 136) rfl) rfl
theorem kw_5_137 : (Cond.instanceMethod ⟨"CensusWalk$Search", "divide", "(LCensusWalk$Town;LCensusWalk$Routes;I)V"⟩) ∈ lw_g := ms_t5 (List.mem_of_getElem? (i := 137) rfl) rfl
theorem kw_5_138 : (Cond.selects "CensusWalk$Search" ⟨"CensusWalk$Search", "divide", "(LCensusWalk$Town;LCensusWalk$Routes;I)V"⟩ ⟨"CensusWalk$Search", "divide", "(LCensusWalk$Town;LCensusWalk$Routes;I)V"⟩) ∈ lw_g := ms_t5 (List.mem_of_getElem? (i := 138) rfl) rfl
theorem kw_5_139 : (Cond.code ⟨"CensusWalk$Search", "divide", "(LCensusWalk$Town;LCensusWalk$Routes;I)V"⟩ prog_4_method_4_code 6 none) ∈ lw_g := ms_t5 (List.mem_of_getElem? (i := 139) rfl) rfl
theorem kw_5_140 : (Cond.methodLink "CensusWalk$Search" 101 ⟨"CensusWalk$Search", "giveFrom", "(I)V"⟩) ∈ lw_g := ms_t5 (List.mem_of_getElem? (i := 140) rfl) rfl
theorem kw_5_142 : (Cond.instanceMethod ⟨"CensusWalk$Search", "giveFrom", "(I)V"⟩) ∈ lw_g := ms_t5 (List.mem_of_getElem? (i := 142) rfl) rfl
theorem kw_5_143 : (Cond.code ⟨"CensusWalk$Search", "giveFrom", "(I)V"⟩ prog_4_method_18_code 3 none) ∈ lw_g := ms_t5 (List.mem_of_getElem? (i := 143) rfl) rfl
theorem kw_5_144 : (Cond.methodLink "CensusWalk$Search" 163 ⟨"CensusWalk$Search", "judgeShares", "()V"⟩) ∈ lw_g := ms_t5 (List.mem_of_getElem? (i := 144) rfl) rfl
theorem kw_5_146 : (Cond.instanceMethod ⟨"CensusWalk$Search", "judgeShares", "()V"⟩) ∈ lw_g := ms_t5 (List.mem_of_getElem? (i := 146) rfl) rfl
theorem kw_5_147 : (Cond.code ⟨"CensusWalk$Search", "judgeShares", "()V"⟩ prog_4_method_19_code 4 none) ∈ lw_g := ms_t5 (List.mem_of_getElem? (i := 147) rfl) rfl
theorem kw_5_148 : (Cond.methodLink "CensusWalk$Search" 166 ⟨"java/lang/System", "arraycopy", "(Ljava/lang/Object;ILjava/lang/Object;II)V"⟩) ∈ lw_g := ms_t5 (List.mem_of_getElem? (i := 148) rfl) rfl
theorem kw_5_149 : (Cond.methodLink "CensusWalkLaw" 191 ⟨"CensusWalkLaw", "walkerOf", "(LCensusWalk;II[J)I"⟩) ∈ lw_g := ms_t5 (List.mem_of_getElem? (i := 149) rfl) rfl
theorem kw_5_150 : (Cond.static ⟨"CensusWalkLaw", "walkerOf", "(LCensusWalk;II[J)I"⟩) ∈ lw_g := ms_t5 (List.mem_of_getElem? (i := 150) rfl) rfl
theorem kw_5_151 : (Cond.codeWith ⟨"CensusWalkLaw", "walkerOf", "(LCensusWalk;II[J)I"⟩ method_20_code 5 (some .int) [(0, 10, 13, 19), (0, 10, 17, 13)]) ∈ lw_g := ms_t5 (List.mem_of_getElem? (i := 151) rfl) rfl
theorem kw_5_152 : (Cond.methodLink "CensusWalkLaw" 69 ⟨"CensusWalk", "walkerOf", "(II)I"⟩) ∈ lw_g := ms_t5 (List.mem_of_getElem? (i := 152) rfl) rfl
theorem kw_5_153 : (Cond.instanceMethod ⟨"CensusWalk", "walkerOf", "(II)I"⟩) ∈ lw_g := ms_t5 (List.mem_of_getElem? (i := 153) rfl) rfl
theorem kw_5_154 : (Cond.selects "CensusWalk" ⟨"CensusWalk", "walkerOf", "(II)I"⟩ ⟨"CensusWalk", "walkerOf", "(II)I"⟩) ∈ lw_g := ms_t5 (List.mem_of_getElem? (i := 154) rfl) rfl
theorem kw_5_155 : (Cond.code ⟨"CensusWalk", "walkerOf", "(II)I"⟩ prog_1_method_28_code 3 (some .int)) ∈ lw_g := ms_t5 (List.mem_of_getElem? (i := 155) rfl) rfl
theorem kw_5_156 : (Cond.methodLink "CensusWalk" 233 ⟨"CensusWalk$Search", "chosenWalker", "(I)I"⟩) ∈ lw_g := ms_t5 (List.mem_of_getElem? (i := 156) rfl) rfl
theorem kw_5_157 : (Cond.instanceMethod ⟨"CensusWalk$Search", "chosenWalker", "(I)I"⟩) ∈ lw_g := ms_t5 (List.mem_of_getElem? (i := 157) rfl) rfl
theorem kw_5_158 : (Cond.selects "CensusWalk$Search" ⟨"CensusWalk$Search", "chosenWalker", "(I)I"⟩ ⟨"CensusWalk$Search", "chosenWalker", "(I)I"⟩) ∈ lw_g := ms_t5 (List.mem_of_getElem? (i := 158) rfl) rfl
theorem kw_5_159 : (Cond.code ⟨"CensusWalk$Search", "chosenWalker", "(I)I"⟩ prog_4_method_5_code 4 (some .int)) ∈ lw_g := ms_t5 (List.mem_of_getElem? (i := 159) rfl) rfl
theorem kw_5_160 : (Cond.methodLink "CensusWalkLaw" 194 ⟨"CensusWalkLaw", "plan", "(LCensusWalk;II[J)I"⟩) ∈ lw_g := ms_t5 (List.mem_of_getElem? (i := 160) rfl) rfl
theorem kw_5_161 : (Cond.static ⟨"CensusWalkLaw", "plan", "(LCensusWalk;II[J)I"⟩) ∈ lw_g := ms_t5 (List.mem_of_getElem? (i := 161) rfl) rfl
theorem kw_5_162 : (Cond.codeWith ⟨"CensusWalkLaw", "plan", "(LCensusWalk;II[J)I"⟩ method_21_code 5 (some .int) [(0, 10, 13, 19), (0, 10, 17, 75)]) ∈ lw_g := ms_t5 (List.mem_of_getElem? (i := 162) rfl) rfl
theorem kw_5_163 : (Cond.classLink "CensusWalkLaw" 75 "java/lang/IllegalStateException") ∈ lw_g := ms_t5 (List.mem_of_getElem? (i := 163) rfl) rfl
theorem kw_5_164 : (Cond.methodLink "CensusWalkLaw" 72 ⟨"CensusWalk", "plan", "(II)I"⟩) ∈ lw_g := ms_t5 (List.mem_of_getElem? (i := 164) rfl) rfl
theorem kw_5_165 : (Cond.instanceMethod ⟨"CensusWalk", "plan", "(II)I"⟩) ∈ lw_g := ms_t5 (List.mem_of_getElem? (i := 165) rfl) rfl
theorem kw_5_166 : (Cond.selects "CensusWalk" ⟨"CensusWalk", "plan", "(II)I"⟩ ⟨"CensusWalk", "plan", "(II)I"⟩) ∈ lw_g := ms_t5 (List.mem_of_getElem? (i := 166) rfl) rfl
theorem kw_5_167 : (Cond.code ⟨"CensusWalk", "plan", "(II)I"⟩ prog_1_method_29_code 4 (some .int)) ∈ lw_g := ms_t5 (List.mem_of_getElem? (i := 167) rfl) rfl
theorem kw_5_168 : (Cond.classLink "CensusWalk" 237 "java/lang/IllegalStateException") ∈ lw_g := ms_t5 (List.mem_of_getElem? (i := 168) rfl) rfl
theorem kw_5_169 : (Cond.instantiable "java/lang/IllegalStateException" 6) ∈ lw_g := ms_t5 (List.mem_of_getElem? (i := 169) rfl) rfl
theorem kw_5_170 : (Cond.castable "java/lang/IllegalStateException" "java/lang/IllegalStateException") ∈ lw_tbl := ms_q5 (List.mem_of_getElem? (i := 170) rfl)
theorem kw_5_171 : (Cond.selects "java/lang/IllegalStateException" ⟨"java/lang/Throwable", "fillInStackTrace", "(I)Ljava/lang/Throwable;"⟩ ⟨"java/lang/Throwable", "fillInStackTrace", "(I)Ljava/lang/Throwable;"⟩) ∈ lw_g := ms_t5 (List.mem_of_getElem? (i := 171) rfl) rfl
theorem kw_5_172 : (Cond.lays "java/lang/IllegalStateException" "java/lang/Throwable" "cause" "Ljava/lang/Throwable;") ∈ lw_g := ms_t5 (List.mem_of_getElem? (i := 172) rfl) rfl
theorem kw_5_173 : (Cond.lays "java/lang/IllegalStateException" "java/lang/Throwable" "stackTrace" "[Ljava/lang/StackTraceElement;") ∈ lw_g := ms_t5 (List.mem_of_getElem? (i := 173) rfl) rfl
theorem kw_5_174 : (Cond.lays "java/lang/IllegalStateException" "java/lang/Throwable" "suppressedExceptions" "Ljava/util/List;") ∈ lw_g := ms_t5 (List.mem_of_getElem? (i := 174) rfl) rfl
theorem kw_5_175 : (Cond.lays "java/lang/IllegalStateException" "java/lang/Throwable" "detailMessage" "Ljava/lang/String;") ∈ lw_g := ms_t5 (List.mem_of_getElem? (i := 175) rfl) rfl
theorem kw_5_176 : (Cond.lays "java/lang/IllegalStateException" "java/lang/Throwable" "backtrace" "Ljava/lang/Object;") ∈ lw_g := ms_t5 (List.mem_of_getElem? (i := 176) rfl) rfl
theorem kw_5_177 : (Cond.stringRef "CensusWalk" 239 "the plan is full") ∈ lw_tbl := ms_q5 (List.mem_of_getElem? (i := 177) rfl)
theorem kw_5_178 : (Cond.methodLink "CensusWalk" 241 ⟨"java/lang/IllegalStateException", "<init>", "(Ljava/lang/String;)V"⟩) ∈ lw_g := ms_t5 (List.mem_of_getElem? (i := 178) rfl) rfl
theorem kw_5_179 : (Cond.instanceMethod ⟨"java/lang/IllegalStateException", "<init>", "(Ljava/lang/String;)V"⟩) ∈ lw_g := ms_t5 (List.mem_of_getElem? (i := 179) rfl) rfl
theorem kw_5_180 : (Cond.code ⟨"java/lang/IllegalStateException", "<init>", "(Ljava/lang/String;)V"⟩ prog_16_method_2_code 2 none) ∈ lw_g := ms_t5 (List.mem_of_getElem? (i := 180) rfl) rfl
theorem kw_5_181 : (Cond.methodLink "java/lang/IllegalStateException" 7 ⟨"java/lang/RuntimeException", "<init>", "(Ljava/lang/String;)V"⟩) ∈ lw_g := ms_t5 (List.mem_of_getElem? (i := 181) rfl) rfl
theorem kw_5_182 : (Cond.lays "java/lang/IllegalStateException" "java/lang/Throwable" "depth" "I") ∈ lw_g := ms_t5 (List.mem_of_getElem? (i := 182) rfl) rfl
theorem kw_5_184 : (Cond.methodLink "CensusWalkLaw" 197 ⟨"CensusWalkLaw", "unplan", "(LCensusWalk;I[J)I"⟩) ∈ lw_g := ms_t5 (List.mem_of_getElem? (i := 184) rfl) rfl
theorem kw_5_185 : (Cond.static ⟨"CensusWalkLaw", "unplan", "(LCensusWalk;I[J)I"⟩) ∈ lw_g := ms_t5 (List.mem_of_getElem? (i := 185) rfl) rfl
theorem kw_5_186 : (Cond.codeWith ⟨"CensusWalkLaw", "unplan", "(LCensusWalk;I[J)I"⟩ method_22_code 4 (some .int) [(0, 9, 12, 19), (0, 9, 15, 75)]) ∈ lw_g := ms_t5 (List.mem_of_getElem? (i := 186) rfl) rfl
theorem kw_5_187 : (Cond.methodLink "CensusWalkLaw" 77 ⟨"CensusWalk", "unplan", "(I)I"⟩) ∈ lw_g := ms_t5 (List.mem_of_getElem? (i := 187) rfl) rfl
theorem kw_5_188 : (Cond.instanceMethod ⟨"CensusWalk", "unplan", "(I)I"⟩) ∈ lw_g := ms_t5 (List.mem_of_getElem? (i := 188) rfl) rfl
theorem kw_5_189 : (Cond.selects "CensusWalk" ⟨"CensusWalk", "unplan", "(I)I"⟩ ⟨"CensusWalk", "unplan", "(I)I"⟩) ∈ lw_g := ms_t5 (List.mem_of_getElem? (i := 189) rfl) rfl
theorem kw_5_190 : (Cond.code ⟨"CensusWalk", "unplan", "(I)I"⟩ prog_1_method_30_code 3 (some .int)) ∈ lw_g := ms_t5 (List.mem_of_getElem? (i := 190) rfl) rfl
theorem kw_5_191 : (Cond.stringRef "CensusWalk" 245 "the plan is empty") ∈ lw_tbl := ms_q5 (List.mem_of_getElem? (i := 191) rfl)
theorem kw_5_192 : (Cond.methodLink "CensusWalkLaw" 200 ⟨"CensusWalkLaw", "setHours", "(LCensusWalk;III[J)I"⟩) ∈ lw_g := ms_t5 (List.mem_of_getElem? (i := 192) rfl) rfl
theorem kw_5_193 : (Cond.static ⟨"CensusWalkLaw", "setHours", "(LCensusWalk;III[J)I"⟩) ∈ lw_g := ms_t5 (List.mem_of_getElem? (i := 193) rfl) rfl
theorem kw_5_194 : (Cond.codeWith ⟨"CensusWalkLaw", "setHours", "(LCensusWalk;III[J)I"⟩ method_23_code 6 (some .int) [(0, 12, 15, 19), (0, 12, 19, 13)]) ∈ lw_g := ms_t5 (List.mem_of_getElem? (i := 194) rfl) rfl
theorem kw_5_195 : (Cond.methodLink "CensusWalkLaw" 80 ⟨"CensusWalk", "setHours", "(III)I"⟩) ∈ lw_g := ms_t5 (List.mem_of_getElem? (i := 195) rfl) rfl
theorem kw_5_196 : (Cond.instanceMethod ⟨"CensusWalk", "setHours", "(III)I"⟩) ∈ lw_g := ms_t5 (List.mem_of_getElem? (i := 196) rfl) rfl
theorem kw_5_197 : (Cond.selects "CensusWalk" ⟨"CensusWalk", "setHours", "(III)I"⟩ ⟨"CensusWalk", "setHours", "(III)I"⟩) ∈ lw_g := ms_t5 (List.mem_of_getElem? (i := 197) rfl) rfl
theorem kw_5_198 : (Cond.code ⟨"CensusWalk", "setHours", "(III)I"⟩ prog_1_method_31_code 4 (some .int)) ∈ lw_g := ms_t5 (List.mem_of_getElem? (i := 198) rfl) rfl
theorem kw_5_199 : (Cond.stringRef "CensusWalk" 247 "hours are out of range") ∈ lw_tbl := ms_q5 (List.mem_of_getElem? (i := 199) rfl)
theorem kw_5_200 : (Cond.methodLink "CensusWalkLaw" 203 ⟨"CensusWalkLaw", "setDog", "(LCensusWalk;IZ[J)I"⟩) ∈ lw_g := ms_t5 (List.mem_of_getElem? (i := 200) rfl) rfl
theorem kw_5_201 : (Cond.static ⟨"CensusWalkLaw", "setDog", "(LCensusWalk;IZ[J)I"⟩) ∈ lw_g := ms_t5 (List.mem_of_getElem? (i := 201) rfl) rfl
theorem kw_5_202 : (Cond.codeWith ⟨"CensusWalkLaw", "setDog", "(LCensusWalk;IZ[J)I"⟩ method_24_code 5 (some .int) [(0, 17, 20, 19)]) ∈ lw_g := ms_t5 (List.mem_of_getElem? (i := 202) rfl) rfl
theorem kw_5_203 : (Cond.methodLink "CensusWalkLaw" 83 ⟨"CensusWalk", "setDog", "(IZ)Z"⟩) ∈ lw_g := ms_t5 (List.mem_of_getElem? (i := 203) rfl) rfl
theorem kw_5_204 : (Cond.instanceMethod ⟨"CensusWalk", "setDog", "(IZ)Z"⟩) ∈ lw_g := ms_t5 (List.mem_of_getElem? (i := 204) rfl) rfl
theorem kw_5_205 : (Cond.selects "CensusWalk" ⟨"CensusWalk", "setDog", "(IZ)Z"⟩ ⟨"CensusWalk", "setDog", "(IZ)Z"⟩) ∈ lw_g := ms_t5 (List.mem_of_getElem? (i := 205) rfl) rfl
theorem kw_5_206 : (Cond.code ⟨"CensusWalk", "setDog", "(IZ)Z"⟩ prog_1_method_32_code 4 (some .boolean)) ∈ lw_g := ms_t5 (List.mem_of_getElem? (i := 206) rfl) rfl
theorem kw_5_207 : (Cond.methodLink "CensusWalkLaw" 207 ⟨"CensusWalkLaw", "setOpen", "(LCensusWalk;IZ[J)I"⟩) ∈ lw_g := ms_t5 (List.mem_of_getElem? (i := 207) rfl) rfl
theorem kw_5_208 : (Cond.static ⟨"CensusWalkLaw", "setOpen", "(LCensusWalk;IZ[J)I"⟩) ∈ lw_g := ms_t5 (List.mem_of_getElem? (i := 208) rfl) rfl
theorem kw_5_209 : (Cond.codeWith ⟨"CensusWalkLaw", "setOpen", "(LCensusWalk;IZ[J)I"⟩ method_25_code 5 (some .int) [(0, 17, 20, 19)]) ∈ lw_g := ms_t5 (List.mem_of_getElem? (i := 209) rfl) rfl
theorem kw_5_210 : (Cond.methodLink "CensusWalkLaw" 87 ⟨"CensusWalk", "setOpen", "(IZ)Z"⟩) ∈ lw_g := ms_t5 (List.mem_of_getElem? (i := 210) rfl) rfl
theorem kw_5_211 : (Cond.instanceMethod ⟨"CensusWalk", "setOpen", "(IZ)Z"⟩) ∈ lw_g := ms_t5 (List.mem_of_getElem? (i := 211) rfl) rfl
theorem kw_5_212 : (Cond.selects "CensusWalk" ⟨"CensusWalk", "setOpen", "(IZ)Z"⟩ ⟨"CensusWalk", "setOpen", "(IZ)Z"⟩) ∈ lw_g := ms_t5 (List.mem_of_getElem? (i := 212) rfl) rfl
theorem kw_5_213 : (Cond.code ⟨"CensusWalk", "setOpen", "(IZ)Z"⟩ prog_1_method_33_code 4 (some .boolean)) ∈ lw_g := ms_t5 (List.mem_of_getElem? (i := 213) rfl) rfl
theorem kw_5_214 : (Cond.classLink "CensusWalkLaw" 91 "CensusWalkModel") ∈ lw_g := ms_t5 (List.mem_of_getElem? (i := 214) rfl) rfl
theorem kw_5_215 : (Cond.instantiable "CensusWalkModel" 34) ∈ lw_g := ms_t5 (List.mem_of_getElem? (i := 215) rfl) rfl
theorem kw_5_216 : (Cond.methodLink "CensusWalkLaw" 93 ⟨"CensusWalkModel", "<init>", "()V"⟩) ∈ lw_g := ms_t5 (List.mem_of_getElem? (i := 216) rfl) rfl
theorem kw_5_217 : (Cond.instanceMethod ⟨"CensusWalkModel", "<init>", "()V"⟩) ∈ lw_g := ms_t5 (List.mem_of_getElem? (i := 217) rfl) rfl
theorem kw_5_218 : (Cond.code ⟨"CensusWalkModel", "<init>", "()V"⟩ prog_13_method_1_code 1 none) ∈ lw_g := ms_t5 (List.mem_of_getElem? (i := 218) rfl) rfl
theorem kw_5_219 : (Cond.methodLink "CensusWalkModel" 3 ⟨"java/lang/Object", "<init>", "()V"⟩) ∈ lw_g := ms_t5 (List.mem_of_getElem? (i := 219) rfl) rfl
theorem kw_5_220 : (Cond.classLink "CensusWalkModel" 23 "[[I") ∈ lw_g := ms_t5 (List.mem_of_getElem? (i := 220) rfl) rfl
theorem kw_5_221 : (Cond.arrayOver (.array .int)) ∈ lw_tbl := ms_q5 (List.mem_of_getElem? (i := 221) rfl)
theorem kw_5_222 : (Cond.fieldLink "CensusWalkModel" 71 "CensusWalkModel" "thrown" "I") ∈ lw_g := ms_t5 (List.mem_of_getElem? (i := 222) rfl) rfl
theorem kw_5_223 : (Cond.fieldLink "CensusWalkModel" 9 "CensusWalkModel" "buffer" "[I") ∈ lw_g := ms_t5 (List.mem_of_getElem? (i := 223) rfl) rfl
theorem kw_5_224 : (Cond.fieldLink "CensusWalkModel" 74 "CensusWalkModel" "bufferLength" "I") ∈ lw_g := ms_t5 (List.mem_of_getElem? (i := 224) rfl) rfl
theorem kw_5_225 : (Cond.fieldLink "CensusWalkModel" 77 "CensusWalkModel" "textLength" "I") ∈ lw_g := ms_t5 (List.mem_of_getElem? (i := 225) rfl) rfl
theorem kw_5_226 : (Cond.fieldLink "CensusWalkModel" 80 "CensusWalkModel" "position" "I") ∈ lw_g := ms_t5 (List.mem_of_getElem? (i := 226) rfl) rfl
theorem kw_5_227 : (Cond.fieldLink "CensusWalkModel" 87 "CensusWalkModel" "error" "I") ∈ lw_g := ms_t5 (List.mem_of_getElem? (i := 227) rfl) rfl
theorem kw_5_228 : (Cond.fieldLink "CensusWalkModel" 90 "CensusWalkModel" "errorAt" "I") ∈ lw_g := ms_t5 (List.mem_of_getElem? (i := 228) rfl) rfl
theorem kw_5_229 : (Cond.fieldLink "CensusWalkModel" 13 "CensusWalkModel" "errorOffset" "I") ∈ lw_g := ms_t5 (List.mem_of_getElem? (i := 229) rfl) rfl
theorem kw_5_230 : (Cond.fieldLink "CensusWalkModel" 17 "CensusWalkModel" "data" "[I") ∈ lw_g := ms_t5 (List.mem_of_getElem? (i := 230) rfl) rfl
theorem kw_5_231 : (Cond.fieldLink "CensusWalkModel" 20 "CensusWalkModel" "draft" "[I") ∈ lw_g := ms_t5 (List.mem_of_getElem? (i := 231) rfl) rfl
theorem kw_5_232 : (Cond.fieldLink "CensusWalkModel" 25 "CensusWalkModel" "history" "[[I") ∈ lw_g := ms_t5 (List.mem_of_getElem? (i := 232) rfl) rfl
theorem kw_5_233 : (Cond.fieldLink "CensusWalkModel" 332 "CensusWalkModel" "undoDepth" "I") ∈ lw_g := ms_t5 (List.mem_of_getElem? (i := 233) rfl) rfl
theorem kw_5_234 : (Cond.fieldLink "CensusWalkModel" 122 "CensusWalkModel" "numberStart" "I") ∈ lw_g := ms_t5 (List.mem_of_getElem? (i := 234) rfl) rfl
theorem kw_5_235 : (Cond.fieldLink "CensusWalkModel" 130 "CensusWalkModel" "nesting" "I") ∈ lw_g := ms_t5 (List.mem_of_getElem? (i := 235) rfl) rfl
theorem kw_5_236 : (Cond.fieldLink "CensusWalkModel" 171 "CensusWalkModel" "seen" "I") ∈ lw_g := ms_t5 (List.mem_of_getElem? (i := 236) rfl) rfl
theorem kw_5_237 : (Cond.fieldLink "CensusWalkModel" 28 "CensusWalkModel" "ways" "[[I") ∈ lw_g := ms_t5 (List.mem_of_getElem? (i := 237) rfl) rfl
theorem kw_5_238 : (Cond.fieldLink "CensusWalkModel" 31 "CensusWalkModel" "stack" "[J") ∈ lw_g := ms_t5 (List.mem_of_getElem? (i := 238) rfl) rfl
theorem kw_5_239 : (Cond.fieldLink "CensusWalkModel" 35 "CensusWalkModel" "timeOf" "[I") ∈ lw_g := ms_t5 (List.mem_of_getElem? (i := 239) rfl) rfl
theorem kw_6_0 : (Cond.fieldLink "CensusWalkModel" 38 "CensusWalkModel" "placeOf" "[I") ∈ lw_g := ms_t6 (List.mem_of_getElem? (i := 0) rfl) rfl
theorem kw_6_1 : (Cond.fieldLink "CensusWalkModel" 41 "CensusWalkModel" "doneOf" "[I") ∈ lw_g := ms_t6 (List.mem_of_getElem? (i := 1) rfl) rfl
theorem kw_6_2 : (Cond.fieldLink "CensusWalkModel" 44 "CensusWalkModel" "results" "[I") ∈ lw_g := ms_t6 (List.mem_of_getElem? (i := 2) rfl) rfl
theorem kw_6_3 : (Cond.fieldLink "CensusWalkModel" 47 "CensusWalkModel" "arrivals" "[I") ∈ lw_g := ms_t6 (List.mem_of_getElem? (i := 3) rfl) rfl
theorem kw_6_4 : (Cond.fieldLink "CensusWalkModel" 50 "CensusWalkModel" "callsOf" "[I") ∈ lw_g := ms_t6 (List.mem_of_getElem? (i := 4) rfl) rfl
theorem kw_6_5 : (Cond.fieldLink "CensusWalkModel" 53 "CensusWalkModel" "calledAt" "[I") ∈ lw_g := ms_t6 (List.mem_of_getElem? (i := 5) rfl) rfl
theorem kw_6_6 : (Cond.fieldLink "CensusWalkModel" 252 "CensusWalkModel" "countedSet" "I") ∈ lw_g := ms_t6 (List.mem_of_getElem? (i := 6) rfl) rfl
theorem kw_6_7 : (Cond.fieldLink "CensusWalkModel" 56 "CensusWalkModel" "soonest" "[[I") ∈ lw_g := ms_t6 (List.mem_of_getElem? (i := 7) rfl) rfl
theorem kw_6_8 : (Cond.fieldLink "CensusWalkModel" 59 "CensusWalkModel" "member" "[I") ∈ lw_g := ms_t6 (List.mem_of_getElem? (i := 8) rfl) rfl
theorem kw_6_9 : (Cond.fieldLink "CensusWalkModel" 291 "CensusWalkModel" "members" "I") ∈ lw_g := ms_t6 (List.mem_of_getElem? (i := 9) rfl) rfl
theorem kw_6_10 : (Cond.fieldLink "CensusWalkModel" 62 "CensusWalkModel" "order" "[I") ∈ lw_g := ms_t6 (List.mem_of_getElem? (i := 10) rfl) rfl
theorem kw_6_11 : (Cond.fieldLink "CensusWalkModel" 313 "CensusWalkModel" "isOrderFound" "Z") ∈ lw_g := ms_t6 (List.mem_of_getElem? (i := 11) rfl) rfl
theorem kw_6_12 : (Cond.fieldLink "CensusWalkModel" 65 "CensusWalkModel" "shares" "[[I") ∈ lw_g := ms_t6 (List.mem_of_getElem? (i := 12) rfl) rfl
theorem kw_6_13 : (Cond.fieldLink "CensusWalkModel" 321 "CensusWalkModel" "bestTime" "I") ∈ lw_g := ms_t6 (List.mem_of_getElem? (i := 13) rfl) rfl
theorem kw_6_14 : (Cond.fieldLink "CensusWalkModel" 324 "CensusWalkModel" "bestDivision" "I") ∈ lw_g := ms_t6 (List.mem_of_getElem? (i := 14) rfl) rfl
theorem kw_6_15 : (Cond.fieldLink "CensusWalkModel" 68 "CensusWalkModel" "sets" "[I") ∈ lw_g := ms_t6 (List.mem_of_getElem? (i := 15) rfl) rfl
theorem kw_6_16 : (Cond.lays "CensusWalkModel" "CensusWalkModel" "thrown" "I") ∈ lw_g := ms_t6 (List.mem_of_getElem? (i := 16) rfl) rfl
theorem kw_6_18 : (Cond.laysFinal "CensusWalkModel" "CensusWalkModel" "buffer" "[I") ∈ lw_g := ms_t6 (List.mem_of_getElem? (i := 18) rfl) rfl
theorem kw_6_20 : (Cond.lays "CensusWalkModel" "CensusWalkModel" "bufferLength" "I") ∈ lw_g := ms_t6 (List.mem_of_getElem? (i := 20) rfl) rfl
theorem kw_6_22 : (Cond.lays "CensusWalkModel" "CensusWalkModel" "textLength" "I") ∈ lw_g := ms_t6 (List.mem_of_getElem? (i := 22) rfl) rfl
theorem kw_6_24 : (Cond.lays "CensusWalkModel" "CensusWalkModel" "position" "I") ∈ lw_g := ms_t6 (List.mem_of_getElem? (i := 24) rfl) rfl
theorem kw_6_26 : (Cond.lays "CensusWalkModel" "CensusWalkModel" "error" "I") ∈ lw_g := ms_t6 (List.mem_of_getElem? (i := 26) rfl) rfl
theorem kw_6_28 : (Cond.lays "CensusWalkModel" "CensusWalkModel" "errorAt" "I") ∈ lw_g := ms_t6 (List.mem_of_getElem? (i := 28) rfl) rfl
theorem kw_6_30 : (Cond.lays "CensusWalkModel" "CensusWalkModel" "errorOffset" "I") ∈ lw_g := ms_t6 (List.mem_of_getElem? (i := 30) rfl) rfl
theorem kw_6_32 : (Cond.laysFinal "CensusWalkModel" "CensusWalkModel" "data" "[I") ∈ lw_g := ms_t6 (List.mem_of_getElem? (i := 32) rfl) rfl
theorem kw_6_34 : (Cond.laysFinal "CensusWalkModel" "CensusWalkModel" "draft" "[I") ∈ lw_g := ms_t6 (List.mem_of_getElem? (i := 34) rfl) rfl
theorem kw_6_36 : (Cond.laysFinal "CensusWalkModel" "CensusWalkModel" "history" "[[I") ∈ lw_g := ms_t6 (List.mem_of_getElem? (i := 36) rfl) rfl
theorem kw_6_38 : (Cond.lays "CensusWalkModel" "CensusWalkModel" "undoDepth" "I") ∈ lw_g := ms_t6 (List.mem_of_getElem? (i := 38) rfl) rfl
theorem kw_6_40 : (Cond.lays "CensusWalkModel" "CensusWalkModel" "numberStart" "I") ∈ lw_g := ms_t6 (List.mem_of_getElem? (i := 40) rfl) rfl
theorem kw_6_42 : (Cond.lays "CensusWalkModel" "CensusWalkModel" "nesting" "I") ∈ lw_g := ms_t6 (List.mem_of_getElem? (i := 42) rfl) rfl
theorem kw_6_44 : (Cond.lays "CensusWalkModel" "CensusWalkModel" "seen" "I") ∈ lw_g := ms_t6 (List.mem_of_getElem? (i := 44) rfl) rfl
theorem kw_6_46 : (Cond.laysFinal "CensusWalkModel" "CensusWalkModel" "ways" "[[I") ∈ lw_g := ms_t6 (List.mem_of_getElem? (i := 46) rfl) rfl
theorem kw_6_48 : (Cond.laysFinal "CensusWalkModel" "CensusWalkModel" "stack" "[J") ∈ lw_g := ms_t6 (List.mem_of_getElem? (i := 48) rfl) rfl
theorem kw_6_50 : (Cond.laysFinal "CensusWalkModel" "CensusWalkModel" "timeOf" "[I") ∈ lw_g := ms_t6 (List.mem_of_getElem? (i := 50) rfl) rfl
theorem kw_6_52 : (Cond.laysFinal "CensusWalkModel" "CensusWalkModel" "placeOf" "[I") ∈ lw_g := ms_t6 (List.mem_of_getElem? (i := 52) rfl) rfl
theorem kw_6_54 : (Cond.laysFinal "CensusWalkModel" "CensusWalkModel" "doneOf" "[I") ∈ lw_g := ms_t6 (List.mem_of_getElem? (i := 54) rfl) rfl
theorem kw_6_56 : (Cond.laysFinal "CensusWalkModel" "CensusWalkModel" "results" "[I") ∈ lw_g := ms_t6 (List.mem_of_getElem? (i := 56) rfl) rfl
theorem kw_6_58 : (Cond.laysFinal "CensusWalkModel" "CensusWalkModel" "arrivals" "[I") ∈ lw_g := ms_t6 (List.mem_of_getElem? (i := 58) rfl) rfl
theorem kw_6_60 : (Cond.laysFinal "CensusWalkModel" "CensusWalkModel" "callsOf" "[I") ∈ lw_g := ms_t6 (List.mem_of_getElem? (i := 60) rfl) rfl
theorem kw_6_62 : (Cond.laysFinal "CensusWalkModel" "CensusWalkModel" "calledAt" "[I") ∈ lw_g := ms_t6 (List.mem_of_getElem? (i := 62) rfl) rfl
theorem kw_6_64 : (Cond.lays "CensusWalkModel" "CensusWalkModel" "countedSet" "I") ∈ lw_g := ms_t6 (List.mem_of_getElem? (i := 64) rfl) rfl
theorem kw_6_66 : (Cond.laysFinal "CensusWalkModel" "CensusWalkModel" "soonest" "[[I") ∈ lw_g := ms_t6 (List.mem_of_getElem? (i := 66) rfl) rfl
theorem kw_6_68 : (Cond.laysFinal "CensusWalkModel" "CensusWalkModel" "member" "[I") ∈ lw_g := ms_t6 (List.mem_of_getElem? (i := 68) rfl) rfl
theorem kw_6_70 : (Cond.lays "CensusWalkModel" "CensusWalkModel" "members" "I") ∈ lw_g := ms_t6 (List.mem_of_getElem? (i := 70) rfl) rfl
theorem kw_6_72 : (Cond.laysFinal "CensusWalkModel" "CensusWalkModel" "order" "[I") ∈ lw_g := ms_t6 (List.mem_of_getElem? (i := 72) rfl) rfl
theorem kw_6_74 : (Cond.lays "CensusWalkModel" "CensusWalkModel" "isOrderFound" "Z") ∈ lw_g := ms_t6 (List.mem_of_getElem? (i := 74) rfl) rfl
theorem kw_6_76 : (Cond.laysFinal "CensusWalkModel" "CensusWalkModel" "shares" "[[I") ∈ lw_g := ms_t6 (List.mem_of_getElem? (i := 76) rfl) rfl
theorem kw_6_78 : (Cond.lays "CensusWalkModel" "CensusWalkModel" "bestTime" "I") ∈ lw_g := ms_t6 (List.mem_of_getElem? (i := 78) rfl) rfl
theorem kw_6_80 : (Cond.lays "CensusWalkModel" "CensusWalkModel" "bestDivision" "I") ∈ lw_g := ms_t6 (List.mem_of_getElem? (i := 80) rfl) rfl
theorem kw_6_82 : (Cond.laysFinal "CensusWalkModel" "CensusWalkModel" "sets" "[I") ∈ lw_g := ms_t6 (List.mem_of_getElem? (i := 82) rfl) rfl
theorem kw_6_85 : (Cond.arrayClass .long) ∈ lw_g := ms_t6 (List.mem_of_getElem? (i := 85) rfl) rfl
theorem kw_6_86 : (Cond.methodLink "CensusWalkLaw" 105 ⟨"CensusWalkModel", "thrown", "()I"⟩) ∈ lw_g := ms_t6 (List.mem_of_getElem? (i := 86) rfl) rfl
theorem kw_6_87 : (Cond.instanceMethod ⟨"CensusWalkModel", "thrown", "()I"⟩) ∈ lw_g := ms_t6 (List.mem_of_getElem? (i := 87) rfl) rfl
theorem kw_6_88 : (Cond.selects "CensusWalkModel" ⟨"CensusWalkModel", "thrown", "()I"⟩ ⟨"CensusWalkModel", "thrown", "()I"⟩) ∈ lw_g := ms_t6 (List.mem_of_getElem? (i := 88) rfl) rfl
theorem kw_6_89 : (Cond.code ⟨"CensusWalkModel", "thrown", "()I"⟩ prog_13_method_2_code 1 (some .int)) ∈ lw_g := ms_t6 (List.mem_of_getElem? (i := 89) rfl) rfl
theorem kw_6_90 : (Cond.methodLink "CensusWalkLaw" 98 ⟨"CensusWalkModel", "append", "(IIIII)I"⟩) ∈ lw_g := ms_t6 (List.mem_of_getElem? (i := 90) rfl) rfl
theorem kw_6_91 : (Cond.instanceMethod ⟨"CensusWalkModel", "append", "(IIIII)I"⟩) ∈ lw_g := ms_t6 (List.mem_of_getElem? (i := 91) rfl) rfl
theorem kw_6_92 : (Cond.selects "CensusWalkModel" ⟨"CensusWalkModel", "append", "(IIIII)I"⟩ ⟨"CensusWalkModel", "append", "(IIIII)I"⟩) ∈ lw_g := ms_t6 (List.mem_of_getElem? (i := 92) rfl) rfl
theorem kw_6_93 : (Cond.code ⟨"CensusWalkModel", "append", "(IIIII)I"⟩ prog_13_method_10_code 8 (some .int)) ∈ lw_g := ms_t6 (List.mem_of_getElem? (i := 93) rfl) rfl
theorem kw_6_94 : (Cond.methodLink "CensusWalkLaw" 104 ⟨"CensusWalkModel", "load", "(I)I"⟩) ∈ lw_g := ms_t6 (List.mem_of_getElem? (i := 94) rfl) rfl
theorem kw_6_95 : (Cond.instanceMethod ⟨"CensusWalkModel", "load", "(I)I"⟩) ∈ lw_g := ms_t6 (List.mem_of_getElem? (i := 95) rfl) rfl
theorem kw_6_96 : (Cond.selects "CensusWalkModel" ⟨"CensusWalkModel", "load", "(I)I"⟩ ⟨"CensusWalkModel", "load", "(I)I"⟩) ∈ lw_g := ms_t6 (List.mem_of_getElem? (i := 96) rfl) rfl
theorem kw_6_97 : (Cond.code ⟨"CensusWalkModel", "load", "(I)I"⟩ prog_13_method_28_code 3 (some .int)) ∈ lw_g := ms_t6 (List.mem_of_getElem? (i := 97) rfl) rfl
theorem kw_6_98 : (Cond.methodLink "CensusWalkModel" 93 ⟨"CensusWalkModel", "in", "(III)Z"⟩) ∈ lw_g := ms_t6 (List.mem_of_getElem? (i := 98) rfl) rfl
theorem kw_6_99 : (Cond.static ⟨"CensusWalkModel", "in", "(III)Z"⟩) ∈ lw_g := ms_t6 (List.mem_of_getElem? (i := 99) rfl) rfl
theorem kw_6_100 : (Cond.code ⟨"CensusWalkModel", "in", "(III)Z"⟩ prog_13_method_4_code 3 (some .boolean)) ∈ lw_g := ms_t6 (List.mem_of_getElem? (i := 100) rfl) rfl
theorem kw_6_101 : (Cond.methodLink "CensusWalkModel" 195 ⟨"CensusWalkModel", "fails", "(ZI)Z"⟩) ∈ lw_g := ms_t6 (List.mem_of_getElem? (i := 101) rfl) rfl
theorem kw_6_103 : (Cond.instanceMethod ⟨"CensusWalkModel", "fails", "(ZI)Z"⟩) ∈ lw_g := ms_t6 (List.mem_of_getElem? (i := 103) rfl) rfl
theorem kw_6_104 : (Cond.code ⟨"CensusWalkModel", "fails", "(ZI)Z"⟩ prog_13_method_3_code 3 (some .boolean)) ∈ lw_g := ms_t6 (List.mem_of_getElem? (i := 104) rfl) rfl
theorem kw_6_105 : (Cond.stringRef "CensusWalkModel" 199 "town") ∈ lw_tbl := ms_q6 (List.mem_of_getElem? (i := 105) rfl)
theorem kw_6_106 : (Cond.methodLink "CensusWalkModel" 142 ⟨"CensusWalkModel", "takeWord", "(Ljava/lang/String;)Z"⟩) ∈ lw_g := ms_t6 (List.mem_of_getElem? (i := 106) rfl) rfl
theorem kw_6_108 : (Cond.instanceMethod ⟨"CensusWalkModel", "takeWord", "(Ljava/lang/String;)Z"⟩) ∈ lw_g := ms_t6 (List.mem_of_getElem? (i := 108) rfl) rfl
theorem kw_6_109 : (Cond.code ⟨"CensusWalkModel", "takeWord", "(Ljava/lang/String;)Z"⟩ prog_13_method_16_code 3 (some .boolean)) ∈ lw_g := ms_t6 (List.mem_of_getElem? (i := 109) rfl) rfl
theorem kw_6_110 : (Cond.methodLink "CensusWalkModel" 97 ⟨"CensusWalkModel", "isGood", "()Z"⟩) ∈ lw_g := ms_t6 (List.mem_of_getElem? (i := 110) rfl) rfl
theorem kw_6_112 : (Cond.instanceMethod ⟨"CensusWalkModel", "isGood", "()Z"⟩) ∈ lw_g := ms_t6 (List.mem_of_getElem? (i := 112) rfl) rfl
theorem kw_6_113 : (Cond.code ⟨"CensusWalkModel", "isGood", "()Z"⟩ prog_13_method_13_code 1 (some .boolean)) ∈ lw_g := ms_t6 (List.mem_of_getElem? (i := 113) rfl) rfl
theorem kw_6_114 : (Cond.methodLink "CensusWalkModel" 101 ⟨"CensusWalkModel", "next", "()I"⟩) ∈ lw_g := ms_t6 (List.mem_of_getElem? (i := 114) rfl) rfl
theorem kw_6_116 : (Cond.instanceMethod ⟨"CensusWalkModel", "next", "()I"⟩) ∈ lw_g := ms_t6 (List.mem_of_getElem? (i := 116) rfl) rfl
theorem kw_6_117 : (Cond.code ⟨"CensusWalkModel", "next", "()I"⟩ prog_13_method_12_code 1 (some .int)) ∈ lw_g := ms_t6 (List.mem_of_getElem? (i := 117) rfl) rfl
theorem kw_6_118 : (Cond.methodLink "CensusWalkModel" 83 ⟨"CensusWalkModel", "byteAt", "(I)I"⟩) ∈ lw_g := ms_t6 (List.mem_of_getElem? (i := 118) rfl) rfl
theorem kw_6_120 : (Cond.instanceMethod ⟨"CensusWalkModel", "byteAt", "(I)I"⟩) ∈ lw_g := ms_t6 (List.mem_of_getElem? (i := 120) rfl) rfl
theorem kw_6_121 : (Cond.code ⟨"CensusWalkModel", "byteAt", "(I)I"⟩ prog_13_method_11_code 2 (some .int)) ∈ lw_g := ms_t6 (List.mem_of_getElem? (i := 121) rfl) rfl
theorem kw_6_122 : (Cond.methodLink "CensusWalkModel" 105 ⟨"java/lang/String", "length", "()I"⟩) ∈ lw_g := ms_t6 (List.mem_of_getElem? (i := 122) rfl) rfl
theorem kw_6_123 : (Cond.methodLink "CensusWalkModel" 110 ⟨"java/lang/String", "charAt", "(I)C"⟩) ∈ lw_g := ms_t6 (List.mem_of_getElem? (i := 123) rfl) rfl
theorem kw_6_124 : (Cond.methodLink "CensusWalkModel" 114 ⟨"CensusWalkModel", "report", "(II)V"⟩) ∈ lw_g := ms_t6 (List.mem_of_getElem? (i := 124) rfl) rfl
theorem kw_6_126 : (Cond.instanceMethod ⟨"CensusWalkModel", "report", "(II)V"⟩) ∈ lw_g := ms_t6 (List.mem_of_getElem? (i := 126) rfl) rfl
theorem kw_6_127 : (Cond.code ⟨"CensusWalkModel", "report", "(II)V"⟩ prog_13_method_14_code 3 none) ∈ lw_g := ms_t6 (List.mem_of_getElem? (i := 127) rfl) rfl
theorem kw_6_128 : (Cond.methodLink "CensusWalkModel" 150 ⟨"CensusWalkModel", "number", "(II)I"⟩) ∈ lw_g := ms_t6 (List.mem_of_getElem? (i := 128) rfl) rfl
theorem kw_6_130 : (Cond.instanceMethod ⟨"CensusWalkModel", "number", "(II)I"⟩) ∈ lw_g := ms_t6 (List.mem_of_getElem? (i := 130) rfl) rfl
theorem kw_6_131 : (Cond.code ⟨"CensusWalkModel", "number", "(II)I"⟩ prog_13_method_18_code 4 (some .int)) ∈ lw_g := ms_t6 (List.mem_of_getElem? (i := 131) rfl) rfl
theorem kw_6_132 : (Cond.methodLink "CensusWalkModel" 118 ⟨"CensusWalkModel", "isDigit", "(I)Z"⟩) ∈ lw_g := ms_t6 (List.mem_of_getElem? (i := 132) rfl) rfl
theorem kw_6_133 : (Cond.static ⟨"CensusWalkModel", "isDigit", "(I)Z"⟩) ∈ lw_g := ms_t6 (List.mem_of_getElem? (i := 133) rfl) rfl
theorem kw_6_134 : (Cond.code ⟨"CensusWalkModel", "isDigit", "(I)Z"⟩ prog_13_method_15_code 1 (some .boolean)) ∈ lw_g := ms_t6 (List.mem_of_getElem? (i := 134) rfl) rfl
theorem kw_6_135 : (Cond.constant "CensusWalkModel" 125 (1000000 : Int32)) ∈ lw_g := ms_t6 (List.mem_of_getElem? (i := 135) rfl) rfl
theorem kw_6_136 : (Cond.methodLink "CensusWalkModel" 126 ⟨"CensusWalkModel", "min", "(II)I"⟩) ∈ lw_g := ms_t6 (List.mem_of_getElem? (i := 136) rfl) rfl
theorem kw_6_137 : (Cond.static ⟨"CensusWalkModel", "min", "(II)I"⟩) ∈ lw_g := ms_t6 (List.mem_of_getElem? (i := 137) rfl) rfl
theorem kw_6_138 : (Cond.code ⟨"CensusWalkModel", "min", "(II)I"⟩ prog_13_method_5_code 2 (some .int)) ∈ lw_g := ms_t6 (List.mem_of_getElem? (i := 138) rfl) rfl
theorem kw_6_139 : (Cond.methodLink "CensusWalkModel" 136 ⟨"CensusWalkModel", "expect", "(I)V"⟩) ∈ lw_g := ms_t6 (List.mem_of_getElem? (i := 139) rfl) rfl
theorem kw_6_141 : (Cond.instanceMethod ⟨"CensusWalkModel", "expect", "(I)V"⟩) ∈ lw_g := ms_t6 (List.mem_of_getElem? (i := 141) rfl) rfl
theorem kw_6_142 : (Cond.code ⟨"CensusWalkModel", "expect", "(I)V"⟩ prog_13_method_17_code 2 none) ∈ lw_g := ms_t6 (List.mem_of_getElem? (i := 142) rfl) rfl
theorem kw_6_143 : (Cond.methodLink "CensusWalkModel" 201 ⟨"CensusWalkModel", "statement", "()V"⟩) ∈ lw_g := ms_t6 (List.mem_of_getElem? (i := 143) rfl) rfl
theorem kw_6_145 : (Cond.instanceMethod ⟨"CensusWalkModel", "statement", "()V"⟩) ∈ lw_g := ms_t6 (List.mem_of_getElem? (i := 145) rfl) rfl
theorem kw_6_146 : (Cond.code ⟨"CensusWalkModel", "statement", "()V"⟩ prog_13_method_27_code 2 none) ∈ lw_g := ms_t6 (List.mem_of_getElem? (i := 146) rfl) rfl
theorem kw_6_147 : (Cond.stringRef "CensusWalkModel" 174 "street") ∈ lw_tbl := ms_q6 (List.mem_of_getElem? (i := 147) rfl)
theorem kw_6_148 : (Cond.methodLink "CensusWalkModel" 175 ⟨"CensusWalkModel", "readStreet", "(I)V"⟩) ∈ lw_g := ms_t6 (List.mem_of_getElem? (i := 148) rfl) rfl
theorem kw_6_150 : (Cond.instanceMethod ⟨"CensusWalkModel", "readStreet", "(I)V"⟩) ∈ lw_g := ms_t6 (List.mem_of_getElem? (i := 150) rfl) rfl
theorem kw_6_151 : (Cond.code ⟨"CensusWalkModel", "readStreet", "(I)V"⟩ prog_13_method_23_code 3 none) ∈ lw_g := ms_t6 (List.mem_of_getElem? (i := 151) rfl) rfl
theorem kw_6_152 : (Cond.methodLink "CensusWalkModel" 162 ⟨"CensusWalkModel", "street", "(I)I"⟩) ∈ lw_g := ms_t6 (List.mem_of_getElem? (i := 152) rfl) rfl
theorem kw_6_153 : (Cond.static ⟨"CensusWalkModel", "street", "(I)I"⟩) ∈ lw_g := ms_t6 (List.mem_of_getElem? (i := 153) rfl) rfl
theorem kw_6_154 : (Cond.code ⟨"CensusWalkModel", "street", "(I)I"⟩ prog_13_method_7_code 1 (some .int)) ∈ lw_g := ms_t6 (List.mem_of_getElem? (i := 154) rfl) rfl
theorem kw_6_155 : (Cond.stringRef "CensusWalkModel" 178 "house") ∈ lw_tbl := ms_q6 (List.mem_of_getElem? (i := 155) rfl)
theorem kw_6_156 : (Cond.methodLink "CensusWalkModel" 179 ⟨"CensusWalkModel", "readHouse", "(I)V"⟩) ∈ lw_g := ms_t6 (List.mem_of_getElem? (i := 156) rfl) rfl
theorem kw_6_158 : (Cond.instanceMethod ⟨"CensusWalkModel", "readHouse", "(I)V"⟩) ∈ lw_g := ms_t6 (List.mem_of_getElem? (i := 158) rfl) rfl
theorem kw_6_159 : (Cond.code ⟨"CensusWalkModel", "readHouse", "(I)V"⟩ prog_13_method_24_code 4 none) ∈ lw_g := ms_t6 (List.mem_of_getElem? (i := 159) rfl) rfl
theorem kw_6_160 : (Cond.methodLink "CensusWalkModel" 165 ⟨"CensusWalkModel", "house", "(I)I"⟩) ∈ lw_g := ms_t6 (List.mem_of_getElem? (i := 160) rfl) rfl
theorem kw_6_161 : (Cond.static ⟨"CensusWalkModel", "house", "(I)I"⟩) ∈ lw_g := ms_t6 (List.mem_of_getElem? (i := 161) rfl) rfl
theorem kw_6_162 : (Cond.code ⟨"CensusWalkModel", "house", "(I)I"⟩ prog_13_method_8_code 1 (some .int)) ∈ lw_g := ms_t6 (List.mem_of_getElem? (i := 162) rfl) rfl
theorem kw_6_163 : (Cond.stringRef "CensusWalkModel" 146 "dog") ∈ lw_tbl := ms_q6 (List.mem_of_getElem? (i := 163) rfl)
theorem kw_6_164 : (Cond.stringRef "CensusWalkModel" 182 "walker") ∈ lw_tbl := ms_q6 (List.mem_of_getElem? (i := 164) rfl)
theorem kw_6_165 : (Cond.methodLink "CensusWalkModel" 183 ⟨"CensusWalkModel", "readWalker", "(I)V"⟩) ∈ lw_g := ms_t6 (List.mem_of_getElem? (i := 165) rfl) rfl
theorem kw_6_167 : (Cond.instanceMethod ⟨"CensusWalkModel", "readWalker", "(I)V"⟩) ∈ lw_g := ms_t6 (List.mem_of_getElem? (i := 167) rfl) rfl
theorem kw_6_168 : (Cond.code ⟨"CensusWalkModel", "readWalker", "(I)V"⟩ prog_13_method_25_code 3 none) ∈ lw_g := ms_t6 (List.mem_of_getElem? (i := 168) rfl) rfl
theorem kw_6_169 : (Cond.methodLink "CensusWalkModel" 168 ⟨"CensusWalkModel", "walker", "(I)I"⟩) ∈ lw_g := ms_t6 (List.mem_of_getElem? (i := 169) rfl) rfl
theorem kw_6_170 : (Cond.static ⟨"CensusWalkModel", "walker", "(I)I"⟩) ∈ lw_g := ms_t6 (List.mem_of_getElem? (i := 170) rfl) rfl
theorem kw_6_171 : (Cond.code ⟨"CensusWalkModel", "walker", "(I)I"⟩ prog_13_method_9_code 1 (some .int)) ∈ lw_g := ms_t6 (List.mem_of_getElem? (i := 171) rfl) rfl
theorem kw_6_172 : (Cond.stringRef "CensusWalkModel" 186 "cross") ∈ lw_tbl := ms_q6 (List.mem_of_getElem? (i := 172) rfl)
theorem kw_6_173 : (Cond.methodLink "CensusWalkModel" 188 ⟨"CensusWalkModel", "once", "(II)V"⟩) ∈ lw_g := ms_t6 (List.mem_of_getElem? (i := 173) rfl) rfl
theorem kw_6_175 : (Cond.instanceMethod ⟨"CensusWalkModel", "once", "(II)V"⟩) ∈ lw_g := ms_t6 (List.mem_of_getElem? (i := 175) rfl) rfl
theorem kw_6_176 : (Cond.code ⟨"CensusWalkModel", "once", "(II)V"⟩ prog_13_method_26_code 3 none) ∈ lw_g := ms_t6 (List.mem_of_getElem? (i := 176) rfl) rfl
theorem kw_6_177 : (Cond.stringRef "CensusWalkModel" 191 "gap") ∈ lw_tbl := ms_q6 (List.mem_of_getElem? (i := 177) rfl)
theorem kw_6_178 : (Cond.stringRef "CensusWalkModel" 193 "visit") ∈ lw_tbl := ms_q6 (List.mem_of_getElem? (i := 178) rfl)
theorem kw_6_179 : (Cond.methodLink "CensusWalkModel" 133 ⟨"CensusWalkModel", "sum", "()V"⟩) ∈ lw_g := ms_t6 (List.mem_of_getElem? (i := 179) rfl) rfl
theorem kw_6_181 : (Cond.instanceMethod ⟨"CensusWalkModel", "sum", "()V"⟩) ∈ lw_g := ms_t6 (List.mem_of_getElem? (i := 181) rfl) rfl
theorem kw_6_182 : (Cond.code ⟨"CensusWalkModel", "sum", "()V"⟩ prog_13_method_22_code 2 none) ∈ lw_g := ms_t6 (List.mem_of_getElem? (i := 182) rfl) rfl
theorem kw_6_183 : (Cond.methodLink "CensusWalkModel" 159 ⟨"CensusWalkModel", "term", "()V"⟩) ∈ lw_g := ms_t6 (List.mem_of_getElem? (i := 183) rfl) rfl
theorem kw_6_185 : (Cond.instanceMethod ⟨"CensusWalkModel", "term", "()V"⟩) ∈ lw_g := ms_t6 (List.mem_of_getElem? (i := 185) rfl) rfl
theorem kw_6_186 : (Cond.code ⟨"CensusWalkModel", "term", "()V"⟩ prog_13_method_21_code 2 none) ∈ lw_g := ms_t6 (List.mem_of_getElem? (i := 186) rfl) rfl
theorem kw_6_187 : (Cond.methodLink "CensusWalkModel" 156 ⟨"CensusWalkModel", "factor", "()V"⟩) ∈ lw_g := ms_t6 (List.mem_of_getElem? (i := 187) rfl) rfl
theorem kw_6_189 : (Cond.instanceMethod ⟨"CensusWalkModel", "factor", "()V"⟩) ∈ lw_g := ms_t6 (List.mem_of_getElem? (i := 189) rfl) rfl
theorem kw_6_190 : (Cond.code ⟨"CensusWalkModel", "factor", "()V"⟩ prog_13_method_20_code 4 none) ∈ lw_g := ms_t6 (List.mem_of_getElem? (i := 190) rfl) rfl
theorem kw_6_191 : (Cond.stringRef "CensusWalkModel" 140 "persons") ∈ lw_tbl := ms_q6 (List.mem_of_getElem? (i := 191) rfl)
theorem kw_6_192 : (Cond.stringRef "CensusWalkModel" 148 "call") ∈ lw_tbl := ms_q6 (List.mem_of_getElem? (i := 192) rfl)
theorem kw_6_193 : (Cond.methodLink "CensusWalkModel" 153 ⟨"CensusWalkModel", "emit", "(I)V"⟩) ∈ lw_g := ms_t6 (List.mem_of_getElem? (i := 193) rfl) rfl
theorem kw_6_195 : (Cond.instanceMethod ⟨"CensusWalkModel", "emit", "(I)V"⟩) ∈ lw_g := ms_t6 (List.mem_of_getElem? (i := 195) rfl) rfl
theorem kw_6_196 : (Cond.code ⟨"CensusWalkModel", "emit", "(I)V"⟩ prog_13_method_19_code 2 none) ∈ lw_g := ms_t6 (List.mem_of_getElem? (i := 196) rfl) rfl
theorem kw_6_197 : (Cond.methodLink "CensusWalkModel" 204 ⟨"CensusWalkModel", "remember", "()V"⟩) ∈ lw_g := ms_t6 (List.mem_of_getElem? (i := 197) rfl) rfl
theorem kw_6_199 : (Cond.instanceMethod ⟨"CensusWalkModel", "remember", "()V"⟩) ∈ lw_g := ms_t6 (List.mem_of_getElem? (i := 199) rfl) rfl
theorem kw_6_200 : (Cond.code ⟨"CensusWalkModel", "remember", "()V"⟩ prog_13_method_86_code 2 none) ∈ lw_g := ms_t6 (List.mem_of_getElem? (i := 200) rfl) rfl
theorem kw_6_201 : (Cond.methodLink "CensusWalkModel" 207 ⟨"CensusWalkModel", "copy", "([I[I)V"⟩) ∈ lw_g := ms_t6 (List.mem_of_getElem? (i := 201) rfl) rfl
theorem kw_6_202 : (Cond.static ⟨"CensusWalkModel", "copy", "([I[I)V"⟩) ∈ lw_g := ms_t6 (List.mem_of_getElem? (i := 202) rfl) rfl
theorem kw_6_203 : (Cond.code ⟨"CensusWalkModel", "copy", "([I[I)V"⟩ prog_13_method_6_code 3 none) ∈ lw_g := ms_t6 (List.mem_of_getElem? (i := 203) rfl) rfl
theorem kw_6_204 : (Cond.methodLink "CensusWalkLaw" 112 ⟨"CensusWalkModel", "errorOffset", "()I"⟩) ∈ lw_g := ms_t6 (List.mem_of_getElem? (i := 204) rfl) rfl
theorem kw_6_205 : (Cond.instanceMethod ⟨"CensusWalkModel", "errorOffset", "()I"⟩) ∈ lw_g := ms_t6 (List.mem_of_getElem? (i := 205) rfl) rfl
theorem kw_6_206 : (Cond.selects "CensusWalkModel" ⟨"CensusWalkModel", "errorOffset", "()I"⟩ ⟨"CensusWalkModel", "errorOffset", "()I"⟩) ∈ lw_g := ms_t6 (List.mem_of_getElem? (i := 206) rfl) rfl
theorem kw_6_207 : (Cond.code ⟨"CensusWalkModel", "errorOffset", "()I"⟩ prog_13_method_29_code 1 (some .int)) ∈ lw_g := ms_t6 (List.mem_of_getElem? (i := 207) rfl) rfl
theorem kw_6_208 : (Cond.methodLink "CensusWalkLaw" 116 ⟨"CensusWalkModel", "crossingCount", "()I"⟩) ∈ lw_g := ms_t6 (List.mem_of_getElem? (i := 208) rfl) rfl
theorem kw_6_209 : (Cond.instanceMethod ⟨"CensusWalkModel", "crossingCount", "()I"⟩) ∈ lw_g := ms_t6 (List.mem_of_getElem? (i := 209) rfl) rfl
theorem kw_6_210 : (Cond.selects "CensusWalkModel" ⟨"CensusWalkModel", "crossingCount", "()I"⟩ ⟨"CensusWalkModel", "crossingCount", "()I"⟩) ∈ lw_g := ms_t6 (List.mem_of_getElem? (i := 210) rfl) rfl
theorem kw_6_211 : (Cond.code ⟨"CensusWalkModel", "crossingCount", "()I"⟩ prog_13_method_51_code 1 (some .int)) ∈ lw_g := ms_t6 (List.mem_of_getElem? (i := 211) rfl) rfl
theorem kw_6_212 : (Cond.methodLink "CensusWalkLaw" 120 ⟨"CensusWalkModel", "streetCount", "()I"⟩) ∈ lw_g := ms_t6 (List.mem_of_getElem? (i := 212) rfl) rfl
theorem kw_6_213 : (Cond.instanceMethod ⟨"CensusWalkModel", "streetCount", "()I"⟩) ∈ lw_g := ms_t6 (List.mem_of_getElem? (i := 213) rfl) rfl
theorem kw_6_214 : (Cond.selects "CensusWalkModel" ⟨"CensusWalkModel", "streetCount", "()I"⟩ ⟨"CensusWalkModel", "streetCount", "()I"⟩) ∈ lw_g := ms_t6 (List.mem_of_getElem? (i := 214) rfl) rfl
theorem kw_6_215 : (Cond.code ⟨"CensusWalkModel", "streetCount", "()I"⟩ prog_13_method_52_code 1 (some .int)) ∈ lw_g := ms_t6 (List.mem_of_getElem? (i := 215) rfl) rfl
theorem kw_6_216 : (Cond.methodLink "CensusWalkLaw" 124 ⟨"CensusWalkModel", "houseCount", "()I"⟩) ∈ lw_g := ms_t6 (List.mem_of_getElem? (i := 216) rfl) rfl
theorem kw_6_217 : (Cond.instanceMethod ⟨"CensusWalkModel", "houseCount", "()I"⟩) ∈ lw_g := ms_t6 (List.mem_of_getElem? (i := 217) rfl) rfl
theorem kw_6_218 : (Cond.selects "CensusWalkModel" ⟨"CensusWalkModel", "houseCount", "()I"⟩ ⟨"CensusWalkModel", "houseCount", "()I"⟩) ∈ lw_g := ms_t6 (List.mem_of_getElem? (i := 218) rfl) rfl
theorem kw_6_219 : (Cond.code ⟨"CensusWalkModel", "houseCount", "()I"⟩ prog_13_method_53_code 1 (some .int)) ∈ lw_g := ms_t6 (List.mem_of_getElem? (i := 219) rfl) rfl
theorem kw_6_220 : (Cond.methodLink "CensusWalkLaw" 128 ⟨"CensusWalkModel", "walkerCount", "()I"⟩) ∈ lw_g := ms_t6 (List.mem_of_getElem? (i := 220) rfl) rfl
theorem kw_6_221 : (Cond.instanceMethod ⟨"CensusWalkModel", "walkerCount", "()I"⟩) ∈ lw_g := ms_t6 (List.mem_of_getElem? (i := 221) rfl) rfl
theorem kw_6_222 : (Cond.selects "CensusWalkModel" ⟨"CensusWalkModel", "walkerCount", "()I"⟩ ⟨"CensusWalkModel", "walkerCount", "()I"⟩) ∈ lw_g := ms_t6 (List.mem_of_getElem? (i := 222) rfl) rfl
theorem kw_6_223 : (Cond.code ⟨"CensusWalkModel", "walkerCount", "()I"⟩ prog_13_method_54_code 1 (some .int)) ∈ lw_g := ms_t6 (List.mem_of_getElem? (i := 223) rfl) rfl
theorem kw_6_224 : (Cond.methodLink "CensusWalkLaw" 132 ⟨"CensusWalkModel", "distance", "(II)I"⟩) ∈ lw_g := ms_t6 (List.mem_of_getElem? (i := 224) rfl) rfl
theorem kw_6_225 : (Cond.instanceMethod ⟨"CensusWalkModel", "distance", "(II)I"⟩) ∈ lw_g := ms_t6 (List.mem_of_getElem? (i := 225) rfl) rfl
theorem kw_6_226 : (Cond.selects "CensusWalkModel" ⟨"CensusWalkModel", "distance", "(II)I"⟩ ⟨"CensusWalkModel", "distance", "(II)I"⟩) ∈ lw_g := ms_t6 (List.mem_of_getElem? (i := 226) rfl) rfl
theorem kw_6_227 : (Cond.code ⟨"CensusWalkModel", "distance", "(II)I"⟩ prog_13_method_55_code 3 (some .int)) ∈ lw_g := ms_t6 (List.mem_of_getElem? (i := 227) rfl) rfl
theorem kw_6_228 : (Cond.methodLink "CensusWalkModel" 270 ⟨"CensusWalkModel", "noHouse", "(I)Z"⟩) ∈ lw_g := ms_t6 (List.mem_of_getElem? (i := 228) rfl) rfl
theorem kw_6_230 : (Cond.instanceMethod ⟨"CensusWalkModel", "noHouse", "(I)Z"⟩) ∈ lw_g := ms_t6 (List.mem_of_getElem? (i := 230) rfl) rfl
theorem kw_6_231 : (Cond.code ⟨"CensusWalkModel", "noHouse", "(I)Z"⟩ prog_13_method_48_code 2 (some .boolean)) ∈ lw_g := ms_t6 (List.mem_of_getElem? (i := 231) rfl) rfl
theorem kw_6_232 : (Cond.methodLink "CensusWalkModel" 249 ⟨"CensusWalkModel", "findWays", "()V"⟩) ∈ lw_g := ms_t6 (List.mem_of_getElem? (i := 232) rfl) rfl
theorem kw_6_234 : (Cond.instanceMethod ⟨"CensusWalkModel", "findWays", "()V"⟩) ∈ lw_g := ms_t6 (List.mem_of_getElem? (i := 234) rfl) rfl
theorem kw_6_235 : (Cond.code ⟨"CensusWalkModel", "findWays", "()V"⟩ prog_13_method_30_code 6 none) ∈ lw_g := ms_t6 (List.mem_of_getElem? (i := 235) rfl) rfl
theorem kw_6_236 : (Cond.methodLink "CensusWalkModel" 240 ⟨"CensusWalkModel", "between", "(II)I"⟩) ∈ lw_g := ms_t6 (List.mem_of_getElem? (i := 236) rfl) rfl
theorem kw_6_238 : (Cond.instanceMethod ⟨"CensusWalkModel", "between", "(II)I"⟩) ∈ lw_g := ms_t6 (List.mem_of_getElem? (i := 238) rfl) rfl
theorem kw_6_239 : (Cond.code ⟨"CensusWalkModel", "between", "(II)I"⟩ prog_13_method_36_code 5 (some .int)) ∈ lw_g := ms_t6 (List.mem_of_getElem? (i := 239) rfl) rfl
theorem kw_7_0 : (Cond.methodLink "CensusWalkModel" 217 ⟨"CensusWalkModel", "isShut", "(I)Z"⟩) ∈ lw_g := ms_t7 (List.mem_of_getElem? (i := 0) rfl) rfl
theorem kw_7_2 : (Cond.instanceMethod ⟨"CensusWalkModel", "isShut", "(I)Z"⟩) ∈ lw_g := ms_t7 (List.mem_of_getElem? (i := 2) rfl) rfl
theorem kw_7_3 : (Cond.code ⟨"CensusWalkModel", "isShut", "(I)Z"⟩ prog_13_method_34_code 2 (some .boolean)) ∈ lw_g := ms_t7 (List.mem_of_getElem? (i := 3) rfl) rfl
theorem kw_7_4 : (Cond.methodLink "CensusWalkModel" 211 ⟨"CensusWalkModel", "streetAt", "(I)I"⟩) ∈ lw_g := ms_t7 (List.mem_of_getElem? (i := 4) rfl) rfl
theorem kw_7_6 : (Cond.instanceMethod ⟨"CensusWalkModel", "streetAt", "(I)I"⟩) ∈ lw_g := ms_t7 (List.mem_of_getElem? (i := 6) rfl) rfl
theorem kw_7_7 : (Cond.code ⟨"CensusWalkModel", "streetAt", "(I)I"⟩ prog_13_method_31_code 2 (some .int)) ∈ lw_g := ms_t7 (List.mem_of_getElem? (i := 7) rfl) rfl
theorem kw_7_8 : (Cond.methodLink "CensusWalkModel" 214 ⟨"CensusWalkModel", "toStart", "(I)I"⟩) ∈ lw_g := ms_t7 (List.mem_of_getElem? (i := 8) rfl) rfl
theorem kw_7_10 : (Cond.instanceMethod ⟨"CensusWalkModel", "toStart", "(I)I"⟩) ∈ lw_g := ms_t7 (List.mem_of_getElem? (i := 10) rfl) rfl
theorem kw_7_11 : (Cond.code ⟨"CensusWalkModel", "toStart", "(I)I"⟩ prog_13_method_32_code 2 (some .int)) ∈ lw_g := ms_t7 (List.mem_of_getElem? (i := 11) rfl) rfl
theorem kw_7_12 : (Cond.methodLink "CensusWalkModel" 223 ⟨"CensusWalkModel", "fromCrossing", "(II)I"⟩) ∈ lw_g := ms_t7 (List.mem_of_getElem? (i := 12) rfl) rfl
theorem kw_7_14 : (Cond.instanceMethod ⟨"CensusWalkModel", "fromCrossing", "(II)I"⟩) ∈ lw_g := ms_t7 (List.mem_of_getElem? (i := 14) rfl) rfl
theorem kw_7_15 : (Cond.code ⟨"CensusWalkModel", "fromCrossing", "(II)I"⟩ prog_13_method_35_code 3 (some .int)) ∈ lw_g := ms_t7 (List.mem_of_getElem? (i := 15) rfl) rfl
theorem kw_7_16 : (Cond.methodLink "CensusWalkModel" 220 ⟨"CensusWalkModel", "toEnd", "(I)I"⟩) ∈ lw_g := ms_t7 (List.mem_of_getElem? (i := 16) rfl) rfl
theorem kw_7_18 : (Cond.instanceMethod ⟨"CensusWalkModel", "toEnd", "(I)I"⟩) ∈ lw_g := ms_t7 (List.mem_of_getElem? (i := 18) rfl) rfl
theorem kw_7_19 : (Cond.code ⟨"CensusWalkModel", "toEnd", "(I)I"⟩ prog_13_method_33_code 2 (some .int)) ∈ lw_g := ms_t7 (List.mem_of_getElem? (i := 19) rfl) rfl
theorem kw_7_20 : (Cond.methodLink "CensusWalkModel" 273 ⟨"CensusWalkModel", "told", "(I)I"⟩) ∈ lw_g := ms_t7 (List.mem_of_getElem? (i := 20) rfl) rfl
theorem kw_7_21 : (Cond.static ⟨"CensusWalkModel", "told", "(I)I"⟩) ∈ lw_g := ms_t7 (List.mem_of_getElem? (i := 21) rfl) rfl
theorem kw_7_22 : (Cond.code ⟨"CensusWalkModel", "told", "(I)I"⟩ prog_13_method_37_code 1 (some .int)) ∈ lw_g := ms_t7 (List.mem_of_getElem? (i := 22) rfl) rfl
theorem kw_7_23 : (Cond.methodLink "CensusWalkLaw" 135 ⟨"CensusWalkModel", "distanceFrom", "(II)I"⟩) ∈ lw_g := ms_t7 (List.mem_of_getElem? (i := 23) rfl) rfl
theorem kw_7_24 : (Cond.instanceMethod ⟨"CensusWalkModel", "distanceFrom", "(II)I"⟩) ∈ lw_g := ms_t7 (List.mem_of_getElem? (i := 24) rfl) rfl
theorem kw_7_25 : (Cond.selects "CensusWalkModel" ⟨"CensusWalkModel", "distanceFrom", "(II)I"⟩ ⟨"CensusWalkModel", "distanceFrom", "(II)I"⟩) ∈ lw_g := ms_t7 (List.mem_of_getElem? (i := 25) rfl) rfl
theorem kw_7_26 : (Cond.code ⟨"CensusWalkModel", "distanceFrom", "(II)I"⟩ prog_13_method_56_code 3 (some .int)) ∈ lw_g := ms_t7 (List.mem_of_getElem? (i := 26) rfl) rfl
theorem kw_7_27 : (Cond.methodLink "CensusWalkLaw" 138 ⟨"CensusWalkModel", "streetOf", "(I)I"⟩) ∈ lw_g := ms_t7 (List.mem_of_getElem? (i := 27) rfl) rfl
theorem kw_7_28 : (Cond.instanceMethod ⟨"CensusWalkModel", "streetOf", "(I)I"⟩) ∈ lw_g := ms_t7 (List.mem_of_getElem? (i := 28) rfl) rfl
theorem kw_7_29 : (Cond.selects "CensusWalkModel" ⟨"CensusWalkModel", "streetOf", "(I)I"⟩ ⟨"CensusWalkModel", "streetOf", "(I)I"⟩) ∈ lw_g := ms_t7 (List.mem_of_getElem? (i := 29) rfl) rfl
theorem kw_7_30 : (Cond.code ⟨"CensusWalkModel", "streetOf", "(I)I"⟩ prog_13_method_57_code 2 (some .int)) ∈ lw_g := ms_t7 (List.mem_of_getElem? (i := 30) rfl) rfl
theorem kw_7_31 : (Cond.methodLink "CensusWalkLaw" 141 ⟨"CensusWalkModel", "isOpen", "(I)Z"⟩) ∈ lw_g := ms_t7 (List.mem_of_getElem? (i := 31) rfl) rfl
theorem kw_7_32 : (Cond.instanceMethod ⟨"CensusWalkModel", "isOpen", "(I)Z"⟩) ∈ lw_g := ms_t7 (List.mem_of_getElem? (i := 32) rfl) rfl
theorem kw_7_33 : (Cond.selects "CensusWalkModel" ⟨"CensusWalkModel", "isOpen", "(I)Z"⟩ ⟨"CensusWalkModel", "isOpen", "(I)Z"⟩) ∈ lw_g := ms_t7 (List.mem_of_getElem? (i := 33) rfl) rfl
theorem kw_7_34 : (Cond.code ⟨"CensusWalkModel", "isOpen", "(I)Z"⟩ prog_13_method_58_code 2 (some .boolean)) ∈ lw_g := ms_t7 (List.mem_of_getElem? (i := 34) rfl) rfl
theorem kw_7_35 : (Cond.methodLink "CensusWalkModel" 276 ⟨"CensusWalkModel", "noStreet", "(I)Z"⟩) ∈ lw_g := ms_t7 (List.mem_of_getElem? (i := 35) rfl) rfl
theorem kw_7_37 : (Cond.instanceMethod ⟨"CensusWalkModel", "noStreet", "(I)Z"⟩) ∈ lw_g := ms_t7 (List.mem_of_getElem? (i := 37) rfl) rfl
theorem kw_7_38 : (Cond.code ⟨"CensusWalkModel", "noStreet", "(I)Z"⟩ prog_13_method_50_code 2 (some .boolean)) ∈ lw_g := ms_t7 (List.mem_of_getElem? (i := 38) rfl) rfl
theorem kw_7_39 : (Cond.methodLink "CensusWalkLaw" 144 ⟨"CensusWalkModel", "hasDog", "(I)Z"⟩) ∈ lw_g := ms_t7 (List.mem_of_getElem? (i := 39) rfl) rfl
theorem kw_7_40 : (Cond.instanceMethod ⟨"CensusWalkModel", "hasDog", "(I)Z"⟩) ∈ lw_g := ms_t7 (List.mem_of_getElem? (i := 40) rfl) rfl
theorem kw_7_41 : (Cond.selects "CensusWalkModel" ⟨"CensusWalkModel", "hasDog", "(I)Z"⟩ ⟨"CensusWalkModel", "hasDog", "(I)Z"⟩) ∈ lw_g := ms_t7 (List.mem_of_getElem? (i := 41) rfl) rfl
theorem kw_7_42 : (Cond.code ⟨"CensusWalkModel", "hasDog", "(I)Z"⟩ prog_13_method_59_code 2 (some .boolean)) ∈ lw_g := ms_t7 (List.mem_of_getElem? (i := 42) rfl) rfl
theorem kw_7_43 : (Cond.methodLink "CensusWalkLaw" 147 ⟨"CensusWalkModel", "isHome", "(II)Z"⟩) ∈ lw_g := ms_t7 (List.mem_of_getElem? (i := 43) rfl) rfl
theorem kw_7_44 : (Cond.instanceMethod ⟨"CensusWalkModel", "isHome", "(II)Z"⟩) ∈ lw_g := ms_t7 (List.mem_of_getElem? (i := 44) rfl) rfl
theorem kw_7_45 : (Cond.selects "CensusWalkModel" ⟨"CensusWalkModel", "isHome", "(II)Z"⟩ ⟨"CensusWalkModel", "isHome", "(II)Z"⟩) ∈ lw_g := ms_t7 (List.mem_of_getElem? (i := 45) rfl) rfl
theorem kw_7_46 : (Cond.code ⟨"CensusWalkModel", "isHome", "(II)Z"⟩ prog_13_method_60_code 3 (some .boolean)) ∈ lw_g := ms_t7 (List.mem_of_getElem? (i := 46) rfl) rfl
theorem kw_7_47 : (Cond.methodLink "CensusWalkModel" 264 ⟨"CensusWalkModel", "home", "(II)Z"⟩) ∈ lw_g := ms_t7 (List.mem_of_getElem? (i := 47) rfl) rfl
theorem kw_7_49 : (Cond.instanceMethod ⟨"CensusWalkModel", "home", "(II)Z"⟩) ∈ lw_g := ms_t7 (List.mem_of_getElem? (i := 49) rfl) rfl
theorem kw_7_50 : (Cond.code ⟨"CensusWalkModel", "home", "(II)Z"⟩ prog_13_method_41_code 3 (some .boolean)) ∈ lw_g := ms_t7 (List.mem_of_getElem? (i := 50) rfl) rfl
theorem kw_7_51 : (Cond.methodLink "CensusWalkLaw" 150 ⟨"CensusWalkModel", "duration", "(II)I"⟩) ∈ lw_g := ms_t7 (List.mem_of_getElem? (i := 51) rfl) rfl
theorem kw_7_52 : (Cond.instanceMethod ⟨"CensusWalkModel", "duration", "(II)I"⟩) ∈ lw_g := ms_t7 (List.mem_of_getElem? (i := 52) rfl) rfl
theorem kw_7_53 : (Cond.selects "CensusWalkModel" ⟨"CensusWalkModel", "duration", "(II)I"⟩ ⟨"CensusWalkModel", "duration", "(II)I"⟩) ∈ lw_g := ms_t7 (List.mem_of_getElem? (i := 53) rfl) rfl
theorem kw_7_54 : (Cond.code ⟨"CensusWalkModel", "duration", "(II)I"⟩ prog_13_method_61_code 3 (some .int)) ∈ lw_g := ms_t7 (List.mem_of_getElem? (i := 54) rfl) rfl
theorem kw_7_55 : (Cond.methodLink "CensusWalkModel" 268 ⟨"CensusWalkModel", "visit", "(II)I"⟩) ∈ lw_g := ms_t7 (List.mem_of_getElem? (i := 55) rfl) rfl
theorem kw_7_57 : (Cond.instanceMethod ⟨"CensusWalkModel", "visit", "(II)I"⟩) ∈ lw_g := ms_t7 (List.mem_of_getElem? (i := 57) rfl) rfl
theorem kw_7_58 : (Cond.code ⟨"CensusWalkModel", "visit", "(II)I"⟩ prog_13_method_40_code 7 (some .int)) ∈ lw_g := ms_t7 (List.mem_of_getElem? (i := 58) rfl) rfl
theorem kw_7_59 : (Cond.methodLink "CensusWalkModel" 234 ⟨"CensusWalkModel", "operate", "(IJJ)J"⟩) ∈ lw_g := ms_t7 (List.mem_of_getElem? (i := 59) rfl) rfl
theorem kw_7_60 : (Cond.static ⟨"CensusWalkModel", "operate", "(IJJ)J"⟩) ∈ lw_g := ms_t7 (List.mem_of_getElem? (i := 60) rfl) rfl
theorem kw_7_61 : (Cond.code ⟨"CensusWalkModel", "operate", "(IJJ)J"⟩ prog_13_method_39_code 5 (some .long)) ∈ lw_g := ms_t7 (List.mem_of_getElem? (i := 61) rfl) rfl
theorem kw_7_62 : (Cond.methodLink "CensusWalkModel" 230 ⟨"CensusWalkModel", "limited", "(J)J"⟩) ∈ lw_g := ms_t7 (List.mem_of_getElem? (i := 62) rfl) rfl
theorem kw_7_63 : (Cond.static ⟨"CensusWalkModel", "limited", "(J)J"⟩) ∈ lw_g := ms_t7 (List.mem_of_getElem? (i := 63) rfl) rfl
theorem kw_7_64 : (Cond.code ⟨"CensusWalkModel", "limited", "(J)J"⟩ prog_13_method_38_code 2 (some .long)) ∈ lw_g := ms_t7 (List.mem_of_getElem? (i := 64) rfl) rfl
theorem kw_7_65 : (Cond.constantLong "CensusWalkModel" 226 (1000000 : Int64)) ∈ lw_g := ms_t7 (List.mem_of_getElem? (i := 65) rfl) rfl
theorem kw_7_66 : (Cond.constantLong "CensusWalkModel" 228 (-1000000 : Int64)) ∈ lw_g := ms_t7 (List.mem_of_getElem? (i := 66) rfl) rfl
theorem kw_7_67 : (Cond.constantLong "CensusWalkModel" 238 (240 : Int64)) ∈ lw_g := ms_t7 (List.mem_of_getElem? (i := 67) rfl) rfl
theorem kw_7_68 : (Cond.methodLink "CensusWalkLaw" 153 ⟨"CensusWalkModel", "planLength", "(I)I"⟩) ∈ lw_g := ms_t7 (List.mem_of_getElem? (i := 68) rfl) rfl
theorem kw_7_69 : (Cond.instanceMethod ⟨"CensusWalkModel", "planLength", "(I)I"⟩) ∈ lw_g := ms_t7 (List.mem_of_getElem? (i := 69) rfl) rfl
theorem kw_7_70 : (Cond.selects "CensusWalkModel" ⟨"CensusWalkModel", "planLength", "(I)I"⟩ ⟨"CensusWalkModel", "planLength", "(I)I"⟩) ∈ lw_g := ms_t7 (List.mem_of_getElem? (i := 70) rfl) rfl
theorem kw_7_71 : (Cond.code ⟨"CensusWalkModel", "planLength", "(I)I"⟩ prog_13_method_62_code 2 (some .int)) ∈ lw_g := ms_t7 (List.mem_of_getElem? (i := 71) rfl) rfl
theorem kw_7_72 : (Cond.methodLink "CensusWalkModel" 279 ⟨"CensusWalkModel", "noWalker", "(I)Z"⟩) ∈ lw_g := ms_t7 (List.mem_of_getElem? (i := 72) rfl) rfl
theorem kw_7_74 : (Cond.instanceMethod ⟨"CensusWalkModel", "noWalker", "(I)Z"⟩) ∈ lw_g := ms_t7 (List.mem_of_getElem? (i := 74) rfl) rfl
theorem kw_7_75 : (Cond.code ⟨"CensusWalkModel", "noWalker", "(I)Z"⟩ prog_13_method_49_code 2 (some .boolean)) ∈ lw_g := ms_t7 (List.mem_of_getElem? (i := 75) rfl) rfl
theorem kw_7_76 : (Cond.methodLink "CensusWalkLaw" 156 ⟨"CensusWalkModel", "planned", "(II)I"⟩) ∈ lw_g := ms_t7 (List.mem_of_getElem? (i := 76) rfl) rfl
theorem kw_7_77 : (Cond.instanceMethod ⟨"CensusWalkModel", "planned", "(II)I"⟩) ∈ lw_g := ms_t7 (List.mem_of_getElem? (i := 77) rfl) rfl
theorem kw_7_78 : (Cond.selects "CensusWalkModel" ⟨"CensusWalkModel", "planned", "(II)I"⟩ ⟨"CensusWalkModel", "planned", "(II)I"⟩) ∈ lw_g := ms_t7 (List.mem_of_getElem? (i := 78) rfl) rfl
theorem kw_7_79 : (Cond.code ⟨"CensusWalkModel", "planned", "(II)I"⟩ prog_13_method_64_code 3 (some .int)) ∈ lw_g := ms_t7 (List.mem_of_getElem? (i := 79) rfl) rfl
theorem kw_7_80 : (Cond.methodLink "CensusWalkModel" 282 ⟨"CensusWalkModel", "noPlanned", "(II)Z"⟩) ∈ lw_g := ms_t7 (List.mem_of_getElem? (i := 80) rfl) rfl
theorem kw_7_82 : (Cond.instanceMethod ⟨"CensusWalkModel", "noPlanned", "(II)Z"⟩) ∈ lw_g := ms_t7 (List.mem_of_getElem? (i := 82) rfl) rfl
theorem kw_7_83 : (Cond.code ⟨"CensusWalkModel", "noPlanned", "(II)Z"⟩ prog_13_method_63_code 3 (some .boolean)) ∈ lw_g := ms_t7 (List.mem_of_getElem? (i := 83) rfl) rfl
theorem kw_7_84 : (Cond.methodLink "CensusWalkLaw" 159 ⟨"CensusWalkModel", "result", "(II)I"⟩) ∈ lw_g := ms_t7 (List.mem_of_getElem? (i := 84) rfl) rfl
theorem kw_7_85 : (Cond.instanceMethod ⟨"CensusWalkModel", "result", "(II)I"⟩) ∈ lw_g := ms_t7 (List.mem_of_getElem? (i := 85) rfl) rfl
theorem kw_7_86 : (Cond.selects "CensusWalkModel" ⟨"CensusWalkModel", "result", "(II)I"⟩ ⟨"CensusWalkModel", "result", "(II)I"⟩) ∈ lw_g := ms_t7 (List.mem_of_getElem? (i := 86) rfl) rfl
theorem kw_7_87 : (Cond.code ⟨"CensusWalkModel", "result", "(II)I"⟩ prog_13_method_65_code 3 (some .int)) ∈ lw_g := ms_t7 (List.mem_of_getElem? (i := 87) rfl) rfl
theorem kw_7_88 : (Cond.methodLink "CensusWalkModel" 285 ⟨"CensusWalkModel", "simulate", "()V"⟩) ∈ lw_g := ms_t7 (List.mem_of_getElem? (i := 88) rfl) rfl
theorem kw_7_90 : (Cond.instanceMethod ⟨"CensusWalkModel", "simulate", "()V"⟩) ∈ lw_g := ms_t7 (List.mem_of_getElem? (i := 90) rfl) rfl
theorem kw_7_91 : (Cond.code ⟨"CensusWalkModel", "simulate", "()V"⟩ prog_13_method_45_code 2 none) ∈ lw_g := ms_t7 (List.mem_of_getElem? (i := 91) rfl) rfl
theorem kw_7_92 : (Cond.methodLink "CensusWalkModel" 255 ⟨"CensusWalkModel", "nextWalker", "()I"⟩) ∈ lw_g := ms_t7 (List.mem_of_getElem? (i := 92) rfl) rfl
theorem kw_7_94 : (Cond.instanceMethod ⟨"CensusWalkModel", "nextWalker", "()I"⟩) ∈ lw_g := ms_t7 (List.mem_of_getElem? (i := 94) rfl) rfl
theorem kw_7_95 : (Cond.code ⟨"CensusWalkModel", "nextWalker", "()I"⟩ prog_13_method_46_code 3 (some .int)) ∈ lw_g := ms_t7 (List.mem_of_getElem? (i := 95) rfl) rfl
theorem kw_7_96 : (Cond.methodLink "CensusWalkModel" 261 ⟨"CensusWalkModel", "nextArrival", "(I)I"⟩) ∈ lw_g := ms_t7 (List.mem_of_getElem? (i := 96) rfl) rfl
theorem kw_7_98 : (Cond.instanceMethod ⟨"CensusWalkModel", "nextArrival", "(I)I"⟩) ∈ lw_g := ms_t7 (List.mem_of_getElem? (i := 98) rfl) rfl
theorem kw_7_99 : (Cond.code ⟨"CensusWalkModel", "nextArrival", "(I)I"⟩ prog_13_method_44_code 3 (some .int)) ∈ lw_g := ms_t7 (List.mem_of_getElem? (i := 99) rfl) rfl
theorem kw_7_100 : (Cond.methodLink "CensusWalkModel" 243 ⟨"CensusWalkModel", "nextHouse", "(I)I"⟩) ∈ lw_g := ms_t7 (List.mem_of_getElem? (i := 100) rfl) rfl
theorem kw_7_102 : (Cond.instanceMethod ⟨"CensusWalkModel", "nextHouse", "(I)I"⟩) ∈ lw_g := ms_t7 (List.mem_of_getElem? (i := 102) rfl) rfl
theorem kw_7_103 : (Cond.code ⟨"CensusWalkModel", "nextHouse", "(I)I"⟩ prog_13_method_43_code 2 (some .int)) ∈ lw_g := ms_t7 (List.mem_of_getElem? (i := 103) rfl) rfl
theorem kw_7_104 : (Cond.methodLink "CensusWalkModel" 246 ⟨"CensusWalkModel", "wayOf", "(II)I"⟩) ∈ lw_g := ms_t7 (List.mem_of_getElem? (i := 104) rfl) rfl
theorem kw_7_106 : (Cond.instanceMethod ⟨"CensusWalkModel", "wayOf", "(II)I"⟩) ∈ lw_g := ms_t7 (List.mem_of_getElem? (i := 106) rfl) rfl
theorem kw_7_107 : (Cond.code ⟨"CensusWalkModel", "wayOf", "(II)I"⟩ prog_13_method_42_code 3 (some .int)) ∈ lw_g := ms_t7 (List.mem_of_getElem? (i := 107) rfl) rfl
theorem kw_7_108 : (Cond.methodLink "CensusWalkModel" 258 ⟨"CensusWalkModel", "go", "(I)V"⟩) ∈ lw_g := ms_t7 (List.mem_of_getElem? (i := 108) rfl) rfl
theorem kw_7_110 : (Cond.instanceMethod ⟨"CensusWalkModel", "go", "(I)V"⟩) ∈ lw_g := ms_t7 (List.mem_of_getElem? (i := 110) rfl) rfl
theorem kw_7_111 : (Cond.code ⟨"CensusWalkModel", "go", "(I)V"⟩ prog_13_method_47_code 7 none) ∈ lw_g := ms_t7 (List.mem_of_getElem? (i := 111) rfl) rfl
theorem kw_7_112 : (Cond.methodLink "CensusWalkLaw" 162 ⟨"CensusWalkModel", "arrival", "(II)I"⟩) ∈ lw_g := ms_t7 (List.mem_of_getElem? (i := 112) rfl) rfl
theorem kw_7_113 : (Cond.instanceMethod ⟨"CensusWalkModel", "arrival", "(II)I"⟩) ∈ lw_g := ms_t7 (List.mem_of_getElem? (i := 113) rfl) rfl
theorem kw_7_114 : (Cond.selects "CensusWalkModel" ⟨"CensusWalkModel", "arrival", "(II)I"⟩ ⟨"CensusWalkModel", "arrival", "(II)I"⟩) ∈ lw_g := ms_t7 (List.mem_of_getElem? (i := 114) rfl) rfl
theorem kw_7_115 : (Cond.code ⟨"CensusWalkModel", "arrival", "(II)I"⟩ prog_13_method_66_code 3 (some .int)) ∈ lw_g := ms_t7 (List.mem_of_getElem? (i := 115) rfl) rfl
theorem kw_7_116 : (Cond.methodLink "CensusWalkLaw" 165 ⟨"CensusWalkModel", "finish", "(I)I"⟩) ∈ lw_g := ms_t7 (List.mem_of_getElem? (i := 116) rfl) rfl
theorem kw_7_117 : (Cond.instanceMethod ⟨"CensusWalkModel", "finish", "(I)I"⟩) ∈ lw_g := ms_t7 (List.mem_of_getElem? (i := 117) rfl) rfl
theorem kw_7_118 : (Cond.selects "CensusWalkModel" ⟨"CensusWalkModel", "finish", "(I)I"⟩ ⟨"CensusWalkModel", "finish", "(I)I"⟩) ∈ lw_g := ms_t7 (List.mem_of_getElem? (i := 118) rfl) rfl
theorem kw_7_119 : (Cond.code ⟨"CensusWalkModel", "finish", "(I)I"⟩ prog_13_method_67_code 2 (some .int)) ∈ lw_g := ms_t7 (List.mem_of_getElem? (i := 119) rfl) rfl
theorem kw_7_120 : (Cond.methodLink "CensusWalkLaw" 169 ⟨"CensusWalkModel", "finishAll", "()I"⟩) ∈ lw_g := ms_t7 (List.mem_of_getElem? (i := 120) rfl) rfl
theorem kw_7_121 : (Cond.instanceMethod ⟨"CensusWalkModel", "finishAll", "()I"⟩) ∈ lw_g := ms_t7 (List.mem_of_getElem? (i := 121) rfl) rfl
theorem kw_7_122 : (Cond.selects "CensusWalkModel" ⟨"CensusWalkModel", "finishAll", "()I"⟩ ⟨"CensusWalkModel", "finishAll", "()I"⟩) ∈ lw_g := ms_t7 (List.mem_of_getElem? (i := 122) rfl) rfl
theorem kw_7_123 : (Cond.code ⟨"CensusWalkModel", "finishAll", "()I"⟩ prog_13_method_68_code 3 (some .int)) ∈ lw_g := ms_t7 (List.mem_of_getElem? (i := 123) rfl) rfl
theorem kw_7_124 : (Cond.methodLink "CensusWalkLaw" 173 ⟨"CensusWalkModel", "counted", "()I"⟩) ∈ lw_g := ms_t7 (List.mem_of_getElem? (i := 124) rfl) rfl
theorem kw_7_125 : (Cond.instanceMethod ⟨"CensusWalkModel", "counted", "()I"⟩) ∈ lw_g := ms_t7 (List.mem_of_getElem? (i := 125) rfl) rfl
theorem kw_7_126 : (Cond.selects "CensusWalkModel" ⟨"CensusWalkModel", "counted", "()I"⟩ ⟨"CensusWalkModel", "counted", "()I"⟩) ∈ lw_g := ms_t7 (List.mem_of_getElem? (i := 126) rfl) rfl
theorem kw_7_127 : (Cond.code ⟨"CensusWalkModel", "counted", "()I"⟩ prog_13_method_69_code 1 (some .int)) ∈ lw_g := ms_t7 (List.mem_of_getElem? (i := 127) rfl) rfl
theorem kw_7_128 : (Cond.methodLink "CensusWalkLaw" 177 ⟨"CensusWalkModel", "persons", "()I"⟩) ∈ lw_g := ms_t7 (List.mem_of_getElem? (i := 128) rfl) rfl
theorem kw_7_129 : (Cond.instanceMethod ⟨"CensusWalkModel", "persons", "()I"⟩) ∈ lw_g := ms_t7 (List.mem_of_getElem? (i := 129) rfl) rfl
theorem kw_7_130 : (Cond.selects "CensusWalkModel" ⟨"CensusWalkModel", "persons", "()I"⟩ ⟨"CensusWalkModel", "persons", "()I"⟩) ∈ lw_g := ms_t7 (List.mem_of_getElem? (i := 130) rfl) rfl
theorem kw_7_131 : (Cond.code ⟨"CensusWalkModel", "persons", "()I"⟩ prog_13_method_70_code 3 (some .int)) ∈ lw_g := ms_t7 (List.mem_of_getElem? (i := 131) rfl) rfl
theorem kw_7_132 : (Cond.methodLink "CensusWalkLaw" 180 ⟨"CensusWalkModel", "calls", "(I)I"⟩) ∈ lw_g := ms_t7 (List.mem_of_getElem? (i := 132) rfl) rfl
theorem kw_7_133 : (Cond.instanceMethod ⟨"CensusWalkModel", "calls", "(I)I"⟩) ∈ lw_g := ms_t7 (List.mem_of_getElem? (i := 133) rfl) rfl
theorem kw_7_134 : (Cond.selects "CensusWalkModel" ⟨"CensusWalkModel", "calls", "(I)I"⟩ ⟨"CensusWalkModel", "calls", "(I)I"⟩) ∈ lw_g := ms_t7 (List.mem_of_getElem? (i := 134) rfl) rfl
theorem kw_7_135 : (Cond.code ⟨"CensusWalkModel", "calls", "(I)I"⟩ prog_13_method_71_code 2 (some .int)) ∈ lw_g := ms_t7 (List.mem_of_getElem? (i := 135) rfl) rfl
theorem kw_7_136 : (Cond.methodLink "CensusWalkLaw" 183 ⟨"CensusWalkModel", "soonest", "(II)I"⟩) ∈ lw_g := ms_t7 (List.mem_of_getElem? (i := 136) rfl) rfl
theorem kw_7_137 : (Cond.instanceMethod ⟨"CensusWalkModel", "soonest", "(II)I"⟩) ∈ lw_g := ms_t7 (List.mem_of_getElem? (i := 137) rfl) rfl
theorem kw_7_138 : (Cond.selects "CensusWalkModel" ⟨"CensusWalkModel", "soonest", "(II)I"⟩ ⟨"CensusWalkModel", "soonest", "(II)I"⟩) ∈ lw_g := ms_t7 (List.mem_of_getElem? (i := 138) rfl) rfl
theorem kw_7_139 : (Cond.code ⟨"CensusWalkModel", "soonest", "(II)I"⟩ prog_13_method_79_code 3 (some .int)) ∈ lw_g := ms_t7 (List.mem_of_getElem? (i := 139) rfl) rfl
theorem kw_7_140 : (Cond.methodLink "CensusWalkModel" 301 ⟨"CensusWalkModel", "isSet", "(I)Z"⟩) ∈ lw_g := ms_t7 (List.mem_of_getElem? (i := 140) rfl) rfl
theorem kw_7_142 : (Cond.instanceMethod ⟨"CensusWalkModel", "isSet", "(I)Z"⟩) ∈ lw_g := ms_t7 (List.mem_of_getElem? (i := 142) rfl) rfl
theorem kw_7_143 : (Cond.code ⟨"CensusWalkModel", "isSet", "(I)Z"⟩ prog_13_method_73_code 2 (some .boolean)) ∈ lw_g := ms_t7 (List.mem_of_getElem? (i := 143) rfl) rfl
theorem kw_7_144 : (Cond.methodLink "CensusWalkModel" 288 ⟨"CensusWalkModel", "size", "(I)I"⟩) ∈ lw_g := ms_t7 (List.mem_of_getElem? (i := 144) rfl) rfl
theorem kw_7_145 : (Cond.static ⟨"CensusWalkModel", "size", "(I)I"⟩) ∈ lw_g := ms_t7 (List.mem_of_getElem? (i := 145) rfl) rfl
theorem kw_7_146 : (Cond.code ⟨"CensusWalkModel", "size", "(I)I"⟩ prog_13_method_72_code 3 (some .int)) ∈ lw_g := ms_t7 (List.mem_of_getElem? (i := 146) rfl) rfl
theorem kw_7_147 : (Cond.methodLink "CensusWalkModel" 304 ⟨"CensusWalkModel", "lays", "(I)V"⟩) ∈ lw_g := ms_t7 (List.mem_of_getElem? (i := 147) rfl) rfl
theorem kw_7_149 : (Cond.instanceMethod ⟨"CensusWalkModel", "lays", "(I)V"⟩) ∈ lw_g := ms_t7 (List.mem_of_getElem? (i := 149) rfl) rfl
theorem kw_7_150 : (Cond.code ⟨"CensusWalkModel", "lays", "(I)V"⟩ prog_13_method_74_code 3 none) ∈ lw_g := ms_t7 (List.mem_of_getElem? (i := 150) rfl) rfl
theorem kw_7_151 : (Cond.methodLink "CensusWalkModel" 307 ⟨"CensusWalkModel", "findSoonest", "(I)V"⟩) ∈ lw_g := ms_t7 (List.mem_of_getElem? (i := 151) rfl) rfl
theorem kw_7_153 : (Cond.instanceMethod ⟨"CensusWalkModel", "findSoonest", "(I)V"⟩) ∈ lw_g := ms_t7 (List.mem_of_getElem? (i := 153) rfl) rfl
theorem kw_7_154 : (Cond.code ⟨"CensusWalkModel", "findSoonest", "(I)V"⟩ prog_13_method_77_code 7 none) ∈ lw_g := ms_t7 (List.mem_of_getElem? (i := 154) rfl) rfl
theorem kw_7_155 : (Cond.methodLink "CensusWalkModel" 297 ⟨"CensusWalkModel", "goesOn", "(IIII)I"⟩) ∈ lw_g := ms_t7 (List.mem_of_getElem? (i := 155) rfl) rfl
theorem kw_7_157 : (Cond.instanceMethod ⟨"CensusWalkModel", "goesOn", "(IIII)I"⟩) ∈ lw_g := ms_t7 (List.mem_of_getElem? (i := 157) rfl) rfl
theorem kw_7_158 : (Cond.code ⟨"CensusWalkModel", "goesOn", "(IIII)I"⟩ prog_13_method_76_code 6 (some .int)) ∈ lw_g := ms_t7 (List.mem_of_getElem? (i := 158) rfl) rfl
theorem kw_7_159 : (Cond.methodLink "CensusWalkModel" 294 ⟨"CensusWalkModel", "after", "(II)I"⟩) ∈ lw_g := ms_t7 (List.mem_of_getElem? (i := 159) rfl) rfl
theorem kw_7_161 : (Cond.instanceMethod ⟨"CensusWalkModel", "after", "(II)I"⟩) ∈ lw_g := ms_t7 (List.mem_of_getElem? (i := 161) rfl) rfl
theorem kw_7_162 : (Cond.code ⟨"CensusWalkModel", "after", "(II)I"⟩ prog_13_method_75_code 3 (some .int)) ∈ lw_g := ms_t7 (List.mem_of_getElem? (i := 162) rfl) rfl
theorem kw_7_163 : (Cond.methodLink "CensusWalkModel" 310 ⟨"CensusWalkModel", "soonestOf", "(II)I"⟩) ∈ lw_g := ms_t7 (List.mem_of_getElem? (i := 163) rfl) rfl
theorem kw_7_165 : (Cond.instanceMethod ⟨"CensusWalkModel", "soonestOf", "(II)I"⟩) ∈ lw_g := ms_t7 (List.mem_of_getElem? (i := 165) rfl) rfl
theorem kw_7_166 : (Cond.code ⟨"CensusWalkModel", "soonestOf", "(II)I"⟩ prog_13_method_78_code 5 (some .int)) ∈ lw_g := ms_t7 (List.mem_of_getElem? (i := 166) rfl) rfl
theorem kw_7_167 : (Cond.methodLink "CensusWalkLaw" 187 ⟨"CensusWalkModel", "soonestOrder", "(III)I"⟩) ∈ lw_g := ms_t7 (List.mem_of_getElem? (i := 167) rfl) rfl
theorem kw_7_168 : (Cond.instanceMethod ⟨"CensusWalkModel", "soonestOrder", "(III)I"⟩) ∈ lw_g := ms_t7 (List.mem_of_getElem? (i := 168) rfl) rfl
theorem kw_7_169 : (Cond.selects "CensusWalkModel" ⟨"CensusWalkModel", "soonestOrder", "(III)I"⟩ ⟨"CensusWalkModel", "soonestOrder", "(III)I"⟩) ∈ lw_g := ms_t7 (List.mem_of_getElem? (i := 169) rfl) rfl
theorem kw_7_170 : (Cond.code ⟨"CensusWalkModel", "soonestOrder", "(III)I"⟩ prog_13_method_81_code 5 (some .int)) ∈ lw_g := ms_t7 (List.mem_of_getElem? (i := 170) rfl) rfl
theorem kw_7_171 : (Cond.methodLink "CensusWalkModel" 317 ⟨"CensusWalkModel", "tryOrders", "(IIIII)V"⟩) ∈ lw_g := ms_t7 (List.mem_of_getElem? (i := 171) rfl) rfl
theorem kw_7_173 : (Cond.instanceMethod ⟨"CensusWalkModel", "tryOrders", "(IIIII)V"⟩) ∈ lw_g := ms_t7 (List.mem_of_getElem? (i := 173) rfl) rfl
theorem kw_7_174 : (Cond.code ⟨"CensusWalkModel", "tryOrders", "(IIIII)V"⟩ prog_13_method_80_code 8 none) ∈ lw_g := ms_t7 (List.mem_of_getElem? (i := 174) rfl) rfl
theorem kw_7_175 : (Cond.methodLink "CensusWalkLaw" 190 ⟨"CensusWalkModel", "division", "(I)I"⟩) ∈ lw_g := ms_t7 (List.mem_of_getElem? (i := 175) rfl) rfl
theorem kw_7_176 : (Cond.instanceMethod ⟨"CensusWalkModel", "division", "(I)I"⟩) ∈ lw_g := ms_t7 (List.mem_of_getElem? (i := 176) rfl) rfl
theorem kw_7_177 : (Cond.selects "CensusWalkModel" ⟨"CensusWalkModel", "division", "(I)I"⟩ ⟨"CensusWalkModel", "division", "(I)I"⟩) ∈ lw_g := ms_t7 (List.mem_of_getElem? (i := 177) rfl) rfl
theorem kw_7_178 : (Cond.code ⟨"CensusWalkModel", "division", "(I)I"⟩ prog_13_method_84_code 2 (some .int)) ∈ lw_g := ms_t7 (List.mem_of_getElem? (i := 178) rfl) rfl
theorem kw_7_179 : (Cond.methodLink "CensusWalkModel" 329 ⟨"CensusWalkModel", "divide", "(I)V"⟩) ∈ lw_g := ms_t7 (List.mem_of_getElem? (i := 179) rfl) rfl
theorem kw_7_181 : (Cond.instanceMethod ⟨"CensusWalkModel", "divide", "(I)V"⟩) ∈ lw_g := ms_t7 (List.mem_of_getElem? (i := 181) rfl) rfl
theorem kw_7_182 : (Cond.code ⟨"CensusWalkModel", "divide", "(I)V"⟩ prog_13_method_82_code 6 none) ∈ lw_g := ms_t7 (List.mem_of_getElem? (i := 182) rfl) rfl
theorem kw_7_183 : (Cond.methodLink "CensusWalkModel" 327 ⟨"CensusWalkModel", "timeOf", "(I)I"⟩) ∈ lw_g := ms_t7 (List.mem_of_getElem? (i := 183) rfl) rfl
theorem kw_7_185 : (Cond.instanceMethod ⟨"CensusWalkModel", "timeOf", "(I)I"⟩) ∈ lw_g := ms_t7 (List.mem_of_getElem? (i := 185) rfl) rfl
theorem kw_7_186 : (Cond.code ⟨"CensusWalkModel", "timeOf", "(I)I"⟩ prog_13_method_83_code 6 (some .int)) ∈ lw_g := ms_t7 (List.mem_of_getElem? (i := 186) rfl) rfl
theorem kw_7_187 : (Cond.methodLink "CensusWalkLaw" 193 ⟨"CensusWalkModel", "walkerOf", "(II)I"⟩) ∈ lw_g := ms_t7 (List.mem_of_getElem? (i := 187) rfl) rfl
theorem kw_7_188 : (Cond.instanceMethod ⟨"CensusWalkModel", "walkerOf", "(II)I"⟩) ∈ lw_g := ms_t7 (List.mem_of_getElem? (i := 188) rfl) rfl
theorem kw_7_189 : (Cond.selects "CensusWalkModel" ⟨"CensusWalkModel", "walkerOf", "(II)I"⟩ ⟨"CensusWalkModel", "walkerOf", "(II)I"⟩) ∈ lw_g := ms_t7 (List.mem_of_getElem? (i := 189) rfl) rfl
theorem kw_7_190 : (Cond.code ⟨"CensusWalkModel", "walkerOf", "(II)I"⟩ prog_13_method_85_code 5 (some .int)) ∈ lw_g := ms_t7 (List.mem_of_getElem? (i := 190) rfl) rfl
theorem kw_7_191 : (Cond.methodLink "CensusWalkLaw" 196 ⟨"CensusWalkModel", "plan", "(II)I"⟩) ∈ lw_g := ms_t7 (List.mem_of_getElem? (i := 191) rfl) rfl
theorem kw_7_192 : (Cond.instanceMethod ⟨"CensusWalkModel", "plan", "(II)I"⟩) ∈ lw_g := ms_t7 (List.mem_of_getElem? (i := 192) rfl) rfl
theorem kw_7_193 : (Cond.selects "CensusWalkModel" ⟨"CensusWalkModel", "plan", "(II)I"⟩ ⟨"CensusWalkModel", "plan", "(II)I"⟩) ∈ lw_g := ms_t7 (List.mem_of_getElem? (i := 193) rfl) rfl
theorem kw_7_194 : (Cond.code ⟨"CensusWalkModel", "plan", "(II)I"⟩ prog_13_method_87_code 4 (some .int)) ∈ lw_g := ms_t7 (List.mem_of_getElem? (i := 194) rfl) rfl
theorem kw_7_195 : (Cond.methodLink "CensusWalkLaw" 199 ⟨"CensusWalkModel", "unplan", "(I)I"⟩) ∈ lw_g := ms_t7 (List.mem_of_getElem? (i := 195) rfl) rfl
theorem kw_7_196 : (Cond.instanceMethod ⟨"CensusWalkModel", "unplan", "(I)I"⟩) ∈ lw_g := ms_t7 (List.mem_of_getElem? (i := 196) rfl) rfl
theorem kw_7_197 : (Cond.selects "CensusWalkModel" ⟨"CensusWalkModel", "unplan", "(I)I"⟩ ⟨"CensusWalkModel", "unplan", "(I)I"⟩) ∈ lw_g := ms_t7 (List.mem_of_getElem? (i := 197) rfl) rfl
theorem kw_7_198 : (Cond.code ⟨"CensusWalkModel", "unplan", "(I)I"⟩ prog_13_method_88_code 3 (some .int)) ∈ lw_g := ms_t7 (List.mem_of_getElem? (i := 198) rfl) rfl
theorem kw_7_199 : (Cond.methodLink "CensusWalkLaw" 202 ⟨"CensusWalkModel", "setHours", "(III)I"⟩) ∈ lw_g := ms_t7 (List.mem_of_getElem? (i := 199) rfl) rfl
theorem kw_7_200 : (Cond.instanceMethod ⟨"CensusWalkModel", "setHours", "(III)I"⟩) ∈ lw_g := ms_t7 (List.mem_of_getElem? (i := 200) rfl) rfl
theorem kw_7_201 : (Cond.selects "CensusWalkModel" ⟨"CensusWalkModel", "setHours", "(III)I"⟩ ⟨"CensusWalkModel", "setHours", "(III)I"⟩) ∈ lw_g := ms_t7 (List.mem_of_getElem? (i := 201) rfl) rfl
theorem kw_7_202 : (Cond.code ⟨"CensusWalkModel", "setHours", "(III)I"⟩ prog_13_method_89_code 4 (some .int)) ∈ lw_g := ms_t7 (List.mem_of_getElem? (i := 202) rfl) rfl
theorem kw_7_203 : (Cond.methodLink "CensusWalkLaw" 206 ⟨"CensusWalkModel", "setDog", "(IZ)Z"⟩) ∈ lw_g := ms_t7 (List.mem_of_getElem? (i := 203) rfl) rfl
theorem kw_7_204 : (Cond.instanceMethod ⟨"CensusWalkModel", "setDog", "(IZ)Z"⟩) ∈ lw_g := ms_t7 (List.mem_of_getElem? (i := 204) rfl) rfl
theorem kw_7_205 : (Cond.selects "CensusWalkModel" ⟨"CensusWalkModel", "setDog", "(IZ)Z"⟩ ⟨"CensusWalkModel", "setDog", "(IZ)Z"⟩) ∈ lw_g := ms_t7 (List.mem_of_getElem? (i := 205) rfl) rfl
theorem kw_7_206 : (Cond.code ⟨"CensusWalkModel", "setDog", "(IZ)Z"⟩ prog_13_method_90_code 4 (some .boolean)) ∈ lw_g := ms_t7 (List.mem_of_getElem? (i := 206) rfl) rfl
theorem kw_7_207 : (Cond.methodLink "CensusWalkLaw" 209 ⟨"CensusWalkModel", "setOpen", "(IZ)Z"⟩) ∈ lw_g := ms_t7 (List.mem_of_getElem? (i := 207) rfl) rfl
theorem kw_7_208 : (Cond.instanceMethod ⟨"CensusWalkModel", "setOpen", "(IZ)Z"⟩) ∈ lw_g := ms_t7 (List.mem_of_getElem? (i := 208) rfl) rfl
theorem kw_7_209 : (Cond.selects "CensusWalkModel" ⟨"CensusWalkModel", "setOpen", "(IZ)Z"⟩ ⟨"CensusWalkModel", "setOpen", "(IZ)Z"⟩) ∈ lw_g := ms_t7 (List.mem_of_getElem? (i := 209) rfl) rfl
theorem kw_7_210 : (Cond.code ⟨"CensusWalkModel", "setOpen", "(IZ)Z"⟩ prog_13_method_91_code 4 (some .boolean)) ∈ lw_g := ms_t7 (List.mem_of_getElem? (i := 210) rfl) rfl
theorem kw_7_211 : (Cond.methodLink "CensusWalkLaw" 213 ⟨"CensusWalkModel", "undo", "()I"⟩) ∈ lw_g := ms_t7 (List.mem_of_getElem? (i := 211) rfl) rfl
theorem kw_7_212 : (Cond.instanceMethod ⟨"CensusWalkModel", "undo", "()I"⟩) ∈ lw_g := ms_t7 (List.mem_of_getElem? (i := 212) rfl) rfl
theorem kw_7_213 : (Cond.selects "CensusWalkModel" ⟨"CensusWalkModel", "undo", "()I"⟩ ⟨"CensusWalkModel", "undo", "()I"⟩) ∈ lw_g := ms_t7 (List.mem_of_getElem? (i := 213) rfl) rfl
theorem kw_7_214 : (Cond.code ⟨"CensusWalkModel", "undo", "()I"⟩ prog_13_method_92_code 1 (some .int)) ∈ lw_g := ms_t7 (List.mem_of_getElem? (i := 214) rfl) rfl
theorem kw_7_215 : (Cond.methodLink "CensusWalkLaw" 218 ⟨"CensusWalkModel", "checksum", "()J"⟩) ∈ lw_g := ms_t7 (List.mem_of_getElem? (i := 215) rfl) rfl
theorem kw_7_216 : (Cond.instanceMethod ⟨"CensusWalkModel", "checksum", "()J"⟩) ∈ lw_g := ms_t7 (List.mem_of_getElem? (i := 216) rfl) rfl
theorem kw_7_217 : (Cond.selects "CensusWalkModel" ⟨"CensusWalkModel", "checksum", "()J"⟩ ⟨"CensusWalkModel", "checksum", "()J"⟩) ∈ lw_g := ms_t7 (List.mem_of_getElem? (i := 217) rfl) rfl
theorem kw_7_218 : (Cond.code ⟨"CensusWalkModel", "checksum", "()J"⟩ prog_13_method_93_code 5 (some .long)) ∈ lw_g := ms_t7 (List.mem_of_getElem? (i := 218) rfl) rfl
theorem kw_7_219 : (Cond.constantLong "CensusWalkModel" 335 (31 : Int64)) ∈ lw_g := ms_t7 (List.mem_of_getElem? (i := 219) rfl) rfl
theorem kw_7_220 : (Cond.sameMethod "java/lang/Throwable" "java/lang/Throwable" "fillInStackTrace" "(I)Ljava/lang/Throwable;") ∈ lw_tbl := ms_q7 (List.mem_of_getElem? (i := 220) rfl)
theorem kw_7_221 : (Cond.fieldLink "java/lang/String" 9 "java/lang/String" "value" "[B") ∈ lw_g := ms_t7 (List.mem_of_getElem? (i := 221) rfl) rfl
theorem kw_7_222 : (Cond.fieldLink "java/lang/String" 15 "java/lang/String" "coder" "B") ∈ lw_g := ms_t7 (List.mem_of_getElem? (i := 222) rfl) rfl
theorem kp_0 : (Cond.selects "CensusWalk" ⟨"CensusWalk", "appendWord", "(I)V"⟩ ⟨"CensusWalk", "appendWord", "(I)V"⟩) ∈ lw_g := List.mem_filter.mpr ⟨List.mem_append_left _ (List.mem_of_getElem? (i := 0) rfl), rfl⟩
theorem kp_1 : (Cond.selects "CensusWalk" ⟨"CensusWalk", "refreshSimulation", "()V"⟩ ⟨"CensusWalk", "refreshSimulation", "()V"⟩) ∈ lw_g := List.mem_filter.mpr ⟨List.mem_append_left _ (List.mem_of_getElem? (i := 1) rfl), rfl⟩
theorem kp_2 : (Cond.selects "CensusWalk" ⟨"CensusWalk", "refreshRoutes", "()V"⟩ ⟨"CensusWalk", "refreshRoutes", "()V"⟩) ∈ lw_g := List.mem_filter.mpr ⟨List.mem_append_left _ (List.mem_of_getElem? (i := 2) rfl), rfl⟩
theorem kp_3 : (Cond.selects "CensusWalk$Routes" ⟨"CensusWalk$Routes", "shorten", "(III)V"⟩ ⟨"CensusWalk$Routes", "shorten", "(III)V"⟩) ∈ lw_g := List.mem_filter.mpr ⟨List.mem_append_left _ (List.mem_of_getElem? (i := 3) rfl), rfl⟩
theorem kp_4 : (Cond.selects "CensusWalk$Routes" ⟨"CensusWalk$Routes", "shortenAllFrom", "(III)V"⟩ ⟨"CensusWalk$Routes", "shortenAllFrom", "(III)V"⟩) ∈ lw_g := List.mem_filter.mpr ⟨List.mem_append_left _ (List.mem_of_getElem? (i := 4) rfl), rfl⟩
theorem kp_5 : (Cond.selects "CensusWalk$Routes" ⟨"CensusWalk$Routes", "way", "(II)I"⟩ ⟨"CensusWalk$Routes", "way", "(II)I"⟩) ∈ lw_g := List.mem_filter.mpr ⟨List.mem_append_left _ (List.mem_of_getElem? (i := 5) rfl), rfl⟩
theorem kp_6 : (Cond.selects "CensusWalk$Simulation" ⟨"CensusWalk$Simulation", "lookAhead", "(LCensusWalk$Town;LCensusWalk$Routes;I)V"⟩ ⟨"CensusWalk$Simulation", "lookAhead", "(LCensusWalk$Town;LCensusWalk$Routes;I)V"⟩) ∈ lw_g := List.mem_filter.mpr ⟨List.mem_append_left _ (List.mem_of_getElem? (i := 6) rfl), rfl⟩
theorem kp_7 : (Cond.selects "CensusWalk$Routes" ⟨"CensusWalk$Routes", "reach", "(LCensusWalk$Town;II)I"⟩ ⟨"CensusWalk$Routes", "reach", "(LCensusWalk$Town;II)I"⟩) ∈ lw_g := List.mem_filter.mpr ⟨List.mem_append_left _ (List.mem_of_getElem? (i := 7) rfl), rfl⟩
theorem kp_8 : (Cond.selects "CensusWalk$Simulation" ⟨"CensusWalk$Simulation", "firstToArrive", "(LCensusWalk$Walkers;)I"⟩ ⟨"CensusWalk$Simulation", "firstToArrive", "(LCensusWalk$Walkers;)I"⟩) ∈ lw_g := List.mem_filter.mpr ⟨List.mem_append_left _ (List.mem_of_getElem? (i := 8) rfl), rfl⟩
theorem kp_9 : (Cond.selects "CensusWalk$Simulation" ⟨"CensusWalk$Simulation", "treat", "(LCensusWalk$Town;I)V"⟩ ⟨"CensusWalk$Simulation", "treat", "(LCensusWalk$Town;I)V"⟩) ∈ lw_g := List.mem_filter.mpr ⟨List.mem_append_left _ (List.mem_of_getElem? (i := 9) rfl), rfl⟩
theorem kp_10 : (Cond.selects "CensusWalk$Simulation" ⟨"CensusWalk$Simulation", "callOn", "(LCensusWalk$Town;II)I"⟩ ⟨"CensusWalk$Simulation", "callOn", "(LCensusWalk$Town;II)I"⟩) ∈ lw_g := List.mem_filter.mpr ⟨List.mem_append_left _ (List.mem_of_getElem? (i := 10) rfl), rfl⟩
theorem kp_11 : (Cond.selects "CensusWalk" ⟨"CensusWalk", "forgetAnswers", "()V"⟩ ⟨"CensusWalk", "forgetAnswers", "()V"⟩) ∈ lw_g := List.mem_filter.mpr ⟨List.mem_append_left _ (List.mem_of_getElem? (i := 11) rfl), rfl⟩
theorem kp_12 : (Cond.selects "java/lang/Throwable" ⟨"java/lang/Throwable", "fillInStackTrace", "(I)Ljava/lang/Throwable;"⟩ ⟨"java/lang/Throwable", "fillInStackTrace", "(I)Ljava/lang/Throwable;"⟩) ∈ lw_g := List.mem_filter.mpr ⟨List.mem_append_left _ (List.mem_of_getElem? (i := 12) rfl), rfl⟩
theorem kp_13 : (Cond.selects "CensusWalk$SetupReader" ⟨"CensusWalk$SetupReader", "header", "()Z"⟩ ⟨"CensusWalk$SetupReader", "header", "()Z"⟩) ∈ lw_g := List.mem_filter.mpr ⟨List.mem_append_left _ (List.mem_of_getElem? (i := 13) rfl), rfl⟩
theorem kp_14 : (Cond.selects "CensusWalk$SetupReader" ⟨"CensusWalk$SetupReader", "fail", "(I)Z"⟩ ⟨"CensusWalk$SetupReader", "fail", "(I)Z"⟩) ∈ lw_g := List.mem_filter.mpr ⟨List.mem_append_left _ (List.mem_of_getElem? (i := 14) rfl), rfl⟩
theorem kp_15 : (Cond.selects "CensusWalk$SetupReader" ⟨"CensusWalk$SetupReader", "number", "(II)I"⟩ ⟨"CensusWalk$SetupReader", "number", "(II)I"⟩) ∈ lw_g := List.mem_filter.mpr ⟨List.mem_append_left _ (List.mem_of_getElem? (i := 15) rfl), rfl⟩
theorem kp_16 : (Cond.selects "CensusWalk$SetupReader" ⟨"CensusWalk$SetupReader", "expect", "(C)Z"⟩ ⟨"CensusWalk$SetupReader", "expect", "(C)Z"⟩) ∈ lw_g := List.mem_filter.mpr ⟨List.mem_append_left _ (List.mem_of_getElem? (i := 16) rfl), rfl⟩
theorem kp_17 : (Cond.selects "CensusWalk$SetupReader" ⟨"CensusWalk$SetupReader", "statement", "()Z"⟩ ⟨"CensusWalk$SetupReader", "statement", "()Z"⟩) ∈ lw_g := List.mem_filter.mpr ⟨List.mem_append_left _ (List.mem_of_getElem? (i := 17) rfl), rfl⟩
theorem kp_18 : (Cond.selects "CensusWalk$SetupReader" ⟨"CensusWalk$SetupReader", "street", "()Z"⟩ ⟨"CensusWalk$SetupReader", "street", "()Z"⟩) ∈ lw_g := List.mem_filter.mpr ⟨List.mem_append_left _ (List.mem_of_getElem? (i := 18) rfl), rfl⟩
theorem kp_19 : (Cond.selects "CensusWalk$SetupReader" ⟨"CensusWalk$SetupReader", "house", "()Z"⟩ ⟨"CensusWalk$SetupReader", "house", "()Z"⟩) ∈ lw_g := List.mem_filter.mpr ⟨List.mem_append_left _ (List.mem_of_getElem? (i := 19) rfl), rfl⟩
theorem kp_20 : (Cond.selects "CensusWalk$SetupReader" ⟨"CensusWalk$SetupReader", "walker", "()Z"⟩ ⟨"CensusWalk$SetupReader", "walker", "()Z"⟩) ∈ lw_g := List.mem_filter.mpr ⟨List.mem_append_left _ (List.mem_of_getElem? (i := 20) rfl), rfl⟩
theorem kp_21 : (Cond.selects "CensusWalk$SetupReader" ⟨"CensusWalk$SetupReader", "sum", "(I)Z"⟩ ⟨"CensusWalk$SetupReader", "sum", "(I)Z"⟩) ∈ lw_g := List.mem_filter.mpr ⟨List.mem_append_left _ (List.mem_of_getElem? (i := 21) rfl), rfl⟩
theorem kp_22 : (Cond.selects "CensusWalk$SetupReader" ⟨"CensusWalk$SetupReader", "term", "(I)Z"⟩ ⟨"CensusWalk$SetupReader", "term", "(I)Z"⟩) ∈ lw_g := List.mem_filter.mpr ⟨List.mem_append_left _ (List.mem_of_getElem? (i := 22) rfl), rfl⟩
theorem kp_23 : (Cond.selects "CensusWalk$SetupReader" ⟨"CensusWalk$SetupReader", "factor", "(I)Z"⟩ ⟨"CensusWalk$SetupReader", "factor", "(I)Z"⟩) ∈ lw_g := List.mem_filter.mpr ⟨List.mem_append_left _ (List.mem_of_getElem? (i := 23) rfl), rfl⟩
theorem kp_24 : (Cond.selects "CensusWalk" ⟨"CensusWalk", "beginChange", "()V"⟩ ⟨"CensusWalk", "beginChange", "()V"⟩) ∈ lw_g := List.mem_filter.mpr ⟨List.mem_append_left _ (List.mem_of_getElem? (i := 24) rfl), rfl⟩
theorem kp_25 : (Cond.selects "CensusWalk" ⟨"CensusWalk", "checkHouse", "(I)V"⟩ ⟨"CensusWalk", "checkHouse", "(I)V"⟩) ∈ lw_g := List.mem_filter.mpr ⟨List.mem_append_left _ (List.mem_of_getElem? (i := 25) rfl), rfl⟩
theorem kp_26 : (Cond.selects "CensusWalk" ⟨"CensusWalk", "checkStreet", "(I)V"⟩ ⟨"CensusWalk", "checkStreet", "(I)V"⟩) ∈ lw_g := List.mem_filter.mpr ⟨List.mem_append_left _ (List.mem_of_getElem? (i := 26) rfl), rfl⟩
theorem kp_27 : (Cond.selects "CensusWalk" ⟨"CensusWalk", "checkWalker", "(I)V"⟩ ⟨"CensusWalk", "checkWalker", "(I)V"⟩) ∈ lw_g := List.mem_filter.mpr ⟨List.mem_append_left _ (List.mem_of_getElem? (i := 27) rfl), rfl⟩
theorem kp_28 : (Cond.selects "CensusWalk" ⟨"CensusWalk", "checkPlanIndex", "(II)V"⟩ ⟨"CensusWalk", "checkPlanIndex", "(II)V"⟩) ∈ lw_g := List.mem_filter.mpr ⟨List.mem_append_left _ (List.mem_of_getElem? (i := 28) rfl), rfl⟩
theorem kp_29 : (Cond.selects "CensusWalk" ⟨"CensusWalk", "checkSet", "(I)V"⟩ ⟨"CensusWalk", "checkSet", "(I)V"⟩) ∈ lw_g := List.mem_filter.mpr ⟨List.mem_append_left _ (List.mem_of_getElem? (i := 29) rfl), rfl⟩
theorem kp_30 : (Cond.selects "CensusWalk$Search" ⟨"CensusWalk$Search", "choose", "(LCensusWalk$Town;LCensusWalk$Routes;I)V"⟩ ⟨"CensusWalk$Search", "choose", "(LCensusWalk$Town;LCensusWalk$Routes;I)V"⟩) ∈ lw_g := List.mem_filter.mpr ⟨List.mem_append_left _ (List.mem_of_getElem? (i := 30) rfl), rfl⟩
theorem kp_31 : (Cond.selects "CensusWalk$Search" ⟨"CensusWalk$Search", "beginAt", "(LCensusWalk$Town;LCensusWalk$Routes;I)V"⟩ ⟨"CensusWalk$Search", "beginAt", "(LCensusWalk$Town;LCensusWalk$Routes;I)V"⟩) ∈ lw_g := List.mem_filter.mpr ⟨List.mem_append_left _ (List.mem_of_getElem? (i := 31) rfl), rfl⟩
theorem kp_32 : (Cond.selects "CensusWalk$Search" ⟨"CensusWalk$Search", "findEarly", "()V"⟩ ⟨"CensusWalk$Search", "findEarly", "()V"⟩) ∈ lw_g := List.mem_filter.mpr ⟨List.mem_append_left _ (List.mem_of_getElem? (i := 32) rfl), rfl⟩
theorem kp_33 : (Cond.selects "CensusWalk$Search" ⟨"CensusWalk$Search", "earliestAfter", "(II)I"⟩ ⟨"CensusWalk$Search", "earliestAfter", "(II)I"⟩) ∈ lw_g := List.mem_filter.mpr ⟨List.mem_append_left _ (List.mem_of_getElem? (i := 33) rfl), rfl⟩
theorem kp_34 : (Cond.selects "CensusWalk$Search" ⟨"CensusWalk$Search", "visitEnd", "(III)I"⟩ ⟨"CensusWalk$Search", "visitEnd", "(III)I"⟩) ∈ lw_g := List.mem_filter.mpr ⟨List.mem_append_left _ (List.mem_of_getElem? (i := 34) rfl), rfl⟩
theorem kp_35 : (Cond.selects "CensusWalk$Search" ⟨"CensusWalk$Search", "earliestEnd", "(I)I"⟩ ⟨"CensusWalk$Search", "earliestEnd", "(I)I"⟩) ∈ lw_g := List.mem_filter.mpr ⟨List.mem_append_left _ (List.mem_of_getElem? (i := 35) rfl), rfl⟩
theorem kp_36 : (Cond.selects "CensusWalk$Search" ⟨"CensusWalk$Search", "findLate", "(I)V"⟩ ⟨"CensusWalk$Search", "findLate", "(I)V"⟩) ∈ lw_g := List.mem_filter.mpr ⟨List.mem_append_left _ (List.mem_of_getElem? (i := 36) rfl), rfl⟩
theorem kp_37 : (Cond.selects "CensusWalk$Search" ⟨"CensusWalk$Search", "latestLeave", "(II)I"⟩ ⟨"CensusWalk$Search", "latestLeave", "(II)I"⟩) ∈ lw_g := List.mem_filter.mpr ⟨List.mem_append_left _ (List.mem_of_getElem? (i := 37) rfl), rfl⟩
theorem kp_38 : (Cond.selects "CensusWalk$Search" ⟨"CensusWalk$Search", "latestCall", "(II)I"⟩ ⟨"CensusWalk$Search", "latestCall", "(II)I"⟩) ∈ lw_g := List.mem_filter.mpr ⟨List.mem_append_left _ (List.mem_of_getElem? (i := 38) rfl), rfl⟩
theorem kp_39 : (Cond.selects "CensusWalk$Search" ⟨"CensusWalk$Search", "firstInTime", "(III)I"⟩ ⟨"CensusWalk$Search", "firstInTime", "(III)I"⟩) ∈ lw_g := List.mem_filter.mpr ⟨List.mem_append_left _ (List.mem_of_getElem? (i := 39) rfl), rfl⟩
theorem kp_40 : (Cond.selects "CensusWalk$Search" ⟨"CensusWalk$Search", "wayTo", "(II)I"⟩ ⟨"CensusWalk$Search", "wayTo", "(II)I"⟩) ∈ lw_g := List.mem_filter.mpr ⟨List.mem_append_left _ (List.mem_of_getElem? (i := 40) rfl), rfl⟩
theorem kp_41 : (Cond.selects "CensusWalk$Search" ⟨"CensusWalk$Search", "giveFrom", "(I)V"⟩ ⟨"CensusWalk$Search", "giveFrom", "(I)V"⟩) ∈ lw_g := List.mem_filter.mpr ⟨List.mem_append_left _ (List.mem_of_getElem? (i := 41) rfl), rfl⟩
theorem kp_42 : (Cond.selects "CensusWalk$Search" ⟨"CensusWalk$Search", "judgeShares", "()V"⟩ ⟨"CensusWalk$Search", "judgeShares", "()V"⟩) ∈ lw_g := List.mem_filter.mpr ⟨List.mem_append_left _ (List.mem_of_getElem? (i := 42) rfl), rfl⟩
theorem kp_43 : (Cond.selects "CensusWalkModel" ⟨"CensusWalkModel", "fails", "(ZI)Z"⟩ ⟨"CensusWalkModel", "fails", "(ZI)Z"⟩) ∈ lw_g := List.mem_filter.mpr ⟨List.mem_append_left _ (List.mem_of_getElem? (i := 43) rfl), rfl⟩
theorem kp_44 : (Cond.selects "CensusWalkModel" ⟨"CensusWalkModel", "takeWord", "(Ljava/lang/String;)Z"⟩ ⟨"CensusWalkModel", "takeWord", "(Ljava/lang/String;)Z"⟩) ∈ lw_g := List.mem_filter.mpr ⟨List.mem_append_left _ (List.mem_of_getElem? (i := 44) rfl), rfl⟩
theorem kp_45 : (Cond.selects "CensusWalkModel" ⟨"CensusWalkModel", "isGood", "()Z"⟩ ⟨"CensusWalkModel", "isGood", "()Z"⟩) ∈ lw_g := List.mem_filter.mpr ⟨List.mem_append_left _ (List.mem_of_getElem? (i := 45) rfl), rfl⟩
theorem kp_46 : (Cond.selects "CensusWalkModel" ⟨"CensusWalkModel", "next", "()I"⟩ ⟨"CensusWalkModel", "next", "()I"⟩) ∈ lw_g := List.mem_filter.mpr ⟨List.mem_append_left _ (List.mem_of_getElem? (i := 46) rfl), rfl⟩
theorem kp_47 : (Cond.selects "CensusWalkModel" ⟨"CensusWalkModel", "byteAt", "(I)I"⟩ ⟨"CensusWalkModel", "byteAt", "(I)I"⟩) ∈ lw_g := List.mem_filter.mpr ⟨List.mem_append_left _ (List.mem_of_getElem? (i := 47) rfl), rfl⟩
theorem kp_48 : (Cond.selects "CensusWalkModel" ⟨"CensusWalkModel", "report", "(II)V"⟩ ⟨"CensusWalkModel", "report", "(II)V"⟩) ∈ lw_g := List.mem_filter.mpr ⟨List.mem_append_left _ (List.mem_of_getElem? (i := 48) rfl), rfl⟩
theorem kp_49 : (Cond.selects "CensusWalkModel" ⟨"CensusWalkModel", "number", "(II)I"⟩ ⟨"CensusWalkModel", "number", "(II)I"⟩) ∈ lw_g := List.mem_filter.mpr ⟨List.mem_append_left _ (List.mem_of_getElem? (i := 49) rfl), rfl⟩
theorem kp_50 : (Cond.selects "CensusWalkModel" ⟨"CensusWalkModel", "expect", "(I)V"⟩ ⟨"CensusWalkModel", "expect", "(I)V"⟩) ∈ lw_g := List.mem_filter.mpr ⟨List.mem_append_left _ (List.mem_of_getElem? (i := 50) rfl), rfl⟩
theorem kp_51 : (Cond.selects "CensusWalkModel" ⟨"CensusWalkModel", "statement", "()V"⟩ ⟨"CensusWalkModel", "statement", "()V"⟩) ∈ lw_g := List.mem_filter.mpr ⟨List.mem_append_left _ (List.mem_of_getElem? (i := 51) rfl), rfl⟩
theorem kp_52 : (Cond.selects "CensusWalkModel" ⟨"CensusWalkModel", "readStreet", "(I)V"⟩ ⟨"CensusWalkModel", "readStreet", "(I)V"⟩) ∈ lw_g := List.mem_filter.mpr ⟨List.mem_append_left _ (List.mem_of_getElem? (i := 52) rfl), rfl⟩
theorem kp_53 : (Cond.selects "CensusWalkModel" ⟨"CensusWalkModel", "readHouse", "(I)V"⟩ ⟨"CensusWalkModel", "readHouse", "(I)V"⟩) ∈ lw_g := List.mem_filter.mpr ⟨List.mem_append_left _ (List.mem_of_getElem? (i := 53) rfl), rfl⟩
theorem kp_54 : (Cond.selects "CensusWalkModel" ⟨"CensusWalkModel", "readWalker", "(I)V"⟩ ⟨"CensusWalkModel", "readWalker", "(I)V"⟩) ∈ lw_g := List.mem_filter.mpr ⟨List.mem_append_left _ (List.mem_of_getElem? (i := 54) rfl), rfl⟩
theorem kp_55 : (Cond.selects "CensusWalkModel" ⟨"CensusWalkModel", "once", "(II)V"⟩ ⟨"CensusWalkModel", "once", "(II)V"⟩) ∈ lw_g := List.mem_filter.mpr ⟨List.mem_append_left _ (List.mem_of_getElem? (i := 55) rfl), rfl⟩
theorem kp_56 : (Cond.selects "CensusWalkModel" ⟨"CensusWalkModel", "sum", "()V"⟩ ⟨"CensusWalkModel", "sum", "()V"⟩) ∈ lw_g := List.mem_filter.mpr ⟨List.mem_append_left _ (List.mem_of_getElem? (i := 56) rfl), rfl⟩
theorem kp_57 : (Cond.selects "CensusWalkModel" ⟨"CensusWalkModel", "term", "()V"⟩ ⟨"CensusWalkModel", "term", "()V"⟩) ∈ lw_g := List.mem_filter.mpr ⟨List.mem_append_left _ (List.mem_of_getElem? (i := 57) rfl), rfl⟩
theorem kp_58 : (Cond.selects "CensusWalkModel" ⟨"CensusWalkModel", "factor", "()V"⟩ ⟨"CensusWalkModel", "factor", "()V"⟩) ∈ lw_g := List.mem_filter.mpr ⟨List.mem_append_left _ (List.mem_of_getElem? (i := 58) rfl), rfl⟩
theorem kp_59 : (Cond.selects "CensusWalkModel" ⟨"CensusWalkModel", "emit", "(I)V"⟩ ⟨"CensusWalkModel", "emit", "(I)V"⟩) ∈ lw_g := List.mem_filter.mpr ⟨List.mem_append_left _ (List.mem_of_getElem? (i := 59) rfl), rfl⟩
theorem kp_60 : (Cond.selects "CensusWalkModel" ⟨"CensusWalkModel", "remember", "()V"⟩ ⟨"CensusWalkModel", "remember", "()V"⟩) ∈ lw_g := List.mem_filter.mpr ⟨List.mem_append_left _ (List.mem_of_getElem? (i := 60) rfl), rfl⟩
theorem kp_61 : (Cond.selects "CensusWalkModel" ⟨"CensusWalkModel", "noHouse", "(I)Z"⟩ ⟨"CensusWalkModel", "noHouse", "(I)Z"⟩) ∈ lw_g := List.mem_filter.mpr ⟨List.mem_append_left _ (List.mem_of_getElem? (i := 61) rfl), rfl⟩
theorem kp_62 : (Cond.selects "CensusWalkModel" ⟨"CensusWalkModel", "findWays", "()V"⟩ ⟨"CensusWalkModel", "findWays", "()V"⟩) ∈ lw_g := List.mem_filter.mpr ⟨List.mem_append_left _ (List.mem_of_getElem? (i := 62) rfl), rfl⟩
theorem kp_63 : (Cond.selects "CensusWalkModel" ⟨"CensusWalkModel", "between", "(II)I"⟩ ⟨"CensusWalkModel", "between", "(II)I"⟩) ∈ lw_g := List.mem_filter.mpr ⟨List.mem_append_left _ (List.mem_of_getElem? (i := 63) rfl), rfl⟩
theorem kp_64 : (Cond.selects "CensusWalkModel" ⟨"CensusWalkModel", "isShut", "(I)Z"⟩ ⟨"CensusWalkModel", "isShut", "(I)Z"⟩) ∈ lw_g := List.mem_filter.mpr ⟨List.mem_append_left _ (List.mem_of_getElem? (i := 64) rfl), rfl⟩
theorem kp_65 : (Cond.selects "CensusWalkModel" ⟨"CensusWalkModel", "streetAt", "(I)I"⟩ ⟨"CensusWalkModel", "streetAt", "(I)I"⟩) ∈ lw_g := List.mem_filter.mpr ⟨List.mem_append_left _ (List.mem_of_getElem? (i := 65) rfl), rfl⟩
theorem kp_66 : (Cond.selects "CensusWalkModel" ⟨"CensusWalkModel", "toStart", "(I)I"⟩ ⟨"CensusWalkModel", "toStart", "(I)I"⟩) ∈ lw_g := List.mem_filter.mpr ⟨List.mem_append_left _ (List.mem_of_getElem? (i := 66) rfl), rfl⟩
theorem kp_67 : (Cond.selects "CensusWalkModel" ⟨"CensusWalkModel", "fromCrossing", "(II)I"⟩ ⟨"CensusWalkModel", "fromCrossing", "(II)I"⟩) ∈ lw_g := List.mem_filter.mpr ⟨List.mem_append_left _ (List.mem_of_getElem? (i := 67) rfl), rfl⟩
theorem kp_68 : (Cond.selects "CensusWalkModel" ⟨"CensusWalkModel", "toEnd", "(I)I"⟩ ⟨"CensusWalkModel", "toEnd", "(I)I"⟩) ∈ lw_g := List.mem_filter.mpr ⟨List.mem_append_left _ (List.mem_of_getElem? (i := 68) rfl), rfl⟩
theorem kp_69 : (Cond.selects "CensusWalkModel" ⟨"CensusWalkModel", "noStreet", "(I)Z"⟩ ⟨"CensusWalkModel", "noStreet", "(I)Z"⟩) ∈ lw_g := List.mem_filter.mpr ⟨List.mem_append_left _ (List.mem_of_getElem? (i := 69) rfl), rfl⟩
theorem kp_70 : (Cond.selects "CensusWalkModel" ⟨"CensusWalkModel", "home", "(II)Z"⟩ ⟨"CensusWalkModel", "home", "(II)Z"⟩) ∈ lw_g := List.mem_filter.mpr ⟨List.mem_append_left _ (List.mem_of_getElem? (i := 70) rfl), rfl⟩
theorem kp_71 : (Cond.selects "CensusWalkModel" ⟨"CensusWalkModel", "visit", "(II)I"⟩ ⟨"CensusWalkModel", "visit", "(II)I"⟩) ∈ lw_g := List.mem_filter.mpr ⟨List.mem_append_left _ (List.mem_of_getElem? (i := 71) rfl), rfl⟩
theorem kp_72 : (Cond.selects "CensusWalkModel" ⟨"CensusWalkModel", "noWalker", "(I)Z"⟩ ⟨"CensusWalkModel", "noWalker", "(I)Z"⟩) ∈ lw_g := List.mem_filter.mpr ⟨List.mem_append_left _ (List.mem_of_getElem? (i := 72) rfl), rfl⟩
theorem kp_73 : (Cond.selects "CensusWalkModel" ⟨"CensusWalkModel", "noPlanned", "(II)Z"⟩ ⟨"CensusWalkModel", "noPlanned", "(II)Z"⟩) ∈ lw_g := List.mem_filter.mpr ⟨List.mem_append_left _ (List.mem_of_getElem? (i := 73) rfl), rfl⟩
theorem kp_74 : (Cond.selects "CensusWalkModel" ⟨"CensusWalkModel", "simulate", "()V"⟩ ⟨"CensusWalkModel", "simulate", "()V"⟩) ∈ lw_g := List.mem_filter.mpr ⟨List.mem_append_left _ (List.mem_of_getElem? (i := 74) rfl), rfl⟩
theorem kp_75 : (Cond.selects "CensusWalkModel" ⟨"CensusWalkModel", "nextWalker", "()I"⟩ ⟨"CensusWalkModel", "nextWalker", "()I"⟩) ∈ lw_g := List.mem_filter.mpr ⟨List.mem_append_left _ (List.mem_of_getElem? (i := 75) rfl), rfl⟩
theorem kp_76 : (Cond.selects "CensusWalkModel" ⟨"CensusWalkModel", "nextArrival", "(I)I"⟩ ⟨"CensusWalkModel", "nextArrival", "(I)I"⟩) ∈ lw_g := List.mem_filter.mpr ⟨List.mem_append_left _ (List.mem_of_getElem? (i := 76) rfl), rfl⟩
theorem kp_77 : (Cond.selects "CensusWalkModel" ⟨"CensusWalkModel", "nextHouse", "(I)I"⟩ ⟨"CensusWalkModel", "nextHouse", "(I)I"⟩) ∈ lw_g := List.mem_filter.mpr ⟨List.mem_append_left _ (List.mem_of_getElem? (i := 77) rfl), rfl⟩
theorem kp_78 : (Cond.selects "CensusWalkModel" ⟨"CensusWalkModel", "wayOf", "(II)I"⟩ ⟨"CensusWalkModel", "wayOf", "(II)I"⟩) ∈ lw_g := List.mem_filter.mpr ⟨List.mem_append_left _ (List.mem_of_getElem? (i := 78) rfl), rfl⟩
theorem kp_79 : (Cond.selects "CensusWalkModel" ⟨"CensusWalkModel", "go", "(I)V"⟩ ⟨"CensusWalkModel", "go", "(I)V"⟩) ∈ lw_g := List.mem_filter.mpr ⟨List.mem_append_left _ (List.mem_of_getElem? (i := 79) rfl), rfl⟩
theorem kp_80 : (Cond.selects "CensusWalkModel" ⟨"CensusWalkModel", "isSet", "(I)Z"⟩ ⟨"CensusWalkModel", "isSet", "(I)Z"⟩) ∈ lw_g := List.mem_filter.mpr ⟨List.mem_append_left _ (List.mem_of_getElem? (i := 80) rfl), rfl⟩
theorem kp_81 : (Cond.selects "CensusWalkModel" ⟨"CensusWalkModel", "lays", "(I)V"⟩ ⟨"CensusWalkModel", "lays", "(I)V"⟩) ∈ lw_g := List.mem_filter.mpr ⟨List.mem_append_left _ (List.mem_of_getElem? (i := 81) rfl), rfl⟩
theorem kp_82 : (Cond.selects "CensusWalkModel" ⟨"CensusWalkModel", "findSoonest", "(I)V"⟩ ⟨"CensusWalkModel", "findSoonest", "(I)V"⟩) ∈ lw_g := List.mem_filter.mpr ⟨List.mem_append_left _ (List.mem_of_getElem? (i := 82) rfl), rfl⟩
theorem kp_83 : (Cond.selects "CensusWalkModel" ⟨"CensusWalkModel", "goesOn", "(IIII)I"⟩ ⟨"CensusWalkModel", "goesOn", "(IIII)I"⟩) ∈ lw_g := List.mem_filter.mpr ⟨List.mem_append_left _ (List.mem_of_getElem? (i := 83) rfl), rfl⟩
theorem kp_84 : (Cond.selects "CensusWalkModel" ⟨"CensusWalkModel", "after", "(II)I"⟩ ⟨"CensusWalkModel", "after", "(II)I"⟩) ∈ lw_g := List.mem_filter.mpr ⟨List.mem_append_left _ (List.mem_of_getElem? (i := 84) rfl), rfl⟩
theorem kp_85 : (Cond.selects "CensusWalkModel" ⟨"CensusWalkModel", "soonestOf", "(II)I"⟩ ⟨"CensusWalkModel", "soonestOf", "(II)I"⟩) ∈ lw_g := List.mem_filter.mpr ⟨List.mem_append_left _ (List.mem_of_getElem? (i := 85) rfl), rfl⟩
theorem kp_86 : (Cond.selects "CensusWalkModel" ⟨"CensusWalkModel", "tryOrders", "(IIIII)V"⟩ ⟨"CensusWalkModel", "tryOrders", "(IIIII)V"⟩) ∈ lw_g := List.mem_filter.mpr ⟨List.mem_append_left _ (List.mem_of_getElem? (i := 86) rfl), rfl⟩
theorem kp_87 : (Cond.selects "CensusWalkModel" ⟨"CensusWalkModel", "divide", "(I)V"⟩ ⟨"CensusWalkModel", "divide", "(I)V"⟩) ∈ lw_g := List.mem_filter.mpr ⟨List.mem_append_left _ (List.mem_of_getElem? (i := 87) rfl), rfl⟩
theorem kp_88 : (Cond.selects "CensusWalkModel" ⟨"CensusWalkModel", "timeOf", "(I)I"⟩ ⟨"CensusWalkModel", "timeOf", "(I)I"⟩) ∈ lw_g := List.mem_filter.mpr ⟨List.mem_append_left _ (List.mem_of_getElem? (i := 88) rfl), rfl⟩
