def wsU : List Cond := lw_tbl.filter goodWord
theorem wsU_good : ∀ w ∈ wsU, (w.onTables && w.keeps) = true ∨ ∃ ty, w = .arrayClass ty := fun w h => good_of_word (List.mem_filter.mp h).2
theorem wsU_in : ∀ w ∈ wsU, w ∈ lw_tbl := fun w h => (List.mem_filter.mp h).1
theorem tin_1 : ∀ w ∈ tables_1_1, w ∈ lw_tbl := fun _ h => List.mem_append_right _ (List.mem_append_left _ h)
theorem uin_1 {w : Cond} (h : w ∈ tables_1_1) (g : goodWord w = true) : w ∈ wsU := List.mem_filter.mpr ⟨tin_1 w h, g⟩
theorem tin_2 : ∀ w ∈ tables_1_2, w ∈ lw_tbl := fun _ h => List.mem_append_right _ (List.mem_append_right _ (List.mem_append_left _ h))
theorem uin_2 {w : Cond} (h : w ∈ tables_1_2) (g : goodWord w = true) : w ∈ wsU := List.mem_filter.mpr ⟨tin_2 w h, g⟩
theorem tin_3 : ∀ w ∈ tables_1_3, w ∈ lw_tbl := fun _ h => List.mem_append_right _ (List.mem_append_right _ (List.mem_append_right _ (List.mem_append_left _ h)))
theorem uin_3 {w : Cond} (h : w ∈ tables_1_3) (g : goodWord w = true) : w ∈ wsU := List.mem_filter.mpr ⟨tin_3 w h, g⟩
theorem tin_4 : ∀ w ∈ tables_1_4, w ∈ lw_tbl := fun _ h => List.mem_append_right _ (List.mem_append_right _ (List.mem_append_right _ (List.mem_append_right _ (h))))
theorem uin_4 {w : Cond} (h : w ∈ tables_1_4) (g : goodWord w = true) : w ∈ wsU := List.mem_filter.mpr ⟨tin_4 w h, g⟩
theorem uw_1_0 : (Cond.initialized RL : Cond) ∈ wsU := uin_1 (List.mem_of_getElem? (i := 0) rfl) rfl
theorem uw_1_1 : (Cond.initialized RX5 : Cond) ∈ wsU := uin_1 (List.mem_of_getElem? (i := 1) rfl) rfl
theorem uw_1_2 : (Cond.initialized RX4 : Cond) ∈ wsU := uin_1 (List.mem_of_getElem? (i := 2) rfl) rfl
theorem uw_1_3 : (Cond.initialized RX1 : Cond) ∈ wsU := uin_1 (List.mem_of_getElem? (i := 3) rfl) rfl
theorem uw_1_4 : (Cond.initialized RX2 : Cond) ∈ wsU := uin_1 (List.mem_of_getElem? (i := 4) rfl) rfl
theorem uw_1_5 : (Cond.initialized RX3 : Cond) ∈ wsU := uin_1 (List.mem_of_getElem? (i := 5) rfl) rfl
theorem uw_1_6 : (Cond.initialized RX6 : Cond) ∈ wsU := uin_1 (List.mem_of_getElem? (i := 6) rfl) rfl
theorem uw_1_7 : (Cond.initialized RJ6 : Cond) ∈ wsU := uin_1 (List.mem_of_getElem? (i := 7) rfl) rfl
theorem uw_1_8 : (Cond.initialized RJ10 : Cond) ∈ wsU := uin_1 (List.mem_of_getElem? (i := 8) rfl) rfl
theorem uw_1_9 : (Cond.initialized RX0 : Cond) ∈ wsU := uin_1 (List.mem_of_getElem? (i := 9) rfl) rfl
theorem uw_1_10 : (Cond.initialized RJ9 : Cond) ∈ wsU := uin_1 (List.mem_of_getElem? (i := 10) rfl) rfl
theorem uw_1_11 : (Cond.classLink RL 7 RX5 : Cond) ∈ wsU := uin_1 (List.mem_of_getElem? (i := 11) rfl) rfl
theorem uw_1_12 : (Cond.instantiable RX5 6 : Cond) ∈ wsU := uin_1 (List.mem_of_getElem? (i := 12) rfl) rfl
theorem uw_1_13 : (Cond.methodLink RL 9 yX5_init : Cond) ∈ wsU := uin_1 (List.mem_of_getElem? (i := 13) rfl) rfl
theorem uw_1_14 : (Cond.instanceMethod yX5_init : Cond) ∈ wsU := uin_1 (List.mem_of_getElem? (i := 14) rfl) rfl
theorem uw_1_15 : (Cond.code yX5_init cX5_init 2 none : Cond) ∈ wsU := uin_1 (List.mem_of_getElem? (i := 15) rfl) rfl
theorem uw_1_16 : (Cond.methodLink RX5 1 objectInit : Cond) ∈ wsU := uin_1 (List.mem_of_getElem? (i := 16) rfl) rfl
theorem uw_1_17 : (Cond.instanceMethod objectInit : Cond) ∈ wsU := uin_1 (List.mem_of_getElem? (i := 17) rfl) rfl
theorem uw_1_18 : (Cond.code objectInit object_method_1_code 1 none : Cond) ∈ wsU := uin_1 (List.mem_of_getElem? (i := 18) rfl) rfl
theorem uw_1_19 : (Cond.classLink RX5 9 RX2 : Cond) ∈ wsU := uin_1 (List.mem_of_getElem? (i := 19) rfl) rfl
theorem uw_1_21 : (Cond.classLink RX5 15 RX4 : Cond) ∈ wsU := uin_1 (List.mem_of_getElem? (i := 21) rfl) rfl
theorem uw_1_22 : (Cond.instantiable RX4 4 : Cond) ∈ wsU := uin_1 (List.mem_of_getElem? (i := 22) rfl) rfl
theorem uw_1_24 : (Cond.instanceMethod yX4_init : Cond) ∈ wsU := uin_1 (List.mem_of_getElem? (i := 24) rfl) rfl
theorem uw_1_25 : (Cond.code yX4_init cX4_init 1 none : Cond) ∈ wsU := uin_1 (List.mem_of_getElem? (i := 25) rfl) rfl
theorem uw_1_26 : (Cond.methodLink RX4 3 objectInit : Cond) ∈ wsU := uin_1 (List.mem_of_getElem? (i := 26) rfl) rfl
theorem uw_1_27 : (Cond.fieldLink RX4 9 "KeptTables$Triples" "length" "I" : Cond) ∈ wsU := uin_1 (List.mem_of_getElem? (i := 27) rfl) rfl
theorem uw_1_28 : (Cond.fieldLink RX5 62 "KeptTables$Triples" "length" "I" : Cond) ∈ wsU := uin_1 (List.mem_of_getElem? (i := 28) rfl) rfl
theorem uw_1_29 : (Cond.fieldLink RX4 15 "KeptTables$Triples" "rowNumbers" "[I" : Cond) ∈ wsU := uin_1 (List.mem_of_getElem? (i := 29) rfl) rfl
theorem uw_1_30 : (Cond.fieldLink RX4 19 "KeptTables$Triples" "columnNumbers" "[I" : Cond) ∈ wsU := uin_1 (List.mem_of_getElem? (i := 30) rfl) rfl
theorem uw_1_31 : (Cond.fieldLink RX4 22 "KeptTables$Triples" "values" "[J" : Cond) ∈ wsU := uin_1 (List.mem_of_getElem? (i := 31) rfl) rfl
theorem uw_1_32 : (Cond.lays RX4 "KeptTables$Triples" "length" "I" : Cond) ∈ wsU := uin_1 (List.mem_of_getElem? (i := 32) rfl) rfl
theorem uw_1_34 : (Cond.laysFinal RX4 "KeptTables$Triples" "rowNumbers" "[I" : Cond) ∈ wsU := uin_1 (List.mem_of_getElem? (i := 34) rfl) rfl
theorem uw_1_36 : (Cond.laysFinal RX4 "KeptTables$Triples" "columnNumbers" "[I" : Cond) ∈ wsU := uin_1 (List.mem_of_getElem? (i := 36) rfl) rfl
theorem uw_1_38 : (Cond.laysFinal RX4 "KeptTables$Triples" "values" "[J" : Cond) ∈ wsU := uin_1 (List.mem_of_getElem? (i := 38) rfl) rfl
theorem uw_1_41 : (Cond.arrayClass .int : Cond) ∈ wsU := uin_1 (List.mem_of_getElem? (i := 41) rfl) rfl
theorem uw_1_42 : (Cond.arrayClass .long : Cond) ∈ wsU := uin_1 (List.mem_of_getElem? (i := 42) rfl) rfl
theorem uw_1_43 : (Cond.classLink RX5 22 RX1 : Cond) ∈ wsU := uin_1 (List.mem_of_getElem? (i := 43) rfl) rfl
theorem uw_1_44 : (Cond.instantiable RX1 6 : Cond) ∈ wsU := uin_1 (List.mem_of_getElem? (i := 44) rfl) rfl
theorem uw_1_46 : (Cond.instanceMethod yX1_init : Cond) ∈ wsU := uin_1 (List.mem_of_getElem? (i := 46) rfl) rfl
theorem uw_1_47 : (Cond.code yX1_init cX1_init 1 none : Cond) ∈ wsU := uin_1 (List.mem_of_getElem? (i := 47) rfl) rfl
theorem uw_1_48 : (Cond.methodLink RX1 3 objectInit : Cond) ∈ wsU := uin_1 (List.mem_of_getElem? (i := 48) rfl) rfl
theorem uw_1_49 : (Cond.fieldLink RX1 9 "KeptTables$Graph" "size" "I" : Cond) ∈ wsU := uin_1 (List.mem_of_getElem? (i := 49) rfl) rfl
theorem uw_1_50 : (Cond.fieldLink RX1 15 "KeptTables$Graph" "arcs" "[I" : Cond) ∈ wsU := uin_1 (List.mem_of_getElem? (i := 50) rfl) rfl
theorem uw_1_51 : (Cond.fieldLink RX1 19 "KeptTables$Graph" "neighbours" "[I" : Cond) ∈ wsU := uin_1 (List.mem_of_getElem? (i := 51) rfl) rfl
theorem uw_1_52 : (Cond.fieldLink RX1 22 "KeptTables$Graph" "reach" "[I" : Cond) ∈ wsU := uin_1 (List.mem_of_getElem? (i := 52) rfl) rfl
theorem uw_1_53 : (Cond.fieldLink RX1 25 "KeptTables$Graph" "steps" "[J" : Cond) ∈ wsU := uin_1 (List.mem_of_getElem? (i := 53) rfl) rfl
theorem uw_1_54 : (Cond.fieldLink RX1 29 "KeptTables$Graph" "nextSteps" "[J" : Cond) ∈ wsU := uin_1 (List.mem_of_getElem? (i := 54) rfl) rfl
theorem uw_1_55 : (Cond.lays RX1 "KeptTables$Graph" "size" "I" : Cond) ∈ wsU := uin_1 (List.mem_of_getElem? (i := 55) rfl) rfl
theorem uw_1_57 : (Cond.laysFinal RX1 "KeptTables$Graph" "arcs" "[I" : Cond) ∈ wsU := uin_1 (List.mem_of_getElem? (i := 57) rfl) rfl
theorem uw_1_59 : (Cond.laysFinal RX1 "KeptTables$Graph" "neighbours" "[I" : Cond) ∈ wsU := uin_1 (List.mem_of_getElem? (i := 59) rfl) rfl
theorem uw_1_61 : (Cond.laysFinal RX1 "KeptTables$Graph" "reach" "[I" : Cond) ∈ wsU := uin_1 (List.mem_of_getElem? (i := 61) rfl) rfl
theorem uw_1_63 : (Cond.lays RX1 "KeptTables$Graph" "steps" "[J" : Cond) ∈ wsU := uin_1 (List.mem_of_getElem? (i := 63) rfl) rfl
theorem uw_1_65 : (Cond.lays RX1 "KeptTables$Graph" "nextSteps" "[J" : Cond) ∈ wsU := uin_1 (List.mem_of_getElem? (i := 65) rfl) rfl
theorem uw_1_68 : (Cond.instantiable RX2 4 : Cond) ∈ wsU := uin_1 (List.mem_of_getElem? (i := 68) rfl) rfl
theorem uw_1_70 : (Cond.instanceMethod yX2_init : Cond) ∈ wsU := uin_1 (List.mem_of_getElem? (i := 70) rfl) rfl
theorem uw_1_71 : (Cond.code yX2_init cX2_init 1 none : Cond) ∈ wsU := uin_1 (List.mem_of_getElem? (i := 71) rfl) rfl
theorem uw_1_72 : (Cond.methodLink RX2 3 objectInit : Cond) ∈ wsU := uin_1 (List.mem_of_getElem? (i := 72) rfl) rfl
theorem uw_1_73 : (Cond.fieldLink RX2 9 "KeptTables$Grid" "rowCount" "I" : Cond) ∈ wsU := uin_1 (List.mem_of_getElem? (i := 73) rfl) rfl
theorem uw_1_74 : (Cond.fieldLink RX1 32 "KeptTables$Grid" "rowCount" "I" : Cond) ∈ wsU := uin_1 (List.mem_of_getElem? (i := 74) rfl) rfl
theorem uw_1_75 : (Cond.fieldLink RX0 21 "KeptTables$Grid" "rowCount" "I" : Cond) ∈ wsU := uin_1 (List.mem_of_getElem? (i := 75) rfl) rfl
theorem uw_1_76 : (Cond.fieldLink RX5 95 "KeptTables$Grid" "rowCount" "I" : Cond) ∈ wsU := uin_1 (List.mem_of_getElem? (i := 76) rfl) rfl
theorem uw_1_77 : (Cond.fieldLink RX2 15 "KeptTables$Grid" "columnCount" "I" : Cond) ∈ wsU := uin_1 (List.mem_of_getElem? (i := 77) rfl) rfl
theorem uw_1_78 : (Cond.fieldLink RX0 25 "KeptTables$Grid" "columnCount" "I" : Cond) ∈ wsU := uin_1 (List.mem_of_getElem? (i := 78) rfl) rfl
theorem uw_1_79 : (Cond.fieldLink RX5 98 "KeptTables$Grid" "columnCount" "I" : Cond) ∈ wsU := uin_1 (List.mem_of_getElem? (i := 79) rfl) rfl
theorem uw_1_80 : (Cond.fieldLink RX2 18 "KeptTables$Grid" "keptColumns" "[I" : Cond) ∈ wsU := uin_1 (List.mem_of_getElem? (i := 80) rfl) rfl
theorem uw_1_81 : (Cond.fieldLink RX2 22 "KeptTables$Grid" "values" "[J" : Cond) ∈ wsU := uin_1 (List.mem_of_getElem? (i := 81) rfl) rfl
theorem uw_1_82 : (Cond.lays RX2 "KeptTables$Grid" "rowCount" "I" : Cond) ∈ wsU := uin_1 (List.mem_of_getElem? (i := 82) rfl) rfl
theorem uw_1_84 : (Cond.lays RX2 "KeptTables$Grid" "columnCount" "I" : Cond) ∈ wsU := uin_1 (List.mem_of_getElem? (i := 84) rfl) rfl
theorem uw_1_86 : (Cond.laysFinal RX2 "KeptTables$Grid" "keptColumns" "[I" : Cond) ∈ wsU := uin_1 (List.mem_of_getElem? (i := 86) rfl) rfl
theorem uw_1_88 : (Cond.laysFinal RX2 "KeptTables$Grid" "values" "[J" : Cond) ∈ wsU := uin_1 (List.mem_of_getElem? (i := 88) rfl) rfl
theorem uw_1_91 : (Cond.classLink RX5 34 RX3 : Cond) ∈ wsU := uin_1 (List.mem_of_getElem? (i := 91) rfl) rfl
theorem uw_1_92 : (Cond.instantiable RX3 2 : Cond) ∈ wsU := uin_1 (List.mem_of_getElem? (i := 92) rfl) rfl
theorem uw_1_94 : (Cond.instanceMethod yX3_init : Cond) ∈ wsU := uin_1 (List.mem_of_getElem? (i := 94) rfl) rfl
theorem uw_1_95 : (Cond.code yX3_init cX3_init 1 none : Cond) ∈ wsU := uin_1 (List.mem_of_getElem? (i := 95) rfl) rfl
theorem uw_1_96 : (Cond.methodLink RX3 3 objectInit : Cond) ∈ wsU := uin_1 (List.mem_of_getElem? (i := 96) rfl) rfl
theorem uw_1_97 : (Cond.fieldLink RX3 9 "KeptTables$Numbers" "length" "I" : Cond) ∈ wsU := uin_1 (List.mem_of_getElem? (i := 97) rfl) rfl
theorem uw_1_98 : (Cond.fieldLink RX5 70 "KeptTables$Numbers" "length" "I" : Cond) ∈ wsU := uin_1 (List.mem_of_getElem? (i := 98) rfl) rfl
theorem uw_1_99 : (Cond.fieldLink RX1 85 "KeptTables$Numbers" "length" "I" : Cond) ∈ wsU := uin_1 (List.mem_of_getElem? (i := 99) rfl) rfl
theorem uw_1_100 : (Cond.fieldLink RX2 88 "KeptTables$Numbers" "length" "I" : Cond) ∈ wsU := uin_1 (List.mem_of_getElem? (i := 100) rfl) rfl
theorem uw_1_101 : (Cond.fieldLink RX3 15 "KeptTables$Numbers" "items" "[I" : Cond) ∈ wsU := uin_1 (List.mem_of_getElem? (i := 101) rfl) rfl
theorem uw_1_102 : (Cond.lays RX3 "KeptTables$Numbers" "length" "I" : Cond) ∈ wsU := uin_1 (List.mem_of_getElem? (i := 102) rfl) rfl
theorem uw_1_104 : (Cond.laysFinal RX3 "KeptTables$Numbers" "items" "[I" : Cond) ∈ wsU := uin_1 (List.mem_of_getElem? (i := 104) rfl) rfl
theorem uw_1_107 : (Cond.fieldLink RX5 11 "KeptTables" "grids" "[LKeptTables$Grid;" : Cond) ∈ wsU := uin_1 (List.mem_of_getElem? (i := 107) rfl) rfl
theorem uw_1_108 : (Cond.fieldLink RX5 18 "KeptTables" "triples" "LKeptTables$Triples;" : Cond) ∈ wsU := uin_1 (List.mem_of_getElem? (i := 108) rfl) rfl
theorem uw_1_109 : (Cond.fieldLink RX5 25 "KeptTables" "graph" "LKeptTables$Graph;" : Cond) ∈ wsU := uin_1 (List.mem_of_getElem? (i := 109) rfl) rfl
theorem uw_1_110 : (Cond.fieldLink RX5 30 "KeptTables" "draft" "LKeptTables$Grid;" : Cond) ∈ wsU := uin_1 (List.mem_of_getElem? (i := 110) rfl) rfl
theorem uw_1_111 : (Cond.fieldLink RX5 37 "KeptTables" "numbers" "LKeptTables$Numbers;" : Cond) ∈ wsU := uin_1 (List.mem_of_getElem? (i := 111) rfl) rfl
theorem uw_1_112 : (Cond.fieldLink RX5 41 "KeptTables" "draftNumbers" "LKeptTables$Numbers;" : Cond) ∈ wsU := uin_1 (List.mem_of_getElem? (i := 112) rfl) rfl
theorem uw_1_113 : (Cond.laysFinal RX5 "KeptTables" "grids" "[LKeptTables$Grid;" : Cond) ∈ wsU := uin_1 (List.mem_of_getElem? (i := 113) rfl) rfl
theorem uw_1_115 : (Cond.laysFinal RX5 "KeptTables" "triples" "LKeptTables$Triples;" : Cond) ∈ wsU := uin_1 (List.mem_of_getElem? (i := 115) rfl) rfl
theorem uw_1_117 : (Cond.laysFinal RX5 "KeptTables" "graph" "LKeptTables$Graph;" : Cond) ∈ wsU := uin_1 (List.mem_of_getElem? (i := 117) rfl) rfl
theorem uw_1_119 : (Cond.lays RX5 "KeptTables" "draft" "LKeptTables$Grid;" : Cond) ∈ wsU := uin_1 (List.mem_of_getElem? (i := 119) rfl) rfl
theorem uw_1_121 : (Cond.lays RX5 "KeptTables" "numbers" "LKeptTables$Numbers;" : Cond) ∈ wsU := uin_1 (List.mem_of_getElem? (i := 121) rfl) rfl
theorem uw_1_123 : (Cond.lays RX5 "KeptTables" "draftNumbers" "LKeptTables$Numbers;" : Cond) ∈ wsU := uin_1 (List.mem_of_getElem? (i := 123) rfl) rfl
theorem uw_1_126 : (Cond.methodLink RL 13 yX5_table : Cond) ∈ wsU := uin_1 (List.mem_of_getElem? (i := 126) rfl) rfl
theorem uw_1_127 : (Cond.instanceMethod yX5_table : Cond) ∈ wsU := uin_1 (List.mem_of_getElem? (i := 127) rfl) rfl
theorem uw_1_128 : (Cond.selects RX5 yX5_table yX5_table : Cond) ∈ wsU := uin_1 (List.mem_of_getElem? (i := 128) rfl) rfl
theorem uw_1_129 : (Cond.code yX5_table cX5_table 4 (some .int) : Cond) ∈ wsU := uin_1 (List.mem_of_getElem? (i := 129) rfl) rfl
theorem uw_1_130 : (Cond.methodLink RX5 44 yX5_isSlot : Cond) ∈ wsU := uin_1 (List.mem_of_getElem? (i := 130) rfl) rfl
theorem uw_1_131 : (Cond.static yX5_isSlot : Cond) ∈ wsU := uin_1 (List.mem_of_getElem? (i := 131) rfl) rfl
theorem uw_1_132 : (Cond.code yX5_isSlot cX5_isSlot 1 (some .boolean) : Cond) ∈ wsU := uin_1 (List.mem_of_getElem? (i := 132) rfl) rfl
theorem uw_1_133 : (Cond.methodLink RX5 48 yX5_isSize : Cond) ∈ wsU := uin_1 (List.mem_of_getElem? (i := 133) rfl) rfl
theorem uw_1_134 : (Cond.static yX5_isSize : Cond) ∈ wsU := uin_1 (List.mem_of_getElem? (i := 134) rfl) rfl
theorem uw_1_135 : (Cond.code yX5_isSize cX5_isSize 1 (some .boolean) : Cond) ∈ wsU := uin_1 (List.mem_of_getElem? (i := 135) rfl) rfl
theorem uw_1_136 : (Cond.methodLink RX5 51 yX2_begin : Cond) ∈ wsU := uin_1 (List.mem_of_getElem? (i := 136) rfl) rfl
theorem uw_1_137 : (Cond.instanceMethod yX2_begin : Cond) ∈ wsU := uin_1 (List.mem_of_getElem? (i := 137) rfl) rfl
theorem uw_1_138 : (Cond.selects RX2 yX2_begin yX2_begin : Cond) ∈ wsU := uin_1 (List.mem_of_getElem? (i := 138) rfl) rfl
theorem uw_1_139 : (Cond.code yX2_begin cX2_begin 4 none : Cond) ∈ wsU := uin_1 (List.mem_of_getElem? (i := 139) rfl) rfl
theorem uw_1_140 : (Cond.methodLink RX5 55 yX5_putDraft : Cond) ∈ wsU := uin_1 (List.mem_of_getElem? (i := 140) rfl) rfl
theorem uw_1_142 : (Cond.instanceMethod yX5_putDraft : Cond) ∈ wsU := uin_1 (List.mem_of_getElem? (i := 142) rfl) rfl
theorem uw_1_143 : (Cond.code yX5_putDraft cX5_putDraft 4 (some .int) : Cond) ∈ wsU := uin_1 (List.mem_of_getElem? (i := 143) rfl) rfl
theorem uw_1_144 : (Cond.methodLink RX5 101 yX2_keptCount : Cond) ∈ wsU := uin_1 (List.mem_of_getElem? (i := 144) rfl) rfl
theorem uw_1_145 : (Cond.instanceMethod yX2_keptCount : Cond) ∈ wsU := uin_1 (List.mem_of_getElem? (i := 145) rfl) rfl
theorem uw_1_146 : (Cond.selects RX2 yX2_keptCount yX2_keptCount : Cond) ∈ wsU := uin_1 (List.mem_of_getElem? (i := 146) rfl) rfl
theorem uw_1_147 : (Cond.code yX2_keptCount cX2_keptCount 1 (some .int) : Cond) ∈ wsU := uin_1 (List.mem_of_getElem? (i := 147) rfl) rfl
theorem uw_1_148 : (Cond.methodLink RX2 51 yX2_keptAhead : Cond) ∈ wsU := uin_1 (List.mem_of_getElem? (i := 148) rfl) rfl
theorem uw_1_149 : (Cond.instanceMethod yX2_keptAhead : Cond) ∈ wsU := uin_1 (List.mem_of_getElem? (i := 149) rfl) rfl
theorem uw_1_150 : (Cond.selects RX2 yX2_keptAhead yX2_keptAhead : Cond) ∈ wsU := uin_1 (List.mem_of_getElem? (i := 150) rfl) rfl
theorem uw_1_151 : (Cond.code yX2_keptAhead cX2_keptAhead 4 (some .int) : Cond) ∈ wsU := uin_1 (List.mem_of_getElem? (i := 151) rfl) rfl
theorem uw_1_152 : (Cond.methodLink RX2 55 yJ6_bitCount_0f7a4 : Cond) ∈ wsU := uin_1 (List.mem_of_getElem? (i := 152) rfl) rfl
theorem uw_1_153 : (Cond.static yJ6_bitCount_0f7a4 : Cond) ∈ wsU := uin_1 (List.mem_of_getElem? (i := 153) rfl) rfl
theorem uw_1_154 : (Cond.code yJ6_bitCount_0f7a4 cJ6_bitCount_0f7a4 1 (some .int) : Cond) ∈ wsU := uin_1 (List.mem_of_getElem? (i := 154) rfl) rfl
theorem uw_1_155 : (Cond.constant RJ6 265 (1431655765 : Int32) : Cond) ∈ wsU := uin_1 (List.mem_of_getElem? (i := 155) rfl) rfl
theorem uw_1_156 : (Cond.constant RJ6 266 (858993459 : Int32) : Cond) ∈ wsU := uin_1 (List.mem_of_getElem? (i := 156) rfl) rfl
theorem uw_1_157 : (Cond.constant RJ6 267 (252645135 : Int32) : Cond) ∈ wsU := uin_1 (List.mem_of_getElem? (i := 157) rfl) rfl
theorem uw_1_158 : (Cond.methodLink RL 20 yX5_triple : Cond) ∈ wsU := uin_1 (List.mem_of_getElem? (i := 158) rfl) rfl
theorem uw_1_159 : (Cond.instanceMethod yX5_triple : Cond) ∈ wsU := uin_1 (List.mem_of_getElem? (i := 159) rfl) rfl
theorem uw_1_160 : (Cond.selects RX5 yX5_triple yX5_triple : Cond) ∈ wsU := uin_1 (List.mem_of_getElem? (i := 160) rfl) rfl
theorem uw_1_161 : (Cond.code yX5_triple cX5_triple 5 (some .int) : Cond) ∈ wsU := uin_1 (List.mem_of_getElem? (i := 161) rfl) rfl
theorem uw_1_162 : (Cond.methodLink RX5 59 yX5_isLine : Cond) ∈ wsU := uin_1 (List.mem_of_getElem? (i := 162) rfl) rfl
theorem uw_1_163 : (Cond.static yX5_isLine : Cond) ∈ wsU := uin_1 (List.mem_of_getElem? (i := 163) rfl) rfl
theorem uw_1_164 : (Cond.code yX5_isLine cX5_isLine 1 (some .boolean) : Cond) ∈ wsU := uin_1 (List.mem_of_getElem? (i := 164) rfl) rfl
theorem uw_1_165 : (Cond.methodLink RX5 66 yX4_append : Cond) ∈ wsU := uin_1 (List.mem_of_getElem? (i := 165) rfl) rfl
theorem uw_1_166 : (Cond.instanceMethod yX4_append : Cond) ∈ wsU := uin_1 (List.mem_of_getElem? (i := 166) rfl) rfl
theorem uw_1_167 : (Cond.selects RX4 yX4_append yX4_append : Cond) ∈ wsU := uin_1 (List.mem_of_getElem? (i := 167) rfl) rfl
theorem uw_1_168 : (Cond.code yX4_append cX4_append 5 none : Cond) ∈ wsU := uin_1 (List.mem_of_getElem? (i := 168) rfl) rfl
theorem uw_1_169 : (Cond.methodLink RL 25 yX5_list : Cond) ∈ wsU := uin_1 (List.mem_of_getElem? (i := 169) rfl) rfl
theorem uw_1_170 : (Cond.instanceMethod yX5_list : Cond) ∈ wsU := uin_1 (List.mem_of_getElem? (i := 170) rfl) rfl
theorem uw_1_171 : (Cond.selects RX5 yX5_list yX5_list : Cond) ∈ wsU := uin_1 (List.mem_of_getElem? (i := 171) rfl) rfl
theorem uw_1_172 : (Cond.code yX5_list cX5_list 2 (some .int) : Cond) ∈ wsU := uin_1 (List.mem_of_getElem? (i := 172) rfl) rfl
theorem uw_1_173 : (Cond.methodLink RX5 71 yX3_append : Cond) ∈ wsU := uin_1 (List.mem_of_getElem? (i := 173) rfl) rfl
theorem uw_1_174 : (Cond.instanceMethod yX3_append : Cond) ∈ wsU := uin_1 (List.mem_of_getElem? (i := 174) rfl) rfl
theorem uw_1_175 : (Cond.selects RX3 yX3_append yX3_append : Cond) ∈ wsU := uin_1 (List.mem_of_getElem? (i := 175) rfl) rfl
theorem uw_1_176 : (Cond.code yX3_append cX3_append 2 none : Cond) ∈ wsU := uin_1 (List.mem_of_getElem? (i := 176) rfl) rfl
theorem uw_1_178 : (Cond.methodLink RL 30 yX5_listed : Cond) ∈ wsU := uin_1 (List.mem_of_getElem? (i := 178) rfl) rfl
theorem uw_1_179 : (Cond.instanceMethod yX5_listed : Cond) ∈ wsU := uin_1 (List.mem_of_getElem? (i := 179) rfl) rfl
theorem uw_1_180 : (Cond.selects RX5 yX5_listed yX5_listed : Cond) ∈ wsU := uin_1 (List.mem_of_getElem? (i := 180) rfl) rfl
theorem uw_1_181 : (Cond.code yX5_listed cX5_listed 2 (some .int) : Cond) ∈ wsU := uin_1 (List.mem_of_getElem? (i := 181) rfl) rfl
theorem uw_1_182 : (Cond.methodLink RX5 74 yX3_item : Cond) ∈ wsU := uin_1 (List.mem_of_getElem? (i := 182) rfl) rfl
theorem uw_1_183 : (Cond.instanceMethod yX3_item : Cond) ∈ wsU := uin_1 (List.mem_of_getElem? (i := 183) rfl) rfl
theorem uw_1_184 : (Cond.selects RX3 yX3_item yX3_item : Cond) ∈ wsU := uin_1 (List.mem_of_getElem? (i := 184) rfl) rfl
theorem uw_1_185 : (Cond.code yX3_item cX3_item 2 (some .int) : Cond) ∈ wsU := uin_1 (List.mem_of_getElem? (i := 185) rfl) rfl
theorem uw_1_186 : (Cond.methodLink RL 34 yX5_join : Cond) ∈ wsU := uin_1 (List.mem_of_getElem? (i := 186) rfl) rfl
theorem uw_1_187 : (Cond.instanceMethod yX5_join : Cond) ∈ wsU := uin_1 (List.mem_of_getElem? (i := 187) rfl) rfl
theorem uw_1_188 : (Cond.selects RX5 yX5_join yX5_join : Cond) ∈ wsU := uin_1 (List.mem_of_getElem? (i := 188) rfl) rfl
theorem uw_1_189 : (Cond.code yX5_join cX5_join 4 (some .int) : Cond) ∈ wsU := uin_1 (List.mem_of_getElem? (i := 189) rfl) rfl
theorem uw_1_190 : (Cond.methodLink RX5 77 yX5_gridAt : Cond) ∈ wsU := uin_1 (List.mem_of_getElem? (i := 190) rfl) rfl
theorem uw_1_192 : (Cond.instanceMethod yX5_gridAt : Cond) ∈ wsU := uin_1 (List.mem_of_getElem? (i := 192) rfl) rfl
theorem uw_1_193 : (Cond.code yX5_gridAt cX5_gridAt 3 (some (.object "KeptTables$Grid")) : Cond) ∈ wsU := uin_1 (List.mem_of_getElem? (i := 193) rfl) rfl
theorem uw_1_194 : (Cond.methodLink RX5 81 yX4_lieIn : Cond) ∈ wsU := uin_1 (List.mem_of_getElem? (i := 194) rfl) rfl
theorem uw_1_195 : (Cond.instanceMethod yX4_lieIn : Cond) ∈ wsU := uin_1 (List.mem_of_getElem? (i := 195) rfl) rfl
theorem uw_1_196 : (Cond.selects RX4 yX4_lieIn yX4_lieIn : Cond) ∈ wsU := uin_1 (List.mem_of_getElem? (i := 196) rfl) rfl
theorem uw_1_197 : (Cond.code yX4_lieIn cX4_lieIn 3 (some .boolean) : Cond) ∈ wsU := uin_1 (List.mem_of_getElem? (i := 197) rfl) rfl
theorem uw_1_198 : (Cond.methodLink RX4 26 yX2_covers : Cond) ∈ wsU := uin_1 (List.mem_of_getElem? (i := 198) rfl) rfl
theorem uw_1_199 : (Cond.instanceMethod yX2_covers : Cond) ∈ wsU := uin_1 (List.mem_of_getElem? (i := 199) rfl) rfl
theorem uw_1_200 : (Cond.selects RX2 yX2_covers yX2_covers : Cond) ∈ wsU := uin_1 (List.mem_of_getElem? (i := 200) rfl) rfl
theorem uw_1_201 : (Cond.code yX2_covers cX2_covers 3 (some .boolean) : Cond) ∈ wsU := uin_1 (List.mem_of_getElem? (i := 201) rfl) rfl
theorem uw_1_202 : (Cond.methodLink RX2 32 yX2_hasRow : Cond) ∈ wsU := uin_1 (List.mem_of_getElem? (i := 202) rfl) rfl
theorem uw_1_203 : (Cond.instanceMethod yX2_hasRow : Cond) ∈ wsU := uin_1 (List.mem_of_getElem? (i := 203) rfl) rfl
theorem uw_1_204 : (Cond.selects RX2 yX2_hasRow yX2_hasRow : Cond) ∈ wsU := uin_1 (List.mem_of_getElem? (i := 204) rfl) rfl
theorem uw_1_205 : (Cond.code yX2_hasRow cX2_hasRow 2 (some .boolean) : Cond) ∈ wsU := uin_1 (List.mem_of_getElem? (i := 205) rfl) rfl
theorem uw_1_206 : (Cond.methodLink RX5 85 yX2_become : Cond) ∈ wsU := uin_1 (List.mem_of_getElem? (i := 206) rfl) rfl
theorem uw_1_207 : (Cond.instanceMethod yX2_become : Cond) ∈ wsU := uin_1 (List.mem_of_getElem? (i := 207) rfl) rfl
theorem uw_1_208 : (Cond.selects RX2 yX2_become yX2_become : Cond) ∈ wsU := uin_1 (List.mem_of_getElem? (i := 208) rfl) rfl
theorem uw_1_209 : (Cond.code yX2_become cX2_become 2 none : Cond) ∈ wsU := uin_1 (List.mem_of_getElem? (i := 209) rfl) rfl
theorem uw_1_210 : (Cond.methodLink RX2 26 ⟨"java/lang/System", "arraycopy", "(Ljava/lang/Object;ILjava/lang/Object;II)V"⟩ : Cond) ∈ wsU := uin_1 (List.mem_of_getElem? (i := 210) rfl) rfl
theorem uw_1_211 : (Cond.static ⟨"java/lang/System", "arraycopy", "(Ljava/lang/Object;ILjava/lang/Object;II)V"⟩ : Cond) ∈ wsU := uin_1 (List.mem_of_getElem? (i := 211) rfl) rfl
theorem uw_1_212 : (Cond.native ⟨"java/lang/System", "arraycopy", "(Ljava/lang/Object;ILjava/lang/Object;II)V"⟩ : Cond) ∈ wsU := uin_1 (List.mem_of_getElem? (i := 212) rfl) rfl
theorem uw_1_213 : (Cond.methodLink RX5 89 yX4_addTo : Cond) ∈ wsU := uin_1 (List.mem_of_getElem? (i := 213) rfl) rfl
theorem uw_1_214 : (Cond.instanceMethod yX4_addTo : Cond) ∈ wsU := uin_1 (List.mem_of_getElem? (i := 214) rfl) rfl
theorem uw_1_215 : (Cond.selects RX4 yX4_addTo yX4_addTo : Cond) ∈ wsU := uin_1 (List.mem_of_getElem? (i := 215) rfl) rfl
theorem uw_1_216 : (Cond.code yX4_addTo cX4_addTo 3 none : Cond) ∈ wsU := uin_1 (List.mem_of_getElem? (i := 216) rfl) rfl
theorem uw_1_217 : (Cond.methodLink RX4 32 yX2_putSum : Cond) ∈ wsU := uin_1 (List.mem_of_getElem? (i := 217) rfl) rfl
theorem uw_1_218 : (Cond.instanceMethod yX2_putSum : Cond) ∈ wsU := uin_1 (List.mem_of_getElem? (i := 218) rfl) rfl
theorem uw_1_219 : (Cond.selects RX2 yX2_putSum yX2_putSum : Cond) ∈ wsU := uin_1 (List.mem_of_getElem? (i := 219) rfl) rfl
theorem uw_1_220 : (Cond.code yX2_putSum cX2_putSum 5 none : Cond) ∈ wsU := uin_1 (List.mem_of_getElem? (i := 220) rfl) rfl
theorem uw_1_221 : (Cond.methodLink RX2 43 yX2_value : Cond) ∈ wsU := uin_1 (List.mem_of_getElem? (i := 221) rfl) rfl
theorem uw_1_222 : (Cond.instanceMethod yX2_value : Cond) ∈ wsU := uin_1 (List.mem_of_getElem? (i := 222) rfl) rfl
theorem uw_1_223 : (Cond.selects RX2 yX2_value yX2_value : Cond) ∈ wsU := uin_1 (List.mem_of_getElem? (i := 223) rfl) rfl
theorem uw_1_224 : (Cond.code yX2_value cX2_value 3 (some .long) : Cond) ∈ wsU := uin_1 (List.mem_of_getElem? (i := 224) rfl) rfl
theorem uw_1_226 : (Cond.methodLink RX2 47 yX2_put : Cond) ∈ wsU := uin_1 (List.mem_of_getElem? (i := 226) rfl) rfl
theorem uw_1_227 : (Cond.instanceMethod yX2_put : Cond) ∈ wsU := uin_1 (List.mem_of_getElem? (i := 227) rfl) rfl
theorem uw_1_228 : (Cond.selects RX2 yX2_put yX2_put : Cond) ∈ wsU := uin_1 (List.mem_of_getElem? (i := 228) rfl) rfl
theorem uw_1_229 : (Cond.code yX2_put cX2_put 5 none : Cond) ∈ wsU := uin_1 (List.mem_of_getElem? (i := 229) rfl) rfl
theorem uw_1_230 : (Cond.methodLink RX5 92 yX4_clear : Cond) ∈ wsU := uin_1 (List.mem_of_getElem? (i := 230) rfl) rfl
theorem uw_1_231 : (Cond.instanceMethod yX4_clear : Cond) ∈ wsU := uin_1 (List.mem_of_getElem? (i := 231) rfl) rfl
theorem uw_1_232 : (Cond.selects RX4 yX4_clear yX4_clear : Cond) ∈ wsU := uin_1 (List.mem_of_getElem? (i := 232) rfl) rfl
theorem uw_1_233 : (Cond.code yX4_clear cX4_clear 1 none : Cond) ∈ wsU := uin_1 (List.mem_of_getElem? (i := 233) rfl) rfl
theorem uw_1_234 : (Cond.methodLink RL 38 yX5_count : Cond) ∈ wsU := uin_1 (List.mem_of_getElem? (i := 234) rfl) rfl
theorem uw_1_235 : (Cond.instanceMethod yX5_count : Cond) ∈ wsU := uin_1 (List.mem_of_getElem? (i := 235) rfl) rfl
theorem uw_1_236 : (Cond.selects RX5 yX5_count yX5_count : Cond) ∈ wsU := uin_1 (List.mem_of_getElem? (i := 236) rfl) rfl
theorem uw_1_237 : (Cond.code yX5_count cX5_count 4 (some .int) : Cond) ∈ wsU := uin_1 (List.mem_of_getElem? (i := 237) rfl) rfl
theorem uw_1_238 : (Cond.methodLink RX5 105 yX2_keptZeros : Cond) ∈ wsU := uin_1 (List.mem_of_getElem? (i := 238) rfl) rfl
theorem uw_1_239 : (Cond.instanceMethod yX2_keptZeros : Cond) ∈ wsU := uin_1 (List.mem_of_getElem? (i := 239) rfl) rfl
theorem uw_2_0 : (Cond.selects RX2 yX2_keptZeros yX2_keptZeros : Cond) ∈ wsU := uin_2 (List.mem_of_getElem? (i := 0) rfl) rfl
theorem uw_2_1 : (Cond.code yX2_keptZeros cX2_keptZeros 4 (some .int) : Cond) ∈ wsU := uin_2 (List.mem_of_getElem? (i := 1) rfl) rfl
theorem uw_2_2 : (Cond.methodLink RX2 67 yX2_keeps : Cond) ∈ wsU := uin_2 (List.mem_of_getElem? (i := 2) rfl) rfl
theorem uw_2_3 : (Cond.instanceMethod yX2_keeps : Cond) ∈ wsU := uin_2 (List.mem_of_getElem? (i := 3) rfl) rfl
theorem uw_2_4 : (Cond.selects RX2 yX2_keeps yX2_keeps : Cond) ∈ wsU := uin_2 (List.mem_of_getElem? (i := 4) rfl) rfl
theorem uw_2_5 : (Cond.code yX2_keeps cX2_keeps 3 (some .boolean) : Cond) ∈ wsU := uin_2 (List.mem_of_getElem? (i := 5) rfl) rfl
theorem uw_2_7 : (Cond.static yX5_hasBit : Cond) ∈ wsU := uin_2 (List.mem_of_getElem? (i := 7) rfl) rfl
theorem uw_2_8 : (Cond.code yX5_hasBit cX5_hasBit 2 (some .boolean) : Cond) ∈ wsU := uin_2 (List.mem_of_getElem? (i := 8) rfl) rfl
theorem uw_2_9 : (Cond.methodLink RL 43 yX5_at : Cond) ∈ wsU := uin_2 (List.mem_of_getElem? (i := 9) rfl) rfl
theorem uw_2_10 : (Cond.instanceMethod yX5_at : Cond) ∈ wsU := uin_2 (List.mem_of_getElem? (i := 10) rfl) rfl
theorem uw_2_11 : (Cond.selects RX5 yX5_at yX5_at : Cond) ∈ wsU := uin_2 (List.mem_of_getElem? (i := 11) rfl) rfl
theorem uw_2_12 : (Cond.code yX5_at cX5_at 5 (some .long) : Cond) ∈ wsU := uin_2 (List.mem_of_getElem? (i := 12) rfl) rfl
theorem uw_2_13 : (Cond.methodLink RX5 108 yX2_covers : Cond) ∈ wsU := uin_2 (List.mem_of_getElem? (i := 13) rfl) rfl
theorem uw_2_14 : (Cond.methodLink RX5 112 yX2_value : Cond) ∈ wsU := uin_2 (List.mem_of_getElem? (i := 14) rfl) rfl
theorem uw_2_15 : (Cond.methodLink RL 48 yX5_kept : Cond) ∈ wsU := uin_2 (List.mem_of_getElem? (i := 15) rfl) rfl
theorem uw_2_16 : (Cond.instanceMethod yX5_kept : Cond) ∈ wsU := uin_2 (List.mem_of_getElem? (i := 16) rfl) rfl
theorem uw_2_17 : (Cond.selects RX5 yX5_kept yX5_kept : Cond) ∈ wsU := uin_2 (List.mem_of_getElem? (i := 17) rfl) rfl
theorem uw_2_18 : (Cond.code yX5_kept cX5_kept 5 (some .int) : Cond) ∈ wsU := uin_2 (List.mem_of_getElem? (i := 18) rfl) rfl
theorem uw_2_19 : (Cond.methodLink RX5 116 yX2_keeps : Cond) ∈ wsU := uin_2 (List.mem_of_getElem? (i := 19) rfl) rfl
theorem uw_2_20 : (Cond.methodLink RX5 119 yX2_orderNumber : Cond) ∈ wsU := uin_2 (List.mem_of_getElem? (i := 20) rfl) rfl
theorem uw_2_21 : (Cond.instanceMethod yX2_orderNumber : Cond) ∈ wsU := uin_2 (List.mem_of_getElem? (i := 21) rfl) rfl
theorem uw_2_22 : (Cond.selects RX2 yX2_orderNumber yX2_orderNumber : Cond) ∈ wsU := uin_2 (List.mem_of_getElem? (i := 22) rfl) rfl
theorem uw_2_23 : (Cond.code yX2_orderNumber cX2_orderNumber 4 (some .int) : Cond) ∈ wsU := uin_2 (List.mem_of_getElem? (i := 23) rfl) rfl
theorem uw_2_24 : (Cond.methodLink RX2 60 yX2_columnsOf : Cond) ∈ wsU := uin_2 (List.mem_of_getElem? (i := 24) rfl) rfl
theorem uw_2_25 : (Cond.instanceMethod yX2_columnsOf : Cond) ∈ wsU := uin_2 (List.mem_of_getElem? (i := 25) rfl) rfl
theorem uw_2_26 : (Cond.selects RX2 yX2_columnsOf yX2_columnsOf : Cond) ∈ wsU := uin_2 (List.mem_of_getElem? (i := 26) rfl) rfl
theorem uw_2_27 : (Cond.code yX2_columnsOf cX2_columnsOf 2 (some .int) : Cond) ∈ wsU := uin_2 (List.mem_of_getElem? (i := 27) rfl) rfl
theorem uw_2_28 : (Cond.methodLink RL 52 yX5_place : Cond) ∈ wsU := uin_2 (List.mem_of_getElem? (i := 28) rfl) rfl
theorem uw_2_29 : (Cond.instanceMethod yX5_place : Cond) ∈ wsU := uin_2 (List.mem_of_getElem? (i := 29) rfl) rfl
theorem uw_2_30 : (Cond.selects RX5 yX5_place yX5_place : Cond) ∈ wsU := uin_2 (List.mem_of_getElem? (i := 30) rfl) rfl
theorem uw_2_31 : (Cond.code yX5_place cX5_place 4 (some .int) : Cond) ∈ wsU := uin_2 (List.mem_of_getElem? (i := 31) rfl) rfl
theorem uw_2_32 : (Cond.methodLink RX5 123 yX2_placeNumber : Cond) ∈ wsU := uin_2 (List.mem_of_getElem? (i := 32) rfl) rfl
theorem uw_2_33 : (Cond.instanceMethod yX2_placeNumber : Cond) ∈ wsU := uin_2 (List.mem_of_getElem? (i := 33) rfl) rfl
theorem uw_2_34 : (Cond.selects RX2 yX2_placeNumber yX2_placeNumber : Cond) ∈ wsU := uin_2 (List.mem_of_getElem? (i := 34) rfl) rfl
theorem uw_2_35 : (Cond.code yX2_placeNumber cX2_placeNumber 5 (some .int) : Cond) ∈ wsU := uin_2 (List.mem_of_getElem? (i := 35) rfl) rfl
theorem uw_2_36 : (Cond.methodLink RX2 63 yX2_bitNumber : Cond) ∈ wsU := uin_2 (List.mem_of_getElem? (i := 36) rfl) rfl
theorem uw_2_37 : (Cond.static yX2_bitNumber : Cond) ∈ wsU := uin_2 (List.mem_of_getElem? (i := 37) rfl) rfl
theorem uw_2_38 : (Cond.code yX2_bitNumber cX2_bitNumber 4 (some .int) : Cond) ∈ wsU := uin_2 (List.mem_of_getElem? (i := 38) rfl) rfl
theorem uw_2_39 : (Cond.methodLink RL 56 yX5_set : Cond) ∈ wsU := uin_2 (List.mem_of_getElem? (i := 39) rfl) rfl
theorem uw_2_40 : (Cond.instanceMethod yX5_set : Cond) ∈ wsU := uin_2 (List.mem_of_getElem? (i := 40) rfl) rfl
theorem uw_2_41 : (Cond.selects RX5 yX5_set yX5_set : Cond) ∈ wsU := uin_2 (List.mem_of_getElem? (i := 41) rfl) rfl
theorem uw_2_42 : (Cond.code yX5_set cX5_set 7 (some .int) : Cond) ∈ wsU := uin_2 (List.mem_of_getElem? (i := 42) rfl) rfl
theorem uw_2_43 : (Cond.methodLink RX5 126 yX2_put : Cond) ∈ wsU := uin_2 (List.mem_of_getElem? (i := 43) rfl) rfl
theorem uw_2_44 : (Cond.methodLink RL 61 yX5_prune : Cond) ∈ wsU := uin_2 (List.mem_of_getElem? (i := 44) rfl) rfl
theorem uw_2_45 : (Cond.instanceMethod yX5_prune : Cond) ∈ wsU := uin_2 (List.mem_of_getElem? (i := 45) rfl) rfl
theorem uw_2_46 : (Cond.selects RX5 yX5_prune yX5_prune : Cond) ∈ wsU := uin_2 (List.mem_of_getElem? (i := 46) rfl) rfl
theorem uw_2_47 : (Cond.code yX5_prune cX5_prune 3 (some .int) : Cond) ∈ wsU := uin_2 (List.mem_of_getElem? (i := 47) rfl) rfl
theorem uw_2_48 : (Cond.methodLink RX5 129 yX2_dropZeros : Cond) ∈ wsU := uin_2 (List.mem_of_getElem? (i := 48) rfl) rfl
theorem uw_2_49 : (Cond.instanceMethod yX2_dropZeros : Cond) ∈ wsU := uin_2 (List.mem_of_getElem? (i := 49) rfl) rfl
theorem uw_2_50 : (Cond.selects RX2 yX2_dropZeros yX2_dropZeros : Cond) ∈ wsU := uin_2 (List.mem_of_getElem? (i := 50) rfl) rfl
theorem uw_2_51 : (Cond.code yX2_dropZeros cX2_dropZeros 4 (some .int) : Cond) ∈ wsU := uin_2 (List.mem_of_getElem? (i := 51) rfl) rfl
theorem uw_2_52 : (Cond.methodLink RX2 70 yX2_keptZeros : Cond) ∈ wsU := uin_2 (List.mem_of_getElem? (i := 52) rfl) rfl
theorem uw_2_53 : (Cond.methodLink RX2 74 yX2_drop : Cond) ∈ wsU := uin_2 (List.mem_of_getElem? (i := 53) rfl) rfl
theorem uw_2_55 : (Cond.instanceMethod yX2_drop : Cond) ∈ wsU := uin_2 (List.mem_of_getElem? (i := 55) rfl) rfl
theorem uw_2_56 : (Cond.code yX2_drop cX2_drop 3 none : Cond) ∈ wsU := uin_2 (List.mem_of_getElem? (i := 56) rfl) rfl
theorem uw_2_57 : (Cond.methodLink RL 65 yX5_add : Cond) ∈ wsU := uin_2 (List.mem_of_getElem? (i := 57) rfl) rfl
theorem uw_2_58 : (Cond.instanceMethod yX5_add : Cond) ∈ wsU := uin_2 (List.mem_of_getElem? (i := 58) rfl) rfl
theorem uw_2_59 : (Cond.selects RX5 yX5_add yX5_add : Cond) ∈ wsU := uin_2 (List.mem_of_getElem? (i := 59) rfl) rfl
theorem uw_2_60 : (Cond.code yX5_add cX5_add 10 (some .int) : Cond) ∈ wsU := uin_2 (List.mem_of_getElem? (i := 60) rfl) rfl
theorem uw_2_61 : (Cond.methodLink RX5 132 yX2_hasSizeOf : Cond) ∈ wsU := uin_2 (List.mem_of_getElem? (i := 61) rfl) rfl
theorem uw_2_62 : (Cond.instanceMethod yX2_hasSizeOf : Cond) ∈ wsU := uin_2 (List.mem_of_getElem? (i := 62) rfl) rfl
theorem uw_2_63 : (Cond.selects RX2 yX2_hasSizeOf yX2_hasSizeOf : Cond) ∈ wsU := uin_2 (List.mem_of_getElem? (i := 63) rfl) rfl
theorem uw_2_64 : (Cond.code yX2_hasSizeOf cX2_hasSizeOf 2 (some .boolean) : Cond) ∈ wsU := uin_2 (List.mem_of_getElem? (i := 64) rfl) rfl
theorem uw_2_65 : (Cond.methodLink RX5 135 yX2_addMultiple : Cond) ∈ wsU := uin_2 (List.mem_of_getElem? (i := 65) rfl) rfl
theorem uw_2_66 : (Cond.instanceMethod yX2_addMultiple : Cond) ∈ wsU := uin_2 (List.mem_of_getElem? (i := 66) rfl) rfl
theorem uw_2_67 : (Cond.selects RX2 yX2_addMultiple yX2_addMultiple : Cond) ∈ wsU := uin_2 (List.mem_of_getElem? (i := 67) rfl) rfl
theorem uw_2_68 : (Cond.code yX2_addMultiple cX2_addMultiple 6 none : Cond) ∈ wsU := uin_2 (List.mem_of_getElem? (i := 68) rfl) rfl
theorem uw_2_69 : (Cond.methodLink RX2 78 yX2_putSum : Cond) ∈ wsU := uin_2 (List.mem_of_getElem? (i := 69) rfl) rfl
theorem uw_2_70 : (Cond.methodLink RL 70 yX5_times : Cond) ∈ wsU := uin_2 (List.mem_of_getElem? (i := 70) rfl) rfl
theorem uw_2_71 : (Cond.instanceMethod yX5_times : Cond) ∈ wsU := uin_2 (List.mem_of_getElem? (i := 71) rfl) rfl
theorem uw_2_72 : (Cond.selects RX5 yX5_times yX5_times : Cond) ∈ wsU := uin_2 (List.mem_of_getElem? (i := 72) rfl) rfl
theorem uw_2_73 : (Cond.code yX5_times cX5_times 6 (some .int) : Cond) ∈ wsU := uin_2 (List.mem_of_getElem? (i := 73) rfl) rfl
theorem uw_2_74 : (Cond.methodLink RX5 139 yX2_becomeProduct : Cond) ∈ wsU := uin_2 (List.mem_of_getElem? (i := 74) rfl) rfl
theorem uw_2_75 : (Cond.instanceMethod yX2_becomeProduct : Cond) ∈ wsU := uin_2 (List.mem_of_getElem? (i := 75) rfl) rfl
theorem uw_2_76 : (Cond.selects RX2 yX2_becomeProduct yX2_becomeProduct : Cond) ∈ wsU := uin_2 (List.mem_of_getElem? (i := 76) rfl) rfl
theorem uw_2_77 : (Cond.code yX2_becomeProduct cX2_becomeProduct 5 none : Cond) ∈ wsU := uin_2 (List.mem_of_getElem? (i := 77) rfl) rfl
theorem uw_2_78 : (Cond.methodLink RX2 81 yX2_begin : Cond) ∈ wsU := uin_2 (List.mem_of_getElem? (i := 78) rfl) rfl
theorem uw_2_79 : (Cond.methodLink RX2 84 yX2_addRowMultiple : Cond) ∈ wsU := uin_2 (List.mem_of_getElem? (i := 79) rfl) rfl
theorem uw_2_81 : (Cond.instanceMethod yX2_addRowMultiple : Cond) ∈ wsU := uin_2 (List.mem_of_getElem? (i := 81) rfl) rfl
theorem uw_2_82 : (Cond.code yX2_addRowMultiple cX2_addRowMultiple 7 none : Cond) ∈ wsU := uin_2 (List.mem_of_getElem? (i := 82) rfl) rfl
theorem uw_2_83 : (Cond.methodLink RL 74 yX5_each : Cond) ∈ wsU := uin_2 (List.mem_of_getElem? (i := 83) rfl) rfl
theorem uw_2_84 : (Cond.instanceMethod yX5_each : Cond) ∈ wsU := uin_2 (List.mem_of_getElem? (i := 84) rfl) rfl
theorem uw_2_85 : (Cond.selects RX5 yX5_each yX5_each : Cond) ∈ wsU := uin_2 (List.mem_of_getElem? (i := 85) rfl) rfl
theorem uw_2_86 : (Cond.code yX5_each cX5_each 6 (some .int) : Cond) ∈ wsU := uin_2 (List.mem_of_getElem? (i := 86) rfl) rfl
theorem uw_2_87 : (Cond.methodLink RX5 143 yX2_becomeEach : Cond) ∈ wsU := uin_2 (List.mem_of_getElem? (i := 87) rfl) rfl
theorem uw_2_88 : (Cond.instanceMethod yX2_becomeEach : Cond) ∈ wsU := uin_2 (List.mem_of_getElem? (i := 88) rfl) rfl
theorem uw_2_89 : (Cond.selects RX2 yX2_becomeEach yX2_becomeEach : Cond) ∈ wsU := uin_2 (List.mem_of_getElem? (i := 89) rfl) rfl
theorem uw_2_90 : (Cond.code yX2_becomeEach cX2_becomeEach 5 none : Cond) ∈ wsU := uin_2 (List.mem_of_getElem? (i := 90) rfl) rfl
theorem uw_2_91 : (Cond.methodLink RL 78 yX5_mask : Cond) ∈ wsU := uin_2 (List.mem_of_getElem? (i := 91) rfl) rfl
theorem uw_2_92 : (Cond.instanceMethod yX5_mask : Cond) ∈ wsU := uin_2 (List.mem_of_getElem? (i := 92) rfl) rfl
theorem uw_2_93 : (Cond.selects RX5 yX5_mask yX5_mask : Cond) ∈ wsU := uin_2 (List.mem_of_getElem? (i := 93) rfl) rfl
theorem uw_2_94 : (Cond.code yX5_mask cX5_mask 7 (some .int) : Cond) ∈ wsU := uin_2 (List.mem_of_getElem? (i := 94) rfl) rfl
theorem uw_2_95 : (Cond.methodLink RX5 146 yX2_becomeMasked : Cond) ∈ wsU := uin_2 (List.mem_of_getElem? (i := 95) rfl) rfl
theorem uw_2_96 : (Cond.instanceMethod yX2_becomeMasked : Cond) ∈ wsU := uin_2 (List.mem_of_getElem? (i := 96) rfl) rfl
theorem uw_2_97 : (Cond.selects RX2 yX2_becomeMasked yX2_becomeMasked : Cond) ∈ wsU := uin_2 (List.mem_of_getElem? (i := 97) rfl) rfl
theorem uw_2_98 : (Cond.code yX2_becomeMasked cX2_becomeMasked 6 none : Cond) ∈ wsU := uin_2 (List.mem_of_getElem? (i := 98) rfl) rfl
theorem uw_2_99 : (Cond.methodLink RL 83 yX5_turn : Cond) ∈ wsU := uin_2 (List.mem_of_getElem? (i := 99) rfl) rfl
theorem uw_2_100 : (Cond.instanceMethod yX5_turn : Cond) ∈ wsU := uin_2 (List.mem_of_getElem? (i := 100) rfl) rfl
theorem uw_2_101 : (Cond.selects RX5 yX5_turn yX5_turn : Cond) ∈ wsU := uin_2 (List.mem_of_getElem? (i := 101) rfl) rfl
theorem uw_2_102 : (Cond.code yX5_turn cX5_turn 4 (some .int) : Cond) ∈ wsU := uin_2 (List.mem_of_getElem? (i := 102) rfl) rfl
theorem uw_2_103 : (Cond.methodLink RX5 150 yX2_becomeTurned : Cond) ∈ wsU := uin_2 (List.mem_of_getElem? (i := 103) rfl) rfl
theorem uw_2_104 : (Cond.instanceMethod yX2_becomeTurned : Cond) ∈ wsU := uin_2 (List.mem_of_getElem? (i := 104) rfl) rfl
theorem uw_2_105 : (Cond.selects RX2 yX2_becomeTurned yX2_becomeTurned : Cond) ∈ wsU := uin_2 (List.mem_of_getElem? (i := 105) rfl) rfl
theorem uw_2_106 : (Cond.code yX2_becomeTurned cX2_becomeTurned 4 none : Cond) ∈ wsU := uin_2 (List.mem_of_getElem? (i := 106) rfl) rfl
theorem uw_2_107 : (Cond.methodLink RL 87 yX5_rows : Cond) ∈ wsU := uin_2 (List.mem_of_getElem? (i := 107) rfl) rfl
theorem uw_2_108 : (Cond.instanceMethod yX5_rows : Cond) ∈ wsU := uin_2 (List.mem_of_getElem? (i := 108) rfl) rfl
theorem uw_2_109 : (Cond.selects RX5 yX5_rows yX5_rows : Cond) ∈ wsU := uin_2 (List.mem_of_getElem? (i := 109) rfl) rfl
theorem uw_2_110 : (Cond.code yX5_rows cX5_rows 5 (some .int) : Cond) ∈ wsU := uin_2 (List.mem_of_getElem? (i := 110) rfl) rfl
theorem uw_2_111 : (Cond.methodLink RX5 153 yX3_areBelow : Cond) ∈ wsU := uin_2 (List.mem_of_getElem? (i := 111) rfl) rfl
theorem uw_2_112 : (Cond.instanceMethod yX3_areBelow : Cond) ∈ wsU := uin_2 (List.mem_of_getElem? (i := 112) rfl) rfl
theorem uw_2_113 : (Cond.selects RX3 yX3_areBelow yX3_areBelow : Cond) ∈ wsU := uin_2 (List.mem_of_getElem? (i := 113) rfl) rfl
theorem uw_2_114 : (Cond.code yX3_areBelow cX3_areBelow 3 (some .boolean) : Cond) ∈ wsU := uin_2 (List.mem_of_getElem? (i := 114) rfl) rfl
theorem uw_2_115 : (Cond.methodLink RX5 156 yX2_becomeRows : Cond) ∈ wsU := uin_2 (List.mem_of_getElem? (i := 115) rfl) rfl
theorem uw_2_116 : (Cond.instanceMethod yX2_becomeRows : Cond) ∈ wsU := uin_2 (List.mem_of_getElem? (i := 116) rfl) rfl
theorem uw_2_117 : (Cond.selects RX2 yX2_becomeRows yX2_becomeRows : Cond) ∈ wsU := uin_2 (List.mem_of_getElem? (i := 117) rfl) rfl
theorem uw_2_118 : (Cond.code yX2_becomeRows cX2_becomeRows 4 none : Cond) ∈ wsU := uin_2 (List.mem_of_getElem? (i := 118) rfl) rfl
theorem uw_2_119 : (Cond.methodLink RX2 93 yX3_item : Cond) ∈ wsU := uin_2 (List.mem_of_getElem? (i := 119) rfl) rfl
theorem uw_2_120 : (Cond.methodLink RX5 160 yX3_clear : Cond) ∈ wsU := uin_2 (List.mem_of_getElem? (i := 120) rfl) rfl
theorem uw_2_121 : (Cond.instanceMethod yX3_clear : Cond) ∈ wsU := uin_2 (List.mem_of_getElem? (i := 121) rfl) rfl
theorem uw_2_122 : (Cond.selects RX3 yX3_clear yX3_clear : Cond) ∈ wsU := uin_2 (List.mem_of_getElem? (i := 122) rfl) rfl
theorem uw_2_123 : (Cond.code yX3_clear cX3_clear 1 none : Cond) ∈ wsU := uin_2 (List.mem_of_getElem? (i := 123) rfl) rfl
theorem uw_2_124 : (Cond.methodLink RL 91 yX5_slopes : Cond) ∈ wsU := uin_2 (List.mem_of_getElem? (i := 124) rfl) rfl
theorem uw_2_125 : (Cond.instanceMethod yX5_slopes : Cond) ∈ wsU := uin_2 (List.mem_of_getElem? (i := 125) rfl) rfl
theorem uw_2_126 : (Cond.selects RX5 yX5_slopes yX5_slopes : Cond) ∈ wsU := uin_2 (List.mem_of_getElem? (i := 126) rfl) rfl
theorem uw_2_127 : (Cond.code yX5_slopes cX5_slopes 9 (some .int) : Cond) ∈ wsU := uin_2 (List.mem_of_getElem? (i := 127) rfl) rfl
theorem uw_2_128 : (Cond.methodLink RX5 161 yX2_becomeSlopesOfLeft : Cond) ∈ wsU := uin_2 (List.mem_of_getElem? (i := 128) rfl) rfl
theorem uw_2_129 : (Cond.instanceMethod yX2_becomeSlopesOfLeft : Cond) ∈ wsU := uin_2 (List.mem_of_getElem? (i := 129) rfl) rfl
theorem uw_2_130 : (Cond.selects RX2 yX2_becomeSlopesOfLeft yX2_becomeSlopesOfLeft : Cond) ∈ wsU := uin_2 (List.mem_of_getElem? (i := 130) rfl) rfl
theorem uw_2_131 : (Cond.code yX2_becomeSlopesOfLeft cX2_becomeSlopesOfLeft 6 none : Cond) ∈ wsU := uin_2 (List.mem_of_getElem? (i := 131) rfl) rfl
theorem uw_2_132 : (Cond.methodLink RX2 96 yX2_productOfRows : Cond) ∈ wsU := uin_2 (List.mem_of_getElem? (i := 132) rfl) rfl
theorem uw_2_134 : (Cond.instanceMethod yX2_productOfRows : Cond) ∈ wsU := uin_2 (List.mem_of_getElem? (i := 134) rfl) rfl
theorem uw_2_135 : (Cond.code yX2_productOfRows cX2_productOfRows 7 (some .long) : Cond) ∈ wsU := uin_2 (List.mem_of_getElem? (i := 135) rfl) rfl
theorem uw_2_136 : (Cond.methodLink RX5 165 yX2_becomeSlopesOfRight : Cond) ∈ wsU := uin_2 (List.mem_of_getElem? (i := 136) rfl) rfl
theorem uw_2_137 : (Cond.instanceMethod yX2_becomeSlopesOfRight : Cond) ∈ wsU := uin_2 (List.mem_of_getElem? (i := 137) rfl) rfl
theorem uw_2_138 : (Cond.selects RX2 yX2_becomeSlopesOfRight yX2_becomeSlopesOfRight : Cond) ∈ wsU := uin_2 (List.mem_of_getElem? (i := 138) rfl) rfl
theorem uw_2_139 : (Cond.code yX2_becomeSlopesOfRight cX2_becomeSlopesOfRight 6 none : Cond) ∈ wsU := uin_2 (List.mem_of_getElem? (i := 139) rfl) rfl
theorem uw_2_140 : (Cond.methodLink RX2 100 yX2_productOfColumns : Cond) ∈ wsU := uin_2 (List.mem_of_getElem? (i := 140) rfl) rfl
theorem uw_2_142 : (Cond.instanceMethod yX2_productOfColumns : Cond) ∈ wsU := uin_2 (List.mem_of_getElem? (i := 142) rfl) rfl
theorem uw_2_143 : (Cond.code yX2_productOfColumns cX2_productOfColumns 7 (some .long) : Cond) ∈ wsU := uin_2 (List.mem_of_getElem? (i := 143) rfl) rfl
theorem uw_2_144 : (Cond.methodLink RL 96 yX5_sum : Cond) ∈ wsU := uin_2 (List.mem_of_getElem? (i := 144) rfl) rfl
theorem uw_2_145 : (Cond.instanceMethod yX5_sum : Cond) ∈ wsU := uin_2 (List.mem_of_getElem? (i := 145) rfl) rfl
theorem uw_2_146 : (Cond.selects RX5 yX5_sum yX5_sum : Cond) ∈ wsU := uin_2 (List.mem_of_getElem? (i := 146) rfl) rfl
theorem uw_2_147 : (Cond.code yX5_sum cX5_sum 5 (some .long) : Cond) ∈ wsU := uin_2 (List.mem_of_getElem? (i := 147) rfl) rfl
theorem uw_2_148 : (Cond.methodLink RX5 168 yX2_rowSum : Cond) ∈ wsU := uin_2 (List.mem_of_getElem? (i := 148) rfl) rfl
theorem uw_2_149 : (Cond.instanceMethod yX2_rowSum : Cond) ∈ wsU := uin_2 (List.mem_of_getElem? (i := 149) rfl) rfl
theorem uw_2_150 : (Cond.selects RX2 yX2_rowSum yX2_rowSum : Cond) ∈ wsU := uin_2 (List.mem_of_getElem? (i := 150) rfl) rfl
theorem uw_2_151 : (Cond.code yX2_rowSum cX2_rowSum 5 (some .long) : Cond) ∈ wsU := uin_2 (List.mem_of_getElem? (i := 151) rfl) rfl
theorem uw_2_152 : (Cond.methodLink RX5 172 yX2_columnSum : Cond) ∈ wsU := uin_2 (List.mem_of_getElem? (i := 152) rfl) rfl
theorem uw_2_153 : (Cond.instanceMethod yX2_columnSum : Cond) ∈ wsU := uin_2 (List.mem_of_getElem? (i := 153) rfl) rfl
theorem uw_2_154 : (Cond.selects RX2 yX2_columnSum yX2_columnSum : Cond) ∈ wsU := uin_2 (List.mem_of_getElem? (i := 154) rfl) rfl
theorem uw_2_155 : (Cond.code yX2_columnSum cX2_columnSum 5 (some .long) : Cond) ∈ wsU := uin_2 (List.mem_of_getElem? (i := 155) rfl) rfl
theorem uw_2_156 : (Cond.methodLink RL 101 yX5_cost : Cond) ∈ wsU := uin_2 (List.mem_of_getElem? (i := 156) rfl) rfl
theorem uw_2_157 : (Cond.instanceMethod yX5_cost : Cond) ∈ wsU := uin_2 (List.mem_of_getElem? (i := 157) rfl) rfl
theorem uw_2_158 : (Cond.selects RX5 yX5_cost yX5_cost : Cond) ∈ wsU := uin_2 (List.mem_of_getElem? (i := 158) rfl) rfl
theorem uw_2_159 : (Cond.code yX5_cost cX5_cost 5 (some .int) : Cond) ∈ wsU := uin_2 (List.mem_of_getElem? (i := 159) rfl) rfl
theorem uw_2_160 : (Cond.methodLink RX5 175 yX0_isForm : Cond) ∈ wsU := uin_2 (List.mem_of_getElem? (i := 160) rfl) rfl
theorem uw_2_161 : (Cond.static yX0_isForm : Cond) ∈ wsU := uin_2 (List.mem_of_getElem? (i := 161) rfl) rfl
theorem uw_2_162 : (Cond.code yX0_isForm cX0_isForm 2 (some .boolean) : Cond) ∈ wsU := uin_2 (List.mem_of_getElem? (i := 162) rfl) rfl
theorem uw_2_163 : (Cond.methodLink RX0 9 yX0_isBlockSide : Cond) ∈ wsU := uin_2 (List.mem_of_getElem? (i := 163) rfl) rfl
theorem uw_2_164 : (Cond.static yX0_isBlockSide : Cond) ∈ wsU := uin_2 (List.mem_of_getElem? (i := 164) rfl) rfl
theorem uw_2_165 : (Cond.code yX0_isBlockSide cX0_isBlockSide 1 (some .boolean) : Cond) ∈ wsU := uin_2 (List.mem_of_getElem? (i := 165) rfl) rfl
theorem uw_2_166 : (Cond.methodLink RX5 180 yX0_cellCount : Cond) ∈ wsU := uin_2 (List.mem_of_getElem? (i := 166) rfl) rfl
theorem uw_2_167 : (Cond.static yX0_cellCount : Cond) ∈ wsU := uin_2 (List.mem_of_getElem? (i := 167) rfl) rfl
theorem uw_2_168 : (Cond.code yX0_cellCount cX0_cellCount 5 (some .int) : Cond) ∈ wsU := uin_2 (List.mem_of_getElem? (i := 168) rfl) rfl
theorem uw_2_169 : (Cond.methodLink RX0 15 yX2_keptCount : Cond) ∈ wsU := uin_2 (List.mem_of_getElem? (i := 169) rfl) rfl
theorem uw_2_170 : (Cond.methodLink RX0 28 yX2_becomeBlocks : Cond) ∈ wsU := uin_2 (List.mem_of_getElem? (i := 170) rfl) rfl
theorem uw_2_171 : (Cond.instanceMethod yX2_becomeBlocks : Cond) ∈ wsU := uin_2 (List.mem_of_getElem? (i := 171) rfl) rfl
theorem uw_2_172 : (Cond.selects RX2 yX2_becomeBlocks yX2_becomeBlocks : Cond) ∈ wsU := uin_2 (List.mem_of_getElem? (i := 172) rfl) rfl
theorem uw_2_173 : (Cond.code yX2_becomeBlocks cX2_becomeBlocks 5 none : Cond) ∈ wsU := uin_2 (List.mem_of_getElem? (i := 173) rfl) rfl
theorem uw_2_174 : (Cond.methodLink RX0 32 yX0_headLength : Cond) ∈ wsU := uin_2 (List.mem_of_getElem? (i := 174) rfl) rfl
theorem uw_2_175 : (Cond.static yX0_headLength : Cond) ∈ wsU := uin_2 (List.mem_of_getElem? (i := 175) rfl) rfl
theorem uw_2_176 : (Cond.code yX0_headLength cX0_headLength 1 (some .int) : Cond) ∈ wsU := uin_2 (List.mem_of_getElem? (i := 176) rfl) rfl
theorem uw_2_177 : (Cond.methodLink RX0 36 yX0_slantCount : Cond) ∈ wsU := uin_2 (List.mem_of_getElem? (i := 177) rfl) rfl
theorem uw_2_178 : (Cond.static yX0_slantCount : Cond) ∈ wsU := uin_2 (List.mem_of_getElem? (i := 178) rfl) rfl
theorem uw_2_179 : (Cond.code yX0_slantCount cX0_slantCount 3 (some .int) : Cond) ∈ wsU := uin_2 (List.mem_of_getElem? (i := 179) rfl) rfl
theorem uw_2_180 : (Cond.methodLink RX0 75 yX2_keepsOnSlant : Cond) ∈ wsU := uin_2 (List.mem_of_getElem? (i := 180) rfl) rfl
theorem uw_2_181 : (Cond.instanceMethod yX2_keepsOnSlant : Cond) ∈ wsU := uin_2 (List.mem_of_getElem? (i := 181) rfl) rfl
theorem uw_2_182 : (Cond.selects RX2 yX2_keepsOnSlant yX2_keepsOnSlant : Cond) ∈ wsU := uin_2 (List.mem_of_getElem? (i := 182) rfl) rfl
theorem uw_2_183 : (Cond.code yX2_keepsOnSlant cX2_keepsOnSlant 3 (some .boolean) : Cond) ∈ wsU := uin_2 (List.mem_of_getElem? (i := 183) rfl) rfl
theorem uw_2_184 : (Cond.methodLink RL 105 yX5_cheapest : Cond) ∈ wsU := uin_2 (List.mem_of_getElem? (i := 184) rfl) rfl
theorem uw_2_185 : (Cond.instanceMethod yX5_cheapest : Cond) ∈ wsU := uin_2 (List.mem_of_getElem? (i := 185) rfl) rfl
theorem uw_2_186 : (Cond.selects RX5 yX5_cheapest yX5_cheapest : Cond) ∈ wsU := uin_2 (List.mem_of_getElem? (i := 186) rfl) rfl
theorem uw_2_187 : (Cond.code yX5_cheapest cX5_cheapest 8 (some .int) : Cond) ∈ wsU := uin_2 (List.mem_of_getElem? (i := 187) rfl) rfl
theorem uw_2_188 : (Cond.methodLink RX5 184 yX0_isBlockSide : Cond) ∈ wsU := uin_2 (List.mem_of_getElem? (i := 188) rfl) rfl
theorem uw_2_189 : (Cond.methodLink RL 109 yX5_cell : Cond) ∈ wsU := uin_2 (List.mem_of_getElem? (i := 189) rfl) rfl
theorem uw_2_190 : (Cond.instanceMethod yX5_cell : Cond) ∈ wsU := uin_2 (List.mem_of_getElem? (i := 190) rfl) rfl
theorem uw_2_191 : (Cond.selects RX5 yX5_cell yX5_cell : Cond) ∈ wsU := uin_2 (List.mem_of_getElem? (i := 191) rfl) rfl
theorem uw_2_192 : (Cond.code yX5_cell cX5_cell 6 (some .long) : Cond) ∈ wsU := uin_2 (List.mem_of_getElem? (i := 192) rfl) rfl
theorem uw_2_193 : (Cond.methodLink RX5 187 yX0_cellValue : Cond) ∈ wsU := uin_2 (List.mem_of_getElem? (i := 193) rfl) rfl
theorem uw_2_194 : (Cond.static yX0_cellValue : Cond) ∈ wsU := uin_2 (List.mem_of_getElem? (i := 194) rfl) rfl
theorem uw_2_195 : (Cond.code yX0_cellValue cX0_cellValue 5 (some .long) : Cond) ∈ wsU := uin_2 (List.mem_of_getElem? (i := 195) rfl) rfl
theorem uw_2_196 : (Cond.methodLink RX0 39 yX0_triplesCell : Cond) ∈ wsU := uin_2 (List.mem_of_getElem? (i := 196) rfl) rfl
theorem uw_2_197 : (Cond.static yX0_triplesCell : Cond) ∈ wsU := uin_2 (List.mem_of_getElem? (i := 197) rfl) rfl
theorem uw_2_198 : (Cond.code yX0_triplesCell cX0_triplesCell 3 (some .long) : Cond) ∈ wsU := uin_2 (List.mem_of_getElem? (i := 198) rfl) rfl
theorem uw_2_199 : (Cond.methodLink RX0 60 yX2_placeNumber : Cond) ∈ wsU := uin_2 (List.mem_of_getElem? (i := 199) rfl) rfl
theorem uw_2_200 : (Cond.methodLink RX0 64 yX2_value : Cond) ∈ wsU := uin_2 (List.mem_of_getElem? (i := 200) rfl) rfl
theorem uw_2_201 : (Cond.methodLink RX0 43 yX0_byRowsCell : Cond) ∈ wsU := uin_2 (List.mem_of_getElem? (i := 201) rfl) rfl
theorem uw_2_202 : (Cond.static yX0_byRowsCell : Cond) ∈ wsU := uin_2 (List.mem_of_getElem? (i := 202) rfl) rfl
theorem uw_2_203 : (Cond.code yX0_byRowsCell cX0_byRowsCell 4 (some .long) : Cond) ∈ wsU := uin_2 (List.mem_of_getElem? (i := 203) rfl) rfl
theorem uw_2_204 : (Cond.methodLink RX0 68 yX0_headCell : Cond) ∈ wsU := uin_2 (List.mem_of_getElem? (i := 204) rfl) rfl
theorem uw_2_205 : (Cond.static yX0_headCell : Cond) ∈ wsU := uin_2 (List.mem_of_getElem? (i := 205) rfl) rfl
theorem uw_2_206 : (Cond.code yX0_headCell cX0_headCell 2 (some .int) : Cond) ∈ wsU := uin_2 (List.mem_of_getElem? (i := 206) rfl) rfl
theorem uw_2_207 : (Cond.methodLink RX0 72 yX2_keptAhead : Cond) ∈ wsU := uin_2 (List.mem_of_getElem? (i := 207) rfl) rfl
theorem uw_2_208 : (Cond.methodLink RX0 46 yX2_becomeTurned : Cond) ∈ wsU := uin_2 (List.mem_of_getElem? (i := 208) rfl) rfl
theorem uw_2_209 : (Cond.methodLink RX0 50 yX0_blocksCell : Cond) ∈ wsU := uin_2 (List.mem_of_getElem? (i := 209) rfl) rfl
theorem uw_2_210 : (Cond.static yX0_blocksCell : Cond) ∈ wsU := uin_2 (List.mem_of_getElem? (i := 210) rfl) rfl
theorem uw_2_211 : (Cond.code yX0_blocksCell cX0_blocksCell 8 (some .long) : Cond) ∈ wsU := uin_2 (List.mem_of_getElem? (i := 211) rfl) rfl
theorem uw_2_212 : (Cond.methodLink RX0 54 yX0_fullCell : Cond) ∈ wsU := uin_2 (List.mem_of_getElem? (i := 212) rfl) rfl
theorem uw_2_213 : (Cond.static yX0_fullCell : Cond) ∈ wsU := uin_2 (List.mem_of_getElem? (i := 213) rfl) rfl
theorem uw_2_214 : (Cond.code yX0_fullCell cX0_fullCell 3 (some .long) : Cond) ∈ wsU := uin_2 (List.mem_of_getElem? (i := 214) rfl) rfl
theorem uw_2_215 : (Cond.methodLink RX0 57 yX0_slantsCell : Cond) ∈ wsU := uin_2 (List.mem_of_getElem? (i := 215) rfl) rfl
theorem uw_2_216 : (Cond.static yX0_slantsCell : Cond) ∈ wsU := uin_2 (List.mem_of_getElem? (i := 216) rfl) rfl
theorem uw_2_217 : (Cond.code yX0_slantsCell cX0_slantsCell 4 (some .long) : Cond) ∈ wsU := uin_2 (List.mem_of_getElem? (i := 217) rfl) rfl
theorem uw_2_218 : (Cond.methodLink RL 114 yX5_walks : Cond) ∈ wsU := uin_2 (List.mem_of_getElem? (i := 218) rfl) rfl
theorem uw_2_219 : (Cond.instanceMethod yX5_walks : Cond) ∈ wsU := uin_2 (List.mem_of_getElem? (i := 219) rfl) rfl
theorem uw_2_220 : (Cond.selects RX5 yX5_walks yX5_walks : Cond) ∈ wsU := uin_2 (List.mem_of_getElem? (i := 220) rfl) rfl
theorem uw_2_221 : (Cond.code yX5_walks cX5_walks 6 (some .long) : Cond) ∈ wsU := uin_2 (List.mem_of_getElem? (i := 221) rfl) rfl
theorem uw_2_222 : (Cond.methodLink RX5 191 yX2_isSquare : Cond) ∈ wsU := uin_2 (List.mem_of_getElem? (i := 222) rfl) rfl
theorem uw_2_223 : (Cond.instanceMethod yX2_isSquare : Cond) ∈ wsU := uin_2 (List.mem_of_getElem? (i := 223) rfl) rfl
theorem uw_2_224 : (Cond.selects RX2 yX2_isSquare yX2_isSquare : Cond) ∈ wsU := uin_2 (List.mem_of_getElem? (i := 224) rfl) rfl
theorem uw_2_225 : (Cond.code yX2_isSquare cX2_isSquare 1 (some .boolean) : Cond) ∈ wsU := uin_2 (List.mem_of_getElem? (i := 225) rfl) rfl
theorem uw_2_226 : (Cond.methodLink RX5 195 yX1_walkSum : Cond) ∈ wsU := uin_2 (List.mem_of_getElem? (i := 226) rfl) rfl
theorem uw_2_227 : (Cond.instanceMethod yX1_walkSum : Cond) ∈ wsU := uin_2 (List.mem_of_getElem? (i := 227) rfl) rfl
theorem uw_2_228 : (Cond.selects RX1 yX1_walkSum yX1_walkSum : Cond) ∈ wsU := uin_2 (List.mem_of_getElem? (i := 228) rfl) rfl
theorem uw_2_229 : (Cond.code yX1_walkSum cX1_walkSum 6 (some .long) : Cond) ∈ wsU := uin_2 (List.mem_of_getElem? (i := 229) rfl) rfl
theorem uw_2_231 : (Cond.methodLink RX1 55 yX1_walkOn : Cond) ∈ wsU := uin_2 (List.mem_of_getElem? (i := 231) rfl) rfl
theorem uw_2_233 : (Cond.instanceMethod yX1_walkOn : Cond) ∈ wsU := uin_2 (List.mem_of_getElem? (i := 233) rfl) rfl
theorem uw_2_234 : (Cond.code yX1_walkOn cX1_walkOn 4 none : Cond) ∈ wsU := uin_2 (List.mem_of_getElem? (i := 234) rfl) rfl
theorem uw_2_235 : (Cond.methodLink RX1 59 yX2_value : Cond) ∈ wsU := uin_2 (List.mem_of_getElem? (i := 235) rfl) rfl
theorem uw_2_236 : (Cond.methodLink RL 118 yX5_way : Cond) ∈ wsU := uin_2 (List.mem_of_getElem? (i := 236) rfl) rfl
theorem uw_2_237 : (Cond.instanceMethod yX5_way : Cond) ∈ wsU := uin_2 (List.mem_of_getElem? (i := 237) rfl) rfl
theorem uw_2_238 : (Cond.selects RX5 yX5_way yX5_way : Cond) ∈ wsU := uin_2 (List.mem_of_getElem? (i := 238) rfl) rfl
theorem uw_2_239 : (Cond.code yX5_way cX5_way 5 (some .int) : Cond) ∈ wsU := uin_2 (List.mem_of_getElem? (i := 239) rfl) rfl
theorem uw_3_0 : (Cond.methodLink RX5 199 yX2_hasRow : Cond) ∈ wsU := uin_3 (List.mem_of_getElem? (i := 0) rfl) rfl
theorem uw_3_1 : (Cond.methodLink RX5 202 yX1_read : Cond) ∈ wsU := uin_3 (List.mem_of_getElem? (i := 1) rfl) rfl
theorem uw_3_2 : (Cond.instanceMethod yX1_read : Cond) ∈ wsU := uin_3 (List.mem_of_getElem? (i := 2) rfl) rfl
theorem uw_3_3 : (Cond.selects RX1 yX1_read yX1_read : Cond) ∈ wsU := uin_3 (List.mem_of_getElem? (i := 3) rfl) rfl
theorem uw_3_4 : (Cond.code yX1_read cX1_read 3 none : Cond) ∈ wsU := uin_3 (List.mem_of_getElem? (i := 4) rfl) rfl
theorem uw_3_5 : (Cond.methodLink RX1 37 yX2_columnsOf : Cond) ∈ wsU := uin_3 (List.mem_of_getElem? (i := 5) rfl) rfl
theorem uw_3_6 : (Cond.methodLink RX1 41 yX1_sourcesOf : Cond) ∈ wsU := uin_3 (List.mem_of_getElem? (i := 6) rfl) rfl
theorem uw_3_8 : (Cond.instanceMethod yX1_sourcesOf : Cond) ∈ wsU := uin_3 (List.mem_of_getElem? (i := 8) rfl) rfl
theorem uw_3_9 : (Cond.code yX1_sourcesOf cX1_sourcesOf 4 (some .int) : Cond) ∈ wsU := uin_3 (List.mem_of_getElem? (i := 9) rfl) rfl
theorem uw_3_11 : (Cond.methodLink RX5 205 yX1_wayLength : Cond) ∈ wsU := uin_3 (List.mem_of_getElem? (i := 11) rfl) rfl
theorem uw_3_12 : (Cond.instanceMethod yX1_wayLength : Cond) ∈ wsU := uin_3 (List.mem_of_getElem? (i := 12) rfl) rfl
theorem uw_3_13 : (Cond.selects RX1 yX1_wayLength yX1_wayLength : Cond) ∈ wsU := uin_3 (List.mem_of_getElem? (i := 13) rfl) rfl
theorem uw_3_14 : (Cond.code yX1_wayLength cX1_wayLength 5 (some .int) : Cond) ∈ wsU := uin_3 (List.mem_of_getElem? (i := 14) rfl) rfl
theorem uw_3_15 : (Cond.methodLink RX1 63 yX1_targetsOf : Cond) ∈ wsU := uin_3 (List.mem_of_getElem? (i := 15) rfl) rfl
theorem uw_3_17 : (Cond.instanceMethod yX1_targetsOf : Cond) ∈ wsU := uin_3 (List.mem_of_getElem? (i := 17) rfl) rfl
theorem uw_3_18 : (Cond.code yX1_targetsOf cX1_targetsOf 4 (some .int) : Cond) ∈ wsU := uin_3 (List.mem_of_getElem? (i := 18) rfl) rfl
theorem uw_3_19 : (Cond.methodLink RL 122 yX5_ring : Cond) ∈ wsU := uin_3 (List.mem_of_getElem? (i := 19) rfl) rfl
theorem uw_3_20 : (Cond.instanceMethod yX5_ring : Cond) ∈ wsU := uin_3 (List.mem_of_getElem? (i := 20) rfl) rfl
theorem uw_3_21 : (Cond.selects RX5 yX5_ring yX5_ring : Cond) ∈ wsU := uin_3 (List.mem_of_getElem? (i := 21) rfl) rfl
theorem uw_3_22 : (Cond.code yX5_ring cX5_ring 4 (some .int) : Cond) ∈ wsU := uin_3 (List.mem_of_getElem? (i := 22) rfl) rfl
theorem uw_3_23 : (Cond.methodLink RX5 208 yX1_closeReach : Cond) ∈ wsU := uin_3 (List.mem_of_getElem? (i := 23) rfl) rfl
theorem uw_3_24 : (Cond.instanceMethod yX1_closeReach : Cond) ∈ wsU := uin_3 (List.mem_of_getElem? (i := 24) rfl) rfl
theorem uw_3_25 : (Cond.selects RX1 yX1_closeReach yX1_closeReach : Cond) ∈ wsU := uin_3 (List.mem_of_getElem? (i := 25) rfl) rfl
theorem uw_3_26 : (Cond.code yX1_closeReach cX1_closeReach 3 none : Cond) ∈ wsU := uin_3 (List.mem_of_getElem? (i := 26) rfl) rfl
theorem uw_3_27 : (Cond.methodLink RX5 211 yX1_leastOfRing : Cond) ∈ wsU := uin_3 (List.mem_of_getElem? (i := 27) rfl) rfl
theorem uw_3_28 : (Cond.instanceMethod yX1_leastOfRing : Cond) ∈ wsU := uin_3 (List.mem_of_getElem? (i := 28) rfl) rfl
theorem uw_3_29 : (Cond.selects RX1 yX1_leastOfRing yX1_leastOfRing : Cond) ∈ wsU := uin_3 (List.mem_of_getElem? (i := 29) rfl) rfl
theorem uw_3_30 : (Cond.code yX1_leastOfRing cX1_leastOfRing 3 (some .int) : Cond) ∈ wsU := uin_3 (List.mem_of_getElem? (i := 30) rfl) rfl
theorem uw_3_31 : (Cond.methodLink RX5 214 yX1_ringsBelow : Cond) ∈ wsU := uin_3 (List.mem_of_getElem? (i := 31) rfl) rfl
theorem uw_3_32 : (Cond.instanceMethod yX1_ringsBelow : Cond) ∈ wsU := uin_3 (List.mem_of_getElem? (i := 32) rfl) rfl
theorem uw_3_33 : (Cond.selects RX1 yX1_ringsBelow yX1_ringsBelow : Cond) ∈ wsU := uin_3 (List.mem_of_getElem? (i := 33) rfl) rfl
theorem uw_3_34 : (Cond.code yX1_ringsBelow cX1_ringsBelow 4 (some .int) : Cond) ∈ wsU := uin_3 (List.mem_of_getElem? (i := 34) rfl) rfl
theorem uw_3_35 : (Cond.methodLink RX1 66 yX1_leastOfRing : Cond) ∈ wsU := uin_3 (List.mem_of_getElem? (i := 35) rfl) rfl
theorem uw_3_36 : (Cond.methodLink RL 126 yX5_sort : Cond) ∈ wsU := uin_3 (List.mem_of_getElem? (i := 36) rfl) rfl
theorem uw_3_37 : (Cond.instanceMethod yX5_sort : Cond) ∈ wsU := uin_3 (List.mem_of_getElem? (i := 37) rfl) rfl
theorem uw_3_38 : (Cond.selects RX5 yX5_sort yX5_sort : Cond) ∈ wsU := uin_3 (List.mem_of_getElem? (i := 38) rfl) rfl
theorem uw_3_39 : (Cond.code yX5_sort cX5_sort 3 (some .int) : Cond) ∈ wsU := uin_3 (List.mem_of_getElem? (i := 39) rfl) rfl
theorem uw_3_40 : (Cond.methodLink RX5 217 yX1_sortInto : Cond) ∈ wsU := uin_3 (List.mem_of_getElem? (i := 40) rfl) rfl
theorem uw_3_41 : (Cond.instanceMethod yX1_sortInto : Cond) ∈ wsU := uin_3 (List.mem_of_getElem? (i := 41) rfl) rfl
theorem uw_3_42 : (Cond.selects RX1 yX1_sortInto yX1_sortInto : Cond) ∈ wsU := uin_3 (List.mem_of_getElem? (i := 42) rfl) rfl
theorem uw_3_43 : (Cond.code yX1_sortInto cX1_sortInto 5 (some .boolean) : Cond) ∈ wsU := uin_3 (List.mem_of_getElem? (i := 43) rfl) rfl
theorem uw_3_44 : (Cond.methodLink RX1 69 yX3_clear : Cond) ∈ wsU := uin_3 (List.mem_of_getElem? (i := 44) rfl) rfl
theorem uw_3_45 : (Cond.methodLink RX1 74 yX1_allNodes : Cond) ∈ wsU := uin_3 (List.mem_of_getElem? (i := 45) rfl) rfl
theorem uw_3_47 : (Cond.instanceMethod yX1_allNodes : Cond) ∈ wsU := uin_3 (List.mem_of_getElem? (i := 47) rfl) rfl
theorem uw_3_48 : (Cond.code yX1_allNodes cX1_allNodes 1 (some .int) : Cond) ∈ wsU := uin_3 (List.mem_of_getElem? (i := 48) rfl) rfl
theorem uw_3_50 : (Cond.methodLink RX1 78 yX1_leastWithoutSource : Cond) ∈ wsU := uin_3 (List.mem_of_getElem? (i := 50) rfl) rfl
theorem uw_3_52 : (Cond.instanceMethod yX1_leastWithoutSource : Cond) ∈ wsU := uin_3 (List.mem_of_getElem? (i := 52) rfl) rfl
theorem uw_3_53 : (Cond.code yX1_leastWithoutSource cX1_leastWithoutSource 4 (some .int) : Cond) ∈ wsU := uin_3 (List.mem_of_getElem? (i := 53) rfl) rfl
theorem uw_3_54 : (Cond.methodLink RX1 81 yX3_append : Cond) ∈ wsU := uin_3 (List.mem_of_getElem? (i := 54) rfl) rfl
theorem uw_3_55 : (Cond.methodLink RX5 221 yX5_putDraftNumbers : Cond) ∈ wsU := uin_3 (List.mem_of_getElem? (i := 55) rfl) rfl
theorem uw_3_57 : (Cond.instanceMethod yX5_putDraftNumbers : Cond) ∈ wsU := uin_3 (List.mem_of_getElem? (i := 57) rfl) rfl
theorem uw_3_58 : (Cond.code yX5_putDraftNumbers cX5_putDraftNumbers 2 none : Cond) ∈ wsU := uin_3 (List.mem_of_getElem? (i := 58) rfl) rfl
theorem uw_3_59 : (Cond.methodLink RL 130 yX5_narrow : Cond) ∈ wsU := uin_3 (List.mem_of_getElem? (i := 59) rfl) rfl
theorem uw_3_60 : (Cond.instanceMethod yX5_narrow : Cond) ∈ wsU := uin_3 (List.mem_of_getElem? (i := 60) rfl) rfl
theorem uw_3_61 : (Cond.selects RX5 yX5_narrow yX5_narrow : Cond) ∈ wsU := uin_3 (List.mem_of_getElem? (i := 61) rfl) rfl
theorem uw_3_62 : (Cond.code yX5_narrow cX5_narrow 3 (some .int) : Cond) ∈ wsU := uin_3 (List.mem_of_getElem? (i := 62) rfl) rfl
theorem uw_3_63 : (Cond.methodLink RX5 224 yX1_narrowInto : Cond) ∈ wsU := uin_3 (List.mem_of_getElem? (i := 63) rfl) rfl
theorem uw_3_64 : (Cond.instanceMethod yX1_narrowInto : Cond) ∈ wsU := uin_3 (List.mem_of_getElem? (i := 64) rfl) rfl
theorem uw_3_65 : (Cond.selects RX1 yX1_narrowInto yX1_narrowInto : Cond) ∈ wsU := uin_3 (List.mem_of_getElem? (i := 65) rfl) rfl
theorem uw_3_66 : (Cond.code yX1_narrowInto cX1_narrowInto 5 none : Cond) ∈ wsU := uin_3 (List.mem_of_getElem? (i := 66) rfl) rfl
theorem uw_3_67 : (Cond.methodLink RX1 88 yX1_moveFewest : Cond) ∈ wsU := uin_3 (List.mem_of_getElem? (i := 67) rfl) rfl
theorem uw_3_69 : (Cond.instanceMethod yX1_moveFewest : Cond) ∈ wsU := uin_3 (List.mem_of_getElem? (i := 69) rfl) rfl
theorem uw_3_70 : (Cond.code yX1_moveFewest cX1_moveFewest 8 (some .int) : Cond) ∈ wsU := uin_3 (List.mem_of_getElem? (i := 70) rfl) rfl
theorem uw_3_71 : (Cond.methodLink RX1 101 yJ6_bitCount_0f7a4 : Cond) ∈ wsU := uin_3 (List.mem_of_getElem? (i := 71) rfl) rfl
theorem uw_3_72 : (Cond.methodLink RX1 92 yX3_item : Cond) ∈ wsU := uin_3 (List.mem_of_getElem? (i := 72) rfl) rfl
theorem uw_3_73 : (Cond.methodLink RX1 95 yX1_neighboursOf : Cond) ∈ wsU := uin_3 (List.mem_of_getElem? (i := 73) rfl) rfl
theorem uw_3_75 : (Cond.instanceMethod yX1_neighboursOf : Cond) ∈ wsU := uin_3 (List.mem_of_getElem? (i := 75) rfl) rfl
theorem uw_3_76 : (Cond.code yX1_neighboursOf cX1_neighboursOf 2 (some .int) : Cond) ∈ wsU := uin_3 (List.mem_of_getElem? (i := 76) rfl) rfl
theorem uw_3_77 : (Cond.methodLink RX1 98 yX1_moveAll : Cond) ∈ wsU := uin_3 (List.mem_of_getElem? (i := 77) rfl) rfl
theorem uw_3_79 : (Cond.instanceMethod yX1_moveAll : Cond) ∈ wsU := uin_3 (List.mem_of_getElem? (i := 79) rfl) rfl
theorem uw_3_80 : (Cond.code yX1_moveAll cX1_moveAll 6 (some .int) : Cond) ∈ wsU := uin_3 (List.mem_of_getElem? (i := 80) rfl) rfl
theorem uw_3_81 : (Cond.methodLink RX5 228 yX1_widthOf : Cond) ∈ wsU := uin_3 (List.mem_of_getElem? (i := 81) rfl) rfl
theorem uw_3_82 : (Cond.instanceMethod yX1_widthOf : Cond) ∈ wsU := uin_3 (List.mem_of_getElem? (i := 82) rfl) rfl
theorem uw_3_83 : (Cond.selects RX1 yX1_widthOf yX1_widthOf : Cond) ∈ wsU := uin_3 (List.mem_of_getElem? (i := 83) rfl) rfl
theorem uw_3_84 : (Cond.code yX1_widthOf cX1_widthOf 5 (some .int) : Cond) ∈ wsU := uin_3 (List.mem_of_getElem? (i := 84) rfl) rfl
theorem uw_3_85 : (Cond.methodLink RX1 106 yJ9_max_7cf53 : Cond) ∈ wsU := uin_3 (List.mem_of_getElem? (i := 85) rfl) rfl
theorem uw_3_86 : (Cond.static yJ9_max_7cf53 : Cond) ∈ wsU := uin_3 (List.mem_of_getElem? (i := 86) rfl) rfl
theorem uw_3_87 : (Cond.code yJ9_max_7cf53 cJ9_max_7cf53 2 (some .int) : Cond) ∈ wsU := uin_3 (List.mem_of_getElem? (i := 87) rfl) rfl
theorem uw_3_88 : (Cond.methodLink RL 134 yX5_width : Cond) ∈ wsU := uin_3 (List.mem_of_getElem? (i := 88) rfl) rfl
theorem uw_3_89 : (Cond.instanceMethod yX5_width : Cond) ∈ wsU := uin_3 (List.mem_of_getElem? (i := 89) rfl) rfl
theorem uw_3_90 : (Cond.selects RX5 yX5_width yX5_width : Cond) ∈ wsU := uin_3 (List.mem_of_getElem? (i := 90) rfl) rfl
theorem uw_3_91 : (Cond.code yX5_width cX5_width 3 (some .int) : Cond) ∈ wsU := uin_3 (List.mem_of_getElem? (i := 91) rfl) rfl
theorem uw_3_92 : (Cond.methodLink RX5 232 yX3_areEachBelowOnce : Cond) ∈ wsU := uin_3 (List.mem_of_getElem? (i := 92) rfl) rfl
theorem uw_3_93 : (Cond.instanceMethod yX3_areEachBelowOnce : Cond) ∈ wsU := uin_3 (List.mem_of_getElem? (i := 93) rfl) rfl
theorem uw_3_94 : (Cond.selects RX3 yX3_areEachBelowOnce yX3_areEachBelowOnce : Cond) ∈ wsU := uin_3 (List.mem_of_getElem? (i := 94) rfl) rfl
theorem uw_3_95 : (Cond.code yX3_areEachBelowOnce cX3_areEachBelowOnce 4 (some .boolean) : Cond) ∈ wsU := uin_3 (List.mem_of_getElem? (i := 95) rfl) rfl
theorem uw_3_96 : (Cond.methodLink RX3 23 yX3_areBelow : Cond) ∈ wsU := uin_3 (List.mem_of_getElem? (i := 96) rfl) rfl
theorem uw_3_97 : (Cond.methodLink RX3 26 yJ6_bitCount_0f7a4 : Cond) ∈ wsU := uin_3 (List.mem_of_getElem? (i := 97) rfl) rfl
theorem uw_3_98 : (Cond.classLink RL 10 RX6 : Cond) ∈ wsU := uin_3 (List.mem_of_getElem? (i := 98) rfl) rfl
theorem uw_3_99 : (Cond.instantiable RX6 14 : Cond) ∈ wsU := uin_3 (List.mem_of_getElem? (i := 99) rfl) rfl
theorem uw_3_100 : (Cond.methodLink RL 12 yX6_init : Cond) ∈ wsU := uin_3 (List.mem_of_getElem? (i := 100) rfl) rfl
theorem uw_3_101 : (Cond.instanceMethod yX6_init : Cond) ∈ wsU := uin_3 (List.mem_of_getElem? (i := 101) rfl) rfl
theorem uw_3_102 : (Cond.code yX6_init cX6_init 1 none : Cond) ∈ wsU := uin_3 (List.mem_of_getElem? (i := 102) rfl) rfl
theorem uw_3_103 : (Cond.methodLink RX6 1 objectInit : Cond) ∈ wsU := uin_3 (List.mem_of_getElem? (i := 103) rfl) rfl
theorem uw_3_104 : (Cond.fieldLink RX6 7 "KeptTablesModel" "there" "[Z" : Cond) ∈ wsU := uin_3 (List.mem_of_getElem? (i := 104) rfl) rfl
theorem uw_3_105 : (Cond.fieldLink RX6 13 "KeptTablesModel" "high" "[I" : Cond) ∈ wsU := uin_3 (List.mem_of_getElem? (i := 105) rfl) rfl
theorem uw_3_106 : (Cond.fieldLink RX6 17 "KeptTablesModel" "wide" "[I" : Cond) ∈ wsU := uin_3 (List.mem_of_getElem? (i := 106) rfl) rfl
theorem uw_3_107 : (Cond.fieldLink RX6 20 "KeptTablesModel" "isKept" "[Z" : Cond) ∈ wsU := uin_3 (List.mem_of_getElem? (i := 107) rfl) rfl
theorem uw_3_108 : (Cond.fieldLink RX6 23 "KeptTablesModel" "value" "[J" : Cond) ∈ wsU := uin_3 (List.mem_of_getElem? (i := 108) rfl) rfl
theorem uw_3_109 : (Cond.fieldLink RX6 71 "KeptTablesModel" "triples" "I" : Cond) ∈ wsU := uin_3 (List.mem_of_getElem? (i := 109) rfl) rfl
theorem uw_3_110 : (Cond.fieldLink RX6 27 "KeptTablesModel" "tripleAt" "[I" : Cond) ∈ wsU := uin_3 (List.mem_of_getElem? (i := 110) rfl) rfl
theorem uw_3_111 : (Cond.fieldLink RX6 30 "KeptTablesModel" "tripleValue" "[J" : Cond) ∈ wsU := uin_3 (List.mem_of_getElem? (i := 111) rfl) rfl
theorem uw_3_112 : (Cond.fieldLink RX6 75 "KeptTablesModel" "listMany" "I" : Cond) ∈ wsU := uin_3 (List.mem_of_getElem? (i := 112) rfl) rfl
theorem uw_3_113 : (Cond.fieldLink RX6 33 "KeptTablesModel" "listOf" "[I" : Cond) ∈ wsU := uin_3 (List.mem_of_getElem? (i := 113) rfl) rfl
theorem uw_3_114 : (Cond.fieldLink RX6 36 "KeptTablesModel" "cells" "[J" : Cond) ∈ wsU := uin_3 (List.mem_of_getElem? (i := 114) rfl) rfl
theorem uw_3_115 : (Cond.fieldLink RX6 97 "KeptTablesModel" "laid" "I" : Cond) ∈ wsU := uin_3 (List.mem_of_getElem? (i := 115) rfl) rfl
theorem uw_3_116 : (Cond.fieldLink RX6 39 "KeptTablesModel" "here" "[J" : Cond) ∈ wsU := uin_3 (List.mem_of_getElem? (i := 116) rfl) rfl
theorem uw_3_117 : (Cond.fieldLink RX6 42 "KeptTablesModel" "next" "[J" : Cond) ∈ wsU := uin_3 (List.mem_of_getElem? (i := 117) rfl) rfl
theorem uw_3_118 : (Cond.laysFinal RX6 "KeptTablesModel" "there" "[Z" : Cond) ∈ wsU := uin_3 (List.mem_of_getElem? (i := 118) rfl) rfl
theorem uw_3_120 : (Cond.laysFinal RX6 "KeptTablesModel" "high" "[I" : Cond) ∈ wsU := uin_3 (List.mem_of_getElem? (i := 120) rfl) rfl
theorem uw_3_122 : (Cond.laysFinal RX6 "KeptTablesModel" "wide" "[I" : Cond) ∈ wsU := uin_3 (List.mem_of_getElem? (i := 122) rfl) rfl
theorem uw_3_124 : (Cond.laysFinal RX6 "KeptTablesModel" "isKept" "[Z" : Cond) ∈ wsU := uin_3 (List.mem_of_getElem? (i := 124) rfl) rfl
theorem uw_3_126 : (Cond.laysFinal RX6 "KeptTablesModel" "value" "[J" : Cond) ∈ wsU := uin_3 (List.mem_of_getElem? (i := 126) rfl) rfl
theorem uw_3_128 : (Cond.lays RX6 "KeptTablesModel" "triples" "I" : Cond) ∈ wsU := uin_3 (List.mem_of_getElem? (i := 128) rfl) rfl
theorem uw_3_130 : (Cond.laysFinal RX6 "KeptTablesModel" "tripleAt" "[I" : Cond) ∈ wsU := uin_3 (List.mem_of_getElem? (i := 130) rfl) rfl
theorem uw_3_132 : (Cond.laysFinal RX6 "KeptTablesModel" "tripleValue" "[J" : Cond) ∈ wsU := uin_3 (List.mem_of_getElem? (i := 132) rfl) rfl
theorem uw_3_134 : (Cond.lays RX6 "KeptTablesModel" "listMany" "I" : Cond) ∈ wsU := uin_3 (List.mem_of_getElem? (i := 134) rfl) rfl
theorem uw_3_136 : (Cond.laysFinal RX6 "KeptTablesModel" "listOf" "[I" : Cond) ∈ wsU := uin_3 (List.mem_of_getElem? (i := 136) rfl) rfl
theorem uw_3_138 : (Cond.laysFinal RX6 "KeptTablesModel" "cells" "[J" : Cond) ∈ wsU := uin_3 (List.mem_of_getElem? (i := 138) rfl) rfl
theorem uw_3_140 : (Cond.lays RX6 "KeptTablesModel" "laid" "I" : Cond) ∈ wsU := uin_3 (List.mem_of_getElem? (i := 140) rfl) rfl
theorem uw_3_142 : (Cond.laysFinal RX6 "KeptTablesModel" "here" "[J" : Cond) ∈ wsU := uin_3 (List.mem_of_getElem? (i := 142) rfl) rfl
theorem uw_3_144 : (Cond.laysFinal RX6 "KeptTablesModel" "next" "[J" : Cond) ∈ wsU := uin_3 (List.mem_of_getElem? (i := 144) rfl) rfl
theorem uw_3_147 : (Cond.arrayClass .boolean : Cond) ∈ wsU := uin_3 (List.mem_of_getElem? (i := 147) rfl) rfl
theorem uw_3_148 : (Cond.methodLink RL 17 yX6_table : Cond) ∈ wsU := uin_3 (List.mem_of_getElem? (i := 148) rfl) rfl
theorem uw_3_149 : (Cond.instanceMethod yX6_table : Cond) ∈ wsU := uin_3 (List.mem_of_getElem? (i := 149) rfl) rfl
theorem uw_3_150 : (Cond.selects RX6 yX6_table yX6_table : Cond) ∈ wsU := uin_3 (List.mem_of_getElem? (i := 150) rfl) rfl
theorem uw_3_151 : (Cond.code yX6_table cX6_table 4 (some .int) : Cond) ∈ wsU := uin_3 (List.mem_of_getElem? (i := 151) rfl) rfl
theorem uw_3_152 : (Cond.methodLink RX6 45 yX6_isNumber : Cond) ∈ wsU := uin_3 (List.mem_of_getElem? (i := 152) rfl) rfl
theorem uw_3_153 : (Cond.static yX6_isNumber : Cond) ∈ wsU := uin_3 (List.mem_of_getElem? (i := 153) rfl) rfl
theorem uw_3_154 : (Cond.code yX6_isNumber cX6_isNumber 1 (some .boolean) : Cond) ∈ wsU := uin_3 (List.mem_of_getElem? (i := 154) rfl) rfl
theorem uw_3_155 : (Cond.methodLink RX6 64 yX6_begin : Cond) ∈ wsU := uin_3 (List.mem_of_getElem? (i := 155) rfl) rfl
theorem uw_3_157 : (Cond.instanceMethod yX6_begin : Cond) ∈ wsU := uin_3 (List.mem_of_getElem? (i := 157) rfl) rfl
theorem uw_3_158 : (Cond.code yX6_begin cX6_begin 4 none : Cond) ∈ wsU := uin_3 (List.mem_of_getElem? (i := 158) rfl) rfl
theorem uw_3_159 : (Cond.methodLink RX6 68 yX6_putAt : Cond) ∈ wsU := uin_3 (List.mem_of_getElem? (i := 159) rfl) rfl
theorem uw_3_161 : (Cond.instanceMethod yX6_putAt : Cond) ∈ wsU := uin_3 (List.mem_of_getElem? (i := 161) rfl) rfl
theorem uw_3_162 : (Cond.code yX6_putAt cX6_putAt 4 (some .int) : Cond) ∈ wsU := uin_3 (List.mem_of_getElem? (i := 162) rfl) rfl
theorem uw_3_163 : (Cond.methodLink RX6 49 yX6_many : Cond) ∈ wsU := uin_3 (List.mem_of_getElem? (i := 163) rfl) rfl
theorem uw_3_165 : (Cond.instanceMethod yX6_many : Cond) ∈ wsU := uin_3 (List.mem_of_getElem? (i := 165) rfl) rfl
theorem uw_3_166 : (Cond.code yX6_many cX6_many 4 (some .int) : Cond) ∈ wsU := uin_3 (List.mem_of_getElem? (i := 166) rfl) rfl
theorem uw_3_167 : (Cond.methodLink RL 24 yX6_triple : Cond) ∈ wsU := uin_3 (List.mem_of_getElem? (i := 167) rfl) rfl
theorem uw_3_168 : (Cond.instanceMethod yX6_triple : Cond) ∈ wsU := uin_3 (List.mem_of_getElem? (i := 168) rfl) rfl
theorem uw_3_169 : (Cond.selects RX6 yX6_triple yX6_triple : Cond) ∈ wsU := uin_3 (List.mem_of_getElem? (i := 169) rfl) rfl
theorem uw_3_170 : (Cond.code yX6_triple cX6_triple 5 (some .int) : Cond) ∈ wsU := uin_3 (List.mem_of_getElem? (i := 170) rfl) rfl
theorem uw_3_171 : (Cond.methodLink RL 29 yX6_list : Cond) ∈ wsU := uin_3 (List.mem_of_getElem? (i := 171) rfl) rfl
theorem uw_3_172 : (Cond.instanceMethod yX6_list : Cond) ∈ wsU := uin_3 (List.mem_of_getElem? (i := 172) rfl) rfl
theorem uw_3_173 : (Cond.selects RX6 yX6_list yX6_list : Cond) ∈ wsU := uin_3 (List.mem_of_getElem? (i := 173) rfl) rfl
theorem uw_3_174 : (Cond.code yX6_list cX6_list 2 (some .int) : Cond) ∈ wsU := uin_3 (List.mem_of_getElem? (i := 174) rfl) rfl
theorem uw_3_175 : (Cond.methodLink RL 33 yX6_listed : Cond) ∈ wsU := uin_3 (List.mem_of_getElem? (i := 175) rfl) rfl
theorem uw_3_176 : (Cond.instanceMethod yX6_listed : Cond) ∈ wsU := uin_3 (List.mem_of_getElem? (i := 176) rfl) rfl
theorem uw_3_177 : (Cond.selects RX6 yX6_listed yX6_listed : Cond) ∈ wsU := uin_3 (List.mem_of_getElem? (i := 177) rfl) rfl
theorem uw_3_178 : (Cond.code yX6_listed cX6_listed 2 (some .int) : Cond) ∈ wsU := uin_3 (List.mem_of_getElem? (i := 178) rfl) rfl
theorem uw_3_179 : (Cond.methodLink RL 37 yX6_join : Cond) ∈ wsU := uin_3 (List.mem_of_getElem? (i := 179) rfl) rfl
theorem uw_3_180 : (Cond.instanceMethod yX6_join : Cond) ∈ wsU := uin_3 (List.mem_of_getElem? (i := 180) rfl) rfl
theorem uw_3_181 : (Cond.selects RX6 yX6_join yX6_join : Cond) ∈ wsU := uin_3 (List.mem_of_getElem? (i := 181) rfl) rfl
theorem uw_3_182 : (Cond.code yX6_join cX6_join 5 (some .int) : Cond) ∈ wsU := uin_3 (List.mem_of_getElem? (i := 182) rfl) rfl
theorem uw_3_183 : (Cond.methodLink RX6 78 yX6_isTable : Cond) ∈ wsU := uin_3 (List.mem_of_getElem? (i := 183) rfl) rfl
theorem uw_3_185 : (Cond.instanceMethod yX6_isTable : Cond) ∈ wsU := uin_3 (List.mem_of_getElem? (i := 185) rfl) rfl
theorem uw_3_186 : (Cond.code yX6_isTable cX6_isTable 2 (some .boolean) : Cond) ∈ wsU := uin_3 (List.mem_of_getElem? (i := 186) rfl) rfl
theorem uw_3_187 : (Cond.methodLink RX6 81 yX6_take : Cond) ∈ wsU := uin_3 (List.mem_of_getElem? (i := 187) rfl) rfl
theorem uw_3_189 : (Cond.instanceMethod yX6_take : Cond) ∈ wsU := uin_3 (List.mem_of_getElem? (i := 189) rfl) rfl
theorem uw_3_190 : (Cond.code yX6_take cX6_take 3 none : Cond) ∈ wsU := uin_3 (List.mem_of_getElem? (i := 190) rfl) rfl
theorem uw_3_191 : (Cond.methodLink RX6 57 yX6_isIn : Cond) ∈ wsU := uin_3 (List.mem_of_getElem? (i := 191) rfl) rfl
theorem uw_3_193 : (Cond.instanceMethod yX6_isIn : Cond) ∈ wsU := uin_3 (List.mem_of_getElem? (i := 193) rfl) rfl
theorem uw_3_194 : (Cond.code yX6_isIn cX6_isIn 4 (some .boolean) : Cond) ∈ wsU := uin_3 (List.mem_of_getElem? (i := 194) rfl) rfl
theorem uw_3_195 : (Cond.methodLink RL 42 yX6_count : Cond) ∈ wsU := uin_3 (List.mem_of_getElem? (i := 195) rfl) rfl
theorem uw_3_196 : (Cond.instanceMethod yX6_count : Cond) ∈ wsU := uin_3 (List.mem_of_getElem? (i := 196) rfl) rfl
theorem uw_3_197 : (Cond.selects RX6 yX6_count yX6_count : Cond) ∈ wsU := uin_3 (List.mem_of_getElem? (i := 197) rfl) rfl
theorem uw_3_198 : (Cond.code yX6_count cX6_count 5 (some .int) : Cond) ∈ wsU := uin_3 (List.mem_of_getElem? (i := 198) rfl) rfl
theorem uw_3_199 : (Cond.methodLink RL 47 yX6_at : Cond) ∈ wsU := uin_3 (List.mem_of_getElem? (i := 199) rfl) rfl
theorem uw_3_200 : (Cond.instanceMethod yX6_at : Cond) ∈ wsU := uin_3 (List.mem_of_getElem? (i := 200) rfl) rfl
theorem uw_3_201 : (Cond.selects RX6 yX6_at yX6_at : Cond) ∈ wsU := uin_3 (List.mem_of_getElem? (i := 201) rfl) rfl
theorem uw_3_202 : (Cond.code yX6_at cX6_at 4 (some .long) : Cond) ∈ wsU := uin_3 (List.mem_of_getElem? (i := 202) rfl) rfl
theorem uw_3_203 : (Cond.methodLink RX6 85 yX6_holds : Cond) ∈ wsU := uin_3 (List.mem_of_getElem? (i := 203) rfl) rfl
theorem uw_3_205 : (Cond.instanceMethod yX6_holds : Cond) ∈ wsU := uin_3 (List.mem_of_getElem? (i := 205) rfl) rfl
theorem uw_3_206 : (Cond.code yX6_holds cX6_holds 4 (some .long) : Cond) ∈ wsU := uin_3 (List.mem_of_getElem? (i := 206) rfl) rfl
theorem uw_3_207 : (Cond.methodLink RX6 61 yX6_has : Cond) ∈ wsU := uin_3 (List.mem_of_getElem? (i := 207) rfl) rfl
theorem uw_3_209 : (Cond.instanceMethod yX6_has : Cond) ∈ wsU := uin_3 (List.mem_of_getElem? (i := 209) rfl) rfl
theorem uw_3_210 : (Cond.code yX6_has cX6_has 4 (some .boolean) : Cond) ∈ wsU := uin_3 (List.mem_of_getElem? (i := 210) rfl) rfl
theorem uw_3_211 : (Cond.methodLink RX6 53 yX6_cellOf : Cond) ∈ wsU := uin_3 (List.mem_of_getElem? (i := 211) rfl) rfl
theorem uw_3_212 : (Cond.static yX6_cellOf : Cond) ∈ wsU := uin_3 (List.mem_of_getElem? (i := 212) rfl) rfl
theorem uw_3_213 : (Cond.code yX6_cellOf cX6_cellOf 3 (some .int) : Cond) ∈ wsU := uin_3 (List.mem_of_getElem? (i := 213) rfl) rfl
theorem uw_3_214 : (Cond.methodLink RL 51 yX6_kept : Cond) ∈ wsU := uin_3 (List.mem_of_getElem? (i := 214) rfl) rfl
theorem uw_3_215 : (Cond.instanceMethod yX6_kept : Cond) ∈ wsU := uin_3 (List.mem_of_getElem? (i := 215) rfl) rfl
theorem uw_3_216 : (Cond.selects RX6 yX6_kept yX6_kept : Cond) ∈ wsU := uin_3 (List.mem_of_getElem? (i := 216) rfl) rfl
theorem uw_3_217 : (Cond.code yX6_kept cX6_kept 6 (some .int) : Cond) ∈ wsU := uin_3 (List.mem_of_getElem? (i := 217) rfl) rfl
theorem uw_3_218 : (Cond.methodLink RL 55 yX6_place : Cond) ∈ wsU := uin_3 (List.mem_of_getElem? (i := 218) rfl) rfl
theorem uw_3_219 : (Cond.instanceMethod yX6_place : Cond) ∈ wsU := uin_3 (List.mem_of_getElem? (i := 219) rfl) rfl
theorem uw_3_220 : (Cond.selects RX6 yX6_place yX6_place : Cond) ∈ wsU := uin_3 (List.mem_of_getElem? (i := 220) rfl) rfl
theorem uw_3_221 : (Cond.code yX6_place cX6_place 5 (some .int) : Cond) ∈ wsU := uin_3 (List.mem_of_getElem? (i := 221) rfl) rfl
theorem uw_3_222 : (Cond.methodLink RL 60 yX6_set : Cond) ∈ wsU := uin_3 (List.mem_of_getElem? (i := 222) rfl) rfl
theorem uw_3_223 : (Cond.instanceMethod yX6_set : Cond) ∈ wsU := uin_3 (List.mem_of_getElem? (i := 223) rfl) rfl
theorem uw_3_224 : (Cond.selects RX6 yX6_set yX6_set : Cond) ∈ wsU := uin_3 (List.mem_of_getElem? (i := 224) rfl) rfl
theorem uw_3_225 : (Cond.code yX6_set cX6_set 6 (some .int) : Cond) ∈ wsU := uin_3 (List.mem_of_getElem? (i := 225) rfl) rfl
theorem uw_3_226 : (Cond.methodLink RL 64 yX6_prune : Cond) ∈ wsU := uin_3 (List.mem_of_getElem? (i := 226) rfl) rfl
theorem uw_3_227 : (Cond.instanceMethod yX6_prune : Cond) ∈ wsU := uin_3 (List.mem_of_getElem? (i := 227) rfl) rfl
theorem uw_3_228 : (Cond.selects RX6 yX6_prune yX6_prune : Cond) ∈ wsU := uin_3 (List.mem_of_getElem? (i := 228) rfl) rfl
theorem uw_3_229 : (Cond.code yX6_prune cX6_prune 4 (some .int) : Cond) ∈ wsU := uin_3 (List.mem_of_getElem? (i := 229) rfl) rfl
theorem uw_3_230 : (Cond.methodLink RL 69 yX6_add : Cond) ∈ wsU := uin_3 (List.mem_of_getElem? (i := 230) rfl) rfl
theorem uw_3_231 : (Cond.instanceMethod yX6_add : Cond) ∈ wsU := uin_3 (List.mem_of_getElem? (i := 231) rfl) rfl
theorem uw_3_232 : (Cond.selects RX6 yX6_add yX6_add : Cond) ∈ wsU := uin_3 (List.mem_of_getElem? (i := 232) rfl) rfl
theorem uw_3_233 : (Cond.code yX6_add cX6_add 10 (some .int) : Cond) ∈ wsU := uin_3 (List.mem_of_getElem? (i := 233) rfl) rfl
theorem uw_3_234 : (Cond.methodLink RX6 89 yX6_areLike : Cond) ∈ wsU := uin_3 (List.mem_of_getElem? (i := 234) rfl) rfl
theorem uw_3_236 : (Cond.instanceMethod yX6_areLike : Cond) ∈ wsU := uin_3 (List.mem_of_getElem? (i := 236) rfl) rfl
theorem uw_3_237 : (Cond.code yX6_areLike cX6_areLike 3 (some .boolean) : Cond) ∈ wsU := uin_3 (List.mem_of_getElem? (i := 237) rfl) rfl
theorem uw_3_238 : (Cond.methodLink RX6 93 yX6_keep : Cond) ∈ wsU := uin_3 (List.mem_of_getElem? (i := 238) rfl) rfl
theorem uw_4_0 : (Cond.instanceMethod yX6_keep : Cond) ∈ wsU := uin_4 (List.mem_of_getElem? (i := 0) rfl) rfl
theorem uw_4_1 : (Cond.code yX6_keep cX6_keep 5 none : Cond) ∈ wsU := uin_4 (List.mem_of_getElem? (i := 1) rfl) rfl
theorem uw_4_2 : (Cond.methodLink RL 73 yX6_times : Cond) ∈ wsU := uin_4 (List.mem_of_getElem? (i := 2) rfl) rfl
theorem uw_4_3 : (Cond.instanceMethod yX6_times : Cond) ∈ wsU := uin_4 (List.mem_of_getElem? (i := 3) rfl) rfl
theorem uw_4_4 : (Cond.selects RX6 yX6_times yX6_times : Cond) ∈ wsU := uin_4 (List.mem_of_getElem? (i := 4) rfl) rfl
theorem uw_4_5 : (Cond.code yX6_times cX6_times 10 (some .int) : Cond) ∈ wsU := uin_4 (List.mem_of_getElem? (i := 5) rfl) rfl
theorem uw_4_6 : (Cond.methodLink RL 77 yX6_each : Cond) ∈ wsU := uin_4 (List.mem_of_getElem? (i := 6) rfl) rfl
theorem uw_4_7 : (Cond.instanceMethod yX6_each : Cond) ∈ wsU := uin_4 (List.mem_of_getElem? (i := 7) rfl) rfl
theorem uw_4_8 : (Cond.selects RX6 yX6_each yX6_each : Cond) ∈ wsU := uin_4 (List.mem_of_getElem? (i := 8) rfl) rfl
theorem uw_4_9 : (Cond.code yX6_each cX6_each 6 (some .int) : Cond) ∈ wsU := uin_4 (List.mem_of_getElem? (i := 9) rfl) rfl
theorem uw_4_10 : (Cond.methodLink RL 82 yX6_mask : Cond) ∈ wsU := uin_4 (List.mem_of_getElem? (i := 10) rfl) rfl
theorem uw_4_11 : (Cond.instanceMethod yX6_mask : Cond) ∈ wsU := uin_4 (List.mem_of_getElem? (i := 11) rfl) rfl
theorem uw_4_12 : (Cond.selects RX6 yX6_mask yX6_mask : Cond) ∈ wsU := uin_4 (List.mem_of_getElem? (i := 12) rfl) rfl
theorem uw_4_13 : (Cond.code yX6_mask cX6_mask 7 (some .int) : Cond) ∈ wsU := uin_4 (List.mem_of_getElem? (i := 13) rfl) rfl
theorem uw_4_14 : (Cond.methodLink RL 86 yX6_turn : Cond) ∈ wsU := uin_4 (List.mem_of_getElem? (i := 14) rfl) rfl
theorem uw_4_15 : (Cond.instanceMethod yX6_turn : Cond) ∈ wsU := uin_4 (List.mem_of_getElem? (i := 15) rfl) rfl
theorem uw_4_16 : (Cond.selects RX6 yX6_turn yX6_turn : Cond) ∈ wsU := uin_4 (List.mem_of_getElem? (i := 16) rfl) rfl
theorem uw_4_17 : (Cond.code yX6_turn cX6_turn 5 (some .int) : Cond) ∈ wsU := uin_4 (List.mem_of_getElem? (i := 17) rfl) rfl
theorem uw_4_18 : (Cond.methodLink RL 90 yX6_rows : Cond) ∈ wsU := uin_4 (List.mem_of_getElem? (i := 18) rfl) rfl
theorem uw_4_19 : (Cond.instanceMethod yX6_rows : Cond) ∈ wsU := uin_4 (List.mem_of_getElem? (i := 19) rfl) rfl
theorem uw_4_20 : (Cond.selects RX6 yX6_rows yX6_rows : Cond) ∈ wsU := uin_4 (List.mem_of_getElem? (i := 20) rfl) rfl
theorem uw_4_21 : (Cond.code yX6_rows cX6_rows 6 (some .int) : Cond) ∈ wsU := uin_4 (List.mem_of_getElem? (i := 21) rfl) rfl
theorem uw_4_22 : (Cond.methodLink RL 95 yX6_slopes : Cond) ∈ wsU := uin_4 (List.mem_of_getElem? (i := 22) rfl) rfl
theorem uw_4_23 : (Cond.instanceMethod yX6_slopes : Cond) ∈ wsU := uin_4 (List.mem_of_getElem? (i := 23) rfl) rfl
theorem uw_4_24 : (Cond.selects RX6 yX6_slopes yX6_slopes : Cond) ∈ wsU := uin_4 (List.mem_of_getElem? (i := 24) rfl) rfl
theorem uw_4_25 : (Cond.code yX6_slopes cX6_slopes 12 (some .int) : Cond) ∈ wsU := uin_4 (List.mem_of_getElem? (i := 25) rfl) rfl
theorem uw_4_26 : (Cond.methodLink RL 100 yX6_sum : Cond) ∈ wsU := uin_4 (List.mem_of_getElem? (i := 26) rfl) rfl
theorem uw_4_27 : (Cond.instanceMethod yX6_sum : Cond) ∈ wsU := uin_4 (List.mem_of_getElem? (i := 27) rfl) rfl
theorem uw_4_28 : (Cond.selects RX6 yX6_sum yX6_sum : Cond) ∈ wsU := uin_4 (List.mem_of_getElem? (i := 28) rfl) rfl
theorem uw_4_29 : (Cond.code yX6_sum cX6_sum 7 (some .long) : Cond) ∈ wsU := uin_4 (List.mem_of_getElem? (i := 29) rfl) rfl
theorem uw_4_30 : (Cond.methodLink RL 104 yX6_cost : Cond) ∈ wsU := uin_4 (List.mem_of_getElem? (i := 30) rfl) rfl
theorem uw_4_31 : (Cond.instanceMethod yX6_cost : Cond) ∈ wsU := uin_4 (List.mem_of_getElem? (i := 31) rfl) rfl
theorem uw_4_32 : (Cond.selects RX6 yX6_cost yX6_cost : Cond) ∈ wsU := uin_4 (List.mem_of_getElem? (i := 32) rfl) rfl
theorem uw_4_33 : (Cond.code yX6_cost cX6_cost 4 (some .int) : Cond) ∈ wsU := uin_4 (List.mem_of_getElem? (i := 33) rfl) rfl
theorem uw_4_34 : (Cond.methodLink RX6 124 yX6_isForm : Cond) ∈ wsU := uin_4 (List.mem_of_getElem? (i := 34) rfl) rfl
theorem uw_4_35 : (Cond.static yX6_isForm : Cond) ∈ wsU := uin_4 (List.mem_of_getElem? (i := 35) rfl) rfl
theorem uw_4_36 : (Cond.code yX6_isForm cX6_isForm 2 (some .boolean) : Cond) ∈ wsU := uin_4 (List.mem_of_getElem? (i := 36) rfl) rfl
theorem uw_4_37 : (Cond.methodLink RX6 127 yX6_layOut : Cond) ∈ wsU := uin_4 (List.mem_of_getElem? (i := 37) rfl) rfl
theorem uw_4_39 : (Cond.instanceMethod yX6_layOut : Cond) ∈ wsU := uin_4 (List.mem_of_getElem? (i := 39) rfl) rfl
theorem uw_4_40 : (Cond.code yX6_layOut cX6_layOut 5 none : Cond) ∈ wsU := uin_4 (List.mem_of_getElem? (i := 40) rfl) rfl
theorem uw_4_41 : (Cond.methodLink RX6 100 yX6_lay : Cond) ∈ wsU := uin_4 (List.mem_of_getElem? (i := 41) rfl) rfl
theorem uw_4_43 : (Cond.instanceMethod yX6_lay : Cond) ∈ wsU := uin_4 (List.mem_of_getElem? (i := 43) rfl) rfl
theorem uw_4_44 : (Cond.code yX6_lay cX6_lay 3 none : Cond) ∈ wsU := uin_4 (List.mem_of_getElem? (i := 44) rfl) rfl
theorem uw_4_45 : (Cond.methodLink RX6 112 yX6_byRows : Cond) ∈ wsU := uin_4 (List.mem_of_getElem? (i := 45) rfl) rfl
theorem uw_4_47 : (Cond.instanceMethod yX6_byRows : Cond) ∈ wsU := uin_4 (List.mem_of_getElem? (i := 47) rfl) rfl
theorem uw_4_48 : (Cond.code yX6_byRows cX6_byRows 5 none : Cond) ∈ wsU := uin_4 (List.mem_of_getElem? (i := 48) rfl) rfl
theorem uw_4_49 : (Cond.methodLink RX6 115 yX6_byColumns : Cond) ∈ wsU := uin_4 (List.mem_of_getElem? (i := 49) rfl) rfl
theorem uw_4_51 : (Cond.instanceMethod yX6_byColumns : Cond) ∈ wsU := uin_4 (List.mem_of_getElem? (i := 51) rfl) rfl
theorem uw_4_52 : (Cond.code yX6_byColumns cX6_byColumns 7 none : Cond) ∈ wsU := uin_4 (List.mem_of_getElem? (i := 52) rfl) rfl
theorem uw_4_53 : (Cond.methodLink RX6 118 yX6_blocks : Cond) ∈ wsU := uin_4 (List.mem_of_getElem? (i := 53) rfl) rfl
theorem uw_4_55 : (Cond.instanceMethod yX6_blocks : Cond) ∈ wsU := uin_4 (List.mem_of_getElem? (i := 55) rfl) rfl
theorem uw_4_56 : (Cond.code yX6_blocks cX6_blocks 9 none : Cond) ∈ wsU := uin_4 (List.mem_of_getElem? (i := 56) rfl) rfl
theorem uw_4_57 : (Cond.methodLink RX6 104 yX6_isBlock : Cond) ∈ wsU := uin_4 (List.mem_of_getElem? (i := 57) rfl) rfl
theorem uw_4_59 : (Cond.instanceMethod yX6_isBlock : Cond) ∈ wsU := uin_4 (List.mem_of_getElem? (i := 59) rfl) rfl
theorem uw_4_60 : (Cond.code yX6_isBlock cX6_isBlock 8 (some .boolean) : Cond) ∈ wsU := uin_4 (List.mem_of_getElem? (i := 60) rfl) rfl
theorem uw_4_61 : (Cond.methodLink RX6 108 yX6_layBlock : Cond) ∈ wsU := uin_4 (List.mem_of_getElem? (i := 61) rfl) rfl
theorem uw_4_63 : (Cond.instanceMethod yX6_layBlock : Cond) ∈ wsU := uin_4 (List.mem_of_getElem? (i := 63) rfl) rfl
theorem uw_4_64 : (Cond.code yX6_layBlock cX6_layBlock 7 none : Cond) ∈ wsU := uin_4 (List.mem_of_getElem? (i := 64) rfl) rfl
theorem uw_4_65 : (Cond.methodLink RX6 121 yX6_slants : Cond) ∈ wsU := uin_4 (List.mem_of_getElem? (i := 65) rfl) rfl
theorem uw_4_67 : (Cond.instanceMethod yX6_slants : Cond) ∈ wsU := uin_4 (List.mem_of_getElem? (i := 67) rfl) rfl
theorem uw_4_68 : (Cond.code yX6_slants cX6_slants 5 none : Cond) ∈ wsU := uin_4 (List.mem_of_getElem? (i := 68) rfl) rfl
theorem uw_4_69 : (Cond.methodLink RL 108 yX6_cheapest : Cond) ∈ wsU := uin_4 (List.mem_of_getElem? (i := 69) rfl) rfl
theorem uw_4_70 : (Cond.instanceMethod yX6_cheapest : Cond) ∈ wsU := uin_4 (List.mem_of_getElem? (i := 70) rfl) rfl
theorem uw_4_71 : (Cond.selects RX6 yX6_cheapest yX6_cheapest : Cond) ∈ wsU := uin_4 (List.mem_of_getElem? (i := 71) rfl) rfl
theorem uw_4_72 : (Cond.code yX6_cheapest cX6_cheapest 5 (some .int) : Cond) ∈ wsU := uin_4 (List.mem_of_getElem? (i := 72) rfl) rfl
theorem uw_4_73 : (Cond.methodLink RX6 131 yX6_cost : Cond) ∈ wsU := uin_4 (List.mem_of_getElem? (i := 73) rfl) rfl
theorem uw_4_74 : (Cond.methodLink RL 113 yX6_cell : Cond) ∈ wsU := uin_4 (List.mem_of_getElem? (i := 74) rfl) rfl
theorem uw_4_75 : (Cond.instanceMethod yX6_cell : Cond) ∈ wsU := uin_4 (List.mem_of_getElem? (i := 75) rfl) rfl
theorem uw_4_76 : (Cond.selects RX6 yX6_cell yX6_cell : Cond) ∈ wsU := uin_4 (List.mem_of_getElem? (i := 76) rfl) rfl
theorem uw_4_77 : (Cond.code yX6_cell cX6_cell 5 (some .long) : Cond) ∈ wsU := uin_4 (List.mem_of_getElem? (i := 77) rfl) rfl
theorem uw_4_78 : (Cond.methodLink RL 117 yX6_walks : Cond) ∈ wsU := uin_4 (List.mem_of_getElem? (i := 78) rfl) rfl
theorem uw_4_79 : (Cond.instanceMethod yX6_walks : Cond) ∈ wsU := uin_4 (List.mem_of_getElem? (i := 79) rfl) rfl
theorem uw_4_80 : (Cond.selects RX6 yX6_walks yX6_walks : Cond) ∈ wsU := uin_4 (List.mem_of_getElem? (i := 80) rfl) rfl
theorem uw_4_81 : (Cond.code yX6_walks cX6_walks 8 (some .long) : Cond) ∈ wsU := uin_4 (List.mem_of_getElem? (i := 81) rfl) rfl
theorem uw_4_82 : (Cond.methodLink RX6 134 yX6_isGraph : Cond) ∈ wsU := uin_4 (List.mem_of_getElem? (i := 82) rfl) rfl
theorem uw_4_84 : (Cond.instanceMethod yX6_isGraph : Cond) ∈ wsU := uin_4 (List.mem_of_getElem? (i := 84) rfl) rfl
theorem uw_4_85 : (Cond.code yX6_isGraph cX6_isGraph 2 (some .boolean) : Cond) ∈ wsU := uin_4 (List.mem_of_getElem? (i := 85) rfl) rfl
theorem uw_4_86 : (Cond.methodLink RL 121 yX6_way : Cond) ∈ wsU := uin_4 (List.mem_of_getElem? (i := 86) rfl) rfl
theorem uw_4_87 : (Cond.instanceMethod yX6_way : Cond) ∈ wsU := uin_4 (List.mem_of_getElem? (i := 87) rfl) rfl
theorem uw_4_88 : (Cond.selects RX6 yX6_way yX6_way : Cond) ∈ wsU := uin_4 (List.mem_of_getElem? (i := 88) rfl) rfl
theorem uw_4_89 : (Cond.code yX6_way cX6_way 5 (some .int) : Cond) ∈ wsU := uin_4 (List.mem_of_getElem? (i := 89) rfl) rfl
theorem uw_4_90 : (Cond.methodLink RX6 137 yX6_reach : Cond) ∈ wsU := uin_4 (List.mem_of_getElem? (i := 90) rfl) rfl
theorem uw_4_92 : (Cond.instanceMethod yX6_reach : Cond) ∈ wsU := uin_4 (List.mem_of_getElem? (i := 92) rfl) rfl
theorem uw_4_93 : (Cond.code yX6_reach cX6_reach 9 (some .int) : Cond) ∈ wsU := uin_4 (List.mem_of_getElem? (i := 93) rfl) rfl
theorem uw_4_94 : (Cond.methodLink RL 125 yX6_ring : Cond) ∈ wsU := uin_4 (List.mem_of_getElem? (i := 94) rfl) rfl
theorem uw_4_95 : (Cond.instanceMethod yX6_ring : Cond) ∈ wsU := uin_4 (List.mem_of_getElem? (i := 95) rfl) rfl
theorem uw_4_96 : (Cond.selects RX6 yX6_ring yX6_ring : Cond) ∈ wsU := uin_4 (List.mem_of_getElem? (i := 96) rfl) rfl
theorem uw_4_97 : (Cond.code yX6_ring cX6_ring 6 (some .int) : Cond) ∈ wsU := uin_4 (List.mem_of_getElem? (i := 97) rfl) rfl
theorem uw_4_98 : (Cond.methodLink RX6 143 yX6_leader : Cond) ∈ wsU := uin_4 (List.mem_of_getElem? (i := 98) rfl) rfl
theorem uw_4_100 : (Cond.instanceMethod yX6_leader : Cond) ∈ wsU := uin_4 (List.mem_of_getElem? (i := 100) rfl) rfl
theorem uw_4_101 : (Cond.code yX6_leader cX6_leader 4 (some .int) : Cond) ∈ wsU := uin_4 (List.mem_of_getElem? (i := 101) rfl) rfl
theorem uw_4_102 : (Cond.methodLink RX6 140 yX6_isRing : Cond) ∈ wsU := uin_4 (List.mem_of_getElem? (i := 102) rfl) rfl
theorem uw_4_104 : (Cond.instanceMethod yX6_isRing : Cond) ∈ wsU := uin_4 (List.mem_of_getElem? (i := 104) rfl) rfl
theorem uw_4_105 : (Cond.code yX6_isRing cX6_isRing 4 (some .boolean) : Cond) ∈ wsU := uin_4 (List.mem_of_getElem? (i := 105) rfl) rfl
theorem uw_4_106 : (Cond.methodLink RL 129 yX6_sort : Cond) ∈ wsU := uin_4 (List.mem_of_getElem? (i := 106) rfl) rfl
theorem uw_4_107 : (Cond.instanceMethod yX6_sort : Cond) ∈ wsU := uin_4 (List.mem_of_getElem? (i := 107) rfl) rfl
theorem uw_4_108 : (Cond.selects RX6 yX6_sort yX6_sort : Cond) ∈ wsU := uin_4 (List.mem_of_getElem? (i := 108) rfl) rfl
theorem uw_4_109 : (Cond.code yX6_sort cX6_sort 5 (some .int) : Cond) ∈ wsU := uin_4 (List.mem_of_getElem? (i := 109) rfl) rfl
theorem uw_4_110 : (Cond.methodLink RX6 147 yX6_isLed : Cond) ∈ wsU := uin_4 (List.mem_of_getElem? (i := 110) rfl) rfl
theorem uw_4_112 : (Cond.instanceMethod yX6_isLed : Cond) ∈ wsU := uin_4 (List.mem_of_getElem? (i := 112) rfl) rfl
theorem uw_4_113 : (Cond.code yX6_isLed cX6_isLed 6 (some .boolean) : Cond) ∈ wsU := uin_4 (List.mem_of_getElem? (i := 113) rfl) rfl
theorem uw_4_114 : (Cond.methodLink RL 133 yX6_narrow : Cond) ∈ wsU := uin_4 (List.mem_of_getElem? (i := 114) rfl) rfl
theorem uw_4_115 : (Cond.instanceMethod yX6_narrow : Cond) ∈ wsU := uin_4 (List.mem_of_getElem? (i := 115) rfl) rfl
theorem uw_4_116 : (Cond.selects RX6 yX6_narrow yX6_narrow : Cond) ∈ wsU := uin_4 (List.mem_of_getElem? (i := 116) rfl) rfl
theorem uw_4_117 : (Cond.code yX6_narrow cX6_narrow 6 (some .int) : Cond) ∈ wsU := uin_4 (List.mem_of_getElem? (i := 117) rfl) rfl
theorem uw_4_118 : (Cond.methodLink RX6 156 yX6_fewest : Cond) ∈ wsU := uin_4 (List.mem_of_getElem? (i := 118) rfl) rfl
theorem uw_4_120 : (Cond.instanceMethod yX6_fewest : Cond) ∈ wsU := uin_4 (List.mem_of_getElem? (i := 120) rfl) rfl
theorem uw_4_121 : (Cond.code yX6_fewest cX6_fewest 6 (some .int) : Cond) ∈ wsU := uin_4 (List.mem_of_getElem? (i := 121) rfl) rfl
theorem uw_4_122 : (Cond.methodLink RX6 150 yX6_areJoined : Cond) ∈ wsU := uin_4 (List.mem_of_getElem? (i := 122) rfl) rfl
theorem uw_4_124 : (Cond.instanceMethod yX6_areJoined : Cond) ∈ wsU := uin_4 (List.mem_of_getElem? (i := 124) rfl) rfl
theorem uw_4_125 : (Cond.code yX6_areJoined cX6_areJoined 4 (some .boolean) : Cond) ∈ wsU := uin_4 (List.mem_of_getElem? (i := 125) rfl) rfl
theorem uw_4_126 : (Cond.methodLink RX6 153 yX6_neighbours : Cond) ∈ wsU := uin_4 (List.mem_of_getElem? (i := 126) rfl) rfl
theorem uw_4_128 : (Cond.instanceMethod yX6_neighbours : Cond) ∈ wsU := uin_4 (List.mem_of_getElem? (i := 128) rfl) rfl
theorem uw_4_129 : (Cond.code yX6_neighbours cX6_neighbours 5 (some .int) : Cond) ∈ wsU := uin_4 (List.mem_of_getElem? (i := 129) rfl) rfl
theorem uw_4_130 : (Cond.methodLink RX6 159 yX6_widthOf : Cond) ∈ wsU := uin_4 (List.mem_of_getElem? (i := 130) rfl) rfl
theorem uw_4_132 : (Cond.instanceMethod yX6_widthOf : Cond) ∈ wsU := uin_4 (List.mem_of_getElem? (i := 132) rfl) rfl
theorem uw_4_133 : (Cond.code yX6_widthOf cX6_widthOf 5 (some .int) : Cond) ∈ wsU := uin_4 (List.mem_of_getElem? (i := 133) rfl) rfl
theorem uw_4_134 : (Cond.methodLink RL 137 yX6_width : Cond) ∈ wsU := uin_4 (List.mem_of_getElem? (i := 134) rfl) rfl
theorem uw_4_135 : (Cond.instanceMethod yX6_width : Cond) ∈ wsU := uin_4 (List.mem_of_getElem? (i := 135) rfl) rfl
theorem uw_4_136 : (Cond.selects RX6 yX6_width yX6_width : Cond) ∈ wsU := uin_4 (List.mem_of_getElem? (i := 136) rfl) rfl
theorem uw_4_137 : (Cond.code yX6_width cX6_width 4 (some .int) : Cond) ∈ wsU := uin_4 (List.mem_of_getElem? (i := 137) rfl) rfl
theorem uw_4_138 : (Cond.constantLong RL 18 (4294967295 : Int64) : Cond) ∈ wsU := uin_4 (List.mem_of_getElem? (i := 138) rfl) rfl
theorem us_1_0 : (Cond.selects RX5 yX5_putDraft yX5_putDraft : Cond) ∈ wsU := List.mem_filter.mpr ⟨List.mem_append_left _ (List.mem_map.mpr ⟨(yX5_putDraft, 6), List.mem_append_left _ (List.mem_of_getElem? (i := 0) rfl), rfl⟩), rfl⟩
theorem us_1_1 : (Cond.selects RX5 yX5_gridAt yX5_gridAt : Cond) ∈ wsU := List.mem_filter.mpr ⟨List.mem_append_left _ (List.mem_map.mpr ⟨(yX5_gridAt, 6), List.mem_append_left _ (List.mem_of_getElem? (i := 1) rfl), rfl⟩), rfl⟩
theorem us_1_2 : (Cond.selects RX2 yX2_drop yX2_drop : Cond) ∈ wsU := List.mem_filter.mpr ⟨List.mem_append_left _ (List.mem_map.mpr ⟨(yX2_drop, 4), List.mem_append_left _ (List.mem_of_getElem? (i := 2) rfl), rfl⟩), rfl⟩
theorem us_1_3 : (Cond.selects RX2 yX2_addRowMultiple yX2_addRowMultiple : Cond) ∈ wsU := List.mem_filter.mpr ⟨List.mem_append_left _ (List.mem_map.mpr ⟨(yX2_addRowMultiple, 4), List.mem_append_left _ (List.mem_of_getElem? (i := 3) rfl), rfl⟩), rfl⟩
theorem us_1_4 : (Cond.selects RX2 yX2_productOfRows yX2_productOfRows : Cond) ∈ wsU := List.mem_filter.mpr ⟨List.mem_append_left _ (List.mem_map.mpr ⟨(yX2_productOfRows, 4), List.mem_append_left _ (List.mem_of_getElem? (i := 4) rfl), rfl⟩), rfl⟩
theorem us_1_5 : (Cond.selects RX2 yX2_productOfColumns yX2_productOfColumns : Cond) ∈ wsU := List.mem_filter.mpr ⟨List.mem_append_left _ (List.mem_map.mpr ⟨(yX2_productOfColumns, 4), List.mem_append_left _ (List.mem_of_getElem? (i := 5) rfl), rfl⟩), rfl⟩
theorem us_1_6 : (Cond.selects RX1 yX1_walkOn yX1_walkOn : Cond) ∈ wsU := List.mem_filter.mpr ⟨List.mem_append_left _ (List.mem_map.mpr ⟨(yX1_walkOn, 6), List.mem_append_left _ (List.mem_of_getElem? (i := 6) rfl), rfl⟩), rfl⟩
theorem us_1_7 : (Cond.selects RX1 yX1_sourcesOf yX1_sourcesOf : Cond) ∈ wsU := List.mem_filter.mpr ⟨List.mem_append_left _ (List.mem_map.mpr ⟨(yX1_sourcesOf, 6), List.mem_append_left _ (List.mem_of_getElem? (i := 7) rfl), rfl⟩), rfl⟩
theorem us_1_8 : (Cond.selects RX1 yX1_targetsOf yX1_targetsOf : Cond) ∈ wsU := List.mem_filter.mpr ⟨List.mem_append_left _ (List.mem_map.mpr ⟨(yX1_targetsOf, 6), List.mem_append_left _ (List.mem_of_getElem? (i := 8) rfl), rfl⟩), rfl⟩
theorem us_1_9 : (Cond.selects RX1 yX1_allNodes yX1_allNodes : Cond) ∈ wsU := List.mem_filter.mpr ⟨List.mem_append_left _ (List.mem_map.mpr ⟨(yX1_allNodes, 6), List.mem_append_left _ (List.mem_of_getElem? (i := 9) rfl), rfl⟩), rfl⟩
theorem us_1_10 : (Cond.selects RX1 yX1_leastWithoutSource yX1_leastWithoutSource : Cond) ∈ wsU := List.mem_filter.mpr ⟨List.mem_append_left _ (List.mem_map.mpr ⟨(yX1_leastWithoutSource, 6), List.mem_append_left _ (List.mem_of_getElem? (i := 10) rfl), rfl⟩), rfl⟩
theorem us_1_11 : (Cond.selects RX5 yX5_putDraftNumbers yX5_putDraftNumbers : Cond) ∈ wsU := List.mem_filter.mpr ⟨List.mem_append_left _ (List.mem_map.mpr ⟨(yX5_putDraftNumbers, 6), List.mem_append_left _ (List.mem_of_getElem? (i := 11) rfl), rfl⟩), rfl⟩
theorem us_1_12 : (Cond.selects RX1 yX1_moveFewest yX1_moveFewest : Cond) ∈ wsU := List.mem_filter.mpr ⟨List.mem_append_left _ (List.mem_map.mpr ⟨(yX1_moveFewest, 6), List.mem_append_left _ (List.mem_of_getElem? (i := 12) rfl), rfl⟩), rfl⟩
theorem us_1_13 : (Cond.selects RX1 yX1_neighboursOf yX1_neighboursOf : Cond) ∈ wsU := List.mem_filter.mpr ⟨List.mem_append_left _ (List.mem_map.mpr ⟨(yX1_neighboursOf, 6), List.mem_append_left _ (List.mem_of_getElem? (i := 13) rfl), rfl⟩), rfl⟩
theorem us_1_14 : (Cond.selects RX1 yX1_moveAll yX1_moveAll : Cond) ∈ wsU := List.mem_filter.mpr ⟨List.mem_append_left _ (List.mem_map.mpr ⟨(yX1_moveAll, 6), List.mem_append_left _ (List.mem_of_getElem? (i := 14) rfl), rfl⟩), rfl⟩
theorem us_1_15 : (Cond.selects RX6 yX6_begin yX6_begin : Cond) ∈ wsU := List.mem_filter.mpr ⟨List.mem_append_left _ (List.mem_map.mpr ⟨(yX6_begin, 14), List.mem_append_left _ (List.mem_of_getElem? (i := 15) rfl), rfl⟩), rfl⟩
theorem us_2_0 : (Cond.selects RX6 yX6_putAt yX6_putAt : Cond) ∈ wsU := List.mem_filter.mpr ⟨List.mem_append_left _ (List.mem_map.mpr ⟨(yX6_putAt, 14), List.mem_append_right _ (List.mem_append_left _ (List.mem_of_getElem? (i := 0) rfl)), rfl⟩), rfl⟩
theorem us_2_1 : (Cond.selects RX6 yX6_many yX6_many : Cond) ∈ wsU := List.mem_filter.mpr ⟨List.mem_append_left _ (List.mem_map.mpr ⟨(yX6_many, 14), List.mem_append_right _ (List.mem_append_left _ (List.mem_of_getElem? (i := 1) rfl)), rfl⟩), rfl⟩
theorem us_2_2 : (Cond.selects RX6 yX6_isTable yX6_isTable : Cond) ∈ wsU := List.mem_filter.mpr ⟨List.mem_append_left _ (List.mem_map.mpr ⟨(yX6_isTable, 14), List.mem_append_right _ (List.mem_append_left _ (List.mem_of_getElem? (i := 2) rfl)), rfl⟩), rfl⟩
theorem us_2_3 : (Cond.selects RX6 yX6_take yX6_take : Cond) ∈ wsU := List.mem_filter.mpr ⟨List.mem_append_left _ (List.mem_map.mpr ⟨(yX6_take, 14), List.mem_append_right _ (List.mem_append_left _ (List.mem_of_getElem? (i := 3) rfl)), rfl⟩), rfl⟩
theorem us_2_4 : (Cond.selects RX6 yX6_isIn yX6_isIn : Cond) ∈ wsU := List.mem_filter.mpr ⟨List.mem_append_left _ (List.mem_map.mpr ⟨(yX6_isIn, 14), List.mem_append_right _ (List.mem_append_left _ (List.mem_of_getElem? (i := 4) rfl)), rfl⟩), rfl⟩
theorem us_2_5 : (Cond.selects RX6 yX6_holds yX6_holds : Cond) ∈ wsU := List.mem_filter.mpr ⟨List.mem_append_left _ (List.mem_map.mpr ⟨(yX6_holds, 14), List.mem_append_right _ (List.mem_append_left _ (List.mem_of_getElem? (i := 5) rfl)), rfl⟩), rfl⟩
theorem us_2_6 : (Cond.selects RX6 yX6_has yX6_has : Cond) ∈ wsU := List.mem_filter.mpr ⟨List.mem_append_left _ (List.mem_map.mpr ⟨(yX6_has, 14), List.mem_append_right _ (List.mem_append_left _ (List.mem_of_getElem? (i := 6) rfl)), rfl⟩), rfl⟩
theorem us_2_7 : (Cond.selects RX6 yX6_areLike yX6_areLike : Cond) ∈ wsU := List.mem_filter.mpr ⟨List.mem_append_left _ (List.mem_map.mpr ⟨(yX6_areLike, 14), List.mem_append_right _ (List.mem_append_left _ (List.mem_of_getElem? (i := 7) rfl)), rfl⟩), rfl⟩
theorem us_2_8 : (Cond.selects RX6 yX6_keep yX6_keep : Cond) ∈ wsU := List.mem_filter.mpr ⟨List.mem_append_left _ (List.mem_map.mpr ⟨(yX6_keep, 14), List.mem_append_right _ (List.mem_append_left _ (List.mem_of_getElem? (i := 8) rfl)), rfl⟩), rfl⟩
theorem us_2_9 : (Cond.selects RX6 yX6_layOut yX6_layOut : Cond) ∈ wsU := List.mem_filter.mpr ⟨List.mem_append_left _ (List.mem_map.mpr ⟨(yX6_layOut, 14), List.mem_append_right _ (List.mem_append_left _ (List.mem_of_getElem? (i := 9) rfl)), rfl⟩), rfl⟩
theorem us_2_10 : (Cond.selects RX6 yX6_lay yX6_lay : Cond) ∈ wsU := List.mem_filter.mpr ⟨List.mem_append_left _ (List.mem_map.mpr ⟨(yX6_lay, 14), List.mem_append_right _ (List.mem_append_left _ (List.mem_of_getElem? (i := 10) rfl)), rfl⟩), rfl⟩
theorem us_2_11 : (Cond.selects RX6 yX6_byRows yX6_byRows : Cond) ∈ wsU := List.mem_filter.mpr ⟨List.mem_append_left _ (List.mem_map.mpr ⟨(yX6_byRows, 14), List.mem_append_right _ (List.mem_append_left _ (List.mem_of_getElem? (i := 11) rfl)), rfl⟩), rfl⟩
theorem us_2_12 : (Cond.selects RX6 yX6_byColumns yX6_byColumns : Cond) ∈ wsU := List.mem_filter.mpr ⟨List.mem_append_left _ (List.mem_map.mpr ⟨(yX6_byColumns, 14), List.mem_append_right _ (List.mem_append_left _ (List.mem_of_getElem? (i := 12) rfl)), rfl⟩), rfl⟩
theorem us_2_13 : (Cond.selects RX6 yX6_blocks yX6_blocks : Cond) ∈ wsU := List.mem_filter.mpr ⟨List.mem_append_left _ (List.mem_map.mpr ⟨(yX6_blocks, 14), List.mem_append_right _ (List.mem_append_left _ (List.mem_of_getElem? (i := 13) rfl)), rfl⟩), rfl⟩
theorem us_2_14 : (Cond.selects RX6 yX6_isBlock yX6_isBlock : Cond) ∈ wsU := List.mem_filter.mpr ⟨List.mem_append_left _ (List.mem_map.mpr ⟨(yX6_isBlock, 14), List.mem_append_right _ (List.mem_append_left _ (List.mem_of_getElem? (i := 14) rfl)), rfl⟩), rfl⟩
theorem us_2_15 : (Cond.selects RX6 yX6_layBlock yX6_layBlock : Cond) ∈ wsU := List.mem_filter.mpr ⟨List.mem_append_left _ (List.mem_map.mpr ⟨(yX6_layBlock, 14), List.mem_append_right _ (List.mem_append_left _ (List.mem_of_getElem? (i := 15) rfl)), rfl⟩), rfl⟩
theorem us_3_0 : (Cond.selects RX6 yX6_slants yX6_slants : Cond) ∈ wsU := List.mem_filter.mpr ⟨List.mem_append_left _ (List.mem_map.mpr ⟨(yX6_slants, 14), List.mem_append_right _ (List.mem_append_right _ (List.mem_of_getElem? (i := 0) rfl)), rfl⟩), rfl⟩
theorem us_3_1 : (Cond.selects RX6 yX6_isGraph yX6_isGraph : Cond) ∈ wsU := List.mem_filter.mpr ⟨List.mem_append_left _ (List.mem_map.mpr ⟨(yX6_isGraph, 14), List.mem_append_right _ (List.mem_append_right _ (List.mem_of_getElem? (i := 1) rfl)), rfl⟩), rfl⟩
theorem us_3_2 : (Cond.selects RX6 yX6_reach yX6_reach : Cond) ∈ wsU := List.mem_filter.mpr ⟨List.mem_append_left _ (List.mem_map.mpr ⟨(yX6_reach, 14), List.mem_append_right _ (List.mem_append_right _ (List.mem_of_getElem? (i := 2) rfl)), rfl⟩), rfl⟩
theorem us_3_3 : (Cond.selects RX6 yX6_leader yX6_leader : Cond) ∈ wsU := List.mem_filter.mpr ⟨List.mem_append_left _ (List.mem_map.mpr ⟨(yX6_leader, 14), List.mem_append_right _ (List.mem_append_right _ (List.mem_of_getElem? (i := 3) rfl)), rfl⟩), rfl⟩
theorem us_3_4 : (Cond.selects RX6 yX6_isRing yX6_isRing : Cond) ∈ wsU := List.mem_filter.mpr ⟨List.mem_append_left _ (List.mem_map.mpr ⟨(yX6_isRing, 14), List.mem_append_right _ (List.mem_append_right _ (List.mem_of_getElem? (i := 4) rfl)), rfl⟩), rfl⟩
theorem us_3_5 : (Cond.selects RX6 yX6_isLed yX6_isLed : Cond) ∈ wsU := List.mem_filter.mpr ⟨List.mem_append_left _ (List.mem_map.mpr ⟨(yX6_isLed, 14), List.mem_append_right _ (List.mem_append_right _ (List.mem_of_getElem? (i := 5) rfl)), rfl⟩), rfl⟩
theorem us_3_6 : (Cond.selects RX6 yX6_fewest yX6_fewest : Cond) ∈ wsU := List.mem_filter.mpr ⟨List.mem_append_left _ (List.mem_map.mpr ⟨(yX6_fewest, 14), List.mem_append_right _ (List.mem_append_right _ (List.mem_of_getElem? (i := 6) rfl)), rfl⟩), rfl⟩
theorem us_3_7 : (Cond.selects RX6 yX6_areJoined yX6_areJoined : Cond) ∈ wsU := List.mem_filter.mpr ⟨List.mem_append_left _ (List.mem_map.mpr ⟨(yX6_areJoined, 14), List.mem_append_right _ (List.mem_append_right _ (List.mem_of_getElem? (i := 7) rfl)), rfl⟩), rfl⟩
theorem us_3_8 : (Cond.selects RX6 yX6_neighbours yX6_neighbours : Cond) ∈ wsU := List.mem_filter.mpr ⟨List.mem_append_left _ (List.mem_map.mpr ⟨(yX6_neighbours, 14), List.mem_append_right _ (List.mem_append_right _ (List.mem_of_getElem? (i := 8) rfl)), rfl⟩), rfl⟩
theorem us_3_9 : (Cond.selects RX6 yX6_widthOf yX6_widthOf : Cond) ∈ wsU := List.mem_filter.mpr ⟨List.mem_append_left _ (List.mem_map.mpr ⟨(yX6_widthOf, 14), List.mem_append_right _ (List.mem_append_right _ (List.mem_of_getElem? (i := 9) rfl)), rfl⟩), rfl⟩
theorem inUX1 : ∀ w ∈ u_ws RX1 TX1 6, w ∈ wsU := by
  intro w hw
  obtain ⟨k, hk, rfl⟩ := List.mem_map.mp hw
  have hk := List.mem_range.mp hk
  match k, hk with
  | 0, _ => exact uw_1_55
  | 1, _ => exact uw_1_57
  | 2, _ => exact uw_1_59
  | 3, _ => exact uw_1_61
  | 4, _ => exact uw_1_63
  | 5, _ => exact uw_1_65
  | k + 6, hk => exact absurd hk (by omega)
theorem inUX2 : ∀ w ∈ u_ws RX2 TX2 4, w ∈ wsU := by
  intro w hw
  obtain ⟨k, hk, rfl⟩ := List.mem_map.mp hw
  have hk := List.mem_range.mp hk
  match k, hk with
  | 0, _ => exact uw_1_82
  | 1, _ => exact uw_1_84
  | 2, _ => exact uw_1_86
  | 3, _ => exact uw_1_88
  | k + 4, hk => exact absurd hk (by omega)
theorem inUX3 : ∀ w ∈ u_ws RX3 TX3 2, w ∈ wsU := by
  intro w hw
  obtain ⟨k, hk, rfl⟩ := List.mem_map.mp hw
  have hk := List.mem_range.mp hk
  match k, hk with
  | 0, _ => exact uw_1_102
  | 1, _ => exact uw_1_104
  | k + 2, hk => exact absurd hk (by omega)
theorem inUX4 : ∀ w ∈ u_ws RX4 TX4 4, w ∈ wsU := by
  intro w hw
  obtain ⟨k, hk, rfl⟩ := List.mem_map.mp hw
  have hk := List.mem_range.mp hk
  match k, hk with
  | 0, _ => exact uw_1_32
  | 1, _ => exact uw_1_34
  | 2, _ => exact uw_1_36
  | 3, _ => exact uw_1_38
  | k + 4, hk => exact absurd hk (by omega)
theorem inUX5 : ∀ w ∈ u_ws RX5 TX5 6, w ∈ wsU := by
  intro w hw
  obtain ⟨k, hk, rfl⟩ := List.mem_map.mp hw
  have hk := List.mem_range.mp hk
  match k, hk with
  | 0, _ => exact uw_1_113
  | 1, _ => exact uw_1_115
  | 2, _ => exact uw_1_117
  | 3, _ => exact uw_1_119
  | 4, _ => exact uw_1_121
  | 5, _ => exact uw_1_123
  | k + 6, hk => exact absurd hk (by omega)
theorem inUX6 : ∀ w ∈ u_ws RX6 TX6 14, w ∈ wsU := by
  intro w hw
  obtain ⟨k, hk, rfl⟩ := List.mem_map.mp hw
  have hk := List.mem_range.mp hk
  match k, hk with
  | 0, _ => exact uw_3_118
  | 1, _ => exact uw_3_120
  | 2, _ => exact uw_3_122
  | 3, _ => exact uw_3_124
  | 4, _ => exact uw_3_126
  | 5, _ => exact uw_3_128
  | 6, _ => exact uw_3_130
  | 7, _ => exact uw_3_132
  | 8, _ => exact uw_3_134
  | 9, _ => exact uw_3_136
  | 10, _ => exact uw_3_138
  | 11, _ => exact uw_3_140
  | 12, _ => exact uw_3_142
  | 13, _ => exact uw_3_144
  | k + 14, hk => exact absurd hk (by omega)
