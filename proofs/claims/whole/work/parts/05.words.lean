/-! the words of the tables that calls carry on, by name; printed by wip/gen/words.py out of the Statement's tables -/
def wsG : List Cond := lw_tbl.filter goodWord
theorem wsG_in : ∀ w ∈ wsG, w ∈ lw_tbl := fun _ h => (List.mem_filter.mp h).1
theorem wsG_good : GoodIn wsG wsG := fun w h => ⟨h, good_of_word (List.mem_filter.mp h).2⟩
theorem wi_1 {w : Cond} (h : w ∈ tables_1_1) (g : goodWord w = true) : w ∈ wsG := List.mem_filter.mpr ⟨List.mem_append_right _ (List.mem_append_left _ h), g⟩
theorem wi_2 {w : Cond} (h : w ∈ tables_1_2) (g : goodWord w = true) : w ∈ wsG := List.mem_filter.mpr ⟨List.mem_append_right _ (List.mem_append_right _ (List.mem_append_left _ h)), g⟩
theorem wi_3 {w : Cond} (h : w ∈ tables_1_3) (g : goodWord w = true) : w ∈ wsG := List.mem_filter.mpr ⟨List.mem_append_right _ (List.mem_append_right _ (List.mem_append_right _ h)), g⟩
theorem wi_0 {w : Cond} (h : w ∈ k2_sels lw_privs) (g : goodWord w = true) : w ∈ wsG := List.mem_filter.mpr ⟨List.mem_append_left _ h, g⟩
theorem wd_1_0 : Cond.initialized RL ∈ wsG := wi_1 (List.mem_of_getElem? (i := 0) rfl) rfl
theorem wd_1_1 : Cond.initialized RX4 ∈ wsG := wi_1 (List.mem_of_getElem? (i := 1) rfl) rfl
theorem wd_1_2 : Cond.initialized RX3 ∈ wsG := wi_1 (List.mem_of_getElem? (i := 2) rfl) rfl
theorem wd_1_3 : Cond.initialized "java/lang/System" ∈ wsG := wi_1 (List.mem_of_getElem? (i := 3) rfl) rfl
theorem wd_1_4 : Cond.initialized RX2 ∈ wsG := wi_1 (List.mem_of_getElem? (i := 4) rfl) rfl
theorem wd_1_5 : Cond.initialized RX0 ∈ wsG := wi_1 (List.mem_of_getElem? (i := 5) rfl) rfl
theorem wd_1_6 : Cond.initialized RX1 ∈ wsG := wi_1 (List.mem_of_getElem? (i := 6) rfl) rfl
theorem wd_1_7 : Cond.initialized RX5 ∈ wsG := wi_1 (List.mem_of_getElem? (i := 7) rfl) rfl
theorem wd_1_8 : Cond.initialized "java/lang/Math" ∈ wsG := wi_1 (List.mem_of_getElem? (i := 8) rfl) rfl
theorem wd_1_9 : Cond.classLink RL 7 RX4 ∈ wsG := wi_1 (List.mem_of_getElem? (i := 9) rfl) rfl
theorem wd_1_10 : Cond.instantiable RX4 10 ∈ wsG := wi_1 (List.mem_of_getElem? (i := 10) rfl) rfl
theorem wd_1_11 : Cond.methodLink RL 9 yX4_init ∈ wsG := wi_1 (List.mem_of_getElem? (i := 11) rfl) rfl
theorem wd_1_12 : Cond.instanceMethod yX4_init ∈ wsG := wi_1 (List.mem_of_getElem? (i := 12) rfl) rfl
theorem wd_1_13 : Cond.code yX4_init cX4_init 1 none ∈ wsG := wi_1 (List.mem_of_getElem? (i := 13) rfl) rfl
theorem wd_1_14 : Cond.methodLink RX4 1 objectInit ∈ wsG := wi_1 (List.mem_of_getElem? (i := 14) rfl) rfl
theorem wd_1_15 : Cond.instanceMethod objectInit ∈ wsG := wi_1 (List.mem_of_getElem? (i := 15) rfl) rfl
theorem wd_1_16 : Cond.code objectInit ⟨#[0xb1]⟩ 1 none ∈ wsG := wi_1 (List.mem_of_getElem? (i := 16) rfl) rfl
theorem wd_1_17 : Cond.classLink RX4 7 RX3 ∈ wsG := wi_1 (List.mem_of_getElem? (i := 17) rfl) rfl
theorem wd_1_18 : Cond.instantiable RX3 1 ∈ wsG := wi_1 (List.mem_of_getElem? (i := 18) rfl) rfl
theorem wd_1_19 : Cond.methodLink RX4 9 yX3_init ∈ wsG := wi_1 (List.mem_of_getElem? (i := 19) rfl) rfl
theorem wd_1_20 : Cond.instanceMethod yX3_init ∈ wsG := wi_1 (List.mem_of_getElem? (i := 20) rfl) rfl
theorem wd_1_21 : Cond.code yX3_init cX3_init 1 none ∈ wsG := wi_1 (List.mem_of_getElem? (i := 21) rfl) rfl
theorem wd_1_22 : Cond.methodLink RX3 1 objectInit ∈ wsG := wi_1 (List.mem_of_getElem? (i := 22) rfl) rfl
theorem wd_1_23 : Cond.fieldLink RX3 13 "ColdDryer$Rules" "AT_FIRST" "[I" ∈ wsG := wi_1 (List.mem_of_getElem? (i := 23) rfl) rfl
theorem wd_1_25 : Cond.methodLink RX3 16 arraycopyName ∈ wsG := wi_1 (List.mem_of_getElem? (i := 25) rfl) rfl
theorem wd_1_26 : Cond.static arraycopyName ∈ wsG := wi_1 (List.mem_of_getElem? (i := 26) rfl) rfl
theorem wd_1_27 : Cond.native arraycopyName ∈ wsG := wi_1 (List.mem_of_getElem? (i := 27) rfl) rfl
theorem wd_1_28 : Cond.fieldLink RX3 9 "ColdDryer$Rules" "values" "[I" ∈ wsG := wi_1 (List.mem_of_getElem? (i := 28) rfl) rfl
theorem wd_1_29 : Cond.laysFinal RX3 "ColdDryer$Rules" "values" "[I" ∈ wsG := wi_1 (List.mem_of_getElem? (i := 29) rfl) rfl
theorem wd_1_32 : Cond.arrayClass .int ∈ wsG := wi_1 (List.mem_of_getElem? (i := 32) rfl) rfl
theorem wd_1_33 : Cond.classLink RX4 16 RX2 ∈ wsG := wi_1 (List.mem_of_getElem? (i := 33) rfl) rfl
theorem wd_1_34 : Cond.instantiable RX2 7 ∈ wsG := wi_1 (List.mem_of_getElem? (i := 34) rfl) rfl
theorem wd_1_35 : Cond.methodLink RX4 18 yX2_init ∈ wsG := wi_1 (List.mem_of_getElem? (i := 35) rfl) rfl
theorem wd_1_36 : Cond.instanceMethod yX2_init ∈ wsG := wi_1 (List.mem_of_getElem? (i := 36) rfl) rfl
theorem wd_1_37 : Cond.code yX2_init cX2_init 1 none ∈ wsG := wi_1 (List.mem_of_getElem? (i := 37) rfl) rfl
theorem wd_1_38 : Cond.methodLink RX2 3 objectInit ∈ wsG := wi_1 (List.mem_of_getElem? (i := 38) rfl) rfl
theorem wd_1_39 : Cond.classLink RX2 9 RX0 ∈ wsG := wi_1 (List.mem_of_getElem? (i := 39) rfl) rfl
theorem wd_1_40 : Cond.instantiable RX0 8 ∈ wsG := wi_1 (List.mem_of_getElem? (i := 40) rfl) rfl
theorem wd_1_42 : Cond.instanceMethod yX0_init ∈ wsG := wi_1 (List.mem_of_getElem? (i := 42) rfl) rfl
theorem wd_1_43 : Cond.code yX0_init cX0_init 1 none ∈ wsG := wi_1 (List.mem_of_getElem? (i := 43) rfl) rfl
theorem wd_1_44 : Cond.methodLink RX0 3 objectInit ∈ wsG := wi_1 (List.mem_of_getElem? (i := 44) rfl) rfl
theorem wd_1_45 : Cond.fieldLink RX0 9 "ColdDryer$Group" "vials" "I" ∈ wsG := wi_1 (List.mem_of_getElem? (i := 45) rfl) rfl
theorem wd_1_46 : Cond.fieldLink RX2 60 "ColdDryer$Group" "vials" "I" ∈ wsG := wi_1 (List.mem_of_getElem? (i := 46) rfl) rfl
theorem wd_1_47 : Cond.fieldLink RX0 15 "ColdDryer$Group" "firstNumber" "I" ∈ wsG := wi_1 (List.mem_of_getElem? (i := 47) rfl) rfl
theorem wd_1_48 : Cond.fieldLink RX2 83 "ColdDryer$Group" "firstNumber" "I" ∈ wsG := wi_1 (List.mem_of_getElem? (i := 48) rfl) rfl
theorem wd_1_49 : Cond.fieldLink RX0 21 "ColdDryer$Group" "ice" "I" ∈ wsG := wi_1 (List.mem_of_getElem? (i := 49) rfl) rfl
theorem wd_1_50 : Cond.fieldLink RX2 73 "ColdDryer$Group" "ice" "I" ∈ wsG := wi_1 (List.mem_of_getElem? (i := 50) rfl) rfl
theorem wd_1_51 : Cond.fieldLink RX0 24 "ColdDryer$Group" "gave" "I" ∈ wsG := wi_1 (List.mem_of_getElem? (i := 51) rfl) rfl
theorem wd_1_52 : Cond.fieldLink RX2 57 "ColdDryer$Group" "gave" "I" ∈ wsG := wi_1 (List.mem_of_getElem? (i := 52) rfl) rfl
theorem wd_1_53 : Cond.fieldLink RX0 30 "ColdDryer$Group" "fellIn" "I" ∈ wsG := wi_1 (List.mem_of_getElem? (i := 53) rfl) rfl
theorem wd_1_54 : Cond.fieldLink RX2 76 "ColdDryer$Group" "fellIn" "I" ∈ wsG := wi_1 (List.mem_of_getElem? (i := 54) rfl) rfl
theorem wd_1_55 : Cond.fieldLink RX4 143 "ColdDryer$Group" "fellIn" "I" ∈ wsG := wi_1 (List.mem_of_getElem? (i := 55) rfl) rfl
theorem wd_1_56 : Cond.fieldLink RX0 18 "ColdDryer$Group" "heat" "I" ∈ wsG := wi_1 (List.mem_of_getElem? (i := 56) rfl) rfl
theorem wd_1_57 : Cond.fieldLink RX0 27 "ColdDryer$Group" "warmth" "I" ∈ wsG := wi_1 (List.mem_of_getElem? (i := 57) rfl) rfl
theorem wd_1_58 : Cond.fieldLink RX0 33 "ColdDryer$Group" "driedOut" "I" ∈ wsG := wi_1 (List.mem_of_getElem? (i := 58) rfl) rfl
theorem wd_1_59 : Cond.lays RX0 "ColdDryer$Group" "vials" "I" ∈ wsG := wi_1 (List.mem_of_getElem? (i := 59) rfl) rfl
theorem wd_1_61 : Cond.lays RX0 "ColdDryer$Group" "firstNumber" "I" ∈ wsG := wi_1 (List.mem_of_getElem? (i := 61) rfl) rfl
theorem wd_1_63 : Cond.lays RX0 "ColdDryer$Group" "ice" "I" ∈ wsG := wi_1 (List.mem_of_getElem? (i := 63) rfl) rfl
theorem wd_1_65 : Cond.lays RX0 "ColdDryer$Group" "gave" "I" ∈ wsG := wi_1 (List.mem_of_getElem? (i := 65) rfl) rfl
theorem wd_1_67 : Cond.lays RX0 "ColdDryer$Group" "fellIn" "I" ∈ wsG := wi_1 (List.mem_of_getElem? (i := 67) rfl) rfl
theorem wd_1_69 : Cond.lays RX0 "ColdDryer$Group" "heat" "I" ∈ wsG := wi_1 (List.mem_of_getElem? (i := 69) rfl) rfl
theorem wd_1_71 : Cond.lays RX0 "ColdDryer$Group" "warmth" "I" ∈ wsG := wi_1 (List.mem_of_getElem? (i := 71) rfl) rfl
theorem wd_1_73 : Cond.lays RX0 "ColdDryer$Group" "driedOut" "I" ∈ wsG := wi_1 (List.mem_of_getElem? (i := 73) rfl) rfl
theorem wd_1_76 : Cond.fieldLink RX2 12 "ColdDryer$Load" "rimVials" "LColdDryer$Group;" ∈ wsG := wi_1 (List.mem_of_getElem? (i := 76) rfl) rfl
theorem wd_1_77 : Cond.fieldLink RX4 105 "ColdDryer$Load" "rimVials" "LColdDryer$Group;" ∈ wsG := wi_1 (List.mem_of_getElem? (i := 77) rfl) rfl
theorem wd_1_78 : Cond.fieldLink RX2 18 "ColdDryer$Load" "innerVials" "LColdDryer$Group;" ∈ wsG := wi_1 (List.mem_of_getElem? (i := 78) rfl) rfl
theorem wd_1_79 : Cond.fieldLink RX4 109 "ColdDryer$Load" "innerVials" "LColdDryer$Group;" ∈ wsG := wi_1 (List.mem_of_getElem? (i := 79) rfl) rfl
theorem wd_1_80 : Cond.fieldLink RX1 21 "ColdDryer$Load" "minute" "I" ∈ wsG := wi_1 (List.mem_of_getElem? (i := 80) rfl) rfl
theorem wd_1_81 : Cond.fieldLink RX2 37 "ColdDryer$Load" "minute" "I" ∈ wsG := wi_1 (List.mem_of_getElem? (i := 81) rfl) rfl
theorem wd_1_82 : Cond.fieldLink RX4 95 "ColdDryer$Load" "minute" "I" ∈ wsG := wi_1 (List.mem_of_getElem? (i := 82) rfl) rfl
theorem wd_1_83 : Cond.fieldLink RX1 31 "ColdDryer$Load" "pressure" "I" ∈ wsG := wi_1 (List.mem_of_getElem? (i := 83) rfl) rfl
theorem wd_1_84 : Cond.fieldLink RX2 41 "ColdDryer$Load" "pressure" "I" ∈ wsG := wi_1 (List.mem_of_getElem? (i := 84) rfl) rfl
theorem wd_1_85 : Cond.fieldLink RX2 44 "ColdDryer$Load" "greatestPressure" "I" ∈ wsG := wi_1 (List.mem_of_getElem? (i := 85) rfl) rfl
theorem wd_1_86 : Cond.fieldLink RX4 146 "ColdDryer$Load" "greatestPressure" "I" ∈ wsG := wi_1 (List.mem_of_getElem? (i := 86) rfl) rfl
theorem wd_1_87 : Cond.fieldLink RX2 47 "ColdDryer$Load" "allGave" "I" ∈ wsG := wi_1 (List.mem_of_getElem? (i := 87) rfl) rfl
theorem wd_1_88 : Cond.fieldLink RX2 50 "ColdDryer$Load" "gaveSoFar" "I" ∈ wsG := wi_1 (List.mem_of_getElem? (i := 88) rfl) rfl
theorem wd_1_89 : Cond.laysFinal RX2 "ColdDryer$Load" "rimVials" "LColdDryer$Group;" ∈ wsG := wi_1 (List.mem_of_getElem? (i := 89) rfl) rfl
theorem wd_1_91 : Cond.laysFinal RX2 "ColdDryer$Load" "innerVials" "LColdDryer$Group;" ∈ wsG := wi_1 (List.mem_of_getElem? (i := 91) rfl) rfl
theorem wd_1_93 : Cond.lays RX2 "ColdDryer$Load" "minute" "I" ∈ wsG := wi_1 (List.mem_of_getElem? (i := 93) rfl) rfl
theorem wd_1_95 : Cond.lays RX2 "ColdDryer$Load" "pressure" "I" ∈ wsG := wi_1 (List.mem_of_getElem? (i := 95) rfl) rfl
theorem wd_1_97 : Cond.lays RX2 "ColdDryer$Load" "greatestPressure" "I" ∈ wsG := wi_1 (List.mem_of_getElem? (i := 97) rfl) rfl
theorem wd_1_99 : Cond.lays RX2 "ColdDryer$Load" "allGave" "I" ∈ wsG := wi_1 (List.mem_of_getElem? (i := 99) rfl) rfl
theorem wd_1_101 : Cond.lays RX2 "ColdDryer$Load" "gaveSoFar" "I" ∈ wsG := wi_1 (List.mem_of_getElem? (i := 101) rfl) rfl
theorem wd_1_104 : Cond.classLink RX4 26 RX1 ∈ wsG := wi_1 (List.mem_of_getElem? (i := 104) rfl) rfl
theorem wd_1_105 : Cond.instantiable RX1 3 ∈ wsG := wi_1 (List.mem_of_getElem? (i := 105) rfl) rfl
theorem wd_1_106 : Cond.methodLink RX4 28 yX1_init ∈ wsG := wi_1 (List.mem_of_getElem? (i := 106) rfl) rfl
theorem wd_1_107 : Cond.instanceMethod yX1_init ∈ wsG := wi_1 (List.mem_of_getElem? (i := 107) rfl) rfl
theorem wd_1_108 : Cond.code yX1_init cX1_init 1 none ∈ wsG := wi_1 (List.mem_of_getElem? (i := 108) rfl) rfl
theorem wd_1_109 : Cond.methodLink RX1 3 objectInit ∈ wsG := wi_1 (List.mem_of_getElem? (i := 109) rfl) rfl
theorem wd_1_110 : Cond.fieldLink RX1 9 "ColdDryer$History" "one" "[I" ∈ wsG := wi_1 (List.mem_of_getElem? (i := 110) rfl) rfl
theorem wd_1_111 : Cond.fieldLink RX1 15 "ColdDryer$History" "other" "[I" ∈ wsG := wi_1 (List.mem_of_getElem? (i := 111) rfl) rfl
theorem wd_1_112 : Cond.fieldLink RX1 18 "ColdDryer$History" "withIce" "[I" ∈ wsG := wi_1 (List.mem_of_getElem? (i := 112) rfl) rfl
theorem wd_1_113 : Cond.laysFinal RX1 "ColdDryer$History" "one" "[I" ∈ wsG := wi_1 (List.mem_of_getElem? (i := 113) rfl) rfl
theorem wd_1_115 : Cond.laysFinal RX1 "ColdDryer$History" "other" "[I" ∈ wsG := wi_1 (List.mem_of_getElem? (i := 115) rfl) rfl
theorem wd_1_117 : Cond.laysFinal RX1 "ColdDryer$History" "withIce" "[I" ∈ wsG := wi_1 (List.mem_of_getElem? (i := 117) rfl) rfl
theorem wd_1_120 : Cond.fieldLink RX4 10 "ColdDryer" "rules" "LColdDryer$Rules;" ∈ wsG := wi_1 (List.mem_of_getElem? (i := 120) rfl) rfl
theorem wd_1_121 : Cond.fieldLink RX4 19 "ColdDryer" "current" "LColdDryer$Load;" ∈ wsG := wi_1 (List.mem_of_getElem? (i := 121) rfl) rfl
theorem wd_1_122 : Cond.fieldLink RX4 23 "ColdDryer" "latestTrial" "LColdDryer$Load;" ∈ wsG := wi_1 (List.mem_of_getElem? (i := 122) rfl) rfl
theorem wd_1_123 : Cond.fieldLink RX4 29 "ColdDryer" "history" "LColdDryer$History;" ∈ wsG := wi_1 (List.mem_of_getElem? (i := 123) rfl) rfl
theorem wd_1_124 : Cond.fieldLink RX4 33 "ColdDryer" "rows" "I" ∈ wsG := wi_1 (List.mem_of_getElem? (i := 124) rfl) rfl
theorem wd_1_125 : Cond.fieldLink RX4 37 "ColdDryer" "columns" "I" ∈ wsG := wi_1 (List.mem_of_getElem? (i := 125) rfl) rfl
theorem wd_1_126 : Cond.fieldLink RX4 40 "ColdDryer" "shelfWarmth" "I" ∈ wsG := wi_1 (List.mem_of_getElem? (i := 126) rfl) rfl
theorem wd_1_127 : Cond.fieldLink RX4 43 "ColdDryer" "setPressure" "I" ∈ wsG := wi_1 (List.mem_of_getElem? (i := 127) rfl) rfl
theorem wd_1_128 : Cond.fieldLink RX4 46 "ColdDryer" "loaded" "Z" ∈ wsG := wi_1 (List.mem_of_getElem? (i := 128) rfl) rfl
theorem wd_1_129 : Cond.fieldLink RX4 50 "ColdDryer" "trialDone" "Z" ∈ wsG := wi_1 (List.mem_of_getElem? (i := 129) rfl) rfl
theorem wd_1_130 : Cond.laysFinal RX4 "ColdDryer" "rules" "LColdDryer$Rules;" ∈ wsG := wi_1 (List.mem_of_getElem? (i := 130) rfl) rfl
theorem wd_1_132 : Cond.laysFinal RX4 "ColdDryer" "current" "LColdDryer$Load;" ∈ wsG := wi_1 (List.mem_of_getElem? (i := 132) rfl) rfl
theorem wd_1_134 : Cond.laysFinal RX4 "ColdDryer" "latestTrial" "LColdDryer$Load;" ∈ wsG := wi_1 (List.mem_of_getElem? (i := 134) rfl) rfl
theorem wd_1_136 : Cond.laysFinal RX4 "ColdDryer" "history" "LColdDryer$History;" ∈ wsG := wi_1 (List.mem_of_getElem? (i := 136) rfl) rfl
theorem wd_1_138 : Cond.lays RX4 "ColdDryer" "rows" "I" ∈ wsG := wi_1 (List.mem_of_getElem? (i := 138) rfl) rfl
theorem wd_1_140 : Cond.lays RX4 "ColdDryer" "columns" "I" ∈ wsG := wi_1 (List.mem_of_getElem? (i := 140) rfl) rfl
theorem wd_1_142 : Cond.lays RX4 "ColdDryer" "shelfWarmth" "I" ∈ wsG := wi_1 (List.mem_of_getElem? (i := 142) rfl) rfl
theorem wd_1_144 : Cond.lays RX4 "ColdDryer" "setPressure" "I" ∈ wsG := wi_1 (List.mem_of_getElem? (i := 144) rfl) rfl
theorem wd_1_146 : Cond.lays RX4 "ColdDryer" "loaded" "Z" ∈ wsG := wi_1 (List.mem_of_getElem? (i := 146) rfl) rfl
theorem wd_1_148 : Cond.lays RX4 "ColdDryer" "trialDone" "Z" ∈ wsG := wi_1 (List.mem_of_getElem? (i := 148) rfl) rfl
theorem wd_1_151 : Cond.methodLink RL 13 yX4_shelf ∈ wsG := wi_1 (List.mem_of_getElem? (i := 151) rfl) rfl
theorem wd_1_152 : Cond.instanceMethod yX4_shelf ∈ wsG := wi_1 (List.mem_of_getElem? (i := 152) rfl) rfl
theorem wd_1_153 : Cond.selects RX4 yX4_shelf yX4_shelf ∈ wsG := wi_1 (List.mem_of_getElem? (i := 153) rfl) rfl
theorem wd_1_154 : Cond.code yX4_shelf cX4_shelf 3 (some .int) ∈ wsG := wi_1 (List.mem_of_getElem? (i := 154) rfl) rfl
theorem wd_1_155 : Cond.methodLink RX4 53 yX4_within ∈ wsG := wi_1 (List.mem_of_getElem? (i := 155) rfl) rfl
theorem wd_1_156 : Cond.static yX4_within ∈ wsG := wi_1 (List.mem_of_getElem? (i := 156) rfl) rfl
theorem wd_1_157 : Cond.code yX4_within cX4_within 3 (some .boolean) ∈ wsG := wi_1 (List.mem_of_getElem? (i := 157) rfl) rfl
theorem wd_1_158 : Cond.methodLink RX4 57 yX4_places ∈ wsG := wi_1 (List.mem_of_getElem? (i := 158) rfl) rfl
theorem wd_1_160 : Cond.instanceMethod yX4_places ∈ wsG := wi_1 (List.mem_of_getElem? (i := 160) rfl) rfl
theorem wd_1_161 : Cond.code yX4_places cX4_places 1 (some .int) ∈ wsG := wi_1 (List.mem_of_getElem? (i := 161) rfl) rfl
theorem wd_1_162 : Cond.methodLink RL 18 yX4_rule ∈ wsG := wi_1 (List.mem_of_getElem? (i := 162) rfl) rfl
theorem wd_1_163 : Cond.instanceMethod yX4_rule ∈ wsG := wi_1 (List.mem_of_getElem? (i := 163) rfl) rfl
theorem wd_1_164 : Cond.selects RX4 yX4_rule yX4_rule ∈ wsG := wi_1 (List.mem_of_getElem? (i := 164) rfl) rfl
theorem wd_1_165 : Cond.code yX4_rule cX4_rule 3 (some .int) ∈ wsG := wi_1 (List.mem_of_getElem? (i := 165) rfl) rfl
theorem wd_1_166 : Cond.methodLink RX4 61 yX3_has ∈ wsG := wi_1 (List.mem_of_getElem? (i := 166) rfl) rfl
theorem wd_1_167 : Cond.static yX3_has ∈ wsG := wi_1 (List.mem_of_getElem? (i := 167) rfl) rfl
theorem wd_1_168 : Cond.code yX3_has cX3_has 1 (some .boolean) ∈ wsG := wi_1 (List.mem_of_getElem? (i := 168) rfl) rfl
theorem wd_1_170 : Cond.methodLink RX4 65 yX3_allows ∈ wsG := wi_1 (List.mem_of_getElem? (i := 170) rfl) rfl
theorem wd_1_171 : Cond.static yX3_allows ∈ wsG := wi_1 (List.mem_of_getElem? (i := 171) rfl) rfl
theorem wd_1_172 : Cond.code yX3_allows cX3_allows 2 (some .boolean) ∈ wsG := wi_1 (List.mem_of_getElem? (i := 172) rfl) rfl
theorem wd_1_173 : Cond.methodLink RX3 28 yX3_has ∈ wsG := wi_1 (List.mem_of_getElem? (i := 173) rfl) rfl
theorem wd_1_174 : Cond.fieldLink RX3 32 "ColdDryer$Rules" "LEAST" "[I" ∈ wsG := wi_1 (List.mem_of_getElem? (i := 174) rfl) rfl
theorem wd_1_176 : Cond.fieldLink RX3 35 "ColdDryer$Rules" "MOST" "[I" ∈ wsG := wi_1 (List.mem_of_getElem? (i := 176) rfl) rfl
theorem wd_1_178 : Cond.methodLink RX4 69 yX3_change ∈ wsG := wi_1 (List.mem_of_getElem? (i := 178) rfl) rfl
theorem wd_1_179 : Cond.instanceMethod yX3_change ∈ wsG := wi_1 (List.mem_of_getElem? (i := 179) rfl) rfl
theorem wd_1_180 : Cond.selects RX3 yX3_change yX3_change ∈ wsG := wi_1 (List.mem_of_getElem? (i := 180) rfl) rfl
theorem wd_1_181 : Cond.code yX3_change cX3_change 4 (some .int) ∈ wsG := wi_1 (List.mem_of_getElem? (i := 181) rfl) rfl
theorem wd_1_182 : Cond.methodLink RX3 38 yX3_valueOf ∈ wsG := wi_1 (List.mem_of_getElem? (i := 182) rfl) rfl
theorem wd_1_183 : Cond.instanceMethod yX3_valueOf ∈ wsG := wi_1 (List.mem_of_getElem? (i := 183) rfl) rfl
theorem wd_1_184 : Cond.selects RX3 yX3_valueOf yX3_valueOf ∈ wsG := wi_1 (List.mem_of_getElem? (i := 184) rfl) rfl
theorem wd_1_185 : Cond.code yX3_valueOf cX3_valueOf 2 (some .int) ∈ wsG := wi_1 (List.mem_of_getElem? (i := 185) rfl) rfl
theorem wd_1_186 : Cond.methodLink RX3 42 yX3_allows ∈ wsG := wi_1 (List.mem_of_getElem? (i := 186) rfl) rfl
theorem wd_1_187 : Cond.methodLink RL 22 yX4_vapour ∈ wsG := wi_1 (List.mem_of_getElem? (i := 187) rfl) rfl
theorem wd_1_188 : Cond.instanceMethod yX4_vapour ∈ wsG := wi_1 (List.mem_of_getElem? (i := 188) rfl) rfl
theorem wd_1_189 : Cond.selects RX4 yX4_vapour yX4_vapour ∈ wsG := wi_1 (List.mem_of_getElem? (i := 189) rfl) rfl
theorem wd_1_190 : Cond.code yX4_vapour cX4_vapour 2 (some .int) ∈ wsG := wi_1 (List.mem_of_getElem? (i := 190) rfl) rfl
theorem wd_1_191 : Cond.methodLink RX4 73 yX4_vapourAt ∈ wsG := wi_1 (List.mem_of_getElem? (i := 191) rfl) rfl
theorem wd_1_192 : Cond.static yX4_vapourAt ∈ wsG := wi_1 (List.mem_of_getElem? (i := 192) rfl) rfl
theorem wd_1_193 : Cond.code yX4_vapourAt cX4_vapourAt 8 (some .int) ∈ wsG := wi_1 (List.mem_of_getElem? (i := 193) rfl) rfl
theorem wd_1_194 : Cond.methodLink RL 27 yX4_steam ∈ wsG := wi_1 (List.mem_of_getElem? (i := 194) rfl) rfl
theorem wd_1_195 : Cond.instanceMethod yX4_steam ∈ wsG := wi_1 (List.mem_of_getElem? (i := 195) rfl) rfl
theorem wd_1_196 : Cond.selects RX4 yX4_steam yX4_steam ∈ wsG := wi_1 (List.mem_of_getElem? (i := 196) rfl) rfl
theorem wd_1_197 : Cond.code yX4_steam cX4_steam 4 (some .int) ∈ wsG := wi_1 (List.mem_of_getElem? (i := 197) rfl) rfl
theorem wd_1_198 : Cond.methodLink RX4 77 yX3_bars ∈ wsG := wi_1 (List.mem_of_getElem? (i := 198) rfl) rfl
theorem wd_1_199 : Cond.instanceMethod yX3_bars ∈ wsG := wi_1 (List.mem_of_getElem? (i := 199) rfl) rfl
theorem wd_1_200 : Cond.selects RX3 yX3_bars yX3_bars ∈ wsG := wi_1 (List.mem_of_getElem? (i := 200) rfl) rfl
theorem wd_1_201 : Cond.code yX3_bars cX3_bars 2 (some .int) ∈ wsG := wi_1 (List.mem_of_getElem? (i := 201) rfl) rfl
theorem wd_1_202 : Cond.methodLink RX4 80 yX4_steamAt ∈ wsG := wi_1 (List.mem_of_getElem? (i := 202) rfl) rfl
theorem wd_1_203 : Cond.static yX4_steamAt ∈ wsG := wi_1 (List.mem_of_getElem? (i := 203) rfl) rfl
theorem wd_1_204 : Cond.code yX4_steamAt cX4_steamAt 3 (some .int) ∈ wsG := wi_1 (List.mem_of_getElem? (i := 204) rfl) rfl
theorem wd_1_205 : Cond.methodLink RX4 158 Lib.Math.max.name ∈ wsG := wi_1 (List.mem_of_getElem? (i := 205) rfl) rfl
theorem wd_1_206 : Cond.static Lib.Math.max.name ∈ wsG := wi_1 (List.mem_of_getElem? (i := 206) rfl) rfl
theorem wd_1_207 : Cond.code Lib.Math.max.name Lib.Math.max.code 2 (some .int) ∈ wsG := wi_1 (List.mem_of_getElem? (i := 207) rfl) rfl
theorem wd_1_208 : Cond.methodLink RX4 152 yX4_quotient ∈ wsG := wi_1 (List.mem_of_getElem? (i := 208) rfl) rfl
theorem wd_1_209 : Cond.static yX4_quotient ∈ wsG := wi_1 (List.mem_of_getElem? (i := 209) rfl) rfl
theorem wd_1_210 : Cond.code yX4_quotient cX4_quotient 2 (some .int) ∈ wsG := wi_1 (List.mem_of_getElem? (i := 210) rfl) rfl
theorem wd_1_211 : Cond.methodLink RL 32 yX4_rim ∈ wsG := wi_1 (List.mem_of_getElem? (i := 211) rfl) rfl
theorem wd_1_212 : Cond.instanceMethod yX4_rim ∈ wsG := wi_1 (List.mem_of_getElem? (i := 212) rfl) rfl
theorem wd_1_213 : Cond.selects RX4 yX4_rim yX4_rim ∈ wsG := wi_1 (List.mem_of_getElem? (i := 213) rfl) rfl
theorem wd_1_214 : Cond.code yX4_rim cX4_rim 2 (some .int) ∈ wsG := wi_1 (List.mem_of_getElem? (i := 214) rfl) rfl
theorem wd_1_215 : Cond.methodLink RX4 84 yX4_isAtRim ∈ wsG := wi_1 (List.mem_of_getElem? (i := 215) rfl) rfl
theorem wd_1_217 : Cond.instanceMethod yX4_isAtRim ∈ wsG := wi_1 (List.mem_of_getElem? (i := 217) rfl) rfl
theorem wd_1_218 : Cond.code yX4_isAtRim cX4_isAtRim 4 (some .boolean) ∈ wsG := wi_1 (List.mem_of_getElem? (i := 218) rfl) rfl
theorem wd_1_219 : Cond.methodLink RL 36 yX4_load ∈ wsG := wi_1 (List.mem_of_getElem? (i := 219) rfl) rfl
theorem wd_1_220 : Cond.instanceMethod yX4_load ∈ wsG := wi_1 (List.mem_of_getElem? (i := 220) rfl) rfl
theorem wd_1_221 : Cond.selects RX4 yX4_load yX4_load ∈ wsG := wi_1 (List.mem_of_getElem? (i := 221) rfl) rfl
theorem wd_1_222 : Cond.code yX4_load cX4_load 1 (some .int) ∈ wsG := wi_1 (List.mem_of_getElem? (i := 222) rfl) rfl
theorem wd_1_223 : Cond.methodLink RX4 87 yX2_start ∈ wsG := wi_1 (List.mem_of_getElem? (i := 223) rfl) rfl
theorem wd_1_224 : Cond.instanceMethod yX2_start ∈ wsG := wi_1 (List.mem_of_getElem? (i := 224) rfl) rfl
theorem wd_1_225 : Cond.selects RX2 yX2_start yX2_start ∈ wsG := wi_1 (List.mem_of_getElem? (i := 225) rfl) rfl
theorem wd_1_226 : Cond.code yX2_start cX2_start 8 none ∈ wsG := wi_1 (List.mem_of_getElem? (i := 226) rfl) rfl
theorem wd_1_227 : Cond.methodLink RX2 21 Lib.Math.max.name ∈ wsG := wi_1 (List.mem_of_getElem? (i := 227) rfl) rfl
theorem wd_1_228 : Cond.methodLink RX2 29 yX3_valueOf ∈ wsG := wi_1 (List.mem_of_getElem? (i := 228) rfl) rfl
theorem wd_1_229 : Cond.methodLink RX2 33 yX0_fill ∈ wsG := wi_1 (List.mem_of_getElem? (i := 229) rfl) rfl
theorem wd_1_230 : Cond.instanceMethod yX0_fill ∈ wsG := wi_1 (List.mem_of_getElem? (i := 230) rfl) rfl
theorem wd_1_231 : Cond.selects RX0 yX0_fill yX0_fill ∈ wsG := wi_1 (List.mem_of_getElem? (i := 231) rfl) rfl
theorem wd_1_232 : Cond.code yX0_fill cX0_fill 5 none ∈ wsG := wi_1 (List.mem_of_getElem? (i := 232) rfl) rfl
theorem wd_1_233 : Cond.methodLink RX4 91 yX1_note ∈ wsG := wi_1 (List.mem_of_getElem? (i := 233) rfl) rfl
theorem wd_1_234 : Cond.instanceMethod yX1_note ∈ wsG := wi_1 (List.mem_of_getElem? (i := 234) rfl) rfl
theorem wd_1_235 : Cond.selects RX1 yX1_note yX1_note ∈ wsG := wi_1 (List.mem_of_getElem? (i := 235) rfl) rfl
theorem wd_1_236 : Cond.code yX1_note cX1_note 4 none ∈ wsG := wi_1 (List.mem_of_getElem? (i := 236) rfl) rfl
theorem wd_1_237 : Cond.methodLink RX1 27 yX1_holds ∈ wsG := wi_1 (List.mem_of_getElem? (i := 237) rfl) rfl
theorem wd_1_238 : Cond.static yX1_holds ∈ wsG := wi_1 (List.mem_of_getElem? (i := 238) rfl) rfl
theorem wd_1_239 : Cond.code yX1_holds cX1_holds 1 (some .boolean) ∈ wsG := wi_1 (List.mem_of_getElem? (i := 239) rfl) rfl
theorem wd_2_1 : Cond.methodLink RX1 34 yX2_otherGauge ∈ wsG := wi_2 (List.mem_of_getElem? (i := 1) rfl) rfl
theorem wd_2_2 : Cond.instanceMethod yX2_otherGauge ∈ wsG := wi_2 (List.mem_of_getElem? (i := 2) rfl) rfl
theorem wd_2_3 : Cond.selects RX2 yX2_otherGauge yX2_otherGauge ∈ wsG := wi_2 (List.mem_of_getElem? (i := 3) rfl) rfl
theorem wd_2_4 : Cond.code yX2_otherGauge cX2_otherGauge 3 (some .int) ∈ wsG := wi_2 (List.mem_of_getElem? (i := 4) rfl) rfl
theorem wd_2_6 : Cond.methodLink RX1 38 yX2_vialsWithIce ∈ wsG := wi_2 (List.mem_of_getElem? (i := 6) rfl) rfl
theorem wd_2_7 : Cond.instanceMethod yX2_vialsWithIce ∈ wsG := wi_2 (List.mem_of_getElem? (i := 7) rfl) rfl
theorem wd_2_8 : Cond.selects RX2 yX2_vialsWithIce yX2_vialsWithIce ∈ wsG := wi_2 (List.mem_of_getElem? (i := 8) rfl) rfl
theorem wd_2_9 : Cond.code yX2_vialsWithIce cX2_vialsWithIce 1 (some .int) ∈ wsG := wi_2 (List.mem_of_getElem? (i := 9) rfl) rfl
theorem wd_2_10 : Cond.methodLink RL 41 yX4_warm ∈ wsG := wi_2 (List.mem_of_getElem? (i := 10) rfl) rfl
theorem wd_2_11 : Cond.instanceMethod yX4_warm ∈ wsG := wi_2 (List.mem_of_getElem? (i := 11) rfl) rfl
theorem wd_2_12 : Cond.selects RX4 yX4_warm yX4_warm ∈ wsG := wi_2 (List.mem_of_getElem? (i := 12) rfl) rfl
theorem wd_2_13 : Cond.code yX4_warm cX4_warm 3 (some .int) ∈ wsG := wi_2 (List.mem_of_getElem? (i := 13) rfl) rfl
theorem wd_2_14 : Cond.methodLink RL 45 yX4_set ∈ wsG := wi_2 (List.mem_of_getElem? (i := 14) rfl) rfl
theorem wd_2_15 : Cond.instanceMethod yX4_set ∈ wsG := wi_2 (List.mem_of_getElem? (i := 15) rfl) rfl
theorem wd_2_16 : Cond.selects RX4 yX4_set yX4_set ∈ wsG := wi_2 (List.mem_of_getElem? (i := 16) rfl) rfl
theorem wd_2_17 : Cond.code yX4_set cX4_set 3 (some .int) ∈ wsG := wi_2 (List.mem_of_getElem? (i := 17) rfl) rfl
theorem wd_2_18 : Cond.methodLink RL 49 yX4_run ∈ wsG := wi_2 (List.mem_of_getElem? (i := 18) rfl) rfl
theorem wd_2_19 : Cond.instanceMethod yX4_run ∈ wsG := wi_2 (List.mem_of_getElem? (i := 19) rfl) rfl
theorem wd_2_20 : Cond.selects RX4 yX4_run yX4_run ∈ wsG := wi_2 (List.mem_of_getElem? (i := 20) rfl) rfl
theorem wd_2_21 : Cond.code yX4_run cX4_run 3 (some .int) ∈ wsG := wi_2 (List.mem_of_getElem? (i := 21) rfl) rfl
theorem wd_2_22 : Cond.methodLink RX4 98 yX2_passMinute ∈ wsG := wi_2 (List.mem_of_getElem? (i := 22) rfl) rfl
theorem wd_2_23 : Cond.instanceMethod yX2_passMinute ∈ wsG := wi_2 (List.mem_of_getElem? (i := 23) rfl) rfl
theorem wd_2_24 : Cond.selects RX2 yX2_passMinute yX2_passMinute ∈ wsG := wi_2 (List.mem_of_getElem? (i := 24) rfl) rfl
theorem wd_2_25 : Cond.code yX2_passMinute cX2_passMinute 4 none ∈ wsG := wi_2 (List.mem_of_getElem? (i := 25) rfl) rfl
theorem wd_2_26 : Cond.methodLink RX2 53 yX0_passMinute ∈ wsG := wi_2 (List.mem_of_getElem? (i := 26) rfl) rfl
theorem wd_2_27 : Cond.instanceMethod yX0_passMinute ∈ wsG := wi_2 (List.mem_of_getElem? (i := 27) rfl) rfl
theorem wd_2_28 : Cond.selects RX0 yX0_passMinute yX0_passMinute ∈ wsG := wi_2 (List.mem_of_getElem? (i := 28) rfl) rfl
theorem wd_2_29 : Cond.code yX0_passMinute cX0_passMinute 7 none ∈ wsG := wi_2 (List.mem_of_getElem? (i := 29) rfl) rfl
theorem wd_2_30 : Cond.methodLink RX0 38 yX3_valueOf ∈ wsG := wi_2 (List.mem_of_getElem? (i := 30) rfl) rfl
theorem wd_2_32 : Cond.methodLink RX0 46 yX3_bars ∈ wsG := wi_2 (List.mem_of_getElem? (i := 32) rfl) rfl
theorem wd_2_33 : Cond.methodLink RX0 49 yX0_balance ∈ wsG := wi_2 (List.mem_of_getElem? (i := 33) rfl) rfl
theorem wd_2_35 : Cond.instanceMethod yX0_balance ∈ wsG := wi_2 (List.mem_of_getElem? (i := 35) rfl) rfl
theorem wd_2_36 : Cond.code yX0_balance cX0_balance 8 (some .int) ∈ wsG := wi_2 (List.mem_of_getElem? (i := 36) rfl) rfl
theorem wd_2_38 : Cond.methodLink RX0 57 Lib.Math.min.name ∈ wsG := wi_2 (List.mem_of_getElem? (i := 38) rfl) rfl
theorem wd_2_39 : Cond.static Lib.Math.min.name ∈ wsG := wi_2 (List.mem_of_getElem? (i := 39) rfl) rfl
theorem wd_2_40 : Cond.code Lib.Math.min.name Lib.Math.min.code 2 (some .int) ∈ wsG := wi_2 (List.mem_of_getElem? (i := 40) rfl) rfl
theorem wd_2_41 : Cond.methodLink RX2 63 yX2_pressureBehind ∈ wsG := wi_2 (List.mem_of_getElem? (i := 41) rfl) rfl
theorem wd_2_43 : Cond.instanceMethod yX2_pressureBehind ∈ wsG := wi_2 (List.mem_of_getElem? (i := 43) rfl) rfl
theorem wd_2_44 : Cond.code yX2_pressureBehind cX2_pressureBehind 3 (some .int) ∈ wsG := wi_2 (List.mem_of_getElem? (i := 44) rfl) rfl
theorem wd_2_45 : Cond.methodLink RX2 70 Lib.Math.min.name ∈ wsG := wi_2 (List.mem_of_getElem? (i := 45) rfl) rfl
theorem wd_2_46 : Cond.methodLink RL 53 yX4_unload ∈ wsG := wi_2 (List.mem_of_getElem? (i := 46) rfl) rfl
theorem wd_2_47 : Cond.instanceMethod yX4_unload ∈ wsG := wi_2 (List.mem_of_getElem? (i := 47) rfl) rfl
theorem wd_2_48 : Cond.selects RX4 yX4_unload yX4_unload ∈ wsG := wi_2 (List.mem_of_getElem? (i := 48) rfl) rfl
theorem wd_2_49 : Cond.code yX4_unload cX4_unload 1 (some .int) ∈ wsG := wi_2 (List.mem_of_getElem? (i := 49) rfl) rfl
theorem wd_2_50 : Cond.methodLink RX4 102 yX2_vialsWithIce ∈ wsG := wi_2 (List.mem_of_getElem? (i := 50) rfl) rfl
theorem wd_2_51 : Cond.methodLink RL 57 yX4_vial ∈ wsG := wi_2 (List.mem_of_getElem? (i := 51) rfl) rfl
theorem wd_2_52 : Cond.instanceMethod yX4_vial ∈ wsG := wi_2 (List.mem_of_getElem? (i := 52) rfl) rfl
theorem wd_2_53 : Cond.selects RX4 yX4_vial yX4_vial ∈ wsG := wi_2 (List.mem_of_getElem? (i := 53) rfl) rfl
theorem wd_2_54 : Cond.code yX4_vial cX4_vial 4 (some .int) ∈ wsG := wi_2 (List.mem_of_getElem? (i := 54) rfl) rfl
theorem wd_2_55 : Cond.methodLink RX4 112 yX0_tell ∈ wsG := wi_2 (List.mem_of_getElem? (i := 55) rfl) rfl
theorem wd_2_56 : Cond.instanceMethod yX0_tell ∈ wsG := wi_2 (List.mem_of_getElem? (i := 56) rfl) rfl
theorem wd_2_57 : Cond.selects RX0 yX0_tell yX0_tell ∈ wsG := wi_2 (List.mem_of_getElem? (i := 57) rfl) rfl
theorem wd_2_58 : Cond.code yX0_tell cX0_tell 2 (some .int) ∈ wsG := wi_2 (List.mem_of_getElem? (i := 58) rfl) rfl
theorem wd_2_59 : Cond.methodLink RL 61 yX4_about ∈ wsG := wi_2 (List.mem_of_getElem? (i := 59) rfl) rfl
theorem wd_2_60 : Cond.instanceMethod yX4_about ∈ wsG := wi_2 (List.mem_of_getElem? (i := 60) rfl) rfl
theorem wd_2_61 : Cond.selects RX4 yX4_about yX4_about ∈ wsG := wi_2 (List.mem_of_getElem? (i := 61) rfl) rfl
theorem wd_2_62 : Cond.code yX4_about cX4_about 2 (some .int) ∈ wsG := wi_2 (List.mem_of_getElem? (i := 62) rfl) rfl
theorem wd_2_63 : Cond.methodLink RX4 117 yX2_tell ∈ wsG := wi_2 (List.mem_of_getElem? (i := 63) rfl) rfl
theorem wd_2_64 : Cond.instanceMethod yX2_tell ∈ wsG := wi_2 (List.mem_of_getElem? (i := 64) rfl) rfl
theorem wd_2_65 : Cond.selects RX2 yX2_tell yX2_tell ∈ wsG := wi_2 (List.mem_of_getElem? (i := 65) rfl) rfl
theorem wd_2_66 : Cond.code yX2_tell cX2_tell 2 (some .int) ∈ wsG := wi_2 (List.mem_of_getElem? (i := 66) rfl) rfl
theorem wd_2_67 : Cond.methodLink RX2 86 yX2_fallenVials ∈ wsG := wi_2 (List.mem_of_getElem? (i := 67) rfl) rfl
theorem wd_2_68 : Cond.instanceMethod yX2_fallenVials ∈ wsG := wi_2 (List.mem_of_getElem? (i := 68) rfl) rfl
theorem wd_2_69 : Cond.selects RX2 yX2_fallenVials yX2_fallenVials ∈ wsG := wi_2 (List.mem_of_getElem? (i := 69) rfl) rfl
theorem wd_2_70 : Cond.code yX2_fallenVials cX2_fallenVials 1 (some .int) ∈ wsG := wi_2 (List.mem_of_getElem? (i := 70) rfl) rfl
theorem wd_2_71 : Cond.methodLink RX2 90 yX2_vialsWithIce ∈ wsG := wi_2 (List.mem_of_getElem? (i := 71) rfl) rfl
theorem wd_2_72 : Cond.methodLink RL 65 yX4_gauge ∈ wsG := wi_2 (List.mem_of_getElem? (i := 72) rfl) rfl
theorem wd_2_73 : Cond.instanceMethod yX4_gauge ∈ wsG := wi_2 (List.mem_of_getElem? (i := 73) rfl) rfl
theorem wd_2_74 : Cond.selects RX4 yX4_gauge yX4_gauge ∈ wsG := wi_2 (List.mem_of_getElem? (i := 74) rfl) rfl
theorem wd_2_75 : Cond.code yX4_gauge cX4_gauge 3 (some .int) ∈ wsG := wi_2 (List.mem_of_getElem? (i := 75) rfl) rfl
theorem wd_2_76 : Cond.methodLink RX4 118 yX1_oneAt ∈ wsG := wi_2 (List.mem_of_getElem? (i := 76) rfl) rfl
theorem wd_2_77 : Cond.instanceMethod yX1_oneAt ∈ wsG := wi_2 (List.mem_of_getElem? (i := 77) rfl) rfl
theorem wd_2_78 : Cond.selects RX1 yX1_oneAt yX1_oneAt ∈ wsG := wi_2 (List.mem_of_getElem? (i := 78) rfl) rfl
theorem wd_2_79 : Cond.code yX1_oneAt cX1_oneAt 2 (some .int) ∈ wsG := wi_2 (List.mem_of_getElem? (i := 79) rfl) rfl
theorem wd_2_80 : Cond.methodLink RX4 121 yX1_otherAt ∈ wsG := wi_2 (List.mem_of_getElem? (i := 80) rfl) rfl
theorem wd_2_81 : Cond.instanceMethod yX1_otherAt ∈ wsG := wi_2 (List.mem_of_getElem? (i := 81) rfl) rfl
theorem wd_2_82 : Cond.selects RX1 yX1_otherAt yX1_otherAt ∈ wsG := wi_2 (List.mem_of_getElem? (i := 82) rfl) rfl
theorem wd_2_83 : Cond.code yX1_otherAt cX1_otherAt 2 (some .int) ∈ wsG := wi_2 (List.mem_of_getElem? (i := 83) rfl) rfl
theorem wd_2_84 : Cond.methodLink RL 69 yX4_end ∈ wsG := wi_2 (List.mem_of_getElem? (i := 84) rfl) rfl
theorem wd_2_85 : Cond.instanceMethod yX4_end ∈ wsG := wi_2 (List.mem_of_getElem? (i := 85) rfl) rfl
theorem wd_2_86 : Cond.selects RX4 yX4_end yX4_end ∈ wsG := wi_2 (List.mem_of_getElem? (i := 86) rfl) rfl
theorem wd_2_87 : Cond.code yX4_end cX4_end 3 (some .int) ∈ wsG := wi_2 (List.mem_of_getElem? (i := 87) rfl) rfl
theorem wd_2_88 : Cond.methodLink RX4 124 yX1_findEnd ∈ wsG := wi_2 (List.mem_of_getElem? (i := 88) rfl) rfl
theorem wd_2_89 : Cond.instanceMethod yX1_findEnd ∈ wsG := wi_2 (List.mem_of_getElem? (i := 89) rfl) rfl
theorem wd_2_90 : Cond.selects RX1 yX1_findEnd yX1_findEnd ∈ wsG := wi_2 (List.mem_of_getElem? (i := 90) rfl) rfl
theorem wd_2_91 : Cond.code yX1_findEnd cX1_findEnd 6 (some .int) ∈ wsG := wi_2 (List.mem_of_getElem? (i := 91) rfl) rfl
theorem wd_2_92 : Cond.methodLink RX1 42 yX1_otherAt ∈ wsG := wi_2 (List.mem_of_getElem? (i := 92) rfl) rfl
theorem wd_2_93 : Cond.methodLink RX1 46 yX1_oneAt ∈ wsG := wi_2 (List.mem_of_getElem? (i := 93) rfl) rfl
theorem wd_2_94 : Cond.methodLink RL 73 yX4_wet ∈ wsG := wi_2 (List.mem_of_getElem? (i := 94) rfl) rfl
theorem wd_2_95 : Cond.instanceMethod yX4_wet ∈ wsG := wi_2 (List.mem_of_getElem? (i := 95) rfl) rfl
theorem wd_2_96 : Cond.selects RX4 yX4_wet yX4_wet ∈ wsG := wi_2 (List.mem_of_getElem? (i := 96) rfl) rfl
theorem wd_2_97 : Cond.code yX4_wet cX4_wet 2 (some .int) ∈ wsG := wi_2 (List.mem_of_getElem? (i := 97) rfl) rfl
theorem wd_2_98 : Cond.methodLink RX4 127 yX1_withIceAt ∈ wsG := wi_2 (List.mem_of_getElem? (i := 98) rfl) rfl
theorem wd_2_99 : Cond.instanceMethod yX1_withIceAt ∈ wsG := wi_2 (List.mem_of_getElem? (i := 99) rfl) rfl
theorem wd_2_100 : Cond.selects RX1 yX1_withIceAt yX1_withIceAt ∈ wsG := wi_2 (List.mem_of_getElem? (i := 100) rfl) rfl
theorem wd_2_101 : Cond.code yX1_withIceAt cX1_withIceAt 2 (some .int) ∈ wsG := wi_2 (List.mem_of_getElem? (i := 101) rfl) rfl
theorem wd_2_102 : Cond.methodLink RL 77 yX4_firstFallen ∈ wsG := wi_2 (List.mem_of_getElem? (i := 102) rfl) rfl
theorem wd_2_103 : Cond.instanceMethod yX4_firstFallen ∈ wsG := wi_2 (List.mem_of_getElem? (i := 103) rfl) rfl
theorem wd_2_104 : Cond.selects RX4 yX4_firstFallen yX4_firstFallen ∈ wsG := wi_2 (List.mem_of_getElem? (i := 104) rfl) rfl
theorem wd_2_105 : Cond.code yX4_firstFallen cX4_firstFallen 1 (some .int) ∈ wsG := wi_2 (List.mem_of_getElem? (i := 105) rfl) rfl
theorem wd_2_106 : Cond.methodLink RX4 130 yX2_firstVialToFall ∈ wsG := wi_2 (List.mem_of_getElem? (i := 106) rfl) rfl
theorem wd_2_107 : Cond.instanceMethod yX2_firstVialToFall ∈ wsG := wi_2 (List.mem_of_getElem? (i := 107) rfl) rfl
theorem wd_2_108 : Cond.selects RX2 yX2_firstVialToFall yX2_firstVialToFall ∈ wsG := wi_2 (List.mem_of_getElem? (i := 108) rfl) rfl
theorem wd_2_109 : Cond.code yX2_firstVialToFall cX2_firstVialToFall 2 (some .int) ∈ wsG := wi_2 (List.mem_of_getElem? (i := 109) rfl) rfl
theorem wd_2_110 : Cond.methodLink RX2 79 yX2_firstToFall ∈ wsG := wi_2 (List.mem_of_getElem? (i := 110) rfl) rfl
theorem wd_2_111 : Cond.instanceMethod yX2_firstToFall ∈ wsG := wi_2 (List.mem_of_getElem? (i := 111) rfl) rfl
theorem wd_2_112 : Cond.selects RX2 yX2_firstToFall yX2_firstToFall ∈ wsG := wi_2 (List.mem_of_getElem? (i := 112) rfl) rfl
theorem wd_2_113 : Cond.code yX2_firstToFall cX2_firstToFall 2 (some (.object "ColdDryer$Group")) ∈ wsG := wi_2 (List.mem_of_getElem? (i := 113) rfl) rfl
theorem wd_2_114 : Cond.methodLink RL 81 yX4_trial ∈ wsG := wi_2 (List.mem_of_getElem? (i := 114) rfl) rfl
theorem wd_2_115 : Cond.instanceMethod yX4_trial ∈ wsG := wi_2 (List.mem_of_getElem? (i := 115) rfl) rfl
theorem wd_2_116 : Cond.selects RX4 yX4_trial yX4_trial ∈ wsG := wi_2 (List.mem_of_getElem? (i := 116) rfl) rfl
theorem wd_2_117 : Cond.code yX4_trial cX4_trial 4 (some .int) ∈ wsG := wi_2 (List.mem_of_getElem? (i := 117) rfl) rfl
theorem wd_2_118 : Cond.methodLink RX4 133 yX4_isMapped ∈ wsG := wi_2 (List.mem_of_getElem? (i := 118) rfl) rfl
theorem wd_2_119 : Cond.static yX4_isMapped ∈ wsG := wi_2 (List.mem_of_getElem? (i := 119) rfl) rfl
theorem wd_2_120 : Cond.code yX4_isMapped cX4_isMapped 2 (some .boolean) ∈ wsG := wi_2 (List.mem_of_getElem? (i := 120) rfl) rfl
theorem wd_2_121 : Cond.methodLink RX4 136 yX4_noneFalls ∈ wsG := wi_2 (List.mem_of_getElem? (i := 121) rfl) rfl
theorem wd_2_123 : Cond.instanceMethod yX4_noneFalls ∈ wsG := wi_2 (List.mem_of_getElem? (i := 123) rfl) rfl
theorem wd_2_124 : Cond.code yX4_noneFalls cX4_noneFalls 5 (some .boolean) ∈ wsG := wi_2 (List.mem_of_getElem? (i := 124) rfl) rfl
theorem wd_2_125 : Cond.methodLink RX4 155 yX2_fallenVials ∈ wsG := wi_2 (List.mem_of_getElem? (i := 125) rfl) rfl
theorem wd_2_126 : Cond.methodLink RL 85 yX4_tried ∈ wsG := wi_2 (List.mem_of_getElem? (i := 126) rfl) rfl
theorem wd_2_127 : Cond.instanceMethod yX4_tried ∈ wsG := wi_2 (List.mem_of_getElem? (i := 127) rfl) rfl
theorem wd_2_128 : Cond.selects RX4 yX4_tried yX4_tried ∈ wsG := wi_2 (List.mem_of_getElem? (i := 128) rfl) rfl
theorem wd_2_129 : Cond.code yX4_tried cX4_tried 2 (some .int) ∈ wsG := wi_2 (List.mem_of_getElem? (i := 129) rfl) rfl
theorem wd_2_130 : Cond.methodLink RX4 139 yX2_firstToFall ∈ wsG := wi_2 (List.mem_of_getElem? (i := 130) rfl) rfl
theorem wd_2_131 : Cond.methodLink RL 89 yX4_edge ∈ wsG := wi_2 (List.mem_of_getElem? (i := 131) rfl) rfl
theorem wd_2_132 : Cond.instanceMethod yX4_edge ∈ wsG := wi_2 (List.mem_of_getElem? (i := 132) rfl) rfl
theorem wd_2_133 : Cond.selects RX4 yX4_edge yX4_edge ∈ wsG := wi_2 (List.mem_of_getElem? (i := 133) rfl) rfl
theorem wd_2_134 : Cond.code yX4_edge cX4_edge 5 (some .int) ∈ wsG := wi_2 (List.mem_of_getElem? (i := 134) rfl) rfl
theorem wd_2_135 : Cond.methodLink RL 93 yX4_told ∈ wsG := wi_2 (List.mem_of_getElem? (i := 135) rfl) rfl
theorem wd_2_136 : Cond.instanceMethod yX4_told ∈ wsG := wi_2 (List.mem_of_getElem? (i := 136) rfl) rfl
theorem wd_2_137 : Cond.selects RX4 yX4_told yX4_told ∈ wsG := wi_2 (List.mem_of_getElem? (i := 137) rfl) rfl
theorem wd_2_138 : Cond.code yX4_told cX4_told 2 (some .int) ∈ wsG := wi_2 (List.mem_of_getElem? (i := 138) rfl) rfl
theorem wd_2_139 : Cond.methodLink RX4 149 yX3_valueOf ∈ wsG := wi_2 (List.mem_of_getElem? (i := 139) rfl) rfl
theorem wd_2_140 : Cond.classLink RL 10 RX5 ∈ wsG := wi_2 (List.mem_of_getElem? (i := 140) rfl) rfl
theorem wd_2_141 : Cond.instantiable RX5 21 ∈ wsG := wi_2 (List.mem_of_getElem? (i := 141) rfl) rfl
theorem wd_2_142 : Cond.methodLink RL 12 yX5_init ∈ wsG := wi_2 (List.mem_of_getElem? (i := 142) rfl) rfl
theorem wd_2_143 : Cond.instanceMethod yX5_init ∈ wsG := wi_2 (List.mem_of_getElem? (i := 143) rfl) rfl
theorem wd_2_144 : Cond.code yX5_init cX5_init 1 none ∈ wsG := wi_2 (List.mem_of_getElem? (i := 144) rfl) rfl
theorem wd_2_145 : Cond.methodLink RX5 1 objectInit ∈ wsG := wi_2 (List.mem_of_getElem? (i := 145) rfl) rfl
theorem wd_2_146 : Cond.fieldLink RX5 7 "ColdDryerModel" "rows" "I" ∈ wsG := wi_2 (List.mem_of_getElem? (i := 146) rfl) rfl
theorem wd_2_147 : Cond.fieldLink RX5 13 "ColdDryerModel" "columns" "I" ∈ wsG := wi_2 (List.mem_of_getElem? (i := 147) rfl) rfl
theorem wd_2_148 : Cond.fieldLink RX5 16 "ColdDryerModel" "rules" "[I" ∈ wsG := wi_2 (List.mem_of_getElem? (i := 148) rfl) rfl
theorem wd_2_149 : Cond.fieldLink RX5 76 "ColdDryerModel" "isLoaded" "Z" ∈ wsG := wi_2 (List.mem_of_getElem? (i := 149) rfl) rfl
theorem wd_2_150 : Cond.fieldLink RX5 20 "ColdDryerModel" "warmth" "I" ∈ wsG := wi_2 (List.mem_of_getElem? (i := 150) rfl) rfl
theorem wd_2_151 : Cond.fieldLink RX5 23 "ColdDryerModel" "pressureSet" "I" ∈ wsG := wi_2 (List.mem_of_getElem? (i := 151) rfl) rfl
theorem wd_2_152 : Cond.fieldLink RX5 26 "ColdDryerModel" "ice" "[I" ∈ wsG := wi_2 (List.mem_of_getElem? (i := 152) rfl) rfl
theorem wd_2_153 : Cond.fieldLink RX5 29 "ColdDryerModel" "warm" "[I" ∈ wsG := wi_2 (List.mem_of_getElem? (i := 153) rfl) rfl
theorem wd_2_154 : Cond.fieldLink RX5 32 "ColdDryerModel" "gave" "[I" ∈ wsG := wi_2 (List.mem_of_getElem? (i := 154) rfl) rfl
theorem wd_2_155 : Cond.fieldLink RX5 35 "ColdDryerModel" "fell" "[I" ∈ wsG := wi_2 (List.mem_of_getElem? (i := 155) rfl) rfl
theorem wd_2_156 : Cond.fieldLink RX5 38 "ColdDryerModel" "dryAt" "[I" ∈ wsG := wi_2 (List.mem_of_getElem? (i := 156) rfl) rfl
theorem wd_2_157 : Cond.fieldLink RX5 41 "ColdDryerModel" "minute" "[I" ∈ wsG := wi_2 (List.mem_of_getElem? (i := 157) rfl) rfl
theorem wd_2_158 : Cond.fieldLink RX5 44 "ColdDryerModel" "pressure" "[I" ∈ wsG := wi_2 (List.mem_of_getElem? (i := 158) rfl) rfl
theorem wd_2_159 : Cond.fieldLink RX5 47 "ColdDryerModel" "highest" "[I" ∈ wsG := wi_2 (List.mem_of_getElem? (i := 159) rfl) rfl
theorem wd_2_160 : Cond.fieldLink RX5 50 "ColdDryerModel" "all" "[I" ∈ wsG := wi_2 (List.mem_of_getElem? (i := 160) rfl) rfl
theorem wd_2_161 : Cond.fieldLink RX5 53 "ColdDryerModel" "steamed" "[I" ∈ wsG := wi_2 (List.mem_of_getElem? (i := 161) rfl) rfl
theorem wd_2_162 : Cond.fieldLink RX5 56 "ColdDryerModel" "one" "[I" ∈ wsG := wi_2 (List.mem_of_getElem? (i := 162) rfl) rfl
theorem wd_2_163 : Cond.fieldLink RX5 59 "ColdDryerModel" "other" "[I" ∈ wsG := wi_2 (List.mem_of_getElem? (i := 163) rfl) rfl
theorem wd_2_164 : Cond.fieldLink RX5 62 "ColdDryerModel" "wet" "[I" ∈ wsG := wi_2 (List.mem_of_getElem? (i := 164) rfl) rfl
theorem wd_2_165 : Cond.fieldLink RX5 144 "ColdDryerModel" "hasTried" "Z" ∈ wsG := wi_2 (List.mem_of_getElem? (i := 165) rfl) rfl
theorem wd_2_166 : Cond.fieldLink RX5 65 "ColdDryerModel" "tried" "[I" ∈ wsG := wi_2 (List.mem_of_getElem? (i := 166) rfl) rfl
theorem wd_2_167 : Cond.lays RX5 "ColdDryerModel" "rows" "I" ∈ wsG := wi_2 (List.mem_of_getElem? (i := 167) rfl) rfl
theorem wd_2_169 : Cond.lays RX5 "ColdDryerModel" "columns" "I" ∈ wsG := wi_2 (List.mem_of_getElem? (i := 169) rfl) rfl
theorem wd_2_171 : Cond.laysFinal RX5 "ColdDryerModel" "rules" "[I" ∈ wsG := wi_2 (List.mem_of_getElem? (i := 171) rfl) rfl
theorem wd_2_173 : Cond.lays RX5 "ColdDryerModel" "isLoaded" "Z" ∈ wsG := wi_2 (List.mem_of_getElem? (i := 173) rfl) rfl
theorem wd_2_175 : Cond.lays RX5 "ColdDryerModel" "warmth" "I" ∈ wsG := wi_2 (List.mem_of_getElem? (i := 175) rfl) rfl
theorem wd_2_177 : Cond.lays RX5 "ColdDryerModel" "pressureSet" "I" ∈ wsG := wi_2 (List.mem_of_getElem? (i := 177) rfl) rfl
theorem wd_2_179 : Cond.laysFinal RX5 "ColdDryerModel" "ice" "[I" ∈ wsG := wi_2 (List.mem_of_getElem? (i := 179) rfl) rfl
theorem wd_2_181 : Cond.laysFinal RX5 "ColdDryerModel" "warm" "[I" ∈ wsG := wi_2 (List.mem_of_getElem? (i := 181) rfl) rfl
theorem wd_2_183 : Cond.laysFinal RX5 "ColdDryerModel" "gave" "[I" ∈ wsG := wi_2 (List.mem_of_getElem? (i := 183) rfl) rfl
theorem wd_2_185 : Cond.laysFinal RX5 "ColdDryerModel" "fell" "[I" ∈ wsG := wi_2 (List.mem_of_getElem? (i := 185) rfl) rfl
theorem wd_2_187 : Cond.laysFinal RX5 "ColdDryerModel" "dryAt" "[I" ∈ wsG := wi_2 (List.mem_of_getElem? (i := 187) rfl) rfl
theorem wd_2_189 : Cond.laysFinal RX5 "ColdDryerModel" "minute" "[I" ∈ wsG := wi_2 (List.mem_of_getElem? (i := 189) rfl) rfl
theorem wd_2_191 : Cond.laysFinal RX5 "ColdDryerModel" "pressure" "[I" ∈ wsG := wi_2 (List.mem_of_getElem? (i := 191) rfl) rfl
theorem wd_2_193 : Cond.laysFinal RX5 "ColdDryerModel" "highest" "[I" ∈ wsG := wi_2 (List.mem_of_getElem? (i := 193) rfl) rfl
theorem wd_2_195 : Cond.laysFinal RX5 "ColdDryerModel" "all" "[I" ∈ wsG := wi_2 (List.mem_of_getElem? (i := 195) rfl) rfl
theorem wd_2_197 : Cond.laysFinal RX5 "ColdDryerModel" "steamed" "[I" ∈ wsG := wi_2 (List.mem_of_getElem? (i := 197) rfl) rfl
theorem wd_2_199 : Cond.laysFinal RX5 "ColdDryerModel" "one" "[I" ∈ wsG := wi_2 (List.mem_of_getElem? (i := 199) rfl) rfl
theorem wd_2_201 : Cond.laysFinal RX5 "ColdDryerModel" "other" "[I" ∈ wsG := wi_2 (List.mem_of_getElem? (i := 201) rfl) rfl
theorem wd_2_203 : Cond.laysFinal RX5 "ColdDryerModel" "wet" "[I" ∈ wsG := wi_2 (List.mem_of_getElem? (i := 203) rfl) rfl
theorem wd_2_205 : Cond.lays RX5 "ColdDryerModel" "hasTried" "Z" ∈ wsG := wi_2 (List.mem_of_getElem? (i := 205) rfl) rfl
theorem wd_2_207 : Cond.laysFinal RX5 "ColdDryerModel" "tried" "[I" ∈ wsG := wi_2 (List.mem_of_getElem? (i := 207) rfl) rfl
theorem wd_2_210 : Cond.methodLink RL 17 yX5_shelf ∈ wsG := wi_2 (List.mem_of_getElem? (i := 210) rfl) rfl
theorem wd_2_211 : Cond.instanceMethod yX5_shelf ∈ wsG := wi_2 (List.mem_of_getElem? (i := 211) rfl) rfl
theorem wd_2_212 : Cond.selects RX5 yX5_shelf yX5_shelf ∈ wsG := wi_2 (List.mem_of_getElem? (i := 212) rfl) rfl
theorem wd_2_213 : Cond.code yX5_shelf cX5_shelf 3 (some .int) ∈ wsG := wi_2 (List.mem_of_getElem? (i := 213) rfl) rfl
theorem wd_2_214 : Cond.constantLong RX5 68 (4) ∈ wsG := wi_2 (List.mem_of_getElem? (i := 214) rfl) rfl
theorem wd_2_215 : Cond.methodLink RX5 70 yX5_in ∈ wsG := wi_2 (List.mem_of_getElem? (i := 215) rfl) rfl
theorem wd_2_216 : Cond.static yX5_in ∈ wsG := wi_2 (List.mem_of_getElem? (i := 216) rfl) rfl
theorem wd_2_217 : Cond.code yX5_in cX5_in 6 (some .boolean) ∈ wsG := wi_2 (List.mem_of_getElem? (i := 217) rfl) rfl
theorem wd_2_218 : Cond.constantLong RX5 74 (6) ∈ wsG := wi_2 (List.mem_of_getElem? (i := 218) rfl) rfl
theorem wd_2_219 : Cond.methodLink RX5 80 yX5_vials ∈ wsG := wi_2 (List.mem_of_getElem? (i := 219) rfl) rfl
theorem wd_2_221 : Cond.instanceMethod yX5_vials ∈ wsG := wi_2 (List.mem_of_getElem? (i := 221) rfl) rfl
theorem wd_2_222 : Cond.code yX5_vials cX5_vials 1 (some .int) ∈ wsG := wi_2 (List.mem_of_getElem? (i := 222) rfl) rfl
theorem wd_2_223 : Cond.methodLink RL 21 yX5_rule ∈ wsG := wi_2 (List.mem_of_getElem? (i := 223) rfl) rfl
theorem wd_2_224 : Cond.instanceMethod yX5_rule ∈ wsG := wi_2 (List.mem_of_getElem? (i := 224) rfl) rfl
theorem wd_2_225 : Cond.selects RX5 yX5_rule yX5_rule ∈ wsG := wi_2 (List.mem_of_getElem? (i := 225) rfl) rfl
theorem wd_2_226 : Cond.code yX5_rule cX5_rule 4 (some .int) ∈ wsG := wi_2 (List.mem_of_getElem? (i := 226) rfl) rfl
theorem wd_2_227 : Cond.constantLong RX5 84 (10) ∈ wsG := wi_2 (List.mem_of_getElem? (i := 227) rfl) rfl
theorem wd_2_228 : Cond.methodLink RX5 86 yX5_leastOf ∈ wsG := wi_2 (List.mem_of_getElem? (i := 228) rfl) rfl
theorem wd_2_229 : Cond.static yX5_leastOf ∈ wsG := wi_2 (List.mem_of_getElem? (i := 229) rfl) rfl
theorem wd_2_230 : Cond.code yX5_leastOf cX5_leastOf 1 (some .int) ∈ wsG := wi_2 (List.mem_of_getElem? (i := 230) rfl) rfl
theorem wd_2_231 : Cond.methodLink RX5 90 yX5_mostOf ∈ wsG := wi_2 (List.mem_of_getElem? (i := 231) rfl) rfl
theorem wd_2_232 : Cond.static yX5_mostOf ∈ wsG := wi_2 (List.mem_of_getElem? (i := 232) rfl) rfl
theorem wd_2_233 : Cond.code yX5_mostOf cX5_mostOf 1 (some .int) ∈ wsG := wi_2 (List.mem_of_getElem? (i := 233) rfl) rfl
theorem wd_2_234 : Cond.methodLink RL 26 yX5_vapour ∈ wsG := wi_2 (List.mem_of_getElem? (i := 234) rfl) rfl
theorem wd_2_235 : Cond.instanceMethod yX5_vapour ∈ wsG := wi_2 (List.mem_of_getElem? (i := 235) rfl) rfl
theorem wd_2_236 : Cond.selects RX5 yX5_vapour yX5_vapour ∈ wsG := wi_2 (List.mem_of_getElem? (i := 236) rfl) rfl
theorem wd_2_237 : Cond.code yX5_vapour cX5_vapour 2 (some .int) ∈ wsG := wi_2 (List.mem_of_getElem? (i := 237) rfl) rfl
theorem wd_2_238 : Cond.constantLong RX5 96 (-600) ∈ wsG := wi_2 (List.mem_of_getElem? (i := 238) rfl) rfl
theorem wd_2_239 : Cond.methodLink RX5 98 yX5_vapourAt ∈ wsG := wi_2 (List.mem_of_getElem? (i := 239) rfl) rfl
theorem wd_3_0 : Cond.static yX5_vapourAt ∈ wsG := wi_3 (List.mem_of_getElem? (i := 0) rfl) rfl
theorem wd_3_1 : Cond.code yX5_vapourAt cX5_vapourAt 3 (some .int) ∈ wsG := wi_3 (List.mem_of_getElem? (i := 1) rfl) rfl
theorem wd_3_2 : Cond.methodLink RX5 93 yX5_bend ∈ wsG := wi_3 (List.mem_of_getElem? (i := 2) rfl) rfl
theorem wd_3_3 : Cond.static yX5_bend ∈ wsG := wi_3 (List.mem_of_getElem? (i := 3) rfl) rfl
theorem wd_3_4 : Cond.code yX5_bend cX5_bend 1 (some .int) ∈ wsG := wi_3 (List.mem_of_getElem? (i := 4) rfl) rfl
theorem wd_3_5 : Cond.methodLink RL 31 yX5_steam ∈ wsG := wi_3 (List.mem_of_getElem? (i := 5) rfl) rfl
theorem wd_3_6 : Cond.instanceMethod yX5_steam ∈ wsG := wi_3 (List.mem_of_getElem? (i := 6) rfl) rfl
theorem wd_3_7 : Cond.selects RX5 yX5_steam yX5_steam ∈ wsG := wi_3 (List.mem_of_getElem? (i := 7) rfl) rfl
theorem wd_3_8 : Cond.code yX5_steam cX5_steam 4 (some .int) ∈ wsG := wi_3 (List.mem_of_getElem? (i := 8) rfl) rfl
theorem wd_3_9 : Cond.constantLong RX5 101 (100) ∈ wsG := wi_3 (List.mem_of_getElem? (i := 9) rfl) rfl
theorem wd_3_10 : Cond.constantLong RX5 103 (20000) ∈ wsG := wi_3 (List.mem_of_getElem? (i := 10) rfl) rfl
theorem wd_3_11 : Cond.methodLink RX5 105 yX5_steamAt ∈ wsG := wi_3 (List.mem_of_getElem? (i := 11) rfl) rfl
theorem wd_3_13 : Cond.instanceMethod yX5_steamAt ∈ wsG := wi_3 (List.mem_of_getElem? (i := 13) rfl) rfl
theorem wd_3_14 : Cond.code yX5_steamAt cX5_steamAt 5 (some .int) ∈ wsG := wi_3 (List.mem_of_getElem? (i := 14) rfl) rfl
theorem wd_3_15 : Cond.methodLink RL 35 yX5_rim ∈ wsG := wi_3 (List.mem_of_getElem? (i := 15) rfl) rfl
theorem wd_3_16 : Cond.instanceMethod yX5_rim ∈ wsG := wi_3 (List.mem_of_getElem? (i := 16) rfl) rfl
theorem wd_3_17 : Cond.selects RX5 yX5_rim yX5_rim ∈ wsG := wi_3 (List.mem_of_getElem? (i := 17) rfl) rfl
theorem wd_3_18 : Cond.code yX5_rim cX5_rim 2 (some .int) ∈ wsG := wi_3 (List.mem_of_getElem? (i := 18) rfl) rfl
theorem wd_3_19 : Cond.methodLink RX5 109 yX5_isRim ∈ wsG := wi_3 (List.mem_of_getElem? (i := 19) rfl) rfl
theorem wd_3_21 : Cond.instanceMethod yX5_isRim ∈ wsG := wi_3 (List.mem_of_getElem? (i := 21) rfl) rfl
theorem wd_3_22 : Cond.code yX5_isRim cX5_isRim 4 (some .boolean) ∈ wsG := wi_3 (List.mem_of_getElem? (i := 22) rfl) rfl
theorem wd_3_23 : Cond.methodLink RL 40 yX5_load ∈ wsG := wi_3 (List.mem_of_getElem? (i := 23) rfl) rfl
theorem wd_3_24 : Cond.instanceMethod yX5_load ∈ wsG := wi_3 (List.mem_of_getElem? (i := 24) rfl) rfl
theorem wd_3_25 : Cond.selects RX5 yX5_load yX5_load ∈ wsG := wi_3 (List.mem_of_getElem? (i := 25) rfl) rfl
theorem wd_3_26 : Cond.code yX5_load cX5_load 1 (some .int) ∈ wsG := wi_3 (List.mem_of_getElem? (i := 26) rfl) rfl
theorem wd_3_27 : Cond.methodLink RX5 120 yX5_fill ∈ wsG := wi_3 (List.mem_of_getElem? (i := 27) rfl) rfl
theorem wd_3_29 : Cond.instanceMethod yX5_fill ∈ wsG := wi_3 (List.mem_of_getElem? (i := 29) rfl) rfl
theorem wd_3_30 : Cond.code yX5_fill cX5_fill 4 none ∈ wsG := wi_3 (List.mem_of_getElem? (i := 30) rfl) rfl
theorem wd_3_31 : Cond.methodLink RL 44 yX5_warm ∈ wsG := wi_3 (List.mem_of_getElem? (i := 31) rfl) rfl
theorem wd_3_32 : Cond.instanceMethod yX5_warm ∈ wsG := wi_3 (List.mem_of_getElem? (i := 32) rfl) rfl
theorem wd_3_33 : Cond.selects RX5 yX5_warm yX5_warm ∈ wsG := wi_3 (List.mem_of_getElem? (i := 33) rfl) rfl
theorem wd_3_34 : Cond.code yX5_warm cX5_warm 3 (some .int) ∈ wsG := wi_3 (List.mem_of_getElem? (i := 34) rfl) rfl
theorem wd_3_35 : Cond.constantLong RX5 124 (400) ∈ wsG := wi_3 (List.mem_of_getElem? (i := 35) rfl) rfl
theorem wd_3_36 : Cond.methodLink RL 48 yX5_set ∈ wsG := wi_3 (List.mem_of_getElem? (i := 36) rfl) rfl
theorem wd_3_37 : Cond.instanceMethod yX5_set ∈ wsG := wi_3 (List.mem_of_getElem? (i := 37) rfl) rfl
theorem wd_3_38 : Cond.selects RX5 yX5_set yX5_set ∈ wsG := wi_3 (List.mem_of_getElem? (i := 38) rfl) rfl
theorem wd_3_39 : Cond.code yX5_set cX5_set 3 (some .int) ∈ wsG := wi_3 (List.mem_of_getElem? (i := 39) rfl) rfl
theorem wd_3_40 : Cond.constantLong RX5 126 (5000) ∈ wsG := wi_3 (List.mem_of_getElem? (i := 40) rfl) rfl
theorem wd_3_41 : Cond.methodLink RL 52 yX5_run ∈ wsG := wi_3 (List.mem_of_getElem? (i := 41) rfl) rfl
theorem wd_3_42 : Cond.instanceMethod yX5_run ∈ wsG := wi_3 (List.mem_of_getElem? (i := 42) rfl) rfl
theorem wd_3_43 : Cond.selects RX5 yX5_run yX5_run ∈ wsG := wi_3 (List.mem_of_getElem? (i := 43) rfl) rfl
theorem wd_3_44 : Cond.code yX5_run cX5_run 4 (some .int) ∈ wsG := wi_3 (List.mem_of_getElem? (i := 44) rfl) rfl
theorem wd_3_45 : Cond.constantLong RX5 128 (500) ∈ wsG := wi_3 (List.mem_of_getElem? (i := 45) rfl) rfl
theorem wd_3_46 : Cond.methodLink RX5 130 yX5_goOn ∈ wsG := wi_3 (List.mem_of_getElem? (i := 46) rfl) rfl
theorem wd_3_48 : Cond.instanceMethod yX5_goOn ∈ wsG := wi_3 (List.mem_of_getElem? (i := 48) rfl) rfl
theorem wd_3_49 : Cond.code yX5_goOn cX5_goOn 10 none ∈ wsG := wi_3 (List.mem_of_getElem? (i := 49) rfl) rfl
theorem wd_3_50 : Cond.methodLink RX5 117 yX5_warmthOf ∈ wsG := wi_3 (List.mem_of_getElem? (i := 50) rfl) rfl
theorem wd_3_52 : Cond.instanceMethod yX5_warmthOf ∈ wsG := wi_3 (List.mem_of_getElem? (i := 52) rfl) rfl
theorem wd_3_53 : Cond.code yX5_warmthOf cX5_warmthOf 7 (some .int) ∈ wsG := wi_3 (List.mem_of_getElem? (i := 53) rfl) rfl
theorem wd_3_54 : Cond.methodLink RX5 113 yX5_holds ∈ wsG := wi_3 (List.mem_of_getElem? (i := 54) rfl) rfl
theorem wd_3_56 : Cond.instanceMethod yX5_holds ∈ wsG := wi_3 (List.mem_of_getElem? (i := 56) rfl) rfl
theorem wd_3_57 : Cond.code yX5_holds cX5_holds 7 (some .boolean) ∈ wsG := wi_3 (List.mem_of_getElem? (i := 57) rfl) rfl
theorem wd_3_58 : Cond.methodLink RX5 134 yX5_wetOf ∈ wsG := wi_3 (List.mem_of_getElem? (i := 58) rfl) rfl
theorem wd_3_60 : Cond.instanceMethod yX5_wetOf ∈ wsG := wi_3 (List.mem_of_getElem? (i := 60) rfl) rfl
theorem wd_3_61 : Cond.code yX5_wetOf cX5_wetOf 4 (some .int) ∈ wsG := wi_3 (List.mem_of_getElem? (i := 61) rfl) rfl
theorem wd_3_62 : Cond.methodLink RL 56 yX5_unload ∈ wsG := wi_3 (List.mem_of_getElem? (i := 62) rfl) rfl
theorem wd_3_63 : Cond.instanceMethod yX5_unload ∈ wsG := wi_3 (List.mem_of_getElem? (i := 63) rfl) rfl
theorem wd_3_64 : Cond.selects RX5 yX5_unload yX5_unload ∈ wsG := wi_3 (List.mem_of_getElem? (i := 64) rfl) rfl
theorem wd_3_65 : Cond.code yX5_unload cX5_unload 1 (some .int) ∈ wsG := wi_3 (List.mem_of_getElem? (i := 65) rfl) rfl
theorem wd_3_66 : Cond.methodLink RL 60 yX5_vial ∈ wsG := wi_3 (List.mem_of_getElem? (i := 66) rfl) rfl
theorem wd_3_67 : Cond.instanceMethod yX5_vial ∈ wsG := wi_3 (List.mem_of_getElem? (i := 67) rfl) rfl
theorem wd_3_68 : Cond.selects RX5 yX5_vial yX5_vial ∈ wsG := wi_3 (List.mem_of_getElem? (i := 68) rfl) rfl
theorem wd_3_69 : Cond.code yX5_vial cX5_vial 3 (some .int) ∈ wsG := wi_3 (List.mem_of_getElem? (i := 69) rfl) rfl
theorem wd_3_70 : Cond.methodLink RL 64 yX5_about ∈ wsG := wi_3 (List.mem_of_getElem? (i := 70) rfl) rfl
theorem wd_3_71 : Cond.instanceMethod yX5_about ∈ wsG := wi_3 (List.mem_of_getElem? (i := 71) rfl) rfl
theorem wd_3_72 : Cond.selects RX5 yX5_about yX5_about ∈ wsG := wi_3 (List.mem_of_getElem? (i := 72) rfl) rfl
theorem wd_3_73 : Cond.code yX5_about cX5_about 5 (some .int) ∈ wsG := wi_3 (List.mem_of_getElem? (i := 73) rfl) rfl
theorem wd_3_74 : Cond.constantLong RX5 137 (9) ∈ wsG := wi_3 (List.mem_of_getElem? (i := 74) rfl) rfl
theorem wd_3_75 : Cond.methodLink RL 68 yX5_gauge ∈ wsG := wi_3 (List.mem_of_getElem? (i := 75) rfl) rfl
theorem wd_3_76 : Cond.instanceMethod yX5_gauge ∈ wsG := wi_3 (List.mem_of_getElem? (i := 76) rfl) rfl
theorem wd_3_77 : Cond.selects RX5 yX5_gauge yX5_gauge ∈ wsG := wi_3 (List.mem_of_getElem? (i := 77) rfl) rfl
theorem wd_3_78 : Cond.code yX5_gauge cX5_gauge 3 (some .int) ∈ wsG := wi_3 (List.mem_of_getElem? (i := 78) rfl) rfl
theorem wd_3_79 : Cond.methodLink RL 72 yX5_end ∈ wsG := wi_3 (List.mem_of_getElem? (i := 79) rfl) rfl
theorem wd_3_80 : Cond.instanceMethod yX5_end ∈ wsG := wi_3 (List.mem_of_getElem? (i := 80) rfl) rfl
theorem wd_3_81 : Cond.selects RX5 yX5_end yX5_end ∈ wsG := wi_3 (List.mem_of_getElem? (i := 81) rfl) rfl
theorem wd_3_82 : Cond.code yX5_end cX5_end 5 (some .int) ∈ wsG := wi_3 (List.mem_of_getElem? (i := 82) rfl) rfl
theorem wd_3_83 : Cond.constantLong RX5 139 (60) ∈ wsG := wi_3 (List.mem_of_getElem? (i := 83) rfl) rfl
theorem wd_3_84 : Cond.methodLink RL 76 yX5_wet ∈ wsG := wi_3 (List.mem_of_getElem? (i := 84) rfl) rfl
theorem wd_3_85 : Cond.instanceMethod yX5_wet ∈ wsG := wi_3 (List.mem_of_getElem? (i := 85) rfl) rfl
theorem wd_3_86 : Cond.selects RX5 yX5_wet yX5_wet ∈ wsG := wi_3 (List.mem_of_getElem? (i := 86) rfl) rfl
theorem wd_3_87 : Cond.code yX5_wet cX5_wet 2 (some .int) ∈ wsG := wi_3 (List.mem_of_getElem? (i := 87) rfl) rfl
theorem wd_3_88 : Cond.methodLink RL 80 yX5_firstFallen ∈ wsG := wi_3 (List.mem_of_getElem? (i := 88) rfl) rfl
theorem wd_3_89 : Cond.instanceMethod yX5_firstFallen ∈ wsG := wi_3 (List.mem_of_getElem? (i := 89) rfl) rfl
theorem wd_3_90 : Cond.selects RX5 yX5_firstFallen yX5_firstFallen ∈ wsG := wi_3 (List.mem_of_getElem? (i := 90) rfl) rfl
theorem wd_3_91 : Cond.code yX5_firstFallen cX5_firstFallen 1 (some .int) ∈ wsG := wi_3 (List.mem_of_getElem? (i := 91) rfl) rfl
theorem wd_3_92 : Cond.methodLink RX5 141 yX5_firstOf ∈ wsG := wi_3 (List.mem_of_getElem? (i := 92) rfl) rfl
theorem wd_3_94 : Cond.instanceMethod yX5_firstOf ∈ wsG := wi_3 (List.mem_of_getElem? (i := 94) rfl) rfl
theorem wd_3_95 : Cond.code yX5_firstOf cX5_firstOf 5 (some .int) ∈ wsG := wi_3 (List.mem_of_getElem? (i := 95) rfl) rfl
theorem wd_3_96 : Cond.methodLink RL 84 yX5_trial ∈ wsG := wi_3 (List.mem_of_getElem? (i := 96) rfl) rfl
theorem wd_3_97 : Cond.instanceMethod yX5_trial ∈ wsG := wi_3 (List.mem_of_getElem? (i := 97) rfl) rfl
theorem wd_3_98 : Cond.selects RX5 yX5_trial yX5_trial ∈ wsG := wi_3 (List.mem_of_getElem? (i := 98) rfl) rfl
theorem wd_3_99 : Cond.code yX5_trial cX5_trial 5 (some .int) ∈ wsG := wi_3 (List.mem_of_getElem? (i := 99) rfl) rfl
theorem wd_3_100 : Cond.methodLink RX5 147 yX5_tries ∈ wsG := wi_3 (List.mem_of_getElem? (i := 100) rfl) rfl
theorem wd_3_102 : Cond.instanceMethod yX5_tries ∈ wsG := wi_3 (List.mem_of_getElem? (i := 102) rfl) rfl
theorem wd_3_103 : Cond.code yX5_tries cX5_tries 6 (some .int) ∈ wsG := wi_3 (List.mem_of_getElem? (i := 103) rfl) rfl
theorem wd_3_104 : Cond.methodLink RL 88 yX5_tried ∈ wsG := wi_3 (List.mem_of_getElem? (i := 104) rfl) rfl
theorem wd_3_105 : Cond.instanceMethod yX5_tried ∈ wsG := wi_3 (List.mem_of_getElem? (i := 105) rfl) rfl
theorem wd_3_106 : Cond.selects RX5 yX5_tried yX5_tried ∈ wsG := wi_3 (List.mem_of_getElem? (i := 106) rfl) rfl
theorem wd_3_107 : Cond.code yX5_tried cX5_tried 2 (some .int) ∈ wsG := wi_3 (List.mem_of_getElem? (i := 107) rfl) rfl
theorem wd_3_108 : Cond.methodLink RL 92 yX5_edge ∈ wsG := wi_3 (List.mem_of_getElem? (i := 108) rfl) rfl
theorem wd_3_109 : Cond.instanceMethod yX5_edge ∈ wsG := wi_3 (List.mem_of_getElem? (i := 109) rfl) rfl
theorem wd_3_110 : Cond.selects RX5 yX5_edge yX5_edge ∈ wsG := wi_3 (List.mem_of_getElem? (i := 110) rfl) rfl
theorem wd_3_111 : Cond.code yX5_edge cX5_edge 4 (some .int) ∈ wsG := wi_3 (List.mem_of_getElem? (i := 111) rfl) rfl
theorem wd_3_112 : Cond.methodLink RL 96 yX5_told ∈ wsG := wi_3 (List.mem_of_getElem? (i := 112) rfl) rfl
theorem wd_3_113 : Cond.instanceMethod yX5_told ∈ wsG := wi_3 (List.mem_of_getElem? (i := 113) rfl) rfl
theorem wd_3_114 : Cond.selects RX5 yX5_told yX5_told ∈ wsG := wi_3 (List.mem_of_getElem? (i := 114) rfl) rfl
theorem wd_3_115 : Cond.code yX5_told cX5_told 2 (some .int) ∈ wsG := wi_3 (List.mem_of_getElem? (i := 115) rfl) rfl
theorem wd_3_116 : Cond.constantLong RX5 150 (20) ∈ wsG := wi_3 (List.mem_of_getElem? (i := 116) rfl) rfl
theorem wd_0_0 : Cond.selects RX4 yX4_places yX4_places ∈ wsG := wi_0 (List.mem_of_getElem? (i := 0) rfl) rfl
theorem wd_0_1 : Cond.selects RX4 yX4_isAtRim yX4_isAtRim ∈ wsG := wi_0 (List.mem_of_getElem? (i := 1) rfl) rfl
theorem wd_0_2 : Cond.selects RX0 yX0_balance yX0_balance ∈ wsG := wi_0 (List.mem_of_getElem? (i := 2) rfl) rfl
theorem wd_0_3 : Cond.selects RX2 yX2_pressureBehind yX2_pressureBehind ∈ wsG := wi_0 (List.mem_of_getElem? (i := 3) rfl) rfl
theorem wd_0_4 : Cond.selects RX4 yX4_noneFalls yX4_noneFalls ∈ wsG := wi_0 (List.mem_of_getElem? (i := 4) rfl) rfl
theorem wd_0_5 : Cond.selects RX5 yX5_vials yX5_vials ∈ wsG := wi_0 (List.mem_of_getElem? (i := 5) rfl) rfl
theorem wd_0_6 : Cond.selects RX5 yX5_steamAt yX5_steamAt ∈ wsG := wi_0 (List.mem_of_getElem? (i := 6) rfl) rfl
theorem wd_0_7 : Cond.selects RX5 yX5_isRim yX5_isRim ∈ wsG := wi_0 (List.mem_of_getElem? (i := 7) rfl) rfl
theorem wd_0_8 : Cond.selects RX5 yX5_fill yX5_fill ∈ wsG := wi_0 (List.mem_of_getElem? (i := 8) rfl) rfl
theorem wd_0_9 : Cond.selects RX5 yX5_goOn yX5_goOn ∈ wsG := wi_0 (List.mem_of_getElem? (i := 9) rfl) rfl
theorem wd_0_10 : Cond.selects RX5 yX5_warmthOf yX5_warmthOf ∈ wsG := wi_0 (List.mem_of_getElem? (i := 10) rfl) rfl
theorem wd_0_11 : Cond.selects RX5 yX5_holds yX5_holds ∈ wsG := wi_0 (List.mem_of_getElem? (i := 11) rfl) rfl
theorem wd_0_12 : Cond.selects RX5 yX5_wetOf yX5_wetOf ∈ wsG := wi_0 (List.mem_of_getElem? (i := 12) rfl) rfl
theorem wd_0_13 : Cond.selects RX5 yX5_firstOf yX5_firstOf ∈ wsG := wi_0 (List.mem_of_getElem? (i := 13) rfl) rfl
theorem wd_0_14 : Cond.selects RX5 yX5_tries yX5_tries ∈ wsG := wi_0 (List.mem_of_getElem? (i := 14) rfl) rfl
theorem igX0 : ∀ w ∈ u_ws RX0 TX0 8, w ∈ wsG := by
  intro w h
  obtain ⟨k, hk, rfl⟩ := List.mem_map.mp h
  have hk := List.mem_range.mp hk
  rcases (by omega : k = 0 ∨ k = 1 ∨ k = 2 ∨ k = 3 ∨ k = 4 ∨ k = 5 ∨ k = 6 ∨ k = 7) with rfl | rfl | rfl | rfl | rfl | rfl | rfl | rfl
  · exact wd_1_59
  · exact wd_1_61
  · exact wd_1_63
  · exact wd_1_65
  · exact wd_1_67
  · exact wd_1_69
  · exact wd_1_71
  · exact wd_1_73
theorem igX1 : ∀ w ∈ u_ws RX1 TX1 3, w ∈ wsG := by
  intro w h
  obtain ⟨k, hk, rfl⟩ := List.mem_map.mp h
  have hk := List.mem_range.mp hk
  rcases (by omega : k = 0 ∨ k = 1 ∨ k = 2) with rfl | rfl | rfl
  · exact wd_1_113
  · exact wd_1_115
  · exact wd_1_117
theorem igX2 : ∀ w ∈ u_ws RX2 TX2 7, w ∈ wsG := by
  intro w h
  obtain ⟨k, hk, rfl⟩ := List.mem_map.mp h
  have hk := List.mem_range.mp hk
  rcases (by omega : k = 0 ∨ k = 1 ∨ k = 2 ∨ k = 3 ∨ k = 4 ∨ k = 5 ∨ k = 6) with rfl | rfl | rfl | rfl | rfl | rfl | rfl
  · exact wd_1_89
  · exact wd_1_91
  · exact wd_1_93
  · exact wd_1_95
  · exact wd_1_97
  · exact wd_1_99
  · exact wd_1_101
theorem igX3 : ∀ w ∈ u_ws RX3 TX3 1, w ∈ wsG := by
  intro w h
  obtain ⟨k, hk, rfl⟩ := List.mem_map.mp h
  have hk := List.mem_range.mp hk
  rcases (by omega : k = 0) with rfl
  · exact wd_1_29
theorem igX4 : ∀ w ∈ u_ws RX4 TX4 10, w ∈ wsG := by
  intro w h
  obtain ⟨k, hk, rfl⟩ := List.mem_map.mp h
  have hk := List.mem_range.mp hk
  rcases (by omega : k = 0 ∨ k = 1 ∨ k = 2 ∨ k = 3 ∨ k = 4 ∨ k = 5 ∨ k = 6 ∨ k = 7 ∨ k = 8 ∨ k = 9) with rfl | rfl | rfl | rfl | rfl | rfl | rfl | rfl | rfl | rfl
  · exact wd_1_130
  · exact wd_1_132
  · exact wd_1_134
  · exact wd_1_136
  · exact wd_1_138
  · exact wd_1_140
  · exact wd_1_142
  · exact wd_1_144
  · exact wd_1_146
  · exact wd_1_148
theorem igX5 : ∀ w ∈ u_ws RX5 TX5 21, w ∈ wsG := by
  intro w h
  obtain ⟨k, hk, rfl⟩ := List.mem_map.mp h
  have hk := List.mem_range.mp hk
  rcases (by omega : k = 0 ∨ k = 1 ∨ k = 2 ∨ k = 3 ∨ k = 4 ∨ k = 5 ∨ k = 6 ∨ k = 7 ∨ k = 8 ∨ k = 9 ∨ k = 10 ∨ k = 11 ∨ k = 12 ∨ k = 13 ∨ k = 14 ∨ k = 15 ∨ k = 16 ∨ k = 17 ∨ k = 18 ∨ k = 19 ∨ k = 20) with rfl | rfl | rfl | rfl | rfl | rfl | rfl | rfl | rfl | rfl | rfl | rfl | rfl | rfl | rfl | rfl | rfl | rfl | rfl | rfl | rfl
  · exact wd_2_167
  · exact wd_2_169
  · exact wd_2_171
  · exact wd_2_173
  · exact wd_2_175
  · exact wd_2_177
  · exact wd_2_179
  · exact wd_2_181
  · exact wd_2_183
  · exact wd_2_185
  · exact wd_2_187
  · exact wd_2_189
  · exact wd_2_191
  · exact wd_2_193
  · exact wd_2_195
  · exact wd_2_197
  · exact wd_2_199
  · exact wd_2_201
  · exact wd_2_203
  · exact wd_2_205
  · exact wd_2_207
