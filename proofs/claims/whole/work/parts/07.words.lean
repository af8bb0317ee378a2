/-! the good words of the tables: gW; each word that a walk needs, with the row that it is there -/
def gW : List Cond := lw_tbl.filter goodWord
theorem gW_tbl : ∀ w ∈ gW, w ∈ lw_tbl := fun _ h => (List.mem_filter.mp h).1
theorem gW_good : ∀ w ∈ gW, (w.onTables && w.keeps) = true ∨ ∃ ty, w = .arrayClass ty := fun _ h => good_of_word (List.mem_filter.mp h).2
theorem gW_s {w : Cond} (h : w ∈ k2_sels lw_privs) (g : goodWord w = true) : w ∈ gW := List.mem_filter.mpr ⟨List.mem_append_left _ h, g⟩
theorem gW_1 {w : Cond} (h : w ∈ tables_1_1) (g : goodWord w = true) : w ∈ gW := List.mem_filter.mpr ⟨List.mem_append_right _ (List.mem_append_left _ h), g⟩
theorem gW_2 {w : Cond} (h : w ∈ tables_1_2) (g : goodWord w = true) : w ∈ gW := List.mem_filter.mpr ⟨List.mem_append_right _ (List.mem_append_right _ (List.mem_append_left _ h)), g⟩
theorem gW_3 {w : Cond} (h : w ∈ tables_1_3) (g : goodWord w = true) : w ∈ gW := List.mem_filter.mpr ⟨List.mem_append_right _ (List.mem_append_right _ (List.mem_append_right _ (List.mem_append_left _ h))), g⟩
theorem gW_4 {w : Cond} (h : w ∈ tables_1_4) (g : goodWord w = true) : w ∈ gW := List.mem_filter.mpr ⟨List.mem_append_right _ (List.mem_append_right _ (List.mem_append_right _ (List.mem_append_right _ (List.mem_append_left _ h)))), g⟩
theorem gW_5 {w : Cond} (h : w ∈ tables_1_5) (g : goodWord w = true) : w ∈ gW := List.mem_filter.mpr ⟨List.mem_append_right _ (List.mem_append_right _ (List.mem_append_right _ (List.mem_append_right _ (List.mem_append_right _ h)))), g⟩
theorem w1_0 : Cond.initialized RL ∈ gW := gW_1 (List.mem_of_getElem? (i := 0) rfl) rfl
theorem w1_1 : Cond.initialized RX6 ∈ gW := gW_1 (List.mem_of_getElem? (i := 1) rfl) rfl
theorem w1_2 : Cond.initialized RX0 ∈ gW := gW_1 (List.mem_of_getElem? (i := 2) rfl) rfl
theorem w1_3 : Cond.initialized RX3 ∈ gW := gW_1 (List.mem_of_getElem? (i := 3) rfl) rfl
theorem w1_4 : Cond.initialized RX1 ∈ gW := gW_1 (List.mem_of_getElem? (i := 4) rfl) rfl
theorem w1_5 : Cond.initialized RX5 ∈ gW := gW_1 (List.mem_of_getElem? (i := 5) rfl) rfl
theorem w1_6 : Cond.initialized RJ9 ∈ gW := gW_1 (List.mem_of_getElem? (i := 6) rfl) rfl
theorem w1_7 : Cond.initialized RX2 ∈ gW := gW_1 (List.mem_of_getElem? (i := 7) rfl) rfl
theorem w1_8 : Cond.initialized RX8 ∈ gW := gW_1 (List.mem_of_getElem? (i := 8) rfl) rfl
theorem w1_9 : Cond.initialized RX7 ∈ gW := gW_1 (List.mem_of_getElem? (i := 9) rfl) rfl
theorem w1_10 : Cond.initialized "java/lang/Throwable" ∈ gW := gW_1 (List.mem_of_getElem? (i := 10) rfl) rfl
theorem w1_11 : Cond.initialized "java/lang/Exception" ∈ gW := gW_1 (List.mem_of_getElem? (i := 11) rfl) rfl
theorem w1_12 : Cond.initialized "java/lang/RuntimeException" ∈ gW := gW_1 (List.mem_of_getElem? (i := 12) rfl) rfl
theorem w1_13 : Cond.initialized "java/lang/IllegalArgumentException" ∈ gW := gW_1 (List.mem_of_getElem? (i := 13) rfl) rfl
theorem w1_14 : Cond.initialized "java/lang/IllegalStateException" ∈ gW := gW_1 (List.mem_of_getElem? (i := 14) rfl) rfl
theorem w1_15 : Cond.initialized RX4 ∈ gW := gW_1 (List.mem_of_getElem? (i := 15) rfl) rfl
theorem w1_16 : Cond.initialized RJ10 ∈ gW := gW_1 (List.mem_of_getElem? (i := 16) rfl) rfl
theorem w1_17 : Cond.initialized "java/lang/IndexOutOfBoundsException" ∈ gW := gW_1 (List.mem_of_getElem? (i := 17) rfl) rfl
theorem w1_18 : Cond.initialized RJ6 ∈ gW := gW_1 (List.mem_of_getElem? (i := 18) rfl) rfl
theorem w1_19 : Cond.classLink RL 8 RX6 ∈ gW := gW_1 (List.mem_of_getElem? (i := 19) rfl) rfl
theorem w1_20 : Cond.instantiable RX6 3 ∈ gW := gW_1 (List.mem_of_getElem? (i := 20) rfl) rfl
theorem w1_21 : Cond.methodLink RL 77 yX6_init ∈ gW := gW_1 (List.mem_of_getElem? (i := 21) rfl) rfl
theorem w1_22 : Cond.instanceMethod yX6_init ∈ gW := gW_1 (List.mem_of_getElem? (i := 22) rfl) rfl
theorem w1_23 : Cond.code yX6_init cX6_init 1 none ∈ gW := gW_1 (List.mem_of_getElem? (i := 23) rfl) rfl
theorem w1_24 : Cond.methodLink RX6 1 ⟨"java/lang/Object", "<init>", "()V"⟩ ∈ gW := gW_1 (List.mem_of_getElem? (i := 24) rfl) rfl
theorem w1_25 : Cond.instanceMethod ⟨"java/lang/Object", "<init>", "()V"⟩ ∈ gW := gW_1 (List.mem_of_getElem? (i := 25) rfl) rfl
theorem w1_26 : Cond.code ⟨"java/lang/Object", "<init>", "()V"⟩ object_method_1_code 1 none ∈ gW := gW_1 (List.mem_of_getElem? (i := 26) rfl) rfl
theorem w1_27 : Cond.classLink RX6 7 RX0 ∈ gW := gW_1 (List.mem_of_getElem? (i := 27) rfl) rfl
theorem w1_28 : Cond.instantiable RX0 7 ∈ gW := gW_1 (List.mem_of_getElem? (i := 28) rfl) rfl
theorem w1_29 : Cond.methodLink RX6 9 yX0_init ∈ gW := gW_1 (List.mem_of_getElem? (i := 29) rfl) rfl
theorem w1_30 : Cond.instanceMethod yX0_init ∈ gW := gW_1 (List.mem_of_getElem? (i := 30) rfl) rfl
theorem w1_31 : Cond.code yX0_init cX0_init 2 none ∈ gW := gW_1 (List.mem_of_getElem? (i := 31) rfl) rfl
theorem w1_32 : Cond.methodLink RX0 3 ⟨"java/lang/Object", "<init>", "()V"⟩ ∈ gW := gW_1 (List.mem_of_getElem? (i := 32) rfl) rfl
theorem w1_33 : Cond.classLink RX0 9 RX4 ∈ gW := gW_1 (List.mem_of_getElem? (i := 33) rfl) rfl
theorem w1_35 : Cond.classLink RX0 17 RX3 ∈ gW := gW_1 (List.mem_of_getElem? (i := 35) rfl) rfl
theorem w1_37 : Cond.instantiable RX3 3 ∈ gW := gW_1 (List.mem_of_getElem? (i := 37) rfl) rfl
theorem w1_38 : Cond.methodLink RX0 23 yX3_init ∈ gW := gW_1 (List.mem_of_getElem? (i := 38) rfl) rfl
theorem w1_39 : Cond.instanceMethod yX3_init ∈ gW := gW_1 (List.mem_of_getElem? (i := 39) rfl) rfl
theorem w1_40 : Cond.code yX3_init cX3_init 1 none ∈ gW := gW_1 (List.mem_of_getElem? (i := 40) rfl) rfl
theorem w1_41 : Cond.methodLink RX3 3 ⟨"java/lang/Object", "<init>", "()V"⟩ ∈ gW := gW_1 (List.mem_of_getElem? (i := 41) rfl) rfl
theorem w1_42 : Cond.classLink RX3 9 RX1 ∈ gW := gW_1 (List.mem_of_getElem? (i := 42) rfl) rfl
theorem w1_43 : Cond.instantiable RX1 6 ∈ gW := gW_1 (List.mem_of_getElem? (i := 43) rfl) rfl
theorem w1_45 : Cond.instanceMethod yX1_init ∈ gW := gW_1 (List.mem_of_getElem? (i := 45) rfl) rfl
theorem w1_46 : Cond.code yX1_init cX1_init 1 none ∈ gW := gW_1 (List.mem_of_getElem? (i := 46) rfl) rfl
theorem w1_47 : Cond.methodLink RX1 1 ⟨"java/lang/Object", "<init>", "()V"⟩ ∈ gW := gW_1 (List.mem_of_getElem? (i := 47) rfl) rfl
theorem w1_48 : Cond.fieldLink RX1 7 "CrystalClub$CrystalSet" "turns" "I" ∈ gW := gW_1 (List.mem_of_getElem? (i := 48) rfl) rfl
theorem w1_51 : Cond.fieldLink RX1 13 "CrystalClub$CrystalSet" "dial" "I" ∈ gW := gW_1 (List.mem_of_getElem? (i := 51) rfl) rfl
theorem w1_55 : Cond.fieldLink RX1 34 "CrystalClub$CrystalSet" "aerial" "I" ∈ gW := gW_1 (List.mem_of_getElem? (i := 55) rfl) rfl
theorem w1_58 : Cond.fieldLink RX1 37 "CrystalClub$CrystalSet" "crystal" "I" ∈ gW := gW_1 (List.mem_of_getElem? (i := 58) rfl) rfl
theorem w1_61 : Cond.fieldLink RX1 23 "CrystalClub$CrystalSet" "tuned" "I" ∈ gW := gW_1 (List.mem_of_getElem? (i := 61) rfl) rfl
theorem w1_63 : Cond.fieldLink RX1 31 "CrystalClub$CrystalSet" "width" "I" ∈ gW := gW_1 (List.mem_of_getElem? (i := 63) rfl) rfl
theorem w1_65 : Cond.lays RX1 "CrystalClub$CrystalSet" "turns" "I" ∈ gW := gW_1 (List.mem_of_getElem? (i := 65) rfl) rfl
theorem w1_67 : Cond.lays RX1 "CrystalClub$CrystalSet" "dial" "I" ∈ gW := gW_1 (List.mem_of_getElem? (i := 67) rfl) rfl
theorem w1_69 : Cond.lays RX1 "CrystalClub$CrystalSet" "aerial" "I" ∈ gW := gW_1 (List.mem_of_getElem? (i := 69) rfl) rfl
theorem w1_71 : Cond.lays RX1 "CrystalClub$CrystalSet" "crystal" "I" ∈ gW := gW_1 (List.mem_of_getElem? (i := 71) rfl) rfl
theorem w1_73 : Cond.lays RX1 "CrystalClub$CrystalSet" "tuned" "I" ∈ gW := gW_1 (List.mem_of_getElem? (i := 73) rfl) rfl
theorem w1_75 : Cond.lays RX1 "CrystalClub$CrystalSet" "width" "I" ∈ gW := gW_1 (List.mem_of_getElem? (i := 75) rfl) rfl
theorem w1_78 : Cond.classLink RX3 18 RX5 ∈ gW := gW_1 (List.mem_of_getElem? (i := 78) rfl) rfl
theorem w1_79 : Cond.instantiable RX5 3 ∈ gW := gW_1 (List.mem_of_getElem? (i := 79) rfl) rfl
theorem w1_80 : Cond.methodLink RX3 20 yX5_init ∈ gW := gW_1 (List.mem_of_getElem? (i := 80) rfl) rfl
theorem w1_81 : Cond.instanceMethod yX5_init ∈ gW := gW_1 (List.mem_of_getElem? (i := 81) rfl) rfl
theorem w1_82 : Cond.code yX5_init cX5_init 3 none ∈ gW := gW_1 (List.mem_of_getElem? (i := 82) rfl) rfl
theorem w1_83 : Cond.methodLink RX5 1 ⟨"java/lang/Object", "<init>", "()V"⟩ ∈ gW := gW_1 (List.mem_of_getElem? (i := 83) rfl) rfl
theorem w1_84 : Cond.methodLink RX5 13 Lib.Math.max.name ∈ gW := gW_1 (List.mem_of_getElem? (i := 84) rfl) rfl
theorem w1_85 : Cond.static Lib.Math.max.name ∈ gW := gW_1 (List.mem_of_getElem? (i := 85) rfl) rfl
theorem w1_86 : Cond.code Lib.Math.max.name cJ9_max_7cf53 2 (some .int) ∈ gW := gW_1 (List.mem_of_getElem? (i := 86) rfl) rfl
theorem w1_87 : Cond.fieldLink RX5 7 "CrystalClub$Table" "columns" "I" ∈ gW := gW_1 (List.mem_of_getElem? (i := 87) rfl) rfl
theorem w1_89 : Cond.fieldLink RX5 19 "CrystalClub$Table" "cells" "[I" ∈ gW := gW_1 (List.mem_of_getElem? (i := 89) rfl) rfl
theorem w1_90 : Cond.fieldLink RX5 23 "CrystalClub$Table" "size" "I" ∈ gW := gW_1 (List.mem_of_getElem? (i := 90) rfl) rfl
theorem w1_94 : Cond.laysFinal RX5 "CrystalClub$Table" "columns" "I" ∈ gW := gW_1 (List.mem_of_getElem? (i := 94) rfl) rfl
theorem w1_96 : Cond.laysFinal RX5 "CrystalClub$Table" "cells" "[I" ∈ gW := gW_1 (List.mem_of_getElem? (i := 96) rfl) rfl
theorem w1_98 : Cond.lays RX5 "CrystalClub$Table" "size" "I" ∈ gW := gW_1 (List.mem_of_getElem? (i := 98) rfl) rfl
theorem w1_101 : Cond.arrayClass .int ∈ gW := gW_1 (List.mem_of_getElem? (i := 101) rfl) rfl
theorem w1_102 : Cond.fieldLink RX3 12 "CrystalClub$Member" "set" "LCrystalClub$CrystalSet;" ∈ gW := gW_1 (List.mem_of_getElem? (i := 102) rfl) rfl
theorem w1_105 : Cond.fieldLink RX3 23 "CrystalClub$Member" "lines" "LCrystalClub$Table;" ∈ gW := gW_1 (List.mem_of_getElem? (i := 105) rfl) rfl
theorem w1_108 : Cond.fieldLink RX3 37 "CrystalClub$Member" "listens" "Z" ∈ gW := gW_1 (List.mem_of_getElem? (i := 108) rfl) rfl
theorem w1_111 : Cond.laysFinal RX3 "CrystalClub$Member" "set" "LCrystalClub$CrystalSet;" ∈ gW := gW_1 (List.mem_of_getElem? (i := 111) rfl) rfl
theorem w1_113 : Cond.laysFinal RX3 "CrystalClub$Member" "lines" "LCrystalClub$Table;" ∈ gW := gW_1 (List.mem_of_getElem? (i := 113) rfl) rfl
theorem w1_115 : Cond.lays RX3 "CrystalClub$Member" "listens" "Z" ∈ gW := gW_1 (List.mem_of_getElem? (i := 115) rfl) rfl
theorem w1_118 : Cond.classLink RX0 24 RX5 ∈ gW := gW_1 (List.mem_of_getElem? (i := 118) rfl) rfl
theorem w1_119 : Cond.methodLink RX0 26 yX5_init ∈ gW := gW_1 (List.mem_of_getElem? (i := 119) rfl) rfl
theorem w1_120 : Cond.classLink RX0 33 RX2 ∈ gW := gW_1 (List.mem_of_getElem? (i := 120) rfl) rfl
theorem w1_121 : Cond.instantiable RX2 4 ∈ gW := gW_1 (List.mem_of_getElem? (i := 121) rfl) rfl
theorem w1_123 : Cond.instanceMethod yX2_init ∈ gW := gW_1 (List.mem_of_getElem? (i := 123) rfl) rfl
theorem w1_124 : Cond.code yX2_init cX2_init 1 none ∈ gW := gW_1 (List.mem_of_getElem? (i := 124) rfl) rfl
theorem w1_125 : Cond.methodLink RX2 3 ⟨"java/lang/Object", "<init>", "()V"⟩ ∈ gW := gW_1 (List.mem_of_getElem? (i := 125) rfl) rfl
theorem w1_126 : Cond.fieldLink RX2 9 "CrystalClub$Hearing" "inReach" "I" ∈ gW := gW_1 (List.mem_of_getElem? (i := 126) rfl) rfl
theorem w1_127 : Cond.fieldLink RX2 15 "CrystalClub$Hearing" "loudest" "I" ∈ gW := gW_1 (List.mem_of_getElem? (i := 127) rfl) rfl
theorem w1_128 : Cond.fieldLink RX2 18 "CrystalClub$Hearing" "strength" "I" ∈ gW := gW_1 (List.mem_of_getElem? (i := 128) rfl) rfl
theorem w1_130 : Cond.fieldLink RX2 21 "CrystalClub$Hearing" "runnerUp" "I" ∈ gW := gW_1 (List.mem_of_getElem? (i := 130) rfl) rfl
theorem w1_131 : Cond.lays RX2 "CrystalClub$Hearing" "inReach" "I" ∈ gW := gW_1 (List.mem_of_getElem? (i := 131) rfl) rfl
theorem w1_133 : Cond.lays RX2 "CrystalClub$Hearing" "loudest" "I" ∈ gW := gW_1 (List.mem_of_getElem? (i := 133) rfl) rfl
theorem w1_135 : Cond.lays RX2 "CrystalClub$Hearing" "strength" "I" ∈ gW := gW_1 (List.mem_of_getElem? (i := 135) rfl) rfl
theorem w1_137 : Cond.lays RX2 "CrystalClub$Hearing" "runnerUp" "I" ∈ gW := gW_1 (List.mem_of_getElem? (i := 137) rfl) rfl
theorem w1_140 : Cond.fieldLink RX0 11 "CrystalClub$Club" "stations" "[LCrystalClub$Station;" ∈ gW := gW_1 (List.mem_of_getElem? (i := 140) rfl) rfl
theorem w1_141 : Cond.fieldLink RX0 19 "CrystalClub$Club" "members" "[LCrystalClub$Member;" ∈ gW := gW_1 (List.mem_of_getElem? (i := 141) rfl) rfl
theorem w1_142 : Cond.fieldLink RX0 29 "CrystalClub$Club" "letters" "LCrystalClub$Table;" ∈ gW := gW_1 (List.mem_of_getElem? (i := 142) rfl) rfl
theorem w1_144 : Cond.fieldLink RX0 36 "CrystalClub$Club" "hearing" "LCrystalClub$Hearing;" ∈ gW := gW_1 (List.mem_of_getElem? (i := 144) rfl) rfl
theorem w1_145 : Cond.fieldLink RX0 44 "CrystalClub$Club" "stationCount" "I" ∈ gW := gW_1 (List.mem_of_getElem? (i := 145) rfl) rfl
theorem w1_147 : Cond.fieldLink RX0 51 "CrystalClub$Club" "memberCount" "I" ∈ gW := gW_1 (List.mem_of_getElem? (i := 147) rfl) rfl
theorem w1_149 : Cond.fieldLink RX0 40 "CrystalClub$Club" "hour" "I" ∈ gW := gW_1 (List.mem_of_getElem? (i := 149) rfl) rfl
theorem w1_151 : Cond.laysFinal RX0 "CrystalClub$Club" "stations" "[LCrystalClub$Station;" ∈ gW := gW_1 (List.mem_of_getElem? (i := 151) rfl) rfl
theorem w1_153 : Cond.laysFinal RX0 "CrystalClub$Club" "members" "[LCrystalClub$Member;" ∈ gW := gW_1 (List.mem_of_getElem? (i := 153) rfl) rfl
theorem w1_155 : Cond.laysFinal RX0 "CrystalClub$Club" "letters" "LCrystalClub$Table;" ∈ gW := gW_1 (List.mem_of_getElem? (i := 155) rfl) rfl
theorem w1_157 : Cond.laysFinal RX0 "CrystalClub$Club" "hearing" "LCrystalClub$Hearing;" ∈ gW := gW_1 (List.mem_of_getElem? (i := 157) rfl) rfl
theorem w1_159 : Cond.lays RX0 "CrystalClub$Club" "stationCount" "I" ∈ gW := gW_1 (List.mem_of_getElem? (i := 159) rfl) rfl
theorem w1_161 : Cond.lays RX0 "CrystalClub$Club" "memberCount" "I" ∈ gW := gW_1 (List.mem_of_getElem? (i := 161) rfl) rfl
theorem w1_163 : Cond.lays RX0 "CrystalClub$Club" "hour" "I" ∈ gW := gW_1 (List.mem_of_getElem? (i := 163) rfl) rfl
theorem w1_166 : Cond.classLink RX6 19 RX1 ∈ gW := gW_1 (List.mem_of_getElem? (i := 166) rfl) rfl
theorem w1_168 : Cond.fieldLink RX6 10 "CrystalClub" "now" "LCrystalClub$Club;" ∈ gW := gW_1 (List.mem_of_getElem? (i := 168) rfl) rfl
theorem w1_169 : Cond.fieldLink RX6 16 "CrystalClub" "trial" "LCrystalClub$Club;" ∈ gW := gW_1 (List.mem_of_getElem? (i := 169) rfl) rfl
theorem w1_170 : Cond.fieldLink RX6 22 "CrystalClub" "probe" "LCrystalClub$CrystalSet;" ∈ gW := gW_1 (List.mem_of_getElem? (i := 170) rfl) rfl
theorem w1_171 : Cond.laysFinal RX6 "CrystalClub" "now" "LCrystalClub$Club;" ∈ gW := gW_1 (List.mem_of_getElem? (i := 171) rfl) rfl
theorem w1_173 : Cond.laysFinal RX6 "CrystalClub" "trial" "LCrystalClub$Club;" ∈ gW := gW_1 (List.mem_of_getElem? (i := 173) rfl) rfl
theorem w1_175 : Cond.laysFinal RX6 "CrystalClub" "probe" "LCrystalClub$CrystalSet;" ∈ gW := gW_1 (List.mem_of_getElem? (i := 175) rfl) rfl
theorem w1_178 : Cond.methodLink RL 149 yX6_mean ∈ gW := gW_1 (List.mem_of_getElem? (i := 178) rfl) rfl
theorem w1_179 : Cond.instanceMethod yX6_mean ∈ gW := gW_1 (List.mem_of_getElem? (i := 179) rfl) rfl
theorem w1_180 : Cond.selects RX6 yX6_mean yX6_mean ∈ gW := gW_1 (List.mem_of_getElem? (i := 180) rfl) rfl
theorem w1_181 : Cond.code yX6_mean cX6_mean 2 (some .double) ∈ gW := gW_1 (List.mem_of_getElem? (i := 181) rfl) rfl
theorem w1_182 : Cond.methodLink RX6 195 yX0_allLines ∈ gW := gW_1 (List.mem_of_getElem? (i := 182) rfl) rfl
theorem w1_183 : Cond.instanceMethod yX0_allLines ∈ gW := gW_1 (List.mem_of_getElem? (i := 183) rfl) rfl
theorem w1_184 : Cond.selects RX0 yX0_allLines yX0_allLines ∈ gW := gW_1 (List.mem_of_getElem? (i := 184) rfl) rfl
theorem w1_185 : Cond.code yX0_allLines cX0_allLines 4 (some .int) ∈ gW := gW_1 (List.mem_of_getElem? (i := 185) rfl) rfl
theorem w1_186 : Cond.methodLink RX0 54 yX0_memberAt ∈ gW := gW_1 (List.mem_of_getElem? (i := 186) rfl) rfl
theorem w1_187 : Cond.instanceMethod yX0_memberAt ∈ gW := gW_1 (List.mem_of_getElem? (i := 187) rfl) rfl
theorem w1_188 : Cond.selects RX0 yX0_memberAt yX0_memberAt ∈ gW := gW_1 (List.mem_of_getElem? (i := 188) rfl) rfl
theorem w1_189 : Cond.code yX0_memberAt cX0_memberAt 3 (some (.object "CrystalClub$Member")) ∈ gW := gW_1 (List.mem_of_getElem? (i := 189) rfl) rfl
theorem w1_190 : Cond.methodLink RX6 198 yX0_allStrengths ∈ gW := gW_1 (List.mem_of_getElem? (i := 190) rfl) rfl
theorem w1_191 : Cond.instanceMethod yX0_allStrengths ∈ gW := gW_1 (List.mem_of_getElem? (i := 191) rfl) rfl
theorem w1_192 : Cond.selects RX0 yX0_allStrengths yX0_allStrengths ∈ gW := gW_1 (List.mem_of_getElem? (i := 192) rfl) rfl
theorem w1_193 : Cond.code yX0_allStrengths cX0_allStrengths 1 (some .int) ∈ gW := gW_1 (List.mem_of_getElem? (i := 193) rfl) rfl
theorem w1_194 : Cond.methodLink RX0 227 yX0_sumOfLogs ∈ gW := gW_1 (List.mem_of_getElem? (i := 194) rfl) rfl
theorem w1_196 : Cond.instanceMethod yX0_sumOfLogs ∈ gW := gW_1 (List.mem_of_getElem? (i := 196) rfl) rfl
theorem w1_197 : Cond.code yX0_sumOfLogs cX0_sumOfLogs 5 (some .int) ∈ gW := gW_1 (List.mem_of_getElem? (i := 197) rfl) rfl
theorem w1_198 : Cond.methodLink RX0 230 yX5_sum ∈ gW := gW_1 (List.mem_of_getElem? (i := 198) rfl) rfl
theorem w1_199 : Cond.instanceMethod yX5_sum ∈ gW := gW_1 (List.mem_of_getElem? (i := 199) rfl) rfl
theorem w1_200 : Cond.selects RX5 yX5_sum yX5_sum ∈ gW := gW_1 (List.mem_of_getElem? (i := 200) rfl) rfl
theorem w1_201 : Cond.code yX5_sum cX5_sum 4 (some .int) ∈ gW := gW_1 (List.mem_of_getElem? (i := 201) rfl) rfl
theorem w1_202 : Cond.methodLink RX5 26 yX5_at ∈ gW := gW_1 (List.mem_of_getElem? (i := 202) rfl) rfl
theorem w1_203 : Cond.instanceMethod yX5_at ∈ gW := gW_1 (List.mem_of_getElem? (i := 203) rfl) rfl
theorem w1_204 : Cond.selects RX5 yX5_at yX5_at ∈ gW := gW_1 (List.mem_of_getElem? (i := 204) rfl) rfl
theorem w1_205 : Cond.code yX5_at cX5_at 4 (some .int) ∈ gW := gW_1 (List.mem_of_getElem? (i := 205) rfl) rfl
theorem w1_206 : Cond.methodLink RL 154 yX6_digest ∈ gW := gW_1 (List.mem_of_getElem? (i := 206) rfl) rfl
theorem w1_207 : Cond.instanceMethod yX6_digest ∈ gW := gW_1 (List.mem_of_getElem? (i := 207) rfl) rfl
theorem w1_208 : Cond.selects RX6 yX6_digest yX6_digest ∈ gW := gW_1 (List.mem_of_getElem? (i := 208) rfl) rfl
theorem w1_209 : Cond.code yX6_digest cX6_digest 1 (some .long) ∈ gW := gW_1 (List.mem_of_getElem? (i := 209) rfl) rfl
theorem w1_210 : Cond.methodLink RX6 201 yX0_checksum ∈ gW := gW_1 (List.mem_of_getElem? (i := 210) rfl) rfl
theorem w1_211 : Cond.instanceMethod yX0_checksum ∈ gW := gW_1 (List.mem_of_getElem? (i := 211) rfl) rfl
theorem w1_212 : Cond.selects RX0 yX0_checksum yX0_checksum ∈ gW := gW_1 (List.mem_of_getElem? (i := 212) rfl) rfl
theorem w1_213 : Cond.code yX0_checksum cX0_checksum 5 (some .long) ∈ gW := gW_1 (List.mem_of_getElem? (i := 213) rfl) rfl
theorem w1_214 : Cond.constantLong RX0 233 (701) ∈ gW := gW_1 (List.mem_of_getElem? (i := 214) rfl) rfl
theorem w1_215 : Cond.constantLong RX0 235 (31) ∈ gW := gW_1 (List.mem_of_getElem? (i := 215) rfl) rfl
theorem w1_216 : Cond.methodLink RX0 237 yX0_tellCount ∈ gW := gW_1 (List.mem_of_getElem? (i := 216) rfl) rfl
theorem w1_217 : Cond.instanceMethod yX0_tellCount ∈ gW := gW_1 (List.mem_of_getElem? (i := 217) rfl) rfl
theorem w1_218 : Cond.selects RX0 yX0_tellCount yX0_tellCount ∈ gW := gW_1 (List.mem_of_getElem? (i := 218) rfl) rfl
theorem w1_219 : Cond.code yX0_tellCount cX0_tellCount 2 (some .int) ∈ gW := gW_1 (List.mem_of_getElem? (i := 219) rfl) rfl
theorem w1_220 : Cond.methodLink RX0 215 yX0_stationsOnAir ∈ gW := gW_1 (List.mem_of_getElem? (i := 220) rfl) rfl
theorem w1_222 : Cond.instanceMethod yX0_stationsOnAir ∈ gW := gW_1 (List.mem_of_getElem? (i := 222) rfl) rfl
theorem w1_223 : Cond.code yX0_stationsOnAir cX0_stationsOnAir 4 (some .int) ∈ gW := gW_1 (List.mem_of_getElem? (i := 223) rfl) rfl
theorem w1_224 : Cond.methodLink RX0 47 yX0_stationAt ∈ gW := gW_1 (List.mem_of_getElem? (i := 224) rfl) rfl
theorem w1_225 : Cond.instanceMethod yX0_stationAt ∈ gW := gW_1 (List.mem_of_getElem? (i := 225) rfl) rfl
theorem w1_226 : Cond.selects RX0 yX0_stationAt yX0_stationAt ∈ gW := gW_1 (List.mem_of_getElem? (i := 226) rfl) rfl
theorem w1_227 : Cond.code yX0_stationAt cX0_stationAt 3 (some (.object "CrystalClub$Station")) ∈ gW := gW_1 (List.mem_of_getElem? (i := 227) rfl) rfl
theorem w1_228 : Cond.methodLink RX0 71 yX4_isOnAir ∈ gW := gW_1 (List.mem_of_getElem? (i := 228) rfl) rfl
theorem w1_229 : Cond.instanceMethod yX4_isOnAir ∈ gW := gW_1 (List.mem_of_getElem? (i := 229) rfl) rfl
theorem w1_230 : Cond.selects RX4 yX4_isOnAir yX4_isOnAir ∈ gW := gW_1 (List.mem_of_getElem? (i := 230) rfl) rfl
theorem w1_231 : Cond.code yX4_isOnAir cX4_isOnAir 3 (some .boolean) ∈ gW := gW_1 (List.mem_of_getElem? (i := 231) rfl) rfl
theorem w1_232 : Cond.methodLink RX0 218 yX0_listeners ∈ gW := gW_1 (List.mem_of_getElem? (i := 232) rfl) rfl
theorem w1_234 : Cond.instanceMethod yX0_listeners ∈ gW := gW_1 (List.mem_of_getElem? (i := 234) rfl) rfl
theorem w1_235 : Cond.code yX0_listeners cX0_listeners 4 (some .int) ∈ gW := gW_1 (List.mem_of_getElem? (i := 235) rfl) rfl
theorem w1_236 : Cond.methodLink RX0 221 yX0_allLines ∈ gW := gW_1 (List.mem_of_getElem? (i := 236) rfl) rfl
theorem w1_237 : Cond.methodLink RX0 224 yX0_confirmedLines ∈ gW := gW_1 (List.mem_of_getElem? (i := 237) rfl) rfl
theorem w1_238 : Cond.instanceMethod yX0_confirmedLines ∈ gW := gW_1 (List.mem_of_getElem? (i := 238) rfl) rfl
theorem w1_239 : Cond.selects RX0 yX0_confirmedLines yX0_confirmedLines ∈ gW := gW_1 (List.mem_of_getElem? (i := 239) rfl) rfl
theorem w2_0 : Cond.code yX0_confirmedLines cX0_confirmedLines 1 (some .int) ∈ gW := gW_2 (List.mem_of_getElem? (i := 0) rfl) rfl
theorem w2_1 : Cond.methodLink RX0 240 yX0_tellStation ∈ gW := gW_2 (List.mem_of_getElem? (i := 1) rfl) rfl
theorem w2_2 : Cond.instanceMethod yX0_tellStation ∈ gW := gW_2 (List.mem_of_getElem? (i := 2) rfl) rfl
theorem w2_3 : Cond.selects RX0 yX0_tellStation yX0_tellStation ∈ gW := gW_2 (List.mem_of_getElem? (i := 3) rfl) rfl
theorem w2_4 : Cond.code yX0_tellStation cX0_tellStation 4 (some .int) ∈ gW := gW_2 (List.mem_of_getElem? (i := 4) rfl) rfl
theorem w2_5 : Cond.methodLink RX0 191 yX4_fading ∈ gW := gW_2 (List.mem_of_getElem? (i := 5) rfl) rfl
theorem w2_6 : Cond.instanceMethod yX4_fading ∈ gW := gW_2 (List.mem_of_getElem? (i := 6) rfl) rfl
theorem w2_7 : Cond.selects RX4 yX4_fading yX4_fading ∈ gW := gW_2 (List.mem_of_getElem? (i := 7) rfl) rfl
theorem w2_8 : Cond.code yX4_fading cX4_fading 3 (some .int) ∈ gW := gW_2 (List.mem_of_getElem? (i := 8) rfl) rfl
theorem w2_9 : Cond.methodLink RX0 194 yX0_membersWithCardOf ∈ gW := gW_2 (List.mem_of_getElem? (i := 9) rfl) rfl
theorem w2_11 : Cond.instanceMethod yX0_membersWithCardOf ∈ gW := gW_2 (List.mem_of_getElem? (i := 11) rfl) rfl
theorem w2_12 : Cond.code yX0_membersWithCardOf cX0_membersWithCardOf 5 (some .int) ∈ gW := gW_2 (List.mem_of_getElem? (i := 12) rfl) rfl
theorem w2_13 : Cond.methodLink RX0 163 yX3_cards ∈ gW := gW_2 (List.mem_of_getElem? (i := 13) rfl) rfl
theorem w2_14 : Cond.instanceMethod yX3_cards ∈ gW := gW_2 (List.mem_of_getElem? (i := 14) rfl) rfl
theorem w2_15 : Cond.selects RX3 yX3_cards yX3_cards ∈ gW := gW_2 (List.mem_of_getElem? (i := 15) rfl) rfl
theorem w2_16 : Cond.code yX3_cards cX3_cards 3 (some .int) ∈ gW := gW_2 (List.mem_of_getElem? (i := 16) rfl) rfl
theorem w2_17 : Cond.methodLink RX3 51 yX5_at ∈ gW := gW_2 (List.mem_of_getElem? (i := 17) rfl) rfl
theorem w2_18 : Cond.methodLink RX0 243 yX0_withMember ∈ gW := gW_2 (List.mem_of_getElem? (i := 18) rfl) rfl
theorem w2_20 : Cond.instanceMethod yX0_withMember ∈ gW := gW_2 (List.mem_of_getElem? (i := 20) rfl) rfl
theorem w2_21 : Cond.code yX0_withMember cX0_withMember 7 (some .long) ∈ gW := gW_2 (List.mem_of_getElem? (i := 21) rfl) rfl
theorem w2_22 : Cond.methodLink RX0 251 yX0_tellMember ∈ gW := gW_2 (List.mem_of_getElem? (i := 22) rfl) rfl
theorem w2_23 : Cond.instanceMethod yX0_tellMember ∈ gW := gW_2 (List.mem_of_getElem? (i := 23) rfl) rfl
theorem w2_24 : Cond.selects RX0 yX0_tellMember yX0_tellMember ∈ gW := gW_2 (List.mem_of_getElem? (i := 24) rfl) rfl
theorem w2_25 : Cond.code yX0_tellMember cX0_tellMember 4 (some .int) ∈ gW := gW_2 (List.mem_of_getElem? (i := 25) rfl) rfl
theorem w2_26 : Cond.methodLink RX0 212 yJ6_bitCount_0f7a4 ∈ gW := gW_2 (List.mem_of_getElem? (i := 26) rfl) rfl
theorem w2_27 : Cond.static yJ6_bitCount_0f7a4 ∈ gW := gW_2 (List.mem_of_getElem? (i := 27) rfl) rfl
theorem w2_28 : Cond.code yJ6_bitCount_0f7a4 cJ6_bitCount_0f7a4 1 (some .int) ∈ gW := gW_2 (List.mem_of_getElem? (i := 28) rfl) rfl
theorem w2_29 : Cond.constant RJ6 265 (1431655765) ∈ gW := gW_2 (List.mem_of_getElem? (i := 29) rfl) rfl
theorem w2_30 : Cond.constant RJ6 266 (858993459) ∈ gW := gW_2 (List.mem_of_getElem? (i := 30) rfl) rfl
theorem w2_31 : Cond.constant RJ6 267 (252645135) ∈ gW := gW_2 (List.mem_of_getElem? (i := 31) rfl) rfl
theorem w2_32 : Cond.methodLink RX0 176 yX0_scoreOf ∈ gW := gW_2 (List.mem_of_getElem? (i := 32) rfl) rfl
theorem w2_34 : Cond.instanceMethod yX0_scoreOf ∈ gW := gW_2 (List.mem_of_getElem? (i := 34) rfl) rfl
theorem w2_35 : Cond.code yX0_scoreOf cX0_scoreOf 6 (some .int) ∈ gW := gW_2 (List.mem_of_getElem? (i := 35) rfl) rfl
theorem w2_36 : Cond.methodLink RX0 247 yX0_withRows ∈ gW := gW_2 (List.mem_of_getElem? (i := 36) rfl) rfl
theorem w2_37 : Cond.static yX0_withRows ∈ gW := gW_2 (List.mem_of_getElem? (i := 37) rfl) rfl
theorem w2_38 : Cond.code yX0_withRows cX0_withRows 7 (some .long) ∈ gW := gW_2 (List.mem_of_getElem? (i := 38) rfl) rfl
theorem w2_39 : Cond.methodLink RX0 143 yX5_at ∈ gW := gW_2 (List.mem_of_getElem? (i := 39) rfl) rfl
theorem w2_40 : Cond.methodLink RL 81 yL_addStation ∈ gW := gW_2 (List.mem_of_getElem? (i := 40) rfl) rfl
theorem w2_41 : Cond.static yL_addStation ∈ gW := gW_2 (List.mem_of_getElem? (i := 41) rfl) rfl
theorem w2_43 : Cond.classLink RL 13 "java/lang/IllegalArgumentException" ∈ gW := gW_2 (List.mem_of_getElem? (i := 43) rfl) rfl
theorem w2_44 : Cond.classLink RL 15 "java/lang/IllegalStateException" ∈ gW := gW_2 (List.mem_of_getElem? (i := 44) rfl) rfl
theorem w2_45 : Cond.methodLink RL 7 yX6_addStation ∈ gW := gW_2 (List.mem_of_getElem? (i := 45) rfl) rfl
theorem w2_46 : Cond.instanceMethod yX6_addStation ∈ gW := gW_2 (List.mem_of_getElem? (i := 46) rfl) rfl
theorem w2_47 : Cond.selects RX6 yX6_addStation yX6_addStation ∈ gW := gW_2 (List.mem_of_getElem? (i := 47) rfl) rfl
theorem w2_48 : Cond.code yX6_addStation cX6_addStation 7 (some .int) ∈ gW := gW_2 (List.mem_of_getElem? (i := 48) rfl) rfl
theorem w2_49 : Cond.methodLink RX6 26 yX6_isWithin ∈ gW := gW_2 (List.mem_of_getElem? (i := 49) rfl) rfl
theorem w2_50 : Cond.static yX6_isWithin ∈ gW := gW_2 (List.mem_of_getElem? (i := 50) rfl) rfl
theorem w2_51 : Cond.code yX6_isWithin cX6_isWithin 3 (some .boolean) ∈ gW := gW_2 (List.mem_of_getElem? (i := 51) rfl) rfl
theorem w2_52 : Cond.classLink RX6 30 "java/lang/IllegalArgumentException" ∈ gW := gW_2 (List.mem_of_getElem? (i := 52) rfl) rfl
theorem w2_53 : Cond.instantiable "java/lang/IllegalArgumentException" 6 ∈ gW := gW_2 (List.mem_of_getElem? (i := 53) rfl) rfl
theorem w2_61 : Cond.selects "java/lang/IllegalArgumentException" ⟨"java/lang/Throwable", "fillInStackTrace", "(I)Ljava/lang/Throwable;"⟩ ⟨"java/lang/Throwable", "fillInStackTrace", "(I)Ljava/lang/Throwable;"⟩ ∈ gW := gW_2 (List.mem_of_getElem? (i := 61) rfl) rfl
theorem w2_62 : Cond.selects "java/lang/IllegalArgumentException" ⟨"java/lang/Throwable", "fillInStackTrace", "()Ljava/lang/Throwable;"⟩ ⟨"java/lang/Throwable", "fillInStackTrace", "()Ljava/lang/Throwable;"⟩ ∈ gW := gW_2 (List.mem_of_getElem? (i := 62) rfl) rfl
theorem w2_73 : Cond.fieldLink "java/lang/Throwable" 198 "java/lang/Throwable" "backtrace" "Ljava/lang/Object;" ∈ gW := gW_2 (List.mem_of_getElem? (i := 73) rfl) rfl
theorem w2_75 : Cond.instanceMethod ⟨"java/lang/Throwable", "<init>", "()V"⟩ ∈ gW := gW_2 (List.mem_of_getElem? (i := 75) rfl) rfl
theorem w2_76 : Cond.code ⟨"java/lang/Throwable", "<init>", "()V"⟩ prog_20_method_1_code 1 none ∈ gW := gW_2 (List.mem_of_getElem? (i := 76) rfl) rfl
theorem w2_77 : Cond.methodLink "java/lang/Throwable" 1 ⟨"java/lang/Object", "<init>", "()V"⟩ ∈ gW := gW_2 (List.mem_of_getElem? (i := 77) rfl) rfl
theorem w2_78 : Cond.fieldLink "java/lang/Throwable" 13 "java/lang/Throwable" "UNASSIGNED_STACK" "[Ljava/lang/StackTraceElement;" ∈ gW := gW_2 (List.mem_of_getElem? (i := 78) rfl) rfl
theorem w2_80 : Cond.fieldLink "java/lang/Throwable" 20 "java/lang/Throwable" "SUPPRESSED_SENTINEL" "Ljava/util/List;" ∈ gW := gW_2 (List.mem_of_getElem? (i := 80) rfl) rfl
theorem w2_82 : Cond.methodLink "java/lang/Throwable" 27 ⟨"java/lang/Throwable", "fillInStackTrace", "()Ljava/lang/Throwable;"⟩ ∈ gW := gW_2 (List.mem_of_getElem? (i := 82) rfl) rfl
theorem w2_83 : Cond.instanceMethod ⟨"java/lang/Throwable", "fillInStackTrace", "()Ljava/lang/Throwable;"⟩ ∈ gW := gW_2 (List.mem_of_getElem? (i := 83) rfl) rfl
theorem w2_85 : Cond.selects "java/lang/IllegalStateException" ⟨"java/lang/Throwable", "fillInStackTrace", "()Ljava/lang/Throwable;"⟩ ⟨"java/lang/Throwable", "fillInStackTrace", "()Ljava/lang/Throwable;"⟩ ∈ gW := gW_2 (List.mem_of_getElem? (i := 85) rfl) rfl
theorem w2_86 : Cond.selects "java/lang/IndexOutOfBoundsException" ⟨"java/lang/Throwable", "fillInStackTrace", "()Ljava/lang/Throwable;"⟩ ⟨"java/lang/Throwable", "fillInStackTrace", "()Ljava/lang/Throwable;"⟩ ∈ gW := gW_2 (List.mem_of_getElem? (i := 86) rfl) rfl
theorem w2_88 : Cond.methodLink "java/lang/Throwable" 202 ⟨"java/lang/Throwable", "fillInStackTrace", "(I)Ljava/lang/Throwable;"⟩ ∈ gW := gW_2 (List.mem_of_getElem? (i := 88) rfl) rfl
theorem w2_90 : Cond.instanceMethod ⟨"java/lang/Throwable", "fillInStackTrace", "(I)Ljava/lang/Throwable;"⟩ ∈ gW := gW_2 (List.mem_of_getElem? (i := 90) rfl) rfl
theorem w2_91 : Cond.instantiable "java/lang/Throwable" 6 ∈ gW := gW_2 (List.mem_of_getElem? (i := 91) rfl) rfl
theorem w2_92 : Cond.native ⟨"java/lang/Throwable", "fillInStackTrace", "(I)Ljava/lang/Throwable;"⟩ ∈ gW := gW_2 (List.mem_of_getElem? (i := 92) rfl) rfl
theorem w2_94 : Cond.methodLink RX6 34 ⟨"java/lang/IllegalArgumentException", "<init>", "(Ljava/lang/String;)V"⟩ ∈ gW := gW_2 (List.mem_of_getElem? (i := 94) rfl) rfl
theorem w2_95 : Cond.instanceMethod ⟨"java/lang/IllegalArgumentException", "<init>", "(Ljava/lang/String;)V"⟩ ∈ gW := gW_2 (List.mem_of_getElem? (i := 95) rfl) rfl
theorem w2_96 : Cond.code ⟨"java/lang/IllegalArgumentException", "<init>", "(Ljava/lang/String;)V"⟩ prog_12_method_2_code 2 none ∈ gW := gW_2 (List.mem_of_getElem? (i := 96) rfl) rfl
theorem w2_97 : Cond.methodLink "java/lang/IllegalArgumentException" 7 ⟨"java/lang/RuntimeException", "<init>", "(Ljava/lang/String;)V"⟩ ∈ gW := gW_2 (List.mem_of_getElem? (i := 97) rfl) rfl
theorem w2_98 : Cond.instanceMethod ⟨"java/lang/RuntimeException", "<init>", "(Ljava/lang/String;)V"⟩ ∈ gW := gW_2 (List.mem_of_getElem? (i := 98) rfl) rfl
theorem w2_99 : Cond.code ⟨"java/lang/RuntimeException", "<init>", "(Ljava/lang/String;)V"⟩ prog_17_method_2_code 2 none ∈ gW := gW_2 (List.mem_of_getElem? (i := 99) rfl) rfl
theorem w2_100 : Cond.methodLink "java/lang/RuntimeException" 7 ⟨"java/lang/Exception", "<init>", "(Ljava/lang/String;)V"⟩ ∈ gW := gW_2 (List.mem_of_getElem? (i := 100) rfl) rfl
theorem w2_101 : Cond.instanceMethod ⟨"java/lang/Exception", "<init>", "(Ljava/lang/String;)V"⟩ ∈ gW := gW_2 (List.mem_of_getElem? (i := 101) rfl) rfl
theorem w2_102 : Cond.code ⟨"java/lang/Exception", "<init>", "(Ljava/lang/String;)V"⟩ prog_11_method_2_code 2 none ∈ gW := gW_2 (List.mem_of_getElem? (i := 102) rfl) rfl
theorem w2_103 : Cond.methodLink "java/lang/Exception" 7 ⟨"java/lang/Throwable", "<init>", "(Ljava/lang/String;)V"⟩ ∈ gW := gW_2 (List.mem_of_getElem? (i := 103) rfl) rfl
theorem w2_104 : Cond.instanceMethod ⟨"java/lang/Throwable", "<init>", "(Ljava/lang/String;)V"⟩ ∈ gW := gW_2 (List.mem_of_getElem? (i := 104) rfl) rfl
theorem w2_105 : Cond.code ⟨"java/lang/Throwable", "<init>", "(Ljava/lang/String;)V"⟩ prog_20_method_2_code 2 none ∈ gW := gW_2 (List.mem_of_getElem? (i := 105) rfl) rfl
theorem w2_107 : Cond.fieldLink "java/lang/Throwable" 31 "java/lang/Throwable" "detailMessage" "Ljava/lang/String;" ∈ gW := gW_2 (List.mem_of_getElem? (i := 107) rfl) rfl
theorem w2_108 : Cond.fieldLink "java/lang/Throwable" 7 "java/lang/Throwable" "cause" "Ljava/lang/Throwable;" ∈ gW := gW_2 (List.mem_of_getElem? (i := 108) rfl) rfl
theorem w2_109 : Cond.fieldLink "java/lang/Throwable" 17 "java/lang/Throwable" "stackTrace" "[Ljava/lang/StackTraceElement;" ∈ gW := gW_2 (List.mem_of_getElem? (i := 109) rfl) rfl
theorem w2_110 : Cond.fieldLink "java/lang/Throwable" 24 "java/lang/Throwable" "suppressedExceptions" "Ljava/util/List;" ∈ gW := gW_2 (List.mem_of_getElem? (i := 110) rfl) rfl
theorem w2_119 : Cond.arrayClass .byte ∈ gW := gW_2 (List.mem_of_getElem? (i := 119) rfl) rfl
theorem w2_121 : Cond.classLink RX6 43 "java/lang/IllegalStateException" ∈ gW := gW_2 (List.mem_of_getElem? (i := 121) rfl) rfl
theorem w2_122 : Cond.instantiable "java/lang/IllegalStateException" 6 ∈ gW := gW_2 (List.mem_of_getElem? (i := 122) rfl) rfl
theorem w2_124 : Cond.selects "java/lang/IllegalStateException" ⟨"java/lang/Throwable", "fillInStackTrace", "(I)Ljava/lang/Throwable;"⟩ ⟨"java/lang/Throwable", "fillInStackTrace", "(I)Ljava/lang/Throwable;"⟩ ∈ gW := gW_2 (List.mem_of_getElem? (i := 124) rfl) rfl
theorem w2_131 : Cond.methodLink RX6 47 ⟨"java/lang/IllegalStateException", "<init>", "(Ljava/lang/String;)V"⟩ ∈ gW := gW_2 (List.mem_of_getElem? (i := 131) rfl) rfl
theorem w2_132 : Cond.instanceMethod ⟨"java/lang/IllegalStateException", "<init>", "(Ljava/lang/String;)V"⟩ ∈ gW := gW_2 (List.mem_of_getElem? (i := 132) rfl) rfl
theorem w2_133 : Cond.code ⟨"java/lang/IllegalStateException", "<init>", "(Ljava/lang/String;)V"⟩ prog_13_method_2_code 2 none ∈ gW := gW_2 (List.mem_of_getElem? (i := 133) rfl) rfl
theorem w2_134 : Cond.methodLink "java/lang/IllegalStateException" 7 ⟨"java/lang/RuntimeException", "<init>", "(Ljava/lang/String;)V"⟩ ∈ gW := gW_2 (List.mem_of_getElem? (i := 134) rfl) rfl
theorem w2_137 : Cond.classLink RX6 48 RX4 ∈ gW := gW_2 (List.mem_of_getElem? (i := 137) rfl) rfl
theorem w2_138 : Cond.instantiable RX4 6 ∈ gW := gW_2 (List.mem_of_getElem? (i := 138) rfl) rfl
theorem w2_139 : Cond.methodLink RX6 50 yX4_init ∈ gW := gW_2 (List.mem_of_getElem? (i := 139) rfl) rfl
theorem w2_140 : Cond.instanceMethod yX4_init ∈ gW := gW_2 (List.mem_of_getElem? (i := 140) rfl) rfl
theorem w2_141 : Cond.code yX4_init cX4_init 7 none ∈ gW := gW_2 (List.mem_of_getElem? (i := 141) rfl) rfl
theorem w2_142 : Cond.methodLink RX4 3 ⟨"java/lang/Object", "<init>", "()V"⟩ ∈ gW := gW_2 (List.mem_of_getElem? (i := 142) rfl) rfl
theorem w2_143 : Cond.fieldLink RX4 9 "CrystalClub$Station" "frequency" "I" ∈ gW := gW_2 (List.mem_of_getElem? (i := 143) rfl) rfl
theorem w2_146 : Cond.fieldLink RX4 15 "CrystalClub$Station" "power" "I" ∈ gW := gW_2 (List.mem_of_getElem? (i := 146) rfl) rfl
theorem w2_149 : Cond.fieldLink RX4 18 "CrystalClub$Station" "far" "I" ∈ gW := gW_2 (List.mem_of_getElem? (i := 149) rfl) rfl
theorem w2_152 : Cond.fieldLink RX4 21 "CrystalClub$Station" "from" "I" ∈ gW := gW_2 (List.mem_of_getElem? (i := 152) rfl) rfl
theorem w2_153 : Cond.fieldLink RX4 24 "CrystalClub$Station" "hours" "I" ∈ gW := gW_2 (List.mem_of_getElem? (i := 153) rfl) rfl
theorem w2_154 : Cond.fieldLink RX4 27 "CrystalClub$Station" "phase" "I" ∈ gW := gW_2 (List.mem_of_getElem? (i := 154) rfl) rfl
theorem w2_155 : Cond.laysFinal RX4 "CrystalClub$Station" "frequency" "I" ∈ gW := gW_2 (List.mem_of_getElem? (i := 155) rfl) rfl
theorem w2_157 : Cond.laysFinal RX4 "CrystalClub$Station" "power" "I" ∈ gW := gW_2 (List.mem_of_getElem? (i := 157) rfl) rfl
theorem w2_159 : Cond.laysFinal RX4 "CrystalClub$Station" "far" "I" ∈ gW := gW_2 (List.mem_of_getElem? (i := 159) rfl) rfl
theorem w2_161 : Cond.laysFinal RX4 "CrystalClub$Station" "from" "I" ∈ gW := gW_2 (List.mem_of_getElem? (i := 161) rfl) rfl
theorem w2_163 : Cond.laysFinal RX4 "CrystalClub$Station" "hours" "I" ∈ gW := gW_2 (List.mem_of_getElem? (i := 163) rfl) rfl
theorem w2_165 : Cond.laysFinal RX4 "CrystalClub$Station" "phase" "I" ∈ gW := gW_2 (List.mem_of_getElem? (i := 165) rfl) rfl
theorem w2_168 : Cond.methodLink RX6 53 yX0_found ∈ gW := gW_2 (List.mem_of_getElem? (i := 168) rfl) rfl
theorem w2_169 : Cond.instanceMethod yX0_found ∈ gW := gW_2 (List.mem_of_getElem? (i := 169) rfl) rfl
theorem w2_170 : Cond.selects RX0 yX0_found yX0_found ∈ gW := gW_2 (List.mem_of_getElem? (i := 170) rfl) rfl
theorem w2_171 : Cond.code yX0_found cX0_found 3 (some .int) ∈ gW := gW_2 (List.mem_of_getElem? (i := 171) rfl) rfl
theorem w2_172 : Cond.methodLink RL 91 yL_join ∈ gW := gW_2 (List.mem_of_getElem? (i := 172) rfl) rfl
theorem w2_173 : Cond.static yL_join ∈ gW := gW_2 (List.mem_of_getElem? (i := 173) rfl) rfl
theorem w2_175 : Cond.methodLink RL 17 yX6_join ∈ gW := gW_2 (List.mem_of_getElem? (i := 175) rfl) rfl
theorem w2_176 : Cond.instanceMethod yX6_join ∈ gW := gW_2 (List.mem_of_getElem? (i := 176) rfl) rfl
theorem w2_177 : Cond.selects RX6 yX6_join yX6_join ∈ gW := gW_2 (List.mem_of_getElem? (i := 177) rfl) rfl
theorem w2_178 : Cond.code yX6_join cX6_join 3 (some .int) ∈ gW := gW_2 (List.mem_of_getElem? (i := 178) rfl) rfl
theorem w2_181 : Cond.methodLink RX6 64 yX0_admit ∈ gW := gW_2 (List.mem_of_getElem? (i := 181) rfl) rfl
theorem w2_182 : Cond.instanceMethod yX0_admit ∈ gW := gW_2 (List.mem_of_getElem? (i := 182) rfl) rfl
theorem w2_183 : Cond.selects RX0 yX0_admit yX0_admit ∈ gW := gW_2 (List.mem_of_getElem? (i := 183) rfl) rfl
theorem w2_184 : Cond.code yX0_admit cX0_admit 5 (some .int) ∈ gW := gW_2 (List.mem_of_getElem? (i := 184) rfl) rfl
theorem w2_185 : Cond.methodLink RX0 65 yX3_begin ∈ gW := gW_2 (List.mem_of_getElem? (i := 185) rfl) rfl
theorem w2_186 : Cond.instanceMethod yX3_begin ∈ gW := gW_2 (List.mem_of_getElem? (i := 186) rfl) rfl
theorem w2_187 : Cond.selects RX3 yX3_begin yX3_begin ∈ gW := gW_2 (List.mem_of_getElem? (i := 187) rfl) rfl
theorem w2_188 : Cond.code yX3_begin cX3_begin 3 none ∈ gW := gW_2 (List.mem_of_getElem? (i := 188) rfl) rfl
theorem w2_189 : Cond.methodLink RX3 27 yX1_tune ∈ gW := gW_2 (List.mem_of_getElem? (i := 189) rfl) rfl
theorem w2_190 : Cond.instanceMethod yX1_tune ∈ gW := gW_2 (List.mem_of_getElem? (i := 190) rfl) rfl
theorem w2_191 : Cond.selects RX1 yX1_tune yX1_tune ∈ gW := gW_2 (List.mem_of_getElem? (i := 191) rfl) rfl
theorem w2_192 : Cond.code yX1_tune cX1_tune 3 none ∈ gW := gW_2 (List.mem_of_getElem? (i := 192) rfl) rfl
theorem w2_193 : Cond.constant RX1 16 (100000) ∈ gW := gW_2 (List.mem_of_getElem? (i := 193) rfl) rfl
theorem w2_195 : Cond.static yX6_quotient ∈ gW := gW_2 (List.mem_of_getElem? (i := 195) rfl) rfl
theorem w2_196 : Cond.code yX6_quotient cX6_quotient 2 (some .int) ∈ gW := gW_2 (List.mem_of_getElem? (i := 196) rfl) rfl
theorem w2_197 : Cond.methodLink RX1 26 Lib.Math.max.name ∈ gW := gW_2 (List.mem_of_getElem? (i := 197) rfl) rfl
theorem w2_198 : Cond.methodLink RL 95 yL_turn ∈ gW := gW_2 (List.mem_of_getElem? (i := 198) rfl) rfl
theorem w2_199 : Cond.static yL_turn ∈ gW := gW_2 (List.mem_of_getElem? (i := 199) rfl) rfl
theorem w2_201 : Cond.classLink RL 24 "java/lang/IndexOutOfBoundsException" ∈ gW := gW_2 (List.mem_of_getElem? (i := 201) rfl) rfl
theorem w2_202 : Cond.methodLink RL 21 yX6_turn ∈ gW := gW_2 (List.mem_of_getElem? (i := 202) rfl) rfl
theorem w2_203 : Cond.instanceMethod yX6_turn ∈ gW := gW_2 (List.mem_of_getElem? (i := 203) rfl) rfl
theorem w2_204 : Cond.selects RX6 yX6_turn yX6_turn ∈ gW := gW_2 (List.mem_of_getElem? (i := 204) rfl) rfl
theorem w2_205 : Cond.code yX6_turn cX6_turn 5 (some .int) ∈ gW := gW_2 (List.mem_of_getElem? (i := 205) rfl) rfl
theorem w2_206 : Cond.methodLink RX6 68 yX6_setOf ∈ gW := gW_2 (List.mem_of_getElem? (i := 206) rfl) rfl
theorem w2_208 : Cond.instanceMethod yX6_setOf ∈ gW := gW_2 (List.mem_of_getElem? (i := 208) rfl) rfl
theorem w2_209 : Cond.code yX6_setOf cX6_setOf 2 (some (.object "CrystalClub$CrystalSet")) ∈ gW := gW_2 (List.mem_of_getElem? (i := 209) rfl) rfl
theorem w2_210 : Cond.methodLink RX6 86 yX6_memberOf ∈ gW := gW_2 (List.mem_of_getElem? (i := 210) rfl) rfl
theorem w2_212 : Cond.instanceMethod yX6_memberOf ∈ gW := gW_2 (List.mem_of_getElem? (i := 212) rfl) rfl
theorem w2_213 : Cond.code yX6_memberOf cX6_memberOf 3 (some (.object "CrystalClub$Member")) ∈ gW := gW_2 (List.mem_of_getElem? (i := 213) rfl) rfl
theorem w2_214 : Cond.methodLink RX6 215 yX0_memberAt ∈ gW := gW_2 (List.mem_of_getElem? (i := 214) rfl) rfl
theorem w2_215 : Cond.classLink RX6 205 "java/lang/IndexOutOfBoundsException" ∈ gW := gW_2 (List.mem_of_getElem? (i := 215) rfl) rfl
theorem w2_216 : Cond.instantiable "java/lang/IndexOutOfBoundsException" 6 ∈ gW := gW_2 (List.mem_of_getElem? (i := 216) rfl) rfl
theorem w2_218 : Cond.selects "java/lang/IndexOutOfBoundsException" ⟨"java/lang/Throwable", "fillInStackTrace", "(I)Ljava/lang/Throwable;"⟩ ⟨"java/lang/Throwable", "fillInStackTrace", "(I)Ljava/lang/Throwable;"⟩ ∈ gW := gW_2 (List.mem_of_getElem? (i := 218) rfl) rfl
theorem w2_225 : Cond.methodLink RX6 209 ⟨"java/lang/IndexOutOfBoundsException", "<init>", "(Ljava/lang/String;)V"⟩ ∈ gW := gW_2 (List.mem_of_getElem? (i := 225) rfl) rfl
theorem w2_226 : Cond.instanceMethod ⟨"java/lang/IndexOutOfBoundsException", "<init>", "(Ljava/lang/String;)V"⟩ ∈ gW := gW_2 (List.mem_of_getElem? (i := 226) rfl) rfl
theorem w2_227 : Cond.code ⟨"java/lang/IndexOutOfBoundsException", "<init>", "(Ljava/lang/String;)V"⟩ prog_14_method_2_code 2 none ∈ gW := gW_2 (List.mem_of_getElem? (i := 227) rfl) rfl
theorem w2_228 : Cond.methodLink "java/lang/IndexOutOfBoundsException" 7 ⟨"java/lang/RuntimeException", "<init>", "(Ljava/lang/String;)V"⟩ ∈ gW := gW_2 (List.mem_of_getElem? (i := 228) rfl) rfl
theorem w2_232 : Cond.methodLink RX6 80 yX1_tune ∈ gW := gW_2 (List.mem_of_getElem? (i := 232) rfl) rfl
theorem w2_233 : Cond.methodLink RL 98 yL_wind ∈ gW := gW_2 (List.mem_of_getElem? (i := 233) rfl) rfl
theorem w2_234 : Cond.static yL_wind ∈ gW := gW_2 (List.mem_of_getElem? (i := 234) rfl) rfl
theorem w2_236 : Cond.methodLink RL 26 yX6_wind ∈ gW := gW_2 (List.mem_of_getElem? (i := 236) rfl) rfl
theorem w2_237 : Cond.instanceMethod yX6_wind ∈ gW := gW_2 (List.mem_of_getElem? (i := 237) rfl) rfl
theorem w2_238 : Cond.selects RX6 yX6_wind yX6_wind ∈ gW := gW_2 (List.mem_of_getElem? (i := 238) rfl) rfl
theorem w2_239 : Cond.code yX6_wind cX6_wind 5 (some .int) ∈ gW := gW_2 (List.mem_of_getElem? (i := 239) rfl) rfl
theorem w3_1 : Cond.methodLink RL 101 yL_listen ∈ gW := gW_3 (List.mem_of_getElem? (i := 1) rfl) rfl
theorem w3_2 : Cond.static yL_listen ∈ gW := gW_3 (List.mem_of_getElem? (i := 2) rfl) rfl
theorem w3_4 : Cond.methodLink RL 29 yX6_listen ∈ gW := gW_3 (List.mem_of_getElem? (i := 4) rfl) rfl
theorem w3_5 : Cond.instanceMethod yX6_listen ∈ gW := gW_3 (List.mem_of_getElem? (i := 5) rfl) rfl
theorem w3_6 : Cond.selects RX6 yX6_listen yX6_listen ∈ gW := gW_3 (List.mem_of_getElem? (i := 6) rfl) rfl
theorem w3_7 : Cond.code yX6_listen cX6_listen 5 (some .boolean) ∈ gW := gW_3 (List.mem_of_getElem? (i := 7) rfl) rfl
theorem w3_8 : Cond.methodLink RL 105 yL_renew ∈ gW := gW_3 (List.mem_of_getElem? (i := 8) rfl) rfl
theorem w3_9 : Cond.static yL_renew ∈ gW := gW_3 (List.mem_of_getElem? (i := 9) rfl) rfl
theorem w3_11 : Cond.methodLink RL 33 yX6_renew ∈ gW := gW_3 (List.mem_of_getElem? (i := 11) rfl) rfl
theorem w3_12 : Cond.instanceMethod yX6_renew ∈ gW := gW_3 (List.mem_of_getElem? (i := 12) rfl) rfl
theorem w3_13 : Cond.selects RX6 yX6_renew yX6_renew ∈ gW := gW_3 (List.mem_of_getElem? (i := 13) rfl) rfl
theorem w3_14 : Cond.code yX6_renew cX6_renew 4 (some .int) ∈ gW := gW_3 (List.mem_of_getElem? (i := 14) rfl) rfl
theorem w3_15 : Cond.methodLink RL 109 yL_station ∈ gW := gW_3 (List.mem_of_getElem? (i := 15) rfl) rfl
theorem w3_16 : Cond.static yL_station ∈ gW := gW_3 (List.mem_of_getElem? (i := 16) rfl) rfl
theorem w3_18 : Cond.methodLink RL 37 yX6_station ∈ gW := gW_3 (List.mem_of_getElem? (i := 18) rfl) rfl
theorem w3_19 : Cond.instanceMethod yX6_station ∈ gW := gW_3 (List.mem_of_getElem? (i := 19) rfl) rfl
theorem w3_20 : Cond.selects RX6 yX6_station yX6_station ∈ gW := gW_3 (List.mem_of_getElem? (i := 20) rfl) rfl
theorem w3_21 : Cond.code yX6_station cX6_station 3 (some .int) ∈ gW := gW_3 (List.mem_of_getElem? (i := 21) rfl) rfl
theorem w3_22 : Cond.methodLink RX6 99 yX6_stationOf ∈ gW := gW_3 (List.mem_of_getElem? (i := 22) rfl) rfl
theorem w3_24 : Cond.instanceMethod yX6_stationOf ∈ gW := gW_3 (List.mem_of_getElem? (i := 24) rfl) rfl
theorem w3_25 : Cond.code yX6_stationOf cX6_stationOf 3 (some (.object "CrystalClub$Station")) ∈ gW := gW_3 (List.mem_of_getElem? (i := 25) rfl) rfl
theorem w3_26 : Cond.methodLink RX6 210 yX0_stationAt ∈ gW := gW_3 (List.mem_of_getElem? (i := 26) rfl) rfl
theorem w3_28 : Cond.methodLink RX6 103 yX6_refuseUnlessWithin ∈ gW := gW_3 (List.mem_of_getElem? (i := 28) rfl) rfl
theorem w3_29 : Cond.static yX6_refuseUnlessWithin ∈ gW := gW_3 (List.mem_of_getElem? (i := 29) rfl) rfl
theorem w3_30 : Cond.code yX6_refuseUnlessWithin cX6_refuseUnlessWithin 2 none ∈ gW := gW_3 (List.mem_of_getElem? (i := 30) rfl) rfl
theorem w3_32 : Cond.methodLink RX6 106 yX0_tellStation ∈ gW := gW_3 (List.mem_of_getElem? (i := 32) rfl) rfl
theorem w3_33 : Cond.methodLink RL 112 yL_member ∈ gW := gW_3 (List.mem_of_getElem? (i := 33) rfl) rfl
theorem w3_34 : Cond.static yL_member ∈ gW := gW_3 (List.mem_of_getElem? (i := 34) rfl) rfl
theorem w3_36 : Cond.methodLink RL 40 yX6_member ∈ gW := gW_3 (List.mem_of_getElem? (i := 36) rfl) rfl
theorem w3_37 : Cond.instanceMethod yX6_member ∈ gW := gW_3 (List.mem_of_getElem? (i := 37) rfl) rfl
theorem w3_38 : Cond.selects RX6 yX6_member yX6_member ∈ gW := gW_3 (List.mem_of_getElem? (i := 38) rfl) rfl
theorem w3_39 : Cond.code yX6_member cX6_member 3 (some .int) ∈ gW := gW_3 (List.mem_of_getElem? (i := 39) rfl) rfl
theorem w3_40 : Cond.methodLink RX6 109 yX0_tellMember ∈ gW := gW_3 (List.mem_of_getElem? (i := 40) rfl) rfl
theorem w3_41 : Cond.methodLink RL 115 yL_strength ∈ gW := gW_3 (List.mem_of_getElem? (i := 41) rfl) rfl
theorem w3_42 : Cond.static yL_strength ∈ gW := gW_3 (List.mem_of_getElem? (i := 42) rfl) rfl
theorem w3_44 : Cond.methodLink RL 43 yX6_strength ∈ gW := gW_3 (List.mem_of_getElem? (i := 44) rfl) rfl
theorem w3_45 : Cond.instanceMethod yX6_strength ∈ gW := gW_3 (List.mem_of_getElem? (i := 45) rfl) rfl
theorem w3_46 : Cond.selects RX6 yX6_strength yX6_strength ∈ gW := gW_3 (List.mem_of_getElem? (i := 46) rfl) rfl
theorem w3_47 : Cond.code yX6_strength cX6_strength 5 (some .int) ∈ gW := gW_3 (List.mem_of_getElem? (i := 47) rfl) rfl
theorem w3_48 : Cond.methodLink RX6 115 yX4_isOnAir ∈ gW := gW_3 (List.mem_of_getElem? (i := 48) rfl) rfl
theorem w3_49 : Cond.methodLink RX6 119 yX1_strengthOf ∈ gW := gW_3 (List.mem_of_getElem? (i := 49) rfl) rfl
theorem w3_50 : Cond.instanceMethod yX1_strengthOf ∈ gW := gW_3 (List.mem_of_getElem? (i := 50) rfl) rfl
theorem w3_51 : Cond.selects RX1 yX1_strengthOf yX1_strengthOf ∈ gW := gW_3 (List.mem_of_getElem? (i := 51) rfl) rfl
theorem w3_52 : Cond.code yX1_strengthOf cX1_strengthOf 5 (some .int) ∈ gW := gW_3 (List.mem_of_getElem? (i := 52) rfl) rfl
theorem w3_54 : Cond.static yX6_distance ∈ gW := gW_3 (List.mem_of_getElem? (i := 54) rfl) rfl
theorem w3_55 : Cond.code yX6_distance cX6_distance 2 (some .int) ∈ gW := gW_3 (List.mem_of_getElem? (i := 55) rfl) rfl
theorem w3_56 : Cond.methodLink RX1 51 yX4_fading ∈ gW := gW_3 (List.mem_of_getElem? (i := 56) rfl) rfl
theorem w3_57 : Cond.methodLink RL 118 yL_hears ∈ gW := gW_3 (List.mem_of_getElem? (i := 57) rfl) rfl
theorem w3_58 : Cond.static yL_hears ∈ gW := gW_3 (List.mem_of_getElem? (i := 58) rfl) rfl
theorem w3_60 : Cond.methodLink RL 46 yX6_hears ∈ gW := gW_3 (List.mem_of_getElem? (i := 60) rfl) rfl
theorem w3_61 : Cond.instanceMethod yX6_hears ∈ gW := gW_3 (List.mem_of_getElem? (i := 61) rfl) rfl
theorem w3_62 : Cond.selects RX6 yX6_hears yX6_hears ∈ gW := gW_3 (List.mem_of_getElem? (i := 62) rfl) rfl
theorem w3_63 : Cond.code yX6_hears cX6_hears 2 (some .int) ∈ gW := gW_3 (List.mem_of_getElem? (i := 63) rfl) rfl
theorem w3_64 : Cond.methodLink RX6 123 yX0_hearingOf ∈ gW := gW_3 (List.mem_of_getElem? (i := 64) rfl) rfl
theorem w3_65 : Cond.instanceMethod yX0_hearingOf ∈ gW := gW_3 (List.mem_of_getElem? (i := 65) rfl) rfl
theorem w3_66 : Cond.selects RX0 yX0_hearingOf yX0_hearingOf ∈ gW := gW_3 (List.mem_of_getElem? (i := 66) rfl) rfl
theorem w3_67 : Cond.code yX0_hearingOf cX0_hearingOf 5 (some (.object "CrystalClub$Hearing")) ∈ gW := gW_3 (List.mem_of_getElem? (i := 67) rfl) rfl
theorem w3_68 : Cond.methodLink RX0 68 yX2_clear ∈ gW := gW_3 (List.mem_of_getElem? (i := 68) rfl) rfl
theorem w3_69 : Cond.instanceMethod yX2_clear ∈ gW := gW_3 (List.mem_of_getElem? (i := 69) rfl) rfl
theorem w3_70 : Cond.selects RX2 yX2_clear yX2_clear ∈ gW := gW_3 (List.mem_of_getElem? (i := 70) rfl) rfl
theorem w3_71 : Cond.code yX2_clear cX2_clear 1 none ∈ gW := gW_3 (List.mem_of_getElem? (i := 71) rfl) rfl
theorem w3_72 : Cond.methodLink RX0 75 yX1_strengthOf ∈ gW := gW_3 (List.mem_of_getElem? (i := 72) rfl) rfl
theorem w3_73 : Cond.methodLink RX0 81 yX2_offer ∈ gW := gW_3 (List.mem_of_getElem? (i := 73) rfl) rfl
theorem w3_74 : Cond.instanceMethod yX2_offer ∈ gW := gW_3 (List.mem_of_getElem? (i := 74) rfl) rfl
theorem w3_75 : Cond.selects RX2 yX2_offer yX2_offer ∈ gW := gW_3 (List.mem_of_getElem? (i := 75) rfl) rfl
theorem w3_76 : Cond.code yX2_offer cX2_offer 3 none ∈ gW := gW_3 (List.mem_of_getElem? (i := 76) rfl) rfl
theorem w3_77 : Cond.methodLink RX6 127 yX2_verdict ∈ gW := gW_3 (List.mem_of_getElem? (i := 77) rfl) rfl
theorem w3_78 : Cond.instanceMethod yX2_verdict ∈ gW := gW_3 (List.mem_of_getElem? (i := 78) rfl) rfl
theorem w3_79 : Cond.selects RX2 yX2_verdict yX2_verdict ∈ gW := gW_3 (List.mem_of_getElem? (i := 79) rfl) rfl
theorem w3_80 : Cond.code yX2_verdict cX2_verdict 1 (some .int) ∈ gW := gW_3 (List.mem_of_getElem? (i := 80) rfl) rfl
theorem w3_81 : Cond.methodLink RL 121 yL_log ∈ gW := gW_3 (List.mem_of_getElem? (i := 81) rfl) rfl
theorem w3_82 : Cond.static yL_log ∈ gW := gW_3 (List.mem_of_getElem? (i := 82) rfl) rfl
theorem w3_84 : Cond.methodLink RL 49 yX6_log ∈ gW := gW_3 (List.mem_of_getElem? (i := 84) rfl) rfl
theorem w3_85 : Cond.instanceMethod yX6_log ∈ gW := gW_3 (List.mem_of_getElem? (i := 85) rfl) rfl
theorem w3_86 : Cond.selects RX6 yX6_log yX6_log ∈ gW := gW_3 (List.mem_of_getElem? (i := 86) rfl) rfl
theorem w3_87 : Cond.code yX6_log cX6_log 5 (some .int) ∈ gW := gW_3 (List.mem_of_getElem? (i := 87) rfl) rfl
theorem w3_88 : Cond.methodLink RX6 133 yX6_logOf ∈ gW := gW_3 (List.mem_of_getElem? (i := 88) rfl) rfl
theorem w3_90 : Cond.instanceMethod yX6_logOf ∈ gW := gW_3 (List.mem_of_getElem? (i := 90) rfl) rfl
theorem w3_91 : Cond.code yX6_logOf cX6_logOf 4 (some (.object "CrystalClub$Table")) ∈ gW := gW_3 (List.mem_of_getElem? (i := 91) rfl) rfl
theorem w3_92 : Cond.methodLink RX6 137 yX5_at ∈ gW := gW_3 (List.mem_of_getElem? (i := 92) rfl) rfl
theorem w3_93 : Cond.methodLink RL 125 yL_write ∈ gW := gW_3 (List.mem_of_getElem? (i := 93) rfl) rfl
theorem w3_94 : Cond.static yL_write ∈ gW := gW_3 (List.mem_of_getElem? (i := 94) rfl) rfl
theorem w3_96 : Cond.methodLink RL 53 yX6_write ∈ gW := gW_3 (List.mem_of_getElem? (i := 96) rfl) rfl
theorem w3_97 : Cond.instanceMethod yX6_write ∈ gW := gW_3 (List.mem_of_getElem? (i := 97) rfl) rfl
theorem w3_98 : Cond.selects RX6 yX6_write yX6_write ∈ gW := gW_3 (List.mem_of_getElem? (i := 98) rfl) rfl
theorem w3_99 : Cond.code yX6_write cX6_write 4 (some .int) ∈ gW := gW_3 (List.mem_of_getElem? (i := 99) rfl) rfl
theorem w3_101 : Cond.methodLink RX6 144 yX0_hasLetterOf ∈ gW := gW_3 (List.mem_of_getElem? (i := 101) rfl) rfl
theorem w3_102 : Cond.instanceMethod yX0_hasLetterOf ∈ gW := gW_3 (List.mem_of_getElem? (i := 102) rfl) rfl
theorem w3_103 : Cond.selects RX0 yX0_hasLetterOf yX0_hasLetterOf ∈ gW := gW_3 (List.mem_of_getElem? (i := 103) rfl) rfl
theorem w3_104 : Cond.code yX0_hasLetterOf cX0_hasLetterOf 4 (some .boolean) ∈ gW := gW_3 (List.mem_of_getElem? (i := 104) rfl) rfl
theorem w3_106 : Cond.methodLink RX6 154 yX5_isFull ∈ gW := gW_3 (List.mem_of_getElem? (i := 106) rfl) rfl
theorem w3_107 : Cond.instanceMethod yX5_isFull ∈ gW := gW_3 (List.mem_of_getElem? (i := 107) rfl) rfl
theorem w3_108 : Cond.selects RX5 yX5_isFull yX5_isFull ∈ gW := gW_3 (List.mem_of_getElem? (i := 108) rfl) rfl
theorem w3_109 : Cond.code yX5_isFull cX5_isFull 1 (some .boolean) ∈ gW := gW_3 (List.mem_of_getElem? (i := 109) rfl) rfl
theorem w3_111 : Cond.methodLink RX6 160 yX0_send ∈ gW := gW_3 (List.mem_of_getElem? (i := 111) rfl) rfl
theorem w3_112 : Cond.instanceMethod yX0_send ∈ gW := gW_3 (List.mem_of_getElem? (i := 112) rfl) rfl
theorem w3_113 : Cond.selects RX0 yX0_send yX0_send ∈ gW := gW_3 (List.mem_of_getElem? (i := 113) rfl) rfl
theorem w3_114 : Cond.code yX0_send cX0_send 7 (some .int) ∈ gW := gW_3 (List.mem_of_getElem? (i := 114) rfl) rfl
theorem w3_115 : Cond.methodLink RX0 157 yX4_daysOfMail ∈ gW := gW_3 (List.mem_of_getElem? (i := 115) rfl) rfl
theorem w3_116 : Cond.instanceMethod yX4_daysOfMail ∈ gW := gW_3 (List.mem_of_getElem? (i := 116) rfl) rfl
theorem w3_117 : Cond.selects RX4 yX4_daysOfMail yX4_daysOfMail ∈ gW := gW_3 (List.mem_of_getElem? (i := 117) rfl) rfl
theorem w3_118 : Cond.code yX4_daysOfMail cX4_daysOfMail 1 (some .int) ∈ gW := gW_3 (List.mem_of_getElem? (i := 118) rfl) rfl
theorem w3_119 : Cond.methodLink RX0 160 yX5_put ∈ gW := gW_3 (List.mem_of_getElem? (i := 119) rfl) rfl
theorem w3_120 : Cond.instanceMethod yX5_put ∈ gW := gW_3 (List.mem_of_getElem? (i := 120) rfl) rfl
theorem w3_121 : Cond.selects RX5 yX5_put yX5_put ∈ gW := gW_3 (List.mem_of_getElem? (i := 121) rfl) rfl
theorem w3_122 : Cond.code yX5_put cX5_put 5 none ∈ gW := gW_3 (List.mem_of_getElem? (i := 122) rfl) rfl
theorem w3_123 : Cond.methodLink RL 128 yL_pass ∈ gW := gW_3 (List.mem_of_getElem? (i := 123) rfl) rfl
theorem w3_124 : Cond.static yL_pass ∈ gW := gW_3 (List.mem_of_getElem? (i := 124) rfl) rfl
theorem w3_126 : Cond.methodLink RL 56 yX6_pass ∈ gW := gW_3 (List.mem_of_getElem? (i := 126) rfl) rfl
theorem w3_127 : Cond.instanceMethod yX6_pass ∈ gW := gW_3 (List.mem_of_getElem? (i := 127) rfl) rfl
theorem w3_128 : Cond.selects RX6 yX6_pass yX6_pass ∈ gW := gW_3 (List.mem_of_getElem? (i := 128) rfl) rfl
theorem w3_129 : Cond.code yX6_pass cX6_pass 2 (some .int) ∈ gW := gW_3 (List.mem_of_getElem? (i := 129) rfl) rfl
theorem w3_131 : Cond.methodLink RX6 165 yX0_passHours ∈ gW := gW_3 (List.mem_of_getElem? (i := 131) rfl) rfl
theorem w3_132 : Cond.instanceMethod yX0_passHours ∈ gW := gW_3 (List.mem_of_getElem? (i := 132) rfl) rfl
theorem w3_133 : Cond.selects RX0 yX0_passHours yX0_passHours ∈ gW := gW_3 (List.mem_of_getElem? (i := 133) rfl) rfl
theorem w3_134 : Cond.code yX0_passHours cX0_passHours 4 (some .int) ∈ gW := gW_3 (List.mem_of_getElem? (i := 134) rfl) rfl
theorem w3_135 : Cond.methodLink RX0 101 yX0_writeLines ∈ gW := gW_3 (List.mem_of_getElem? (i := 135) rfl) rfl
theorem w3_137 : Cond.instanceMethod yX0_writeLines ∈ gW := gW_3 (List.mem_of_getElem? (i := 137) rfl) rfl
theorem w3_138 : Cond.code yX0_writeLines cX0_writeLines 4 (some .int) ∈ gW := gW_3 (List.mem_of_getElem? (i := 138) rfl) rfl
theorem w3_139 : Cond.methodLink RX0 117 yX5_isFull ∈ gW := gW_3 (List.mem_of_getElem? (i := 139) rfl) rfl
theorem w3_140 : Cond.methodLink RX0 121 yX0_writeLine ∈ gW := gW_3 (List.mem_of_getElem? (i := 140) rfl) rfl
theorem w3_142 : Cond.instanceMethod yX0_writeLine ∈ gW := gW_3 (List.mem_of_getElem? (i := 142) rfl) rfl
theorem w3_143 : Cond.code yX0_writeLine cX0_writeLine 4 (some .boolean) ∈ gW := gW_3 (List.mem_of_getElem? (i := 143) rfl) rfl
theorem w3_144 : Cond.methodLink RX0 90 yX0_hearingOf ∈ gW := gW_3 (List.mem_of_getElem? (i := 144) rfl) rfl
theorem w3_145 : Cond.methodLink RX0 94 yX2_verdict ∈ gW := gW_3 (List.mem_of_getElem? (i := 145) rfl) rfl
theorem w3_146 : Cond.methodLink RX0 129 yX3_hasLineOf ∈ gW := gW_3 (List.mem_of_getElem? (i := 146) rfl) rfl
theorem w3_147 : Cond.instanceMethod yX3_hasLineOf ∈ gW := gW_3 (List.mem_of_getElem? (i := 147) rfl) rfl
theorem w3_148 : Cond.selects RX3 yX3_hasLineOf yX3_hasLineOf ∈ gW := gW_3 (List.mem_of_getElem? (i := 148) rfl) rfl
theorem w3_149 : Cond.code yX3_hasLineOf cX3_hasLineOf 4 (some .boolean) ∈ gW := gW_3 (List.mem_of_getElem? (i := 149) rfl) rfl
theorem w3_150 : Cond.methodLink RX0 133 yX3_addLine ∈ gW := gW_3 (List.mem_of_getElem? (i := 150) rfl) rfl
theorem w3_151 : Cond.instanceMethod yX3_addLine ∈ gW := gW_3 (List.mem_of_getElem? (i := 151) rfl) rfl
theorem w3_152 : Cond.selects RX3 yX3_addLine yX3_addLine ∈ gW := gW_3 (List.mem_of_getElem? (i := 152) rfl) rfl
theorem w3_153 : Cond.code yX3_addLine cX3_addLine 5 none ∈ gW := gW_3 (List.mem_of_getElem? (i := 153) rfl) rfl
theorem w3_154 : Cond.methodLink RX3 55 yX5_put ∈ gW := gW_3 (List.mem_of_getElem? (i := 154) rfl) rfl
theorem w3_155 : Cond.methodLink RX0 104 yX0_wearCrystals ∈ gW := gW_3 (List.mem_of_getElem? (i := 155) rfl) rfl
theorem w3_157 : Cond.instanceMethod yX0_wearCrystals ∈ gW := gW_3 (List.mem_of_getElem? (i := 157) rfl) rfl
theorem w3_158 : Cond.code yX0_wearCrystals cX0_wearCrystals 3 none ∈ gW := gW_3 (List.mem_of_getElem? (i := 158) rfl) rfl
theorem w3_159 : Cond.methodLink RX0 137 yX3_wearCrystal ∈ gW := gW_3 (List.mem_of_getElem? (i := 159) rfl) rfl
theorem w3_160 : Cond.instanceMethod yX3_wearCrystal ∈ gW := gW_3 (List.mem_of_getElem? (i := 160) rfl) rfl
theorem w3_161 : Cond.selects RX3 yX3_wearCrystal yX3_wearCrystal ∈ gW := gW_3 (List.mem_of_getElem? (i := 161) rfl) rfl
theorem w3_162 : Cond.code yX3_wearCrystal cX3_wearCrystal 1 none ∈ gW := gW_3 (List.mem_of_getElem? (i := 162) rfl) rfl
theorem w3_163 : Cond.methodLink RX0 107 yX0_answerLetters ∈ gW := gW_3 (List.mem_of_getElem? (i := 163) rfl) rfl
theorem w3_165 : Cond.instanceMethod yX0_answerLetters ∈ gW := gW_3 (List.mem_of_getElem? (i := 165) rfl) rfl
theorem w3_166 : Cond.code yX0_answerLetters cX0_answerLetters 3 none ∈ gW := gW_3 (List.mem_of_getElem? (i := 166) rfl) rfl
theorem w3_167 : Cond.methodLink RX0 147 yX5_copyRow ∈ gW := gW_3 (List.mem_of_getElem? (i := 167) rfl) rfl
theorem w3_168 : Cond.instanceMethod yX5_copyRow ∈ gW := gW_3 (List.mem_of_getElem? (i := 168) rfl) rfl
theorem w3_169 : Cond.selects RX5 yX5_copyRow yX5_copyRow ∈ gW := gW_3 (List.mem_of_getElem? (i := 169) rfl) rfl
theorem w3_170 : Cond.code yX5_copyRow cX5_copyRow 4 none ∈ gW := gW_3 (List.mem_of_getElem? (i := 170) rfl) rfl
theorem w3_171 : Cond.methodLink RX5 29 yX5_put ∈ gW := gW_3 (List.mem_of_getElem? (i := 171) rfl) rfl
theorem w3_172 : Cond.methodLink RX0 150 yX0_answer ∈ gW := gW_3 (List.mem_of_getElem? (i := 172) rfl) rfl
theorem w3_174 : Cond.instanceMethod yX0_answer ∈ gW := gW_3 (List.mem_of_getElem? (i := 174) rfl) rfl
theorem w3_175 : Cond.code yX0_answer cX0_answer 4 none ∈ gW := gW_3 (List.mem_of_getElem? (i := 175) rfl) rfl
theorem w3_176 : Cond.methodLink RX0 153 yX3_takeAnswer ∈ gW := gW_3 (List.mem_of_getElem? (i := 176) rfl) rfl
theorem w3_177 : Cond.instanceMethod yX3_takeAnswer ∈ gW := gW_3 (List.mem_of_getElem? (i := 177) rfl) rfl
theorem w3_178 : Cond.selects RX3 yX3_takeAnswer yX3_takeAnswer ∈ gW := gW_3 (List.mem_of_getElem? (i := 178) rfl) rfl
theorem w3_179 : Cond.code yX3_takeAnswer cX3_takeAnswer 2 none ∈ gW := gW_3 (List.mem_of_getElem? (i := 179) rfl) rfl
theorem w3_180 : Cond.methodLink RL 131 yL_count ∈ gW := gW_3 (List.mem_of_getElem? (i := 180) rfl) rfl
theorem w3_181 : Cond.static yL_count ∈ gW := gW_3 (List.mem_of_getElem? (i := 181) rfl) rfl
theorem w3_183 : Cond.methodLink RL 59 yX6_count ∈ gW := gW_3 (List.mem_of_getElem? (i := 183) rfl) rfl
theorem w3_184 : Cond.instanceMethod yX6_count ∈ gW := gW_3 (List.mem_of_getElem? (i := 184) rfl) rfl
theorem w3_185 : Cond.selects RX6 yX6_count yX6_count ∈ gW := gW_3 (List.mem_of_getElem? (i := 185) rfl) rfl
theorem w3_186 : Cond.code yX6_count cX6_count 2 (some .int) ∈ gW := gW_3 (List.mem_of_getElem? (i := 186) rfl) rfl
theorem w3_187 : Cond.methodLink RX6 169 yX0_tellCount ∈ gW := gW_3 (List.mem_of_getElem? (i := 187) rfl) rfl
theorem w3_188 : Cond.methodLink RL 134 yL_rank ∈ gW := gW_3 (List.mem_of_getElem? (i := 188) rfl) rfl
theorem w3_189 : Cond.static yL_rank ∈ gW := gW_3 (List.mem_of_getElem? (i := 189) rfl) rfl
theorem w3_191 : Cond.methodLink RL 62 yX6_rank ∈ gW := gW_3 (List.mem_of_getElem? (i := 191) rfl) rfl
theorem w3_192 : Cond.instanceMethod yX6_rank ∈ gW := gW_3 (List.mem_of_getElem? (i := 192) rfl) rfl
theorem w3_193 : Cond.selects RX6 yX6_rank yX6_rank ∈ gW := gW_3 (List.mem_of_getElem? (i := 193) rfl) rfl
theorem w3_194 : Cond.code yX6_rank cX6_rank 2 (some .int) ∈ gW := gW_3 (List.mem_of_getElem? (i := 194) rfl) rfl
theorem w3_195 : Cond.methodLink RX6 172 yX0_memberAtPlace ∈ gW := gW_3 (List.mem_of_getElem? (i := 195) rfl) rfl
theorem w3_196 : Cond.instanceMethod yX0_memberAtPlace ∈ gW := gW_3 (List.mem_of_getElem? (i := 196) rfl) rfl
theorem w3_197 : Cond.selects RX0 yX0_memberAtPlace yX0_memberAtPlace ∈ gW := gW_3 (List.mem_of_getElem? (i := 197) rfl) rfl
theorem w3_198 : Cond.code yX0_memberAtPlace cX0_memberAtPlace 3 (some .int) ∈ gW := gW_3 (List.mem_of_getElem? (i := 198) rfl) rfl
theorem w3_199 : Cond.methodLink RX0 169 yX0_leadersOf ∈ gW := gW_3 (List.mem_of_getElem? (i := 199) rfl) rfl
theorem w3_201 : Cond.instanceMethod yX0_leadersOf ∈ gW := gW_3 (List.mem_of_getElem? (i := 201) rfl) rfl
theorem w3_202 : Cond.code yX0_leadersOf cX0_leadersOf 4 (some .int) ∈ gW := gW_3 (List.mem_of_getElem? (i := 202) rfl) rfl
theorem w3_203 : Cond.methodLink RX0 173 yX0_leads ∈ gW := gW_3 (List.mem_of_getElem? (i := 203) rfl) rfl
theorem w3_205 : Cond.instanceMethod yX0_leads ∈ gW := gW_3 (List.mem_of_getElem? (i := 205) rfl) rfl
theorem w3_206 : Cond.code yX0_leads cX0_leads 7 (some .boolean) ∈ gW := gW_3 (List.mem_of_getElem? (i := 206) rfl) rfl
theorem w3_207 : Cond.methodLink RX0 180 yJ6_compare_7cf53 ∈ gW := gW_3 (List.mem_of_getElem? (i := 207) rfl) rfl
theorem w3_208 : Cond.static yJ6_compare_7cf53 ∈ gW := gW_3 (List.mem_of_getElem? (i := 208) rfl) rfl
theorem w3_209 : Cond.code yJ6_compare_7cf53 cJ6_compare_7cf53 2 (some .int) ∈ gW := gW_3 (List.mem_of_getElem? (i := 209) rfl) rfl
theorem w3_210 : Cond.methodLink RL 137 yL_dial ∈ gW := gW_3 (List.mem_of_getElem? (i := 210) rfl) rfl
theorem w3_211 : Cond.static yL_dial ∈ gW := gW_3 (List.mem_of_getElem? (i := 211) rfl) rfl
theorem w3_213 : Cond.methodLink RL 65 yX6_dial ∈ gW := gW_3 (List.mem_of_getElem? (i := 213) rfl) rfl
theorem w3_214 : Cond.instanceMethod yX6_dial ∈ gW := gW_3 (List.mem_of_getElem? (i := 214) rfl) rfl
theorem w3_215 : Cond.selects RX6 yX6_dial yX6_dial ∈ gW := gW_3 (List.mem_of_getElem? (i := 215) rfl) rfl
theorem w3_216 : Cond.code yX6_dial cX6_dial 4 (some .int) ∈ gW := gW_3 (List.mem_of_getElem? (i := 216) rfl) rfl
theorem w3_217 : Cond.methodLink RX6 175 yX1_copyFrom ∈ gW := gW_3 (List.mem_of_getElem? (i := 217) rfl) rfl
theorem w3_218 : Cond.instanceMethod yX1_copyFrom ∈ gW := gW_3 (List.mem_of_getElem? (i := 218) rfl) rfl
theorem w3_219 : Cond.selects RX1 yX1_copyFrom yX1_copyFrom ∈ gW := gW_3 (List.mem_of_getElem? (i := 219) rfl) rfl
theorem w3_220 : Cond.code yX1_copyFrom cX1_copyFrom 2 none ∈ gW := gW_3 (List.mem_of_getElem? (i := 220) rfl) rfl
theorem w3_221 : Cond.methodLink RX6 179 yX0_bestDial ∈ gW := gW_3 (List.mem_of_getElem? (i := 221) rfl) rfl
theorem w3_222 : Cond.instanceMethod yX0_bestDial ∈ gW := gW_3 (List.mem_of_getElem? (i := 222) rfl) rfl
theorem w3_223 : Cond.selects RX0 yX0_bestDial yX0_bestDial ∈ gW := gW_3 (List.mem_of_getElem? (i := 223) rfl) rfl
theorem w3_224 : Cond.code yX0_bestDial cX0_bestDial 7 (some .int) ∈ gW := gW_3 (List.mem_of_getElem? (i := 224) rfl) rfl
theorem w3_225 : Cond.methodLink RX0 87 yX1_tune ∈ gW := gW_3 (List.mem_of_getElem? (i := 225) rfl) rfl
theorem w3_226 : Cond.methodLink RL 140 yL_next ∈ gW := gW_3 (List.mem_of_getElem? (i := 226) rfl) rfl
theorem w3_227 : Cond.static yL_next ∈ gW := gW_3 (List.mem_of_getElem? (i := 227) rfl) rfl
theorem w3_229 : Cond.methodLink RL 68 yX6_next ∈ gW := gW_3 (List.mem_of_getElem? (i := 229) rfl) rfl
theorem w3_230 : Cond.instanceMethod yX6_next ∈ gW := gW_3 (List.mem_of_getElem? (i := 230) rfl) rfl
theorem w3_231 : Cond.selects RX6 yX6_next yX6_next ∈ gW := gW_3 (List.mem_of_getElem? (i := 231) rfl) rfl
theorem w3_232 : Cond.code yX6_next cX6_next 5 (some .int) ∈ gW := gW_3 (List.mem_of_getElem? (i := 232) rfl) rfl
theorem w3_233 : Cond.methodLink RL 143 yL_apart ∈ gW := gW_3 (List.mem_of_getElem? (i := 233) rfl) rfl
theorem w3_234 : Cond.static yL_apart ∈ gW := gW_3 (List.mem_of_getElem? (i := 234) rfl) rfl
theorem w3_236 : Cond.methodLink RL 71 yX6_apart ∈ gW := gW_3 (List.mem_of_getElem? (i := 236) rfl) rfl
theorem w3_237 : Cond.instanceMethod yX6_apart ∈ gW := gW_3 (List.mem_of_getElem? (i := 237) rfl) rfl
theorem w3_238 : Cond.selects RX6 yX6_apart yX6_apart ∈ gW := gW_3 (List.mem_of_getElem? (i := 238) rfl) rfl
theorem w3_239 : Cond.code yX6_apart cX6_apart 8 (some .int) ∈ gW := gW_3 (List.mem_of_getElem? (i := 239) rfl) rfl
theorem w4_1 : Cond.methodLink RX6 185 yX0_keepsApart ∈ gW := gW_4 (List.mem_of_getElem? (i := 1) rfl) rfl
theorem w4_2 : Cond.instanceMethod yX0_keepsApart ∈ gW := gW_4 (List.mem_of_getElem? (i := 2) rfl) rfl
theorem w4_3 : Cond.selects RX0 yX0_keepsApart yX0_keepsApart ∈ gW := gW_4 (List.mem_of_getElem? (i := 3) rfl) rfl
theorem w4_4 : Cond.code yX0_keepsApart cX0_keepsApart 9 (some .boolean) ∈ gW := gW_4 (List.mem_of_getElem? (i := 4) rfl) rfl
theorem w4_5 : Cond.methodLink RL 146 yL_foresee ∈ gW := gW_4 (List.mem_of_getElem? (i := 5) rfl) rfl
theorem w4_6 : Cond.static yL_foresee ∈ gW := gW_4 (List.mem_of_getElem? (i := 6) rfl) rfl
theorem w4_8 : Cond.methodLink RL 74 yX6_foresee ∈ gW := gW_4 (List.mem_of_getElem? (i := 8) rfl) rfl
theorem w4_9 : Cond.instanceMethod yX6_foresee ∈ gW := gW_4 (List.mem_of_getElem? (i := 9) rfl) rfl
theorem w4_10 : Cond.selects RX6 yX6_foresee yX6_foresee ∈ gW := gW_4 (List.mem_of_getElem? (i := 10) rfl) rfl
theorem w4_11 : Cond.code yX6_foresee cX6_foresee 4 (some .int) ∈ gW := gW_4 (List.mem_of_getElem? (i := 11) rfl) rfl
theorem w4_12 : Cond.methodLink RX6 189 yX0_copyFrom ∈ gW := gW_4 (List.mem_of_getElem? (i := 12) rfl) rfl
theorem w4_13 : Cond.instanceMethod yX0_copyFrom ∈ gW := gW_4 (List.mem_of_getElem? (i := 13) rfl) rfl
theorem w4_14 : Cond.selects RX0 yX0_copyFrom yX0_copyFrom ∈ gW := gW_4 (List.mem_of_getElem? (i := 14) rfl) rfl
theorem w4_15 : Cond.code yX0_copyFrom cX0_copyFrom 5 none ∈ gW := gW_4 (List.mem_of_getElem? (i := 15) rfl) rfl
theorem w4_16 : Cond.methodLink RX0 58 yX3_copyFrom ∈ gW := gW_4 (List.mem_of_getElem? (i := 16) rfl) rfl
theorem w4_17 : Cond.instanceMethod yX3_copyFrom ∈ gW := gW_4 (List.mem_of_getElem? (i := 17) rfl) rfl
theorem w4_18 : Cond.selects RX3 yX3_copyFrom yX3_copyFrom ∈ gW := gW_4 (List.mem_of_getElem? (i := 18) rfl) rfl
theorem w4_19 : Cond.code yX3_copyFrom cX3_copyFrom 2 none ∈ gW := gW_4 (List.mem_of_getElem? (i := 19) rfl) rfl
theorem w4_20 : Cond.methodLink RX3 44 yX1_copyFrom ∈ gW := gW_4 (List.mem_of_getElem? (i := 20) rfl) rfl
theorem w4_21 : Cond.methodLink RX3 48 yX5_copyFrom ∈ gW := gW_4 (List.mem_of_getElem? (i := 21) rfl) rfl
theorem w4_22 : Cond.instanceMethod yX5_copyFrom ∈ gW := gW_4 (List.mem_of_getElem? (i := 22) rfl) rfl
theorem w4_23 : Cond.selects RX5 yX5_copyFrom yX5_copyFrom ∈ gW := gW_4 (List.mem_of_getElem? (i := 23) rfl) rfl
theorem w4_24 : Cond.code yX5_copyFrom cX5_copyFrom 3 none ∈ gW := gW_4 (List.mem_of_getElem? (i := 24) rfl) rfl
theorem w4_25 : Cond.methodLink RX0 62 yX5_copyFrom ∈ gW := gW_4 (List.mem_of_getElem? (i := 25) rfl) rfl
theorem w4_26 : Cond.methodLink RX6 192 yX0_confirmedLines ∈ gW := gW_4 (List.mem_of_getElem? (i := 26) rfl) rfl
theorem w4_27 : Cond.classLink RL 78 RX8 ∈ gW := gW_4 (List.mem_of_getElem? (i := 27) rfl) rfl
theorem w4_28 : Cond.instantiable RX8 10 ∈ gW := gW_4 (List.mem_of_getElem? (i := 28) rfl) rfl
theorem w4_29 : Cond.methodLink RL 80 yX8_init ∈ gW := gW_4 (List.mem_of_getElem? (i := 29) rfl) rfl
theorem w4_30 : Cond.instanceMethod yX8_init ∈ gW := gW_4 (List.mem_of_getElem? (i := 30) rfl) rfl
theorem w4_31 : Cond.code yX8_init cX8_init 1 none ∈ gW := gW_4 (List.mem_of_getElem? (i := 31) rfl) rfl
theorem w4_32 : Cond.methodLink RX8 1 ⟨"java/lang/Object", "<init>", "()V"⟩ ∈ gW := gW_4 (List.mem_of_getElem? (i := 32) rfl) rfl
theorem w4_33 : Cond.classLink RX8 25 RX7 ∈ gW := gW_4 (List.mem_of_getElem? (i := 33) rfl) rfl
theorem w4_34 : Cond.instantiable RX7 9 ∈ gW := gW_4 (List.mem_of_getElem? (i := 34) rfl) rfl
theorem w4_36 : Cond.instanceMethod yX7_init ∈ gW := gW_4 (List.mem_of_getElem? (i := 36) rfl) rfl
theorem w4_37 : Cond.code yX7_init cX7_init 2 none ∈ gW := gW_4 (List.mem_of_getElem? (i := 37) rfl) rfl
theorem w4_38 : Cond.methodLink RX7 9 ⟨"java/lang/Object", "<init>", "()V"⟩ ∈ gW := gW_4 (List.mem_of_getElem? (i := 38) rfl) rfl
theorem w4_39 : Cond.fieldLink RX7 34 "CrystalClubModel$State" "hour" "I" ∈ gW := gW_4 (List.mem_of_getElem? (i := 39) rfl) rfl
theorem w4_41 : Cond.fieldLink RX7 38 "CrystalClubModel$State" "letters" "I" ∈ gW := gW_4 (List.mem_of_getElem? (i := 41) rfl) rfl
theorem w4_43 : Cond.fieldLink RX7 41 "CrystalClubModel$State" "written" "I" ∈ gW := gW_4 (List.mem_of_getElem? (i := 43) rfl) rfl
theorem w4_45 : Cond.fieldLink RX7 44 "CrystalClubModel$State" "answered" "I" ∈ gW := gW_4 (List.mem_of_getElem? (i := 45) rfl) rfl
theorem w4_47 : Cond.fieldLink RX7 15 "CrystalClubModel$State" "crystal" "[I" ∈ gW := gW_4 (List.mem_of_getElem? (i := 47) rfl) rfl
theorem w4_49 : Cond.fieldLink RX7 19 "CrystalClubModel$State" "lines" "[I" ∈ gW := gW_4 (List.mem_of_getElem? (i := 49) rfl) rfl
theorem w4_51 : Cond.fieldLink RX7 22 "CrystalClubModel$State" "log" "[I" ∈ gW := gW_4 (List.mem_of_getElem? (i := 51) rfl) rfl
theorem w4_53 : Cond.fieldLink RX7 25 "CrystalClubModel$State" "mail" "[I" ∈ gW := gW_4 (List.mem_of_getElem? (i := 53) rfl) rfl
theorem w4_55 : Cond.fieldLink RX7 3 "CrystalClubModel$State" "this$0" "LCrystalClubModel;" ∈ gW := gW_4 (List.mem_of_getElem? (i := 55) rfl) rfl
theorem w4_56 : Cond.lays RX7 "CrystalClubModel$State" "hour" "I" ∈ gW := gW_4 (List.mem_of_getElem? (i := 56) rfl) rfl
theorem w4_58 : Cond.lays RX7 "CrystalClubModel$State" "letters" "I" ∈ gW := gW_4 (List.mem_of_getElem? (i := 58) rfl) rfl
theorem w4_60 : Cond.lays RX7 "CrystalClubModel$State" "written" "I" ∈ gW := gW_4 (List.mem_of_getElem? (i := 60) rfl) rfl
theorem w4_62 : Cond.lays RX7 "CrystalClubModel$State" "answered" "I" ∈ gW := gW_4 (List.mem_of_getElem? (i := 62) rfl) rfl
theorem w4_64 : Cond.laysFinal RX7 "CrystalClubModel$State" "crystal" "[I" ∈ gW := gW_4 (List.mem_of_getElem? (i := 64) rfl) rfl
theorem w4_66 : Cond.laysFinal RX7 "CrystalClubModel$State" "lines" "[I" ∈ gW := gW_4 (List.mem_of_getElem? (i := 66) rfl) rfl
theorem w4_68 : Cond.laysFinal RX7 "CrystalClubModel$State" "log" "[I" ∈ gW := gW_4 (List.mem_of_getElem? (i := 68) rfl) rfl
theorem w4_70 : Cond.laysFinal RX7 "CrystalClubModel$State" "mail" "[I" ∈ gW := gW_4 (List.mem_of_getElem? (i := 70) rfl) rfl
theorem w4_72 : Cond.laysFinal RX7 "CrystalClubModel$State" "this$0" "LCrystalClubModel;" ∈ gW := gW_4 (List.mem_of_getElem? (i := 72) rfl) rfl
theorem w4_75 : Cond.fieldLink RX8 37 "CrystalClubModel" "thrown" "I" ∈ gW := gW_4 (List.mem_of_getElem? (i := 75) rfl) rfl
theorem w4_76 : Cond.fieldLink RX8 41 "CrystalClubModel" "stations" "I" ∈ gW := gW_4 (List.mem_of_getElem? (i := 76) rfl) rfl
theorem w4_78 : Cond.fieldLink RX8 48 "CrystalClubModel" "members" "I" ∈ gW := gW_4 (List.mem_of_getElem? (i := 78) rfl) rfl
theorem w4_79 : Cond.fieldLink RX8 9 "CrystalClubModel" "air" "[I" ∈ gW := gW_4 (List.mem_of_getElem? (i := 79) rfl) rfl
theorem w4_80 : Cond.fieldLink RX8 13 "CrystalClubModel" "turns" "[I" ∈ gW := gW_4 (List.mem_of_getElem? (i := 80) rfl) rfl
theorem w4_82 : Cond.fieldLink RX8 16 "CrystalClubModel" "stand" "[I" ∈ gW := gW_4 (List.mem_of_getElem? (i := 82) rfl) rfl
theorem w4_84 : Cond.fieldLink RX8 19 "CrystalClubModel" "aerial" "[I" ∈ gW := gW_4 (List.mem_of_getElem? (i := 84) rfl) rfl
theorem w4_85 : Cond.fieldLink RX8 22 "CrystalClubModel" "ears" "[I" ∈ gW := gW_4 (List.mem_of_getElem? (i := 85) rfl) rfl
theorem w4_87 : Cond.fieldLink RX8 30 "CrystalClubModel" "s" "LCrystalClubModel$State;" ∈ gW := gW_4 (List.mem_of_getElem? (i := 87) rfl) rfl
theorem w4_88 : Cond.fieldLink RX8 34 "CrystalClubModel" "ahead" "LCrystalClubModel$State;" ∈ gW := gW_4 (List.mem_of_getElem? (i := 88) rfl) rfl
theorem w4_89 : Cond.lays RX8 "CrystalClubModel" "thrown" "I" ∈ gW := gW_4 (List.mem_of_getElem? (i := 89) rfl) rfl
theorem w4_91 : Cond.lays RX8 "CrystalClubModel" "stations" "I" ∈ gW := gW_4 (List.mem_of_getElem? (i := 91) rfl) rfl
theorem w4_93 : Cond.lays RX8 "CrystalClubModel" "members" "I" ∈ gW := gW_4 (List.mem_of_getElem? (i := 93) rfl) rfl
theorem w4_95 : Cond.laysFinal RX8 "CrystalClubModel" "air" "[I" ∈ gW := gW_4 (List.mem_of_getElem? (i := 95) rfl) rfl
theorem w4_97 : Cond.laysFinal RX8 "CrystalClubModel" "turns" "[I" ∈ gW := gW_4 (List.mem_of_getElem? (i := 97) rfl) rfl
theorem w4_99 : Cond.laysFinal RX8 "CrystalClubModel" "stand" "[I" ∈ gW := gW_4 (List.mem_of_getElem? (i := 99) rfl) rfl
theorem w4_101 : Cond.laysFinal RX8 "CrystalClubModel" "aerial" "[I" ∈ gW := gW_4 (List.mem_of_getElem? (i := 101) rfl) rfl
theorem w4_103 : Cond.laysFinal RX8 "CrystalClubModel" "ears" "[I" ∈ gW := gW_4 (List.mem_of_getElem? (i := 103) rfl) rfl
theorem w4_105 : Cond.laysFinal RX8 "CrystalClubModel" "s" "LCrystalClubModel$State;" ∈ gW := gW_4 (List.mem_of_getElem? (i := 105) rfl) rfl
theorem w4_107 : Cond.laysFinal RX8 "CrystalClubModel" "ahead" "LCrystalClubModel$State;" ∈ gW := gW_4 (List.mem_of_getElem? (i := 107) rfl) rfl
theorem w4_110 : Cond.methodLink RL 87 yX8_thrown ∈ gW := gW_4 (List.mem_of_getElem? (i := 110) rfl) rfl
theorem w4_111 : Cond.instanceMethod yX8_thrown ∈ gW := gW_4 (List.mem_of_getElem? (i := 111) rfl) rfl
theorem w4_112 : Cond.selects RX8 yX8_thrown yX8_thrown ∈ gW := gW_4 (List.mem_of_getElem? (i := 112) rfl) rfl
theorem w4_113 : Cond.code yX8_thrown cX8_thrown 1 (some .int) ∈ gW := gW_4 (List.mem_of_getElem? (i := 113) rfl) rfl
theorem w4_114 : Cond.methodLink RL 86 yX8_addStation ∈ gW := gW_4 (List.mem_of_getElem? (i := 114) rfl) rfl
theorem w4_115 : Cond.instanceMethod yX8_addStation ∈ gW := gW_4 (List.mem_of_getElem? (i := 115) rfl) rfl
theorem w4_116 : Cond.selects RX8 yX8_addStation yX8_addStation ∈ gW := gW_4 (List.mem_of_getElem? (i := 116) rfl) rfl
theorem w4_117 : Cond.code yX8_addStation cX8_addStation 8 (some .int) ∈ gW := gW_4 (List.mem_of_getElem? (i := 117) rfl) rfl
theorem w4_118 : Cond.methodLink RX8 44 yX8_isIn ∈ gW := gW_4 (List.mem_of_getElem? (i := 118) rfl) rfl
theorem w4_119 : Cond.static yX8_isIn ∈ gW := gW_4 (List.mem_of_getElem? (i := 119) rfl) rfl
theorem w4_120 : Cond.code yX8_isIn cX8_isIn 3 (some .boolean) ∈ gW := gW_4 (List.mem_of_getElem? (i := 120) rfl) rfl
theorem w4_121 : Cond.methodLink RX8 82 yX8_no ∈ gW := gW_4 (List.mem_of_getElem? (i := 121) rfl) rfl
theorem w4_123 : Cond.instanceMethod yX8_no ∈ gW := gW_4 (List.mem_of_getElem? (i := 123) rfl) rfl
theorem w4_124 : Cond.code yX8_no cX8_no 2 (some .int) ∈ gW := gW_4 (List.mem_of_getElem? (i := 124) rfl) rfl
theorem w4_125 : Cond.methodLink RX8 85 ⟨"java/lang/System", "arraycopy", "(Ljava/lang/Object;ILjava/lang/Object;II)V"⟩ ∈ gW := gW_4 (List.mem_of_getElem? (i := 125) rfl) rfl
theorem w4_126 : Cond.static ⟨"java/lang/System", "arraycopy", "(Ljava/lang/Object;ILjava/lang/Object;II)V"⟩ ∈ gW := gW_4 (List.mem_of_getElem? (i := 126) rfl) rfl
theorem w4_127 : Cond.native ⟨"java/lang/System", "arraycopy", "(Ljava/lang/Object;ILjava/lang/Object;II)V"⟩ ∈ gW := gW_4 (List.mem_of_getElem? (i := 127) rfl) rfl
theorem w4_128 : Cond.methodLink RL 94 yX8_join ∈ gW := gW_4 (List.mem_of_getElem? (i := 128) rfl) rfl
theorem w4_129 : Cond.instanceMethod yX8_join ∈ gW := gW_4 (List.mem_of_getElem? (i := 129) rfl) rfl
theorem w4_130 : Cond.selects RX8 yX8_join yX8_join ∈ gW := gW_4 (List.mem_of_getElem? (i := 130) rfl) rfl
theorem w4_131 : Cond.code yX8_join cX8_join 3 (some .int) ∈ gW := gW_4 (List.mem_of_getElem? (i := 131) rfl) rfl
theorem w4_132 : Cond.methodLink RL 97 yX8_turn ∈ gW := gW_4 (List.mem_of_getElem? (i := 132) rfl) rfl
theorem w4_133 : Cond.instanceMethod yX8_turn ∈ gW := gW_4 (List.mem_of_getElem? (i := 133) rfl) rfl
theorem w4_134 : Cond.selects RX8 yX8_turn yX8_turn ∈ gW := gW_4 (List.mem_of_getElem? (i := 134) rfl) rfl
theorem w4_135 : Cond.code yX8_turn cX8_turn 4 (some .int) ∈ gW := gW_4 (List.mem_of_getElem? (i := 135) rfl) rfl
theorem w4_136 : Cond.methodLink RX8 51 yX8_isMember ∈ gW := gW_4 (List.mem_of_getElem? (i := 136) rfl) rfl
theorem w4_138 : Cond.instanceMethod yX8_isMember ∈ gW := gW_4 (List.mem_of_getElem? (i := 138) rfl) rfl
theorem w4_139 : Cond.code yX8_isMember cX8_isMember 2 (some .boolean) ∈ gW := gW_4 (List.mem_of_getElem? (i := 139) rfl) rfl
theorem w4_140 : Cond.methodLink RL 100 yX8_wind ∈ gW := gW_4 (List.mem_of_getElem? (i := 140) rfl) rfl
theorem w4_141 : Cond.instanceMethod yX8_wind ∈ gW := gW_4 (List.mem_of_getElem? (i := 141) rfl) rfl
theorem w4_142 : Cond.selects RX8 yX8_wind yX8_wind ∈ gW := gW_4 (List.mem_of_getElem? (i := 142) rfl) rfl
theorem w4_143 : Cond.code yX8_wind cX8_wind 4 (some .int) ∈ gW := gW_4 (List.mem_of_getElem? (i := 143) rfl) rfl
theorem w4_144 : Cond.methodLink RL 104 yX8_listen ∈ gW := gW_4 (List.mem_of_getElem? (i := 144) rfl) rfl
theorem w4_145 : Cond.instanceMethod yX8_listen ∈ gW := gW_4 (List.mem_of_getElem? (i := 145) rfl) rfl
theorem w4_146 : Cond.selects RX8 yX8_listen yX8_listen ∈ gW := gW_4 (List.mem_of_getElem? (i := 146) rfl) rfl
theorem w4_147 : Cond.code yX8_listen cX8_listen 4 (some .boolean) ∈ gW := gW_4 (List.mem_of_getElem? (i := 147) rfl) rfl
theorem w4_148 : Cond.methodLink RL 108 yX8_renew ∈ gW := gW_4 (List.mem_of_getElem? (i := 148) rfl) rfl
theorem w4_149 : Cond.instanceMethod yX8_renew ∈ gW := gW_4 (List.mem_of_getElem? (i := 149) rfl) rfl
theorem w4_150 : Cond.selects RX8 yX8_renew yX8_renew ∈ gW := gW_4 (List.mem_of_getElem? (i := 150) rfl) rfl
theorem w4_151 : Cond.code yX8_renew cX8_renew 3 (some .int) ∈ gW := gW_4 (List.mem_of_getElem? (i := 151) rfl) rfl
theorem w4_152 : Cond.methodLink RL 111 yX8_station ∈ gW := gW_4 (List.mem_of_getElem? (i := 152) rfl) rfl
theorem w4_153 : Cond.instanceMethod yX8_station ∈ gW := gW_4 (List.mem_of_getElem? (i := 153) rfl) rfl
theorem w4_154 : Cond.selects RX8 yX8_station yX8_station ∈ gW := gW_4 (List.mem_of_getElem? (i := 154) rfl) rfl
theorem w4_155 : Cond.code yX8_station cX8_station 3 (some .int) ∈ gW := gW_4 (List.mem_of_getElem? (i := 155) rfl) rfl
theorem w4_156 : Cond.methodLink RX8 107 yX8_isStation ∈ gW := gW_4 (List.mem_of_getElem? (i := 156) rfl) rfl
theorem w4_158 : Cond.instanceMethod yX8_isStation ∈ gW := gW_4 (List.mem_of_getElem? (i := 158) rfl) rfl
theorem w4_159 : Cond.code yX8_isStation cX8_isStation 2 (some .boolean) ∈ gW := gW_4 (List.mem_of_getElem? (i := 159) rfl) rfl
theorem w4_160 : Cond.methodLink RX8 110 yX8_stationTold ∈ gW := gW_4 (List.mem_of_getElem? (i := 160) rfl) rfl
theorem w4_162 : Cond.instanceMethod yX8_stationTold ∈ gW := gW_4 (List.mem_of_getElem? (i := 162) rfl) rfl
theorem w4_163 : Cond.code yX8_stationTold cX8_stationTold 3 (some .int) ∈ gW := gW_4 (List.mem_of_getElem? (i := 163) rfl) rfl
theorem w4_164 : Cond.methodLink RX8 101 yX8_onAir ∈ gW := gW_4 (List.mem_of_getElem? (i := 164) rfl) rfl
theorem w4_166 : Cond.instanceMethod yX8_onAir ∈ gW := gW_4 (List.mem_of_getElem? (i := 166) rfl) rfl
theorem w4_167 : Cond.code yX8_onAir cX8_onAir 4 (some .int) ∈ gW := gW_4 (List.mem_of_getElem? (i := 167) rfl) rfl
theorem w4_168 : Cond.methodLink RX8 75 yX8_fading ∈ gW := gW_4 (List.mem_of_getElem? (i := 168) rfl) rfl
theorem w4_170 : Cond.instanceMethod yX8_fading ∈ gW := gW_4 (List.mem_of_getElem? (i := 170) rfl) rfl
theorem w4_171 : Cond.code yX8_fading cX8_fading 3 (some .int) ∈ gW := gW_4 (List.mem_of_getElem? (i := 171) rfl) rfl
theorem w4_172 : Cond.methodLink RX8 65 Lib.Math.abs.name ∈ gW := gW_4 (List.mem_of_getElem? (i := 172) rfl) rfl
theorem w4_173 : Cond.static Lib.Math.abs.name ∈ gW := gW_4 (List.mem_of_getElem? (i := 173) rfl) rfl
theorem w4_174 : Cond.code Lib.Math.abs.name cJ9_abs_0f7a4 1 (some .int) ∈ gW := gW_4 (List.mem_of_getElem? (i := 174) rfl) rfl
theorem w4_175 : Cond.methodLink RX8 104 yX8_cards ∈ gW := gW_4 (List.mem_of_getElem? (i := 175) rfl) rfl
theorem w4_177 : Cond.instanceMethod yX8_cards ∈ gW := gW_4 (List.mem_of_getElem? (i := 177) rfl) rfl
theorem w4_178 : Cond.code yX8_cards cX8_cards 4 (some .int) ∈ gW := gW_4 (List.mem_of_getElem? (i := 178) rfl) rfl
theorem w4_179 : Cond.methodLink RX8 94 yX7_hasCard ∈ gW := gW_4 (List.mem_of_getElem? (i := 179) rfl) rfl
theorem w4_180 : Cond.instanceMethod yX7_hasCard ∈ gW := gW_4 (List.mem_of_getElem? (i := 180) rfl) rfl
theorem w4_181 : Cond.selects RX7 yX7_hasCard yX7_hasCard ∈ gW := gW_4 (List.mem_of_getElem? (i := 181) rfl) rfl
theorem w4_182 : Cond.code yX7_hasCard cX7_hasCard 5 (some .boolean) ∈ gW := gW_4 (List.mem_of_getElem? (i := 182) rfl) rfl
theorem w4_183 : Cond.methodLink RL 114 yX8_member ∈ gW := gW_4 (List.mem_of_getElem? (i := 183) rfl) rfl
theorem w4_184 : Cond.instanceMethod yX8_member ∈ gW := gW_4 (List.mem_of_getElem? (i := 184) rfl) rfl
theorem w4_185 : Cond.selects RX8 yX8_member yX8_member ∈ gW := gW_4 (List.mem_of_getElem? (i := 185) rfl) rfl
theorem w4_186 : Cond.code yX8_member cX8_member 3 (some .int) ∈ gW := gW_4 (List.mem_of_getElem? (i := 186) rfl) rfl
theorem w4_187 : Cond.methodLink RX8 117 yX8_memberTold ∈ gW := gW_4 (List.mem_of_getElem? (i := 187) rfl) rfl
theorem w4_189 : Cond.instanceMethod yX8_memberTold ∈ gW := gW_4 (List.mem_of_getElem? (i := 189) rfl) rfl
theorem w4_190 : Cond.code yX8_memberTold cX8_memberTold 3 (some .int) ∈ gW := gW_4 (List.mem_of_getElem? (i := 190) rfl) rfl
theorem w4_191 : Cond.methodLink RX8 72 yX8_tuned ∈ gW := gW_4 (List.mem_of_getElem? (i := 191) rfl) rfl
theorem w4_192 : Cond.static yX8_tuned ∈ gW := gW_4 (List.mem_of_getElem? (i := 192) rfl) rfl
theorem w4_193 : Cond.code yX8_tuned cX8_tuned 2 (some .int) ∈ gW := gW_4 (List.mem_of_getElem? (i := 193) rfl) rfl
theorem w4_194 : Cond.constant RX8 58 (100000) ∈ gW := gW_4 (List.mem_of_getElem? (i := 194) rfl) rfl
theorem w4_195 : Cond.methodLink RX8 69 yX8_width ∈ gW := gW_4 (List.mem_of_getElem? (i := 195) rfl) rfl
theorem w4_196 : Cond.static yX8_width ∈ gW := gW_4 (List.mem_of_getElem? (i := 196) rfl) rfl
theorem w4_197 : Cond.code yX8_width cX8_width 1 (some .int) ∈ gW := gW_4 (List.mem_of_getElem? (i := 197) rfl) rfl
theorem w4_198 : Cond.methodLink RX8 59 Lib.Math.max.name ∈ gW := gW_4 (List.mem_of_getElem? (i := 198) rfl) rfl
theorem w4_199 : Cond.methodLink RX8 113 yX8_held ∈ gW := gW_4 (List.mem_of_getElem? (i := 199) rfl) rfl
theorem w4_201 : Cond.instanceMethod yX8_held ∈ gW := gW_4 (List.mem_of_getElem? (i := 201) rfl) rfl
theorem w4_202 : Cond.code yX8_held cX8_held 5 (some .int) ∈ gW := gW_4 (List.mem_of_getElem? (i := 202) rfl) rfl
theorem w4_203 : Cond.methodLink RL 117 yX8_strength ∈ gW := gW_4 (List.mem_of_getElem? (i := 203) rfl) rfl
theorem w4_204 : Cond.instanceMethod yX8_strength ∈ gW := gW_4 (List.mem_of_getElem? (i := 204) rfl) rfl
theorem w4_205 : Cond.selects RX8 yX8_strength yX8_strength ∈ gW := gW_4 (List.mem_of_getElem? (i := 205) rfl) rfl
theorem w4_206 : Cond.code yX8_strength cX8_strength 3 (some .int) ∈ gW := gW_4 (List.mem_of_getElem? (i := 206) rfl) rfl
theorem w4_207 : Cond.methodLink RX8 78 yX8_reach ∈ gW := gW_4 (List.mem_of_getElem? (i := 207) rfl) rfl
theorem w4_209 : Cond.instanceMethod yX8_reach ∈ gW := gW_4 (List.mem_of_getElem? (i := 209) rfl) rfl
theorem w4_210 : Cond.code yX8_reach cX8_reach 10 (some .int) ∈ gW := gW_4 (List.mem_of_getElem? (i := 210) rfl) rfl
theorem w4_211 : Cond.methodLink RL 120 yX8_hears ∈ gW := gW_4 (List.mem_of_getElem? (i := 211) rfl) rfl
theorem w4_212 : Cond.instanceMethod yX8_hears ∈ gW := gW_4 (List.mem_of_getElem? (i := 212) rfl) rfl
theorem w4_213 : Cond.selects RX8 yX8_hears yX8_hears ∈ gW := gW_4 (List.mem_of_getElem? (i := 213) rfl) rfl
theorem w4_214 : Cond.code yX8_hears cX8_hears 2 (some .int) ∈ gW := gW_4 (List.mem_of_getElem? (i := 214) rfl) rfl
theorem w4_215 : Cond.methodLink RX8 120 yX8_heard ∈ gW := gW_4 (List.mem_of_getElem? (i := 215) rfl) rfl
theorem w4_217 : Cond.instanceMethod yX8_heard ∈ gW := gW_4 (List.mem_of_getElem? (i := 217) rfl) rfl
theorem w4_218 : Cond.code yX8_heard cX8_heard 13 (some .int) ∈ gW := gW_4 (List.mem_of_getElem? (i := 218) rfl) rfl
theorem w4_219 : Cond.methodLink RL 124 yX8_log ∈ gW := gW_4 (List.mem_of_getElem? (i := 219) rfl) rfl
theorem w4_220 : Cond.instanceMethod yX8_log ∈ gW := gW_4 (List.mem_of_getElem? (i := 220) rfl) rfl
theorem w4_221 : Cond.selects RX8 yX8_log yX8_log ∈ gW := gW_4 (List.mem_of_getElem? (i := 221) rfl) rfl
theorem w4_222 : Cond.code yX8_log cX8_log 4 (some .int) ∈ gW := gW_4 (List.mem_of_getElem? (i := 222) rfl) rfl
theorem w4_223 : Cond.methodLink RX8 123 yX8_isLine ∈ gW := gW_4 (List.mem_of_getElem? (i := 223) rfl) rfl
theorem w4_225 : Cond.instanceMethod yX8_isLine ∈ gW := gW_4 (List.mem_of_getElem? (i := 225) rfl) rfl
theorem w4_226 : Cond.code yX8_isLine cX8_isLine 3 (some .boolean) ∈ gW := gW_4 (List.mem_of_getElem? (i := 226) rfl) rfl
theorem w4_227 : Cond.methodLink RL 127 yX8_write ∈ gW := gW_4 (List.mem_of_getElem? (i := 227) rfl) rfl
theorem w4_228 : Cond.instanceMethod yX8_write ∈ gW := gW_4 (List.mem_of_getElem? (i := 228) rfl) rfl
theorem w4_229 : Cond.selects RX8 yX8_write yX8_write ∈ gW := gW_4 (List.mem_of_getElem? (i := 229) rfl) rfl
theorem w4_230 : Cond.code yX8_write cX8_write 6 (some .int) ∈ gW := gW_4 (List.mem_of_getElem? (i := 230) rfl) rfl
theorem w4_231 : Cond.methodLink RL 130 yX8_pass ∈ gW := gW_4 (List.mem_of_getElem? (i := 231) rfl) rfl
theorem w4_232 : Cond.instanceMethod yX8_pass ∈ gW := gW_4 (List.mem_of_getElem? (i := 232) rfl) rfl
theorem w4_233 : Cond.selects RX8 yX8_pass yX8_pass ∈ gW := gW_4 (List.mem_of_getElem? (i := 233) rfl) rfl
theorem w4_234 : Cond.code yX8_pass cX8_pass 3 (some .int) ∈ gW := gW_4 (List.mem_of_getElem? (i := 234) rfl) rfl
theorem w4_235 : Cond.methodLink RX8 138 yX7_pass ∈ gW := gW_4 (List.mem_of_getElem? (i := 235) rfl) rfl
theorem w4_236 : Cond.instanceMethod yX7_pass ∈ gW := gW_4 (List.mem_of_getElem? (i := 236) rfl) rfl
theorem w4_237 : Cond.selects RX7 yX7_pass yX7_pass ∈ gW := gW_4 (List.mem_of_getElem? (i := 237) rfl) rfl
theorem w4_238 : Cond.code yX7_pass cX7_pass 4 none ∈ gW := gW_4 (List.mem_of_getElem? (i := 238) rfl) rfl
theorem w4_239 : Cond.methodLink RX7 78 yX7_hear ∈ gW := gW_4 (List.mem_of_getElem? (i := 239) rfl) rfl
theorem w5_1 : Cond.instanceMethod yX7_hear ∈ gW := gW_5 (List.mem_of_getElem? (i := 1) rfl) rfl
theorem w5_2 : Cond.code yX7_hear cX7_hear 5 none ∈ gW := gW_5 (List.mem_of_getElem? (i := 2) rfl) rfl
theorem w5_5 : Cond.methodLink RX7 71 yX7_isInDay ∈ gW := gW_5 (List.mem_of_getElem? (i := 5) rfl) rfl
theorem w5_7 : Cond.instanceMethod yX7_isInDay ∈ gW := gW_5 (List.mem_of_getElem? (i := 7) rfl) rfl
theorem w5_8 : Cond.code yX7_isInDay cX7_isInDay 5 (some .boolean) ∈ gW := gW_5 (List.mem_of_getElem? (i := 8) rfl) rfl
theorem w5_10 : Cond.methodLink RX7 81 Lib.Math.max.name ∈ gW := gW_5 (List.mem_of_getElem? (i := 10) rfl) rfl
theorem w5_11 : Cond.methodLink RX7 87 yX7_answer ∈ gW := gW_5 (List.mem_of_getElem? (i := 11) rfl) rfl
theorem w5_13 : Cond.instanceMethod yX7_answer ∈ gW := gW_5 (List.mem_of_getElem? (i := 13) rfl) rfl
theorem w5_14 : Cond.code yX7_answer cX7_answer 5 none ∈ gW := gW_5 (List.mem_of_getElem? (i := 14) rfl) rfl
theorem w5_15 : Cond.methodLink RL 133 yX8_count ∈ gW := gW_5 (List.mem_of_getElem? (i := 15) rfl) rfl
theorem w5_16 : Cond.instanceMethod yX8_count ∈ gW := gW_5 (List.mem_of_getElem? (i := 16) rfl) rfl
theorem w5_17 : Cond.selects RX8 yX8_count yX8_count ∈ gW := gW_5 (List.mem_of_getElem? (i := 17) rfl) rfl
theorem w5_18 : Cond.code yX8_count cX8_count 2 (some .int) ∈ gW := gW_5 (List.mem_of_getElem? (i := 18) rfl) rfl
theorem w5_19 : Cond.methodLink RX8 150 yX8_counted ∈ gW := gW_5 (List.mem_of_getElem? (i := 19) rfl) rfl
theorem w5_21 : Cond.instanceMethod yX8_counted ∈ gW := gW_5 (List.mem_of_getElem? (i := 21) rfl) rfl
theorem w5_22 : Cond.code yX8_counted cX8_counted 4 (some .int) ∈ gW := gW_5 (List.mem_of_getElem? (i := 22) rfl) rfl
theorem w5_23 : Cond.methodLink RX8 142 yJ6_bitCount_0f7a4 ∈ gW := gW_5 (List.mem_of_getElem? (i := 23) rfl) rfl
theorem w5_24 : Cond.methodLink RL 136 yX8_rank ∈ gW := gW_5 (List.mem_of_getElem? (i := 24) rfl) rfl
theorem w5_25 : Cond.instanceMethod yX8_rank ∈ gW := gW_5 (List.mem_of_getElem? (i := 25) rfl) rfl
theorem w5_26 : Cond.selects RX8 yX8_rank yX8_rank ∈ gW := gW_5 (List.mem_of_getElem? (i := 26) rfl) rfl
theorem w5_27 : Cond.code yX8_rank cX8_rank 5 (some .int) ∈ gW := gW_5 (List.mem_of_getElem? (i := 27) rfl) rfl
theorem w5_28 : Cond.methodLink RX8 153 yX8_leads ∈ gW := gW_5 (List.mem_of_getElem? (i := 28) rfl) rfl
theorem w5_30 : Cond.instanceMethod yX8_leads ∈ gW := gW_5 (List.mem_of_getElem? (i := 30) rfl) rfl
theorem w5_31 : Cond.code yX8_leads cX8_leads 4 (some .boolean) ∈ gW := gW_5 (List.mem_of_getElem? (i := 31) rfl) rfl
theorem w5_32 : Cond.methodLink RL 139 yX8_dial ∈ gW := gW_5 (List.mem_of_getElem? (i := 32) rfl) rfl
theorem w5_33 : Cond.instanceMethod yX8_dial ∈ gW := gW_5 (List.mem_of_getElem? (i := 33) rfl) rfl
theorem w5_34 : Cond.selects RX8 yX8_dial yX8_dial ∈ gW := gW_5 (List.mem_of_getElem? (i := 34) rfl) rfl
theorem w5_35 : Cond.code yX8_dial cX8_dial 8 (some .int) ∈ gW := gW_5 (List.mem_of_getElem? (i := 35) rfl) rfl
theorem w5_36 : Cond.methodLink RL 142 yX8_next ∈ gW := gW_5 (List.mem_of_getElem? (i := 36) rfl) rfl
theorem w5_37 : Cond.instanceMethod yX8_next ∈ gW := gW_5 (List.mem_of_getElem? (i := 37) rfl) rfl
theorem w5_38 : Cond.selects RX8 yX8_next yX8_next ∈ gW := gW_5 (List.mem_of_getElem? (i := 38) rfl) rfl
theorem w5_39 : Cond.code yX8_next cX8_next 5 (some .int) ∈ gW := gW_5 (List.mem_of_getElem? (i := 39) rfl) rfl
theorem w5_40 : Cond.methodLink RL 145 yX8_apart ∈ gW := gW_5 (List.mem_of_getElem? (i := 40) rfl) rfl
theorem w5_41 : Cond.instanceMethod yX8_apart ∈ gW := gW_5 (List.mem_of_getElem? (i := 41) rfl) rfl
theorem w5_42 : Cond.selects RX8 yX8_apart yX8_apart ∈ gW := gW_5 (List.mem_of_getElem? (i := 42) rfl) rfl
theorem w5_43 : Cond.code yX8_apart cX8_apart 10 (some .int) ∈ gW := gW_5 (List.mem_of_getElem? (i := 43) rfl) rfl
theorem w5_44 : Cond.methodLink RL 148 yX8_foresee ∈ gW := gW_5 (List.mem_of_getElem? (i := 44) rfl) rfl
theorem w5_45 : Cond.instanceMethod yX8_foresee ∈ gW := gW_5 (List.mem_of_getElem? (i := 45) rfl) rfl
theorem w5_46 : Cond.selects RX8 yX8_foresee yX8_foresee ∈ gW := gW_5 (List.mem_of_getElem? (i := 46) rfl) rfl
theorem w5_47 : Cond.code yX8_foresee cX8_foresee 3 (some .int) ∈ gW := gW_5 (List.mem_of_getElem? (i := 47) rfl) rfl
theorem w5_48 : Cond.methodLink RX8 156 yX7_become ∈ gW := gW_5 (List.mem_of_getElem? (i := 48) rfl) rfl
theorem w5_49 : Cond.instanceMethod yX7_become ∈ gW := gW_5 (List.mem_of_getElem? (i := 49) rfl) rfl
theorem w5_50 : Cond.selects RX7 yX7_become yX7_become ∈ gW := gW_5 (List.mem_of_getElem? (i := 50) rfl) rfl
theorem w5_51 : Cond.code yX7_become cX7_become 2 none ∈ gW := gW_5 (List.mem_of_getElem? (i := 51) rfl) rfl
theorem w5_52 : Cond.methodLink RX7 47 yX7_copy ∈ gW := gW_5 (List.mem_of_getElem? (i := 52) rfl) rfl
theorem w5_54 : Cond.instanceMethod yX7_copy ∈ gW := gW_5 (List.mem_of_getElem? (i := 54) rfl) rfl
theorem w5_55 : Cond.code yX7_copy cX7_copy 3 none ∈ gW := gW_5 (List.mem_of_getElem? (i := 55) rfl) rfl
theorem w5_56 : Cond.methodLink RX7 28 ⟨"java/lang/System", "arraycopy", "(Ljava/lang/Object;ILjava/lang/Object;II)V"⟩ ∈ gW := gW_5 (List.mem_of_getElem? (i := 56) rfl) rfl
theorem w5_57 : Cond.methodLink RL 153 yX8_mean ∈ gW := gW_5 (List.mem_of_getElem? (i := 57) rfl) rfl
theorem w5_58 : Cond.instanceMethod yX8_mean ∈ gW := gW_5 (List.mem_of_getElem? (i := 58) rfl) rfl
theorem w5_59 : Cond.selects RX8 yX8_mean yX8_mean ∈ gW := gW_5 (List.mem_of_getElem? (i := 59) rfl) rfl
theorem w5_60 : Cond.code yX8_mean cX8_mean 4 (some .double) ∈ gW := gW_5 (List.mem_of_getElem? (i := 60) rfl) rfl
theorem w5_61 : Cond.methodLink RL 158 yX8_digest ∈ gW := gW_5 (List.mem_of_getElem? (i := 61) rfl) rfl
theorem w5_62 : Cond.instanceMethod yX8_digest ∈ gW := gW_5 (List.mem_of_getElem? (i := 62) rfl) rfl
theorem w5_63 : Cond.selects RX8 yX8_digest yX8_digest ∈ gW := gW_5 (List.mem_of_getElem? (i := 63) rfl) rfl
theorem w5_64 : Cond.code yX8_digest cX8_digest 5 (some .long) ∈ gW := gW_5 (List.mem_of_getElem? (i := 64) rfl) rfl
theorem w5_65 : Cond.constantLong RX8 160 (701) ∈ gW := gW_5 (List.mem_of_getElem? (i := 65) rfl) rfl
theorem w5_66 : Cond.constantLong RX8 162 (31) ∈ gW := gW_5 (List.mem_of_getElem? (i := 66) rfl) rfl
theorem w5_67 : Cond.arrayClass .long ∈ gW := gW_5 (List.mem_of_getElem? (i := 67) rfl) rfl
theorem ws_0 : Cond.selects RX0 yX0_sumOfLogs yX0_sumOfLogs ∈ gW := gW_s (List.mem_of_getElem? (i := 0) rfl) rfl
theorem ws_1 : Cond.selects RX0 yX0_stationsOnAir yX0_stationsOnAir ∈ gW := gW_s (List.mem_of_getElem? (i := 1) rfl) rfl
theorem ws_2 : Cond.selects RX0 yX0_listeners yX0_listeners ∈ gW := gW_s (List.mem_of_getElem? (i := 2) rfl) rfl
theorem ws_3 : Cond.selects RX0 yX0_membersWithCardOf yX0_membersWithCardOf ∈ gW := gW_s (List.mem_of_getElem? (i := 3) rfl) rfl
theorem ws_4 : Cond.selects RX0 yX0_withMember yX0_withMember ∈ gW := gW_s (List.mem_of_getElem? (i := 4) rfl) rfl
theorem ws_5 : Cond.selects RX0 yX0_scoreOf yX0_scoreOf ∈ gW := gW_s (List.mem_of_getElem? (i := 5) rfl) rfl
theorem ws_6 : Cond.selects "java/lang/Throwable" ⟨"java/lang/Throwable", "fillInStackTrace", "(I)Ljava/lang/Throwable;"⟩ ⟨"java/lang/Throwable", "fillInStackTrace", "(I)Ljava/lang/Throwable;"⟩ ∈ gW := gW_s (List.mem_of_getElem? (i := 6) rfl) rfl
theorem ws_7 : Cond.selects RX6 yX6_setOf yX6_setOf ∈ gW := gW_s (List.mem_of_getElem? (i := 7) rfl) rfl
theorem ws_8 : Cond.selects RX6 yX6_memberOf yX6_memberOf ∈ gW := gW_s (List.mem_of_getElem? (i := 8) rfl) rfl
theorem ws_9 : Cond.selects RX6 yX6_stationOf yX6_stationOf ∈ gW := gW_s (List.mem_of_getElem? (i := 9) rfl) rfl
theorem ws_10 : Cond.selects RX6 yX6_logOf yX6_logOf ∈ gW := gW_s (List.mem_of_getElem? (i := 10) rfl) rfl
theorem ws_11 : Cond.selects RX0 yX0_writeLines yX0_writeLines ∈ gW := gW_s (List.mem_of_getElem? (i := 11) rfl) rfl
theorem ws_12 : Cond.selects RX0 yX0_writeLine yX0_writeLine ∈ gW := gW_s (List.mem_of_getElem? (i := 12) rfl) rfl
theorem ws_13 : Cond.selects RX0 yX0_wearCrystals yX0_wearCrystals ∈ gW := gW_s (List.mem_of_getElem? (i := 13) rfl) rfl
theorem ws_14 : Cond.selects RX0 yX0_answerLetters yX0_answerLetters ∈ gW := gW_s (List.mem_of_getElem? (i := 14) rfl) rfl
theorem ws_15 : Cond.selects RX0 yX0_answer yX0_answer ∈ gW := gW_s (List.mem_of_getElem? (i := 15) rfl) rfl
theorem ws_16 : Cond.selects RX0 yX0_leadersOf yX0_leadersOf ∈ gW := gW_s (List.mem_of_getElem? (i := 16) rfl) rfl
theorem ws_17 : Cond.selects RX0 yX0_leads yX0_leads ∈ gW := gW_s (List.mem_of_getElem? (i := 17) rfl) rfl
theorem ws_18 : Cond.selects RX8 yX8_no yX8_no ∈ gW := gW_s (List.mem_of_getElem? (i := 18) rfl) rfl
theorem ws_19 : Cond.selects RX8 yX8_isMember yX8_isMember ∈ gW := gW_s (List.mem_of_getElem? (i := 19) rfl) rfl
theorem ws_20 : Cond.selects RX8 yX8_isStation yX8_isStation ∈ gW := gW_s (List.mem_of_getElem? (i := 20) rfl) rfl
theorem ws_21 : Cond.selects RX8 yX8_stationTold yX8_stationTold ∈ gW := gW_s (List.mem_of_getElem? (i := 21) rfl) rfl
theorem ws_22 : Cond.selects RX8 yX8_onAir yX8_onAir ∈ gW := gW_s (List.mem_of_getElem? (i := 22) rfl) rfl
theorem ws_23 : Cond.selects RX8 yX8_fading yX8_fading ∈ gW := gW_s (List.mem_of_getElem? (i := 23) rfl) rfl
theorem ws_24 : Cond.selects RX8 yX8_cards yX8_cards ∈ gW := gW_s (List.mem_of_getElem? (i := 24) rfl) rfl
theorem ws_25 : Cond.selects RX8 yX8_memberTold yX8_memberTold ∈ gW := gW_s (List.mem_of_getElem? (i := 25) rfl) rfl
theorem ws_26 : Cond.selects RX8 yX8_held yX8_held ∈ gW := gW_s (List.mem_of_getElem? (i := 26) rfl) rfl
theorem ws_27 : Cond.selects RX8 yX8_reach yX8_reach ∈ gW := gW_s (List.mem_of_getElem? (i := 27) rfl) rfl
theorem ws_28 : Cond.selects RX8 yX8_heard yX8_heard ∈ gW := gW_s (List.mem_of_getElem? (i := 28) rfl) rfl
theorem ws_29 : Cond.selects RX8 yX8_isLine yX8_isLine ∈ gW := gW_s (List.mem_of_getElem? (i := 29) rfl) rfl
theorem ws_30 : Cond.selects RX7 yX7_hear yX7_hear ∈ gW := gW_s (List.mem_of_getElem? (i := 30) rfl) rfl
theorem ws_31 : Cond.selects RX7 yX7_isInDay yX7_isInDay ∈ gW := gW_s (List.mem_of_getElem? (i := 31) rfl) rfl
theorem ws_32 : Cond.selects RX7 yX7_answer yX7_answer ∈ gW := gW_s (List.mem_of_getElem? (i := 32) rfl) rfl
theorem ws_33 : Cond.selects RX8 yX8_counted yX8_counted ∈ gW := gW_s (List.mem_of_getElem? (i := 33) rfl) rfl
theorem ws_34 : Cond.selects RX8 yX8_leads yX8_leads ∈ gW := gW_s (List.mem_of_getElem? (i := 34) rfl) rfl
theorem ws_35 : Cond.selects RX7 yX7_copy yX7_copy ∈ gW := gW_s (List.mem_of_getElem? (i := 35) rfl) rfl
theorem hinX0 : ∀ w ∈ u_ws RX0 TX0 7, w ∈ gW := by
  intro w h
  obtain ⟨k, hk, rfl⟩ := List.mem_map.mp h
  have hk := List.mem_range.mp hk
  match k, hk with
  | 0, _ => exact w1_151
  | 1, _ => exact w1_153
  | 2, _ => exact w1_155
  | 3, _ => exact w1_157
  | 4, _ => exact w1_159
  | 5, _ => exact w1_161
  | 6, _ => exact w1_163
  | k + 7, h => exact absurd h (by omega)
theorem hinX1 : ∀ w ∈ u_ws RX1 TX1 6, w ∈ gW := by
  intro w h
  obtain ⟨k, hk, rfl⟩ := List.mem_map.mp h
  have hk := List.mem_range.mp hk
  match k, hk with
  | 0, _ => exact w1_65
  | 1, _ => exact w1_67
  | 2, _ => exact w1_69
  | 3, _ => exact w1_71
  | 4, _ => exact w1_73
  | 5, _ => exact w1_75
  | k + 6, h => exact absurd h (by omega)
theorem hinX2 : ∀ w ∈ u_ws RX2 TX2 4, w ∈ gW := by
  intro w h
  obtain ⟨k, hk, rfl⟩ := List.mem_map.mp h
  have hk := List.mem_range.mp hk
  match k, hk with
  | 0, _ => exact w1_131
  | 1, _ => exact w1_133
  | 2, _ => exact w1_135
  | 3, _ => exact w1_137
  | k + 4, h => exact absurd h (by omega)
theorem hinX3 : ∀ w ∈ u_ws RX3 TX3 3, w ∈ gW := by
  intro w h
  obtain ⟨k, hk, rfl⟩ := List.mem_map.mp h
  have hk := List.mem_range.mp hk
  match k, hk with
  | 0, _ => exact w1_111
  | 1, _ => exact w1_113
  | 2, _ => exact w1_115
  | k + 3, h => exact absurd h (by omega)
theorem hinX4 : ∀ w ∈ u_ws RX4 TX4 6, w ∈ gW := by
  intro w h
  obtain ⟨k, hk, rfl⟩ := List.mem_map.mp h
  have hk := List.mem_range.mp hk
  match k, hk with
  | 0, _ => exact w2_155
  | 1, _ => exact w2_157
  | 2, _ => exact w2_159
  | 3, _ => exact w2_161
  | 4, _ => exact w2_163
  | 5, _ => exact w2_165
  | k + 6, h => exact absurd h (by omega)
theorem hinX5 : ∀ w ∈ u_ws RX5 TX5 3, w ∈ gW := by
  intro w h
  obtain ⟨k, hk, rfl⟩ := List.mem_map.mp h
  have hk := List.mem_range.mp hk
  match k, hk with
  | 0, _ => exact w1_94
  | 1, _ => exact w1_96
  | 2, _ => exact w1_98
  | k + 3, h => exact absurd h (by omega)
theorem hinX6 : ∀ w ∈ u_ws RX6 TX6 3, w ∈ gW := by
  intro w h
  obtain ⟨k, hk, rfl⟩ := List.mem_map.mp h
  have hk := List.mem_range.mp hk
  match k, hk with
  | 0, _ => exact w1_171
  | 1, _ => exact w1_173
  | 2, _ => exact w1_175
  | k + 3, h => exact absurd h (by omega)
theorem hinX7 : ∀ w ∈ u_ws RX7 TX7 9, w ∈ gW := by
  intro w h
  obtain ⟨k, hk, rfl⟩ := List.mem_map.mp h
  have hk := List.mem_range.mp hk
  match k, hk with
  | 0, _ => exact w4_56
  | 1, _ => exact w4_58
  | 2, _ => exact w4_60
  | 3, _ => exact w4_62
  | 4, _ => exact w4_64
  | 5, _ => exact w4_66
  | 6, _ => exact w4_68
  | 7, _ => exact w4_70
  | 8, _ => exact w4_72
  | k + 9, h => exact absurd h (by omega)
theorem hinX8 : ∀ w ∈ u_ws RX8 TX8 10, w ∈ gW := by
  intro w h
  obtain ⟨k, hk, rfl⟩ := List.mem_map.mp h
  have hk := List.mem_range.mp hk
  match k, hk with
  | 0, _ => exact w4_89
  | 1, _ => exact w4_91
  | 2, _ => exact w4_93
  | 3, _ => exact w4_95
  | 4, _ => exact w4_97
  | 5, _ => exact w4_99
  | 6, _ => exact w4_101
  | 7, _ => exact w4_103
  | 8, _ => exact w4_105
  | 9, _ => exact w4_107
  | k + 10, h => exact absurd h (by omega)
/-- the links between nest mates -/
def nW : List Cond := [Cond.methodLinkNest RX3 11 yX1_init RX6, Cond.fieldLinkNest RX6 77 "CrystalClub$CrystalSet" "turns" "I" RX6, Cond.fieldLinkNest RX0 84 "CrystalClub$CrystalSet" "turns" "I" RX6, Cond.fieldLinkNest RX6 74 "CrystalClub$CrystalSet" "dial" "I" RX6, Cond.fieldLinkNest RX0 197 "CrystalClub$CrystalSet" "dial" "I" RX6, Cond.fieldLinkNest RX3 30 "CrystalClub$CrystalSet" "aerial" "I" RX6, Cond.fieldLinkNest RX0 200 "CrystalClub$CrystalSet" "aerial" "I" RX6, Cond.fieldLinkNest RX3 34 "CrystalClub$CrystalSet" "crystal" "I" RX6, Cond.fieldLinkNest RX6 96 "CrystalClub$CrystalSet" "crystal" "I" RX6, Cond.fieldLinkNest RX0 203 "CrystalClub$CrystalSet" "crystal" "I" RX6, Cond.fieldLinkNest RX0 206 "CrystalClub$CrystalSet" "tuned" "I" RX6, Cond.fieldLinkNest RX0 209 "CrystalClub$CrystalSet" "width" "I" RX6, Cond.fieldLinkNest RX0 254 "CrystalClub$Table" "columns" "I" RX6, Cond.fieldLinkNest RX3 41 "CrystalClub$Table" "size" "I" RX6, Cond.fieldLinkNest RX0 140 "CrystalClub$Table" "size" "I" RX6, Cond.fieldLinkNest RX6 226 "CrystalClub$Table" "size" "I" RX6, Cond.fieldLinkNest RX0 125 "CrystalClub$Member" "set" "LCrystalClub$CrystalSet;" RX6, Cond.fieldLinkNest RX6 220 "CrystalClub$Member" "set" "LCrystalClub$CrystalSet;" RX6, Cond.fieldLinkNest RX0 114 "CrystalClub$Member" "lines" "LCrystalClub$Table;" RX6, Cond.fieldLinkNest RX6 223 "CrystalClub$Member" "lines" "LCrystalClub$Table;" RX6, Cond.fieldLinkNest RX6 90 "CrystalClub$Member" "listens" "Z" RX6, Cond.fieldLinkNest RX0 110 "CrystalClub$Member" "listens" "Z" RX6, Cond.methodLinkNest RX0 35 yX2_init RX6, Cond.fieldLinkNest RX0 98 "CrystalClub$Hearing" "strength" "I" RX6, Cond.fieldLinkNest RX6 150 "CrystalClub$Club" "letters" "LCrystalClub$Table;" RX6, Cond.fieldLinkNest RX6 39 "CrystalClub$Club" "stationCount" "I" RX6, Cond.fieldLinkNest RX6 59 "CrystalClub$Club" "memberCount" "I" RX6, Cond.fieldLinkNest RX6 112 "CrystalClub$Club" "hour" "I" RX6, Cond.methodLinkNest RX6 21 yX1_init RX6, Cond.fieldLinkNest RX1 40 "CrystalClub$Station" "frequency" "I" RX6, Cond.fieldLinkNest RX0 185 "CrystalClub$Station" "frequency" "I" RX6, Cond.fieldLinkNest RX1 48 "CrystalClub$Station" "power" "I" RX6, Cond.fieldLinkNest RX0 188 "CrystalClub$Station" "power" "I" RX6, Cond.fieldLinkNest RX1 55 "CrystalClub$Station" "far" "I" RX6, Cond.fieldLinkNest RX0 166 "CrystalClub$Station" "far" "I" RX6, Cond.methodLinkNest RX1 17 yX6_quotient RX6, Cond.methodLinkNest RX1 45 yX6_distance RX6, Cond.methodLinkNest RX8 27 yX7_init RX8, Cond.fieldLinkNest RX8 98 "CrystalClubModel$State" "hour" "I" RX8, Cond.fieldLinkNest RX8 129 "CrystalClubModel$State" "letters" "I" RX8, Cond.fieldLinkNest RX8 135 "CrystalClubModel$State" "written" "I" RX8, Cond.fieldLinkNest RX8 147 "CrystalClubModel$State" "answered" "I" RX8, Cond.fieldLinkNest RX8 91 "CrystalClubModel$State" "crystal" "[I" RX8, Cond.fieldLinkNest RX8 55 "CrystalClubModel$State" "lines" "[I" RX8, Cond.fieldLinkNest RX8 126 "CrystalClubModel$State" "log" "[I" RX8, Cond.fieldLinkNest RX8 132 "CrystalClubModel$State" "mail" "[I" RX8, Cond.fieldLinkNest RX7 55 "CrystalClubModel" "members" "I" RX8, Cond.fieldLinkNest RX7 61 "CrystalClubModel" "turns" "[I" RX8, Cond.fieldLinkNest RX7 64 "CrystalClubModel" "stand" "[I" RX8, Cond.fieldLinkNest RX7 58 "CrystalClubModel" "ears" "[I" RX8, Cond.methodLinkNest RX7 51 yX8_onAir RX8, Cond.methodLinkNest RX7 67 yX8_heard RX8, Cond.methodLinkNest RX7 75 yX8_reach RX8, Cond.arrayOver (.object RX4), Cond.arrayOver (.object RX3), Cond.castable "java/lang/IllegalArgumentException" "java/lang/IllegalArgumentException", Cond.castable "java/lang/IllegalStateException" "java/lang/IllegalStateException", Cond.castable "java/lang/IndexOutOfBoundsException" "java/lang/IndexOutOfBoundsException"]
def g_isN (w : Cond) : Bool := match w with
  | .fieldLinkNest .. => true
  | .methodLinkNest .. => true
  | .castable .. => true
  | .arrayOver (.object _) => true
  | _ => false
theorem nW_isN : ∀ w ∈ nW, g_isN w = true := fun w h => List.all_eq_true.mp (show nW.all g_isN = true from rfl) w h
theorem nW_tbl : ∀ w ∈ nW, w ∈ lw_tbl := by
  intro w h
  simp only [nW, List.mem_cons, List.not_mem_nil, or_false] at h
  rcases h with rfl | rfl | rfl | rfl | rfl | rfl | rfl | rfl | rfl | rfl | rfl | rfl | rfl | rfl | rfl | rfl | rfl | rfl | rfl | rfl | rfl | rfl | rfl | rfl | rfl | rfl | rfl | rfl | rfl | rfl | rfl | rfl | rfl | rfl | rfl | rfl | rfl | rfl | rfl | rfl | rfl | rfl | rfl | rfl | rfl | rfl | rfl | rfl | rfl | rfl | rfl | rfl | rfl | rfl | rfl | rfl | rfl | rfl
  · exact List.mem_append_right _ (List.mem_append_left _ (List.mem_of_getElem? (i := 44) rfl))
  · exact List.mem_append_right _ (List.mem_append_left _ (List.mem_of_getElem? (i := 49) rfl))
  · exact List.mem_append_right _ (List.mem_append_left _ (List.mem_of_getElem? (i := 50) rfl))
  · exact List.mem_append_right _ (List.mem_append_left _ (List.mem_of_getElem? (i := 52) rfl))
  · exact List.mem_append_right _ (List.mem_append_left _ (List.mem_of_getElem? (i := 53) rfl))
  · exact List.mem_append_right _ (List.mem_append_left _ (List.mem_of_getElem? (i := 54) rfl))
  · exact List.mem_append_right _ (List.mem_append_left _ (List.mem_of_getElem? (i := 56) rfl))
  · exact List.mem_append_right _ (List.mem_append_left _ (List.mem_of_getElem? (i := 57) rfl))
  · exact List.mem_append_right _ (List.mem_append_left _ (List.mem_of_getElem? (i := 59) rfl))
  · exact List.mem_append_right _ (List.mem_append_left _ (List.mem_of_getElem? (i := 60) rfl))
  · exact List.mem_append_right _ (List.mem_append_left _ (List.mem_of_getElem? (i := 62) rfl))
  · exact List.mem_append_right _ (List.mem_append_left _ (List.mem_of_getElem? (i := 64) rfl))
  · exact List.mem_append_right _ (List.mem_append_left _ (List.mem_of_getElem? (i := 88) rfl))
  · exact List.mem_append_right _ (List.mem_append_left _ (List.mem_of_getElem? (i := 91) rfl))
  · exact List.mem_append_right _ (List.mem_append_left _ (List.mem_of_getElem? (i := 92) rfl))
  · exact List.mem_append_right _ (List.mem_append_left _ (List.mem_of_getElem? (i := 93) rfl))
  · exact List.mem_append_right _ (List.mem_append_left _ (List.mem_of_getElem? (i := 103) rfl))
  · exact List.mem_append_right _ (List.mem_append_left _ (List.mem_of_getElem? (i := 104) rfl))
  · exact List.mem_append_right _ (List.mem_append_left _ (List.mem_of_getElem? (i := 106) rfl))
  · exact List.mem_append_right _ (List.mem_append_left _ (List.mem_of_getElem? (i := 107) rfl))
  · exact List.mem_append_right _ (List.mem_append_left _ (List.mem_of_getElem? (i := 109) rfl))
  · exact List.mem_append_right _ (List.mem_append_left _ (List.mem_of_getElem? (i := 110) rfl))
  · exact List.mem_append_right _ (List.mem_append_left _ (List.mem_of_getElem? (i := 122) rfl))
  · exact List.mem_append_right _ (List.mem_append_left _ (List.mem_of_getElem? (i := 129) rfl))
  · exact List.mem_append_right _ (List.mem_append_left _ (List.mem_of_getElem? (i := 143) rfl))
  · exact List.mem_append_right _ (List.mem_append_left _ (List.mem_of_getElem? (i := 146) rfl))
  · exact List.mem_append_right _ (List.mem_append_left _ (List.mem_of_getElem? (i := 148) rfl))
  · exact List.mem_append_right _ (List.mem_append_left _ (List.mem_of_getElem? (i := 150) rfl))
  · exact List.mem_append_right _ (List.mem_append_left _ (List.mem_of_getElem? (i := 167) rfl))
  · exact List.mem_append_right _ (List.mem_append_right _ (List.mem_append_left _ (List.mem_of_getElem? (i := 144) rfl)))
  · exact List.mem_append_right _ (List.mem_append_right _ (List.mem_append_left _ (List.mem_of_getElem? (i := 145) rfl)))
  · exact List.mem_append_right _ (List.mem_append_right _ (List.mem_append_left _ (List.mem_of_getElem? (i := 147) rfl)))
  · exact List.mem_append_right _ (List.mem_append_right _ (List.mem_append_left _ (List.mem_of_getElem? (i := 148) rfl)))
  · exact List.mem_append_right _ (List.mem_append_right _ (List.mem_append_left _ (List.mem_of_getElem? (i := 150) rfl)))
  · exact List.mem_append_right _ (List.mem_append_right _ (List.mem_append_left _ (List.mem_of_getElem? (i := 151) rfl)))
  · exact List.mem_append_right _ (List.mem_append_right _ (List.mem_append_left _ (List.mem_of_getElem? (i := 194) rfl)))
  · exact List.mem_append_right _ (List.mem_append_right _ (List.mem_append_right _ (List.mem_append_left _ (List.mem_of_getElem? (i := 53) rfl))))
  · exact List.mem_append_right _ (List.mem_append_right _ (List.mem_append_right _ (List.mem_append_right _ (List.mem_append_left _ (List.mem_of_getElem? (i := 35) rfl)))))
  · exact List.mem_append_right _ (List.mem_append_right _ (List.mem_append_right _ (List.mem_append_right _ (List.mem_append_left _ (List.mem_of_getElem? (i := 40) rfl)))))
  · exact List.mem_append_right _ (List.mem_append_right _ (List.mem_append_right _ (List.mem_append_right _ (List.mem_append_left _ (List.mem_of_getElem? (i := 42) rfl)))))
  · exact List.mem_append_right _ (List.mem_append_right _ (List.mem_append_right _ (List.mem_append_right _ (List.mem_append_left _ (List.mem_of_getElem? (i := 44) rfl)))))
  · exact List.mem_append_right _ (List.mem_append_right _ (List.mem_append_right _ (List.mem_append_right _ (List.mem_append_left _ (List.mem_of_getElem? (i := 46) rfl)))))
  · exact List.mem_append_right _ (List.mem_append_right _ (List.mem_append_right _ (List.mem_append_right _ (List.mem_append_left _ (List.mem_of_getElem? (i := 48) rfl)))))
  · exact List.mem_append_right _ (List.mem_append_right _ (List.mem_append_right _ (List.mem_append_right _ (List.mem_append_left _ (List.mem_of_getElem? (i := 50) rfl)))))
  · exact List.mem_append_right _ (List.mem_append_right _ (List.mem_append_right _ (List.mem_append_right _ (List.mem_append_left _ (List.mem_of_getElem? (i := 52) rfl)))))
  · exact List.mem_append_right _ (List.mem_append_right _ (List.mem_append_right _ (List.mem_append_right _ (List.mem_append_left _ (List.mem_of_getElem? (i := 54) rfl)))))
  · exact List.mem_append_right _ (List.mem_append_right _ (List.mem_append_right _ (List.mem_append_right _ (List.mem_append_left _ (List.mem_of_getElem? (i := 77) rfl)))))
  · exact List.mem_append_right _ (List.mem_append_right _ (List.mem_append_right _ (List.mem_append_right _ (List.mem_append_left _ (List.mem_of_getElem? (i := 81) rfl)))))
  · exact List.mem_append_right _ (List.mem_append_right _ (List.mem_append_right _ (List.mem_append_right _ (List.mem_append_left _ (List.mem_of_getElem? (i := 83) rfl)))))
  · exact List.mem_append_right _ (List.mem_append_right _ (List.mem_append_right _ (List.mem_append_right _ (List.mem_append_left _ (List.mem_of_getElem? (i := 86) rfl)))))
  · exact List.mem_append_right _ (List.mem_append_right _ (List.mem_append_right _ (List.mem_append_right _ (List.mem_append_right _ (List.mem_of_getElem? (i := 3) rfl)))))
  · exact List.mem_append_right _ (List.mem_append_right _ (List.mem_append_right _ (List.mem_append_right _ (List.mem_append_right _ (List.mem_of_getElem? (i := 4) rfl)))))
  · exact List.mem_append_right _ (List.mem_append_right _ (List.mem_append_right _ (List.mem_append_right _ (List.mem_append_right _ (List.mem_of_getElem? (i := 9) rfl)))))
  · exact List.mem_append_right _ (List.mem_append_left _ (List.mem_of_getElem? (i := 34) rfl))
  · exact List.mem_append_right _ (List.mem_append_left _ (List.mem_of_getElem? (i := 36) rfl))
  · exact List.mem_append_right _ (List.mem_append_right _ (List.mem_append_left _ (List.mem_of_getElem? (i := 54) rfl)))
  · exact List.mem_append_right _ (List.mem_append_right _ (List.mem_append_left _ (List.mem_of_getElem? (i := 123) rfl)))
  · exact List.mem_append_right _ (List.mem_append_right _ (List.mem_append_left _ (List.mem_of_getElem? (i := 217) rfl)))
theorem wn_0 : Cond.methodLinkNest RX3 11 yX1_init RX6 ∈ nW := List.mem_of_getElem? (i := 0) rfl
theorem wn_1 : Cond.fieldLinkNest RX6 77 "CrystalClub$CrystalSet" "turns" "I" RX6 ∈ nW := List.mem_of_getElem? (i := 1) rfl
theorem wn_2 : Cond.fieldLinkNest RX0 84 "CrystalClub$CrystalSet" "turns" "I" RX6 ∈ nW := List.mem_of_getElem? (i := 2) rfl
theorem wn_3 : Cond.fieldLinkNest RX6 74 "CrystalClub$CrystalSet" "dial" "I" RX6 ∈ nW := List.mem_of_getElem? (i := 3) rfl
theorem wn_4 : Cond.fieldLinkNest RX0 197 "CrystalClub$CrystalSet" "dial" "I" RX6 ∈ nW := List.mem_of_getElem? (i := 4) rfl
theorem wn_5 : Cond.fieldLinkNest RX3 30 "CrystalClub$CrystalSet" "aerial" "I" RX6 ∈ nW := List.mem_of_getElem? (i := 5) rfl
theorem wn_6 : Cond.fieldLinkNest RX0 200 "CrystalClub$CrystalSet" "aerial" "I" RX6 ∈ nW := List.mem_of_getElem? (i := 6) rfl
theorem wn_7 : Cond.fieldLinkNest RX3 34 "CrystalClub$CrystalSet" "crystal" "I" RX6 ∈ nW := List.mem_of_getElem? (i := 7) rfl
theorem wn_8 : Cond.fieldLinkNest RX6 96 "CrystalClub$CrystalSet" "crystal" "I" RX6 ∈ nW := List.mem_of_getElem? (i := 8) rfl
theorem wn_9 : Cond.fieldLinkNest RX0 203 "CrystalClub$CrystalSet" "crystal" "I" RX6 ∈ nW := List.mem_of_getElem? (i := 9) rfl
theorem wn_10 : Cond.fieldLinkNest RX0 206 "CrystalClub$CrystalSet" "tuned" "I" RX6 ∈ nW := List.mem_of_getElem? (i := 10) rfl
theorem wn_11 : Cond.fieldLinkNest RX0 209 "CrystalClub$CrystalSet" "width" "I" RX6 ∈ nW := List.mem_of_getElem? (i := 11) rfl
theorem wn_12 : Cond.fieldLinkNest RX0 254 "CrystalClub$Table" "columns" "I" RX6 ∈ nW := List.mem_of_getElem? (i := 12) rfl
theorem wn_13 : Cond.fieldLinkNest RX3 41 "CrystalClub$Table" "size" "I" RX6 ∈ nW := List.mem_of_getElem? (i := 13) rfl
theorem wn_14 : Cond.fieldLinkNest RX0 140 "CrystalClub$Table" "size" "I" RX6 ∈ nW := List.mem_of_getElem? (i := 14) rfl
theorem wn_15 : Cond.fieldLinkNest RX6 226 "CrystalClub$Table" "size" "I" RX6 ∈ nW := List.mem_of_getElem? (i := 15) rfl
theorem wn_16 : Cond.fieldLinkNest RX0 125 "CrystalClub$Member" "set" "LCrystalClub$CrystalSet;" RX6 ∈ nW := List.mem_of_getElem? (i := 16) rfl
theorem wn_17 : Cond.fieldLinkNest RX6 220 "CrystalClub$Member" "set" "LCrystalClub$CrystalSet;" RX6 ∈ nW := List.mem_of_getElem? (i := 17) rfl
theorem wn_18 : Cond.fieldLinkNest RX0 114 "CrystalClub$Member" "lines" "LCrystalClub$Table;" RX6 ∈ nW := List.mem_of_getElem? (i := 18) rfl
theorem wn_19 : Cond.fieldLinkNest RX6 223 "CrystalClub$Member" "lines" "LCrystalClub$Table;" RX6 ∈ nW := List.mem_of_getElem? (i := 19) rfl
theorem wn_20 : Cond.fieldLinkNest RX6 90 "CrystalClub$Member" "listens" "Z" RX6 ∈ nW := List.mem_of_getElem? (i := 20) rfl
theorem wn_21 : Cond.fieldLinkNest RX0 110 "CrystalClub$Member" "listens" "Z" RX6 ∈ nW := List.mem_of_getElem? (i := 21) rfl
theorem wn_22 : Cond.methodLinkNest RX0 35 yX2_init RX6 ∈ nW := List.mem_of_getElem? (i := 22) rfl
theorem wn_23 : Cond.fieldLinkNest RX0 98 "CrystalClub$Hearing" "strength" "I" RX6 ∈ nW := List.mem_of_getElem? (i := 23) rfl
theorem wn_24 : Cond.fieldLinkNest RX6 150 "CrystalClub$Club" "letters" "LCrystalClub$Table;" RX6 ∈ nW := List.mem_of_getElem? (i := 24) rfl
theorem wn_25 : Cond.fieldLinkNest RX6 39 "CrystalClub$Club" "stationCount" "I" RX6 ∈ nW := List.mem_of_getElem? (i := 25) rfl
theorem wn_26 : Cond.fieldLinkNest RX6 59 "CrystalClub$Club" "memberCount" "I" RX6 ∈ nW := List.mem_of_getElem? (i := 26) rfl
theorem wn_27 : Cond.fieldLinkNest RX6 112 "CrystalClub$Club" "hour" "I" RX6 ∈ nW := List.mem_of_getElem? (i := 27) rfl
theorem wn_28 : Cond.methodLinkNest RX6 21 yX1_init RX6 ∈ nW := List.mem_of_getElem? (i := 28) rfl
theorem wn_29 : Cond.fieldLinkNest RX1 40 "CrystalClub$Station" "frequency" "I" RX6 ∈ nW := List.mem_of_getElem? (i := 29) rfl
theorem wn_30 : Cond.fieldLinkNest RX0 185 "CrystalClub$Station" "frequency" "I" RX6 ∈ nW := List.mem_of_getElem? (i := 30) rfl
theorem wn_31 : Cond.fieldLinkNest RX1 48 "CrystalClub$Station" "power" "I" RX6 ∈ nW := List.mem_of_getElem? (i := 31) rfl
theorem wn_32 : Cond.fieldLinkNest RX0 188 "CrystalClub$Station" "power" "I" RX6 ∈ nW := List.mem_of_getElem? (i := 32) rfl
theorem wn_33 : Cond.fieldLinkNest RX1 55 "CrystalClub$Station" "far" "I" RX6 ∈ nW := List.mem_of_getElem? (i := 33) rfl
theorem wn_34 : Cond.fieldLinkNest RX0 166 "CrystalClub$Station" "far" "I" RX6 ∈ nW := List.mem_of_getElem? (i := 34) rfl
theorem wn_35 : Cond.methodLinkNest RX1 17 yX6_quotient RX6 ∈ nW := List.mem_of_getElem? (i := 35) rfl
theorem wn_36 : Cond.methodLinkNest RX1 45 yX6_distance RX6 ∈ nW := List.mem_of_getElem? (i := 36) rfl
theorem wn_37 : Cond.methodLinkNest RX8 27 yX7_init RX8 ∈ nW := List.mem_of_getElem? (i := 37) rfl
theorem wn_38 : Cond.fieldLinkNest RX8 98 "CrystalClubModel$State" "hour" "I" RX8 ∈ nW := List.mem_of_getElem? (i := 38) rfl
theorem wn_39 : Cond.fieldLinkNest RX8 129 "CrystalClubModel$State" "letters" "I" RX8 ∈ nW := List.mem_of_getElem? (i := 39) rfl
theorem wn_40 : Cond.fieldLinkNest RX8 135 "CrystalClubModel$State" "written" "I" RX8 ∈ nW := List.mem_of_getElem? (i := 40) rfl
theorem wn_41 : Cond.fieldLinkNest RX8 147 "CrystalClubModel$State" "answered" "I" RX8 ∈ nW := List.mem_of_getElem? (i := 41) rfl
theorem wn_42 : Cond.fieldLinkNest RX8 91 "CrystalClubModel$State" "crystal" "[I" RX8 ∈ nW := List.mem_of_getElem? (i := 42) rfl
theorem wn_43 : Cond.fieldLinkNest RX8 55 "CrystalClubModel$State" "lines" "[I" RX8 ∈ nW := List.mem_of_getElem? (i := 43) rfl
theorem wn_44 : Cond.fieldLinkNest RX8 126 "CrystalClubModel$State" "log" "[I" RX8 ∈ nW := List.mem_of_getElem? (i := 44) rfl
theorem wn_45 : Cond.fieldLinkNest RX8 132 "CrystalClubModel$State" "mail" "[I" RX8 ∈ nW := List.mem_of_getElem? (i := 45) rfl
theorem wn_46 : Cond.fieldLinkNest RX7 55 "CrystalClubModel" "members" "I" RX8 ∈ nW := List.mem_of_getElem? (i := 46) rfl
theorem wn_47 : Cond.fieldLinkNest RX7 61 "CrystalClubModel" "turns" "[I" RX8 ∈ nW := List.mem_of_getElem? (i := 47) rfl
theorem wn_48 : Cond.fieldLinkNest RX7 64 "CrystalClubModel" "stand" "[I" RX8 ∈ nW := List.mem_of_getElem? (i := 48) rfl
theorem wn_49 : Cond.fieldLinkNest RX7 58 "CrystalClubModel" "ears" "[I" RX8 ∈ nW := List.mem_of_getElem? (i := 49) rfl
theorem wn_50 : Cond.methodLinkNest RX7 51 yX8_onAir RX8 ∈ nW := List.mem_of_getElem? (i := 50) rfl
theorem wn_51 : Cond.methodLinkNest RX7 67 yX8_heard RX8 ∈ nW := List.mem_of_getElem? (i := 51) rfl
theorem wn_52 : Cond.methodLinkNest RX7 75 yX8_reach RX8 ∈ nW := List.mem_of_getElem? (i := 52) rfl
theorem wn_53 : Cond.arrayOver (.object RX4) ∈ nW := List.mem_of_getElem? (i := 53) rfl
theorem wn_54 : Cond.arrayOver (.object RX3) ∈ nW := List.mem_of_getElem? (i := 54) rfl
theorem wn_55 : Cond.castable "java/lang/IllegalArgumentException" "java/lang/IllegalArgumentException" ∈ nW := List.mem_of_getElem? (i := 55) rfl
theorem wn_56 : Cond.castable "java/lang/IllegalStateException" "java/lang/IllegalStateException" ∈ nW := List.mem_of_getElem? (i := 56) rfl
theorem wn_57 : Cond.castable "java/lang/IndexOutOfBoundsException" "java/lang/IndexOutOfBoundsException" ∈ nW := List.mem_of_getElem? (i := 57) rfl
