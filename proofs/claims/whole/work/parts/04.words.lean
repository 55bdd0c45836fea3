/-! ===== the words: one list for every method ===== -/
def wsU : List Cond := lw_tbl.filter goodWord
theorem wsU_good : ∀ w ∈ wsU, goodWord w = true := fun w h => (List.mem_filter.mp h).2
theorem wsU_tbl : ∀ w ∈ wsU, w ∈ lw_tbl := fun w h => (List.mem_filter.mp h).1
theorem in_tb {w : Cond} (h : w ∈ tables_1) (g : goodWord w = true) : w ∈ wsU := List.mem_filter.mpr ⟨List.mem_append_right _ h, g⟩
theorem in_t1 {w : Cond} {i : Nat} (h : tables_1_1[i]? = some w) (g : goodWord w = true) : w ∈ wsU := in_tb (List.mem_append_left _ (List.mem_of_getElem? h)) g
theorem in_t2 {w : Cond} {i : Nat} (h : tables_1_2[i]? = some w) (g : goodWord w = true) : w ∈ wsU := in_tb (List.mem_append_right _ (List.mem_append_left _ (List.mem_of_getElem? h))) g
theorem in_t3 {w : Cond} {i : Nat} (h : tables_1_3[i]? = some w) (g : goodWord w = true) : w ∈ wsU := in_tb (List.mem_append_right _ (List.mem_append_right _ (List.mem_append_left _ (List.mem_of_getElem? h)))) g
theorem in_t4 {w : Cond} {i : Nat} (h : tables_1_4[i]? = some w) (g : goodWord w = true) : w ∈ wsU := in_tb (List.mem_append_right _ (List.mem_append_right _ (List.mem_append_right _ (List.mem_append_left _ (List.mem_of_getElem? h))))) g
theorem in_t5 {w : Cond} {i : Nat} (h : tables_1_5[i]? = some w) (g : goodWord w = true) : w ∈ wsU := in_tb (List.mem_append_right _ (List.mem_append_right _ (List.mem_append_right _ (List.mem_append_right _ (List.mem_append_left _ (List.mem_of_getElem? h)))))) g
theorem in_t6 {w : Cond} {i : Nat} (h : tables_1_6[i]? = some w) (g : goodWord w = true) : w ∈ wsU := in_tb (List.mem_append_right _ (List.mem_append_right _ (List.mem_append_right _ (List.mem_append_right _ (List.mem_append_right _ (List.mem_append_left _ (List.mem_of_getElem? h))))))) g
theorem in_t7 {w : Cond} {i : Nat} (h : tables_1_7[i]? = some w) (g : goodWord w = true) : w ∈ wsU := in_tb (List.mem_append_right _ (List.mem_append_right _ (List.mem_append_right _ (List.mem_append_right _ (List.mem_append_right _ (List.mem_append_right _ (List.mem_append_left _ (List.mem_of_getElem? h)))))))) g
theorem in_t8 {w : Cond} {i : Nat} (h : tables_1_8[i]? = some w) (g : goodWord w = true) : w ∈ wsU := in_tb (List.mem_append_right _ (List.mem_append_right _ (List.mem_append_right _ (List.mem_append_right _ (List.mem_append_right _ (List.mem_append_right _ (List.mem_append_right _ (List.mem_of_getElem? h)))))))) g
theorem in_pv {w : Cond} {i : Nat} (h : (k2_sels lw_privs)[i]? = some w) (g : goodWord w = true) : w ∈ wsU := List.mem_filter.mpr ⟨List.mem_append_left _ (List.mem_of_getElem? h), g⟩
theorem wini_L : Cond.initialized RL ∈ wsU := in_t1 (i := 0) rfl rfl
theorem wini_X9 : Cond.initialized RX9 ∈ wsU := in_t1 (i := 1) rfl rfl
theorem wini_X7 : Cond.initialized RX7 ∈ wsU := in_t1 (i := 2) rfl rfl
theorem wini_X4 : Cond.initialized RX4 ∈ wsU := in_t1 (i := 3) rfl rfl
theorem wini_X3 : Cond.initialized RX3 ∈ wsU := in_t1 (i := 4) rfl rfl
theorem wini_X6 : Cond.initialized RX6 ∈ wsU := in_t1 (i := 5) rfl rfl
theorem wini_X8 : Cond.initialized RX8 ∈ wsU := in_t1 (i := 6) rfl rfl
theorem wini_X2 : Cond.initialized RX2 ∈ wsU := in_t1 (i := 7) rfl rfl
theorem wini_X1 : Cond.initialized RX1 ∈ wsU := in_t1 (i := 8) rfl rfl
theorem wini_X0 : Cond.initialized RX0 ∈ wsU := in_t1 (i := 9) rfl rfl
theorem wini_X5 : Cond.initialized RX5 ∈ wsU := in_t1 (i := 10) rfl rfl
theorem wini_X10 : Cond.initialized RX10 ∈ wsU := in_t1 (i := 11) rfl rfl
theorem wini_java_lang_Throwable : Cond.initialized "java/lang/Throwable" ∈ wsU := in_t1 (i := 12) rfl rfl
theorem wini_java_lang_Exception : Cond.initialized "java/lang/Exception" ∈ wsU := in_t1 (i := 13) rfl rfl
theorem wini_java_lang_RuntimeException : Cond.initialized "java/lang/RuntimeException" ∈ wsU := in_t1 (i := 14) rfl rfl
theorem wini_java_lang_IllegalArgumentException : Cond.initialized "java/lang/IllegalArgumentException" ∈ wsU := in_t1 (i := 15) rfl rfl
theorem wini_J9 : Cond.initialized RJ9 ∈ wsU := in_t1 (i := 16) rfl rfl
theorem wini_J0 : Cond.initialized RJ0 ∈ wsU := in_t1 (i := 17) rfl rfl
theorem wini_J1 : Cond.initialized RJ1 ∈ wsU := in_t1 (i := 18) rfl rfl
theorem wini_J3 : Cond.initialized RJ3 ∈ wsU := in_t1 (i := 19) rfl rfl
theorem wini_J2 : Cond.initialized RJ2 ∈ wsU := in_t1 (i := 20) rfl rfl
theorem wini_J10 : Cond.initialized RJ10 ∈ wsU := in_t1 (i := 21) rfl rfl
theorem wini_J6 : Cond.initialized RJ6 ∈ wsU := in_t1 (i := 22) rfl rfl
theorem wini_java_util_NoSuchElementException : Cond.initialized "java/util/NoSuchElementException" ∈ wsU := in_t1 (i := 23) rfl rfl
theorem wini_J7 : Cond.initialized RJ7 ∈ wsU := in_t1 (i := 24) rfl rfl
theorem wcl_L_8 : Cond.classLink RL 8 RX9 ∈ wsU := in_t1 (i := 25) rfl rfl
theorem wins_X9 : Cond.instantiable RX9 11 ∈ wsU := in_t1 (i := 26) rfl rfl
theorem wm_L_97 : Cond.methodLink RL 97 yX9_init ∈ wsU := in_t1 (i := 27) rfl rfl
theorem wi_yX9_init : Cond.instanceMethod yX9_init ∈ wsU := in_t1 (i := 28) rfl rfl
theorem wm_X9_3 : Cond.methodLink RX9 3 objectInit ∈ wsU := in_t1 (i := 30) rfl rfl
theorem wi_objectInit : Cond.instanceMethod objectInit ∈ wsU := in_t1 (i := 31) rfl rfl
theorem wcl_X9_9 : Cond.classLink RX9 9 RX7 ∈ wsU := in_t1 (i := 33) rfl rfl
theorem wins_X7 : Cond.instantiable RX7 9 ∈ wsU := in_t1 (i := 34) rfl rfl
theorem wi_yX7_init : Cond.instanceMethod yX7_init ∈ wsU := in_t1 (i := 36) rfl rfl
theorem wm_X7_3 : Cond.methodLink RX7 3 objectInit ∈ wsU := in_t1 (i := 38) rfl rfl
theorem wf_X7_9 : Cond.fieldLink RX7 9 "BarredSuits$Tape" "bytes" "[B" ∈ wsU := in_t1 (i := 39) rfl rfl
theorem wf_X9_85 : Cond.fieldLink RX9 85 "BarredSuits$Tape" "length" "I" ∈ wsU := in_t1 (i := 40) rfl rfl
theorem wf_X7_19 : Cond.fieldLink RX7 19 "BarredSuits$Tape" "length" "I" ∈ wsU := in_t1 (i := 41) rfl rfl
theorem wf_X7_28 : Cond.fieldLink RX7 28 "BarredSuits$Tape" "limit" "I" ∈ wsU := in_t1 (i := 42) rfl rfl
theorem wf_X8_34 : Cond.fieldLink RX8 34 "BarredSuits$Tape" "kind" "I" ∈ wsU := in_t1 (i := 43) rfl rfl
theorem wf_X1_59 : Cond.fieldLink RX1 59 "BarredSuits$Tape" "kind" "I" ∈ wsU := in_t1 (i := 44) rfl rfl
theorem wf_X7_47 : Cond.fieldLink RX7 47 "BarredSuits$Tape" "kind" "I" ∈ wsU := in_t1 (i := 45) rfl rfl
theorem wf_X7_40 : Cond.fieldLink RX7 40 "BarredSuits$Tape" "start" "I" ∈ wsU := in_t1 (i := 46) rfl rfl
theorem wf_X7_31 : Cond.fieldLink RX7 31 "BarredSuits$Tape" "end" "I" ∈ wsU := in_t1 (i := 47) rfl rfl
theorem wf_X7_53 : Cond.fieldLink RX7 53 "BarredSuits$Tape" "value" "I" ∈ wsU := in_t1 (i := 48) rfl rfl
theorem wf_X1_105 : Cond.fieldLink RX1 105 "BarredSuits$Tape" "value" "I" ∈ wsU := in_t1 (i := 49) rfl rfl
theorem wf_X8_198 : Cond.fieldLink RX8 198 "BarredSuits$Tape" "value" "I" ∈ wsU := in_t1 (i := 50) rfl rfl
theorem wf_X8_30 : Cond.fieldLink RX8 30 "BarredSuits$Tape" "fault" "I" ∈ wsU := in_t1 (i := 51) rfl rfl
theorem wf_X1_62 : Cond.fieldLink RX1 62 "BarredSuits$Tape" "fault" "I" ∈ wsU := in_t1 (i := 52) rfl rfl
theorem wf_X7_34 : Cond.fieldLink RX7 34 "BarredSuits$Tape" "fault" "I" ∈ wsU := in_t1 (i := 53) rfl rfl
theorem wf_X9_102 : Cond.fieldLink RX9 102 "BarredSuits$Tape" "fault" "I" ∈ wsU := in_t1 (i := 54) rfl rfl
theorem wf_X7_15 : Cond.fieldLink RX7 15 "BarredSuits$Tape" "place" "I" ∈ wsU := in_t1 (i := 55) rfl rfl
theorem wf_X9_111 : Cond.fieldLink RX9 111 "BarredSuits$Tape" "place" "I" ∈ wsU := in_t1 (i := 56) rfl rfl
theorem wl_7_0 : u_lay RX7 TX7 0 ∈ wsU := in_t1 (i := 57) rfl rfl
theorem wl_7_1 : u_lay RX7 TX7 1 ∈ wsU := in_t1 (i := 59) rfl rfl
theorem wl_7_2 : u_lay RX7 TX7 2 ∈ wsU := in_t1 (i := 61) rfl rfl
theorem wl_7_3 : u_lay RX7 TX7 3 ∈ wsU := in_t1 (i := 63) rfl rfl
theorem wl_7_4 : u_lay RX7 TX7 4 ∈ wsU := in_t1 (i := 65) rfl rfl
theorem wl_7_5 : u_lay RX7 TX7 5 ∈ wsU := in_t1 (i := 67) rfl rfl
theorem wl_7_6 : u_lay RX7 TX7 6 ∈ wsU := in_t1 (i := 69) rfl rfl
theorem wl_7_7 : u_lay RX7 TX7 7 ∈ wsU := in_t1 (i := 71) rfl rfl
theorem wl_7_8 : u_lay RX7 TX7 8 ∈ wsU := in_t1 (i := 73) rfl rfl
theorem warr_byte : Cond.arrayClass .byte ∈ wsU := in_t1 (i := 76) rfl rfl
theorem wcl_X9_18 : Cond.classLink RX9 18 RX4 ∈ wsU := in_t1 (i := 77) rfl rfl
theorem wins_X4 : Cond.instantiable RX4 7 ∈ wsU := in_t1 (i := 78) rfl rfl
theorem wm_X9_20 : Cond.methodLink RX9 20 yX4_init ∈ wsU := in_t1 (i := 79) rfl rfl
theorem wi_yX4_init : Cond.instanceMethod yX4_init ∈ wsU := in_t1 (i := 80) rfl rfl
theorem wm_X4_3 : Cond.methodLink RX4 3 objectInit ∈ wsU := in_t1 (i := 82) rfl rfl
theorem wcl_X4_15 : Cond.classLink RX4 15 RX3 ∈ wsU := in_t1 (i := 83) rfl rfl
theorem wcl_X4_21 : Cond.classLink RX4 21 RX6 ∈ wsU := in_t1 (i := 85) rfl rfl
theorem wm_X4_30 : Cond.methodLink RX4 30 yX4_clear ∈ wsU := in_t1 (i := 87) rfl rfl
theorem wi_yX4_clear : Cond.instanceMethod yX4_clear ∈ wsU := in_t1 (i := 88) rfl rfl
theorem wsl_yX4_clear : Cond.selects RX4 yX4_clear yX4_clear ∈ wsU := in_t1 (i := 89) rfl rfl
theorem wins_X3 : Cond.instantiable RX3 4 ∈ wsU := in_t1 (i := 91) rfl rfl
theorem wi_yX3_init : Cond.instanceMethod yX3_init ∈ wsU := in_t1 (i := 93) rfl rfl
theorem wm_X3_3 : Cond.methodLink RX3 3 objectInit ∈ wsU := in_t1 (i := 95) rfl rfl
theorem wf_X3_9 : Cond.fieldLink RX3 9 "BarredSuits$Link" "giver" "I" ∈ wsU := in_t1 (i := 96) rfl rfl
theorem wf_X2_89 : Cond.fieldLink RX2 89 "BarredSuits$Link" "giver" "I" ∈ wsU := in_t1 (i := 97) rfl rfl
theorem wf_X4_68 : Cond.fieldLink RX4 68 "BarredSuits$Link" "giver" "I" ∈ wsU := in_t1 (i := 98) rfl rfl
theorem wf_X9_157 : Cond.fieldLink RX9 157 "BarredSuits$Link" "giver" "I" ∈ wsU := in_t1 (i := 99) rfl rfl
theorem wf_X3_15 : Cond.fieldLink RX3 15 "BarredSuits$Link" "taker" "I" ∈ wsU := in_t1 (i := 100) rfl rfl
theorem wf_X2_101 : Cond.fieldLink RX2 101 "BarredSuits$Link" "taker" "I" ∈ wsU := in_t1 (i := 101) rfl rfl
theorem wf_X4_71 : Cond.fieldLink RX4 71 "BarredSuits$Link" "taker" "I" ∈ wsU := in_t1 (i := 102) rfl rfl
theorem wf_X9_162 : Cond.fieldLink RX9 162 "BarredSuits$Link" "taker" "I" ∈ wsU := in_t1 (i := 103) rfl rfl
theorem wf_X3_18 : Cond.fieldLink RX3 18 "BarredSuits$Link" "from" "I" ∈ wsU := in_t1 (i := 104) rfl rfl
theorem wf_X4_74 : Cond.fieldLink RX4 74 "BarredSuits$Link" "from" "I" ∈ wsU := in_t1 (i := 105) rfl rfl
theorem wf_X9_169 : Cond.fieldLink RX9 169 "BarredSuits$Link" "from" "I" ∈ wsU := in_t1 (i := 106) rfl rfl
theorem wf_X3_21 : Cond.fieldLink RX3 21 "BarredSuits$Link" "to" "I" ∈ wsU := in_t1 (i := 107) rfl rfl
theorem wf_X4_77 : Cond.fieldLink RX4 77 "BarredSuits$Link" "to" "I" ∈ wsU := in_t1 (i := 108) rfl rfl
theorem wf_X9_172 : Cond.fieldLink RX9 172 "BarredSuits$Link" "to" "I" ∈ wsU := in_t1 (i := 109) rfl rfl
theorem wl_3_0 : u_lay RX3 TX3 0 ∈ wsU := in_t1 (i := 110) rfl rfl
theorem wl_3_1 : u_lay RX3 TX3 1 ∈ wsU := in_t1 (i := 112) rfl rfl
theorem wl_3_2 : u_lay RX3 TX3 2 ∈ wsU := in_t1 (i := 114) rfl rfl
theorem wl_3_3 : u_lay RX3 TX3 3 ∈ wsU := in_t1 (i := 116) rfl rfl
theorem warr_int : Cond.arrayClass .int ∈ wsU := in_t1 (i := 119) rfl rfl
theorem wins_X6 : Cond.instantiable RX6 17 ∈ wsU := in_t1 (i := 120) rfl rfl
theorem wm_X4_34 : Cond.methodLink RX4 34 yX6_init ∈ wsU := in_t1 (i := 121) rfl rfl
theorem wi_yX6_init : Cond.instanceMethod yX6_init ∈ wsU := in_t1 (i := 122) rfl rfl
theorem wm_X6_3 : Cond.methodLink RX6 3 objectInit ∈ wsU := in_t1 (i := 124) rfl rfl
theorem wf_X6_9 : Cond.fieldLink RX6 9 "BarredSuits$Suit" "number" "I" ∈ wsU := in_t1 (i := 125) rfl rfl
theorem wf_X2_122 : Cond.fieldLink RX2 122 "BarredSuits$Suit" "number" "I" ∈ wsU := in_t1 (i := 126) rfl rfl
theorem wf_X6_18 : Cond.fieldLink RX6 18 "BarredSuits$Suit" "plaintiff" "I" ∈ wsU := in_t1 (i := 127) rfl rfl
theorem wf_X2_62 : Cond.fieldLink RX2 62 "BarredSuits$Suit" "plaintiff" "I" ∈ wsU := in_t1 (i := 128) rfl rfl
theorem wf_X8_137 : Cond.fieldLink RX8 137 "BarredSuits$Suit" "plaintiff" "I" ∈ wsU := in_t1 (i := 129) rfl rfl
theorem wf_X9_181 : Cond.fieldLink RX9 181 "BarredSuits$Suit" "plaintiff" "I" ∈ wsU := in_t1 (i := 130) rfl rfl
theorem wf_X6_21 : Cond.fieldLink RX6 21 "BarredSuits$Suit" "defendant" "I" ∈ wsU := in_t1 (i := 131) rfl rfl
theorem wf_X2_72 : Cond.fieldLink RX2 72 "BarredSuits$Suit" "defendant" "I" ∈ wsU := in_t1 (i := 132) rfl rfl
theorem wf_X8_140 : Cond.fieldLink RX8 140 "BarredSuits$Suit" "defendant" "I" ∈ wsU := in_t1 (i := 133) rfl rfl
theorem wf_X9_184 : Cond.fieldLink RX9 184 "BarredSuits$Suit" "defendant" "I" ∈ wsU := in_t1 (i := 134) rfl rfl
theorem wf_X6_24 : Cond.fieldLink RX6 24 "BarredSuits$Suit" "filed" "I" ∈ wsU := in_t1 (i := 135) rfl rfl
theorem wf_X8_143 : Cond.fieldLink RX8 143 "BarredSuits$Suit" "filed" "I" ∈ wsU := in_t1 (i := 136) rfl rfl
theorem wf_X9_187 : Cond.fieldLink RX9 187 "BarredSuits$Suit" "filed" "I" ∈ wsU := in_t1 (i := 137) rfl rfl
theorem wf_X2_128 : Cond.fieldLink RX2 128 "BarredSuits$Suit" "filed" "I" ∈ wsU := in_t1 (i := 138) rfl rfl
theorem wf_X6_27 : Cond.fieldLink RX6 27 "BarredSuits$Suit" "facts" "I" ∈ wsU := in_t1 (i := 139) rfl rfl
theorem wf_X8_153 : Cond.fieldLink RX8 153 "BarredSuits$Suit" "facts" "I" ∈ wsU := in_t1 (i := 140) rfl rfl
theorem wf_X9_190 : Cond.fieldLink RX9 190 "BarredSuits$Suit" "facts" "I" ∈ wsU := in_t1 (i := 141) rfl rfl
theorem wf_X2_131 : Cond.fieldLink RX2 131 "BarredSuits$Suit" "facts" "I" ∈ wsU := in_t1 (i := 142) rfl rfl
theorem wf_X6_30 : Cond.fieldLink RX6 30 "BarredSuits$Suit" "needs" "I" ∈ wsU := in_t1 (i := 143) rfl rfl
theorem wf_X8_157 : Cond.fieldLink RX8 157 "BarredSuits$Suit" "needs" "I" ∈ wsU := in_t1 (i := 144) rfl rfl
theorem wf_X9_193 : Cond.fieldLink RX9 193 "BarredSuits$Suit" "needs" "I" ∈ wsU := in_t1 (i := 145) rfl rfl
theorem wf_X2_163 : Cond.fieldLink RX2 163 "BarredSuits$Suit" "needs" "I" ∈ wsU := in_t1 (i := 146) rfl rfl
theorem wf_X6_33 : Cond.fieldLink RX6 33 "BarredSuits$Suit" "buts" "I" ∈ wsU := in_t1 (i := 147) rfl rfl
theorem wf_X8_161 : Cond.fieldLink RX8 161 "BarredSuits$Suit" "buts" "I" ∈ wsU := in_t1 (i := 148) rfl rfl
theorem wf_X9_196 : Cond.fieldLink RX9 196 "BarredSuits$Suit" "buts" "I" ∈ wsU := in_t1 (i := 149) rfl rfl
theorem wf_X2_166 : Cond.fieldLink RX2 166 "BarredSuits$Suit" "buts" "I" ∈ wsU := in_t1 (i := 150) rfl rfl
theorem wf_X6_15 : Cond.fieldLink RX6 15 "BarredSuits$Suit" "day" "I" ∈ wsU := in_t1 (i := 151) rfl rfl
theorem wf_X2_94 : Cond.fieldLink RX2 94 "BarredSuits$Suit" "day" "I" ∈ wsU := in_t1 (i := 152) rfl rfl
theorem wf_X9_199 : Cond.fieldLink RX9 199 "BarredSuits$Suit" "day" "I" ∈ wsU := in_t1 (i := 153) rfl rfl
theorem wf_X6_36 : Cond.fieldLink RX6 36 "BarredSuits$Suit" "merits" "Z" ∈ wsU := in_t1 (i := 154) rfl rfl
theorem wf_X9_202 : Cond.fieldLink RX9 202 "BarredSuits$Suit" "merits" "Z" ∈ wsU := in_t1 (i := 155) rfl rfl
theorem wf_X2_145 : Cond.fieldLink RX2 145 "BarredSuits$Suit" "merits" "Z" ∈ wsU := in_t1 (i := 156) rfl rfl
theorem wf_X6_40 : Cond.fieldLink RX6 40 "BarredSuits$Suit" "reversed" "Z" ∈ wsU := in_t1 (i := 157) rfl rfl
theorem wf_X0_55 : Cond.fieldLink RX0 55 "BarredSuits$Suit" "reversed" "Z" ∈ wsU := in_t1 (i := 158) rfl rfl
theorem wf_X4_64 : Cond.fieldLink RX4 64 "BarredSuits$Suit" "reversed" "Z" ∈ wsU := in_t1 (i := 159) rfl rfl
theorem wf_X8_186 : Cond.fieldLink RX8 186 "BarredSuits$Suit" "reversed" "Z" ∈ wsU := in_t1 (i := 160) rfl rfl
theorem wf_X9_205 : Cond.fieldLink RX9 205 "BarredSuits$Suit" "reversed" "Z" ∈ wsU := in_t1 (i := 161) rfl rfl
theorem wf_X2_204 : Cond.fieldLink RX2 204 "BarredSuits$Suit" "reversed" "Z" ∈ wsU := in_t1 (i := 162) rfl rfl
theorem wf_X2_50 : Cond.fieldLink RX2 50 "BarredSuits$Suit" "yes" "I" ∈ wsU := in_t1 (i := 163) rfl rfl
theorem wf_X6_43 : Cond.fieldLink RX6 43 "BarredSuits$Suit" "yes" "I" ∈ wsU := in_t1 (i := 164) rfl rfl
theorem wf_X0_59 : Cond.fieldLink RX0 59 "BarredSuits$Suit" "yes" "I" ∈ wsU := in_t1 (i := 165) rfl rfl
theorem wf_X8_176 : Cond.fieldLink RX8 176 "BarredSuits$Suit" "yes" "I" ∈ wsU := in_t1 (i := 166) rfl rfl
theorem wf_X9_208 : Cond.fieldLink RX9 208 "BarredSuits$Suit" "yes" "I" ∈ wsU := in_t1 (i := 167) rfl rfl
theorem wf_X2_56 : Cond.fieldLink RX2 56 "BarredSuits$Suit" "no" "I" ∈ wsU := in_t1 (i := 168) rfl rfl
theorem wf_X6_46 : Cond.fieldLink RX6 46 "BarredSuits$Suit" "no" "I" ∈ wsU := in_t1 (i := 169) rfl rfl
theorem wf_X0_62 : Cond.fieldLink RX0 62 "BarredSuits$Suit" "no" "I" ∈ wsU := in_t1 (i := 170) rfl rfl
theorem wf_X8_180 : Cond.fieldLink RX8 180 "BarredSuits$Suit" "no" "I" ∈ wsU := in_t1 (i := 171) rfl rfl
theorem wf_X9_211 : Cond.fieldLink RX9 211 "BarredSuits$Suit" "no" "I" ∈ wsU := in_t1 (i := 172) rfl rfl
theorem wf_X6_49 : Cond.fieldLink RX6 49 "BarredSuits$Suit" "untried" "I" ∈ wsU := in_t1 (i := 173) rfl rfl
theorem wf_X0_65 : Cond.fieldLink RX0 65 "BarredSuits$Suit" "untried" "I" ∈ wsU := in_t1 (i := 174) rfl rfl
theorem wf_X8_184 : Cond.fieldLink RX8 184 "BarredSuits$Suit" "untried" "I" ∈ wsU := in_t1 (i := 175) rfl rfl
theorem wf_X9_214 : Cond.fieldLink RX9 214 "BarredSuits$Suit" "untried" "I" ∈ wsU := in_t1 (i := 176) rfl rfl
theorem wf_X2_69 : Cond.fieldLink RX2 69 "BarredSuits$Suit" "boundLeft" "I" ∈ wsU := in_t1 (i := 177) rfl rfl
theorem wf_X6_52 : Cond.fieldLink RX6 52 "BarredSuits$Suit" "boundLeft" "I" ∈ wsU := in_t1 (i := 178) rfl rfl
theorem wf_X2_75 : Cond.fieldLink RX2 75 "BarredSuits$Suit" "boundRight" "I" ∈ wsU := in_t1 (i := 179) rfl rfl
theorem wf_X6_55 : Cond.fieldLink RX6 55 "BarredSuits$Suit" "boundRight" "I" ∈ wsU := in_t1 (i := 180) rfl rfl
theorem wf_X2_53 : Cond.fieldLink RX2 53 "BarredSuits$Suit" "settledYes" "I" ∈ wsU := in_t1 (i := 181) rfl rfl
theorem wf_X9_224 : Cond.fieldLink RX9 224 "BarredSuits$Suit" "settledYes" "I" ∈ wsU := in_t1 (i := 182) rfl rfl
theorem wf_X2_59 : Cond.fieldLink RX2 59 "BarredSuits$Suit" "settledNo" "I" ∈ wsU := in_t1 (i := 183) rfl rfl
theorem wf_X9_227 : Cond.fieldLink RX9 227 "BarredSuits$Suit" "settledNo" "I" ∈ wsU := in_t1 (i := 184) rfl rfl
theorem wl_6_0 : u_lay RX6 TX6 0 ∈ wsU := in_t1 (i := 185) rfl rfl
theorem wl_6_1 : u_lay RX6 TX6 1 ∈ wsU := in_t1 (i := 187) rfl rfl
theorem wl_6_2 : u_lay RX6 TX6 2 ∈ wsU := in_t1 (i := 189) rfl rfl
theorem wl_6_3 : u_lay RX6 TX6 3 ∈ wsU := in_t1 (i := 191) rfl rfl
theorem wl_6_4 : u_lay RX6 TX6 4 ∈ wsU := in_t1 (i := 193) rfl rfl
theorem wl_6_5 : u_lay RX6 TX6 5 ∈ wsU := in_t1 (i := 195) rfl rfl
theorem wl_6_6 : u_lay RX6 TX6 6 ∈ wsU := in_t1 (i := 197) rfl rfl
theorem wl_6_7 : u_lay RX6 TX6 7 ∈ wsU := in_t1 (i := 199) rfl rfl
theorem wl_6_8 : u_lay RX6 TX6 8 ∈ wsU := in_t1 (i := 201) rfl rfl
theorem wl_6_9 : u_lay RX6 TX6 9 ∈ wsU := in_t1 (i := 203) rfl rfl
theorem wl_6_10 : u_lay RX6 TX6 10 ∈ wsU := in_t1 (i := 205) rfl rfl
theorem wl_6_11 : u_lay RX6 TX6 11 ∈ wsU := in_t1 (i := 207) rfl rfl
theorem wl_6_12 : u_lay RX6 TX6 12 ∈ wsU := in_t1 (i := 209) rfl rfl
theorem wl_6_13 : u_lay RX6 TX6 13 ∈ wsU := in_t1 (i := 211) rfl rfl
theorem wl_6_14 : u_lay RX6 TX6 14 ∈ wsU := in_t1 (i := 213) rfl rfl
theorem wl_6_15 : u_lay RX6 TX6 15 ∈ wsU := in_t1 (i := 215) rfl rfl
theorem wl_6_16 : u_lay RX6 TX6 16 ∈ wsU := in_t1 (i := 217) rfl rfl
theorem wf_X4_9 : Cond.fieldLink RX4 9 "BarredSuits$Records" "letters" "[I" ∈ wsU := in_t1 (i := 220) rfl rfl
theorem wf_X8_102 : Cond.fieldLink RX8 102 "BarredSuits$Records" "letters" "[I" ∈ wsU := in_t1 (i := 221) rfl rfl
theorem wf_X9_147 : Cond.fieldLink RX9 147 "BarredSuits$Records" "letters" "[I" ∈ wsU := in_t1 (i := 222) rfl rfl
theorem wf_X4_17 : Cond.fieldLink RX4 17 "BarredSuits$Records" "links" "[LBarredSuits$Link;" ∈ wsU := in_t1 (i := 223) rfl rfl
theorem wf_X2_85 : Cond.fieldLink RX2 85 "BarredSuits$Records" "links" "[LBarredSuits$Link;" ∈ wsU := in_t1 (i := 224) rfl rfl
theorem wf_X9_153 : Cond.fieldLink RX9 153 "BarredSuits$Records" "links" "[LBarredSuits$Link;" ∈ wsU := in_t1 (i := 225) rfl rfl
theorem wf_X4_23 : Cond.fieldLink RX4 23 "BarredSuits$Records" "suits" "[LBarredSuits$Suit;" ∈ wsU := in_t1 (i := 226) rfl rfl
theorem wf_X2_37 : Cond.fieldLink RX2 37 "BarredSuits$Records" "suits" "[LBarredSuits$Suit;" ∈ wsU := in_t1 (i := 227) rfl rfl
theorem wf_X0_41 : Cond.fieldLink RX0 41 "BarredSuits$Records" "suits" "[LBarredSuits$Suit;" ∈ wsU := in_t1 (i := 228) rfl rfl
theorem wf_X8_127 : Cond.fieldLink RX8 127 "BarredSuits$Records" "suits" "[LBarredSuits$Suit;" ∈ wsU := in_t1 (i := 229) rfl rfl
theorem wf_X9_419 : Cond.fieldLink RX9 419 "BarredSuits$Records" "suits" "[LBarredSuits$Suit;" ∈ wsU := in_t1 (i := 230) rfl rfl
theorem wf_X4_27 : Cond.fieldLink RX4 27 "BarredSuits$Records" "rules" "[I" ∈ wsU := in_t1 (i := 231) rfl rfl
theorem wf_X2_41 : Cond.fieldLink RX2 41 "BarredSuits$Records" "rules" "[I" ∈ wsU := in_t1 (i := 232) rfl rfl
theorem wf_X0_35 : Cond.fieldLink RX0 35 "BarredSuits$Records" "rules" "[I" ∈ wsU := in_t1 (i := 233) rfl rfl
theorem wf_X9_127 : Cond.fieldLink RX9 127 "BarredSuits$Records" "rules" "[I" ∈ wsU := in_t1 (i := 234) rfl rfl
theorem wf_X8_195 : Cond.fieldLink RX8 195 "BarredSuits$Records" "rules" "[I" ∈ wsU := in_t1 (i := 235) rfl rfl
theorem wf_X4_37 : Cond.fieldLink RX4 37 "BarredSuits$Records" "personCount" "I" ∈ wsU := in_t1 (i := 236) rfl rfl
theorem wf_X8_88 : Cond.fieldLink RX8 88 "BarredSuits$Records" "personCount" "I" ∈ wsU := in_t1 (i := 237) rfl rfl
theorem wf_X9_114 : Cond.fieldLink RX9 114 "BarredSuits$Records" "personCount" "I" ∈ wsU := in_t1 (i := 238) rfl rfl
theorem wf_X4_41 : Cond.fieldLink RX4 41 "BarredSuits$Records" "linkCount" "I" ∈ wsU := in_t1 (i := 239) rfl rfl
theorem wf_X2_82 : Cond.fieldLink RX2 82 "BarredSuits$Records" "linkCount" "I" ∈ wsU := in_t2 (i := 0) rfl rfl
theorem wf_X8_110 : Cond.fieldLink RX8 110 "BarredSuits$Records" "linkCount" "I" ∈ wsU := in_t2 (i := 1) rfl rfl
theorem wf_X9_117 : Cond.fieldLink RX9 117 "BarredSuits$Records" "linkCount" "I" ∈ wsU := in_t2 (i := 2) rfl rfl
theorem wf_X2_31 : Cond.fieldLink RX2 31 "BarredSuits$Records" "suitCount" "I" ∈ wsU := in_t2 (i := 3) rfl rfl
theorem wf_X4_44 : Cond.fieldLink RX4 44 "BarredSuits$Records" "suitCount" "I" ∈ wsU := in_t2 (i := 4) rfl rfl
theorem wf_X9_108 : Cond.fieldLink RX9 108 "BarredSuits$Records" "suitCount" "I" ∈ wsU := in_t2 (i := 5) rfl rfl
theorem wf_X0_38 : Cond.fieldLink RX0 38 "BarredSuits$Records" "suitCount" "I" ∈ wsU := in_t2 (i := 6) rfl rfl
theorem wf_X8_124 : Cond.fieldLink RX8 124 "BarredSuits$Records" "suitCount" "I" ∈ wsU := in_t2 (i := 7) rfl rfl
theorem wl_4_0 : u_lay RX4 TX4 0 ∈ wsU := in_t2 (i := 8) rfl rfl
theorem wl_4_1 : u_lay RX4 TX4 1 ∈ wsU := in_t2 (i := 10) rfl rfl
theorem wl_4_2 : u_lay RX4 TX4 2 ∈ wsU := in_t2 (i := 12) rfl rfl
theorem wl_4_3 : u_lay RX4 TX4 3 ∈ wsU := in_t2 (i := 14) rfl rfl
theorem wl_4_4 : u_lay RX4 TX4 4 ∈ wsU := in_t2 (i := 16) rfl rfl
theorem wl_4_5 : u_lay RX4 TX4 5 ∈ wsU := in_t2 (i := 18) rfl rfl
theorem wl_4_6 : u_lay RX4 TX4 6 ∈ wsU := in_t2 (i := 20) rfl rfl
theorem wcl_X9_31 : Cond.classLink RX9 31 RX8 ∈ wsU := in_t2 (i := 23) rfl rfl
theorem wins_X8 : Cond.instantiable RX8 2 ∈ wsU := in_t2 (i := 24) rfl rfl
theorem wm_X9_33 : Cond.methodLink RX9 33 yX8_init ∈ wsU := in_t2 (i := 25) rfl rfl
theorem wi_yX8_init : Cond.instanceMethod yX8_init ∈ wsU := in_t2 (i := 26) rfl rfl
theorem wm_X8_3 : Cond.methodLink RX8 3 objectInit ∈ wsU := in_t2 (i := 28) rfl rfl
theorem wf_X8_9 : Cond.fieldLink RX8 9 "BarredSuits$TextReader" "tape" "LBarredSuits$Tape;" ∈ wsU := in_t2 (i := 29) rfl rfl
theorem wf_X8_15 : Cond.fieldLink RX8 15 "BarredSuits$TextReader" "told" "LBarredSuits$Records;" ∈ wsU := in_t2 (i := 30) rfl rfl
theorem wl_8_0 : u_lay RX8 TX8 0 ∈ wsU := in_t2 (i := 31) rfl rfl
theorem wl_8_1 : u_lay RX8 TX8 1 ∈ wsU := in_t2 (i := 33) rfl rfl
theorem wcl_X9_40 : Cond.classLink RX9 40 RX2 ∈ wsU := in_t2 (i := 36) rfl rfl
theorem wins_X2 : Cond.instantiable RX2 8 ∈ wsU := in_t2 (i := 37) rfl rfl
theorem wm_X9_42 : Cond.methodLink RX9 42 yX2_init ∈ wsU := in_t2 (i := 38) rfl rfl
theorem wi_yX2_init : Cond.instanceMethod yX2_init ∈ wsU := in_t2 (i := 39) rfl rfl
theorem wm_X2_3 : Cond.methodLink RX2 3 objectInit ∈ wsU := in_t2 (i := 41) rfl rfl
theorem wf_X2_27 : Cond.fieldLink RX2 27 "BarredSuits$Bench" "records" "LBarredSuits$Records;" ∈ wsU := in_t2 (i := 42) rfl rfl
theorem wf_X2_9 : Cond.fieldLink RX2 9 "BarredSuits$Bench" "holders" "[I" ∈ wsU := in_t2 (i := 43) rfl rfl
theorem wf_X9_285 : Cond.fieldLink RX9 285 "BarredSuits$Bench" "holders" "[I" ∈ wsU := in_t2 (i := 44) rfl rfl
theorem wf_X2_15 : Cond.fieldLink RX2 15 "BarredSuits$Bench" "rests" "[I" ∈ wsU := in_t2 (i := 45) rfl rfl
theorem wf_X2_18 : Cond.fieldLink RX2 18 "BarredSuits$Bench" "queue" "[I" ∈ wsU := in_t2 (i := 46) rfl rfl
theorem wf_X2_21 : Cond.fieldLink RX2 21 "BarredSuits$Bench" "via" "[I" ∈ wsU := in_t2 (i := 47) rfl rfl
theorem wf_X2_24 : Cond.fieldLink RX2 24 "BarredSuits$Bench" "backward" "[I" ∈ wsU := in_t2 (i := 48) rfl rfl
theorem wf_X9_288 : Cond.fieldLink RX9 288 "BarredSuits$Bench" "heldYes" "I" ∈ wsU := in_t2 (i := 49) rfl rfl
theorem wf_X2_169 : Cond.fieldLink RX2 169 "BarredSuits$Bench" "heldYes" "I" ∈ wsU := in_t2 (i := 50) rfl rfl
theorem wf_X2_172 : Cond.fieldLink RX2 172 "BarredSuits$Bench" "heldNo" "I" ∈ wsU := in_t2 (i := 51) rfl rfl
theorem wl_2_0 : u_lay RX2 TX2 0 ∈ wsU := in_t2 (i := 52) rfl rfl
theorem wl_2_1 : u_lay RX2 TX2 1 ∈ wsU := in_t2 (i := 54) rfl rfl
theorem wl_2_2 : u_lay RX2 TX2 2 ∈ wsU := in_t2 (i := 56) rfl rfl
theorem wl_2_3 : u_lay RX2 TX2 3 ∈ wsU := in_t2 (i := 58) rfl rfl
theorem wl_2_4 : u_lay RX2 TX2 4 ∈ wsU := in_t2 (i := 60) rfl rfl
theorem wl_2_5 : u_lay RX2 TX2 5 ∈ wsU := in_t2 (i := 62) rfl rfl
theorem wl_2_6 : u_lay RX2 TX2 6 ∈ wsU := in_t2 (i := 64) rfl rfl
theorem wl_2_7 : u_lay RX2 TX2 7 ∈ wsU := in_t2 (i := 66) rfl rfl
theorem wcl_X9_49 : Cond.classLink RX9 49 RX1 ∈ wsU := in_t2 (i := 69) rfl rfl
theorem wins_X1 : Cond.instantiable RX1 5 ∈ wsU := in_t2 (i := 70) rfl rfl
theorem wm_X9_51 : Cond.methodLink RX9 51 yX1_init ∈ wsU := in_t2 (i := 71) rfl rfl
theorem wi_yX1_init : Cond.instanceMethod yX1_init ∈ wsU := in_t2 (i := 72) rfl rfl
theorem wm_X1_3 : Cond.methodLink RX1 3 objectInit ∈ wsU := in_t2 (i := 74) rfl rfl
theorem wf_X1_21 : Cond.fieldLink RX1 21 "BarredSuits$Asker" "tape" "LBarredSuits$Tape;" ∈ wsU := in_t2 (i := 75) rfl rfl
theorem wf_X1_11 : Cond.fieldLink RX1 11 "BarredSuits$Asker" "values" "[I" ∈ wsU := in_t2 (i := 76) rfl rfl
theorem wf_X9_404 : Cond.fieldLink RX9 404 "BarredSuits$Asker" "values" "[I" ∈ wsU := in_t2 (i := 77) rfl rfl
theorem wf_X1_15 : Cond.fieldLink RX1 15 "BarredSuits$Asker" "left" "[I" ∈ wsU := in_t2 (i := 78) rfl rfl
theorem wf_X1_18 : Cond.fieldLink RX1 18 "BarredSuits$Asker" "right" "[I" ∈ wsU := in_t2 (i := 79) rfl rfl
theorem wf_X1_31 : Cond.fieldLink RX1 31 "BarredSuits$Asker" "suits" "I" ∈ wsU := in_t2 (i := 80) rfl rfl
theorem wl_1_0 : u_lay RX1 TX1 0 ∈ wsU := in_t2 (i := 81) rfl rfl
theorem wl_1_1 : u_lay RX1 TX1 1 ∈ wsU := in_t2 (i := 83) rfl rfl
theorem wl_1_2 : u_lay RX1 TX1 2 ∈ wsU := in_t2 (i := 85) rfl rfl
theorem wl_1_3 : u_lay RX1 TX1 3 ∈ wsU := in_t2 (i := 87) rfl rfl
theorem wl_1_4 : u_lay RX1 TX1 4 ∈ wsU := in_t2 (i := 89) rfl rfl
theorem wcl_X9_58 : Cond.classLink RX9 58 RX0 ∈ wsU := in_t2 (i := 92) rfl rfl
theorem wins_X0 : Cond.instantiable RX0 2 ∈ wsU := in_t2 (i := 93) rfl rfl
theorem wi_yX0_init : Cond.instanceMethod yX0_init ∈ wsU := in_t2 (i := 95) rfl rfl
theorem wm_X0_3 : Cond.methodLink RX0 3 objectInit ∈ wsU := in_t2 (i := 97) rfl rfl
theorem wf_X0_11 : Cond.fieldLink RX0 11 "BarredSuits$Acts" "rows" "[I" ∈ wsU := in_t2 (i := 98) rfl rfl
theorem wf_X0_15 : Cond.fieldLink RX0 15 "BarredSuits$Acts" "keptCount" "I" ∈ wsU := in_t2 (i := 99) rfl rfl
theorem wf_X9_131 : Cond.fieldLink RX9 131 "BarredSuits$Acts" "keptCount" "I" ∈ wsU := in_t2 (i := 100) rfl rfl
theorem wl_0_0 : u_lay RX0 TX0 0 ∈ wsU := in_t2 (i := 101) rfl rfl
theorem wl_0_1 : u_lay RX0 TX0 1 ∈ wsU := in_t2 (i := 103) rfl rfl
theorem wcl_X9_65 : Cond.classLink RX9 65 RX5 ∈ wsU := in_t2 (i := 106) rfl rfl
theorem wins_X5 : Cond.instantiable RX5 2 ∈ wsU := in_t2 (i := 107) rfl rfl
theorem wi_yX5_init : Cond.instanceMethod yX5_init ∈ wsU := in_t2 (i := 109) rfl rfl
theorem wm_X5_3 : Cond.methodLink RX5 3 objectInit ∈ wsU := in_t2 (i := 111) rfl rfl
theorem wf_X5_9 : Cond.fieldLink RX5 9 "BarredSuits$Speech" "bytes" "[B" ∈ wsU := in_t2 (i := 112) rfl rfl
theorem wf_X9_314 : Cond.fieldLink RX9 314 "BarredSuits$Speech" "bytes" "[B" ∈ wsU := in_t2 (i := 113) rfl rfl
theorem wf_X5_15 : Cond.fieldLink RX5 15 "BarredSuits$Speech" "length" "I" ∈ wsU := in_t2 (i := 114) rfl rfl
theorem wf_X9_302 : Cond.fieldLink RX9 302 "BarredSuits$Speech" "length" "I" ∈ wsU := in_t2 (i := 115) rfl rfl
theorem wl_5_0 : u_lay RX5 TX5 0 ∈ wsU := in_t2 (i := 116) rfl rfl
theorem wl_5_1 : u_lay RX5 TX5 1 ∈ wsU := in_t2 (i := 118) rfl rfl
theorem wcl_X9_72 : Cond.classLink RX9 72 RX6 ∈ wsU := in_t2 (i := 121) rfl rfl
theorem wm_X9_74 : Cond.methodLink RX9 74 yX6_init ∈ wsU := in_t2 (i := 122) rfl rfl
theorem wf_X9_12 : Cond.fieldLink RX9 12 "BarredSuits" "tape" "LBarredSuits$Tape;" ∈ wsU := in_t2 (i := 123) rfl rfl
theorem wf_X9_21 : Cond.fieldLink RX9 21 "BarredSuits" "records" "LBarredSuits$Records;" ∈ wsU := in_t2 (i := 124) rfl rfl
theorem wf_X9_25 : Cond.fieldLink RX9 25 "BarredSuits" "told" "LBarredSuits$Records;" ∈ wsU := in_t2 (i := 125) rfl rfl
theorem wf_X9_28 : Cond.fieldLink RX9 28 "BarredSuits" "kept" "LBarredSuits$Records;" ∈ wsU := in_t2 (i := 126) rfl rfl
theorem wf_X9_36 : Cond.fieldLink RX9 36 "BarredSuits" "reader" "LBarredSuits$TextReader;" ∈ wsU := in_t2 (i := 127) rfl rfl
theorem wf_X9_45 : Cond.fieldLink RX9 45 "BarredSuits" "bench" "LBarredSuits$Bench;" ∈ wsU := in_t2 (i := 128) rfl rfl
theorem wf_X9_54 : Cond.fieldLink RX9 54 "BarredSuits" "asker" "LBarredSuits$Asker;" ∈ wsU := in_t2 (i := 129) rfl rfl
theorem wf_X9_61 : Cond.fieldLink RX9 61 "BarredSuits" "acts" "LBarredSuits$Acts;" ∈ wsU := in_t2 (i := 130) rfl rfl
theorem wf_X9_68 : Cond.fieldLink RX9 68 "BarredSuits" "speech" "LBarredSuits$Speech;" ∈ wsU := in_t2 (i := 131) rfl rfl
theorem wf_X9_77 : Cond.fieldLink RX9 77 "BarredSuits" "supposed" "LBarredSuits$Suit;" ∈ wsU := in_t2 (i := 132) rfl rfl
theorem wf_X9_81 : Cond.fieldLink RX9 81 "BarredSuits" "hasImage" "Z" ∈ wsU := in_t2 (i := 133) rfl rfl
theorem wl_9_0 : u_lay RX9 TX9 0 ∈ wsU := in_t2 (i := 134) rfl rfl
theorem wl_9_1 : u_lay RX9 TX9 1 ∈ wsU := in_t2 (i := 136) rfl rfl
theorem wl_9_2 : u_lay RX9 TX9 2 ∈ wsU := in_t2 (i := 138) rfl rfl
theorem wl_9_3 : u_lay RX9 TX9 3 ∈ wsU := in_t2 (i := 140) rfl rfl
theorem wl_9_4 : u_lay RX9 TX9 4 ∈ wsU := in_t2 (i := 142) rfl rfl
theorem wl_9_5 : u_lay RX9 TX9 5 ∈ wsU := in_t2 (i := 144) rfl rfl
theorem wl_9_6 : u_lay RX9 TX9 6 ∈ wsU := in_t2 (i := 146) rfl rfl
theorem wl_9_7 : u_lay RX9 TX9 7 ∈ wsU := in_t2 (i := 148) rfl rfl
theorem wl_9_8 : u_lay RX9 TX9 8 ∈ wsU := in_t2 (i := 150) rfl rfl
theorem wl_9_9 : u_lay RX9 TX9 9 ∈ wsU := in_t2 (i := 152) rfl rfl
theorem wl_9_10 : u_lay RX9 TX9 10 ∈ wsU := in_t2 (i := 154) rfl rfl
theorem wm_L_101 : Cond.methodLink RL 101 yX9_feed ∈ wsU := in_t2 (i := 157) rfl rfl
theorem wi_yX9_feed : Cond.instanceMethod yX9_feed ∈ wsU := in_t2 (i := 158) rfl rfl
theorem wsl_yX9_feed : Cond.selects RX9 yX9_feed yX9_feed ∈ wsU := in_t2 (i := 159) rfl rfl
theorem wm_X9_89 : Cond.methodLink RX9 89 yX7_take ∈ wsU := in_t2 (i := 161) rfl rfl
theorem wi_yX7_take : Cond.instanceMethod yX7_take ∈ wsU := in_t2 (i := 162) rfl rfl
theorem wsl_yX7_take : Cond.selects RX7 yX7_take yX7_take ∈ wsU := in_t2 (i := 163) rfl rfl
theorem wm_L_116 : Cond.methodLink RL 116 yX9_fault ∈ wsU := in_t2 (i := 165) rfl rfl
theorem wi_yX9_fault : Cond.instanceMethod yX9_fault ∈ wsU := in_t2 (i := 166) rfl rfl
theorem wsl_yX9_fault : Cond.selects RX9 yX9_fault yX9_fault ∈ wsU := in_t2 (i := 167) rfl rfl
theorem wm_L_159 : Cond.methodLink RL 159 yX9_said ∈ wsU := in_t2 (i := 169) rfl rfl
theorem wi_yX9_said : Cond.instanceMethod yX9_said ∈ wsU := in_t2 (i := 170) rfl rfl
theorem wsl_yX9_said : Cond.selects RX9 yX9_said yX9_said ∈ wsU := in_t2 (i := 171) rfl rfl
theorem wm_L_199 : Cond.methodLink RL 199 yX9_undo ∈ wsU := in_t2 (i := 173) rfl rfl
theorem wi_yX9_undo : Cond.instanceMethod yX9_undo ∈ wsU := in_t2 (i := 174) rfl rfl
theorem wsl_yX9_undo : Cond.selects RX9 yX9_undo yX9_undo ∈ wsU := in_t2 (i := 175) rfl rfl
theorem wm_X9_399 : Cond.methodLink RX9 399 yX0_takeBack ∈ wsU := in_t2 (i := 177) rfl rfl
theorem wi_yX0_takeBack : Cond.instanceMethod yX0_takeBack ∈ wsU := in_t2 (i := 178) rfl rfl
theorem wsl_yX0_takeBack : Cond.selects RX0 yX0_takeBack yX0_takeBack ∈ wsU := in_t2 (i := 179) rfl rfl
theorem wm_X0_25 : Cond.methodLink RX0 25 yX4_removeLink ∈ wsU := in_t2 (i := 181) rfl rfl
theorem wi_yX4_removeLink : Cond.instanceMethod yX4_removeLink ∈ wsU := in_t2 (i := 182) rfl rfl
theorem wsl_yX4_removeLink : Cond.selects RX4 yX4_removeLink yX4_removeLink ∈ wsU := in_t2 (i := 183) rfl rfl
theorem wm_X0_31 : Cond.methodLink RX0 31 yX4_insertLink ∈ wsU := in_t2 (i := 185) rfl rfl
theorem wi_yX4_insertLink : Cond.instanceMethod yX4_insertLink ∈ wsU := in_t2 (i := 186) rfl rfl
theorem wsl_yX4_insertLink : Cond.selects RX4 yX4_insertLink yX4_insertLink ∈ wsU := in_t2 (i := 187) rfl rfl
theorem wm_X0_45 : Cond.methodLink RX0 45 yX0_takeBackOf ∈ wsU := in_t2 (i := 189) rfl rfl
theorem wi_yX0_takeBackOf : Cond.instanceMethod yX0_takeBackOf ∈ wsU := in_t2 (i := 191) rfl rfl
theorem wm_X0_49 : Cond.methodLink RX0 49 yX6_decide ∈ wsU := in_t2 (i := 193) rfl rfl
theorem wi_yX6_decide : Cond.instanceMethod yX6_decide ∈ wsU := in_t2 (i := 194) rfl rfl
theorem wsl_yX6_decide : Cond.selects RX6 yX6_decide yX6_decide ∈ wsU := in_t2 (i := 195) rfl rfl
theorem wm_X9_368 : Cond.methodLink RX9 368 yX2_refresh ∈ wsU := in_t2 (i := 197) rfl rfl
theorem wi_yX2_refresh : Cond.instanceMethod yX2_refresh ∈ wsU := in_t2 (i := 198) rfl rfl
theorem wsl_yX2_refresh : Cond.selects RX2 yX2_refresh yX2_refresh ∈ wsU := in_t2 (i := 199) rfl rfl
theorem wm_X2_44 : Cond.methodLink RX2 44 yX6_settledIssues ∈ wsU := in_t2 (i := 201) rfl rfl
theorem wi_yX6_settledIssues : Cond.instanceMethod yX6_settledIssues ∈ wsU := in_t2 (i := 202) rfl rfl
theorem wsl_yX6_settledIssues : Cond.selects RX6 yX6_settledIssues yX6_settledIssues ∈ wsU := in_t2 (i := 203) rfl rfl
theorem wm_X6_72 : Cond.methodLink RX6 72 yX6_necessaryIssues ∈ wsU := in_t2 (i := 205) rfl rfl
theorem wi_yX6_necessaryIssues : Cond.instanceMethod yX6_necessaryIssues ∈ wsU := in_t2 (i := 206) rfl rfl
theorem wsl_yX6_necessaryIssues : Cond.selects RX6 yX6_necessaryIssues yX6_necessaryIssues ∈ wsU := in_t2 (i := 207) rfl rfl
theorem wm_X6_62 : Cond.methodLink RX6 62 yX6_winner ∈ wsU := in_t2 (i := 209) rfl rfl
theorem wi_yX6_winner : Cond.instanceMethod yX6_winner ∈ wsU := in_t2 (i := 210) rfl rfl
theorem wsl_yX6_winner : Cond.selects RX6 yX6_winner yX6_winner ∈ wsU := in_t2 (i := 211) rfl rfl
theorem wm_X6_58 : Cond.methodLink RX6 58 yX6_isJudged ∈ wsU := in_t2 (i := 213) rfl rfl
theorem wi_yX6_isJudged : Cond.instanceMethod yX6_isJudged ∈ wsU := in_t2 (i := 214) rfl rfl
theorem wsl_yX6_isJudged : Cond.selects RX6 yX6_isJudged yX6_isJudged ∈ wsU := in_t2 (i := 215) rfl rfl
theorem wm_X6_66 : Cond.methodLink RX6 66 yJ6_bitCount_0f7a4 ∈ wsU := in_t2 (i := 217) rfl rfl
theorem wt_yJ6_bitCount_0f7a4 : Cond.static yJ6_bitCount_0f7a4 ∈ wsU := in_t2 (i := 218) rfl rfl
theorem wk_J6_265 : Cond.constant RJ6 265 (1431655765) ∈ wsU := in_t2 (i := 220) rfl rfl
theorem wk_J6_266 : Cond.constant RJ6 266 (858993459) ∈ wsU := in_t2 (i := 221) rfl rfl
theorem wk_J6_267 : Cond.constant RJ6 267 (252645135) ∈ wsU := in_t2 (i := 222) rfl rfl
theorem wm_X2_65 : Cond.methodLink RX2 65 yX2_reachOf ∈ wsU := in_t2 (i := 223) rfl rfl
theorem wi_yX2_reachOf : Cond.instanceMethod yX2_reachOf ∈ wsU := in_t2 (i := 225) rfl rfl
theorem wm_X2_78 : Cond.methodLink RX2 78 yX6_isJudged ∈ wsU := in_t2 (i := 227) rfl rfl
theorem wm_X2_97 : Cond.methodLink RX2 97 yX3_carries ∈ wsU := in_t2 (i := 228) rfl rfl
theorem wi_yX3_carries : Cond.instanceMethod yX3_carries ∈ wsU := in_t2 (i := 229) rfl rfl
theorem wsl_yX3_carries : Cond.selects RX3 yX3_carries yX3_carries ∈ wsU := in_t2 (i := 230) rfl rfl
theorem wm_X3_24 : Cond.methodLink RX3 24 yX3_isRuler ∈ wsU := in_t2 (i := 232) rfl rfl
theorem wi_yX3_isRuler : Cond.instanceMethod yX3_isRuler ∈ wsU := in_t2 (i := 233) rfl rfl
theorem wsl_yX3_isRuler : Cond.selects RX3 yX3_isRuler yX3_isRuler ∈ wsU := in_t2 (i := 234) rfl rfl
theorem wm_L_206 : Cond.methodLink RL 206 yX9_image ∈ wsU := in_t2 (i := 236) rfl rfl
theorem wi_yX9_image : Cond.instanceMethod yX9_image ∈ wsU := in_t2 (i := 237) rfl rfl
theorem wsl_yX9_image : Cond.selects RX9 yX9_image yX9_image ∈ wsU := in_t2 (i := 238) rfl rfl
theorem wm_X9_414 : Cond.methodLink RX9 414 yX4_become ∈ wsU := in_t3 (i := 0) rfl rfl
theorem wi_yX4_become : Cond.instanceMethod yX4_become ∈ wsU := in_t3 (i := 1) rfl rfl
theorem wsl_yX4_become : Cond.selects RX4 yX4_become yX4_become ∈ wsU := in_t3 (i := 2) rfl rfl
theorem wm_X4_47 : Cond.methodLink RX4 47 arraycopyName ∈ wsU := in_t3 (i := 4) rfl rfl
theorem wt_arraycopyName : Cond.static arraycopyName ∈ wsU := in_t3 (i := 5) rfl rfl
theorem wn_arraycopyName : Cond.native arraycopyName ∈ wsU := in_t3 (i := 6) rfl rfl
theorem wm_X4_53 : Cond.methodLink RX4 53 yX3_become ∈ wsU := in_t3 (i := 7) rfl rfl
theorem wi_yX3_become : Cond.instanceMethod yX3_become ∈ wsU := in_t3 (i := 8) rfl rfl
theorem wsl_yX3_become : Cond.selects RX3 yX3_become yX3_become ∈ wsU := in_t3 (i := 9) rfl rfl
theorem wm_X4_57 : Cond.methodLink RX4 57 yX6_become ∈ wsU := in_t3 (i := 11) rfl rfl
theorem wi_yX6_become : Cond.instanceMethod yX6_become ∈ wsU := in_t3 (i := 12) rfl rfl
theorem wsl_yX6_become : Cond.selects RX6 yX6_become yX6_become ∈ wsU := in_t3 (i := 13) rfl rfl
theorem wm_L_210 : Cond.methodLink RL 210 yX9_back ∈ wsU := in_t3 (i := 15) rfl rfl
theorem wi_yX9_back : Cond.instanceMethod yX9_back ∈ wsU := in_t3 (i := 16) rfl rfl
theorem wsl_yX9_back : Cond.selects RX9 yX9_back yX9_back ∈ wsU := in_t3 (i := 17) rfl rfl
theorem wm_X9_105 : Cond.methodLink RX9 105 yX9_startAnewFrom ∈ wsU := in_t3 (i := 19) rfl rfl
theorem wi_yX9_startAnewFrom : Cond.instanceMethod yX9_startAnewFrom ∈ wsU := in_t3 (i := 21) rfl rfl
theorem wm_L_106 : Cond.methodLink RL 106 yL_desk ∈ wsU := in_t3 (i := 23) rfl rfl
theorem wt_yL_desk : Cond.static yL_desk ∈ wsU := in_t3 (i := 24) rfl rfl
theorem wcl_L_13 : Cond.classLink RL 13 "java/lang/IllegalArgumentException" ∈ wsU := in_t3 (i := 26) rfl rfl
theorem wm_L_7 : Cond.methodLink RL 7 yX9_desk ∈ wsU := in_t3 (i := 27) rfl rfl
theorem wi_yX9_desk : Cond.instanceMethod yX9_desk ∈ wsU := in_t3 (i := 28) rfl rfl
theorem wsl_yX9_desk : Cond.selects RX9 yX9_desk yX9_desk ∈ wsU := in_t3 (i := 29) rfl rfl
theorem wcl_X9_92 : Cond.classLink RX9 92 "java/lang/IllegalArgumentException" ∈ wsU := in_t3 (i := 31) rfl rfl
theorem wm_X9_99 : Cond.methodLink RX9 99 yX8_read ∈ wsU := in_t3 (i := 97) rfl rfl
theorem wi_yX8_read : Cond.instanceMethod yX8_read ∈ wsU := in_t3 (i := 98) rfl rfl
theorem wsl_yX8_read : Cond.selects RX8 yX8_read yX8_read ∈ wsU := in_t3 (i := 99) rfl rfl
theorem wm_X8_19 : Cond.methodLink RX8 19 yX4_clear ∈ wsU := in_t3 (i := 101) rfl rfl
theorem wm_X8_24 : Cond.methodLink RX8 24 yX7_open ∈ wsU := in_t3 (i := 102) rfl rfl
theorem wi_yX7_open : Cond.instanceMethod yX7_open ∈ wsU := in_t3 (i := 103) rfl rfl
theorem wsl_yX7_open : Cond.selects RX7 yX7_open yX7_open ∈ wsU := in_t3 (i := 104) rfl rfl
theorem wm_X7_22 : Cond.methodLink RX7 22 yJ9_min_7cf53 ∈ wsU := in_t3 (i := 106) rfl rfl
theorem wt_yJ9_min_7cf53 : Cond.static yJ9_min_7cf53 ∈ wsU := in_t3 (i := 107) rfl rfl
theorem wm_X7_37 : Cond.methodLink RX7 37 yX7_advance ∈ wsU := in_t3 (i := 109) rfl rfl
theorem wi_yX7_advance : Cond.instanceMethod yX7_advance ∈ wsU := in_t3 (i := 110) rfl rfl
theorem wsl_yX7_advance : Cond.selects RX7 yX7_advance yX7_advance ∈ wsU := in_t3 (i := 111) rfl rfl
theorem wm_X7_43 : Cond.methodLink RX7 43 yX7_kindOf ∈ wsU := in_t3 (i := 113) rfl rfl
theorem wt_yX7_kindOf : Cond.static yX7_kindOf ∈ wsU := in_t3 (i := 114) rfl rfl
theorem wm_X7_50 : Cond.methodLink RX7 50 yX7_passRow ∈ wsU := in_t3 (i := 116) rfl rfl
theorem wi_yX7_passRow : Cond.instanceMethod yX7_passRow ∈ wsU := in_t3 (i := 118) rfl rfl
theorem wm_X8_37 : Cond.methodLink RX8 37 yX8_readLine ∈ wsU := in_t3 (i := 120) rfl rfl
theorem wi_yX8_readLine : Cond.instanceMethod yX8_readLine ∈ wsU := in_t3 (i := 122) rfl rfl
theorem wm_X8_46 : Cond.methodLink RX8 46 yX7_isWord ∈ wsU := in_t3 (i := 125) rfl rfl
theorem wi_yX7_isWord : Cond.instanceMethod yX7_isWord ∈ wsU := in_t3 (i := 126) rfl rfl
theorem wsl_yX7_isWord : Cond.selects RX7 yX7_isWord yX7_isWord ∈ wsU := in_t3 (i := 127) rfl rfl
theorem wm_X7_56 : Cond.methodLink RX7 56 yJ0_length_8abf5 ∈ wsU := in_t3 (i := 129) rfl rfl
theorem wi_yJ0_length_8abf5 : Cond.instanceMethod yJ0_length_8abf5 ∈ wsU := in_t3 (i := 130) rfl rfl
theorem wsl_yJ0_length_8abf5 : Cond.selects RJ0 yJ0_length_8abf5 yJ0_length_8abf5 ∈ wsU := in_t3 (i := 131) rfl rfl
theorem wm_J0_335 : Cond.methodLink RJ0 335 yJ0_coder_7d493 ∈ wsU := in_t3 (i := 133) rfl rfl
theorem wi_yJ0_coder_7d493 : Cond.instanceMethod yJ0_coder_7d493 ∈ wsU := in_t3 (i := 134) rfl rfl
theorem wsl_yJ0_coder_7d493 : Cond.selects RJ0 yJ0_coder_7d493 yJ0_coder_7d493 ∈ wsU := in_t3 (i := 135) rfl rfl
theorem wf_J0_38 : Cond.fieldLink RJ0 38 "java/lang/String" "COMPACT_STRINGS" "Z" ∈ wsU := in_t3 (i := 137) rfl rfl
theorem wm_X7_61 : Cond.methodLink RX7 61 yJ0_charAt_5068e ∈ wsU := in_t3 (i := 139) rfl rfl
theorem wi_yJ0_charAt_5068e : Cond.instanceMethod yJ0_charAt_5068e ∈ wsU := in_t3 (i := 140) rfl rfl
theorem wsl_yJ0_charAt_5068e : Cond.selects RJ0 yJ0_charAt_5068e yJ0_charAt_5068e ∈ wsU := in_t3 (i := 141) rfl rfl
theorem wm_J0_492 : Cond.methodLink RJ0 492 yJ0_isLatin1_aae02 ∈ wsU := in_t3 (i := 143) rfl rfl
theorem wi_yJ0_isLatin1_aae02 : Cond.instanceMethod yJ0_isLatin1_aae02 ∈ wsU := in_t3 (i := 144) rfl rfl
theorem wsl_yJ0_isLatin1_aae02 : Cond.selects RJ0 yJ0_isLatin1_aae02 yJ0_isLatin1_aae02 ∈ wsU := in_t3 (i := 145) rfl rfl
theorem wm_J0_495 : Cond.methodLink RJ0 495 yJ1_charAt_3b067 ∈ wsU := in_t3 (i := 147) rfl rfl
theorem wt_yJ1_charAt_3b067 : Cond.static yJ1_charAt_3b067 ∈ wsU := in_t3 (i := 148) rfl rfl
theorem wm_J1_9 : Cond.methodLink RJ1 9 yJ0_checkIndex_df160 ∈ wsU := in_t3 (i := 150) rfl rfl
theorem wt_yJ0_checkIndex_df160 : Cond.static yJ0_checkIndex_df160 ∈ wsU := in_t3 (i := 151) rfl rfl
theorem wf_J0_1053 : Cond.fieldLink RJ0 1053 "jdk/internal/util/Preconditions" "SIOOBE_FORMATTER" "Ljava/util/function/BiFunction;" ∈ wsU := in_t3 (i := 153) rfl rfl
theorem wm_J0_1059 : Cond.methodLink RJ0 1059 yJ3_checkIndex_8e157 ∈ wsU := in_t3 (i := 155) rfl rfl
theorem wt_yJ3_checkIndex_8e157 : Cond.static yJ3_checkIndex_8e157 ∈ wsU := in_t3 (i := 156) rfl rfl
theorem wm_J0_498 : Cond.methodLink RJ0 498 yJ2_charAt_3b067 ∈ wsU := in_t3 (i := 158) rfl rfl
theorem wt_yJ2_charAt_3b067 : Cond.static yJ2_charAt_3b067 ∈ wsU := in_t3 (i := 159) rfl rfl
theorem wm_J2_67 : Cond.methodLink RJ2 67 yJ2_checkIndex_2214a ∈ wsU := in_t3 (i := 161) rfl rfl
theorem wt_yJ2_checkIndex_2214a : Cond.static yJ2_checkIndex_2214a ∈ wsU := in_t3 (i := 162) rfl rfl
theorem wm_J2_48 : Cond.methodLink RJ2 48 yJ2_length_9d52b ∈ wsU := in_t3 (i := 164) rfl rfl
theorem wt_yJ2_length_9d52b : Cond.static yJ2_length_9d52b ∈ wsU := in_t3 (i := 165) rfl rfl
theorem wm_J2_414 : Cond.methodLink RJ2 414 yJ0_checkIndex_df160 ∈ wsU := in_t3 (i := 167) rfl rfl
theorem wm_J2_71 : Cond.methodLink RJ2 71 yJ2_getChar_3b067 ∈ wsU := in_t3 (i := 168) rfl rfl
theorem wt_yJ2_getChar_3b067 : Cond.static yJ2_getChar_3b067 ∈ wsU := in_t3 (i := 169) rfl rfl
theorem wf_J2_44 : Cond.fieldLink RJ2 44 "java/lang/StringUTF16" "$assertionsDisabled" "Z" ∈ wsU := in_t3 (i := 171) rfl rfl
theorem wf_J2_59 : Cond.fieldLink RJ2 59 "java/lang/StringUTF16" "HI_BYTE_SHIFT" "I" ∈ wsU := in_t3 (i := 173) rfl rfl
theorem wf_J2_63 : Cond.fieldLink RJ2 63 "java/lang/StringUTF16" "LO_BYTE_SHIFT" "I" ∈ wsU := in_t3 (i := 175) rfl rfl
theorem wm_X8_50 : Cond.methodLink RX8 50 yX8_readPerson ∈ wsU := in_t3 (i := 177) rfl rfl
theorem wi_yX8_readPerson : Cond.instanceMethod yX8_readPerson ∈ wsU := in_t3 (i := 179) rfl rfl
theorem wm_X8_85 : Cond.methodLink RX8 85 yX7_fail ∈ wsU := in_t3 (i := 181) rfl rfl
theorem wi_yX7_fail : Cond.instanceMethod yX7_fail ∈ wsU := in_t3 (i := 182) rfl rfl
theorem wsl_yX7_fail : Cond.selects RX7 yX7_fail yX7_fail ∈ wsU := in_t3 (i := 183) rfl rfl
theorem wm_X8_91 : Cond.methodLink RX8 91 yX7_advance ∈ wsU := in_t3 (i := 185) rfl rfl
theorem wm_X8_94 : Cond.methodLink RX8 94 yX7_isName ∈ wsU := in_t3 (i := 186) rfl rfl
theorem wi_yX7_isName : Cond.instanceMethod yX7_isName ∈ wsU := in_t3 (i := 187) rfl rfl
theorem wsl_yX7_isName : Cond.selects RX7 yX7_isName yX7_isName ∈ wsU := in_t3 (i := 188) rfl rfl
theorem wm_X7_67 : Cond.methodLink RX7 67 yX7_isWord ∈ wsU := in_t3 (i := 191) rfl rfl
theorem wm_X8_98 : Cond.methodLink RX8 98 yX8_personNamed ∈ wsU := in_t3 (i := 192) rfl rfl
theorem wi_yX8_personNamed : Cond.instanceMethod yX8_personNamed ∈ wsU := in_t3 (i := 194) rfl rfl
theorem wm_X8_106 : Cond.methodLink RX8 106 yX7_letterOf ∈ wsU := in_t3 (i := 196) rfl rfl
theorem wi_yX7_letterOf : Cond.instanceMethod yX7_letterOf ∈ wsU := in_t3 (i := 197) rfl rfl
theorem wsl_yX7_letterOf : Cond.selects RX7 yX7_letterOf yX7_letterOf ∈ wsU := in_t3 (i := 198) rfl rfl
theorem wm_X8_55 : Cond.methodLink RX8 55 yX8_readLink ∈ wsU := in_t3 (i := 201) rfl rfl
theorem wi_yX8_readLink : Cond.instanceMethod yX8_readLink ∈ wsU := in_t3 (i := 203) rfl rfl
theorem wm_X8_113 : Cond.methodLink RX8 113 yX8_passName ∈ wsU := in_t3 (i := 205) rfl rfl
theorem wi_yX8_passName : Cond.instanceMethod yX8_passName ∈ wsU := in_t3 (i := 207) rfl rfl
theorem wm_X8_116 : Cond.methodLink RX8 116 yX8_passNumber ∈ wsU := in_t3 (i := 209) rfl rfl
theorem wi_yX8_passNumber : Cond.instanceMethod yX8_passNumber ∈ wsU := in_t3 (i := 211) rfl rfl
theorem wm_X8_120 : Cond.methodLink RX8 120 yX4_insertLink ∈ wsU := in_t3 (i := 213) rfl rfl
theorem wm_X8_63 : Cond.methodLink RX8 63 yX8_readSuit ∈ wsU := in_t3 (i := 216) rfl rfl
theorem wi_yX8_readSuit : Cond.instanceMethod yX8_readSuit ∈ wsU := in_t3 (i := 218) rfl rfl
theorem wm_X8_131 : Cond.methodLink RX8 131 yX6_decide ∈ wsU := in_t3 (i := 220) rfl rfl
theorem wk_X8_148 : Cond.constant RX8 148 (2147483647) ∈ wsU := in_t3 (i := 222) rfl rfl
theorem wm_X8_149 : Cond.methodLink RX8 149 yX8_passSet ∈ wsU := in_t3 (i := 223) rfl rfl
theorem wi_yX8_passSet : Cond.instanceMethod yX8_passSet ∈ wsU := in_t3 (i := 225) rfl rfl
theorem wm_X8_68 : Cond.methodLink RX8 68 yX8_readJudged ∈ wsU := in_t3 (i := 230) rfl rfl
theorem wi_yX8_readJudged : Cond.instanceMethod yX8_readJudged ∈ wsU := in_t3 (i := 232) rfl rfl
theorem wm_X8_163 : Cond.methodLink RX8 163 yX8_passSuit ∈ wsU := in_t3 (i := 234) rfl rfl
theorem wi_yX8_passSuit : Cond.instanceMethod yX8_passSuit ∈ wsU := in_t3 (i := 236) rfl rfl
theorem wm_X8_201 : Cond.methodLink RX8 201 yX6_counts ∈ wsU := in_t3 (i := 238) rfl rfl
theorem wi_yX6_counts : Cond.instanceMethod yX6_counts ∈ wsU := in_t3 (i := 239) rfl rfl
theorem wsl_yX6_counts : Cond.selects RX6 yX6_counts yX6_counts ∈ wsU := in_t4 (i := 0) rfl rfl
theorem wm_X8_204 : Cond.methodLink RX8 204 yX6_isJudged ∈ wsU := in_t4 (i := 2) rfl rfl
theorem wm_X8_173 : Cond.methodLink RX8 173 yX6_allIssues ∈ wsU := in_t4 (i := 6) rfl rfl
theorem wi_yX6_allIssues : Cond.instanceMethod yX6_allIssues ∈ wsU := in_t4 (i := 7) rfl rfl
theorem wsl_yX6_allIssues : Cond.selects RX6 yX6_allIssues yX6_allIssues ∈ wsU := in_t4 (i := 8) rfl rfl
theorem wm_X8_73 : Cond.methodLink RX8 73 yX8_readReversed ∈ wsU := in_t4 (i := 13) rfl rfl
theorem wi_yX8_readReversed : Cond.instanceMethod yX8_readReversed ∈ wsU := in_t4 (i := 15) rfl rfl
theorem wm_X8_78 : Cond.methodLink RX8 78 yX8_readRule ∈ wsU := in_t4 (i := 18) rfl rfl
theorem wi_yX8_readRule : Cond.instanceMethod yX8_readRule ∈ wsU := in_t4 (i := 20) rfl rfl
theorem wm_X8_189 : Cond.methodLink RX8 189 yX4_leastOfRule ∈ wsU := in_t4 (i := 22) rfl rfl
theorem wt_yX4_leastOfRule : Cond.static yX4_leastOfRule ∈ wsU := in_t4 (i := 23) rfl rfl
theorem wm_X8_192 : Cond.methodLink RX8 192 yX4_mostOfRule ∈ wsU := in_t4 (i := 25) rfl rfl
theorem wt_yX4_mostOfRule : Cond.static yX4_mostOfRule ∈ wsU := in_t4 (i := 26) rfl rfl
theorem wm_X8_40 : Cond.methodLink RX8 40 yX7_passSign ∈ wsU := in_t4 (i := 30) rfl rfl
theorem wi_yX7_passSign : Cond.instanceMethod yX7_passSign ∈ wsU := in_t4 (i := 31) rfl rfl
theorem wsl_yX7_passSign : Cond.selects RX7 yX7_passSign yX7_passSign ∈ wsU := in_t4 (i := 32) rfl rfl
theorem wm_X7_71 : Cond.methodLink RX7 71 yX7_isSign ∈ wsU := in_t4 (i := 34) rfl rfl
theorem wi_yX7_isSign : Cond.instanceMethod yX7_isSign ∈ wsU := in_t4 (i := 35) rfl rfl
theorem wsl_yX7_isSign : Cond.selects RX7 yX7_isSign yX7_isSign ∈ wsU := in_t4 (i := 36) rfl rfl
theorem wm_X7_75 : Cond.methodLink RX7 75 yX7_fail ∈ wsU := in_t4 (i := 38) rfl rfl
theorem wm_L_120 : Cond.methodLink RL 120 yL_count ∈ wsU := in_t4 (i := 39) rfl rfl
theorem wt_yL_count : Cond.static yL_count ∈ wsU := in_t4 (i := 40) rfl rfl
theorem wcl_L_18 : Cond.classLink RL 18 "java/util/NoSuchElementException" ∈ wsU := in_t4 (i := 42) rfl rfl
theorem wm_L_15 : Cond.methodLink RL 15 yX9_count ∈ wsU := in_t4 (i := 43) rfl rfl
theorem wi_yX9_count : Cond.instanceMethod yX9_count ∈ wsU := in_t4 (i := 44) rfl rfl
theorem wsl_yX9_count : Cond.selects RX9 yX9_count yX9_count ∈ wsU := in_t4 (i := 45) rfl rfl
theorem wm_X9_120 : Cond.methodLink RX9 120 yX4_judgedCount ∈ wsU := in_t4 (i := 47) rfl rfl
theorem wi_yX4_judgedCount : Cond.instanceMethod yX4_judgedCount ∈ wsU := in_t4 (i := 48) rfl rfl
theorem wsl_yX4_judgedCount : Cond.selects RX4 yX4_judgedCount yX4_judgedCount ∈ wsU := in_t4 (i := 49) rfl rfl
theorem wm_X4_60 : Cond.methodLink RX4 60 yX6_isJudged ∈ wsU := in_t4 (i := 51) rfl rfl
theorem wm_X9_124 : Cond.methodLink RX9 124 yX4_reversedCount ∈ wsU := in_t4 (i := 52) rfl rfl
theorem wi_yX4_reversedCount : Cond.instanceMethod yX4_reversedCount ∈ wsU := in_t4 (i := 53) rfl rfl
theorem wsl_yX4_reversedCount : Cond.selects RX4 yX4_reversedCount yX4_reversedCount ∈ wsU := in_t4 (i := 54) rfl rfl
theorem wm_X9_134 : Cond.methodLink RX9 134 yX2_clashCount ∈ wsU := in_t4 (i := 56) rfl rfl
theorem wi_yX2_clashCount : Cond.instanceMethod yX2_clashCount ∈ wsU := in_t4 (i := 57) rfl rfl
theorem wsl_yX2_clashCount : Cond.selects RX2 yX2_clashCount yX2_clashCount ∈ wsU := in_t4 (i := 58) rfl rfl
theorem wm_X2_217 : Cond.methodLink RX2 217 yX2_clashingIssues ∈ wsU := in_t4 (i := 60) rfl rfl
theorem wi_yX2_clashingIssues : Cond.instanceMethod yX2_clashingIssues ∈ wsU := in_t4 (i := 61) rfl rfl
theorem wsl_yX2_clashingIssues : Cond.selects RX2 yX2_clashingIssues yX2_clashingIssues ∈ wsU := in_t4 (i := 62) rfl rfl
theorem wm_X2_213 : Cond.methodLink RX2 213 yX6_boundAtAll ∈ wsU := in_t4 (i := 64) rfl rfl
theorem wi_yX6_boundAtAll : Cond.instanceMethod yX6_boundAtAll ∈ wsU := in_t4 (i := 65) rfl rfl
theorem wsl_yX6_boundAtAll : Cond.selects RX6 yX6_boundAtAll yX6_boundAtAll ∈ wsU := in_t4 (i := 66) rfl rfl
theorem wcl_X9_137 : Cond.classLink RX9 137 "java/util/NoSuchElementException" ∈ wsU := in_t4 (i := 68) rfl rfl
theorem wm_L_123 : Cond.methodLink RL 123 yL_letter ∈ wsU := in_t4 (i := 84) rfl rfl
theorem wt_yL_letter : Cond.static yL_letter ∈ wsU := in_t4 (i := 85) rfl rfl
theorem wm_L_20 : Cond.methodLink RL 20 yX9_letter ∈ wsU := in_t4 (i := 87) rfl rfl
theorem wi_yX9_letter : Cond.instanceMethod yX9_letter ∈ wsU := in_t4 (i := 88) rfl rfl
theorem wsl_yX9_letter : Cond.selects RX9 yX9_letter yX9_letter ∈ wsU := in_t4 (i := 89) rfl rfl
theorem wm_X9_142 : Cond.methodLink RX9 142 yX9_needPerson ∈ wsU := in_t4 (i := 91) rfl rfl
theorem wi_yX9_needPerson : Cond.instanceMethod yX9_needPerson ∈ wsU := in_t4 (i := 93) rfl rfl
theorem wm_L_127 : Cond.methodLink RL 127 yL_link ∈ wsU := in_t4 (i := 97) rfl rfl
theorem wt_yL_link : Cond.static yL_link ∈ wsU := in_t4 (i := 98) rfl rfl
theorem wm_L_24 : Cond.methodLink RL 24 yX9_link ∈ wsU := in_t4 (i := 100) rfl rfl
theorem wi_yX9_link : Cond.instanceMethod yX9_link ∈ wsU := in_t4 (i := 101) rfl rfl
theorem wsl_yX9_link : Cond.selects RX9 yX9_link yX9_link ∈ wsU := in_t4 (i := 102) rfl rfl
theorem wm_X9_150 : Cond.methodLink RX9 150 yX9_needLink ∈ wsU := in_t4 (i := 104) rfl rfl
theorem wi_yX9_needLink : Cond.instanceMethod yX9_needLink ∈ wsU := in_t4 (i := 106) rfl rfl
theorem wm_X9_165 : Cond.methodLink RX9 165 yX3_isRuler ∈ wsU := in_t4 (i := 109) rfl rfl
theorem wm_L_130 : Cond.methodLink RL 130 yL_suit ∈ wsU := in_t4 (i := 111) rfl rfl
theorem wt_yL_suit : Cond.static yL_suit ∈ wsU := in_t4 (i := 112) rfl rfl
theorem wm_L_27 : Cond.methodLink RL 27 yX9_suit ∈ wsU := in_t4 (i := 114) rfl rfl
theorem wi_yX9_suit : Cond.instanceMethod yX9_suit ∈ wsU := in_t4 (i := 115) rfl rfl
theorem wsl_yX9_suit : Cond.selects RX9 yX9_suit yX9_suit ∈ wsU := in_t4 (i := 116) rfl rfl
theorem wm_X9_177 : Cond.methodLink RX9 177 yX9_suitAt ∈ wsU := in_t4 (i := 118) rfl rfl
theorem wi_yX9_suitAt : Cond.instanceMethod yX9_suitAt ∈ wsU := in_t4 (i := 120) rfl rfl
theorem wm_X9_217 : Cond.methodLink RX9 217 yX6_winner ∈ wsU := in_t4 (i := 123) rfl rfl
theorem wm_X9_220 : Cond.methodLink RX9 220 yX6_necessaryIssues ∈ wsU := in_t4 (i := 124) rfl rfl
theorem wm_L_133 : Cond.methodLink RL 133 yL_isBound ∈ wsU := in_t4 (i := 126) rfl rfl
theorem wt_yL_isBound : Cond.static yL_isBound ∈ wsU := in_t4 (i := 127) rfl rfl
theorem wm_L_30 : Cond.methodLink RL 30 yX9_isBound ∈ wsU := in_t4 (i := 129) rfl rfl
theorem wi_yX9_isBound : Cond.instanceMethod yX9_isBound ∈ wsU := in_t4 (i := 130) rfl rfl
theorem wsl_yX9_isBound : Cond.selects RX9 yX9_isBound yX9_isBound ∈ wsU := in_t4 (i := 131) rfl rfl
theorem wm_X9_232 : Cond.methodLink RX9 232 yX9_needSide ∈ wsU := in_t4 (i := 133) rfl rfl
theorem wi_yX9_needSide : Cond.instanceMethod yX9_needSide ∈ wsU := in_t4 (i := 135) rfl rfl
theorem wm_X9_235 : Cond.methodLink RX9 235 yX6_boundOn ∈ wsU := in_t4 (i := 138) rfl rfl
theorem wi_yX6_boundOn : Cond.instanceMethod yX6_boundOn ∈ wsU := in_t4 (i := 139) rfl rfl
theorem wsl_yX6_boundOn : Cond.selects RX6 yX6_boundOn yX6_boundOn ∈ wsU := in_t4 (i := 140) rfl rfl
theorem wm_L_137 : Cond.methodLink RL 137 yL_chain ∈ wsU := in_t4 (i := 142) rfl rfl
theorem wt_yL_chain : Cond.static yL_chain ∈ wsU := in_t4 (i := 143) rfl rfl
theorem wm_L_34 : Cond.methodLink RL 34 yX9_chain ∈ wsU := in_t4 (i := 145) rfl rfl
theorem wi_yX9_chain : Cond.instanceMethod yX9_chain ∈ wsU := in_t4 (i := 146) rfl rfl
theorem wsl_yX9_chain : Cond.selects RX9 yX9_chain yX9_chain ∈ wsU := in_t4 (i := 147) rfl rfl
theorem wm_X9_238 : Cond.methodLink RX9 238 yX2_traceChain ∈ wsU := in_t4 (i := 149) rfl rfl
theorem wi_yX2_traceChain : Cond.instanceMethod yX2_traceChain ∈ wsU := in_t4 (i := 150) rfl rfl
theorem wsl_yX2_traceChain : Cond.selects RX2 yX2_traceChain yX2_traceChain ∈ wsU := in_t4 (i := 151) rfl rfl
theorem wm_X2_104 : Cond.methodLink RX2 104 yJ7_fill_53178 ∈ wsU := in_t4 (i := 153) rfl rfl
theorem wt_yJ7_fill_53178 : Cond.static yJ7_fill_53178 ∈ wsU := in_t4 (i := 154) rfl rfl
theorem wm_X2_110 : Cond.methodLink RX2 110 yX6_party ∈ wsU := in_t4 (i := 156) rfl rfl
theorem wi_yX6_party : Cond.instanceMethod yX6_party ∈ wsU := in_t4 (i := 157) rfl rfl
theorem wsl_yX6_party : Cond.selects RX6 yX6_party yX6_party ∈ wsU := in_t4 (i := 158) rfl rfl
theorem wm_X2_113 : Cond.methodLink RX2 113 yX2_isPerson ∈ wsU := in_t4 (i := 160) rfl rfl
theorem wt_yX2_isPerson : Cond.static yX2_isPerson ∈ wsU := in_t4 (i := 161) rfl rfl
theorem wm_X2_116 : Cond.methodLink RX2 116 yX2_goBack ∈ wsU := in_t4 (i := 163) rfl rfl
theorem wi_yX2_goBack : Cond.instanceMethod yX2_goBack ∈ wsU := in_t4 (i := 165) rfl rfl
theorem wm_X2_119 : Cond.methodLink RX2 119 yX2_linkTo ∈ wsU := in_t4 (i := 167) rfl rfl
theorem wi_yX2_linkTo : Cond.instanceMethod yX2_linkTo ∈ wsU := in_t4 (i := 169) rfl rfl
theorem wm_X9_244 : Cond.methodLink RX9 244 yX2_chainLink ∈ wsU := in_t4 (i := 172) rfl rfl
theorem wi_yX2_chainLink : Cond.instanceMethod yX2_chainLink ∈ wsU := in_t4 (i := 173) rfl rfl
theorem wsl_yX2_chainLink : Cond.selects RX2 yX2_chainLink yX2_chainLink ∈ wsU := in_t4 (i := 174) rfl rfl
theorem wm_L_141 : Cond.methodLink RL 141 yL_two ∈ wsU := in_t4 (i := 176) rfl rfl
theorem wt_yL_two : Cond.static yL_two ∈ wsU := in_t4 (i := 177) rfl rfl
theorem wm_L_38 : Cond.methodLink RL 38 yX9_two ∈ wsU := in_t4 (i := 179) rfl rfl
theorem wi_yX9_two : Cond.instanceMethod yX9_two ∈ wsU := in_t4 (i := 180) rfl rfl
theorem wsl_yX9_two : Cond.selects RX9 yX9_two yX9_two ∈ wsU := in_t4 (i := 181) rfl rfl
theorem wm_X9_248 : Cond.methodLink RX9 248 yX2_areSame ∈ wsU := in_t4 (i := 183) rfl rfl
theorem wi_yX2_areSame : Cond.instanceMethod yX2_areSame ∈ wsU := in_t4 (i := 184) rfl rfl
theorem wsl_yX2_areSame : Cond.selects RX2 yX2_areSame yX2_areSame ∈ wsU := in_t4 (i := 185) rfl rfl
theorem wm_X2_134 : Cond.methodLink RX2 134 yJ6_bitCount_0f7a4 ∈ wsU := in_t4 (i := 187) rfl rfl
theorem wm_X2_139 : Cond.methodLink RX2 139 yJ9_min_7cf53 ∈ wsU := in_t4 (i := 188) rfl rfl
theorem wm_X9_252 : Cond.methodLink RX9 252 yX2_barringSuits ∈ wsU := in_t4 (i := 189) rfl rfl
theorem wi_yX2_barringSuits : Cond.instanceMethod yX2_barringSuits ∈ wsU := in_t4 (i := 190) rfl rfl
theorem wsl_yX2_barringSuits : Cond.selects RX2 yX2_barringSuits yX2_barringSuits ∈ wsU := in_t4 (i := 191) rfl rfl
theorem wm_X2_153 : Cond.methodLink RX2 153 yX2_comesBehind ∈ wsU := in_t4 (i := 193) rfl rfl
theorem wi_yX2_comesBehind : Cond.instanceMethod yX2_comesBehind ∈ wsU := in_t4 (i := 194) rfl rfl
theorem wsl_yX2_comesBehind : Cond.selects RX2 yX2_comesBehind yX2_comesBehind ∈ wsU := in_t4 (i := 195) rfl rfl
theorem wm_X2_125 : Cond.methodLink RX2 125 yX6_counts ∈ wsU := in_t4 (i := 197) rfl rfl
theorem wm_X2_156 : Cond.methodLink RX2 156 yX2_barsWhatComes ∈ wsU := in_t4 (i := 198) rfl rfl
theorem wi_yX2_barsWhatComes : Cond.instanceMethod yX2_barsWhatComes ∈ wsU := in_t4 (i := 200) rfl rfl
theorem wm_X2_149 : Cond.methodLink RX2 149 yX2_areSame ∈ wsU := in_t4 (i := 202) rfl rfl
theorem wm_X9_256 : Cond.methodLink RX9 256 yX2_comesBehind ∈ wsU := in_t4 (i := 203) rfl rfl
theorem wm_X9_259 : Cond.methodLink RX9 259 yX2_restsOn ∈ wsU := in_t4 (i := 204) rfl rfl
theorem wi_yX2_restsOn : Cond.instanceMethod yX2_restsOn ∈ wsU := in_t4 (i := 205) rfl rfl
theorem wsl_yX2_restsOn : Cond.selects RX2 yX2_restsOn yX2_restsOn ∈ wsU := in_t4 (i := 206) rfl rfl
theorem wm_X2_187 : Cond.methodLink RX2 187 yX2_weigh ∈ wsU := in_t4 (i := 208) rfl rfl
theorem wi_yX2_weigh : Cond.instanceMethod yX2_weigh ∈ wsU := in_t4 (i := 209) rfl rfl
theorem wsl_yX2_weigh : Cond.selects RX2 yX2_weigh yX2_weigh ∈ wsU := in_t4 (i := 210) rfl rfl
theorem wm_X2_175 : Cond.methodLink RX2 175 yX2_heldBy ∈ wsU := in_t4 (i := 212) rfl rfl
theorem wi_yX2_heldBy : Cond.instanceMethod yX2_heldBy ∈ wsU := in_t4 (i := 214) rfl rfl
theorem wm_X2_159 : Cond.methodLink RX2 159 yX2_holdsAgainst ∈ wsU := in_t4 (i := 216) rfl rfl
theorem wi_yX2_holdsAgainst : Cond.instanceMethod yX2_holdsAgainst ∈ wsU := in_t4 (i := 218) rfl rfl
theorem wm_X2_179 : Cond.methodLink RX2 179 yX2_countsOverHolder ∈ wsU := in_t4 (i := 220) rfl rfl
theorem wi_yX2_countsOverHolder : Cond.instanceMethod yX2_countsOverHolder ∈ wsU := in_t4 (i := 222) rfl rfl
theorem wm_X2_183 : Cond.methodLink RX2 183 yX2_setHolder ∈ wsU := in_t4 (i := 224) rfl rfl
theorem wi_yX2_setHolder : Cond.instanceMethod yX2_setHolder ∈ wsU := in_t4 (i := 226) rfl rfl
theorem wm_X9_262 : Cond.methodLink RX9 262 yX2_clashingIssues ∈ wsU := in_t4 (i := 228) rfl rfl
theorem wm_X9_266 : Cond.methodLink RX9 266 yX9_lowestBit ∈ wsU := in_t4 (i := 229) rfl rfl
theorem wt_yX9_lowestBit : Cond.static yX9_lowestBit ∈ wsU := in_t4 (i := 230) rfl rfl
theorem wm_L_144 : Cond.methodLink RL 144 yL_barred ∈ wsU := in_t4 (i := 233) rfl rfl
theorem wt_yL_barred : Cond.static yL_barred ∈ wsU := in_t4 (i := 234) rfl rfl
theorem wm_L_42 : Cond.methodLink RL 42 yX9_barred ∈ wsU := in_t4 (i := 236) rfl rfl
theorem wi_yX9_barred : Cond.instanceMethod yX9_barred ∈ wsU := in_t4 (i := 237) rfl rfl
theorem wsl_yX9_barred : Cond.selects RX9 yX9_barred yX9_barred ∈ wsU := in_t4 (i := 238) rfl rfl
theorem wm_L_147 : Cond.methodLink RL 147 yL_held ∈ wsU := in_t5 (i := 0) rfl rfl
theorem wt_yL_held : Cond.static yL_held ∈ wsU := in_t5 (i := 1) rfl rfl
theorem wm_L_45 : Cond.methodLink RL 45 yX9_held ∈ wsU := in_t5 (i := 3) rfl rfl
theorem wi_yX9_held : Cond.instanceMethod yX9_held ∈ wsU := in_t5 (i := 4) rfl rfl
theorem wsl_yX9_held : Cond.selects RX9 yX9_held yX9_held ∈ wsU := in_t5 (i := 5) rfl rfl
theorem wm_X9_271 : Cond.methodLink RX9 271 yX9_needIssue ∈ wsU := in_t5 (i := 7) rfl rfl
theorem wi_yX9_needIssue : Cond.instanceMethod yX9_needIssue ∈ wsU := in_t5 (i := 9) rfl rfl
theorem wm_X9_296 : Cond.methodLink RX9 296 yX6_allIssues ∈ wsU := in_t5 (i := 11) rfl rfl
theorem wm_X9_277 : Cond.methodLink RX9 277 yX2_holderCount ∈ wsU := in_t5 (i := 14) rfl rfl
theorem wi_yX2_holderCount : Cond.instanceMethod yX2_holderCount ∈ wsU := in_t5 (i := 15) rfl rfl
theorem wsl_yX2_holderCount : Cond.selects RX2 yX2_holderCount yX2_holderCount ∈ wsU := in_t5 (i := 16) rfl rfl
theorem wm_X9_281 : Cond.methodLink RX9 281 yX2_weigh ∈ wsU := in_t5 (i := 18) rfl rfl
theorem wm_L_150 : Cond.methodLink RL 150 yL_issues ∈ wsU := in_t5 (i := 19) rfl rfl
theorem wt_yL_issues : Cond.static yL_issues ∈ wsU := in_t5 (i := 20) rfl rfl
theorem wm_L_48 : Cond.methodLink RL 48 yX9_issues ∈ wsU := in_t5 (i := 22) rfl rfl
theorem wi_yX9_issues : Cond.instanceMethod yX9_issues ∈ wsU := in_t5 (i := 23) rfl rfl
theorem wsl_yX9_issues : Cond.selects RX9 yX9_issues yX9_issues ∈ wsU := in_t5 (i := 24) rfl rfl
theorem wm_X9_293 : Cond.methodLink RX9 293 yX2_heldIssues ∈ wsU := in_t5 (i := 27) rfl rfl
theorem wi_yX2_heldIssues : Cond.instanceMethod yX2_heldIssues ∈ wsU := in_t5 (i := 28) rfl rfl
theorem wsl_yX2_heldIssues : Cond.selects RX2 yX2_heldIssues yX2_heldIssues ∈ wsU := in_t5 (i := 29) rfl rfl
theorem wm_L_153 : Cond.methodLink RL 153 yL_forced ∈ wsU := in_t5 (i := 31) rfl rfl
theorem wt_yL_forced : Cond.static yL_forced ∈ wsU := in_t5 (i := 32) rfl rfl
theorem wm_L_51 : Cond.methodLink RL 51 yX9_forced ∈ wsU := in_t5 (i := 34) rfl rfl
theorem wi_yX9_forced : Cond.instanceMethod yX9_forced ∈ wsU := in_t5 (i := 35) rfl rfl
theorem wsl_yX9_forced : Cond.selects RX9 yX9_forced yX9_forced ∈ wsU := in_t5 (i := 36) rfl rfl
theorem wm_X9_299 : Cond.methodLink RX9 299 yX2_forcedWay ∈ wsU := in_t5 (i := 38) rfl rfl
theorem wi_yX2_forcedWay : Cond.instanceMethod yX2_forcedWay ∈ wsU := in_t5 (i := 39) rfl rfl
theorem wsl_yX2_forcedWay : Cond.selects RX2 yX2_forcedWay yX2_forcedWay ∈ wsU := in_t5 (i := 40) rfl rfl
theorem wm_X2_191 : Cond.methodLink RX2 191 yX2_barringSuits ∈ wsU := in_t5 (i := 42) rfl rfl
theorem wm_L_156 : Cond.methodLink RL 156 yL_say ∈ wsU := in_t5 (i := 43) rfl rfl
theorem wt_yL_say : Cond.static yL_say ∈ wsU := in_t5 (i := 44) rfl rfl
theorem wm_L_54 : Cond.methodLink RL 54 yX9_say ∈ wsU := in_t5 (i := 46) rfl rfl
theorem wi_yX9_say : Cond.instanceMethod yX9_say ∈ wsU := in_t5 (i := 47) rfl rfl
theorem wsl_yX9_say : Cond.selects RX9 yX9_say yX9_say ∈ wsU := in_t5 (i := 48) rfl rfl
theorem wm_X9_303 : Cond.methodLink RX9 303 yX5_addHeld ∈ wsU := in_t5 (i := 50) rfl rfl
theorem wi_yX5_addHeld : Cond.instanceMethod yX5_addHeld ∈ wsU := in_t5 (i := 51) rfl rfl
theorem wsl_yX5_addHeld : Cond.selects RX5 yX5_addHeld yX5_addHeld ∈ wsU := in_t5 (i := 52) rfl rfl
theorem wm_X5_19 : Cond.methodLink RX5 19 yX5_addSign ∈ wsU := in_t5 (i := 54) rfl rfl
theorem wi_yX5_addSign : Cond.instanceMethod yX5_addSign ∈ wsU := in_t5 (i := 55) rfl rfl
theorem wsl_yX5_addSign : Cond.selects RX5 yX5_addSign yX5_addSign ∈ wsU := in_t5 (i := 56) rfl rfl
theorem wm_X5_23 : Cond.methodLink RX5 23 yX5_addNumber ∈ wsU := in_t5 (i := 58) rfl rfl
theorem wi_yX5_addNumber : Cond.instanceMethod yX5_addNumber ∈ wsU := in_t5 (i := 59) rfl rfl
theorem wsl_yX5_addNumber : Cond.selects RX5 yX5_addNumber yX5_addNumber ∈ wsU := in_t5 (i := 60) rfl rfl
theorem wm_X9_307 : Cond.methodLink RX9 307 yX5_addSign ∈ wsU := in_t5 (i := 62) rfl rfl
theorem wm_X9_311 : Cond.methodLink RX9 311 yX5_addNumber ∈ wsU := in_t5 (i := 63) rfl rfl
theorem wm_L_163 : Cond.methodLink RL 163 yL_latest ∈ wsU := in_t5 (i := 64) rfl rfl
theorem wt_yL_latest : Cond.static yL_latest ∈ wsU := in_t5 (i := 65) rfl rfl
theorem wm_L_57 : Cond.methodLink RL 57 yX9_latest ∈ wsU := in_t5 (i := 67) rfl rfl
theorem wi_yX9_latest : Cond.instanceMethod yX9_latest ∈ wsU := in_t5 (i := 68) rfl rfl
theorem wsl_yX9_latest : Cond.selects RX9 yX9_latest yX9_latest ∈ wsU := in_t5 (i := 69) rfl rfl
theorem wm_X9_318 : Cond.methodLink RX9 318 yX2_latestBinding ∈ wsU := in_t5 (i := 71) rfl rfl
theorem wi_yX2_latestBinding : Cond.instanceMethod yX2_latestBinding ∈ wsU := in_t5 (i := 72) rfl rfl
theorem wsl_yX2_latestBinding : Cond.selects RX2 yX2_latestBinding yX2_latestBinding ∈ wsU := in_t5 (i := 73) rfl rfl
theorem wm_L_166 : Cond.methodLink RL 166 yL_goes ∈ wsU := in_t5 (i := 75) rfl rfl
theorem wt_yL_goes : Cond.static yL_goes ∈ wsU := in_t5 (i := 76) rfl rfl
theorem wm_L_60 : Cond.methodLink RL 60 yX9_goes ∈ wsU := in_t5 (i := 78) rfl rfl
theorem wi_yX9_goes : Cond.instanceMethod yX9_goes ∈ wsU := in_t5 (i := 79) rfl rfl
theorem wsl_yX9_goes : Cond.selects RX9 yX9_goes yX9_goes ∈ wsU := in_t5 (i := 80) rfl rfl
theorem wm_X9_323 : Cond.methodLink RX9 323 yX6_counts ∈ wsU := in_t5 (i := 83) rfl rfl
theorem wm_X9_326 : Cond.methodLink RX9 326 yX2_restingOn ∈ wsU := in_t5 (i := 84) rfl rfl
theorem wi_yX2_restingOn : Cond.instanceMethod yX2_restingOn ∈ wsU := in_t5 (i := 85) rfl rfl
theorem wsl_yX2_restingOn : Cond.selects RX2 yX2_restingOn yX2_restingOn ∈ wsU := in_t5 (i := 86) rfl rfl
theorem wm_X2_195 : Cond.methodLink RX2 195 yX2_restsOn ∈ wsU := in_t5 (i := 88) rfl rfl
theorem wm_X9_329 : Cond.methodLink RX9 329 yX2_restingInTheEnd ∈ wsU := in_t5 (i := 89) rfl rfl
theorem wi_yX2_restingInTheEnd : Cond.instanceMethod yX2_restingInTheEnd ∈ wsU := in_t5 (i := 90) rfl rfl
theorem wsl_yX2_restingInTheEnd : Cond.selects RX2 yX2_restingInTheEnd yX2_restingInTheEnd ∈ wsU := in_t5 (i := 91) rfl rfl
theorem wm_X2_198 : Cond.methodLink RX2 198 yX2_restingOn ∈ wsU := in_t5 (i := 93) rfl rfl
theorem wm_X9_332 : Cond.methodLink RX9 332 yX2_changedWithout ∈ wsU := in_t5 (i := 94) rfl rfl
theorem wi_yX2_changedWithout : Cond.instanceMethod yX2_changedWithout ∈ wsU := in_t5 (i := 95) rfl rfl
theorem wsl_yX2_changedWithout : Cond.selects RX2 yX2_changedWithout yX2_changedWithout ∈ wsU := in_t5 (i := 96) rfl rfl
theorem wm_X2_201 : Cond.methodLink RX2 201 yX2_measure ∈ wsU := in_t5 (i := 98) rfl rfl
theorem wi_yX2_measure : Cond.instanceMethod yX2_measure ∈ wsU := in_t5 (i := 100) rfl rfl
theorem wm_X2_207 : Cond.methodLink RX2 207 yX2_heldIssues ∈ wsU := in_t5 (i := 102) rfl rfl
theorem wm_X2_210 : Cond.methodLink RX2 210 yX2_forcedWay ∈ wsU := in_t5 (i := 103) rfl rfl
theorem wm_L_169 : Cond.methodLink RL 169 yL_would ∈ wsU := in_t5 (i := 104) rfl rfl
theorem wt_yL_would : Cond.static yL_would ∈ wsU := in_t5 (i := 105) rfl rfl
theorem wm_L_63 : Cond.methodLink RL 63 yX9_would ∈ wsU := in_t5 (i := 107) rfl rfl
theorem wi_yX9_would : Cond.instanceMethod yX9_would ∈ wsU := in_t5 (i := 108) rfl rfl
theorem wsl_yX9_would : Cond.selects RX9 yX9_would yX9_would ∈ wsU := in_t5 (i := 109) rfl rfl
theorem wm_X9_337 : Cond.methodLink RX9 337 yX9_needCouple ∈ wsU := in_t5 (i := 112) rfl rfl
theorem wi_yX9_needCouple : Cond.instanceMethod yX9_needCouple ∈ wsU := in_t5 (i := 114) rfl rfl
theorem wm_X9_341 : Cond.methodLink RX9 341 yX9_isDay ∈ wsU := in_t5 (i := 117) rfl rfl
theorem wt_yX9_isDay : Cond.static yX9_isDay ∈ wsU := in_t5 (i := 118) rfl rfl
theorem wm_L_173 : Cond.methodLink RL 173 yL_freeTill ∈ wsU := in_t5 (i := 121) rfl rfl
theorem wt_yL_freeTill : Cond.static yL_freeTill ∈ wsU := in_t5 (i := 122) rfl rfl
theorem wm_L_67 : Cond.methodLink RL 67 yX9_freeTill ∈ wsU := in_t5 (i := 124) rfl rfl
theorem wi_yX9_freeTill : Cond.instanceMethod yX9_freeTill ∈ wsU := in_t5 (i := 125) rfl rfl
theorem wsl_yX9_freeTill : Cond.selects RX9 yX9_freeTill yX9_freeTill ∈ wsU := in_t5 (i := 126) rfl rfl
theorem wm_X9_347 : Cond.methodLink RX9 347 yX2_lastFreeDay ∈ wsU := in_t5 (i := 128) rfl rfl
theorem wi_yX2_lastFreeDay : Cond.instanceMethod yX2_lastFreeDay ∈ wsU := in_t5 (i := 129) rfl rfl
theorem wsl_yX2_lastFreeDay : Cond.selects RX2 yX2_lastFreeDay yX2_lastFreeDay ∈ wsU := in_t5 (i := 130) rfl rfl
theorem wm_L_176 : Cond.methodLink RL 176 yL_against ∈ wsU := in_t5 (i := 132) rfl rfl
theorem wt_yL_against : Cond.static yL_against ∈ wsU := in_t5 (i := 133) rfl rfl
theorem wm_L_70 : Cond.methodLink RL 70 yX9_against ∈ wsU := in_t5 (i := 135) rfl rfl
theorem wi_yX9_against : Cond.instanceMethod yX9_against ∈ wsU := in_t5 (i := 136) rfl rfl
theorem wsl_yX9_against : Cond.selects RX9 yX9_against yX9_against ∈ wsU := in_t5 (i := 137) rfl rfl
theorem wm_X9_352 : Cond.methodLink RX9 352 yX2_boundOverIssue ∈ wsU := in_t5 (i := 140) rfl rfl
theorem wi_yX2_boundOverIssue : Cond.instanceMethod yX2_boundOverIssue ∈ wsU := in_t5 (i := 141) rfl rfl
theorem wsl_yX2_boundOverIssue : Cond.selects RX2 yX2_boundOverIssue yX2_boundOverIssue ∈ wsU := in_t5 (i := 142) rfl rfl
theorem wm_L_179 : Cond.methodLink RL 179 yL_judge ∈ wsU := in_t5 (i := 144) rfl rfl
theorem wt_yL_judge : Cond.static yL_judge ∈ wsU := in_t5 (i := 145) rfl rfl
theorem wm_L_73 : Cond.methodLink RL 73 yX9_judge ∈ wsU := in_t5 (i := 147) rfl rfl
theorem wi_yX9_judge : Cond.instanceMethod yX9_judge ∈ wsU := in_t5 (i := 148) rfl rfl
theorem wsl_yX9_judge : Cond.selects RX9 yX9_judge yX9_judge ∈ wsU := in_t5 (i := 149) rfl rfl
theorem wm_X9_357 : Cond.methodLink RX9 357 yX6_isJudged ∈ wsU := in_t5 (i := 152) rfl rfl
theorem wm_X9_360 : Cond.methodLink RX9 360 yX0_note ∈ wsU := in_t5 (i := 153) rfl rfl
theorem wi_yX0_note : Cond.instanceMethod yX0_note ∈ wsU := in_t5 (i := 154) rfl rfl
theorem wsl_yX0_note : Cond.selects RX0 yX0_note yX0_note ∈ wsU := in_t5 (i := 155) rfl rfl
theorem wm_X0_19 : Cond.methodLink RX0 19 arraycopyName ∈ wsU := in_t5 (i := 157) rfl rfl
theorem wm_X9_364 : Cond.methodLink RX9 364 yX6_decide ∈ wsU := in_t5 (i := 158) rfl rfl
theorem wm_L_183 : Cond.methodLink RL 183 yL_find ∈ wsU := in_t5 (i := 159) rfl rfl
theorem wt_yL_find : Cond.static yL_find ∈ wsU := in_t5 (i := 160) rfl rfl
theorem wm_L_77 : Cond.methodLink RL 77 yX9_find ∈ wsU := in_t5 (i := 162) rfl rfl
theorem wi_yX9_find : Cond.instanceMethod yX9_find ∈ wsU := in_t5 (i := 163) rfl rfl
theorem wsl_yX9_find : Cond.selects RX9 yX9_find yX9_find ∈ wsU := in_t5 (i := 164) rfl rfl
theorem wm_X9_373 : Cond.methodLink RX9 373 yX6_foundWay ∈ wsU := in_t5 (i := 167) rfl rfl
theorem wi_yX6_foundWay : Cond.instanceMethod yX6_foundWay ∈ wsU := in_t5 (i := 168) rfl rfl
theorem wsl_yX6_foundWay : Cond.selects RX6 yX6_foundWay yX6_foundWay ∈ wsU := in_t5 (i := 169) rfl rfl
theorem wm_X9_376 : Cond.methodLink RX9 376 yX6_setFound ∈ wsU := in_t5 (i := 171) rfl rfl
theorem wi_yX6_setFound : Cond.instanceMethod yX6_setFound ∈ wsU := in_t5 (i := 172) rfl rfl
theorem wsl_yX6_setFound : Cond.selects RX6 yX6_setFound yX6_setFound ∈ wsU := in_t5 (i := 173) rfl rfl
theorem wm_L_187 : Cond.methodLink RL 187 yL_reverse ∈ wsU := in_t5 (i := 175) rfl rfl
theorem wt_yL_reverse : Cond.static yL_reverse ∈ wsU := in_t5 (i := 176) rfl rfl
theorem wm_L_81 : Cond.methodLink RL 81 yX9_reverse ∈ wsU := in_t5 (i := 178) rfl rfl
theorem wi_yX9_reverse : Cond.instanceMethod yX9_reverse ∈ wsU := in_t5 (i := 179) rfl rfl
theorem wsl_yX9_reverse : Cond.selects RX9 yX9_reverse yX9_reverse ∈ wsU := in_t5 (i := 180) rfl rfl
theorem wm_L_190 : Cond.methodLink RL 190 yL_tie ∈ wsU := in_t5 (i := 182) rfl rfl
theorem wt_yL_tie : Cond.static yL_tie ∈ wsU := in_t5 (i := 183) rfl rfl
theorem wm_L_85 : Cond.methodLink RL 85 yX9_tie ∈ wsU := in_t5 (i := 185) rfl rfl
theorem wi_yX9_tie : Cond.instanceMethod yX9_tie ∈ wsU := in_t5 (i := 186) rfl rfl
theorem wsl_yX9_tie : Cond.selects RX9 yX9_tie yX9_tie ∈ wsU := in_t5 (i := 187) rfl rfl
theorem wm_X9_382 : Cond.methodLink RX9 382 yX4_insertLink ∈ wsU := in_t5 (i := 190) rfl rfl
theorem wm_L_193 : Cond.methodLink RL 193 yL_cut ∈ wsU := in_t5 (i := 191) rfl rfl
theorem wt_yL_cut : Cond.static yL_cut ∈ wsU := in_t5 (i := 192) rfl rfl
theorem wm_L_88 : Cond.methodLink RL 88 yX9_cut ∈ wsU := in_t5 (i := 194) rfl rfl
theorem wi_yX9_cut : Cond.instanceMethod yX9_cut ∈ wsU := in_t5 (i := 195) rfl rfl
theorem wsl_yX9_cut : Cond.selects RX9 yX9_cut yX9_cut ∈ wsU := in_t5 (i := 196) rfl rfl
theorem wm_X9_386 : Cond.methodLink RX9 386 yX4_removeLink ∈ wsU := in_t5 (i := 198) rfl rfl
theorem wm_L_196 : Cond.methodLink RL 196 yL_rule ∈ wsU := in_t5 (i := 199) rfl rfl
theorem wt_yL_rule : Cond.static yL_rule ∈ wsU := in_t5 (i := 200) rfl rfl
theorem wm_L_91 : Cond.methodLink RL 91 yX9_rule ∈ wsU := in_t5 (i := 202) rfl rfl
theorem wi_yX9_rule : Cond.instanceMethod yX9_rule ∈ wsU := in_t5 (i := 203) rfl rfl
theorem wsl_yX9_rule : Cond.selects RX9 yX9_rule yX9_rule ∈ wsU := in_t5 (i := 204) rfl rfl
theorem wm_X9_391 : Cond.methodLink RX9 391 yX4_leastOfRule ∈ wsU := in_t5 (i := 207) rfl rfl
theorem wm_X9_394 : Cond.methodLink RX9 394 yX4_mostOfRule ∈ wsU := in_t5 (i := 208) rfl rfl
theorem wm_L_203 : Cond.methodLink RL 203 yL_ask ∈ wsU := in_t5 (i := 210) rfl rfl
theorem wt_yL_ask : Cond.static yL_ask ∈ wsU := in_t5 (i := 211) rfl rfl
theorem wm_L_94 : Cond.methodLink RL 94 yX9_ask ∈ wsU := in_t5 (i := 213) rfl rfl
theorem wi_yX9_ask : Cond.instanceMethod yX9_ask ∈ wsU := in_t5 (i := 214) rfl rfl
theorem wsl_yX9_ask : Cond.selects RX9 yX9_ask yX9_ask ∈ wsU := in_t5 (i := 215) rfl rfl
theorem wm_X9_407 : Cond.methodLink RX9 407 yX2_tabulate ∈ wsU := in_t5 (i := 218) rfl rfl
theorem wi_yX2_tabulate : Cond.instanceMethod yX2_tabulate ∈ wsU := in_t5 (i := 219) rfl rfl
theorem wsl_yX2_tabulate : Cond.selects RX2 yX2_tabulate yX2_tabulate ∈ wsU := in_t5 (i := 220) rfl rfl
theorem wm_X2_222 : Cond.methodLink RX2 222 yX6_winner ∈ wsU := in_t5 (i := 222) rfl rfl
theorem wm_X2_225 : Cond.methodLink RX2 225 yX6_allIssues ∈ wsU := in_t5 (i := 223) rfl rfl
theorem wm_X9_411 : Cond.methodLink RX9 411 yX1_answer ∈ wsU := in_t5 (i := 224) rfl rfl
theorem wi_yX1_answer : Cond.instanceMethod yX1_answer ∈ wsU := in_t5 (i := 225) rfl rfl
theorem wsl_yX1_answer : Cond.selects RX1 yX1_answer yX1_answer ∈ wsU := in_t5 (i := 226) rfl rfl
theorem wm_X1_25 : Cond.methodLink RX1 25 yJ9_min_7cf53 ∈ wsU := in_t5 (i := 228) rfl rfl
theorem wm_X1_35 : Cond.methodLink RX1 35 yX7_open ∈ wsU := in_t5 (i := 229) rfl rfl
theorem wm_X1_43 : Cond.methodLink RX1 43 yX7_isWord ∈ wsU := in_t5 (i := 231) rfl rfl
theorem wm_X1_49 : Cond.methodLink RX1 49 yX7_fail ∈ wsU := in_t5 (i := 233) rfl rfl
theorem wm_X1_52 : Cond.methodLink RX1 52 yX7_advance ∈ wsU := in_t5 (i := 234) rfl rfl
theorem wm_X1_55 : Cond.methodLink RX1 55 yX1_anyHolds ∈ wsU := in_t5 (i := 235) rfl rfl
theorem wi_yX1_anyHolds : Cond.instanceMethod yX1_anyHolds ∈ wsU := in_t5 (i := 237) rfl rfl
theorem wm_X1_74 : Cond.methodLink RX1 74 yX1_allHold ∈ wsU := in_t5 (i := 239) rfl rfl
theorem wi_yX1_allHold : Cond.instanceMethod yX1_allHold ∈ wsU := in_t6 (i := 1) rfl rfl
theorem wm_X1_79 : Cond.methodLink RX1 79 yX1_factHolds ∈ wsU := in_t6 (i := 3) rfl rfl
theorem wi_yX1_factHolds : Cond.instanceMethod yX1_factHolds ∈ wsU := in_t6 (i := 5) rfl rfl
theorem wm_X1_86 : Cond.methodLink RX1 86 yX7_isSign ∈ wsU := in_t6 (i := 8) rfl rfl
theorem wm_X1_90 : Cond.methodLink RX1 90 yX1_compare ∈ wsU := in_t6 (i := 9) rfl rfl
theorem wi_yX1_compare : Cond.instanceMethod yX1_compare ∈ wsU := in_t6 (i := 11) rfl rfl
theorem wm_X1_98 : Cond.methodLink RX1 98 yX1_readValue ∈ wsU := in_t6 (i := 13) rfl rfl
theorem wi_yX1_readValue : Cond.instanceMethod yX1_readValue ∈ wsU := in_t6 (i := 15) rfl rfl
theorem wm_X1_102 : Cond.methodLink RX1 102 yX1_wordNumber ∈ wsU := in_t6 (i := 17) rfl rfl
theorem wi_yX1_wordNumber : Cond.instanceMethod yX1_wordNumber ∈ wsU := in_t6 (i := 19) rfl rfl
theorem wm_X1_94 : Cond.methodLink RX1 94 yX7_passSign ∈ wsU := in_t6 (i := 31) rfl rfl
theorem wk_X1_65 : Cond.constant RX1 65 (-1000000000) ∈ wsU := in_t6 (i := 34) rfl rfl
theorem wm_X1_66 : Cond.methodLink RX1 66 yJ6_bitCount_0f7a4 ∈ wsU := in_t6 (i := 35) rfl rfl
theorem wcl_L_98 : Cond.classLink RL 98 RX10 ∈ wsU := in_t6 (i := 37) rfl rfl
theorem wins_X10 : Cond.instantiable RX10 26 ∈ wsU := in_t6 (i := 38) rfl rfl
theorem wm_L_100 : Cond.methodLink RL 100 yX10_init ∈ wsU := in_t6 (i := 39) rfl rfl
theorem wi_yX10_init : Cond.instanceMethod yX10_init ∈ wsU := in_t6 (i := 40) rfl rfl
theorem wm_X10_1 : Cond.methodLink RX10 1 objectInit ∈ wsU := in_t6 (i := 42) rfl rfl
theorem wm_X10_47 : Cond.methodLink RX10 47 yX10_bare ∈ wsU := in_t6 (i := 43) rfl rfl
theorem wt_yX10_bare : Cond.static yX10_bare ∈ wsU := in_t6 (i := 44) rfl rfl
theorem wf_X10_9 : Cond.fieldLink RX10 9 "BarredSuitsModel" "row" "[I" ∈ wsU := in_t6 (i := 46) rfl rfl
theorem wf_X10_13 : Cond.fieldLink RX10 13 "BarredSuitsModel" "read" "[I" ∈ wsU := in_t6 (i := 47) rfl rfl
theorem wf_X10_16 : Cond.fieldLink RX10 16 "BarredSuitsModel" "image" "[I" ∈ wsU := in_t6 (i := 48) rfl rfl
theorem wf_X10_19 : Cond.fieldLink RX10 19 "BarredSuitsModel" "past" "[I" ∈ wsU := in_t6 (i := 49) rfl rfl
theorem wf_X10_244 : Cond.fieldLink RX10 244 "BarredSuitsModel" "hasImage" "Z" ∈ wsU := in_t6 (i := 50) rfl rfl
theorem wf_X10_162 : Cond.fieldLink RX10 162 "BarredSuitsModel" "acts" "I" ∈ wsU := in_t6 (i := 51) rfl rfl
theorem wf_X10_51 : Cond.fieldLink RX10 51 "BarredSuitsModel" "code" "I" ∈ wsU := in_t6 (i := 52) rfl rfl
theorem wf_X10_22 : Cond.fieldLink RX10 22 "BarredSuitsModel" "bound" "[I" ∈ wsU := in_t6 (i := 53) rfl rfl
theorem wf_X10_25 : Cond.fieldLink RX10 25 "BarredSuitsModel" "away" "[I" ∈ wsU := in_t6 (i := 54) rfl rfl
theorem wf_X10_28 : Cond.fieldLink RX10 28 "BarredSuitsModel" "barsThen" "[I" ∈ wsU := in_t6 (i := 55) rfl rfl
theorem wf_X10_31 : Cond.fieldLink RX10 31 "BarredSuitsModel" "heldThen" "[I" ∈ wsU := in_t6 (i := 56) rfl rfl
theorem wf_X10_34 : Cond.fieldLink RX10 34 "BarredSuitsModel" "forcedThen" "[I" ∈ wsU := in_t6 (i := 57) rfl rfl
theorem wf_X10_37 : Cond.fieldLink RX10 37 "BarredSuitsModel" "text" "[I" ∈ wsU := in_t6 (i := 58) rfl rfl
theorem wf_X10_216 : Cond.fieldLink RX10 216 "BarredSuitsModel" "said" "I" ∈ wsU := in_t6 (i := 59) rfl rfl
theorem wf_X10_40 : Cond.fieldLink RX10 40 "BarredSuitsModel" "tape" "[I" ∈ wsU := in_t6 (i := 60) rfl rfl
theorem wf_X10_165 : Cond.fieldLink RX10 165 "BarredSuitsModel" "taped" "I" ∈ wsU := in_t6 (i := 61) rfl rfl
theorem wf_X10_248 : Cond.fieldLink RX10 248 "BarredSuitsModel" "size" "I" ∈ wsU := in_t6 (i := 62) rfl rfl
theorem wf_X10_251 : Cond.fieldLink RX10 251 "BarredSuitsModel" "look" "I" ∈ wsU := in_t6 (i := 63) rfl rfl
theorem wf_X10_260 : Cond.fieldLink RX10 260 "BarredSuitsModel" "token" "I" ∈ wsU := in_t6 (i := 64) rfl rfl
theorem wf_X10_257 : Cond.fieldLink RX10 257 "BarredSuitsModel" "begins" "I" ∈ wsU := in_t6 (i := 65) rfl rfl
theorem wf_X10_269 : Cond.fieldLink RX10 269 "BarredSuitsModel" "stops" "I" ∈ wsU := in_t6 (i := 66) rfl rfl
theorem wf_X10_272 : Cond.fieldLink RX10 272 "BarredSuitsModel" "bad" "I" ∈ wsU := in_t6 (i := 67) rfl rfl
theorem wf_X10_281 : Cond.fieldLink RX10 281 "BarredSuitsModel" "badPlace" "I" ∈ wsU := in_t6 (i := 68) rfl rfl
theorem wf_X10_43 : Cond.fieldLink RX10 43 "BarredSuitsModel" "faultPlace" "I" ∈ wsU := in_t6 (i := 69) rfl rfl
theorem wf_X10_275 : Cond.fieldLink RX10 275 "BarredSuitsModel" "open" "I" ∈ wsU := in_t6 (i := 70) rfl rfl
theorem wf_X10_404 : Cond.fieldLink RX10 404 "BarredSuitsModel" "asked" "I" ∈ wsU := in_t6 (i := 71) rfl rfl
theorem wl_10_0 : u_lay RX10 TX10 0 ∈ wsU := in_t6 (i := 72) rfl rfl
theorem wl_10_1 : u_lay RX10 TX10 1 ∈ wsU := in_t6 (i := 74) rfl rfl
theorem wl_10_2 : u_lay RX10 TX10 2 ∈ wsU := in_t6 (i := 76) rfl rfl
theorem wl_10_3 : u_lay RX10 TX10 3 ∈ wsU := in_t6 (i := 78) rfl rfl
theorem wl_10_4 : u_lay RX10 TX10 4 ∈ wsU := in_t6 (i := 80) rfl rfl
theorem wl_10_5 : u_lay RX10 TX10 5 ∈ wsU := in_t6 (i := 82) rfl rfl
theorem wl_10_6 : u_lay RX10 TX10 6 ∈ wsU := in_t6 (i := 84) rfl rfl
theorem wl_10_7 : u_lay RX10 TX10 7 ∈ wsU := in_t6 (i := 86) rfl rfl
theorem wl_10_8 : u_lay RX10 TX10 8 ∈ wsU := in_t6 (i := 88) rfl rfl
theorem wl_10_9 : u_lay RX10 TX10 9 ∈ wsU := in_t6 (i := 90) rfl rfl
theorem wl_10_10 : u_lay RX10 TX10 10 ∈ wsU := in_t6 (i := 92) rfl rfl
theorem wl_10_11 : u_lay RX10 TX10 11 ∈ wsU := in_t6 (i := 94) rfl rfl
theorem wl_10_12 : u_lay RX10 TX10 12 ∈ wsU := in_t6 (i := 96) rfl rfl
theorem wl_10_13 : u_lay RX10 TX10 13 ∈ wsU := in_t6 (i := 98) rfl rfl
theorem wl_10_14 : u_lay RX10 TX10 14 ∈ wsU := in_t6 (i := 100) rfl rfl
theorem wl_10_15 : u_lay RX10 TX10 15 ∈ wsU := in_t6 (i := 102) rfl rfl
theorem wl_10_16 : u_lay RX10 TX10 16 ∈ wsU := in_t6 (i := 104) rfl rfl
theorem wl_10_17 : u_lay RX10 TX10 17 ∈ wsU := in_t6 (i := 106) rfl rfl
theorem wl_10_18 : u_lay RX10 TX10 18 ∈ wsU := in_t6 (i := 108) rfl rfl
theorem wl_10_19 : u_lay RX10 TX10 19 ∈ wsU := in_t6 (i := 110) rfl rfl
theorem wl_10_20 : u_lay RX10 TX10 20 ∈ wsU := in_t6 (i := 112) rfl rfl
theorem wl_10_21 : u_lay RX10 TX10 21 ∈ wsU := in_t6 (i := 114) rfl rfl
theorem wl_10_22 : u_lay RX10 TX10 22 ∈ wsU := in_t6 (i := 116) rfl rfl
theorem wl_10_23 : u_lay RX10 TX10 23 ∈ wsU := in_t6 (i := 118) rfl rfl
theorem wl_10_24 : u_lay RX10 TX10 24 ∈ wsU := in_t6 (i := 120) rfl rfl
theorem wl_10_25 : u_lay RX10 TX10 25 ∈ wsU := in_t6 (i := 122) rfl rfl
theorem wm_L_112 : Cond.methodLink RL 112 yX10_thrown ∈ wsU := in_t6 (i := 125) rfl rfl
theorem wi_yX10_thrown : Cond.instanceMethod yX10_thrown ∈ wsU := in_t6 (i := 126) rfl rfl
theorem wsl_yX10_thrown : Cond.selects RX10 yX10_thrown yX10_thrown ∈ wsU := in_t6 (i := 127) rfl rfl
theorem wm_L_122 : Cond.methodLink RL 122 yX10_count ∈ wsU := in_t6 (i := 129) rfl rfl
theorem wi_yX10_count : Cond.instanceMethod yX10_count ∈ wsU := in_t6 (i := 130) rfl rfl
theorem wsl_yX10_count : Cond.selects RX10 yX10_count yX10_count ∈ wsU := in_t6 (i := 131) rfl rfl
theorem wm_X10_158 : Cond.methodLink RX10 158 yX10_judgedOnes ∈ wsU := in_t6 (i := 133) rfl rfl
theorem wi_yX10_judgedOnes : Cond.instanceMethod yX10_judgedOnes ∈ wsU := in_t6 (i := 135) rfl rfl
theorem wm_X10_62 : Cond.methodLink RX10 62 yX10_suits ∈ wsU := in_t6 (i := 137) rfl rfl
theorem wi_yX10_suits : Cond.instanceMethod yX10_suits ∈ wsU := in_t6 (i := 139) rfl rfl
theorem wm_X10_69 : Cond.methodLink RX10 69 yX10_isJudged ∈ wsU := in_t6 (i := 141) rfl rfl
theorem wi_yX10_isJudged : Cond.instanceMethod yX10_isJudged ∈ wsU := in_t6 (i := 143) rfl rfl
theorem wm_X10_65 : Cond.methodLink RX10 65 yX10_of ∈ wsU := in_t6 (i := 145) rfl rfl
theorem wi_yX10_of : Cond.instanceMethod yX10_of ∈ wsU := in_t6 (i := 147) rfl rfl
theorem wm_X10_86 : Cond.methodLink RX10 86 yX10_isReversed ∈ wsU := in_t6 (i := 149) rfl rfl
theorem wi_yX10_isReversed : Cond.instanceMethod yX10_isReversed ∈ wsU := in_t6 (i := 151) rfl rfl
theorem wm_X10_168 : Cond.methodLink RX10 168 yX10_clashes ∈ wsU := in_t6 (i := 153) rfl rfl
theorem wi_yX10_clashes : Cond.instanceMethod yX10_clashes ∈ wsU := in_t6 (i := 155) rfl rfl
theorem wm_X10_152 : Cond.methodLink RX10 152 yX10_layBound ∈ wsU := in_t6 (i := 157) rfl rfl
theorem wi_yX10_layBound : Cond.instanceMethod yX10_layBound ∈ wsU := in_t6 (i := 159) rfl rfl
theorem wm_X10_105 : Cond.methodLink RX10 105 yX10_boundBy ∈ wsU := in_t6 (i := 161) rfl rfl
theorem wi_yX10_boundBy : Cond.instanceMethod yX10_boundBy ∈ wsU := in_t6 (i := 163) rfl rfl
theorem wm_X10_95 : Cond.methodLink RX10 95 yX10_links ∈ wsU := in_t6 (i := 165) rfl rfl
theorem wi_yX10_links : Cond.instanceMethod yX10_links ∈ wsU := in_t6 (i := 167) rfl rfl
theorem wm_X10_92 : Cond.methodLink RX10 92 yX10_linkOf ∈ wsU := in_t6 (i := 169) rfl rfl
theorem wi_yX10_linkOf : Cond.instanceMethod yX10_linkOf ∈ wsU := in_t6 (i := 171) rfl rfl
theorem wm_X10_98 : Cond.methodLink RX10 98 yX10_has ∈ wsU := in_t6 (i := 173) rfl rfl
theorem wt_yX10_has : Cond.static yX10_has ∈ wsU := in_t6 (i := 174) rfl rfl
theorem wm_X10_102 : Cond.methodLink RX10 102 yX10_binds ∈ wsU := in_t6 (i := 176) rfl rfl
theorem wi_yX10_binds : Cond.instanceMethod yX10_binds ∈ wsU := in_t6 (i := 178) rfl rfl
theorem wm_X10_58 : Cond.methodLink RX10 58 yX10_isIn ∈ wsU := in_t6 (i := 180) rfl rfl
theorem wt_yX10_isIn : Cond.static yX10_isIn ∈ wsU := in_t6 (i := 181) rfl rfl
theorem wm_X10_155 : Cond.methodLink RX10 155 yX10_clashOf ∈ wsU := in_t6 (i := 183) rfl rfl
theorem wi_yX10_clashOf : Cond.instanceMethod yX10_clashOf ∈ wsU := in_t6 (i := 185) rfl rfl
theorem wm_X10_125 : Cond.methodLink RX10 125 yX10_settledOf ∈ wsU := in_t6 (i := 187) rfl rfl
theorem wi_yX10_settledOf : Cond.instanceMethod yX10_settledOf ∈ wsU := in_t6 (i := 189) rfl rfl
theorem wm_X10_89 : Cond.methodLink RX10 89 yX10_necessaryOf ∈ wsU := in_t6 (i := 191) rfl rfl
theorem wi_yX10_necessaryOf : Cond.instanceMethod yX10_necessaryOf ∈ wsU := in_t6 (i := 193) rfl rfl
theorem wm_X10_76 : Cond.methodLink RX10 76 yX10_winsOf ∈ wsU := in_t6 (i := 195) rfl rfl
theorem wi_yX10_winsOf : Cond.instanceMethod yX10_winsOf ∈ wsU := in_t6 (i := 197) rfl rfl
theorem wm_X10_73 : Cond.methodLink RX10 73 yX10_isOnMerits ∈ wsU := in_t6 (i := 199) rfl rfl
theorem wi_yX10_isOnMerits : Cond.instanceMethod yX10_isOnMerits ∈ wsU := in_t6 (i := 201) rfl rfl
theorem wm_X10_80 : Cond.methodLink RX10 80 yX10_groundsOf ∈ wsU := in_t6 (i := 203) rfl rfl
theorem wi_yX10_groundsOf : Cond.instanceMethod yX10_groundsOf ∈ wsU := in_t6 (i := 205) rfl rfl
theorem wm_X10_83 : Cond.methodLink RX10 83 yX10_bitsOf ∈ wsU := in_t6 (i := 207) rfl rfl
theorem wt_yX10_bitsOf : Cond.static yX10_bitsOf ∈ wsU := in_t6 (i := 208) rfl rfl
theorem wm_X10_171 : Cond.methodLink RX10 171 yX10_fail ∈ wsU := in_t6 (i := 210) rfl rfl
theorem wi_yX10_fail : Cond.instanceMethod yX10_fail ∈ wsU := in_t6 (i := 212) rfl rfl
theorem wm_L_126 : Cond.methodLink RL 126 yX10_letter ∈ wsU := in_t6 (i := 214) rfl rfl
theorem wi_yX10_letter : Cond.instanceMethod yX10_letter ∈ wsU := in_t6 (i := 215) rfl rfl
theorem wsl_yX10_letter : Cond.selects RX10 yX10_letter yX10_letter ∈ wsU := in_t6 (i := 216) rfl rfl
theorem wm_X10_174 : Cond.methodLink RX10 174 yX10_isPerson ∈ wsU := in_t6 (i := 218) rfl rfl
theorem wi_yX10_isPerson : Cond.instanceMethod yX10_isPerson ∈ wsU := in_t6 (i := 220) rfl rfl
theorem wm_X10_54 : Cond.methodLink RX10 54 yX10_persons ∈ wsU := in_t6 (i := 222) rfl rfl
theorem wi_yX10_persons : Cond.instanceMethod yX10_persons ∈ wsU := in_t6 (i := 224) rfl rfl
theorem wm_L_129 : Cond.methodLink RL 129 yX10_link ∈ wsU := in_t6 (i := 226) rfl rfl
theorem wi_yX10_link : Cond.instanceMethod yX10_link ∈ wsU := in_t6 (i := 227) rfl rfl
theorem wsl_yX10_link : Cond.selects RX10 yX10_link yX10_link ∈ wsU := in_t6 (i := 228) rfl rfl
theorem wm_L_132 : Cond.methodLink RL 132 yX10_suit ∈ wsU := in_t6 (i := 230) rfl rfl
theorem wi_yX10_suit : Cond.instanceMethod yX10_suit ∈ wsU := in_t6 (i := 231) rfl rfl
theorem wsl_yX10_suit : Cond.selects RX10 yX10_suit yX10_suit ∈ wsU := in_t6 (i := 232) rfl rfl
theorem wm_X10_177 : Cond.methodLink RX10 177 yX10_isSuit ∈ wsU := in_t6 (i := 234) rfl rfl
theorem wi_yX10_isSuit : Cond.instanceMethod yX10_isSuit ∈ wsU := in_t6 (i := 236) rfl rfl
theorem wm_L_136 : Cond.methodLink RL 136 yX10_isBound ∈ wsU := in_t6 (i := 238) rfl rfl
theorem wi_yX10_isBound : Cond.instanceMethod yX10_isBound ∈ wsU := in_t6 (i := 239) rfl rfl
theorem wsl_yX10_isBound : Cond.selects RX10 yX10_isBound yX10_isBound ∈ wsU := in_t7 (i := 0) rfl rfl
theorem wm_L_140 : Cond.methodLink RL 140 yX10_chain ∈ wsU := in_t7 (i := 2) rfl rfl
theorem wi_yX10_chain : Cond.instanceMethod yX10_chain ∈ wsU := in_t7 (i := 3) rfl rfl
theorem wsl_yX10_chain : Cond.selects RX10 yX10_chain yX10_chain ∈ wsU := in_t7 (i := 4) rfl rfl
theorem wm_X10_180 : Cond.methodLink RX10 180 yX10_layAway ∈ wsU := in_t7 (i := 6) rfl rfl
theorem wi_yX10_layAway : Cond.instanceMethod yX10_layAway ∈ wsU := in_t7 (i := 8) rfl rfl
theorem wm_X10_184 : Cond.methodLink RX10 184 yX10_nearer ∈ wsU := in_t7 (i := 10) rfl rfl
theorem wi_yX10_nearer : Cond.instanceMethod yX10_nearer ∈ wsU := in_t7 (i := 12) rfl rfl
theorem wm_L_143 : Cond.methodLink RL 143 yX10_two ∈ wsU := in_t7 (i := 14) rfl rfl
theorem wi_yX10_two : Cond.instanceMethod yX10_two ∈ wsU := in_t7 (i := 15) rfl rfl
theorem wsl_yX10_two : Cond.selects RX10 yX10_two yX10_two ∈ wsU := in_t7 (i := 16) rfl rfl
theorem wm_X10_119 : Cond.methodLink RX10 119 yX10_areSame ∈ wsU := in_t7 (i := 18) rfl rfl
theorem wi_yX10_areSame : Cond.instanceMethod yX10_areSame ∈ wsU := in_t7 (i := 20) rfl rfl
theorem wm_X10_111 : Cond.methodLink RX10 111 yJ9_min_7cf53 ∈ wsU := in_t7 (i := 22) rfl rfl
theorem wm_X10_122 : Cond.methodLink RX10 122 yX10_isBarredBy ∈ wsU := in_t7 (i := 23) rfl rfl
theorem wi_yX10_isBarredBy : Cond.instanceMethod yX10_isBarredBy ∈ wsU := in_t7 (i := 25) rfl rfl
theorem wm_X10_116 : Cond.methodLink RX10 116 yX10_comesBehind ∈ wsU := in_t7 (i := 27) rfl rfl
theorem wi_yX10_comesBehind : Cond.instanceMethod yX10_comesBehind ∈ wsU := in_t7 (i := 29) rfl rfl
theorem wm_X10_108 : Cond.methodLink RX10 108 yX10_isBoundBy ∈ wsU := in_t7 (i := 31) rfl rfl
theorem wi_yX10_isBoundBy : Cond.instanceMethod yX10_isBoundBy ∈ wsU := in_t7 (i := 33) rfl rfl
theorem wm_X10_187 : Cond.methodLink RX10 187 yX10_standsOn ∈ wsU := in_t7 (i := 35) rfl rfl
theorem wi_yX10_standsOn : Cond.instanceMethod yX10_standsOn ∈ wsU := in_t7 (i := 37) rfl rfl
theorem wm_X10_140 : Cond.methodLink RX10 140 yX10_holderOf ∈ wsU := in_t7 (i := 39) rfl rfl
theorem wi_yX10_holderOf : Cond.instanceMethod yX10_holderOf ∈ wsU := in_t7 (i := 41) rfl rfl
theorem wm_X10_134 : Cond.methodLink RX10 134 yX10_holds ∈ wsU := in_t7 (i := 43) rfl rfl
theorem wi_yX10_holds : Cond.instanceMethod yX10_holds ∈ wsU := in_t7 (i := 45) rfl rfl
theorem wm_X10_128 : Cond.methodLink RX10 128 yX10_foundYes ∈ wsU := in_t7 (i := 47) rfl rfl
theorem wi_yX10_foundYes : Cond.instanceMethod yX10_foundYes ∈ wsU := in_t7 (i := 49) rfl rfl
theorem wm_X10_131 : Cond.methodLink RX10 131 yX10_isBoundAtAll ∈ wsU := in_t7 (i := 51) rfl rfl
theorem wi_yX10_isBoundAtAll : Cond.instanceMethod yX10_isBoundAtAll ∈ wsU := in_t7 (i := 53) rfl rfl
theorem wm_L_146 : Cond.methodLink RL 146 yX10_barred ∈ wsU := in_t7 (i := 55) rfl rfl
theorem wi_yX10_barred : Cond.instanceMethod yX10_barred ∈ wsU := in_t7 (i := 56) rfl rfl
theorem wsl_yX10_barred : Cond.selects RX10 yX10_barred yX10_barred ∈ wsU := in_t7 (i := 57) rfl rfl
theorem wm_X10_143 : Cond.methodLink RX10 143 yX10_barsOf ∈ wsU := in_t7 (i := 59) rfl rfl
theorem wi_yX10_barsOf : Cond.instanceMethod yX10_barsOf ∈ wsU := in_t7 (i := 61) rfl rfl
theorem wm_L_149 : Cond.methodLink RL 149 yX10_held ∈ wsU := in_t7 (i := 63) rfl rfl
theorem wi_yX10_held : Cond.instanceMethod yX10_held ∈ wsU := in_t7 (i := 64) rfl rfl
theorem wsl_yX10_held : Cond.selects RX10 yX10_held yX10_held ∈ wsU := in_t7 (i := 65) rfl rfl
theorem wm_X10_137 : Cond.methodLink RX10 137 yX10_issuesOf ∈ wsU := in_t7 (i := 67) rfl rfl
theorem wi_yX10_issuesOf : Cond.instanceMethod yX10_issuesOf ∈ wsU := in_t7 (i := 69) rfl rfl
theorem wm_X10_190 : Cond.methodLink RX10 190 yX10_holdersOf ∈ wsU := in_t7 (i := 71) rfl rfl
theorem wi_yX10_holdersOf : Cond.instanceMethod yX10_holdersOf ∈ wsU := in_t7 (i := 73) rfl rfl
theorem wm_L_152 : Cond.methodLink RL 152 yX10_issues ∈ wsU := in_t7 (i := 75) rfl rfl
theorem wi_yX10_issues : Cond.instanceMethod yX10_issues ∈ wsU := in_t7 (i := 76) rfl rfl
theorem wsl_yX10_issues : Cond.selects RX10 yX10_issues yX10_issues ∈ wsU := in_t7 (i := 77) rfl rfl
theorem wm_X10_146 : Cond.methodLink RX10 146 yX10_heldOf ∈ wsU := in_t7 (i := 79) rfl rfl
theorem wi_yX10_heldOf : Cond.instanceMethod yX10_heldOf ∈ wsU := in_t7 (i := 81) rfl rfl
theorem wm_L_155 : Cond.methodLink RL 155 yX10_forced ∈ wsU := in_t7 (i := 83) rfl rfl
theorem wi_yX10_forced : Cond.instanceMethod yX10_forced ∈ wsU := in_t7 (i := 84) rfl rfl
theorem wsl_yX10_forced : Cond.selects RX10 yX10_forced yX10_forced ∈ wsU := in_t7 (i := 85) rfl rfl
theorem wm_X10_193 : Cond.methodLink RX10 193 yX10_forcedOf ∈ wsU := in_t7 (i := 87) rfl rfl
theorem wi_yX10_forcedOf : Cond.instanceMethod yX10_forcedOf ∈ wsU := in_t7 (i := 89) rfl rfl
theorem wm_X10_149 : Cond.methodLink RX10 149 yX10_heldYesOf ∈ wsU := in_t7 (i := 91) rfl rfl
theorem wi_yX10_heldYesOf : Cond.instanceMethod yX10_heldYesOf ∈ wsU := in_t7 (i := 93) rfl rfl
theorem wm_L_165 : Cond.methodLink RL 165 yX10_latest ∈ wsU := in_t7 (i := 95) rfl rfl
theorem wi_yX10_latest : Cond.instanceMethod yX10_latest ∈ wsU := in_t7 (i := 96) rfl rfl
theorem wsl_yX10_latest : Cond.selects RX10 yX10_latest yX10_latest ∈ wsU := in_t7 (i := 97) rfl rfl
theorem wm_L_178 : Cond.methodLink RL 178 yX10_against ∈ wsU := in_t7 (i := 99) rfl rfl
theorem wi_yX10_against : Cond.instanceMethod yX10_against ∈ wsU := in_t7 (i := 100) rfl rfl
theorem wsl_yX10_against : Cond.selects RX10 yX10_against yX10_against ∈ wsU := in_t7 (i := 101) rfl rfl
theorem wm_L_168 : Cond.methodLink RL 168 yX10_goes ∈ wsU := in_t7 (i := 103) rfl rfl
theorem wi_yX10_goes : Cond.instanceMethod yX10_goes ∈ wsU := in_t7 (i := 104) rfl rfl
theorem wsl_yX10_goes : Cond.selects RX10 yX10_goes yX10_goes ∈ wsU := in_t7 (i := 105) rfl rfl
theorem wm_X10_196 : Cond.methodLink RX10 196 yX10_standing ∈ wsU := in_t7 (i := 107) rfl rfl
theorem wi_yX10_standing : Cond.instanceMethod yX10_standing ∈ wsU := in_t7 (i := 109) rfl rfl
theorem wm_X10_199 : Cond.methodLink RX10 199 yX10_allStanding ∈ wsU := in_t7 (i := 111) rfl rfl
theorem wi_yX10_allStanding : Cond.instanceMethod yX10_allStanding ∈ wsU := in_t7 (i := 113) rfl rfl
theorem wm_X10_202 : Cond.methodLink RX10 202 yX10_layThen ∈ wsU := in_t7 (i := 115) rfl rfl
theorem wi_yX10_layThen : Cond.instanceMethod yX10_layThen ∈ wsU := in_t7 (i := 117) rfl rfl
theorem wm_X10_205 : Cond.methodLink RX10 205 yX10_put ∈ wsU := in_t7 (i := 119) rfl rfl
theorem wi_yX10_put : Cond.instanceMethod yX10_put ∈ wsU := in_t7 (i := 121) rfl rfl
theorem wm_X10_209 : Cond.methodLink RX10 209 yX10_changed ∈ wsU := in_t7 (i := 123) rfl rfl
theorem wi_yX10_changed : Cond.instanceMethod yX10_changed ∈ wsU := in_t7 (i := 125) rfl rfl
theorem wm_L_172 : Cond.methodLink RL 172 yX10_would ∈ wsU := in_t7 (i := 127) rfl rfl
theorem wi_yX10_would : Cond.instanceMethod yX10_would ∈ wsU := in_t7 (i := 128) rfl rfl
theorem wsl_yX10_would : Cond.selects RX10 yX10_would yX10_would ∈ wsU := in_t7 (i := 129) rfl rfl
theorem wm_X10_212 : Cond.methodLink RX10 212 yX10_lay ∈ wsU := in_t7 (i := 131) rfl rfl
theorem wi_yX10_lay : Cond.instanceMethod yX10_lay ∈ wsU := in_t7 (i := 133) rfl rfl
theorem wm_L_175 : Cond.methodLink RL 175 yX10_freeTill ∈ wsU := in_t7 (i := 135) rfl rfl
theorem wi_yX10_freeTill : Cond.instanceMethod yX10_freeTill ∈ wsU := in_t7 (i := 136) rfl rfl
theorem wsl_yX10_freeTill : Cond.selects RX10 yX10_freeTill yX10_freeTill ∈ wsU := in_t7 (i := 137) rfl rfl
theorem wm_L_158 : Cond.methodLink RL 158 yX10_say ∈ wsU := in_t7 (i := 139) rfl rfl
theorem wi_yX10_say : Cond.instanceMethod yX10_say ∈ wsU := in_t7 (i := 140) rfl rfl
theorem wsl_yX10_say : Cond.selects RX10 yX10_say yX10_say ∈ wsU := in_t7 (i := 141) rfl rfl
theorem wm_X10_219 : Cond.methodLink RX10 219 yX10_writes ∈ wsU := in_t7 (i := 143) rfl rfl
theorem wi_yX10_writes : Cond.instanceMethod yX10_writes ∈ wsU := in_t7 (i := 145) rfl rfl
theorem wm_X10_223 : Cond.methodLink RX10 223 yX10_writesNumber ∈ wsU := in_t7 (i := 147) rfl rfl
theorem wi_yX10_writesNumber : Cond.instanceMethod yX10_writesNumber ∈ wsU := in_t7 (i := 149) rfl rfl
theorem wm_L_162 : Cond.methodLink RL 162 yX10_said ∈ wsU := in_t7 (i := 151) rfl rfl
theorem wi_yX10_said : Cond.instanceMethod yX10_said ∈ wsU := in_t7 (i := 152) rfl rfl
theorem wsl_yX10_said : Cond.selects RX10 yX10_said yX10_said ∈ wsU := in_t7 (i := 153) rfl rfl
theorem wm_L_182 : Cond.methodLink RL 182 yX10_judge ∈ wsU := in_t7 (i := 155) rfl rfl
theorem wi_yX10_judge : Cond.instanceMethod yX10_judge ∈ wsU := in_t7 (i := 156) rfl rfl
theorem wsl_yX10_judge : Cond.selects RX10 yX10_judge yX10_judge ∈ wsU := in_t7 (i := 157) rfl rfl
theorem wm_X10_226 : Cond.methodLink RX10 226 yX10_keep ∈ wsU := in_t7 (i := 159) rfl rfl
theorem wi_yX10_keep : Cond.instanceMethod yX10_keep ∈ wsU := in_t7 (i := 161) rfl rfl
theorem wm_L_186 : Cond.methodLink RL 186 yX10_find ∈ wsU := in_t7 (i := 163) rfl rfl
theorem wi_yX10_find : Cond.instanceMethod yX10_find ∈ wsU := in_t7 (i := 164) rfl rfl
theorem wsl_yX10_find : Cond.selects RX10 yX10_find yX10_find ∈ wsU := in_t7 (i := 165) rfl rfl
theorem wm_X10_229 : Cond.methodLink RX10 229 yX10_sets ∈ wsU := in_t7 (i := 167) rfl rfl
theorem wi_yX10_sets : Cond.instanceMethod yX10_sets ∈ wsU := in_t7 (i := 169) rfl rfl
theorem wm_L_189 : Cond.methodLink RL 189 yX10_reverse ∈ wsU := in_t7 (i := 171) rfl rfl
theorem wi_yX10_reverse : Cond.instanceMethod yX10_reverse ∈ wsU := in_t7 (i := 172) rfl rfl
theorem wsl_yX10_reverse : Cond.selects RX10 yX10_reverse yX10_reverse ∈ wsU := in_t7 (i := 173) rfl rfl
theorem wm_L_192 : Cond.methodLink RL 192 yX10_tie ∈ wsU := in_t7 (i := 175) rfl rfl
theorem wi_yX10_tie : Cond.instanceMethod yX10_tie ∈ wsU := in_t7 (i := 176) rfl rfl
theorem wsl_yX10_tie : Cond.selects RX10 yX10_tie yX10_tie ∈ wsU := in_t7 (i := 177) rfl rfl
theorem wm_X10_233 : Cond.methodLink RX10 233 yX10_layLink ∈ wsU := in_t7 (i := 179) rfl rfl
theorem wt_yX10_layLink : Cond.static yX10_layLink ∈ wsU := in_t7 (i := 180) rfl rfl
theorem wm_L_195 : Cond.methodLink RL 195 yX10_cut ∈ wsU := in_t7 (i := 182) rfl rfl
theorem wi_yX10_cut : Cond.instanceMethod yX10_cut ∈ wsU := in_t7 (i := 183) rfl rfl
theorem wsl_yX10_cut : Cond.selects RX10 yX10_cut yX10_cut ∈ wsU := in_t7 (i := 184) rfl rfl
theorem wm_L_198 : Cond.methodLink RL 198 yX10_rule ∈ wsU := in_t7 (i := 186) rfl rfl
theorem wi_yX10_rule : Cond.instanceMethod yX10_rule ∈ wsU := in_t7 (i := 187) rfl rfl
theorem wsl_yX10_rule : Cond.selects RX10 yX10_rule yX10_rule ∈ wsU := in_t7 (i := 188) rfl rfl
theorem wm_X10_237 : Cond.methodLink RX10 237 yX10_isRule ∈ wsU := in_t7 (i := 190) rfl rfl
theorem wt_yX10_isRule : Cond.static yX10_isRule ∈ wsU := in_t7 (i := 191) rfl rfl
theorem wm_L_202 : Cond.methodLink RL 202 yX10_undo ∈ wsU := in_t7 (i := 193) rfl rfl
theorem wi_yX10_undo : Cond.instanceMethod yX10_undo ∈ wsU := in_t7 (i := 194) rfl rfl
theorem wsl_yX10_undo : Cond.selects RX10 yX10_undo yX10_undo ∈ wsU := in_t7 (i := 195) rfl rfl
theorem wm_L_209 : Cond.methodLink RL 209 yX10_image ∈ wsU := in_t7 (i := 197) rfl rfl
theorem wi_yX10_image : Cond.instanceMethod yX10_image ∈ wsU := in_t7 (i := 198) rfl rfl
theorem wsl_yX10_image : Cond.selects RX10 yX10_image yX10_image ∈ wsU := in_t7 (i := 199) rfl rfl
theorem wm_X10_240 : Cond.methodLink RX10 240 yX10_copy ∈ wsU := in_t7 (i := 201) rfl rfl
theorem wt_yX10_copy : Cond.static yX10_copy ∈ wsU := in_t7 (i := 202) rfl rfl
theorem wm_L_214 : Cond.methodLink RL 214 yX10_back ∈ wsU := in_t7 (i := 204) rfl rfl
theorem wi_yX10_back : Cond.instanceMethod yX10_back ∈ wsU := in_t7 (i := 205) rfl rfl
theorem wsl_yX10_back : Cond.selects RX10 yX10_back yX10_back ∈ wsU := in_t7 (i := 206) rfl rfl
theorem wm_L_105 : Cond.methodLink RL 105 yX10_feed ∈ wsU := in_t7 (i := 208) rfl rfl
theorem wi_yX10_feed : Cond.instanceMethod yX10_feed ∈ wsU := in_t7 (i := 209) rfl rfl
theorem wsl_yX10_feed : Cond.selects RX10 yX10_feed yX10_feed ∈ wsU := in_t7 (i := 210) rfl rfl
theorem wm_L_119 : Cond.methodLink RL 119 yX10_fault ∈ wsU := in_t7 (i := 212) rfl rfl
theorem wi_yX10_fault : Cond.instanceMethod yX10_fault ∈ wsU := in_t7 (i := 213) rfl rfl
theorem wsl_yX10_fault : Cond.selects RX10 yX10_fault yX10_fault ∈ wsU := in_t7 (i := 214) rfl rfl
theorem wm_L_111 : Cond.methodLink RL 111 yX10_desk ∈ wsU := in_t7 (i := 216) rfl rfl
theorem wi_yX10_desk : Cond.instanceMethod yX10_desk ∈ wsU := in_t7 (i := 217) rfl rfl
theorem wsl_yX10_desk : Cond.selects RX10 yX10_desk yX10_desk ∈ wsU := in_t7 (i := 218) rfl rfl
theorem wm_X10_392 : Cond.methodLink RX10 392 yX10_opens ∈ wsU := in_t7 (i := 220) rfl rfl
theorem wi_yX10_opens : Cond.instanceMethod yX10_opens ∈ wsU := in_t7 (i := 222) rfl rfl
theorem wm_X10_278 : Cond.methodLink RX10 278 yX10_step ∈ wsU := in_t7 (i := 224) rfl rfl
theorem wi_yX10_step : Cond.instanceMethod yX10_step ∈ wsU := in_t7 (i := 226) rfl rfl
theorem wm_X10_254 : Cond.methodLink RX10 254 yX10_byteAt ∈ wsU := in_t7 (i := 228) rfl rfl
theorem wi_yX10_byteAt : Cond.instanceMethod yX10_byteAt ∈ wsU := in_t7 (i := 230) rfl rfl
theorem wm_X10_263 : Cond.methodLink RX10 263 yX10_isSmall ∈ wsU := in_t7 (i := 232) rfl rfl
theorem wt_yX10_isSmall : Cond.static yX10_isSmall ∈ wsU := in_t7 (i := 233) rfl rfl
theorem wm_X10_266 : Cond.methodLink RX10 266 yX10_isFigure ∈ wsU := in_t7 (i := 235) rfl rfl
theorem wt_yX10_isFigure : Cond.static yX10_isFigure ∈ wsU := in_t7 (i := 236) rfl rfl
theorem wm_X10_395 : Cond.methodLink RX10 395 yX10_readLine ∈ wsU := in_t7 (i := 238) rfl rfl
theorem wi_yX10_readLine : Cond.instanceMethod yX10_readLine ∈ wsU := in_t8 (i := 0) rfl rfl
theorem wm_X10_308 : Cond.methodLink RX10 308 yX10_isWord ∈ wsU := in_t8 (i := 3) rfl rfl
theorem wi_yX10_isWord : Cond.instanceMethod yX10_isWord ∈ wsU := in_t8 (i := 5) rfl rfl
theorem wm_X10_284 : Cond.methodLink RX10 284 yJ0_length_8abf5 ∈ wsU := in_t8 (i := 7) rfl rfl
theorem wm_X10_289 : Cond.methodLink RX10 289 yJ0_charAt_5068e ∈ wsU := in_t8 (i := 8) rfl rfl
theorem wm_X10_354 : Cond.methodLink RX10 354 yX10_readPerson ∈ wsU := in_t8 (i := 9) rfl rfl
theorem wi_yX10_readPerson : Cond.instanceMethod yX10_readPerson ∈ wsU := in_t8 (i := 11) rfl rfl
theorem wm_X10_296 : Cond.methodLink RX10 296 yX10_wrong ∈ wsU := in_t8 (i := 13) rfl rfl
theorem wi_yX10_wrong : Cond.instanceMethod yX10_wrong ∈ wsU := in_t8 (i := 15) rfl rfl
theorem wm_X10_299 : Cond.methodLink RX10 299 yX10_pass ∈ wsU := in_t8 (i := 17) rfl rfl
theorem wi_yX10_pass : Cond.instanceMethod yX10_pass ∈ wsU := in_t8 (i := 19) rfl rfl
theorem wm_X10_315 : Cond.methodLink RX10 315 yX10_isName ∈ wsU := in_t8 (i := 21) rfl rfl
theorem wi_yX10_isName : Cond.instanceMethod yX10_isName ∈ wsU := in_t8 (i := 23) rfl rfl
theorem wm_X10_319 : Cond.methodLink RX10 319 yX10_named ∈ wsU := in_t8 (i := 25) rfl rfl
theorem wi_yX10_named : Cond.instanceMethod yX10_named ∈ wsU := in_t8 (i := 27) rfl rfl
theorem wm_X10_312 : Cond.methodLink RX10 312 yX10_letterHere ∈ wsU := in_t8 (i := 29) rfl rfl
theorem wi_yX10_letterHere : Cond.instanceMethod yX10_letterHere ∈ wsU := in_t8 (i := 31) rfl rfl
theorem wm_X10_359 : Cond.methodLink RX10 359 yX10_readLink ∈ wsU := in_t8 (i := 34) rfl rfl
theorem wi_yX10_readLink : Cond.instanceMethod yX10_readLink ∈ wsU := in_t8 (i := 36) rfl rfl
theorem wm_X10_322 : Cond.methodLink RX10 322 yX10_readKnown ∈ wsU := in_t8 (i := 38) rfl rfl
theorem wi_yX10_readKnown : Cond.instanceMethod yX10_readKnown ∈ wsU := in_t8 (i := 40) rfl rfl
theorem wm_X10_325 : Cond.methodLink RX10 325 yX10_number ∈ wsU := in_t8 (i := 42) rfl rfl
theorem wi_yX10_number : Cond.instanceMethod yX10_number ∈ wsU := in_t8 (i := 44) rfl rfl
theorem wm_X10_303 : Cond.methodLink RX10 303 yX10_numberHere ∈ wsU := in_t8 (i := 46) rfl rfl
theorem wi_yX10_numberHere : Cond.instanceMethod yX10_numberHere ∈ wsU := in_t8 (i := 48) rfl rfl
theorem wk_X10_302 : Cond.constant RX10 302 (1000000) ∈ wsU := in_t8 (i := 50) rfl rfl
theorem wm_X10_367 : Cond.methodLink RX10 367 yX10_readSuit ∈ wsU := in_t8 (i := 53) rfl rfl
theorem wi_yX10_readSuit : Cond.instanceMethod yX10_readSuit ∈ wsU := in_t8 (i := 55) rfl rfl
theorem wk_X10_330 : Cond.constant RX10 330 (2147483647) ∈ wsU := in_t8 (i := 57) rfl rfl
theorem wm_X10_333 : Cond.methodLink RX10 333 yX10_readSet ∈ wsU := in_t8 (i := 59) rfl rfl
theorem wi_yX10_readSet : Cond.instanceMethod yX10_readSet ∈ wsU := in_t8 (i := 61) rfl rfl
theorem wm_X10_372 : Cond.methodLink RX10 372 yX10_readJudged ∈ wsU := in_t8 (i := 66) rfl rfl
theorem wi_yX10_readJudged : Cond.instanceMethod yX10_readJudged ∈ wsU := in_t8 (i := 68) rfl rfl
theorem wm_X10_341 : Cond.methodLink RX10 341 yX10_toldOf ∈ wsU := in_t8 (i := 70) rfl rfl
theorem wi_yX10_toldOf : Cond.instanceMethod yX10_toldOf ∈ wsU := in_t8 (i := 72) rfl rfl
theorem wm_X10_377 : Cond.methodLink RX10 377 yX10_readReversed ∈ wsU := in_t8 (i := 80) rfl rfl
theorem wi_yX10_readReversed : Cond.instanceMethod yX10_readReversed ∈ wsU := in_t8 (i := 82) rfl rfl
theorem wm_X10_382 : Cond.methodLink RX10 382 yX10_readRule ∈ wsU := in_t8 (i := 85) rfl rfl
theorem wi_yX10_readRule : Cond.instanceMethod yX10_readRule ∈ wsU := in_t8 (i := 87) rfl rfl
theorem wm_X10_389 : Cond.methodLink RX10 389 yX10_must ∈ wsU := in_t8 (i := 91) rfl rfl
theorem wi_yX10_must : Cond.instanceMethod yX10_must ∈ wsU := in_t8 (i := 93) rfl rfl
theorem wm_X10_293 : Cond.methodLink RX10 293 yX10_isSign ∈ wsU := in_t8 (i := 95) rfl rfl
theorem wi_yX10_isSign : Cond.instanceMethod yX10_isSign ∈ wsU := in_t8 (i := 97) rfl rfl
theorem wm_X10_398 : Cond.methodLink RX10 398 yX10_ends ∈ wsU := in_t8 (i := 99) rfl rfl
theorem wi_yX10_ends : Cond.instanceMethod yX10_ends ∈ wsU := in_t8 (i := 101) rfl rfl
theorem wm_L_205 : Cond.methodLink RL 205 yX10_ask ∈ wsU := in_t8 (i := 103) rfl rfl
theorem wi_yX10_ask : Cond.instanceMethod yX10_ask ∈ wsU := in_t8 (i := 104) rfl rfl
theorem wsl_yX10_ask : Cond.selects RX10 yX10_ask yX10_ask ∈ wsU := in_t8 (i := 105) rfl rfl
theorem wm_X10_452 : Cond.methodLink RX10 452 yX10_readQuestion ∈ wsU := in_t8 (i := 108) rfl rfl
theorem wi_yX10_readQuestion : Cond.instanceMethod yX10_readQuestion ∈ wsU := in_t8 (i := 110) rfl rfl
theorem wm_X10_435 : Cond.methodLink RX10 435 yX10_readTest ∈ wsU := in_t8 (i := 113) rfl rfl
theorem wi_yX10_readTest : Cond.instanceMethod yX10_readTest ∈ wsU := in_t8 (i := 115) rfl rfl
theorem wm_X10_443 : Cond.methodLink RX10 443 yX10_readBoth ∈ wsU := in_t8 (i := 117) rfl rfl
theorem wi_yX10_readBoth : Cond.instanceMethod yX10_readBoth ∈ wsU := in_t8 (i := 119) rfl rfl
theorem wm_X10_432 : Cond.methodLink RX10 432 yX10_readFact ∈ wsU := in_t8 (i := 121) rfl rfl
theorem wi_yX10_readFact : Cond.instanceMethod yX10_readFact ∈ wsU := in_t8 (i := 123) rfl rfl
theorem wm_X10_429 : Cond.methodLink RX10 429 yX10_goesIn ∈ wsU := in_t8 (i := 126) rfl rfl
theorem wi_yX10_goesIn : Cond.instanceMethod yX10_goesIn ∈ wsU := in_t8 (i := 128) rfl rfl
theorem wm_X10_438 : Cond.methodLink RX10 438 yX10_readValue ∈ wsU := in_t8 (i := 130) rfl rfl
theorem wi_yX10_readValue : Cond.instanceMethod yX10_readValue ∈ wsU := in_t8 (i := 132) rfl rfl
theorem wm_X10_401 : Cond.methodLink RX10 401 yX10_wordHere ∈ wsU := in_t8 (i := 134) rfl rfl
theorem wi_yX10_wordHere : Cond.instanceMethod yX10_wordHere ∈ wsU := in_t8 (i := 136) rfl rfl
theorem wm_X10_407 : Cond.methodLink RX10 407 yX10_valueOf ∈ wsU := in_t8 (i := 147) rfl rfl
theorem wi_yX10_valueOf : Cond.instanceMethod yX10_valueOf ∈ wsU := in_t8 (i := 149) rfl rfl
theorem wk_X10_455 : Cond.constant RX10 455 (-1000000000) ∈ wsU := in_t8 (i := 153) rfl rfl
theorem warr_long : Cond.arrayClass .long ∈ wsU := in_t8 (i := 154) rfl rfl
theorem wf_J0_9 : Cond.fieldLink RJ0 9 "java/lang/String" "value" "[B" ∈ wsU := in_t8 (i := 171) rfl rfl
theorem wf_J0_15 : Cond.fieldLink RJ0 15 "java/lang/String" "coder" "B" ∈ wsU := in_t8 (i := 172) rfl rfl
theorem wsl_yX0_takeBackOf : Cond.selects RX0 yX0_takeBackOf yX0_takeBackOf ∈ wsU := in_pv (i := 0) rfl rfl
theorem wsl_yX2_reachOf : Cond.selects RX2 yX2_reachOf yX2_reachOf ∈ wsU := in_pv (i := 1) rfl rfl
theorem wsl_yX9_startAnewFrom : Cond.selects RX9 yX9_startAnewFrom yX9_startAnewFrom ∈ wsU := in_pv (i := 2) rfl rfl
theorem wsl_yX7_passRow : Cond.selects RX7 yX7_passRow yX7_passRow ∈ wsU := in_pv (i := 4) rfl rfl
theorem wsl_yX8_readLine : Cond.selects RX8 yX8_readLine yX8_readLine ∈ wsU := in_pv (i := 5) rfl rfl
theorem wsl_yX8_readPerson : Cond.selects RX8 yX8_readPerson yX8_readPerson ∈ wsU := in_pv (i := 6) rfl rfl
theorem wsl_yX8_personNamed : Cond.selects RX8 yX8_personNamed yX8_personNamed ∈ wsU := in_pv (i := 7) rfl rfl
theorem wsl_yX8_readLink : Cond.selects RX8 yX8_readLink yX8_readLink ∈ wsU := in_pv (i := 8) rfl rfl
theorem wsl_yX8_passName : Cond.selects RX8 yX8_passName yX8_passName ∈ wsU := in_pv (i := 9) rfl rfl
theorem wsl_yX8_passNumber : Cond.selects RX8 yX8_passNumber yX8_passNumber ∈ wsU := in_pv (i := 10) rfl rfl
theorem wsl_yX8_readSuit : Cond.selects RX8 yX8_readSuit yX8_readSuit ∈ wsU := in_pv (i := 11) rfl rfl
theorem wsl_yX8_passSet : Cond.selects RX8 yX8_passSet yX8_passSet ∈ wsU := in_pv (i := 12) rfl rfl
theorem wsl_yX8_readJudged : Cond.selects RX8 yX8_readJudged yX8_readJudged ∈ wsU := in_pv (i := 13) rfl rfl
theorem wsl_yX8_passSuit : Cond.selects RX8 yX8_passSuit yX8_passSuit ∈ wsU := in_pv (i := 14) rfl rfl
theorem wsl_yX8_readReversed : Cond.selects RX8 yX8_readReversed yX8_readReversed ∈ wsU := in_pv (i := 15) rfl rfl
theorem wsl_yX8_readRule : Cond.selects RX8 yX8_readRule yX8_readRule ∈ wsU := in_pv (i := 16) rfl rfl
theorem wsl_yX9_needPerson : Cond.selects RX9 yX9_needPerson yX9_needPerson ∈ wsU := in_pv (i := 17) rfl rfl
theorem wsl_yX9_needLink : Cond.selects RX9 yX9_needLink yX9_needLink ∈ wsU := in_pv (i := 18) rfl rfl
theorem wsl_yX9_suitAt : Cond.selects RX9 yX9_suitAt yX9_suitAt ∈ wsU := in_pv (i := 19) rfl rfl
theorem wsl_yX9_needSide : Cond.selects RX9 yX9_needSide yX9_needSide ∈ wsU := in_pv (i := 20) rfl rfl
theorem wsl_yX2_goBack : Cond.selects RX2 yX2_goBack yX2_goBack ∈ wsU := in_pv (i := 21) rfl rfl
theorem wsl_yX2_linkTo : Cond.selects RX2 yX2_linkTo yX2_linkTo ∈ wsU := in_pv (i := 22) rfl rfl
theorem wsl_yX2_barsWhatComes : Cond.selects RX2 yX2_barsWhatComes yX2_barsWhatComes ∈ wsU := in_pv (i := 23) rfl rfl
theorem wsl_yX2_heldBy : Cond.selects RX2 yX2_heldBy yX2_heldBy ∈ wsU := in_pv (i := 24) rfl rfl
theorem wsl_yX2_holdsAgainst : Cond.selects RX2 yX2_holdsAgainst yX2_holdsAgainst ∈ wsU := in_pv (i := 25) rfl rfl
theorem wsl_yX2_countsOverHolder : Cond.selects RX2 yX2_countsOverHolder yX2_countsOverHolder ∈ wsU := in_pv (i := 26) rfl rfl
theorem wsl_yX2_setHolder : Cond.selects RX2 yX2_setHolder yX2_setHolder ∈ wsU := in_pv (i := 27) rfl rfl
theorem wsl_yX9_needIssue : Cond.selects RX9 yX9_needIssue yX9_needIssue ∈ wsU := in_pv (i := 28) rfl rfl
theorem wsl_yX2_measure : Cond.selects RX2 yX2_measure yX2_measure ∈ wsU := in_pv (i := 29) rfl rfl
theorem wsl_yX9_needCouple : Cond.selects RX9 yX9_needCouple yX9_needCouple ∈ wsU := in_pv (i := 30) rfl rfl
theorem wsl_yX1_anyHolds : Cond.selects RX1 yX1_anyHolds yX1_anyHolds ∈ wsU := in_pv (i := 31) rfl rfl
theorem wsl_yX1_allHold : Cond.selects RX1 yX1_allHold yX1_allHold ∈ wsU := in_pv (i := 32) rfl rfl
theorem wsl_yX1_factHolds : Cond.selects RX1 yX1_factHolds yX1_factHolds ∈ wsU := in_pv (i := 33) rfl rfl
theorem wsl_yX1_compare : Cond.selects RX1 yX1_compare yX1_compare ∈ wsU := in_pv (i := 34) rfl rfl
theorem wsl_yX1_readValue : Cond.selects RX1 yX1_readValue yX1_readValue ∈ wsU := in_pv (i := 35) rfl rfl
theorem wsl_yX1_wordNumber : Cond.selects RX1 yX1_wordNumber yX1_wordNumber ∈ wsU := in_pv (i := 36) rfl rfl
theorem wsl_yX10_judgedOnes : Cond.selects RX10 yX10_judgedOnes yX10_judgedOnes ∈ wsU := in_pv (i := 37) rfl rfl
theorem wsl_yX10_suits : Cond.selects RX10 yX10_suits yX10_suits ∈ wsU := in_pv (i := 38) rfl rfl
theorem wsl_yX10_isJudged : Cond.selects RX10 yX10_isJudged yX10_isJudged ∈ wsU := in_pv (i := 39) rfl rfl
theorem wsl_yX10_of : Cond.selects RX10 yX10_of yX10_of ∈ wsU := in_pv (i := 40) rfl rfl
theorem wsl_yX10_isReversed : Cond.selects RX10 yX10_isReversed yX10_isReversed ∈ wsU := in_pv (i := 41) rfl rfl
theorem wsl_yX10_clashes : Cond.selects RX10 yX10_clashes yX10_clashes ∈ wsU := in_pv (i := 42) rfl rfl
theorem wsl_yX10_layBound : Cond.selects RX10 yX10_layBound yX10_layBound ∈ wsU := in_pv (i := 43) rfl rfl
theorem wsl_yX10_boundBy : Cond.selects RX10 yX10_boundBy yX10_boundBy ∈ wsU := in_pv (i := 44) rfl rfl
theorem wsl_yX10_links : Cond.selects RX10 yX10_links yX10_links ∈ wsU := in_pv (i := 45) rfl rfl
theorem wsl_yX10_linkOf : Cond.selects RX10 yX10_linkOf yX10_linkOf ∈ wsU := in_pv (i := 46) rfl rfl
theorem wsl_yX10_binds : Cond.selects RX10 yX10_binds yX10_binds ∈ wsU := in_pv (i := 47) rfl rfl
theorem wsl_yX10_clashOf : Cond.selects RX10 yX10_clashOf yX10_clashOf ∈ wsU := in_pv (i := 48) rfl rfl
theorem wsl_yX10_settledOf : Cond.selects RX10 yX10_settledOf yX10_settledOf ∈ wsU := in_pv (i := 49) rfl rfl
theorem wsl_yX10_necessaryOf : Cond.selects RX10 yX10_necessaryOf yX10_necessaryOf ∈ wsU := in_pv (i := 50) rfl rfl
theorem wsl_yX10_winsOf : Cond.selects RX10 yX10_winsOf yX10_winsOf ∈ wsU := in_pv (i := 51) rfl rfl
theorem wsl_yX10_isOnMerits : Cond.selects RX10 yX10_isOnMerits yX10_isOnMerits ∈ wsU := in_pv (i := 52) rfl rfl
theorem wsl_yX10_groundsOf : Cond.selects RX10 yX10_groundsOf yX10_groundsOf ∈ wsU := in_pv (i := 53) rfl rfl
theorem wsl_yX10_fail : Cond.selects RX10 yX10_fail yX10_fail ∈ wsU := in_pv (i := 54) rfl rfl
theorem wsl_yX10_isPerson : Cond.selects RX10 yX10_isPerson yX10_isPerson ∈ wsU := in_pv (i := 55) rfl rfl
theorem wsl_yX10_persons : Cond.selects RX10 yX10_persons yX10_persons ∈ wsU := in_pv (i := 56) rfl rfl
theorem wsl_yX10_isSuit : Cond.selects RX10 yX10_isSuit yX10_isSuit ∈ wsU := in_pv (i := 57) rfl rfl
theorem wsl_yX10_layAway : Cond.selects RX10 yX10_layAway yX10_layAway ∈ wsU := in_pv (i := 58) rfl rfl
theorem wsl_yX10_nearer : Cond.selects RX10 yX10_nearer yX10_nearer ∈ wsU := in_pv (i := 59) rfl rfl
theorem wsl_yX10_areSame : Cond.selects RX10 yX10_areSame yX10_areSame ∈ wsU := in_pv (i := 60) rfl rfl
theorem wsl_yX10_isBarredBy : Cond.selects RX10 yX10_isBarredBy yX10_isBarredBy ∈ wsU := in_pv (i := 61) rfl rfl
theorem wsl_yX10_comesBehind : Cond.selects RX10 yX10_comesBehind yX10_comesBehind ∈ wsU := in_pv (i := 62) rfl rfl
theorem wsl_yX10_isBoundBy : Cond.selects RX10 yX10_isBoundBy yX10_isBoundBy ∈ wsU := in_pv (i := 63) rfl rfl
theorem wsl_yX10_standsOn : Cond.selects RX10 yX10_standsOn yX10_standsOn ∈ wsU := in_pv (i := 64) rfl rfl
theorem wsl_yX10_holderOf : Cond.selects RX10 yX10_holderOf yX10_holderOf ∈ wsU := in_pv (i := 65) rfl rfl
theorem wsl_yX10_holds : Cond.selects RX10 yX10_holds yX10_holds ∈ wsU := in_pv (i := 66) rfl rfl
theorem wsl_yX10_foundYes : Cond.selects RX10 yX10_foundYes yX10_foundYes ∈ wsU := in_pv (i := 67) rfl rfl
theorem wsl_yX10_isBoundAtAll : Cond.selects RX10 yX10_isBoundAtAll yX10_isBoundAtAll ∈ wsU := in_pv (i := 68) rfl rfl
theorem wsl_yX10_barsOf : Cond.selects RX10 yX10_barsOf yX10_barsOf ∈ wsU := in_pv (i := 69) rfl rfl
theorem wsl_yX10_issuesOf : Cond.selects RX10 yX10_issuesOf yX10_issuesOf ∈ wsU := in_pv (i := 70) rfl rfl
theorem wsl_yX10_holdersOf : Cond.selects RX10 yX10_holdersOf yX10_holdersOf ∈ wsU := in_pv (i := 71) rfl rfl
theorem wsl_yX10_heldOf : Cond.selects RX10 yX10_heldOf yX10_heldOf ∈ wsU := in_pv (i := 72) rfl rfl
theorem wsl_yX10_forcedOf : Cond.selects RX10 yX10_forcedOf yX10_forcedOf ∈ wsU := in_pv (i := 73) rfl rfl
theorem wsl_yX10_heldYesOf : Cond.selects RX10 yX10_heldYesOf yX10_heldYesOf ∈ wsU := in_pv (i := 74) rfl rfl
theorem wsl_yX10_standing : Cond.selects RX10 yX10_standing yX10_standing ∈ wsU := in_pv (i := 75) rfl rfl
theorem wsl_yX10_allStanding : Cond.selects RX10 yX10_allStanding yX10_allStanding ∈ wsU := in_pv (i := 76) rfl rfl
theorem wsl_yX10_layThen : Cond.selects RX10 yX10_layThen yX10_layThen ∈ wsU := in_pv (i := 77) rfl rfl
theorem wsl_yX10_put : Cond.selects RX10 yX10_put yX10_put ∈ wsU := in_pv (i := 78) rfl rfl
theorem wsl_yX10_changed : Cond.selects RX10 yX10_changed yX10_changed ∈ wsU := in_pv (i := 79) rfl rfl
theorem wsl_yX10_lay : Cond.selects RX10 yX10_lay yX10_lay ∈ wsU := in_pv (i := 80) rfl rfl
theorem wsl_yX10_writes : Cond.selects RX10 yX10_writes yX10_writes ∈ wsU := in_pv (i := 81) rfl rfl
theorem wsl_yX10_writesNumber : Cond.selects RX10 yX10_writesNumber yX10_writesNumber ∈ wsU := in_pv (i := 82) rfl rfl
theorem wsl_yX10_keep : Cond.selects RX10 yX10_keep yX10_keep ∈ wsU := in_pv (i := 83) rfl rfl
theorem wsl_yX10_sets : Cond.selects RX10 yX10_sets yX10_sets ∈ wsU := in_pv (i := 84) rfl rfl
theorem wsl_yX10_opens : Cond.selects RX10 yX10_opens yX10_opens ∈ wsU := in_pv (i := 85) rfl rfl
theorem wsl_yX10_step : Cond.selects RX10 yX10_step yX10_step ∈ wsU := in_pv (i := 86) rfl rfl
theorem wsl_yX10_byteAt : Cond.selects RX10 yX10_byteAt yX10_byteAt ∈ wsU := in_pv (i := 87) rfl rfl
theorem wsl_yX10_readLine : Cond.selects RX10 yX10_readLine yX10_readLine ∈ wsU := in_pv (i := 88) rfl rfl
theorem wsl_yX10_isWord : Cond.selects RX10 yX10_isWord yX10_isWord ∈ wsU := in_pv (i := 89) rfl rfl
theorem wsl_yX10_readPerson : Cond.selects RX10 yX10_readPerson yX10_readPerson ∈ wsU := in_pv (i := 90) rfl rfl
theorem wsl_yX10_wrong : Cond.selects RX10 yX10_wrong yX10_wrong ∈ wsU := in_pv (i := 91) rfl rfl
theorem wsl_yX10_pass : Cond.selects RX10 yX10_pass yX10_pass ∈ wsU := in_pv (i := 92) rfl rfl
theorem wsl_yX10_isName : Cond.selects RX10 yX10_isName yX10_isName ∈ wsU := in_pv (i := 93) rfl rfl
theorem wsl_yX10_named : Cond.selects RX10 yX10_named yX10_named ∈ wsU := in_pv (i := 94) rfl rfl
theorem wsl_yX10_letterHere : Cond.selects RX10 yX10_letterHere yX10_letterHere ∈ wsU := in_pv (i := 95) rfl rfl
theorem wsl_yX10_readLink : Cond.selects RX10 yX10_readLink yX10_readLink ∈ wsU := in_pv (i := 96) rfl rfl
theorem wsl_yX10_readKnown : Cond.selects RX10 yX10_readKnown yX10_readKnown ∈ wsU := in_pv (i := 97) rfl rfl
theorem wsl_yX10_number : Cond.selects RX10 yX10_number yX10_number ∈ wsU := in_pv (i := 98) rfl rfl
theorem wsl_yX10_numberHere : Cond.selects RX10 yX10_numberHere yX10_numberHere ∈ wsU := in_pv (i := 99) rfl rfl
theorem wsl_yX10_readSuit : Cond.selects RX10 yX10_readSuit yX10_readSuit ∈ wsU := in_pv (i := 100) rfl rfl
theorem wsl_yX10_readSet : Cond.selects RX10 yX10_readSet yX10_readSet ∈ wsU := in_pv (i := 101) rfl rfl
theorem wsl_yX10_readJudged : Cond.selects RX10 yX10_readJudged yX10_readJudged ∈ wsU := in_pv (i := 102) rfl rfl
theorem wsl_yX10_toldOf : Cond.selects RX10 yX10_toldOf yX10_toldOf ∈ wsU := in_pv (i := 103) rfl rfl
theorem wsl_yX10_readReversed : Cond.selects RX10 yX10_readReversed yX10_readReversed ∈ wsU := in_pv (i := 104) rfl rfl
theorem wsl_yX10_readRule : Cond.selects RX10 yX10_readRule yX10_readRule ∈ wsU := in_pv (i := 105) rfl rfl
theorem wsl_yX10_must : Cond.selects RX10 yX10_must yX10_must ∈ wsU := in_pv (i := 106) rfl rfl
theorem wsl_yX10_isSign : Cond.selects RX10 yX10_isSign yX10_isSign ∈ wsU := in_pv (i := 107) rfl rfl
theorem wsl_yX10_ends : Cond.selects RX10 yX10_ends yX10_ends ∈ wsU := in_pv (i := 108) rfl rfl
theorem wsl_yX10_readQuestion : Cond.selects RX10 yX10_readQuestion yX10_readQuestion ∈ wsU := in_pv (i := 109) rfl rfl
theorem wsl_yX10_readTest : Cond.selects RX10 yX10_readTest yX10_readTest ∈ wsU := in_pv (i := 110) rfl rfl
theorem wsl_yX10_readBoth : Cond.selects RX10 yX10_readBoth yX10_readBoth ∈ wsU := in_pv (i := 111) rfl rfl
theorem wsl_yX10_readFact : Cond.selects RX10 yX10_readFact yX10_readFact ∈ wsU := in_pv (i := 112) rfl rfl
theorem wsl_yX10_goesIn : Cond.selects RX10 yX10_goesIn yX10_goesIn ∈ wsU := in_pv (i := 113) rfl rfl
theorem wsl_yX10_readValue : Cond.selects RX10 yX10_readValue yX10_readValue ∈ wsU := in_pv (i := 114) rfl rfl
theorem wsl_yX10_wordHere : Cond.selects RX10 yX10_wordHere yX10_wordHere ∈ wsU := in_pv (i := 115) rfl rfl
theorem wsl_yX10_valueOf : Cond.selects RX10 yX10_valueOf yX10_valueOf ∈ wsU := in_pv (i := 116) rfl rfl
theorem wc_yX9_init : Cond.code yX9_init cX9_init 1 none ∈ wsU := in_t1 (i := 29) rfl rfl
theorem wc_yX7_init : Cond.code yX7_init cX7_init 1 none ∈ wsU := in_t1 (i := 37) rfl rfl
theorem wc_yX4_init : Cond.code yX4_init cX4_init 2 none ∈ wsU := in_t1 (i := 81) rfl rfl
theorem wc_yX4_clear : Cond.code yX4_clear cX4_clear 1 none ∈ wsU := in_t1 (i := 90) rfl rfl
theorem wc_yX3_init : Cond.code yX3_init cX3_init 1 none ∈ wsU := in_t1 (i := 94) rfl rfl
theorem wc_yX6_init : Cond.code yX6_init cX6_init 2 none ∈ wsU := in_t1 (i := 123) rfl rfl
theorem wc_yX8_init : Cond.code yX8_init cX8_init 3 none ∈ wsU := in_t2 (i := 27) rfl rfl
theorem wc_yX2_init : Cond.code yX2_init cX2_init 2 none ∈ wsU := in_t2 (i := 40) rfl rfl
theorem wc_yX1_init : Cond.code yX1_init cX1_init 2 none ∈ wsU := in_t2 (i := 73) rfl rfl
theorem wc_yX0_init : Cond.code yX0_init cX0_init 1 none ∈ wsU := in_t2 (i := 96) rfl rfl
theorem wc_yX5_init : Cond.code yX5_init cX5_init 1 none ∈ wsU := in_t2 (i := 110) rfl rfl
theorem wc_yX9_feed : Cond.code yX9_feed cX9_feed 6 (some .int) ∈ wsU := in_t2 (i := 160) rfl rfl
theorem wc_yX7_take : Cond.code yX7_take cX7_take 3 none ∈ wsU := in_t2 (i := 164) rfl rfl
theorem wc_yX9_fault : Cond.code yX9_fault cX9_fault 1 (some .int) ∈ wsU := in_t2 (i := 168) rfl rfl
theorem wc_yX9_said : Cond.code yX9_said cX9_said 2 (some .int) ∈ wsU := in_t2 (i := 172) rfl rfl
theorem wc_yX9_undo : Cond.code yX9_undo cX9_undo 1 (some .int) ∈ wsU := in_t2 (i := 176) rfl rfl
theorem wc_yX0_takeBack : Cond.code yX0_takeBack cX0_takeBack 5 none ∈ wsU := in_t2 (i := 180) rfl rfl
theorem wc_yX4_removeLink : Cond.code yX4_removeLink cX4_removeLink 4 none ∈ wsU := in_t2 (i := 184) rfl rfl
theorem wc_yX4_insertLink : Cond.code yX4_insertLink cX4_insertLink 8 none ∈ wsU := in_t2 (i := 188) rfl rfl
theorem wc_yX0_takeBackOf : Cond.code yX0_takeBackOf cX0_takeBackOf 3 none ∈ wsU := in_t2 (i := 192) rfl rfl
theorem wc_yX6_decide : Cond.code yX6_decide cX6_decide 3 none ∈ wsU := in_t2 (i := 196) rfl rfl
theorem wc_yX2_refresh : Cond.code yX2_refresh cX2_refresh 4 none ∈ wsU := in_t2 (i := 200) rfl rfl
theorem wc_yX6_settledIssues : Cond.code yX6_settledIssues cX6_settledIssues 2 (some .int) ∈ wsU := in_t2 (i := 204) rfl rfl
theorem wc_yX6_necessaryIssues : Cond.code yX6_necessaryIssues cX6_necessaryIssues 4 (some .int) ∈ wsU := in_t2 (i := 208) rfl rfl
theorem wc_yX6_winner : Cond.code yX6_winner cX6_winner 1 (some .int) ∈ wsU := in_t2 (i := 212) rfl rfl
theorem wc_yX6_isJudged : Cond.code yX6_isJudged cX6_isJudged 1 (some .boolean) ∈ wsU := in_t2 (i := 216) rfl rfl
theorem wc_yJ6_bitCount_0f7a4 : Cond.code yJ6_bitCount_0f7a4 cJ6_bitCount_0f7a4 1 (some .int) ∈ wsU := in_t2 (i := 219) rfl rfl
theorem wc_yX2_reachOf : Cond.code yX2_reachOf cX2_reachOf 8 (some .int) ∈ wsU := in_t2 (i := 226) rfl rfl
theorem wc_yX3_carries : Cond.code yX3_carries cX3_carries 2 (some .boolean) ∈ wsU := in_t2 (i := 231) rfl rfl
theorem wc_yX3_isRuler : Cond.code yX3_isRuler cX3_isRuler 1 (some .boolean) ∈ wsU := in_t2 (i := 235) rfl rfl
theorem wc_yX9_image : Cond.code yX9_image cX9_image 1 none ∈ wsU := in_t2 (i := 239) rfl rfl
theorem wc_yX4_become : Cond.code yX4_become cX4_become 3 none ∈ wsU := in_t3 (i := 3) rfl rfl
theorem wc_yX3_become : Cond.code yX3_become cX3_become 2 none ∈ wsU := in_t3 (i := 10) rfl rfl
theorem wc_yX6_become : Cond.code yX6_become cX6_become 2 none ∈ wsU := in_t3 (i := 14) rfl rfl
theorem wc_yX9_back : Cond.code yX9_back cX9_back 1 (some .boolean) ∈ wsU := in_t3 (i := 18) rfl rfl
theorem wc_yX9_startAnewFrom : Cond.code yX9_startAnewFrom cX9_startAnewFrom 2 none ∈ wsU := in_t3 (i := 22) rfl rfl
theorem wc_yL_desk : Cond.codeWith yL_desk cL_desk 4 (some .int) [(0, 9, 12, 13)] ∈ wsU := in_t3 (i := 25) rfl rfl
theorem wc_yX9_desk : Cond.code yX9_desk cX9_desk 2 (some .int) ∈ wsU := in_t3 (i := 30) rfl rfl
theorem wc_yX8_read : Cond.code yX8_read cX8_read 3 none ∈ wsU := in_t3 (i := 100) rfl rfl
theorem wc_yX7_open : Cond.code yX7_open cX7_open 2 none ∈ wsU := in_t3 (i := 105) rfl rfl
theorem wc_yJ9_min_7cf53 : Cond.code yJ9_min_7cf53 cJ9_min_7cf53 2 (some .int) ∈ wsU := in_t3 (i := 108) rfl rfl
theorem wc_yX7_advance : Cond.code yX7_advance cX7_advance 1 none ∈ wsU := in_t3 (i := 112) rfl rfl
theorem wc_yX7_kindOf : Cond.code yX7_kindOf cX7_kindOf 1 (some .int) ∈ wsU := in_t3 (i := 115) rfl rfl
theorem wc_yX7_passRow : Cond.code yX7_passRow cX7_passRow 1 none ∈ wsU := in_t3 (i := 119) rfl rfl
theorem wc_yX8_readLine : Cond.code yX8_readLine cX8_readLine 1 none ∈ wsU := in_t3 (i := 123) rfl rfl
theorem wc_yX7_isWord : Cond.code yX7_isWord cX7_isWord 3 (some .boolean) ∈ wsU := in_t3 (i := 128) rfl rfl
theorem wc_yJ0_length_8abf5 : Cond.code yJ0_length_8abf5 cJ0_length_8abf5 1 (some .int) ∈ wsU := in_t3 (i := 132) rfl rfl
theorem wc_yJ0_coder_7d493 : Cond.code yJ0_coder_7d493 cJ0_coder_7d493 1 (some .byte) ∈ wsU := in_t3 (i := 136) rfl rfl
theorem wc_yJ0_charAt_5068e : Cond.code yJ0_charAt_5068e cJ0_charAt_5068e 2 (some .char) ∈ wsU := in_t3 (i := 142) rfl rfl
theorem wc_yJ0_isLatin1_aae02 : Cond.code yJ0_isLatin1_aae02 cJ0_isLatin1_aae02 1 (some .boolean) ∈ wsU := in_t3 (i := 146) rfl rfl
theorem wc_yJ1_charAt_3b067 : Cond.code yJ1_charAt_3b067 cJ1_charAt_3b067 2 (some .char) ∈ wsU := in_t3 (i := 149) rfl rfl
theorem wc_yJ0_checkIndex_df160 : Cond.code yJ0_checkIndex_df160 cJ0_checkIndex_df160 2 none ∈ wsU := in_t3 (i := 152) rfl rfl
theorem wc_yJ3_checkIndex_8e157 : Cond.code yJ3_checkIndex_8e157 cJ3_checkIndex_8e157 3 (some .int) ∈ wsU := in_t3 (i := 157) rfl rfl
theorem wc_yJ2_charAt_3b067 : Cond.code yJ2_charAt_3b067 cJ2_charAt_3b067 2 (some .char) ∈ wsU := in_t3 (i := 160) rfl rfl
theorem wc_yJ2_checkIndex_2214a : Cond.code yJ2_checkIndex_2214a cJ2_checkIndex_2214a 2 none ∈ wsU := in_t3 (i := 163) rfl rfl
theorem wc_yJ2_length_9d52b : Cond.code yJ2_length_9d52b cJ2_length_9d52b 1 (some .int) ∈ wsU := in_t3 (i := 166) rfl rfl
theorem wc_yJ2_getChar_3b067 : Cond.code yJ2_getChar_3b067 cJ2_getChar_3b067 2 (some .char) ∈ wsU := in_t3 (i := 170) rfl rfl
theorem wc_yX8_readPerson : Cond.code yX8_readPerson cX8_readPerson 2 none ∈ wsU := in_t3 (i := 180) rfl rfl
theorem wc_yX7_fail : Cond.code yX7_fail cX7_fail 2 none ∈ wsU := in_t3 (i := 184) rfl rfl
theorem wc_yX7_isName : Cond.code yX7_isName cX7_isName 1 (some .boolean) ∈ wsU := in_t3 (i := 189) rfl rfl
theorem wc_yX8_personNamed : Cond.code yX8_personNamed cX8_personNamed 4 (some .int) ∈ wsU := in_t3 (i := 195) rfl rfl
theorem wc_yX7_letterOf : Cond.code yX7_letterOf cX7_letterOf 2 (some .int) ∈ wsU := in_t3 (i := 199) rfl rfl
theorem wc_yX8_readLink : Cond.code yX8_readLink cX8_readLink 6 none ∈ wsU := in_t3 (i := 204) rfl rfl
theorem wc_yX8_passName : Cond.code yX8_passName cX8_passName 3 (some .int) ∈ wsU := in_t3 (i := 208) rfl rfl
theorem wc_yX8_passNumber : Cond.code yX8_passNumber cX8_passNumber 4 (some .int) ∈ wsU := in_t3 (i := 212) rfl rfl
theorem wc_yX8_readSuit : Cond.code yX8_readSuit cX8_readSuit 2 none ∈ wsU := in_t3 (i := 219) rfl rfl
theorem wc_yX8_passSet : Cond.code yX8_passSet cX8_passSet 6 (some .int) ∈ wsU := in_t3 (i := 226) rfl rfl
theorem wc_yX8_readJudged : Cond.code yX8_readJudged cX8_readJudged 4 none ∈ wsU := in_t3 (i := 233) rfl rfl
theorem wc_yX8_passSuit : Cond.code yX8_passSuit cX8_passSuit 4 (some (.object "BarredSuits$Suit")) ∈ wsU := in_t3 (i := 237) rfl rfl
theorem wc_yX6_counts : Cond.code yX6_counts cX6_counts 1 (some .boolean) ∈ wsU := in_t4 (i := 1) rfl rfl
theorem wc_yX6_allIssues : Cond.code yX6_allIssues cX6_allIssues 1 (some .int) ∈ wsU := in_t4 (i := 9) rfl rfl
theorem wc_yX8_readReversed : Cond.code yX8_readReversed cX8_readReversed 2 none ∈ wsU := in_t4 (i := 16) rfl rfl
theorem wc_yX8_readRule : Cond.code yX8_readRule cX8_readRule 3 none ∈ wsU := in_t4 (i := 21) rfl rfl
theorem wc_yX4_leastOfRule : Cond.code yX4_leastOfRule cX4_leastOfRule 1 (some .int) ∈ wsU := in_t4 (i := 24) rfl rfl
theorem wc_yX4_mostOfRule : Cond.code yX4_mostOfRule cX4_mostOfRule 1 (some .int) ∈ wsU := in_t4 (i := 27) rfl rfl
theorem wc_yX7_passSign : Cond.code yX7_passSign cX7_passSign 2 none ∈ wsU := in_t4 (i := 33) rfl rfl
theorem wc_yX7_isSign : Cond.code yX7_isSign cX7_isSign 2 (some .boolean) ∈ wsU := in_t4 (i := 37) rfl rfl
theorem wc_yL_count : Cond.codeWith yL_count cL_count 4 (some .int) [(0, 9, 12, 18)] ∈ wsU := in_t4 (i := 41) rfl rfl
theorem wc_yX9_count : Cond.code yX9_count cX9_count 2 (some .int) ∈ wsU := in_t4 (i := 46) rfl rfl
theorem wc_yX4_judgedCount : Cond.code yX4_judgedCount cX4_judgedCount 3 (some .int) ∈ wsU := in_t4 (i := 50) rfl rfl
theorem wc_yX4_reversedCount : Cond.code yX4_reversedCount cX4_reversedCount 3 (some .int) ∈ wsU := in_t4 (i := 55) rfl rfl
theorem wc_yX2_clashCount : Cond.code yX2_clashCount cX2_clashCount 4 (some .int) ∈ wsU := in_t4 (i := 59) rfl rfl
theorem wc_yX2_clashingIssues : Cond.code yX2_clashingIssues cX2_clashingIssues 3 (some .int) ∈ wsU := in_t4 (i := 63) rfl rfl
theorem wc_yX6_boundAtAll : Cond.code yX6_boundAtAll cX6_boundAtAll 1 (some .int) ∈ wsU := in_t4 (i := 67) rfl rfl
theorem wc_yL_letter : Cond.codeWith yL_letter cL_letter 5 (some .int) [(0, 10, 13, 18)] ∈ wsU := in_t4 (i := 86) rfl rfl
theorem wc_yX9_letter : Cond.code yX9_letter cX9_letter 3 (some .int) ∈ wsU := in_t4 (i := 90) rfl rfl
theorem wc_yX9_needPerson : Cond.code yX9_needPerson cX9_needPerson 2 none ∈ wsU := in_t4 (i := 94) rfl rfl
theorem wc_yL_link : Cond.codeWith yL_link cL_link 5 (some .int) [(0, 10, 13, 18)] ∈ wsU := in_t4 (i := 99) rfl rfl
theorem wc_yX9_link : Cond.code yX9_link cX9_link 4 (some .int) ∈ wsU := in_t4 (i := 103) rfl rfl
theorem wc_yX9_needLink : Cond.code yX9_needLink cX9_needLink 2 none ∈ wsU := in_t4 (i := 107) rfl rfl
theorem wc_yL_suit : Cond.codeWith yL_suit cL_suit 5 (some .int) [(0, 10, 13, 18)] ∈ wsU := in_t4 (i := 113) rfl rfl
theorem wc_yX9_suit : Cond.code yX9_suit cX9_suit 4 (some .int) ∈ wsU := in_t4 (i := 117) rfl rfl
theorem wc_yX9_suitAt : Cond.code yX9_suitAt cX9_suitAt 2 (some (.object "BarredSuits$Suit")) ∈ wsU := in_t4 (i := 121) rfl rfl
theorem wc_yL_isBound : Cond.codeWith yL_isBound cL_isBound 6 (some .int) [(0, 19, 22, 18)] ∈ wsU := in_t4 (i := 128) rfl rfl
theorem wc_yX9_isBound : Cond.code yX9_isBound cX9_isBound 5 (some .boolean) ∈ wsU := in_t4 (i := 132) rfl rfl
theorem wc_yX9_needSide : Cond.code yX9_needSide cX9_needSide 2 none ∈ wsU := in_t4 (i := 136) rfl rfl
theorem wc_yX6_boundOn : Cond.code yX6_boundOn cX6_boundOn 2 (some .int) ∈ wsU := in_t4 (i := 141) rfl rfl
theorem wc_yL_chain : Cond.codeWith yL_chain cL_chain 7 (some .int) [(0, 14, 17, 18)] ∈ wsU := in_t4 (i := 144) rfl rfl
theorem wc_yX9_chain : Cond.code yX9_chain cX9_chain 7 (some .int) ∈ wsU := in_t4 (i := 148) rfl rfl
theorem wc_yX2_traceChain : Cond.code yX2_traceChain cX2_traceChain 12 (some .int) ∈ wsU := in_t4 (i := 152) rfl rfl
theorem wc_yJ7_fill_53178 : Cond.code yJ7_fill_53178 cJ7_fill_53178 4 none ∈ wsU := in_t4 (i := 155) rfl rfl
theorem wc_yX6_party : Cond.code yX6_party cX6_party 2 (some .int) ∈ wsU := in_t4 (i := 159) rfl rfl
theorem wc_yX2_isPerson : Cond.code yX2_isPerson cX2_isPerson 1 (some .boolean) ∈ wsU := in_t4 (i := 162) rfl rfl
theorem wc_yX2_goBack : Cond.code yX2_goBack cX2_goBack 4 (some .int) ∈ wsU := in_t4 (i := 166) rfl rfl
theorem wc_yX2_linkTo : Cond.code yX2_linkTo cX2_linkTo 2 (some .int) ∈ wsU := in_t4 (i := 170) rfl rfl
theorem wc_yX2_chainLink : Cond.code yX2_chainLink cX2_chainLink 4 (some .int) ∈ wsU := in_t4 (i := 175) rfl rfl
theorem wc_yL_two : Cond.codeWith yL_two cL_two 6 (some .int) [(0, 12, 15, 18)] ∈ wsU := in_t4 (i := 178) rfl rfl
theorem wc_yX9_two : Cond.code yX9_two cX9_two 6 (some .int) ∈ wsU := in_t4 (i := 182) rfl rfl
theorem wc_yX2_areSame : Cond.code yX2_areSame cX2_areSame 5 (some .boolean) ∈ wsU := in_t4 (i := 186) rfl rfl
theorem wc_yX2_barringSuits : Cond.code yX2_barringSuits cX2_barringSuits 5 (some .int) ∈ wsU := in_t4 (i := 192) rfl rfl
theorem wc_yX2_comesBehind : Cond.code yX2_comesBehind cX2_comesBehind 3 (some .boolean) ∈ wsU := in_t4 (i := 196) rfl rfl
theorem wc_yX2_barsWhatComes : Cond.code yX2_barsWhatComes cX2_barsWhatComes 7 (some .boolean) ∈ wsU := in_t4 (i := 201) rfl rfl
theorem wc_yX2_restsOn : Cond.code yX2_restsOn cX2_restsOn 5 (some .int) ∈ wsU := in_t4 (i := 207) rfl rfl
theorem wc_yX2_weigh : Cond.code yX2_weigh cX2_weigh 6 none ∈ wsU := in_t4 (i := 211) rfl rfl
theorem wc_yX2_heldBy : Cond.code yX2_heldBy cX2_heldBy 6 (some .int) ∈ wsU := in_t4 (i := 215) rfl rfl
theorem wc_yX2_holdsAgainst : Cond.code yX2_holdsAgainst cX2_holdsAgainst 8 (some .boolean) ∈ wsU := in_t4 (i := 219) rfl rfl
theorem wc_yX2_countsOverHolder : Cond.code yX2_countsOverHolder cX2_countsOverHolder 5 (some .boolean) ∈ wsU := in_t4 (i := 223) rfl rfl
theorem wc_yX2_setHolder : Cond.code yX2_setHolder cX2_setHolder 4 none ∈ wsU := in_t4 (i := 227) rfl rfl
theorem wc_yX9_lowestBit : Cond.code yX9_lowestBit cX9_lowestBit 2 (some .int) ∈ wsU := in_t4 (i := 231) rfl rfl
theorem wc_yL_barred : Cond.codeWith yL_barred cL_barred 4 (some .int) [(0, 9, 12, 18)] ∈ wsU := in_t4 (i := 235) rfl rfl
theorem wc_yX9_barred : Cond.code yX9_barred cX9_barred 2 (some .int) ∈ wsU := in_t4 (i := 239) rfl rfl
theorem wc_yL_held : Cond.codeWith yL_held cL_held 6 (some .int) [(0, 12, 15, 18)] ∈ wsU := in_t5 (i := 2) rfl rfl
theorem wc_yX9_held : Cond.code yX9_held cX9_held 6 (some .int) ∈ wsU := in_t5 (i := 6) rfl rfl
theorem wc_yX9_needIssue : Cond.code yX9_needIssue cX9_needIssue 3 none ∈ wsU := in_t5 (i := 10) rfl rfl
theorem wc_yX2_holderCount : Cond.code yX2_holderCount cX2_holderCount 5 (some .int) ∈ wsU := in_t5 (i := 17) rfl rfl
theorem wc_yL_issues : Cond.codeWith yL_issues cL_issues 5 (some .int) [(0, 10, 13, 18)] ∈ wsU := in_t5 (i := 21) rfl rfl
theorem wc_yX9_issues : Cond.code yX9_issues cX9_issues 5 (some .int) ∈ wsU := in_t5 (i := 25) rfl rfl
theorem wc_yX2_heldIssues : Cond.code yX2_heldIssues cX2_heldIssues 2 (some .int) ∈ wsU := in_t5 (i := 30) rfl rfl
theorem wc_yL_forced : Cond.codeWith yL_forced cL_forced 4 (some .int) [(0, 9, 12, 18)] ∈ wsU := in_t5 (i := 33) rfl rfl
theorem wc_yX9_forced : Cond.code yX9_forced cX9_forced 2 (some .int) ∈ wsU := in_t5 (i := 37) rfl rfl
theorem wc_yX2_forcedWay : Cond.code yX2_forcedWay cX2_forcedWay 2 (some .int) ∈ wsU := in_t5 (i := 41) rfl rfl
theorem wc_yL_say : Cond.codeWith yL_say cL_say 4 (some .int) [(0, 9, 12, 18)] ∈ wsU := in_t5 (i := 45) rfl rfl
theorem wc_yX9_say : Cond.code yX9_say cX9_say 6 (some .int) ∈ wsU := in_t5 (i := 49) rfl rfl
theorem wc_yX5_addHeld : Cond.code yX5_addHeld cX5_addHeld 4 none ∈ wsU := in_t5 (i := 53) rfl rfl
theorem wc_yX5_addSign : Cond.code yX5_addSign cX5_addSign 2 none ∈ wsU := in_t5 (i := 57) rfl rfl
theorem wc_yX5_addNumber : Cond.code yX5_addNumber cX5_addNumber 2 none ∈ wsU := in_t5 (i := 61) rfl rfl
theorem wc_yL_latest : Cond.codeWith yL_latest cL_latest 4 (some .int) [(0, 9, 12, 18)] ∈ wsU := in_t5 (i := 66) rfl rfl
theorem wc_yX9_latest : Cond.code yX9_latest cX9_latest 2 (some .int) ∈ wsU := in_t5 (i := 70) rfl rfl
theorem wc_yX2_latestBinding : Cond.code yX2_latestBinding cX2_latestBinding 7 (some .int) ∈ wsU := in_t5 (i := 74) rfl rfl
theorem wc_yL_goes : Cond.codeWith yL_goes cL_goes 5 (some .int) [(0, 10, 13, 18)] ∈ wsU := in_t5 (i := 77) rfl rfl
theorem wc_yX9_goes : Cond.code yX9_goes cX9_goes 4 (some .int) ∈ wsU := in_t5 (i := 81) rfl rfl
theorem wc_yX2_restingOn : Cond.code yX2_restingOn cX2_restingOn 4 (some .int) ∈ wsU := in_t5 (i := 87) rfl rfl
theorem wc_yX2_restingInTheEnd : Cond.code yX2_restingInTheEnd cX2_restingInTheEnd 5 (some .int) ∈ wsU := in_t5 (i := 92) rfl rfl
theorem wc_yX2_changedWithout : Cond.code yX2_changedWithout cX2_changedWithout 8 (some .int) ∈ wsU := in_t5 (i := 97) rfl rfl
theorem wc_yX2_measure : Cond.code yX2_measure cX2_measure 3 (some .int) ∈ wsU := in_t5 (i := 101) rfl rfl
theorem wc_yL_would : Cond.codeWith yL_would cL_would 9 (some .int) [(0, 18, 21, 18), (0, 18, 25, 13)] ∈ wsU := in_t5 (i := 106) rfl rfl
theorem wc_yX9_would : Cond.code yX9_would cX9_would 7 (some .int) ∈ wsU := in_t5 (i := 110) rfl rfl
theorem wc_yX9_needCouple : Cond.code yX9_needCouple cX9_needCouple 3 none ∈ wsU := in_t5 (i := 115) rfl rfl
theorem wc_yX9_isDay : Cond.code yX9_isDay cX9_isDay 1 (some .boolean) ∈ wsU := in_t5 (i := 119) rfl rfl
theorem wc_yL_freeTill : Cond.codeWith yL_freeTill cL_freeTill 4 (some .int) [(0, 9, 12, 18)] ∈ wsU := in_t5 (i := 123) rfl rfl
theorem wc_yX9_freeTill : Cond.code yX9_freeTill cX9_freeTill 2 (some .int) ∈ wsU := in_t5 (i := 127) rfl rfl
theorem wc_yX2_lastFreeDay : Cond.code yX2_lastFreeDay cX2_lastFreeDay 6 (some .int) ∈ wsU := in_t5 (i := 131) rfl rfl
theorem wc_yL_against : Cond.codeWith yL_against cL_against 4 (some .int) [(0, 9, 12, 18)] ∈ wsU := in_t5 (i := 134) rfl rfl
theorem wc_yX9_against : Cond.code yX9_against cX9_against 2 (some .int) ∈ wsU := in_t5 (i := 138) rfl rfl
theorem wc_yX2_boundOverIssue : Cond.code yX2_boundOverIssue cX2_boundOverIssue 5 (some .int) ∈ wsU := in_t5 (i := 143) rfl rfl
theorem wc_yL_judge : Cond.codeWith yL_judge cL_judge 6 (some .int) [(0, 19, 22, 18), (0, 19, 26, 13)] ∈ wsU := in_t5 (i := 146) rfl rfl
theorem wc_yX9_judge : Cond.code yX9_judge cX9_judge 5 (some .boolean) ∈ wsU := in_t5 (i := 150) rfl rfl
theorem wc_yX0_note : Cond.code yX0_note cX0_note 8 none ∈ wsU := in_t5 (i := 156) rfl rfl
theorem wc_yL_find : Cond.codeWith yL_find cL_find 7 (some .int) [(0, 14, 17, 18), (0, 14, 21, 13)] ∈ wsU := in_t5 (i := 161) rfl rfl
theorem wc_yX9_find : Cond.code yX9_find cX9_find 7 (some .int) ∈ wsU := in_t5 (i := 165) rfl rfl
theorem wc_yX6_foundWay : Cond.code yX6_foundWay cX6_foundWay 2 (some .int) ∈ wsU := in_t5 (i := 170) rfl rfl
theorem wc_yX6_setFound : Cond.code yX6_setFound cX6_setFound 5 none ∈ wsU := in_t5 (i := 174) rfl rfl
theorem wc_yL_reverse : Cond.codeWith yL_reverse cL_reverse 4 (some .int) [(0, 16, 19, 18)] ∈ wsU := in_t5 (i := 177) rfl rfl
theorem wc_yX9_reverse : Cond.code yX9_reverse cX9_reverse 3 (some .boolean) ∈ wsU := in_t5 (i := 181) rfl rfl
theorem wc_yL_tie : Cond.codeWith yL_tie cL_tie 7 (some .int) [(0, 14, 17, 18), (0, 14, 21, 13)] ∈ wsU := in_t5 (i := 184) rfl rfl
theorem wc_yX9_tie : Cond.code yX9_tie cX9_tie 7 (some .int) ∈ wsU := in_t5 (i := 188) rfl rfl
theorem wc_yL_cut : Cond.codeWith yL_cut cL_cut 4 (some .int) [(0, 9, 12, 18)] ∈ wsU := in_t5 (i := 193) rfl rfl
theorem wc_yX9_cut : Cond.code yX9_cut cX9_cut 3 (some .int) ∈ wsU := in_t5 (i := 197) rfl rfl
theorem wc_yL_rule : Cond.codeWith yL_rule cL_rule 5 (some .int) [(0, 10, 13, 18), (0, 10, 17, 13)] ∈ wsU := in_t5 (i := 201) rfl rfl
theorem wc_yX9_rule : Cond.code yX9_rule cX9_rule 4 (some .int) ∈ wsU := in_t5 (i := 205) rfl rfl
theorem wc_yL_ask : Cond.codeWith yL_ask cL_ask 4 (some .int) [(0, 9, 12, 13)] ∈ wsU := in_t5 (i := 212) rfl rfl
theorem wc_yX9_ask : Cond.code yX9_ask cX9_ask 2 (some .int) ∈ wsU := in_t5 (i := 216) rfl rfl
theorem wc_yX2_tabulate : Cond.code yX2_tabulate cX2_tabulate 6 none ∈ wsU := in_t5 (i := 221) rfl rfl
theorem wc_yX1_answer : Cond.code yX1_answer cX1_answer 5 (some .int) ∈ wsU := in_t5 (i := 227) rfl rfl
theorem wc_yX1_anyHolds : Cond.code yX1_anyHolds cX1_anyHolds 4 (some .int) ∈ wsU := in_t5 (i := 238) rfl rfl
theorem wc_yX1_allHold : Cond.code yX1_allHold cX1_allHold 4 (some .int) ∈ wsU := in_t6 (i := 2) rfl rfl
theorem wc_yX1_factHolds : Cond.code yX1_factHolds cX1_factHolds 5 (some .int) ∈ wsU := in_t6 (i := 6) rfl rfl
theorem wc_yX1_compare : Cond.code yX1_compare cX1_compare 6 (some .int) ∈ wsU := in_t6 (i := 12) rfl rfl
theorem wc_yX1_readValue : Cond.code yX1_readValue cX1_readValue 4 none ∈ wsU := in_t6 (i := 16) rfl rfl
theorem wc_yX1_wordNumber : Cond.code yX1_wordNumber cX1_wordNumber 1 (some .int) ∈ wsU := in_t6 (i := 20) rfl rfl
theorem wc_yX10_init : Cond.code yX10_init cX10_init 1 none ∈ wsU := in_t6 (i := 41) rfl rfl
theorem wc_yX10_bare : Cond.code yX10_bare cX10_bare 2 none ∈ wsU := in_t6 (i := 45) rfl rfl
theorem wc_yX10_thrown : Cond.code yX10_thrown cX10_thrown 1 (some .int) ∈ wsU := in_t6 (i := 128) rfl rfl
theorem wc_yX10_count : Cond.code yX10_count cX10_count 2 (some .int) ∈ wsU := in_t6 (i := 132) rfl rfl
theorem wc_yX10_judgedOnes : Cond.code yX10_judgedOnes cX10_judgedOnes 4 (some .int) ∈ wsU := in_t6 (i := 136) rfl rfl
theorem wc_yX10_suits : Cond.code yX10_suits cX10_suits 1 (some .int) ∈ wsU := in_t6 (i := 140) rfl rfl
theorem wc_yX10_isJudged : Cond.code yX10_isJudged cX10_isJudged 2 (some .boolean) ∈ wsU := in_t6 (i := 144) rfl rfl
theorem wc_yX10_of : Cond.code yX10_of cX10_of 3 (some .int) ∈ wsU := in_t6 (i := 148) rfl rfl
theorem wc_yX10_isReversed : Cond.code yX10_isReversed cX10_isReversed 2 (some .boolean) ∈ wsU := in_t6 (i := 152) rfl rfl
theorem wc_yX10_clashes : Cond.code yX10_clashes cX10_clashes 4 (some .int) ∈ wsU := in_t6 (i := 156) rfl rfl
theorem wc_yX10_layBound : Cond.code yX10_layBound cX10_layBound 3 none ∈ wsU := in_t6 (i := 160) rfl rfl
theorem wc_yX10_boundBy : Cond.code yX10_boundBy cX10_boundBy 6 (some .int) ∈ wsU := in_t6 (i := 164) rfl rfl
theorem wc_yX10_links : Cond.code yX10_links cX10_links 1 (some .int) ∈ wsU := in_t6 (i := 168) rfl rfl
theorem wc_yX10_linkOf : Cond.code yX10_linkOf cX10_linkOf 3 (some .int) ∈ wsU := in_t6 (i := 172) rfl rfl
theorem wc_yX10_has : Cond.code yX10_has cX10_has 2 (some .boolean) ∈ wsU := in_t6 (i := 175) rfl rfl
theorem wc_yX10_binds : Cond.code yX10_binds cX10_binds 3 (some .boolean) ∈ wsU := in_t6 (i := 179) rfl rfl
theorem wc_yX10_isIn : Cond.code yX10_isIn cX10_isIn 3 (some .boolean) ∈ wsU := in_t6 (i := 182) rfl rfl
theorem wc_yX10_clashOf : Cond.code yX10_clashOf cX10_clashOf 6 (some .int) ∈ wsU := in_t6 (i := 186) rfl rfl
theorem wc_yX10_settledOf : Cond.code yX10_settledOf cX10_settledOf 2 (some .int) ∈ wsU := in_t6 (i := 190) rfl rfl
theorem wc_yX10_necessaryOf : Cond.code yX10_necessaryOf cX10_necessaryOf 4 (some .int) ∈ wsU := in_t6 (i := 194) rfl rfl
theorem wc_yX10_winsOf : Cond.code yX10_winsOf cX10_winsOf 3 (some .int) ∈ wsU := in_t6 (i := 198) rfl rfl
theorem wc_yX10_isOnMerits : Cond.code yX10_isOnMerits cX10_isOnMerits 2 (some .boolean) ∈ wsU := in_t6 (i := 202) rfl rfl
theorem wc_yX10_groundsOf : Cond.code yX10_groundsOf cX10_groundsOf 2 (some .int) ∈ wsU := in_t6 (i := 206) rfl rfl
theorem wc_yX10_bitsOf : Cond.code yX10_bitsOf cX10_bitsOf 3 (some .int) ∈ wsU := in_t6 (i := 209) rfl rfl
theorem wc_yX10_fail : Cond.code yX10_fail cX10_fail 2 (some .int) ∈ wsU := in_t6 (i := 213) rfl rfl
theorem wc_yX10_letter : Cond.code yX10_letter cX10_letter 3 (some .int) ∈ wsU := in_t6 (i := 217) rfl rfl
theorem wc_yX10_isPerson : Cond.code yX10_isPerson cX10_isPerson 2 (some .boolean) ∈ wsU := in_t6 (i := 221) rfl rfl
theorem wc_yX10_persons : Cond.code yX10_persons cX10_persons 1 (some .int) ∈ wsU := in_t6 (i := 225) rfl rfl
theorem wc_yX10_link : Cond.code yX10_link cX10_link 3 (some .int) ∈ wsU := in_t6 (i := 229) rfl rfl
theorem wc_yX10_suit : Cond.code yX10_suit cX10_suit 3 (some .int) ∈ wsU := in_t6 (i := 233) rfl rfl
theorem wc_yX10_isSuit : Cond.code yX10_isSuit cX10_isSuit 2 (some .boolean) ∈ wsU := in_t6 (i := 237) rfl rfl
theorem wc_yX10_isBound : Cond.code yX10_isBound cX10_isBound 4 (some .boolean) ∈ wsU := in_t7 (i := 1) rfl rfl
theorem wc_yX10_chain : Cond.code yX10_chain cX10_chain 8 (some .int) ∈ wsU := in_t7 (i := 5) rfl rfl
theorem wc_yX10_layAway : Cond.code yX10_layAway cX10_layAway 6 none ∈ wsU := in_t7 (i := 9) rfl rfl
theorem wc_yX10_nearer : Cond.code yX10_nearer cX10_nearer 4 (some .int) ∈ wsU := in_t7 (i := 13) rfl rfl
theorem wc_yX10_two : Cond.code yX10_two cX10_two 4 (some .int) ∈ wsU := in_t7 (i := 17) rfl rfl
theorem wc_yX10_areSame : Cond.code yX10_areSame cX10_areSame 5 (some .boolean) ∈ wsU := in_t7 (i := 21) rfl rfl
theorem wc_yX10_isBarredBy : Cond.code yX10_isBarredBy cX10_isBarredBy 5 (some .boolean) ∈ wsU := in_t7 (i := 26) rfl rfl
theorem wc_yX10_comesBehind : Cond.code yX10_comesBehind cX10_comesBehind 3 (some .boolean) ∈ wsU := in_t7 (i := 30) rfl rfl
theorem wc_yX10_isBoundBy : Cond.code yX10_isBoundBy cX10_isBoundBy 4 (some .boolean) ∈ wsU := in_t7 (i := 34) rfl rfl
theorem wc_yX10_standsOn : Cond.code yX10_standsOn cX10_standsOn 5 (some .boolean) ∈ wsU := in_t7 (i := 38) rfl rfl
theorem wc_yX10_holderOf : Cond.code yX10_holderOf cX10_holderOf 5 (some .int) ∈ wsU := in_t7 (i := 42) rfl rfl
theorem wc_yX10_holds : Cond.code yX10_holds cX10_holds 7 (some .boolean) ∈ wsU := in_t7 (i := 46) rfl rfl
theorem wc_yX10_foundYes : Cond.code yX10_foundYes cX10_foundYes 3 (some .boolean) ∈ wsU := in_t7 (i := 50) rfl rfl
theorem wc_yX10_isBoundAtAll : Cond.code yX10_isBoundAtAll cX10_isBoundAtAll 3 (some .boolean) ∈ wsU := in_t7 (i := 54) rfl rfl
theorem wc_yX10_barred : Cond.code yX10_barred cX10_barred 2 (some .int) ∈ wsU := in_t7 (i := 58) rfl rfl
theorem wc_yX10_barsOf : Cond.code yX10_barsOf cX10_barsOf 4 (some .int) ∈ wsU := in_t7 (i := 62) rfl rfl
theorem wc_yX10_held : Cond.code yX10_held cX10_held 5 (some .int) ∈ wsU := in_t7 (i := 66) rfl rfl
theorem wc_yX10_issuesOf : Cond.code yX10_issuesOf cX10_issuesOf 2 (some .int) ∈ wsU := in_t7 (i := 70) rfl rfl
theorem wc_yX10_holdersOf : Cond.code yX10_holdersOf cX10_holdersOf 5 (some .int) ∈ wsU := in_t7 (i := 74) rfl rfl
theorem wc_yX10_issues : Cond.code yX10_issues cX10_issues 4 (some .int) ∈ wsU := in_t7 (i := 78) rfl rfl
theorem wc_yX10_heldOf : Cond.code yX10_heldOf cX10_heldOf 4 (some .int) ∈ wsU := in_t7 (i := 82) rfl rfl
theorem wc_yX10_forced : Cond.code yX10_forced cX10_forced 2 (some .int) ∈ wsU := in_t7 (i := 86) rfl rfl
theorem wc_yX10_forcedOf : Cond.code yX10_forcedOf cX10_forcedOf 5 (some .int) ∈ wsU := in_t7 (i := 90) rfl rfl
theorem wc_yX10_heldYesOf : Cond.code yX10_heldYesOf cX10_heldYesOf 5 (some .int) ∈ wsU := in_t7 (i := 94) rfl rfl
theorem wc_yX10_latest : Cond.code yX10_latest cX10_latest 4 (some .int) ∈ wsU := in_t7 (i := 98) rfl rfl
theorem wc_yX10_against : Cond.code yX10_against cX10_against 4 (some .int) ∈ wsU := in_t7 (i := 102) rfl rfl
theorem wc_yX10_goes : Cond.code yX10_goes cX10_goes 4 (some .int) ∈ wsU := in_t7 (i := 106) rfl rfl
theorem wc_yX10_standing : Cond.code yX10_standing cX10_standing 4 (some .int) ∈ wsU := in_t7 (i := 110) rfl rfl
theorem wc_yX10_allStanding : Cond.code yX10_allStanding cX10_allStanding 5 (some .int) ∈ wsU := in_t7 (i := 114) rfl rfl
theorem wc_yX10_layThen : Cond.code yX10_layThen cX10_layThen 2 none ∈ wsU := in_t7 (i := 118) rfl rfl
theorem wc_yX10_put : Cond.code yX10_put cX10_put 4 none ∈ wsU := in_t7 (i := 122) rfl rfl
theorem wc_yX10_changed : Cond.code yX10_changed cX10_changed 5 (some .int) ∈ wsU := in_t7 (i := 126) rfl rfl
theorem wc_yX10_would : Cond.code yX10_would cX10_would 13 (some .int) ∈ wsU := in_t7 (i := 130) rfl rfl
theorem wc_yX10_lay : Cond.code yX10_lay cX10_lay 8 none ∈ wsU := in_t7 (i := 134) rfl rfl
theorem wc_yX10_freeTill : Cond.code yX10_freeTill cX10_freeTill 5 (some .int) ∈ wsU := in_t7 (i := 138) rfl rfl
theorem wc_yX10_say : Cond.code yX10_say cX10_say 5 (some .int) ∈ wsU := in_t7 (i := 142) rfl rfl
theorem wc_yX10_writes : Cond.code yX10_writes cX10_writes 2 none ∈ wsU := in_t7 (i := 146) rfl rfl
theorem wc_yX10_writesNumber : Cond.code yX10_writesNumber cX10_writesNumber 2 none ∈ wsU := in_t7 (i := 150) rfl rfl
theorem wc_yX10_said : Cond.code yX10_said cX10_said 2 (some .int) ∈ wsU := in_t7 (i := 154) rfl rfl
theorem wc_yX10_judge : Cond.code yX10_judge cX10_judge 4 (some .boolean) ∈ wsU := in_t7 (i := 158) rfl rfl
theorem wc_yX10_keep : Cond.code yX10_keep cX10_keep 2 none ∈ wsU := in_t7 (i := 162) rfl rfl
theorem wc_yX10_find : Cond.code yX10_find cX10_find 7 (some .int) ∈ wsU := in_t7 (i := 166) rfl rfl
theorem wc_yX10_sets : Cond.code yX10_sets cX10_sets 6 none ∈ wsU := in_t7 (i := 170) rfl rfl
theorem wc_yX10_reverse : Cond.code yX10_reverse cX10_reverse 2 (some .boolean) ∈ wsU := in_t7 (i := 174) rfl rfl
theorem wc_yX10_tie : Cond.code yX10_tie cX10_tie 7 (some .int) ∈ wsU := in_t7 (i := 178) rfl rfl
theorem wc_yX10_layLink : Cond.code yX10_layLink cX10_layLink 8 none ∈ wsU := in_t7 (i := 181) rfl rfl
theorem wc_yX10_cut : Cond.code yX10_cut cX10_cut 3 (some .int) ∈ wsU := in_t7 (i := 185) rfl rfl
theorem wc_yX10_rule : Cond.code yX10_rule cX10_rule 4 (some .int) ∈ wsU := in_t7 (i := 189) rfl rfl
theorem wc_yX10_isRule : Cond.code yX10_isRule cX10_isRule 2 (some .boolean) ∈ wsU := in_t7 (i := 192) rfl rfl
theorem wc_yX10_undo : Cond.code yX10_undo cX10_undo 2 (some .int) ∈ wsU := in_t7 (i := 196) rfl rfl
theorem wc_yX10_image : Cond.code yX10_image cX10_image 1 none ∈ wsU := in_t7 (i := 200) rfl rfl
theorem wc_yX10_copy : Cond.code yX10_copy cX10_copy 3 none ∈ wsU := in_t7 (i := 203) rfl rfl
theorem wc_yX10_back : Cond.code yX10_back cX10_back 1 (some .boolean) ∈ wsU := in_t7 (i := 207) rfl rfl
theorem wc_yX10_feed : Cond.code yX10_feed cX10_feed 8 (some .int) ∈ wsU := in_t7 (i := 211) rfl rfl
theorem wc_yX10_fault : Cond.code yX10_fault cX10_fault 1 (some .int) ∈ wsU := in_t7 (i := 215) rfl rfl
theorem wc_yX10_desk : Cond.code yX10_desk cX10_desk 3 (some .int) ∈ wsU := in_t7 (i := 219) rfl rfl
theorem wc_yX10_opens : Cond.code yX10_opens cX10_opens 2 none ∈ wsU := in_t7 (i := 223) rfl rfl
theorem wc_yX10_step : Cond.code yX10_step cX10_step 2 none ∈ wsU := in_t7 (i := 227) rfl rfl
theorem wc_yX10_byteAt : Cond.code yX10_byteAt cX10_byteAt 2 (some .int) ∈ wsU := in_t7 (i := 231) rfl rfl
theorem wc_yX10_isSmall : Cond.code yX10_isSmall cX10_isSmall 1 (some .boolean) ∈ wsU := in_t7 (i := 234) rfl rfl
theorem wc_yX10_isFigure : Cond.code yX10_isFigure cX10_isFigure 1 (some .boolean) ∈ wsU := in_t7 (i := 237) rfl rfl
theorem wc_yX10_readLine : Cond.code yX10_readLine cX10_readLine 1 none ∈ wsU := in_t8 (i := 1) rfl rfl
theorem wc_yX10_isWord : Cond.code yX10_isWord cX10_isWord 4 (some .boolean) ∈ wsU := in_t8 (i := 6) rfl rfl
theorem wc_yX10_readPerson : Cond.code yX10_readPerson cX10_readPerson 2 none ∈ wsU := in_t8 (i := 12) rfl rfl
theorem wc_yX10_wrong : Cond.code yX10_wrong cX10_wrong 2 none ∈ wsU := in_t8 (i := 16) rfl rfl
theorem wc_yX10_pass : Cond.code yX10_pass cX10_pass 1 none ∈ wsU := in_t8 (i := 20) rfl rfl
theorem wc_yX10_isName : Cond.code yX10_isName cX10_isName 1 (some .boolean) ∈ wsU := in_t8 (i := 24) rfl rfl
theorem wc_yX10_named : Cond.code yX10_named cX10_named 4 (some .int) ∈ wsU := in_t8 (i := 28) rfl rfl
theorem wc_yX10_letterHere : Cond.code yX10_letterHere cX10_letterHere 2 (some .int) ∈ wsU := in_t8 (i := 32) rfl rfl
theorem wc_yX10_readLink : Cond.code yX10_readLink cX10_readLink 6 none ∈ wsU := in_t8 (i := 37) rfl rfl
theorem wc_yX10_readKnown : Cond.code yX10_readKnown cX10_readKnown 3 (some .int) ∈ wsU := in_t8 (i := 41) rfl rfl
theorem wc_yX10_number : Cond.code yX10_number cX10_number 4 (some .int) ∈ wsU := in_t8 (i := 45) rfl rfl
theorem wc_yX10_numberHere : Cond.code yX10_numberHere cX10_numberHere 5 (some .int) ∈ wsU := in_t8 (i := 49) rfl rfl
theorem wc_yX10_readSuit : Cond.code yX10_readSuit cX10_readSuit 10 none ∈ wsU := in_t8 (i := 56) rfl rfl
theorem wc_yX10_readSet : Cond.code yX10_readSet cX10_readSet 5 (some .int) ∈ wsU := in_t8 (i := 62) rfl rfl
theorem wc_yX10_readJudged : Cond.code yX10_readJudged cX10_readJudged 9 none ∈ wsU := in_t8 (i := 69) rfl rfl
theorem wc_yX10_toldOf : Cond.code yX10_toldOf cX10_toldOf 3 (some .int) ∈ wsU := in_t8 (i := 73) rfl rfl
theorem wc_yX10_readReversed : Cond.code yX10_readReversed cX10_readReversed 2 none ∈ wsU := in_t8 (i := 83) rfl rfl
theorem wc_yX10_readRule : Cond.code yX10_readRule cX10_readRule 4 none ∈ wsU := in_t8 (i := 88) rfl rfl
theorem wc_yX10_must : Cond.code yX10_must cX10_must 2 none ∈ wsU := in_t8 (i := 94) rfl rfl
theorem wc_yX10_isSign : Cond.code yX10_isSign cX10_isSign 2 (some .boolean) ∈ wsU := in_t8 (i := 98) rfl rfl
theorem wc_yX10_ends : Cond.code yX10_ends cX10_ends 1 (some .int) ∈ wsU := in_t8 (i := 102) rfl rfl
theorem wc_yX10_ask : Cond.code yX10_ask cX10_ask 7 (some .int) ∈ wsU := in_t8 (i := 106) rfl rfl
theorem wc_yX10_readQuestion : Cond.code yX10_readQuestion cX10_readQuestion 4 (some .boolean) ∈ wsU := in_t8 (i := 111) rfl rfl
theorem wc_yX10_readTest : Cond.code yX10_readTest cX10_readTest 3 (some .boolean) ∈ wsU := in_t8 (i := 116) rfl rfl
theorem wc_yX10_readBoth : Cond.code yX10_readBoth cX10_readBoth 3 (some .boolean) ∈ wsU := in_t8 (i := 120) rfl rfl
theorem wc_yX10_readFact : Cond.code yX10_readFact cX10_readFact 4 (some .boolean) ∈ wsU := in_t8 (i := 124) rfl rfl
theorem wc_yX10_goesIn : Cond.code yX10_goesIn cX10_goesIn 1 none ∈ wsU := in_t8 (i := 129) rfl rfl
theorem wc_yX10_readValue : Cond.code yX10_readValue cX10_readValue 2 (some .int) ∈ wsU := in_t8 (i := 133) rfl rfl
theorem wc_yX10_wordHere : Cond.code yX10_wordHere cX10_wordHere 1 (some .int) ∈ wsU := in_t8 (i := 137) rfl rfl
theorem wc_yX10_valueOf : Cond.code yX10_valueOf cX10_valueOf 3 (some .int) ∈ wsU := in_t8 (i := 150) rfl rfl
theorem wc_objectInit : Cond.code objectInit ⟨#[0xb1]⟩ 1 none ∈ wsU := in_t1 (i := 32) rfl rfl
theorem wc_mathMin : Cond.code Lib.Math.min.name Lib.Math.min.code 2 (some .int) ∈ wsU := in_t3 (i := 108) rfl rfl
theorem inU0 : ∀ w ∈ u_ws RX0 TX0 2, w ∈ wsU := by
  intro w h
  obtain ⟨k, hk, rfl⟩ := List.mem_map.mp h
  have hk := List.mem_range.mp hk
  match k, hk with
  | 0, _ => exact wl_0_0
  | 1, _ => exact wl_0_1
theorem inU1 : ∀ w ∈ u_ws RX1 TX1 5, w ∈ wsU := by
  intro w h
  obtain ⟨k, hk, rfl⟩ := List.mem_map.mp h
  have hk := List.mem_range.mp hk
  match k, hk with
  | 0, _ => exact wl_1_0
  | 1, _ => exact wl_1_1
  | 2, _ => exact wl_1_2
  | 3, _ => exact wl_1_3
  | 4, _ => exact wl_1_4
theorem inU2 : ∀ w ∈ u_ws RX2 TX2 8, w ∈ wsU := by
  intro w h
  obtain ⟨k, hk, rfl⟩ := List.mem_map.mp h
  have hk := List.mem_range.mp hk
  match k, hk with
  | 0, _ => exact wl_2_0
  | 1, _ => exact wl_2_1
  | 2, _ => exact wl_2_2
  | 3, _ => exact wl_2_3
  | 4, _ => exact wl_2_4
  | 5, _ => exact wl_2_5
  | 6, _ => exact wl_2_6
  | 7, _ => exact wl_2_7
theorem inU3 : ∀ w ∈ u_ws RX3 TX3 4, w ∈ wsU := by
  intro w h
  obtain ⟨k, hk, rfl⟩ := List.mem_map.mp h
  have hk := List.mem_range.mp hk
  match k, hk with
  | 0, _ => exact wl_3_0
  | 1, _ => exact wl_3_1
  | 2, _ => exact wl_3_2
  | 3, _ => exact wl_3_3
theorem inU4 : ∀ w ∈ u_ws RX4 TX4 7, w ∈ wsU := by
  intro w h
  obtain ⟨k, hk, rfl⟩ := List.mem_map.mp h
  have hk := List.mem_range.mp hk
  match k, hk with
  | 0, _ => exact wl_4_0
  | 1, _ => exact wl_4_1
  | 2, _ => exact wl_4_2
  | 3, _ => exact wl_4_3
  | 4, _ => exact wl_4_4
  | 5, _ => exact wl_4_5
  | 6, _ => exact wl_4_6
theorem inU5 : ∀ w ∈ u_ws RX5 TX5 2, w ∈ wsU := by
  intro w h
  obtain ⟨k, hk, rfl⟩ := List.mem_map.mp h
  have hk := List.mem_range.mp hk
  match k, hk with
  | 0, _ => exact wl_5_0
  | 1, _ => exact wl_5_1
theorem inU6 : ∀ w ∈ u_ws RX6 TX6 17, w ∈ wsU := by
  intro w h
  obtain ⟨k, hk, rfl⟩ := List.mem_map.mp h
  have hk := List.mem_range.mp hk
  match k, hk with
  | 0, _ => exact wl_6_0
  | 1, _ => exact wl_6_1
  | 2, _ => exact wl_6_2
  | 3, _ => exact wl_6_3
  | 4, _ => exact wl_6_4
  | 5, _ => exact wl_6_5
  | 6, _ => exact wl_6_6
  | 7, _ => exact wl_6_7
  | 8, _ => exact wl_6_8
  | 9, _ => exact wl_6_9
  | 10, _ => exact wl_6_10
  | 11, _ => exact wl_6_11
  | 12, _ => exact wl_6_12
  | 13, _ => exact wl_6_13
  | 14, _ => exact wl_6_14
  | 15, _ => exact wl_6_15
  | 16, _ => exact wl_6_16
  | k + 17, hk => exact absurd hk (by omega)
theorem inU7 : ∀ w ∈ u_ws RX7 TX7 9, w ∈ wsU := by
  intro w h
  obtain ⟨k, hk, rfl⟩ := List.mem_map.mp h
  have hk := List.mem_range.mp hk
  match k, hk with
  | 0, _ => exact wl_7_0
  | 1, _ => exact wl_7_1
  | 2, _ => exact wl_7_2
  | 3, _ => exact wl_7_3
  | 4, _ => exact wl_7_4
  | 5, _ => exact wl_7_5
  | 6, _ => exact wl_7_6
  | 7, _ => exact wl_7_7
  | 8, _ => exact wl_7_8
theorem inU8 : ∀ w ∈ u_ws RX8 TX8 2, w ∈ wsU := by
  intro w h
  obtain ⟨k, hk, rfl⟩ := List.mem_map.mp h
  have hk := List.mem_range.mp hk
  match k, hk with
  | 0, _ => exact wl_8_0
  | 1, _ => exact wl_8_1
theorem inU9 : ∀ w ∈ u_ws RX9 TX9 11, w ∈ wsU := by
  intro w h
  obtain ⟨k, hk, rfl⟩ := List.mem_map.mp h
  have hk := List.mem_range.mp hk
  match k, hk with
  | 0, _ => exact wl_9_0
  | 1, _ => exact wl_9_1
  | 2, _ => exact wl_9_2
  | 3, _ => exact wl_9_3
  | 4, _ => exact wl_9_4
  | 5, _ => exact wl_9_5
  | 6, _ => exact wl_9_6
  | 7, _ => exact wl_9_7
  | 8, _ => exact wl_9_8
  | 9, _ => exact wl_9_9
  | 10, _ => exact wl_9_10
theorem inU10 : ∀ w ∈ u_ws RX10 TX10 26, w ∈ wsU := by
  intro w h
  obtain ⟨k, hk, rfl⟩ := List.mem_map.mp h
  have hk := List.mem_range.mp hk
  match k, hk with
  | 0, _ => exact wl_10_0
  | 1, _ => exact wl_10_1
  | 2, _ => exact wl_10_2
  | 3, _ => exact wl_10_3
  | 4, _ => exact wl_10_4
  | 5, _ => exact wl_10_5
  | 6, _ => exact wl_10_6
  | 7, _ => exact wl_10_7
  | 8, _ => exact wl_10_8
  | 9, _ => exact wl_10_9
  | 10, _ => exact wl_10_10
  | 11, _ => exact wl_10_11
  | 12, _ => exact wl_10_12
  | 13, _ => exact wl_10_13
  | 14, _ => exact wl_10_14
  | 15, _ => exact wl_10_15
  | 16, _ => exact wl_10_16
  | 17, _ => exact wl_10_17
  | 18, _ => exact wl_10_18
  | 19, _ => exact wl_10_19
  | 20, _ => exact wl_10_20
  | 21, _ => exact wl_10_21
  | 22, _ => exact wl_10_22
  | 23, _ => exact wl_10_23
  | 24, _ => exact wl_10_24
  | 25, _ => exact wl_10_25
  | k + 26, hk => exact absurd hk (by omega)
def fw_nS : Nat := 31
def fw_len : List Nat := [3, 6, 4, 3, 9, 4, 5, 5, 5, 6, 4, 4, 4, 6, 4, 6, 6, 5, 2, 3, 4, 2, 6, 9, 8, 5, 5, 4, 7, 4, 3]
def fw_byt : List (List Int32) := [[97, 110, 100], [98, 97, 114, 114, 101, 100], [98, 117, 116, 115], [100, 97, 121], [100, 101, 102, 101, 110, 100, 97, 110, 116], [101, 97, 99, 104], [102, 97, 99, 116, 115], [102, 105, 108, 101, 100], [102, 105, 114, 115, 116], [102, 111, 114, 99, 101, 100], [102, 111, 114, 109], [104, 101, 105, 114], [104, 101, 108, 100], [106, 117, 100, 103, 101, 100], [109, 97, 110, 121], [109, 101, 114, 105, 116, 115], [109, 117, 116, 117, 97, 108], [110, 101, 101, 100, 115], [110, 111], [110, 111, 116], [111, 112, 101, 110], [111, 114], [112, 101, 114, 115, 111, 110], [112, 108, 97, 105, 110, 116, 105, 102, 102], [114, 101, 118, 101, 114, 115, 101, 100], [114, 117, 108, 101, 114], [115, 104, 97, 114, 101], [115, 117, 105, 116], [117, 110, 116, 114, 105, 101, 100], [119, 105, 110, 115], [121, 101, 115]]
def fw_str : List (String × Nat × String × Nat) := [(RX9, 94, "the tape has not so many bytes", 55), (RX8, 44, "person", 22), (RX7, 65, "person", 22), (RX8, 53, "heir", 11), (RX8, 59, "ruler", 25), (RX8, 61, "suit", 27), (RX8, 146, "facts", 6), (RX8, 155, "needs", 17), (RX8, 159, "buts", 2), (RX8, 66, "judged", 13), (RX8, 167, "merits", 15), (RX8, 169, "form", 10), (RX8, 171, "yes", 30), (RX8, 178, "no", 18), (RX8, 182, "untried", 28), (RX8, 71, "reversed", 24), (RX8, 76, "share", 26), (RX8, 81, "mutual", 16), (RX8, 83, "each", 5), (RX9, 139, "no such count", 35), (RX9, 423, "no such person", 42), (RX9, 145, "no such letter", 39), (RX9, 429, "no such link", 40), (RX9, 175, "no such thing of a link", 47), (RX9, 417, "no such suit", 46), (RX9, 230, "no such thing of a suit", 48), (RX9, 427, "no such side", 45), (RX9, 242, "no such link of the chain", 41), (RX9, 269, "no such thing of two suits", 50), (RX9, 431, "the suit has not that issue", 54), (RX9, 275, "no such thing of an issue", 49), (RX9, 291, "no such issues", 38), (RX9, 321, "no such thing that goes", 51), (RX9, 335, "no such persons, or no such answer", 43), (RX9, 425, "both persons are one", 33), (RX9, 345, "sets or day out of bounds", 52), (RX9, 350, "no such issue", 37), (RX9, 355, "a judgment's day is that of the filing or later", 31), (RX9, 371, "an issue is found yes, no, or not", 32), (RX9, 380, "no such days", 36), (RX9, 389, "no such rule", 44), (RX9, 397, "the rule can't be so", 53), (RX9, 402, "no question of so many bytes", 34), (RX1, 41, "many", 14), (RX1, 47, "first", 8), (RX1, 84, "not", 19), (RX1, 108, "suit", 27), (RX1, 110, "plaintiff", 23), (RX1, 112, "defendant", 4), (RX1, 114, "filed", 7), (RX1, 116, "day", 3), (RX1, 118, "wins", 29), (RX1, 120, "barred", 1), (RX1, 122, "held", 12), (RX1, 124, "open", 20), (RX1, 125, "forced", 9), (RX1, 82, "and", 0), (RX1, 77, "or", 21), (RX10, 306, "person", 22), (RX10, 357, "heir", 11), (RX10, 363, "ruler", 25), (RX10, 365, "suit", 27), (RX10, 331, "facts", 6), (RX10, 337, "needs", 17), (RX10, 339, "buts", 2), (RX10, 370, "judged", 13), (RX10, 344, "merits", 15), (RX10, 346, "form", 10), (RX10, 348, "yes", 30), (RX10, 350, "no", 18), (RX10, 352, "untried", 28), (RX10, 375, "reversed", 24), (RX10, 380, "share", 26), (RX10, 385, "mutual", 16), (RX10, 387, "each", 5), (RX10, 450, "first", 8), (RX10, 448, "many", 14), (RX10, 427, "not", 19), (RX10, 410, "plaintiff", 23), (RX10, 412, "defendant", 4), (RX10, 414, "filed", 7), (RX10, 416, "day", 3), (RX10, 418, "wins", 29), (RX10, 420, "barred", 1), (RX10, 422, "held", 12), (RX10, 424, "open", 20), (RX10, 425, "forced", 9), (RX10, 441, "and", 0), (RX10, 446, "or", 21)]
def fw_nest : List (String × Nat × MethodName × String) := [(RX9, 11, yX7_init, RX9), (RX4, 33, yX3_init, RX9), (RX9, 60, yX0_init, RX9), (RX9, 67, yX5_init, RX9), (RX1, 71, yX9_lowestBit, RX9)]
